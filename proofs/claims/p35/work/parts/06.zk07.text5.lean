/-! TEXTS: which rows are texts, by the class -/
def fitB (n : Nat) (k a : Int) (b : Bool) : Bool :=
  if a = 10 then decide (k = 0 ∨ k = 7)
  else if k = 5 then decide (a = 2 ∨ a = 4)
  else if k = 6 then decide (a = 2)
  else if k = 7 then decide (a ≠ -1)
  else if k = 13 then decide (a = -1)
  else if k = 12 then decide (n = 1)
  else !(decide (a = 2 ∨ a = 4) && b)
def aft (k : Int) (st : List Int) : List Int := if opB k = true then k :: st else if k = 7 then st.tail else st
def chk (g : Nat → Int) (n : Nat) : Nat → List Int → Nat → Bool
  | _, st, 0 => st.isEmpty
  | i, st, m + 1 => fitB n (g i / 1000) (st.headD (-1)) (decide (0 < i) && opB (g (i - 1) / 1000)) && chk g n (i + 1) (aft (g i / 1000) st) m
def isTx (g : Nat → Int) (n : Nat) : Bool := decide (1 ≤ n ∧ n ≤ 30) && chk g n 0 [] n
theorem chk_congr {g f : Nat → Int} {n : Nat} : ∀ m i st, i + m ≤ n → (∀ k, k < n → g k = f k) → chk g n i st m = chk f n i st m := by
  intro m
  induction m with
  | zero => intro i st _ _; rfl
  | succ m ih =>
    intro i st hi h
    unfold chk
    rw [h i (by omega), ih (i + 1) _ (by omega) h]
    rcases Nat.eq_zero_or_pos i with z | z
    · subst z; rfl
    · rw [h (i - 1) (by omega)]
theorem isTx_congr {g f : Nat → Int} {n : Nat} (h : ∀ k, k < n → g k = f k) : isTx g n = isTx f n := by
  unfold isTx
  rw [chk_congr n 0 [] (by omega) h]
theorem opB_cases {k : Int} (h : opB k = true) : k = 2 ∨ k = 3 ∨ k = 4 ∨ k = 8 ∨ k = 9 ∨ k = 10 := of_decide_eq_true h
section TX5
variable {C : Cd} {a b cap capb n m : Nat} {g f : Nat → Int}
theorem X8_fits_ (h : TxV C a cap g n) {k ar : Int} (k1 : 0 ≤ k) (k2 : k < 14) (har : ar = -1 ∨ opB ar = true) (bb : Bool) : fX8_fits a k ar (if bb = true then 1 else 0) C = some (if fitB n k ar bb = true then 1 else 0, C) := by
  have hO := h.isO_
  have hz := h.sz
  have hn := h.n90
  have h3 : k = 0 ∨ k = 1 ∨ k = 2 ∨ k = 3 ∨ k = 4 ∨ k = 5 ∨ k = 6 ∨ k = 7 ∨ k = 8 ∨ k = 9 ∨ k = 10 ∨ k = 11 ∨ k = 13 ∨ k = 12 := by omega
  have h4 : ar = -1 ∨ ar = 2 ∨ ar = 3 ∨ ar = 4 ∨ ar = 8 ∨ ar = 9 ∨ ar = 10 := by
    rcases har with q | q
    · exact Or.inl q
    · exact Or.inr (opB_cases q)
  rcases h3 with e | e | e | e | e | e | e | e | e | e | e | e | e | e
  case inr.inr.inr.inr.inr.inr.inr.inr.inr.inr.inr.inr.inr =>
    subst e
    by_cases c : n = 1
    · subst c
      unfold fX8_fits
      rcases h4 with e | e | e | e | e | e | e <;> subst e <;> cases bb <;> simp (disch := omega) only [isO, ↓bnd_eq, ↓reduceIte, ↓drf_some, ↓cal_some, ↓calx_inl, ↓calx_inr, ↓opt_some, ↓opt_none, w32_of, ix_of, inR, le_t, le_f, lt_t, lt_f, eq_t, eq_f, and_self, true_and, and_true, false_and, and_false, not_true_eq_false, not_false_eq_true, or_true, true_or, or_false, false_or, Bool.false_eq_true, hO, hz, retZ, fitB, decide_true] <;> rfl
    · have c2 : ¬ (n : Int) = 1 := by omega
      unfold fX8_fits
      rcases h4 with e | e | e | e | e | e | e <;> subst e <;> cases bb <;> simp (disch := omega) only [isO, ↓bnd_eq, ↓reduceIte, ↓drf_some, ↓cal_some, ↓calx_inl, ↓calx_inr, ↓opt_some, ↓opt_none, w32_of, ix_of, inR, le_t, le_f, lt_t, lt_f, eq_t, eq_f, and_self, true_and, and_true, false_and, and_false, not_true_eq_false, not_false_eq_true, or_true, true_or, or_false, false_or, Bool.false_eq_true, hO, hz, retZ, fitB, c, c2, decide_false] <;> rfl
  all_goals
    subst e
    rcases h4 with e | e | e | e | e | e | e <;> subst e <;> cases bb <;> rfl
/-- the row of what is around holds a stack -/
def Ara (r : Nat → Int) : List Int → Prop
  | [] => r 0 = -1
  | k :: st => r (st.length + 1) = k ∧ Ara r st
theorem Ara.head {r : Nat → Int} {st : List Int} (h : Ara r st) : r st.length = st.headD (-1) := by
  cases st with
  | nil => exact h
  | cons k st => exact h.1
theorem Ara.keep {r r' : Nat → Int} : ∀ {st : List Int}, Ara r st → (∀ j, j ≤ st.length → r' j = r j) → Ara r' st := by
  intro st
  induction st with
  | nil => intro h q; exact (q 0 (Nat.le_refl _)).trans h
  | cons k st ih =>
    intro h q
    exact ⟨(q _ (Nat.le_refl _)).trans h.1, ih h.2 (fun j hj => q j (Nat.le_succ_of_le hj))⟩
theorem Ara.tail {r : Nat → Int} {st : List Int} (h : Ara r st) : Ara r st.tail := by
  cases st with
  | nil => exact h
  | cons k st => exact h.2
theorem len_tail_lt {st : List Int} (h : 0 < st.length) : (((st.length : Nat) : Int) + -1) = ((st.tail.length : Nat) : Int) := by
  cases st with
  | nil => exact absurd h (Nat.lt_irrefl _)
  | cons k st =>
    show (((st.length + 1 : Nat)) : Int) + -1 = (st.length : Int)
    omega
theorem all_tail {st : List Int} {P : Int → Prop} (h : ∀ x ∈ st, P x) : ∀ x ∈ st.tail, P x := fun x hx => h x (List.mem_of_mem_tail hx)
theorem head_op {st : List Int} (h : ∀ x ∈ st, opB x = true) : st.headD (-1) = -1 ∨ opB (st.headD (-1)) = true := by
  cases st with
  | nil => exact Or.inl rfl
  | cons k st => exact Or.inr (h k (List.mem_cons_self))
theorem X8_isText_loop {C0 : Cd} {z : Nat} (hn1 : 1 ≤ n) (hn30 : n ≤ 30) (hza : z ≠ a) (hza1 : z ≠ a + 1) (hz : isO C0 z 100 ∧ cn C0 z = 31) (hw : Wf C0) (h0 : TxV C0 a cap g n) (hr : Ara (cE C0 z) []) {L0 : Int → Int → Cd → Option (Int × Cd)}
   (hL0 : L0 = lpn (fun (_ : Int) (_ : Int) (_ : Cd) => (none : Option (Int × Cd))) (fun L32 (v2_32 : Int) (v3_32 : Int) (C_32 : Cd) =>
if isO C_32 a 11 then
if w32 (cI C_32 1102 a) ≤ w32 v3_32 then
bnd (fun (t0_141 : Int) (C_141 : Cd) =>
retZ t0_141 C_141) fun J141 =>
if ¬ w32 v2_32 = 0 then
J141 0 C_32
else
J141 1 C_32
else
if isO C_32 a 11 then cal (fX8_kindAt a v3_32 C_32) fun (r4 : Int) (C3 : Cd) =>
bnd (fun (t0_69 : Int) (C_69 : Cd) =>
if isO C_69 z 100 ∧ inR v2_32 (cn C_69 z) then
if isO C_69 a 11 then cal (fX8_fits a r4 (cE C_69 z (ix v2_32)) t0_69 C_69) fun (r6 : Int) (C5 : Cd) =>
if ¬ w32 r6 = 0 then
cal (fX8_opens r4 C5) fun (r8 : Int) (C7 : Cd) =>
bnd (fun (v2_126 : Int) (C_126 : Cd) =>
L32 v2_126 (v3_32 + 1) C_126) fun J126 =>
bnd (fun  (C_112 : Cd) =>
if ¬ w32 r4 = w32 7 then
J126 v2_32 C_112
else
if w32 v2_32 ≤ 0 then
J126 v2_32 C_112
else
J126 (v2_32 + (-1)) C_112) fun J112 =>
if w32 r8 = 0 then
J112 C7
else
if w32 30 ≤ w32 v2_32 then
J112 C7
else
if isO C7 z 100 ∧ inR (v2_32 + 1) (cn C7 z) then bnd (cSetE C7 z (ix (v2_32 + 1)) r4) fun (C9 : Cd) =>
J126 (v2_32 + 1) C9
else none
else
some (0, C5)
else none
else none) fun J69 =>
bnd (fun  (C_68 : Cd) =>
J69 0 C_68) fun J68 =>
if w32 v3_32 ≤ 0 then
J68 C3
else
if isO C3 a 11 then cal (fX8_kindAt a (v3_32 - 1) C3) fun (r11 : Int) (C10 : Cd) =>
cal (fX8_opens r11 C10) fun (r13 : Int) (C12 : Cd) =>
if w32 r13 = 0 then
J68 C12
else
J69 1 C12
else none
else none
else none) FU) :
   ∃ C', L0 0 0 C0 = some (if chk g n 0 [] n = true then 1 else 0, C') ∧ Kp (fun q => q = z) C0 C' ∧ csz C' = csz C0 ∧ csl C' = csl C0 := by
  rw [hL0]
  refine (lpn_rule (P := fun mm (L : Int → Int → Cd → Option (Int × Cd)) => ∀ (i : Nat) (st : List Int) (C1 : Cd), i ≤ n → n - i < mm → st.length ≤ i → (∀ x ∈ st, opB x = true) → isO C1 z 100 ∧ cn C1 z = 31 → Wf C1 → TxV C1 a cap g n → Ara (cE C1 z) st →
     ∃ C', L (st.length : Int) (i : Int) C1 = some (if chk g n i st (n - i) = true then 1 else 0, C') ∧ Kp (fun q => q = z) C1 C' ∧ csz C' = csz C1 ∧ csl C' = csl C1) (fun i _ _ _ h => absurd h (Nat.not_lt_zero _)) (fun mm L hL i st C1 hin hm hsl hop hz1 hw1 h1 hr1 => ?_) FU) 0 [] C0 (Nat.zero_le _) (by unfold FU; omega) (Nat.le_refl _) (fun x hx => absurd hx (List.not_mem_nil)) hz hw h0 hr
  have hO := h1.isO_
  have hs := h1.sz
  obtain ⟨hz2, hz3⟩ := hz1
  rcases Nat.lt_or_ge i n with hlt | hge
  · have e2 : n - i = (n - (i + 1)) + 1 := by omega
    rw [e2]
    have ht := h1.tks i hlt
    have hop1 := X8_opens (C := C1) (k := g i / 1000) (by omega) (by omega)
    have hfit := X8_fits_ h1 (k := g i / 1000) (by omega) (by omega) (head_op hop) (decide (0 < i) && opB (g (i - 1) / 1000))
    have hhd := hr1.head
    have hb : (i = 0 ∧ (decide (0 < i) && opB (g (i - 1) / 1000)) = false) ∨ (0 < i ∧ ∃ kk, fX8_kindAt a ((i : Int) - 1) C1 = some (kk, C1) ∧ fX8_opens kk C1 = some (1, C1) ∧ (decide (0 < i) && opB (g (i - 1) / 1000)) = true) ∨ (0 < i ∧ ∃ kk, fX8_kindAt a ((i : Int) - 1) C1 = some (kk, C1) ∧ fX8_opens kk C1 = some (0, C1) ∧ (decide (0 < i) && opB (g (i - 1) / 1000)) = false) := by
      rcases Nat.eq_zero_or_pos i with z0 | z0
      · exact Or.inl ⟨z0, by subst z0; rfl⟩
      · have hk1 := h1.kind (k := i - 1) (by omega)
        have ht1 := h1.tks (i - 1) (by omega)
        have hop2 := X8_opens (C := C1) (k := g (i - 1) / 1000) (by omega) (by omega)
        rw [show ((i - 1 : Nat) : Int) = (i : Int) - 1 by omega] at hk1
        by_cases q : opB (g (i - 1) / 1000) = true
        · rw [if_pos q] at hop2
          exact Or.inr (Or.inl ⟨z0, _, hk1, hop2, by rw [q]; simp [z0]⟩)
        · rw [if_neg q] at hop2
          exact Or.inr (Or.inr ⟨z0, _, hk1, hop2, by simp [q]⟩)
    have hix : ix (st.length : Int) = st.length := ix_n (by omega)
    conv => arg 1; intro C'; rw [chk]
    generalize hbb : (decide (0 < i) && opB (g (i - 1) / 1000)) = bb at hfit hb ⊢
    rw [← hhd] at hfit ⊢
    have hkd := h1.kind hlt
    rcases hb with ⟨z0, hb⟩ | ⟨z0, kk, hk1, hop2, hb⟩ | ⟨z0, kk, hk1, hop2, hb⟩
    · subst hb
      have hk1 : (some ((0 : Int), C1) : Option (Int × Cd)) = some (0, C1) := rfl
      have hop2 := hk1
      rw [if_neg Bool.false_ne_true] at hfit
      generalize hfv : fitB n (g i / 1000) (cE C1 z st.length) _ = fv at hfit ⊢
      cases fv with
      | true =>
        rw [if_pos rfl] at hfit
        rw [Bool.true_and]
        by_cases q : opB (g i / 1000) = true
        · rw [if_pos q] at hop1
          have e3 : aft (g i / 1000) st = g i / 1000 :: st := by unfold aft; rw [if_pos q]
          rw [e3]
          have hx2 : ((st.length : Int) + 1).toNat = st.length + 1 := by omega
          have hk : Kp (fun q => q = z) C1 (cSetE C1 z (st.length + 1) (g i / 1000)) := Kp.E hw1 _ _ _ rfl
          obtain ⟨C', r1, r2, r3, r4⟩ := hL (i + 1) (g i / 1000 :: st) (cSetE C1 z (st.length + 1) (g i / 1000)) hlt (by omega) (by show st.length + 1 ≤ i + 1; omega) (fun x hx => by
              rcases List.mem_cons.mp hx with e | e
              · rw [e]; exact q
              · exact hop x e) ⟨hz2, hz3⟩ (Wf_E hw1 _ _ _) (h1.kp hw1 hk (fun e => hza e.symm) (fun e => hza1 e.symm)) ⟨cE_E1 _ _ _ _, hr1.keep (fun j hj => cE_E2 _ _ (Or.inr (by omega)))⟩
          refine ⟨C', ?_, hk.tr r2, r3, r4⟩
          rw [← r1]
          simp (disch := omega) only [isO, ↓bnd_eq, ↓reduceIte, ↓drf_some, ↓cal_some, ↓calx_inl, ↓calx_inr, ↓opt_some, ↓opt_none, w32_of, ix_of, inR, le_t, le_f, lt_t, lt_f, eq_t, eq_f, and_self, true_and, and_true, false_and, and_false, not_true_eq_false, not_false_eq_true, or_true, true_or, or_false, false_or, Bool.false_eq_true, hO, hs, ↓cal_of hkd, ↓cal_of hk1, ↓cal_of hop2, hz2, hz3, Int.toNat_natCast, ↓cal_of hfit, ↓cal_of hop1, hx2]
          rfl
        · rw [if_neg q] at hop1
          by_cases q7 : g i / 1000 = 7
          · have e3 : aft (g i / 1000) st = st.tail := by unfold aft; rw [if_neg q, if_pos q7]
            rw [e3]
            obtain ⟨C', r1, r2, r3, r4⟩ := hL (i + 1) st.tail C1 hlt (by omega) (by rw [List.length_tail]; omega) (all_tail hop) ⟨hz2, hz3⟩ hw1 h1 hr1.tail
            refine ⟨C', ?_, r2, r3, r4⟩
            rw [← r1]
            have hne : 0 < st.length := by
              rcases Nat.eq_zero_or_pos st.length with z0 | z0
              · have e : st = [] := List.length_eq_zero_iff.mp z0
                subst e
                have e9 : cE C1 z 0 = -1 := hr1
                rw [q7, List.length_nil, e9] at hfv
                exact absurd (show false = true from hfv) Bool.false_ne_true
              · exact z0
            rw [← len_tail_lt hne]
            first
            | (exfalso; omega)
            | (simp (disch := omega) only [isO, ↓bnd_eq, ↓reduceIte, ↓drf_some, ↓cal_some, ↓calx_inl, ↓calx_inr, ↓opt_some, ↓opt_none, w32_of, ix_of, inR, le_t, le_f, lt_t, lt_f, eq_t, eq_f, and_self, true_and, and_true, false_and, and_false, not_true_eq_false, not_false_eq_true, or_true, true_or, or_false, false_or, Bool.false_eq_true, hO, hs, ↓cal_of hkd, ↓cal_of hk1, ↓cal_of hop2, hz2, hz3, Int.toNat_natCast, ↓cal_of hfit, ↓cal_of hop1]
               rfl)
          · have e3 : aft (g i / 1000) st = st := by unfold aft; rw [if_neg q, if_neg q7]
            rw [e3]
            obtain ⟨C', r1, r2, r3, r4⟩ := hL (i + 1) st C1 hlt (by omega) (by omega) hop ⟨hz2, hz3⟩ hw1 h1 hr1
            refine ⟨C', ?_, r2, r3, r4⟩
            rw [← r1]
            simp (disch := omega) only [isO, ↓bnd_eq, ↓reduceIte, ↓drf_some, ↓cal_some, ↓calx_inl, ↓calx_inr, ↓opt_some, ↓opt_none, w32_of, ix_of, inR, le_t, le_f, lt_t, lt_f, eq_t, eq_f, and_self, true_and, and_true, false_and, and_false, not_true_eq_false, not_false_eq_true, or_true, true_or, or_false, false_or, Bool.false_eq_true, hO, hs, ↓cal_of hkd, ↓cal_of hk1, ↓cal_of hop2, hz2, hz3, Int.toNat_natCast, ↓cal_of hfit, ↓cal_of hop1]
            rfl
      | false =>
        rw [if_neg Bool.false_ne_true] at hfit
        rw [Bool.false_and]
        refine ⟨C1, ?_, Kp.rf hw1 _, rfl, rfl⟩
        simp (disch := omega) only [isO, ↓bnd_eq, ↓reduceIte, ↓drf_some, ↓cal_some, ↓calx_inl, ↓calx_inr, ↓opt_some, ↓opt_none, w32_of, ix_of, inR, le_t, le_f, lt_t, lt_f, eq_t, eq_f, and_self, true_and, and_true, false_and, and_false, not_true_eq_false, not_false_eq_true, or_true, true_or, or_false, false_or, Bool.false_eq_true, hO, hs, ↓cal_of hkd, ↓cal_of hk1, ↓cal_of hop2, hz2, hz3, Int.toNat_natCast, ↓cal_of hfit]
    · subst hb
      rw [if_pos rfl] at hfit
      generalize hfv : fitB n (g i / 1000) (cE C1 z st.length) _ = fv at hfit ⊢
      cases fv with
      | true =>
        rw [if_pos rfl] at hfit
        rw [Bool.true_and]
        by_cases q : opB (g i / 1000) = true
        · rw [if_pos q] at hop1
          have e3 : aft (g i / 1000) st = g i / 1000 :: st := by unfold aft; rw [if_pos q]
          rw [e3]
          have hx2 : ((st.length : Int) + 1).toNat = st.length + 1 := by omega
          have hk : Kp (fun q => q = z) C1 (cSetE C1 z (st.length + 1) (g i / 1000)) := Kp.E hw1 _ _ _ rfl
          obtain ⟨C', r1, r2, r3, r4⟩ := hL (i + 1) (g i / 1000 :: st) (cSetE C1 z (st.length + 1) (g i / 1000)) hlt (by omega) (by show st.length + 1 ≤ i + 1; omega) (fun x hx => by
              rcases List.mem_cons.mp hx with e | e
              · rw [e]; exact q
              · exact hop x e) ⟨hz2, hz3⟩ (Wf_E hw1 _ _ _) (h1.kp hw1 hk (fun e => hza e.symm) (fun e => hza1 e.symm)) ⟨cE_E1 _ _ _ _, hr1.keep (fun j hj => cE_E2 _ _ (Or.inr (by omega)))⟩
          refine ⟨C', ?_, hk.tr r2, r3, r4⟩
          rw [← r1]
          simp (disch := omega) only [isO, ↓bnd_eq, ↓reduceIte, ↓drf_some, ↓cal_some, ↓calx_inl, ↓calx_inr, ↓opt_some, ↓opt_none, w32_of, ix_of, inR, le_t, le_f, lt_t, lt_f, eq_t, eq_f, and_self, true_and, and_true, false_and, and_false, not_true_eq_false, not_false_eq_true, or_true, true_or, or_false, false_or, Bool.false_eq_true, hO, hs, ↓cal_of hkd, ↓cal_of hk1, ↓cal_of hop2, hz2, hz3, Int.toNat_natCast, ↓cal_of hfit, ↓cal_of hop1, hx2]
          rfl
        · rw [if_neg q] at hop1
          by_cases q7 : g i / 1000 = 7
          · have e3 : aft (g i / 1000) st = st.tail := by unfold aft; rw [if_neg q, if_pos q7]
            rw [e3]
            obtain ⟨C', r1, r2, r3, r4⟩ := hL (i + 1) st.tail C1 hlt (by omega) (by rw [List.length_tail]; omega) (all_tail hop) ⟨hz2, hz3⟩ hw1 h1 hr1.tail
            refine ⟨C', ?_, r2, r3, r4⟩
            rw [← r1]
            have hne : 0 < st.length := by
              rcases Nat.eq_zero_or_pos st.length with z0 | z0
              · have e : st = [] := List.length_eq_zero_iff.mp z0
                subst e
                have e9 : cE C1 z 0 = -1 := hr1
                rw [q7, List.length_nil, e9] at hfv
                exact absurd (show false = true from hfv) Bool.false_ne_true
              · exact z0
            rw [← len_tail_lt hne]
            first
            | (exfalso; omega)
            | (simp (disch := omega) only [isO, ↓bnd_eq, ↓reduceIte, ↓drf_some, ↓cal_some, ↓calx_inl, ↓calx_inr, ↓opt_some, ↓opt_none, w32_of, ix_of, inR, le_t, le_f, lt_t, lt_f, eq_t, eq_f, and_self, true_and, and_true, false_and, and_false, not_true_eq_false, not_false_eq_true, or_true, true_or, or_false, false_or, Bool.false_eq_true, hO, hs, ↓cal_of hkd, ↓cal_of hk1, ↓cal_of hop2, hz2, hz3, Int.toNat_natCast, ↓cal_of hfit, ↓cal_of hop1]
               rfl)
          · have e3 : aft (g i / 1000) st = st := by unfold aft; rw [if_neg q, if_neg q7]
            rw [e3]
            obtain ⟨C', r1, r2, r3, r4⟩ := hL (i + 1) st C1 hlt (by omega) (by omega) hop ⟨hz2, hz3⟩ hw1 h1 hr1
            refine ⟨C', ?_, r2, r3, r4⟩
            rw [← r1]
            simp (disch := omega) only [isO, ↓bnd_eq, ↓reduceIte, ↓drf_some, ↓cal_some, ↓calx_inl, ↓calx_inr, ↓opt_some, ↓opt_none, w32_of, ix_of, inR, le_t, le_f, lt_t, lt_f, eq_t, eq_f, and_self, true_and, and_true, false_and, and_false, not_true_eq_false, not_false_eq_true, or_true, true_or, or_false, false_or, Bool.false_eq_true, hO, hs, ↓cal_of hkd, ↓cal_of hk1, ↓cal_of hop2, hz2, hz3, Int.toNat_natCast, ↓cal_of hfit, ↓cal_of hop1]
            rfl
      | false =>
        rw [if_neg Bool.false_ne_true] at hfit
        rw [Bool.false_and]
        refine ⟨C1, ?_, Kp.rf hw1 _, rfl, rfl⟩
        simp (disch := omega) only [isO, ↓bnd_eq, ↓reduceIte, ↓drf_some, ↓cal_some, ↓calx_inl, ↓calx_inr, ↓opt_some, ↓opt_none, w32_of, ix_of, inR, le_t, le_f, lt_t, lt_f, eq_t, eq_f, and_self, true_and, and_true, false_and, and_false, not_true_eq_false, not_false_eq_true, or_true, true_or, or_false, false_or, Bool.false_eq_true, hO, hs, ↓cal_of hkd, ↓cal_of hk1, ↓cal_of hop2, hz2, hz3, Int.toNat_natCast, ↓cal_of hfit]
    · subst hb
      rw [if_neg Bool.false_ne_true] at hfit
      generalize hfv : fitB n (g i / 1000) (cE C1 z st.length) _ = fv at hfit ⊢
      cases fv with
      | true =>
        rw [if_pos rfl] at hfit
        rw [Bool.true_and]
        by_cases q : opB (g i / 1000) = true
        · rw [if_pos q] at hop1
          have e3 : aft (g i / 1000) st = g i / 1000 :: st := by unfold aft; rw [if_pos q]
          rw [e3]
          have hx2 : ((st.length : Int) + 1).toNat = st.length + 1 := by omega
          have hk : Kp (fun q => q = z) C1 (cSetE C1 z (st.length + 1) (g i / 1000)) := Kp.E hw1 _ _ _ rfl
          obtain ⟨C', r1, r2, r3, r4⟩ := hL (i + 1) (g i / 1000 :: st) (cSetE C1 z (st.length + 1) (g i / 1000)) hlt (by omega) (by show st.length + 1 ≤ i + 1; omega) (fun x hx => by
              rcases List.mem_cons.mp hx with e | e
              · rw [e]; exact q
              · exact hop x e) ⟨hz2, hz3⟩ (Wf_E hw1 _ _ _) (h1.kp hw1 hk (fun e => hza e.symm) (fun e => hza1 e.symm)) ⟨cE_E1 _ _ _ _, hr1.keep (fun j hj => cE_E2 _ _ (Or.inr (by omega)))⟩
          refine ⟨C', ?_, hk.tr r2, r3, r4⟩
          rw [← r1]
          simp (disch := omega) only [isO, ↓bnd_eq, ↓reduceIte, ↓drf_some, ↓cal_some, ↓calx_inl, ↓calx_inr, ↓opt_some, ↓opt_none, w32_of, ix_of, inR, le_t, le_f, lt_t, lt_f, eq_t, eq_f, and_self, true_and, and_true, false_and, and_false, not_true_eq_false, not_false_eq_true, or_true, true_or, or_false, false_or, Bool.false_eq_true, hO, hs, ↓cal_of hkd, ↓cal_of hk1, ↓cal_of hop2, hz2, hz3, Int.toNat_natCast, ↓cal_of hfit, ↓cal_of hop1, hx2]
          rfl
        · rw [if_neg q] at hop1
          by_cases q7 : g i / 1000 = 7
          · have e3 : aft (g i / 1000) st = st.tail := by unfold aft; rw [if_neg q, if_pos q7]
            rw [e3]
            obtain ⟨C', r1, r2, r3, r4⟩ := hL (i + 1) st.tail C1 hlt (by omega) (by rw [List.length_tail]; omega) (all_tail hop) ⟨hz2, hz3⟩ hw1 h1 hr1.tail
            refine ⟨C', ?_, r2, r3, r4⟩
            rw [← r1]
            have hne : 0 < st.length := by
              rcases Nat.eq_zero_or_pos st.length with z0 | z0
              · have e : st = [] := List.length_eq_zero_iff.mp z0
                subst e
                have e9 : cE C1 z 0 = -1 := hr1
                rw [q7, List.length_nil, e9] at hfv
                exact absurd (show false = true from hfv) Bool.false_ne_true
              · exact z0
            rw [← len_tail_lt hne]
            first
            | (exfalso; omega)
            | (simp (disch := omega) only [isO, ↓bnd_eq, ↓reduceIte, ↓drf_some, ↓cal_some, ↓calx_inl, ↓calx_inr, ↓opt_some, ↓opt_none, w32_of, ix_of, inR, le_t, le_f, lt_t, lt_f, eq_t, eq_f, and_self, true_and, and_true, false_and, and_false, not_true_eq_false, not_false_eq_true, or_true, true_or, or_false, false_or, Bool.false_eq_true, hO, hs, ↓cal_of hkd, ↓cal_of hk1, ↓cal_of hop2, hz2, hz3, Int.toNat_natCast, ↓cal_of hfit, ↓cal_of hop1]
               rfl)
          · have e3 : aft (g i / 1000) st = st := by unfold aft; rw [if_neg q, if_neg q7]
            rw [e3]
            obtain ⟨C', r1, r2, r3, r4⟩ := hL (i + 1) st C1 hlt (by omega) (by omega) hop ⟨hz2, hz3⟩ hw1 h1 hr1
            refine ⟨C', ?_, r2, r3, r4⟩
            rw [← r1]
            simp (disch := omega) only [isO, ↓bnd_eq, ↓reduceIte, ↓drf_some, ↓cal_some, ↓calx_inl, ↓calx_inr, ↓opt_some, ↓opt_none, w32_of, ix_of, inR, le_t, le_f, lt_t, lt_f, eq_t, eq_f, and_self, true_and, and_true, false_and, and_false, not_true_eq_false, not_false_eq_true, or_true, true_or, or_false, false_or, Bool.false_eq_true, hO, hs, ↓cal_of hkd, ↓cal_of hk1, ↓cal_of hop2, hz2, hz3, Int.toNat_natCast, ↓cal_of hfit, ↓cal_of hop1]
            rfl
      | false =>
        rw [if_neg Bool.false_ne_true] at hfit
        rw [Bool.false_and]
        refine ⟨C1, ?_, Kp.rf hw1 _, rfl, rfl⟩
        simp (disch := omega) only [isO, ↓bnd_eq, ↓reduceIte, ↓drf_some, ↓cal_some, ↓calx_inl, ↓calx_inr, ↓opt_some, ↓opt_none, w32_of, ix_of, inR, le_t, le_f, lt_t, lt_f, eq_t, eq_f, and_self, true_and, and_true, false_and, and_false, not_true_eq_false, not_false_eq_true, or_true, true_or, or_false, false_or, Bool.false_eq_true, hO, hs, ↓cal_of hkd, ↓cal_of hk1, ↓cal_of hop2, hz2, hz3, Int.toNat_natCast, ↓cal_of hfit]
  · have e : i = n := by omega
    subst e
    rw [Nat.sub_self]
    refine ⟨C1, ?_, Kp.rf hw1 _, rfl, rfl⟩
    unfold chk
    cases st with
    | nil =>
      simp (disch := omega) only [isO, ↓bnd_eq, ↓reduceIte, ↓drf_some, ↓cal_some, ↓calx_inl, ↓calx_inr, ↓opt_some, ↓opt_none, w32_of, ix_of, inR, le_t, le_f, lt_t, lt_f, eq_t, eq_f, and_self, true_and, and_true, false_and, and_false, not_true_eq_false, not_false_eq_true, or_true, true_or, or_false, false_or, Bool.false_eq_true, hO, hs, retZ, List.length_nil]
      rfl
    | cons k st =>
      have e4 : (((k :: st).length : Nat) : Int) = (st.length : Int) + 1 := by show ((st.length + 1 : Nat) : Int) = _; omega
      have e5 : st.length ≤ i := by have : st.length + 1 ≤ i := hsl; omega
      rw [e4]
      simp (disch := omega) only [isO, ↓bnd_eq, ↓reduceIte, ↓drf_some, ↓cal_some, ↓calx_inl, ↓calx_inr, ↓opt_some, ↓opt_none, w32_of, ix_of, inR, le_t, le_f, lt_t, lt_f, eq_t, eq_f, and_self, true_and, and_true, false_and, and_false, not_true_eq_false, not_false_eq_true, or_true, true_or, or_false, false_or, Bool.false_eq_true, hO, hs, retZ]
      rfl
theorem X8_isText_ (W : Wf C) (h : TxV C a cap g n) : ∃ C', fX8_isText a C = some (if isTx g n = true then 1 else 0, C') ∧ Kp (fun _ => False) C C' ∧ csz C' ≤ csz C + 1 ∧ csl C' ≤ csl C + 31 := by
  have hO := h.isO_
  have hz := h.sz
  have hn := h.n90
  unfold isTx fX8_isText
  by_cases c1 : 1 ≤ n
  · by_cases c2 : n ≤ 30
    · have ha1 : a < csz C := W a hO.1
      have ha2 : a + 1 < csz C := W _ h.1.1.2.2.2.1.1
      have e0 : Int.toNat 31 = 31 := rfl
      have e1 : Int.toNat 0 = 0 := rfl
      have hk1 : Kp (fun _ => False) C (cNewA C 100 31) := Kp.A W 100 31
      have hk2 : Kp (fun q => q = csz C) (cNewA C 100 31) (cSetE (cNewA C 100 31) (csz C) 0 (-1)) := Kp.E (Wf_A W 100 31) _ _ _ rfl
      have hk3 : Kp (fun _ => False) C (cSetE (cNewA C 100 31) (csz C) 0 (-1)) := hk1.tr2 hk2 (fun b hb e => absurd e (Nat.ne_of_lt hb))
      generalize hL0 : (lpn (fun (_ : Int) (_ : Int) (_ : Cd) => (none : Option (Int × Cd))) (fun L32 (v2_32 : Int) (v3_32 : Int) (C_32 : Cd) =>
if isO C_32 a 11 then
if w32 (cI C_32 1102 a) ≤ w32 v3_32 then
bnd (fun (t0_141 : Int) (C_141 : Cd) =>
retZ t0_141 C_141) fun J141 =>
if ¬ w32 v2_32 = 0 then
J141 0 C_32
else
J141 1 C_32
else
if isO C_32 a 11 then cal (fX8_kindAt a v3_32 C_32) fun (r4 : Int) (C3 : Cd) =>
bnd (fun (t0_69 : Int) (C_69 : Cd) =>
if isO C_69 (csz C) 100 ∧ inR v2_32 (cn C_69 (csz C)) then
if isO C_69 a 11 then cal (fX8_fits a r4 (cE C_69 (csz C) (ix v2_32)) t0_69 C_69) fun (r6 : Int) (C5 : Cd) =>
if ¬ w32 r6 = 0 then
cal (fX8_opens r4 C5) fun (r8 : Int) (C7 : Cd) =>
bnd (fun (v2_126 : Int) (C_126 : Cd) =>
L32 v2_126 (v3_32 + 1) C_126) fun J126 =>
bnd (fun  (C_112 : Cd) =>
if ¬ w32 r4 = w32 7 then
J126 v2_32 C_112
else
if w32 v2_32 ≤ 0 then
J126 v2_32 C_112
else
J126 (v2_32 + (-1)) C_112) fun J112 =>
if w32 r8 = 0 then
J112 C7
else
if w32 30 ≤ w32 v2_32 then
J112 C7
else
if isO C7 (csz C) 100 ∧ inR (v2_32 + 1) (cn C7 (csz C)) then bnd (cSetE C7 (csz C) (ix (v2_32 + 1)) r4) fun (C9 : Cd) =>
J126 (v2_32 + 1) C9
else none
else
some (0, C5)
else none
else none) fun J69 =>
bnd (fun  (C_68 : Cd) =>
J69 0 C_68) fun J68 =>
if w32 v3_32 ≤ 0 then
J68 C3
else
if isO C3 a 11 then cal (fX8_kindAt a (v3_32 - 1) C3) fun (r11 : Int) (C10 : Cd) =>
cal (fX8_opens r11 C10) fun (r13 : Int) (C12 : Cd) =>
if w32 r13 = 0 then
J68 C12
else
J69 1 C12
else none
else none
else none) FU) = L0
      obtain ⟨C', r1, r2, r3, r4⟩ := X8_isText_loop (L0 := L0) (C0 := cSetE (cNewA C 100 31) (csz C) 0 (-1)) (z := csz C) c1 c2 (by omega) (by omega) ⟨isO_A1 C 100 31, cn_A1 C 100 31⟩ (Wf_E (Wf_A W 100 31) _ _ _) (h.kp W hk3 (fun e => e) (fun e => e)) (cE_E1 _ _ _ _) hL0.symm
      refine ⟨C', ?_, hk3.tr2 r2 (fun b hb e => absurd e (Nat.ne_of_lt hb)), ?_, ?_⟩
      · have e5 : (decide (1 ≤ n ∧ n ≤ 30)) = true := decide_eq_true ⟨c1, c2⟩
        rw [e5, Bool.true_and, ← r1]
        have o1 := isO_A1 C 100 31
        have o2 := cn_A1 C 100 31
        simp (disch := omega) only [isO, ↓bnd_eq, ↓reduceIte, ↓drf_some, ↓cal_some, ↓calx_inl, ↓calx_inr, ↓opt_some, ↓opt_none, w32_of, ix_of, inR, le_t, le_f, lt_t, lt_f, eq_t, eq_f, and_self, true_and, and_true, false_and, and_false, not_true_eq_false, not_false_eq_true, or_true, true_or, or_false, false_or, Bool.false_eq_true, hO, hz, e0, e1, o1, o2]
      · rw [r3]; exact Nat.le_refl _
      · rw [r4]; exact Nat.le_refl _
    · refine ⟨C, ?_, Kp.rf W _, Nat.le_succ _, by omega⟩
      rw [decide_eq_false (fun q => c2 q.2), Bool.false_and]
      simp (disch := omega) only [isO, ↓bnd_eq, ↓reduceIte, ↓drf_some, ↓cal_some, ↓calx_inl, ↓calx_inr, ↓opt_some, ↓opt_none, w32_of, ix_of, inR, le_t, le_f, lt_t, lt_f, eq_t, eq_f, and_self, true_and, and_true, false_and, and_false, not_true_eq_false, not_false_eq_true, or_true, true_or, or_false, false_or, Bool.false_eq_true, hO, hz]
  · refine ⟨C, ?_, Kp.rf W _, Nat.le_succ _, by omega⟩
    rw [decide_eq_false (fun q => c1 q.1), Bool.false_and]
    simp (disch := omega) only [isO, ↓bnd_eq, ↓reduceIte, ↓drf_some, ↓cal_some, ↓calx_inl, ↓calx_inr, ↓opt_some, ↓opt_none, w32_of, ix_of, inR, le_t, le_f, lt_t, lt_f, eq_t, eq_f, and_self, true_and, and_true, false_and, and_false, not_true_eq_false, not_false_eq_true, or_true, true_or, or_false, false_or, Bool.false_eq_true, hO, hz]
end TX5
