/-! THE REFERENCE'S TEXTS: which rows are texts -/
/-- the reference's stacks hold a stack -/
def Arb (r : Nat → Int) : List Int → Prop
  | [] => True
  | k :: st => r st.length = k ∧ Arb r st
theorem Arb.keep {r r' : Nat → Int} : ∀ {st : List Int}, Arb r st → (∀ j, j < st.length → r' j = r j) → Arb r' st := by
  intro st
  induction st with
  | nil => intro _ _; trivial
  | cons k st ih =>
    intro h q
    exact ⟨(q _ (Nat.lt_succ_self _)).trans h.1, ih h.2 (fun j hj => q j (Nat.lt_succ_of_lt hj))⟩
theorem Arb.tail {r : Nat → Int} {st : List Int} (h : Arb r st) : Arb r st.tail := by
  cases st with
  | nil => trivial
  | cons k st => exact h.2
theorem fitB_nil {n : Nat} {kd : Int} (b : Bool) : fitB n kd (-1) b = (decide (kd ≠ 5) && (decide (kd ≠ 6) && (decide (kd ≠ 7) && decide (kd = 12 → n = 1)))) := by
  unfold fitB
  by_cases h5 : kd = 5
  · subst h5; rfl
  · by_cases h6 : kd = 6
    · subst h6; rfl
    · by_cases h7 : kd = 7
      · subst h7; rfl
      · by_cases h13 : kd = 13
        · subst h13; simp
        · by_cases h12 : kd = 12
          · subst h12; simp
          · simp [h5, h6, h7, h13, h12]
theorem w_m1 : w32 (-1) = -1 := by rfl
theorem w_0 : w32 (0) = 0 := by rfl
theorem w_1 : w32 (1) = 1 := by rfl
theorem w_2 : w32 (2) = 2 := by rfl
theorem w_3 : w32 (3) = 3 := by rfl
theorem w_4 : w32 (4) = 4 := by rfl
theorem w_5 : w32 (5) = 5 := by rfl
theorem w_6 : w32 (6) = 6 := by rfl
theorem w_7 : w32 (7) = 7 := by rfl
theorem w_8 : w32 (8) = 8 := by rfl
theorem w_9 : w32 (9) = 9 := by rfl
theorem w_10 : w32 (10) = 10 := by rfl
theorem w_11 : w32 (11) = 11 := by rfl
theorem w_12 : w32 (12) = 12 := by rfl
theorem w_13 : w32 (13) = 13 := by rfl
section MTX2
variable {M : Md} {k j fr fs n m : Nat} {g f : Nat → Int}
theorem X12_isText_stepA {G : Int → Int → Md → Option (Int × Md)} {i d : Nat} {st : List Int} {bb : Bool} (hd : d = st.length) (hd31 : d ≤ 30) (hi : i < n) (hn : n ≤ 200) (hfr : fr + n ≤ mLen k) (hml : mLen k ≤ 3600) (hdi : d ≤ i)
   (hr : Arb (M.2 37) st) (hop : ∀ x ∈ st, opB x = true) (hin : 0 < i → 0 ≤ M.2 k (fr + (i - 1)) ∧ M.2 k (fr + (i - 1)) < 14000)
   (hb1 : bb = true → 0 < i ∧ 0 < d ∧ M.2 k (fr + (i - 1)) / 1000 = st.headD (-1) ∧ M.2 38 (d - 1) = (i : Int) - 1) (hb0 : bb = false → 0 < i → ¬ opB (M.2 k (fr + (i - 1)) / 1000) = true) :
(bnd (fun (t0_56 : Int) (M_56 : Md) =>
bnd (fun (t0_106 : Int) (M_106 : Md) =>
G t0_56 t0_106 M_106) fun J106 =>
bnd (fun  (M_105 : Md) =>
J106 0 M_105) fun J105 =>
if w32 (i : Int) ≤ 0 then
J105 M_56
else
if w32 (d : Int) ≤ 0 then
J105 M_56
else
if inR (((fr : Int) + (i : Int)) - 1) (mLen k) then
if ¬ w32 (divI (M_56.2 k (ix (((fr : Int) + (i : Int)) - 1))) 1000) = w32 t0_56 then
J105 M_56
else
if inR ((d : Int) - 1) (mLen 38) then
if ¬ w32 (M_56.2 38 (ix ((d : Int) - 1))) = w32 ((i : Int) - 1) then
J105 M_56
else
J106 1 M_56
else none
else none) fun J56 =>
if ¬ w32 (d : Int) = 0 then
if inR ((d : Int) - 1) (mLen 37) then
J56 (M.2 37 (ix ((d : Int) - 1))) M
else none
else
J56 (-1) M) = G (st.headD (-1)) (if bb = true then 1 else 0) M := by
  cases st with
  | nil =>
    have e0 : d = 0 := hd
    subst e0
    have hb : bb = false := by
      cases bb with
      | false => rfl
      | true => exact absurd (hb1 rfl).2.1 (Nat.lt_irrefl _)
    subst hb
    show _ = G (-1) 0 M
    by_cases ei : i = 0
    · subst ei
      simp (disch := omega) only [isO, ↓bnd_eq, ↓reduceIte, ↓drf_some, ↓cal_some, ↓calx_inl, ↓calx_inr, ↓opt_some, ↓opt_none, w32_of, ix_of, inR, le_t, le_f, lt_t, lt_f, eq_t, eq_f, and_self, true_and, and_true, false_and, and_false, not_true_eq_false, not_false_eq_true, or_true, true_or, or_false, false_or, Bool.false_eq_true, p2_1, p2_2, p1_, s1_1, s1_2, s2_, ml_0, ml_3, ml_4, ml_6, ml_9, ml_10, ml_11, ml_12, ml_14, ml_15, ml_16, ml_17, ml_18, ml_19, ml_20, ml_21, ml_23, ml_24, ml_25, ml_26, ml_27, ml_28, ml_29, ml_30, ml_31, ml_32, ml_33, ml_34, ml_35, ml_37, ml_38, ml_41, ml_42, ml_43, ml_44, ml_45, ml_46, ml_47, ml_49, ml_50, ml_52, ml_53, ml_54, ml_55, ml_56, ml_57, ml_58, ml_60, ml_61, ml_62, ml_63, ml_64, ml_72, ml_74, ml_76, ml_78]
    · simp (disch := omega) only [isO, ↓bnd_eq, ↓reduceIte, ↓drf_some, ↓cal_some, ↓calx_inl, ↓calx_inr, ↓opt_some, ↓opt_none, w32_of, ix_of, inR, le_t, le_f, lt_t, lt_f, eq_t, eq_f, and_self, true_and, and_true, false_and, and_false, not_true_eq_false, not_false_eq_true, or_true, true_or, or_false, false_or, Bool.false_eq_true, p2_1, p2_2, p1_, s1_1, s1_2, s2_, ml_0, ml_3, ml_4, ml_6, ml_9, ml_10, ml_11, ml_12, ml_14, ml_15, ml_16, ml_17, ml_18, ml_19, ml_20, ml_21, ml_23, ml_24, ml_25, ml_26, ml_27, ml_28, ml_29, ml_30, ml_31, ml_32, ml_33, ml_34, ml_35, ml_37, ml_38, ml_41, ml_42, ml_43, ml_44, ml_45, ml_46, ml_47, ml_49, ml_50, ml_52, ml_53, ml_54, ml_55, ml_56, ml_57, ml_58, ml_60, ml_61, ml_62, ml_63, ml_64, ml_72, ml_74, ml_76, ml_78]
  | cons kk st =>
    have hd1 : 0 < d := by rw [hd]; exact Nat.succ_pos _
    have hkk : opB kk = true := hop kk (List.mem_cons_self)
    have h4 := opB_cases hkk
    have e1 : ((d : Int) - 1).toNat = st.length := by
      have : d = st.length + 1 := hd
      omega
    have hr1 : M.2 37 st.length = kk := hr.1
    have e2 : (((fr : Int) + (i : Int)) - 1).toNat = fr + (i - 1) := by omega
    have hi0 : 0 < i := by omega
    have hin1 := hin hi0
    have hd2 : d - 1 = st.length := by
      have : d = st.length + 1 := hd
      omega
    show _ = G kk (if bb = true then 1 else 0) M
    generalize hq : M.2 k (fr + (i - 1)) = qq at *
    have hdv : divI qq 1000 = qq / 1000 := divI_of hin1.1 (by omega) (by omega) (by omega)
    cases bb with
    | true =>
      obtain ⟨b1, b2, b3, b4⟩ := hb1 rfl
      have b3' : qq / 1000 = kk := b3
      rw [hd2] at b4
      clear hb1 hb0 hop hr hin h4
      rw [if_pos rfl]
      simp (disch := omega) only [isO, ↓bnd_eq, ↓reduceIte, ↓drf_some, ↓cal_some, ↓calx_inl, ↓calx_inr, ↓opt_some, ↓opt_none, w32_of, ix_of, inR, le_t, le_f, lt_t, lt_f, eq_t, eq_f, and_self, true_and, and_true, false_and, and_false, not_true_eq_false, not_false_eq_true, or_true, true_or, or_false, false_or, Bool.false_eq_true, p2_1, p2_2, p1_, s1_1, s1_2, s2_, ml_0, ml_3, ml_4, ml_6, ml_9, ml_10, ml_11, ml_12, ml_14, ml_15, ml_16, ml_17, ml_18, ml_19, ml_20, ml_21, ml_23, ml_24, ml_25, ml_26, ml_27, ml_28, ml_29, ml_30, ml_31, ml_32, ml_33, ml_34, ml_35, ml_37, ml_38, ml_41, ml_42, ml_43, ml_44, ml_45, ml_46, ml_47, ml_49, ml_50, ml_52, ml_53, ml_54, ml_55, ml_56, ml_57, ml_58, ml_60, ml_61, ml_62, ml_63, ml_64, ml_72, ml_74, ml_76, ml_78, e1, hr1, e2, hq, hdv, b4]
    | false =>
      have b0 := hb0 rfl hi0
      have b1 : ¬ qq / 1000 = kk := fun e => b0 (by rw [e]; exact hkk)
      clear hb1 hb0 hop hr hin
      rw [if_neg Bool.false_ne_true]
      simp (disch := omega) only [isO, ↓bnd_eq, ↓reduceIte, ↓drf_some, ↓cal_some, ↓calx_inl, ↓calx_inr, ↓opt_some, ↓opt_none, w32_of, ix_of, inR, le_t, le_f, lt_t, lt_f, eq_t, eq_f, and_self, true_and, and_true, false_and, and_false, not_true_eq_false, not_false_eq_true, or_true, true_or, or_false, false_or, Bool.false_eq_true, p2_1, p2_2, p1_, s1_1, s1_2, s2_, ml_0, ml_3, ml_4, ml_6, ml_9, ml_10, ml_11, ml_12, ml_14, ml_15, ml_16, ml_17, ml_18, ml_19, ml_20, ml_21, ml_23, ml_24, ml_25, ml_26, ml_27, ml_28, ml_29, ml_30, ml_31, ml_32, ml_33, ml_34, ml_35, ml_37, ml_38, ml_41, ml_42, ml_43, ml_44, ml_45, ml_46, ml_47, ml_49, ml_50, ml_52, ml_53, ml_54, ml_55, ml_56, ml_57, ml_58, ml_60, ml_61, ml_62, ml_63, ml_64, ml_72, ml_74, ml_76, ml_78, e1, hr1, e2, hq, hdv]
theorem iT126 {G : Int → Md → Option (Int × Md)} {kd : Int} (hwk : w32 kd = kd) :
(bnd G fun J126 =>
bnd (fun  (M_121 : Md) =>
J126 1 M_121) fun J121 =>
if w32 kd = w32 5 then
J121 M
else
if ¬ w32 kd = w32 6 then
J126 0 M
else
J121 M) = G (if decide (kd = 5 ∨ kd = 6) = true then (1 : Int) else 0) M := by
  by_cases c5 : kd = 5
  · simp only [↓bnd_eq, ↓reduceIte, hwk, w_5, c5, true_or, decide_true]
  · by_cases c6 : kd = 6
    · simp only [↓bnd_eq, ↓reduceIte, hwk, w_5, w_6, c6, or_true, decide_true, Int.reduceEq, not_true_eq_false]
    · simp only [↓bnd_eq, ↓reduceIte, hwk, w_5, w_6, c5, c6, or_false, decide_false, not_false_eq_true, Bool.false_eq_true]
theorem iT152 {G : Int → Md → Option (Int × Md)} {kd ar : Int} (hwk : w32 kd = kd) (hwa : w32 ar = ar) :
(bnd G fun J152 =>
bnd (fun  (M_147 : Md) =>
J152 1 M_147) fun J147 =>
if ¬ w32 ar = w32 10 then
J147 M
else
if w32 kd = 0 then
J147 M
else
if ¬ w32 kd = w32 7 then
J152 0 M
else
J147 M) = G (if decide (ar ≠ 10 ∨ kd = 0 ∨ kd = 7) = true then (1 : Int) else 0) M := by
  by_cases c5 : ar = 10
  · by_cases c6 : kd = 0
    · simp only [↓bnd_eq, ↓reduceIte, hwk, hwa, w_0, w_10, c5, c6, ne_eq, not_true_eq_false, true_or, or_true, decide_true]
    · by_cases c7 : kd = 7
      · simp only [↓bnd_eq, ↓reduceIte, hwk, hwa, w_10, w_7, c5, c7, ne_eq, not_true_eq_false, true_or, or_true, decide_true, Int.reduceEq]
      · simp only [↓bnd_eq, ↓reduceIte, hwk, hwa, w_10, w_7, c5, c6, c7, ne_eq, not_true_eq_false, not_false_eq_true, or_false, decide_false, Bool.false_eq_true]
  · simp only [↓bnd_eq, ↓reduceIte, hwk, hwa, w_10, c5, ne_eq, not_false_eq_true, true_or, decide_true]
theorem iT200 {G : Int → Md → Option (Int × Md)} {kd : Int} {d : Nat} {b : Bool} (hwk : w32 kd = kd) (hwd : w32 (d : Int) = (d : Int)) (hwn : w32 (n : Int) = (n : Int)) :
(bnd G fun J200 =>
bnd (fun  (M_199 : Md) =>
J200 0 M_199) fun J199 =>
if w32 (if b = true then (1 : Int) else 0) = 0 then
J199 M
else
bnd (fun  (M_171 : Md) =>
bnd (fun  (M_183 : Md) =>
bnd (fun  (M_195 : Md) =>
J200 1 M_195) fun J195 =>
if ¬ w32 kd = w32 7 then
J195 M_183
else
if w32 (d : Int) ≤ 0 then
J199 M_183
else
J195 M_183) fun J183 =>
if ¬ w32 kd = w32 12 then
J183 M_171
else
if ¬ w32 (n : Int) = w32 1 then
J199 M_171
else
J183 M_171) fun J171 =>
if ¬ w32 kd = w32 13 then
J171 M
else
if ¬ w32 (d : Int) = 0 then
J199 M
else
J171 M) = G (if (b && (decide (kd = 13 → d = 0) && (decide (kd = 12 → n = 1) && decide (kd = 7 → 0 < d)))) = true then (1 : Int) else 0) M := by
  have hd : ((d : Int) = 0) = (d = 0) := propext ⟨fun z => by omega, fun z => by omega⟩
  have hd2 : ((d : Int) ≤ 0) = (d = 0) := propext ⟨fun z => by omega, fun z => by omega⟩
  have hd3 : (0 < d) = ¬ (d = 0) := propext ⟨fun z => by omega, fun z => by omega⟩
  have hn : ((n : Int) = 1) = (n = 1) := propext ⟨fun z => by omega, fun z => by omega⟩
  cases b with
  | false => simp only [↓bnd_eq, ↓reduceIte, w_0, Bool.false_eq_true, Bool.false_and]
  | true =>
    by_cases c13 : kd = 13
    · by_cases c0 : d = 0
      · simp [bnd_eq, hwk, hwd, hwn, w_13, w_12, w_7, w_1, w_0, c13, c0, hd, hd2, hd3, hn]
      · simp [bnd_eq, hwk, hwd, hwn, w_13, w_12, w_7, w_1, w_0, c13, c0, hd, hd2, hd3, hn]
    · by_cases c12 : kd = 12
      · by_cases c1 : n = 1
        · simp [bnd_eq, hwk, hwd, hwn, w_13, w_12, w_7, w_1, w_0, c12, c1, hd, hd2, hd3, hn]
        · simp [bnd_eq, hwk, hwd, hwn, w_13, w_12, w_7, w_1, w_0, c12, c1, hd, hd2, hd3, hn]
      · by_cases c7 : kd = 7
        · by_cases c0 : d = 0
          · simp [bnd_eq, hwk, hwd, hwn, w_13, w_12, w_7, w_1, w_0, c7, c0, hd, hd2, hd3, hn]
          · simp [bnd_eq, hwk, hwd, hwn, w_13, w_12, w_7, w_1, w_0, c7, c0, hd, hd2, hd3, hn]
        · simp [bnd_eq, hwk, hwd, hwn, w_13, w_12, w_7, w_1, w_0, c7, c12, c13, hd, hd2, hd3, hn]
theorem iT243 {G : Int → Md → Option (Int × Md)} {kd ar : Int} {b : Bool} (hwk : w32 kd = kd) (hwa : w32 ar = ar) :
(bnd G fun J243 =>
bnd (fun  (M_242 : Md) =>
J243 0 M_242) fun J242 =>
if w32 (if b = true then (1 : Int) else 0) = 0 then
J242 M
else
bnd (fun  (M_225 : Md) =>
bnd (fun  (M_238 : Md) =>
J243 1 M_238) fun J238 =>
if ¬ w32 kd = w32 6 then
J238 M_225
else
if ¬ w32 ar = w32 2 then
J242 M_225
else
J238 M_225) fun J225 =>
if ¬ w32 kd = w32 5 then
J225 M
else
if w32 ar = w32 2 then
J225 M
else
if ¬ w32 ar = w32 4 then
J242 M
else
J225 M) = G (if (b && (decide (kd = 5 → ar = 2 ∨ ar = 4) && decide (kd = 6 → ar = 2))) = true then (1 : Int) else 0) M := by
  cases b with
  | false => simp only [↓bnd_eq, ↓reduceIte, w_0, Bool.false_eq_true, Bool.false_and]
  | true =>
    by_cases c5 : kd = 5
    · by_cases c2 : ar = 2
      · simp [bnd_eq, hwk, hwa, w_5, w_6, w_4, w_2, w_1, c5, c2]
      · by_cases c4 : ar = 4
        · simp [bnd_eq, hwk, hwa, w_5, w_6, w_4, w_2, w_1, c5, c4]
        · simp [bnd_eq, hwk, hwa, w_5, w_6, w_4, w_2, w_1, c5, c4, c2]
    · by_cases c6 : kd = 6
      · by_cases c2 : ar = 2
        · simp [bnd_eq, hwk, hwa, w_5, w_6, w_4, w_2, w_1, c6, c2]
        · simp [bnd_eq, hwk, hwa, w_5, w_6, w_4, w_2, w_1, c6, c2]
      · simp [bnd_eq, hwk, hwa, w_5, w_6, w_4, w_2, w_1, c6, c5]
theorem iT284 {G : Int → Md → Option (Int × Md)} {kd ar : Int} {b bb bm : Bool} (hwk : w32 kd = kd) (hwa : w32 ar = ar) :
(bnd G fun J284 =>
bnd (fun  (M_283 : Md) =>
J284 0 M_283) fun J283 =>
if w32 (if b = true then (1 : Int) else 0) = 0 then
J283 M
else
bnd (fun  (M_279 : Md) =>
J284 1 M_279) fun J279 =>
if w32 (if bb = true then (1 : Int) else 0) = 0 then
J279 M
else
bnd (fun  (M_267 : Md) =>
if ¬ w32 (if bm = true then (1 : Int) else 0) = 0 then
J279 M_267
else
if ¬ w32 kd = w32 7 then
J283 M_267
else
J279 M_267) fun J267 =>
if w32 ar = w32 2 then
J267 M
else
if ¬ w32 ar = w32 4 then
J279 M
else
J267 M) = G (if (b && (!bb || (decide (ar ≠ 2 ∧ ar ≠ 4) || (bm || decide (kd = 7))))) = true then (1 : Int) else 0) M := by
  cases b with
  | false => simp only [↓bnd_eq, ↓reduceIte, w_0, Bool.false_eq_true, Bool.false_and]
  | true =>
    cases bb with
    | false => simp [bnd_eq, w_0, w_1]
    | true =>
      by_cases c2 : ar = 2
      · cases bm with
        | true => simp [bnd_eq, hwa, hwk, w_0, w_1, w_2, w_4, w_7, c2]
        | false =>
          by_cases c7 : kd = 7
          · simp [bnd_eq, hwa, hwk, w_0, w_1, w_2, w_4, w_7, c2, c7]
          · simp [bnd_eq, hwa, hwk, w_0, w_1, w_2, w_4, w_7, c2, c7]
      · by_cases c4 : ar = 4
        · cases bm with
          | true => simp [bnd_eq, hwa, hwk, w_0, w_1, w_2, w_4, w_7, c4]
          | false =>
            by_cases c7 : kd = 7
            · simp [bnd_eq, hwa, hwk, w_0, w_1, w_2, w_4, w_7, c4, c7]
            · simp [bnd_eq, hwa, hwk, w_0, w_1, w_2, w_4, w_7, c4, c7]
        · simp [bnd_eq, hwa, hwk, w_0, w_1, w_2, w_4, w_7, c4, c2]
theorem iT_fit {kd ar : Int} {d : Nat} {bb : Bool} (h4 : ((ar = -1 ∧ d = 0) ∧ bb = false) ∨ (opB ar = true ∧ 0 < d)) (hb1 : bb = true → 1 < n) :
  ((((decide (ar ≠ 10 ∨ kd = 0 ∨ kd = 7)) && (decide (kd = 13 → d = 0) && (decide (kd = 12 → n = 1) && decide (kd = 7 → 0 < d)))) && (decide (kd = 5 → ar = 2 ∨ ar = 4) && decide (kd = 6 → ar = 2))) && (!bb || (decide (ar ≠ 2 ∧ ar ≠ 4) || (decide (kd = 5 ∨ kd = 6) || decide (kd = 7))))) = fitB n kd ar bb := by
  have hn : bb = true → ¬ n = 1 := fun z => by have := hb1 z; omega
  have hk : kd = 0 ∨ kd = 5 ∨ kd = 6 ∨ kd = 7 ∨ kd = 12 ∨ kd = 13 ∨ ((kd ≠ 0 ∧ kd ≠ 5 ∧ kd ≠ 6) ∧ kd ≠ 7 ∧ kd ≠ 12 ∧ kd ≠ 13) := by omega
  unfold fitB
  rcases h4 with ⟨⟨e, e0⟩, eb⟩ | ⟨e, e0⟩
  · subst e e0 eb
    rcases hk with z | z | z | z | z | z | ⟨⟨z, z5, z6⟩, z7, z8, z9⟩
    all_goals simp [*]
  · have e1 : ¬ d = 0 := by omega
    rcases opB_cases e with e | e | e | e | e | e <;> subst e <;> cases bb
    all_goals rcases hk with z | z | z | z | z | z | ⟨⟨z, z5, z6⟩, z7, z8, z9⟩
    all_goals (first | (simp [*]; done) | (have hnn := hn rfl; simp [*]; done))
end MTX2
