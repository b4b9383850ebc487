/-! ACCESS: what a changed state holds -/
theorem cI_I1 (C : Cd) (k a : Nat) (v : Int) : cI (cSetI C k a v) k a = v := if_pos ⟨rfl, rfl⟩
theorem cI_I2 (C : Cd) {k k' a a' : Nat} (v : Int) (h : k' ≠ k ∨ a' ≠ a) : cI (cSetI C k a v) k' a' = cI C k' a' := if_neg (fun q => h.elim (fun z => z q.1) (fun z => z q.2))
theorem cI_I3 (C : Cd) (k k' a a' : Nat) (v : Int) : cI (cSetI C k a v) k' a' = if k' = k ∧ a' = a then v else cI C k' a' := rfl
theorem cR_I (C : Cd) (k a : Nat) (v : Int) : cR (cSetI C k a v) = cR C := rfl
theorem cE_I (C : Cd) (k a : Nat) (v : Int) : cE (cSetI C k a v) = cE C := rfl
theorem cP_I (C : Cd) (k a : Nat) (v : Int) : cP (cSetI C k a v) = cP C := rfl
theorem cn_I (C : Cd) (k a : Nat) (v : Int) : cn (cSetI C k a v) = cn C := rfl
theorem cty_I (C : Cd) (k a : Nat) (v : Int) : cty (cSetI C k a v) = cty C := rfl
theorem cL_I (C : Cd) (k a : Nat) (v : Int) : cL (cSetI C k a v) = cL C := rfl
theorem csz_I (C : Cd) (k a : Nat) (v : Int) : csz (cSetI C k a v) = csz C := rfl
theorem csl_I (C : Cd) (k a : Nat) (v : Int) : csl (cSetI C k a v) = csl C := rfl
theorem isO_I (C : Cd) (k a : Nat) (v : Int) (b t : Nat) : isO (cSetI C k a v) b t = isO C b t := rfl
theorem cI_R (C : Cd) (k a : Nat) (v : Option Nat) : cI (cSetR C k a v) = cI C := rfl
theorem cR_R1 (C : Cd) (k a : Nat) (v : Option Nat) : cR (cSetR C k a v) k a = v := if_pos ⟨rfl, rfl⟩
theorem cR_R2 (C : Cd) {k k' a a' : Nat} (v : Option Nat) (h : k' ≠ k ∨ a' ≠ a) : cR (cSetR C k a v) k' a' = cR C k' a' := if_neg (fun q => h.elim (fun z => z q.1) (fun z => z q.2))
theorem cR_R3 (C : Cd) (k k' a a' : Nat) (v : Option Nat) : cR (cSetR C k a v) k' a' = if k' = k ∧ a' = a then v else cR C k' a' := rfl
theorem cE_R (C : Cd) (k a : Nat) (v : Option Nat) : cE (cSetR C k a v) = cE C := rfl
theorem cP_R (C : Cd) (k a : Nat) (v : Option Nat) : cP (cSetR C k a v) = cP C := rfl
theorem cn_R (C : Cd) (k a : Nat) (v : Option Nat) : cn (cSetR C k a v) = cn C := rfl
theorem cty_R (C : Cd) (k a : Nat) (v : Option Nat) : cty (cSetR C k a v) = cty C := rfl
theorem cL_R (C : Cd) (k a : Nat) (v : Option Nat) : cL (cSetR C k a v) = cL C := rfl
theorem csz_R (C : Cd) (k a : Nat) (v : Option Nat) : csz (cSetR C k a v) = csz C := rfl
theorem csl_R (C : Cd) (k a : Nat) (v : Option Nat) : csl (cSetR C k a v) = csl C := rfl
theorem isO_R (C : Cd) (k a : Nat) (v : Option Nat) (b t : Nat) : isO (cSetR C k a v) b t = isO C b t := rfl
theorem cI_E (C : Cd) (k a : Nat) (v : Int) : cI (cSetE C k a v) = cI C := rfl
theorem cR_E (C : Cd) (k a : Nat) (v : Int) : cR (cSetE C k a v) = cR C := rfl
theorem cE_E1 (C : Cd) (k a : Nat) (v : Int) : cE (cSetE C k a v) k a = v := if_pos ⟨rfl, rfl⟩
theorem cE_E2 (C : Cd) {k k' a a' : Nat} (v : Int) (h : k' ≠ k ∨ a' ≠ a) : cE (cSetE C k a v) k' a' = cE C k' a' := if_neg (fun q => h.elim (fun z => z q.1) (fun z => z q.2))
theorem cE_E3 (C : Cd) (k k' a a' : Nat) (v : Int) : cE (cSetE C k a v) k' a' = if k' = k ∧ a' = a then v else cE C k' a' := rfl
theorem cP_E (C : Cd) (k a : Nat) (v : Int) : cP (cSetE C k a v) = cP C := rfl
theorem cn_E (C : Cd) (k a : Nat) (v : Int) : cn (cSetE C k a v) = cn C := rfl
theorem cty_E (C : Cd) (k a : Nat) (v : Int) : cty (cSetE C k a v) = cty C := rfl
theorem cL_E (C : Cd) (k a : Nat) (v : Int) : cL (cSetE C k a v) = cL C := rfl
theorem csz_E (C : Cd) (k a : Nat) (v : Int) : csz (cSetE C k a v) = csz C := rfl
theorem csl_E (C : Cd) (k a : Nat) (v : Int) : csl (cSetE C k a v) = csl C := rfl
theorem isO_E (C : Cd) (k a : Nat) (v : Int) (b t : Nat) : isO (cSetE C k a v) b t = isO C b t := rfl
theorem cI_P (C : Cd) (k a : Nat) (v : Option Nat) : cI (cSetP C k a v) = cI C := rfl
theorem cR_P (C : Cd) (k a : Nat) (v : Option Nat) : cR (cSetP C k a v) = cR C := rfl
theorem cE_P (C : Cd) (k a : Nat) (v : Option Nat) : cE (cSetP C k a v) = cE C := rfl
theorem cP_P1 (C : Cd) (k a : Nat) (v : Option Nat) : cP (cSetP C k a v) k a = v := if_pos ⟨rfl, rfl⟩
theorem cP_P2 (C : Cd) {k k' a a' : Nat} (v : Option Nat) (h : k' ≠ k ∨ a' ≠ a) : cP (cSetP C k a v) k' a' = cP C k' a' := if_neg (fun q => h.elim (fun z => z q.1) (fun z => z q.2))
theorem cP_P3 (C : Cd) (k k' a a' : Nat) (v : Option Nat) : cP (cSetP C k a v) k' a' = if k' = k ∧ a' = a then v else cP C k' a' := rfl
theorem cn_P (C : Cd) (k a : Nat) (v : Option Nat) : cn (cSetP C k a v) = cn C := rfl
theorem cty_P (C : Cd) (k a : Nat) (v : Option Nat) : cty (cSetP C k a v) = cty C := rfl
theorem cL_P (C : Cd) (k a : Nat) (v : Option Nat) : cL (cSetP C k a v) = cL C := rfl
theorem csz_P (C : Cd) (k a : Nat) (v : Option Nat) : csz (cSetP C k a v) = csz C := rfl
theorem csl_P (C : Cd) (k a : Nat) (v : Option Nat) : csl (cSetP C k a v) = csl C := rfl
theorem isO_P (C : Cd) (k a : Nat) (v : Option Nat) (b t : Nat) : isO (cSetP C k a v) b t = isO C b t := rfl
def Wf (C : Cd) : Prop := ∀ a, a ∈ cL C → a < csz C
theorem cI_N1 (C : Cd) (c : Nat) (k : Nat) : cI (cNew C c) k (csz C) = 0 := if_pos rfl
theorem cI_N2 (C : Cd) (c : Nat) {k a : Nat} (h : a ≠ csz C) : cI (cNew C c) k a = cI C k a := if_neg h
theorem cR_N1 (C : Cd) (c : Nat) (k : Nat) : cR (cNew C c) k (csz C) = none := if_pos rfl
theorem cR_N2 (C : Cd) (c : Nat) {k a : Nat} (h : a ≠ csz C) : cR (cNew C c) k a = cR C k a := if_neg h
theorem cE_N (C : Cd) (c : Nat) : cE (cNew C c) = cE C := rfl
theorem cP_N (C : Cd) (c : Nat) : cP (cNew C c) = cP C := rfl
theorem cn_N (C : Cd) (c : Nat) : cn (cNew C c) = cn C := rfl
theorem cty_N1 (C : Cd) (c : Nat) : cty (cNew C c) (csz C) = c := if_pos rfl
theorem cty_N2 (C : Cd) (c : Nat) {a : Nat} (h : a ≠ csz C) : cty (cNew C c) a = cty C a := if_neg h
theorem cL_N (C : Cd) (c : Nat) : cL (cNew C c) = cL C ++ [csz C] := rfl
theorem csz_N (C : Cd) (c : Nat) : csz (cNew C c) = csz C + 1 := rfl
theorem csl_N (C : Cd) (c : Nat) : csl (cNew C c) = csl C + nF c := rfl
theorem isO_N1 (C : Cd) (c : Nat) : isO (cNew C c) (csz C) c := ⟨List.mem_append_right _ (List.mem_singleton.mpr rfl), if_pos rfl⟩
theorem isO_N2 {C : Cd} (W : Wf C) (c : Nat) {a t : Nat} (h : isO C a t) : isO (cNew C c) a t := ⟨List.mem_append_left _ h.1, (if_neg (Nat.ne_of_lt (W a h.1))).trans h.2⟩
theorem Wf_N {C : Cd} (W : Wf C) (c : Nat) : Wf (cNew C c) := fun a h => by
  rcases List.mem_append.mp h with h | h
  · exact Nat.lt_succ_of_lt (W a h)
  · rw [List.mem_singleton.mp h]; exact Nat.lt_succ_self _
theorem cI_A (C : Cd) (c n : Nat) : cI (cNewA C c n) = cI C := rfl
theorem cR_A (C : Cd) (c n : Nat) : cR (cNewA C c n) = cR C := rfl
theorem cE_A1 (C : Cd) (c n : Nat) (i : Nat) : cE (cNewA C c n) (csz C) i = 0 := if_pos rfl
theorem cE_A2 (C : Cd) (c n : Nat) {a i : Nat} (h : a ≠ csz C) : cE (cNewA C c n) a i = cE C a i := if_neg h
theorem cP_A1 (C : Cd) (c n : Nat) (i : Nat) : cP (cNewA C c n) (csz C) i = none := if_pos rfl
theorem cP_A2 (C : Cd) (c n : Nat) {a i : Nat} (h : a ≠ csz C) : cP (cNewA C c n) a i = cP C a i := if_neg h
theorem cn_A1 (C : Cd) (c n : Nat) : cn (cNewA C c n) (csz C) = n := if_pos rfl
theorem cn_A2 (C : Cd) (c n : Nat) {a : Nat} (h : a ≠ csz C) : cn (cNewA C c n) a = cn C a := if_neg h
theorem cty_A1 (C : Cd) (c n : Nat) : cty (cNewA C c n) (csz C) = c := if_pos rfl
theorem cty_A2 (C : Cd) (c n : Nat) {a : Nat} (h : a ≠ csz C) : cty (cNewA C c n) a = cty C a := if_neg h
theorem cL_A (C : Cd) (c n : Nat) : cL (cNewA C c n) = cL C ++ [csz C] := rfl
theorem csz_A (C : Cd) (c n : Nat) : csz (cNewA C c n) = csz C + 1 := rfl
theorem csl_A (C : Cd) (c n : Nat) : csl (cNewA C c n) = csl C + n := rfl
theorem isO_A1 (C : Cd) (c n : Nat) : isO (cNewA C c n) (csz C) c := ⟨List.mem_append_right _ (List.mem_singleton.mpr rfl), if_pos rfl⟩
theorem isO_A2 {C : Cd} (W : Wf C) (c n : Nat) {a t : Nat} (h : isO C a t) : isO (cNewA C c n) a t := ⟨List.mem_append_left _ h.1, (if_neg (Nat.ne_of_lt (W a h.1))).trans h.2⟩
theorem Wf_A {C : Cd} (W : Wf C) (c n : Nat) : Wf (cNewA C c n) := fun a h => by
  rcases List.mem_append.mp h with h | h
  · exact Nat.lt_succ_of_lt (W a h)
  · rw [List.mem_singleton.mp h]; exact Nat.lt_succ_self _
theorem Wf_I {C : Cd} (W : Wf C) (k a : Nat) (v : Int) : Wf (cSetI C k a v) := W
theorem Wf_R {C : Cd} (W : Wf C) (k a : Nat) (v : Option Nat) : Wf (cSetR C k a v) := W
theorem Wf_E {C : Cd} (W : Wf C) (k a : Nat) (v : Int) : Wf (cSetE C k a v) := W
theorem Wf_P {C : Cd} (W : Wf C) (k a : Nat) (v : Option Nat) : Wf (cSetP C k a v) := W
theorem cI_B (C : Cd) : cI (cBump C) = cI C := rfl
theorem cR_B (C : Cd) : cR (cBump C) = cR C := rfl
theorem cE_B (C : Cd) : cE (cBump C) = cE C := rfl
theorem cP_B (C : Cd) : cP (cBump C) = cP C := rfl
theorem cn_B (C : Cd) : cn (cBump C) = cn C := rfl
theorem cty_B (C : Cd) : cty (cBump C) = cty C := rfl
theorem cL_B (C : Cd) : cL (cBump C) = cL C := rfl
theorem csz_B (C : Cd) : csz (cBump C) = csz C + 1 := rfl
theorem csl_B (C : Cd) : csl (cBump C) = csl C + 6 := rfl
theorem isO_B (C : Cd) (b t : Nat) : isO (cBump C) b t = isO C b t := rfl
theorem Wf_B {C : Cd} (W : Wf C) : Wf (cBump C) := fun a h => Nat.lt_succ_of_lt (W a h)
theorem p2_1 (M : Md) (k i : Nat) (x : Int) : (mPut M k i x).2 k i = x := by simp [mPut]
theorem p2_2 (M : Md) {k i k' i' : Nat} (x : Int) (h : k' ≠ k ∨ i' ≠ i) : (mPut M k i x).2 k' i' = M.2 k' i' := by
  unfold mPut
  by_cases h1 : k' = k
  · subst h1
    have h2 : ¬ i' = i := fun e => h.elim (fun z => z rfl) (fun z => z e)
    simp [h2]
  · simp [h1]
theorem p2_3 (M : Md) (k i k' i' : Nat) (x : Int) : (mPut M k i x).2 k' i' = if k' = k ∧ i' = i then x else M.2 k' i' := by
  unfold mPut
  by_cases h1 : k' = k
  · subst h1
    simp
  · simp [h1]
theorem p1_ (M : Md) (k i : Nat) (x : Int) : (mPut M k i x).1 = M.1 := rfl
theorem s1_1 (M : Md) (k : Nat) (x : Int) : (mSet M k x).1 k = x := if_pos rfl
theorem s1_2 (M : Md) {k k' : Nat} (x : Int) (h : k' ≠ k) : (mSet M k x).1 k' = M.1 k' := if_neg h
theorem s1_3 (M : Md) (k k' : Nat) (x : Int) : (mSet M k x).1 k' = if k' = k then x else M.1 k' := rfl
theorem s2_ (M : Md) (k : Nat) (x : Int) : (mSet M k x).2 = M.2 := rfl
theorem ml_0 : mLen 0 = 30 := rfl
theorem ml_3 : mLen 3 = 24 := rfl
theorem ml_4 : mLen 4 = 24 := rfl
theorem ml_6 : mLen 6 = 24 := rfl
theorem ml_9 : mLen 9 = 3600 := rfl
theorem ml_10 : mLen 10 = 120 := rfl
theorem ml_11 : mLen 11 = 120 := rfl
theorem ml_12 : mLen 12 = 120 := rfl
theorem ml_14 : mLen 14 = 2000 := rfl
theorem ml_15 : mLen 15 = 2000 := rfl
theorem ml_16 : mLen 16 = 2000 := rfl
theorem ml_17 : mLen 17 = 48 := rfl
theorem ml_18 : mLen 18 = 48 := rfl
theorem ml_19 : mLen 19 = 64 := rfl
theorem ml_20 : mLen 20 = 64 := rfl
theorem ml_21 : mLen 21 = 4 := rfl
theorem ml_23 : mLen 23 = 24 := rfl
theorem ml_24 : mLen 24 = 8 := rfl
theorem ml_25 : mLen 25 = 4 := rfl
theorem ml_26 : mLen 26 = 24 := rfl
theorem ml_27 : mLen 27 = 24 := rfl
theorem ml_28 : mLen 28 = 24 := rfl
theorem ml_29 : mLen 29 = 3600 := rfl
theorem ml_30 : mLen 30 = 24 := rfl
theorem ml_31 : mLen 31 = 24 := rfl
theorem ml_32 : mLen 32 = 24 := rfl
theorem ml_33 : mLen 33 = 24 := rfl
theorem ml_34 : mLen 34 = 24 := rfl
theorem ml_35 : mLen 35 = 24 := rfl
theorem ml_37 : mLen 37 = 61 := rfl
theorem ml_38 : mLen 38 = 61 := rfl
theorem ml_41 : mLen 41 = 41 := rfl
theorem ml_42 : mLen 42 = 41 := rfl
theorem ml_43 : mLen 43 = 41 := rfl
theorem ml_44 : mLen 44 = 41 := rfl
theorem ml_45 : mLen 45 = 410 := rfl
theorem ml_46 : mLen 46 = 410 := rfl
theorem ml_47 : mLen 47 = 410 := rfl
theorem ml_49 : mLen 49 = 1700 := rfl
theorem ml_50 : mLen 50 = 255000 := rfl
theorem ml_52 : mLen 52 = 700 := rfl
theorem ml_53 : mLen 53 = 700 := rfl
theorem ml_54 : mLen 54 = 700 := rfl
theorem ml_55 : mLen 55 = 700 := rfl
theorem ml_56 : mLen 56 = 22400 := rfl
theorem ml_57 : mLen 57 = 22400 := rfl
theorem ml_58 : mLen 58 = 22400 := rfl
theorem ml_60 : mLen 60 = 4000 := rfl
theorem ml_61 : mLen 61 = 4000 := rfl
theorem ml_62 : mLen 62 = 4000 := rfl
theorem ml_63 : mLen 63 = 4000 := rfl
theorem ml_64 : mLen 64 = 4000 := rfl
theorem ml_72 : mLen 72 = 9 := rfl
theorem ml_74 : mLen 74 = 60 := rfl
theorem ml_76 : mLen 76 = 200 := rfl
theorem ml_78 : mLen 78 = 1 := rfl
