/-! THE CODES of a macro -/
def cdM (kd v : Nat) : List Int := if kd = 2 then [2000 + (v : Int), 7000] else if kd = 5 then [4004, 5000, (v : Int), 7000] else if kd = 6 then [4005, 5000, (v : Int), 7000] else if kd = 7 then [4003, 5000, (v : Int), 7000] else if kd = 8 then [8000, (v : Int), 7000] else if kd = 9 then [9000, (v : Int), 7000] else if kd = 0 then [(v : Int)] else if kd = 1 then [1000 + (v : Int)] else if kd = 3 then [11000 + (v : Int)] else if kd = 4 then [13000] else [12000 + (v : Int)]
def cdL (m : Nat) : List Int := cdM (m % 16) (m / 16)
def tks (T : List Nat) : List Int := T.flatMap cdL
theorem W_code {m k : Nat} (hm : m < 1024) (hk : k ≤ 5) : fW_code (m : Int) (k : Int) = some ((cdL m).getD k (-1), ()) := by
  unfold fW_code cdL
  have hv : m / 16 < 64 := by omega
  have hd : m % 16 < 16 := by omega
  rw [remI_of (by omega) (by omega) (by decide) (by decide), divI_of (by omega) (by omega) (by decide) (by decide), show (m : Int) % 16 = ((m % 16 : Nat) : Int) by omega, show (m : Int) / 16 = ((m / 16 : Nat) : Int) by omega]
  generalize m % 16 = kd at *
  generalize m / 16 = v at *
  rcases (show kd = 0 ∨ kd = 1 ∨ kd = 2 ∨ kd = 3 ∨ kd = 4 ∨ kd = 5 ∨ kd = 6 ∨ kd = 7 ∨ kd = 8 ∨ kd = 9 ∨ 10 ≤ kd by omega) with e | e | e | e | e | e | e | e | e | e | e
  all_goals first | (subst e) | skip
  all_goals rcases (show k = 0 ∨ k = 1 ∨ k = 2 ∨ k = 3 ∨ k = 4 ∨ k = 5 by omega) with e2 | e2 | e2 | e2 | e2 | e2 <;> subst e2
  all_goals simp (disch := omega) only [isO, ↓bnd_eq, ↓reduceIte, ↓drf_some, ↓cal_some, ↓calx_inl, ↓calx_inr, ↓opt_some, ↓opt_none, w32_of, ix_of, inR, le_t, le_f, lt_t, lt_f, eq_t, eq_f, and_self, true_and, and_true, false_and, and_false, not_true_eq_false, not_false_eq_true, or_true, true_or, or_false, false_or, Bool.false_eq_true, cdM]
  all_goals first | rfl | (simp [cdM]; done) | (rw [if_neg (by omega), if_neg (by omega), if_neg (by omega), if_neg (by omega), if_neg (by omega), if_neg (by omega), if_neg (by omega), if_neg (by omega), if_neg (by omega), if_neg (by omega)]; rfl)
theorem cdM_len (kd v : Nat) : 1 ≤ (cdM kd v).length ∧ (cdM kd v).length ≤ 4 := by
  unfold cdM
  repeat' split
  all_goals (simp only [List.length_cons, List.length_nil]; omega)
theorem cdL_len (m : Nat) : 1 ≤ (cdL m).length ∧ (cdL m).length ≤ 4 := cdM_len _ _
theorem tks_nil : tks [] = [] := rfl
theorem tks_cons (m : Nat) (T : List Nat) : tks (m :: T) = cdL m ++ tks T := rfl
theorem tks_app (A B : List Nat) : tks (A ++ B) = tks A ++ tks B := List.flatMap_append
theorem tks_len (T : List Nat) : T.length ≤ (tks T).length ∧ (tks T).length ≤ 4 * T.length := by
  induction T with
  | nil => exact ⟨Nat.le_refl _, Nat.le_refl _⟩
  | cons m T ih =>
    have h := cdL_len m
    rw [tks_cons, List.length_append, List.length_cons]
    omega
/-- what macros are like -/
def okM (m : Nat) : Prop := m % 16 ≤ 10 ∧ (m % 16 = 0 ∨ m % 16 = 8 ∨ m % 16 = 9 → m / 16 < 60) ∧ (m % 16 = 4 → m / 16 = 0) ∧ (m % 16 ≠ 0 → m % 16 ≠ 8 → m % 16 ≠ 9 → m / 16 < 8)
def okT (T : List Nat) : Prop := (∀ m ∈ T, okM m) ∧ (2 ≤ T.length → ∀ m ∈ T, m % 16 ≠ 10)
theorem okM.lt {m : Nat} (h : okM m) : m < 1024 := by
  obtain ⟨h1, h2, h3, h4⟩ := h
  by_cases c : m % 16 = 0 ∨ m % 16 = 8 ∨ m % 16 = 9
  · have := h2 c; omega
  · have := h4 (fun z => c (Or.inl z)) (fun z => c (Or.inr (Or.inl z))) (fun z => c (Or.inr (Or.inr z))); omega
theorem okT.tm {T : List Nat} (h : okT T) (h6 : T.length ≤ 6) : TM T := ⟨h6, fun m hm => (h.1 m hm).lt⟩
theorem cdM_inj {kd v kd' v' : Nat} (h : kd ≤ 10) (hv : v < 60) (h' : kd' ≤ 10) (hv' : v' < 60) (h4 : kd = 4 → v = 0) (h4' : kd' = 4 → v' = 0) (X Y : List Int) (e : cdM kd v ++ X = cdM kd' v' ++ Y) : kd = kd' ∧ v = v' ∧ X = Y := by
  rcases (show kd = 0 ∨ kd = 1 ∨ kd = 2 ∨ kd = 3 ∨ kd = 4 ∨ kd = 5 ∨ kd = 6 ∨ kd = 7 ∨ kd = 8 ∨ kd = 9 ∨ kd = 10 by omega) with a | a | a | a | a | a | a | a | a | a | a <;> subst a <;>
  rcases (show kd' = 0 ∨ kd' = 1 ∨ kd' = 2 ∨ kd' = 3 ∨ kd' = 4 ∨ kd' = 5 ∨ kd' = 6 ∨ kd' = 7 ∨ kd' = 8 ∨ kd' = 9 ∨ kd' = 10 by omega) with a | a | a | a | a | a | a | a | a | a | a <;> subst a <;>
  simp only [cdM, Nat.reduceEqDiff, ↓reduceIte, List.cons_append, List.nil_append, List.cons.injEq] at e <;> first | (exfalso; omega) | exact ⟨rfl, by omega, e.2⟩ | exact ⟨rfl, by omega, e.2.2⟩ | exact ⟨rfl, by omega, e.2.2.2⟩ | exact ⟨rfl, by omega, e.2.2.2.2⟩ | (have := h4 rfl; have := h4' rfl; exact ⟨rfl, by omega, e.2⟩)
theorem okM.v60 {m : Nat} (h : okM m) : m / 16 < 60 := by
  obtain ⟨h1, h2, h3, h4⟩ := h
  by_cases c : m % 16 = 0 ∨ m % 16 = 8 ∨ m % 16 = 9
  · exact h2 c
  · have := h4 (fun z => c (Or.inl z)) (fun z => c (Or.inr (Or.inl z))) (fun z => c (Or.inr (Or.inr z))); omega
theorem tks_inj : ∀ (A B : List Nat), (∀ m ∈ A, okM m) → (∀ m ∈ B, okM m) → tks A = tks B → A = B := by
  intro A
  induction A with
  | nil =>
    intro B _ _ e
    cases B with
    | nil => rfl
    | cons m B =>
      have h := (cdL_len m).1
      have := congrArg List.length e
      rw [tks_cons, List.length_append] at this
      have h0 : (tks []).length = 0 := rfl
      omega
  | cons m A ih =>
    intro B hA hB e
    cases B with
    | nil =>
      have h := (cdL_len m).1
      have := congrArg List.length e
      rw [tks_cons, List.length_append] at this
      have h0 : (tks []).length = 0 := rfl
      omega
    | cons m' B =>
      rw [tks_cons, tks_cons] at e
      have a := hA m List.mem_cons_self
      have b := hB m' List.mem_cons_self
      obtain ⟨c1, c2, c3⟩ := cdM_inj a.1 a.v60 b.1 b.v60 a.2.2.1 b.2.2.1 _ _ e
      rw [ih B (fun x hx => hA x (List.mem_cons_of_mem _ hx)) (fun x hx => hB x (List.mem_cons_of_mem _ hx)) c3, show m = m' by omega]
