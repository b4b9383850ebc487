/-! TEXTS: sections, likeness, ends -/
/-- an answer that says whether P -/
def BR {S : Type} (X : Option (Int × S)) (σ : S) (P : Prop) : Prop := (X = some (1, σ) ∧ P) ∨ (X = some (0, σ) ∧ ¬ P)
theorem BR.iff {S : Type} {X : Option (Int × S)} {σ : S} {P Q : Prop} (h : BR X σ P) (e : P ↔ Q) : BR X σ Q := by
  rcases h with ⟨a, b⟩ | ⟨a, b⟩
  · exact Or.inl ⟨a, e.mp b⟩
  · exact Or.inr ⟨a, fun q => b (e.mpr q)⟩
def sstG (g : Nat → Int) (s : Nat) : Nat → Nat → Nat
  | i, 0 => i
  | i, m + 1 => if g i / 1000 = 13 ∧ secs g (i + 1) = s then i else sstG g s (i + 1) m
theorem sstG_hit {g : Nat → Int} {s i : Nat} (m : Nat) (c1 : g i / 1000 = 13) (c2 : secs g i + 1 = s) : sstG g s i (m + 1) = i := by
  unfold sstG
  rw [secs_succ, if_pos c1, if_pos ⟨c1, c2⟩]
theorem sstG_miss {g : Nat → Int} {s i : Nat} (m : Nat) (c1 : g i / 1000 = 13) (c2 : ¬ secs g i + 1 = s) : sstG g s i (m + 1) = sstG g s (i + 1) m := by
  conv => lhs; unfold sstG
  rw [secs_succ, if_pos c1, if_neg (fun q => c2 q.2)]
theorem sstG_skip {g : Nat → Int} {s i : Nat} (m : Nat) (c1 : ¬ g i / 1000 = 13) : sstG g s i (m + 1) = sstG g s (i + 1) m := by
  conv => lhs; unfold sstG
  rw [if_neg (fun q => c1 q.1)]
/-- where a section begins -/
def sst (g : Nat → Int) (n s : Nat) : Nat := if s = 0 then 0 else sstG g s 0 n
theorem sstG_lo (g : Nat → Int) (s : Nat) : ∀ m i, i ≤ sstG g s i m ∧ sstG g s i m ≤ i + m := by
  intro m
  induction m with
  | zero => intro i; exact ⟨Nat.le_refl _, Nat.le_refl _⟩
  | succ m ih =>
    intro i
    unfold sstG
    by_cases h : g i / 1000 = 13 ∧ secs g (i + 1) = s
    · rw [if_pos h]; omega
    · rw [if_neg h]
      have := ih (i + 1)
      omega
theorem sst_le (g : Nat → Int) (n s : Nat) : sst g n s ≤ n := by
  unfold sst
  by_cases h : s = 0
  · rw [if_pos h]; omega
  · rw [if_neg h]
    have := sstG_lo g s n 0
    omega
theorem sstG_mono (g : Nat → Int) {s t : Nat} (hst : s ≤ t) : ∀ m i, secs g i < s → sstG g s i m ≤ sstG g t i m := by
  intro m
  induction m with
  | zero => intro i _; exact Nat.le_refl _
  | succ m ih =>
    intro i hi
    unfold sstG
    by_cases h : g i / 1000 = 13 ∧ secs g (i + 1) = s
    · rw [if_pos h]
      by_cases h2 : g i / 1000 = 13 ∧ secs g (i + 1) = t
      · rw [if_pos h2]; omega
      · rw [if_neg h2]
        have := sstG_lo g t m (i + 1)
        omega
    · rw [if_neg h]
      have h3 : secs g (i + 1) < s := by
        rw [secs_succ]
        by_cases h4 : g i / 1000 = 13
        · rw [if_pos h4]
          have h5 : ¬ secs g (i + 1) = s := fun e => h ⟨h4, e⟩
          rw [secs_succ, if_pos h4] at h5
          omega
        · rw [if_neg h4]; omega
      rw [if_neg (fun q => by have := q.2; omega)]
      exact ih (i + 1) h3
theorem sst_mono (g : Nat → Int) (n : Nat) {s t : Nat} (h : s ≤ t) : sst g n s ≤ sst g n t := by
  unfold sst
  by_cases h1 : s = 0
  · rw [if_pos h1]; omega
  · rw [if_neg h1, if_neg (by omega)]
    exact sstG_mono g h n 0 (by show 0 < s; omega)
theorem secs_mono (g : Nat → Int) {i j : Nat} (h : i ≤ j) : secs g i ≤ secs g j := by
  induction j with
  | zero => have : i = 0 := by omega
            subst this; exact Nat.le_refl _
  | succ j ih =>
    rcases Nat.lt_or_ge j i with h1 | h1
    · have : i = j + 1 := by omega
      subst this; exact Nat.le_refl _
    · rw [secs_succ]
      have := ih h1
      omega
theorem sstG_end (g : Nat → Int) {s : Nat} : ∀ m i, secs g (i + m) < s → sstG g s i m = i + m := by
  intro m
  induction m with
  | zero => intro i _; rfl
  | succ m ih =>
    intro i hi
    unfold sstG
    have h1 := secs_mono g (i := i + 1) (j := i + (m + 1)) (by omega)
    rw [if_neg (fun q => by have := q.2; omega), ih (i + 1) (by rw [show i + 1 + m = i + (m + 1) by omega]; exact hi)]
    omega
theorem sst_end (g : Nat → Int) {n s : Nat} (h : secs g n < s) : sst g n s = n := by
  unfold sst
  rw [if_neg (by omega), sstG_end g n 0 (by rw [Nat.zero_add]; exact h), Nat.zero_add]
theorem secs_congr {g f : Nat → Int} {n : Nat} (h : ∀ k, k < n → g k = f k) : secs g n = secs f n := by
  induction n with
  | zero => rfl
  | succ n ih => rw [secs_succ, secs_succ, ih (fun k hk => h k (by omega)), h n (by omega)]
theorem sstG_congr {g f : Nat → Int} (s : Nat) : ∀ m i, (∀ k, k < i + m → g k = f k) → sstG g s i m = sstG f s i m := by
  intro m
  induction m with
  | zero => intro i _; rfl
  | succ m ih =>
    intro i h
    unfold sstG
    rw [h i (by omega), secs_congr (n := i + 1) (fun k hk => h k (by omega)), ih (i + 1) (fun k hk => h k (by omega))]
theorem sst_congr {g f : Nat → Int} {n : Nat} (s : Nat) (h : ∀ k, k < n → g k = f k) : sst g n s = sst f n s := by
  unfold sst
  rw [sstG_congr s n 0 (fun k hk => h k (by omega))]
theorem secs_le (g : Nat → Int) (n : Nat) : secs g n ≤ n := by
  induction n with
  | zero => exact Nat.le_refl _
  | succ n ih =>
    rw [secs_succ]
    by_cases h : g n / 1000 = 13
    · rw [if_pos h]; omega
    · rw [if_neg h]; omega
section TX3
variable {C : Cd} {a b cap capb n m : Nat} {g f : Nat → Int}
theorem TxV.kind (h : TxV C a cap g n) {k : Nat} (hk : k < n) : fX8_kindAt a (k : Int) C = some (g k / 1000, C) := by
  rw [X8_kindAt_in h.1 hk, h.2 k hk]
theorem TxV.code (h : TxV C a cap g n) {k : Nat} (hk : k < n) : fX8_codeAt a (k : Int) C = some (g k, C) := by
  rw [X8_codeAt_in h.1 hk, h.2 k hk]
theorem TxV.value (h : TxV C a cap g n) {k : Nat} (hk : k < n) : fX8_valueAt a (k : Int) C = some (g k % 1000, C) := by
  rw [X8_valueAt_in h.1 hk, h.2 k hk]
theorem TxV.starts (h : TxV C a cap g n) {k : Nat} (hk : k < n) : fX8_startsPart a (k : Int) C = some (if mkB (g k / 1000) = true then 1 else 0, C) := by
  rw [X8_startsPart_in h.1 hk, h.2 k hk]
theorem TxV.isO_ (h : TxV C a cap g n) : isO C a 11 := h.1.1.1
theorem TxV.n90 (h : TxV C a cap g n) : n ≤ 90 := Nat.le_trans h.1.2.2.1 h.1.1.2.2.2.2.2.2.2
theorem TxV.sz (h : TxV C a cap g n) : cI C 1102 a = (n : Int) := h.1.2.1
theorem X8_sections_ (h : TxV C a cap g n) : fX8_sections a C = some (((1 + secs g n : Nat) : Int), C) := by
  rw [X8_sections h.1, secs_congr h.2]
theorem X8_sectionStart_ (h : TxV C a cap g n) {s : Nat} (hs : s < 1000) : fX8_sectionStart a (s : Int) C = some ((sst g n s : Int), C) := by
  have hO := h.isO_
  have hz := h.sz
  have hn := h.n90
  unfold fX8_sectionStart sst
  by_cases h0 : s = 0
  · subst h0
    rw [if_pos rfl]
    simp (disch := omega) only [isO, ↓bnd_eq, ↓reduceIte, ↓drf_some, ↓cal_some, ↓calx_inl, ↓calx_inr, ↓opt_some, ↓opt_none, w32_of, ix_of, inR, le_t, le_f, lt_t, lt_f, eq_t, eq_f, and_self, true_and, and_true, false_and, and_false, not_true_eq_false, not_false_eq_true, or_true, true_or, or_false, false_or, Bool.false_eq_true]
    rfl
  · rw [if_neg h0]
    simp (disch := omega) only [isO, ↓bnd_eq, ↓reduceIte, ↓drf_some, ↓cal_some, ↓calx_inl, ↓calx_inr, ↓opt_some, ↓opt_none, w32_of, ix_of, inR, le_t, le_f, lt_t, lt_f, eq_t, eq_f, and_self, true_and, and_true, false_and, and_false, not_true_eq_false, not_false_eq_true, or_true, true_or, or_false, false_or, Bool.false_eq_true]
    refine (lpn_rule (P := fun m (L : Int → Int → Cd → Option (Int × Cd)) => ∀ k : Nat, k ≤ n → n - k < m → L ((secs g k : Nat) : Int) (k : Int) C = some ((sstG g s k (n - k) : Int), C)) (fun k _ h => absurd h (Nat.not_lt_zero _)) (fun m L hL k hk hm => ?_) FU) 0 (Nat.zero_le _) (by unfold FU; omega)
    rcases Nat.lt_or_ge k n with hlt | hge
    · have ht := h.tks k hlt
      have ih := hL (k + 1) hlt (by omega)
      have e2 : n - k = (n - (k + 1)) + 1 := by omega
      have hse := secs_le g k
      rw [e2]
      rw [secs_succ] at ih
      by_cases c1 : g k / 1000 = 13
      · rw [if_pos c1] at ih
        by_cases c2 : secs g k + 1 = s
        · rw [sstG_hit _ c1 c2]
          simp (disch := omega) only [isO, ↓bnd_eq, ↓reduceIte, ↓drf_some, ↓cal_some, ↓calx_inl, ↓calx_inr, ↓opt_some, ↓opt_none, w32_of, ix_of, inR, le_t, le_f, lt_t, lt_f, eq_t, eq_f, and_self, true_and, and_true, false_and, and_false, not_true_eq_false, not_false_eq_true, or_true, true_or, or_false, false_or, Bool.false_eq_true, hO, hz, ↓cal_of (h.kind hlt), c1]
        · rw [sstG_miss _ c1 c2, ← ih]
          simp (disch := omega) only [isO, ↓bnd_eq, ↓reduceIte, ↓drf_some, ↓cal_some, ↓calx_inl, ↓calx_inr, ↓opt_some, ↓opt_none, w32_of, ix_of, inR, le_t, le_f, lt_t, lt_f, eq_t, eq_f, and_self, true_and, and_true, false_and, and_false, not_true_eq_false, not_false_eq_true, or_true, true_or, or_false, false_or, Bool.false_eq_true, hO, hz, ↓cal_of (h.kind hlt), c1]
          rfl
      · rw [if_neg c1] at ih
        rw [sstG_skip _ c1, ← ih]
        simp (disch := omega) only [isO, ↓bnd_eq, ↓reduceIte, ↓drf_some, ↓cal_some, ↓calx_inl, ↓calx_inr, ↓opt_some, ↓opt_none, w32_of, ix_of, inR, le_t, le_f, lt_t, lt_f, eq_t, eq_f, and_self, true_and, and_true, false_and, and_false, not_true_eq_false, not_false_eq_true, or_true, true_or, or_false, false_or, Bool.false_eq_true, hO, hz, ↓cal_of (h.kind hlt), c1]
        rfl
    · have e : k = n := by omega
      subst e
      rw [Nat.sub_self]
      simp (disch := omega) only [isO, ↓bnd_eq, ↓reduceIte, ↓drf_some, ↓cal_some, ↓calx_inl, ↓calx_inr, ↓opt_some, ↓opt_none, w32_of, ix_of, inR, le_t, le_f, lt_t, lt_f, eq_t, eq_f, and_self, true_and, and_true, false_and, and_false, not_true_eq_false, not_false_eq_true, or_true, true_or, or_false, false_or, Bool.false_eq_true, hO, hz]
      rfl
/-- whether a section is the same in two texts -/
def SameS (g : Nat → Int) (n : Nat) (f : Nat → Int) (m s : Nat) : Prop := sst g n (s + 1) - sst g n s = sst f m (s + 1) - sst f m s ∧ ∀ i, i < sst g n (s + 1) - sst g n s → g (sst g n s + i) = f (sst f m s + i)
theorem X8_sameSection_ (h : TxV C a cap g n) (h2 : TxV C b capb f m) {s : Nat} (hs : s < 900) : BR (fX8_sameSection a (some b) (s : Int) C) C (SameS g n f m s) := by
  have hO := h.isO_
  have hO2 := h2.isO_
  have hn := h.n90
  have hn2 := h2.n90
  have l1 := sst_le g n s
  have l2 := sst_le g n (s + 1)
  have l3 := sst_le f m s
  have l4 := sst_le f m (s + 1)
  have m1 := sst_mono g n (Nat.le_succ s)
  have m2 := sst_mono f m (Nat.le_succ s)
  have q1 := X8_sectionStart_ h (s := s) (by omega)
  have q2 := X8_sectionStart_ h (s := s + 1) (by omega)
  have q3 := X8_sectionStart_ h2 (s := s) (by omega)
  have q4 := X8_sectionStart_ h2 (s := s + 1) (by omega)
  rw [show ((s + 1 : Nat) : Int) = (s : Int) + 1 from rfl] at q2 q4
  generalize hA : sst g n s = A at *
  generalize hB : sst g n (s + 1) = B at *
  generalize hD : sst f m s = D at *
  generalize hE : sst f m (s + 1) = E at *
  unfold fX8_sameSection SameS
  rw [hA, hB, hD, hE]
  simp (disch := omega) only [isO, ↓bnd_eq, ↓reduceIte, ↓drf_some, ↓cal_some, ↓calx_inl, ↓calx_inr, ↓opt_some, ↓opt_none, w32_of, ix_of, inR, le_t, le_f, lt_t, lt_f, eq_t, eq_f, and_self, true_and, and_true, false_and, and_false, not_true_eq_false, not_false_eq_true, or_true, true_or, or_false, false_or, Bool.false_eq_true, hO, hO2, ↓cal_of q1, ↓cal_of q2, ↓cal_of q3, ↓cal_of q4]
  by_cases hc : (E : Int) - D = (B : Int) - A
  · rw [if_pos hc]
    have hlen : B - A = E - D := by omega
    refine (lpn_rule (P := fun mm (L : Int → Cd → Option (Int × Cd)) => ∀ k : Nat, k ≤ B - A → (B - A) - k < mm → (∀ i, i < k → g (A + i) = f (D + i)) → BR (L (k : Int) C) C (B - A = E - D ∧ ∀ i, i < B - A → g (A + i) = f (D + i))) (fun k _ h => absurd h (Nat.not_lt_zero _)) (fun mm L hL k hk hm hpre => ?_) FU) 0 (Nat.zero_le _) (by unfold FU; omega) (fun i hi => absurd hi (Nat.not_lt_zero _))
    rcases Nat.lt_or_ge k (B - A) with hlt | hge
    · have ht := h.tks (A + k) (by omega)
      have ht2 := h2.tks (D + k) (by omega)
      have w1 := h.code (k := A + k) (by omega)
      have w2 := h2.code (k := D + k) (by omega)
      rw [show ((A + k : Nat) : Int) = (A : Int) + k from rfl] at w1
      rw [show ((D + k : Nat) : Int) = (D : Int) + k from rfl] at w2
      by_cases c2 : g (A + k) = f (D + k)
      · simp (disch := omega) only [isO, ↓bnd_eq, ↓reduceIte, ↓drf_some, ↓cal_some, ↓calx_inl, ↓calx_inr, ↓opt_some, ↓opt_none, w32_of, ix_of, inR, le_t, le_f, lt_t, lt_f, eq_t, eq_f, and_self, true_and, and_true, false_and, and_false, not_true_eq_false, not_false_eq_true, or_true, true_or, or_false, false_or, Bool.false_eq_true, hO, hO2, ↓cal_of w1, ↓cal_of w2]
        exact hL (k + 1) hlt (by omega) (fun i hi => by
          rcases Nat.lt_or_ge i k with z | z
          · exact hpre i z
          · have : i = k := by omega
            subst this; exact c2)
      · simp (disch := omega) only [isO, ↓bnd_eq, ↓reduceIte, ↓drf_some, ↓cal_some, ↓calx_inl, ↓calx_inr, ↓opt_some, ↓opt_none, w32_of, ix_of, inR, le_t, le_f, lt_t, lt_f, eq_t, eq_f, and_self, true_and, and_true, false_and, and_false, not_true_eq_false, not_false_eq_true, or_true, true_or, or_false, false_or, Bool.false_eq_true, hO, hO2, ↓cal_of w1, ↓cal_of w2]
        exact Or.inr ⟨rfl, fun q => c2 (q.2 k hlt)⟩
    · simp (disch := omega) only [isO, ↓bnd_eq, ↓reduceIte, ↓drf_some, ↓cal_some, ↓calx_inl, ↓calx_inr, ↓opt_some, ↓opt_none, w32_of, ix_of, inR, le_t, le_f, lt_t, lt_f, eq_t, eq_f, and_self, true_and, and_true, false_and, and_false, not_true_eq_false, not_false_eq_true, or_true, true_or, or_false, false_or, Bool.false_eq_true]
      exact Or.inl ⟨rfl, hlen, fun i hi => hpre i (by omega)⟩
  · rw [if_neg hc]
    exact Or.inr ⟨rfl, fun q => hc (by omega)⟩
theorem X8_sameAs_ (h : TxV C a cap g n) (h2 : TxV C b capb f m) : BR (fX8_sameAs a (some b) C) C (n = m ∧ ∀ k, k < n → g k = f k) := by
  have hO := h.isO_
  have hO2 := h2.isO_
  have hn := h.n90
  have hn2 := h2.n90
  have hz := h.sz
  have hz2 := h2.sz
  unfold fX8_sameAs
  by_cases hc : m = n
  · subst hc
    simp (disch := omega) only [isO, ↓bnd_eq, ↓reduceIte, ↓drf_some, ↓cal_some, ↓calx_inl, ↓calx_inr, ↓opt_some, ↓opt_none, w32_of, ix_of, inR, le_t, le_f, lt_t, lt_f, eq_t, eq_f, and_self, true_and, and_true, false_and, and_false, not_true_eq_false, not_false_eq_true, or_true, true_or, or_false, false_or, Bool.false_eq_true, hO, hO2, hz, hz2]
    refine (lpn_rule (P := fun mm (L : Int → Cd → Option (Int × Cd)) => ∀ k : Nat, k ≤ m → m - k < mm → (∀ i, i < k → g i = f i) → BR (L (k : Int) C) C (∀ k, k < m → g k = f k)) (fun k _ h => absurd h (Nat.not_lt_zero _)) (fun mm L hL k hk hm hpre => ?_) FU) 0 (Nat.zero_le _) (by unfold FU; omega) (fun i hi => absurd hi (Nat.not_lt_zero _))
    rcases Nat.lt_or_ge k m with hlt | hge
    · have ht := h.tks k hlt
      have ht2 := h2.tks k hlt
      by_cases c2 : g k = f k
      · simp (disch := omega) only [isO, ↓bnd_eq, ↓reduceIte, ↓drf_some, ↓cal_some, ↓calx_inl, ↓calx_inr, ↓opt_some, ↓opt_none, w32_of, ix_of, inR, le_t, le_f, lt_t, lt_f, eq_t, eq_f, and_self, true_and, and_true, false_and, and_false, not_true_eq_false, not_false_eq_true, or_true, true_or, or_false, false_or, Bool.false_eq_true, hO, hO2, hz, ↓cal_of (h.code hlt), ↓cal_of (h2.code hlt)]
        exact hL (k + 1) hlt (by omega) (fun i hi => by
          rcases Nat.lt_or_ge i k with z | z
          · exact hpre i z
          · have : i = k := by omega
            subst this; exact c2)
      · simp (disch := omega) only [isO, ↓bnd_eq, ↓reduceIte, ↓drf_some, ↓cal_some, ↓calx_inl, ↓calx_inr, ↓opt_some, ↓opt_none, w32_of, ix_of, inR, le_t, le_f, lt_t, lt_f, eq_t, eq_f, and_self, true_and, and_true, false_and, and_false, not_true_eq_false, not_false_eq_true, or_true, true_or, or_false, false_or, Bool.false_eq_true, hO, hO2, hz, ↓cal_of (h.code hlt), ↓cal_of (h2.code hlt)]
        exact Or.inr ⟨rfl, fun q => c2 (q k hlt)⟩
    · simp (disch := omega) only [isO, ↓bnd_eq, ↓reduceIte, ↓drf_some, ↓cal_some, ↓calx_inl, ↓calx_inr, ↓opt_some, ↓opt_none, w32_of, ix_of, inR, le_t, le_f, lt_t, lt_f, eq_t, eq_f, and_self, true_and, and_true, false_and, and_false, not_true_eq_false, not_false_eq_true, or_true, true_or, or_false, false_or, Bool.false_eq_true, hO, hz]
      exact Or.inl ⟨rfl, fun i hi => hpre i (by omega)⟩
  · simp (disch := omega) only [isO, ↓bnd_eq, ↓reduceIte, ↓drf_some, ↓cal_some, ↓calx_inl, ↓calx_inr, ↓opt_some, ↓opt_none, w32_of, ix_of, inR, le_t, le_f, lt_t, lt_f, eq_t, eq_f, and_self, true_and, and_true, false_and, and_false, not_true_eq_false, not_false_eq_true, or_true, true_or, or_false, false_or, Bool.false_eq_true, hO, hO2, hz, hz2]
    exact Or.inr ⟨rfl, fun q => hc q.1.symm⟩
end TX3
