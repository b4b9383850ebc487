/-! LONGS, where the numbers are small; texts as rows of macros -/
theorem cal1_of {ρ2 S2 ρ S : Type} {X : Option (ρ2 × S2)} {r : ρ2} {σ : S2} (h : X = some (r, σ)) (f : ρ2 → S2 → Option (ρ × S)) : cal1 X f = f r σ := by rw [h]; rfl
theorem cal3_of {ρ2 ρ S : Type} {X : Option (ρ2 × S3)} {r : ρ2} {E : Rw} {C : Cd} {q : Nat → Nat} (h : X = some (r, (E, C, q))) (f : ρ2 → Rw → Cd → (Nat → Nat) → Option (ρ × S)) : cal3 X f = f r E C q := by rw [h]; rfl
theorem calt_of {S2 ρ S : Type} {X : Option ((Int ⊕ Nat) × S2)} {r : Int} {σ : S2} (h : X = some (.inl r, σ)) (f : Int → S2 → Option (ρ × S)) : calt X f = f r σ := by rw [h]; rfl
theorem calh_of {S2 ρ S : Type} {X : Option ((Int ⊕ Nat) × S2)} {r : Int} {σ : S2} (h : X = some (.inl r, σ)) (f : Int → S2 → Option (ρ × S)) (g : Nat → S2 → Option (ρ × S)) : calh X f g = f r σ := by rw [h]; rfl
theorem calh_ofx {S2 ρ S : Type} {X : Option ((Int ⊕ Nat) × S2)} {e : Nat} {σ : S2} (h : X = some (.inr e, σ)) (f : Int → S2 → Option (ρ × S)) (g : Nat → S2 → Option (ρ × S)) : calh X f g = g e σ := by rw [h]; rfl
theorem cal1_some {ρ2 S2 ρ S : Type} (r : ρ2) (σ : S2) (f : ρ2 → S2 → Option (ρ × S)) : cal1 (some (r, σ)) f = f r σ := rfl
theorem w64_of {x : Int} (h1 : -9223372036854775808 ≤ x) (h2 : x < 9223372036854775808) : w64 x = x := Int64.toInt_ofInt_of_le (by omega) (by omega)
theorem lcmp_of {x y : Int} (h1 : -9223372036854775808 ≤ x ∧ x < 9223372036854775808) (h2 : -9223372036854775808 ≤ y ∧ y < 9223372036854775808) : lcmpI x y = if y < x then 1 else if x = y then 0 else -1 := by
  unfold lcmpI
  rw [w64_of h1.1 h1.2, w64_of h2.1 h2.2]
theorem w32_m1 : w32 (-1) = -1 := rfl
theorem lcmp_le {x y : Int} (h1 : -9223372036854775808 ≤ x ∧ x < 9223372036854775808) (h2 : -9223372036854775808 ≤ y ∧ y < 9223372036854775808) : (w32 (lcmpI x y) ≤ 0) ↔ x ≤ y := by
  rw [lcmp_of h1 h2]
  by_cases c : y < x
  · rw [if_pos c]
    have : w32 1 = 1 := rfl
    omega
  · rw [if_neg c]
    by_cases d : x = y
    · rw [if_pos d]
      have : w32 0 = 0 := rfl
      omega
    · rw [if_neg d, w32_m1]
      omega
/-- the same long, or another one -/
theorem lcmp_eq0 (x y : Int) : (w32 (lcmpI x y) = 0) ↔ w64 x = w64 y := by
  unfold lcmpI
  by_cases c : w64 y < w64 x
  · rw [if_pos c]
    have : w32 1 = 1 := rfl
    omega
  · rw [if_neg c]
    by_cases d : w64 x = w64 y
    · rw [if_pos d]
      exact ⟨fun _ => d, fun _ => rfl⟩
    · rw [if_neg d, w32_m1]
      omega
theorem sh64 : ∀ k : Nat, k < 64 → (((Int32.ofInt (k : Int)).toInt64 &&& 63).toBitVec.smod 64).toNat = k := by decide +kernel
theorem oL {x : Int} (h1 : -9223372036854775808 ≤ x) (h2 : x < 9223372036854775808) : (Int64.ofInt x).toInt = x := w64_of h1 h2
theorem lshr_of {x : Int} {k : Nat} (h1 : 0 ≤ x) (h2 : x < 9223372036854775808) (hk : k < 64) : lshrI x (k : Int) = x / 2 ^ k := by
  unfold lshrI
  rw [Jvm.Kit.i64_shr _ _ (sh64 k hk), oL (by omega) h2]
theorem lshl_of {x : Int} {k : Nat} (h1 : 0 ≤ x) (hk : k < 64) (h2 : x * 2 ^ k < 9223372036854775808) : lshlI x (k : Int) = x * 2 ^ k := by
  have p : (0 : Int) < 2 ^ k := Int.pow_pos (by decide)
  have q : 1 ≤ (2 : Int) ^ k := p
  have h3 : x * 1 ≤ x * 2 ^ k := Int.mul_le_mul_of_nonneg_left q h1
  have h4 : 0 ≤ x * 2 ^ k := Int.mul_nonneg h1 (Int.le_of_lt p)
  unfold lshlI
  rw [Jvm.Kit.i64_shl _ _ (sh64 k hk) (by rw [oL (by omega) (by omega)]; omega) (by rw [oL (by omega) (by omega)]; omega), oL (by omega) (by omega)]
theorem land_1023 {x : Int} (h1 : 0 ≤ x) (h2 : x < 9223372036854775808) : landI x 1023 = x % 1024 := by
  unfold landI
  rw [Jvm.Kit.i64_mask (k := 10) _ _ (by decide) (by decide +kernel), oL (by omega) h2]
  rfl
theorem lor_N {a b : Nat} (ha : a < 9223372036854775808) (hb : b < 9223372036854775808) : lorI (a : Int) (b : Int) = ((a ||| b : Nat) : Int) := by
  unfold lorI
  show ((BitVec.ofInt 64 (a : Int)) ||| (BitVec.ofInt 64 (b : Int))).toInt = _
  have h : a ||| b < 2 ^ 63 := Nat.or_lt_two_pow (show a < 2 ^ 63 by omega) (show b < 2 ^ 63 by omega)
  rw [BitVec.ofInt_natCast, BitVec.ofInt_natCast, ← BitVec.ofNat_or, BitVec.toInt_eq_toNat_of_lt (by rw [BitVec.toNat_ofNat]; omega), BitVec.toNat_ofNat, Nat.mod_eq_of_lt (by omega)]
/-- a macro more -/
theorem lor_mac {x m : Int} (h1 : 0 ≤ x) (h2 : x < 9007199254740992) (h3 : 0 ≤ m) (h4 : m < 1024) : lorI (lshlI x 10) m = x * 1024 + m := by
  have e : lshlI x 10 = x * 1024 := lshl_of (k := 10) h1 (by decide) (by show x * 1024 < _; omega)
  obtain ⟨a, rfl⟩ := Int.eq_ofNat_of_zero_le h1
  obtain ⟨b, rfl⟩ := Int.eq_ofNat_of_zero_le h3
  have e2 : (a : Int) * 1024 = ((2 ^ 10 * a : Nat) : Int) := by omega
  rw [e, e2, lor_N (by omega) (by omega), ← Nat.two_pow_add_eq_or_of_lt (show b < 2 ^ 10 by omega)]
  omega
/-- a text's long -/
def encT (T : List Nat) : Int := T.foldl (fun (a : Int) (m : Nat) => a * 1024 + (m : Int)) 1
def TM (T : List Nat) : Prop := T.length ≤ 6 ∧ ∀ m ∈ T, m < 1024
theorem encT_snoc (T : List Nat) (m : Nat) : encT (T ++ [m]) = encT T * 1024 + (m : Int) := by unfold encT; rw [List.foldl_append]; rfl
theorem encT_nil : encT [] = 1 := rfl
theorem TM.init {T : List Nat} {m : Nat} (h : TM (T ++ [m])) : TM T ∧ m < 1024 ∧ T.length ≤ 5 := by
  have h1 := h.1
  rw [List.length_append] at h1
  have h3 : T.length + 1 ≤ 6 := h1
  exact ⟨⟨by omega, fun x hx => h.2 x (List.mem_append_left _ hx)⟩, h.2 m (List.mem_append_right _ List.mem_cons_self), by omega⟩
theorem TM.snoc {T : List Nat} {m : Nat} (h : TM T) (h1 : T.length ≤ 5) (hm : m < 1024) : TM (T ++ [m]) := by
  refine ⟨by rw [List.length_append]; show T.length + 1 ≤ 6; omega, fun x hx => ?_⟩
  rcases List.mem_append.mp hx with g | g
  · exact h.2 x g
  · rw [List.mem_singleton] at g
    omega
theorem TM.nil : TM [] := ⟨by decide, fun _ h => by cases h⟩
theorem encT_rng : ∀ (n : Nat) (T : List Nat), T.length = n → (∀ m ∈ T, m < 1024) → (1024 : Int) ^ n ≤ encT T ∧ encT T < 2 * (1024 : Int) ^ n := by
  intro n
  induction n with
  | zero =>
    intro T h _
    rw [List.length_eq_zero_iff] at h
    subst h
    exact ⟨by decide, by decide⟩
  | succ n ih =>
    intro T h hm
    rcases List.eq_nil_or_concat T with e | ⟨T0, m, e⟩
    · subst e; cases h
    · rw [List.concat_eq_append] at e
      subst e
      rw [List.length_append] at h
      have h3 : T0.length + 1 = n + 1 := h
      obtain ⟨a, b⟩ := ih T0 (by omega) (fun x hx => hm x (List.mem_append_left _ hx))
      have c := hm m (List.mem_append_right _ List.mem_cons_self)
      rw [encT_snoc, Int.pow_succ]
      omega
theorem pow1024 : ∀ n : Nat, n ≤ 6 → (1 : Int) ≤ (1024 : Int) ^ n ∧ (1024 : Int) ^ n ≤ 1152921504606846976 := by decide
theorem encT_b {T : List Nat} (h : TM T) : 1 ≤ encT T ∧ encT T < 2305843009213693952 := by
  obtain ⟨a, b⟩ := encT_rng _ T rfl h.2
  obtain ⟨c, d⟩ := pow1024 _ h.1
  omega
theorem pow1024b : ∀ n : Nat, n ≤ 5 → (1024 : Int) ^ n ≤ 1125899906842624 := by decide
theorem encT_b5 {T : List Nat} (h : TM T) (h5 : T.length ≤ 5) : 1 ≤ encT T ∧ encT T < 2251799813685248 := by
  obtain ⟨a, b⟩ := encT_rng _ T rfl h.2
  obtain ⟨c, d⟩ := pow1024 _ h.1
  have := pow1024b _ h5
  omega
theorem encT_inj : ∀ (n : Nat) (T T' : List Nat), T.length = n → (∀ m ∈ T, m < 1024) → (∀ m ∈ T', m < 1024) → encT T = encT T' → T = T' := by
  intro n
  induction n with
  | zero =>
    intro T T' h h1 h2 e
    rw [List.length_eq_zero_iff] at h
    subst h
    rcases List.eq_nil_or_concat T' with e2 | ⟨T0, m, e2⟩
    · exact e2.symm
    · rw [List.concat_eq_append] at e2
      subst e2
      have r := (encT_rng _ T0 rfl (fun x hx => h2 x (List.mem_append_left _ hx))).1
      have p : (0 : Int) < 1024 ^ T0.length := Int.pow_pos (by decide)
      rw [encT_snoc, encT_nil] at e
      omega
  | succ n ih =>
    intro T T' h h1 h2 e
    rcases List.eq_nil_or_concat T with e1 | ⟨T0, m, e1⟩
    · subst e1; cases h
    · rw [List.concat_eq_append] at e1
      subst e1
      rw [List.length_append] at h
      have h3 : T0.length + 1 = n + 1 := h
      have c := h1 m (List.mem_append_right _ List.mem_cons_self)
      have r := (encT_rng _ T0 rfl (fun x hx => h1 x (List.mem_append_left _ hx))).1
      have p : (0 : Int) < 1024 ^ T0.length := Int.pow_pos (by decide)
      rcases List.eq_nil_or_concat T' with e2 | ⟨T1, m1, e2⟩
      · subst e2
        rw [encT_snoc, encT_nil] at e
        omega
      · rw [List.concat_eq_append] at e2
        subst e2
        have c1 := h2 m1 (List.mem_append_right _ List.mem_cons_self)
        rw [encT_snoc, encT_snoc] at e
        have e3 : encT T0 = encT T1 := by omega
        have e4 : m = m1 := by omega
        rw [ih T0 T1 (by omega) (fun x hx => h1 x (List.mem_append_left _ hx)) (fun x hx => h2 x (List.mem_append_left _ hx)) e3, e4]
theorem encT_iff {T T' : List Nat} (h : TM T) (h' : TM T') : encT T = encT T' ↔ T = T' := ⟨fun e => encT_inj _ T T' rfl h.2 h'.2 e, fun e => by rw [e]⟩
theorem w64_enc {T : List Nat} (h : TM T) : w64 (encT T) = encT T := by
  have := encT_b h
  exact w64_of (by omega) (by omega)
theorem encT_shr {T : List Nat} {m : Nat} (h : TM (T ++ [m])) : lshrI (encT (T ++ [m])) 10 = encT T := by
  obtain ⟨h1, h2, -⟩ := h.init
  have b := encT_b h
  have e := lshr_of (x := encT (T ++ [m])) (k := 10) (by omega) (by omega) (by decide)
  have e2 : encT (T ++ [m]) / 2 ^ 10 = encT T := by rw [encT_snoc]; show (encT T * 1024 + (m : Int)) / 1024 = encT T; omega
  exact e.trans e2
theorem W_macros {T : List Nat} (h : TM T) : fW_macros (encT T) = some ((T.length : Int), ()) := by
  unfold fW_macros
  rw [bnd_eq]
  have key := lpn_rule (z := fun (_ : Int) (_ : Int) => (none : Option (Int × Unit))) (body := fun L4 (v2_4 : Int) (v3_4 : Int) => if w32 (lcmpI v3_4 1) ≤ 0 then some (v2_4, ()) else bnd (lshrI v3_4 10) fun (x3_17 : Int) => L4 (v2_4 + 1) x3_17) (fun mm L => ∀ (T : List Nat) (c : Nat), T.length < mm → TM T → L (c : Int) (encT T) = some (((c + T.length : Nat) : Int), ())) (fun T c h _ => absurd h (Nat.not_lt_zero _)) (fun mm L hL T c hT hm => ?_) FU T 0 (by have := h.1; unfold FU; omega) h
  · rw [Nat.zero_add] at key
    exact key
  · dsimp only
    have b := encT_b hm
    rcases List.eq_nil_or_concat T with e | ⟨T0, m, e⟩
    · subst e
      rw [encT_nil, if_pos (by decide : w32 (lcmpI 1 1) ≤ 0)]
      rfl
    · rw [List.concat_eq_append] at e
      subst e
      obtain ⟨h1, h2, h3⟩ := hm.init
      have b0 := encT_b h1
      have ng : ¬ (w32 (lcmpI (encT (T0 ++ [m])) 1) ≤ 0) := fun z => by
        have z2 := (lcmp_le (x := encT (T0 ++ [m])) (y := 1) (by omega) (by omega)).mp z
        rw [encT_snoc] at z2
        omega
      rw [if_neg ng, bnd_eq, encT_shr hm]
      rw [List.length_append] at hT ⊢
      have q := hL T0 (c + 1) (by have : T0.length + 1 < mm + 1 := hT; omega) h1
      rw [show ((c : Nat) : Int) + 1 = ((c + 1 : Nat) : Int) by omega, q]
      show some (((c + 1 + T0.length : Nat) : Int), ()) = some (((c + (T0.length + 1) : Nat) : Int), ())
      rw [show c + 1 + T0.length = c + (T0.length + 1) by omega]
theorem W_macros_0 : fW_macros 0 = some (0, ()) := by
  unfold fW_macros
  rw [bnd_eq, show FU = 999999 + 1 from rfl, lpn_succ]
  exact if_pos (by decide : w32 (lcmpI 0 1) ≤ 0)
theorem encT_div : ∀ (j : Nat) (T : List Nat), j ≤ T.length → (∀ m ∈ T, m < 1024) → encT T / (1024 : Int) ^ j = encT (T.take (T.length - j)) := by
  intro j
  induction j with
  | zero =>
    intro T _ _
    rw [Int.pow_zero, Int.ediv_one, Nat.sub_zero, List.take_length]
  | succ j ih =>
    intro T h hm
    rcases List.eq_nil_or_concat T with e | ⟨T0, m, e⟩
    · subst e; cases h
    · rw [List.concat_eq_append] at e
      subst e
      have c := hm m (List.mem_append_right _ List.mem_cons_self)
      rw [List.length_append] at h
      have h3 : j + 1 ≤ T0.length + 1 := h
      have q := ih T0 (by omega) (fun x hx => hm x (List.mem_append_left _ hx))
      rw [Int.pow_succ, Int.mul_comm, ← Int.ediv_ediv_of_nonneg (by decide), encT_snoc, show (encT T0 * 1024 + (m : Int)) / 1024 = encT T0 by omega, q, List.length_append, List.take_append_of_le_length (by show T0.length + 1 - (j + 1) ≤ _; omega)]
      show _ = encT (T0.take (T0.length + 1 - (j + 1)))
      rw [show T0.length + 1 - (j + 1) = T0.length - j by omega]
theorem W_macro {T : List Nat} (h : TM T) {i : Nat} (hi : i < T.length) : fW_macro (encT T) (i : Int) = some (((T.getD i 0 : Nat) : Int), ()) := by
  unfold fW_macro
  rw [cal1_of (W_macros h)]
  have b := encT_b h
  have h6 := h.1
  have e1 : (10 : Int) * (((T.length : Int) - 1) - (i : Int)) = ((10 * (T.length - 1 - i) : Nat) : Int) := by omega
  have e2 : ((2 : Int) ^ (10 * (T.length - 1 - i))) = 1024 ^ (T.length - 1 - i) := by rw [Int.pow_mul]; rfl
  have e3 := encT_div (T.length - 1 - i) T (by omega) h.2
  have e4 : T.length - (T.length - 1 - i) = i + 1 := by omega
  rw [e4] at e3
  have hb : 1 ≤ encT (T.take (i + 1)) ∧ encT (T.take (i + 1)) < 2305843009213693952 := encT_b ⟨by rw [List.length_take]; omega, fun m hm => h.2 m (List.mem_of_mem_take hm)⟩
  rw [e1, lshr_of (by omega) (by omega) (by omega), e2, e3, land_1023 (by omega) (by omega), List.take_succ_eq_append_getElem hi, encT_snoc, List.getD_eq_getElem?_getD, List.getElem?_eq_getElem hi]
  have c := h.2 _ (List.getElem_mem hi)
  show some ((encT (T.take i) * 1024 + (T[i] : Int)) % 1024, ()) = some ((T[i] : Int), ())
  rw [show (encT (T.take i) * 1024 + (T[i] : Int)) % 1024 = (T[i] : Int) by omega]
