/-! INTS: the pure functions of ints, where the numbers are small -/
theorem bnd_eq {α β : Type} (a : α) (f : α → β) : bnd a f = f a := rfl
theorem cal_some {ρ2 ρ S : Type} (r : ρ2) (σ : S) (f : ρ2 → S → Option (ρ × S)) : cal (some (r, σ)) f = f r σ := rfl
theorem cal_of {ρ2 ρ S : Type} {X : Option (ρ2 × S)} {r : ρ2} {σ : S} (h : X = some (r, σ)) (f : ρ2 → S → Option (ρ × S)) : cal X f = f r σ := by rw [h]; rfl
theorem calx_inl {α ρ S : Type} (r : α) (σ : S) (f : α → S → Option ((ρ ⊕ Nat) × S)) : calx (some (.inl r, σ)) f = f r σ := rfl
theorem calx_inr {α ρ S : Type} (e : Nat) (σ : S) (f : α → S → Option ((ρ ⊕ Nat) × S)) : calx (some (.inr e, σ)) f = some (.inr e, σ) := rfl
theorem calx_of {α ρ S : Type} {X : Option ((α ⊕ Nat) × S)} {r : α} {σ : S} (h : X = some (.inl r, σ)) (f : α → S → Option ((ρ ⊕ Nat) × S)) : calx X f = f r σ := by rw [h]; rfl
theorem calx_ofx {α ρ S : Type} {X : Option ((α ⊕ Nat) × S)} {e : Nat} {σ : S} (h : X = some (.inr e, σ)) (f : α → S → Option ((ρ ⊕ Nat) × S)) : calx X f = some (.inr e, σ) := by rw [h]; rfl
theorem drf_some {α : Type} (a : Nat) (f : Nat → Option α) : drf (some a) f = f a := rfl
theorem opt_some {α : Type} (a : Nat) (x : α) (f : Nat → α) : opt (some a) x f = f a := rfl
theorem opt_none {α : Type} (x : α) (f : Nat → α) : opt none x f = x := rfl
theorem eq_t {x y : Int} (h : x = y) : (x = y) = True := eq_true h
theorem eq_f {x y : Int} (h : x ≠ y) : (x = y) = False := eq_false h
theorem le_t {x y : Int} (h : x ≤ y) : (x ≤ y) = True := eq_true h
theorem le_f {x y : Int} (h : y < x) : (x ≤ y) = False := eq_false (by omega)
theorem lt_t {x y : Int} (h : x < y) : (x < y) = True := eq_true h
theorem lt_f {x y : Int} (h : y ≤ x) : (x < y) = False := eq_false (by omega)
theorem inR_t {i : Int} {n : Nat} (h : 0 ≤ i) (h2 : i < (n : Int)) (hn : n < 2147483649) : inR i n = True := eq_true ⟨by rw [w32_of (by omega) (by omega)]; exact h, by rw [w32_of (by omega) (by omega)]; exact h2⟩
theorem isO_t {C : Cd} {a c : Nat} (h : isO C a c) : isO C a c = True := eq_true h
theorem and_t {a b : Prop} (h : a) (h2 : b) : (a ∧ b) = True := eq_true ⟨h, h2⟩
theorem w32_n {n : Nat} (h : n < 2147483648) : w32 (n : Int) = (n : Int) := w32_of (by omega) (by omega)
theorem w32_w (x : Int) : w32 (w32 x) = w32 x := by
  unfold w32
  rw [Int32.ofInt_toInt]
theorem ix_of {i : Int} (h : 0 ≤ i) (h2 : i < 2147483648) : ix i = i.toNat := by
  unfold ix
  rw [w32_of (by omega) h2]
theorem ix_n {n : Nat} (h : n < 2147483648) : ix (n : Int) = n := by
  rw [ix_of (by omega) (by omega)]
  omega
theorem ix_eq {i : Int} {n : Nat} (h : i = (n : Int)) (h2 : n < 2147483648) : ix i = n := by rw [h, ix_n h2]
/-- a loop's rule: P m says that the loop does right where less than m is left to do -/
theorem lpn_rule {α : Type} {z : α} {body : α → α} (P : Nat → α → Prop) (h0 : P 0 z) (hs : ∀ m L, P m L → P (m + 1) (body L)) : ∀ n, P n (lpn z body n) := by
  intro n
  induction n with
  | zero => exact h0
  | succ n ih => exact hs n _ ih
theorem oN (n : Nat) : Int32.ofInt (n : Int) = nI n := by
  first
    | exact Int32.ofInt_eq_ofNat
    | exact Int32.ofInt_eq_ofNat n
    | (unfold nI; simp)
theorem nI_T {n : Nat} (h : n < 2147483648) : (nI n).toInt = (n : Int) := nI_toInt (by omega)
theorem divI_N {a d : Nat} (ha : a < 2147483648) (h0 : 0 < d) (hd : d < 2147483648) : divI (a : Int) (d : Int) = ((a / d : Nat) : Int) := by
  unfold divI
  rw [oN, oN, pk_div (by omega) h0 (by omega)]
  exact nI_T (Nat.lt_of_le_of_lt (Nat.div_le_self _ _) ha)
theorem remI_N {a d : Nat} (ha : a < 2147483648) (h0 : 0 < d) (hd : d < 2147483648) : remI (a : Int) (d : Int) = ((a % d : Nat) : Int) := by
  unfold remI
  rw [oN, oN, pk_rem (by omega) h0 (by omega)]
  exact nI_T (Nat.lt_of_le_of_lt (Nat.mod_le _ _) ha)
theorem divI_of {x d : Int} (h : 0 ≤ x) (hx : x < 2147483648) (h0 : 0 < d) (hd : d < 2147483648) : divI x d = x / d := by
  obtain ⟨a, rfl⟩ := Int.eq_ofNat_of_zero_le h
  obtain ⟨b, rfl⟩ := Int.eq_ofNat_of_zero_le (Int.le_of_lt h0)
  rw [divI_N (by omega) (by omega) (by omega)]
  exact Int.natCast_ediv a b
theorem remI_of {x d : Int} (h : 0 ≤ x) (hx : x < 2147483648) (h0 : 0 < d) (hd : d < 2147483648) : remI x d = x % d := by
  obtain ⟨a, rfl⟩ := Int.eq_ofNat_of_zero_le h
  obtain ⟨b, rfl⟩ := Int.eq_ofNat_of_zero_le (Int.le_of_lt h0)
  rw [remI_N (by omega) (by omega) (by omega)]
  exact Int.natCast_emod a b
theorem za_and (a b : Nat) : nI a &&& nI b = nI (a &&& b) := by
  apply Int32.toBitVec_inj.1
  show BitVec.ofNat 32 a &&& BitVec.ofNat 32 b = BitVec.ofNat 32 (a &&& b)
  apply BitVec.eq_of_getLsbD_eq
  intro i hi
  simp [hi]
theorem za_or (a b : Nat) : nI a ||| nI b = nI (a ||| b) := by
  apply Int32.toBitVec_inj.1
  show BitVec.ofNat 32 a ||| BitVec.ofNat 32 b = BitVec.ofNat 32 (a ||| b)
  apply BitVec.eq_of_getLsbD_eq
  intro i hi
  simp [hi]
theorem za_xor (a b : Nat) : nI a ^^^ nI b = nI (a ^^^ b) := by
  apply Int32.toBitVec_inj.1
  show BitVec.ofNat 32 a ^^^ BitVec.ofNat 32 b = BitVec.ofNat 32 (a ^^^ b)
  apply BitVec.eq_of_getLsbD_eq
  intro i hi
  simp [hi]
theorem n31 {a : Nat} (h : a < 2147483648) : a < 2 ^ 31 := by omega
theorem andI_N {a b : Nat} (ha : a < 2147483648) : andI (a : Int) (b : Int) = ((a &&& b : Nat) : Int) := by
  unfold andI
  rw [oN, oN, za_and]
  exact nI_T (Nat.lt_of_le_of_lt Nat.and_le_left ha)
theorem orI_N {a b : Nat} (ha : a < 2147483648) (hb : b < 2147483648) : orI (a : Int) (b : Int) = ((a ||| b : Nat) : Int) := by
  unfold orI
  rw [oN, oN, za_or]
  have h := Nat.or_lt_two_pow (n31 ha) (n31 hb)
  exact nI_T (by omega)
theorem xorI_N {a b : Nat} (ha : a < 2147483648) (hb : b < 2147483648) : xorI (a : Int) (b : Int) = ((a ^^^ b : Nat) : Int) := by
  unfold xorI
  rw [oN, oN, za_xor]
  have h := Nat.xor_lt_two_pow (n31 ha) (n31 hb)
  exact nI_T (by omega)
theorem sh_k : ∀ k, k < 32 → ((nI k &&& (31 : Int32)).toBitVec.smod 32).toNat = k := by decide +kernel
theorem shlI_N {n k : Nat} (hk : k < 32) (h : n * 2 ^ k < 2147483648) : shlI (n : Int) (k : Int) = ((n * 2 ^ k : Nat) : Int) := by
  unfold shlI
  rw [oN, oN, pk_shlN _ k (sh_k k hk) (by omega)]
  exact nI_T h
theorem shrI_N {n k : Nat} (hk : k < 32) (h : n < 2147483648) : shrI (n : Int) (k : Int) = ((n / 2 ^ k : Nat) : Int) := by
  unfold shrI
  rw [oN, oN, pk_shrN (n31 h) _ k (sh_k k hk)]
  exact nI_T (Nat.lt_of_le_of_lt (Nat.div_le_self _ _) h)
theorem and1_bit (n k : Nat) : (n / 2 ^ k) &&& 1 = if n.testBit k then 1 else 0 := by
  have h : (n / 2 ^ k) &&& 1 = (n / 2 ^ k) % 2 := by
    have h1 := Nat.and_two_pow_sub_one_eq_mod (n / 2 ^ k) 1
    simpa using h1
  rw [h, Nat.testBit_eq_decide_div_mod_eq]
  by_cases h2 : n / 2 ^ k % 2 = 1
  · rw [h2]; simp
  · have h3 : n / 2 ^ k % 2 = 0 := by omega
    rw [h3]; simp
/-- a bit of a set of small numbers -/
theorem bitI_N {n k : Nat} (hk : k < 32) (h : n < 2147483648) : andI (shrI (n : Int) (k : Int)) 1 = if n.testBit k then 1 else 0 := by
  rw [shrI_N hk h]
  have h1 : (1 : Int) = ((1 : Nat) : Int) := rfl
  rw [h1, andI_N (Nat.lt_of_le_of_lt (Nat.div_le_self _ _) h), and1_bit]
  by_cases hb : n.testBit k
  · simp [hb]
  · simp [hb]
theorem two_N {k : Nat} (hk : k < 31) : shlI 1 (k : Int) = ((2 ^ k : Nat) : Int) := by
  have h1 : (1 : Int) = ((1 : Nat) : Int) := rfl
  have h2 : (2 : Nat) ^ k < 2 ^ 31 := Nat.pow_lt_pow_right (by decide) hk
  rw [h1, shlI_N (by omega) (by omega), Nat.one_mul]
/-- the numbers of a row of bits -/
def mks (p : Nat → Bool) : Nat → Nat
  | 0 => 0
  | n + 1 => if p n then mks p n ||| 2 ^ n else mks p n
theorem mks_bit (p : Nat → Bool) (n i : Nat) : (mks p n).testBit i = (decide (i < n) && p i) := by
  induction n with
  | zero => simp [mks]
  | succ n ih =>
    unfold mks
    by_cases hp : p n = true
    · rw [if_pos hp, Nat.testBit_or, ih, Nat.testBit_two_pow]
      by_cases h1 : n = i
      · subst h1; simp [hp]
      · have h2 : (i < n + 1) ↔ (i < n) := by omega
        simp [h1, h2]
    · rw [if_neg hp, ih]
      by_cases h1 : i = n
      · subst h1; simp [hp]
      · have h2 : (i < n + 1) ↔ (i < n) := by omega
        simp [h2]
theorem mks_lt (p : Nat → Bool) (n : Nat) : mks p n < 2 ^ n := by
  apply Nat.lt_pow_two_of_testBit
  intro i hi
  rw [mks_bit]
  simp [Nat.not_lt.mpr hi]
theorem mks_congr {p q : Nat → Bool} {n : Nat} (h : ∀ i, i < n → p i = q i) : mks p n = mks q n := by
  apply Nat.eq_of_testBit_eq
  intro i
  rw [mks_bit, mks_bit]
  by_cases h1 : i < n
  · simp [h1, h i h1]
  · simp [h1]
theorem mks_le {p : Nat → Bool} {n m : Nat} (h : n ≤ m) (hm : m < 31) : mks p n < 2147483648 := by
  have h1 := mks_lt p n
  have h2 : (2 : Nat) ^ n ≤ 2 ^ m := Nat.pow_le_pow_right (by decide) h
  have h3 : (2 : Nat) ^ m < 2 ^ 31 := Nat.pow_lt_pow_right (by decide) hm
  omega
/-- a set with a number more -/
theorem mks_put {p : Nat → Bool} {n : Nat} (hn : n < 30) (hp : p n = true) : orI ((mks p n : Nat) : Int) (shlI 1 (n : Int)) = ((mks p (n + 1) : Nat) : Int) := by
  have h2 : (2 : Nat) ^ n < 2 ^ 31 := Nat.pow_lt_pow_right (by decide) (by omega)
  rw [two_N (by omega), orI_N (mks_le (Nat.le_refl n) (by omega)) (by omega)]
  unfold mks
  rw [if_pos hp]
  cases n <;> rfl
theorem mks_skip {p : Nat → Bool} {n : Nat} (hp : p n = false) : mks p (n + 1) = mks p n := by
  conv => lhs; unfold mks
  rw [hp]
  rfl
/-- all numbers of a set: none where it is 0 -/
theorem set_zero {n : Nat} : n = 0 ↔ ∀ i, n.testBit i = false := by
  constructor
  · intro h i
    rw [h]; exact Nat.zero_testBit i
  · intro h
    apply Nat.eq_of_testBit_eq
    intro i
    rw [h i, Nat.zero_testBit]
theorem or_lt {a b k : Nat} (ha : a < 2 ^ k) (hb : b < 2 ^ k) : a ||| b < 2 ^ k := Nat.or_lt_two_pow ha hb
theorem two_lt {k n : Nat} (h : k < n) : 2 ^ k < 2 ^ n := Nat.pow_lt_pow_right (by decide) h
theorem bit_two (k i : Nat) : (2 ^ k).testBit i = decide (k = i) := Nat.testBit_two_pow
