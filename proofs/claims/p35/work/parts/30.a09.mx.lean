/-! EXPANDING over macros, and that runX says the same -/
abbrev MSt : Type := List Int × Nat × Nat × Nat × Nat × Nat
def mSK (En : Env) (tm : Nat → List Nat) (n : Nat) (rec : List Nat → List Nat → MSt → MSt) (ts : List Nat) (A : MSt) (kd v : Nat) : MSt :=
  if kd = 2 then
    (if 40 ≤ A.2.1 then (apl A.1 9003, A.2)
    else if (wayF En 5 v 0).1 = -1 then (apl A.1 (2000 + (v : Int)), A.2.1 + 1, A.2.2.1 ||| 2 ^ v, A.2.2.2.1, A.2.2.2.2.1 ||| (wayF En 5 v 0).2, A.2.2.2.2.2)
    else if (wayF En 5 v 0).1.toNat ∈ ts then (apl A.1 9001, A.2.1 + 1, A.2.2.1, A.2.2.2.1, A.2.2.2.2.1 ||| (wayF En 5 v 0).2, A.2.2.2.2.2)
    else if n = 0 then (apl A.1 9002, A.2.1 + 1, A.2.2.1, A.2.2.2.1, A.2.2.2.2.1 ||| (wayF En 5 v 0).2, A.2.2.2.2.2)
    else rec ((wayF En 5 v 0).1.toNat :: ts) (tm (eSn En (wayF En 5 v 0).1.toNat).toNat) (A.1, A.2.1 + 1, A.2.2.1, A.2.2.2.1, A.2.2.2.2.1 ||| (wayF En 5 v 0).2, A.2.2.2.2.2))
  else if kd = 8 then (if n < 6 then (apl A.1 (v : Int), A.2) else A)
  else if kd = 9 then (if n < 6 then A else (apl A.1 (v : Int), A.2))
  else if kd = 0 then (apl A.1 (v : Int), A.2)
  else if kd = 1 ∨ kd = 10 then (apl A.1 (1000 + (v : Int)), A.2.1, A.2.2.1 ||| 2 ^ v, A.2.2.2)
  else if kd = 3 then (A.1, A.2.1, A.2.2.1, A.2.2.2.1 ||| 2 ^ v, A.2.2.2.2)
  else if kd = 5 then (apl A.1 (nBits (eMb En v) 32 : Int), A.2.1, A.2.2.1, A.2.2.2.1, A.2.2.2.2.1, A.2.2.2.2.2 ||| 2 ^ v)
  else if kd = 6 then (lsA (eMb En v) 24 0 A.1, A.2.1, A.2.2.1 ||| eMb En v, A.2.2.2.1, A.2.2.2.2.1, A.2.2.2.2.2 ||| 2 ^ v)
  else if kd = 7 then (apl A.1 (if eSn En v = -1 then 0 else 1), A.2.1, A.2.2.1, A.2.2.2.1, A.2.2.2.2.1 ||| 2 ^ v, A.2.2.2.2.2)
  else A
def mX (En : Env) (tm : Nat → List Nat) : Nat → List Nat → List Nat → MSt → MSt
  | 0, ts, T, A => T.foldl (fun A m => mSK En tm 0 (fun _ _ A => A) ts A (m % 16) (m / 16)) A
  | n + 1, ts, T, A => T.foldl (fun A m => mSK En tm (n + 1) (mX En tm n) ts A (m % 16) (m / 16)) A
def mXr (En : Env) (tm : Nat → List Nat) : Nat → List Nat → List Nat → MSt → MSt
  | 0 => fun _ _ A => A
  | n + 1 => mX En tm n
theorem mX_cons (En : Env) (tm : Nat → List Nat) (n : Nat) (ts : List Nat) (m : Nat) (T : List Nat) (A : MSt) : mX En tm n ts (m :: T) A = mX En tm n ts T (mSK En tm n (mXr En tm n) ts A (m % 16) (m / 16)) := by
  cases n with
  | zero => rfl
  | succ n => rfl
theorem mX_nil (En : Env) (tm : Nat → List Nat) (n : Nat) (ts : List Nat) (A : MSt) : mX En tm n ts [] A = A := by
  cases n with
  | zero => rfl
  | succ n => rfl
abbrev mTu (acc : List Int) (s : ASt) : MSt := (acc, aCa s, aLk s, aCt s, aRd s, aCd s)
def ChF (s : ASt) : List Nat → Nat → Prop
  | [], _ => False
  | [x], f => (aFr s f).2.1 = x ∧ (aFr s f).2.2.2.1 = -1
  | x :: y :: l, f => (aFr s f).2.1 = x ∧ ∃ c : Nat, (aFr s f).2.2.2.1 = (c : Int) ∧ c < f ∧ ChF s (y :: l) c
theorem ChF.cm {s : ASt} {x : Nat} : ∀ (ts : List Nat) (f k : Nat), ChF s ts f → ts.length ≤ k → (cmF s k f (x : Int) = true ↔ x ∈ ts) := by
  intro ts
  induction ts with
  | nil => intro f k h; exact absurd h (fun z => z)
  | cons y l ih =>
    intro f k h hk
    obtain ⟨k, rfl⟩ : ∃ k', k = k' + 1 := ⟨k - 1, by have : l.length + 1 ≤ k := hk; omega⟩
    rw [cmF]
    cases l with
    | nil =>
      obtain ⟨h1, h2⟩ := h
      rw [if_pos h2, Bool.or_false, decide_eq_true_iff, h1, List.mem_singleton]
      omega
    | cons z l =>
      obtain ⟨h1, c, h2, h3, h4⟩ := h
      rw [h2, if_neg (by omega), show ((c : Nat) : Int).toNat = c from rfl, Bool.or_eq_true, decide_eq_true_iff, ih c k h4 (by have : (z :: l).length + 1 ≤ k + 1 := hk; omega), h1, List.mem_cons (a := x) (b := y)]
      constructor
      · rintro (q | q)
        · exact Or.inl (by omega)
        · exact Or.inr q
      · rintro (q | q)
        · exact Or.inl (by omega)
        · exact Or.inr q
theorem ChF.mono {s s' : ASt} : ∀ (ts : List Nat) (f n : Nat), ChF s ts f → f < n → (∀ g, g < n → aFr s' g = aFr s g) → ChF s' ts f := by
  intro ts
  induction ts with
  | nil => intro f n h; exact absurd h (fun z => z)
  | cons y l ih =>
    intro f n h hf he
    cases l with
    | nil =>
      obtain ⟨h1, h2⟩ := h
      exact ⟨by rw [he f hf]; exact h1, by rw [he f hf]; exact h2⟩
    | cons z l =>
      obtain ⟨h1, c, h2, h3, h4⟩ := h
      exact ⟨by rw [he f hf]; exact h1, c, by rw [he f hf]; exact h2, h3, ih c n h4 (by omega) he⟩
section MXS
variable {En : Env} {g : Nat → Int} {n i : Nat}
theorem fE2 (h1 : g (i + 1) / 1000 = 7) (hn : i + 1 < n) : fE g n i = i + 1 := by
  unfold fE
  obtain ⟨m, hm⟩ : ∃ m, n - (i + 1) = m + 1 := ⟨n - (i + 1) - 1, by omega⟩
  rw [hm, fEg, if_pos ⟨rfl, Or.inl h1⟩]
theorem fE3 (h1 : g (i + 1) / 1000 = 0) (h2 : g (i + 2) / 1000 = 7) (hn : i + 2 < n) : fE g n i = i + 2 := by
  unfold fE
  obtain ⟨m, hm⟩ : ∃ m, n - (i + 1) = m + 1 + 1 := ⟨n - (i + 1) - 2, by omega⟩
  rw [hm, fEg, if_neg (by rw [h1]; rintro ⟨-, z | ⟨-, z⟩⟩ <;> exact absurd z (by decide)), h1, show (0 : Int) + dlt 0 = 0 from rfl, fEg, if_pos ⟨rfl, Or.inl h2⟩]
theorem fE4 (h0 : mkB (g i / 1000) = false) (h1 : g (i + 1) / 1000 = 5) (h2 : g (i + 2) / 1000 = 0) (h3 : g (i + 3) / 1000 = 7) (hn : i + 3 < n) : fE g n i = i + 3 := by
  unfold fE
  obtain ⟨m, hm⟩ : ∃ m, n - (i + 1) = m + 1 + 1 + 1 := ⟨n - (i + 1) - 3, by omega⟩
  rw [hm, h0, fEg, if_neg (by rw [h1]; rintro ⟨-, z | ⟨z, -⟩⟩ <;> exact absurd z (by decide)), h1, show (0 : Int) + dlt 5 = 0 from rfl, fEg, if_neg (by rw [h2]; rintro ⟨-, z | ⟨z, -⟩⟩ <;> exact absurd z (by decide)), h2, show (0 : Int) + dlt 0 = 0 from rfl, fEg, if_pos ⟨rfl, Or.inl h3⟩]
theorem prs1 (h1 : g (i + 1) / 1000 = 5) (h2 : g (i + 2) / 1000 = 0) (h3 : g (i + 3) / 1000 = 7) (hn : i + 3 < n) : prs_ g n 30 (i + 1) = [i + 1] := by
  have e : fE g n (i + 1) = i + 3 := fE3 (i := i + 1) h2 h3 hn
  show prs_ g n (28 + 1 + 1) (i + 1) = _
  rw [prs_, if_pos ⟨by omega, by rw [h1]; rfl⟩, e, prs_, if_neg (fun z => by have := z.2; rw [h3] at this; exact absurd this (by decide))]
theorem itS {α : Type} {c : Prop} [Decidable c] {X : Option α} {y : α} (h : (if c then none else X) = some y) : ¬ c ∧ X = some y := by
  by_cases d : c
  · rw [if_pos d] at h; cases h
  · rw [if_neg d] at h; exact ⟨d, h⟩
variable {m r t f to : Nat} {acc : List Int} {s : ASt} {q : List Int × ASt} {re : Bool}
theorem rX0 (h : runX En m re r t f i to acc s = some q) : ∃ m', m = m' + 1 := by
  cases m with
  | zero => cases h
  | succ m => exact ⟨m, rfl⟩
theorem rX_end (h : runX En m re r t f i to acc s = some q) (hi : to ≤ i) : q = (acc, s) := by
  obtain ⟨m, rfl⟩ := rX0 h
  rw [runX] at h
  obtain ⟨-, h⟩ := itS h
  rw [if_pos hi] at h
  exact (Option.some.inj h).symm
/-- a plain token -/
theorem rX_pl (h : runX En m false r t f i to acc s = some q) (hi : i < to) (ho : opB (fg En s f i / 1000) = false) : ∃ m', m = m' + 1 ∧ (if fg En s f i / 1000 = 0 then runX En m' false r t f (i + 1) to (apl acc (fg En s f i % 1000)) s
    else if fg En s f i / 1000 = 1 ∨ fg En s f i / 1000 = 12 then runX En m' false r t f (i + 1) to (apl acc (1000 + fg En s f i % 1000)) (uSe s (2 ^ (fg En s f i % 1000).toNat) 0 0 0 0)
    else if fg En s f i / 1000 = 11 then runX En m' false r t f (i + 1) to acc (uSe s 0 (2 ^ (fg En s f i % 1000).toNat) 0 0 0)
    else runX En m' false r t f (i + 1) to acc s) = some q := by
  obtain ⟨m, rfl⟩ := rX0 h
  rw [runX] at h
  obtain ⟨-, h⟩ := itS h
  rw [if_neg (by omega), if_neg (by rw [ho]; decide)] at h
  exact ⟨m, rfl, h⟩
theorem rX_w {v : Int} (h : runX En m false r t f i to acc s = some q) (hi : to = i + 1) (hv : fg En s f i = v) (h0 : 0 ≤ v) (h1 : v < 1000) : q = (apl acc v, s) := by
  obtain ⟨m', hm', h3⟩ := rX_pl h (by omega) (by rw [hv, show v / 1000 = 0 by omega]; rfl)
  rw [hv, if_pos (by omega), show v % 1000 = v by omega] at h3
  exact rX_end h3 (by omega)
/-- 8 and 9 -/
theorem rX_89 {v k : Nat} (h : runX En m false r t f i to acc s = some q) (hk : k = 8 ∨ k = 9) (hv : v < 1000) (h0 : fg En s f i = 1000 * (k : Int)) (h1 : fg En s f (i + 1) = (v : Int)) (h2 : fg En s f (i + 2) = 7000) (hto : i + 2 < to) (hn : i + 2 < fn En s f) : ∃ m' s1, m' < m ∧ runX En m' false r t f (i + 3) to (if (k = 8 ∧ 0 < (aFr s f).2.2.1) ∨ (k = 9 ∧ (aFr s f).2.2.1 = 0) then apl acc (v : Int) else acc) s1 = some q ∧ s1 = uPs s f i 2 := by
  obtain ⟨m, rfl⟩ := rX0 h
  have e : fE (fg En s f) (fn En s f) i = i + 2 := fE3 (g := fg En s f) (by rw [h1]; omega) (by rw [h2]; decide) hn
  rw [runX] at h
  obtain ⟨-, h⟩ := itS h
  rw [if_neg (by omega), h0, show 1000 * (k : Int) / 1000 = (k : Int) by omega, if_pos (by rcases hk with z | z <;> rw [z] <;> rfl)] at h
  obtain ⟨-, h⟩ := itS h
  obtain ⟨-, h⟩ := itS h
  obtain ⟨-, h⟩ := itS h
  rw [e] at h
  by_cases c : (k = 8 ∧ 0 < (aFr s f).2.2.1) ∨ (k = 9 ∧ (aFr s f).2.2.1 = 0)
  · rw [if_pos (by omega)] at h
    rw [if_pos c]
    obtain ⟨q1, h3, h4⟩ := Option.bind_eq_some_iff.mp h
    have w := rX_w (v := (v : Int)) h3 rfl h1 (by omega) (by omega)
    rw [w] at h4
    exact ⟨m, _, Nat.lt_succ_self m, h4, rfl⟩
  · rw [if_neg (by omega), if_neg (by omega), if_neg (by omega), if_neg (by omega)] at h
    rw [if_neg c]
    exact ⟨m, _, Nat.lt_succ_self m, h, rfl⟩
/-- a function of one part, that is a number -/
theorem rX_fn {v k : Nat} (h : runX En m false r t f i to acc s = some q) (hk : k = 3 ∨ k = 4 ∨ k = 5) (hv : v < 8) (h0 : fg En s f i = 4000 + (k : Int)) (h1 : fg En s f (i + 1) = 5000) (h2 : fg En s f (i + 2) = (v : Int)) (h3 : fg En s f (i + 3) = 7000) (hto : i + 3 < to) (hn : i + 3 < fn En s f) (hu : aPs s f (i + 1) = 0) : ∃ m' s1 s2, m' < m ∧ runX En m' false r t f (i + 4) to (if k = 4 then apl acc (nBits (eMb En v) 32 : Int) else if k = 5 then lsA (eMb En v) 24 0 acc else apl acc (if eSn En v = -1 then 0 else 1)) s1 = some q ∧ s1 = uSe s2 (if k = 5 then eMb En v else 0) 0 (if k = 3 then 2 ^ v else 0) (if k = 3 then 0 else 2 ^ v) 0 ∧ aNf s2 = aNf s ∧ aFr s2 = aFr s ∧ s2.2.2.2.2 = s.2.2.2.2 ∧ ∀ g p, (g ≠ f ∨ p < i ∨ i + 2 ≤ p) → aPs s2 g p = aPs s g p := by
  obtain ⟨m, rfl⟩ := rX0 h
  have d0 : fg En s f i / 1000 = 4 := by rw [h0]; omega
  have d1 : fg En s f (i + 1) / 1000 = 5 := by rw [h1]; decide
  have d2 : fg En s f (i + 2) / 1000 = 0 := by rw [h2]; omega
  have d3 : fg En s f (i + 3) / 1000 = 7 := by rw [h3]; decide
  have e : fE (fg En s f) (fn En s f) i = i + 3 := fE4 (g := fg En s f) (by rw [d0]; rfl) d1 d2 d3 hn
  have e1 : fE (fg En s f) (fn En s f) (i + 1) = i + 3 := fE3 (g := fg En s f) (i := i + 1) d2 d3 hn
  have pl : prs_ (fg En s f) (fn En s f) 30 (i + 1) = [i + 1] := prs1 (g := fg En s f) d1 d2 d3 hn
  have nv : numL (apl [] (v : Int)) = (v : Int) := by
    unfold numL
    exact if_pos (show 0 < 1 ∧ (v : Int) < 1000 from ⟨by decide, by omega⟩)
  rw [runX] at h
  obtain ⟨-, h⟩ := itS h
  rw [if_neg (by omega), d0, if_pos (by rfl)] at h
  obtain ⟨-, h⟩ := itS h
  obtain ⟨-, h⟩ := itS h
  obtain ⟨-, h⟩ := itS h
  rw [if_neg (by omega), if_neg (by decide), if_neg (by decide), if_pos rfl, pl, show fg En s f i % 1000 = (k : Int) by rw [h0]; omega] at h
  have g1 : gv En (uPs s f i 2) f [i + 1] (k : Int) acc = some (1, acc, uPs s f i 2) := by
    have p1 : prt (uPs s f i 2) f [i + 1] 1 = some none := by
      unfold prt
      have a0 : aPs (uPs s f i 2) f (i + 1) = 0 := by
        show (if f = f ∧ i + 1 = i then 2 else aPs s f (i + 1)) = 0
        rw [if_neg (by omega)]
        exact hu
      rw [if_neg (by show ¬ (1 = 0 ∨ 1 < 1); omega), show [i + 1].getD (1 - 1) 0 = i + 1 from rfl, a0, if_neg (by decide), if_pos rfl]
    unfold gv
    rw [if_neg (by omega), p1]
  rw [g1] at h
  dsimp only at h
  rw [show [i + 1].getD 0 0 = i + 1 from rfl, e1] at h
  obtain ⟨q1, h4, h5⟩ := Option.bind_eq_some_iff.mp h
  have w := rX_w (v := (v : Int)) h4 rfl h2 (by omega) (by omega)
  rw [w] at h5
  obtain ⟨m, rfl⟩ := rX0 h5
  generalize hs2 : uDn (apl [] (v : Int), uPs (uPs s f i 2) f (i + 1) 1).2 f (i + 1) (apl [] (v : Int), uPs (uPs s f i 2) f (i + 1) 1).1 = s2 at h5
  have k1 : aNf s2 = aNf s := by rw [← hs2]; rfl
  have k2 : aFr s2 = aFr s := by rw [← hs2]; rfl
  have k3 : s2.2.2.2.2 = s.2.2.2.2 := by rw [← hs2]; rfl
  have fge : fg En s2 f = fg En s f := by show eTx En (aFr s2 f).1 = _; rw [k2]
  have fne : fn En s2 f = fn En s f := by show eTl En (aFr s2 f).1 = _; rw [k2]
  have k4 : aPs (uPs s2 f i 2) f (i + 1) = 2 := by
    rw [← hs2]
    show (if f = f ∧ i + 1 = i then 2 else if f = f ∧ i + 1 = i + 1 then 2 else _) = 2
    rw [if_neg (by omega), if_pos ⟨rfl, rfl⟩]
  have k5 : aRw (uPs s2 f i 2) f (i + 1) = apl [] (v : Int) := by
    rw [← hs2]
    show (if f = f ∧ i + 1 = i + 1 then apl [] (v : Int) else _) = _
    rw [if_pos ⟨rfl, rfl⟩]
  have p2 : prt (uPs s2 f i 2) f [i + 1] 1 = some (some (apl [] (v : Int))) := by
    unfold prt
    rw [if_neg (by show ¬ (1 = 0 ∨ 1 < 1); omega), show [i + 1].getD (1 - 1) 0 = i + 1 from rfl, k4, if_pos rfl, k5]
  have k6 : ∀ g p, (g ≠ f ∨ p < i ∨ i + 2 ≤ p) → aPs (uPs s2 f i 2) g p = aPs s g p := by
    intro g p hg
    rw [← hs2]
    show (if g = f ∧ p = i then 2 else if g = f ∧ p = i + 1 then 2 else if g = f ∧ p = i + 1 then 1 else if g = f ∧ p = i then 2 else aPs s g p) = _
    rw [if_neg (by omega), if_neg (by omega), if_neg (by omega), if_neg (by omega)]
  rw [runX] at h5
  obtain ⟨-, h5⟩ := itS h5
  rw [fge, fne, if_neg (by omega), d0, if_pos (by rfl)] at h5
  obtain ⟨-, h5⟩ := itS h5
  obtain ⟨-, h5⟩ := itS h5
  obtain ⟨-, h5⟩ := itS h5
  rw [if_neg (by omega), if_neg (by decide), if_neg (by decide), if_pos rfl, pl, show fg En s f i % 1000 = (k : Int) by rw [h0]; omega, e] at h5
  have vt : ((v : Nat) : Int).toNat = v := rfl
  rcases hk with rfl | rfl | rfl
  · have g2 : gv En (uPs s2 f i 2) f [i + 1] ((3 : Nat) : Int) acc = some (0, apl acc (if eSn En v = -1 then 0 else 1), uSe (uPs s2 f i 2) 0 0 (2 ^ v) 0 0) := by
      unfold gv
      rw [if_neg (by decide), p2]
      dsimp only
      rw [if_neg (by decide), if_neg (by decide), if_pos (by decide), nv, vt, if_pos ⟨by omega, by omega⟩]
    rw [g2] at h5
    exact ⟨m, _, uPs s2 f i 2, by omega, h5, rfl, k1, k2, k3, k6⟩
  · have g2 : gv En (uPs s2 f i 2) f [i + 1] ((4 : Nat) : Int) acc = some (0, apl acc (nBits (eMb En v) 32 : Int), uSe (uPs s2 f i 2) 0 0 0 (2 ^ v) 0) := by
      unfold gv
      rw [if_neg (by decide), p2]
      dsimp only
      rw [if_neg (by decide), if_neg (by decide), if_neg (by decide), if_pos (by decide), nv, vt, if_pos ⟨by omega, by omega⟩]
    rw [g2] at h5
    exact ⟨m, _, uPs s2 f i 2, by omega, h5, rfl, k1, k2, k3, k6⟩
  · have g2 : gv En (uPs s2 f i 2) f [i + 1] ((5 : Nat) : Int) acc = some (0, lsA (eMb En v) 24 0 acc, uSe (uPs s2 f i 2) (eMb En v) 0 0 (2 ^ v) 0) := by
      unfold gv
      rw [if_neg (by decide), p2]
      dsimp only
      rw [if_neg (by decide), if_neg (by decide), if_neg (by decide), if_neg (by decide), if_pos (by decide), nv, vt, if_pos ⟨by omega, by omega⟩]
    rw [g2] at h5
    exact ⟨m, _, uPs s2 f i 2, by omega, h5, rfl, k1, k2, k3, k6⟩
end MXS
