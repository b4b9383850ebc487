/-! THE REFERENCE'S WAYS AND CALLERS -/
section MWY
variable {M : Md} {E : Env}
theorem wayF_or (E : Env) (S : Nat) : ∀ n t S0, wayF E n t (S ||| S0) = ((wayF E n t S0).1, S ||| (wayF E n t S0).2) := by
  intro n
  induction n with
  | zero => intro t S0; rfl
  | succ n ih =>
    intro t S0
    unfold wayF
    by_cases c : eSn E t = -1
    · rw [if_pos c, if_pos c, Nat.or_assoc]
    · rw [if_neg c, if_neg c]
      by_cases c2 : eTx E (eSn E t).toNat 0 / 1000 = 12
      · rw [if_pos c2, if_pos c2, Nat.or_assoc, ih]
      · rw [if_neg c2, if_neg c2, Nat.or_assoc]
theorem X12_redirectOf_ {v : Nat} {x : Int} (hv : v < 120) (hx : M.2 9 (30 * v) = x) (h0 : 0 ≤ x ∧ x < 14000) : fX12_redirectOf (v : Int) M = some (if x / 1000 = 12 then x % 1000 else -1, M) := by
  have e : 30 * (v : Int) = ((30 * v : Nat) : Int) := by omega
  unfold fX12_redirectOf
  rw [e, if_pos ⟨by rw [w32_n (by omega)]; omega, by rw [w32_n (by omega), show mLen 9 = 3600 from rfl]; omega⟩, ix_n (by omega), hx, bnd_eq, bnd_eq, divI_of (by omega) (by omega) (by decide) (by decide), remI_of (by omega) (by omega) (by decide) (by decide), w32_of (x := x / 1000) (by omega) (by omega), show w32 12 = 12 from rfl]
  by_cases c : x / 1000 = 12
  · rw [if_neg (fun z => z c), if_pos c]
  · rw [if_pos c, if_neg c]
theorem X12_wayOf_ (hS : ∀ M1, MO (fun k => k = 68) (fun _ => False) M M1 → ∀ t : Nat, t < 24 → fX12_seenAt (t : Int) M1 = some (eSn E t, M1))
   (hT : ∀ t, t < 24 → eSn E t ≠ -1 → 0 ≤ eSn E t ∧ (eSn E t).toNat < 120 ∧ M.2 9 (30 * (eSn E t).toNat) = eTx E (eSn E t).toNat 0 ∧ (0 ≤ eTx E (eSn E t).toNat 0 ∧ eTx E (eSn E t).toNat 0 < 14000) ∧ (eTx E (eSn E t).toNat 0 / 1000 = 12 → eTx E (eSn E t).toNat 0 % 1000 < 24)) {t S : Nat} (ht : t < 24) (h68 : M.1 68 = (S : Int)) (hS24 : S < 16777216) :
   ∃ M', fX12_wayOf (t : Int) M = some ((wayF E 5 t S).1, M') ∧ MO (fun k => k = 68) (fun _ => False) M M' ∧ M'.1 68 = ((wayF E 5 t S).2 : Int) := by
  unfold fX12_wayOf
  rw [bnd_eq]
  refine lpn_rule (P := fun mm (L : Int → Int → Md → Option (Int × Md)) => ∀ (i t S : Nat) (M1 : Md), i ≤ 5 → 5 - i < mm → t < 24 → S < 16777216 → MO (fun k => k = 68) (fun _ => False) M M1 → M1.1 68 = (S : Int) → ∃ M', L (t : Int) (i : Int) M1 = some ((wayF E (5 - i) t S).1, M') ∧ MO (fun k => k = 68) (fun _ => False) M M' ∧ M'.1 68 = ((wayF E (5 - i) t S).2 : Int)) (fun i _ _ _ _ h => absurd h (Nat.not_lt_zero _)) (fun mm L hLL i t S M1 hi hm ht hS24 o1 h68 => ?_) FU 0 t S M (Nat.zero_le _) (by unfold FU; omega) ht hS24 (MO.rf _ _ M) h68
  rcases Nat.lt_or_ge i 5 with hlt | hge
  · have e5 : 5 - i = (5 - (i + 1)) + 1 := by omega
    have hset := orI_set hS24 ht
    have o2 : MO (fun k => k = 68) (fun _ => False) M (mSet M1 68 ((S ||| 2 ^ t : Nat) : Int)) := o1.tr (MO.set M1 68 _ rfl)
    rw [if_neg (by rw [show w32 5 = 5 from rfl, w32_n (by omega)]; omega), h68, hset, bnd_eq, cal_of (hS _ o2 t ht), e5]
    by_cases c : eSn E t = -1
    · have ew : wayF E (5 - (i + 1) + 1) t S = (-1, S ||| 2 ^ t) := by rw [wayF, if_pos c]
      rw [c, if_neg (fun z => z rfl), ew]
      exact ⟨_, rfl, o2, mS1 _ _ _⟩
    · obtain ⟨q1, q2, q3, q4, q5⟩ := hT t ht c
      have hw : ¬ w32 (eSn E t) = w32 (-1) := by
        rw [w32_of (by omega) (by omega), show w32 (-1) = -1 from rfl]
        exact c
      have hr := X12_redirectOf_ (M := mSet M1 68 ((S ||| 2 ^ t : Nat) : Int)) (v := (eSn E t).toNat) q2 (by
        show M1.2 9 _ = _
        rw [o1.2 9 (fun z => z)]
        exact q3) q4
      rw [show (((eSn E t).toNat : Nat) : Int) = eSn E t by omega] at hr
      rw [if_pos hw, cal_of hr]
      by_cases c2 : eTx E (eSn E t).toNat 0 / 1000 = 12
      · have ew : wayF E (5 - (i + 1) + 1) t S = wayF E (5 - (i + 1)) (eTx E (eSn E t).toNat 0 % 1000).toNat (S ||| 2 ^ t) := by rw [wayF, if_neg c, if_pos c2]
        have h24 := q5 c2
        rw [if_pos c2, if_pos (by rw [w32_of (by omega) (by omega), show w32 (-1) = -1 from rfl]; omega), ew]
        have h := hLL (i + 1) (eTx E (eSn E t).toNat 0 % 1000).toNat (S ||| 2 ^ t) _ hlt (by omega) (by omega) (or_24 hS24 ht) o2 (mS1 _ _ _)
        rw [show (((eTx E (eSn E t).toNat 0 % 1000).toNat : Nat) : Int) = eTx E (eSn E t).toNat 0 % 1000 by omega] at h
        exact h
      · have ew : wayF E (5 - (i + 1) + 1) t S = ((t : Int), S ||| 2 ^ t) := by rw [wayF, if_neg c, if_neg c2]
        rw [if_neg c2, if_neg (fun z => z rfl), ew]
        exact ⟨_, rfl, o2, mS1 _ _ _⟩
  · have e : i = 5 := by omega
    subst e
    rw [if_pos (by decide)]
    exact ⟨M1, rfl, o1, h68⟩
/-- whether a frame comes from one of a title -/
theorem X12_isCalledFrom_ {s : ASt} {nf : Nat} (hnf : nf ≤ 41) (hfr : ∀ f, f < nf → M.2 42 f = ((aFr s f).2.1 : Int) ∧ (aFr s f).2.1 < 24 ∧ M.2 44 f = (aFr s f).2.2.2.1 ∧ ((aFr s f).2.2.2.1 = -1 ∨ (0 ≤ (aFr s f).2.2.2.1 ∧ (aFr s f).2.2.2.1 < (f : Int)))) {f : Nat} (hf : f < nf) {t : Int} (ht : I32 t) :
   fX12_isCalledFrom (f : Int) t M = some (if cmF s 41 f t = true then 1 else 0, M) := by
  unfold fX12_isCalledFrom
  rw [bnd_eq]
  have key := lpn_rule (z := fun (_ : Int) (_ : Int) (_ : Md) => (none : Option (Int × Md))) (body := fun L5 (v3_5 : Int) (v4_5 : Int) (M_5 : Md) =>
if w32 v4_5 = w32 (-1) then
retZ v3_5 M_5
else
bnd (fun (t0_31 : Int) (M_31 : Md) =>
if inR v4_5 (mLen 44) then
bnd (M_31.2 44 (ix v4_5)) fun (x4_39 : Int) =>
L5 t0_31 x4_39 M_31
else none) fun J31 =>
bnd (fun  (M_26 : Md) =>
J31 1 M_26) fun J26 =>
if ¬ w32 v3_5 = 0 then
J26 M_5
else
if inR v4_5 (mLen 42) then
if ¬ w32 (M_5.2 42 (ix v4_5)) = w32 t then
J31 0 M_5
else
J26 M_5
else none) (P := fun mm (L : Int → Int → Md → Option (Int × Md)) => ∀ (d : Bool), (0 < mm → L (if d = true then 1 else 0) (-1) M = some (if d = true then 1 else 0, M)) ∧ ∀ (f k : Nat), f < nf → f < k → f + 1 < mm → L (if d = true then 1 else 0) (f : Int) M = some (if (d || cmF s k f t) = true then 1 else 0, M)) (fun d => ⟨fun h => absurd h (Nat.lt_irrefl _), fun _ _ _ _ h => absurd h (Nat.not_lt_zero _)⟩) (fun mm L hLL d => ⟨fun _ => ?_, fun f k hf hk hm => ?_⟩) FU
  · have q := (key false).2 f 41 hf (by omega) (by unfold FU; omega)
    rw [Bool.false_or] at q
    exact q
  · cases d <;> rfl
  · obtain ⟨a1, a2, a3, a4⟩ := hfr f hf
    obtain ⟨k', rfl⟩ : ∃ k', k = k' + 1 := ⟨k - 1, by omega⟩
    have hw : ¬ w32 (f : Int) = w32 (-1) := by rw [w32_n (by omega), show w32 (-1) = -1 from rfl]; omega
    have i44 : inR (f : Int) (mLen 44) := ⟨by rw [w32_n (by omega)]; omega, by rw [w32_n (by omega), show mLen 44 = 41 from rfl]; omega⟩
    have i42 : inR (f : Int) (mLen 42) := ⟨by rw [w32_n (by omega)]; omega, by rw [w32_n (by omega), show mLen 42 = 41 from rfl]; omega⟩
    have on : ∀ d2 : Bool, d2 = (d || decide (((aFr s f).2.1 : Int) = t)) → L (if d2 = true then 1 else 0) (M.2 44 f) M = some (if (d || cmF s (k' + 1) f t) = true then 1 else 0, M) := by
      intro d2 hd2
      rw [a3, cmF, ← Bool.or_assoc, ← hd2]
      rcases a4 with y | ⟨y1, y2⟩
      · rw [y, if_pos (show (-1 : Int) = -1 from rfl), Bool.or_false]
        exact (hLL d2).1 (by omega)
      · rw [if_neg (show ¬ (aFr s f).2.2.2.1 = -1 by omega)]
        have q := (hLL d2).2 (aFr s f).2.2.2.1.toNat k' (by omega) (by omega) (by omega)
        rw [show (((aFr s f).2.2.2.1.toNat : Nat) : Int) = (aFr s f).2.2.2.1 by omega] at q
        exact q
    dsimp only
    rw [if_neg hw, bnd_eq, bnd_eq]
    cases d with
    | true =>
      rw [if_pos (by decide)]
      dsimp only
      rw [if_pos i44, bnd_eq, ix_n (by omega)]
      exact on true rfl
    | false =>
      rw [if_neg (fun z => z (by decide)), if_pos i42, ix_n (by omega), a1, w32_n (by omega), w32_of ht.1 ht.2]
      by_cases c : ((aFr s f).2.1 : Int) = t
      · rw [if_neg (fun z => z c)]
        dsimp only
        rw [if_pos i44, bnd_eq]
        exact on true (by rw [decide_eq_true c]; rfl)
      · rw [if_pos c]
        dsimp only
        rw [if_pos i44, bnd_eq]
        exact on false (by rw [decide_eq_false c]; rfl)
end MWY
