/-! LONELY TITLES -/
section LON
def lkH (lk : Nat → Nat) (G : Nat → Int) (t s v : Nat) : Bool := (lk s).testBit v && decide (G v = (t : Int))
def lkF (lk : Nat → Nat) (G : Nat → Int) (t s : Nat) : Bool := decide (s ≠ t) && anyN (lkH lk G t s) 24
def clrF (lk : Nat → Nat) (G : Nat → Int) (t v : Nat) : Bool := decide (G v = (t : Int)) && anyN (fun s => decide (s ≠ t) && (lk s).testBit v) 24
theorem lon_eq (lk : Nat → Nat) (G : Nat → Int) (t : Nat) : anyN (lkF lk G t) 24 = anyN (clrF lk G t) 24 := by
  have h : anyN (lkF lk G t) 24 = true ↔ anyN (clrF lk G t) 24 = true := by
    rw [anyN_iff, anyN_iff]
    constructor
    · intro ⟨s, hs, h⟩
      unfold lkF at h
      rw [Bool.and_eq_true, anyN_iff] at h
      obtain ⟨h1, v, hv, h2⟩ := h
      unfold lkH at h2
      rw [Bool.and_eq_true] at h2
      refine ⟨v, hv, ?_⟩
      unfold clrF
      rw [Bool.and_eq_true, anyN_iff]
      exact ⟨h2.2, s, hs, by rw [Bool.and_eq_true]; exact ⟨h1, h2.1⟩⟩
    · intro ⟨v, hv, h⟩
      unfold clrF at h
      rw [Bool.and_eq_true, anyN_iff] at h
      obtain ⟨h1, s, hs, h2⟩ := h
      rw [Bool.and_eq_true] at h2
      refine ⟨s, hs, ?_⟩
      unfold lkF
      rw [Bool.and_eq_true, anyN_iff]
      exact ⟨h2.1, v, hv, by unfold lkH; rw [Bool.and_eq_true]; exact ⟨h2.2, h1⟩⟩
  cases h1 : anyN (lkF lk G t) 24 with
  | true => exact (h.1 h1).symm
  | false =>
    cases h2 : anyN (clrF lk G t) 24 with
    | false => rfl
    | true => rw [h.2 h2] at h1; exact absurd h1 (by decide)
theorem lkH_0 {lk : Nat → Nat} {G : Nat → Int} {t s : Nat} (h : lk s = 0) : ∀ n, anyN (lkH lk G t s) n = false := by
  intro n
  cases h1 : anyN (lkH lk G t s) n with
  | false => rfl
  | true =>
    obtain ⟨v, _, h2⟩ := anyN_iff.1 h1
    unfold lkH at h2
    rw [h, Nat.zero_testBit, Bool.false_and] at h2
    exact absurd h2 (by decide)
theorem clr_and {a x : Nat} (ha : a < 2147483648) : andI (a : Int) (xorI (x : Int) (-1)) = ((a &&& (x ^^^ 4294967295) : Nat) : Int) := by
  unfold andI xorI
  rw [Int32.ofInt_toInt, oN, oN, show Int32.ofInt (-1) = nI 4294967295 from by decide, za_xor, za_and]
  exact nI_T (Nat.lt_of_le_of_lt Nat.and_le_left ha)
theorem bits_clr (f : Nat → Bool) {k : Nat} (hk : k < 24) : bitsN f 24 &&& (2 ^ k ^^^ 4294967295) = bitsN (fun i => f i && !decide (i = k)) 24 := by
  refine Nat.eq_of_testBit_eq fun i => ?_
  rw [Nat.testBit_and, Nat.testBit_xor, bitsN_bit, bitsN_bit, show (4294967295 : Nat) = 2 ^ 32 - 1 from rfl, Nat.testBit_two_pow_sub_one]
  by_cases e : k = i
  · subst e
    rw [Nat.testBit_two_pow_self, decide_eq_true (show k < 32 by omega), decide_eq_true (rfl : k = k)]
    cases decide (k < 24) <;> cases f k <;> rfl
  · rw [Nat.testBit_two_pow_of_ne e, decide_eq_false (fun z => e z.symm : ¬ i = k)]
    by_cases l : i < 24
    · rw [decide_eq_true l, decide_eq_true (show i < 32 by omega)]
      cases f i <;> rfl
    · rw [decide_eq_false l]
      rfl
theorem i01 {X : Bool} : w32 (if X = true then 1 else 0) = (if X = true then 1 else 0) := by cases X <;> rfl
variable {b kc : Nat} {M M' : Md} {C C' : Cd} {lk : Nat → Nat} {G : Nat → Int}
theorem X12_isLinked_ (h : ∀ t, t < 24 → lk t < 16777216 ∧ ((M.2 27 t = 0 ∧ lk t = 0) ∨ (M.2 27 t = 1 ∧ M.2 31 t = (lk t : Int)))) (hG : ∀ t, t < 24 → (G t = -1 ∨ (0 ≤ G t ∧ G t < 24))) (gM : ∀ M1, ScW M M1 → ∀ t : Nat, t < 24 → ∃ M2, fX12_leadsTo (t : Int) M1 = some (G t, M2) ∧ ScW M M2 ∧ M2.1 36 = M1.1 36) {t : Nat} (ht : t < 24) {M1 : Md} (o : ScW M M1) :
   ∃ M2, fX12_isLinked (t : Int) M1 = some (if anyN (lkF lk G t) 24 = true then 1 else 0, M2) ∧ ScW M M2 ∧ M2.1 36 = M1.1 36 := by
  unfold fX12_isLinked
  rw [bnd_eq]
  refine lpn_rule (P := fun mm (L : Int → Int → Md → Option (Int × Md)) => ∀ (s : Nat) (v2 : Int) (M2 : Md), s ≤ 24 → 24 - s < mm → v2 = (if anyN (lkF lk G t) s = true then 1 else 0) → ScW M M2 → M2.1 36 = M1.1 36 → ∃ M3, L v2 (s : Int) M2 = some (if anyN (lkF lk G t) 24 = true then 1 else 0, M3) ∧ ScW M M3 ∧ M3.1 36 = M1.1 36) (fun s _ _ _ h => absurd h (Nat.not_lt_zero _)) (fun mm L hLL s v2 M2 hs hm hv o2 z2 => ?_) FU 0 0 M1 (by decide) (by unfold FU; omega) rfl o rfl
  subst hv
  rcases Nat.lt_or_ge s 24 with hlt | hge
  · have q := hLL (s + 1)
    rw [anyN] at q
    obtain ⟨l1, l2⟩ := h s hlt
    rw [if_neg (by rw [show w32 24 = 24 from rfl, w32_n (by omega)]; omega), bnd_eq]
    refine lpn_rule (P := fun mm (L' : Int → Int → Md → Option (Int × Md)) => ∀ (v : Nat) (v2 : Int) (M2 : Md), v ≤ 24 → 24 - v < mm → v2 = (if (anyN (lkF lk G t) s || (decide (s ≠ t) && anyN (lkH lk G t s) v)) = true then 1 else 0) → ScW M M2 → M2.1 36 = M1.1 36 → ∃ M3, L' v2 (v : Int) M2 = some (if anyN (lkF lk G t) 24 = true then 1 else 0, M3) ∧ ScW M M3 ∧ M3.1 36 = M1.1 36) (fun s _ _ _ h => absurd h (Nat.not_lt_zero _)) (fun mm' L' hL' v v2 M2 hv hm' hv2 o2 z2 => ?_) FU 0 _ M2 (by decide) (by unfold FU; omega) (by rw [show anyN (lkH lk G t s) 0 = false from rfl, Bool.and_false, Bool.or_false]) o2 z2
    subst hv2
    have g27 : M2.2 27 s = M.2 27 s := by rw [o2.2.1]
    have g31 : M2.2 31 s = M.2 31 s := by rw [o2.2.1]
    rw [bnd_eq]
    rcases Nat.lt_or_ge v 24 with hvl | hvg
    · have q' := hL' (v + 1)
      rw [anyN] at q'
      rw [if_neg (by rw [show w32 24 = 24 from rfl, w32_n (by omega)]; omega)]
      by_cases cs : s = t
      · rw [if_pos (by rw [cs])]
        refine q _ M2 (by omega) (by omega) ?_ o2 z2
        unfold lkF
        rw [decide_eq_false (show ¬ s ≠ t from fun z => z cs), Bool.false_and, Bool.false_and]
      · rw [if_neg (by rw [w32_n (by omega), w32_n (by omega)]; omega), if_pos (inM (n := 24) rfl hlt (by decide)), ix_n (by omega), g27]
        rw [decide_eq_true (show s ≠ t from cs), Bool.true_and] at q' ⊢
        rcases l2 with ⟨m1, m2⟩ | ⟨m1, m2⟩
        · rw [m1, if_pos (by decide)]
          refine q _ M2 (by omega) (by omega) ?_ o2 z2
          unfold lkF
          rw [lkH_0 m2, lkH_0 m2, Bool.and_false]
        · rw [m1, if_neg (by decide), bnd_eq, bnd_eq, i01]
          by_cases cv : (anyN (lkF lk G t) s || anyN (lkH lk G t s) v) = true
          · rw [if_pos cv, if_pos (by decide)]
            refine q' 1 M2 (by omega) (by omega) ?_ o2 z2
            rw [← Bool.or_assoc, cv, Bool.true_or, ite_tt]
          · have cv' := eq_false_of_ne_true cv
            rw [if_neg cv, if_neg (fun z => z rfl), if_pos (inM (n := 24) rfl hlt (by decide)), bnd_eq, g31, m2, bitI_N (by omega) (by omega)]
            by_cases cb : (lk s).testBit v = true
            · obtain ⟨M3, e3, o3, z3⟩ := gM M2 o2 v hvl
              have hg := hG v hvl
              rw [if_pos cb, if_neg (fun y => y (by decide)), cal_of e3, w32_of (x := G v) (by omega) (by omega), w32_n (by omega)]
              by_cases ce : G v = (t : Int)
              · rw [if_neg (fun y => y ce)]
                refine q' 1 M3 (by omega) (by omega) ?_ o3 (z3.trans z2)
                unfold lkH
                rw [cb, decide_eq_true ce, Bool.and_self, Bool.or_true, Bool.or_true, ite_tt]
              · rw [if_pos ce]
                refine q' 0 M3 (by omega) (by omega) ?_ o3 (z3.trans z2)
                have e4 : lkH lk G t s v = false := by unfold lkH; rw [decide_eq_false ce, Bool.and_false]
                rw [e4, Bool.or_false, cv', ite_ff]
            · rw [if_neg cb, if_pos (by decide)]
              refine q' 0 M2 (by omega) (by omega) ?_ o2 z2
              have e4 : lkH lk G t s v = false := by unfold lkH; rw [eq_false_of_ne_true cb, Bool.false_and]
              rw [e4, Bool.or_false, cv', ite_ff]
    · have e : v = 24 := by omega
      subst e
      rw [if_pos (by decide)]
      exact q _ M2 (by omega) (by omega) rfl o2 z2
  · have e : s = 24 := by omega
    subst e
    rw [if_pos (by decide)]
    refine ⟨M2, ?_, o2, z2⟩
    unfold retZ
    rw [i01]
    cases anyN (lkF lk G t) 24 <;> rfl
end LON
