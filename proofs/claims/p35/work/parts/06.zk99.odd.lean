/-! TITLES THAT STAND OUT: lonely, wanted -/
section ODD
def anyN (f : Nat → Bool) : Nat → Bool
  | 0 => false
  | n + 1 => anyN f n || f n
theorem bitsN_0 (f : Nat → Bool) : ∀ n, (anyN f n = false ∧ bitsN f n = 0) ∨ (anyN f n = true ∧ 0 < bitsN f n) := by
  intro n
  induction n with
  | zero => exact Or.inl ⟨rfl, rfl⟩
  | succ n ih =>
    rw [anyN, bitsN]
    by_cases c : f n = true
    · rw [if_pos c, c, Bool.or_true]
      refine Or.inr ⟨rfl, ?_⟩
      have h1 : 2 ^ n ≤ bitsN f n ||| 2 ^ n := Nat.right_le_or
      have h2 : 0 < 2 ^ n := Nat.pow_pos (by decide)
      omega
    · rw [if_neg c, Nat.or_zero, eq_false_of_ne_true c, Bool.or_false]
      exact ih
theorem anyN_iff {f : Nat → Bool} : ∀ {n}, anyN f n = true ↔ ∃ k, k < n ∧ f k = true := by
  intro n
  induction n with
  | zero => exact ⟨fun h => absurd (show false = true from h) (by decide), fun ⟨k, h, _⟩ => absurd h (Nat.not_lt_zero k)⟩
  | succ n ih =>
    rw [anyN, Bool.or_eq_true, ih]
    refine ⟨fun h => ?_, fun ⟨k, h1, h2⟩ => ?_⟩
    · rcases h with ⟨k, h1, h2⟩ | h
      · exact ⟨k, by omega, h2⟩
      · exact ⟨n, Nat.lt_succ_self n, h⟩
    · rcases Nat.lt_or_ge k n with z | z
      · exact Or.inl ⟨k, z, h2⟩
      · have e : k = n := by omega
        subst e
        exact Or.inr h2
variable {b kc : Nat} {M M' : Md} {C C' : Cd}
theorem X11_wantedTitles_ (hL : Lay b C) {lk : Nat → Nat} (h : ∀ t, t < 24 → cI C 703 (b + 13 + 6 * t + 1) = (lk t : Int) ∧ lk t < 16777216) {pg : Nat → Bool} (hp : ∀ t, t < 24 → (pg t = false ∧ cR C 1203 (b + 13 + 6 * t) = none) ∨ (pg t = true ∧ ∃ p, cR C 1203 (b + 13 + 6 * t) = some p)) :
   fX11_wantedTitles b C = some ((bitsN (fun t => !pg t && anyN (fun s => (lk s).testBit t) 24) 24 : Int), C) := by
  unfold fX11_wantedTitles
  rw [bnd_eq]
  refine lpn_rule (P := fun mm (L : Int → Int → Cd → Option (Int × Cd)) => ∀ i, i ≤ 24 → 24 - i < mm → L (bitsN (fun t => !pg t && anyN (fun s => (lk s).testBit t) 24) i : Int) (i : Int) C = some ((bitsN (fun t => !pg t && anyN (fun s => (lk s).testBit t) 24) 24 : Int), C)) (fun i _ h => absurd h (Nat.not_lt_zero _)) (fun mm L hLL i hi hm => ?_) FU 0 (by decide) (by unfold FU; omega)
  rw [if_pos hL.o, bnd_eq, hL.r1, drf_some, if_pos hL.ot, hL.nt]
  rcases Nat.lt_or_ge i 24 with hlt | hge
  · have q := hLL (i + 1) (by omega) (by omega)
    rw [bitsN] at q
    rw [if_neg (by rw [show w32 ((24 : Nat) : Int) = 24 from rfl, w32_n (by omega)]; omega), if_pos hL.o, bnd_eq, drf_some, hL.nt, if_pos ⟨hL.ot, inR_n hlt (by decide)⟩, bnd_eq, hL.tt hlt, drf_some, if_pos (hL.to hlt), bnd_eq, bnd_eq]
    rcases hp i hlt with ⟨p1, p2⟩ | ⟨p1, p, p2⟩
    · rw [p2, opt_none, if_pos hL.o, cal_of (X11_linkingTo_ hL h hlt)]
      have b24 := bitsN_24 (fun t => (lk t).testBit i) (Nat.le_refl 24)
      rcases bitsN_0 (fun s => (lk s).testBit i) 24 with ⟨z1, z2⟩ | ⟨z1, z2⟩
      · have hF : (!pg i && anyN (fun s => (lk s).testBit i) 24) = false := by rw [z1, Bool.and_false]
        rw [hF, ite_ff, Nat.or_zero] at q
        rw [z2, if_pos (by decide)]
        exact q
      · have hF : (!pg i && anyN (fun s => (lk s).testBit i) 24) = true := by rw [z1, p1]; rfl
        rw [hF, ite_tt] at q
        rw [if_neg (by rw [w32_n (by omega)]; omega), bnd_eq, orI_set (bitsN_24 _ hi) hlt]
        exact q
    · have hF : (!pg i && anyN (fun s => (lk s).testBit i) 24) = false := by rw [p1]; rfl
      rw [hF, ite_ff, Nat.or_zero] at q
      rw [p2, opt_some]
      exact q
  · have e : i = 24 := by omega
    subst e
    rw [if_pos (by decide)]
/-- the reference's other question -/
theorem X12_odd_1 {x : Int} (hx : ¬ w32 x = 0) {lk : Nat → Nat} (h : ∀ t, t < 24 → lk t < 16777216 ∧ ((M.2 27 t = 0 ∧ lk t = 0) ∨ (M.2 27 t = 1 ∧ M.2 31 t = (lk t : Int)))) {pg : Nat → Bool} (hp : ∀ t, t < 24 → I32 (M.2 6 t) ∧ (pg t = false ↔ M.2 6 t = -1)) :
   fX12_odd x M = some ((bitsN (fun t => !pg t && anyN (fun s => (lk s).testBit t) 24) 24 : Int), mSet M 36 0) := by
  unfold fX12_odd
  rw [bnd_eq, bnd_eq]
  have g6 : (mSet M 36 0).2 6 = M.2 6 := rfl
  have g27 : (mSet M 36 0).2 27 = M.2 27 := rfl
  have g31 : (mSet M 36 0).2 31 = M.2 31 := rfl
  generalize mSet M 36 0 = M1 at *
  refine lpn_rule (P := fun mm (L : Int → Int → Md → Option (Int × Md)) => ∀ i, i ≤ 24 → 24 - i < mm → L (bitsN (fun t => !pg t && anyN (fun s => (lk s).testBit t) 24) i : Int) (i : Int) M1 = some ((bitsN (fun t => !pg t && anyN (fun s => (lk s).testBit t) 24) 24 : Int), M1)) (fun i _ h => absurd h (Nat.not_lt_zero _)) (fun mm L hLL i hi hm => ?_) FU 0 (by decide) (by unfold FU; omega)
  rcases Nat.lt_or_ge i 24 with hlt | hge
  · have q := hLL (i + 1) (by omega) (by omega)
    rw [bitsN] at q
    obtain ⟨p1, p2⟩ := hp i hlt
    rw [if_neg (by rw [show w32 24 = 24 from rfl, w32_n (by omega)]; omega), bnd_eq, if_neg hx, bnd_eq]
    refine lpn_rule (P := fun mm (L' : Int → Int → Md → Option (Int × Md)) => ∀ (s : Nat) (v : Int), s ≤ 24 → 24 - s < mm → v = (if (!pg i && anyN (fun s => (lk s).testBit i) s) = true then 1 else 0) → L' v (s : Int) M1 = some ((bitsN (fun t => !pg t && anyN (fun s => (lk s).testBit t) 24) 24 : Int), M1)) (fun s _ _ h => absurd h (Nat.not_lt_zero _)) (fun mm' L' hL' s v hs hm' hv => ?_) FU 0 0 (by decide) (by unfold FU; omega) (by rw [anyN, Bool.and_false]; rfl)
    subst hv
    rcases Nat.lt_or_ge s 24 with hlt' | hge'
    · have q' := hL' (s + 1) _ (by omega) (by omega) rfl
      rw [anyN] at q'
      obtain ⟨l1, l2⟩ := h s hlt'
      rw [if_neg (by rw [show w32 24 = 24 from rfl, w32_n (by omega)]; omega), bnd_eq, bnd_eq]
      by_cases c : (!pg i && anyN (fun s => (lk s).testBit i) s) = true
      · have e : (!pg i && (anyN (fun s => (lk s).testBit i) s || (lk s).testBit i)) = true := by
          rw [Bool.and_eq_true] at c ⊢
          exact ⟨c.1, by rw [c.2, Bool.true_or]⟩
        rw [e, ite_tt] at q'
        rw [if_pos c, if_pos (by decide)]
        exact q'
      · rw [if_neg c, if_neg (fun z => z (by decide)), if_pos (inM (n := 24) rfl hlt (by decide)), bnd_eq, ix_n (by omega), g6, w32_of p1.1 p1.2, show w32 (-1) = -1 from rfl]
        by_cases c6 : M.2 6 i = -1
        · have pf := p2.2 c6
          have ef : anyN (fun s => (lk s).testBit i) s = false := by
            cases hh : anyN (fun s => (lk s).testBit i) s with
            | false => rfl
            | true => exact absurd (by rw [pf, hh]; rfl) c
          rw [pf, ef] at q'
          rw [if_neg (fun z => z c6), if_pos (inM (n := 24) rfl hlt' (by decide)), ix_n (by omega), g27, g31]
          rcases l2 with ⟨m1, m2⟩ | ⟨m1, m2⟩
          · rw [m2, Nat.zero_testBit] at q'
            rw [m1, if_pos (by decide)]
            exact q'
          · rw [m1, if_neg (by decide), if_pos (inM (n := 24) rfl hlt' (by decide)), m2, bitI_N (by omega) (by omega)]
            by_cases z : (lk s).testBit i = true
            · rw [z] at q'
              rw [if_pos z, if_neg (fun y => y (by decide))]
              exact q'
            · rw [eq_false_of_ne_true z] at q'
              rw [if_neg z, if_pos (by decide)]
              exact q'
        · have pt : pg i = true := by
            cases hh : pg i with
            | true => rfl
            | false => exact absurd (p2.1 hh) c6
          rw [pt] at q'
          rw [if_pos c6]
          exact q'
    · have e : s = 24 := by omega
      subst e
      rw [if_pos (by decide)]
      by_cases c : (!pg i && anyN (fun s => (lk s).testBit i) 24) = true
      · rw [if_pos c] at q
        rw [if_pos c]
        dsimp only
        rw [bnd_eq, if_neg (by decide)]
        dsimp only
        rw [bnd_eq, orI_set (bitsN_24 _ hi) hlt]
        exact q
      · rw [if_neg c, Nat.or_zero] at q
        rw [if_neg c]
        dsimp only
        rw [bnd_eq, if_pos (by decide)]
        dsimp only
        rw [bnd_eq, orI_0 (by have := bitsN_24 (fun t => !pg t && anyN (fun s => (lk s).testBit t) 24) hi; omega)]
        exact q
  · have e : i = 24 := by omega
    subst e
    rw [if_pos (by decide)]
end ODD
