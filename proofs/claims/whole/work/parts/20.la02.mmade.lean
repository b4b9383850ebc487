/-! THE REFERENCE MADE: what its rows hold -/
section MIO
theorem mkRows_ok {a0 : Nat} {K : Cd → Option (Unit × Cd)} : ∀ (L : List (Nat × Nat × Int)) (C : Cd), Wf C → isO C a0 15 → (∀ p ∈ L, 0 ≤ p.2.2 ∧ p.2.2 < 1000000) → L.Pairwise (fun p q => p.1 < q.1) →
    ∃ C', mkRows a0 K L C = K C' ∧ (∀ k0, (∀ p ∈ L, k0 ≤ p.1) → Fp (Sa a0 k0) C C') ∧ Wf C' ∧ csz C' = csz C + L.length ∧ csl C' = csl C + (L.map (fun p => p.2.2.toNat)).sum ∧ (∀ i (h : i < L.length), isO C' (csz C + i) (L[i]).2.1 ∧ cn C' (csz C + i) = (L[i]).2.2.toNat ∧ cR C' (L[i]).1 a0 = some (csz C + i) ∧ ∀ j, cE C' (csz C + i) j = 0) ∧ ∀ k, cI C' k a0 = cI C k a0 := by
  intro L
  induction L with
  | nil => intro C W ho _ _; exact ⟨C, rfl, fun _ _ => Fp.rf W, W, rfl, rfl, fun i h => absurd h (Nat.not_lt_zero _), fun _ => rfl⟩
  | cons p L ih =>
    intro C W ho hn hp
    obtain ⟨k, t, n⟩ := p
    obtain ⟨n0, n1⟩ := hn _ List.mem_cons_self
    dsimp only at n0 n1
    have ha := W a0 ho.1
    have i32 : w32 n = n := w32_of (by omega) (by omega)
    have ixn : ix n = n.toNat := ix_of n0 (by omega)
    have oA : isO (cNewA C t (ix n)) a0 15 := (Fp.A (S := fun _ _ _ => False) W t (ix n)).ob W ho
    have WA := Wf_A W t (ix n)
    generalize h2 : cSetR (cNewA C t (ix n)) k a0 (some (csz C)) = C2
    have f2 : Fp (Sa a0 k) C C2 := by rw [← h2]; exact (Fp.A W t _).tr (Fp.R WA _ _ _ ⟨rfl, Or.inr (Nat.le_refl _)⟩)
    have o2 : isO C2 a0 15 := by rw [← h2]; exact oA
    have W2 := f2.wf
    have s2 : csz C2 = csz C + 1 := by rw [← h2]; rfl
    have l2 : csl C2 = csl C + n.toNat := by rw [← h2, ← ixn]; rfl
    have t2 : isO C2 (csz C) t := by rw [← h2]; exact isO_A1 C t _
    have n2 : cn C2 (csz C) = n.toNat := by rw [← h2, ← ixn]; exact cn_A1 C t _
    have r2 : cR C2 k a0 = some (csz C) := by rw [← h2]; exact cR_R1 _ _ _ _
    have e2 : ∀ j, cE C2 (csz C) j = 0 := fun j => by rw [← h2]; exact if_pos rfl
    have i2 : ∀ k, cI C2 k a0 = cI C k a0 := fun k => by rw [← h2]; rfl
    have hp' := List.pairwise_cons.mp hp
    obtain ⟨C', e, f, W', s', l', q, qi⟩ := ih C2 W2 o2 (fun p hp => hn p (List.mem_cons_of_mem _ hp)) hp'.2
    have fT : Fp (Sa a0 (k + 1)) C2 C' := f (k + 1) (fun p hp => hp'.1 p hp)
    refine ⟨C', ?_, fun k0 h0 => ?_, W', ?_, ?_, fun i hi => ?_, fun k => (qi k).trans (i2 k)⟩
    · unfold mkRows
      rw [if_pos (show 0 ≤ w32 n ∧ w32 n < 1000000 by rw [i32]; exact ⟨n0, n1⟩), bnd_eq, if_pos oA, bnd_eq, h2, e]
    · have hk := h0 _ List.mem_cons_self
      exact (f2.mono (fun q j x _ y => y.up hk)).tr (fT.mono (fun q j x _ y => y.up (by have : k0 ≤ k := hk; omega)))
    · rw [s', s2, List.length_cons]; omega
    · rw [l', l2, List.map_cons, List.sum_cons]
      show csl C + n.toNat + _ = csl C + (n.toNat + _)
      omega
    · cases i with
      | zero =>
        have nS : ¬ Sa a0 (k + 1) 1 k a0 := fun y => by have := y.2; omega
        refine ⟨fT.ob W2 t2, (fT.len W2 t2).trans n2, (fT.fR (by omega) nS).trans r2, fun j => ?_⟩
        show cE C' (csz C) j = 0
        rw [fT.fE (by omega) (fun y => by have := y.1; omega)]
        exact e2 j
      | succ i =>
        have := q i (by rw [List.length_cons] at hi; omega)
        rw [s2, show csz C + 1 + i = csz C + (i + 1) from by omega] at this
        exact this
theorem miL {a0 r6 r26 r17 : Nat} {z : Int → Cd → Option (Unit × Cd)} {Bd : (Int → Cd → Option (Unit × Cd)) → Int → Cd → Option (Unit × Cd)}
    (hB : ∀ L473 v1_473 C_473, Bd L473 v1_473 C_473 = (
if w32 24 ≤ w32 v1_473 then
some ((), C_473)
else
if isO C_473 a0 15 then bnd (cR C_473 1506 a0) fun (z113 : Option Nat) =>
drf z113 fun (p114 : Nat) =>
if isO C_473 p114 100 ∧ inR v1_473 (cn C_473 p114) then bnd (cSetE C_473 p114 (ix v1_473) (-1)) fun (C115 : Cd) =>
if isO C115 a0 15 then bnd (cR C115 1526 a0) fun (z116 : Option Nat) =>
drf z116 fun (p117 : Nat) =>
if isO C115 p117 100 ∧ inR v1_473 (cn C115 p117) then bnd (cSetE C115 p117 (ix v1_473) (-1)) fun (C118 : Cd) =>
if isO C118 a0 15 then bnd (cR C118 1517 a0) fun (z119 : Option Nat) =>
drf z119 fun (p120 : Nat) =>
if isO C118 p120 100 ∧ inR v1_473 (cn C118 p120) then bnd (cSetE C118 p120 (ix v1_473) (-1)) fun (C121 : Cd) =>
if isO C121 a0 15 then bnd (cR C121 1517 a0) fun (z122 : Option Nat) =>
drf z122 fun (p123 : Nat) =>
if isO C121 p123 100 ∧ inR (24 + v1_473) (cn C121 p123) then bnd (cSetE C121 p123 (ix (24 + v1_473)) (-1)) fun (C124 : Cd) =>
L473 (v1_473 + 1) C124
else none
else none
else none
else none
else none
else none
else none
else none)) :
    ∀ (k v F : Nat) (C : Cd), v + k = 24 → Wf C → isO C a0 15 → cR C 1506 a0 = some r6 → cR C 1526 a0 = some r26 → cR C 1517 a0 = some r17 → (isO C r6 100 ∧ cn C r6 = 24) → (isO C r26 100 ∧ cn C r26 = 24) → (isO C r17 100 ∧ cn C r17 = 48) →
      ∃ C', lpn z Bd (F + (k + 1)) (v : Int) C = some ((), C') ∧ Fp (fun q _ x => q = 2 ∧ (x = r6 ∨ x = r26 ∨ x = r17)) C C' ∧ csz C' = csz C ∧ csl C' = csl C ∧ cI C' = cI C ∧ cR C' = cR C ∧ (∀ x i, cE C x i = -1 → cE C' x i = -1) ∧ ∀ j : Nat, v ≤ j → j < 24 → cE C' r6 j = -1 ∧ cE C' r26 j = -1 ∧ cE C' r17 j = -1 ∧ cE C' r17 (24 + j) = -1 := by
  intro k
  induction k with
  | zero =>
    intro v F C hv W ho h6 h26 h17 p6 p26 p17
    refine ⟨C, ?_, Fp.rf W, rfl, rfl, rfl, rfl, fun _ _ h => h, fun j h1 h2 => absurd h2 (by omega)⟩
    rw [lpn_succ, hB, if_pos (show w32 24 ≤ w32 (v : Int) by rw [w32_n (n := v) (by omega)]; show (24 : Int) ≤ v; omega)]
  | succ k ih =>
    intro v F C hv W ho h6 h26 h17 p6 p26 p17
    have iv : ix (v : Int) = v := ix_n (by omega)
    have iv2 : ix (24 + (v : Int)) = 24 + v := by rw [show (24 + (v : Int)) = ((24 + v : Nat) : Int) from by omega]; exact ix_n (by omega)
    have q1 : inR (v : Int) 24 := inR_n (by omega) (by decide)
    have q2 : inR (v : Int) 48 := inR_n (by omega) (by decide)
    have q3 : inR (24 + (v : Int)) 48 := by rw [show (24 + (v : Int)) = ((24 + v : Nat) : Int) from by omega]; exact inR_n (by omega) (by decide)
    generalize hC4 : cSetE (cSetE (cSetE (cSetE C r6 v (-1)) r26 v (-1)) r17 v (-1)) r17 (24 + v) (-1) = C4
    have f4 : Fp (fun q _ x => q = 2 ∧ (x = r6 ∨ x = r26 ∨ x = r17)) C C4 := by
      rw [← hC4]
      exact ((((Fp.rf W).sE ⟨rfl, Or.inl rfl⟩).sE ⟨rfl, Or.inr (Or.inl rfl)⟩).sE ⟨rfl, Or.inr (Or.inr rfl)⟩).sE ⟨rfl, Or.inr (Or.inr rfl)⟩
    have m4 : ∀ x i, cE C x i = -1 → cE C4 x i = -1 := fun x i h => by
      rw [← hC4, cE_E3, cE_E3, cE_E3, cE_E3]
      split
      · rfl
      · split
        · rfl
        · split
          · rfl
          · split
            · rfl
            · exact h
    have g6 : cE C4 r6 v = -1 := by
      rw [← hC4, cE_E3, cE_E3, cE_E3, cE_E3]
      split
      · rfl
      · split
        · rfl
        · split
          · rfl
          · rw [if_pos ⟨rfl, rfl⟩]
    have g26 : cE C4 r26 v = -1 := by
      rw [← hC4, cE_E3, cE_E3, cE_E3]
      split
      · rfl
      · split
        · rfl
        · rw [if_pos ⟨rfl, rfl⟩]
    have g17 : cE C4 r17 v = -1 := by
      rw [← hC4, cE_E3, cE_E3]
      split
      · rfl
      · rw [if_pos ⟨rfl, rfl⟩]
    have g17b : cE C4 r17 (24 + v) = -1 := by rw [← hC4]; exact cE_E1 _ _ _ _
    have c1 : cR C4 = cR C := by rw [← hC4]; rfl
    have c2 : cI C4 = cI C := by rw [← hC4]; rfl
    have c3 : csz C4 = csz C := by rw [← hC4]; rfl
    have c4 : csl C4 = csl C := by rw [← hC4]; rfl
    have b6 : isO C4 r6 100 ∧ cn C4 r6 = 24 := by rw [← hC4]; exact p6
    have b26 : isO C4 r26 100 ∧ cn C4 r26 = 24 := by rw [← hC4]; exact p26
    have b17 : isO C4 r17 100 ∧ cn C4 r17 = 48 := by rw [← hC4]; exact p17
    have bo : isO C4 a0 15 := by rw [← hC4]; exact ho
    obtain ⟨C', e, f, s', l', i', r', m', q'⟩ := ih (v + 1) F C4 (by omega) f4.wf bo (by rw [c1]; exact h6) (by rw [c1]; exact h26) (by rw [c1]; exact h17) b6 b26 b17
    refine ⟨C', ?_, f4.tr f, s'.trans c3, l'.trans c4, i'.trans c2, r'.trans c1, fun x i h => m' x i (m4 x i h), fun j h1 h2 => ?_⟩
    · rw [show F + (k + 1 + 1) = F + (k + 1) + 1 from rfl, lpn_succ, hB, if_neg (show ¬ w32 24 ≤ w32 (v : Int) by rw [w32_n (n := v) (by omega)]; show ¬ (24 : Int) ≤ v; omega)]
      rw [if_pos ho, bnd_eq, h6, drf_some, if_pos ⟨p6.1, by rw [p6.2]; exact q1⟩, bnd_eq, iv]
      rw [if_pos (show isO (cSetE C r6 v (-1)) a0 15 from ho), bnd_eq, show cR (cSetE C r6 v (-1)) 1526 a0 = some r26 from h26, drf_some, if_pos (show isO (cSetE C r6 v (-1)) r26 100 ∧ inR (v : Int) (cn (cSetE C r6 v (-1)) r26) from ⟨p26.1, by show inR (v : Int) (cn C r26); rw [p26.2]; exact q1⟩), bnd_eq]
      rw [if_pos (show isO (cSetE (cSetE C r6 v (-1)) r26 v (-1)) a0 15 from ho), bnd_eq, show cR (cSetE (cSetE C r6 v (-1)) r26 v (-1)) 1517 a0 = some r17 from h17, drf_some, if_pos (show isO (cSetE (cSetE C r6 v (-1)) r26 v (-1)) r17 100 ∧ inR (v : Int) (cn (cSetE (cSetE C r6 v (-1)) r26 v (-1)) r17) from ⟨p17.1, by show inR (v : Int) (cn C r17); rw [p17.2]; exact q2⟩), bnd_eq]
      rw [if_pos (show isO (cSetE (cSetE (cSetE C r6 v (-1)) r26 v (-1)) r17 v (-1)) a0 15 from ho), bnd_eq, show cR (cSetE (cSetE (cSetE C r6 v (-1)) r26 v (-1)) r17 v (-1)) 1517 a0 = some r17 from h17, drf_some, if_pos (show isO (cSetE (cSetE (cSetE C r6 v (-1)) r26 v (-1)) r17 v (-1)) r17 100 ∧ inR (24 + (v : Int)) (cn (cSetE (cSetE (cSetE C r6 v (-1)) r26 v (-1)) r17 v (-1)) r17) from ⟨p17.1, by show inR (24 + (v : Int)) (cn C r17); rw [p17.2]; exact q3⟩), bnd_eq, iv2, hC4]
      exact e
    · by_cases hj : j = v
      · subst hj
        exact ⟨m' _ _ g6, m' _ _ g26, m' _ _ g17, m' _ _ g17b⟩
      · exact q' j (by omega) h2
end MIO
