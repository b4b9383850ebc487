/-! THE CLASS MADE: its rows of titles, modules, frames and runs -/
section INJ
variable {b : Nat} {C C' C1 C2 C3 : Cd} {S : Nat → Nat → Nat → Prop}
/-- what may change in the one who is made, from a field on -/
def Sa (a k q j x : Nat) : Prop := x = a ∧ (q = 0 ∨ k ≤ j)
theorem Sa.up {a k k' q j x : Nat} (h : k ≤ k') (hs : Sa a k' q j x) : Sa a k q j x := ⟨hs.1, hs.2.imp id (fun z => Nat.le_trans h z)⟩
theorem stA {a : Nat} (W : Wf C) (ho : isO C a 4) (t n k : Nat) : ∃ C', cSetR (cNewA C t n) k a (some (csz C)) = C' ∧ isO (cNewA C t n) a 4 ∧ isO C' a 4 ∧ (isO C' (csz C) t ∧ cn C' (csz C) = n) ∧ cR C' k a = some (csz C) ∧ csz C' = csz C + 1 ∧ csl C' = csl C + n ∧ Fp (Sa a k) C C' ∧ Wf C' :=
  ⟨_, rfl, (Fp.A (S := fun _ _ _ => False) W t n).ob W ho, (Fp.A (S := fun _ _ _ => False) W t n).ob W ho, ⟨isO_A1 C t n, cn_A1 C t n⟩, cR_R1 _ _ _ _, rfl, rfl, (Fp.A W t n).tr (Fp.R (Wf_A W t n) _ _ _ ⟨rfl, Or.inr (Nat.le_refl _)⟩), Wf_A W t n⟩
theorem mkL {kR tag N cls s sl a0 p : Nat} {mk : Nat → Cd → Option (Unit × Cd)} {O : Cd → Nat → Prop} {z : Int → Cd → Option (Unit × Cd)} {Bd : (Int → Cd → Option (Unit × Cd)) → Int → Cd → Option (Unit × Cd)} {E : Cd → Option (Unit × Cd)}
    (hB : ∀ L v C, Bd L v C = if isO C a0 4 then bnd (cR C kR a0) fun (z1 : Option Nat) => drf z1 fun (p1 : Nat) => if isO C p1 tag then (if w32 (cn C p1 : Int) ≤ w32 v then E C else (if isO C a0 4 then bnd (cR C kR a0) fun (z2 : Option Nat) => bnd (cNew C cls) fun (C1 : Cd) => cal (mk (csz C) C1) fun (_ : Unit) (C2 : Cd) => drf z2 fun (p2 : Nat) => if (isO C2 p2 tag ∧ inR v (cn C2 p2)) ∧ isO C2 (csz C) cls then bnd (cSetP C2 p2 (ix v) (some (csz C))) fun (C3 : Cd) => L (v + 1) C3 else none else none)) else none else none)
    (hmk : ∀ C, Wf C → ∃ C', mk (csz C) (cNew C cls) = some ((), C') ∧ O C' (csz C) ∧ Fp (fun _ _ _ => False) C C' ∧ csz C' = csz C + s ∧ csl C' = csl C + sl)
    (hOo : ∀ {C a}, O C a → isO C a cls) (hO : ∀ {C C' a} {S : Nat → Nat → Nat → Prop}, Wf C → Fp S C C' → O C a → (∀ q k x, a ≤ x → x < a + s → ¬ S q k x) → O C' a) (hN : N < 1000000) (hs : 0 < s) :
    ∀ k v F C, v + k = N → Wf C → isO C a0 4 → cR C kR a0 = some p → isO C p tag → cn C p = N → ∃ C', lpn z Bd (F + (k + 1)) (v : Int) C = E C' ∧ Fp (fun q _ x => q = 3 ∧ x = p) C C' ∧ csz C' = csz C + k * s ∧ csl C' = csl C + k * sl ∧ (∀ j, j < v → cP C' p j = cP C p j) ∧ ∀ i, i < k → cP C' p (v + i) = some (csz C + i * s) ∧ O C' (csz C + i * s) := by
  intro k
  induction k with
  | zero =>
    intro v F C hv W ho hr hp hn
    refine ⟨C, ?_, Fp.rf W, by omega, by omega, fun j _ => rfl, fun i hi => absurd hi (by omega)⟩
    rw [lpn_succ, hB, if_pos ho, bnd_eq, hr, drf_some, if_pos hp, if_pos (show w32 (cn C p : Int) ≤ w32 (v : Int) by rw [hn, w32_n (by omega), w32_n (by omega)]; omega)]
  | succ k ih =>
    intro v F C hv W ho hr hp hn
    obtain ⟨C2, e2, o2, f2, s2, l2⟩ := hmk C W
    have hpz : p < csz C := W p hp.1
    have haz : a0 < csz C := W a0 ho.1
    have W2 := f2.wf
    have hp2 : isO C2 p tag := f2.ob W hp
    have hn2 : cn C2 p = N := (f2.len W hp).trans hn
    generalize hC3 : cSetP C2 p v (some (csz C)) = C3
    have f3 : Fp (fun q _ x => q = 3 ∧ x = p) C2 C3 := by rw [← hC3]; exact Fp.P W2 _ _ _ ⟨rfl, rfl⟩
    have s3 : csz C3 = csz C2 := by rw [← hC3]; rfl
    have l3 : csl C3 = csl C2 := by rw [← hC3]; rfl
    have hr3 : cR C3 kR a0 = some p := (f3.fR (by omega) (fun y => absurd y.1 (by decide))).trans ((f2.fR haz (fun y => y)).trans hr)
    obtain ⟨C', e4, f4, s4, l4, p4, q4⟩ := ih (v + 1) F C3 (by omega) f3.wf (f3.ob W2 (f2.ob W ho)) hr3 (f3.ob W2 hp2) ((f3.len W2 hp2).trans hn2)
    have o3 : O C3 (csz C) := hO W2 f3 o2 (fun q k x h1 h2 y => by omega)
    refine ⟨C', ?_, (f2.mono (fun _ _ _ _ y => y.elim)).tr (f3.tr f4), by rw [s4, s3, s2, Nat.succ_mul]; omega, by rw [l4, l3, l2, Nat.succ_mul]; omega, fun j hj => ?_, fun i hi => ?_⟩
    · rw [show F + (k + 1 + 1) = F + (k + 1) + 1 from rfl, lpn_succ, hB, if_pos ho, bnd_eq, hr, drf_some, if_pos hp, if_neg (show ¬ w32 (cn C p : Int) ≤ w32 (v : Int) by rw [hn, w32_n (by omega), w32_n (by omega)]; omega), if_pos ho, bnd_eq, bnd_eq, cal_of e2, drf_some, if_pos ⟨⟨hp2, by rw [hn2]; exact inR_n (by omega) (by omega)⟩, hOo o2⟩, bnd_eq, ix_n (by omega), hC3]
      exact e4
    · rw [p4 j (by omega), ← hC3, cP_P2 _ _ (Or.inr (by omega)), f2.fP hpz (fun y => y)]
    · cases i with
      | zero =>
        refine ⟨?_, ?_⟩
        · rw [show v + 0 = v from rfl, p4 v (by omega), ← hC3, cP_P1, Nat.zero_mul]; rfl
        · rw [Nat.zero_mul]
          exact hO f3.wf f4 o3 (fun q k x h1 h2 y => by omega)
      | succ i =>
        have := q4 i (by omega)
        have ez : csz C3 + i * s = csz C + (i + 1) * s := by rw [s3, s2, Nat.succ_mul]; omega
        rw [ez, show v + 1 + i = v + (i + 1) from by omega] at this
        exact this
/-- the loop, and what comes behind it -/
theorem mkT {kR tag N cls s sl a0 p : Nat} {mk : Nat → Cd → Option (Unit × Cd)} {O : Cd → Nat → Prop} {z : Int → Cd → Option (Unit × Cd)} {Bd : (Int → Cd → Option (Unit × Cd)) → Int → Cd → Option (Unit × Cd)} {E : Cd → Option (Unit × Cd)} {Q : Cd → Prop} {C : Cd}
    (hB : ∀ L v C, Bd L v C = if isO C a0 4 then bnd (cR C kR a0) fun (z1 : Option Nat) => drf z1 fun (p1 : Nat) => if isO C p1 tag then (if w32 (cn C p1 : Int) ≤ w32 v then E C else (if isO C a0 4 then bnd (cR C kR a0) fun (z2 : Option Nat) => bnd (cNew C cls) fun (C1 : Cd) => cal (mk (csz C) C1) fun (_ : Unit) (C2 : Cd) => drf z2 fun (p2 : Nat) => if (isO C2 p2 tag ∧ inR v (cn C2 p2)) ∧ isO C2 (csz C) cls then bnd (cSetP C2 p2 (ix v) (some (csz C))) fun (C3 : Cd) => L (v + 1) C3 else none else none)) else none else none)
    (hmk : ∀ C, Wf C → ∃ C', mk (csz C) (cNew C cls) = some ((), C') ∧ O C' (csz C) ∧ Fp (fun _ _ _ => False) C C' ∧ csz C' = csz C + s ∧ csl C' = csl C + sl)
    (hOo : ∀ {C a}, O C a → isO C a cls) (hO : ∀ {C C' a} {S : Nat → Nat → Nat → Prop}, Wf C → Fp S C C' → O C a → (∀ q k x, a ≤ x → x < a + s → ¬ S q k x) → O C' a) (hN : N < 1000) (hs : 0 < s)
    (W : Wf C) (ho : isO C a0 4) (hr : cR C kR a0 = some p) (hp : isO C p tag) (hn : cn C p = N)
    (hk : ∀ C', Fp (fun q _ x => q = 3 ∧ x = p) C C' → csz C' = csz C + N * s → csl C' = csl C + N * sl → (∀ i, i < N → cP C' p i = some (csz C + i * s) ∧ O C' (csz C + i * s)) → ∃ Cz, E C' = some ((), Cz) ∧ Q Cz) :
    ∃ Cz, (bnd (lpn z Bd FU) fun J => J 0 C) = some ((), Cz) ∧ Q Cz := by
  obtain ⟨F, hF⟩ : ∃ F, FU = F + (N + 1) := ⟨FU - (N + 1), by unfold FU; omega⟩
  obtain ⟨C', e, f, s1, l1, _, q⟩ := mkL (z := z) hB hmk hOo hO (by omega) hs N 0 F C (by omega) W ho hr hp hn
  obtain ⟨Cz, e2, hq⟩ := hk C' f s1 l1 (fun i hi => by have := q i hi; rw [Nat.zero_add] at this; exact this)
  refine ⟨Cz, ?_, hq⟩
  rw [bnd_eq, hF]
  exact e.trans e2
end INJ
