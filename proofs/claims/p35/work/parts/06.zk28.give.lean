/-! WHAT THE CLASS'S FUNCTIONS GIVE -/
section GVC
variable {b : Nat} {C : Cd} {E : Env} {VA : Nat → Nat} {up : Int} {s : ASt} {R ra f : Nat} {pl : List Nat} {acc : List Int}
/-- the parts of a FUNC in a frame -/
def PlS (E : Env) (s : ASt) (f : Nat) (pl : List Nat) : Prop := ∀ x ∈ pl, x < fn E s f ∧ mkB (fg E s f x / 1000) = true
theorem XS.cur0 (h : XS b C E VA up s R) (hc : CurR b C E s ra) : ra = b + 11 ∨ b + 854 ≤ ra := by
  rcases hc with e | ⟨cf, cp, c1, c2, c3, c4, c5⟩
  · exact Or.inl e
  · have hn := h.2.2.2.2.2.2.1.2.1
    exact Or.inr (h.2.1 cf cp ra (by omega) (by have := h.n30 c1; omega) c5).2.1
theorem part_have (h : XS b C E VA up s R) (hc : CurR b C E s ra) (hf : f < aNf s) (hP : PlC b C pl) (hPS : PlS E s f pl) {j : Nat} {r : List Int} (hj : j < 100000) (hp : prt s f pl j = some (some r)) :
   ∃ a, fX1_partOf (b + 1) (some (b + 169 + 4 * f)) (j : Int) C = some (some a, C) ∧ RowV C a r ∧ a ≠ ra := by
  have hn := h.2.2.2.2.2.2.1.2.1
  have c0 := h.cur0 hc
  unfold prt at hp
  by_cases c : j = 0 ∨ pl.length < j
  · rw [if_pos c] at hp
    injection hp with hp
    injection hp with hp
    subst hp
    exact ⟨b + 6, X1_partOf_out h.1 (by omega) hP ⟨by omega, by omega⟩ (by omega), h.2.2.2.2.2.2.2.1, by omega⟩
  · rw [if_neg c] at hp
    obtain ⟨j', rfl⟩ : ∃ j', j = j' + 1 := ⟨j - 1, by omega⟩
    rw [Nat.add_sub_cancel] at hp
    have hjl : j' < pl.length := by omega
    have hx := hPS _ (getDn_mem hjl)
    obtain ⟨m1, m2⟩ := h.2.2.2.2.1 f _ hf hx.1 hx.2
    by_cases c2 : aPs s f (pl.getD j' 0) = 2
    · rw [if_pos c2] at hp
      injection hp with hp
      injection hp with hp
      subst hp
      rw [if_neg (by omega)] at m1
      obtain ⟨a, a1, a2⟩ := m2 (by omega)
      rcases X1_partOf_in h.1 (show f < 41 by omega) hP hjl with e | e
      · rw [m1, if_neg (by decide), a1] at e
        exact ⟨a, e, a2 c2, h.ne hc hf hx.1 c2 a1⟩
      · exact absurd (Or.inr m1) e
    · rw [if_neg c2] at hp
      by_cases c3 : aPs s f (pl.getD j' 0) = 0
      · rw [if_pos c3] at hp; injection hp with hp; cases hp
      · rw [if_neg c3] at hp; cases hp
theorem part_need (h : XS b C E VA up s R) (hf : f < aNf s) (hP : PlC b C pl) (hPS : PlS E s f pl) {j : Nat} (hp : prt s f pl j = some none) :
   1 ≤ j ∧ j ≤ pl.length ∧ fX1_partOf (b + 1) (some (b + 169 + 4 * f)) (j : Int) C = some (none, cSetI C 414 (b + 1) (pl.getD (j - 1) 0 : Int)) ∧ aPs s f (pl.getD (j - 1) 0) = 0 := by
  have hn := h.2.2.2.2.2.2.1.2.1
  unfold prt at hp
  by_cases c : j = 0 ∨ pl.length < j
  · rw [if_pos c] at hp; injection hp with hp; cases hp
  · rw [if_neg c] at hp
    obtain ⟨j', rfl⟩ : ∃ j', j = j' + 1 := ⟨j - 1, by omega⟩
    rw [Nat.add_sub_cancel] at hp ⊢
    have hjl : j' < pl.length := by omega
    have hx := hPS _ (getDn_mem hjl)
    obtain ⟨m1, m2⟩ := h.2.2.2.2.1 f _ hf hx.1 hx.2
    by_cases c2 : aPs s f (pl.getD j' 0) = 2
    · rw [if_pos c2] at hp; injection hp with hp; cases hp
    · rw [if_neg c2] at hp
      by_cases c3 : aPs s f (pl.getD j' 0) = 0
      · rw [if_pos c3] at m1
        rcases X1_partOf_in h.1 (show f < 41 by omega) hP hjl with e | e
        · rw [m1, if_pos rfl] at e
          exact ⟨by omega, by omega, e, c3⟩
        · exact absurd (Or.inl m1) e
      · rw [if_neg c3] at hp; cases hp
/-- what giving may touch -/
def sG (b ra q k a : Nat) : Prop := sRow ra q k a ∨ (q = 0 ∧ a = b + 10 ∧ 703 ≤ k ∧ k ≤ 707) ∨ (q = 0 ∧ a = b + 1 ∧ k = 414) ∨ (q = 2 ∧ a = b + 8)
theorem sG.s2 {U q k a : Nat} (h : sG b ra q k a) : S2 b U ra q k a := by
  rcases h with h | h | ⟨h1, h2, h3⟩ | ⟨h1, h2⟩
  · exact Or.inl (Or.inr (Or.inl h))
  · exact Or.inl (Or.inr (Or.inr h))
  · exact Or.inr (Or.inl ⟨h1, h2, by omega, by omega⟩)
  · exact Or.inr (Or.inr ⟨h1, Or.inl h2⟩)
/-- a run that stands at a FUNC -/
def RunF (b : Nat) (C : Cd) (r f ra : Nat) : Prop := r < 512 ∧ f < 41 ∧ cR C 900 (b + 333 + r) = some (b + 169 + 4 * f) ∧ cR C 901 (b + 333 + r) = some ra
theorem part_put (h : XS b C E VA up s R) (hc : CurR b C E s ra) (hf : f < aNf s) (hP : PlC b C pl) (hPS : PlS E s f pl) {r j : Nat} (hA : RunF b C r f ra) (hra : RowV C ra acc) (hj : j < 100000) :
   (∀ q, prt s f pl j = some (some q) → ∃ C', fX1_givePart (b + 1) (some (b + 333 + r)) (j : Int) C = some (1, C') ∧ RowV C' ra (aal acc q) ∧ Fp (sG b ra) C C' ∧ csz C' = csz C ∧ csl C' = csl C ∧ (∀ k, 703 ≤ k → k ≤ 707 → cI C' k (b + 10) = cI C k (b + 10))) ∧
   (prt s f pl j = some none → fX1_givePart (b + 1) (some (b + 333 + r)) (j : Int) C = some (0, cSetI C 414 (b + 1) (pl.getD (j - 1) 0 : Int))) := by
  obtain ⟨hr, hf41, h900, h901⟩ := hA
  have hL := h.1
  have hU := hL.uo hr
  refine ⟨fun q hq => ?_, fun hq => ?_⟩
  · obtain ⟨a, e, ar, an⟩ := part_have h hc hf hP hPS hj hq
    obtain ⟨C', e2, r2, f2, s2, l2⟩ := X5_addAll_ hL.W an.symm hra ar
    refine ⟨C', ?_, r2, f2.mono (fun _ _ _ _ z => Or.inl z), s2, l2, fun k k1 k2 => f2.fI (by have := hL.sz; omega) (by unfold sRow; omega)⟩
    unfold fX1_givePart
    rw [drf_some, if_pos hU, bnd_eq, h900, if_pos hL.oe, cal_of e, opt_some, if_pos hU, bnd_eq, drf_eq h901, if_pos hra.ob, cal_of e2]
  · obtain ⟨_, _, e, _⟩ := part_need h hf hP hPS hq
    unfold fX1_givePart
    rw [drf_some, if_pos hU, bnd_eq, h900, if_pos hL.oe, cal_of e, opt_none]
theorem X1_giveSum_ (h : XS b C E VA up s R) (hc : CurR b C E s ra) (hf : f < aNf s) (hP : PlC b C pl) (hPS : PlS E s f pl) {r : Nat} (hA : RunF b C r f ra) (hra : RowV C ra acc) :
   (∀ a, gsm s f pl pl.length 1 0 = some (0, a) → ∃ C', fX1_giveSum (b + 1) (some (b + 333 + r)) C = some (1, C') ∧ RowV C' ra (apl acc (a % 1000)) ∧ Fp (sG b ra) C C' ∧ csz C' = csz C ∧ csl C' = csl C ∧ (∀ k, 703 ≤ k → k ≤ 707 → cI C' k (b + 10) = cI C k (b + 10))) ∧
   (∀ j a, gsm s f pl pl.length 1 0 = some (j + 1, a) → j < pl.length ∧ fX1_giveSum (b + 1) (some (b + 333 + r)) C = some (0, cSetI C 414 (b + 1) (pl.getD j 0 : Int)) ∧ aPs s f (pl.getD j 0) = 0) := by
  obtain ⟨hr, hf41, h900, h901⟩ := hA
  have hL := h.1
  have hU := hL.uo hr
  have hpl := hP.2.1
  unfold fX1_giveSum
  rw [bnd_eq]
  have key := lpn_rule (z := fun (_ : Int) (_ : Int) (_ : Cd) => (none : Option (Int × Cd))) (body := fun L4 (v2_4 : Int) (v3_4 : Int) (C_4 : Cd) =>
if isO C_4 (b + 1) 4 then
if w32 (cI C_4 413 (b + 1)) < w32 v3_4 then
drf (some (b + 333 + r)) fun (p1 : Nat) =>
if isO C_4 p1 9 then bnd (cR C_4 901 p1) fun (z2 : Option Nat) =>
drf z2 fun (p3 : Nat) =>
if isO C_4 p3 8 then cal (fX5_add p3 (remI v2_4 1000) C_4) fun (r5 : Unit) (C4 : Cd) =>
some (1, C4)
else none
else none
else
drf (some (b + 333 + r)) fun (p6 : Nat) =>
if isO C_4 p6 9 then bnd (cR C_4 900 p6) fun (z7 : Option Nat) =>
if isO C_4 (b + 1) 4 then cal (fX1_partOf (b + 1) z7 v3_4 C_4) fun (r9 : Option Nat) (C8 : Cd) =>
opt r9 (
some (0, C8)) (fun (p10 : Nat) =>
if isO C8 p10 8 then
bnd (v2_4 + (cI C8 802 p10)) fun (x2_37 : Int) =>
L4 x2_37 (v3_4 + 1) C8
else none)
else none
else none
else none) (P := fun mm (L : Int → Int → Cd → Option (Int × Cd)) => ∀ (j : Nat) (v : Int), 1 ≤ j → j ≤ pl.length + 1 → pl.length + 1 - j < mm → 0 ≤ v → v ≤ 150000 * ((j : Int) - 1) →
    (∀ a, gsm s f pl (pl.length + 1 - j) j v = some (0, a) → ∃ C', L v (j : Int) C = some (1, C') ∧ RowV C' ra (apl acc (a % 1000)) ∧ Fp (sG b ra) C C' ∧ csz C' = csz C ∧ csl C' = csl C ∧ (∀ k, 703 ≤ k → k ≤ 707 → cI C' k (b + 10) = cI C k (b + 10))) ∧
    (∀ i a, gsm s f pl (pl.length + 1 - j) j v = some (i + 1, a) → i < pl.length ∧ L v (j : Int) C = some (0, cSetI C 414 (b + 1) (pl.getD i 0 : Int)) ∧ aPs s f (pl.getD i 0) = 0)) (fun j v _ _ h => absurd h (Nat.not_lt_zero _)) (fun mm L hLL j v hj1 hj2 hm hv1 hv2 => ?_) FU 1 0 (Nat.le_refl _) (by omega) (by unfold FU; omega) (Int.le_refl _) (by omega)
  · rw [show pl.length + 1 - 1 = pl.length by omega] at key
    exact key
  · dsimp only
    rw [if_pos hL.oe, hP.1]
    rcases Nat.lt_or_ge pl.length j with hlt | hge
    · have e0 : pl.length + 1 - j = 0 := by omega
      rw [if_pos (by rw [w32_n (by omega), w32_n (by omega)]; omega), drf_some, if_pos hU, bnd_eq, drf_eq h901, if_pos hra.ob, e0, remI_of hv1 (by omega) (by omega) (by omega)]
      refine ⟨fun a ha => ?_, fun i a ha => ?_⟩
      · unfold gsm at ha
        injection ha with ha
        injection ha with _ ha
        subst ha
        obtain ⟨C', e2, r2, f2, s2, l2⟩ := X5_add_ hL.W hra (x := v % 1000) (by omega) (by omega)
        refine ⟨C', ?_, r2, f2.mono (fun _ _ _ _ z => Or.inl z), s2, l2, fun k k1 k2 => f2.fI (by have := hL.sz; omega) (by unfold sRow; omega)⟩
        rw [cal_of e2]
      · unfold gsm at ha
        injection ha with ha
        injection ha with ha _
        cases ha
    · have e0 : pl.length + 1 - j = (pl.length + 1 - (j + 1)) + 1 := by omega
      rw [if_neg (by rw [w32_n (by omega), w32_n (by omega)]; omega), drf_some, if_pos hU, bnd_eq, h900, if_pos hL.oe, e0]
      cases hq : prt s f pl j with
      | none =>
        have eg : gsm s f pl (pl.length + 1 - (j + 1) + 1) j v = none := by rw [gsm, hq]
        rw [eg]
        exact ⟨fun a ha => (by cases ha), fun i a ha => (by cases ha)⟩
      | some o =>
        cases o with
        | none =>
          have eg : gsm s f pl (pl.length + 1 - (j + 1) + 1) j v = some (j, v) := by rw [gsm, hq]
          obtain ⟨p1, p2, p3, p4⟩ := part_need h hf hP hPS hq
          rw [eg, cal_of p3, opt_none]
          refine ⟨fun a ha => ?_, fun i a ha => ?_⟩
          · injection ha with ha
            injection ha with ha _
            omega
          · injection ha with ha
            injection ha with ha _
            rw [ha, Nat.add_sub_cancel] at p4 ⊢
            exact ⟨by omega, rfl, p4⟩
        | some rr =>
          have eg : gsm s f pl (pl.length + 1 - (j + 1) + 1) j v = gsm s f pl (pl.length + 1 - (j + 1)) (j + 1) (v + wsum rr) := by rw [gsm, hq]
          obtain ⟨a, p1, p2, p3⟩ := part_have h hc hf hP hPS (by omega) hq
          have hw := wsum_rng p2.2.2.2.1.2
          have hl := p2.2.2.2.1.1
          rw [eg, cal_of p1, opt_some, if_pos p2.ob, bnd_eq, p2.2.2.1]
          exact hLL (j + 1) (v + wsum rr) (by omega) (by omega) (by omega) (by omega) (by omega)
end GVC
