/-! THE CLASS'S WAYS, CALLERS, PARTS' ROWS -/
section WAY
variable {b : Nat} {C : Cd} {E : Env} {VA : Nat → Nat} {up : Int}
def sWy (b q k a : Nat) : Prop := q = 0 ∧ k = 412 ∧ a = b + 1
theorem sWy.mu {q k a : Nat} (h : sWy b q k a) : Mu b q k a := Or.inl h.1
/-- what a title shows -/
def tRef (E : Env) (VA : Nat → Nat) (t : Nat) : Option Nat := if eSn E t = -1 then none else some (VA (eSn E t).toNat + 1)
theorem wayF_lt (E : Env) : ∀ n t S, S < 16777216 → t < 24 → (∀ t, t < 24 → eSn E t ≠ -1 → eTx E (eSn E t).toNat 0 / 1000 = 12 → (eTx E (eSn E t).toNat 0 % 1000).toNat < 24) → (wayF E n t S).2 < 16777216 ∧ ((wayF E n t S).1 = -1 ∨ (0 ≤ (wayF E n t S).1 ∧ (wayF E n t S).1 < 24 ∧ eSn E (wayF E n t S).1.toNat ≠ -1)) := by
  intro n
  induction n with
  | zero => intro t S hS ht _; exact ⟨hS, Or.inl rfl⟩
  | succ n ih =>
    intro t S hS ht h
    unfold wayF
    have hS2 := or_24 hS ht
    by_cases c : eSn E t = -1
    · rw [if_pos c]; exact ⟨hS2, Or.inl rfl⟩
    · rw [if_neg c]
      by_cases c2 : eTx E (eSn E t).toNat 0 / 1000 = 12
      · rw [if_pos c2]; exact ih _ _ hS2 (h t ht c c2) h
      · rw [if_neg c2]
        refine ⟨hS2, Or.inr ⟨by omega, by omega, ?_⟩⟩
        show eSn E ((t : Int)).toNat ≠ -1
        rw [Int.toNat_natCast]
        exact c
theorem X1_goalOf_ (hL : Lay b C) (hTA : ∀ C1, Fp (sWy b) C C1 → ∀ t : Nat, t < 24 → fX1_textAt (b + 1) (t : Int) up C1 = some (tRef E VA t, C1))
   (hTx : ∀ t, t < 24 → eSn E t ≠ -1 → Stl C (VA (eSn E t).toNat + 1) (eTx E (eSn E t).toNat) (eTl E (eSn E t).toNat) ∧ 0 < eTl E (eSn E t).toNat ∧ Tkv (eTx E (eSn E t).toNat) (eTl E (eSn E t).toNat)) {t : Nat} (ht : t < 24) :
   ∃ C', fX1_goalOf (b + 1) (t : Int) up C = some ((wayF E 5 t 0).1, C') ∧ Fp (sWy b) C C' ∧ csz C' = csz C ∧ csl C' = csl C ∧ cI C' 412 (b + 1) = ((wayF E 5 t 0).2 : Int) := by
  have f0 : Fp (sWy b) C (cSetI C 412 (b + 1) 0) := (Fp.rf hL.W).sI ⟨rfl, rfl, rfl⟩
  unfold fX1_goalOf
  rw [if_pos hL.oe, bnd_eq, bnd_eq]
  refine Exists.elim (lpn_rule (P := fun mm (L : Int → Int → Cd → Option (Int × Cd)) => ∀ (i t S : Nat) (C1 : Cd), i ≤ 5 → 5 - i < mm → t < 24 → S < 16777216 → Fp (sWy b) C C1 → csz C1 = csz C → csl C1 = csl C → cI C1 412 (b + 1) = (S : Int) → ∃ C', L (t : Int) (i : Int) C1 = some ((wayF E (5 - i) t S).1, C') ∧ Fp (sWy b) C C' ∧ csz C' = csz C ∧ csl C' = csl C ∧ cI C' 412 (b + 1) = ((wayF E (5 - i) t S).2 : Int)) (fun i _ _ _ _ h => absurd h (Nat.not_lt_zero _)) (fun mm L hLL i t S C1 hi hm ht hS f1 s1 l1 h412 => ?_) FU 0 t 0 (cSetI C 412 (b + 1) 0) (Nat.zero_le _) (by unfold FU; omega) ht (by decide) f0 rfl rfl (cI_I1 _ _ _ _)) (fun C' q => ⟨C', q⟩)
  rcases Nat.lt_or_ge i 5 with hlt | hge
  · have e5 : 5 - i = (5 - (i + 1)) + 1 := by omega
    have h1 := hL.keep (f1.mono (fun _ _ _ _ z => z.mu))
    have hset := orI_set hS ht
    have f2 : Fp (sWy b) C (cSetI C1 412 (b + 1) ((S ||| 2 ^ t : Nat) : Int)) := f1.sI ⟨rfl, rfl, rfl⟩
    have h2 := hL.keep (f2.mono (fun _ _ _ _ z => z.mu))
    have hta := hTA _ f2 t ht
    rw [if_neg (by rw [show w32 4 = 4 from rfl, w32_n (by omega)]; omega), if_pos h1.oe, if_pos h1.oe, bnd_eq, h412, hset, if_pos h2.oe, cal_of hta, e5]
    unfold tRef
    by_cases c : eSn E t = -1
    · have ew : wayF E (5 - (i + 1) + 1) t S = (-1, S ||| 2 ^ t) := by rw [wayF, if_pos c]
      rw [if_pos c, opt_none, ew]
      exact ⟨_, rfl, f2, s1, l1, cI_I1 _ _ _ _⟩
    · obtain ⟨x1, x2, x3⟩ := hTx t ht c
      have hT2 : Stl (cSetI C1 412 (b + 1) ((S ||| 2 ^ t : Nat) : Int)) (VA (eSn E t).toNat + 1) (eTx E (eSn E t).toNat) (eTl E (eSn E t).toNat) := x1.fp hL.W f2 (by unfold sWy; omega) (by unfold sWy; omega) (by unfold sWy; omega) (by unfold sWy; omega) (by unfold sWy; omega)
      have hir := X8_isRedirect_ hT2.1.1 x2
      rw [hT2.1.2 0 x2] at hir
      have hok := x3 0 x2
      unfold okt at hok
      rw [if_neg c, opt_some, if_pos hT2.1.isO_, cal_of hir]
      by_cases c2 : eTx E (eSn E t).toNat 0 / 1000 = 12
      · have ew : wayF E (5 - (i + 1) + 1) t S = wayF E (5 - (i + 1)) (eTx E (eSn E t).toNat 0 % 1000).toNat (S ||| 2 ^ t) := by rw [wayF, if_neg c, if_pos c2]
        have hv := hT2.1.value x2
        rw [show ((0 : Nat) : Int) = 0 from rfl] at hv
        have hlt24 := hok.2.2.1 (Or.inr (Or.inr c2))
        rw [if_pos c2, if_pos (by decide), if_pos hT2.1.isO_, cal_of hv, ew]
        have h := hLL (i + 1) (eTx E (eSn E t).toNat 0 % 1000).toNat (S ||| 2 ^ t) _ hlt (by omega) (by omega) (or_24 hS ht) f2 s1 l1 (cI_I1 _ _ _ _)
        rw [show (((eTx E (eSn E t).toNat 0 % 1000).toNat : Nat) : Int) = eTx E (eSn E t).toNat 0 % 1000 by omega] at h
        exact h
      · have ew : wayF E (5 - (i + 1) + 1) t S = ((t : Int), S ||| 2 ^ t) := by rw [wayF, if_neg c, if_neg c2]
        rw [if_neg c2, if_neg (by decide), ew]
        exact ⟨_, rfl, f2, s1, l1, cI_I1 _ _ _ _⟩
  · have e : i = 5 := by omega
    subst e
    rw [if_pos (by decide)]
    exact ⟨C1, rfl, f1, s1, l1, h412⟩
/-- whether a frame comes from one of a title -/
theorem X2_comesFrom_ (hL : Lay b C) {s : ASt} {nf : Nat} (hnf : nf ≤ 41) (hfr : ∀ f, f < nf → cI C 505 (b + 169 + 4 * f) = ((aFr s f).2.1 : Int) ∧ (aFr s f).2.1 < 24 ∧ (((aFr s f).2.2.2.1 = -1 ∧ cR C 503 (b + 169 + 4 * f) = none) ∨ (0 ≤ (aFr s f).2.2.2.1 ∧ (aFr s f).2.2.2.1 < (f : Int) ∧ cR C 503 (b + 169 + 4 * f) = some (b + 169 + 4 * (aFr s f).2.2.2.1.toNat)))) {f : Nat} (hf : f < nf) {t : Int} (ht : I32 t) :
   fX2_comesFrom (b + 169 + 4 * f) t C = some (if cmF s 41 f t = true then 1 else 0, C) := by
  unfold fX2_comesFrom
  rw [bnd_eq]
  refine (lpn_rule (P := fun mm (L : Option Nat → Cd → Option (Int × Cd)) => (0 < mm → L none C = some (0, C)) ∧ ∀ (f k : Nat), f < nf → f < k → f + 1 < mm → L (some (b + 169 + 4 * f)) C = some (if cmF s k f t = true then 1 else 0, C)) ⟨fun h => absurd h (Nat.lt_irrefl _), fun f k _ _ h => absurd h (Nat.not_lt_zero _)⟩ (fun mm L hLL => ⟨fun _ => rfl, fun f k hf hk hm => ?_⟩) FU).2 f 41 hf (by omega) (by unfold FU; omega)
  obtain ⟨a1, a2, a3⟩ := hfr f hf
  obtain ⟨k', rfl⟩ : ∃ k', k = k' + 1 := ⟨k - 1, by omega⟩
  rw [opt_some, if_pos (hL.fo (by omega)), a1, w32_n (by omega), w32_of ht.1 ht.2]
  by_cases c : ((aFr s f).2.1 : Int) = t
  · have e : cmF s (k' + 1) f t = true := by rw [cmF, decide_eq_true c, Bool.true_or]
    rw [if_neg (fun z => z c), e, ite_tt]
  · rw [if_pos c, if_pos (hL.fo (by omega)), bnd_eq]
    rcases a3 with ⟨b1, b2⟩ | ⟨b1, b2, b3⟩
    · have e : cmF s (k' + 1) f t = false := by rw [cmF, decide_eq_false c, Bool.false_or, if_pos b1]
      rw [b2, e, ite_ff]
      exact hLL.1 (by omega)
    · have e : cmF s (k' + 1) f t = cmF s k' (aFr s f).2.2.2.1.toNat t := by rw [cmF, decide_eq_false c, Bool.false_or, if_neg (by omega)]
      rw [b3, e]
      exact hLL.2 _ k' (by omega) (by omega) (by omega)
section PO
variable {f : Nat} {pl : List Nat}
/-- the list of parts that stands -/
def PlC (b : Nat) (C : Cd) (pl : List Nat) : Prop := cI C 413 (b + 1) = (pl.length : Int) ∧ pl.length ≤ 30 ∧ (∀ x ∈ pl, x < 30) ∧ ∀ j, j < pl.length → cE C (b + 9) j = (pl.getD j 0 : Int)
theorem getDn_mem {l : List Nat} {k : Nat} (h : k < l.length) : l.getD k 0 ∈ l := by
  rw [List.getD_eq_getElem?_getD, List.getElem?_eq_getElem h]
  exact List.getElem_mem h
theorem X1_partOf_out (hL : Lay b C) (hf : f < 41) (hP : PlC b C pl) {j : Int} (hj : I32 j) (ho : j < 1 ∨ (pl.length : Int) < j) : fX1_partOf (b + 1) (some (b + 169 + 4 * f)) j C = some (some (b + 6), C) := by
  obtain ⟨p1, p2, p3, p4⟩ := hP
  unfold fX1_partOf
  rw [bnd_eq, bnd_eq, w32_of hj.1 hj.2, show w32 1 = 1 from rfl]
  by_cases c : j < 1
  · rw [if_pos c]
    dsimp only
    rw [bnd_eq, if_pos (by decide)]
    dsimp only
    rw [if_pos hL.oe, bnd_eq, hL.x4]
  · rw [if_neg c, if_pos hL.oe, p1, w32_n (by omega), if_pos (by omega)]
    dsimp only
    rw [bnd_eq, if_pos (by decide)]
    dsimp only
    rw [if_pos hL.oe, bnd_eq, hL.x4]
theorem X1_partOf_in (hL : Lay b C) (hf : f < 41) (hP : PlC b C pl) {j : Nat} (hj : j < pl.length) : fX1_partOf (b + 1) (some (b + 169 + 4 * f)) ((j : Int) + 1) C = (if cE C (b + 169 + 4 * f + 3) (pl.getD j 0) = 0 then some (none, cSetI C 414 (b + 1) (pl.getD j 0 : Int)) else some (cP C (b + 169 + 4 * f + 2) (pl.getD j 0), C)) ∨ ¬ (cE C (b + 169 + 4 * f + 3) (pl.getD j 0) = 0 ∨ cE C (b + 169 + 4 * f + 3) (pl.getD j 0) = 1) := by
  obtain ⟨p1, p2, p3, p4⟩ := hP
  have hx := p3 _ (getDn_mem hj)
  have hv := p4 j hj
  generalize pl.getD j 0 = x at *
  by_cases c01 : cE C (b + 169 + 4 * f + 3) x = 0 ∨ cE C (b + 169 + 4 * f + 3) x = 1
  · left
    have hixx : ix (x : Int) = x := ix_n (by omega)
    have hi1 : ix ((j : Int) + 1 - 1) = j := ix_eq (by omega) (by omega)
    have hin : inR ((j : Int) + 1 - 1) 30 := by rw [show (j : Int) + 1 - 1 = (j : Int) by omega]; exact inR_n (by omega) (by omega)
    unfold fX1_partOf
    rw [bnd_eq, bnd_eq, w32_of (x := (j : Int) + 1) (by omega) (by omega), show w32 1 = 1 from rfl, if_neg (by omega), if_pos hL.oe, p1, w32_n (by omega), if_neg (by omega), if_pos hL.oe, bnd_eq, drf_eq hL.x6, if_pos hL.op, hL.np, if_neg (by rw [w32_n (by omega)]; omega), if_pos hL.oe, bnd_eq, drf_eq hL.x6, if_pos ⟨hL.op, by rw [hL.np]; exact hin⟩, hi1, hv]
    dsimp only
    rw [bnd_eq, if_neg (by rw [w32_n (by omega)]; omega), drf_some, if_pos (hL.fo hf), bnd_eq, drf_eq (hL.fr hf), if_pos (hL.fro hf), hL.frn hf, if_pos (by rw [w32_n (by omega), w32_n (by omega)]; omega), if_pos (hL.fo hf), bnd_eq, drf_eq (hL.fb hf), if_pos ⟨hL.fbo hf, by rw [hL.fbn hf]; exact inR_n (by omega) (by omega)⟩, hixx]
    rcases c01 with c | c
    · rw [c, if_neg (fun z => z (by decide)), if_pos rfl, if_pos hL.oe, bnd_eq]
    · rw [c, if_pos (show ¬ w32 1 = 0 by decide), if_neg (show ¬ ((1 : Int) = 0) by decide), if_pos (hL.fo hf), bnd_eq, drf_eq (hL.fr hf), if_pos ⟨hL.fro hf, by rw [hL.frn hf]; exact inR_n (by omega) (by omega)⟩, bnd_eq]
  · right; exact c01
end PO
end WAY
