/-! isWiki GIVES 1: titles that are wanted, a title whole -/
section WI4
variable {b kc N np t : Nat} {E : Rw} {G G' : Md} {C : Cd} {T : Nat → List Nat} {q : Nat → Nat} {y4 : Nat}
def wtG (G : Md) (t : Nat) : Bool := decide (G.2 6 t = -1) && anyN (fun s => (lkG G s).testBit t) 24
theorem lkG_8 (hG : WGs E G) {s : Nat} (h8 : 8 ≤ s) (h24 : s < 24) : lkG G s = 0 := by
  unfold lkG
  rw [if_pos (hG.2 s h8 h24).1]
theorem lk_ok (hL : LW N np T E G) {u : Nat} (hu : u < 8) : (w32 (E 6 (7 * u)) ≤ 0 ∧ lkG G u = 0) ∨ (¬ w32 (E 6 (7 * u)) ≤ 0 ∧ E 6 (7 * u + 2) = (lkG G u : Int) ∧ lkG G u < 256) := by
  have gl := hL.1.2.2.2.1.1 u hu
  have r0 := gl.r0 hL.1.2.2.2.2 hu
  unfold lkG
  rcases gl.2.2 with z | ⟨z1, z2, z3, ⟨lk', rd', ct', cd', w0, w1, w2, w3, w4⟩, z5⟩
  · exact Or.inl ⟨by rw [z.2.1]; decide, if_pos z.1⟩
  · rw [if_neg (by rw [z1]; decide), w1.2, Int.toNat_natCast]
    exact Or.inr ⟨by rw [w32_of (by omega) (by omega)]; omega, w1.1, w0.1⟩
theorem anyN_8 (hG : WGs E G) (t : Nat) : anyN (fun s => (lkG G s).testBit t) 24 = anyN (fun s => (lkG G s).testBit t) 8 := by
  refine Bool.eq_iff_iff.mpr ⟨fun h => ?_, fun h => ?_⟩
  · obtain ⟨k, k1, k2⟩ := anyN_iff.mp h
    refine anyN_iff.mpr ⟨k, ?_, k2⟩
    rcases Nat.lt_or_ge k 8 with z | z
    · exact z
    · rw [lkG_8 hG z k1, Nat.zero_testBit] at k2
      cases k2
  · obtain ⟨k, k1, k2⟩ := anyN_iff.mp h
    exact anyN_iff.mpr ⟨k, by omega, k2⟩
def acc (n t : Nat) (g : Bool) : Nat := n ||| (if g = true then 2 ^ t else 0)
theorem acc_lt {n t : Nat} (hn : n < 16777216) (ht : t < 24) (g : Bool) : acc n t g < 16777216 := by
  unfold acc
  refine Nat.or_lt_two_pow (n := 24) hn ?_
  split
  · exact Nat.pow_lt_pow_right (by decide) ht
  · decide
theorem acc_or (n t : Nat) (g x : Bool) : acc n t g ||| (if x = true then 2 ^ t else 0) = acc n t (g || x) := by
  unfold acc
  cases g <;> cases x
  · rw [if_neg (by decide), Nat.or_zero, Bool.or_false, if_neg (by decide), Nat.or_zero]
  · rw [if_neg (by decide), Nat.or_zero, if_pos rfl, Bool.false_or, if_pos rfl]
  · rw [if_pos rfl, if_neg (by decide), Nat.or_zero, Bool.or_false, if_pos rfl]
  · rw [if_pos rfl, Nat.or_assoc, Nat.or_self, Bool.or_self, if_pos rfl]
/-- who wants it -/
theorem wiki_436 {L32 : Int → Int → Int → Int → Rw → Cd → (Nat → Nat) → Option (Int × S3)} {x13 : Int} {n u : Nat} (h : RR b kc G C) (hL : LW N np T E G) (ht : t < 8) (hn : n < 16777216) (hu : u < 8) (L : Int → Int → Rw → Cd → (Nat → Nat) → Option (Int × S3)) : fW_isWiki_436 b L32 (t : Int) (prAt G N t) x13 1 L (acc n t (decide (G.2 6 t = -1) && anyN (fun s => (lkG G s).testBit t) u) : Int) (u : Int) E C q = L (acc n t (decide (G.2 6 t = -1) && anyN (fun s => (lkG G s).testBit t) (u + 1)) : Int) ((u : Int) + 1) E C q := by
  have al := acc_lt hn (show t < 24 by omega) (decide (G.2 6 t = -1) && anyN (fun s => (lkG G s).testBit t) u)
  have pr := prAt_lt (N := N) hL.1.2.1 ht
  have n32 := hL.1.1.2.1
  have stp := acc_or n t (decide (G.2 6 t = -1) && anyN (fun s => (lkG G s).testBit t) u) (decide (G.2 6 t = -1) && (lkG G u).testBit t)
  rw [← Bool.and_or_distrib_left] at stp
  rw [anyN, ← stp]
  generalize acc n t (decide (G.2 6 t = -1) && anyN (fun s => (lkG G s).testBit t) u) = A at *
  unfold fW_isWiki_436 fW_isWiki_483 fW_isWiki_482
  rw [if_neg (by rw [show w32 8 = 8 from rfl, w32_n (by omega)]; omega), bnd_eq, bnd_eq]
  by_cases c : G.2 6 t = -1
  · have pm : prAt G N t = -1 := by unfold prAt; rw [if_pos c]
    rw [decide_eq_true c, Bool.true_and, pm, if_neg (by decide), if_pos (inW 56 wl_6 (by omega) (by omega) (by decide)), ixn (n := 7 * u) (by omega) (by omega)]
    rcases lk_ok hL hu with ⟨e1, e2⟩ | ⟨e1, e2, e3⟩
    · rw [if_pos e1, e2, Nat.zero_testBit, if_neg (by decide), Nat.or_zero]; (try dsimp only); rw [orI_0 (a := A) (by omega), bnd_eq]
    · rw [if_neg e1, if_pos (inW 56 wl_6 (by omega) (by omega) (by decide)), ixn (n := 7 * u + 2) (by omega) (by omega), e2]
      dsimp only
      rw [orI_bit al (by omega) (by omega) (by omega), bnd_eq]
  · have pn := h.prN hL.2.2.2.2.2.1 (show t < 24 by omega) c
    rw [decide_eq_false c, Bool.false_and, if_pos (by rw [w32_of (by omega) (by omega)]; omega)]; (try dsimp only); rw [orI_0 (a := A) (by omega), bnd_eq, if_neg (by decide), Nat.or_zero]
theorem wiki_D2 {L32 : Int → Int → Int → Int → Rw → Cd → (Nat → Nat) → Option (Int × S3)} {x13 : Int} {n : Nat} (h : RR b kc G C) (hL : LW N np T E G) (ht : t < 8) (hn : n < 16777216) : fW_isWiki_433 b L32 (n : Int) (t : Int) (prAt G N t) x13 1 E C q = L5 b L32 (t : Int) (prAt G N t) x13 (acc n t (wtG G t) : Int) 1 0 E C q := by
  have e0 : acc n t (decide (G.2 6 t = -1) && anyN (fun s => (lkG G s).testBit t) 0) = n := by
    unfold acc
    rw [anyN, Bool.and_false, if_neg (by decide), Nat.or_zero]
  have e8 : wtG G t = (decide (G.2 6 t = -1) && anyN (fun s => (lkG G s).testBit t) 8) := by
    unfold wtG
    rw [anyN_8 hL.1.2.2.2.1]
  have F := lpn_rule (z := (fun (_ : Int) (_ : Int) (_ : Rw) (_ : Cd) (_ : (Nat → Nat)) => (none : Option (Int × S3)))) (body := fun L436 (v14_436 : Int) (v20_436 : Int) (E_436 : Rw) (C_436 : Cd) (q_436 : (Nat → Nat)) => fW_isWiki_436 b L32 (t : Int) (prAt G N t) x13 1 L436 v14_436 v20_436 E_436 C_436 q_436) (P := fun mm (L : Int → Int → Rw → Cd → (Nat → Nat) → Option (Int × S3)) => ∀ u : Nat, u ≤ 8 → 8 - u < mm → L (acc n t (decide (G.2 6 t = -1) && anyN (fun s => (lkG G s).testBit t) u) : Int) (u : Int) E C q = L5 b L32 (t : Int) (prAt G N t) x13 (acc n t (wtG G t) : Int) 1 0 E C q) (fun u _ h => absurd h (Nat.not_lt_zero _)) (fun mm L hLL u hu hm => by
    dsimp only
    rcases Nat.lt_or_ge u 8 with hlt | hge
    · rw [wiki_436 h hL ht hn hlt L]
      exact hLL (u + 1) (by omega) (by omega)
    · have e : u = 8 := by omega
      subst e
      rw [← e8]
      unfold fW_isWiki_436
      rw [if_pos (by decide), bnd_eq]
      rfl) FU 0 (by decide) (by unfold FU; omega)
  rw [show ((0 : Nat) : Int) = 0 from rfl, e0] at F
  unfold fW_isWiki_433
  rw [bnd_eq]
  exact F
end WI4
