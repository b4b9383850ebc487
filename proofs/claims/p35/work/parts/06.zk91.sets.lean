/-! SETS OF TITLES: members, linked -/
section SET
def bitsN (f : Nat → Bool) : Nat → Nat
  | 0 => 0
  | n + 1 => bitsN f n ||| (if f n = true then 2 ^ n else 0)
theorem bitsN_lt (f : Nat → Bool) : ∀ n, bitsN f n < 2 ^ n := by
  intro n
  induction n with
  | zero => exact Nat.one_pos
  | succ n ih =>
    rw [bitsN]
    have h1 : bitsN f n < 2 ^ (n + 1) := Nat.lt_of_lt_of_le ih (Nat.pow_le_pow_right (by decide) (Nat.le_succ n))
    by_cases c : f n = true
    · rw [if_pos c]
      exact Nat.or_lt_two_pow h1 (Nat.pow_lt_pow_right (by decide) (Nat.lt_succ_self n))
    · rw [if_neg c, Nat.or_zero]
      exact h1
theorem bitsN_24 (f : Nat → Bool) {n : Nat} (h : n ≤ 24) : bitsN f n < 16777216 := Nat.lt_of_lt_of_le (bitsN_lt f n) (show 2 ^ n ≤ 2 ^ 24 from Nat.pow_le_pow_right (by decide) h)
theorem bitsN_congr {f g : Nat → Bool} : ∀ n, (∀ k, k < n → f k = g k) → bitsN f n = bitsN g n := by
  intro n
  induction n with
  | zero => intro _; rfl
  | succ n ih => intro h; rw [bitsN, bitsN, ih (fun k hk => h k (by omega)), h n (Nat.lt_succ_self n)]
theorem bitsN_bit (f : Nat → Bool) (k : Nat) : ∀ n, (bitsN f n).testBit k = (decide (k < n) && f k) := by
  intro n
  induction n with
  | zero => rw [bitsN, Nat.zero_testBit, decide_eq_false (Nat.not_lt_zero k), Bool.false_and]
  | succ n ih =>
    rw [bitsN, Nat.testBit_or, ih]
    by_cases e : n = k
    · subst e
      rw [decide_eq_false (Nat.lt_irrefl n), decide_eq_true (Nat.lt_succ_self n), Bool.false_and, Bool.false_or, Bool.true_and]
      by_cases c : f n = true
      · rw [if_pos c, Nat.testBit_two_pow_self, c]
      · rw [if_neg c, Nat.zero_testBit, eq_false_of_ne_true c]
    · have z : (if f n = true then 2 ^ n else 0).testBit k = false := by
        by_cases c : f n = true
        · rw [if_pos c, Nat.testBit_two_pow_of_ne e]
        · rw [if_neg c, Nat.zero_testBit]
      rw [z, Bool.or_false]
      by_cases l : k < n
      · rw [decide_eq_true l, decide_eq_true (show k < n + 1 by omega)]
      · rw [decide_eq_false l, decide_eq_false (show ¬ k < n + 1 by omega)]
/-- a bit of a set put at a place -/
theorem orI_bit {s x k i : Nat} (hs : s < 16777216) (hx : x < 16777216) (hk : k < 32) (hi : i < 24) : orI (s : Int) (shlI (andI (shrI (x : Int) (k : Int)) 1) (i : Int)) = ((s ||| (if x.testBit k = true then 2 ^ i else 0) : Nat) : Int) := by
  rw [bitI_N hk (by omega)]
  by_cases c : x.testBit k = true
  · rw [if_pos c, if_pos c]
    exact orI_set hs hi
  · rw [if_neg c, if_neg c, Nat.or_zero]
    have e := shlI_N (n := 0) (k := i) (by omega) (by rw [Nat.zero_mul]; decide)
    rw [Nat.zero_mul] at e
    rw [show (0 : Int) = ((0 : Nat) : Int) from rfl, e]
    exact orI_0 (by omega)
variable {b kc : Nat} {M M' : Md} {C C' : Cd}
theorem X11_membersOf_ (hL : Lay b C) {ct : Nat → Nat} (h : ∀ t, t < 24 → cI C 704 (b + 13 + 6 * t + 1) = (ct t : Int) ∧ ct t < 256) {c : Nat} (hc : c < 8) : fX11_membersOf (some (b + 2)) (c : Int) C = some ((bitsN (fun t => (ct t).testBit c) 24 : Int), C) := by
  unfold fX11_membersOf
  rw [bnd_eq]
  refine lpn_rule (P := fun mm (L : Int → Int → Cd → Option (Int × Cd)) => ∀ i, i ≤ 24 → 24 - i < mm → L (bitsN (fun t => (ct t).testBit c) i : Int) (i : Int) C = some ((bitsN (fun t => (ct t).testBit c) 24 : Int), C)) (fun i _ h => absurd h (Nat.not_lt_zero _)) (fun mm L hLL i hi hm => ?_) FU 0 (by decide) (by unfold FU; omega)
  rw [drf_some, if_pos hL.ot, hL.nt]
  rcases Nat.lt_or_ge i 24 with hlt | hge
  · obtain ⟨h1, h2⟩ := h i hlt
    have q := hLL (i + 1) (by omega) (by omega)
    rw [bitsN] at q
    rw [if_neg (by rw [show w32 ((24 : Nat) : Int) = 24 from rfl, w32_n (by omega)]; omega), if_pos ⟨hL.ot, inR_n hlt (by decide)⟩, bnd_eq, hL.tt hlt, drf_some, if_pos (hL.to hlt), bnd_eq, hL.tr hlt, drf_some, if_pos (hL.ro hlt), h1, cal_of (X11_has_ (s := ct i) (e := c) (by omega) (by omega)), bnd_eq]
    by_cases z : (ct i).testBit c = true
    · rw [if_pos z] at q
      rw [if_pos z, if_neg (by decide), bnd_eq, orI_set (bitsN_24 _ hi) hlt]
      exact q
    · rw [if_neg z, Nat.or_zero] at q
      rw [if_neg z, if_pos (by decide)]
      exact q
  · have e : i = 24 := by omega
    subst e
    rw [if_pos (by decide)]
theorem X11_linkingTo_ (hL : Lay b C) {lk : Nat → Nat} (h : ∀ t, t < 24 → cI C 703 (b + 13 + 6 * t + 1) = (lk t : Int) ∧ lk t < 16777216) {c : Nat} (hc : c < 24) : fX11_linkingTo b (c : Int) C = some ((bitsN (fun t => (lk t).testBit c) 24 : Int), C) := by
  unfold fX11_linkingTo
  rw [bnd_eq]
  refine lpn_rule (P := fun mm (L : Int → Int → Cd → Option (Int × Cd)) => ∀ i, i ≤ 24 → 24 - i < mm → L (bitsN (fun t => (lk t).testBit c) i : Int) (i : Int) C = some ((bitsN (fun t => (lk t).testBit c) 24 : Int), C)) (fun i _ h => absurd h (Nat.not_lt_zero _)) (fun mm L hLL i hi hm => ?_) FU 0 (by decide) (by unfold FU; omega)
  rw [if_pos hL.o, bnd_eq, hL.r1, drf_some, if_pos hL.ot, hL.nt]
  rcases Nat.lt_or_ge i 24 with hlt | hge
  · obtain ⟨h1, h2⟩ := h i hlt
    have q := hLL (i + 1) (by omega) (by omega)
    rw [bitsN] at q
    rw [if_neg (by rw [show w32 ((24 : Nat) : Int) = 24 from rfl, w32_n (by omega)]; omega), if_pos hL.o, bnd_eq, drf_some, hL.nt, if_pos ⟨hL.ot, inR_n hlt (by decide)⟩, bnd_eq, hL.tt hlt, drf_some, if_pos (hL.to hlt), bnd_eq, hL.tr hlt, drf_some, if_pos (hL.ro hlt), h1, cal_of (X11_has_ (s := lk i) (e := c) (by omega) (by omega)), bnd_eq]
    by_cases z : (lk i).testBit c = true
    · rw [if_pos z] at q
      rw [if_pos z, if_neg (by decide), bnd_eq, orI_set (bitsN_24 _ hi) hlt]
      exact q
    · rw [if_neg z, Nat.or_zero] at q
      rw [if_neg z, if_pos (by decide)]
      exact q
  · have e : i = 24 := by omega
    subst e
    rw [if_pos (by decide)]
theorem X12_membersOf_ {ct : Nat → Nat} (h : ∀ t, t < 24 → M.2 32 t = (ct t : Int) ∧ ct t < 256) {c : Nat} (hc : c < 8) : fX12_membersOf (c : Int) M = some ((bitsN (fun t => (ct t).testBit c) 24 : Int), M) := by
  unfold fX12_membersOf
  rw [bnd_eq]
  refine lpn_rule (P := fun mm (L : Int → Int → Md → Option (Int × Md)) => ∀ i, i ≤ 24 → 24 - i < mm → L (bitsN (fun t => (ct t).testBit c) i : Int) (i : Int) M = some ((bitsN (fun t => (ct t).testBit c) 24 : Int), M)) (fun i _ h => absurd h (Nat.not_lt_zero _)) (fun mm L hLL i hi hm => ?_) FU 0 (by decide) (by unfold FU; omega)
  rcases Nat.lt_or_ge i 24 with hlt | hge
  · obtain ⟨h1, h2⟩ := h i hlt
    have q := hLL (i + 1) (by omega) (by omega)
    rw [bitsN] at q
    rw [if_neg (by rw [show w32 24 = 24 from rfl, w32_n (by omega)]; omega), if_pos (inM (n := 24) rfl hlt (by decide)), ix_n (by omega), h1, orI_bit (bitsN_24 _ hi) (by omega) (by omega) hlt, bnd_eq]
    exact q
  · have e : i = 24 := by omega
    subst e
    rw [if_pos (by decide)]
/-- the sets of all renderings -/
theorem RR.sets (h : RR b kc M C) : ∃ lk ct rd cd us : Nat → Nat, ∀ t, t < 24 → ∃ r, RG b M C t r (lk t) (ct t) (rd t) (cd t) (us t) := by
  have g := h.2.2.2.2.2.2.2
  have q : ∀ t, ∃ z : Nat × Nat × Nat × Nat × Nat, t < 24 → ∃ r, RG b M C t r z.1 z.2.1 z.2.2.1 z.2.2.2.1 z.2.2.2.2 := fun t => by
    by_cases ht : t < 24
    · obtain ⟨r, lk, ct, rd, cd, us, hg⟩ := g t ht
      exact ⟨(lk, ct, rd, cd, us), fun _ => ⟨r, hg⟩⟩
    · exact ⟨(0, 0, 0, 0, 0), fun z => absurd z ht⟩
  exact ⟨fun t => (Classical.choose (q t)).1, fun t => (Classical.choose (q t)).2.1, fun t => (Classical.choose (q t)).2.2.1, fun t => (Classical.choose (q t)).2.2.2.1, fun t => (Classical.choose (q t)).2.2.2.2, fun t ht => Classical.choose_spec (q t) ht⟩
theorem call_members (h : RR b kc M C) {x : Int} (hx : I32 x) : CallE b kc C cd2 (fX11_members b x C) (fX12_members x M) := by
  have hL := h.1.1
  obtain ⟨lk, ct, rd, cd, us, hg⟩ := h.sets
  have wx : w32 x = x := w32_of hx.1 hx.2
  rcases X12_in_ (x := x) (lo := 0) (hi := 7) M hx (by decide) (by decide) with ⟨e, p⟩ | ⟨e, p⟩
  · obtain ⟨c, rfl⟩ : ∃ c : Nat, x = (c : Int) := ⟨x.toNat, by omega⟩
    have hc : c < 8 := by omega
    refine h.ret (M' := mSet M 36 0) (y := (bitsN (fun t => (ct t).testBit c) 24 : Int)) ?_ ?_ (sc36 M 0) (mS1 _ _ _)
    · unfold fX11_members
      rw [bnd_eq, wx, if_neg (by omega), if_pos (by rw [show w32 8 = 8 from rfl]; omega), if_pos hL.o, bnd_eq, hL.r1, cal_of (X11_membersOf_ hL (ct := ct) (fun t ht => by obtain ⟨r, q⟩ := hg t ht; exact q.2.2.2.1.2.1) hc)]
    · unfold fX12_members
      rw [cal_of e, bnd_eq, if_neg (by decide)]
      dsimp only
      rw [bnd_eq, bnd_eq, mS1, if_neg (fun z => z (by decide)), cal_of (X12_membersOf_ (M := mSet M 36 0) (ct := ct) (fun t ht => by obtain ⟨r, q⟩ := hg t ht; exact ⟨q.2.2.2.2.1, q.2.2.2.1.2.1.2⟩) hc)]
  · refine h.exc (e := 2) (M' := mSet M 36 1) ?_ ?_ (sc36 M 1) (mS1 _ _ _) (by decide)
    · unfold fX11_members
      rw [bnd_eq, wx]
      by_cases c : x < 0
      · rw [if_pos c]
      · rw [if_neg c, if_neg (by rw [show w32 8 = 8 from rfl]; omega)]
    · unfold fX12_members
      rw [cal_of e, bnd_eq, if_pos (by decide)]
      dsimp only
      rw [bnd_eq, bnd_eq, mS1, if_pos (by decide)]
theorem call_linked (h : RR b kc M C) {x w : Int} (hx : I32 x) (hw : I32 w) : CallE b kc C cd2 (fX11_linked b x w C) (fX12_linked x w M) := by
  have hL := h.1.1
  obtain ⟨lk, ct, rd, cd, us, hg⟩ := h.sets
  have ww : w32 w = w := w32_of hw.1 hw.2
  have bad : ∀ M1, ((∃ e, fX12_isTitle x M = some (0, M) ∧ e = 0) ∨ (fX12_isTitle x M = some (1, M) ∧ fX12_in w 0 2 M = some (0, M))) → M1 = mSet M 36 1 → fX12_linked x w M = some (0, M1) := by
    intro M1 hb e1
    subst e1
    unfold fX12_linked
    rcases hb with ⟨_, e, _⟩ | ⟨e, e2⟩
    · rw [cal_of e, bnd_eq, bnd_eq, if_pos (by decide)]
      dsimp only
      rw [bnd_eq, mS1, if_neg (by decide)]
    · rw [cal_of e, bnd_eq, bnd_eq, if_neg (by decide), cal_of e2, if_pos (by decide)]
      dsimp only
      rw [bnd_eq, mS1, if_neg (by decide)]
  rcases X12_isTitle_ (x := x) M hx with ⟨e, p⟩ | ⟨e, p⟩
  · obtain ⟨t, rfl⟩ : ∃ t : Nat, x = (t : Int) := ⟨x.toNat, by omega⟩
    have ht : t < 24 := by omega
    rcases X12_in_ (x := w) (lo := 0) (hi := 2) M hw (by decide) (by decide) with ⟨e2, p2⟩ | ⟨e2, p2⟩
    · -- the reference's loop
      have lp : fX12_linked (t : Int) w M = (if ¬ w32 w = w32 1 then
if inR (t : Int) (mLen 27) then
if ¬ w32 (M.2 27 t) = 0 then
if ¬ w32 w = 0 then
if inR (t : Int) (mLen 33) then
some (M.2 33 t, mSet M 36 0)
else none
else
if inR (t : Int) (mLen 31) then
some (M.2 31 t, mSet M 36 0)
else none
else
some (0, mSet M 36 0)
else none
else
some ((bitsN (fun t' => (lk t').testBit t) 24 : Int), mSet M 36 0)) := by
        unfold fX12_linked
        rw [cal_of e, bnd_eq, bnd_eq, if_neg (by decide), cal_of e2, if_neg (by decide)]
        dsimp only
        rw [bnd_eq, mS1, if_pos (by decide), bnd_eq]
        refine lpn_rule (P := fun mm (L : Int → Int → Md → Option (Int × Md)) => ∀ i, i ≤ 24 → 24 - i < mm → L (bitsN (fun t' => (lk t').testBit t) i : Int) (i : Int) (mSet M 36 0) = _) (fun i _ h => absurd h (Nat.not_lt_zero _)) (fun mm L hLL i hi hm => ?_) FU 0 (by decide) (by unfold FU; omega)
        rcases Nat.lt_or_ge i 24 with hlt | hge
        · have q := hLL (i + 1) (by omega) (by omega)
          rw [bitsN] at q
          obtain ⟨r, hr⟩ := hg i hlt
          rw [if_neg (by rw [show w32 24 = 24 from rfl, w32_n (by omega)]; omega), if_pos (inM (n := 24) rfl hlt (by decide)), bnd_eq, ix_n (by omega)]
          have m27 : (mSet M 36 0).2 27 i = M.2 27 i := rfl
          have m31 : (mSet M 36 0).2 31 i = M.2 31 i := rfl
          rw [m27, m31]
          rcases hr.1.2 with m | m
          · have z := (hr.2.2.2.2.2.2 m).2.1
            rw [z, Nat.zero_testBit, if_neg (by decide), Nat.or_zero] at q
            rw [m, if_pos (by decide)]
            dsimp only
            rw [orI_0 (by have := bitsN_24 (fun t' => (lk t').testBit t) hi; omega), bnd_eq]
            exact q
          · have z := (hr.2.2.2.2.2.1 m).2.1.1
            rw [m, if_neg (by decide), if_pos (inM (n := 24) rfl hlt (by decide)), z]
            dsimp only
            rw [orI_bit (bitsN_24 _ hi) hr.2.2.2.1.1.2 (by omega) hlt, bnd_eq]
            exact q
        · have e : i = 24 := by omega
          subst e
          rw [if_pos (by decide), bnd_eq, ix_n (by omega)]
          rfl
      obtain ⟨r, hr⟩ := hg t ht
      obtain ⟨g1, g2, g3, g4, g5, g6, g7⟩ := hr
      have h012 : w = 0 ∨ w = 1 ∨ w = 2 := by omega
      rcases h012 with k | k | k
      · subst k
        rw [if_pos (by decide), if_pos (inM (n := 24) rfl ht (by decide))] at lp
        have hX : fX11_linked b (t : Int) 0 C = some (.inl (lk t : Int), C) := by
          unfold fX11_linked
          rw [if_pos hL.o, calx_of (X11_titleOf_in hL ht), if_pos (by decide), drf_some, if_pos (hL.to ht), bnd_eq, hL.tr ht, drf_some, if_pos (hL.ro ht), g4.1.1]
        refine h.ret hX (M' := mSet M 36 0) ?_ (sc36 M 0) (mS1 _ _ _)
        rw [lp]
        rcases g1.2 with m | m
        · rw [m, if_neg (fun z => z (by decide)), (g7 m).2.1]; rfl
        · rw [m, if_pos (by decide), if_neg (fun z => z (by decide)), if_pos (inM (n := 24) rfl ht (by decide)), (g6 m).2.1.1]
      · subst k
        rw [if_neg (fun z => z rfl)] at lp
        refine h.ret ?_ lp (sc36 M 0) (mS1 _ _ _)
        unfold fX11_linked
        rw [if_pos hL.o, calx_of (X11_titleOf_in hL ht), if_neg (by decide), if_pos (by decide), if_pos hL.o, cal_of (X11_linkingTo_ hL (lk := lk) (fun t ht => by obtain ⟨r, q⟩ := hg t ht; exact q.2.2.2.1.1) ht)]
      · subst k
        rw [if_pos (by decide), if_pos (inM (n := 24) rfl ht (by decide))] at lp
        have hX : fX11_linked b (t : Int) 2 C = some (.inl (rd t : Int), C) := by
          unfold fX11_linked
          rw [if_pos hL.o, calx_of (X11_titleOf_in hL ht), if_neg (by decide), if_neg (by decide), if_pos (by decide), drf_some, if_pos (hL.to ht), bnd_eq, hL.tr ht, drf_some, if_pos (hL.ro ht), g4.2.2.1.1]
        refine h.ret hX (M' := mSet M 36 0) ?_ (sc36 M 0) (mS1 _ _ _)
        rw [lp]
        rcases g1.2 with m | m
        · rw [m, if_neg (fun z => z (by decide)), (g7 m).2.2.2.1]; rfl
        · rw [m, if_pos (by decide), if_pos (by decide), if_pos (inM (n := 24) rfl ht (by decide)), (g6 m).2.1.2.1]
    · refine h.exc (e := 2) (M' := mSet M 36 1) ?_ (bad _ (Or.inr ⟨e, e2⟩) rfl) (sc36 M 1) (mS1 _ _ _) (by decide)
      unfold fX11_linked
      rw [if_pos hL.o, calx_of (X11_titleOf_in hL ht), ww, if_neg (by omega), if_neg (by omega), if_neg (by omega)]
  · refine h.exc (e := 2) (M' := mSet M 36 1) ?_ (bad _ (Or.inl ⟨0, e, rfl⟩) rfl) (sc36 M 1) (mS1 _ _ _) (by decide)
    unfold fX11_linked
    rw [if_pos hL.o, calx_ofx (X11_titleOf_out hL hx (by omega))]
end SET
