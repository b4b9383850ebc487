/-! THE LAW'S ROWS: who is next, settling, categories, a version more -/
theorem fiq_out {w : Nat → Bool} {r : Nat → Int} (n : Nat) : ∀ m, (∀ k, n ≤ k → k < n + m → w k = false) → fiq w r (n + m) = fiq w r n := by
  intro m
  induction m with
  | zero => intro _; rfl
  | succ m ih =>
    intro h
    show fiq w r ((n + m) + 1) = _
    rw [fiq, if_neg (fun z => by rw [h (n + m) (by omega) (by omega)] at z; exact Bool.false_ne_true z.1)]
    exact ih (fun k a b => h k a (by omega))
theorem RR.st {b kc t : Nat} {M : Md} {C : Cd} (h : RR b kc M C) (ht : t < 24) : stF M t ↔ wqC b C t = true := by
  obtain ⟨VA, PA, LE, AA, nv, np, na, hH, hK, hc⟩ := h.at_ ht
  obtain ⟨r, lk, ct, rd, cd, us, g1, g2, g3, g4, g5, g6, g7⟩ := h.2.2.2.2.2.2.2 t ht
  have hp : M.2 6 t ≠ -1 ↔ cR C 1203 (b + 13 + 6 * t) ≠ none := by
    rcases hc with z | ⟨p, p1, p2, p3⟩
    · rw [z.1, z.2]; exact ⟨fun y => absurd rfl y, fun y => absurd rfl y⟩
    · rw [p2, p3]; exact ⟨fun _ => Option.some_ne_none _, fun _ => by omega⟩
  unfold stF wqC
  rw [decide_eq_true_iff, hp, g1.1]
  refine and_congr_right (fun _ => ?_)
  rcases g1.2 with m | m
  · rw [m]; exact ⟨fun _ => Or.inl rfl, fun _ => Or.inl rfl⟩
  · obtain ⟨_, ⟨y1, y2, y3, y4⟩, y5, _⟩ := g6 m
    rw [m, y2, y3, y4, show ((rd : Nat) : Int).toNat = rd from rfl, show ((cd : Nat) : Int).toNat = cd from rfl, show ((us : Nat) : Int).toNat = us from rfl, ← y5]
    constructor
    · rintro (z | z)
      · omega
      · exact Or.inr (by rw [z]; decide)
    · rintro (z | z)
      · omega
      · exact Or.inr (by
          rcases g2 with v | v
          · exact absurd v z
          · exact v)
section NEX
variable {N t : Nat} {E : Rw} {G : Md}
theorem W_next {w : Nat → Bool} (hP : WP E G) (hG : WGs E G) (hK : WK E G) (hw : ∀ t, t < 8 → (stF G t ↔ w t = true)) : fW_next E = some ((fiq w (G.2 4) 8).1, E) := by
  unfold fW_next
  rw [bnd_eq]
  refine lpn_rule (P := fun mm (L : Int → Int → Rw → Option (Int × Rw)) => ∀ i, i ≤ 8 → 8 - i < mm → L (fiq w (G.2 4) i).1 (i : Int) E = some ((fiq w (G.2 4) 8).1, E)) (fun i _ h => absurd h (Nat.not_lt_zero _)) (fun mm L hLL i hi hm => ?_) FU 0 (by decide) (by unfold FU; omega)
  rcases Nat.lt_or_ge i 8 with hlt | hge
  · have q := hLL (i + 1) (by omega) (by omega)
    rw [fiq] at q
    obtain ⟨g6, g4, -⟩ := hG.1 i hlt
    rw [if_neg (by rw [show w32 8 = 8 from rfl, w32_n (by omega)]; omega)]
    rcases W_isStale hP hG hK hlt with ⟨q1, z⟩ | ⟨q1, z⟩
    · have z2 := (hw i hlt).mp z
      rw [cal1_of q1, bnd_eq, bnd_eq, if_neg (by decide), bnd_eq]
      rcases fiq_rng (w := w) (r := G.2 4) i with y | ⟨k, k1, k2, k3⟩
      · rw [y] at q ⊢
        rw [if_pos ⟨z2, by show -1 < G.2 4 i; omega⟩] at q
        rw [if_pos (by decide)]
        exact q
      · obtain ⟨gk6, gk4, -⟩ := hG.1 k (by omega)
        rw [k3] at q ⊢
        dsimp only at q ⊢
        rw [if_neg (by rw [w32_n (by omega)]; omega), if_pos (inW 56 rfl (by omega) (by omega) (by decide)), if_pos (inW 56 rfl (by omega) (by omega) (by decide)), ixn (n := 7 * i + 6) (by omega) (by omega), ixn (n := 7 * k + 6) (by omega) (by omega), g6, gk6, w32_of (x := G.2 4 i) (by omega) (by omega), w32_of (x := G.2 4 k) (by omega) (by omega)]
        by_cases c : G.2 4 i ≤ G.2 4 k
        · rw [if_neg (fun y => by have := y.2; omega)] at q
          rw [if_pos c]
          exact q
        · rw [if_pos ⟨z2, by omega⟩] at q
          rw [if_neg c]
          exact q
    · have z2 : ¬ w i = true := fun y => z ((hw i hlt).mpr y)
      rw [if_neg (fun y => z2 y.1)] at q
      rw [cal1_of q1, bnd_eq, bnd_eq, if_pos (by decide)]
      exact q
  · have e : i = 8 := by omega
    subst e
    rw [if_pos (by decide)]
/-- settling: what of the rows changes -/
def SeT (N : Nat) (G : Md) (E E1 : Rw) (n : Nat) : Prop := (∀ k, k ≠ 0 → k ≠ 4 → k ≠ 5 → E1 k = E k) ∧ (∀ i, i ≠ 3 → E1 0 i = E 0 i) ∧ (E 0 3 ≤ E1 0 3 ∧ E1 0 3 ≤ E 0 3 + n) ∧ (∀ t, t < n → E1 5 t = prAt G N t + 1 ∧ ((E 5 t = prAt G N t + 1 ∧ E1 4 t = E 4 t) ∨ (E 5 t ≠ prAt G N t + 1 ∧ E 0 3 < E1 4 t ∧ E1 4 t ≤ E1 0 3))) ∧ ∀ t, n ≤ t → E1 5 t = E 5 t ∧ E1 4 t = E 4 t
theorem W_settles (hV : WV N E G) (hP : WP E G) (h3 : 0 ≤ E 0 3 ∧ E 0 3 < 1000000) (h5 : ∀ t, t < 8 → 0 ≤ E 5 t ∧ E 5 t ≤ 1000) : ∃ E', fW_settles E = some ((), E') ∧ SeT N G E E' 8 := by
  unfold fW_settles
  rw [bnd_eq]
  refine lpn_rule (P := fun mm (L : Int → Rw → Option (Unit × Rw)) => ∀ (E1 : Rw) (i : Nat), i ≤ 8 → 8 - i < mm → SeT N G E E1 i → ∃ E', L (i : Int) E1 = some ((), E') ∧ SeT N G E E' 8) (fun E1 i _ h => absurd h (Nat.not_lt_zero _)) (fun mm L hLL E1 i hi hm hs => ?_) FU E 0 (by decide) (by unfold FU; omega) ⟨fun _ _ _ _ => rfl, fun _ _ => rfl, ⟨Int.le_refl _, by omega⟩, fun t ht => absurd ht (Nat.not_lt_zero _), fun _ _ => ⟨rfl, rfl⟩⟩
  rcases Nat.lt_or_ge i 8 with hlt | hge
  · obtain ⟨s1, s2, s3, s4, s5⟩ := hs
    have hV1 : WV N E1 G := by
      unfold WV at hV ⊢
      rw [s2 0 (by decide), s2 2 (by decide), s1 2 (by decide) (by decide) (by decide)]
      exact hV
    have hP1 : WP E1 G := hP.row (s1 1 (by decide) (by decide) (by decide))
    have hr := prAt_lt (N := N) hP hlt
    have hN := hV.2.1
    have h5i := h5 i hlt
    obtain ⟨u5, u4⟩ := s5 i (Nat.le_refl _)
    rw [if_neg (by rw [show w32 8 = 8 from rfl, w32_n (by omega)]; omega), cal1_of (W_present hV1 hP1 hlt), bnd_eq, if_pos (inWn 8 rfl hlt (by decide)), bnd_eq, ix_n (by omega), u5]
    by_cases c : prAt G N i + 1 = E 5 i
    · rw [if_pos (by rw [c])]
      refine hLL E1 (i + 1) (by omega) (by omega) ⟨s1, s2, ⟨s3.1, by omega⟩, fun t ht => ?_, fun t ht => s5 t (by omega)⟩
      by_cases e : t = i
      · subst e
        exact ⟨by rw [u5, c], Or.inl ⟨c.symm, u4⟩⟩
      · exact s4 t (by omega)
    · rw [if_neg (by rw [w32_of (by omega) (by omega), w32_of (by omega) (by omega)]; exact c), if_pos (inW 4 (i := 3) rfl (by decide) (by decide) (by decide)), if_pos (inW 4 (i := 3) rfl (by decide) (by decide) (by decide)), bnd_eq, if_pos (inW 4 (i := 3) rfl (by decide) (by decide) (by decide)), if_pos (inWn 8 rfl hlt (by decide)), bnd_eq, if_pos (inWn 8 rfl hlt (by decide)), bnd_eq, show ix 3 = 3 from rfl, wP1]
      refine hLL _ (i + 1) (by omega) (by omega) ⟨fun k k0 k4 k5 => ?_, fun j hj => ?_, ⟨?_, ?_⟩, fun t ht => ?_, fun t ht => ?_⟩
      · rw [wPk _ _ k5, wPk _ _ k4, wPk _ _ k0]; exact s1 k k0 k4 k5
      · rw [wP2 _ _ (by omega), wP2 _ _ (by omega), wP2 _ _ (by omega)]; exact s2 j hj
      · rw [wP2 _ _ (by omega), wP2 _ _ (by omega), wP1]; omega
      · rw [wP2 _ _ (by omega), wP2 _ _ (by omega), wP1]; omega
      · by_cases e : t = i
        · subst e
          refine ⟨by rw [wP1], Or.inr ⟨fun z => c z.symm, ?_, ?_⟩⟩
          · rw [wP2 _ _ (by omega), wP1]; omega
          · rw [wP2 _ _ (by omega), wP1, wP2 _ _ (by omega), wP2 _ _ (by omega), wP1]; omega
        · obtain ⟨y1, y2⟩ := s4 t (by omega)
          refine ⟨by rw [wP2 _ _ (by omega), wP2 _ _ (by omega), wP2 _ _ (by omega)]; exact y1, ?_⟩
          rw [wP2 _ _ (by omega), wP2 _ _ (by omega), wP2 _ _ (by omega), wP2 _ _ (by omega), wP2 _ _ (by omega), wP1]
          rcases y2 with y | y
          · exact Or.inl y
          · exact Or.inr ⟨y.1, y.2.1, by omega⟩
      · obtain ⟨y1, y2⟩ := s5 t (by omega)
        rw [wP2 _ _ (by omega), wP2 _ _ (by omega), wP2 _ _ (by omega), wP2 _ _ (by omega), wP2 _ _ (by omega), wP2 _ _ (by omega)]
        exact ⟨y1, y2⟩
  · have e : i = 8 := by omega
    subst e
    rw [if_pos (by decide)]
    exact ⟨E1, rfl, hs⟩
/-- categories: what of the rows changes -/
def SeK (t : Nat) (o c : Nat) (E E1 : Rw) (n : Nat) : Prop := (∀ k, k ≠ 0 → k ≠ 8 → E1 k = E k) ∧ (∀ i, i ≠ 3 → E1 0 i = E 0 i) ∧ (E 0 3 ≤ E1 0 3 ∧ E1 0 3 ≤ E 0 3 + n) ∧ (∀ k, k < n → (o.testBit k = c.testBit k ∧ E1 8 k = E 8 k) ∨ (o.testBit k ≠ c.testBit k ∧ E 0 3 < E1 8 k ∧ E1 8 k ≤ E1 0 3)) ∧ ∀ k, n ≤ k → E1 8 k = E 8 k
theorem W_sets (ht : t < 8) {o c : Nat} (ho : o < 256) (hc : c < 256) (hr : 0 ≤ E 6 (7 * t) ∧ E 6 (7 * t) < 1000000) (hO : (E 6 (7 * t) = 0 ∧ o = 0) ∨ (0 < E 6 (7 * t) ∧ E 6 (7 * t + 4) = (o : Int))) (h3 : 0 ≤ E 0 3 ∧ E 0 3 < 1000000) : ∃ E1, fW_sets (t : Int) (c : Int) E = some ((), wPut E1 6 (7 * t + 4) (c : Int)) ∧ SeK t o c E E1 8 := by
  have bx : ∀ (x y k : Nat), x < 256 → y < 256 → k < 8 → (w32 (andI (shrI (x : Int) (k : Int)) 1) = w32 (andI (shrI (y : Int) (k : Int)) 1) ↔ x.testBit k = y.testBit k) := by
    intro x y k hx hy hk
    rw [bitI_N (by omega) (by omega), bitI_N (by omega) (by omega)]
    cases x.testBit k <;> cases y.testBit k <;> decide
  unfold fW_sets
  rw [if_pos (inW 56 rfl (by omega) (by omega) (by decide)), show E 6 (ix (7 * (t : Int))) = E 6 (7 * t) by rw [ixn (n := 7 * t) (by omega) (by omega)], bnd_eq]
  dsimp only
  have main : ∃ E1, (lpn (fun (_ : Int) (_ : Rw) => (none : Option (Unit × Rw))) (fun L26 (v6_26 : Int) (E_26 : Rw) =>
      if w32 8 ≤ w32 v6_26 then
      if inR ((7 * (t : Int)) + 4) (wLen 6) then bnd (wPut E_26 6 (ix ((7 * (t : Int)) + 4)) (c : Int)) fun (E1 : Rw) =>
      some ((), E1)
      else none
      else
      bnd (fun (E_64 : Rw) =>
      L26 (v6_26 + 1) E_64) fun J64 =>
      if w32 (andI (shrI (o : Int) v6_26) 1) = w32 (andI (shrI (c : Int) v6_26) 1) then
      J64 E_26
      else
      if inR 3 (wLen 0) then
      if inR 3 (wLen 0) then bnd (wPut E_26 0 (ix 3) ((E_26 0 (ix 3)) + 1)) fun (E2 : Rw) =>
      if inR 3 (wLen 0) then
      if inR v6_26 (wLen 8) then bnd (wPut E2 8 (ix v6_26) (E2 0 (ix 3))) fun (E3 : Rw) =>
      J64 E3
      else none
      else none
      else none
      else none) FU) 0 E = some ((), wPut E1 6 (7 * t + 4) (c : Int)) ∧ SeK t o c E E1 8 := by
    refine lpn_rule (P := fun mm (L : Int → Rw → Option (Unit × Rw)) => ∀ (E1 : Rw) (i : Nat), i ≤ 8 → 8 - i < mm → SeK t o c E E1 i → ∃ E2, L (i : Int) E1 = some ((), wPut E2 6 (7 * t + 4) (c : Int)) ∧ SeK t o c E E2 8) (fun E1 i _ h => absurd h (Nat.not_lt_zero _)) (fun mm L hLL E1 i hi hm hs => ?_) FU E 0 (by decide) (by unfold FU; omega) ⟨fun _ _ _ => rfl, fun _ _ => rfl, ⟨Int.le_refl _, by omega⟩, fun t ht => absurd ht (Nat.not_lt_zero _), fun _ _ => rfl⟩
    rcases Nat.lt_or_ge i 8 with hlt | hge
    · obtain ⟨s1, s2, s3, s4, s5⟩ := hs
      have u8 := s5 i (Nat.le_refl _)
      rw [if_neg (by rw [show w32 8 = 8 from rfl, w32_n (by omega)]; omega), bnd_eq]
      by_cases d : o.testBit i = c.testBit i
      · rw [if_pos ((bx o c i ho hc hlt).mpr d)]
        refine hLL E1 (i + 1) (by omega) (by omega) ⟨s1, s2, ⟨s3.1, by omega⟩, fun k hk => ?_, fun k hk => s5 k (by omega)⟩
        by_cases e : k = i
        · subst e; exact Or.inl ⟨d, u8⟩
        · exact s4 k (by omega)
      · rw [if_neg (fun z => d ((bx o c i ho hc hlt).mp z)), if_pos (inW 4 (i := 3) rfl (by decide) (by decide) (by decide)), if_pos (inW 4 (i := 3) rfl (by decide) (by decide) (by decide)), bnd_eq, if_pos (inW 4 (i := 3) rfl (by decide) (by decide) (by decide)), if_pos (inWn 8 rfl hlt (by decide)), bnd_eq, show ix 3 = 3 from rfl, wP1, ix_n (by omega)]
        refine hLL _ (i + 1) (by omega) (by omega) ⟨fun k k0 k8 => ?_, fun j hj => ?_, ⟨?_, ?_⟩, fun k hk => ?_, fun k hk => ?_⟩
        · rw [wPk _ _ k8, wPk _ _ k0]; exact s1 k k0 k8
        · rw [wP2 _ _ (by omega), wP2 _ _ (by omega)]; exact s2 j hj
        · rw [wP2 _ _ (by omega), wP1]; omega
        · rw [wP2 _ _ (by omega), wP1]; omega
        · by_cases e : k = i
          · subst e
            refine Or.inr ⟨d, ?_, ?_⟩
            · rw [wP1]; omega
            · rw [wP1, wP2 _ _ (by omega), wP1]; omega
          · rw [wP2 _ _ (by omega), wP2 _ _ (by omega), wP2 _ _ (by omega), wP1]
            rcases s4 k (by omega) with y | y
            · exact Or.inl y
            · exact Or.inr ⟨y.1, y.2.1, by omega⟩
        · rw [wP2 _ _ (by omega), wP2 _ _ (by omega)]; exact s5 k (by omega)
    · have e : i = 8 := by omega
      subst e
      rw [if_pos (by decide), if_pos (inW 56 rfl (by omega) (by omega) (by decide)), bnd_eq, ixn (n := 7 * t + 4) (by omega) (by omega)]
      exact ⟨E1, rfl, hs⟩
  rcases hO with ⟨d1, d2⟩ | ⟨d1, d2⟩
  · rw [if_pos (by rw [w32_of (by omega) (by omega)]; omega), bnd_eq]
    subst d2
    exact main
  · rw [if_neg (by rw [w32_of (by omega) (by omega)]; omega), if_pos (inW 56 rfl (by omega) (by omega) (by decide)), show E 6 (ix ((7 * (t : Int)) + 4)) = (o : Int) by rw [ixn (n := 7 * t + 4) (by omega) (by omega)]; exact d2, bnd_eq]
    exact main
/-- a version more -/
theorem W_adds {p tm x : Int} (hN : E 0 0 = (N : Int)) (h32 : N < 32) : fW_adds p tm x E = some ((N : Int), wPut (wPut (wPut (wPut E 2 (2 * N) p) 2 (2 * N + 1) tm) 3 N x) 0 0 ((N : Int) + 1)) := by
  unfold fW_adds
  have i0 : inR 0 (wLen 0) := inW 4 (i := 0) rfl (by decide) (by decide) (by decide)
  have i1 : inR (2 * (N : Int)) (wLen 2) := inW 64 rfl (by omega) (by omega) (by decide)
  have i2 : inR (2 * (N : Int) + 1) (wLen 2) := inW 64 rfl (by omega) (by omega) (by decide)
  have i3 : inR (N : Int) (wLen 3) := inWn 32 rfl h32 (by decide)
  have x1 : ix (2 * (N : Int)) = 2 * N := ixn (by omega) (by omega)
  have x2 : ix (2 * (N : Int) + 1) = 2 * N + 1 := ixn (by omega) (by omega)
  have x3 : ix (N : Int) = N := ixn rfl (by omega)
  rw [if_pos i0, show ix 0 = 0 from rfl, hN, if_pos i1, bnd_eq, if_pos i0]
  have w1 : wPut E 2 (ix (2 * (N : Int))) p 0 0 = (N : Int) := (wP2 _ _ (Or.inl (by decide))).trans hN
  rw [w1, if_pos i2, bnd_eq, if_pos i0]
  have w2 : wPut (wPut E 2 (ix (2 * (N : Int))) p) 2 (ix (2 * (N : Int) + 1)) tm 0 0 = (N : Int) := (wP2 _ _ (Or.inl (by decide))).trans w1
  rw [w2, if_pos i3, bnd_eq, if_pos i0, if_pos i0, bnd_eq, if_pos i0]
  have w3 : wPut (wPut (wPut E 2 (ix (2 * (N : Int))) p) 2 (ix (2 * (N : Int) + 1)) tm) 3 (ix (N : Int)) x 0 0 = (N : Int) := (wP2 _ _ (Or.inl (by decide))).trans w2
  rw [w3, wP1, x1, x2, x3, show ((N : Int) + 1) - 1 = (N : Int) by omega]
end NEX
