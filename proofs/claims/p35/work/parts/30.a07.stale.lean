/-! THE LAW'S ROWS: members, counts, what is stale, who is next -/
/-- a rendering, as the law has it -/
def WG (E : Rw) (G : Md) (t : Nat) : Prop := E 6 (7 * t + 6) = G.2 4 t ∧ (0 ≤ G.2 4 t ∧ G.2 4 t ≤ 99) ∧ ((G.2 27 t = 0 ∧ E 6 (7 * t) = 0 ∧ G.2 32 t = 0) ∨ (G.2 27 t = 1 ∧ 1 ≤ E 6 (7 * t) ∧ E 6 (7 * t + 1) = G.2 30 t ∧
  (∃ lk rd ct cd : Nat, (lk < 256 ∧ rd < 256 ∧ ct < 256 ∧ cd < 256) ∧ (E 6 (7 * t + 2) = (lk : Int) ∧ G.2 31 t = (lk : Int)) ∧ (E 6 (7 * t + 3) = (rd : Int) ∧ G.2 33 t = (rd : Int)) ∧ (E 6 (7 * t + 4) = (ct : Int) ∧ G.2 32 t = (ct : Int)) ∧ (E 6 (7 * t + 5) = (cd : Int) ∧ G.2 34 t = (cd : Int))) ∧ G.2 35 t = 0))
def WGs (E : Rw) (G : Md) : Prop := (∀ t, t < 8 → WG E G t) ∧ ∀ t, 8 ≤ t → t < 24 → G.2 27 t = 0 ∧ G.2 32 t = 0
/-- the ticks: what is later than a rendering in the law's wiki is so in the reference -/
def WK (E : Rw) (G : Md) : Prop := (0 ≤ E 0 3 ∧ E 0 3 < 100000) ∧ (∀ t, t < 8 → (0 ≤ E 4 t ∧ E 4 t ≤ E 0 3) ∧ E 5 t = G.2 26 t + 1) ∧ (∀ c, c < 8 → 0 ≤ E 8 c ∧ E 8 c ≤ E 0 3) ∧ ∀ s, s < 8 → G.2 27 s = 1 → (1 ≤ E 6 (7 * s) ∧ E 6 (7 * s) ≤ E 0 3 + 1) ∧ (∀ k, k < 8 → (E 6 (7 * s) ≤ E 4 k ↔ G.2 28 s < G.2 23 k)) ∧ ∀ c, c < 8 → (E 6 (7 * s) ≤ E 8 c ↔ G.2 28 s < G.2 24 c)
def ctF (G : Md) (t : Nat) : Nat := (G.2 32 t).toNat
theorem WG.row {E E' : Rw} {G : Md} {t : Nat} (h : WG E G t) (e : E' 6 = E 6) : WG E' G t := by unfold WG at h ⊢; rw [e]; exact h
theorem WGs.row {E E' : Rw} {G : Md} (h : WGs E G) (e : E' 6 = E 6) : WGs E' G := ⟨fun t ht => (h.1 t ht).row e, h.2⟩
theorem WK.row {E E' : Rw} {G : Md} (h : WK E G) (e0 : E' 0 = E 0) (e4 : E' 4 = E 4) (e5 : E' 5 = E 5) (e6 : E' 6 = E 6) (e8 : E' 8 = E 8) : WK E' G := by
  unfold WK at h ⊢
  rw [e0, e4, e5, e6, e8]
  exact h
theorem WG.ct {E : Rw} {G : Md} {t : Nat} (h : WG E G t) : ctF G t < 256 ∧ G.2 32 t = (ctF G t : Int) ∧ ((E 6 (7 * t) = 0 ∧ ctF G t = 0) ∨ (G.2 27 t = 1 ∧ 0 < E 6 (7 * t) ∧ E 6 (7 * t + 4) = (ctF G t : Int))) := by
  obtain ⟨-, -, h | ⟨h1, h2, h3, ⟨lk, rd, ct, cd, g1, g2, g3, g4, g5⟩, h5⟩⟩ := h
  · unfold ctF
    rw [h.2.2]
    exact ⟨by decide, rfl, Or.inl ⟨h.2.1, rfl⟩⟩
  · have e : ctF G t = ct := by unfold ctF; rw [g4.2]; rfl
    rw [e]
    exact ⟨g1.2.2.1, g4.2, Or.inr ⟨h1, by omega, g4.1⟩⟩
theorem WG.r0 {E : Rw} {G : Md} {t : Nat} (h : WG E G t) (hK : WK E G) (ht : t < 8) : 0 ≤ E 6 (7 * t) ∧ E 6 (7 * t) < 200000 := by
  have k0 := hK.1
  rcases h.2.2 with h | h
  · have := h.2.1; omega
  · have := (hK.2.2.2 t ht h.1).1; omega
section STAL
variable {N t : Nat} {E : Rw} {G : Md}
theorem bits_zero (f : Nat → Bool) (n : Nat) : ∀ m, (∀ k, n ≤ k → k < n + m → f k = false) → bitsN f (n + m) = bitsN f n := by
  intro m
  induction m with
  | zero => intro _; rfl
  | succ m ih =>
    intro h
    rw [show n + (m + 1) = (n + m) + 1 by omega, bitsN, ih (fun k a b => h k a (by omega)), h (n + m) (by omega) (by omega), if_neg (by decide), Nat.or_zero]
theorem memb8 (hG : WGs E G) (c : Nat) : bitsN (fun t => (ctF G t).testBit c) 24 = bitsN (fun t => (ctF G t).testBit c) 8 := by
  refine bits_zero _ 8 16 (fun k a b => ?_)
  unfold ctF
  rw [(hG.2 k a (by omega)).2]
  exact Nat.zero_testBit c
theorem W_members (hG : WGs E G) (hK : WK E G) {c : Nat} (hc : c < 8) : fW_members (c : Int) E = some ((bitsN (fun t => (ctF G t).testBit c) 8 : Int), E) := by
  unfold fW_members
  rw [bnd_eq]
  refine lpn_rule (P := fun mm (L : Int → Int → Rw → Option (Int × Rw)) => ∀ i, i ≤ 8 → 8 - i < mm → L (bitsN (fun t => (ctF G t).testBit c) i : Int) (i : Int) E = some ((bitsN (fun t => (ctF G t).testBit c) 8 : Int), E)) (fun i _ h => absurd h (Nat.not_lt_zero _)) (fun mm L hLL i hi hm => ?_) FU 0 (by decide) (by unfold FU; omega)
  rcases Nat.lt_or_ge i 8 with hlt | hge
  · obtain ⟨c1, c2, c3⟩ := (hG.1 i hlt).ct
    have q := hLL (i + 1) (by omega) (by omega)
    rw [bitsN] at q
    have e6 := (hG.1 i hlt).r0 hK hlt
    rw [if_neg (by rw [show w32 8 = 8 from rfl, w32_n (by omega)]; omega), if_pos (inW 56 rfl (by omega) (by omega) (by decide)), bnd_eq, ixn (n := 7 * i) (by omega) (by omega)]
    rcases c3 with ⟨d1, d2⟩ | ⟨d0, d1, d2⟩
    · rw [d2] at q
      rw [if_pos (by rw [w32_of (by omega) (by omega)]; omega)]
      have e := orI_bit (s := bitsN (fun t => (ctF G t).testBit c) i) (x := 0) (k := c) (i := i) (bitsN_24 _ (by omega)) (by decide) (by omega) (by omega)
      rw [show andI (shrI ((0 : Nat) : Int) (c : Int)) 1 = 0 by rw [bitI_N (by omega) (by decide), Nat.zero_testBit]; rfl] at e
      dsimp only
      rw [e, bnd_eq]
      exact q
    · rw [if_neg (by rw [w32_of (by omega) (by omega)]; omega), if_pos (inW 56 rfl (by omega) (by omega) (by decide)), ixn (n := 7 * i + 4) (by omega) (by omega), d2]; (try dsimp only); rw [orI_bit (bitsN_24 _ (by omega)) (by omega) (by omega) (by omega), bnd_eq]
      exact q
  · have e : i = 8 := by omega
    subst e
    rw [if_pos (by decide)]
theorem W_many {S : Nat} (hS : S < 2147483648) : fW_many (S : Int) = some ((nBits S 32 : Int), ()) := by
  unfold fW_many
  rw [bnd_eq]
  have key := lpn_rule (z := fun (_ : Int) (_ : Int) => (none : Option (Int × Unit))) (body := fun L4 (v1_4 : Int) (v2_4 : Int) =>
    if w32 v2_4 ≤ 0 then some (v1_4, ())
    else bnd (v1_4 + (andI v2_4 1)) fun (x1_13 : Int) => bnd (shrI v2_4 1) fun (x2_17 : Int) => L4 x1_13 x2_17) (fun mm L => ∀ (k S c : Nat), S < 2 ^ k → k < mm → S < 2147483648 → c + k < 100 → L (c : Int) (S : Int) = some (((c + nBits S k : Nat) : Int), ())) (fun k S c _ h => absurd h (Nat.not_lt_zero _)) (fun mm L hL k S c hk hm hS hc => ?_) FU 32 S 0 (by omega) (by unfold FU; omega) hS (by decide)
  · rw [Nat.zero_add] at key
    exact key
  · dsimp only
    by_cases h0 : S = 0
    · subst h0
      rw [if_pos (by decide), nBits_0]
      rfl
    · cases k with
      | zero => omega
      | succ k =>
        have p : 2 ^ (k + 1) = 2 * 2 ^ k := by rw [Nat.pow_succ]; omega
        have a1 : andI (S : Int) 1 = ((S % 2 : Nat) : Int) := by
          rw [show (1 : Int) = ((1 : Nat) : Int) from rfl, andI_N hS]
          have := Nat.and_two_pow_sub_one_eq_mod S 1
          rw [show (2 : Nat) ^ 1 - 1 = 1 from rfl, show (2 : Nat) ^ 1 = 2 from rfl] at this
          rw [this]
        have a2 : shrI (S : Int) 1 = ((S / 2 : Nat) : Int) := by
          have := shrI_N (n := S) (k := 1) (by decide) hS
          exact this
        have hb : (if S.testBit 0 = true then 1 else 0) = S % 2 := by
          rw [Nat.testBit_zero]
          by_cases d : S % 2 = 1
          · rw [d]; rfl
          · have : S % 2 = 0 := by omega
            rw [this]; rfl
        have q := hL k (S / 2) (c + S % 2) (by omega) (by omega) (by omega) (by omega)
        rw [if_neg (by rw [w32_n hS]; omega), a1, a2, bnd_eq, bnd_eq, nBits_half, hb, show ((c : Int) + ((S % 2 : Nat) : Int)) = ((c + S % 2 : Nat) : Int) by omega, q]
        rw [Nat.add_assoc]
/-- a page is stale, by the reference's rows -/
def stF (G : Md) (t : Nat) : Prop := G.2 6 t ≠ -1 ∧ (G.2 27 t = 0 ∨ OldP G t (G.2 33 t).toNat (G.2 34 t).toNat (G.2 35 t).toNat)
theorem bit1 (x k : Nat) (hk : k < 32) (hx : x < 2147483648) : (w32 (andI (shrI (x : Int) (k : Int)) 1) = w32 1) ↔ x.testBit k = true := by
  rw [bitI_N hk hx]
  by_cases c : x.testBit k = true
  · rw [if_pos c]; exact ⟨fun _ => c, fun _ => rfl⟩
  · rw [if_neg c]; exact ⟨fun z => absurd z (by decide), fun z => absurd z c⟩
theorem testBit_hi {x k : Nat} (hx : x < 256) (hk : 8 ≤ k) : x.testBit k = false := Nat.testBit_lt_two_pow (Nat.lt_of_lt_of_le hx (show 2 ^ 8 ≤ 2 ^ k from Nat.pow_le_pow_right (by decide) hk))
theorem W_isStale (hP : WP E G) (hG : WGs E G) (hK : WK E G) (ht : t < 8) : BR (fW_isStale (t : Int) E) E (stF G t) := by
  have hK0 := hK
  obtain ⟨k3, k1, k2, k7⟩ := hK
  obtain ⟨p1, p2, p3⟩ := hP t ht
  have a5 := (k1 t ht).1
  -- the loop, over what was read and counted
  have loop : ∀ (x : Int) (rd cd : Nat), -1 ≤ x → x < 1000000 → rd < 2147483648 → cd < 2147483648 → (0 ≤ x → E 6 (7 * t + 3) = (rd : Int) ∧ E 6 (7 * t + 5) = (cd : Int)) → ∀ b : Bool, (x < 0 → b = true) →
      BR (lpn (fun (_ : Int) (_ : Int) (_ : Rw) => (none : Option (Int × Rw))) (fun L35 (v6_35 : Int) (v7_35 : Int) (E_35 : Rw) =>
      if w32 8 ≤ w32 v7_35 then
      bnd (fun (t0_131 : Int) (E_131 : Rw) =>
      retZ t0_131 E_131) fun J131 =>
      bnd (fun (E_130 : Rw) =>
      J131 0 E_130) fun J130 =>
      if w32 v6_35 = 0 then
      J130 E_35
      else
      if inR (t : Int) (wLen 1) then
      if w32 (E_35 1 (ix (t : Int))) ≤ 0 then
      J130 E_35
      else
      J131 1 E_35
      else none
      else
      bnd (fun (t0_106 : Int) (E_106 : Rw) =>
      L35 t0_106 (v7_35 + 1) E_106) fun J106 =>
      bnd (fun (E_101 : Rw) =>
      J106 1 E_101) fun J101 =>
      if ¬ w32 v6_35 = 0 then
      J101 E_35
      else
      if inR ((7 * (t : Int)) + 3) (wLen 6) then
      bnd (fun (E_74 : Rw) =>
      if inR ((7 * (t : Int)) + 5) (wLen 6) then
      bnd (fun (E_105 : Rw) =>
      J106 0 E_105) fun J105 =>
      if ¬ w32 (andI (shrI (E_74 6 (ix ((7 * (t : Int)) + 5))) v7_35) 1) = w32 1 then
      J105 E_74
      else
      if inR v7_35 (wLen 8) then
      if w32 (E_74 8 (ix v7_35)) ≤ w32 x then
      J105 E_74
      else
      J101 E_74
      else none
      else none) fun J74 =>
      if ¬ w32 (andI (shrI (E_35 6 (ix ((7 * (t : Int)) + 3))) v7_35) 1) = w32 1 then
      J74 E_35
      else
      if inR v7_35 (wLen 4) then
      if w32 x < w32 (E_35 4 (ix v7_35)) then
      J101 E_35
      else
      J74 E_35
      else none
      else none) FU (if b = true then 1 else 0) 0 E) E (G.2 6 t ≠ -1 ∧ (b = true ∨ ∃ j, j < 8 ∧ ((rd.testBit j = true ∧ x < E 4 j) ∨ (cd.testBit j = true ∧ x < E 8 j)))) := by
    intro x rd cd hx1 hx2 hrd hcd hrow b hb
    have key := lpn_rule (z := fun (_ : Int) (_ : Int) (_ : Rw) => (none : Option (Int × Rw))) (body := fun L35 (v6_35 : Int) (v7_35 : Int) (E_35 : Rw) =>
      if w32 8 ≤ w32 v7_35 then
      bnd (fun (t0_131 : Int) (E_131 : Rw) =>
      retZ t0_131 E_131) fun J131 =>
      bnd (fun (E_130 : Rw) =>
      J131 0 E_130) fun J130 =>
      if w32 v6_35 = 0 then
      J130 E_35
      else
      if inR (t : Int) (wLen 1) then
      if w32 (E_35 1 (ix (t : Int))) ≤ 0 then
      J130 E_35
      else
      J131 1 E_35
      else none
      else
      bnd (fun (t0_106 : Int) (E_106 : Rw) =>
      L35 t0_106 (v7_35 + 1) E_106) fun J106 =>
      bnd (fun (E_101 : Rw) =>
      J106 1 E_101) fun J101 =>
      if ¬ w32 v6_35 = 0 then
      J101 E_35
      else
      if inR ((7 * (t : Int)) + 3) (wLen 6) then
      bnd (fun (E_74 : Rw) =>
      if inR ((7 * (t : Int)) + 5) (wLen 6) then
      bnd (fun (E_105 : Rw) =>
      J106 0 E_105) fun J105 =>
      if ¬ w32 (andI (shrI (E_74 6 (ix ((7 * (t : Int)) + 5))) v7_35) 1) = w32 1 then
      J105 E_74
      else
      if inR v7_35 (wLen 8) then
      if w32 (E_74 8 (ix v7_35)) ≤ w32 x then
      J105 E_74
      else
      J101 E_74
      else none
      else none) fun J74 =>
      if ¬ w32 (andI (shrI (E_35 6 (ix ((7 * (t : Int)) + 3))) v7_35) 1) = w32 1 then
      J74 E_35
      else
      if inR v7_35 (wLen 4) then
      if w32 x < w32 (E_35 4 (ix v7_35)) then
      J101 E_35
      else
      J74 E_35
      else none
      else none) (fun mm L => ∀ (b : Bool) (i : Nat), (x < 0 → b = true) → i ≤ 8 → 8 - i < mm → BR (L (if b = true then 1 else 0) (i : Int) E) E (G.2 6 t ≠ -1 ∧ (b = true ∨ ∃ j, i ≤ j ∧ j < 8 ∧ ((rd.testBit j = true ∧ x < E 4 j) ∨ (cd.testBit j = true ∧ x < E 8 j))))) (fun b i _ _ h => absurd h (Nat.not_lt_zero _)) (fun mm L hL b i hb hi hm => ?_) FU b 0 hb (by decide) (by unfold FU; omega)
    · refine key.iff ?_
      constructor
      · rintro ⟨h1, h2 | ⟨j, _, j2, j3⟩⟩
        · exact ⟨h1, Or.inl h2⟩
        · exact ⟨h1, Or.inr ⟨j, j2, j3⟩⟩
      · rintro ⟨h1, h2 | ⟨j, j2, j3⟩⟩
        · exact ⟨h1, Or.inl h2⟩
        · exact ⟨h1, Or.inr ⟨j, Nat.zero_le _, j2, j3⟩⟩
    · dsimp only
      rcases Nat.lt_or_ge i 8 with hlt | hge
      · have q1 := hL true (i + 1) (fun _ => rfl) (by omega) (by omega)
        rw [if_pos rfl] at q1
        have ei : ((i : Int) + 1) = ((i + 1 : Nat) : Int) := by omega
        rw [if_neg (by rw [show w32 8 = 8 from rfl, w32_n (by omega)]; omega), bnd_eq, bnd_eq, ei]
        cases b with
        | true =>
          rw [if_pos (show ¬ w32 (if true = true then (1 : Int) else 0) = 0 by decide)]
          refine q1.iff ?_
          exact ⟨fun z => ⟨z.1, Or.inl rfl⟩, fun z => ⟨z.1, Or.inl rfl⟩⟩
        | false =>
          have hx0 : 0 ≤ x := by
            by_cases c : 0 ≤ x
            · exact c
            · exact absurd (hb (by omega)) (by decide)
          obtain ⟨r3, r5⟩ := hrow hx0
          have q0 := hL false (i + 1) (fun z => by omega) (by omega) (by omega)
          rw [if_neg (by decide)] at q0
          have b4 := (k1 i hlt).1
          have b8 := k2 i hlt
          rw [if_neg (show ¬ ¬ w32 (if false = true then (1 : Int) else 0) = 0 by decide), if_pos (inW 56 rfl (by omega) (by omega) (by decide)), bnd_eq, ixn (n := 7 * t + 3) (by omega) (by omega), r3]
          have J74 : BR (if inR ((7 * (t : Int)) + 5) (wLen 6) then
              bnd (fun (E_105 : Rw) => L 0 ((i + 1 : Nat) : Int) E_105) fun J105 =>
              if ¬ w32 (andI (shrI (E 6 (ix ((7 * (t : Int)) + 5))) (i : Int)) 1) = w32 1 then J105 E
              else if inR (i : Int) (wLen 8) then
              if w32 (E 8 (ix (i : Int))) ≤ w32 x then J105 E
              else L 1 ((i + 1 : Nat) : Int) E
              else none
              else none) E (G.2 6 t ≠ -1 ∧ ((cd.testBit i = true ∧ x < E 8 i) ∨ ∃ j, i + 1 ≤ j ∧ j < 8 ∧ ((rd.testBit j = true ∧ x < E 4 j) ∨ (cd.testBit j = true ∧ x < E 8 j)))) := by
            rw [if_pos (inW 56 rfl (by omega) (by omega) (by decide)), bnd_eq, ixn (n := 7 * t + 5) (by omega) (by omega), r5]
            by_cases c : cd.testBit i = true
            · rw [if_neg (fun z => z ((bit1 cd i (by omega) hcd).mpr c)), if_pos (inWn 8 rfl hlt (by decide)), ix_n (by omega)]
              by_cases d : E 8 i ≤ x
              · rw [if_pos (by rw [w32_of (by omega) (by omega), w32_of (by omega) (by omega)]; exact d)]
                refine q0.iff ?_
                constructor
                · rintro ⟨z1, z2 | z2⟩
                  · cases z2
                  · exact ⟨z1, Or.inr z2⟩
                · rintro ⟨z1, z2 | z2⟩
                  · omega
                  · exact ⟨z1, Or.inr z2⟩
              · rw [if_neg (by rw [w32_of (by omega) (by omega), w32_of (by omega) (by omega)]; exact d)]
                refine q1.iff ?_
                exact ⟨fun z => ⟨z.1, Or.inl ⟨c, by omega⟩⟩, fun z => ⟨z.1, Or.inl rfl⟩⟩
            · rw [if_pos (fun z => c ((bit1 cd i (by omega) hcd).mp z))]
              refine q0.iff ?_
              constructor
              · rintro ⟨z1, z2 | z2⟩
                · cases z2
                · exact ⟨z1, Or.inr z2⟩
              · rintro ⟨z1, z2 | z2⟩
                · exact absurd z2.1 c
                · exact ⟨z1, Or.inr z2⟩
          have fin : (G.2 6 t ≠ -1 ∧ ((rd.testBit i = true ∧ x < E 4 i) ∨ (cd.testBit i = true ∧ x < E 8 i) ∨ ∃ j, i + 1 ≤ j ∧ j < 8 ∧ ((rd.testBit j = true ∧ x < E 4 j) ∨ (cd.testBit j = true ∧ x < E 8 j)))) ↔ (G.2 6 t ≠ -1 ∧ (false = true ∨ ∃ j, i ≤ j ∧ j < 8 ∧ ((rd.testBit j = true ∧ x < E 4 j) ∨ (cd.testBit j = true ∧ x < E 8 j)))) := by
            constructor
            · rintro ⟨z1, z2 | z2 | ⟨j, j1, j2, j3⟩⟩
              · exact ⟨z1, Or.inr ⟨i, Nat.le_refl _, hlt, Or.inl z2⟩⟩
              · exact ⟨z1, Or.inr ⟨i, Nat.le_refl _, hlt, Or.inr z2⟩⟩
              · exact ⟨z1, Or.inr ⟨j, by omega, j2, j3⟩⟩
            · rintro ⟨z1, z2 | ⟨j, j1, j2, j3⟩⟩
              · cases z2
              · refine ⟨z1, ?_⟩
                by_cases e : j = i
                · subst e
                  rcases j3 with y | y
                  · exact Or.inl y
                  · exact Or.inr (Or.inl y)
                · exact Or.inr (Or.inr ⟨j, by omega, j2, j3⟩)
          refine BR.iff ?_ fin
          by_cases c : rd.testBit i = true
          · rw [if_neg (fun z => z ((bit1 rd i (by omega) hrd).mpr c)), if_pos (inWn 8 rfl hlt (by decide)), show E 4 (ix (i : Int)) = E 4 i by rw [ix_n (by omega)]]
            by_cases d : x < E 4 i
            · rw [if_pos (by rw [w32_of (by omega) (by omega), w32_of (by omega) (by omega)]; exact d)]
              refine q1.iff ?_
              exact ⟨fun z => ⟨z.1, Or.inl ⟨c, d⟩⟩, fun z => ⟨z.1, Or.inl rfl⟩⟩
            · rw [if_neg (by rw [w32_of (by omega) (by omega), w32_of (by omega) (by omega)]; exact d)]
              refine J74.iff ?_
              exact ⟨fun z => ⟨z.1, Or.inr z.2⟩, fun z => ⟨z.1, z.2.elim (fun y => absurd y.2 d) (fun y => y)⟩⟩
          · rw [if_pos (fun z => c ((bit1 rd i (by omega) hrd).mp z))]
            refine J74.iff ?_
            exact ⟨fun z => ⟨z.1, Or.inr z.2⟩, fun z => ⟨z.1, z.2.elim (fun y => absurd y.1 c) (fun y => y)⟩⟩
      · have e : i = 8 := by omega
        subst e
        rw [if_pos (by decide), bnd_eq, bnd_eq]
        have no : ∀ P : Prop, (∃ j, 8 ≤ j ∧ j < 8 ∧ ((rd.testBit j = true ∧ x < E 4 j) ∨ (cd.testBit j = true ∧ x < E 8 j))) → P := fun P ⟨j, j1, j2, _⟩ => absurd j1 (by omega)
        cases b with
        | false =>
          rw [if_pos (show w32 (if false = true then (1 : Int) else 0) = 0 by decide)]
          exact Or.inr ⟨rfl, fun z => z.2.elim (fun y => by cases y) (no _)⟩
        | true =>
          rw [if_neg (show ¬ w32 (if true = true then (1 : Int) else 0) = 0 by decide), if_pos (inWn 8 rfl ht (by decide)), ix_n (by omega), p1]
          by_cases c : G.2 6 t = -1
          · rw [if_pos (by rw [c]; decide)]
            exact Or.inr ⟨rfl, fun z => z.1 c⟩
          · rw [if_neg (by rw [w32_of (by omega) (by omega)]; omega)]
            exact Or.inl ⟨rfl, c, Or.inl rfl⟩
  unfold fW_isStale
  rw [if_pos (inW 56 rfl (by omega) (by omega) (by decide)), ixn (n := 7 * t) (by omega) (by omega), bnd_eq, bnd_eq, bnd_eq]
  obtain ⟨-, -, h | ⟨h1, h2, h3, ⟨lk, rd, ct, cd, g1, g2, g3, g4, g5⟩, h5⟩⟩ := hG.1 t ht
  · have l1 := loop (-1) 0 0 (by decide) (by decide) (by decide) (by decide) (fun z => absurd z (by decide)) true (fun _ => rfl)
    rw [if_pos rfl] at l1
    rw [h.2.1, if_pos (by decide), show (0 : Int) - 1 = -1 from rfl]
    refine l1.iff ?_
    unfold stF
    exact ⟨fun z => ⟨z.1, Or.inl h.1⟩, fun z => ⟨z.1, Or.inl rfl⟩⟩
  · obtain ⟨q1, q2, q3⟩ := k7 t ht h1
    rw [if_neg (by rw [w32_of (by omega) (by omega)]; omega), if_pos (inWn 8 rfl ht (by decide)), show E 4 (ix (t : Int)) = E 4 t by rw [ix_n (by omega)]]
    have st : stF G t ↔ (G.2 6 t ≠ -1 ∧ (E 6 (7 * t) - 1 < E 4 t ∨ ∃ j, j < 8 ∧ ((rd.testBit j = true ∧ E 6 (7 * t) - 1 < E 4 j) ∨ (cd.testBit j = true ∧ E 6 (7 * t) - 1 < E 8 j)))) := by
      have y4 : ∀ k, k < 8 → (E 6 (7 * t) - 1 < E 4 k ↔ G.2 28 t < G.2 23 k) := fun k hk => by rw [← q2 k hk]; omega
      have y8 : ∀ k, k < 8 → (E 6 (7 * t) - 1 < E 8 k ↔ G.2 28 t < G.2 24 k) := fun k hk => by rw [← q3 k hk]; omega
      unfold stF OldP
      rw [h5, g3.2, g5.2]
      show (_ ∧ (_ ∨ G.2 28 t < G.2 23 t ∨ (∃ k, k < 24 ∧ rd.testBit k = true ∧ _) ∨ (∃ k, k < 8 ∧ cd.testBit k = true ∧ _) ∨ ∃ k, k < 4 ∧ (0 : Nat).testBit k = true ∧ _)) ↔ _
      constructor
      · rintro ⟨z1, z2 | z2 | ⟨k, z2, z3, z4⟩ | ⟨k, z2, z3, z4⟩ | ⟨k, z2, z3, z4⟩⟩
        · omega
        · exact ⟨z1, Or.inl ((y4 t ht).mpr z2)⟩
        · by_cases c : k < 8
          · exact ⟨z1, Or.inr ⟨k, c, Or.inl ⟨z3, (y4 k c).mpr z4⟩⟩⟩
          · rw [testBit_hi g1.2.1 (by omega)] at z3
            cases z3
        · exact ⟨z1, Or.inr ⟨k, z2, Or.inr ⟨z3, (y8 k z2).mpr z4⟩⟩⟩
        · rw [Nat.zero_testBit] at z3
          cases z3
      · rintro ⟨z1, z2 | ⟨k, z2, ⟨z3, z4⟩ | ⟨z3, z4⟩⟩⟩
        · exact ⟨z1, Or.inr (Or.inl ((y4 t ht).mp z2))⟩
        · exact ⟨z1, Or.inr (Or.inr (Or.inl ⟨k, by omega, z3, (y4 k z2).mp z4⟩))⟩
        · exact ⟨z1, Or.inr (Or.inr (Or.inr (Or.inl ⟨k, z2, z3, (y8 k z2).mp z4⟩)))⟩
    by_cases d : E 4 t ≤ E 6 (7 * t) - 1
    · rw [if_pos (by rw [w32_of (by omega) (by omega), w32_of (by omega) (by omega)]; exact d)]
      have l0 := loop (E 6 (7 * t) - 1) rd cd (by omega) (by omega) (by omega) (by omega) (fun _ => ⟨g3.1, g5.1⟩) false (fun z => by omega)
      rw [if_neg (by decide)] at l0
      refine l0.iff ?_
      rw [st]
      constructor
      · rintro ⟨z1, z2 | z2⟩
        · cases z2
        · exact ⟨z1, Or.inr z2⟩
      · rintro ⟨z1, z2 | z2⟩
        · omega
        · exact ⟨z1, Or.inr z2⟩
    · rw [if_neg (by rw [w32_of (by omega) (by omega), w32_of (by omega) (by omega)]; exact d)]
      have l1 := loop (E 6 (7 * t) - 1) rd cd (by omega) (by omega) (by omega) (by omega) (fun _ => ⟨g3.1, g5.1⟩) true (fun _ => rfl)
      rw [if_pos rfl] at l1
      refine l1.iff ?_
      rw [st]
      exact ⟨fun z => ⟨z.1, Or.inl (by omega)⟩, fun z => ⟨z.1, Or.inl rfl⟩⟩
end STAL
