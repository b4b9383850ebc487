/-! WHO IS FIRST IN THE QUEUE -/
section QUE
def fiq (w : Nat → Bool) (r : Nat → Int) : Nat → Int × Int
  | 0 => (-1, -1)
  | n + 1 => if w n = true ∧ (fiq w r n).2 < r n then ((n : Int), r n) else fiq w r n
theorem fiq_rng {w : Nat → Bool} {r : Nat → Int} : ∀ n, fiq w r n = (-1, -1) ∨ ∃ k, k < n ∧ w k = true ∧ fiq w r n = ((k : Int), r k) := by
  intro n
  induction n with
  | zero => exact Or.inl rfl
  | succ n ih =>
    rw [fiq]
    by_cases c : w n = true ∧ (fiq w r n).2 < r n
    · rw [if_pos c]; exact Or.inr ⟨n, Nat.lt_succ_self n, c.1, rfl⟩
    · rw [if_neg c]
      rcases ih with h | ⟨k, h1, h2, h3⟩
      · exact Or.inl h
      · exact Or.inr ⟨k, by omega, h2, h3⟩
variable {b kc : Nat} {M M' : Md} {C C' : Cd}
theorem RR.first (h : RR b kc M C) : fX11_firstInQueue b C = some ((fiq (wqC b C) (M.2 4) 24).1, C) := by
  have hL := h.1.1
  unfold fX11_firstInQueue
  rw [bnd_eq]
  refine lpn_rule (P := fun mm (L : Int → Int → Int → Cd → Option (Int × Cd)) => ∀ i, i ≤ 24 → 24 - i < mm → L (fiq (wqC b C) (M.2 4) i).1 (fiq (wqC b C) (M.2 4) i).2 (i : Int) C = some ((fiq (wqC b C) (M.2 4) 24).1, C)) (fun i _ h => absurd h (Nat.not_lt_zero _)) (fun mm L hLL i hi hm => ?_) FU 0 (by decide) (by unfold FU; omega)
  rw [if_pos hL.o, bnd_eq, hL.r1, drf_some, if_pos hL.ot, hL.nt]
  rcases Nat.lt_or_ge i 24 with hlt | hge
  · have q := hLL (i + 1) (by omega) (by omega)
    rw [fiq] at q
    obtain ⟨_, ⟨t1, t2, t3⟩, _⟩ := h.2.2.2.2.1 i hlt
    rw [if_neg (by rw [show w32 ((24 : Nat) : Int) = 24 from rfl, w32_n (by omega)]; omega), if_pos hL.o, bnd_eq, drf_some, hL.nt, if_pos ⟨hL.ot, inR_n hlt (by decide)⟩, bnd_eq, hL.tt hlt, drf_some, if_pos (hL.to hlt), cal_of (h.waits_ hlt), bnd_eq]
    by_cases z : wqC b C i = true
    · have rg : -1 ≤ (fiq (wqC b C) (M.2 4) i).2 ∧ (fiq (wqC b C) (M.2 4) i).2 ≤ 99 := by
        rcases fiq_rng (w := wqC b C) (r := M.2 4) i with y | ⟨k, k1, k2, k3⟩
        · rw [y]; exact ⟨by decide, by decide⟩
        · have := (h.2.2.2.2.1 k (by omega)).2.1
          rw [k3]
          show -1 ≤ M.2 4 k ∧ M.2 4 k ≤ 99
          omega
      rw [if_pos z, if_neg (by decide), if_pos hL.o, bnd_eq, hL.r1, drf_some, hL.nt, if_pos ⟨hL.ot, inR_n hlt (by decide)⟩, bnd_eq, hL.tt hlt, drf_some, if_pos (hL.to hlt), ← t1, w32_of (x := M.2 4 i) (by omega) (by omega), w32_of (x := (fiq (wqC b C) (M.2 4) i).2) (by omega) (by omega)]
      by_cases c : M.2 4 i ≤ (fiq (wqC b C) (M.2 4) i).2
      · rw [if_neg (fun y => by have := y.2; omega)] at q
        rw [if_pos c]
        exact q
      · rw [if_pos ⟨z, by omega⟩] at q
        rw [if_neg c, if_pos hL.o, bnd_eq, drf_some, hL.nt, if_pos ⟨hL.ot, inR_n hlt (by decide)⟩, bnd_eq, hL.tt hlt, drf_some, if_pos (hL.to hlt), bnd_eq, ← t1]
        exact q
    · rw [if_neg (fun y => z y.1)] at q
      rw [if_neg z, if_pos (by decide)]
      exact q
  · have e : i = 24 := by omega
    subst e
    rw [if_pos (by decide)]
theorem RR.next (h : RR b kc M C) (hk : kc ≤ 1000) : fX12_nextStale M = some ((fiq (wqC b C) (M.2 4) 24).1, M) := by
  unfold fX12_nextStale
  rw [bnd_eq]
  refine lpn_rule (P := fun mm (L : Int → Int → Md → Option (Int × Md)) => ∀ i, i ≤ 24 → 24 - i < mm → L (fiq (wqC b C) (M.2 4) i).1 (i : Int) M = some ((fiq (wqC b C) (M.2 4) 24).1, M)) (fun i _ h => absurd h (Nat.not_lt_zero _)) (fun mm L hLL i hi hm => ?_) FU 0 (by decide) (by unfold FU; omega)
  rcases Nat.lt_or_ge i 24 with hlt | hge
  · have q := hLL (i + 1) (by omega) (by omega)
    rw [fiq] at q
    have pg := h.pg hlt
    obtain ⟨_, ⟨t1, t2, t3⟩, _⟩ := h.2.2.2.2.1 i hlt
    rw [if_neg (by rw [show w32 24 = 24 from rfl, w32_n (by omega)]; omega), if_pos (inM (n := 24) rfl hlt (by decide)), bnd_eq, bnd_eq, ix_n (by omega)]
    by_cases cp : M.2 6 i = -1
    · rw [h.nopage hlt cp, if_neg (fun y => Bool.false_ne_true y.1)] at q
      rw [if_pos (by rw [cp])]
      dsimp only
      rw [bnd_eq, bnd_eq, if_pos (by decide)]
      exact q
    · rw [if_neg (by rw [w32_of (by omega) (by omega), show w32 (-1) = -1 from rfl]; exact cp)]
      rcases h.old_ hk hlt cp with ⟨q1, z⟩ | ⟨q1, z⟩
      · rw [cal_of q1, if_neg (by decide)]
        dsimp only
        rw [bnd_eq, bnd_eq, if_neg (by decide), bnd_eq]
        rcases fiq_rng (w := wqC b C) (r := M.2 4) i with y | ⟨k, k1, k2, k3⟩
        · rw [y] at q ⊢
          rw [if_pos ⟨z, by show -1 < M.2 4 i; omega⟩] at q
          rw [if_pos (by decide)]
          exact q
        · have kr := (h.2.2.2.2.1 k (by omega)).2.1
          rw [k3] at q ⊢
          dsimp only at q ⊢
          rw [if_neg (by rw [w32_n (by omega), show w32 (-1) = -1 from rfl]; omega), if_pos (inM (n := 24) rfl hlt (by decide)), if_pos (inM (n := 24) rfl (show k < 24 by omega) (by decide)), ix_n (n := k) (by omega), w32_of (x := M.2 4 i) (by omega) (by omega), w32_of (x := M.2 4 k) (by omega) (by omega)]
          by_cases c : M.2 4 i ≤ M.2 4 k
          · rw [if_neg (fun y => by have := y.2; omega)] at q
            rw [if_pos c]
            exact q
          · rw [if_pos ⟨z, by omega⟩] at q
            rw [if_neg c]
            exact q
      · rw [if_neg (fun y => z y.1)] at q
        rw [cal_of q1, if_pos (by decide)]
        dsimp only
        rw [bnd_eq, bnd_eq, if_pos (by decide)]
        exact q
  · have e : i = 24 := by omega
    subst e
    rw [if_pos (by decide)]
end QUE
