/-! CALLS: act, wipe, token, protect, rank -/
section CAL1
variable {b kc : Nat} {M M' : Md} {C C' : Cd} {S : Nat → Nat → Nat → Prop}
/-- what reaches no place behind the fast part -/
def NH (b : Nat) (S : Nat → Nat → Nat → Prop) : Prop := ∀ q k a, S q k a → a < b + 854
theorem NH.hs (h : NH b S) : HS b C S := fun q k a _ z hb => by have := h q k a z; omega
theorem RR.part (h : RR b kc M C) (f : Fp S C C') (hN : NH b S) (hl : RLy b C') (hD : ∃ dn g, RD b M' C' dn g) (hS : RS b M' C') (hB : RB (kc + 1) M') (hT : ∀ t, t < 24 → RTi b M' C' t) (hM : ∀ j, j < 4 → RMo b M' C' j) (vs : VSame M M') (h5 : M.1 5 ≤ M'.1 5) (s1 : ¬ S 0 1407 b) (s2 : ∀ t, t < 24 → ¬ S 1 1203 (b + 13 + 6 * t)) (hK : ∀ nv, RK M nv → RK M' nv) (hG : RGs b M' C') : RR b (kc + 1) M' C' := by
  obtain ⟨h1, h2, h3, h4, h6, h7, ⟨VA, PA, LE, AA, nv, np, na, h8, h9⟩, h10⟩ := h
  exact ⟨hl, hD, hS, hB, hT, hM, ⟨VA, PA, LE, AA, nv, np, na, h8.low h1.1.W h1.1 h1.2.1 f hN.hs vs h5 s1 s2, hK nv h9⟩, hG⟩
theorem RGs.low (h : RGs b M C) (hL : Lay b C) (f : Fp S C C') (s1 : ∀ t k, t < 24 → 701 ≤ k → k ≤ 707 → ¬ S 0 k (b + 13 + 6 * t + 1)) (s2 : ∀ t, t < 24 → ¬ S 1 800 (b + 13 + 6 * t + 2)) (s3 : ∀ t, t < 24 → ¬ S 0 801 (b + 13 + 6 * t + 2)) (s4 : ∀ t, t < 24 → ¬ S 0 802 (b + 13 + 6 * t + 2)) (s5 : ∀ t, t < 24 → ¬ S 2 0 (b + 13 + 6 * t + 2 + 1))
   (e : ∀ k, ((23 ≤ k ∧ k ≤ 35) ∨ k = 6) → M'.2 k = M.2 k) : RGs b M' C' := fun t ht => by
  obtain ⟨r, lk, ct, rd, cd, us, hg⟩ := h t ht
  exact ⟨r, lk, ct, rd, cd, us, hg.low hL ht f (fun k a b => s1 t k ht a b) (s2 t ht) (s3 t ht) (s4 t ht) (s5 t ht) e⟩
theorem RB.up1 (h : RB kc M) (e5 : M'.1 5 = M.1 5) (e13 : M'.1 13 = M.1 13) (e22 : M'.1 22 = M.1 22) : RB (kc + 1) M' := by
  obtain ⟨⟨h1, h2⟩, h3, h4, h5⟩ := h
  unfold RB
  rw [e5, e13, e22]
  exact ⟨⟨h1, by omega⟩, by omega, h4, by omega⟩
theorem call_act (h : RR b kc M C) {x : Int} (hx : I32 x) : CallE b kc C cd0 (fX11_act b x C) (fX12_act x M) := by
  have hL := h.1.1
  have W := hL.W
  have wx : w32 x = x := w32_of hx.1 hx.2
  have ho := hL.o
  rcases X12_in_ (x := x) (lo := 0) (hi := 2) M hx (by decide) (by decide) with ⟨e, p⟩ | ⟨e, p⟩
  · have hY : fX12_act x M = some (M.1 2, mSet (mSet M 36 0) 2 x) := by
      unfold fX12_act
      rw [cal_of e, bnd_eq, if_neg (by decide)]
      dsimp only
      rw [bnd_eq, mS1, if_pos (by decide), bnd_eq, bnd_eq, mS2 _ _ (by decide)]
    have hX : fX11_act b x C = some (.inl (M.1 2), cSetI C 1409 b x) := by
      unfold fX11_act
      rw [bnd_eq, wx, if_neg (by omega), if_pos (by rw [show w32 2 = 2 from rfl]; omega), if_pos ho, bnd_eq, if_pos ho, bnd_eq, h.2.2.1.1.1]
    have f : Fp (fun q k a => q = 0 ∧ k = 1409 ∧ a = b) C (cSetI C 1409 b x) := Fp.I W _ _ _ ⟨rfl, rfl, rfl⟩
    have m1 : ∀ j, j ≠ 2 → j ≠ 36 → (mSet (mSet M 36 0) 2 x).1 j = M.1 j := fun j a c => (mS2 _ _ a).trans (mS2 _ _ c)
    have hr : RR b (kc + 1) (mSet (mSet M 36 0) 2 x) (cSetI C 1409 b x) := by
      obtain ⟨dn, g, hd⟩ := h.2.1
      refine h.part f (fun q k a z => by have := z.2.2; omega) (h.1.low f (fun q k a _ z => Or.inl z.1) (by omega) (by omega) (by omega) (by omega) (fun _ => by omega) (by omega) (by omega) (fun _ => by omega) (by omega) (by omega) (fun _ _ => by omega) (fun _ _ _ => by omega)) ⟨dn, g, hd.low W f (by omega) (by omega) (by omega) (by omega) (m1 1 (by decide) (by decide)) rfl⟩ ?_ (h.2.2.2.1.up1 (m1 5 (by decide) (by decide)) (m1 13 (by decide) (by decide)) (m1 22 (by decide) (by decide))) (fun t ht => (h.2.2.2.2.1 t ht).low hL ht f (by omega) (by omega) (by omega) (by omega) (fun _ _ => rfl)) (fun j hj => (h.2.2.2.2.2.1 j hj).low hL hj f (by omega) (by omega) (by omega) (fun _ _ => rfl)) ⟨fun j hj => m1 j (by omega) (by omega), fun _ _ => rfl⟩ (Int.le_of_eq (m1 5 (by decide) (by decide)).symm) (by omega) (fun _ _ => by omega) (fun nv hk => hk.same ⟨fun j hj => m1 j (by omega) (by omega), fun _ _ => rfl⟩ (m1 22 (by decide) (by decide)) (fun _ _ => rfl)) (h.2.2.2.2.2.2.2.low hL f (fun _ _ _ _ _ => by omega) (fun _ _ => by omega) (fun _ _ => by omega) (fun _ _ => by omega) (fun _ _ => by omega) (fun _ _ => rfl))
      obtain ⟨⟨r1, r2, r3⟩, r4, r5, r6, r7⟩ := h.2.2.1
      refine ⟨⟨?_, ?_, ?_⟩, ?_, ?_, ?_, ?_⟩
      · rw [mS1]; exact (cI_I1 _ _ _ _).symm
      · rw [mS1]; exact p.1
      · rw [mS1]; exact p.2
      · rw [m1 5 (by decide) (by decide), cI_I2 _ _ (Or.inl (by decide))]; exact r4
      · rw [m1 13 (by decide) (by decide), cI_I2 _ _ (Or.inl (by decide))]; exact r5
      · rw [m1 71 (by decide) (by decide)]; exact r6
      · rw [m1 68 (by decide) (by decide)]; exact r7
    exact ⟨_, _, _, hY, hr, RmL.of hL.sz f (fun _ _ => by omega) (Nat.le_add_right _ _) (Nat.le_add_right _ _), Or.inl ⟨hX, by rw [mS2 _ _ (by decide)]; exact mS1 _ _ _⟩⟩
  · have hY : fX12_act x M = some (0, mSet M 36 1) := by
      unfold fX12_act
      rw [cal_of e, bnd_eq, if_pos (by decide)]
      dsimp only
      rw [bnd_eq, mS1, if_neg (by decide)]
    have hX : fX11_act b x C = some (.inr 0, cBump C) := by
      unfold fX11_act
      rw [bnd_eq, wx]
      by_cases c : x < 0
      · rw [if_pos c]
      · rw [if_neg c, if_neg (by rw [show w32 2 = 2 from rfl]; omega)]
    exact h.exc hX hY (ScO.set (by decide)) (mS1 _ _ _) (by decide)
theorem call_wipe (h : RR b kc M C) : CallP b kc C (fX11_wipe b C) (fX12_wipe M) := by
  have hL := h.1.1
  have W := hL.W
  have ho := hL.o
  obtain ⟨dn, g, hd⟩ := h.2.1
  obtain ⟨d1, d2, d3, d4, d5⟩ := hd
  obtain ⟨C', e1, v1, o1⟩ := X8_clear_ d3.1 g
  have f := o1.fp W
  have hz := hL.sz
  have hY : fX12_wipe M = some (M.1 1, mSet (mSet M 36 0) 1 0) := by
    unfold fX12_wipe
    rw [bnd_eq, bnd_eq, bnd_eq, mS2 _ _ (by decide)]
  have hX : fX11_wipe b C = some (M.1 1, C') := by
    unfold fX11_wipe
    rw [if_pos ho, bnd_eq, drf_eq hL.r3, if_pos d3.isO_, bnd_eq, if_pos ho, bnd_eq, drf_eq hL.r3, if_pos d3.isO_, cal_of e1, d3.sz, d1]
  have m1 : ∀ j, j ≠ 1 → j ≠ 36 → (mSet (mSet M 36 0) 1 0).1 j = M.1 j := fun j a c => (mS2 _ _ a).trans (mS2 _ _ c)
  have sN : ∀ {q k a : Nat}, sTx (b + 845) q k a → a = b + 845 ∨ a = b + 846 := fun z => by unfold sTx at z; omega
  have hr : RR b (kc + 1) (mSet (mSet M 36 0) 1 0) C' := by
    refine h.part f (fun q k a z => by have := sN z; omega) (h.1.low f (fun q k a _ z => by unfold sTx at z; unfold Mu; omega) (by unfold sTx; omega) (by unfold sTx; omega) (by unfold sTx; omega) (by unfold sTx; omega) (fun _ => by unfold sTx; omega) (by unfold sTx; omega) (by unfold sTx; omega) (fun _ => by unfold sTx; omega) (by unfold sTx; omega) (by unfold sTx; omega) (fun _ _ => by unfold sTx; omega) (fun _ _ _ => by unfold sTx; omega)) ⟨0, g, mS1 _ _ _, Nat.zero_le _, v1, fun k hk => absurd hk (Nat.not_lt_zero _), fun k hk => absurd hk (Nat.not_lt_zero _)⟩ (h.2.2.1.low hL f (by unfold sTx; omega) (by unfold sTx; omega) (by unfold sTx; omega) (fun j hj => m1 j (by omega) (by omega)) (Or.inl (m1 71 (by decide) (by decide))) (Or.inl (m1 68 (by decide) (by decide)))) (h.2.2.2.1.up1 (m1 5 (by decide) (by decide)) (m1 13 (by decide) (by decide)) (m1 22 (by decide) (by decide))) (fun t ht => (h.2.2.2.2.1 t ht).low hL ht f (by unfold sTx; omega) (by unfold sTx; omega) (by unfold sTx; omega) (by unfold sTx; omega) (fun _ _ => rfl)) (fun j hj => (h.2.2.2.2.2.1 j hj).low hL hj f (by unfold sTx; omega) (by unfold sTx; omega) (by unfold sTx; omega) (fun _ _ => rfl)) ⟨fun j hj => m1 j (by omega) (by omega), fun _ _ => rfl⟩ (Int.le_of_eq (m1 5 (by decide) (by decide)).symm) (by unfold sTx; omega) (fun _ _ => by unfold sTx; omega) (fun nv hk => hk.same ⟨fun j hj => m1 j (by omega) (by omega), fun _ _ => rfl⟩ (m1 22 (by decide) (by decide)) (fun _ _ => rfl)) (h.2.2.2.2.2.2.2.low hL f (fun _ _ _ _ _ => by unfold sTx; omega) (fun _ _ => by unfold sTx; omega) (fun _ _ => by unfold sTx; omega) (fun _ _ => by unfold sTx; omega) (fun _ _ => by unfold sTx; omega) (fun _ _ => rfl))
  exact ⟨_, _, _, hY, hr, RmL.of hz f (fun _ _ => by unfold sTx; omega) (by rw [o1.csz]; omega) (by rw [o1.csl]; omega), hX⟩
end CAL1
