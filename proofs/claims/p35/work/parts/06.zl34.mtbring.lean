/-! THE CALL moveTree: the pages are brought over -/
section MTB
variable {b kc : Nat} {M M' M1 M2 : Md} {C C' C1 C2 : Cd} {P : Nat → Prop} {VA PA LE AA : Nat → Nat} {nv np na n : Nat} {g : Nat → Int}
abbrev zM1 : Int → Md → Option (Int × Md) := fun (_ : Int) (_ : Md) => (none : Option (Int × Md))
abbrev zC1 : Int → Cd → Option ((Int ⊕ Nat) × Cd) := fun (_ : Int) (_ : Cd) => (none : Option ((Int ⊕ Nat) × Cd))
theorem c1B_no (hL : Lay b C) {G i : Nat} {r4 x5 : Int} {L : Int → Cd → Option ((Int ⊕ Nat) × Cd)} (hG : G < 16777216) (hi : i < 24) (h : G.testBit i = false) : c1B b (G : Int) r4 x5 L (i : Int) C = L ((i + 1 : Nat) : Int) C := by
  unfold c1B
  rw [if_pos hL.o, bnd_eq, hL.r1, drf_some, if_pos hL.ot, hL.nt, if_neg (by rw [show w32 ((24 : Nat) : Int) = 24 from rfl, w32_n (by omega)]; omega), cal_of (X11_has_ (s := G) (e := i) (C := C) (by omega) (by omega)), bnd_eq, h, ite_ff, if_pos (by decide), show (i : Int) + 1 = ((i + 1 : Nat) : Int) by omega]
theorem c1B_run (hL : Lay b C) {G : Nat} {r4 x5 : Int} (hG : G < 16777216) : ∀ m i, i + m ≤ 24 → (∀ j, i ≤ j → j < i + m → G.testBit j = false) → ∀ F, lpn zC1 (c1B b (G : Int) r4 x5) (F + m) (i : Int) C = lpn zC1 (c1B b (G : Int) r4 x5) F ((i + m : Nat) : Int) C := by
  intro m
  induction m with
  | zero => intro i _ _ F; rfl
  | succ m ih =>
    intro i hi h F
    rw [show F + (m + 1) = (F + m) + 1 by omega, lpn_succ, c1B_no hL hG (by omega) (h i (Nat.le_refl _) (by omega)), ih (i + 1) (by omega) (fun j h1 h2 => h j (by omega) (by omega)) F, show i + 1 + m = i + (m + 1) by omega]
/-- behind k pages -/
def BrI (b : Nat) (M0 : Md) (C0 : Cd) (VA PA LE AA : Nat → Nat) (nv np na fr to G : Nat) (many r4 x5 : Int) (k : Nat) (M : Md) (C : Cd) : Prop :=
  (∃ P : Nat → Prop, RQ P b M C VA PA LE AA nv np na ∧ ∀ s, P s → (s / 4 = fr ∨ s / 4 = to) ∧ s % 4 < k) ∧
  (∀ F, lpn zM1 (mt1 (fr : Int) (to : Int) (hadF M0 fr : Int) many) (F + k) 0 M0 = lpn zM1 (mt1 (fr : Int) (to : Int) (hadF M0 fr : Int) many) F (k : Int) M) ∧
  (∀ F, lpn zC1 (c1B b (G : Int) r4 x5) (F + (4 * fr + k)) 0 C0 = lpn zC1 (c1B b (G : Int) r4 x5) F ((4 * fr + k : Nat) : Int) C) ∧
  (∀ s, s < 24 → M.2 6 s = if s / 4 = to ∧ s % 4 < k then M0.2 6 (4 * fr + s % 4) else if s / 4 = fr ∧ s % 4 < k then -1 else M0.2 6 s) ∧
  ((∀ j, j ≠ 22 → M.1 j = M0.1 j) ∧ (M0.1 22 ≤ M.1 22 ∧ M.1 22 ≤ M0.1 22 + 8 * (k : Int)) ∧ ∀ q, q ≠ 6 → q ≠ 24 → q ≠ 27 → q ≠ 32 → M.2 q = M0.2 q) ∧
  cnt (leF M nv G) 24 = cnt (leF M0 nv G) 24 ∧ csz C = csz C0 ∧ csl C = csl C0 ∧ Fp (sFr b) C0 C
theorem sBo_fr {u w : Nat} (f : Fp (sBo b u w) C C') : Fp (sFr b) C C' := f.fr (fun a z => by
  rcases z with z | z | z
  · omega
  · unfold sTk sRow at z; omega
  · exact absurd z.nk.1 (by decide))
theorem BrI.step {M0 : Md} {C0 : Cd} {fr to G k : Nat} {many r4 x5 : Int} (hfr : fr < 6) (hto : to < 6) (hne : fr ≠ to) (hk : k < 4) (hx5 : x5 = ((to : Int) - (fr : Int)) * 4) (hG : G < 16777216) (hGb : ∀ i, i < 24 → G.testBit i = (decide (i / 4 = fr) && decide (M0.2 6 i ≠ -1))) (hpt : ∀ k, k < 4 → M0.2 6 (4 * to + k) = -1)
   (h : BrI b M0 C0 VA PA LE AA nv np na fr to G many r4 x5 k M C) : ∃ M' C', BrI b M0 C0 VA PA LE AA nv np na fr to G many r4 x5 (k + 1) M' C' := by
  obtain ⟨⟨P, hq, hP⟩, hr, hc, h6, ⟨g1, g22, g2⟩, hcnt, hs, hl, hf⟩ := h
  have hL := hq.1.1
  have hz := hL.sz
  have eu : M.2 6 (4 * fr + k) = M0.2 6 (4 * fr + k) := by rw [h6 _ (by omega), if_neg (by omega), if_neg (by omega)]
  have ew : M.2 6 (4 * to + k) = -1 := by rw [h6 _ (by omega), if_neg (by omega), if_neg (by omega)]; exact hpt k hk
  have x1 : 4 * (fr : Int) + (k : Int) = ((4 * fr + k : Nat) : Int) := by omega
  have x2 : 4 * (to : Int) + (k : Int) = ((4 * to + k : Nat) : Int) := by omega
  have hgu := hGb (4 * fr + k) (by omega)
  rw [decide_eq_true (by omega), Bool.true_and] at hgu
  have turn : ∀ {M1 : Md}, fX12_dropRendering ((4 * fr + k : Nat) : Int) M = some ((), M1) → ∀ F, lpn zM1 (mt1 (fr : Int) (to : Int) (hadF M0 fr : Int) many) (F + (k + 1)) 0 M0 = lpn zM1 (mt1 (fr : Int) (to : Int) (hadF M0 fr : Int) many) F ((k + 1 : Nat) : Int) (mPut (mPut M1 6 (4 * to + k) (M1.2 6 (4 * fr + k))) 6 (4 * fr + k) (-1)) := fun {M1} e F => by
    rw [show F + (k + 1) = (F + 1) + k by omega, hr (F + 1), lpn_succ]
    unfold mt1
    rw [if_neg (by rw [show w32 4 = 4 from rfl, w32_n (by omega)]; omega), x1, x2, cal_of e, if_pos (inM (n := 24) rfl (by omega) (by decide)), if_pos (inM (n := 24) rfl (by omega) (by decide)), bnd_eq, if_pos (inM (n := 24) rfl (by omega) (by decide)), bnd_eq, ix_n (by omega), ix_n (by omega), show (k : Int) + 1 = ((k + 1 : Nat) : Int) by omega]
  by_cases c : M0.2 6 (4 * fr + k) = -1
  · -- no page there
    have h27 : M.2 27 (4 * fr + k) = 0 := by
      obtain ⟨r, lk, ct, rd, cd, us, hg⟩ := hq.2.2.2.2.2.2.2 (4 * fr + k) (by omega)
      rcases hg.1.2 with z | z
      · exact z
      · exact absurd (eu.trans c) (hg.2.2.2.2.2.1 z).2.2.2
    have e0 := turn (X12_drop_0 (by omega) h27)
    have eM : mPut (mPut M 6 (4 * to + k) (M.2 6 (4 * fr + k))) 6 (4 * fr + k) (-1) = M := by
      have a1 : mPut M 6 (4 * to + k) (M.2 6 (4 * fr + k)) = M := mPut_self (ew.trans (eu.trans c).symm)
      rw [a1]
      exact mPut_self (eu.trans c)
    rw [eM] at e0
    refine ⟨M, C, ⟨P, hq, fun s z => ⟨(hP s z).1, by have := (hP s z).2; omega⟩⟩, e0, fun F => ?_, fun s hs' => ?_, ⟨g1, ⟨g22.1, by omega⟩, g2⟩, hcnt, hs, hl, hf⟩
    · rw [show F + (4 * fr + (k + 1)) = (F + 1) + (4 * fr + k) by omega, hc (F + 1), lpn_succ, c1B_no hL hG (by omega) (by rw [hgu, decide_eq_false (fun z => z c)])]
      rfl
    · rw [h6 s hs']
      by_cases q1 : s / 4 = to ∧ s % 4 < k
      · rw [if_pos q1, if_pos ⟨q1.1, by omega⟩]
      · rw [if_neg q1]
        by_cases q2 : s / 4 = to ∧ s % 4 < k + 1
        · have e : s = 4 * to + k := by omega
          rw [if_pos q2, e, if_neg (by omega), show (4 * to + k) % 4 = k by omega, c]
          exact hpt k hk
        · rw [if_neg q2]
          by_cases q3 : s / 4 = fr ∧ s % 4 < k
          · rw [if_pos q3, if_pos ⟨q3.1, by omega⟩]
          · rw [if_neg q3]
            by_cases q4 : s / 4 = fr ∧ s % 4 < k + 1
            · have e : s = 4 * fr + k := by omega
              rw [if_pos q4, e]; exact c
            · rw [if_neg q4]
  · -- a page is brought
    obtain ⟨p, hp, hp6⟩ : ∃ p : Nat, p < np ∧ M.2 6 (4 * fr + k) = (p : Int) := by
      rcases hq.2.2.2.2.2.1.2.2.2.1.1 (4 * fr + k) (by omega) with z | ⟨p, z1, z2, _⟩
      · rw [eu] at z; exact absurd z.1 c
      · exact ⟨p, z1, z2⟩
    obtain ⟨M1, C1, eD, eB, ⟨d1, d22, d2⟩, K, s1, l1, f1⟩ := hq.bring (u := 4 * fr + k) (w := 4 * to + k) (by omega) (by omega) hp6 ew (fun z => by have := (hP _ z).2; omega) (fun z => by have := (hP _ z).2; omega)
    have d6 : M1.2 6 = M.2 6 := d2 6 (by decide) (by decide) (by decide)
    have e0 := turn eD
    rw [d6, hp6] at e0
    have q6 : ∀ s, (mPut (mPut M1 6 (4 * to + k) (p : Int)) 6 (4 * fr + k) (-1)).2 6 s = if s = 4 * to + k then (p : Int) else if s = 4 * fr + k then -1 else M.2 6 s := fun s => by
      by_cases z : s = 4 * fr + k
      · rw [z, if_neg (by omega), if_pos rfl]; exact p2_1 _ _ _ _
      · rw [p2_2 (k := 6) (k' := 6) _ _ (Or.inr z)]
        by_cases z2 : s = 4 * to + k
        · rw [if_pos z2, z2]; exact p2_1 _ _ _ _
        · rw [if_neg z2, if_neg z, p2_2 (k := 6) (k' := 6) _ _ (Or.inr z2), d6]
    have qk : ∀ q, q ≠ 6 → (mPut (mPut M1 6 (4 * to + k) (p : Int)) 6 (4 * fr + k) (-1)).2 q = M1.2 q := fun q hq' => by rw [mPut_ne _ _ _ hq', mPut_ne _ _ _ hq']
    have hq2 := K (mPut (mPut M1 6 (4 * to + k) (p : Int)) 6 (4 * fr + k) (-1)) rfl qk (fun s _ => q6 s)
    have q1 : (mPut (mPut M1 6 (4 * to + k) (p : Int)) 6 (4 * fr + k) (-1)).1 = M1.1 := rfl
    generalize mPut (mPut M1 6 (4 * to + k) (p : Int)) 6 (4 * fr + k) (-1) = M3 at *
    refine ⟨M3, C1, ⟨_, hq2, fun s z => ?_⟩, e0, fun F => ?_, fun s hs' => ?_, ⟨fun j hj => by rw [q1, d1 j hj]; exact g1 j hj, ⟨by rw [q1]; omega, by rw [q1]; omega⟩, fun q a1 a2 a3 a4 => by rw [qk q a1, d2 q a2 a3 a4]; exact g2 q a1 a2 a3 a4⟩, ?_, s1.trans hs, l1.trans hl, hf.tr (sBo_fr f1)⟩
    · rcases z with z | z | z
      · exact ⟨(hP s z).1, by have := (hP s z).2; omega⟩
      · rw [z]; exact ⟨Or.inl (by omega), by omega⟩
      · rw [z]; exact ⟨Or.inr (by omega), by omega⟩
    · rw [show F + (4 * fr + (k + 1)) = (F + 1) + (4 * fr + k) by omega, hc (F + 1), lpn_succ]
      unfold c1B
      have hgu' : G.testBit (4 * fr + k) = true := by rw [hgu]; exact decide_eq_true c
      have ex : ((4 * fr + k : Nat) : Int) + x5 = ((4 * to + k : Nat) : Int) := by rw [hx5]; omega
      rw [if_pos hL.o, bnd_eq, hL.r1, drf_some, if_pos hL.ot, hL.nt, if_neg (by rw [show w32 ((24 : Nat) : Int) = 24 from rfl, w32_n (by omega)]; omega), cal_of (X11_has_ (s := G) (e := 4 * fr + k) (C := C) (by omega) (by omega)), bnd_eq, hgu', ite_tt, if_neg (by decide), if_pos hL.o, ex, calx_of eB, show ((4 * fr + k : Nat) : Int) + 1 = ((4 * fr + (k + 1) : Nat) : Int) by omega]
    · rw [q6, h6 s hs']
      by_cases z1 : s = 4 * to + k
      · rw [if_pos z1, z1, if_pos (by omega), show (4 * to + k) % 4 = k by omega, ← eu]
        exact hp6.symm
      · rw [if_neg z1]
        by_cases z2 : s = 4 * fr + k
        · rw [if_pos z2, z2, if_neg (by omega), if_pos (by omega)]
        · rw [if_neg z2]
          by_cases q1' : s / 4 = to ∧ s % 4 < k
          · rw [if_pos q1', if_pos ⟨q1'.1, by omega⟩]
          · rw [if_neg q1', if_neg (show ¬ (s / 4 = to ∧ s % 4 < k + 1) by omega)]
            by_cases q3 : s / 4 = fr ∧ s % 4 < k
            · rw [if_pos q3, if_pos ⟨q3.1, by omega⟩]
            · rw [if_neg q3, if_neg (show ¬ (s / 4 = fr ∧ s % 4 < k + 1) by omega)]
    · rw [← hcnt]
      have lp : ∀ x, lpF M3 nv G x = lpF M nv G x := fun x => lpF_same (fun q hq' => by rw [qk q (by omega)]; exact d2 q (by omega) (by omega) (by omega)) x
      refine cnt_swap (u := 4 * fr + k) (w := 4 * to + k) (by omega) (by omega) (by omega) ?_ ?_ ?_ (fun s hs' z1 z2 => ?_)
      · unfold leF; rw [ew, decide_eq_false (fun z => z rfl), Bool.false_and]
      · unfold leF; rw [q6, if_neg (by omega), if_pos rfl, decide_eq_false (fun z => z rfl), Bool.false_and]
      · unfold leF; rw [q6, if_pos rfl, hp6, lp]
      · unfold leF; rw [q6, if_neg z2, if_neg z1, lp]
theorem RQ.brought (hq : RQ no0 b M C VA PA LE AA nv np na) {fr to G : Nat} {many r4 x5 : Int} (hfr : fr < 6) (hto : to < 6) (hne : fr ≠ to) (hx5 : x5 = ((to : Int) - (fr : Int)) * 4) (hG : G < 16777216) (hGb : ∀ i, i < 24 → G.testBit i = (decide (i / 4 = fr) && decide (M.2 6 i ≠ -1))) (hpt : ∀ k, k < 4 → M.2 6 (4 * to + k) = -1) :
   ∃ M5 C5, BrI b M C VA PA LE AA nv np na fr to G many r4 x5 4 M5 C5 ∧ ∀ F, lpn zC1 (c1B b (G : Int) r4 x5) (F + 24) 0 C = lpn zC1 (c1B b (G : Int) r4 x5) F ((24 : Nat) : Int) C5 := by
  have hL := hq.1.1
  have b0 : BrI b M C VA PA LE AA nv np na fr to G many r4 x5 0 M C := ⟨⟨no0, hq, fun s z => z.elim⟩, fun F => rfl, fun F => by
    have y := c1B_run (r4 := r4) (x5 := x5) hL hG (4 * fr) 0 (by omega) (fun j _ h2 => by rw [hGb j (by omega), decide_eq_false (by omega), Bool.false_and]) F
    rw [Nat.zero_add] at y
    exact y, fun s _ => by rw [if_neg (by omega), if_neg (by omega)], ⟨fun _ _ => rfl, ⟨Int.le_refl _, by omega⟩, fun _ _ _ _ _ => rfl⟩, rfl, rfl, rfl, Fp.rf hL.W⟩
  obtain ⟨M1, C1, b1⟩ := b0.step hfr hto hne (by decide) hx5 hG hGb hpt
  obtain ⟨M2, C2, b2⟩ := b1.step hfr hto hne (by decide) hx5 hG hGb hpt
  obtain ⟨M3, C3, b3⟩ := b2.step hfr hto hne (by decide) hx5 hG hGb hpt
  obtain ⟨M4, C4, b4⟩ := b3.step hfr hto hne (by decide) hx5 hG hGb hpt
  refine ⟨M4, C4, b4, fun F => ?_⟩
  obtain ⟨⟨P, hq4, _⟩, _, hc, _⟩ := b4
  have y := c1B_run (r4 := r4) (x5 := x5) hq4.1.1 hG (24 - (4 * fr + 4)) (4 * fr + 4) (by omega) (fun j h1 h2 => by rw [hGb j (by omega), decide_eq_false (by omega), Bool.false_and]) F
  rw [show 4 * fr + 4 + (24 - (4 * fr + 4)) = 24 by omega] at y
  rw [← y, show F + 24 = (F + (24 - (4 * fr + 4))) + (4 * fr + 4) by omega, hc]
end MTB
