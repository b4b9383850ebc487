/-! THE CALL work -/
section WRK
variable {b kc : Nat} {M M' : Md} {C C' : Cd}
def wkB (a1 : Int) (L25 : Int → Int → Md → Option (Int × Md)) (v2_25 : Int) (v3_25 : Int) (M_25 : Md) : Option (Int × Md) :=
bnd (fun  (M_58 : Md) =>
some (v2_25, M_58)) fun J58 =>
if w32 v3_25 = w32 (-1) then
J58 M_25
else
if w32 a1 ≤ w32 v2_25 then
J58 M_25
else
if ¬ w32 (M_25.1 36) = 0 then
J58 M_25
else
cal (fX12_render v3_25 M_25) fun r7 M6 =>
cal (fX12_nextStale M6) fun r9 M8 =>
L25 (v2_25 + 1) r9 M8
def wkL (a1 : Int) (n : Nat) : Int → Int → Md → Option (Int × Md) := lpn (fun (_ : Int) (_ : Int) (_ : Md) => (none : Option (Int × Md))) (wkB a1) n
theorem work_def (a1 : Int) (M : Md) : fX12_work a1 M = (cal (fX12_in a1 1 4 M) fun r2 M1 =>
bnd (fun (t0_15 : Int) (M_15 : Md) =>
bnd (mSet M_15 36 t0_15) fun (M3 : Md) =>
cal (fX12_nextStale M3) fun r5 M4 =>
bnd (wkL a1 FU) fun J25 =>
J25 0 r5 M4) fun J15 =>
if w32 r2 = 0 then
J15 1 M1
else
J15 0 M1) := rfl
theorem wkL_succ (a1 : Int) (n : Nat) : wkL a1 (n + 1) = wkB a1 (wkL a1 n) := rfl
def nxt (b : Nat) (M : Md) (C : Cd) : Int := (fiq (wqC b C) (M.2 4) 24).1
/-- what work keeps -/
def WkI (b : Nat) (M0 : Md) (C0 : Cd) (n : Nat) (M : Md) (C : Cd) : Prop := Rm b C0 C ∧ (csz C0 ≤ csz C ∧ csl C0 ≤ csl C) ∧ (∀ j, j ≤ 36 → j ≠ 22 → M.1 j = M0.1 j) ∧ M0.1 22 ≤ M.1 22 ∧ M.1 22 ≤ M0.1 22 + 8 * (n : Int)
theorem call_work (h : RR b kc M C) (hk : kc ≤ 900) {x : Int} (hx : I32 x) : CallE b kc C cd0 (fX11_work b x C) (fX12_work x M) := by
  have hL := h.1.1
  have wx : w32 x = x := w32_of hx.1 hx.2
  rcases X12_in_ (x := x) (lo := 1) (hi := 4) M hx (by decide) (by decide) with ⟨e, p⟩ | ⟨e, p⟩
  · obtain ⟨a, rfl⟩ : ∃ a : Nat, x = (a : Int) := ⟨x.toNat, by omega⟩
    have ha : 1 ≤ a ∧ a ≤ 4 := by omega
    have h3 := h.m36' 0
    have m36 : (mSet M 36 0).1 36 = 0 := mS1 _ _ _
    have key : ∃ (y : Int) (C' : Cd) (M' : Md), fX11_work b (a : Int) C = some (.inl y, C') ∧ (∀ fu, 5 < fu → wkL (a : Int) fu 0 (nxt b (mSet M 36 0) C) (mSet M 36 0) = some (y, M')) ∧ (∃ k', RR b k' M' C') ∧ WkI b (mSet M 36 0) C 4 M' C' := by
      unfold fX11_work
      rw [bnd_eq, wx, if_neg (by rw [show w32 1 = 1 from rfl]; omega), if_pos (by rw [show w32 4 = 4 from rfl]; omega), bnd_eq]
      refine lpn_rule (P := fun mm (L : Int → Int → Cd → Option ((Int ⊕ Nat) × Cd)) => ∀ (n : Nat) (M2 : Md) (C2 : Cd), n ≤ a → 5 - n < mm → RR b (kc + n) M2 C2 → WkI b (mSet M 36 0) C n M2 C2 → ∃ (y : Int) (C' : Cd) (M' : Md), L (n : Int) (n : Int) C2 = some (.inl y, C') ∧ (∀ fu, 5 - n < fu → wkL (a : Int) fu (n : Int) (nxt b M2 C2) M2 = some (y, M')) ∧ (∃ k', RR b k' M' C') ∧ WkI b (mSet M 36 0) C 4 M' C') (fun n _ _ _ h => absurd h (Nat.not_lt_zero _)) (fun mm L hLL n M2 C2 hn hm hr hi => ?_) FU 0 (mSet M 36 0) C (Nat.zero_le _) (by unfold FU; omega) h3 ⟨Rm.rf, ⟨Nat.le_refl _, Nat.le_refl _⟩, fun _ _ _ => rfl, Int.le_refl _, by omega⟩
      obtain ⟨i1, i2, i3, i4, i5⟩ := hi
      have hL2 := hr.1.1
      have w36 : M2.1 36 = 0 := (i3 36 (by decide) (by decide)).trans m36
      have i4' : WkI b (mSet M 36 0) C 4 M2 C2 := ⟨i1, i2, i3, i4, by omega⟩
      have hfi : nxt b M2 C2 = -1 ∨ ∃ k : Nat, k < 24 ∧ wqC b C2 k = true ∧ nxt b M2 C2 = (k : Int) := by
        unfold nxt
        rcases fiq_rng (w := wqC b C2) (r := M2.2 4) 24 with y | ⟨k, k1, k2, k3⟩
        · rw [y]; exact Or.inl rfl
        · rw [k3]; exact Or.inr ⟨k, k1, k2, rfl⟩
      have hF : fX11_firstInQueue b C2 = some (nxt b M2 C2, C2) := hr.first
      have stop : (nxt b M2 C2 = -1 ∨ a ≤ n) → ∀ fu, 5 - n < fu → wkL (a : Int) fu (n : Int) (nxt b M2 C2) M2 = some ((n : Int), M2) := by
        intro hs fu hfu
        obtain ⟨f', rfl⟩ : ∃ f', fu = f' + 1 := ⟨fu - 1, by omega⟩
        rw [wkL_succ]
        unfold wkB
        rw [bnd_eq]
        by_cases c1 : nxt b M2 C2 = -1
        · rw [if_pos (by rw [c1])]
        · rw [if_neg (by rcases hfi with y | ⟨k, k1, k2, k3⟩
                         · exact absurd y c1
                         · rw [k3, w32_n (by omega), show w32 (-1) = -1 from rfl]; omega), if_pos (by rw [w32_n (by omega), w32_n (by omega)]; omega)]
      rw [bnd_eq, w32_n (n := n) (by omega)]
      by_cases ca : a ≤ n
      · rw [if_pos (by omega)]
        exact ⟨_, C2, M2, rfl, stop (Or.inr ca), ⟨_, hr⟩, i4'⟩
      · rw [if_neg (by omega), if_pos hL2.o, cal_of hF]
        rcases hfi with y | ⟨k, k1, k2, k3⟩
        · rw [if_neg (fun z => z (by rw [y]))]
          exact ⟨_, C2, M2, rfl, stop (Or.inl y), ⟨_, hr⟩, i4'⟩
        · have hne : M2.2 6 k ≠ -1 := fun z => by
            have := hr.nopage k1 z
            rw [this] at k2
            exact absurd k2 (by decide)
          obtain ⟨C3, M3, acc, r1, r2, r3, r4, r5, r6, r7, r8, r9⟩ := hr.render (by omega) k1 hne
          obtain ⟨y, C', M', y1, y2, y3, y4⟩ := hLL (n + 1) M3 C3 (by omega) (by omega) r3 ⟨i1.tr r4, ⟨Nat.le_trans i2.1 r5.1, Nat.le_trans i2.2 r5.2⟩, fun j a1 a2 => (r6 j a1 a2).trans (i3 j a1 a2), by omega, by omega⟩
          refine ⟨y, C', M', ?_, fun fu hfu => ?_, y3, y4⟩
          · rw [k3, if_pos (by rw [w32_n (by omega), show w32 (-1) = -1 from rfl]; omega), if_pos hL2.o, bnd_eq, hL2.r1, drf_some, if_pos ⟨hL2.ot, by rw [hL2.nt]; exact inR_n k1 (by decide)⟩, bnd_eq, hL2.tt k1, if_pos hL2.o, cal_of r1]
            exact y1
          · obtain ⟨f', rfl⟩ : ∃ f', fu = f' + 1 := ⟨fu - 1, by omega⟩
            have hN : fX12_nextStale M3 = some (nxt b M3 C3, M3) := r3.next (by omega)
            rw [wkL_succ]
            unfold wkB
            rw [bnd_eq, k3, if_neg (by rw [w32_n (by omega), show w32 (-1) = -1 from rfl]; omega), if_neg (by rw [w32_n (by omega), w32_n (by omega)]; omega), if_neg (fun z => z (by rw [w36]; rfl)), cal_of r2, cal_of hN]
            exact y2 f' (by omega)
    obtain ⟨y, C', M', x1, x2, ⟨k', x3⟩, i1, i2, i3, i4, i5⟩ := key
    have hN : fX12_nextStale (mSet M 36 0) = some (nxt b (mSet M 36 0) C, mSet M 36 0) := h3.next (by omega)
    refine ⟨M', C', y, ?_, x3.rb ?_, i1.rml i2, Or.inl ⟨x1, (i3 36 (by decide) (by decide)).trans m36⟩⟩
    · rw [work_def, cal_of e, bnd_eq, if_neg (by decide)]
      dsimp only
      rw [bnd_eq, cal_of hN, bnd_eq]
      exact x2 FU (by unfold FU; omega)
    · obtain ⟨⟨b1, b2⟩, b3, b4, b5⟩ := h3.2.2.2.1
      unfold RB
      rw [i3 5 (by decide) (by decide), i3 13 (by decide) (by decide)]
      exact ⟨⟨b1, by omega⟩, by omega, by omega, by omega⟩
  · have h3 := h.m36' 1
    have m36 : (mSet M 36 1).1 36 = 1 := mS1 _ _ _
    have hN : fX12_nextStale (mSet M 36 1) = some (nxt b (mSet M 36 1) C, mSet M 36 1) := h3.next (by omega)
    refine h.exc (e := 0) (M' := mSet M 36 1) ?_ ?_ (sc36 M 1) (mS1 _ _ _) (by decide)
    · unfold fX11_work
      rw [bnd_eq, wx]
      by_cases c : x < 1
      · rw [if_pos (by rw [show w32 1 = 1 from rfl]; exact c)]
      · rw [if_neg (by rw [show w32 1 = 1 from rfl]; exact c), if_neg (by rw [show w32 4 = 4 from rfl]; omega)]
    · rw [work_def, cal_of e, bnd_eq, if_pos (by decide)]
      dsimp only
      rw [bnd_eq, cal_of hN, bnd_eq, show FU = (FU - 1) + 1 from by unfold FU; rfl, wkL_succ]
      unfold wkB
      rw [bnd_eq]
      by_cases c1 : w32 (nxt b (mSet M 36 1) C) = w32 (-1)
      · rw [if_pos c1]
      · rw [if_neg c1]
        by_cases c2 : w32 x ≤ w32 0
        · rw [if_pos c2]
        · rw [if_neg c2, if_pos (by rw [m36]; decide)]
end WRK
