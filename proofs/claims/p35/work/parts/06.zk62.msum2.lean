/-! THE REFERENCE SUMS, all -/
section MSU2
variable {M : Md} {k f : Nat} {s : ASt} {pl : List Nat}
theorem X12_sumOf_ (h : FnS M k s f pl) (h71 : M.1 71 = 0) :
   (∀ a', gsm s f pl pl.length 1 0 = some (0, a') → fX12_sumOf (k : Int) M = some (a' % 1000, M)) ∧
   (∀ jn a', gsm s f pl pl.length 1 0 = some (jn + 1, a') → jn + 1 ≤ pl.length ∧ ∃ x, fX12_sumOf (k : Int) M = some (x, mSet M 71 ((jn + 1 : Nat) : Int))) := by
  have hh := h
  obtain ⟨hk, h55, hp30, h1, hw, hrows⟩ := h
  unfold fX12_sumOf
  rw [bnd_eq]
  refine (lpn_rule (P := fun mm (L : Int → Int → Md → Option (Int × Md)) =>
    (∀ (x : Int) (j : Nat) (M' : Md), 0 < mm → j < 1000 → 1 ≤ M'.1 71 → M'.1 71 ≤ 30 → M'.2 55 k = (pl.length : Int) → L x (j : Int) M' = some (x, M')) ∧
    ∀ (j m : Nat) (a : Int), 0 ≤ a → 1 ≤ j → j + m = pl.length + 1 → m + 1 < mm → (∀ a', gsm s f pl m j a = some (0, a') → L (a % 1000) (j : Int) M = some (a' % 1000, M)) ∧
      (∀ jn a', gsm s f pl m j a = some (jn + 1, a') → jn + 1 ≤ pl.length ∧ ∃ x, L (a % 1000) (j : Int) M = some (x, mSet M 71 ((jn + 1 : Nat) : Int)))) ⟨fun x j M' h => absurd h (Nat.lt_irrefl _), fun j m a _ _ _ h => absurd h (Nat.not_lt_zero _)⟩ (fun mm L hLL => ⟨fun x j M' _ hj q1 q2 q5 => ?_, fun j m a ha hj hjm hm => ?_⟩) FU).2 1 pl.length 0 (Int.le_refl _) (Nat.le_refl _) (by omega) (by unfold FU; omega)
  · rw [if_pos (in_700 hk rfl), ix_n (by omega), q5, bnd_eq]
    by_cases c : pl.length < j
    · rw [if_pos (by rw [w32_n (by omega), w32_n (by omega)]; omega)]
    · rw [if_neg (by rw [w32_n (by omega), w32_n (by omega)]; omega), if_pos (by rw [w32_of (by omega) (by omega)]; omega)]
  · cases m with
    | zero =>
      refine ⟨fun a' q => ?_, fun jn a' q => ?_⟩
      · injection q with q
        injection q with _ q
        subst q
        rw [if_pos (in_700 hk rfl), ix_n (by omega), h55, bnd_eq, if_pos (by rw [w32_n (by omega), w32_n (by omega)]; omega)]
      · injection q with q
        injection q with q _
        omega
    | succ m =>
      have w0 : ¬ ¬ w32 (M.1 71) = 0 := fun z => z (by rw [h71]; rfl)
      have en : ¬ w32 (pl.length : Int) < w32 (j : Int) := by rw [w32_n (by omega), w32_n (by omega)]; omega
      obtain ⟨p1, p2⟩ := X12_partOf_ hh (j := j) ⟨hj, by omega⟩
      rw [gsm]
      cases hp : prt s f pl j with
      | none => exact ⟨fun a' q => (by cases q), fun jn a' q => (by cases q)⟩
      | some z =>
        cases z with
        | none =>
          obtain ⟨hjl, e2⟩ := p2 hp
          refine ⟨fun a' q => ?_, fun jn a' q => ?_⟩
          · injection q with q
            injection q with q _
            omega
          · injection q with q
            injection q with q _
            subst q
            have ew : wnt M (jn + 1) = mSet M 71 ((jn + 1 : Nat) : Int) := if_pos h71
            rw [ew] at e2
            refine ⟨hjl, (a + wsum []) % 1000, ?_⟩
            rw [if_pos (in_700 hk rfl), ix_n (by omega), h55, bnd_eq, if_neg en, if_neg w0, cal_of e2, bnd_eq]
            refine (sum_row (M := mSet M 71 ((jn + 1 : Nat) : Int)) (d := 1) (r := []) h1 (fun v M => L v (((jn + 1 : Nat) : Int) + 1) M) ha).trans ?_
            have q := hLL.1 ((a + wsum []) % 1000) (jn + 2) (mSet M 71 ((jn + 1 : Nat) : Int)) (by omega) (by omega) (by rw [mS1]; omega) (by rw [mS1]; omega) h55
            rw [show ((jn + 2 : Nat) : Int) = ((jn + 1 : Nat) : Int) + 1 by omega] at q
            exact q
        | some r =>
          obtain ⟨d, e1, hr, _⟩ := p1 r hp
          have wr := wsum_rng hr.2.2.1.2
          have q := hLL.2 (j + 1) m (a + wsum r) (by omega) (by omega) (by omega) (by omega)
          have st : ∀ Y : Option (Int × Md), L ((a + wsum r) % 1000) ((j : Int) + 1) M = Y → (if inR (k : Int) (mLen 55) then
bnd (fun  (M_93 : Md) =>
some ((a % 1000), M_93)) fun J93 =>
if w32 (M.2 55 (ix (k : Int))) < w32 (j : Int) then
J93 M
else
if ¬ w32 (M.1 71) = 0 then
J93 M
else
cal (fX12_partOf (k : Int) (j : Int) M) fun r2 M1 =>
bnd (lpn (fun (_ : Int) (_ : Int) (_ : Md) => (none : Option (Int × Md))) (fun L32 (v2_32 : Int) (v5_32 : Int) (M_32 : Md) =>
if inR r2 (mLen 49) then
if w32 (M_32.2 49 (ix r2)) ≤ w32 v5_32 then
L v2_32 ((j : Int) + 1) M_32
else
if inR ((150 * r2) + v5_32) (mLen 50) then
bnd (M_32.2 50 (ix ((150 * r2) + v5_32))) fun (x6_58 : Int) =>
bnd (fun (t0_80 : Int) (M_80 : Md) =>
L32 t0_80 (v5_32 + 1) M_80) fun J80 =>
if w32 1000 ≤ w32 x6_58 then
J80 v2_32 M_32
else
J80 (remI (v2_32 + x6_58) 1000) M_32
else none
else none) FU) fun J32 =>
J32 (a % 1000) 0 M1
else none) = Y := by
            intro Y hY
            rw [if_pos (in_700 hk rfl), ix_n (by omega), h55, bnd_eq, if_neg en, if_neg w0, cal_of e1, bnd_eq]
            exact (sum_row hr (fun v M => L v ((j : Int) + 1) M) ha).trans hY
          rw [show ((j + 1 : Nat) : Int) = (j : Int) + 1 by omega] at q
          exact ⟨fun a' z => st _ (q.1 a' z), fun jn a' z => ⟨(q.2 jn a' z).1, by obtain ⟨x, hx⟩ := (q.2 jn a' z).2; exact ⟨x, st _ hx⟩⟩⟩
end MSU2
