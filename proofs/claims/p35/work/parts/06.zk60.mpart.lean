/-! THE REFERENCE'S PARTS OF A FUNC THAT WAITS -/
section MPT
variable {M : Md} {k f : Nat} {s : ASt} {pl : List Nat}
theorem mSet_self (M : Md) (j : Nat) : mSet M j (M.1 j) = M := by
  refine Prod.ext ?_ rfl
  funext j'
  show (if j' = j then M.1 j else M.1 j') = M.1 j'
  by_cases c : j' = j
  · rw [if_pos c, c]
  · rw [if_neg c]
/-- the rows of a waiting function's parts -/
def FnS (M : Md) (k : Nat) (s : ASt) (f : Nat) (pl : List Nat) : Prop := k < 700 ∧ M.2 55 k = (pl.length : Int) ∧ pl.length ≤ 30 ∧ RowM M 1 [] ∧ (M.1 71 = 0 ∨ (1 ≤ M.1 71 ∧ M.1 71 ≤ 30)) ∧
  ∀ j, j < pl.length → (aPs s f (pl.getD j 0) = 0 ∧ M.2 58 (32 * k + j) = -1) ∨ (aPs s f (pl.getD j 0) ≠ 0 ∧ ∃ d : Nat, d < 1700 ∧ M.2 58 (32 * k + j) = (d : Int) ∧ (aPs s f (pl.getD j 0) = 2 → RowM M d (aRw s f (pl.getD j 0))))
/-- a wanted part is kept in mind, the first one -/
def wnt (M : Md) (j : Nat) : Md := if M.1 71 = 0 then mSet M 71 (j : Int) else M
theorem X12_partOf_ (h : FnS M k s f pl) {j : Nat} (hj : 1 ≤ j ∧ j < 100000) :
   (∀ r, prt s f pl j = some (some r) → ∃ d : Nat, fX12_partOf (k : Int) (j : Int) M = some ((d : Int), M) ∧ RowM M d r ∧ (d = 1 ∨ (j ≤ pl.length ∧ M.2 58 (32 * k + (j - 1)) = (d : Int)))) ∧
   (prt s f pl j = some none → j ≤ pl.length ∧ fX12_partOf (k : Int) (j : Int) M = some (1, wnt M j)) := by
  obtain ⟨hk, h55, hp30, h1, hw, hrows⟩ := h
  have w71 : w32 (M.1 71) = M.1 71 := w32_of (by omega) (by omega)
  have e0 : (32 * (k : Int)) + (j : Int) - 1 = ((32 * k + (j - 1) : Nat) : Int) := by omega
  unfold prt
  by_cases c : pl.length < j
  · have e : fX12_partOf (k : Int) (j : Int) M = some (1, M) := by
      unfold fX12_partOf
      rw [if_pos (in_700 hk rfl), ix_n (by omega), h55, if_neg (by rw [w32_n (by omega), w32_n (by omega)]; omega)]
    rw [if_pos (Or.inr c)]
    refine ⟨fun r hr => ?_, fun hr => ?_⟩
    · injection hr with hr
      injection hr with hr
      subst hr
      exact ⟨1, e, h1, Or.inl rfl⟩
    · injection hr with hr
      cases hr
  · rw [if_neg (by omega)]
    have hstart : ∀ x : Int, M.2 58 (32 * k + (j - 1)) = x → fX12_partOf (k : Int) (j : Int) M = (bnd (fun (t0_47 : Int) (M_47 : Md) =>
bnd (mSet M_47 71 t0_47) fun (M1 : Md) =>
bnd (fun (t0_60 : Int) (M_60 : Md) =>
some (t0_60, M_60)) fun J60 =>
if ¬ w32 x = w32 (-1) then
J60 x M1
else
J60 1 M1) fun J47 =>
bnd (fun  (M_43 : Md) =>
J47 (M_43.1 71) M_43) fun J43 =>
if ¬ w32 x = w32 (-1) then
J43 M
else
if ¬ w32 (M.1 71) = 0 then
J43 M
else
J47 (j : Int) M) := by
      intro x hx
      unfold fX12_partOf
      rw [if_pos (in_700 hk rfl), ix_n (by omega), h55, if_pos (by rw [w32_n (by omega), w32_n (by omega)]; omega), e0, if_pos (in_22400 (by omega) rfl), ix_n (by omega), hx, bnd_eq]
    rcases hrows (j - 1) (by omega) with ⟨y1, y2⟩ | ⟨y1, d, y2, y3, y4⟩
    · rw [y1, if_neg (by decide), if_pos rfl]
      refine ⟨fun r hr => (by injection hr with hr; cases hr), fun _ => ⟨by omega, ?_⟩⟩
      rw [hstart _ y2, bnd_eq, bnd_eq, if_neg (fun z => z rfl), w71]
      unfold wnt
      by_cases c0 : M.1 71 = 0
      · rw [if_neg (fun z => z c0), if_pos c0]
        dsimp only
        rw [bnd_eq, bnd_eq, if_neg (fun z => z rfl)]
      · rw [if_pos c0, if_neg c0]
        dsimp only
        rw [bnd_eq, bnd_eq, if_neg (fun z => z rfl), mSet_self]
    · have hw1 : ¬ w32 (d : Int) = w32 (-1) := by rw [w32_n (by omega), show w32 (-1) = -1 from rfl]; omega
      refine ⟨fun r hr => ⟨d, ?_, ?_, Or.inr ⟨by omega, y3⟩⟩, fun hr => ?_⟩
      · rw [hstart _ y3, bnd_eq, bnd_eq, if_pos hw1]
        dsimp only
        rw [bnd_eq, bnd_eq, if_pos hw1, mSet_self]
      · by_cases c2 : aPs s f (pl.getD (j - 1) 0) = 2
        · rw [if_pos c2] at hr
          injection hr with hr
          injection hr with hr
          subst hr
          exact y4 c2
        · rw [if_neg c2, if_neg y1] at hr
          cases hr
      · by_cases c2 : aPs s f (pl.getD (j - 1) 0) = 2
        · rw [if_pos c2] at hr
          injection hr with hr
          cases hr
        · rw [if_neg c2, if_neg y1] at hr
          cases hr
end MPT
