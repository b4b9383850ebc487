/-! THE REFERENCE SUMS -/
section MSU
variable {M : Md} {k f : Nat} {s : ASt} {pl : List Nat}
/-- the inner loop: a row's numbers -/
theorem sum_row {d : Nat} {r : List Int} (h : RowM M d r) (K : Int → Md → Option (Int × Md)) {a : Int} (ha : 0 ≤ a) :
   lpn (fun (_ : Int) (_ : Int) (_ : Md) => (none : Option (Int × Md))) (fun L32 (v2_32 : Int) (v5_32 : Int) (M_32 : Md) =>
if inR (d : Int) (mLen 49) then
if w32 (M_32.2 49 (ix (d : Int))) ≤ w32 v5_32 then
K v2_32 M_32
else
if inR ((150 * (d : Int)) + v5_32) (mLen 50) then
bnd (M_32.2 50 (ix ((150 * (d : Int)) + v5_32))) fun (x6_58 : Int) =>
bnd (fun (t0_80 : Int) (M_80 : Md) =>
L32 t0_80 (v5_32 + 1) M_80) fun J80 =>
if w32 1000 ≤ w32 x6_58 then
J80 v2_32 M_32
else
J80 (remI (v2_32 + x6_58) 1000) M_32
else none
else none) FU (a % 1000) 0 M = K ((a + wsum r) % 1000) M := by
  have hl := h.2.2.1.1
  refine lpn_rule (P := fun mm (L : Int → Int → Md → Option (Int × Md)) => ∀ (i : Nat) (a : Int), 0 ≤ a → i ≤ r.length → r.length - i < mm → L (a % 1000) (i : Int) M = K ((a + wsum (r.drop i)) % 1000) M) (fun i a _ _ h => absurd h (Nat.not_lt_zero _)) (fun mm L hLL i a ha hi hm => ?_) FU 0 a ha (Nat.zero_le _) (by unfold FU; omega)
  rw [if_pos h.ln.1, h.ln.2]
  by_cases c : i < r.length
  · have hx := h.2.2.1.2 _ (getD_mem c)
    rw [if_neg (by rw [w32_n (by omega), w32_n (by omega)]; omega), if_pos (h.at_ c).1, (h.at_ c).2, bnd_eq, bnd_eq, show w32 1000 = 1000 from rfl, w32_of (x := r.getD i 0) (by omega) (by omega), drop_cons c]
    by_cases c2 : 1000 ≤ r.getD i 0
    · rw [if_pos c2]
      dsimp only
      have e : wsum (r.getD i 0 :: r.drop (i + 1)) = wsum (r.drop (i + 1)) := by
        show (if r.getD i 0 < 1000 then r.getD i 0 else 0) + wsum (r.drop (i + 1)) = _
        rw [if_neg (by omega), Int.zero_add]
      rw [e]
      exact hLL (i + 1) a ha c (by omega)
    · rw [if_neg c2]
      dsimp only
      have e : wsum (r.getD i 0 :: r.drop (i + 1)) = r.getD i 0 + wsum (r.drop (i + 1)) := by
        show (if r.getD i 0 < 1000 then r.getD i 0 else 0) + wsum (r.drop (i + 1)) = _
        rw [if_pos (by omega)]
      have e3 : remI (a % 1000 + r.getD i 0) 1000 = (a + r.getD i 0) % 1000 := by
        rw [remI_of (by omega) (by omega) (by decide) (by decide)]
        omega
      rw [e, e3, ← Int.add_assoc]
      exact hLL (i + 1) (a + r.getD i 0) (by omega) c (by omega)
  · have e : i = r.length := by omega
    subst e
    rw [if_pos (Int.le_refl _), List.drop_length]
    show K (a % 1000) M = K ((a + 0) % 1000) M
    rw [Int.add_zero]
end MSU
