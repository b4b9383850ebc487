/-! THE LAW'S DEEDS: undo -/
section DUN
variable {b kc N np t : Nat} {E : Rw} {G : Md} {C : Cd} {T : Nat → List Nat} {q : Nat → Nat} {r67 f : Int} {o : Option (List Nat)}
theorem take_tm {R : List Nat} (h : ∀ m ∈ R, okM m) : TM (R.take 6) := ⟨by rw [List.length_take]; omega, fun m hm => (h m (List.mem_of_mem_take hm)).lt⟩
theorem un_826s {R : List Nat} (ok : ∀ m ∈ R, okM m) (h5 : 5 < R.length) (J : Int → Rw → Cd → (Nat → Nat) → Option (Int × S3)) : fW_law_826 b 1 (t : Int) J r67 1 (encO (some R)) f E C q = J 1 E C q := by
  have m := W_macros (take_tm ok)
  unfold fW_law_826 fW_law_930
  rw [bnd_eq, bnd_eq, if_neg (by decide), show encO (some R) = encT (R.take 6) from rfl, cal1_of m, if_pos (by rw [List.length_take, Nat.min_eq_left (by omega)]; decide)]
theorem un_826n (J : Int → Rw → Cd → (Nat → Nat) → Option (Int × S3)) : fW_law_826 b 1 (t : Int) J r67 1 0 f E C q = fW_law_843 b (t : Int) r67 1 0 f (fun v E C q => fW_law_930 J v E C q) E C q := by
  unfold fW_law_826
  rw [bnd_eq, bnd_eq, if_neg (by decide), cal1_of W_macros_0, if_neg (by decide)]
theorem un_826k {R : List Nat} (ok : ∀ m ∈ R, okM m) (h5 : R.length ≤ 5) (J : Int → Rw → Cd → (Nat → Nat) → Option (Int × S3)) : fW_law_826 b 1 (t : Int) J r67 1 (encT R) f E C q = fW_law_843 b (t : Int) r67 1 (encT R) f (fun v E C q => fW_law_930 J v E C q) E C q := by
  have m := W_macros (T := R) ⟨by omega, fun m hm => (ok m hm).lt⟩
  unfold fW_law_826
  rw [bnd_eq, bnd_eq, if_neg (by decide), cal1_of m, if_neg (by rw [show w32 6 = 6 from rfl, w32_n (by omega)]; omega)]
end DUN
