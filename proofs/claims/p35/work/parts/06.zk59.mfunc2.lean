/-! THE REFERENCE PUTS A FUNC ASIDE -/
section MFN2
variable {M : Md} {fr v : Nat} {gg : Nat → Int} {n k : Nat}
/-- a function's head -/
def FnH (M : Md) (k fr row : Nat) (kd : Int) : Prop := M.2 52 k = kd ∧ M.2 53 k = (fr : Int) ∧ M.2 54 k = (row : Int)
set_option maxHeartbeats 1000000 in
theorem X12_expandFunction_ (h : FrM M fr v gg n) (hT : TxOK gg n) {c d row : Nat} (hc : c < n) (ho : gg c / 1000 = 4) (hk : k < 700) (h51 : M.1 51 = (k : Int)) (h59 : M.1 59 = (d : Int)) (hd : d < 4000) :
   ∃ M1 M', fX12_expandFunction (fr : Int) (c : Int) (fE gg n c : Int) (row : Int) M = some ((), M') ∧ FnO k M M1 ∧ M1.1 51 = (k : Int) + 1 ∧ FnH M1 k fr row (gg c % 1000) ∧ FnV M1 k gg n (prs_ gg n 30 (c + 1)) ∧ M'.1 59 = (d : Int) + 1 ∧ TkM M' d 2 (k : Int) 0 0 (row : Int) ∧ TkO d M1 M' := by
  have hn := h.2.2.2.1
  have hop : opB (gg c / 1000) = true := by rw [ho]; rfl
  obtain ⟨a1, a2, a3, a4, a5, a6⟩ := cl_op hT hc hop
  obtain ⟨k1, k2, k3, k4⟩ := h.k hc
  have o4 : FnO k M (mPut (mPut (mPut (mPut M 52 k (gg c % 1000)) 53 k (fr : Int)) 54 k (row : Int)) 55 k 0) := (((FnO.put1 (by decide)).tr (FnO.put1 (by decide))).tr (FnO.put1 (by decide))).tr (FnO.put1 (by decide))
  unfold fX12_expandFunction
  rw [h51, bnd_eq, cal_of (X12_codeAt_ h hc), if_pos (in_700 hk rfl), bnd_eq, k2, if_pos (in_700 hk rfl), bnd_eq, if_pos (in_700 hk rfl), bnd_eq, if_pos (in_700 hk rfl), bnd_eq, bnd_eq, bnd_eq, ix_n (by omega)]
  have b0 : (mPut (mPut (mPut (mPut M 52 k (gg c % 1000)) 53 k (fr : Int)) 54 k (row : Int)) 55 k 0).1 = M.1 := rfl
  have b1 : FnH (mPut (mPut (mPut (mPut M 52 k (gg c % 1000)) 53 k (fr : Int)) 54 k (row : Int)) 55 k 0) k fr row (gg c % 1000) := ⟨by rw [p2_2 _ _ (Or.inl (by decide)), p2_2 _ _ (Or.inl (by decide)), p2_2 _ _ (Or.inl (by decide)), p2_1], by rw [p2_2 _ _ (Or.inl (by decide)), p2_2 _ _ (Or.inl (by decide)), p2_1], by rw [p2_2 _ _ (Or.inl (by decide)), p2_1]⟩
  have b2 : FnV (mPut (mPut (mPut (mPut M 52 k (gg c % 1000)) 53 k (fr : Int)) 54 k (row : Int)) 55 k 0) k gg n [] := ⟨p2_1 _ _ _ _, fun j hj => absurd hj (Nat.not_lt_zero _)⟩
  generalize mPut (mPut (mPut (mPut M 52 k (gg c % 1000)) 53 k (fr : Int)) 54 k (row : Int)) 55 k 0 = M4 at *
  have e51 : M4.1 51 = (k : Int) := by rw [b0]; exact h51
  have e59 : M4.1 59 = (d : Int) := by rw [b0]; exact h59
  refine lpn_rule (P := fun mm (L : Int → Md → Option (Unit × Md)) => ∀ (p m : Nat) (pre : List Nat) (M2 : Md), c < p → p ≤ fE gg n c → (p < fE gg n c → mkB (gg p / 1000) = true) → stk gg p = gg c / 1000 :: stk gg c → fE gg n c - p ≤ m → fE gg n c - p < mm → pre.length ≤ p → FnO k M M2 → M2.1 51 = (k : Int) → M2.1 59 = (d : Int) → FnH M2 k fr row (gg c % 1000) → FnV M2 k gg n pre →
    ∃ M1 M', L (p : Int) M2 = some ((), M') ∧ FnO k M M1 ∧ M1.1 51 = (k : Int) + 1 ∧ FnH M1 k fr row (gg c % 1000) ∧ FnV M1 k gg n (pre ++ prs_ gg n m p) ∧ M'.1 59 = (d : Int) + 1 ∧ TkM M' d 2 (k : Int) 0 0 (row : Int) ∧ TkO d M1 M') (fun p m pre M2 _ _ _ _ _ h => absurd h (Nat.not_lt_zero _)) (fun mm L hLL p m pre M2 hp1 hp2 hmk hs hm hmm hpl o2 q51 q59 qH qV => ?_) FU (c + 1) 30 [] M4 (Nat.lt_succ_self c) a1 (fun z => ?_) (by rw [stk_succ, aft_op hop]) (by omega) (by unfold FU; omega) (Nat.zero_le _) o4 e51 e59 b1 b2
  · by_cases hlt : p < fE gg n c
    · have hpn : p < n := by omega
      have hmkp := hmk hlt
      obtain ⟨m', rfl⟩ : ∃ m', m = m' + 1 := ⟨m - 1, by omega⟩
      have el : prs_ gg n (m' + 1) p = p :: prs_ gg n m' (fE gg n p) := by rw [prs_, if_pos ⟨hpn, hmkp⟩]
      obtain ⟨pe1, pe2, pe3⟩ := part_end hT hc hop hp1 hlt hmkp hs
      have gt := fE_gt gg n p
      have e : (32 * (k : Int)) + (pre.length : Int) = ((32 * k + pre.length : Nat) : Int) := by omega
      have o3 : FnO k M2 (mPut (mPut (mPut M2 56 (32 * k + pre.length) ((p : Int) + 1)) 57 (32 * k + pre.length) (fE gg n p : Int)) 58 (32 * k + pre.length) (-1)) := ((FnO.put2 (by decide) (by omega)).tr (FnO.put2 (by decide) (by omega))).tr (FnO.put2 (by decide) (by omega))
      have o5 : FnO k M2 (mPut (mPut (mPut (mPut M2 56 (32 * k + pre.length) ((p : Int) + 1)) 57 (32 * k + pre.length) (fE gg n p : Int)) 58 (32 * k + pre.length) (-1)) 55 k ((pre.length : Int) + 1)) := o3.tr (FnO.put1 (by decide))
      have F2 : FrM M2 fr v gg n := h.fn o2
      have F1 : FrM (mPut M2 56 (32 * k + pre.length) ((p : Int) + 1)) fr v gg n := F2.fn (FnO.put2 (k := k) (by decide) (by omega))
      have q := hLL (fE gg n p) m' (pre ++ [p]) _ (by omega) pe1 pe2 pe3 (by omega) (by omega) (by rw [List.length_append]; show pre.length + 1 ≤ _; omega) (o2.tr o5) q51 q59 ⟨by rw [p2_2 _ _ (Or.inl (by decide)), p2_2 _ _ (Or.inl (by decide)), p2_2 _ _ (Or.inl (by decide)), p2_2 _ _ (Or.inl (by decide))]; exact qH.1, by rw [p2_2 _ _ (Or.inl (by decide)), p2_2 _ _ (Or.inl (by decide)), p2_2 _ _ (Or.inl (by decide)), p2_2 _ _ (Or.inl (by decide))]; exact qH.2.1, by rw [p2_2 _ _ (Or.inl (by decide)), p2_2 _ _ (Or.inl (by decide)), p2_2 _ _ (Or.inl (by decide)), p2_2 _ _ (Or.inl (by decide))]; exact qH.2.2⟩ (qV.put (by omega))
      obtain ⟨N1, N', r1, r2⟩ := q
      rw [List.append_assoc, List.singleton_append, ← el] at r2
      refine ⟨N1, N', ?_, r2⟩
      have v55 : (mPut (mPut (mPut M2 56 (32 * k + pre.length) ((p : Int) + 1)) 57 (32 * k + pre.length) (fE gg n p : Int)) 58 (32 * k + pre.length) (-1)).2 55 k = (pre.length : Int) := by
        rw [p2_2 _ _ (Or.inl (by decide)), p2_2 _ _ (Or.inl (by decide)), p2_2 _ _ (Or.inl (by decide))]
        exact qV.1
      rw [if_neg (by rw [w32_n (by omega), w32_n (by omega)]; omega), if_pos (in_700 hk rfl), qV.1, bnd_eq, e, if_pos (in_22400 (by omega) rfl), bnd_eq, ix_n (by omega), cal_of (X12_mark_ F1 hT hc hop hp1 hlt hmkp hs), if_pos (in_22400 (by omega) rfl), bnd_eq, if_pos (in_22400 (by omega) rfl), bnd_eq, if_pos (in_700 hk rfl), if_pos (in_700 hk rfl), v55, bnd_eq, cal_of (X12_mark_ (F2.fn o5) hT hc hop hp1 hlt hmkp hs)]
      exact r1
    · have e : p = fE gg n c := by omega
      subst e
      have el : prs_ gg n m (fE gg n c) = [] := by
        cases m with
        | zero => rfl
        | succ m => rw [prs_, if_neg (fun z => by have := z.2; rw [a3] at this; exact absurd this (by decide))]
      obtain ⟨M', t1, t2, t3, t4⟩ := X12_task_ (M := mSet M2 51 ((k : Int) + 1)) (d := d) ((mS2 _ _ (by decide)).trans q59) hd 2 (k : Int) 0 0 (row : Int)
      rw [if_pos (Int.le_refl _), q51, bnd_eq, cal_of t1, el, List.append_nil]
      exact ⟨mSet M2 51 ((k : Int) + 1), M', rfl, ⟨fun j hj => (mS2 _ _ hj).trans (o2.1 j hj), o2.2.1, o2.2.2.1, o2.2.2.2⟩, mS1 _ _ _, qH, qV, t2, t3, t4⟩
  · rcases first_mk hT hc (Or.inr ho) with y | y
    · exfalso
      obtain ⟨q, q1, q2⟩ := a6 (c + 1) (Nat.lt_succ_self c) z
      have l := congrArg List.length q1
      rw [stk_succ, aft_op hop, List.length_append] at l
      exact q2 (List.length_eq_zero_iff.mp (by omega)) y
    · exact y
end MFN2
