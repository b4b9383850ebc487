/-! THE REFERENCE'S MARKS, TASKS -/
section MMK
variable {M : Md} {fr v : Nat} {g : Nat → Int} {n : Nat}
theorem fE_op {p : Nat} (ho : opB (g p / 1000) = true) : fE g n p = fEg g false 0 (p + 1) (n - (p + 1)) := by
  unfold fE
  rw [opB_mk ho]
theorem fE_mk {p : Nat} (hm : mkB (g p / 1000) = true) : fE g n p = fEg g true 0 (p + 1) (n - (p + 1)) := by
  unfold fE
  rw [hm]
theorem X12_close_ (h : FrM M fr v g n) (hT : TxOK g n) {i : Nat} (hi : i < n) (ho : opB (g i / 1000) = true) : fX12_closeOf (fr : Int) (i : Int) M = some ((fE g n i : Int), M) := by
  have hc := cl_op hT hi ho
  rw [fE_op ho]
  exact X12_closeOf_ h (by rw [← fE_op ho]; exact hc.2.1)
/-- the search for a mark, or the end -/
theorem X12_markFrom_ (h : FrM M fr v g n) (hT : TxOK g n) {c : Nat} (hc : c < n) (ho : opB (g c / 1000) = true) {j : Nat} (hj : c < j) (hj2 : j ≤ fE g n c) (hs : stk g j = g c / 1000 :: stk g c) :
   fX12_markFrom (fr : Int) (j : Int) (fE g n c : Int) M = some ((fEg g true 0 j (n - j) : Int), M) := by
  have hn := h.2.2.2.1
  obtain ⟨a1, a2, a3, a4, a5, a6⟩ := cl_op hT hc ho
  have hB := Bl.sub hT hc ho
  unfold fX12_markFrom
  rw [bnd_eq]
  refine lpn_rule (P := fun mm (L : Int → Md → Option (Int × Md)) => ∀ (j : Nat), c < j → j ≤ fE g n c → stk g j = g c / 1000 :: stk g c → fE g n c - j < mm → L (j : Int) M = some ((fEg g true 0 j (n - j) : Int), M)) (fun j _ _ _ h => absurd h (Nat.not_lt_zero _)) (fun mm L hLL j hj hj2 hs hm => ?_) FU j hj hj2 hs (by unfold FU; omega)
  rw [bnd_eq]
  by_cases hlt : j < fE g n c
  · have hjn : j < n := by omega
    obtain ⟨k1, k2, k3, k4⟩ := h.k hjn
    have hcd := X12_codeAt_ h hjn
    have hn7 : ¬ g j / 1000 = 7 := by
      obtain ⟨q, q1, q2⟩ := a6 j hj hlt
      refine q2 ?_
      have l := congrArg List.length q1
      rw [hs, List.length_append] at l
      exact List.length_eq_zero_iff.mp (by omega)
    rw [if_neg (by rw [w32_n (by omega), w32_n (by omega)]; omega), cal_of hcd, k1, k3, show w32 5 = 5 from rfl, show w32 6 = 6 from rfl]
    have e0 : n - j = (n - (j + 1)) + 1 := by omega
    by_cases c5 : g j / 1000 = 5
    · rw [if_pos c5, e0, fEg, if_pos ⟨rfl, Or.inr ⟨rfl, by rw [c5]; rfl⟩⟩]
    rw [if_neg c5, cal_of hcd, k1, k3]
    by_cases c6 : g j / 1000 = 6
    · rw [if_pos c6, e0, fEg, if_pos ⟨rfl, Or.inr ⟨rfl, by rw [c6]; rfl⟩⟩]
    have nm : ¬ mkB (g j / 1000) = true := fun z => by rcases mkB_cases z with e | e <;> omega
    have ef : fEg g true 0 j (n - j) = fEg g true (0 + dlt (g j / 1000)) (j + 1) (n - (j + 1)) := by
      rw [e0, fEg, if_neg (fun z => z.2.elim hn7 (fun y => nm y.2))]
    rw [if_neg c6, cal_of hcd, k1, cal_of k4, bnd_eq, ef]
    by_cases hop : opB (g j / 1000) = true
    · have cl := cl_op hT hjn hop
      have hE := hB.2.2 j hj hlt hop
      have ov := fEg_over g true (n - (j + 1)) (j + 1) 0 0 (by
        have q := cl.2.1
        rw [fE_op hop] at q
        show fEg g false 0 (j + 1) (n - (j + 1)) < _
        omega)
      have q := hLL (fE g n j + 1) (by omega) hE (by rw [cl.2.2.2.2.1]; exact hs) (by omega)
      rw [if_pos hop, if_neg (by decide), cal_of (X12_close_ h hT hjn hop)]
      dsimp only
      rw [dlt_op hop]
      have ov2 : fEg g true (0 + 1) (j + 1) (n - (j + 1)) = fEg g true 0 (fE g n j + 1) (n - (fE g n j + 1)) := by
        rw [fE_op hop]
        have e : j + 1 + (n - (j + 1)) = n := by omega
        rw [e] at ov
        exact ov
      rw [ov2]
      exact q
    · have q := hLL (j + 1) (by omega) (by omega) (by rw [stk_succ, aft_no hop hn7]; exact hs) (by omega)
      rw [if_neg hop, if_pos (by decide)]
      dsimp only
      rw [dlt_no hop hn7, Int.add_zero]
      exact q
  · have e : j = fE g n c := by omega
    subst e
    rw [if_pos (Int.le_refl _), show n - fE g n c = (n - (fE g n c + 1)) + 1 by omega, fEg, if_pos ⟨rfl, Or.inl a3⟩]
theorem X12_mark_ (h : FrM M fr v g n) (hT : TxOK g n) {c p : Nat} (hc : c < n) (ho : opB (g c / 1000) = true) (hcp : c < p) (hpc : p < fE g n c) (hm : mkB (g p / 1000) = true) (hs : stk g p = g c / 1000 :: stk g c) :
   fX12_markFrom (fr : Int) ((p : Int) + 1) (fE g n c : Int) M = some ((fE g n p : Int), M) := by
  have h7 : ¬ g p / 1000 = 7 := by rcases mkB_cases hm with e | e <;> omega
  rw [fE_mk hm]
  exact X12_markFrom_ h hT hc ho (j := p + 1) (by omega) hpc (by rw [stk_succ, aft_no (mk_op hm) h7]; exact hs)
end MMK
