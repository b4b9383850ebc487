/-! ROWS OF NUMBERS, of the reference -/
def RowM (M : Md) (d : Nat) (r : List Int) : Prop := d < 1700 ∧ M.2 49 d = (r.length : Int) ∧ okr r ∧ ∀ k, k < r.length → M.2 50 (150 * d + k) = r.getD k 0
/-- only this row of the reference's rows is other -/
def RoO (d : Nat) (M M' : Md) : Prop := M'.1 = M.1 ∧ (∀ k, k ≠ 49 → k ≠ 50 → M'.2 k = M.2 k) ∧ (∀ i, i ≠ d → M'.2 49 i = M.2 49 i) ∧ (∀ i, (i < 150 * d ∨ 150 * d + 150 ≤ i) → M'.2 50 i = M.2 50 i)
theorem RoO.rf (d : Nat) (M : Md) : RoO d M M := ⟨rfl, fun _ _ _ => rfl, fun _ _ => rfl, fun _ _ => rfl⟩
theorem RoO.tr {d : Nat} {M M1 M2 : Md} (h : RoO d M M1) (h1 : RoO d M1 M2) : RoO d M M2 :=
  ⟨h1.1.trans h.1, fun k a b => (h1.2.1 k a b).trans (h.2.1 k a b), fun i a => (h1.2.2.1 i a).trans (h.2.2.1 i a), fun i a => (h1.2.2.2 i a).trans (h.2.2.2 i a)⟩
theorem RowM.keep {d e : Nat} {M M' : Md} {r : List Int} (h : RowM M e r) (o : RoO d M M') (he : e ≠ d) : RowM M' e r := by
  obtain ⟨h1, h2, h3, h4⟩ := h
  refine ⟨h1, (o.2.2.1 e he).trans h2, h3, fun k hk => (o.2.2.2 _ ?_).trans (h4 k hk)⟩
  have := h3.1
  rcases Nat.lt_or_ge e d with z | z
  · left; omega
  · right; omega
section MR
variable {M : Md} {d e : Nat} {r q : List Int}
theorem X12_append_ {x : Int} (h : RowM M d r) (h0 : 0 ≤ x) (h1 : x < 10000) : ∃ M', fX12_append (d : Int) x M = some ((), M') ∧ RowM M' d (apl r x) ∧ RoO d M M' := by
  obtain ⟨a1, a2, a3, a4⟩ := h
  have hl := a3.1
  unfold fX12_append
  by_cases c : r.length < 150
  · have ea : apl r x = r ++ [x] := if_pos c
    have ok := apl_ok a3 h0 h1
    rw [ea] at ok
    refine ⟨mPut (mPut M 50 (150 * d + r.length) x) 49 d ((r.length : Int) + 1), ?_, ?_, rfl, fun k k1 k2 => ?_, fun i hi => ?_, fun i hi => ?_⟩
    · have e1 : (150 * (d : Int) + (r.length : Int)).toNat = 150 * d + r.length := by omega
      simp (disch := omega) only [isO, ↓bnd_eq, ↓reduceIte, ↓drf_some, ↓cal_some, ↓calx_inl, ↓calx_inr, ↓opt_some, ↓opt_none, w32_of, ix_of, inR, le_t, le_f, lt_t, lt_f, eq_t, eq_f, and_self, true_and, and_true, false_and, and_false, not_true_eq_false, not_false_eq_true, or_true, true_or, or_false, false_or, Bool.false_eq_true, p2_1, p2_2, p1_, s1_1, s1_2, s2_, ml_0, ml_3, ml_4, ml_6, ml_9, ml_10, ml_11, ml_12, ml_14, ml_15, ml_16, ml_17, ml_18, ml_19, ml_20, ml_21, ml_23, ml_24, ml_25, ml_26, ml_27, ml_28, ml_29, ml_30, ml_31, ml_32, ml_33, ml_34, ml_35, ml_37, ml_38, ml_41, ml_42, ml_43, ml_44, ml_45, ml_46, ml_47, ml_49, ml_50, ml_52, ml_53, ml_54, ml_55, ml_56, ml_57, ml_58, ml_60, ml_61, ml_62, ml_63, ml_64, ml_72, ml_74, ml_76, ml_78, Int.toNat_natCast, a2, e1]
    · rw [ea]
      refine ⟨a1, ?_, ok, fun k hk => ?_⟩
      · rw [p2_1, List.length_append]
        show _ = ((r.length + 1 : Nat) : Int)
        omega
      · rw [p2_2 _ _ (Or.inl (by decide))]
        rw [List.length_append] at hk
        have hk' : k < r.length + 1 := hk
        by_cases c2 : k = r.length
        · subst c2
          rw [p2_1, getD_app_eq]
        · rw [p2_2 _ _ (Or.inr (by omega)), getD_app_lt (by omega)]
          exact a4 k (by omega)
    · rw [mPut_ne _ _ _ k1, mPut_ne _ _ _ k2]
    · rw [p2_2 _ _ (Or.inr hi), p2_2 _ _ (Or.inl (by decide))]
    · rw [p2_2 _ _ (Or.inl (by decide)), p2_2 _ _ (Or.inr (by omega))]
  · refine ⟨M, ?_, ?_, RoO.rf d M⟩
    · simp (disch := omega) only [isO, ↓bnd_eq, ↓reduceIte, ↓drf_some, ↓cal_some, ↓calx_inl, ↓calx_inr, ↓opt_some, ↓opt_none, w32_of, ix_of, inR, le_t, le_f, lt_t, lt_f, eq_t, eq_f, and_self, true_and, and_true, false_and, and_false, not_true_eq_false, not_false_eq_true, or_true, true_or, or_false, false_or, Bool.false_eq_true, p2_1, p2_2, p1_, s1_1, s1_2, s2_, ml_0, ml_3, ml_4, ml_6, ml_9, ml_10, ml_11, ml_12, ml_14, ml_15, ml_16, ml_17, ml_18, ml_19, ml_20, ml_21, ml_23, ml_24, ml_25, ml_26, ml_27, ml_28, ml_29, ml_30, ml_31, ml_32, ml_33, ml_34, ml_35, ml_37, ml_38, ml_41, ml_42, ml_43, ml_44, ml_45, ml_46, ml_47, ml_49, ml_50, ml_52, ml_53, ml_54, ml_55, ml_56, ml_57, ml_58, ml_60, ml_61, ml_62, ml_63, ml_64, ml_72, ml_74, ml_76, ml_78, Int.toNat_natCast, a2]
    · rw [show apl r x = r from if_neg c]
      exact ⟨a1, a2, a3, a4⟩
theorem drop_cons {r : List Int} {k : Nat} (h : k < r.length) : r.drop k = r.getD k 0 :: r.drop (k + 1) := by
  rw [List.drop_eq_getElem_cons h, List.getD_eq_getElem?_getD, List.getElem?_eq_getElem h]
  rfl
theorem RowM.at_ (h : RowM M d r) {k : Nat} (hk : k < r.length) : inR ((150 * (d : Int)) + (k : Int)) (mLen 50) ∧ M.2 50 (ix ((150 * (d : Int)) + (k : Int))) = r.getD k 0 := by
  obtain ⟨a1, a2, a3, a4⟩ := h
  have hl := a3.1
  have e1 : (150 * (d : Int)) + (k : Int) = ((150 * d + k : Nat) : Int) := by omega
  rw [e1, ix_n (by omega)]
  refine ⟨⟨by rw [w32_n (by omega)]; omega, by rw [w32_n (by omega), ml_50]; omega⟩, a4 k hk⟩
theorem RowM.ln (h : RowM M d r) : inR (d : Int) (mLen 49) ∧ M.2 49 (ix (d : Int)) = (r.length : Int) := by
  obtain ⟨a1, a2, a3, a4⟩ := h
  rw [ix_n (by omega)]
  exact ⟨⟨by rw [w32_n (by omega)]; omega, by rw [w32_n (by omega), ml_49]; omega⟩, a2⟩
theorem X12_appendRow_ (hde : d ≠ e) (h : RowM M d r) (hq : RowM M e q) : ∃ M', fX12_appendRow (d : Int) (e : Int) M = some ((), M') ∧ RowM M' d (aal r q) ∧ RoO d M M' := by
  have hql := hq.2.2.1.1
  unfold fX12_appendRow
  rw [bnd_eq]
  have key := lpn_rule (z := fun (_ : Int) (_ : Md) => (none : Option (Unit × Md))) (body := fun L2 (v3_2 : Int) (M_2 : Md) =>
if inR (e : Int) (mLen 49) then
if w32 (M_2.2 49 (ix (e : Int))) ≤ w32 v3_2 then
some ((), M_2)
else
if inR ((150 * (e : Int)) + v3_2) (mLen 50) then
cal (fX12_append (d : Int) (M_2.2 50 (ix ((150 * (e : Int)) + v3_2))) M_2) fun r2 M1 =>
L2 (v3_2 + 1) M1
else none
else none) (P := fun mm (L : Int → Md → Option (Unit × Md)) => ∀ (k : Nat) (M1 : Md) (r1 : List Int), k ≤ q.length → q.length - k < mm → RowM M1 d r1 → RowM M1 e q → ∃ M', L (k : Int) M1 = some ((), M') ∧ RowM M' d (aal r1 (q.drop k)) ∧ RoO d M1 M') (fun k _ _ _ h => absurd h (Nat.not_lt_zero _)) (fun mm L hL k M1 r1 hk hm h1 hq1 => ?_) FU 0 M r (Nat.zero_le _) (by unfold FU; omega) h hq
  · exact key
  · dsimp only
    rw [if_pos hq1.ln.1, hq1.ln.2]
    rcases Nat.lt_or_ge k q.length with hlt | hge
    · have hx := hq1.2.2.1.2 _ (getD_mem hlt)
      obtain ⟨M2, e2, h2, o2⟩ := X12_append_ (x := q.getD k 0) h1 hx.1 hx.2
      obtain ⟨M3, e3, h3, o3⟩ := hL (k + 1) M2 _ hlt (by omega) h2 (hq1.keep o2 hde.symm)
      refine ⟨M3, ?_, ?_, o2.tr o3⟩
      · rw [if_neg (by rw [w32_n (by omega), w32_n (by omega)]; omega), if_pos (hq1.at_ hlt).1, (hq1.at_ hlt).2, cal_of e2]
        exact e3
      · rw [drop_cons hlt]
        exact h3
    · have e : k = q.length := by omega
      subst e
      rw [if_pos (Int.le_refl _), List.drop_length]
      exact ⟨M1, rfl, h1, RoO.rf d M1⟩
theorem X12_numberOf_ (h : RowM M d r) : fX12_numberOf (d : Int) M = some (numL r, M) := by
  have hl := h.2.2.1.1
  unfold fX12_numberOf numL
  rw [if_pos h.ln.1, bnd_eq, bnd_eq, h.ln.2]
  by_cases c : 0 < r.length
  · have hx := h.2.2.1.2 _ (getD_mem c)
    have ha := h.at_ c
    rw [show (150 * (d : Int)) + ((0 : Nat) : Int) = 150 * (d : Int) by omega] at ha
    rw [if_neg (by rw [w32_n (by omega)]; omega), if_pos ha.1, ha.2, w32_of (x := r.getD 0 0) (by omega) (by omega)]
    by_cases c2 : r.getD 0 0 < 1000
    · rw [if_neg (by rw [show w32 1000 = 1000 from rfl]; omega), if_pos ha.1, if_pos ⟨c, c2⟩]
    · rw [if_pos (by rw [show w32 1000 = 1000 from rfl]; omega), if_neg (fun z => c2 z.2)]
  · rw [if_pos (by rw [w32_n (by omega)]; omega), if_neg (fun z => c z.1)]
theorem X12_hasOther_ (h : RowM M d r) : fX12_hasOther (d : Int) M = some (if anyO r = true then 1 else 0, M) := by
  have hl := h.2.2.1.1
  unfold fX12_hasOther
  rw [bnd_eq]
  have key := lpn_rule (z := fun (_ : Int) (_ : Int) (_ : Md) => (none : Option (Int × Md))) (body := fun L4 (v2_4 : Int) (v3_4 : Int) (M_4 : Md) =>
if inR (d : Int) (mLen 49) then
if w32 (M_4.2 49 (ix (d : Int))) ≤ w32 v3_4 then
retZ v2_4 M_4
else
bnd (fun (t0_38 : Int) (M_38 : Md) =>
L4 t0_38 (v3_4 + 1) M_38) fun J38 =>
bnd (fun  (M_33 : Md) =>
J38 1 M_33) fun J33 =>
if ¬ w32 v2_4 = 0 then
J33 M_4
else
if inR ((150 * (d : Int)) + v3_4) (mLen 50) then
if w32 (M_4.2 50 (ix ((150 * (d : Int)) + v3_4))) = 0 then
J38 0 M_4
else
J33 M_4
else none
else none) (P := fun mm (L : Int → Int → Md → Option (Int × Md)) => ∀ (k : Nat) (t : Bool), k ≤ r.length → r.length - k < mm → L (if t = true then 1 else 0) (k : Int) M = some (if (t || anyO (r.drop k)) = true then 1 else 0, M)) (fun k _ _ h => absurd h (Nat.not_lt_zero _)) (fun mm L hL k t hk hm => ?_) FU 0 false (Nat.zero_le _) (by unfold FU; omega)
  · exact key
  · dsimp only
    rw [if_pos h.ln.1, h.ln.2]
    rcases Nat.lt_or_ge k r.length with hlt | hge
    · have hx := h.2.2.1.2 _ (getD_mem hlt)
      rw [if_neg (by rw [w32_n (by omega), w32_n (by omega)]; omega), bnd_eq, bnd_eq]
      cases t with
      | true =>
        rw [ite_tt, if_pos (by decide), Bool.true_or, ite_tt]
        have ih := hL (k + 1) true hlt (by omega)
        rw [ite_tt, Bool.true_or, ite_tt] at ih
        exact ih
      | false =>
        have e2 : anyO (r.drop k) = (decide (r.getD k 0 ≠ 0) || anyO (r.drop (k + 1))) := by rw [drop_cons hlt]; rfl
        rw [ite_ff, if_neg (by decide), if_pos (h.at_ hlt).1, (h.at_ hlt).2, w32_of (by omega) (by omega), Bool.false_or, e2]
        by_cases c : r.getD k 0 = 0
        · rw [if_pos c, decide_eq_false (fun z => z c), Bool.false_or]
          have ih := hL (k + 1) false hlt (by omega)
          rw [ite_ff, Bool.false_or] at ih
          exact ih
        · rw [if_neg c, decide_eq_true c, Bool.true_or, ite_tt]
          have ih := hL (k + 1) true hlt (by omega)
          rw [ite_tt, Bool.true_or, ite_tt] at ih
          exact ih
    · have e : k = r.length := by omega
      subst e
      rw [if_pos (Int.le_refl _), List.drop_length]
      cases t <;> rfl
theorem X12_areSame_ (h : RowM M d r) (hq : RowM M e q) : fX12_areSame (d : Int) (e : Int) M = some (if r = q then 1 else 0, M) := by
  have hl := h.2.2.1.1
  have hl2 := hq.2.2.1.1
  unfold fX12_areSame
  rw [if_pos h.ln.1, if_pos hq.ln.1, h.ln.2, hq.ln.2]
  refine (bnd_eq _ _).trans ?_
  dsimp only
  have key : ∀ t : Int, (t = 1 ∧ r.length = q.length) ∨ (t = 0 ∧ ¬ r = q) → lpn (fun (_ : Int) (_ : Int) (_ : Md) => (none : Option (Int × Md))) (fun L24 (v3_24 : Int) (v4_24 : Int) (M_24 : Md) =>
if inR (d : Int) (mLen 49) then
bnd (fun  (M_80 : Md) =>
retZ v3_24 M_80) fun J80 =>
if w32 (M_24.2 49 (ix (d : Int))) ≤ w32 v4_24 then
J80 M_24
else
if w32 v3_24 = 0 then
J80 M_24
else
if inR ((150 * (d : Int)) + v4_24) (mLen 50) then
if inR ((150 * (e : Int)) + v4_24) (mLen 50) then
bnd (fun (t0_73 : Int) (M_73 : Md) =>
L24 t0_73 (v4_24 + 1) M_73) fun J73 =>
if ¬ w32 (M_24.2 50 (ix ((150 * (d : Int)) + v4_24))) = w32 (M_24.2 50 (ix ((150 * (e : Int)) + v4_24))) then
J73 0 M_24
else
J73 1 M_24
else none
else none
else none) FU t 0 M = some (if r = q then 1 else 0, M) := by
    intro t ht
    refine (lpn_rule (P := fun mm (L : Int → Int → Md → Option (Int × Md)) => ∀ (k : Nat) (t : Int), k ≤ r.length → r.length - k < mm → (t = 1 ∧ r.length = q.length ∧ ∀ j, j < k → r.getD j 0 = q.getD j 0) ∨ (t = 0 ∧ ¬ r = q) → L t (k : Int) M = some (if r = q then 1 else 0, M)) (fun k _ _ h => absurd h (Nat.not_lt_zero _)) (fun mm L hL k t hk hm ht => ?_) FU) 0 t (Nat.zero_le _) (by unfold FU; omega) (by
      rcases ht with ⟨a, b⟩ | ⟨a, b⟩
      · exact Or.inl ⟨a, b, fun j hj => absurd hj (Nat.not_lt_zero _)⟩
      · exact Or.inr ⟨a, b⟩)
    rw [if_pos h.ln.1, bnd_eq, h.ln.2]
    rcases ht with ⟨t1, t2, t3⟩ | ⟨t1, t2⟩
    · subst t1
      rcases Nat.lt_or_ge k r.length with hlt | hge
      · have hx := h.2.2.1.2 _ (getD_mem hlt)
        have hy := hq.2.2.1.2 _ (getD_mem (show k < q.length by omega))
        rw [if_neg (by rw [w32_n (by omega), w32_n (by omega)]; omega), if_neg (by decide), if_pos (h.at_ hlt).1, if_pos (hq.at_ (show k < q.length by omega)).1, bnd_eq, (h.at_ hlt).2, (hq.at_ (show k < q.length by omega)).2, w32_of (by omega) (by omega), w32_of (by omega) (by omega)]
        by_cases c : r.getD k 0 = q.getD k 0
        · rw [if_neg (fun z => z c)]
          exact hL (k + 1) 1 hlt (by omega) (Or.inl ⟨rfl, t2, fun j hj => by
            rcases Nat.lt_or_ge j k with z | z
            · exact t3 j z
            · have e : j = k := by omega
              rw [e]; exact c⟩)
        · rw [if_pos c]
          exact hL (k + 1) 0 hlt (by omega) (Or.inr ⟨rfl, fun z => c (by rw [z])⟩)
      · have e : k = r.length := by omega
        subst e
        rw [if_pos (Int.le_refl _), if_pos (ext_getD t2 t3)]
        rfl
    · subst t1
      rw [if_neg t2]
      by_cases c : w32 (r.length : Int) ≤ w32 (k : Int)
      · rw [if_pos c]; rfl
      · rw [if_neg c, if_pos (by decide)]; rfl
  by_cases c : r.length = q.length
  · rw [if_neg (fun z => z (by rw [w32_n (by omega), w32_n (by omega)]; omega)), bnd_eq]
    exact key 1 (Or.inl ⟨rfl, c⟩)
  · rw [if_pos (fun z => c (by rw [w32_n (by omega), w32_n (by omega)] at z; omega)), bnd_eq]
    exact key 0 (Or.inr ⟨rfl, fun z => c (by rw [z])⟩)
end MR
