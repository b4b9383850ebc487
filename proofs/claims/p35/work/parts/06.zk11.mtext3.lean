/-! THE REFERENCE'S TEXTS: whether a row is a text -/
abbrev rTx : Nat → Prop := fun q => q = 37 ∨ q = 38
abbrev noS : Nat → Prop := fun _ => False
section MTX3
variable {M : Md} {k j fr fs n m : Nat} {g f : Nat → Int}
theorem X12_isText_loop (hk37 : k ≠ 37) (hk38 : k ≠ 38) (hfr : fr + n ≤ mLen k) (hml : mLen k ≤ 3600) (hn : n ≤ 200) :
  ∀ mm, (0 < mm → ∀ (v4 : Int) (i : Nat) (M1 : Md), i ≤ n → lpn (fun (_ : Int) (_ : Int) (_ : Int) (_ : Md) => (none : Option (Int × Md))) (fun L9 (v4_15 : Int) (v5_15 : Int) (v6_15 : Int) (M9 : Md) =>
bnd (fun  (M_344 : Md) =>
bnd (fun (t0_359 : Int) (M_359 : Md) =>
retZ t0_359 M_359) fun J359 =>
bnd (fun  (M_358 : Md) =>
J359 0 M_358) fun J358 =>
if w32 v5_15 = 0 then
J358 M_344
else
if ¬ w32 v4_15 = 0 then
J358 M_344
else
J359 1 M_344) fun J344 =>
if w32 (n : Int) ≤ w32 v6_15 then
J344 M9
else
if w32 v5_15 = 0 then
J344 M9
else
if inR ((fr : Int) + v6_15) (mLen k) then
bnd (divI (M9.2 k (ix ((fr : Int) + v6_15))) 1000) fun (x7_36 : Int) =>
bnd (fun (t0_56 : Int) (M_56 : Md) =>
bnd (fun (t0_106 : Int) (M_106 : Md) =>
bnd (fun (t0_126 : Int) (M_126 : Md) =>
bnd (fun (t0_152 : Int) (M92 : Md) =>
bnd (fun (t0_200 : Int) (M_200 : Md) =>
bnd (fun (t0_243 : Int) (M_243 : Md) =>
bnd (fun (t0_284 : Int) (M_284 : Md) =>
bnd (fun (v4_338 : Int) (M_338 : Md) =>
L9 v4_338 t0_284 (v6_15 + 1) M_338) fun J338 =>
bnd (fun  (M_304 : Md) =>
if w32 t0_284 = 0 then
J338 v4_15 M_304
else
cal (fX12_opens x7_36 M_304) fun r4 M3 =>
if w32 r4 = 0 then
J338 v4_15 M3
else
if inR v4_15 (mLen 37) then bnd (mPut M3 37 (ix v4_15) x7_36) fun (M5 : Md) =>
if inR v4_15 (mLen 38) then bnd (mPut M5 38 (ix v4_15) v6_15) fun (M6 : Md) =>
J338 (v4_15 + 1) M6
else none
else none) fun J304 =>
if w32 t0_284 = 0 then
J304 M_284
else
if ¬ w32 x7_36 = w32 7 then
J304 M_284
else
J338 (v4_15 + (-1)) M_284) fun J284 =>
bnd (fun  (M_283 : Md) =>
J284 0 M_283) fun J283 =>
if w32 t0_243 = 0 then
J283 M_243
else
bnd (fun  (M_279 : Md) =>
J284 1 M_279) fun J279 =>
if w32 t0_106 = 0 then
J279 M_243
else
bnd (fun  (M_267 : Md) =>
if ¬ w32 t0_126 = 0 then
J279 M_267
else
if ¬ w32 x7_36 = w32 7 then
J283 M_267
else
J279 M_267) fun J267 =>
if w32 t0_56 = w32 2 then
J267 M_243
else
if ¬ w32 t0_56 = w32 4 then
J279 M_243
else
J267 M_243) fun J243 =>
bnd (fun  (M_242 : Md) =>
J243 0 M_242) fun J242 =>
if w32 t0_200 = 0 then
J242 M_200
else
bnd (fun  (M_225 : Md) =>
bnd (fun  (M_238 : Md) =>
J243 1 M_238) fun J238 =>
if ¬ w32 x7_36 = w32 6 then
J238 M_225
else
if ¬ w32 t0_56 = w32 2 then
J242 M_225
else
J238 M_225) fun J225 =>
if ¬ w32 x7_36 = w32 5 then
J225 M_200
else
if w32 t0_56 = w32 2 then
J225 M_200
else
if ¬ w32 t0_56 = w32 4 then
J242 M_200
else
J225 M_200) fun J200 =>
bnd (fun  (M_199 : Md) =>
J200 0 M_199) fun J199 =>
if w32 t0_152 = 0 then
J199 M92
else
bnd (fun  (M_171 : Md) =>
bnd (fun  (M_183 : Md) =>
bnd (fun  (M_195 : Md) =>
J200 1 M_195) fun J195 =>
if ¬ w32 x7_36 = w32 7 then
J195 M_183
else
if w32 v4_15 ≤ 0 then
J199 M_183
else
J195 M_183) fun J183 =>
if ¬ w32 x7_36 = w32 12 then
J183 M_171
else
if ¬ w32 (n : Int) = w32 1 then
J199 M_171
else
J183 M_171) fun J171 =>
if ¬ w32 x7_36 = w32 13 then
J171 M92
else
if ¬ w32 v4_15 = 0 then
J199 M92
else
J171 M92) fun J152 =>
bnd (fun  (M_147 : Md) =>
J152 1 M_147) fun J147 =>
if ¬ w32 t0_56 = w32 10 then
J147 M_126
else
if w32 x7_36 = 0 then
J147 M_126
else
if ¬ w32 x7_36 = w32 7 then
J152 0 M_126
else
J147 M_126) fun J126 =>
bnd (fun  (M_121 : Md) =>
J126 1 M_121) fun J121 =>
if w32 x7_36 = w32 5 then
J121 M_106
else
if ¬ w32 x7_36 = w32 6 then
J126 0 M_106
else
J121 M_106) fun J106 =>
bnd (fun  (M_105 : Md) =>
J106 0 M_105) fun J105 =>
if w32 v6_15 ≤ 0 then
J105 M_56
else
if w32 v4_15 ≤ 0 then
J105 M_56
else
if inR (((fr : Int) + v6_15) - 1) (mLen k) then
if ¬ w32 (divI (M_56.2 k (ix (((fr : Int) + v6_15) - 1))) 1000) = w32 t0_56 then
J105 M_56
else
if inR (v4_15 - 1) (mLen 38) then
if ¬ w32 (M_56.2 38 (ix (v4_15 - 1))) = w32 (v6_15 - 1) then
J105 M_56
else
J106 1 M_56
else none
else none) fun J56 =>
if ¬ w32 v4_15 = 0 then
if inR (v4_15 - 1) (mLen 37) then
J56 (M9.2 37 (ix (v4_15 - 1))) M9
else none
else
J56 (-1) M9
else none) mm v4 0 (i : Int) M1 = some (0, M1)) ∧
   (∀ (i : Nat) (st : List Int) (M1 : Md), i ≤ n → n - i < mm → st.length ≤ i → n ≤ 30 → (∀ x ∈ st, opB x = true) → Arb (M1.2 37) st → (0 < i → opB (g (i - 1) / 1000) = true → 0 < st.length ∧ st.headD (-1) = g (i - 1) / 1000 ∧ M1.2 38 (st.length - 1) = (i : Int) - 1) → MV M1 k fr g n →
     ∃ M', lpn (fun (_ : Int) (_ : Int) (_ : Int) (_ : Md) => (none : Option (Int × Md))) (fun L9 (v4_15 : Int) (v5_15 : Int) (v6_15 : Int) (M9 : Md) =>
bnd (fun  (M_344 : Md) =>
bnd (fun (t0_359 : Int) (M_359 : Md) =>
retZ t0_359 M_359) fun J359 =>
bnd (fun  (M_358 : Md) =>
J359 0 M_358) fun J358 =>
if w32 v5_15 = 0 then
J358 M_344
else
if ¬ w32 v4_15 = 0 then
J358 M_344
else
J359 1 M_344) fun J344 =>
if w32 (n : Int) ≤ w32 v6_15 then
J344 M9
else
if w32 v5_15 = 0 then
J344 M9
else
if inR ((fr : Int) + v6_15) (mLen k) then
bnd (divI (M9.2 k (ix ((fr : Int) + v6_15))) 1000) fun (x7_36 : Int) =>
bnd (fun (t0_56 : Int) (M_56 : Md) =>
bnd (fun (t0_106 : Int) (M_106 : Md) =>
bnd (fun (t0_126 : Int) (M_126 : Md) =>
bnd (fun (t0_152 : Int) (M92 : Md) =>
bnd (fun (t0_200 : Int) (M_200 : Md) =>
bnd (fun (t0_243 : Int) (M_243 : Md) =>
bnd (fun (t0_284 : Int) (M_284 : Md) =>
bnd (fun (v4_338 : Int) (M_338 : Md) =>
L9 v4_338 t0_284 (v6_15 + 1) M_338) fun J338 =>
bnd (fun  (M_304 : Md) =>
if w32 t0_284 = 0 then
J338 v4_15 M_304
else
cal (fX12_opens x7_36 M_304) fun r4 M3 =>
if w32 r4 = 0 then
J338 v4_15 M3
else
if inR v4_15 (mLen 37) then bnd (mPut M3 37 (ix v4_15) x7_36) fun (M5 : Md) =>
if inR v4_15 (mLen 38) then bnd (mPut M5 38 (ix v4_15) v6_15) fun (M6 : Md) =>
J338 (v4_15 + 1) M6
else none
else none) fun J304 =>
if w32 t0_284 = 0 then
J304 M_284
else
if ¬ w32 x7_36 = w32 7 then
J304 M_284
else
J338 (v4_15 + (-1)) M_284) fun J284 =>
bnd (fun  (M_283 : Md) =>
J284 0 M_283) fun J283 =>
if w32 t0_243 = 0 then
J283 M_243
else
bnd (fun  (M_279 : Md) =>
J284 1 M_279) fun J279 =>
if w32 t0_106 = 0 then
J279 M_243
else
bnd (fun  (M_267 : Md) =>
if ¬ w32 t0_126 = 0 then
J279 M_267
else
if ¬ w32 x7_36 = w32 7 then
J283 M_267
else
J279 M_267) fun J267 =>
if w32 t0_56 = w32 2 then
J267 M_243
else
if ¬ w32 t0_56 = w32 4 then
J279 M_243
else
J267 M_243) fun J243 =>
bnd (fun  (M_242 : Md) =>
J243 0 M_242) fun J242 =>
if w32 t0_200 = 0 then
J242 M_200
else
bnd (fun  (M_225 : Md) =>
bnd (fun  (M_238 : Md) =>
J243 1 M_238) fun J238 =>
if ¬ w32 x7_36 = w32 6 then
J238 M_225
else
if ¬ w32 t0_56 = w32 2 then
J242 M_225
else
J238 M_225) fun J225 =>
if ¬ w32 x7_36 = w32 5 then
J225 M_200
else
if w32 t0_56 = w32 2 then
J225 M_200
else
if ¬ w32 t0_56 = w32 4 then
J242 M_200
else
J225 M_200) fun J200 =>
bnd (fun  (M_199 : Md) =>
J200 0 M_199) fun J199 =>
if w32 t0_152 = 0 then
J199 M92
else
bnd (fun  (M_171 : Md) =>
bnd (fun  (M_183 : Md) =>
bnd (fun  (M_195 : Md) =>
J200 1 M_195) fun J195 =>
if ¬ w32 x7_36 = w32 7 then
J195 M_183
else
if w32 v4_15 ≤ 0 then
J199 M_183
else
J195 M_183) fun J183 =>
if ¬ w32 x7_36 = w32 12 then
J183 M_171
else
if ¬ w32 (n : Int) = w32 1 then
J199 M_171
else
J183 M_171) fun J171 =>
if ¬ w32 x7_36 = w32 13 then
J171 M92
else
if ¬ w32 v4_15 = 0 then
J199 M92
else
J171 M92) fun J152 =>
bnd (fun  (M_147 : Md) =>
J152 1 M_147) fun J147 =>
if ¬ w32 t0_56 = w32 10 then
J147 M_126
else
if w32 x7_36 = 0 then
J147 M_126
else
if ¬ w32 x7_36 = w32 7 then
J152 0 M_126
else
J147 M_126) fun J126 =>
bnd (fun  (M_121 : Md) =>
J126 1 M_121) fun J121 =>
if w32 x7_36 = w32 5 then
J121 M_106
else
if ¬ w32 x7_36 = w32 6 then
J126 0 M_106
else
J121 M_106) fun J106 =>
bnd (fun  (M_105 : Md) =>
J106 0 M_105) fun J105 =>
if w32 v6_15 ≤ 0 then
J105 M_56
else
if w32 v4_15 ≤ 0 then
J105 M_56
else
if inR (((fr : Int) + v6_15) - 1) (mLen k) then
if ¬ w32 (divI (M_56.2 k (ix (((fr : Int) + v6_15) - 1))) 1000) = w32 t0_56 then
J105 M_56
else
if inR (v4_15 - 1) (mLen 38) then
if ¬ w32 (M_56.2 38 (ix (v4_15 - 1))) = w32 (v6_15 - 1) then
J105 M_56
else
J106 1 M_56
else none
else none) fun J56 =>
if ¬ w32 v4_15 = 0 then
if inR (v4_15 - 1) (mLen 37) then
J56 (M9.2 37 (ix (v4_15 - 1))) M9
else none
else
J56 (-1) M9
else none) mm (st.length : Int) 1 (i : Int) M1 = some (if chk g n i st (n - i) = true then 1 else 0, M') ∧ MO noS rTx M1 M') := by
  refine lpn_rule (P := fun mm (L : Int → Int → Int → Md → Option (Int × Md)) => (0 < mm → ∀ (v4 : Int) (i : Nat) (M1 : Md), i ≤ n → L v4 0 (i : Int) M1 = some (0, M1)) ∧ (∀ (i : Nat) (st : List Int) (M1 : Md), i ≤ n → n - i < mm → st.length ≤ i → n ≤ 30 → (∀ x ∈ st, opB x = true) → Arb (M1.2 37) st → (0 < i → opB (g (i - 1) / 1000) = true → 0 < st.length ∧ st.headD (-1) = g (i - 1) / 1000 ∧ M1.2 38 (st.length - 1) = (i : Int) - 1) → MV M1 k fr g n →
     ∃ M', L (st.length : Int) 1 (i : Int) M1 = some (if chk g n i st (n - i) = true then 1 else 0, M') ∧ MO noS rTx M1 M')) ⟨fun h => absurd h (Nat.lt_irrefl _), fun i _ _ _ h => absurd h (Nat.not_lt_zero _)⟩ (fun mm L hL => ⟨fun _ v4 i M1 hi => ?_, fun i st M1 hin hm hsl hn30 hop hr hb hV => ?_⟩)
  · by_cases c : n ≤ i
    · simp (disch := omega) only [isO, ↓bnd_eq, ↓reduceIte, ↓drf_some, ↓cal_some, ↓calx_inl, ↓calx_inr, ↓opt_some, ↓opt_none, w32_of, ix_of, inR, le_t, le_f, lt_t, lt_f, eq_t, eq_f, and_self, true_and, and_true, false_and, and_false, not_true_eq_false, not_false_eq_true, or_true, true_or, or_false, false_or, Bool.false_eq_true, p2_1, p2_2, p1_, s1_1, s1_2, s2_, ml_0, ml_3, ml_4, ml_6, ml_9, ml_10, ml_11, ml_12, ml_14, ml_15, ml_16, ml_17, ml_18, ml_19, ml_20, ml_21, ml_23, ml_24, ml_25, ml_26, ml_27, ml_28, ml_29, ml_30, ml_31, ml_32, ml_33, ml_34, ml_35, ml_37, ml_38, ml_41, ml_42, ml_43, ml_44, ml_45, ml_46, ml_47, ml_49, ml_50, ml_52, ml_53, ml_54, ml_55, ml_56, ml_57, ml_58, ml_60, ml_61, ml_62, ml_63, ml_64, ml_72, ml_74, ml_76, ml_78, retZ]
    · simp (disch := omega) only [isO, ↓bnd_eq, ↓reduceIte, ↓drf_some, ↓cal_some, ↓calx_inl, ↓calx_inr, ↓opt_some, ↓opt_none, w32_of, ix_of, inR, le_t, le_f, lt_t, lt_f, eq_t, eq_f, and_self, true_and, and_true, false_and, and_false, not_true_eq_false, not_false_eq_true, or_true, true_or, or_false, false_or, Bool.false_eq_true, p2_1, p2_2, p1_, s1_1, s1_2, s2_, ml_0, ml_3, ml_4, ml_6, ml_9, ml_10, ml_11, ml_12, ml_14, ml_15, ml_16, ml_17, ml_18, ml_19, ml_20, ml_21, ml_23, ml_24, ml_25, ml_26, ml_27, ml_28, ml_29, ml_30, ml_31, ml_32, ml_33, ml_34, ml_35, ml_37, ml_38, ml_41, ml_42, ml_43, ml_44, ml_45, ml_46, ml_47, ml_49, ml_50, ml_52, ml_53, ml_54, ml_55, ml_56, ml_57, ml_58, ml_60, ml_61, ml_62, ml_63, ml_64, ml_72, ml_74, ml_76, ml_78, retZ]
  · rcases Nat.lt_or_ge i n with hlt | hge
    · have e2 : n - i = (n - (i + 1)) + 1 := by omega
      rw [e2]
      have ht := hV.2.2.2 i hlt
      have hs := hV.sum hlt
      have hkd : divI (M1.2 k (ix ((fr : Int) + (i : Int)))) 1000 = g i / 1000 := by
        rw [ix_of (by omega) (by omega), hs]
        exact divI_of ht.1 (by omega) (by omega) (by omega)
      have c1 : ¬ w32 (n : Int) ≤ w32 (i : Int) := by rw [w32_n (by omega), w32_n (by omega)]; omega
      have c2 : ¬ w32 (1 : Int) = 0 := by decide
      have c3 : inR ((fr : Int) + (i : Int)) (mLen k) := by
        rw [show ((fr : Int) + (i : Int)) = ((fr + i : Nat) : Int) by omega]
        exact ⟨by rw [w32_n (by omega)]; omega, by rw [w32_n (by omega)]; omega⟩
      conv => arg 1; intro M'; rw [chk]
      generalize hbb : (decide (0 < i) && opB (g (i - 1) / 1000)) = bb
      rw [bnd_eq, if_neg c1, if_neg c2, if_pos c3, bnd_eq, hkd]
      have hq : 0 < i → M1.2 k (fr + (i - 1)) = g (i - 1) := fun z => hV.2.2.1 (i - 1) (by omega)
      rw [X12_isText_stepA (M := M1) (i := i) (d := st.length) (st := st) (bb := bb) (n := n) (k := k) (fr := fr) rfl (by omega) hlt hn hfr hml hsl hr hop
        (fun z => by rw [hq z]; exact hV.2.2.2 (i - 1) (by omega))
        (fun z => by
          rw [z, Bool.and_eq_true, decide_eq_true_iff] at hbb
          have h9 := hb hbb.1 hbb.2
          exact ⟨hbb.1, h9.1, by rw [hq hbb.1]; exact h9.2.1.symm, h9.2.2⟩)
        (fun z hi0 q => by
          rw [hq hi0] at q
          rw [q, decide_eq_true hi0, z] at hbb
          exact absurd hbb (by decide))]
      have hwk : w32 (g i / 1000) = g i / 1000 := w32_of (by omega) (by omega)
      have hsp : ((st.headD (-1) = -1 ∧ st.length = 0) ∧ bb = false) ∨ (opB (st.headD (-1)) = true ∧ 0 < st.length) := by
        cases st with
        | nil =>
          refine Or.inl ⟨⟨rfl, rfl⟩, ?_⟩
          cases bb with
          | false => rfl
          | true =>
            rw [Bool.and_eq_true, decide_eq_true_iff] at hbb
            exact absurd (hb hbb.1 hbb.2).1 (Nat.lt_irrefl _)
        | cons kk st => exact Or.inr ⟨hop kk (List.mem_cons_self), Nat.succ_pos _⟩
      have hwa : w32 (st.headD (-1)) = st.headD (-1) := by
        rcases hsp with h | h
        · rw [h.1.1]; rfl
        · have := opB_cases h.1
          exact w32_of (by omega) (by omega)
      have hwd : w32 (st.length : Int) = (st.length : Int) := w32_n (by omega)
      have hwn : w32 (n : Int) = (n : Int) := w32_n (by omega)
      rw [iT126 hwk, iT152 hwk hwa, iT200 hwk hwd hwn, iT243 hwk hwa, iT284 hwk hwa, iT_fit hsp (fun z => by
          rw [z, Bool.and_eq_true, decide_eq_true_iff] at hbb
          omega)]
      cases hfv : fitB n (g i / 1000) (st.headD (-1)) bb with
      | false =>
        rw [Bool.false_and]
        refine ⟨M1, ?_, MO.rf _ _ _⟩
        have h0 := hL.1 (by omega) (st.length : Int) (i + 1) M1 hlt
        rw [show ((i + 1 : Nat) : Int) = (i : Int) + 1 from rfl] at h0
        simp (disch := omega) only [isO, ↓bnd_eq, ↓reduceIte, ↓drf_some, ↓cal_some, ↓calx_inl, ↓calx_inr, ↓opt_some, ↓opt_none, w32_of, ix_of, inR, le_t, le_f, lt_t, lt_f, eq_t, eq_f, and_self, true_and, and_true, false_and, and_false, not_true_eq_false, not_false_eq_true, or_true, true_or, or_false, false_or, Bool.false_eq_true, p2_1, p2_2, p1_, s1_1, s1_2, s2_, ml_0, ml_3, ml_4, ml_6, ml_9, ml_10, ml_11, ml_12, ml_14, ml_15, ml_16, ml_17, ml_18, ml_19, ml_20, ml_21, ml_23, ml_24, ml_25, ml_26, ml_27, ml_28, ml_29, ml_30, ml_31, ml_32, ml_33, ml_34, ml_35, ml_37, ml_38, ml_41, ml_42, ml_43, ml_44, ml_45, ml_46, ml_47, ml_49, ml_50, ml_52, ml_53, ml_54, ml_55, ml_56, ml_57, ml_58, ml_60, ml_61, ml_62, ml_63, ml_64, ml_72, ml_74, ml_76, ml_78, h0]
      | true =>
        rw [Bool.true_and]
        have hop1 := X12_opens_ (k := g i / 1000) M1 (by omega) (by omega)
        by_cases q : opB (g i / 1000) = true
        · rw [if_pos q] at hop1
          have e3 : aft (g i / 1000) st = g i / 1000 :: st := by unfold aft; rw [if_pos q]
          rw [e3]
          have n7 : ¬ g i / 1000 = 7 := fun e => by rw [e] at q; exact absurd q (by decide)
          have hO : MO noS rTx M1 (mPut (mPut M1 37 st.length (g i / 1000)) 38 st.length (i : Int)) := (MO.put (S := noS) (R := rTx) M1 37 _ _ (Or.inl rfl)).tr (MO.put (S := noS) (R := rTx) _ 38 _ _ (Or.inr rfl))
          obtain ⟨M', r1, r2⟩ := hL.2 (i + 1) (g i / 1000 :: st) (mPut (mPut M1 37 st.length (g i / 1000)) 38 st.length (i : Int)) hlt (by omega) (by show st.length + 1 ≤ i + 1; omega) hn30 (fun x hx => by
              rcases List.mem_cons.mp hx with e | e
              · rw [e]; exact q
              · exact hop x e) (by
              refine ⟨?_, hr.keep (fun j hj => ?_)⟩
              · rw [p2_2 _ _ (Or.inl (by decide)), p2_1]
              · rw [p2_2 _ _ (Or.inl (by decide)), p2_2 _ _ (Or.inr (by omega))])
             (fun _ _ => ⟨Nat.succ_pos _, rfl, by
                show (mPut (mPut M1 37 st.length (g i / 1000)) 38 st.length (i : Int)).2 38 st.length = _
                rw [p2_1]; omega⟩)
             (hV.keep hO (by intro z; rcases z with z | z <;> omega))
          refine ⟨M', ?_, hO.tr r2⟩
          rw [← r1]
          simp (disch := omega) only [isO, ↓bnd_eq, ↓reduceIte, ↓drf_some, ↓cal_some, ↓calx_inl, ↓calx_inr, ↓opt_some, ↓opt_none, w32_of, ix_of, inR, le_t, le_f, lt_t, lt_f, eq_t, eq_f, and_self, true_and, and_true, false_and, and_false, not_true_eq_false, not_false_eq_true, or_true, true_or, or_false, false_or, Bool.false_eq_true, p2_1, p2_2, p1_, s1_1, s1_2, s2_, ml_0, ml_3, ml_4, ml_6, ml_9, ml_10, ml_11, ml_12, ml_14, ml_15, ml_16, ml_17, ml_18, ml_19, ml_20, ml_21, ml_23, ml_24, ml_25, ml_26, ml_27, ml_28, ml_29, ml_30, ml_31, ml_32, ml_33, ml_34, ml_35, ml_37, ml_38, ml_41, ml_42, ml_43, ml_44, ml_45, ml_46, ml_47, ml_49, ml_50, ml_52, ml_53, ml_54, ml_55, ml_56, ml_57, ml_58, ml_60, ml_61, ml_62, ml_63, ml_64, ml_72, ml_74, ml_76, ml_78, ↓cal_of hop1, Int.toNat_natCast]
          rfl
        · rw [if_neg q] at hop1
          by_cases q7 : g i / 1000 = 7
          · have e3 : aft (g i / 1000) st = st.tail := by unfold aft; rw [if_neg q, if_pos q7]
            rw [e3]
            have hne : 0 < st.length := by
              rcases Nat.eq_zero_or_pos st.length with z0 | z0
              · have e : st = [] := List.length_eq_zero_iff.mp z0
                subst e
                rw [q7] at hfv
                exact absurd (show false = true from hfv) Bool.false_ne_true
              · exact z0
            obtain ⟨M', r1, r2⟩ := hL.2 (i + 1) st.tail M1 hlt (by omega) (by rw [List.length_tail]; omega) hn30 (all_tail hop) hr.tail (fun _ z => absurd (show opB (g i / 1000) = true from z) q) hV
            refine ⟨M', ?_, r2⟩
            rw [← r1, ← len_tail_lt hne]
            simp (disch := omega) only [isO, ↓bnd_eq, ↓reduceIte, ↓drf_some, ↓cal_some, ↓calx_inl, ↓calx_inr, ↓opt_some, ↓opt_none, w32_of, ix_of, inR, le_t, le_f, lt_t, lt_f, eq_t, eq_f, and_self, true_and, and_true, false_and, and_false, not_true_eq_false, not_false_eq_true, or_true, true_or, or_false, false_or, Bool.false_eq_true, p2_1, p2_2, p1_, s1_1, s1_2, s2_, ml_0, ml_3, ml_4, ml_6, ml_9, ml_10, ml_11, ml_12, ml_14, ml_15, ml_16, ml_17, ml_18, ml_19, ml_20, ml_21, ml_23, ml_24, ml_25, ml_26, ml_27, ml_28, ml_29, ml_30, ml_31, ml_32, ml_33, ml_34, ml_35, ml_37, ml_38, ml_41, ml_42, ml_43, ml_44, ml_45, ml_46, ml_47, ml_49, ml_50, ml_52, ml_53, ml_54, ml_55, ml_56, ml_57, ml_58, ml_60, ml_61, ml_62, ml_63, ml_64, ml_72, ml_74, ml_76, ml_78]
            rfl
          · have e3 : aft (g i / 1000) st = st := by unfold aft; rw [if_neg q, if_neg q7]
            rw [e3]
            obtain ⟨M', r1, r2⟩ := hL.2 (i + 1) st M1 hlt (by omega) (by omega) hn30 hop hr (fun _ z => absurd (show opB (g i / 1000) = true from z) q) hV
            refine ⟨M', ?_, r2⟩
            rw [← r1]
            simp (disch := omega) only [isO, ↓bnd_eq, ↓reduceIte, ↓drf_some, ↓cal_some, ↓calx_inl, ↓calx_inr, ↓opt_some, ↓opt_none, w32_of, ix_of, inR, le_t, le_f, lt_t, lt_f, eq_t, eq_f, and_self, true_and, and_true, false_and, and_false, not_true_eq_false, not_false_eq_true, or_true, true_or, or_false, false_or, Bool.false_eq_true, p2_1, p2_2, p1_, s1_1, s1_2, s2_, ml_0, ml_3, ml_4, ml_6, ml_9, ml_10, ml_11, ml_12, ml_14, ml_15, ml_16, ml_17, ml_18, ml_19, ml_20, ml_21, ml_23, ml_24, ml_25, ml_26, ml_27, ml_28, ml_29, ml_30, ml_31, ml_32, ml_33, ml_34, ml_35, ml_37, ml_38, ml_41, ml_42, ml_43, ml_44, ml_45, ml_46, ml_47, ml_49, ml_50, ml_52, ml_53, ml_54, ml_55, ml_56, ml_57, ml_58, ml_60, ml_61, ml_62, ml_63, ml_64, ml_72, ml_74, ml_76, ml_78, ↓cal_of hop1]
            rfl
    · have e : i = n := by omega
      subst e
      rw [Nat.sub_self]
      refine ⟨M1, ?_, MO.rf _ _ _⟩
      unfold chk
      cases st with
      | nil =>
        simp (disch := omega) only [isO, ↓bnd_eq, ↓reduceIte, ↓drf_some, ↓cal_some, ↓calx_inl, ↓calx_inr, ↓opt_some, ↓opt_none, w32_of, ix_of, inR, le_t, le_f, lt_t, lt_f, eq_t, eq_f, and_self, true_and, and_true, false_and, and_false, not_true_eq_false, not_false_eq_true, or_true, true_or, or_false, false_or, Bool.false_eq_true, p2_1, p2_2, p1_, s1_1, s1_2, s2_, ml_0, ml_3, ml_4, ml_6, ml_9, ml_10, ml_11, ml_12, ml_14, ml_15, ml_16, ml_17, ml_18, ml_19, ml_20, ml_21, ml_23, ml_24, ml_25, ml_26, ml_27, ml_28, ml_29, ml_30, ml_31, ml_32, ml_33, ml_34, ml_35, ml_37, ml_38, ml_41, ml_42, ml_43, ml_44, ml_45, ml_46, ml_47, ml_49, ml_50, ml_52, ml_53, ml_54, ml_55, ml_56, ml_57, ml_58, ml_60, ml_61, ml_62, ml_63, ml_64, ml_72, ml_74, ml_76, ml_78, retZ, List.length_nil]
        rfl
      | cons kk st =>
        have e4 : (((kk :: st).length : Nat) : Int) = (st.length : Int) + 1 := by show ((st.length + 1 : Nat) : Int) = _; omega
        have e5 : st.length ≤ i := by have : st.length + 1 ≤ i := hsl; omega
        rw [e4]
        simp (disch := omega) only [isO, ↓bnd_eq, ↓reduceIte, ↓drf_some, ↓cal_some, ↓calx_inl, ↓calx_inr, ↓opt_some, ↓opt_none, w32_of, ix_of, inR, le_t, le_f, lt_t, lt_f, eq_t, eq_f, and_self, true_and, and_true, false_and, and_false, not_true_eq_false, not_false_eq_true, or_true, true_or, or_false, false_or, Bool.false_eq_true, p2_1, p2_2, p1_, s1_1, s1_2, s2_, ml_0, ml_3, ml_4, ml_6, ml_9, ml_10, ml_11, ml_12, ml_14, ml_15, ml_16, ml_17, ml_18, ml_19, ml_20, ml_21, ml_23, ml_24, ml_25, ml_26, ml_27, ml_28, ml_29, ml_30, ml_31, ml_32, ml_33, ml_34, ml_35, ml_37, ml_38, ml_41, ml_42, ml_43, ml_44, ml_45, ml_46, ml_47, ml_49, ml_50, ml_52, ml_53, ml_54, ml_55, ml_56, ml_57, ml_58, ml_60, ml_61, ml_62, ml_63, ml_64, ml_72, ml_74, ml_76, ml_78, retZ]
        rfl
theorem X12_isText_ (hk37 : k ≠ 37) (hk38 : k ≠ 38) (h : MV M k fr g n) (hn : n ≤ 200) : ∃ M', fX12_isText k (fr : Int) (n : Int) M = some (if isTx g n = true then 1 else 0, M') ∧ MO noS rTx M M' := by
  have hloop := X12_isText_loop (g := g) hk37 hk38 h.1 h.2.1 hn FU
  unfold fX12_isText isTx
  rcases X12_in_ (x := (n : Int)) (lo := 1) (hi := 30) M ⟨by omega, by omega⟩ ⟨by omega, by omega⟩ ⟨by omega, by omega⟩ with ⟨e, p⟩ | ⟨e, p⟩
  · rw [cal_of e, bnd_eq, decide_eq_true (by omega), Bool.true_and]
    exact hloop.2 0 [] M (Nat.zero_le _) (by unfold FU; omega) (Nat.le_refl _) (by omega) (fun x hx => absurd hx List.not_mem_nil) trivial (fun z => absurd z (Nat.lt_irrefl _)) h
  · rw [cal_of e, bnd_eq, decide_eq_false (by omega), Bool.false_and]
    exact ⟨M, hloop.1 (by unfold FU; omega) 0 0 M (Nat.zero_le _), MO.rf _ _ _⟩
end MTX3
