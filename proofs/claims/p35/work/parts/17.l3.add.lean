/-! THE JDK'S LIST: one more -/
section LADD
variable {l : Launch} {Γ : Cx} {M0 : Md}
theorem wi_succ {s : Int} (h : 0 ≤ w32 s) : wi (s + 1) = wi ((ix s : Int) + 1) := by
  have e1 : (ix s : Int) = w32 s := by unfold ix; omega
  have e2 : Int32.ofInt (s + 1) = Int32.ofInt ((ix s : Int) + 1) := by rw [Int32.ofInt_add, Int32.ofInt_add, e1, of_w32]
  show Value.int (Int32.ofInt (s + 1)) = Value.int (Int32.ofInt ((ix s : Int) + 1))
  rw [e2]
/-- behind the room -/
theorem add3_tail (hG : GK Γ l) (a x : Nat) (v : Option Nat) (s : Int) (C : Cd) {lo : List (Nat × Value)} (h0 : lk lo 0 = some (.ref a)) (h1 : lk lo 1 = some (va_rf v)) (h2 : lk lo 2 = some (.ref x)) (h3 : lk lo 3 = some (wi s)) (ho : isO C a 2) (hx : isO C x 107) (hs : 0 ≤ w32 s) (hn : ix s < cn C x) (hv : okc C v 13 = true) :
    RunO l Γ k_AL_add3 7 encV (emC M0) 11 lo [] C (some ((), cSetI (cSetP C x (ix s) v) 202 a ((ix s : Int) + 1))) := by
  refine r_aload_n (x := x) d_AL_add3_11 rfl h2 ?_
  refine r_iload_n (x := s) d_AL_add3_12 rfl h3 ?_
  refine r_aloadq_n (x := v) d_AL_add3_13 rfl h1 ?_
  refine r_astO hG hx ⟨hs, by unfold ix at hn; omega⟩ hv d_AL_add3_14 ?_
  refine r_aload_n (x := a) d_AL_add3_15 rfl h0 ?_
  refine r_iload_n (x := s) d_AL_add3_16 rfl h3 ?_
  refine ro_iconst (v := 1) d_AL_add3_17 rfl ?_
  refine r_iadd d_AL_add3_18 ?_
  rw [wi_succ hs]
  refine r_apI (kk := 2) (ref := "java/util/ArrayList") (by decide) ul_RJx4a65c_48 (fun s args h x hx => hx) rfl rfl rfl ho d_AL_add3_19 ?_
  exact r_vret rfl d_AL_add3_22
theorem c_add3N (hG : GK Γ l) (a e : Nat) (v : Option Nat) (s : Int) (C : Cd) (ho : isO C a 2) (he : isO C e 107) (hne : ¬ w32 s = w32 (cn C e : Int)) (hs : 0 ≤ w32 s) (hn : ix s < cn C e) (hv : okc C v 13 = true) : Ct l Γ k_AL_add3 7 encV (emC M0) [.ref a, va_rf v, .ref e, wi s] C (some ((), cSetI (cSetP C e (ix s) v) 202 a ((ix s : Int) + 1))) := by
  refine ct_of (by decide +kernel) rfl (by cases v <;> exact Nat.le_of_ble_eq_true rfl) ?_
  refine r_lo [0, 1, 2, 3] (lo2 := [(0, .ref a), (1, va_rf v), (2, .ref e), (3, wi s)]) (by cases v <;> rfl) ?_
  refine r_iload_n (x := s) d_AL_add3_0 rfl rfl ?_
  refine r_aload_n (x := e) d_AL_add3_1 rfl rfl ?_
  refine ro_pos (X2 := none) he (r_calen (t := 107) rfl (by decide) d_AL_add3_2 ?_)
  refine ro_pos (c := ¬ w32 s = w32 (cn C e : Int)) hne (r_icmp_ne (X2 := none) (tgt := 11) d_AL_add3_3 (by decide) ?_ ro_none)
  exact add3_tail hG a e v s C rfl rfl rfl rfl ho he hs hn hv
theorem c_add3F (hG : GK Γ l) (a e x : Nat) (v : Option Nat) (s : Int) (C C2 : Cd) (ho : isO C a 2) (he : isO C e 107) (heq : w32 s = w32 (cn C e : Int)) (hc : Ct l Γ k_AL_grow0 6 encR (emC M0) [.ref a] C (some (some x, C2))) (ho2 : isO C2 a 2) (hx : isO C2 x 107) (hs : 0 ≤ w32 s) (hn : ix s < cn C2 x) (hv : okc C2 v 13 = true) : Ct l Γ k_AL_add3 7 encV (emC M0) [.ref a, va_rf v, .ref e, wi s] C (some ((), cSetI (cSetP C2 x (ix s) v) 202 a ((ix s : Int) + 1))) := by
  refine ct_of (by decide +kernel) rfl (by cases v <;> exact Nat.le_of_ble_eq_true rfl) ?_
  refine r_lo [0, 1, 2, 3] (lo2 := [(0, .ref a), (1, va_rf v), (2, .ref e), (3, wi s)]) (by cases v <;> rfl) ?_
  refine r_iload_n (x := s) d_AL_add3_0 rfl rfl ?_
  refine r_aload_n (x := e) d_AL_add3_1 rfl rfl ?_
  refine ro_pos (X2 := none) he (r_calen (t := 107) rfl (by decide) d_AL_add3_2 ?_)
  refine ro_neg (c := ¬ w32 s = w32 (cn C e : Int)) (fun z => z heq) (r_icmp_ne (X1 := none) (tgt := 11) d_AL_add3_3 (by decide) ro_none ?_)
  refine r_aload_n (x := a) d_AL_add3_6 rfl rfl ?_
  refine ro_cV (k2 := k_AL_grow0) (n := 0) (As := []) (rest := []) kv_AL_grow0 rfl ho ul_RJx4a65c_129 rfl hc rfl (by decide) rfl (Nat.le_of_ble_eq_true rfl) d_AL_add3_7 rfl ?_
  refine r_astore_n (x := x) (lo2 := [(2, .ref x), (0, .ref a), (1, va_rf v), (3, wi s)]) d_AL_add3_10 rfl (by decide) (by cases v <;> rfl) ?_
  exact add3_tail hG a x v s C2 rfl rfl rfl rfl ho2 hx hs hn hv
theorem c_add3E (hG : GK Γ l) (a x : Nat) (v : Option Nat) (s : Int) (C C2 : Cd) (ho : isO C a 2) (heq : w32 s = 0) (hc : Ct l Γ k_AL_grow0 6 encR (emC M0) [.ref a] C (some (some x, C2))) (ho2 : isO C2 a 2) (hx : isO C2 x 107) (hn : ix s < cn C2 x) (hv : okc C2 v 13 = true) : Ct l Γ k_AL_add3 7 encV (emC M0) [.ref a, va_rf v, .ref (Γ.2.2.1 60), wi s] C (some ((), cSetI (cSetP C2 x (ix s) v) 202 a ((ix s : Int) + 1))) := by
  refine ct_of (by decide +kernel) rfl (by cases v <;> exact Nat.le_of_ble_eq_true rfl) ?_
  refine r_lo [0, 1, 2, 3] (lo2 := [(0, .ref a), (1, va_rf v), (2, .ref (Γ.2.2.1 60)), (3, wi s)]) (by cases v <;> rfl) ?_
  refine r_iload_n (x := s) d_AL_add3_0 rfl rfl ?_
  refine r_aload_n (x := Γ.2.2.1 60) d_AL_add3_1 rfl rfl ?_
  refine r_lenE hG d_AL_add3_2 ?_
  refine ro_neg (c := ¬ w32 s = w32 0) (fun z => z (heq.trans rfl)) (r_icmp_ne (X1 := none) (tgt := 11) d_AL_add3_3 (by decide) ro_none ?_)
  refine r_aload_n (x := a) d_AL_add3_6 rfl rfl ?_
  refine ro_cV (k2 := k_AL_grow0) (n := 0) (As := []) (rest := []) kv_AL_grow0 rfl ho ul_RJx4a65c_129 rfl hc rfl (by decide) rfl (Nat.le_of_ble_eq_true rfl) d_AL_add3_7 rfl ?_
  refine r_astore_n (x := x) (lo2 := [(2, .ref x), (0, .ref a), (1, va_rf v), (3, wi s)]) d_AL_add3_10 rfl (by decide) (by cases v <;> rfl) ?_
  exact add3_tail hG a x v s C2 rfl rfl rfl rfl ho2 hx (by omega) hn hv
theorem ul_same2 (s : State) (args : Array Value) (h : ∀ w ∈ uw, w.before args s = true) : ∀ x, s.fieldFound? (TJx4a65c 0).1 (TJx4a65c 0).2.1 (TJx4a65c 0).2.2.1 = some x → s.fieldFound? "java/util/ArrayList" (TJx4a65c 0).2.1 (TJx4a65c 0).2.2.1 = some x :=
  fun x hx => u_same (h _ ul_same) x hx
theorem c_AL_add (hG : GK Γ l) (a : Nat) (v : Option Nat) (C : Cd) : Ct l Γ k_AL_add 8 encI (emC M0) [.ref a, va_rf v] C (fAL_add a v C) := by
  by_cases hc : isO C a 2 ∧ 0 ≤ w32 (cI C 202 a) ∧ w32 (cI C 202 a) < 30000
  · obtain ⟨ho, hs, hs2⟩ := hc
    cases hX : fAL_add a v C with
    | none => exact fun r σ' h => by cases h
    | some q =>
      obtain ⟨r, σ'⟩ := q
      unfold fAL_add at hX
      rw [if_pos ⟨ho, hs, hs2⟩, bnd_eq] at hX
      obtain ⟨C2, e2, e3⟩ := Option.bind_eq_some_iff.mp hX
      obtain ⟨C3, e4, e5⟩ := Option.map_eq_some_iff.mp e3
      cases e5
      unfold alPut at e4
      cases hz : cR C2 201 a with
      | none => rw [hz] at e4; cases e4
      | some x =>
      rw [hz, drf_some] at e4
      split at e4
      · rename_i hq
        obtain ⟨q1, q2, q3, q4⟩ := hq
        cases e4
        have i1 : cI (cSetI C 200 a (cI C 200 a + 1)) 202 a = cI C 202 a := by
          show (if 202 = 200 ∧ a = a then cI C 200 a + 1 else cI C 202 a) = _
          rw [if_neg (fun z => absurd z.1 (by decide))]
        have z1 : csz (cSetI C 200 a (cI C 200 a + 1)) = csz C := rfl
        have l1 : csl (cSetI C 200 a (cI C 200 a + 1)) = csl C := rfl
        have mono : csz C ≤ csz C2 ∧ csl C ≤ csl C2 := by
          split at e2
          · unfold alGrow at e2
            split at e2
            · split at e2
              · cases e2
                exact ⟨Nat.le_succ _, Nat.le_add_right _ _⟩
              · cases e2
            · cases hy : cR (cSetI C 200 a (cI C 200 a + 1)) 201 a with
              | none => rw [hy] at e2; cases e2
              | some y =>
                rw [hy, drf_some] at e2
                split at e2
                · cases e2
                  exact ⟨Nat.le_succ _, Nat.le_add_right _ _⟩
                · cases e2
          · cases e2
            exact ⟨Nat.le_refl _, Nat.le_refl _⟩
        refine ct_of (by decide +kernel) rfl (by cases v <;> exact Nat.le_of_ble_eq_true rfl) ?_
        refine r_lo [0, 1] (lo2 := [(0, .ref a), (1, va_rf v)]) (by cases v <;> rfl) ?_
        refine ro_wf (fun r σ' h => by cases h; exact mono) (fun hW => ?_)
        refine r_aload_n (x := a) d_AL_add_0 rfl rfl ?_
        refine r_dup d_AL_add_1 rfl ?_
        refine r_agI (kk := 0) (ref := "java/util/ArrayList") (by decide) ul_RJx4a65c_63 ul_same2 rfl ho d_AL_add_2 ?_
        refine ro_iconst (v := 1) d_AL_add_5 rfl ?_
        refine r_iadd d_AL_add_6 ?_
        refine r_apI (kk := 0) (ref := "java/util/ArrayList") (by decide) ul_RJx4a65c_63 ul_same2 rfl rfl rfl ho d_AL_add_7 ?_
        show RunO l Γ k_AL_add 8 encI (emC M0) 10 _ [] (cSetI C 200 a (cI C 200 a + 1)) _
        generalize hC1 : cSetI C 200 a (cI C 200 a + 1) = C1 at *
        have ho1 : isO C1 a 2 := by rw [← hC1]; exact ho
        have hW1 : ∀ x, x ∈ cL C1 → x < csz C1 := by rw [← hC1]; exact hW
        refine r_aload_n (x := a) d_AL_add_10 rfl rfl ?_
        refine r_aloadq_n (x := v) d_AL_add_11 rfl rfl ?_
        refine r_aload_n (x := a) d_AL_add_12 rfl rfl ?_
        rw [← i1] at hs hs2 q2 ⊢
        have fin : ∀ (rv : Value), Ct l Γ k_AL_add3 7 encV (emC M0) [.ref a, va_rf v, rv, wi (cI C1 202 a)] C1 (some ((), cSetI (cSetP C2 x (ix (cI C1 202 a)) v) 202 a ((ix (cI C1 202 a) : Int) + 1))) → RunO l Γ k_AL_add 8 encI (emC M0) (13 + 3) [(0, .ref a), (1, va_rf v)] [rv, va_rf v, .ref a] C1 (some (1, cSetI (cSetP C2 x (ix (cI C1 202 a)) v) 202 a ((ix (cI C1 202 a) : Int) + 1))) := by
          intro rv hct
          refine r_aload_n (x := a) d_AL_add_16 rfl rfl ?_
          refine r_agI (kk := 2) (ref := "java/util/ArrayList") (by decide) ul_RJx4a65c_48 (fun s args h x hx => hx) rfl ho1 d_AL_add_17 ?_
          refine ro_cV (k2 := k_AL_add3) (n := 3) (As := [va_rf v, rv, wi (cI C1 202 a)]) (rest := []) kv_AL_add3 rfl ho1 ul_RJx4a65c_131 rfl hct rfl (by decide) rfl (Nat.le_of_ble_eq_true rfl) d_AL_add_20 rfl ?_
          refine ro_iconst (v := 1) d_AL_add_23 rfl ?_
          exact r_zret0 (Or.inr rfl) rfl d_AL_add_24
        rcases al_room (M0 := M0) hG hW1 ho1 hs hs2 e2 with ⟨e, h1, h2, x', h3, h4, h5, h6, h7, h8, h9⟩ | ⟨e, h1, h2, h3, h4⟩
        · cases hz.symm.trans h3
          rcases h2 with ⟨rfl, hw⟩ | ⟨hne, he, hw⟩
          · exact r_getE0 ul_RJx4a65c_9 ho1 h1 d_AL_add_13 (fin _ (c_add3E hG a x v (cI C1 202 a) C1 C2 ho1 hw h9 h4 q1 q2 q3))
          · exact r_getE hG ul_RJx4a65c_9 ho1 h1 he.1 d_AL_add_13 (fin _ (c_add3F hG a e x v (cI C1 202 a) C1 C2 ho1 he (by rw [w32_n (by omega)]; exact hw) h9 h4 q1 hs q2 q3))
        · subst h4
          cases hz.symm.trans h1
          refine r_getE hG ul_RJx4a65c_9 ho1 h1 q1.1 d_AL_add_13 (fin _ (c_add3N hG a x v (cI C2 202 a) C2 ho1 q1 ?_ hs q2 q3))
          intro z
          rw [w32_n (by omega)] at z
          exact h3 z
      · cases e4
  · unfold fAL_add
    rw [if_neg hc]
    exact fun r σ' h => by cases h
/-! one more in the middle -/
theorem c_rng (hG : GK Γ l) (a : Nat) (i : Int) (C : Cd) (ho : isO C a 2) (h1 : 0 ≤ w32 i) (h2 : w32 i ≤ w32 (cI C 202 a)) : Ct l Γ k_AL_rng 1 encV (emC M0) [.ref a, wi i] C (some ((), C)) := by
  refine ct_of (by decide +kernel) rfl (Nat.le_of_ble_eq_true rfl) ?_
  refine r_lo [0, 1] (lo2 := [(0, .ref a), (1, wi i)]) rfl ?_
  refine r_iload_n (x := i) d_AL_rng_0 rfl rfl ?_
  refine r_aload_n (x := a) d_AL_rng_1 rfl rfl ?_
  refine r_agI (kk := 2) (ref := "java/util/ArrayList") (by decide) ul_RJx4a65c_48 (fun s args h x hx => hx) rfl ho d_AL_rng_2 ?_
  refine ro_neg (c := w32 (cI C 202 a) < w32 i) (by omega) (r_icmp_gt (X1 := none) (tgt := 12) d_AL_rng_5 (by decide) ro_none ?_)
  refine r_iload_n (x := i) d_AL_rng_8 rfl rfl ?_
  refine ro_pos (c := 0 ≤ w32 i) h1 (r_if_ge (X2 := none) (tgt := 25) d_AL_rng_9 (by decide) ?_ ro_none)
  exact r_vret rfl d_AL_rng_25
theorem shift_eq {C : Cd} {x i s : Nat} {v : Option Nat} (h : i ≤ s) : cSetP (cCpy C x (va_cpy (cP C x) (cP C x) i (i + 1) (s - i))) x i v = alShift C x i s v := by
  refine Prod.ext rfl (Prod.ext rfl (Prod.ext rfl (Prod.ext ?_ rfl)))
  funext a j
  show (if a = x ∧ j = i then v else (if a = x then va_cpy (cP C x) (cP C x) i (i + 1) (s - i) j else cP C a j)) = (if a = x then (if j = i then v else if i < j ∧ j ≤ s then cP C x (j - 1) else cP C x j) else cP C a j)
  by_cases c : a = x
  · rw [if_pos c, if_pos c]
    by_cases c2 : j = i
    · rw [if_pos ⟨c, c2⟩, if_pos c2]
    · rw [if_neg (fun z => c2 z.2), if_neg c2]
      unfold va_cpy
      by_cases c3 : i < j ∧ j ≤ s
      · rw [if_pos (by omega), if_pos c3, show i + (j - (i + 1)) = j - 1 by omega]
      · rw [if_neg (by omega), if_neg c3]
  · rw [if_neg (fun z => c z.1), if_neg c, if_neg c]
theorem addAt_tail (hG : GK Γ l) (a x : Nat) (i s : Int) (v : Option Nat) (C : Cd) {lo : List (Nat × Value)} (h0 : lk lo 0 = some (.ref a)) (h1 : lk lo 1 = some (wi i)) (h2 : lk lo 2 = some (va_rf v)) (h3 : lk lo 3 = some (wi s)) (h4 : lk lo 4 = some (.ref x)) (ho : isO C a 2) (hx : isO C x 107) (hi : 0 ≤ w32 i) (his : w32 i ≤ w32 s) (hs : w32 s < 30000) (hn : ix s < cn C x) (hv : okc C v 13 = true) (hel : allV C x (ix s) = true) :
    RunO l Γ k_AL_addAt 8 encV (emC M0) 38 lo [] C (some ((), cSetI (alShift C x (ix i) (ix s) v) 202 a ((ix s : Int) + 1))) := by
  have ei : (ix i : Int) = w32 i := by unfold ix; omega
  have es : (ix s : Int) = w32 s := by unfold ix; omega
  have w1 : w32 (i + 1) = w32 i + 1 := by
    have h : Int32.ofInt (i + 1) = Int32.ofInt (w32 i + 1) := by rw [Int32.ofInt_add, Int32.ofInt_add, of_w32]
    rw [w32_eq.mp h, w32_of (by omega) (by omega)]
  have w2 : w32 (s - i) = w32 s - w32 i := by
    have h : Int32.ofInt (s - i) = Int32.ofInt (w32 s - w32 i) := by rw [Int32.ofInt_sub, Int32.ofInt_sub, of_w32, of_w32]
    rw [w32_eq.mp h, w32_of (by omega) (by omega)]
  have x1 : ix (i + 1) = ix i + 1 := by unfold ix; omega
  have x2 : ix (s - i) = ix s - ix i := by unfold ix; omega
  have hle : ix i ≤ ix s := by omega
  refine r_aload (x := x) d_AL_addAt_38 h4 ?_
  refine r_iload_n (x := i) d_AL_addAt_40 rfl h1 ?_
  refine r_aload (x := x) d_AL_addAt_41 h4 ?_
  refine r_iload_n (x := i) d_AL_addAt_43 rfl h1 ?_
  refine ro_iconst (v := 1) d_AL_addAt_44 rfl ?_
  refine r_iadd d_AL_addAt_45 ?_
  refine r_iload_n (x := s) d_AL_addAt_46 rfl h3 ?_
  refine r_iload_n (x := i) d_AL_addAt_47 rfl h1 ?_
  refine r_isub d_AL_addAt_48 ?_
  refine r_cpyO (n := s - i) (sp := i) (dp := i + 1) (a := x) (a0 := x) (rest := []) hG (by decide) ul_RJx4a65c_112 hx hx hi (by omega) (by omega) (by omega) (by omega) (fun j hj => ?_) (Nat.le_of_ble_eq_true rfl) d_AL_addAt_49 ?_
  · exact List.all_eq_true.mp hel (ix i + j) (List.mem_range.mpr (by omega))
  · rw [x1, x2]
    refine r_aload (x := x) d_AL_addAt_52 h4 ?_
    refine r_iload_n (x := i) d_AL_addAt_54 rfl h1 ?_
    refine r_aloadq_n (x := v) d_AL_addAt_55 rfl h2 ?_
    refine r_astO hG hx ⟨hi, by show w32 i < (cn C x : Int); omega⟩ hv d_AL_addAt_56 ?_
    rw [shift_eq hle]
    refine r_aload_n (x := a) d_AL_addAt_57 rfl h0 ?_
    refine r_iload_n (x := s) d_AL_addAt_58 rfl h3 ?_
    refine ro_iconst (v := 1) d_AL_addAt_59 rfl ?_
    refine r_iadd d_AL_addAt_60 ?_
    rw [wi_succ (by omega)]
    refine r_apI (kk := 2) (ref := "java/util/ArrayList") (by decide) ul_RJx4a65c_48 (fun s args h x hx => hx) rfl rfl rfl ho d_AL_addAt_61 ?_
    exact r_vret rfl d_AL_addAt_64
theorem c_AL_addAt (hG : GK Γ l) (a : Nat) (i : Int) (v : Option Nat) (C : Cd) : Ct l Γ k_AL_addAt 8 encV (emC M0) [.ref a, wi i, va_rf v] C (fAL_addAt a i v C) := by
  by_cases hc : isO C a 2 ∧ (0 ≤ w32 (cI C 202 a) ∧ w32 (cI C 202 a) < 30000) ∧ 0 ≤ w32 i ∧ w32 i ≤ w32 (cI C 202 a)
  · have hc0 := hc
    obtain ⟨ho, ⟨hs, hs2⟩, hi, his⟩ := hc
    cases hX : fAL_addAt a i v C with
    | none => exact fun r σ' h => by cases h
    | some q =>
      obtain ⟨r, σ'⟩ := q
      unfold fAL_addAt at hX
      rw [if_pos hc0, bnd_eq] at hX
      obtain ⟨C2, e2, e3⟩ := Option.bind_eq_some_iff.mp hX
      cases hz : cR C2 201 a with
      | none => rw [hz] at e3; cases e3
      | some x =>
      rw [hz, drf_some] at e3
      split at e3
      · rename_i hq
        obtain ⟨q1, q2, q3, q4, q5⟩ := hq
        cases e3
        have i1 : cI (cSetI C 200 a (cI C 200 a + 1)) 202 a = cI C 202 a := by
          show (if 202 = 200 ∧ a = a then cI C 200 a + 1 else cI C 202 a) = _
          rw [if_neg (fun z => absurd z.1 (by decide))]
        have z1 : csz (cSetI C 200 a (cI C 200 a + 1)) = csz C := rfl
        have l1 : csl (cSetI C 200 a (cI C 200 a + 1)) = csl C := rfl
        have mono : csz C ≤ csz C2 ∧ csl C ≤ csl C2 := by
          split at e2
          · unfold alGrow at e2
            split at e2
            · split at e2
              · cases e2
                exact ⟨Nat.le_succ _, Nat.le_add_right _ _⟩
              · cases e2
            · cases hy : cR (cSetI C 200 a (cI C 200 a + 1)) 201 a with
              | none => rw [hy] at e2; cases e2
              | some y =>
                rw [hy, drf_some] at e2
                split at e2
                · cases e2
                  exact ⟨Nat.le_succ _, Nat.le_add_right _ _⟩
                · cases e2
          · cases e2
            exact ⟨Nat.le_refl _, Nat.le_refl _⟩
        refine ct_of (by decide +kernel) rfl (by cases v <;> exact Nat.le_of_ble_eq_true rfl) ?_
        refine r_lo [0, 1, 2] (lo2 := [(0, .ref a), (1, wi i), (2, va_rf v)]) (by cases v <;> rfl) ?_
        refine ro_wf (fun r σ' h => by cases h; exact mono) (fun hW => ?_)
        refine r_aload_n (x := a) d_AL_addAt_0 rfl rfl ?_
        refine r_iload_n (x := i) d_AL_addAt_1 rfl rfl ?_
        refine ro_cV (k2 := k_AL_rng) (n := 1) (As := [wi i]) (rest := []) kv_AL_rng rfl ho ul_RJx4a65c_135 rfl (c_rng hG a i C ho hi his) rfl (by decide) rfl (Nat.le_of_ble_eq_true rfl) d_AL_addAt_2 rfl ?_
        refine r_aload_n (x := a) d_AL_addAt_5 rfl rfl ?_
        refine r_dup d_AL_addAt_6 rfl ?_
        refine r_agI (kk := 0) (ref := "java/util/ArrayList") (by decide) ul_RJx4a65c_63 ul_same2 rfl ho d_AL_addAt_7 ?_
        refine ro_iconst (v := 1) d_AL_addAt_10 rfl ?_
        refine r_iadd d_AL_addAt_11 ?_
        refine r_apI (kk := 0) (ref := "java/util/ArrayList") (by decide) ul_RJx4a65c_63 ul_same2 rfl rfl rfl ho d_AL_addAt_12 ?_
        show RunO l Γ k_AL_addAt 8 encV (emC M0) 15 _ [] (cSetI C 200 a (cI C 200 a + 1)) _
        generalize hC1 : cSetI C 200 a (cI C 200 a + 1) = C1 at *
        have ho1 : isO C1 a 2 := by rw [← hC1]; exact ho
        have hW1 : ∀ x, x ∈ cL C1 → x < csz C1 := by rw [← hC1]; exact hW
        refine r_aload_n (x := a) d_AL_addAt_15 rfl rfl ?_
        refine r_agI (kk := 2) (ref := "java/util/ArrayList") (by decide) ul_RJx4a65c_48 (fun s args h x hx => hx) rfl ho1 d_AL_addAt_16 ?_
        refine r_dup d_AL_addAt_19 rfl ?_
        rw [← i1] at hs hs2 his q2 q4 ⊢
        generalize hS : cI C1 202 a = s at *
        refine r_istore_n (x := s) (lo2 := [(3, wi s), (0, .ref a), (1, wi i), (2, va_rf v)]) d_AL_addAt_20 rfl (by decide) (by cases v <;> rfl) ?_
        refine r_aload_n (x := a) d_AL_addAt_21 rfl rfl ?_
        -- behind the row's reading
        have fin : ∀ (rv : Nat) (n : Int), (∀ (X : Option (Unit × Cd)) (lo : List (Nat × Value)) (rest : List Value), RunO l Γ k_AL_addAt 8 encV (emC M0) 29 lo (wi n :: rest) C1 X → RunO l Γ k_AL_addAt 8 encV (emC M0) 28 lo (.ref rv :: rest) C1 X) → w32 s = w32 n → Ct l Γ k_AL_grow0 6 encR (emC M0) [.ref a] C1 (some (some x, C2)) → isO C2 a 2 → RunO l Γ k_AL_addAt 8 encV (emC M0) (22 + 3) [(3, wi s), (0, .ref a), (1, wi i), (2, va_rf v)] (.ref rv :: wi s :: []) C1 (some ((), cSetI (alShift C2 x (ix i) (ix s) v) 202 a ((ix s : Int) + 1))) := by
          intro rv n hlen hw hct ho2
          refine r_dup d_AL_addAt_25 rfl ?_
          refine r_astore (x := rv) (lo2 := [(4, .ref rv), (3, wi s), (0, .ref a), (1, wi i), (2, va_rf v)]) d_AL_addAt_26 (by decide) (by cases v <;> rfl) ?_
          refine hlen _ _ _ ?_
          refine ro_neg (c := ¬ w32 s = w32 n) (fun z => z hw) (r_icmp_ne (X1 := none) (tgt := 38) d_AL_addAt_29 (by decide) ro_none ?_)
          refine r_aload_n (x := a) d_AL_addAt_32 rfl rfl ?_
          refine ro_cV (k2 := k_AL_grow0) (n := 0) (As := []) (rest := []) kv_AL_grow0 rfl ho1 ul_RJx4a65c_129 rfl hct rfl (by decide) rfl (Nat.le_of_ble_eq_true rfl) d_AL_addAt_33 rfl ?_
          refine r_astore (x := x) (lo2 := [(4, .ref x), (3, wi s), (0, .ref a), (1, wi i), (2, va_rf v)]) d_AL_addAt_36 (by decide) (by cases v <;> rfl) ?_
          exact addAt_tail hG a x i s v C2 rfl rfl rfl rfl rfl ho2 q1 hi his hs2 q2 q3 q4
        rcases al_room (M0 := M0) hG hW1 ho1 (by rw [hS]; exact hs) (by rw [hS]; exact hs2) e2 with ⟨e, h1, h2, x', h3, h4, h5, h6, h7, h8, h9⟩ | ⟨e, h1, h2, h3, h4⟩
        · cases hz.symm.trans h3
          rw [hS] at h2
          rcases h2 with ⟨rfl, hw⟩ | ⟨hne, he, hw⟩
          · exact r_getE0 ul_RJx4a65c_9 ho1 h1 d_AL_addAt_22 (fin _ 0 (fun X lo rest K => r_lenE hG d_AL_addAt_28 K) (hw.trans rfl) h9 h4)
          · refine r_getE hG ul_RJx4a65c_9 ho1 h1 he.1 d_AL_addAt_22 (fin _ (cn C1 e : Int) (fun X lo rest K => ro_pos (X2 := none) he (r_calen (t := 107) rfl (by decide) d_AL_addAt_28 K)) (by rw [w32_n (by omega)]; exact hw) h9 h4)
        · rw [hS] at h3
          subst h4
          cases hz.symm.trans h1
          refine r_getE hG ul_RJx4a65c_9 ho1 h1 q1.1 d_AL_addAt_22 ?_
          refine r_dup d_AL_addAt_25 rfl ?_
          refine r_astore (x := x) (lo2 := [(4, .ref x), (3, wi s), (0, .ref a), (1, wi i), (2, va_rf v)]) d_AL_addAt_26 (by decide) (by cases v <;> rfl) ?_
          refine ro_pos (X2 := none) q1 (r_calen (t := 107) rfl (by decide) d_AL_addAt_28 ?_)
          refine ro_pos (c := ¬ w32 s = w32 (cn C2 x : Int)) (fun z => h3 (by rw [w32_n (by omega)] at z; exact z)) (r_icmp_ne (X2 := none) (tgt := 38) d_AL_addAt_29 (by decide) ?_ ro_none)
          exact addAt_tail hG a x i s v C2 rfl rfl rfl rfl rfl ho1 q1 hi his hs2 q2 q3 q4
      · cases e3
  · unfold fAL_addAt
    rw [if_neg hc]
    exact fun r σ' h => by cases h
end LADD
