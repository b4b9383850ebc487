/-! THE CLASS GOES OVER A STRETCH, all -/
section SEG3
variable {b : Nat} {E : Env} {VA : Nat → Nat} {up : Int}
variable {m k1 r t f i i1 to ra e : Nat} {C C1 : Cd} {s s1 s' : ASt} {acc acc1 acc' : List Int}
set_option maxHeartbeats 1000000 in
theorem seg_func (ih : SegOk b E VA up m) (hEn : EnP E) (h : Pre b C E VA up s r f ra i e acc) (hf : f < aNf s) (hB : Bl (fg E s f) (fn E s f) i to) (hi : i < to) (hto : to ≤ e) (he : e ≤ 30) (ek : fg E s f i / 1000 = 4) (hr : r < 510)
   (hx : (match gv E (uPs s f i 2) f (prs_ (fg E s f) (fn E s f) 30 (i + 1)) (fg E s f i % 1000) acc with
        | none => none
        | some (0, acc', s') => runX E m false r t f (fE (fg E s f) (fn E s f) i + 1) to acc' s'
        | some (j + 1, _, s') =>
          (runX E m false (r + 1) (t + 2) f ((prs_ (fg E s f) (fn E s f) 30 (i + 1)).getD j 0 + 1) (fE (fg E s f) (fn E s f) ((prs_ (fg E s f) (fn E s f) 30 (i + 1)).getD j 0)) [] (uPs s' f ((prs_ (fg E s f) (fn E s f) 30 (i + 1)).getD j 0) 1)).bind
            fun q => runX E m true r t f i to acc (uDn q.2 f ((prs_ (fg E s f) (fn E s f) 30 (i + 1)).getD j 0) q.1)) = some (acc', s')) :
   ∃ k C', KSts b k C C' ∧ Post b C C' E VA up s s' r f ra to e acc' ∧ k + 64 * Tc s ≤ (to - i) + 64 * Tc s' := by
  have ho : opB (fg E s f i / 1000) = true := op_call (Or.inr (Or.inr ek))
  have hTx := (h.1.2.2.2.1 f hf).2.1
  have hin : i < fn E s f := by have := hB.2.1; omega
  have hok := (h.1.2.2.2.1 f hf).2.2.1 i hin
  unfold okt at hok
  have hn41 := h.1.2.2.2.2.2.2.1.2.1
  have n30 := h.1.n30 hf
  have gt := fE_gt (fg E s f) (fn E s f) i
  have hlt := hB.2.2 i (Nat.le_refl _) hi ho
  have hBo := hB.over hi ho
  have tu : Tc s ≤ Tc (uPs s f i 2) := Tc_up (by decide)
  have h' := h.touch hf ho
  cases hg : gv E (uPs s f i 2) f (prs_ (fg E s f) (fn E s f) 30 (i + 1)) (fg E s f i % 1000) acc with
  | none => rw [hg] at hx; cases hx
  | some o =>
    rw [hg] at hx
    obtain ⟨jj, acc2, s2⟩ := o
    have ss := gv_same hg
    have ts : Tc s2 = Tc (uPs s f i 2) := by show cnt _ _ = cnt _ _; rw [show aPs s2 = aPs (uPs s f i 2) from ss.2.2.1]
    cases jj with
    | zero =>
      obtain ⟨C1, e1, p1⟩ := seg_func_done h' hEn hf hin ek hg
      exact seg_on ih h hf hBo hi (by omega) hto he ⟨C1, e1, p1.untouch h.1.1 ho⟩ (by omega) hx
    | succ j =>
      obtain ⟨q, hq1, hq2⟩ := Option.bind_eq_some_iff.mp hx
      obtain ⟨acc3, s3⟩ := q
      obtain ⟨C1, a, e1, ne, cp, hp, hm, sb⟩ := seg_func_need h' hEn hf hin ek hg (by omega)
      have kst := kst_of h' (by omega) he e1
      have hcl := cl_mk hTx hp hm
      have hf2 : f < aNf s2 := by rw [show aNf s2 = aNf s from ss.1]; exact hf
      have fr2 : aFr s2 f = aFr s f := by show s2.2.1 f = s.2.1 f; rw [ss.2.1]; rfl
      have fg2 : fg E s2 f = fg E s f := by show eTx E (aFr s2 f).1 = _; rw [fr2]
      have fn2 : fn E s2 f = fn E s f := by show eTl E (aFr s2 f).1 = _; rw [fr2]
      have ge30 : fE (fg E s f) (fn E s f) ((prs_ (fg E s f) (fn E s f) 30 (i + 1)).getD j 0) ≤ 30 := Nat.le_trans (Nat.le_of_lt hcl.2.1) hTx.1.2
      obtain ⟨k2, C2, q1, q2, q3⟩ := ih false (r + 1) (t + 2) f _ _ [] _ acc3 s3 hq1 C1 a _ sb.1 hf2 (by show Bl (fg E s2 f) (fn E s2 f) _ _; rw [fg2, fn2]; exact Bl.part hTx hp hm) (Nat.le_refl _) ge30
      obtain ⟨k3, p30⟩ := sub_done sb q2 (Nat.le_refl _) (Nat.lt_of_le_of_lt ge30 (by decide)) ne hf2 (by show _ < fn E s2 f; rw [fn2]; exact hp) (by show mkB (fg E s2 f _ / 1000) = true; rw [fg2]; exact hm) cp
      have p3 : Post b C (cSetI C2 409 (b + 1) ((r + 1 : Nat) : Int)) E VA up (uPs s f i 2) (uDn s3 f ((prs_ (fg E s f) (fn E s f) 30 (i + 1)).getD j 0) acc3) r f ra i e acc := p30
      have kp := p3.2.2.2.2.2.2
      have fr : aFr (uDn s3 f ((prs_ (fg E s f) (fn E s f) 30 (i + 1)).getD j 0) acc3) f = aFr s f := kp.2.2.2.1 f hf
      obtain ⟨k4, C4, e4, p4, t4⟩ := ih true r t f i to acc _ acc' s' hq2 _ ra e p3.pre (Nat.lt_of_lt_of_le hf kp.2.2.1) (by
        rw [show fg E (uDn s3 f ((prs_ (fg E s f) (fn E s f) 30 (i + 1)).getD j 0) acc3) f = fg E s f by show eTx E (aFr (uDn s3 f ((prs_ (fg E s f) (fn E s f) 30 (i + 1)).getD j 0) acc3) f).1 = _; rw [fr], show fn E (uDn s3 f ((prs_ (fg E s f) (fn E s f) 30 (i + 1)).getD j 0) acc3) f = fn E s f by show eTl E (aFr (uDn s3 f ((prs_ (fg E s f) (fn E s f) 30 (i + 1)).getD j 0) acc3) f).1 = _; rw [fr]]
        exact hB) hto he
      have h0 : aPs s2 f ((prs_ (fg E s f) (fn E s f) 30 (i + 1)).getD j 0) = 0 := by
        obtain ⟨_, _, q1', q2', pp, _⟩ := func_list h' hf hin
        have fo := (X1_giveFunction_ pp.1 pp.2.2.1 hf q1' q2' pp.2.2.2.2.1.F pp.2.2.2.1 hEn.2.2 hEn.2.1 (by have := hok.2.2.2.2.2 ek; omega) hg).2 j rfl
        obtain ⟨_, _, _, _, _, z⟩ := fo
        rw [show aPs s2 = aPs (uPs s f i 2) from ss.2.2.1]
        exact z
      have tn := Tc_new (s := s2) (x := 1) (by decide) (show f < 41 by omega) (show (prs_ (fg E s f) (fn E s f) 30 (i + 1)).getD j 0 < 30 by exact Nat.lt_of_lt_of_le hp n30) h0
      have t4' : k4 + 64 * Tc (uDn s3 f ((prs_ (fg E s f) (fn E s f) 30 (i + 1)).getD j 0) acc3) ≤ to - i + 64 * Tc s' := t4
      have q3' : k2 + 64 * Tc (uPs s2 f ((prs_ (fg E s f) (fn E s f) 30 (i + 1)).getD j 0) 1) ≤ (fE (fg E s f) (fn E s f) ((prs_ (fg E s f) (fn E s f) 30 (i + 1)).getD j 0) - ((prs_ (fg E s f) (fn E s f) 30 (i + 1)).getD j 0 + 1)) + 64 * Tc s3 := q3
      have td := Tc_dn (s := s3) (f := f) (i := (prs_ (fg E s f) (fn E s f) 30 (i + 1)).getD j 0) (r := acc3)
      exact ⟨1 + k2 + 1 + k4, C4, ((kst.app q1).app k3).app e4, (p3.tr p4).untouch h.1.1 ho, by omega⟩
set_option maxHeartbeats 2000000 in
/-- the class goes over a stretch as the evaluator says -/
theorem seg_ok (hEn : EnP E) : ∀ m, SegOk b E VA up m := by
  intro m
  induction m with
  | zero => intro re r t f i to acc s acc' s' hx; cases hx
  | succ m ih =>
    intro re r t f i to acc s acc' s' hx C ra e h hf hB hto he
    rw [runX] at hx
    by_cases c0 : 510 ≤ r ∨ 3990 ≤ t
    · rw [if_pos c0] at hx; cases hx
    rw [if_neg c0] at hx
    by_cases c1 : to ≤ i
    · rw [if_pos c1] at hx
      injection hx with hx
      injection hx with e1 e2
      subst e1 e2
      have : i = to := by have := hB.1; omega
      subst this
      exact ⟨0, C, rfl, ⟨h.1, h.2.1, h.2.2.1, h.2.2.2.1, h.2.2.2.2.1, h.2.2.2.2.2, Keep.rf h.1.1.W⟩, by omega⟩
    rw [if_neg c1] at hx
    have hi : i < to := by omega
    have hTx := (h.1.2.2.2.1 f hf).2.1
    have hin : i < fn E s f := by have := hB.2.1; omega
    have hok := (h.1.2.2.2.1 f hf).2.2.1 i hin
    unfold okt at hok
    have hn41 := h.1.2.2.2.2.2.2.1.2.1
    have n30 := h.1.n30 hf
    have gt := fE_gt (fg E s f) (fn E s f) i
    by_cases ho : opB (fg E s f i / 1000) = true
    · rw [if_pos ho] at hx
      have hlt := hB.2.2 i (Nat.le_refl _) hi ho
      have hBo := hB.over hi ho
      by_cases u1 : re = false ∧ unt s f i (fE (fg E s f) (fn E s f) i) = false
      · rw [if_pos u1] at hx; cases hx
      rw [if_neg u1] at hx
      by_cases u2 : re = false ∧ fg E s f i / 1000 = 4 ∧ 690 ≤ nFu E s
      · rw [if_pos u2] at hx; cases hx
      rw [if_neg u2] at hx
      by_cases u3 : re = true ∧ ¬ fg E s f i / 1000 = 4
      · rw [if_pos u3] at hx; cases hx
      rw [if_neg u3] at hx
      have tu : Tc s ≤ Tc (uPs s f i 2) := Tc_up (by decide)
      have h' := h.touch hf ho
      by_cases k1 : fg E s f i / 1000 = 10 ∨ (fg E s f i / 1000 = 8 ∧ 0 < (aFr s f).2.2.1) ∨ (fg E s f i / 1000 = 9 ∧ (aFr s f).2.2.1 = 0)
      · rw [if_pos k1] at hx
        by_cases k10 : fg E s f i / 1000 = 10
        · obtain ⟨C1, e1, p1⟩ := seg_skip h' hf hin (Or.inr (Or.inr (Or.inr (Or.inl k10))))
          exact seg_content ih h hf hB hi hto he ho (kst_of h' (by omega) he e1) p1 hx
        · have k89 := k1.resolve_left k10
          obtain ⟨C1, e1, p1⟩ := seg_in h' hf hin (k89.elim (fun z => Or.inl z.1) (fun z => Or.inr z.1))
          have p1' : Post b C C1 E VA up (uPs s f i 2) (uPs s f i 2) r f ra (if (fg E s f i / 1000 = 8 ∧ 0 < (aFr s f).2.2.1) ∨ (fg E s f i / 1000 = 9 ∧ (aFr s f).2.2.1 = 0) then i + 1 else fE (fg E s f) (fn E s f) i + 1) e acc := p1
          rw [if_pos k89] at p1'
          exact seg_content ih h hf hB hi hto he ho (kst_of h' (by omega) he e1) p1' hx
      rw [if_neg k1] at hx
      by_cases k2 : fg E s f i / 1000 = 2
      · rw [if_pos k2] at hx
        have hre : re = false := by
          cases re with
          | false => rfl
          | true => exact absurd ⟨rfl, by omega⟩ u3
        exact seg_call ih hEn h hf hB hi hto he k2 (by omega) (unt_0 (f := f) (c := fE (fg E s f) (fn E s f) i) (eq_true_of_ne_false (fun z => u1 ⟨hre, z⟩)) gt) hx
      rw [if_neg k2] at hx
      by_cases k3 : fg E s f i / 1000 = 3
      · rw [if_pos k3] at hx
        exact seg_param ih h hf hB hi hto he k3 (by omega) hx
      rw [if_neg k3] at hx
      by_cases k4 : fg E s f i / 1000 = 4
      · rw [if_pos k4] at hx
        exact seg_func ih hEn h hf hB hi hto he k4 (by omega) hx
      rw [if_neg k4] at hx
      have k89 : fg E s f i / 1000 = 8 ∨ fg E s f i / 1000 = 9 := by
        rcases opB_cases ho with e | e | e | e | e | e <;> omega
      obtain ⟨C1, e1, p1⟩ := seg_in h' hf hin k89
      have p1' : Post b C C1 E VA up (uPs s f i 2) (uPs s f i 2) r f ra (if (fg E s f i / 1000 = 8 ∧ 0 < (aFr s f).2.2.1) ∨ (fg E s f i / 1000 = 9 ∧ (aFr s f).2.2.1 = 0) then i + 1 else fE (fg E s f) (fn E s f) i + 1) e acc := p1
      rw [if_neg (fun z => k1 (Or.inr z))] at p1'
      exact seg_on ih h hf hBo hi (by omega) hto he ⟨C1, e1, p1'.untouch h.1.1 ho⟩ tu hx
    · rw [if_neg ho] at hx
      have hBs := hB.step hi
      by_cases k0 : fg E s f i / 1000 = 0
      · rw [if_pos k0] at hx
        exact seg_on ih h hf hBs hi (by omega) hto he (seg_word h hf hin k0) (Nat.le_refl _) hx
      rw [if_neg k0] at hx
      by_cases k1 : fg E s f i / 1000 = 1 ∨ fg E s f i / 1000 = 12
      · rw [if_pos k1] at hx
        exact seg_on ih h hf hBs hi (by omega) hto he (seg_link h hf hin k1) (Nat.le_refl _) hx
      rw [if_neg k1] at hx
      by_cases k11 : fg E s f i / 1000 = 11
      · rw [if_pos k11] at hx
        exact seg_on ih h hf hBs hi (by omega) hto he (seg_cat h hf hin k11) (Nat.le_refl _) hx
      rw [if_neg k11] at hx
      have nop : ∀ k : Int, (k = 2 ∨ k = 3 ∨ k = 4 ∨ k = 8 ∨ k = 9 ∨ k = 10) → fg E s f i / 1000 ≠ k := fun k hk z => ho (by rw [z]; exact decide_eq_true hk)
      have n2 := nop 2 (by decide); have n3 := nop 3 (by decide); have n4 := nop 4 (by decide); have n8 := nop 8 (by decide); have n9 := nop 9 (by decide); have n10 := nop 10 (by decide)
      exact seg_on ih h hf hBs hi (by omega) hto he (seg_skip h hf hin (by omega)) (Nat.le_refl _) hx
end SEG3
