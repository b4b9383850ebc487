/-! THE CLASS GOES OVER A STRETCH: CALL, PARAM, FUNC -/
section SEG2
variable {b : Nat} {E : Env} {VA : Nat → Nat} {up : Int}
variable {m k1 r t f i i1 to ra e : Nat} {C C1 : Cd} {s s1 s' : ASt} {acc acc1 acc' : List Int}
set_option maxHeartbeats 1000000 in
theorem seg_call (ih : SegOk b E VA up m) (hEn : EnP E) (h : Pre b C E VA up s r f ra i e acc) (hf : f < aNf s) (hB : Bl (fg E s f) (fn E s f) i to) (hi : i < to) (hto : to ≤ e) (he : e ≤ 30) (ek : fg E s f i / 1000 = 2) (hr : r < 510) (h0 : aPs s f i = 0)
   (hx : (if 40 ≤ aCa s then runX E m false r t f (fE (fg E s f) (fn E s f) i + 1) to (apl acc 9003) (uPs s f i 2)
        else if (wayF E 5 (fg E s f i % 1000).toNat 0).1 = -1 then runX E m false r t f (fE (fg E s f) (fn E s f) i + 1) to (apl acc (2000 + fg E s f i % 1000)) (uSe (uCa (uPs s f i 2)) (2 ^ (fg E s f i % 1000).toNat) 0 (wayF E 5 (fg E s f i % 1000).toNat 0).2 0 0)
        else if cmF s 41 f (wayF E 5 (fg E s f i % 1000).toNat 0).1 = true then runX E m false r t f (fE (fg E s f) (fn E s f) i + 1) to (apl acc 9001) (uSe (uCa (uPs s f i 2)) 0 0 (wayF E 5 (fg E s f i % 1000).toNat 0).2 0 0)
        else if 6 ≤ (aFr s f).2.2.1 then runX E m false r t f (fE (fg E s f) (fn E s f) i + 1) to (apl acc 9002) (uSe (uCa (uPs s f i 2)) 0 0 (wayF E 5 (fg E s f i % 1000).toNat 0).2 0 0)
        else (runX E m false (r + 1) (t + 1) (aNf s) 0 (eTl E (eSn E (wayF E 5 (fg E s f i % 1000).toNat 0).1.toNat).toNat) acc
            (uFr (uSe (uCa (uPs s f i 2)) 0 0 (wayF E 5 (fg E s f i % 1000).toNat 0).2 0 0) ((eSn E (wayF E 5 (fg E s f i % 1000).toNat 0).1.toNat).toNat, (wayF E 5 (fg E s f i % 1000).toNat 0).1.toNat, (aFr s f).2.2.1 + 1, (f : Int), i, agF (fg E s f) (prs_ (fg E s f) (fn E s f) 30 (i + 1)) 0 (fun _ => -1)))).bind
          fun q => runX E m false r t f (fE (fg E s f) (fn E s f) i + 1) to q.1 q.2) = some (acc', s')) :
   ∃ k C', KSts b k C C' ∧ Post b C C' E VA up s s' r f ra to e acc' ∧ k + 64 * Tc s ≤ (to - i) + 64 * Tc s' := by
  have ho : opB (fg E s f i / 1000) = true := op_call (Or.inl ek)
  have hTx := (h.1.2.2.2.1 f hf).2.1
  have hin : i < fn E s f := by have := hB.2.1; omega
  have hok := (h.1.2.2.2.1 f hf).2.2.1 i hin
  unfold okt at hok
  have hlt := hB.2.2 i (Nat.le_refl _) hi ho
  have hBo := hB.over hi ho
  have gt := fE_gt (fg E s f) (fn E s f) i
  have hn41 := h.1.2.2.2.2.2.2.1.2.1
  have n30 := h.1.n30 hf
  obtain ⟨a1, a2, a3, a4⟩ := seg_call_no h hEn hf hin ek
  have tu : Tc s ≤ Tc (uPs s f i 2) := Tc_up (by decide)
  by_cases c40 : 40 ≤ aCa s
  · rw [if_pos c40] at hx
    exact seg_on ih h hf hBo hi (by omega) hto he (a1 c40) tu hx
  · rw [if_neg c40] at hx
    by_cases cw : (wayF E 5 (fg E s f i % 1000).toNat 0).1 = -1
    · rw [if_pos cw] at hx
      exact seg_on ih h hf hBo hi (by omega) hto he (a2 (by omega) cw) tu hx
    · rw [if_neg cw] at hx
      by_cases cm : cmF s 41 f (wayF E 5 (fg E s f i % 1000).toNat 0).1 = true
      · rw [if_pos cm] at hx
        exact seg_on ih h hf hBo hi (by omega) hto he (a3 (by omega) cw cm) tu hx
      · rw [if_neg cm] at hx
        by_cases c6 : 6 ≤ (aFr s f).2.2.1
        · rw [if_pos c6] at hx
          exact seg_on ih h hf hBo hi (by omega) hto he (a4 (by omega) cw (eq_false_of_ne_true cm) c6) tu hx
        · rw [if_neg c6] at hx
          obtain ⟨q, hq1, hq2⟩ := Option.bind_eq_some_iff.mp hx
          obtain ⟨acc2, s2⟩ := q
          obtain ⟨C1, e1, sb⟩ := seg_call_new h hEn hf hin ek (by omega) cw (eq_false_of_ne_true cm) (by omega) (by omega)
          have kst := kst_of h (by omega) he e1
          have hw := wayF_lt E 5 (fg E s f i % 1000).toNat 0 (by decide) (by have := hok.2.2.1 (Or.inr (Or.inl ek)); omega) (fun t ht hne hk => by
            obtain ⟨q1, q2, q3⟩ := hEn.1 t ht hne
            have ok := q3 0 (by have := q2.1.1; omega)
            unfold okt at ok
            have := ok.2.2.1 (Or.inr (Or.inr hk))
            omega)
          have hwr := hw.2.resolve_left cw
          have hTn := (hEn.1 (wayF E 5 (fg E s f i % 1000).toNat 0).1.toNat (by omega) hwr.2.2).2.1
          have frn : aFr (uFr (uSe (uCa (uPs s f i 2)) 0 0 (wayF E 5 (fg E s f i % 1000).toNat 0).2 0 0) (nFr E s f i (wayF E 5 (fg E s f i % 1000).toNat 0).1)) (aNf s) = nFr E s f i (wayF E 5 (fg E s f i % 1000).toNat 0).1 := if_pos rfl
          obtain ⟨k2, C2, q1, q2, q3⟩ := ih false (r + 1) (t + 1) (aNf s) 0 _ acc _ acc2 s2 hq1 C1 ra _ sb.1 (by show aNf s < aNf s + 1; omega) (by
            show Bl (eTx E (aFr (uFr (uSe (uCa (uPs s f i 2)) 0 0 (wayF E 5 (fg E s f i % 1000).toNat 0).2 0 0) (nFr E s f i (wayF E 5 (fg E s f i % 1000).toNat 0).1)) (aNf s)).1) (eTl E (aFr (uFr (uSe (uCa (uPs s f i 2)) 0 0 (wayF E 5 (fg E s f i % 1000).toNat 0).2 0 0) (nFr E s f i (wayF E 5 (fg E s f i % 1000).toNat 0).1)) (aNf s)).1) _ _
            rw [frn]
            exact Bl.whole hTn) (Nat.le_refl _) hTn.1.2
          obtain ⟨k3, p3, _, _⟩ := sub_back sb q2 (Nat.le_refl _) (by have := hTn.1.2; omega) (accR := acc2) (Or.inl ⟨rfl, rfl⟩)
          obtain ⟨k4, C4, e4, p4, t4⟩ := seg_cont ih ((kst.app q1).app k3) p3 hq2 hf hBo hto he
          have tn : Tc (uPs s f i 2) = Tc s + 1 := Tc_new (by decide) (by omega) (by omega) h0
          have q3' : k2 + 64 * Tc (uPs s f i 2) ≤ (eTl E (eSn E (wayF E 5 (fg E s f i % 1000).toNat 0).1.toNat).toNat - 0) + 64 * Tc s2 := q3
          have := hTn.1.2
          exact ⟨k4, C4, e4, p4, by omega⟩
set_option maxHeartbeats 1000000 in
theorem seg_param (ih : SegOk b E VA up m) (h : Pre b C E VA up s r f ra i e acc) (hf : f < aNf s) (hB : Bl (fg E s f) (fn E s f) i to) (hi : i < to) (hto : to ≤ e) (he : e ≤ 30) (ek : fg E s f i / 1000 = 3) (hr : r < 510)
   (hx : (if (aFr s f).2.2.2.2.2 (fg E s f i % 1000).toNat = -1 ∨ (aFr s f).2.2.2.1 = -1 then
          (runX E m false r (t + 1) f (i + 1) (fE (fg E s f) (fn E s f) i) acc (uPs s f i 2)).bind fun q => runX E m false r t f (fE (fg E s f) (fn E s f) i + 1) to q.1 q.2
        else if aPs s (aFr s f).2.2.2.1.toNat ((aFr s f).2.2.2.2.2 (fg E s f i % 1000).toNat).toNat = 2 then
          runX E m false r t f (fE (fg E s f) (fn E s f) i + 1) to (aal acc (aRw s (aFr s f).2.2.2.1.toNat ((aFr s f).2.2.2.2.2 (fg E s f i % 1000).toNat).toNat)) (uPs s f i 2)
        else if aPs s (aFr s f).2.2.2.1.toNat ((aFr s f).2.2.2.2.2 (fg E s f i % 1000).toNat).toNat = 0 then
          (runX E m false (r + 1) (t + 2) (aFr s f).2.2.2.1.toNat (((aFr s f).2.2.2.2.2 (fg E s f i % 1000).toNat).toNat + 1) (fE (fg E s (aFr s f).2.2.2.1.toNat) (fn E s (aFr s f).2.2.2.1.toNat) ((aFr s f).2.2.2.2.2 (fg E s f i % 1000).toNat).toNat) []
              (uPs (uPs s f i 2) (aFr s f).2.2.2.1.toNat ((aFr s f).2.2.2.2.2 (fg E s f i % 1000).toNat).toNat 1)).bind
            fun q => runX E m false r t f (fE (fg E s f) (fn E s f) i + 1) to (aal acc q.1) (uDn q.2 (aFr s f).2.2.2.1.toNat ((aFr s f).2.2.2.2.2 (fg E s f i % 1000).toNat).toNat q.1)
        else none) = some (acc', s')) :
   ∃ k C', KSts b k C C' ∧ Post b C C' E VA up s s' r f ra to e acc' ∧ k + 64 * Tc s ≤ (to - i) + 64 * Tc s' := by
  have ho : opB (fg E s f i / 1000) = true := op_call (Or.inr (Or.inl ek))
  have hTx := (h.1.2.2.2.1 f hf).2.1
  have hin : i < fn E s f := by have := hB.2.1; omega
  have hok := (h.1.2.2.2.1 f hf).2.2.1 i hin
  unfold okt at hok
  have hlt := hB.2.2 i (Nat.le_refl _) hi ho
  have hBo := hB.over hi ho
  have gt := fE_gt (fg E s f) (fn E s f) i
  have hn41 := h.1.2.2.2.2.2.2.1.2.1
  have n30 := h.1.n30 hf
  have tu : Tc s ≤ Tc (uPs s f i 2) := Tc_up (by decide)
  have h' := h.touch hf ho
  by_cases c1 : (aFr s f).2.2.2.2.2 (fg E s f i % 1000).toNat = -1 ∨ (aFr s f).2.2.2.1 = -1
  · rw [if_pos c1] at hx
    obtain ⟨C1, e1, p1⟩ := seg_param_none h' hf hin ek c1
    exact seg_content ih h hf hB hi hto he ho (kst_of h' (by omega) he e1) p1 hx
  · rw [if_neg c1] at hx
    have hx1 : (aFr s f).2.2.2.2.2 (fg E s f i % 1000).toNat ≠ -1 := fun z => c1 (Or.inl z)
    have hv9 := hok.2.2.2.2.1 (Or.inl ek)
    have hap := ((h.1.2.2.2.1 f hf).2.2.2 (fg E s f i % 1000).toNat (by omega)).resolve_left hx1
    have hgf : (aFr s f).2.2.2.1.toNat ≠ f := by omega
    have st : aPs (uPs s f i 2) (aFr s f).2.2.2.1.toNat ((aFr s f).2.2.2.2.2 (fg E s f i % 1000).toNat).toNat = aPs s (aFr s f).2.2.2.1.toNat ((aFr s f).2.2.2.2.2 (fg E s f i % 1000).toNat).toNat := if_neg (fun z => hgf z.1)
    by_cases c2 : aPs s (aFr s f).2.2.2.1.toNat ((aFr s f).2.2.2.2.2 (fg E s f i % 1000).toNat).toNat = 2
    · rw [if_pos c2] at hx
      obtain ⟨C1, e1, p1⟩ := seg_param_have h' hf hin ek hx1 (st.trans c2)
      exact seg_on ih h hf hBo hi (by omega) hto he ⟨C1, e1, p1.untouch h.1.1 ho⟩ tu hx
    · rw [if_neg c2] at hx
      by_cases c0 : aPs s (aFr s f).2.2.2.1.toNat ((aFr s f).2.2.2.2.2 (fg E s f i % 1000).toNat).toNat = 0
      · rw [if_pos c0] at hx
        obtain ⟨q, hq1, hq2⟩ := Option.bind_eq_some_iff.mp hx
        obtain ⟨acc2, s2⟩ := q
        obtain ⟨C1, a, e1, ne, cp, hg, hp, hm, sb⟩ := seg_param_new h' hf hin ek hx1 (st.trans c0) (by omega)
        have kst := kst_of h' (by omega) he e1
        have hTg := (h.1.2.2.2.1 _ hg).2.1
        have hcl := cl_mk hTg hp hm
        obtain ⟨k2, C2, q1, q2, q3⟩ := ih false (r + 1) (t + 2) _ _ _ [] _ acc2 s2 hq1 C1 a _ sb.1 hg (Bl.part hTg hp hm) (Nat.le_refl _) (by have := hTg.1.2; have := hcl.2.1; exact Nat.le_trans (Nat.le_of_lt this) hTg.1.2)
        have ge30 : fE (fg E s (aFr s f).2.2.2.1.toNat) (fn E s (aFr s f).2.2.2.1.toNat) ((aFr s f).2.2.2.2.2 (fg E s f i % 1000).toNat).toNat ≤ 30 := Nat.le_trans (Nat.le_of_lt hcl.2.1) hTg.1.2
        obtain ⟨k3, p30⟩ := sub_done sb q2 (Nat.le_refl _) (Nat.lt_of_le_of_lt ge30 (by decide)) ne hg hp hm cp
        have p3 : Post b C (cSetI C2 409 (b + 1) ((r + 1 : Nat) : Int)) E VA up (uPs s f i 2) (uDn s2 (aFr s f).2.2.2.1.toNat ((aFr s f).2.2.2.2.2 (fg E s f i % 1000).toNat).toNat acc2) r f ra i e acc := p30
        have kp := p3.2.2.2.2.2.2
        have fr : aFr (uDn s2 (aFr s f).2.2.2.1.toNat ((aFr s f).2.2.2.2.2 (fg E s f i % 1000).toNat).toNat acc2) f = aFr s f := kp.2.2.2.1 f hf
        have fgs : fg E (uDn s2 (aFr s f).2.2.2.1.toNat ((aFr s f).2.2.2.2.2 (fg E s f i % 1000).toNat).toNat acc2) f = fg E s f := by show eTx E (aFr (uDn s2 (aFr s f).2.2.2.1.toNat ((aFr s f).2.2.2.2.2 (fg E s f i % 1000).toNat).toNat acc2) f).1 = _; rw [fr]
        have fns : fn E (uDn s2 (aFr s f).2.2.2.1.toNat ((aFr s f).2.2.2.2.2 (fg E s f i % 1000).toNat).toNat acc2) f = fn E s f := by show eTl E (aFr (uDn s2 (aFr s f).2.2.2.1.toNat ((aFr s f).2.2.2.2.2 (fg E s f i % 1000).toNat).toNat acc2) f).1 = _; rw [fr]
        obtain ⟨C4, e4, p4⟩ := seg_param_have p3.pre (Nat.lt_of_lt_of_le hf kp.2.2.1) (by rw [fns]; exact hin) (by rw [fgs]; exact ek) (by rw [fr, fgs]; exact hx1) (by rw [fr, fgs]; exact if_pos ⟨rfl, rfl⟩)
        rw [fr, fgs, fns, show aRw (uDn s2 (aFr s f).2.2.2.1.toNat ((aFr s f).2.2.2.2.2 (fg E s f i % 1000).toNat).toNat acc2) (aFr s f).2.2.2.1.toNat ((aFr s f).2.2.2.2.2 (fg E s f i % 1000).toNat).toNat = acc2 from if_pos ⟨rfl, rfl⟩] at p4
        have k4 := kst_of p3.pre (by omega) he e4
        obtain ⟨k5, C5, e5, p5, t5⟩ := seg_cont (s := uPs s f i 2) ih (((kst.app q1).app k3).app k4) (p3.tr p4) hq2 hf hBo hto he
        have tn := Tc_new (s := uPs s f i 2) (x := 1) (by decide) (show (aFr s f).2.2.2.1.toNat < 41 by omega) (show ((aFr s f).2.2.2.2.2 (fg E s f i % 1000).toNat).toNat < 30 by have := h.1.n30 hg; exact Nat.lt_of_lt_of_le hp this) (st.trans c0)
        have td := Tc_dn (s := s2) (f := (aFr s f).2.2.2.1.toNat) (i := ((aFr s f).2.2.2.2.2 (fg E s f i % 1000).toNat).toNat) (r := acc2)
        exact ⟨k5, C5, e5, p5.untouch h.1.1 ho, by omega⟩
      · rw [if_neg c0] at hx; cases hx
end SEG2
