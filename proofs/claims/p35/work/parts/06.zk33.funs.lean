/-! THE CLASS'S FUNCTIONS, all -/
section FUN2
variable {b : Nat} {C : Cd} {E : Env} {VA : Nat → Nat} {up : Int} {s : ASt} {R ra f : Nat} {pl : List Nat} {acc : List Int}
theorem nBits_le (n k : Nat) : nBits n k ≤ k := by
  induction k with
  | zero => exact Nat.le_refl _
  | succ k ih =>
    unfold nBits
    split <;> omega
theorem nBits_rng (n : Nat) : 0 ≤ (nBits n 32 : Int) ∧ (nBits n 32 : Int) < 10000 := by
  have := nBits_le n 32
  omega
set_option maxHeartbeats 20000000 in
theorem X1_giveFunction_ (h : XS b C E VA up s R) (hc : CurR b C E s ra) (hf : f < aNf s) (hP : PlC b C pl) (hPS : PlS E s f pl) {r : Nat} (hA : RunF b C r f ra) (hra : RowV C ra acc) (hMo : MoP E) (hMb : ∀ c, c < 8 → eMb E c < 16777216) {k : Int} (hk : 0 ≤ k ∧ k ≤ 6) {o : Nat × List Int × ASt} (ho : gv E s f pl k acc = some o) :
   FunOk b C ra s f pl acc (fX1_giveFunction (b + 1) (some (b + 333 + r)) k C) o := by
  have hA' := hA
  obtain ⟨hr, hf41, h900, h901⟩ := hA
  have hL := h.1
  have hU := hL.uo hr
  have hSe := h.2.2.2.2.2.1
  have c0 := h.cur0 hc
  unfold fX1_giveFunction
  unfold gv at ho
  by_cases k2 : k = 2
  · subst k2
    rw [if_pos rfl] at ho
    rw [if_neg (fun z => z rfl), if_pos hL.oe]
    obtain ⟨s1, s2⟩ := X1_giveSum_ h hc hf hP hPS hA' hra
    cases hg : gsm s f pl pl.length 1 0 with
    | none => rw [hg] at ho; cases ho
    | some q =>
      obtain ⟨j, a⟩ := q
      rw [hg] at ho
      cases j with
      | zero =>
        injection ho with ho
        subst ho
        obtain ⟨C', e, g1, g2, g3, g4, g5⟩ := s1 a hg
        refine funOk_done ⟨C', ?_, g1, g2, g3, g4, hSe.of g5⟩
        rw [cal_of e]
        rfl
      | succ j =>
        injection ho with ho
        subst ho
        obtain ⟨q1, q2, q3⟩ := s2 j a hg
        refine funOk_need ⟨_, ?_, Gvn.ask hL c0 hSe hra _, cI_I1 _ _ _ _, q1, q3⟩
        rw [cal_of q2]
        rfl
  · rw [if_neg k2] at ho
    rw [if_pos (fun z => k2 (by rw [w32_of (by omega) (by omega)] at z; exact z)), drf_some, if_pos hU, bnd_eq, h900, if_pos hL.oe]
    cases hq : prt s f pl 1 with
    | none => rw [hq] at ho; cases ho
    | some oq =>
      cases oq with
      | none =>
        rw [hq] at ho
        injection ho with ho
        subst ho
        obtain ⟨p1, p2, p3, p4⟩ := part_need h hf hP hPS hq
        rw [show ((1 : Nat) : Int) = 1 from rfl] at p3
        refine funOk_need (jn := 0) ⟨_, ?_, Gvn.ask hL c0 hSe hra _, cI_I1 _ _ _ _, by omega, p4⟩
        rw [cal_of p3, opt_none]
      | some r1 =>
        rw [hq] at ho
        dsimp only at ho
        obtain ⟨a, p1, p2, p3⟩ := part_have h hc hf hP hPS (by omega) hq
        rw [show ((1 : Nat) : Int) = 1 from rfl] at p1
        have hx := numL_rng p2.2.2.2.1
        have hnm := X5_number_ p2
        rw [cal_of p1, opt_some, bnd_eq]
        have hk6 : k = 0 ∨ k = 1 ∨ k = 3 ∨ k = 4 ∨ k = 5 ∨ k = 6 := by omega
        rcases hk6 with e | e | e | e | e | e
        · -- IF
          subst e
          rw [if_pos rfl] at ho
          rw [if_pos (show w32 0 = 0 from rfl), if_pos p2.ob, cal_of (X5_hasOther_ p2), bnd_eq]
          have key : ∀ jj : Nat, jj < 1000 → ∀ oo, (match prt s f pl jj with
        | none => none
        | some none => some (jj, acc, s)
        | some (some r) => some (0, aal acc r, s)) = some oo → FunOk b C ra s f pl acc (if isO C (b + 1) 4 then cal (fX1_givePart (b + 1) (some (b + 333 + r)) (jj : Int) C) fun (r9 : Int) (C8 : Cd) => retZ r9 C8 else none) oo := by
            intro jj hjj oo hoo
            obtain ⟨w1, w2⟩ := part_put h hc hf hP hPS hA' hra (j := jj) (by omega)
            rw [if_pos hL.oe]
            cases hq2 : prt s f pl jj with
            | none => rw [hq2] at hoo; cases hoo
            | some oq2 =>
              cases oq2 with
              | none =>
                rw [hq2] at hoo
                injection hoo with hoo
                subst hoo
                obtain ⟨v1, v2, v3, v4⟩ := part_need h hf hP hPS hq2
                obtain ⟨j', rfl⟩ : ∃ j', jj = j' + 1 := ⟨jj - 1, by omega⟩
                refine funOk_need (jn := j') ⟨_, ?_, Gvn.ask hL c0 hSe hra _, cI_I1 _ _ _ _, by omega, by rw [Nat.add_sub_cancel] at v4; exact v4⟩
                have w2' := w2 hq2
                rw [Nat.add_sub_cancel] at w2'
                rw [cal_of w2']
                rfl
              | some rr =>
                rw [hq2] at hoo
                injection hoo with hoo
                subst hoo
                obtain ⟨C', e, g1, g2, g3, g4, g5⟩ := w1 rr hq2
                refine funOk_done ⟨C', ?_, g1, g2, g3, g4, hSe.of g5⟩
                rw [cal_of e]
                rfl
          cases hany : anyO r1 with
          | true =>
            rw [hany, ite_tt] at ho
            rw [ite_tt, if_neg (by decide)]
            exact key 2 (by decide) o ho
          | false =>
            rw [hany, ite_ff] at ho
            rw [ite_ff, if_pos (by decide)]
            exact key 3 (by decide) o ho
        · -- SAME
          subst e
          rw [if_neg (by decide), if_pos rfl] at ho
          rw [if_neg (by decide), if_pos (show w32 1 = 1 from rfl), if_pos hU, bnd_eq, h900, if_pos hL.oe]
          cases hq2 : prt s f pl 2 with
          | none => rw [hq2] at ho; cases ho
          | some oq2 =>
            cases oq2 with
            | none =>
              rw [hq2] at ho
              injection ho with ho
              subst ho
              obtain ⟨v1, v2, v3, v4⟩ := part_need h hf hP hPS hq2
              rw [show ((2 : Nat) : Int) = 2 from rfl] at v3
              refine funOk_need (jn := 1) ⟨_, ?_, Gvn.ask hL c0 hSe hra _, cI_I1 _ _ _ _, by omega, v4⟩
              rw [cal_of v3, bnd_eq, bnd_eq, opt_none]
              rfl
            | some r2 =>
              rw [hq2] at ho
              dsimp only at ho
              obtain ⟨a2, v1, v2, v3⟩ := part_have h hc hf hP hPS (by omega) hq2
              rw [show ((2 : Nat) : Int) = 2 from rfl] at v1
              rw [cal_of v1, bnd_eq, bnd_eq, opt_some, if_pos p2.ob, cal_of (X5_sameAs_ p2 v2), bnd_eq]
              have key : ∀ jj : Nat, jj < 1000 → ∀ oo, (match prt s f pl jj with
        | none => none
        | some none => some (jj, acc, s)
        | some (some r) => some (0, aal acc r, s)) = some oo → FunOk b C ra s f pl acc (if isO C (b + 1) 4 then cal (fX1_givePart (b + 1) (some (b + 333 + r)) (jj : Int) C) fun (r17 : Int) (C16 : Cd) => (if w32 r17 = 0 then retZ 0 C16 else retZ 1 C16) else none) oo := by
                intro jj hjj oo hoo
                obtain ⟨w1, w2⟩ := part_put h hc hf hP hPS hA' hra (j := jj) (by omega)
                rw [if_pos hL.oe]
                cases hq3 : prt s f pl jj with
                | none => rw [hq3] at hoo; cases hoo
                | some oq3 =>
                  cases oq3 with
                  | none =>
                    rw [hq3] at hoo
                    injection hoo with hoo
                    subst hoo
                    obtain ⟨u1, u2, u3, u4⟩ := part_need h hf hP hPS hq3
                    obtain ⟨j', rfl⟩ : ∃ j', jj = j' + 1 := ⟨jj - 1, by omega⟩
                    refine funOk_need (jn := j') ⟨_, ?_, Gvn.ask hL c0 hSe hra _, cI_I1 _ _ _ _, by omega, by rw [Nat.add_sub_cancel] at u4; exact u4⟩
                    have w2' := w2 hq3
                    rw [Nat.add_sub_cancel] at w2'
                    rw [cal_of w2', if_pos (by decide)]
                    rfl
                  | some rr =>
                    rw [hq3] at hoo
                    injection hoo with hoo
                    subst hoo
                    obtain ⟨C', e, g1, g2, g3, g4, g5⟩ := w1 rr hq3
                    refine funOk_done ⟨C', ?_, g1, g2, g3, g4, hSe.of g5⟩
                    rw [cal_of e, if_neg (by decide)]
                    rfl
              by_cases ceq : r1 = r2
              · rw [if_pos ceq] at ho
                rw [if_pos ceq, if_neg (by decide)]
                exact key 3 (by decide) o ho
              · rw [if_neg ceq] at ho
                rw [if_neg ceq, if_pos (by decide)]
                exact key 4 (by decide) o ho
        · -- EXISTS
          subst e
          rw [if_neg (by decide), if_neg (by decide), if_pos rfl] at ho
          obtain ⟨C', e, g⟩ := X1_giveExists_ h hc hA' hra hx
          rw [if_neg (by decide), if_neg (by decide), if_neg (by decide), if_pos (show w32 3 = 3 from rfl), if_pos p2.ob, cal_of hnm, if_pos hL.oe, cal_of e]
          by_cases c : 0 ≤ numL r1 ∧ numL r1 < 24
          · rw [if_pos c] at ho g
            injection ho with ho
            subst ho
            exact funOk_done ⟨C', rfl, g⟩
          · rw [if_neg c] at ho g
            injection ho with ho
            subst ho
            exact funOk_done ⟨C', rfl, g⟩
        · -- COUNT
          subst e
          rw [if_neg (by decide), if_neg (by decide), if_neg (by decide), if_pos rfl] at ho
          obtain ⟨C1, g⟩ := X1_countedMembers_ h hc hra hx
          rw [if_neg (by decide), if_neg (by decide), if_neg (by decide), if_neg (by decide), if_pos (show w32 4 = 4 from rfl), if_pos hU, bnd_eq, h901, if_pos p2.ob, cal_of hnm, if_pos hL.oe]
          by_cases c : 0 ≤ numL r1 ∧ numL r1 < 8
          · rw [if_pos c] at ho g
            injection ho with ho
            subst ho
            have hm := hMb (numL r1).toNat (by omega)
            obtain ⟨C', e2, g2⟩ := Gvn.put hL c0 g.2 (x := (nBits (eMb E (numL r1).toNat) 32 : Int)) (nBits_rng _)
            refine funOk_done ⟨C', ?_, g2⟩
            rw [cal_of g.1, cal_of (bitCount_ hm), drf_some, if_pos g.2.1.ob, cal_of e2]
          · rw [if_neg c] at ho g
            injection ho with ho
            subst ho
            obtain ⟨g1, g2⟩ := g
            subst g2
            obtain ⟨C', e2, g3⟩ := Gvn.put hL c0 (Gvn.rf hL hSe hra) (x := 0) (by decide)
            refine funOk_done ⟨C', ?_, g3⟩
            have hb0 : fbitCount 0 C1 = some (0, C1) := rfl
            rw [cal_of g1, cal_of hb0, drf_some, if_pos hra.ob, cal_of e2]
        · -- LIST
          subst e
          rw [if_neg (by decide), if_neg (by decide), if_neg (by decide), if_neg (by decide), if_pos rfl] at ho
          obtain ⟨C1, g⟩ := X1_countedMembers_ h hc hra hx
          rw [if_neg (by decide), if_neg (by decide), if_neg (by decide), if_neg (by decide), if_neg (by decide), if_pos (show w32 5 = 5 from rfl), if_pos p2.ob, cal_of hnm, if_pos hL.oe]
          by_cases c : 0 ≤ numL r1 ∧ numL r1 < 8
          · rw [if_pos c] at ho g
            injection ho with ho
            subst ho
            have hm := hMb (numL r1).toNat (by omega)
            obtain ⟨h1, hc1, fx1, dy1⟩ := h.plain hc (r := 0) (by decide) hra (g.2.2.1.mono (fun _ _ _ _ z => z.s2)) (s' := uSe s 0 0 0 (2 ^ (numL r1).toNat) 0) ⟨rfl, rfl, rfl, rfl, rfl⟩ g.2.2.2.2.2
            have hU1 := hL.W _ hU.1
            have hA1 : RunF b C1 r f ra := ⟨hr, hf41, (g.2.2.1.fR hU1 (by unfold sG sRow; omega)).trans h900, (g.2.2.1.fR hU1 (by unfold sG sRow; omega)).trans h901⟩
            obtain ⟨C', e2, g2, g3, g4, g5, g6⟩ := X1_giveList_ h1 hc1 hA1 g.2.1 hm
            refine funOk_done ⟨C', ?_, g2, g.2.2.1.tr g3, g4.trans g.2.2.2.1, g5.trans g.2.2.2.2.1, ?_⟩
            · rw [cal_of g.1, if_pos h1.1.oe, cal_of e2]
            · refine ⟨⟨g6.1.1.trans ?_, ?_⟩, ⟨g6.2.1.1.trans ?_, ?_⟩, ⟨g6.2.2.1.1.trans ?_, ?_⟩, ⟨g6.2.2.2.1.1.trans ?_, ?_⟩, ⟨g6.2.2.2.2.1.trans ?_, ?_⟩⟩
              · show (((aLk s ||| 0) ||| eMb E (numL r1).toNat : Nat) : Int) = ((aLk s ||| eMb E (numL r1).toNat : Nat) : Int)
                rw [uSe_0]
              · show aLk s ||| eMb E (numL r1).toNat < _
                exact Nat.or_lt_two_pow (n := 24) hSe.1.2 hm
              · show (((aCt s ||| 0) ||| 0 : Nat) : Int) = ((aCt s ||| 0 : Nat) : Int)
                rw [uSe_0, uSe_0]
              · show aCt s ||| 0 < _
                rw [uSe_0]; exact hSe.2.1.2
              · show (((aRd s ||| 0) ||| 0 : Nat) : Int) = ((aRd s ||| 0 : Nat) : Int)
                rw [uSe_0, uSe_0]
              · show aRd s ||| 0 < _
                rw [uSe_0]; exact hSe.2.2.1.2
              · show (((aCd s ||| 2 ^ (numL r1).toNat) ||| 0 : Nat) : Int) = ((aCd s ||| 2 ^ (numL r1).toNat : Nat) : Int)
                rw [uSe_0]
              · exact or_8 hSe.2.2.2.1.2 (by omega)
              · show (((aUs s ||| 0) ||| 0 : Nat) : Int) = ((aUs s ||| 0 : Nat) : Int)
                rw [uSe_0, uSe_0]
              · show aUs s ||| 0 < _
                rw [uSe_0]; exact hSe.2.2.2.2.2
          · rw [if_neg c] at ho g
            injection ho with ho
            subst ho
            obtain ⟨g1, g2⟩ := g
            subst g2
            obtain ⟨C', e2, g2, g3, g4, g5, g6⟩ := X1_giveList_ h hc hA' hra (S := 0) (by decide)
            have el : lsA 0 24 0 acc = acc := by
              have : ∀ m i, lsA 0 m i acc = acc := by
                intro m
                induction m with
                | zero => intro i; rfl
                | succ m ih => intro i; unfold lsA; rw [if_neg (by rw [Nat.zero_testBit]; decide)]; exact ih _
              exact this 24 0
            rw [el] at g2
            refine funOk_done ⟨C', ?_, g2, g3, g4, g5, ?_⟩
            · rw [cal_of g1, if_pos hL.oe]
              rw [show ((0 : Nat) : Int) = 0 from rfl] at e2
              rw [cal_of e2]
            · refine ⟨⟨g6.1.1.trans ?_, hSe.1.2⟩, ⟨g6.2.1.1.trans ?_, hSe.2.1.2⟩, ⟨g6.2.2.1.1.trans ?_, hSe.2.2.1.2⟩, ⟨g6.2.2.2.1.1.trans ?_, hSe.2.2.2.1.2⟩, ⟨g6.2.2.2.2.1.trans ?_, hSe.2.2.2.2.2⟩⟩
              · show ((aLk s ||| 0 : Nat) : Int) = _
                rw [uSe_0]
              · show ((aCt s ||| 0 : Nat) : Int) = _
                rw [uSe_0]
              · show ((aRd s ||| 0 : Nat) : Int) = _
                rw [uSe_0]
              · show ((aCd s ||| 0 : Nat) : Int) = _
                rw [uSe_0]
              · show ((aUs s ||| 0 : Nat) : Int) = _
                rw [uSe_0]
        · -- MODULE
          subst e
          rw [if_neg (by decide), if_neg (by decide), if_neg (by decide), if_neg (by decide), if_neg (by decide)] at ho
          have hm := X1_giveModule_ h hc hf hP hPS hA' hra hMo hx ho
          rw [if_neg (by decide), if_neg (by decide), if_neg (by decide), if_neg (by decide), if_neg (by decide), if_neg (by decide), if_pos (show w32 6 = 6 from rfl), if_pos p2.ob, cal_of hnm, if_pos hL.oe]
          refine ⟨fun z => ?_, fun j z => ?_⟩
          · obtain ⟨C', e1, e2⟩ := hm.1 z
            exact ⟨C', by rw [cal_of e1]; rfl, e2⟩
          · obtain ⟨C', e1, e2⟩ := hm.2 j z
            exact ⟨C', by rw [cal_of e1]; rfl, e2⟩
end FUN2
