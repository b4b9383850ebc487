/-! THE CALL read -/
section RDC
variable {b kc : Nat} {M M' : Md} {C C' : Cd} {t : Nat}
theorem RR.m36' (h : RR b kc M C) (x : Int) : RR b kc (mSet M 36 x) C := (h.m36 (sc36 M x)).rb (by
  have b1 := h.2.2.2.1
  unfold RB at b1 ⊢
  rw [mS2 M _ (by decide), mS2 M _ (by decide), mS2 M _ (by decide)]
  exact b1)
theorem Rm.rml (h : Rm b C C') (h1 : csz C ≤ csz C' ∧ csl C ≤ csl C') : RmL b C C' := ⟨by have := h.1; omega, by have := h.2.1; omega, h1.1, h1.2⟩
theorem call_read (h : RR b kc M C) (hk : kc ≤ 900) {x w : Int} (hx : I32 x) : CallE b kc C cd2 (fX11_read b x w C) (fX12_read x w M) := by
  have hL := h.1.1
  by_cases c : 0 ≤ x ∧ x < 24
  · obtain ⟨t, rfl⟩ : ∃ t : Nat, x = (t : Int) := ⟨x.toNat, by omega⟩
    have ht : t < 24 := by omega
    obtain ⟨VA, PA, LE, AA, nv, np, na, hH, hK, hc⟩ := h.at_ ht
    obtain ⟨nv1, np1⟩ := hH.nv120
    have hP := X12_hasPage_ (M := M) ht (by have := hH.t6 ht; omega)
    rcases hc with ⟨c1, c2⟩ | ⟨p, p1, p2, p3⟩
    · refine h.exc (e := 2) (M' := mSet M 36 1) ?_ ?_ (sc36 M 1) (mS1 _ _ _) (by decide)
      · unfold fX11_read
        rw [if_pos hL.o, calx_ofx (X11_pageOf_no hL ht c2)]
      · rcases hP with ⟨e, q⟩ | ⟨e, q⟩
        · exact absurd c1 q
        · unfold fX12_read
          rw [cal_of e, bnd_eq, if_pos (by decide)]
          dsimp only
          rw [bnd_eq, mS1, if_neg (by decide)]
    · have e : fX12_hasPage (t : Int) M = some (1, M) := by
        rcases hP with ⟨e, q⟩ | ⟨e, q⟩
        · exact e
        · exact absurd (by rw [p2]; omega) q
      have hne : (mSet M 36 0).2 6 t ≠ -1 := by show M.2 6 t ≠ -1; rw [p2]; omega
      have h3 := h.m36' 0
      have m36 : (mSet M 36 0).1 36 = 0 := mS1 _ _ _
      have g27 : (mSet M 36 0).2 27 t = M.2 27 t := rfl
      have hsc := sc36 M 0
      obtain ⟨r, lk, ct, rd, cd, us, ⟨g1, g1'⟩, g2, g3, g4, g5, g6, g7⟩ := h.2.2.2.2.2.2.2 t ht
      obtain ⟨C', M', acc, r1, r2, r3, r4, r5, r6, r7, r8, r9⟩ := h3.render (by omega) ht hne
      have hL' := r3.1.1
      have hold := h3.old_ (t := t) (by omega) ht hne
      have r36 := (r6 36 (by decide) (by decide)).trans m36
      have hr3 : RR b (kc + 1) (mSet M 36 0) C := h.m36 (sc36 M 0)
      have e30 : M.2 27 t = 1 → (mSet M 36 0).2 30 t = (r.length : Int) := fun z => (g6 z).1.1
      have yA : (M.2 27 t = 0 ∨ (M.2 27 t = 1 ∧ w32 w = 0 ∧ wqC b C t = true)) → fX12_read (t : Int) w M = some ((acc.length : Int), M') := by
        intro hh
        unfold fX12_read
        rw [cal_of e, bnd_eq, if_neg (by decide)]
        dsimp only
        rw [bnd_eq, m36, if_pos (by decide), if_pos (inM (n := 24) rfl ht (by decide)), bnd_eq, bnd_eq, ix_n (by omega), g27]
        rcases hh with z | ⟨z, z2, z3⟩
        · rw [z, if_pos (by decide)]
          dsimp only
          rw [cal_of r2, if_pos (inM (n := 24) rfl ht (by decide)), r9]
        · rw [z, if_neg (by decide), if_neg (fun y => y z2)]
          rcases hold with ⟨q1, q2⟩ | ⟨q1, q2⟩
          · rw [cal_of q1, if_neg (by decide)]
            dsimp only
            rw [cal_of r2, if_pos (inM (n := 24) rfl ht (by decide)), r9]
          · exact absurd z3 q2
      have yB : (M.2 27 t = 1 ∧ (w32 w ≠ 0 ∨ ¬ wqC b C t = true)) → fX12_read (t : Int) w M = some ((r.length : Int), mSet M 36 0) := by
        intro ⟨z, z2⟩
        have e30 := e30 z
        unfold fX12_read
        rw [cal_of e, bnd_eq, if_neg (by decide)]
        dsimp only
        rw [bnd_eq, m36, if_pos (by decide), if_pos (inM (n := 24) rfl ht (by decide)), bnd_eq, bnd_eq, ix_n (by omega), g27, z, if_neg (by decide)]
        by_cases cw : w32 w = 0
        · rw [if_neg (fun y => y cw)]
          rcases hold with ⟨q1, q2⟩ | ⟨q1, q2⟩
          · exact absurd q2 (z2.elim (fun y => absurd cw y) id)
          · rw [cal_of q1, if_pos (by decide)]
            dsimp only
            rw [if_pos (inM (n := 24) rfl ht (by decide)), e30]
        · rw [if_pos cw]
          dsimp only
          rw [if_pos (inM (n := 24) rfl ht (by decide)), e30]
      have xA : (cI C 701 (b + 13 + 6 * t + 1) = 0 ∨ (cI C 701 (b + 13 + 6 * t + 1) = 1 ∧ cI C 702 (b + 13 + 6 * t + 1) = 1 ∧ w32 w = 0)) → fX11_read b (t : Int) w C = some (.inl (acc.length : Int), C') := by
        intro hh
        unfold fX11_read
        rw [if_pos hL.o, calx_of (X11_pageOf_in hL ht p3), if_pos hL.o, bnd_eq, hL.r1, drf_some, if_pos ⟨hL.ot, by rw [hL.nt]; exact inR_n ht (by decide)⟩, bnd_eq, hL.tt ht, drf_some, if_pos (hL.to ht), bnd_eq, hL.tr ht, drf_some, if_pos (hL.ro ht), bnd_eq, bnd_eq]
        rcases hh with z | ⟨z, z2, z3⟩
        · rw [z, if_pos (by decide)]
          dsimp only
          rw [if_pos hL.o, cal_of r1]
          rw [if_pos (hL'.to ht), bnd_eq, hL'.tr ht, drf_some, if_pos (hL'.ro ht), bnd_eq, hL'.rr ht, drf_some, if_pos r8.1.1, r8.2.1]
        · rw [z, if_neg (by decide), if_pos (hL.to ht), bnd_eq, drf_some, if_pos (hL.ro ht), z2, if_neg (by decide), if_neg (fun y => y z3)]
          dsimp only
          rw [if_pos hL.o, cal_of r1]
          rw [if_pos (hL'.to ht), bnd_eq, hL'.tr ht, drf_some, if_pos (hL'.ro ht), bnd_eq, hL'.rr ht, drf_some, if_pos r8.1.1, r8.2.1]
      have xB : (cI C 701 (b + 13 + 6 * t + 1) = 1 ∧ (cI C 702 (b + 13 + 6 * t + 1) = 0 ∨ (cI C 702 (b + 13 + 6 * t + 1) = 1 ∧ w32 w ≠ 0))) → fX11_read b (t : Int) w C = some (.inl (r.length : Int), C) := by
        intro ⟨z, hh⟩
        unfold fX11_read
        rw [if_pos hL.o, calx_of (X11_pageOf_in hL ht p3), if_pos hL.o, bnd_eq, hL.r1, drf_some, if_pos ⟨hL.ot, by rw [hL.nt]; exact inR_n ht (by decide)⟩, bnd_eq, hL.tt ht, drf_some, if_pos (hL.to ht), bnd_eq, hL.tr ht, drf_some, if_pos (hL.ro ht), bnd_eq, bnd_eq, z, if_neg (by decide), if_pos (hL.to ht), bnd_eq, drf_some, if_pos (hL.ro ht)]
        rcases hh with z2 | ⟨z2, z3⟩
        · rw [z2, if_pos (by decide)]
          dsimp only
          rw [if_pos (hL.to ht), bnd_eq, hL.tr ht, drf_some, if_pos (hL.ro ht), bnd_eq, hL.rr ht, drf_some, if_pos g3.1.1, g3.2.1]
        · rw [z2, if_neg (by decide), if_pos z3]
          dsimp only
          rw [if_pos (hL.to ht), bnd_eq, hL.tr ht, drf_some, if_pos (hL.ro ht), bnd_eq, hL.rr ht, drf_some, if_pos g3.1.1, g3.2.1]
      have pn : cR C 1203 (b + 13 + 6 * t) ≠ none := by rw [p3]; exact fun z => absurd z (by intro y; cases y)
      have wq : wqC b C t = true ↔ (cI C 701 (b + 13 + 6 * t + 1) = 0 ∨ cI C 702 (b + 13 + 6 * t + 1) ≠ 0) := by
        unfold wqC
        rw [decide_eq_true_iff]
        exact ⟨fun z => z.2, fun z => ⟨pn, z⟩⟩
      have fA : fX11_read b (t : Int) w C = some (.inl (acc.length : Int), C') → fX12_read (t : Int) w M = some ((acc.length : Int), M') → CallE b kc C cd2 (fX11_read b (t : Int) w C) (fX12_read (t : Int) w M) := fun a d => ⟨M', C', _, d, r3, r4.rml r5, Or.inl ⟨a, r36⟩⟩
      have fB : fX11_read b (t : Int) w C = some (.inl (r.length : Int), C) → fX12_read (t : Int) w M = some ((r.length : Int), mSet M 36 0) → CallE b kc C cd2 (fX11_read b (t : Int) w C) (fX12_read (t : Int) w M) := fun a d => h.ret a d hsc m36
      rcases g1' with z | z
      · exact fA (xA (Or.inl (g1.trans z))) (yA (Or.inl z))
      · rcases g2 with z2 | z2
        · refine fB (xB ⟨g1.trans z, Or.inl z2⟩) (yB ⟨z, Or.inr (fun y => ?_)⟩)
          rcases wq.1 y with u | u
          · rw [g1, z] at u; exact absurd u (by decide)
          · exact u z2
        · by_cases cw : w32 w = 0
          · exact fA (xA (Or.inr ⟨g1.trans z, z2, cw⟩)) (yA (Or.inr ⟨z, cw, wq.2 (Or.inr (by rw [z2]; decide))⟩))
          · exact fB (xB ⟨g1.trans z, Or.inr ⟨z2, cw⟩⟩) (yB ⟨z, Or.inl cw⟩)
  · refine h.exc (e := 2) (M' := mSet M 36 1) ?_ ?_ (sc36 M 1) (mS1 _ _ _) (by decide)
    · unfold fX11_read
      rw [if_pos hL.o, calx_ofx (X11_pageOf_out hL hx c)]
    · unfold fX12_read
      rw [cal_of (X12_hasPage_out (M := M) hx c), bnd_eq, if_pos (by decide)]
      dsimp only
      rw [bnd_eq, mS1, if_neg (by decide)]
end RDC
