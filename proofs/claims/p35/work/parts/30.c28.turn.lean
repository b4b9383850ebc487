/-! THE LAW'S TURN: what comes behind a deed -/
section TRN
variable {b kc N np t : Nat} {E : Rw} {G : Md} {C : Cd} {T : Nat → List Nat} {q : Nat → Nat}
/-- a turn: the next round's state -/
def TurnO (b kc : Nat) (E : Rw) (C : Cd) (R : Option (Int × S3)) (L : Int → Int → Rw → Cd → (Nat → Nat) → Option (Int × S3)) (v14 : Int) : Prop := ∃ E1 C1 q1 G1 N1 np1 T1, R = L 1 (v14 + 1) E1 C1 q1 ∧ RR b (kc + 1) G1 C1 ∧ LW N1 np1 T1 E1 G1 ∧ IsR b C C1 (if w32 (remI v14 5) < w32 4 then 600 else 8657) (if w32 (remI v14 5) < w32 4 then 11000 else 171440) ∧ E 0 3 ≤ E1 0 3 ∧ E1 0 3 ≤ E 0 3 + 100
theorem T_1788 {L : Int → Int → Rw → Cd → (Nat → Nat) → Option (Int × S3)} {v14 x17 : Int} {R : Option (Int × S3)} (hk : kc ≤ 800) (hx : 0 ≤ x17 ∧ x17 < 100000000) (d : DeedO b kc E C R (fun v E C q => fW_law_1788 b L v14 x17 v E C q)) : TurnO b kc E C R L v14 := by
  obtain ⟨E1, C1, q1, G1, E2, N1, np1, T1, e, h, st, hL, r, s3, s4⟩ := d
  by_cases c : w32 (remI v14 5) < w32 4
  · refine ⟨E2, C1, q1, G1, N1, np1, T1, ?_, h, hL, by rw [if_pos c, if_pos c]; exact r, s3, s4⟩
    rw [e]
    unfold fW_law_1788 fW_law_1842 fW_law_1841 fW_law_1837
    dsimp only
    rw [cal1_of st, bnd_eq, bnd_eq, if_neg (by decide), bnd_eq, if_pos c]
  · obtain ⟨E3, C3, q3, G3, w1, w2, w3, w4, w5, w6⟩ := W_isWiki (q := q1) h hL (by omega) hx
    have e0 := w6 0 (by decide)
    refine ⟨E3, C3, q3, G3, N1, np1, T1, ?_, w2, w3, by rw [if_neg c, if_neg c]; exact (r.tr w5).mono (by omega) (by omega), by rw [e0]; exact s3, by rw [e0]; exact s4⟩
    rw [e]
    unfold fW_law_1788 fW_law_1842 fW_law_1841 fW_law_1837
    dsimp only
    rw [cal1_of st, bnd_eq, bnd_eq, if_neg (by decide), bnd_eq, if_neg c, cal3_of w1, if_neg (by decide)]
end TRN
