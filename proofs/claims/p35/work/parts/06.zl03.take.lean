/-! A RENDERING TAKES WHAT WAS EXPANDED -/
section TAK
variable {b kc : Nat} {M M' : Md} {C C' : Cd} {t : Nat}
theorem aal_all : ∀ (q r : List Int), r.length + q.length ≤ 150 → aal r q = r ++ q := by
  intro q
  induction q with
  | nil => intro r _; show r = r ++ []; rw [List.append_nil]
  | cons x q ih =>
    intro r h
    rw [List.length_cons] at h
    show aal (apl r x) q = r ++ x :: q
    have e : apl r x = r ++ [x] := by unfold apl; rw [if_pos (by omega)]
    rw [e, ih _ (by rw [List.length_append, List.length_cons, List.length_nil]; omega), List.append_assoc]
    rfl
def sTk (b t q k a : Nat) : Prop := (q = 0 ∧ (701 ≤ k ∧ k ≤ 707) ∧ a = b + 13 + 6 * t + 1) ∨ sRow (b + 13 + 6 * t + 2) q k a
theorem sTk.mu {q k a : Nat} (h : sTk b t q k a) : Mu b q k a := by
  unfold sTk sRow at h
  unfold Mu
  omega
theorem X4_take_ (hL : Lay b C) (ht : t < 24) {acc : List Int} (hq : RowV C (b + 11) acc) : ∃ C', fX4_take (b + 13 + 6 * t + 1) (some (b + 10)) C = some ((), C') ∧ Fp (sTk b t) C C' ∧ csz C' = csz C ∧ csl C' = csl C ∧ RowV C' (b + 13 + 6 * t + 2) acc ∧ cI C' 701 (b + 13 + 6 * t + 1) = 1 ∧ cI C' 702 (b + 13 + 6 * t + 1) = 0 ∧ (cI C' 703 (b + 13 + 6 * t + 1) = cI C 703 (b + 10) ∧ cI C' 704 (b + 13 + 6 * t + 1) = cI C 704 (b + 10) ∧ cI C' 705 (b + 13 + 6 * t + 1) = cI C 705 (b + 10) ∧ cI C' 706 (b + 13 + 6 * t + 1) = cI C 706 (b + 10) ∧ cI C' 707 (b + 13 + 6 * t + 1) = cI C 707 (b + 10)) := by
  have W := hL.W
  have hz := hL.sz
  obtain ⟨C1, e1, r1, f1, s1, l1⟩ := X5_clear_' W (hL.rw_ ht)
  have f1' : Fp (sTk b t) C C1 := f1.mono (fun _ _ _ _ z => Or.inr z)
  have hL1 := hL.keep (f1'.mono (fun _ _ _ _ z => z.mu))
  have hq1 := hq.fp W f1 (by unfold sRow; omega) (by unfold sRow; omega) (by unfold sRow; omega) (by unfold sRow; omega)
  obtain ⟨C2, e2, r2, f2, s2, l2⟩ := X5_addAll_ hL1.W (show b + 13 + 6 * t + 2 ≠ b + 11 by omega) r1 hq1
  rw [aal_all acc [] (by have := hq.2.2.2.1.1; rw [List.length_nil]; omega), List.nil_append] at r2
  have f2' : Fp (sTk b t) C C2 := f1'.tr (f2.mono (fun _ _ _ _ z => Or.inr z))
  have hL2 := hL.keep (f2'.mono (fun _ _ _ _ z => z.mu))
  have od := hL2.ro ht
  have oe := hL2.od
  have ev : ∀ k, cI C2 k (b + 10) = cI C k (b + 10) := fun k => f2'.fI (by omega) (by unfold sTk sRow; omega)
  have hs : ∀ {k : Nat}, 701 ≤ k ∧ k ≤ 707 → sTk b t 0 k (b + 13 + 6 * t + 1) := fun h => Or.inl ⟨rfl, h, rfl⟩
  have f3 : Fp (sTk b t) C (cSetI (cSetI (cSetI (cSetI (cSetI (cSetI (cSetI C2 701 (b + 13 + 6 * t + 1) 1) 702 (b + 13 + 6 * t + 1) 0) 703 (b + 13 + 6 * t + 1) (cI C 703 (b + 10))) 704 (b + 13 + 6 * t + 1) (cI C 704 (b + 10))) 705 (b + 13 + 6 * t + 1) (cI C 705 (b + 10))) 706 (b + 13 + 6 * t + 1) (cI C 706 (b + 10))) 707 (b + 13 + 6 * t + 1) (cI C 707 (b + 10))) :=
    ((((((f2'.sI (hs (by decide))).sI (hs (by decide))).sI (hs (by decide))).sI (hs (by decide))).sI (hs (by decide))).sI (hs (by decide))).sI (hs (by decide))
  have pe : ∀ (D : Cd) (k k' : Nat) (v : Int), cI (cSetI D k (b + 13 + 6 * t + 1) v) k' (b + 10) = cI D k' (b + 10) := fun D k k' v => cI_I2 _ _ (Or.inr (by omega))
  have pi : ∀ (D : Cd) (k : Nat) (v : Int) (x y : Nat), isO D x y → isO (cSetI D k (b + 13 + 6 * t + 1) v) x y := fun D k v x y h => h
  refine ⟨_, ?_, f3, s2.trans s1, l2.trans l1, ?_, ?_, ?_, ?_, ?_, ?_, ?_, ?_⟩
  · unfold fX4_take
    rw [if_pos (hL.ro ht), bnd_eq, hL.rr ht, drf_some, if_pos (hL.rw_ ht).1, cal_of e1, if_pos (hL1.ro ht), bnd_eq, hL1.rr ht, drf_some, if_pos hL1.od, bnd_eq, hL1.x8, drf_some, if_pos (hL1.rw_ ht).1, cal_of e2]
    rw [if_pos od, bnd_eq, if_pos (pi _ _ _ _ _ od), bnd_eq]
    rw [if_pos (pi _ _ _ _ _ (pi _ _ _ _ _ oe)), if_pos (pi _ _ _ _ _ (pi _ _ _ _ _ od)), pe, pe, ev, bnd_eq]
    rw [if_pos (pi _ _ _ _ _ (pi _ _ _ _ _ (pi _ _ _ _ _ oe))), if_pos (pi _ _ _ _ _ (pi _ _ _ _ _ (pi _ _ _ _ _ od))), pe, pe, pe, ev, bnd_eq]
    rw [if_pos (pi _ _ _ _ _ (pi _ _ _ _ _ (pi _ _ _ _ _ (pi _ _ _ _ _ oe)))), if_pos (pi _ _ _ _ _ (pi _ _ _ _ _ (pi _ _ _ _ _ (pi _ _ _ _ _ od)))), pe, pe, pe, pe, ev, bnd_eq]
    rw [if_pos (pi _ _ _ _ _ (pi _ _ _ _ _ (pi _ _ _ _ _ (pi _ _ _ _ _ (pi _ _ _ _ _ oe))))), if_pos (pi _ _ _ _ _ (pi _ _ _ _ _ (pi _ _ _ _ _ (pi _ _ _ _ _ (pi _ _ _ _ _ od))))), pe, pe, pe, pe, pe, ev, bnd_eq]
    rw [if_pos (pi _ _ _ _ _ (pi _ _ _ _ _ (pi _ _ _ _ _ (pi _ _ _ _ _ (pi _ _ _ _ _ (pi _ _ _ _ _ oe)))))), if_pos (pi _ _ _ _ _ (pi _ _ _ _ _ (pi _ _ _ _ _ (pi _ _ _ _ _ (pi _ _ _ _ _ (pi _ _ _ _ _ od)))))), pe, pe, pe, pe, pe, pe, ev, bnd_eq]
  · exact r2.fp hL2.W (S := fun q k a => q = 0 ∧ 701 ≤ k ∧ k ≤ 707) ((((((((Fp.rf hL2.W).sI (by decide)).sI (by decide)).sI (by decide)).sI (by decide)).sI (by decide)).sI (by decide)).sI (by decide)) (by omega) (by omega) (by omega) (by omega)
  · rw [cI_I2 _ _ (Or.inl (by decide)), cI_I2 _ _ (Or.inl (by decide)), cI_I2 _ _ (Or.inl (by decide)), cI_I2 _ _ (Or.inl (by decide)), cI_I2 _ _ (Or.inl (by decide)), cI_I2 _ _ (Or.inl (by decide)), cI_I1]
  · rw [cI_I2 _ _ (Or.inl (by decide)), cI_I2 _ _ (Or.inl (by decide)), cI_I2 _ _ (Or.inl (by decide)), cI_I2 _ _ (Or.inl (by decide)), cI_I2 _ _ (Or.inl (by decide)), cI_I1]
  · rw [cI_I2 _ _ (Or.inl (by decide)), cI_I2 _ _ (Or.inl (by decide)), cI_I2 _ _ (Or.inl (by decide)), cI_I2 _ _ (Or.inl (by decide)), cI_I1]
  · rw [cI_I2 _ _ (Or.inl (by decide)), cI_I2 _ _ (Or.inl (by decide)), cI_I2 _ _ (Or.inl (by decide)), cI_I1]
  · rw [cI_I2 _ _ (Or.inl (by decide)), cI_I2 _ _ (Or.inl (by decide)), cI_I1]
  · rw [cI_I2 _ _ (Or.inl (by decide)), cI_I1]
  · rw [cI_I1]
end TAK
