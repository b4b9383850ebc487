/-! THE RELATION: calls that change nothing that lasts -/
section QUI
variable {b kc : Nat} {M M' : Md} {C C' : Cd} {S : Nat → Nat → Nat → Prop} {VA PA LE AA : Nat → Nat} {nv np na t : Nat}
/-- only what doesn't last is other, in the reference -/
def ScO (M M' : Md) : Prop := (∀ j, j ≤ 35 → M'.1 j = M.1 j) ∧ (∀ k, k ≤ 36 → M'.2 k = M.2 k) ∧ (M'.1 68 = M.1 68 ∨ (0 ≤ M'.1 68 ∧ M'.1 68 < 16777216)) ∧ (M'.1 71 = M.1 71 ∨ (M'.1 71 = 0 ∨ (1 ≤ M'.1 71 ∧ M'.1 71 ≤ 30)))
theorem ScO.rf : ScO M M := ⟨fun _ _ => rfl, fun _ _ => rfl, Or.inl rfl, Or.inl rfl⟩
theorem ScO.tr {M1 M2 : Md} (h : ScO M M1) (h1 : ScO M1 M2) : ScO M M2 := ⟨fun j a => (h1.1 j a).trans (h.1 j a), fun k a => (h1.2.1 k a).trans (h.2.1 k a), by
  rcases h1.2.2.1 with z | z
  · rcases h.2.2.1 with y | y
    · exact Or.inl (z.trans y)
    · exact Or.inr (by rw [z]; exact y)
  · exact Or.inr z, by
  rcases h1.2.2.2 with z | z
  · rcases h.2.2.2 with y | y
    · exact Or.inl (z.trans y)
    · exact Or.inr (by rw [z]; exact y)
  · exact Or.inr z⟩
theorem ScO.set {j : Nat} {x : Int} (hj : 36 ≤ j ∧ j ≠ 71 ∧ j ≠ 68) : ScO M (mSet M j x) := ⟨fun i a => mS2 _ _ (by omega), fun _ _ => rfl, Or.inl (mS2 _ _ (fun e => hj.2.2 e.symm)), Or.inl (mS2 _ _ (fun e => hj.2.1 e.symm))⟩
theorem ScO.vs (h : ScO M M') : VSame M M' := ⟨fun j a => h.1 j (by omega), fun k a => h.2.1 k (by omega)⟩
/-- only what doesn't last is touched, in the class -/
def Qt (b : Nat) (S : Nat → Nat → Nat → Prop) : Prop := ∀ q k a, S q k a → a < b + 854 → a = b + 1 ∨ (b + 6 ≤ a ∧ a ≤ b + 12) ∨ (b + 169 ≤ a ∧ a < b + 845) ∨ b + 848 ≤ a
theorem Qt.no (h : Qt b S) {q k a : Nat} (ha : a = b ∨ (b + 2 ≤ a ∧ a ≤ b + 5) ∨ (b + 13 ≤ a ∧ a < b + 169) ∨ (b + 845 ≤ a ∧ a < b + 848)) : ¬ S q k a := fun z => by have := h q k a z (by omega); omega
theorem RB.up (h : RB kc M) (o : ScO M M') : RB (kc + 1) M' := by
  obtain ⟨⟨h1, h2⟩, h3, h4, h5⟩ := h
  unfold RB
  rw [o.1 5 (by decide), o.1 13 (by decide), o.1 22 (by decide)]
  exact ⟨⟨h1, by omega⟩, by omega, h4, by omega⟩
theorem RD.low {dn : Nat} {g : Nat → Int} (h : RD b M C dn g) (W : Wf C) (f : Fp S C C') (s1 : ¬ S 1 1100 (b + 845)) (s2 : ¬ S 1 1101 (b + 845)) (s3 : ¬ S 0 1102 (b + 845)) (s4 : ¬ S 2 0 (b + 845 + 1)) (e1 : M'.1 1 = M.1 1) (e2 : M'.2 0 = M.2 0) : RD b M' C' dn g := by
  obtain ⟨h1, h2, h3, h4, h5⟩ := h
  exact ⟨e1.trans h1, h2, h3.fp W f s1 s2 s3 s4, h4, fun k hk => by rw [e2]; exact h5 k hk⟩
theorem RS.low (h : RS b M C) (hL : Lay b C) (f : Fp S C C') (s1 : ¬ S 0 1409 b) (s2 : ¬ S 0 1406 b) (s3 : ¬ S 0 1408 b) (e : ∀ j, (j = 2 ∨ j = 5 ∨ j = 13) → M'.1 j = M.1 j) (e71 : M'.1 71 = M.1 71 ∨ (M'.1 71 = 0 ∨ (1 ≤ M'.1 71 ∧ M'.1 71 ≤ 30))) (e68 : M'.1 68 = M.1 68 ∨ (0 ≤ M'.1 68 ∧ M'.1 68 < 16777216)) : RS b M' C' := by
  have hz := hL.sz
  obtain ⟨h1, h2, h3, h4, h5⟩ := h
  unfold RS
  rw [e 2 (by decide), e 5 (by decide), e 13 (by decide), f.fI (by omega) s1, f.fI (by omega) s2, f.fI (by omega) s3]
  refine ⟨h1, h2, h3, ?_, ?_⟩
  · rcases e71 with z | z
    · rw [z]; exact h4
    · exact z
  rcases e68 with z | z
  · rw [z]; exact h5
  · exact z
/-- what changes nothing that lasts -/
theorem RR.quiet (h : RR b kc M C) (f : Fp S C C') (hq : Qt b S) (hs : HS b C S) (hl : RLy b C') (o : ScO M M') : RR b (kc + 1) M' C' := by
  obtain ⟨h1, ⟨dn, g, h2⟩, h3, h4, h5, h6, ⟨VA, PA, LE, AA, nv, np, na, h7, h8⟩, h9⟩ := h
  have hL := h1.1
  have no : ∀ {q k a : Nat}, (a = b ∨ (b + 2 ≤ a ∧ a ≤ b + 5) ∨ (b + 13 ≤ a ∧ a < b + 169) ∨ (b + 845 ≤ a ∧ a < b + 848)) → ¬ S q k a := fun ha => hq.no ha
  refine ⟨hl, ⟨dn, g, h2.low hL.W f (no (by omega)) (no (by omega)) (no (by omega)) (no (by omega)) (o.1 1 (by decide)) (o.2.1 0 (by decide))⟩, h3.low hL f (no (Or.inl rfl)) (no (Or.inl rfl)) (no (Or.inl rfl)) (fun j hj => o.1 j (by omega)) o.2.2.2 o.2.2.1, h4.up o, fun t ht => (h5 t ht).low hL ht f (no (by omega)) (no (by omega)) (no (by omega)) (no (by omega)) (fun k hk => o.2.1 k (by omega)), fun j hj => (h6 j hj).low hL hj f (no (by omega)) (no (by omega)) (no (by omega)) (fun k hk => o.2.1 k (by omega)), ⟨VA, PA, LE, AA, nv, np, na, h7.low hL.W hL h1.2.1 f hs o.vs (Int.le_of_eq (o.1 5 (by decide)).symm) (no (Or.inl rfl)) (fun t ht => no (by omega)), h8.same o.vs (o.1 22 (by decide)) (fun k hk => o.2.1 k (by omega))⟩, fun t ht => ?_⟩
  obtain ⟨r, lk, ct, rd, cd, us, hg⟩ := h9 t ht
  exact ⟨r, lk, ct, rd, cd, us, hg.low hL ht f (fun k _ _ => no (by omega)) (no (by omega)) (no (by omega)) (no (by omega)) (no (by omega)) (fun k hk => o.2.1 k (by omega))⟩
/-- the fast part, where nothing is touched -/
theorem RLy.low (h : RLy b C) (f : Fp S C C') (hm : ∀ q k a, a < csz C → S q k a → Mu b q k a) (s1 : ¬ S 1 800 (b + 6)) (s2 : ¬ S 0 801 (b + 6)) (s3 : ¬ S 0 802 (b + 6)) (s4 : ¬ S 2 0 (b + 6 + 1)) (t1 : ∀ k, ¬ S 1 k (b + 848)) (t2 : ¬ S 0 1102 (b + 848)) (t3 : ¬ S 2 0 (b + 848 + 1)) (t4 : ∀ k, ¬ S 1 k (b + 851)) (t5 : ¬ S 0 1102 (b + 851)) (t6 : ¬ S 2 0 (b + 851 + 1)) (r1 : ∀ f, f < 41 → ¬ S 3 0 (b + 169 + 4 * f + 2)) (r2 : ∀ a, a < csz C → b + 854 ≤ a → ¬ S 1 800 a) : RLy b C' := by
  obtain ⟨h1, h2, h3, ⟨g, n, h4⟩, g2, n2, h5⟩ := h
  have W := h1.W
  have hz := h1.sz
  refine ⟨h1.keep (f.mono (fun q k a ha z => hm q k a ha z)), fun ff p a hf hp ha => ?_, h3.fp W f s1 s2 s3 s4, ⟨g, n, h4.fp W f (t1 _) (t1 _) t2 t3⟩, g2, n2, h5.fp W f (t4 _) (t4 _) t5 t6⟩
  have pk : ∀ f', f' < 41 → ∀ x, cP C' (b + 169 + 4 * f' + 2) x = cP C (b + 169 + 4 * f' + 2) x := fun f' hf' x => f.fP (by omega) (r1 f' hf') x
  rw [pk ff hf] at ha
  obtain ⟨q1, q2, q3⟩ := h2 ff p a hf hp ha
  exact ⟨q1.fp W f (r2 a (W a q1.1.1) q2), q2, fun f' p' hf' hp' z => q3 f' p' hf' hp' (by rw [← pk f' hf']; exact z)⟩
theorem RLy.nil (h : RLy b C) (f : Fp (fun _ _ _ => False) C C') : RLy b C' := h.low f (fun _ _ _ _ z => z.elim) (fun z => z) (fun z => z) (fun z => z) (fun z => z) (fun _ z => z) (fun z => z) (fun z => z) (fun _ z => z) (fun z => z) (fun z => z) (fun _ _ z => z) (fun _ _ _ z => z)
theorem RR.nil (h : RR b kc M C) (f : Fp (fun _ _ _ => False) C C') (o : ScO M M') : RR b (kc + 1) M' C' := h.quiet f (fun _ _ _ z => z.elim) (fun _ _ _ _ z => z.elim) (h.1.nil f) o
/-- a call with exceptions; their numbers: 0 argument, 1 state, 2 index -/
def CallE (b kc : Nat) (C : Cd) (code : Nat → Int) (X : Option ((Int ⊕ Nat) × Cd)) (Y : Option (Int × Md)) : Prop :=
  ∃ M' C' y, Y = some (y, M') ∧ RR b (kc + 1) M' C' ∧ RmL b C C' ∧ ((X = some (.inl y, C') ∧ M'.1 36 = 0) ∨ ∃ e, X = some (.inr e, C') ∧ M'.1 36 = code e ∧ e < 3)
def CallP (b kc : Nat) (C : Cd) (X : Option (Int × Cd)) (Y : Option (Int × Md)) : Prop := ∃ M' C' y, Y = some (y, M') ∧ RR b (kc + 1) M' C' ∧ RmL b C C' ∧ X = some (y, C')
def cd0 (e : Nat) : Int := if e = 0 then 1 else 2
def cd1 (e : Nat) : Int := if e = 2 then 1 else if e = 0 then 2 else 3
def cd2 (e : Nat) : Int := if e = 2 then 1 else 2
theorem nRow_same (h : ∀ f, f < 41 → ∀ x, cP C' (b + 169 + 4 * f + 2) x = cP C (b + 169 + 4 * f + 2) x) : nRow b C' = nRow b C := by
  unfold nRow
  exact cnt_congr (fun k hk => by rw [h (k / 30) (by omega)])
theorem RmL.of (hz : b + 854 ≤ csz C) (f : Fp S C C') (r1 : ∀ f, f < 41 → ¬ S 3 0 (b + 169 + 4 * f + 2)) (h1 : csz C' ≤ csz C + 500) (h2 : csl C' ≤ csl C + 10000) : RmL b C C' := by
  have e := nRow_same (b := b) (C := C) (C' := C') (fun f' hf' x => f.fP (by omega) (r1 f' hf') x)
  refine ⟨by rw [e]; omega, by rw [e]; omega, f.1, f.2.1⟩
theorem Fp.bump (W : Wf C) : Fp (fun _ _ _ => False) C (cBump C) := Fp.B W
/-- an exception of the class, a number of the reference -/
theorem RR.exc (h : RR b kc M C) {e : Nat} {code : Nat → Int} {X : Option ((Int ⊕ Nat) × Cd)} {Y : Option (Int × Md)} (hX : X = some (.inr e, cBump C)) (hY : Y = some (0, M')) (o : ScO M M') (h36 : M'.1 36 = code e) (he : e < 3) : CallE b kc C code X Y := by
  have W := h.1.1.W
  exact ⟨M', cBump C, 0, hY, h.nil (Fp.bump W) o, RmL.of h.1.1.sz (Fp.bump W) (fun _ _ z => z) (Nat.add_le_add_left (by decide) _) (Nat.add_le_add_left (by decide) _), Or.inr ⟨e, hX, h36, he⟩⟩
end QUI
section CAL
variable {b kc : Nat} {M M' : Md} {C C' : Cd}
theorem call_clock (h : RR b kc M C) : CallP b kc C (fX11_clock b C) (fX12_clock M) := by
  have W := h.1.1.W
  refine ⟨mSet M 36 0, C, M.1 5, ?_, h.nil (Fp.rf W) (ScO.set (by decide)), RmL.of h.1.1.sz (Fp.rf W) (S := fun _ _ _ => False) (fun _ _ z => z) (Nat.le_add_right _ _) (Nat.le_add_right _ _), ?_⟩
  · unfold fX12_clock
    rw [bnd_eq, mS2 _ _ (by decide)]
  · unfold fX11_clock
    rw [if_pos h.1.1.o, h.2.2.1.2.1]
end CAL
