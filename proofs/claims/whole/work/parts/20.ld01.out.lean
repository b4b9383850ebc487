/-! THE LAW'S OWN ROW: nothing of the class stands in it -/
section OUT
variable {b kc : Nat} {M : Md} {C : Cd}
theorem RH.out {VA PA LE AA : Nat → Nat} {nv np na : Nat} (h : RH b M C VA PA LE AA nv np na) (W : Wf C) (hL : Lay b C) {out i : Nat} {v : Int} (ho : isO C out 108) (hb : b + 854 ≤ out) : RH b M (cSetE C out i v) VA PA LE AA nv np na := by
  have f : Fp (fun q _ a => q = 2 ∧ a = out) C (cSetE C out i v) := Fp.E W out i v ⟨rfl, rfl⟩
  obtain ⟨⟨a1, a2, a3⟩, ⟨b1, b2, b3⟩, ⟨c1, c2, c3⟩, ⟨d1, d2⟩, e1, f1, g1⟩ := h
  have lo2 : ∀ {a : Nat}, isO C a 100 → ¬ (2 = 2 ∧ a = out) := fun ha z => by
    have := ha.2
    rw [z.2, ho.2] at this
    exact absurd this (by decide)
  refine ⟨⟨a1, a2, a3⟩, ⟨b1, b2, b3⟩, ⟨c1, c2, c3⟩, ⟨d1, d2⟩, fun v hv => ?_, fun p hp => ?_, fun k hk => ?_⟩
  · obtain ⟨x1, x2⟩ := e1 v hv
    have x1' := x1
    obtain ⟨y1, y2, y3, y4, y5⟩ := x1
    have o2 := y5.1.1.1.2.2.2.1
    have o3 := y5.1.1.1.2.2.2.2.1
    exact ⟨x1'.fp W f (fun z => absurd z.1 (by decide)) (fun z => absurd z.1 (by decide)) (fun z => absurd z.1 (by decide)) (fun z => absurd z.1 (by decide)) (fun z => absurd z.1 (by decide)) (fun z => absurd z.1 (by decide)) (lo2 o2) (lo2 o3), x2⟩
  · obtain ⟨x1, ⟨x2, x3, x4⟩, x5, x6, x7, x8⟩ := f1 p hp
    exact ⟨x1, ⟨x2, x3, x4.fp W f (fun z => absurd z.1 (by decide)) (fun z => absurd z.1 (by decide)) (fun z => absurd z.1 (by decide))⟩, x5, x6, x7, x8⟩
  · exact g1 k hk
theorem RR.out (h : RR b kc M C) {out i : Nat} {v : Int} (ho : isO C out 108) (hb : b + 854 ≤ out) : RR b kc M (cSetE C out i v) := by
  have hL := h.1.1
  have W := hL.W
  have f : Fp (fun q _ a => q = 2 ∧ a = out) C (cSetE C out i v) := Fp.E W out i v ⟨rfl, rfl⟩
  have n1 : ∀ {q a : Nat}, q ≠ 2 → ¬ (q = 2 ∧ a = out) := fun hq z => hq z.1
  have n2 : ∀ {q a : Nat}, a < b + 854 → ¬ (q = 2 ∧ a = out) := fun ha z => by omega
  have hl : RLy b (cSetE C out i v) := h.1.low f (fun q k a _ z => Or.inr (Or.inr (Or.inl z.1))) (n1 (by decide)) (n1 (by decide)) (n1 (by decide)) (n2 (by omega)) (fun _ => n1 (by decide)) (n1 (by decide)) (n2 (by omega)) (fun _ => n1 (by decide)) (n1 (by decide)) (n2 (by omega)) (fun _ _ => n1 (by decide)) (fun _ _ _ => n1 (by decide))
  obtain ⟨h1, ⟨dn, g, h2⟩, h3, h4, h5, h6, ⟨VA, PA, LE, AA, nv, np, na, h7, h8⟩, h9⟩ := h
  refine ⟨hl, ⟨dn, g, h2.low W f (n1 (by decide)) (n1 (by decide)) (n1 (by decide)) (n2 (by omega)) rfl rfl⟩, h3.low hL f (n1 (by decide)) (n1 (by decide)) (n1 (by decide)) (fun _ _ => rfl) (Or.inl rfl) (Or.inl rfl), h4, fun t ht => (h5 t ht).low hL ht f (n1 (by decide)) (n1 (by decide)) (n2 (by omega)) (n2 (by omega)) (fun _ _ => rfl), fun j hj => (h6 j hj).low hL hj f (n1 (by decide)) (n2 (by omega)) (n2 (by omega)) (fun _ _ => rfl), ⟨VA, PA, LE, AA, nv, np, na, h7.out W hL ho hb, h8⟩, fun t ht => ?_⟩
  obtain ⟨r, lk, ct, rd, cd, us, hg⟩ := h9 t ht
  exact ⟨r, lk, ct, rd, cd, us, hg.low hL ht f (fun _ _ _ => n1 (by decide)) (n1 (by decide)) (n1 (by decide)) (n1 (by decide)) (n2 (by omega)) (fun _ _ => rfl)⟩
/-- a call of one of the law's own, out of the class's and the reference's -/
theorem wrapE {S : List Nat} {code : Nat → Int} {tb : Nat → Option Int} {out : Nat} {X : Option ((Int ⊕ Nat) × Cd)} {Y : Option (Int × Md)} (h : RR b kc M C) (hc : CallE b kc C code X Y) (he : ∀ e C', X = some (.inr e, C') → e ∈ S) (htb : ∀ e ∈ S, tb e = some (code e) ∧ 1 ≤ code e ∧ code e ≤ 3) (hg : ∀ r C', X = some (r, C') → Wf C → ∀ a, a ∈ cL C → a ∈ cL C' ∧ cty C' a = cty C a ∧ cn C' a = cn C a) (ho : isO C out 108) (hn : cn C out = 1) (hb : b + 854 ≤ out) :
    ∃ M' C' y k, Y = some (y, M') ∧ RR b (kc + 1) M' C' ∧ RmL b C C' ∧ (isO C' out 108 ∧ cn C' out = 1) ∧ (X.bind fun q => wrapK out tb q.1 q.2) = some (k, C') ∧ M'.1 36 = k ∧ (0 ≤ k ∧ k ≤ 3) ∧ (k = 0 → cE C' out 0 = w32 y) := by
  obtain ⟨M', C', y, hY, hR, hm, hx⟩ := hc
  have W := h.1.1.W
  rcases hx with ⟨hX, h36⟩ | ⟨e, hX, h36, _⟩
  · obtain ⟨g1, g2, g3⟩ := hg _ _ hX W out ho.1
    have o' : isO C' out 108 := ⟨g1, g2.trans ho.2⟩
    have n' : cn C' out = 1 := g3.trans hn
    refine ⟨M', cSetE C' out 0 (w32 y), y, 0, hY, hR.out o' hb, hm, ⟨o', n'⟩, ?_, h36, by decide, fun _ => cE_E1 _ _ _ _⟩
    rw [hX]
    show (if isO C' out 108 ∧ inR 0 (cn C' out) then bnd (cSetE C' out (ix 0) (w32 y)) fun (C1 : Cd) => some (0, C1) else none) = _
    rw [if_pos ⟨o', by rw [n']; decide⟩]
    rfl
  · obtain ⟨g1, g2, g3⟩ := hg _ _ hX W out ho.1
    obtain ⟨t1, t2⟩ := htb e (he e _ hX)
    refine ⟨M', C', y, code e, hY, hR, hm, ⟨⟨g1, g2.trans ho.2⟩, g3.trans hn⟩, ?_, h36, by omega, fun z => by omega⟩
    rw [hX]
    show (tb e).map (fun c => (c, C')) = _
    rw [t1]
    rfl
theorem wrapEZ {S : List Nat} {code : Nat → Int} {tb : Nat → Option Int} {out : Nat} {X : Option ((Int ⊕ Nat) × Cd)} {Y : Option (Int × Md)} (h : RR b kc M C) (hc : CallE b kc C code X Y) (he : ∀ e C', X = some (.inr e, C') → e ∈ S) (htb : ∀ e ∈ S, tb e = some (code e) ∧ 1 ≤ code e ∧ code e ≤ 3) (hg : ∀ r C', X = some (r, C') → Wf C → ∀ a, a ∈ cL C → a ∈ cL C' ∧ cty C' a = cty C a ∧ cn C' a = cn C a) (ho : isO C out 108) (hn : cn C out = 1) (hb : b + 854 ≤ out) :
    ∃ M' C' y k, Y = some (y, M') ∧ RR b (kc + 1) M' C' ∧ RmL b C C' ∧ (isO C' out 108 ∧ cn C' out = 1) ∧ (X.bind fun q => wrapZ out tb q.1 q.2) = some (k, C') ∧ M'.1 36 = k ∧ (0 ≤ k ∧ k ≤ 3) ∧ (k = 0 → cE C' out 0 = if w32 y = 0 then 0 else 1) := by
  obtain ⟨M', C', y, hY, hR, hm, hx⟩ := hc
  have W := h.1.1.W
  rcases hx with ⟨hX, h36⟩ | ⟨e, hX, h36, _⟩
  · obtain ⟨g1, g2, g3⟩ := hg _ _ hX W out ho.1
    have o' : isO C' out 108 := ⟨g1, g2.trans ho.2⟩
    have n' : cn C' out = 1 := g3.trans hn
    refine ⟨M', cSetE C' out 0 (if w32 y = 0 then 0 else 1), y, 0, hY, hR.out o' hb, hm, ⟨o', n'⟩, ?_, h36, by decide, fun _ => cE_E1 _ _ _ _⟩
    rw [hX]
    show (if w32 y = 0 then (if isO C' out 108 ∧ inR 0 (cn C' out) then bnd (cSetE C' out (ix 0) 0) fun (C1 : Cd) => some (0, C1) else none) else (if isO C' out 108 ∧ inR 0 (cn C' out) then bnd (cSetE C' out (ix 0) 1) fun (C1 : Cd) => some (0, C1) else none)) = _
    have hi : isO C' out 108 ∧ inR 0 (cn C' out) := ⟨o', by rw [n']; decide⟩
    by_cases hy : w32 y = 0
    · rw [if_pos hy, if_pos hi, if_pos hy]
      rfl
    · rw [if_neg hy, if_pos hi, if_neg hy]
      rfl
  · obtain ⟨g1, g2, g3⟩ := hg _ _ hX W out ho.1
    obtain ⟨t1, t2⟩ := htb e (he e _ hX)
    refine ⟨M', C', y, code e, hY, hR, hm, ⟨⟨g1, g2.trans ho.2⟩, g3.trans hn⟩, ?_, h36, by omega, fun z => by omega⟩
    rw [hX]
    show (tb e).map (fun c => (c, C')) = _
    rw [t1]
    rfl
end OUT
