/-! THE CLASS GOES OVER A STRETCH AS THE EVALUATOR SAYS -/
section SEG
variable {b : Nat} {E : Env} {VA : Nat → Nat} {up : Int}
def SegOk (b : Nat) (E : Env) (VA : Nat → Nat) (up : Int) (m : Nat) : Prop := ∀ re r t f i to acc s acc' s', runX E m re r t f i to acc s = some (acc', s') → ∀ C ra e, Pre b C E VA up s r f ra i e acc → f < aNf s → Bl (fg E s f) (fn E s f) i to → to ≤ e → e ≤ 30 →
   ∃ k C', KSts b k C C' ∧ Post b C C' E VA up s s' r f ra to e acc' ∧ k + 64 * Tc s ≤ (to - i) + 64 * Tc s'
variable {m k1 r t f i i1 to ra e : Nat} {C C1 : Cd} {s s1 s' : ASt} {acc acc1 acc' : List Int}
theorem seg_cont (ih : SegOk b E VA up m) (h1 : KSts b k1 C C1) (p1 : Post b C C1 E VA up s s1 r f ra i1 e acc1) (hx : runX E m false r t f i1 to acc1 s1 = some (acc', s')) (hf : f < aNf s) (hB : Bl (fg E s f) (fn E s f) i1 to) (hto : to ≤ e) (he : e ≤ 30) :
   ∃ k C', KSts b k C C' ∧ Post b C C' E VA up s s' r f ra to e acc' ∧ k + 64 * Tc s1 ≤ k1 + (to - i1) + 64 * Tc s' := by
  have kp := p1.2.2.2.2.2.2
  have fr : aFr s1 f = aFr s f := kp.2.2.2.1 f hf
  obtain ⟨k, C', q1, q2, q3⟩ := ih false r t f i1 to acc1 s1 acc' s' hx C1 ra e p1.pre (Nat.lt_of_lt_of_le hf kp.2.2.1) (by rw [show fg E s1 f = fg E s f by show eTx E (aFr s1 f).1 = _; rw [fr], show fn E s1 f = fn E s f by show eTl E (aFr s1 f).1 = _; rw [fr]]; exact hB) hto he
  exact ⟨k1 + k, C', h1.app q1, p1.tr q2, by omega⟩
theorem Post.untouch {C' : Cd} {i0 : Nat} (hL : Lay b C) (ho : opB (fg E s f i / 1000) = true) (h : Post b C C' E VA up (uPs s f i 2) s' r f ra i0 e acc) : Post b C C' E VA up s s' r f ra i0 e acc :=
  ⟨h.1, h.2.1, h.2.2.1, h.2.2.2.1, h.2.2.2.2.1, h.2.2.2.2.2.1, (Keep.touch hL ho).tr h.2.2.2.2.2.2⟩
/-- a content that is shown, and on behind it -/
theorem seg_content (ih : SegOk b E VA up m) (h : Pre b C E VA up s r f ra i e acc) (hf : f < aNf s) (hB : Bl (fg E s f) (fn E s f) i to) (hi : i < to) (hto : to ≤ e) (he : e ≤ 30) (ho : opB (fg E s f i / 1000) = true) (h1 : KSts b 1 C C1) (p1 : Post b C C1 E VA up (uPs s f i 2) (uPs s f i 2) r f ra (i + 1) e acc)
   (hx : ((runX E m false r (t + 1) f (i + 1) (fE (fg E s f) (fn E s f) i) acc (uPs s f i 2)).bind fun q => runX E m false r t f (fE (fg E s f) (fn E s f) i + 1) to q.1 q.2) = some (acc', s')) :
   ∃ k C', KSts b k C C' ∧ Post b C C' E VA up s s' r f ra to e acc' ∧ k + 64 * Tc s ≤ (to - i) + 64 * Tc s' := by
  obtain ⟨q, hq1, hq2⟩ := Option.bind_eq_some_iff.mp hx
  obtain ⟨acc2, s2⟩ := q
  have hTx := (h.1.2.2.2.1 f hf).2.1
  have hin : i < fn E s f := by have := hB.2.1; omega
  have hcl := cl_op hTx hin ho
  have hlt := hB.2.2 i (Nat.le_refl _) hi ho
  obtain ⟨k2, C2, e2, p2, t2⟩ := seg_cont (s := uPs s f i 2) ih h1 p1 hq1 hf (Bl.sub hTx hin ho) (by omega) he
  have kp := p2.2.2.2.2.2.2
  have fr : aFr s2 f = aFr s f := kp.2.2.2.1 f hf
  have fgs : fg E s2 f = fg E s f := by show eTx E (aFr s2 f).1 = _; rw [fr]
  have fns : fn E s2 f = fn E s f := by show eTl E (aFr s2 f).1 = _; rw [fr]
  have hf2 : f < aNf s2 := Nat.lt_of_lt_of_le hf kp.2.2.1
  obtain ⟨C3, e3, p3⟩ := seg_skip p2.pre hf2 (by rw [fns]; exact hcl.2.1) (Or.inr (Or.inr (Or.inl (by rw [fgs]; exact hcl.2.2.1))))
  have k3 := kst_of p2.pre (by omega) he e3
  obtain ⟨k4, C4, e4, p4, t4⟩ := seg_cont (s := uPs s f i 2) ih (e2.app k3) (p2.tr p3) hq2 hf (hB.over hi ho) hto he
  have tu := Tc_up (s := s) (f := f) (i := i) (x := 2) (by decide)
  have gt := fE_gt (fg E s f) (fn E s f) i
  exact ⟨k4, C4, e4, p4.untouch h.1.1 ho, by omega⟩
/-- a step, and on -/
theorem seg_on (ih : SegOk b E VA up m) (h : Pre b C E VA up s r f ra i e acc) (hf : f < aNf s) (hB : Bl (fg E s f) (fn E s f) i1 to) (hi : i < to) (hi1 : i < i1) (hto : to ≤ e) (he : e ≤ 30) (hst : ∃ C1, fX1_stepOn (b + 1) (some (b + 333 + r)) C = some ((), C1) ∧ Post b C C1 E VA up s s1 r f ra i1 e acc1) (hT : Tc s ≤ Tc s1)
   (hx : runX E m false r t f i1 to acc1 s1 = some (acc', s')) : ∃ k C', KSts b k C C' ∧ Post b C C' E VA up s s' r f ra to e acc' ∧ k + 64 * Tc s ≤ (to - i) + 64 * Tc s' := by
  obtain ⟨C1, e1, p1⟩ := hst
  obtain ⟨k, C', q1, q2, q3⟩ := seg_cont ih (kst_of h (by omega) he e1) p1 hx hf hB hto he
  have := hB.1
  exact ⟨k, C', q1, q2, by omega⟩
end SEG
