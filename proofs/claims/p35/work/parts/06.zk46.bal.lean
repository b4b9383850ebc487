/-! BALANCED STRETCHES, WHAT IS TOUCHED, A PART IS DONE -/
section BAL
variable {g : Nat → Int} {n : Nat}
def Bl (g : Nat → Int) (n i to : Nat) : Prop := i ≤ to ∧ to ≤ n ∧ ∀ j, i ≤ j → j < to → opB (g j / 1000) = true → fE g n j < to
theorem Bl.step {i to : Nat} (h : Bl g n i to) (hi : i < to) : Bl g n (i + 1) to := ⟨hi, h.2.1, fun j h1 h2 => h.2.2 j (by omega) h2⟩
theorem Bl.over {i to : Nat} (h : Bl g n i to) (hi : i < to) (ho : opB (g i / 1000) = true) : Bl g n (fE g n i + 1) to :=
  ⟨h.2.2 i (Nat.le_refl _) hi ho, h.2.1, fun j h1 h2 => h.2.2 j (by have := fE_gt g n i; omega) h2⟩
theorem Bl.sub (h : TxOK g n) {i : Nat} (hi : i < n) (ho : opB (g i / 1000) = true) : Bl g n (i + 1) (fE g n i) := by
  obtain ⟨a1, a2, a3, a4, a5, a6⟩ := cl_op h hi ho
  refine ⟨a1, by omega, fun j h1 h2 hj => ?_⟩
  obtain ⟨b1, b2, b3, b4, b5, b6⟩ := cl_op h (by omega) hj
  obtain ⟨q, q1, q2⟩ := a6 j (by omega) h2
  have l1 := congrArg List.length q1
  have l2 := congrArg List.length b4
  have l3 := congrArg List.length a4
  rw [List.length_append, List.length_cons] at l1
  rw [List.length_cons] at l2 l3
  rcases Nat.lt_trichotomy (fE g n j) (fE g n i) with z | z | z
  · exact z
  · rw [z] at l2
    omega
  · obtain ⟨q', q1', _⟩ := b6 (fE g n i) h2 z
    have l4 := congrArg List.length q1'
    rw [List.length_append, List.length_cons] at l4
    omega
theorem Bl.part (h : TxOK g n) {p : Nat} (hp : p < n) (hm : mkB (g p / 1000) = true) : Bl g n (p + 1) (fE g n p) := by
  obtain ⟨a1, a2, a3, a4, a5⟩ := cl_mk h hp hm
  refine ⟨a1, by omega, fun j h1 h2 hj => ?_⟩
  obtain ⟨b1, b2, b3, b4, b5, b6⟩ := cl_op h (by omega) hj
  obtain ⟨q, q1, q2⟩ := a5 j (by omega) h2
  have l1 := congrArg List.length q1
  have l2 := congrArg List.length b4
  have l3 := congrArg List.length a4
  rw [List.length_append] at l1
  rw [List.length_cons] at l2
  rcases Nat.lt_trichotomy (fE g n j) (fE g n p) with z | z | z
  · exact z
  · rw [z] at l2
    omega
  · obtain ⟨q', q1', _⟩ := b6 (fE g n p) h2 z
    have l4 := congrArg List.length q1'
    rw [List.length_append, List.length_cons] at l4
    omega
theorem Bl.whole (h : TxOK g n) : Bl g n 0 n := ⟨Nat.zero_le _, Nat.le_refl _, fun j _ h2 hj => (cl_op h h2 hj).2.1⟩
end BAL
section TC
variable {s : ASt} {f i x : Nat}
/-- how many places were come to -/
def Tc (s : ASt) : Nat := cnt (fun k => decide (aPs s (k / 30) (k % 30) ≠ 0)) 1230
theorem Tc_le (s : ASt) : Tc s ≤ 1230 := cnt_le _ _
theorem Tc_up (hx : x ≠ 0) : Tc s ≤ Tc (uPs s f i x) := cnt_imp (fun k _ h => by
  have h1 := of_decide_eq_true h
  refine decide_eq_true ?_
  show (if k / 30 = f ∧ k % 30 = i then x else aPs s (k / 30) (k % 30)) ≠ 0
  by_cases c : k / 30 = f ∧ k % 30 = i
  · rw [if_pos c]; exact hx
  · rw [if_neg c]; exact h1)
theorem Tc_new (hx : x ≠ 0) (hf : f < 41) (hi : i < 30) (h0 : aPs s f i = 0) : Tc (uPs s f i x) = Tc s + 1 := by
  refine cnt_or1 (u := 30 * f + i) (by omega) ?_ (fun o ho => ?_)
  · show decide (aPs s ((30 * f + i) / 30) ((30 * f + i) % 30) ≠ 0) = false
    rw [show (30 * f + i) / 30 = f by omega, show (30 * f + i) % 30 = i by omega, h0]
    rfl
  · show decide ((if o / 30 = f ∧ o % 30 = i then x else aPs s (o / 30) (o % 30)) ≠ 0) = _
    by_cases c : o = 30 * f + i
    · rw [if_pos (by omega), decide_eq_true hx, decide_eq_true c, Bool.or_true]
    · rw [if_neg (by omega), decide_eq_false c, Bool.or_false]
theorem Tc_dn {r : List Int} : Tc s ≤ Tc (uDn s f i r) := cnt_imp (fun k _ h => by
  have h1 := of_decide_eq_true h
  refine decide_eq_true ?_
  show (if k / 30 = f ∧ k % 30 = i then 2 else aPs s (k / 30) (k % 30)) ≠ 0
  by_cases c : k / 30 = f ∧ k % 30 = i
  · rw [if_pos c]; decide
  · rw [if_neg c]; exact h1)
theorem unt_0 {c : Nat} (h : unt s f i c = true) (hc : i < c) : aPs s f i = 0 := by
  unfold unt at h
  have h1 := List.all_eq_true.mp h 0 (List.mem_range.mpr (by omega))
  rw [Nat.add_zero] at h1
  exact eq_of_beq h1
end TC
section DONE
variable {b : Nat} {C C' C'' C1 : Cd} {E : Env} {VA : Nat → Nat} {up : Int} {s s' s'' s1 : ASt} {r ra f i e f2 ra2 i2 e2 i3 g p : Nat} {acc acc2 acc3 : List Int}
/-- the run of a part is taken off, its row is done -/
theorem sub_done (h : Sub b C C' E VA up s s' r f ra i e acc f2 ra2 i2 e2 acc2) (h2 : Post b C' C'' E VA up s' s'' (r + 1) f2 ra2 i3 e2 acc3) (he : e2 ≤ i3) (h3 : i3 < 1000) (hne : ra2 ≠ ra)
   (hg : g < aNf s') (hp : p < fn E s' g) (hm : mkB (fg E s' g p / 1000) = true) (hcp : cP C' (b + 169 + 4 * g + 2) p = some ra2) :
   KSts b 1 C'' (cSetI C'' 409 (b + 1) ((r + 1 : Nat) : Int)) ∧ Post b C (cSetI C'' 409 (b + 1) ((r + 1 : Nat) : Int)) E VA up s (uDn s'' g p acc3) r f ra i e acc := by
  obtain ⟨k1, p1, r1, c1⟩ := sub_back h h2 he h3 (Or.inr ⟨hne, rfl⟩)
  obtain ⟨x1, x2, x3, x4, x5, x6, m1, m2, m3, m4, m5, m6, m7⟩ := p1
  have hn' := h.1.1.2.2.2.2.2.2.1.2.1
  have n30' := h.1.1.n30 hg
  have hk2 := h2.2.2.2.2.2.2
  have hcp2 : cP (cSetI C'' 409 (b + 1) ((r + 1 : Nat) : Int)) (b + 169 + 4 * g + 2) p = some ra2 := hk2.2.2.2.2.2.2.2.2 g p ra2 (by omega) (by omega) hcp
  have fr : aFr s'' g = aFr s' g := hk2.2.2.2.1 g hg
  have hgn : g < aNf s'' := Nat.lt_of_lt_of_le hg hk2.2.2.1
  have fgs : fg E s'' g = fg E s' g := by show eTx E (aFr s'' g).1 = _; rw [fr]
  have fns : fn E s'' g = fn E s' g := by show eTl E (aFr s'' g).1 = _; rw [fr]
  have hn := x1.2.2.2.2.2.2.1.2.1
  have rx := x1.2.1 g p ra2 (by omega) (by omega) hcp2
  have uniq : ∀ cf cp, cf < aNf s'' → cp < fn E s'' cf → cP (cSetI C'' 409 (b + 1) ((r + 1 : Nat) : Int)) (b + 169 + 4 * cf + 2) cp = some ra2 → cf = g ∧ cp = p := fun cf cp q1 q2 q3 => rx.2.2 cf cp (by omega) (by have := x1.n30 q1; omega) q3
  have h1 : aPs s'' g p = 1 := by
    rcases c1 with e0 | ⟨cf, cp, c1, c2, c3, c4, c5⟩
    · omega
    · have q := uniq cf cp c1 c2 c5
      rw [q.1, q.2] at c4
      exact c4
  have cur : ∀ a, CurR b (cSetI C'' 409 (b + 1) ((r + 1 : Nat) : Int)) E s'' a → a ≠ ra2 → CurR b (cSetI C'' 409 (b + 1) ((r + 1 : Nat) : Int)) E (uDn s'' g p acc3) a := fun a ha hne2 => by
    rcases ha with e0 | ⟨cf, cp, c1, c2, c3, c4, c5⟩
    · exact Or.inl e0
    · refine Or.inr ⟨cf, cp, c1, c2, c3, (if_neg (fun z => ?_)).trans c4, c5⟩
      rw [z.1, z.2, hcp2] at c5
      injection c5 with c5
      exact hne2 c5.symm
  refine ⟨k1, x1.done hgn (by rw [fns]; exact hp) h1 (by rw [fgs]; exact hm) hcp2 r1, ⟨fun f' hf' p' => (if_neg (fun z => by have : aNf s'' ≤ f' := hf'; omega)).trans (x2.1 f' hf' p'), x2.2⟩, cur ra x3 (fun z => hne z.symm), x4, x5, x6, m1, fun a q q1 q2 q3 => ⟨(m2 a q q1 q2 q3).1, cur a (m2 a q q1 q2 q3).2 (h.2.2.2.2.2.2 a q1 q2)⟩, m3, m4, m5, m6, m7⟩
end DONE
