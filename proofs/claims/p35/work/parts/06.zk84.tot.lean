/-! THE EVALUATOR ALWAYS ENDS: what holds ahead of a stretch -/
section TOT
variable {E : Env} {s s1 s2 s' : ASt} {r t f i i1 to m : Nat} {acc acc1 : List Int}
/-- ahead of a part nothing in it is come to -/
def UU (E : Env) (s : ASt) : Prop := ∀ g q p, g < aNf s → q < fn E s g → mkB (fg E s g q / 1000) = true → q < p → p < fE (fg E s g) (fn E s g) q → aPs s g p ≠ 0 → aPs s g q ≠ 0
/-- the parts around a place are begun -/
def EI (E : Env) (s : ASt) (f i : Nat) : Prop := ∀ q, q < i → mkB (fg E s f q / 1000) = true → i < fE (fg E s f) (fn E s f) q → aPs s f q ≠ 0
def TPre (E : Env) (re : Bool) (r t f i to : Nat) (s : ASt) : Prop := PI E s ∧ (∀ g p, aPs s g p ≤ 2) ∧ UU E s ∧ f < aNf s ∧ Bl (fg E s f) (fn E s f) i to ∧ DS (fg E s f) i to ∧ EI E s f i ∧ (∀ g p, AR E s f g p → aPs s g p ≠ 1) ∧ t ≤ 2 * Tc s ∧
  (re = false → 3 * r + 3 ≤ 3 * aNf s + (2 * nPF E s + nMk E s) ∧ ∀ p, i ≤ p → p < to → aPs s f p = 0) ∧
  (re = true → 3 * r + 5 ≤ 3 * aNf s + (2 * nPF E s + nMk E s) ∧ i < to ∧ fg E s f i / 1000 = 4 ∧ aPs s f i = 2 ∧ (∀ p, i < p → p < fE (fg E s f) (fn E s f) i → aPs s f p ≠ 1) ∧ ∀ p, fE (fg E s f) (fn E s f) i ≤ p → p < to → aPs s f p = 0)
def TotOk (E : Env) (m : Nat) : Prop := ∀ re r t f i to acc s, 64 * (1230 - Tc s) + (to - i) < m → TPre E re r t f i to s → okr acc → ∃ q, runX E m re r t f i to acc s = some q ∧ UU E q.2
theorem UU.touch (u : UU E s) (h : EI E s f i) {x : Nat} (hx : x ≠ 0) : UU E (uPs s f i x) := by
  intro g q p hg hq hm h1 h2 h3
  have up : ∀ {g' p'}, aPs s g' p' ≠ 0 → aPs (uPs s f i x) g' p' ≠ 0 := fun {g' p'} z => by
    show (if g' = f ∧ p' = i then x else aPs s g' p') ≠ 0
    by_cases c : g' = f ∧ p' = i
    · rw [if_pos c]; exact hx
    · rw [if_neg c]; exact z
  apply up
  by_cases c : g = f ∧ p = i
  · rw [c.1] at hm h2 ⊢
    rw [c.2] at h1 h2
    exact h q h1 hm h2
  · have h3' : (if g = f ∧ p = i then x else aPs s g p) ≠ 0 := h3
    rw [if_neg c] at h3'
    exact u g q p hg hq hm h1 h2 h3'
theorem UU.dn (u : UU E s) (h : aPs s f i ≠ 0) {q : List Int} : UU E (uDn s f i q) := by
  have nz : ∀ {g' p'}, aPs s g' p' ≠ 0 → aPs (uDn s f i q) g' p' ≠ 0 := fun {g' p'} z => by
    show (if g' = f ∧ p' = i then 2 else aPs s g' p') ≠ 0
    by_cases c : g' = f ∧ p' = i
    · rw [if_pos c]; decide
    · rw [if_neg c]; exact z
  intro g y p hg hq hm h1 h2 h3
  apply nz
  refine u g y p hg hq hm h1 h2 ?_
  have h3' : (if g = f ∧ p = i then 2 else aPs s g p) ≠ 0 := h3
  by_cases c : g = f ∧ p = i
  · rw [c.1, c.2]; exact h
  · rw [if_neg c] at h3'; exact h3'
theorem UU.same (u : UU E s) (h : sSame s s') : UU E s' := by
  obtain ⟨h1, h2, h3, h4, h5⟩ := h
  have e : aFr s' = aFr s := h2
  have eg : ∀ g, fg E s' g = fg E s g := fun g => by show eTx E (aFr s' g).1 = _; rw [e]
  have en : ∀ g, fn E s' g = fn E s g := fun g => by show eTl E (aFr s' g).1 = _; rw [e]
  intro g q p hg hq hm a b c
  rw [h3] at c ⊢
  rw [eg] at hm b
  rw [en] at hq b
  exact u g q p (by have e1 : aNf s' = aNf s := h1; omega) hq hm a b c
theorem UU.ca (u : UU E s) : UU E (uCa s) := u
theorem UU.fr (u : UU E s) (hP : PI E s) {F : AFr} : UU E (uFr s F) := by
  intro g q p hg hq hm a b c
  have c' : aPs s g p ≠ 0 := c
  rcases Nat.lt_or_ge g (aNf s) with z | z
  · have e : aFr (uFr s F) g = aFr s g := if_neg (Nat.ne_of_lt z)
    have eg : fg E (uFr s F) g = fg E s g := by show eTx E (aFr _ g).1 = _; rw [e]
    have en : fn E (uFr s F) g = fn E s g := by show eTl E (aFr _ g).1 = _; rw [e]
    rw [eg] at hm b
    rw [en] at hq b
    exact u g q p z hq hm a b c'
  · exact absurd (hP.2.1.1 g z p) c'
theorem EI.over (h : EI E s f i) (hT : TxOK (fg E s f) (fn E s f)) (hi : i < fn E s f) (ho : opB (fg E s f i / 1000) = true) : EI E s f (fE (fg E s f) (fn E s f) i + 1) := by
  obtain ⟨a1, a2, a3, a4, a5, a6⟩ := cl_op hT hi ho
  intro q hq hm hf
  rcases Nat.lt_trichotomy q i with z | z | z
  · exact h q z hm (by omega)
  · rw [z] at hm; exact absurd ho (mk_op hm)
  · rcases Nat.lt_or_ge q (fE (fg E s f) (fn E s f) i) with y | y
    · have := mk_nest hT hi ho z y hm
      omega
    · have e : q = fE (fg E s f) (fn E s f) i := by omega
      rw [e, a3] at hm
      exact absurd hm (by decide)
theorem EI.plain (h : EI E s f i) (hm : ¬ mkB (fg E s f i / 1000) = true) : EI E s f (i + 1) := by
  intro q hq hmq hf
  rcases Nat.lt_or_ge q i with z | z
  · exact h q z hmq (by omega)
  · have e : q = i := by omega
    rw [e] at hmq
    exact absurd hmq hm
theorem EI.sub (h : EI E s f i) (ho : opB (fg E s f i / 1000) = true) : EI E s f (i + 1) := h.plain (fun z => mk_op z ho)
theorem EI.ch {Z : Nat → Nat → Prop} (h : EI E s f i) (c : ChZ Z s s1) (hf : f < aNf s) : EI E s1 f i := by
  have fr := c.2.1 f hf
  have eg : fg E s1 f = fg E s f := by show eTx E (aFr s1 f).1 = _; rw [fr]
  have en : fn E s1 f = fn E s f := by show eTl E (aFr s1 f).1 = _; rw [fr]
  intro q h1 h2 h3
  rw [eg] at h2 h3
  rw [en] at h3
  have z := h q h1 h2 h3
  rw [c.nz z]
  exact z
/-- around a part of an opener -/
theorem EI.part (u : UU E s) (h : EI E s f i) (hP : PI E s) (hE : EnP E) (hf : f < aNf s) (hi : i < fn E s f) (ho : opB (fg E s f i / 1000) = true) {p : Nat} (hp : p ∈ prs_ (fg E s f) (fn E s f) 30 (i + 1)) : EI E s f p := by
  have hT := (hP.tx hE hf).1
  obtain ⟨b1, b2, b3, b4, b5⟩ := prs_sub hT hi ho hp
  intro q hq hm hfe
  rcases Nat.lt_trichotomy q i with z | z | z
  · exact h q z hm (by omega)
  · rw [z] at hm; exact absurd ho (mk_op hm)
  · have := mk_direct hT hi ho z hq b2 hm b3 b4
    omega
theorem tot_next (hE : EnP E) (hP : PI E s) (hL : ∀ g p, aPs s g p ≤ 2) (hf : f < aNf s) (hA : ∀ g p, AR E s f g p → aPs s g p ≠ 1) (ht : t ≤ 2 * Tc s) (hr : 3 * r + 3 ≤ 3 * aNf s + (2 * nPF E s + nMk E s)) (h1 : PI E s1) (c : ChZ (RZ E s f i i1) s s1) (u : UU E s1) (hD : DS (fg E s f) i1 to) (hB : Bl (fg E s f) (fn E s f) i1 to) (hEI : EI E s f i1)
   (hun : ∀ p, i1 ≤ p → p < to → aPs s f p = 0) : TPre E false r t f i1 to s1 := by
  have fr := c.2.1 f hf
  have eg : fg E s1 f = fg E s f := by show eTx E (aFr s1 f).1 = _; rw [fr]
  have en : fn E s1 f = fn E s f := by show eTl E (aFr s1 f).1 = _; rw [fr]
  have a1 := Tc_ch c
  have a2 := nPF_ch (E := E) c
  have a3 := nMk_ch (E := E) c
  have a4 := c.1
  refine ⟨h1, fun g p => ?_, u, Nat.lt_of_lt_of_le hf c.1, by rw [eg, en]; exact hB, by rw [eg]; exact hD, hEI.ch c hf, fun g p a => ?_, by omega, fun _ => ⟨by omega, fun p x1 x2 => ?_⟩, fun z => absurd z Bool.false_ne_true⟩
  · rcases c.2.2.1 g p with e | ⟨_, e⟩
    · rw [e]; exact hL g p
    · rw [e]; exact Nat.le_refl _
  · have z := hA g p (a.same hP.1 c.2.1 hf)
    rcases c.2.2.1 g p with e | ⟨_, e⟩
    · rw [e]; exact z
    · rw [e]; decide
  · rw [c.2.2.2.2.1 f p hf (fun z => ?_)]
    · exact hun p x1 x2
    · rcases z with z | z
      · omega
      · have := z.lt hP.1 hf; omega
end TOT
