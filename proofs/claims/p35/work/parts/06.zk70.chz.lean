/-! EXPANDING, as a function: what changes -/
section CHZ
variable {E : Env} {s s1 s2 s' : ASt} {f i to : Nat} {Z Z1 : Nat → Nat → Prop}
/-- the contents of the CALLs that a frame comes from -/
def arN (E : Env) (s : ASt) : Nat → Nat → Nat → Nat → Prop
  | 0, f, g, p => (aFr s f).2.2.2.1 ≠ -1 ∧ g = (aFr s f).2.2.2.1.toNat ∧ (aFr s f).2.2.2.2.1 < p ∧ p < fE (fg E s (aFr s f).2.2.2.1.toNat) (fn E s (aFr s f).2.2.2.1.toNat) (aFr s f).2.2.2.2.1
  | n + 1, f, g, p => (aFr s f).2.2.2.1 ≠ -1 ∧ arN E s n (aFr s f).2.2.2.1.toNat g p
def AR (E : Env) (s : ASt) (f g p : Nat) : Prop := ∃ n, arN E s n f g p
/-- what a stretch may touch -/
def RZ (E : Env) (s : ASt) (f i to g p : Nat) : Prop := (g = f ∧ i ≤ p ∧ p < to) ∨ AR E s f g p
/-- frames in themselves, where they come from -/
def FrU (E : Env) (s : ASt) : Prop := ∀ f, f < aNf s → ((∃ t, t < 24 ∧ eSn E t ≠ -1 ∧ (eSn E t).toNat = (aFr s f).1) ∧ (aFr s f).2.1 < 24 ∧ (aFr s f).2.2.1 ≤ 6) ∧
  (((aFr s f).2.2.2.1 = -1 ∧ ∀ x, (aFr s f).2.2.2.2.2 x = -1) ∨
   (0 ≤ (aFr s f).2.2.2.1 ∧ (aFr s f).2.2.2.1 < (f : Int) ∧ (aFr s f).2.2.2.2.1 < fn E s (aFr s f).2.2.2.1.toNat ∧ fg E s (aFr s f).2.2.2.1.toNat (aFr s f).2.2.2.2.1 / 1000 = 2 ∧
     (aFr s f).2.2.2.2.2 = agF (fg E s (aFr s f).2.2.2.1.toNat) (prs_ (fg E s (aFr s f).2.2.2.1.toNat) (fn E s (aFr s f).2.2.2.1.toNat) 30 ((aFr s f).2.2.2.2.1 + 1)) 0 (fun _ => -1) ∧ aPs s (aFr s f).2.2.2.1.toNat (aFr s f).2.2.2.2.1 ≠ 0 ∧
     ∀ f', f' < aNf s → (aFr s f').2.2.2.1 = (aFr s f).2.2.2.1 → (aFr s f').2.2.2.2.1 = (aFr s f).2.2.2.2.1 → f' = f))
def PI (E : Env) (s : ASt) : Prop := FrU E s ∧ Fre s ∧ (∀ g p, okr (aRw s g p)) ∧ aCa s ≤ 40
theorem PI.n41 (h : PI E s) : aNf s ≤ 41 := by have := h.2.1.2; have := h.2.2.2; omega
theorem PI.tx (h : PI E s) (hE : EnP E) (hf : f < aNf s) : TxOK (fg E s f) (fn E s f) ∧ Tkv (fg E s f) (fn E s f) := by
  obtain ⟨t, t1, t2, t3⟩ := (h.1 f hf).1.1
  have q := hE.1 t t1 t2
  rw [t3] at q
  exact q.2
theorem arN_lt (h : FrU E s) : ∀ n f g p, f < aNf s → arN E s n f g p → g < f := by
  intro n
  induction n with
  | zero =>
    intro f g p hf ⟨h1, h2, _⟩
    rcases (h f hf).2 with z | z
    · exact absurd z.1 h1
    · omega
  | succ n ih =>
    intro f g p hf ⟨h1, h2⟩
    rcases (h f hf).2 with z | z
    · exact absurd z.1 h1
    · have := ih _ g p (by omega) h2
      omega
theorem arN_same (h : FrU E s) (q : ∀ g, g < aNf s → aFr s' g = aFr s g) : ∀ n f g p, f < aNf s → arN E s' n f g p → arN E s n f g p := by
  intro n
  induction n with
  | zero =>
    intro f g p hf hh
    unfold arN at hh ⊢
    rw [q f hf] at hh
    rcases (h f hf).2 with z | z
    · exact absurd z.1 hh.1
    · have e := q (aFr s f).2.2.2.1.toNat (by omega)
      have e1 : fg E s' (aFr s f).2.2.2.1.toNat = fg E s (aFr s f).2.2.2.1.toNat := by show eTx E (aFr s' _).1 = eTx E (aFr s _).1; rw [e]
      have e2 : fn E s' (aFr s f).2.2.2.1.toNat = fn E s (aFr s f).2.2.2.1.toNat := by show eTl E (aFr s' _).1 = eTl E (aFr s _).1; rw [e]
      rw [e1, e2] at hh
      exact hh
  | succ n ih =>
    intro f g p hf hh
    unfold arN at hh ⊢
    rw [q f hf] at hh
    rcases (h f hf).2 with z | z
    · exact absurd z.1 hh.1
    · exact ⟨hh.1, ih _ g p (by omega) hh.2⟩
theorem AR.lt (h : FrU E s) (hf : f < aNf s) {g p : Nat} (a : AR E s f g p) : g < f := a.elim (fun n q => arN_lt h n f g p hf q)
theorem AR.same (h : FrU E s) (q : ∀ g, g < aNf s → aFr s' g = aFr s g) (hf : f < aNf s) {g p : Nat} (a : AR E s' f g p) : AR E s f g p := a.elim (fun n z => ⟨n, arN_same h q n f g p hf z⟩)
theorem RZ.same (h : FrU E s) (q : ∀ g, g < aNf s → aFr s' g = aFr s g) (hf : f < aNf s) {i1 to1 g p : Nat} (hi : i ≤ i1) (ht : to1 ≤ to) (a : RZ E s' f i1 to1 g p) : RZ E s f i to g p :=
  a.elim (fun z => Or.inl ⟨z.1, by omega, by omega⟩) (fun z => Or.inr (z.same h q hf))
/-- what has changed -/
def ChZ (Z : Nat → Nat → Prop) (s s' : ASt) : Prop := aNf s ≤ aNf s' ∧ (∀ g, g < aNf s → aFr s' g = aFr s g) ∧ (∀ g p, aPs s' g p = aPs s g p ∨ (aPs s g p = 0 ∧ aPs s' g p = 2)) ∧ (∀ g p, aPs s g p ≠ 0 → aRw s' g p = aRw s g p) ∧ (∀ g p, g < aNf s → ¬ Z g p → aPs s' g p = aPs s g p) ∧ aCa s ≤ aCa s'
theorem ChZ.rf : ChZ Z s s := ⟨Nat.le_refl _, fun _ _ => rfl, fun _ _ => Or.inl rfl, fun _ _ _ => rfl, fun _ _ _ _ => rfl, Nat.le_refl _⟩
theorem ChZ.nz (h : ChZ Z s s') {g p : Nat} (h0 : aPs s g p ≠ 0) : aPs s' g p = aPs s g p := (h.2.2.1 g p).elim id (fun z => absurd z.1 h0)
theorem ChZ.tr (h : ChZ Z s s1) (h1 : ChZ Z1 s1 s2) (q : ∀ g p, g < aNf s → Z1 g p → Z g p) : ChZ Z s s2 := by
  refine ⟨Nat.le_trans h.1 h1.1, fun g hg => (h1.2.1 g (Nat.lt_of_lt_of_le hg h.1)).trans (h.2.1 g hg), fun g p => ?_, fun g p h0 => ?_, fun g p hg hz => ?_, Nat.le_trans h.2.2.2.2.2 h1.2.2.2.2.2⟩
  · rcases h.2.2.1 g p with a | ⟨a, b⟩
    · rcases h1.2.2.1 g p with c | ⟨c, d⟩
      · exact Or.inl (c.trans a)
      · exact Or.inr ⟨a ▸ c, d⟩
    · exact Or.inr ⟨a, (h1.nz (by omega)).trans b⟩
  · exact (h1.2.2.2.1 g p (by rw [h.nz h0]; exact h0)).trans (h.2.2.2.1 g p h0)
  · exact (h1.2.2.2.2.1 g p (Nat.lt_of_lt_of_le hg h.1) (fun z => hz (q g p hg z))).trans (h.2.2.2.2.1 g p hg hz)
theorem ChZ.mono (h : ChZ Z s s1) (q : ∀ g p, g < aNf s → Z g p → Z1 g p) : ChZ Z1 s s1 := ⟨h.1, h.2.1, h.2.2.1, h.2.2.2.1, fun g p hg hz => h.2.2.2.2.1 g p hg (fun z => hz (q g p hg z)), h.2.2.2.2.2⟩
theorem ChZ.same (h : sSame s s') : ChZ Z s s' := by
  obtain ⟨h1, h2, h3, h4, h5⟩ := h
  refine ⟨Nat.le_of_eq h1.symm, fun g _ => congrFun h2 g, fun g p => Or.inl (by rw [h3]), fun g p _ => by rw [h4], fun g p _ _ => by rw [h3], Nat.le_of_eq h5.symm⟩
theorem ChZ.touch (h0 : aPs s f i = 0 ∨ aPs s f i = 2) (hz : Z f i) : ChZ Z s (uPs s f i 2) := by
  refine ⟨Nat.le_refl _, fun _ _ => rfl, fun g p => ?_, fun _ _ _ => rfl, fun g p _ z => ?_, Nat.le_refl _⟩
  · show (if g = f ∧ p = i then 2 else aPs s g p) = aPs s g p ∨ (aPs s g p = 0 ∧ (if g = f ∧ p = i then 2 else aPs s g p) = 2)
    by_cases c : g = f ∧ p = i
    · rw [if_pos c, c.1, c.2]
      rcases h0 with e | e
      · exact Or.inr ⟨e, rfl⟩
      · exact Or.inl e.symm
    · rw [if_neg c]; exact Or.inl rfl
  · show (if g = f ∧ p = i then 2 else aPs s g p) = aPs s g p
    rw [if_neg (fun c => z (by rw [c.1, c.2]; exact hz))]
theorem ChZ.se {l c d u q : Nat} : ChZ Z s (uSe s l c d u q) := ChZ.same sSame.se
theorem ChZ.ca : ChZ Z s (uCa s) := ⟨Nat.le_refl _, fun _ _ => rfl, fun _ _ => Or.inl rfl, fun _ _ _ => rfl, fun _ _ _ _ => rfl, Nat.le_succ _⟩
theorem ChZ.fr {F : AFr} : ChZ Z s (uFr s F) := ⟨Nat.le_succ _, fun g hg => if_neg (Nat.ne_of_lt hg), fun _ _ => Or.inl rfl, fun _ _ _ => rfl, fun _ _ _ _ => rfl, Nat.le_refl _⟩
/-- a part, from its beginning to its end -/
theorem ChZ.part {g p : Nat} {r : List Int} (h : ChZ Z1 (uPs s g p 1) s2) (h0 : aPs s g p = 0) (q : ∀ g' p', g' < aNf s → Z1 g' p' → Z g' p') (hz : Z g p) : ChZ Z s (uDn s2 g p r) := by
  have h1 : aPs (uPs s g p 1) g p = 1 := if_pos ⟨rfl, rfl⟩
  have ne : ∀ {g' p'}, ¬ (g' = g ∧ p' = p) → aPs (uPs s g p 1) g' p' = aPs s g' p' := fun c => if_neg c
  refine ⟨h.1, h.2.1, fun g' p' => ?_, fun g' p' h0' => ?_, fun g' p' hg' hz' => ?_, h.2.2.2.2.2⟩
  · show (if g' = g ∧ p' = p then 2 else aPs s2 g' p') = aPs s g' p' ∨ (aPs s g' p' = 0 ∧ (if g' = g ∧ p' = p then 2 else aPs s2 g' p') = 2)
    by_cases c : g' = g ∧ p' = p
    · rw [if_pos c, c.1, c.2]; exact Or.inr ⟨h0, rfl⟩
    · rw [if_neg c]
      have z := h.2.2.1 g' p'
      rw [ne c] at z
      exact z
  · show (if g' = g ∧ p' = p then r else aRw s2 g' p') = aRw s g' p'
    have c : ¬ (g' = g ∧ p' = p) := fun c => h0' (by rw [c.1, c.2]; exact h0)
    rw [if_neg c]
    exact h.2.2.2.1 g' p' (by rw [ne c]; exact h0')
  · have c : ¬ (g' = g ∧ p' = p) := fun c => hz' (by rw [c.1, c.2]; exact hz)
    show (if g' = g ∧ p' = p then 2 else aPs s2 g' p') = aPs s g' p'
    rw [if_neg c, h.2.2.2.2.1 g' p' hg' (fun z => hz' (q g' p' hg' z)), ne c]
/-- the frames as they were -/
theorem PI.keep (h : PI E s) (e1 : s'.1 = s.1) (e2 : s'.2.1 = s.2.1) (e3 : ∀ g p, aPs s g p ≠ 0 → aPs s' g p ≠ 0) (e4 : ∀ g p, aNf s ≤ g → aPs s' g p = 0) (e5 : ∀ g p, okr (aRw s' g p)) (e6 : aCa s ≤ aCa s') (e7 : aCa s' ≤ 40) : PI E s' := by
  obtain ⟨n', fr', x'⟩ := s'
  obtain ⟨n, fr, x⟩ := s
  subst e1 e2
  refine ⟨fun f hf => ?_, ⟨fun g hg p => e4 g p hg, Nat.le_trans h.2.1.2 (Nat.succ_le_succ e6)⟩, e5, e7⟩
  obtain ⟨a, b⟩ := h.1 f hf
  refine ⟨a, ?_⟩
  rcases b with b | ⟨b1, b2, b3, b4, b5, b6, b7⟩
  · exact Or.inl b
  · exact Or.inr ⟨b1, b2, b3, b4, b5, e3 _ _ b6, b7⟩
theorem PI.touch (h : PI E s) (hf : f < aNf s) {x : Nat} (hx : x ≠ 0) : PI E (uPs s f i x) := by
  refine h.keep rfl rfl (fun g p h0 => ?_) (fun g p hg => ?_) h.2.2.1 (Nat.le_refl _) h.2.2.2
  · show (if g = f ∧ p = i then x else aPs s g p) ≠ 0
    by_cases c : g = f ∧ p = i
    · rw [if_pos c]; exact hx
    · rw [if_neg c]; exact h0
  · show (if g = f ∧ p = i then x else aPs s g p) = 0
    rw [if_neg (by omega)]
    exact h.2.1.1 g hg p
theorem PI.dn (h : PI E s) (hf : f < aNf s) {r : List Int} (hr : okr r) : PI E (uDn s f i r) := by
  refine h.keep rfl rfl (fun g p h0 => ?_) (fun g p hg => ?_) (fun g p => ?_) (Nat.le_refl _) h.2.2.2
  · show (if g = f ∧ p = i then 2 else aPs s g p) ≠ 0
    by_cases c : g = f ∧ p = i
    · rw [if_pos c]; decide
    · rw [if_neg c]; exact h0
  · show (if g = f ∧ p = i then 2 else aPs s g p) = 0
    rw [if_neg (by omega)]
    exact h.2.1.1 g hg p
  · show okr (if g = f ∧ p = i then r else aRw s g p)
    by_cases c : g = f ∧ p = i
    · rw [if_pos c]; exact hr
    · rw [if_neg c]; exact h.2.2.1 g p
theorem PI.same (h : PI E s) (q : sSame s s') : PI E s' := by
  obtain ⟨h1, h2, h3, h4, h5⟩ := q
  exact h.keep h1 h2 (fun g p z => by rw [h3]; exact z) (fun g p hg => by rw [h3]; exact h.2.1.1 g hg p) (fun g p => by rw [h4]; exact h.2.2.1 g p) (Nat.le_of_eq h5.symm) (by rw [h5]; exact h.2.2.2)
theorem PI.se (h : PI E s) {l c d u q : Nat} : PI E (uSe s l c d u q) := h.same sSame.se
theorem PI.ca (h : PI E s) (hc : aCa s < 40) : PI E (uCa s) := h.keep rfl rfl (fun _ _ z => z) (fun g p hg => h.2.1.1 g hg p) h.2.2.1 (Nat.le_succ _) hc
/-- a new frame -/
theorem PI.fr (h : PI E s) (hg : aNf s ≤ aCa s) {v t d : Nat} (hv : ∃ t, t < 24 ∧ eSn E t ≠ -1 ∧ (eSn E t).toNat = v) (ht : t < 24) (hd : d ≤ 6) (hf : f < aNf s) (hi : i < fn E s f) (hk : fg E s f i / 1000 = 2) (hp : aPs s f i ≠ 0)
   (hu : ∀ f', f' < aNf s → (aFr s f').2.2.2.1 = (f : Int) → (aFr s f').2.2.2.2.1 = i → False) :
   PI E (uFr s (v, t, d, (f : Int), i, agF (fg E s f) (prs_ (fg E s f) (fn E s f) 30 (i + 1)) 0 (fun _ => -1))) := by
  have old : ∀ g, g < aNf s → aFr (uFr s (v, t, d, (f : Int), i, agF (fg E s f) (prs_ (fg E s f) (fn E s f) 30 (i + 1)) 0 (fun _ => -1))) g = aFr s g := fun g hg => if_neg (Nat.ne_of_lt hg)
  have new : aFr (uFr s (v, t, d, (f : Int), i, agF (fg E s f) (prs_ (fg E s f) (fn E s f) 30 (i + 1)) 0 (fun _ => -1))) (aNf s) = (v, t, d, (f : Int), i, agF (fg E s f) (prs_ (fg E s f) (fn E s f) 30 (i + 1)) 0 (fun _ => -1)) := if_pos rfl
  have gO : ∀ g, g < aNf s → fg E (uFr s (v, t, d, (f : Int), i, agF (fg E s f) (prs_ (fg E s f) (fn E s f) 30 (i + 1)) 0 (fun _ => -1))) g = fg E s g ∧ fn E (uFr s (v, t, d, (f : Int), i, agF (fg E s f) (prs_ (fg E s f) (fn E s f) 30 (i + 1)) 0 (fun _ => -1))) g = fn E s g := fun g hg => ⟨by show eTx E (aFr _ g).1 = _; rw [old g hg], by show eTl E (aFr _ g).1 = _; rw [old g hg]⟩
  have nn : aNf (uFr s (v, t, d, (f : Int), i, agF (fg E s f) (prs_ (fg E s f) (fn E s f) 30 (i + 1)) 0 (fun _ => -1))) = aNf s + 1 := rfl
  have pp : aPs (uFr s (v, t, d, (f : Int), i, agF (fg E s f) (prs_ (fg E s f) (fn E s f) 30 (i + 1)) 0 (fun _ => -1))) = aPs s := rfl
  have ww : aRw (uFr s (v, t, d, (f : Int), i, agF (fg E s f) (prs_ (fg E s f) (fn E s f) 30 (i + 1)) 0 (fun _ => -1))) = aRw s := rfl
  have cc : aCa (uFr s (v, t, d, (f : Int), i, agF (fg E s f) (prs_ (fg E s f) (fn E s f) 30 (i + 1)) 0 (fun _ => -1))) = aCa s := rfl
  generalize uFr s (v, t, d, (f : Int), i, agF (fg E s f) (prs_ (fg E s f) (fn E s f) 30 (i + 1)) 0 (fun _ => -1)) = S at *
  refine ⟨fun g hg' => ?_, ⟨fun g hg' p => by rw [pp]; exact h.2.1.1 g (by omega) p, by omega⟩, fun g p => by rw [ww]; exact h.2.2.1 g p, by rw [cc]; exact h.2.2.2⟩
  rcases Nat.lt_or_ge g (aNf s) with c | c
  · rw [old g c]
    obtain ⟨a, b⟩ := h.1 g c
    refine ⟨a, ?_⟩
    rcases b with b | ⟨b1, b2, b3, b4, b5, b6, b7⟩
    · exact Or.inl b
    · obtain ⟨x1, x2⟩ := gO (aFr s g).2.2.2.1.toNat (by omega)
      refine Or.inr ⟨b1, b2, by rw [x2]; exact b3, by rw [x1]; exact b4, by rw [x1, x2]; exact b5, by rw [pp]; exact b6, fun f' hf' y1 y2 => ?_⟩
      rcases Nat.lt_or_ge f' (aNf s) with c' | c'
      · rw [old f' c'] at y1 y2
        exact b7 f' c' y1 y2
      · have e : f' = aNf s := by omega
        subst e
        rw [new] at y1 y2
        exact (hu g c y1.symm y2.symm).elim
  · have e : g = aNf s := by omega
    subst e
    rw [new]
    obtain ⟨x1, x2⟩ := gO f hf
    refine ⟨⟨hv, ht, hd⟩, Or.inr ⟨by show (0 : Int) ≤ (f : Int); omega, by show (f : Int) < (aNf s : Int); omega, ?_, ?_, ?_, ?_, fun f' hf' y1 y2 => ?_⟩⟩
    · show i < fn E S ((f : Int)).toNat
      rw [Int.toNat_natCast, x2]; exact hi
    · show fg E S ((f : Int)).toNat i / 1000 = 2
      rw [Int.toNat_natCast, x1]; exact hk
    · show agF (fg E s f) (prs_ (fg E s f) (fn E s f) 30 (i + 1)) 0 (fun _ => -1) = agF (fg E S ((f : Int)).toNat) (prs_ (fg E S ((f : Int)).toNat) (fn E S ((f : Int)).toNat) 30 (i + 1)) 0 (fun _ => -1)
      rw [Int.toNat_natCast, x1, x2]
    · show aPs S ((f : Int)).toNat i ≠ 0
      rw [Int.toNat_natCast, pp]; exact hp
    · rcases Nat.lt_or_ge f' (aNf s) with c' | c'
      · rw [old f' c'] at y1 y2
        exact (hu f' c' y1 y2).elim
      · omega
end CHZ
