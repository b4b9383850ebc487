/-! THE CLASS WHILE IT EXPANDS -/
def DyC (b : Nat) (C : Cd) (a : Nat) : Prop := ∃ f p, f < 41 ∧ p < 30 ∧ cP C (b + 169 + 4 * f + 2) p = some a
def sX (b : Nat) (D : Nat → Prop) (q k a : Nat) : Prop :=
  (q = 0 ∧ ((a = b + 1 ∧ 408 ≤ k ∧ k ≤ 414) ∨ (a = b + 10 ∧ 701 ≤ k ∧ k ≤ 707) ∨ ((k = 801 ∨ k = 802) ∧ (a = b + 11 ∨ D a)) ∨ ((k = 505 ∨ k = 506) ∧ ∃ f, f < 41 ∧ a = b + 169 + 4 * f) ∨ ((k = 902 ∨ k = 903) ∧ ∃ r, r < 512 ∧ a = b + 333 + r))) ∨
  (q = 1 ∧ (((k = 503 ∨ k = 504) ∧ ∃ f, f < 41 ∧ a = b + 169 + 4 * f) ∨ ((k = 900 ∨ k = 901) ∧ ∃ r, r < 512 ∧ a = b + 333 + r))) ∨
  (q = 2 ∧ (a = b + 8 ∨ a = b + 9 ∨ a = b + 12 ∨ (∃ d, D d ∧ a = d + 1) ∨ ∃ f, f < 41 ∧ (a = b + 169 + 4 * f + 1 ∨ a = b + 169 + 4 * f + 3))) ∨
  (q = 3 ∧ ∃ f, f < 41 ∧ a = b + 169 + 4 * f + 2)
theorem sX.mu {b : Nat} {D : Nat → Prop} {q k a : Nat} (h : sX b D q k a) : Mu b q k a := by
  rcases h with h | ⟨h, h2 | h2⟩ | h | ⟨h, f, h1, h2⟩
  · exact Or.inl h.1
  · exact Or.inr (Or.inl ⟨h, by omega⟩)
  · exact Or.inr (Or.inl ⟨h, by omega⟩)
  · exact Or.inr (Or.inr (Or.inl h.1))
  · exact Or.inr (Or.inr (Or.inr ⟨h, by omega⟩))
/-- a module's instructions -/
def ModC (C : Cd) (a : Nat) (mi mv : Nat → Int) (ml : Nat) : Prop := cI C 1002 a = (ml : Int) ∧ ml ≤ 16 ∧ ∀ k, k < ml → cE C (a + 1) k = mi k ∧ cE C (a + 2) k = mv k
/-- what expanding reads -/
def EnC (b : Nat) (E : Env) (VA : Nat → Nat) (up : Int) (C : Cd) : Prop :=
  (∀ t, t < 24 → eSn E t ≠ -1 → Stl C (VA (eSn E t).toNat + 1) (eTx E (eSn E t).toNat) (eTl E (eSn E t).toNat)) ∧
  (∀ t : Nat, t < 24 → fX1_textAt (b + 1) (t : Int) up C = some (tRef E VA t, C)) ∧
  (∀ c : Nat, c < 8 → fX11_membersOf (some (b + 2)) (c : Int) C = some ((eMb E c : Int), C)) ∧
  ∀ j, j < 4 → ModC C (b + 157 + 3 * j) (eMi E j) (eMv E j) (eMl E j)
def EnvC (b : Nat) (E : Env) (VA : Nat → Nat) (up : Int) (C : Cd) : Prop := ∀ C', Fp (sX b (DyC b C)) C C' → EnC b E VA up C'
theorem EnvC.now {b : Nat} {E : Env} {VA : Nat → Nat} {up : Int} {C : Cd} (h : EnvC b E VA up C) (W : Wf C) : EnC b E VA up C := h C (Fp.rf W)
theorem sX_mono {b : Nat} {D D' : Nat → Prop} {q k a z : Nat} (h : sX b D q k a) (ha : a < z) (hd : ∀ a, D a → D' a ∨ z ≤ a) : sX b D' q k a := by
  rcases h with ⟨h, h2 | h2 | ⟨h2, h3 | h3⟩ | h2 | h2⟩ | h | ⟨h, h2 | h2 | h2 | ⟨d, h2, h3⟩ | h2⟩ | h
  · exact Or.inl ⟨h, Or.inl h2⟩
  · exact Or.inl ⟨h, Or.inr (Or.inl h2)⟩
  · exact Or.inl ⟨h, Or.inr (Or.inr (Or.inl ⟨h2, Or.inl h3⟩))⟩
  · rcases hd a h3 with y | y
    · exact Or.inl ⟨h, Or.inr (Or.inr (Or.inl ⟨h2, Or.inr y⟩))⟩
    · omega
  · exact Or.inl ⟨h, Or.inr (Or.inr (Or.inr (Or.inl h2)))⟩
  · exact Or.inl ⟨h, Or.inr (Or.inr (Or.inr (Or.inr h2)))⟩
  · exact Or.inr (Or.inl h)
  · exact Or.inr (Or.inr (Or.inl ⟨h, Or.inl h2⟩))
  · exact Or.inr (Or.inr (Or.inl ⟨h, Or.inr (Or.inl h2)⟩))
  · exact Or.inr (Or.inr (Or.inl ⟨h, Or.inr (Or.inr (Or.inl h2))⟩))
  · rcases hd d h2 with y | y
    · exact Or.inr (Or.inr (Or.inl ⟨h, Or.inr (Or.inr (Or.inr (Or.inl ⟨d, y, h3⟩)))⟩))
    · omega
  · exact Or.inr (Or.inr (Or.inl ⟨h, Or.inr (Or.inr (Or.inr (Or.inr h2)))⟩))
  · exact Or.inr (Or.inr (Or.inr h))
theorem EnvC.step {b : Nat} {E : Env} {VA : Nat → Nat} {up : Int} {C C1 : Cd} (h : EnvC b E VA up C) (f : Fp (sX b (DyC b C)) C C1) (hd : ∀ a, DyC b C1 a → DyC b C a ∨ csz C ≤ a) : EnvC b E VA up C1 :=
  fun C' f' => h C' (f.tr2 f' (fun q k a ha z => sX_mono z ha hd))
theorem sX.tr {b : Nat} {C C1 C2 : Cd} (f : Fp (sX b (DyC b C)) C C1) (hd : ∀ a, DyC b C1 a → DyC b C a ∨ csz C ≤ a) (f' : Fp (sX b (DyC b C1)) C1 C2) : Fp (sX b (DyC b C)) C C2 := f.tr2 f' (fun q k a ha z => sX_mono z ha hd)
/-- the rows of frames' parts are rows, apart from each other -/
def RXc (b : Nat) (C : Cd) : Prop := ∀ f p a, f < 41 → p < 30 → cP C (b + 169 + 4 * f + 2) p = some a → RwA C a ∧ b + 854 ≤ a ∧ ∀ f' p', f' < 41 → p' < 30 → cP C (b + 169 + 4 * f' + 2) p' = some a → f' = f ∧ p' = p
def FrC (b : Nat) (C : Cd) (E : Env) (VA : Nat → Nat) (s : ASt) : Prop := ∀ f, f < aNf s →
  (cR C 504 (b + 169 + 4 * f) = some (VA (aFr s f).1 + 1) ∧ cI C 505 (b + 169 + 4 * f) = ((aFr s f).2.1 : Int) ∧ (aFr s f).2.1 < 24 ∧ cI C 506 (b + 169 + 4 * f) = ((aFr s f).2.2.1 : Int) ∧ (aFr s f).2.2.1 ≤ 6) ∧
  (((aFr s f).2.2.2.1 = -1 ∧ cR C 503 (b + 169 + 4 * f) = none) ∨ (0 ≤ (aFr s f).2.2.2.1 ∧ (aFr s f).2.2.2.1 < (f : Int) ∧ cR C 503 (b + 169 + 4 * f) = some (b + 169 + 4 * (aFr s f).2.2.2.1.toNat))) ∧
  ∀ x, x < 10 → cE C (b + 169 + 4 * f + 1) x = (aFr s f).2.2.2.2.2 x
/-- what frames are in themselves -/
def FrP (E : Env) (s : ASt) : Prop := ∀ f, f < aNf s →
  (∃ t, t < 24 ∧ eSn E t ≠ -1 ∧ (eSn E t).toNat = (aFr s f).1) ∧ TxOK (fg E s f) (fn E s f) ∧ Tkv (fg E s f) (fn E s f) ∧
  ∀ x, x < 10 → (aFr s f).2.2.2.2.2 x = -1 ∨ (0 ≤ (aFr s f).2.2.2.1 ∧ (aFr s f).2.2.2.1 < (f : Int) ∧ 0 ≤ (aFr s f).2.2.2.2.2 x ∧ (aFr s f).2.2.2.2.2 x < (fn E s (aFr s f).2.2.2.1.toNat : Int) ∧ mkB (fg E s (aFr s f).2.2.2.1.toNat ((aFr s f).2.2.2.2.2 x).toNat / 1000) = true)
def MkC (b : Nat) (C : Cd) (E : Env) (s : ASt) : Prop := ∀ f p, f < aNf s → p < fn E s f → mkB (fg E s f p / 1000) = true →
  cE C (b + 169 + 4 * f + 3) p = (if aPs s f p = 0 then 0 else 1) ∧ (aPs s f p ≠ 0 → ∃ a, cP C (b + 169 + 4 * f + 2) p = some a ∧ (aPs s f p = 2 → RowV C a (aRw s f p)))
def SeC (b : Nat) (C : Cd) (s : ASt) : Prop := (cI C 703 (b + 10) = (aLk s : Int) ∧ aLk s < 16777216) ∧ (cI C 704 (b + 10) = (aCt s : Int) ∧ aCt s < 256) ∧ (cI C 705 (b + 10) = (aRd s : Int) ∧ aRd s < 16777216) ∧ (cI C 706 (b + 10) = (aCd s : Int) ∧ aCd s < 256) ∧ (cI C 707 (b + 10) = (aUs s : Int) ∧ aUs s < 16)
def XS (b : Nat) (C : Cd) (E : Env) (VA : Nat → Nat) (up : Int) (s : ASt) (R : Nat) : Prop := Lay b C ∧ RXc b C ∧ FrC b C E VA s ∧ FrP E s ∧ MkC b C E s ∧ SeC b C s ∧
  (cI C 408 (b + 1) = (aNf s : Int) ∧ aNf s ≤ 41 ∧ cI C 409 (b + 1) = (R : Int) ∧ cI C 410 (b + 1) = (aCa s : Int) ∧ aCa s ≤ 40 ∧ cI C 411 (b + 1) = up) ∧ RowV C (b + 6) [] ∧ EnvC b E VA up C
/-- a row that is being written -/
def CurR (b : Nat) (C : Cd) (E : Env) (s : ASt) (ra : Nat) : Prop := (ra = b + 11) ∨ ∃ cf cp, cf < aNf s ∧ cp < fn E s cf ∧ mkB (fg E s cf cp / 1000) = true ∧ aPs s cf cp = 1 ∧ cP C (b + 169 + 4 * cf + 2) cp = some ra
def S2 (b U ra q k a : Nat) : Prop := S1 b U ra q k a ∨ (q = 0 ∧ a = b + 1 ∧ 412 ≤ k ∧ k ≤ 414) ∨ (q = 2 ∧ (a = b + 8 ∨ a = b + 9))
section XSL
variable {b : Nat} {C C' : Cd} {E : Env} {VA : Nat → Nat} {up : Int} {s : ASt} {R ra : Nat}
theorem XS.lay (h : XS b C E VA up s R) : Lay b C := h.1
theorem XS.n30 (h : XS b C E VA up s R) {f : Nat} (hf : f < aNf s) : fn E s f ≤ 30 := (h.2.2.2.1 f hf).2.1.1.2
theorem XS.stl (h : XS b C E VA up s R) {f : Nat} (hf : f < aNf s) : Stl C (VA (aFr s f).1 + 1) (fg E s f) (fn E s f) := by
  obtain ⟨t, t1, t2, t3⟩ := (h.2.2.2.1 f hf).1
  have hE := (h.2.2.2.2.2.2.2.2.now h.1.W).1 t t1 t2
  rw [t3] at hE
  exact hE
/-- a done row is not the one that is written -/
theorem XS.ne (h : XS b C E VA up s R) (hc : CurR b C E s ra) {f p a : Nat} (hf : f < aNf s) (hp : p < fn E s f) (h2 : aPs s f p = 2) (ha : cP C (b + 169 + 4 * f + 2) p = some a) : a ≠ ra := by
  intro e
  subst e
  have hn := h.2.2.2.2.2.2.1.2.1
  have r := h.2.1 f p a (by omega) (by have := h.n30 hf; omega) ha
  rcases hc with e | ⟨cf, cp, c1, c2, c3, c4, c5⟩
  · omega
  · have q := r.2.2 cf cp (by omega) (by have := h.n30 c1; omega) c5
    rw [q.1, q.2, h2] at c4
    exact absurd c4 (by decide)
theorem DyC.of (hf : ∀ f, f < 41 → ∀ i, cP C' (b + 169 + 4 * f + 2) i = cP C (b + 169 + 4 * f + 2) i) {a : Nat} (h : DyC b C' a) : DyC b C a := by
  obtain ⟨f, p, h1, h2, h3⟩ := h
  exact ⟨f, p, h1, h2, (hf f h1 p).symm.trans h3⟩
/-- what a plain step keeps: it touches the row that is written, a run's place, the sets -/
theorem XS.plain (h : XS b C E VA up s R) (hc : CurR b C E s ra) {r : Nat} (hr : r < 512) {acc : List Int} (hra : RowV C ra acc) (f : Fp (S2 b (b + 333 + r) ra) C C') {s' : ASt} (hs : s'.1 = s.1 ∧ s'.2.1 = s.2.1 ∧ aPs s' = aPs s ∧ aRw s' = aRw s ∧ aCa s' = aCa s) (hse : SeC b C' s') :
   XS b C' E VA up s' R ∧ CurR b C' E s' ra ∧ Fp (sX b (DyC b C)) C C' ∧ (∀ a, DyC b C' a ↔ DyC b C a) := by
  obtain ⟨hL, hX, hF, hFP, hM, hS, hI, hN, hE⟩ := h
  obtain ⟨e1, e2, e3, e4, e5⟩ := hs
  have W := hL.W
  have hz := hL.sz
  have hcur : ra = b + 11 ∨ (DyC b C ra ∧ b + 854 ≤ ra) := by
    rcases hc with e | ⟨cf, cp, c1, c2, c3, c4, c5⟩
    · exact Or.inl e
    · have h1 := hI.2.1
      have h2 := (hFP cf c1).2.1.1.2
      exact Or.inr ⟨⟨cf, cp, by omega, by omega, c5⟩, (hX cf cp ra (by omega) (by omega) c5).2.1⟩
  have fX : Fp (sX b (DyC b C)) C C' := f.mono (fun q k a _ z => by
    rcases z with (⟨z1, z2, z3⟩ | z | ⟨z1, z2, z3, z4⟩) | ⟨z1, z2, z3, z4⟩ | ⟨z1, z2⟩
    · exact Or.inl ⟨z1, Or.inr (Or.inr (Or.inr (Or.inr ⟨Or.inl z2, r, hr, z3⟩)))⟩
    · rcases z with ⟨z1, z2, z3⟩ | ⟨z1, z2⟩
      · refine Or.inl ⟨z1, Or.inr (Or.inr (Or.inl ⟨z2, ?_⟩))⟩
        rw [z3]
        exact hcur.elim Or.inl (fun y => Or.inr y.1)
      · refine Or.inr (Or.inr (Or.inl ⟨z1, ?_⟩))
        rcases hcur with y | y
        · exact Or.inr (Or.inr (Or.inl (by omega)))
        · exact Or.inr (Or.inr (Or.inr (Or.inl ⟨ra, y.1, z2⟩)))
    · exact Or.inl ⟨z1, Or.inr (Or.inl ⟨z2, by omega, z4⟩)⟩
    · exact Or.inl ⟨z1, Or.inl ⟨z2, by omega, z4⟩⟩
    · refine Or.inr (Or.inr (Or.inl ⟨z1, ?_⟩))
      rcases z2 with z2 | z2
      · exact Or.inl z2
      · exact Or.inr (Or.inl z2))
  have hL' := hL.keep (fX.mono (fun _ _ _ _ z => z.mu))
  have pk : ∀ f', f' < 41 → ∀ i, cP C' (b + 169 + 4 * f' + 2) i = cP C (b + 169 + 4 * f' + 2) i := fun f' hf' i => f.fP (W _ (hL.fro hf').1) (by unfold S2 S1 sRow; omega) i
  have rw_ : ∀ {a : Nat}, RwA C a → RwA C' a := fun q => q.fp W f (by unfold S2 S1 sRow; omega)
  have dy : ∀ a, DyC b C' a ↔ DyC b C a := fun a => ⟨DyC.of pk, DyC.of (fun f' hf' i => (pk f' hf' i).symm)⟩
  have hra0 : ra ≠ b + 6 := by rcases hcur with e | e <;> omega
  have nE : ∀ {a : Nat}, (a < b + 854 ∧ a ≠ b + 12 ∧ a ≠ b + 8 ∧ a ≠ b + 9) → ¬ S2 b (b + 333 + r) ra 2 0 a := fun q z => by
    unfold S2 S1 sRow at z
    rcases hcur with y | y <;> omega
  have fgs : fg E s' = fg E s := by show (fun f => eTx E (s'.2.1 f).1) = _; rw [e2]
  have fns : fn E s' = fn E s := by show (fun f => eTl E (s'.2.1 f).1) = _; rw [e2]
  refine ⟨⟨hL', ?_, ?_, ?_, ?_, hse, ?_, ?_, hE.step fX (fun a q => Or.inl ((dy a).mp q))⟩, ?_, fX, dy⟩
  · intro f' p a hf' hp ha
    rw [pk f' hf'] at ha
    obtain ⟨q1, q2, q3⟩ := hX f' p a hf' hp ha
    exact ⟨rw_ q1, q2, fun f2 p2 hf2 hp2 h2 => q3 f2 p2 hf2 hp2 (by rw [← pk f2 hf2]; exact h2)⟩
  · intro f' hf'
    rw [show aNf s' = aNf s from e1] at hf'
    have hn := hI.2.1
    obtain ⟨⟨a1, a2, a3, a4, a5⟩, a6, a7⟩ := hF f' hf'
    have zF := W _ (hL.fo (show f' < 41 by omega)).1
    rw [show aFr s' = aFr s from e2]
    refine ⟨⟨(f.fR zF (by unfold S2 S1 sRow; omega)).trans a1, (f.fI zF (by unfold S2 S1 sRow; omega)).trans a2, a3, (f.fI zF (by unfold S2 S1 sRow; omega)).trans a4, a5⟩, ?_, fun x hx => (f.fE (W _ (hL.fao (show f' < 41 by omega)).1) (nE (by omega)) x).trans (a7 x hx)⟩
    rw [f.fR zF (by unfold S2 S1 sRow; omega)]
    exact a6
  · intro f' hf'
    rw [show aNf s' = aNf s from e1] at hf'
    have q := hFP f' hf'
    rw [show aFr s' = aFr s from e2, fgs, fns]
    exact q
  · intro f' p hf' hp hm
    rw [show aNf s' = aNf s from e1] at hf'
    rw [fns] at hp
    rw [fgs] at hm
    rw [e3, e4]
    have hn := hI.2.1
    obtain ⟨q1, q2⟩ := hM f' p hf' hp hm
    refine ⟨(f.fE (W _ (hL.fbo (show f' < 41 by omega)).1) (nE (by omega)) p).trans q1, fun hne => ?_⟩
    obtain ⟨a, r1, r2⟩ := q2 hne
    refine ⟨a, (pk f' (by omega) p).trans r1, fun h2 => ?_⟩
    have hne2 : a ≠ ra := XS.ne ⟨hL, hX, hF, hFP, hM, hS, hI, hN, hE⟩ hc hf' hp h2 r1
    have ha854 := (hX f' p a (by omega) (by have := (hFP f' hf').2.1.1.2; omega) r1).2.1
    exact (r2 h2).fp W f (by unfold S2 S1 sRow; omega) (by unfold S2 S1 sRow; omega) (by unfold S2 S1 sRow; omega) (by unfold S2 S1 sRow; rcases hcur with y | y <;> omega)
  · obtain ⟨i1, i2, i3, i4, i5, i6⟩ := hI
    have ze : b + 1 < csz C := by omega
    rw [show aNf s' = aNf s from e1, e5]
    exact ⟨(f.fI ze (by unfold S2 S1 sRow; rcases hcur with y | y <;> omega)).trans i1, i2, (f.fI ze (by unfold S2 S1 sRow; rcases hcur with y | y <;> omega)).trans i3, (f.fI ze (by unfold S2 S1 sRow; rcases hcur with y | y <;> omega)).trans i4, i5, (f.fI ze (by unfold S2 S1 sRow; rcases hcur with y | y <;> omega)).trans i6⟩
  · exact hN.fp W f (by unfold S2 S1 sRow; omega) (by unfold S2 S1 sRow; omega) (by unfold S2 S1 sRow; omega) (by unfold S2 S1 sRow; rcases hcur with y | y <;> omega)
  · rcases hc with e | ⟨cf, cp, c1, c2, c3, c4, c5⟩
    · exact Or.inl e
    · have hn := hI.2.1
      refine Or.inr ⟨cf, cp, by rw [show aNf s' = aNf s from e1]; exact c1, by rw [fns]; exact c2, by rw [fgs]; exact c3, by rw [e3]; exact c4, (pk cf (by omega) cp).trans c5⟩
end XSL
