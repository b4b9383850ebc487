/-! THE CLASS WHILE IT EXPANDS: what a stretch of a run keeps -/
section KEEP
variable {b : Nat} {C C' C1 C2 : Cd} {E : Env} {VA : Nat → Nat} {up : Int} {s s1 s2 s' : ASt} {R r ra f i e : Nat} {acc acc' : List Int}
/-- how many rows of parts there are -/
def nRow (b : Nat) (C : Cd) : Nat := cnt (fun k => (cP C (b + 169 + 4 * (k / 30) + 2) (k % 30)).isSome) 1230
/-- what is allocated: rows of parts -/
def Rm (b : Nat) (C C' : Cd) : Prop := csz C' + 2 * nRow b C = csz C + 2 * nRow b C' ∧ csl C' + 153 * nRow b C = csl C + 153 * nRow b C' ∧ ∀ f p a, f < 41 → p < 30 → cP C (b + 169 + 4 * f + 2) p = some a → cP C' (b + 169 + 4 * f + 2) p = some a
theorem Rm.rf : Rm b C C := ⟨rfl, rfl, fun _ _ _ _ _ h => h⟩
theorem Rm.tr (h : Rm b C C1) (h2 : Rm b C1 C2) : Rm b C C2 := by
  obtain ⟨a1, a2, a3⟩ := h
  obtain ⟨b1, b2, b3⟩ := h2
  exact ⟨by omega, by omega, fun f p a q1 q2 q3 => b3 f p a q1 q2 (a3 f p a q1 q2 q3)⟩
theorem Rm.same (h : csz C' = csz C ∧ csl C' = csl C) (e : ∀ f, f < 41 → ∀ x, cP C' (b + 169 + 4 * f + 2) x = cP C (b + 169 + 4 * f + 2) x) : Rm b C C' := by
  have q : nRow b C' = nRow b C := cnt_congr (fun k hk => by rw [e (k / 30) (by omega) (k % 30)])
  unfold Rm
  rw [q, h.1, h.2]
  exact ⟨rfl, rfl, fun f p a q1 q2 q3 => (e f q1 p).trans q3⟩
theorem Rm.new {f p a : Nat} (h : csz C' = csz C + 2 ∧ csl C' = csl C + 153) (hf : f < 41) (hp : p < 30) (h0 : cP C (b + 169 + 4 * f + 2) p = none) (h1 : cP C' (b + 169 + 4 * f + 2) p = some a) (e : ∀ f', f' < 41 → ∀ x, ¬ (f' = f ∧ x = p) → cP C' (b + 169 + 4 * f' + 2) x = cP C (b + 169 + 4 * f' + 2) x) : Rm b C C' := by
  have q : nRow b C' = nRow b C + 1 := by
    refine cnt_or1 (u := 30 * f + p) (by omega) ?_ (fun o ho => ?_)
    · show (cP C (b + 169 + 4 * ((30 * f + p) / 30) + 2) ((30 * f + p) % 30)).isSome = false
      rw [show (30 * f + p) / 30 = f by omega, show (30 * f + p) % 30 = p by omega, h0]
      rfl
    · by_cases c : o = 30 * f + p
      · rw [c, show (30 * f + p) / 30 = f by omega, show (30 * f + p) % 30 = p by omega, h1, h0]
        simp only [Option.isSome_some, Option.isSome_none, decide_true, Bool.or_true]
      · rw [e (o / 30) (by omega) (o % 30) (by omega), decide_eq_false c, Bool.or_false]
  unfold Rm
  rw [q]
  refine ⟨by omega, by omega, fun f' p' a' q1 q2 q3 => ?_⟩
  rw [e f' q1 p' (fun z => by rw [z.1, z.2, h0] at q3; cases q3)]
  exact q3
def Keep (b : Nat) (C C' : Cd) (E : Env) (s s' : ASt) (r ra : Nat) : Prop :=
  (∀ r', r' < r → cR C' 900 (b + 333 + r') = cR C 900 (b + 333 + r') ∧ cR C' 901 (b + 333 + r') = cR C 901 (b + 333 + r') ∧ cI C' 902 (b + 333 + r') = cI C 902 (b + 333 + r') ∧ cI C' 903 (b + 333 + r') = cI C 903 (b + 333 + r')) ∧
  (∀ a q, CurR b C E s a → a ≠ ra → RowV C a q → RowV C' a q ∧ CurR b C' E s' a) ∧ aNf s ≤ aNf s' ∧ (∀ f, f < aNf s → aFr s' f = aFr s f) ∧ Fp (sX b (DyC b C)) C C' ∧ (∀ x, DyC b C' x → DyC b C x ∨ csz C ≤ x) ∧ Rm b C C'
theorem Keep.rf (W : Wf C) : Keep b C C E s s r ra := ⟨fun _ _ => ⟨rfl, rfl, rfl, rfl⟩, fun a q h1 _ h2 => ⟨h2, h1⟩, Nat.le_refl _, fun _ _ => rfl, Fp.rf W, fun x h => Or.inl h, Rm.rf⟩
theorem Keep.tr (h : Keep b C C1 E s s1 r ra) (h2 : Keep b C1 C2 E s1 s2 r ra) : Keep b C C2 E s s2 r ra := by
  obtain ⟨a1, a2, a3, a4, a5, a6, a7⟩ := h
  obtain ⟨b1, b2, b3, b4, b5, b6, b7⟩ := h2
  refine ⟨fun r' hr' => ?_, fun a q h1 h2 h3 => ?_, Nat.le_trans a3 b3, fun f hf => (b4 f (Nat.lt_of_lt_of_le hf a3)).trans (a4 f hf), a5.tr2 b5 (fun q k a ha z => sX_mono z ha a6), fun x hx => ?_, a7.tr b7⟩
  · have p := a1 r' hr'
    have q := b1 r' hr'
    exact ⟨q.1.trans p.1, q.2.1.trans p.2.1, q.2.2.1.trans p.2.2.1, q.2.2.2.trans p.2.2.2⟩
  · obtain ⟨c1, c2⟩ := a2 a q h1 h2 h3
    exact b2 a q c2 h2 c1
  · rcases b6 x hx with y | y
    · exact a6 x y
    · exact Or.inr (Nat.le_trans a5.1 y)
/-- another row that is written -/
theorem CurR.apart (h : XS b C E VA up s R) (ha : CurR b C E s ra) {a : Nat} (hb : CurR b C E s a) (hne : a ≠ ra) : a + 1 ≠ ra + 1 ∧ a ≠ ra + 1 ∧ a + 1 ≠ ra := by
  have hL := h.1
  refine ⟨by omega, fun z => ?_, fun z => ?_⟩
  · have o1 : isO C a 8 := by
      rcases hb with e | ⟨cf, cp, c1, c2, c3, c4, c5⟩
      · rw [e]; exact hL.2.2.1.2.2.2.2.2.2.2.2.2.2.1
      · exact (h.2.1 cf cp a (by have := h.2.2.2.2.2.2.1.2.1; omega) (by have := h.n30 c1; omega) c5).1.1
    have o2 : isO C (ra + 1) 100 := by
      rcases ha with e | ⟨cf, cp, c1, c2, c3, c4, c5⟩
      · rw [e]; exact hL.2.2.1.2.2.2.2.2.2.2.2.2.2.2.2.1
      · exact (h.2.1 cf cp ra (by have := h.2.2.2.2.2.2.1.2.1; omega) (by have := h.n30 c1; omega) c5).1.2.2.1
    rw [z] at o1
    have := o1.2.symm.trans o2.2
    omega
  · have o1 : isO C ra 8 := by
      rcases ha with e | ⟨cf, cp, c1, c2, c3, c4, c5⟩
      · rw [e]; exact hL.2.2.1.2.2.2.2.2.2.2.2.2.2.1
      · exact (h.2.1 cf cp ra (by have := h.2.2.2.2.2.2.1.2.1; omega) (by have := h.n30 c1; omega) c5).1.1
    have o2 : isO C (a + 1) 100 := by
      rcases hb with e | ⟨cf, cp, c1, c2, c3, c4, c5⟩
      · rw [e]; exact hL.2.2.1.2.2.2.2.2.2.2.2.2.2.2.2.1
      · exact (h.2.1 cf cp a (by have := h.2.2.2.2.2.2.1.2.1; omega) (by have := h.n30 c1; omega) c5).1.2.2.1
    rw [z] at o2
    have := o1.2.symm.trans o2.2
    omega
/-- a plain change keeps -/
theorem Keep.plain (h : XS b C E VA up s R) (hc : CurR b C E s ra) (hr : r < 512) (f : Fp (S2 b (b + 333 + r) ra) C C') (hs : s'.1 = s.1 ∧ s'.2.1 = s.2.1 ∧ aPs s' = aPs s) (fX : Fp (sX b (DyC b C)) C C') (dy : ∀ a, DyC b C' a ↔ DyC b C a) (hsz : csz C' = csz C ∧ csl C' = csl C) : Keep b C C' E s s' r ra := by
  have hL := h.1
  have W := hL.W
  have hz := hL.sz
  have c0 := h.cur0 hc
  obtain ⟨e1, e2, e3⟩ := hs
  have fgs : fg E s' = fg E s := by show (fun f => eTx E (s'.2.1 f).1) = _; rw [e2]
  have fns : fn E s' = fn E s := by show (fun f => eTl E (s'.2.1 f).1) = _; rw [e2]
  refine ⟨fun r' hr' => ?_, fun a q h1 h2 h3 => ?_, by rw [show aNf s' = aNf s from e1]; exact Nat.le_refl _, fun f' _ => by rw [show aFr s' = aFr s from e2], fX, fun x hx => Or.inl ((dy x).mp hx), Rm.same hsz (fun f' hf' x => f.fP (W _ (hL.fro hf').1) (by unfold S2 S1 sRow; omega) x)⟩
  · have zU := W _ (hL.uo (show r' < 512 by omega)).1
    exact ⟨f.fR zU (by unfold S2 S1 sRow; omega), f.fR zU (by unfold S2 S1 sRow; omega), f.fI zU (by unfold S2 S1 sRow; omega), f.fI zU (by unfold S2 S1 sRow; omega)⟩
  · have hap := CurR.apart h hc h1 h2
    have ca := h.cur0 h1
    refine ⟨h3.fp W f (by unfold S2 S1 sRow; omega) (by unfold S2 S1 sRow; omega) (by unfold S2 S1 sRow; omega) (by unfold S2 S1 sRow; omega), ?_⟩
    rcases h1 with e | ⟨cf, cp, c1, c2, c3, c4, c5⟩
    · exact Or.inl e
    · have hn := h.2.2.2.2.2.2.1.2.1
      refine Or.inr ⟨cf, cp, by rw [show aNf s' = aNf s from e1]; exact c1, by rw [fns]; exact c2, by rw [fgs]; exact c3, by rw [e3]; exact c4, (f.fP (W _ (hL.fro (show cf < 41 by omega)).1) (by unfold S2 S1 sRow; omega) cp).trans c5⟩
/-- a stretch of a run has been gone over -/
def Post (b : Nat) (C C' : Cd) (E : Env) (VA : Nat → Nat) (up : Int) (s s' : ASt) (r f ra i e : Nat) (acc' : List Int) : Prop :=
  XS b C' E VA up s' (r + 1) ∧ Fre s' ∧ CurR b C' E s' ra ∧ RowV C' ra acc' ∧ RunAt b C' r f ra i ∧ cI C' 903 (b + 333 + r) = (e : Int) ∧ Keep b C C' E s s' r ra
def Pre (b : Nat) (C : Cd) (E : Env) (VA : Nat → Nat) (up : Int) (s : ASt) (r f ra i e : Nat) (acc : List Int) : Prop :=
  XS b C E VA up s (r + 1) ∧ Fre s ∧ CurR b C E s ra ∧ RowV C ra acc ∧ RunAt b C r f ra i ∧ cI C 903 (b + 333 + r) = (e : Int)
theorem Post.tr {i1 : Nat} {acc1 : List Int} (h : Post b C C1 E VA up s s1 r f ra i1 e acc1) (h2 : Post b C1 C2 E VA up s1 s2 r f ra i e acc) : Post b C C2 E VA up s s2 r f ra i e acc :=
  ⟨h2.1, h2.2.1, h2.2.2.1, h2.2.2.2.1, h2.2.2.2.2.1, h2.2.2.2.2.2.1, h.2.2.2.2.2.2.tr h2.2.2.2.2.2.2⟩
theorem Post.pre {i1 : Nat} {acc1 : List Int} (h : Post b C C1 E VA up s s1 r f ra i1 e acc1) : Pre b C1 E VA up s1 r f ra i1 e acc1 := ⟨h.1, h.2.1, h.2.2.1, h.2.2.2.1, h.2.2.2.2.1, h.2.2.2.2.2.1⟩
/-- a plain step -/
theorem post_plain (h : Pre b C E VA up s r f ra i e acc) (fp : Fp (S2 b (b + 333 + r) ra) C C') (hs : s'.1 = s.1 ∧ s'.2.1 = s.2.1 ∧ aPs s' = aPs s ∧ aRw s' = aRw s ∧ aCa s' = aCa s) (hse : SeC b C' s') (hrow : RowV C' ra acc') {i' : Nat} (h902 : cI C' 902 (b + 333 + r) = (i' : Int)) (hsz : csz C' = csz C ∧ csl C' = csl C) : Post b C C' E VA up s s' r f ra i' e acc' := by
  obtain ⟨h1, h2, h3, h4, h5, h6⟩ := h
  obtain ⟨hr, hf, h900, h901, _⟩ := h5
  obtain ⟨x1, x2, x3, x4⟩ := h1.plain h3 hr h4 fp hs hse
  have zU := h1.1.W _ (h1.1.uo hr).1
  have c0 := h1.cur0 h3
  refine ⟨x1, ⟨fun f' hf' p => by rw [hs.2.2.1]; exact h2.1 f' (by rw [← show aNf s' = aNf s from hs.1]; exact hf') p, by rw [show aNf s' = aNf s from hs.1, hs.2.2.2.2]; exact h2.2⟩, x2, hrow, ⟨hr, hf, (fp.fR zU (by unfold S2 S1 sRow; omega)).trans h900, (fp.fR zU (by unfold S2 S1 sRow; omega)).trans h901, h902⟩, (fp.fI zU (by unfold S2 S1 sRow; omega)).trans h6, Keep.plain h1 h3 hr fp ⟨hs.1, hs.2.1, hs.2.2.1⟩ x3 x4 hsz⟩
theorem S1.two {U q k a : Nat} (h : S1 b U ra q k a) : S2 b U ra q k a := Or.inl h
/-- the loop does the step -/
theorem kst_of (h : Pre b C E VA up s r f ra i e acc) (hi : i < e) (he : e ≤ 30) (hst : fX1_stepOn (b + 1) (some (b + 333 + r)) C = some ((), C')) : KSts b 1 C C' := by
  obtain ⟨h1, h2, h3, h4, ⟨hr, hf, h900, h901, h902⟩, h6⟩ := h
  have h9 := h1.2.2.2.2.2.2.1.2.2.1
  exact KSts.one ⟨h1.1, r, by rw [h9]; omega, hr, i, e, h902, h6, by omega, by omega, Or.inl ⟨hi, hst⟩⟩
theorem SeC.mk {l c d u q : Nat} (h : SeC b C s) (h1 : cI C' 703 (b + 10) = ((aLk s ||| l : Nat) : Int)) (h2 : cI C' 704 (b + 10) = ((aCt s ||| c : Nat) : Int)) (h3 : cI C' 705 (b + 10) = ((aRd s ||| q : Nat) : Int)) (h4 : cI C' 706 (b + 10) = ((aCd s ||| d : Nat) : Int)) (h5 : cI C' 707 (b + 10) = ((aUs s ||| u : Nat) : Int)) (l1 : l < 16777216) (c1 : c < 256) (q1 : q < 16777216) (d1 : d < 256) (u1 : u < 16) : SeC b C' (uSe s l c q d u) :=
  ⟨⟨h1, Nat.or_lt_two_pow (n := 24) h.1.2 l1⟩, ⟨h2, Nat.or_lt_two_pow (n := 8) h.2.1.2 c1⟩, ⟨h3, Nat.or_lt_two_pow (n := 24) h.2.2.1.2 q1⟩, ⟨h4, Nat.or_lt_two_pow (n := 8) h.2.2.2.1.2 d1⟩, ⟨h5, Nat.or_lt_two_pow (n := 4) h.2.2.2.2.2 u1⟩⟩
theorem or0 {x : Int} {y : Nat} (h : x = (y : Int)) : x = ((y ||| 0 : Nat) : Int) := by rw [Nat.or_zero]; exact h
section PLAIN
variable {g : Nat → Int} {n : Nat}
theorem seg_word (h : Pre b C E VA up s r f ra i e acc) (hf : f < aNf s) (hi : i < fn E s f) (ek : fg E s f i / 1000 = 0) : ∃ C', fX1_stepOn (b + 1) (some (b + 333 + r)) C = some ((), C') ∧ Post b C C' E VA up s s r f ra (i + 1) e (apl acc (fg E s f i % 1000)) := by
  obtain ⟨h1, h2, h3, h4, h5, h6⟩ := h
  obtain ⟨C', e1, r1, i1, f1, z1, z2, v1⟩ := step_word h1.1 h5 (h1.2.2.1 f hf).1.1 (h1.stl hf) hi ek h4
  exact ⟨C', e1, post_plain (i' := i + 1) ⟨h1, h2, h3, h4, h5, h6⟩ (f1.mono (fun _ _ _ _ z => z.two)) ⟨rfl, rfl, rfl, rfl, rfl⟩ (h1.2.2.2.2.2.1.of v1) r1 (i1.trans (by omega)) ⟨z1, z2⟩⟩
theorem seg_link (h : Pre b C E VA up s r f ra i e acc) (hf : f < aNf s) (hi : i < fn E s f) (ek : fg E s f i / 1000 = 1 ∨ fg E s f i / 1000 = 12) : ∃ C', fX1_stepOn (b + 1) (some (b + 333 + r)) C = some ((), C') ∧ Post b C C' E VA up s (uSe s (2 ^ (fg E s f i % 1000).toNat) 0 0 0 0) r f ra (i + 1) e (apl acc (1000 + fg E s f i % 1000)) := by
  obtain ⟨h1, h2, h3, h4, h5, h6⟩ := h
  have hSe := h1.2.2.2.2.2.1
  have hok := (h1.2.2.2.1 f hf).2.2.1 i hi
  unfold okt at hok
  have hv := hok.2.2.1 (ek.elim Or.inl (fun z => Or.inr (Or.inr z)))
  obtain ⟨C', e1, r1, i1, f1, z1, z2, v1, v2⟩ := step_link h1.1 h5 (h1.2.2.1 f hf).1.1 (h1.stl hf) hi ek hv h4 hSe.1.1 hSe.1.2
  have h2p : (2 : Nat) ^ (fg E s f i % 1000).toNat < 2 ^ 24 := Nat.pow_lt_pow_right (by decide) (by omega)
  refine ⟨C', e1, post_plain (s' := uSe s (2 ^ (fg E s f i % 1000).toNat) 0 0 0 0) (i' := i + 1) ⟨h1, h2, h3, h4, h5, h6⟩ (f1.mono (fun _ _ _ _ z => z.two)) ⟨rfl, rfl, rfl, rfl, rfl⟩ (hSe.mk v1 (or0 ((v2 704 (by decide) (by decide)).trans hSe.2.1.1)) (or0 ((v2 705 (by decide) (by decide)).trans hSe.2.2.1.1)) (or0 ((v2 706 (by decide) (by decide)).trans hSe.2.2.2.1.1)) (or0 ((v2 707 (by decide) (by decide)).trans hSe.2.2.2.2.1)) h2p (by decide) (by decide) (by decide) (by decide)) r1 (i1.trans (by omega)) ⟨z1, z2⟩⟩
theorem seg_cat (h : Pre b C E VA up s r f ra i e acc) (hf : f < aNf s) (hi : i < fn E s f) (ek : fg E s f i / 1000 = 11) : ∃ C', fX1_stepOn (b + 1) (some (b + 333 + r)) C = some ((), C') ∧ Post b C C' E VA up s (uSe s 0 (2 ^ (fg E s f i % 1000).toNat) 0 0 0) r f ra (i + 1) e acc := by
  obtain ⟨h1, h2, h3, h4, h5, h6⟩ := h
  have hSe := h1.2.2.2.2.2.1
  have hok := (h1.2.2.2.1 f hf).2.2.1 i hi
  unfold okt at hok
  have hv := hok.2.2.2.1 ek
  obtain ⟨C', e1, r1, i1, f1, z1, z2, v1, v2⟩ := step_cat h1.1 h5 (h1.2.2.1 f hf).1.1 (h1.stl hf) hi ek hv h4 hSe.2.1.1 hSe.2.1.2
  have h2p : (2 : Nat) ^ (fg E s f i % 1000).toNat < 2 ^ 8 := Nat.pow_lt_pow_right (by decide) (by omega)
  refine ⟨C', e1, post_plain (s' := uSe s 0 (2 ^ (fg E s f i % 1000).toNat) 0 0 0) (i' := i + 1) ⟨h1, h2, h3, h4, h5, h6⟩ (f1.mono (fun _ _ _ _ z => z.two)) ⟨rfl, rfl, rfl, rfl, rfl⟩ (hSe.mk (or0 ((v2 703 (by decide) (by decide)).trans hSe.1.1)) v1 (or0 ((v2 705 (by decide) (by decide)).trans hSe.2.2.1.1)) (or0 ((v2 706 (by decide) (by decide)).trans hSe.2.2.2.1.1)) (or0 ((v2 707 (by decide) (by decide)).trans hSe.2.2.2.2.1)) (by decide) h2p (by decide) (by decide) (by decide)) r1 (i1.trans (by omega)) ⟨z1, z2⟩⟩
/-- only the place of the run goes on -/
theorem post_at (h : Pre b C E VA up s r f ra i e acc) (i' : Nat) : Post b C (cSetI C 902 (b + 333 + r) (i' : Int)) E VA up s s r f ra i' e acc := by
  obtain ⟨h1, h2, h3, h4, h5, h6⟩ := h
  have f1 : Fp (fun q k a => q = 0 ∧ k = 902 ∧ a = b + 333 + r) C (cSetI C 902 (b + 333 + r) (i' : Int)) := (Fp.rf h1.1.W).sI ⟨rfl, rfl, rfl⟩
  exact post_plain ⟨h1, h2, h3, h4, h5, h6⟩ (f1.mono (fun _ _ _ _ z => Or.inl (Or.inl z))) ⟨rfl, rfl, rfl, rfl, rfl⟩ (h1.2.2.2.2.2.1.of (fun k _ _ => cI_I2 _ _ (Or.inl (by omega)))) (h4.fp h1.1.W f1 (by omega) (by omega) (by omega) (by omega)) (cI_I1 _ _ _ _) ⟨rfl, rfl⟩
theorem seg_skip (h : Pre b C E VA up s r f ra i e acc) (hf : f < aNf s) (hi : i < fn E s f) (ek : fg E s f i / 1000 = 5 ∨ fg E s f i / 1000 = 6 ∨ fg E s f i / 1000 = 7 ∨ fg E s f i / 1000 = 10 ∨ fg E s f i / 1000 = 13) : ∃ C', fX1_stepOn (b + 1) (some (b + 333 + r)) C = some ((), C') ∧ Post b C C' E VA up s s r f ra (i + 1) e acc := by
  have hh := h
  obtain ⟨h1, h2, h3, h4, h5, h6⟩ := h
  have e1 := step_skip h1.1 h5 (h1.2.2.1 f hf).1.1 (h1.stl hf) hi ek
  exact ⟨_, e1, post_at hh (i + 1)⟩
theorem setI_twice (C : Cd) (k a : Nat) (v w : Int) : cSetI (cSetI C k a v) k a w = cSetI C k a w := by
  unfold cSetI
  refine Prod.ext ?_ rfl
  funext k' a'
  show (if k' = k ∧ a' = a then w else (if k' = k ∧ a' = a then v else cI C k' a')) = (if k' = k ∧ a' = a then w else cI C k' a')
  by_cases c : k' = k ∧ a' = a
  · rw [if_pos c, if_pos c]
  · rw [if_neg c, if_neg c, if_neg c]
theorem seg_in (h : Pre b C E VA up s r f ra i e acc) (hf : f < aNf s) (hi : i < fn E s f) (ek : fg E s f i / 1000 = 8 ∨ fg E s f i / 1000 = 9) : ∃ C', fX1_stepOn (b + 1) (some (b + 333 + r)) C = some ((), C') ∧ Post b C C' E VA up s s r f ra (if (fg E s f i / 1000 = 8 ∧ 0 < (aFr s f).2.2.1) ∨ (fg E s f i / 1000 = 9 ∧ (aFr s f).2.2.1 = 0) then i + 1 else fE (fg E s f) (fn E s f) i + 1) e acc := by
  have hh := h
  obtain ⟨h1, h2, h3, h4, h5, h6⟩ := h
  have hF := (h1.2.2.1 f hf).1
  have e1 := step_in h1.1 h5 hF.1 (h1.stl hf) hi ek hF.2.2.2.1 (by have := hF.2.2.2.2; omega)
  rw [setI_twice] at e1
  refine ⟨_, e1, ?_⟩
  by_cases c : (fg E s f i / 1000 = 8 ∧ 0 < (aFr s f).2.2.1) ∨ (fg E s f i / 1000 = 9 ∧ (aFr s f).2.2.1 = 0)
  · rw [if_pos c, if_pos c]
    exact post_at hh (i + 1)
  · rw [if_neg c, if_neg c]
    exact post_at hh (fE (fg E s f) (fn E s f) i + 1)
end PLAIN
end KEEP
