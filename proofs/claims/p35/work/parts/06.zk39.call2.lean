/-! THE CLASS OPENS A FRAME FOR A CALL -/
section CALL2
variable {b : Nat} {C C' C'' : Cd} {E : Env} {VA : Nat → Nat} {up : Int} {s s' s'' : ASt} {r ra f i e f2 ra2 i2 e2 i3 : Nat} {acc acc2 acc3 : List Int}
/-- a run waits while another is on top of it -/
def Sub (b : Nat) (C C' : Cd) (E : Env) (VA : Nat → Nat) (up : Int) (s s' : ASt) (r f ra i e : Nat) (acc : List Int) (f2 ra2 i2 e2 : Nat) (acc2 : List Int) : Prop :=
  Pre b C' E VA up s' (r + 1) f2 ra2 i2 e2 acc2 ∧ RunAt b C' r f ra i ∧ cI C' 903 (b + 333 + r) = (e : Int) ∧ CurR b C' E s' ra ∧ RowV C' ra acc ∧ Keep b C C' E s s' r ra ∧ (∀ a, CurR b C E s a → a ≠ ra → a ≠ ra2)
/-- the run on top is taken off -/
theorem sub_back (h : Sub b C C' E VA up s s' r f ra i e acc f2 ra2 i2 e2 acc2) (h2 : Post b C' C'' E VA up s' s'' (r + 1) f2 ra2 i3 e2 acc3) (he : e2 ≤ i3) (h3 : i3 < 1000) {accR : List Int} (hra : (ra2 = ra ∧ accR = acc3) ∨ (ra2 ≠ ra ∧ accR = acc)) :
   KSts b 1 C'' (cSetI C'' 409 (b + 1) ((r + 1 : Nat) : Int)) ∧ Post b C (cSetI C'' 409 (b + 1) ((r + 1 : Nat) : Int)) E VA up s s'' r f ra i e accR ∧ RowV (cSetI C'' 409 (b + 1) ((r + 1 : Nat) : Int)) ra2 acc3 ∧ CurR b (cSetI C'' 409 (b + 1) ((r + 1 : Nat) : Int)) E s'' ra2 := by
  obtain ⟨p1, p2, p3, p4, p5, k1, k2⟩ := h
  obtain ⟨q1, q2, q3, q4, q5, q6, m1, m2, m3, m4, m5, m6, m7⟩ := h2
  have hL := q1.1
  have W := hL.W
  have hz := hL.sz
  have f1 : Fp (fun q k a => q = 0 ∧ (k = 409 ∨ k = 410) ∧ a = b + 1) C'' (cSetI C'' 409 (b + 1) ((r + 1 : Nat) : Int)) := (Fp.rf W).sI ⟨rfl, Or.inl rfl, rfl⟩
  have hI := q1.2.2.2.2.2.2.1
  have x1 := q1.cnt (s' := s'') (R' := r + 1) f1 (cI_I1 _ _ _ _) ((cI_I2 _ _ (Or.inl (by decide))).trans hI.2.2.2.1) hI.2.2.2.2.1 (Or.inl rfl)
  have rows : ∀ a q, CurR b C'' E s'' a → RowV C'' a q → RowV (cSetI C'' 409 (b + 1) ((r + 1 : Nat) : Int)) a q := fun a q _ q3 => q3.fp W f1 (by omega) (by omega) (by omega) (by omega)
  have cc : ∀ a, CurR b C'' E s'' a → CurR b (cSetI C'' 409 (b + 1) ((r + 1 : Nat) : Int)) E s'' a := fun a ha => ha
  have hpar := m1 r (by omega)
  obtain ⟨g1, g2, g3, g4, g5⟩ := p2
  have rowra : RowV C'' ra accR ∧ CurR b C'' E s'' ra := by
    rcases hra with ⟨e1, e2⟩ | ⟨hne, e2⟩
    · subst e1 e2
      exact ⟨q4, q3⟩
    · rw [e2]
      exact m2 ra acc p4 (fun z => hne z.symm) p5
  have k3 : Keep b C' (cSetI C'' 409 (b + 1) ((r + 1 : Nat) : Int)) E s' s'' (r + 1) ra2 :=
    ⟨fun r' hr' => ⟨(m1 r' hr').1, (m1 r' hr').2.1, (cI_I2 _ _ (Or.inl (by decide))).trans (m1 r' hr').2.2.1, (cI_I2 _ _ (Or.inl (by decide))).trans (m1 r' hr').2.2.2⟩, fun a q c1 c2 c3 => ⟨rows a q (m2 a q c1 c2 c3).2 (m2 a q c1 c2 c3).1, cc a (m2 a q c1 c2 c3).2⟩, m3, m4, m5.tr2 (T := fun q k a => q = 0 ∧ (k = 409 ∨ k = 410) ∧ a = b + 1) f1 (fun q k a _ z => Or.inl ⟨z.1, Or.inl ⟨z.2.2, by omega, by omega⟩⟩), m6, m7.tr (Rm.same ⟨rfl, rfl⟩ (fun _ _ _ => rfl))⟩
  have k4 : Keep b C (cSetI C'' 409 (b + 1) ((r + 1 : Nat) : Int)) E s s'' r ra := by
    obtain ⟨a1, a2, a3, a4, a5, a6, a7⟩ := k1
    obtain ⟨b1, b2, b3, b4, b5, b6, b7⟩ := k3
    refine ⟨fun r' hr' => ?_, fun a q h1 h2 h3 => ?_, Nat.le_trans a3 b3, fun f hf => (b4 f (Nat.lt_of_lt_of_le hf a3)).trans (a4 f hf), a5.tr2 b5 (fun q k a ha z => sX_mono z ha a6), fun x hx => ?_, a7.tr b7⟩
    · have p := a1 r' hr'
      have q := b1 r' (by omega)
      exact ⟨q.1.trans p.1, q.2.1.trans p.2.1, q.2.2.1.trans p.2.2.1, q.2.2.2.trans p.2.2.2⟩
    · obtain ⟨c1, c2⟩ := a2 a q h1 h2 h3
      exact b2 a q c2 (k2 a h1 h2) c1
    · rcases b6 x hx with y | y
      · exact a6 x y
      · exact Or.inr (Nat.le_trans a5.1 y)
  refine ⟨KSts.one ⟨hL, r + 1, ?_, p1.2.2.2.2.1.1, i3, e2, q5.2.2.2.2, q6, h3, by omega, Or.inr ⟨he, rfl⟩⟩, ⟨x1, q2, cc ra rowra.2, rows ra accR rowra.2 rowra.1, ⟨g1, g2, (hpar.1).trans g3, (hpar.2.1).trans g4, (cI_I2 _ _ (Or.inl (by decide))).trans (hpar.2.2.1.trans g5)⟩, (cI_I2 _ _ (Or.inl (by decide))).trans (hpar.2.2.2.trans p3), k4⟩, rows ra2 acc3 q3 q4, cc ra2 q3⟩
  rw [hI.2.2.1]
  omega
/-- the shown texts lie apart from what expanding changes -/
theorem EnvC.apart (h : EnvC b E VA up C) (W : Wf C) {t : Nat} (ht : t < 24) (hne : eSn E t ≠ -1) (hn : 0 < eTl E (eSn E t).toNat) {a : Nat} (ha : sX b (DyC b C) 2 0 a) : VA (eSn E t).toNat + 1 + 1 ≠ a ∧ VA (eSn E t).toNat + 1 + 2 ≠ a := by
  have h1 := (h.now W).1 t ht hne
  have h2 := (h (cSetE C a 0 (cE C a 0 + 1)) ((Fp.rf W).sE ha)).1 t ht hne
  refine ⟨fun z => ?_, fun z => ?_⟩
  · have e1 := h1.1.2 0 hn
    have e2 := h2.1.2 0 hn
    rw [z, cE_E1] at e2
    rw [z] at e1
    omega
  · have e1 := h1.2 0 hn
    have e2 := h2.2 0 hn
    rw [z, cE_E1] at e2
    rw [z] at e1
    omega
theorem sX_arg {D : Nat → Prop} {f : Nat} (hf : f < 41) : sX b D 2 0 (b + 169 + 4 * f + 1) := Or.inr (Or.inr (Or.inl ⟨rfl, Or.inr (Or.inr (Or.inr (Or.inr ⟨f, hf, Or.inl rfl⟩)))⟩))
theorem agF_ok {g : Nat → Int} {n : Nat} {m i x : Nat} : agF g (prs_ g n m i) 0 (fun _ => -1) x = -1 ∨ (0 ≤ agF g (prs_ g n m i) 0 (fun _ => -1) x ∧ agF g (prs_ g n m i) 0 (fun _ => -1) x < (n : Int) ∧ mkB (g (agF g (prs_ g n m i) 0 (fun _ => -1) x).toNat / 1000) = true) := by
  rcases agF_mem (g := g) (l := prs_ g n m i) (c := 0) (a := fun _ => -1) (x := x) with h | ⟨p, p1, p2⟩
  · exact Or.inl h
  · obtain ⟨q1, q2⟩ := prs_mem p1
    rw [p2]
    exact Or.inr ⟨by omega, by omega, by rw [Int.toNat_natCast]; exact q2⟩
/-- a frame is opened, a run on it begins -/
theorem keep_frame {g : Nat} {F : AFr} {R : Nat} (h : XS b C E VA up s R) (hg : g = aNf s) (hg41 : g < 41) (hr : r < r + 1) (f1 : Fp (sOf b g (r + 1)) C C') (h2 : r + 1 < 512) (fX : Fp (sX b (DyC b C)) C C') (dy : ∀ x, DyC b C' x → DyC b C x) (hsz : csz C' = csz C ∧ csl C' = csl C) :
   Keep b C C' E s (uFr s F) r ra ∧ (∀ a q, CurR b C E s a → RowV C a q → RowV C' a q ∧ CurR b C' E (uFr s F) a) := by
  subst hg
  have hL := h.1
  have W := hL.W
  have hz := hL.sz
  have rows : ∀ a q, CurR b C E s a → RowV C a q → RowV C' a q ∧ CurR b C' E (uFr s F) a := fun a q q1 q3 => by
    have c0 := h.cur0 q1
    refine ⟨q3.fp W f1 (by unfold sOf sBeg sRun; omega) (by unfold sOf sBeg sRun; omega) (by unfold sOf sBeg sRun; omega) (by unfold sOf sBeg sRun; omega), ?_⟩
    rcases q1 with e | ⟨cf, cp, c1, c2, c3, c4, c5⟩
    · exact Or.inl e
    · have fro : aFr (uFr s F) cf = aFr s cf := if_neg (by omega)
      have hn := h.2.2.2.2.2.2.1.2.1
      refine Or.inr ⟨cf, cp, by show cf < aNf s + 1; omega, ?_, ?_, c4, ?_⟩
      · show cp < eTl E (aFr (uFr s F) cf).1; rw [fro]; exact c2
      · show mkB (eTx E (aFr (uFr s F) cf).1 cp / 1000) = true; rw [fro]; exact c3
      · exact (f1.fP (W _ (hL.fro (show cf < 41 by omega)).1) (by unfold sOf sBeg sRun; omega) cp).trans c5
  refine ⟨⟨fun r' hr' => ?_, fun a q q1 _ q3 => rows a q q1 q3, Nat.le_succ _, fun f' hf' => if_neg (by omega), fX, fun x hx => Or.inl (dy x hx), Rm.same hsz (fun f' hf' x => f1.fP (W _ (hL.fro hf').1) (by unfold sOf sBeg sRun; omega) x)⟩, rows⟩
  have zU := W _ (hL.uo (show r' < 512 by omega)).1
  exact ⟨f1.fR zU (by unfold sOf sBeg sRun; omega), f1.fR zU (by unfold sOf sBeg sRun; omega), f1.fI zU (by unfold sOf sBeg sRun; omega), f1.fI zU (by unfold sOf sBeg sRun; omega)⟩
end CALL2
