/-! THE CLASS WHILE IT EXPANDS: what each move keeps -/
section XS2
variable {b : Nat} {C C' : Cd} {E : Env} {VA : Nat → Nat} {up : Int} {s : ASt} {R ra : Nat}
def Fre (s : ASt) : Prop := (∀ f, aNf s ≤ f → ∀ p, aPs s f p = 0) ∧ aNf s ≤ aCa s + 1
theorem XS.touch (h : XS b C E VA up s R) {f i : Nat} (ho : opB (fg E s f i / 1000) = true) : XS b C E VA up (uPs s f i 2) R := by
  obtain ⟨hL, hX, hF, hFP, hM, hS, hI, hN, hE⟩ := h
  refine ⟨hL, hX, hF, hFP, fun f' p hf' hp hm => ?_, hS, hI, hN, hE⟩
  have e : aPs (uPs s f i 2) f' p = aPs s f' p := if_neg (fun z => by
    rw [z.1, z.2] at hm
    exact mk_op hm ho)
  rw [e]
  exact hM f' p hf' hp hm
theorem CurR.touch (h : CurR b C E s ra) {f i : Nat} (ho : opB (fg E s f i / 1000) = true) : CurR b C E (uPs s f i 2) ra := by
  rcases h with e | ⟨cf, cp, c1, c2, c3, c4, c5⟩
  · exact Or.inl e
  · refine Or.inr ⟨cf, cp, c1, c2, c3, ?_, c5⟩
    rw [← c4]
    exact if_neg (fun z => by
      rw [z.1, z.2] at c3
      exact mk_op c3 ho)
theorem Fre.touch (h : Fre s) {f i : Nat} (hf : f < aNf s) (x : Nat) : Fre (uPs s f i x) :=
  ⟨fun f' hf' p => (if_neg (fun z => by have : aNf s ≤ f' := hf'; omega)).trans (h.1 f' hf' p), h.2⟩
theorem XS.cnt (h : XS b C E VA up s R) {s' : ASt} {R' : Nat} (f : Fp (fun q k a => q = 0 ∧ (k = 409 ∨ k = 410) ∧ a = b + 1) C C') (h9 : cI C' 409 (b + 1) = (R' : Int)) (h10 : cI C' 410 (b + 1) = (aCa s' : Int)) (hca : aCa s' ≤ 40) (hs : s' = s ∨ s' = uCa s) : XS b C' E VA up s' R' := by
  obtain ⟨hL, hX, hF, hFP, hM, hS, hI, hN, hE⟩ := h
  have W := hL.W
  have hz := hL.sz
  have fX : Fp (sX b (DyC b C)) C C' := f.mono (fun q k a _ z => Or.inl ⟨z.1, Or.inl ⟨z.2.2, by omega, by omega⟩⟩)
  have hL' := hL.keep (fX.mono (fun _ _ _ _ z => z.mu))
  have pk : ∀ f', f' < 41 → ∀ i, cP C' (b + 169 + 4 * f' + 2) i = cP C (b + 169 + 4 * f' + 2) i := fun f' hf' i => f.fP (W _ (hL.fro hf').1) (by omega) i
  have dy : ∀ a, DyC b C' a → DyC b C a := fun a => DyC.of pk
  have e1 : s'.1 = s.1 ∧ s'.2.1 = s.2.1 ∧ aPs s' = aPs s ∧ aRw s' = aRw s ∧ s'.2.2.2.2.2 = s.2.2.2.2.2 := by rcases hs with e | e <;> subst e <;> exact ⟨rfl, rfl, rfl, rfl, rfl⟩
  obtain ⟨e1, e2, e3, e4, e5⟩ := e1
  have fgs : fg E s' = fg E s := by show (fun f => eTx E (s'.2.1 f).1) = _; rw [e2]
  have fns : fn E s' = fn E s := by show (fun f => eTl E (s'.2.1 f).1) = _; rw [e2]
  have hn := hI.2.1
  refine ⟨hL', ?_, ?_, ?_, ?_, ?_, ?_, ?_, hE.step fX (fun a q => Or.inl (dy a q))⟩
  · intro f' p a hf' hp ha
    rw [pk f' hf'] at ha
    obtain ⟨q1, q2, q3⟩ := hX f' p a hf' hp ha
    exact ⟨q1.fp W f (by omega), q2, fun f2 p2 hf2 hp2 h2 => q3 f2 p2 hf2 hp2 (by rw [← pk f2 hf2]; exact h2)⟩
  · intro f' hf'
    rw [show aNf s' = aNf s from e1] at hf'
    obtain ⟨⟨a1, a2, a3, a4, a5⟩, a6, a7⟩ := hF f' hf'
    have zF := W _ (hL.fo (show f' < 41 by omega)).1
    rw [show aFr s' = aFr s from e2]
    refine ⟨⟨(f.fR zF (by omega)).trans a1, (f.fI zF (by omega)).trans a2, a3, (f.fI zF (by omega)).trans a4, a5⟩, ?_, fun x hx => (f.fE (W _ (hL.fao (show f' < 41 by omega)).1) (by omega) x).trans (a7 x hx)⟩
    rw [f.fR zF (by omega)]
    exact a6
  · intro f' hf'
    rw [show aNf s' = aNf s from e1] at hf'
    rw [show aFr s' = aFr s from e2, fgs, fns]
    exact hFP f' hf'
  · intro f' p hf' hp hm
    rw [show aNf s' = aNf s from e1] at hf'
    rw [fns] at hp
    rw [fgs] at hm
    rw [e3, e4]
    obtain ⟨q1, q2⟩ := hM f' p hf' hp hm
    refine ⟨(f.fE (W _ (hL.fbo (show f' < 41 by omega)).1) (by omega) p).trans q1, fun hne => ?_⟩
    obtain ⟨a, r1, r2⟩ := q2 hne
    exact ⟨a, (pk f' (by omega) p).trans r1, fun h2 => (r2 h2).fp W f (by omega) (by omega) (by omega) (by omega)⟩
  · have hS' : SeC b C' s := hS.of (fun k k1 k2 => f.fI (by omega) (by omega))
    unfold SeC at hS' ⊢
    rw [show aLk s' = aLk s from congrArg (fun z : Nat × Nat × Nat × Nat × Nat => z.1) e5, show aCt s' = aCt s from congrArg (fun z : Nat × Nat × Nat × Nat × Nat => z.2.1) e5, show aRd s' = aRd s from congrArg (fun z : Nat × Nat × Nat × Nat × Nat => z.2.2.1) e5, show aCd s' = aCd s from congrArg (fun z : Nat × Nat × Nat × Nat × Nat => z.2.2.2.1) e5, show aUs s' = aUs s from congrArg (fun z : Nat × Nat × Nat × Nat × Nat => z.2.2.2.2) e5]
    exact hS'
  · rw [show aNf s' = aNf s from e1]
    exact ⟨(f.fI (by omega) (by omega)).trans hI.1, hn, h9, h10, hca, (f.fI (by omega) (by omega)).trans hI.2.2.2.2.2⟩
  · exact hN.fp W f (by omega) (by omega) (by omega) (by omega)
/-- a part's row is opened -/
theorem XS.part (h : XS b C E VA up s R) {f p a : Nat} (hf : f < aNf s) (hp : p < fn E s f) (hm : mkB (fg E s f p / 1000) = true) (h0 : aPs s f p = 0) (hR2 : R < 512)
   (hr : RowV C' a []) (hcp : cP C' (b + 169 + 4 * f + 2) p = some a) (hce : cE C' (b + 169 + 4 * f + 3) p = 1) (h9 : cI C' 409 (b + 1) = (R : Int) + 1) (fp : Fp (sPt b f R a) C C')
   (ho : ∀ x, x ≠ p → cP C' (b + 169 + 4 * f + 2) x = cP C (b + 169 + 4 * f + 2) x ∧ cE C' (b + 169 + 4 * f + 3) x = cE C (b + 169 + 4 * f + 3) x)
   (hd : cP C (b + 169 + 4 * f + 2) p = some a ∨ (cP C (b + 169 + 4 * f + 2) p = none ∧ a = csz C)) :
   XS b C' E VA up (uPs s f p 1) (R + 1) ∧ CurR b C' E (uPs s f p 1) a ∧ Fp (sX b (DyC b C)) C C' ∧ (∀ x, DyC b C' x → DyC b C x ∨ csz C ≤ x) := by
  have hn30 := h.n30 hf
  obtain ⟨hL, hX, hF, hFP, hM, hS, hI, hN, hE⟩ := h
  have W := hL.W
  have hz := hL.sz
  have hn := hI.2.1
  have ha854 : b + 854 ≤ a := by
    rcases hd with e | ⟨_, e⟩
    · exact (hX f p a (by omega) (by omega) e).2.1
    · omega
  have fX : Fp (sX b (DyC b C)) C C' := fp.mono (fun q k x hx z => by
    unfold sPt sRow sRun at z
    rcases z with (⟨z1, z2, z3⟩ | ⟨z1, z2⟩) | ⟨z1, z2⟩ | ⟨z1, z2⟩ | ⟨z1, z2, z3⟩ | ⟨z1, ⟨z2, z3⟩ | ⟨z2, z3⟩⟩
    · rcases hd with e | ⟨_, e⟩
      · exact Or.inl ⟨z1, Or.inr (Or.inr (Or.inl ⟨z2, Or.inr ⟨f, p, by omega, by omega, by rw [z3]; exact e⟩⟩))⟩
      · omega
    · rcases hd with e | ⟨_, e⟩
      · exact Or.inr (Or.inr (Or.inl ⟨z1, Or.inr (Or.inr (Or.inr (Or.inl ⟨a, ⟨f, p, by omega, by omega, e⟩, z2⟩)))⟩))
      · omega
    · exact Or.inr (Or.inr (Or.inl ⟨z1, Or.inr (Or.inr (Or.inr (Or.inr ⟨f, by omega, Or.inr z2⟩)))⟩))
    · exact Or.inr (Or.inr (Or.inr ⟨z1, f, by omega, z2⟩))
    · exact Or.inl ⟨z1, Or.inl ⟨z3, by omega, by omega⟩⟩
    · exact Or.inl ⟨z2, Or.inr (Or.inr (Or.inr (Or.inr ⟨z3, R, hR2, z1⟩)))⟩
    · exact Or.inr (Or.inl ⟨z2, Or.inr ⟨z3, R, hR2, z1⟩⟩))
  have hL' := hL.keep (fX.mono (fun _ _ _ _ z => z.mu))
  have pk : ∀ f', f' < 41 → ∀ x, ¬ (f' = f ∧ x = p) → cP C' (b + 169 + 4 * f' + 2) x = cP C (b + 169 + 4 * f' + 2) x := fun f' hf' x hne => by
    by_cases e : f' = f
    · subst e
      exact (ho x (fun z => hne ⟨rfl, z⟩)).1
    · exact fp.fP (W _ (hL.fro hf').1) (by unfold sPt sRow sRun; omega) x
  have dy : ∀ x, DyC b C' x → DyC b C x ∨ csz C ≤ x := fun x ⟨f', p', q1, q2, q3⟩ => by
    by_cases e : f' = f ∧ p' = p
    · rw [e.1, e.2, hcp] at q3
      injection q3 with q3
      rcases hd with y | ⟨_, y⟩
      · exact Or.inl ⟨f, p, by omega, by omega, by rw [← q3]; exact y⟩
      · exact Or.inr (by omega)
    · exact Or.inl ⟨f', p', q1, q2, (pk f' q1 p' e).symm.trans q3⟩
  -- another row's address
  have hne : ∀ f' p' a', f' < 41 → p' < 30 → ¬ (f' = f ∧ p' = p) → cP C (b + 169 + 4 * f' + 2) p' = some a' → a' ≠ a := fun f' p' a' q1 q2 q3 q4 e => by
    subst e
    rcases hd with y | ⟨_, y⟩
    · have := (hX f p a' (by omega) (by omega) y).2.2 f' p' q1 q2 q4
      exact q3 this
    · have := W a' (hX f' p' a' q1 q2 q4).1.1.1
      omega
  refine ⟨⟨hL', ?_, ?_, hFP, ?_, ?_, ?_, ?_, hE.step fX dy⟩, Or.inr ⟨f, p, hf, hp, hm, if_pos ⟨rfl, rfl⟩, hcp⟩, fX, dy⟩
  · intro f' p' a' hf' hp' ha
    by_cases e : f' = f ∧ p' = p
    · rw [e.1, e.2, hcp] at ha
      injection ha with ha
      subst ha
      refine ⟨hr.1, ha854, fun f2 p2 hf2 hp2 h2 => ?_⟩
      by_cases e2 : f2 = f ∧ p2 = p
      · rw [e.1, e.2]; exact e2
      · rw [pk f2 hf2 p2 e2] at h2
        exact absurd rfl (hne f2 p2 a hf2 hp2 e2 h2)
    · rw [pk f' hf' p' e] at ha
      obtain ⟨q1, q2, q3⟩ := hX f' p' a' hf' hp' ha
      refine ⟨q1.fp W fp (by unfold sPt sRow sRun; omega), q2, fun f2 p2 hf2 hp2 h2 => ?_⟩
      by_cases e2 : f2 = f ∧ p2 = p
      · rw [e2.1, e2.2, hcp] at h2
        injection h2 with h2
        exact absurd h2.symm (hne f' p' a' hf' hp' e ha)
      · rw [pk f2 hf2 p2 e2] at h2
        exact q3 f2 p2 hf2 hp2 h2
  · intro f' hf'
    have hf'' : f' < aNf s := hf'
    obtain ⟨⟨a1, a2, a3, a4, a5⟩, a6, a7⟩ := hF f' hf''
    have zF := W _ (hL.fo (show f' < 41 by omega)).1
    refine ⟨⟨(fp.fR zF (by unfold sPt sRow sRun; omega)).trans a1, (fp.fI zF (by unfold sPt sRow sRun; omega)).trans a2, a3, (fp.fI zF (by unfold sPt sRow sRun; omega)).trans a4, a5⟩, ?_, fun x hx => (fp.fE (W _ (hL.fao (show f' < 41 by omega)).1) (by unfold sPt sRow sRun; omega) x).trans (a7 x hx)⟩
    rw [fp.fR zF (by unfold sPt sRow sRun; omega)]
    exact a6
  · intro f' p' hf' hp' hm'
    have hf'' : f' < aNf s := hf'
    have hp30 : p' < 30 := by
      have := (hFP f' hf'').2.1.1.2
      have h9 : p' < fn E s f' := hp'
      omega
    by_cases e : f' = f ∧ p' = p
    · obtain ⟨e1, e2⟩ := e
      subst e1 e2
      rw [show aPs (uPs s f' p' 1) f' p' = 1 from if_pos ⟨rfl, rfl⟩]
      exact ⟨hce, fun _ => ⟨a, hcp, fun z => absurd z (by decide)⟩⟩
    · rw [show aPs (uPs s f p 1) f' p' = aPs s f' p' from if_neg e]
      obtain ⟨q1, q2⟩ := hM f' p' hf'' hp' hm'
      refine ⟨?_, fun hne0 => ?_⟩
      · by_cases e1 : f' = f
        · subst e1
          rw [(ho p' (fun z => e ⟨rfl, z⟩)).2]
          exact q1
        · rw [fp.fE (W _ (hL.fbo (show f' < 41 by omega)).1) (by unfold sPt sRow sRun; omega)]
          exact q1
      · obtain ⟨a', r1, r2⟩ := q2 hne0
        have hna := hne f' p' a' (by omega) hp30 e r1
        have h854 := (hX f' p' a' (by omega) hp30 r1).2.1
        exact ⟨a', (pk f' (by omega) p' e).trans r1, fun h2 => (r2 h2).fp W fp (by unfold sPt sRow sRun; omega) (by unfold sPt sRow sRun; omega) (by unfold sPt sRow sRun; omega) (by unfold sPt sRow sRun; omega)⟩
  · exact hS.of (fun k k1 k2 => fp.fI (by omega) (by unfold sPt sRow sRun; omega))
  · exact ⟨(fp.fI (by omega) (by unfold sPt sRow sRun; omega)).trans hI.1, hn, by rw [h9]; omega, (fp.fI (by omega) (by unfold sPt sRow sRun; omega)).trans hI.2.2.2.1, hI.2.2.2.2.1, (fp.fI (by omega) (by unfold sPt sRow sRun; omega)).trans hI.2.2.2.2.2⟩
  · exact hN.fp W fp (by unfold sPt sRow sRun; omega) (by unfold sPt sRow sRun; omega) (by unfold sPt sRow sRun; omega) (by unfold sPt sRow sRun; omega)
/-- a part's row is done -/
theorem XS.done (h : XS b C E VA up s R) {f p a : Nat} {r : List Int} (hf : f < aNf s) (hp : p < fn E s f) (h1 : aPs s f p = 1) (hm : mkB (fg E s f p / 1000) = true) (hcp : cP C (b + 169 + 4 * f + 2) p = some a) (hr : RowV C a r) : XS b C E VA up (uDn s f p r) R := by
  obtain ⟨hL, hX, hF, hFP, hM, hS, hI, hN, hE⟩ := h
  refine ⟨hL, hX, hF, hFP, fun f' p' hf' hp' hm' => ?_, hS, hI, hN, hE⟩
  by_cases e : f' = f ∧ p' = p
  · obtain ⟨e1, e2⟩ := e
    subst e1 e2
    rw [show aPs (uDn s f' p' r) f' p' = 2 from if_pos ⟨rfl, rfl⟩, show aRw (uDn s f' p' r) f' p' = r from if_pos ⟨rfl, rfl⟩]
    obtain ⟨q1, q2⟩ := hM f' p' hf hp hm
    rw [h1] at q1
    exact ⟨q1, fun _ => ⟨a, hcp, fun _ => hr⟩⟩
  · rw [show aPs (uDn s f p r) f' p' = aPs s f' p' from if_neg e, show aRw (uDn s f p r) f' p' = aRw s f' p' from if_neg e]
    exact hM f' p' hf' hp' hm'
end XS2
