/-! THE CLASS WHILE IT EXPANDS: a new frame -/
section XS3
variable {b : Nat} {C C' : Cd} {E : Env} {VA : Nat → Nat} {up : Int} {s : ASt} {R ra : Nat}
def sNf (b g R q k a : Nat) : Prop := sOf b g R q k a
theorem XS.frame (h : XS b C E VA up s R) (hFre : ∀ p, aPs s (aNf s) p = 0) (hg : aNf s < 41) (hR2 : R < 512) (f : Fp (sOf b (aNf s) R) C C')
   (h408 : cI C' 408 (b + 1) = (aNf s : Int) + 1) (h409 : cI C' 409 (b + 1) = (R : Int) + 1) {F : AFr} (h504 : cR C' 504 (b + 169 + 4 * aNf s) = some (VA F.1 + 1)) (h505 : cI C' 505 (b + 169 + 4 * aNf s) = (F.2.1 : Int)) (ht : F.2.1 < 24)
   (h506 : cI C' 506 (b + 169 + 4 * aNf s) = (F.2.2.1 : Int)) (hd6 : F.2.2.1 ≤ 6)
   (h503 : (F.2.2.2.1 = -1 ∧ cR C' 503 (b + 169 + 4 * aNf s) = none) ∨ (0 ≤ F.2.2.2.1 ∧ F.2.2.2.1 < (aNf s : Int) ∧ cR C' 503 (b + 169 + 4 * aNf s) = some (b + 169 + 4 * F.2.2.2.1.toNat)))
   (hargs : ∀ x, x < 10 → cE C' (b + 169 + 4 * aNf s + 1) x = F.2.2.2.2.2 x) (hbeg : ∀ p, p < 30 → cE C' (b + 169 + 4 * aNf s + 3) p = 0)
   (hver : ∃ t, t < 24 ∧ eSn E t ≠ -1 ∧ (eSn E t).toNat = F.1) (hok : TxOK (eTx E F.1) (eTl E F.1)) (htk : Tkv (eTx E F.1) (eTl E F.1))
   (hap : ∀ x, x < 10 → F.2.2.2.2.2 x = -1 ∨ (0 ≤ F.2.2.2.1 ∧ F.2.2.2.1 < (aNf s : Int) ∧ 0 ≤ F.2.2.2.2.2 x ∧ F.2.2.2.2.2 x < (fn E s F.2.2.2.1.toNat : Int) ∧ mkB (fg E s F.2.2.2.1.toNat (F.2.2.2.2.2 x).toNat / 1000) = true)) :
   XS b C' E VA up (uFr s F) (R + 1) ∧ Fp (sX b (DyC b C)) C C' ∧ (∀ x, DyC b C' x → DyC b C x) := by
  obtain ⟨hL, hX, hF, hFP, hM, hS, hI, hN, hE⟩ := h
  have W := hL.W
  have hz := hL.sz
  have fX : Fp (sX b (DyC b C)) C C' := f.mono (fun q k x hx z => by
    unfold sOf sBeg sRun at z
    rcases z with (⟨z1, z2, z3⟩ | ⟨z1, z2, z3⟩ | ⟨z1, z2⟩) | (⟨z1, z2, z3⟩ | ⟨z1, ⟨z2, z3⟩ | ⟨z2, z3⟩⟩) | ⟨z1, z2, z3⟩
    · exact Or.inl ⟨z1, Or.inr (Or.inr (Or.inr (Or.inl ⟨z2, aNf s, hg, z3⟩)))⟩
    · exact Or.inr (Or.inl ⟨z1, Or.inl ⟨z2, aNf s, hg, z3⟩⟩)
    · exact Or.inr (Or.inr (Or.inl ⟨z1, Or.inr (Or.inr (Or.inr (Or.inr ⟨aNf s, hg, z2⟩)))⟩))
    · exact Or.inl ⟨z1, Or.inl ⟨z3, by omega, by omega⟩⟩
    · exact Or.inl ⟨z2, Or.inr (Or.inr (Or.inr (Or.inr ⟨z3, R, hR2, z1⟩)))⟩
    · exact Or.inr (Or.inl ⟨z2, Or.inr ⟨z3, R, hR2, z1⟩⟩)
    · exact Or.inl ⟨z1, Or.inl ⟨z3, by omega, by omega⟩⟩)
  have hL' := hL.keep (fX.mono (fun _ _ _ _ z => z.mu))
  have pk : ∀ f', f' < 41 → ∀ x, cP C' (b + 169 + 4 * f' + 2) x = cP C (b + 169 + 4 * f' + 2) x := fun f' hf' x => f.fP (W _ (hL.fro hf').1) (by unfold sOf sBeg sRun; omega) x
  have dy : ∀ x, DyC b C' x → DyC b C x := fun x => DyC.of pk
  have fro : ∀ f', f' < aNf s → aFr (uFr s F) f' = aFr s f' := fun f' hf' => if_neg (by omega)
  have frn : aFr (uFr s F) (aNf s) = F := if_pos rfl
  have fgo : ∀ f', f' < aNf s → fg E (uFr s F) f' = fg E s f' := fun f' hf' => by show eTx E (aFr (uFr s F) f').1 = _; rw [fro f' hf']
  have fno : ∀ f', f' < aNf s → fn E (uFr s F) f' = fn E s f' := fun f' hf' => by show eTl E (aFr (uFr s F) f').1 = _; rw [fro f' hf']
  refine ⟨⟨hL', ?_, ?_, ?_, ?_, ?_, ?_, ?_, hE.step fX (fun x q => Or.inl (dy x q))⟩, fX, dy⟩
  · intro f' p a hf' hp ha
    rw [pk f' hf'] at ha
    obtain ⟨q1, q2, q3⟩ := hX f' p a hf' hp ha
    exact ⟨q1.fp W f (by unfold sOf sBeg sRun; omega), q2, fun f2 p2 hf2 hp2 h2 => q3 f2 p2 hf2 hp2 (by rw [← pk f2 hf2]; exact h2)⟩
  · intro f' hf'
    have hf'' : f' < aNf s + 1 := hf'
    by_cases e : f' = aNf s
    · rw [e, frn]
      exact ⟨⟨h504, h505, ht, h506, hd6⟩, h503, hargs⟩
    · have hlt : f' < aNf s := by omega
      rw [fro f' hlt]
      obtain ⟨⟨a1, a2, a3, a4, a5⟩, a6, a7⟩ := hF f' hlt
      have zF := W _ (hL.fo (show f' < 41 by omega)).1
      refine ⟨⟨(f.fR zF (by unfold sOf sBeg sRun; omega)).trans a1, (f.fI zF (by unfold sOf sBeg sRun; omega)).trans a2, a3, (f.fI zF (by unfold sOf sBeg sRun; omega)).trans a4, a5⟩, ?_, fun x hx => (f.fE (W _ (hL.fao (show f' < 41 by omega)).1) (by unfold sOf sBeg sRun; omega) x).trans (a7 x hx)⟩
      rw [f.fR zF (by unfold sOf sBeg sRun; omega)]
      exact a6
  · intro f' hf'
    have hf'' : f' < aNf s + 1 := hf'
    by_cases e : f' = aNf s
    · rw [e]
      rw [show fg E (uFr s F) (aNf s) = eTx E F.1 by show eTx E (aFr (uFr s F) (aNf s)).1 = _; rw [frn], show fn E (uFr s F) (aNf s) = eTl E F.1 by show eTl E (aFr (uFr s F) (aNf s)).1 = _; rw [frn], frn]
      refine ⟨hver, hok, htk, fun x hx => ?_⟩
      rcases hap x hx with y | ⟨y1, y2, y3, y4, y5⟩
      · exact Or.inl y
      · rw [fno _ (by omega), fgo _ (by omega)]
        exact Or.inr ⟨y1, y2, y3, y4, y5⟩
    · have hlt : f' < aNf s := by omega
      obtain ⟨q1, q2, q3, q4⟩ := hFP f' hlt
      rw [fro f' hlt, fgo f' hlt, fno f' hlt]
      refine ⟨q1, q2, q3, fun x hx => ?_⟩
      rcases q4 x hx with y | ⟨y1, y2, y3, y4, y5⟩
      · exact Or.inl y
      · rw [fno _ (by omega), fgo _ (by omega)]
        exact Or.inr ⟨y1, y2, y3, y4, y5⟩
  · intro f' p hf' hp hm
    have hf'' : f' < aNf s + 1 := hf'
    show cE C' (b + 169 + 4 * f' + 3) p = (if aPs s f' p = 0 then 0 else 1) ∧ (aPs s f' p ≠ 0 → ∃ a, cP C' (b + 169 + 4 * f' + 2) p = some a ∧ (aPs s f' p = 2 → RowV C' a (aRw s f' p)))
    by_cases e : f' = aNf s
    · rw [e] at hp ⊢
      have hp30 : p < 30 := by
        rw [show fn E (uFr s F) (aNf s) = eTl E F.1 by show eTl E (aFr (uFr s F) (aNf s)).1 = _; rw [frn]] at hp
        have := hok.1.2
        omega
      rw [hFre p, if_pos rfl]
      exact ⟨hbeg p hp30, fun z => absurd rfl z⟩
    · have hlt : f' < aNf s := by omega
      rw [fno f' hlt] at hp
      rw [fgo f' hlt] at hm
      obtain ⟨q1, q2⟩ := hM f' p hlt hp hm
      refine ⟨(f.fE (W _ (hL.fbo (show f' < 41 by omega)).1) (by unfold sOf sBeg sRun; omega) p).trans q1, fun hne => ?_⟩
      obtain ⟨a, r1, r2⟩ := q2 hne
      have h854 := (hX f' p a (by omega) (by have := (hFP f' hlt).2.1.1.2; omega) r1).2.1
      exact ⟨a, (pk f' (by omega) p).trans r1, fun h2 => (r2 h2).fp W f (by unfold sOf sBeg sRun; omega) (by unfold sOf sBeg sRun; omega) (by unfold sOf sBeg sRun; omega) (by unfold sOf sBeg sRun; omega)⟩
  · exact SeC.of (s := s) hS (fun k k1 k2 => f.fI (by omega) (by unfold sOf sBeg sRun; omega))
  · exact ⟨by rw [h408]; show (aNf s : Int) + 1 = ((aNf s + 1 : Nat) : Int); omega, by show aNf s + 1 ≤ 41; omega, by rw [h409]; omega, (f.fI (by omega) (by unfold sOf sBeg sRun; omega)).trans hI.2.2.2.1, hI.2.2.2.2.1, (f.fI (by omega) (by unfold sOf sBeg sRun; omega)).trans hI.2.2.2.2.2⟩
  · exact hN.fp W f (by unfold sOf sBeg sRun; omega) (by unfold sOf sBeg sRun; omega) (by unfold sOf sBeg sRun; omega) (by unfold sOf sBeg sRun; omega)
/-- what the evaluator's texts are -/
def EnP (E : Env) : Prop := (∀ t, t < 24 → eSn E t ≠ -1 → 0 ≤ eSn E t ∧ TxOK (eTx E (eSn E t).toNat) (eTl E (eSn E t).toNat) ∧ Tkv (eTx E (eSn E t).toNat) (eTl E (eSn E t).toNat)) ∧ (∀ c, c < 8 → eMb E c < 16777216) ∧ MoP E
theorem agF_mem {g : Nat → Int} {l : List Nat} : ∀ {c : Nat} {a : Nat → Int} {x : Nat}, agF g l c a x = a x ∨ ∃ p ∈ l, agF g l c a x = (p : Int) := by
  induction l with
  | nil => intro c a x; exact Or.inl rfl
  | cons p l ih =>
    intro c a x
    unfold agF
    rcases ih (c := if g p / 1000 = 5 then c + 1 else c) (a := fun x => if x = (if g p / 1000 = 5 then c + 1 else (g p % 1000).toNat) then (p : Int) else a x) (x := x) with h | ⟨q, q1, q2⟩
    · by_cases e : x = (if g p / 1000 = 5 then c + 1 else (g p % 1000).toNat)
      · rw [if_pos e] at h
        exact Or.inr ⟨p, List.mem_cons_self, h⟩
      · rw [if_neg e] at h
        exact Or.inl h
    · exact Or.inr ⟨q, List.mem_cons_of_mem _ q1, q2⟩
/-- a step of the loop -/
def KSt (b : Nat) (C C' : Cd) : Prop := Lay b C ∧ ∃ R : Nat, cI C 409 (b + 1) = (R : Int) + 1 ∧ R < 512 ∧ (∃ i e : Nat, cI C 902 (b + 333 + R) = (i : Int) ∧ cI C 903 (b + 333 + R) = (e : Int) ∧ i < 1000 ∧ e < 1000 ∧ ((i < e ∧ fX1_stepOn (b + 1) (some (b + 333 + R)) C = some ((), C')) ∨ (e ≤ i ∧ C' = cSetI C 409 (b + 1) (R : Int))))
def KSts (b : Nat) : Nat → Cd → Cd → Prop
  | 0, C, C' => C' = C
  | k + 1, C, C' => ∃ C1, KSt b C C1 ∧ KSts b k C1 C'
theorem KSts.app {b k : Nat} {j : Nat} : ∀ {C C1 C2 : Cd}, KSts b j C C1 → KSts b k C1 C2 → KSts b (j + k) C C2 := by
  induction j with
  | zero => intro C C1 C2 h h2; rw [Nat.zero_add]; have e : C1 = C := h; rw [← e]; exact h2
  | succ j ih =>
    intro C C1 C2 ⟨D, d1, d2⟩ h2
    rw [show j + 1 + k = (j + k) + 1 by omega]
    exact ⟨D, d1, ih d2 h2⟩
theorem KSts.one {b : Nat} {C C1 : Cd} (h : KSt b C C1) : KSts b 1 C C1 := ⟨C1, h, rfl⟩
end XS3
