/-! THE EVALUATOR ALWAYS ENDS, all -/
section TOT3
variable {E : Env} {s s1 s2 s' : ASt} {r t f i i1 to m : Nat} {acc acc1 : List Int}
/-- what an opener that is come to the first time finds -/
theorem tot_content (ih : TotOk E m) (hE : EnP E) (hP : PI E s) (hL : ∀ g p, aPs s g p ≤ 2) (u : UU E s) (hf : f < aNf s) (hB : Bl (fg E s f) (fn E s f) i to) (hD : DS (fg E s f) i to) (hEI : EI E s f i) (hA : ∀ g p, AR E s f g p → aPs s g p ≠ 1) (ht : t ≤ 2 * Tc s) (hr : 3 * r + 3 ≤ 3 * aNf s + (2 * nPF E s + nMk E s)) (hi : i < to) (ho : opB (fg E s f i / 1000) = true)
   (hun : ∀ p, i ≤ p → p < to → aPs s f p = 0) (hm : 64 * (1230 - Tc s) + (to - i) < m + 1) (oa : okr acc) (hk : ¬ (fg E s f i / 1000 = 2 ∨ fg E s f i / 1000 = 4)) :
   ∃ q, ((runX E m false r (t + 1) f (i + 1) (fE (fg E s f) (fn E s f) i) acc (uPs s f i 2)).bind fun q => runX E m false r t f (fE (fg E s f) (fn E s f) i + 1) to q.1 q.2) = some q ∧ UU E q.2 := by
  obtain ⟨hT, hK⟩ := hP.tx hE hf
  have hin : i < fn E s f := by have := hB.2.1; omega
  have hlt := hB.2.2 i (Nat.le_refl _) hi ho
  have gt := fE_gt (fg E s f) (fn E s f) i
  have h41 := hP.n41
  have n30 := hT.1.2
  have h0 : aPs s f i = 0 := hun i (Nat.le_refl i) hi
  have hPS : PI E (uPs s f i 2) := hP.touch hf (by decide)
  have uS : UU E (uPs s f i 2) := u.touch hEI (by decide)
  have tcS : Tc (uPs s f i 2) = Tc s + 1 := Tc_new (by decide) (by omega) (by omega) h0
  have tl := Tc_le (uPs s f i 2)
  have ct : ChZ (RZ E s f i (fE (fg E s f) (fn E s f) i + 1)) s (uPs s f i 2) := ChZ.touch (Or.inl h0) (Or.inl ⟨rfl, Nat.le_refl i, by omega⟩)
  have preS : TPre E false r (t + 1) f (i + 1) (fE (fg E s f) (fn E s f) i) (uPs s f i 2) := by
    have q := tot_next (t := t) (r := r) (i1 := i + 1) (to := fE (fg E s f) (fn E s f) i) hE hP hL hf hA ht hr hPS (ChZ.touch (Or.inl h0) (Or.inl ⟨rfl, Nat.le_refl i, Nat.lt_succ_self i⟩)) uS (DS.sub hT hin ho hk) (Bl.sub hT hin ho) (hEI.sub ho) (fun p x1 x2 => hun p (by omega) (by omega))
    obtain ⟨q1, q2, q3, q4, q5, q6, q7, q8, q9, q10, q11⟩ := q
    exact ⟨q1, q2, q3, q4, q5, q6, q7, q8, by omega, q10, q11⟩
  obtain ⟨⟨a2, s2⟩, e2, u2⟩ := ih false r (t + 1) f (i + 1) (fE (fg E s f) (fn E s f) i) acc (uPs s f i 2) (by omega) preS oa
  obtain ⟨v1, v2, v3⟩ := runX_ch hE m _ _ _ _ _ _ _ _ _ _ e2 hPS hf (Bl.sub hT hin ho) oa (fun z => absurd z Bool.false_ne_true)
  have c2 : ChZ (RZ E s f i (fE (fg E s f) (fn E s f) i + 1)) s s2 := ct.tr v2 (fun g p _ z => RZ.same (s' := uPs s f i 2) hP.1 (fun _ _ => rfl) hf (Nat.le_succ i) (Nat.le_succ _) z)
  obtain ⟨q, e3, u3⟩ := tot_on ih hE hP hL hf hA ht hr v1 c2 u2 (hD.over hT hin ho) (hB.over hi ho) (hEI.over hT hin ho) (fun p x1 x2 => hun p (by omega) x2) hi (by omega) hm v3
  refine ⟨q, ?_, u3⟩
  rw [e2]
  exact e3
set_option maxHeartbeats 1000000 in
theorem tot_call (ih : TotOk E m) (hE : EnP E) (hP : PI E s) (hL : ∀ g p, aPs s g p ≤ 2) (u : UU E s) (hf : f < aNf s) (hB : Bl (fg E s f) (fn E s f) i to) (hD : DS (fg E s f) i to) (hEI : EI E s f i) (hA : ∀ g p, AR E s f g p → aPs s g p ≠ 1) (ht : t ≤ 2 * Tc s) (hr : 3 * r + 3 ≤ 3 * aNf s + (2 * nPF E s + nMk E s)) (hi : i < to) (ek : fg E s f i / 1000 = 2)
   (hun : ∀ p, i ≤ p → p < to → aPs s f p = 0) (hm : 64 * (1230 - Tc s) + (to - i) < m + 1) (oa : okr acc) (c40 : ¬ 40 ≤ aCa s) (c6 : ¬ 6 ≤ (aFr s f).2.2.1) {w : Int} {rd : Nat} (hw : 0 ≤ w ∧ w < 24 ∧ eSn E w.toNat ≠ -1) :
   ∃ q, ((runX E m false (r + 1) (t + 1) (aNf s) 0 (eTl E (eSn E w.toNat).toNat) acc (uFr (uSe (uCa (uPs s f i 2)) 0 0 rd 0 0) ((eSn E w.toNat).toNat, w.toNat, (aFr s f).2.2.1 + 1, (f : Int), i, agF (fg E s f) (prs_ (fg E s f) (fn E s f) 30 (i + 1)) 0 (fun _ => -1)))).bind
          fun q => runX E m false r t f (fE (fg E s f) (fn E s f) i + 1) to q.1 q.2) = some q ∧ UU E q.2 := by
  have ho : opB (fg E s f i / 1000) = true := by rw [ek]; rfl
  obtain ⟨hT, hK⟩ := hP.tx hE hf
  have hin : i < fn E s f := by have := hB.2.1; omega
  have hlt := hB.2.2 i (Nat.le_refl _) hi ho
  have gt := fE_gt (fg E s f) (fn E s f) i
  have h41 := hP.n41
  have n30 := hT.1.2
  have h0 : aPs s f i = 0 := hun i (Nat.le_refl i) hi
  have hP0 : PI E (uPs s f i 2) := hP.touch hf (by decide)
  have uS : UU E (uPs s f i 2) := u.touch hEI (by decide)
  have tcS : Tc (uPs s f i 2) = Tc s + 1 := Tc_new (by decide) (by omega) (by omega) h0
  have tl := Tc_le (uPs s f i 2)
  obtain ⟨hS, hBn, l30⟩ := PI.newF (rd := rd) hP hE hf hin ek h0 c40 c6 hw
  have ct : ChZ (RZ E s f i (fE (fg E s f) (fn E s f) i + 1)) s (uPs s f i 2) := ChZ.touch (Or.inl h0) (Or.inl ⟨rfl, Nat.le_refl i, by omega⟩)
  have cS : ChZ (RZ E s f i (fE (fg E s f) (fn E s f) i + 1)) s (uFr (uSe (uCa (uPs s f i 2)) 0 0 rd 0 0) ((eSn E w.toNat).toNat, w.toNat, (aFr s f).2.2.1 + 1, (f : Int), i, agF (fg E s f) (prs_ (fg E s f) (fn E s f) 30 (i + 1)) 0 (fun _ => -1))) := ((ct.tr (ChZ.ca (Z := fun _ _ => False)) (fun _ _ _ z => z.elim)).tr (ChZ.se (Z := fun _ _ => False)) (fun _ _ _ z => z.elim)).tr (ChZ.fr (Z := fun _ _ => False)) (fun _ _ _ z => z.elim)
  have uF : UU E (uFr (uSe (uCa (uPs s f i 2)) 0 0 rd 0 0) ((eSn E w.toNat).toNat, w.toNat, (aFr s f).2.2.1 + 1, (f : Int), i, agF (fg E s f) (prs_ (fg E s f) (fn E s f) 30 (i + 1)) 0 (fun _ => -1))) := UU.fr (UU.same (UU.ca uS) sSame.se) ((hP0.ca (by show aCa s < 40; omega)).se)
  have c2t := (hE.1 w.toNat (by omega) hw.2.2).2.1
  have nw : aFr (uFr (uSe (uCa (uPs s f i 2)) 0 0 rd 0 0) ((eSn E w.toNat).toNat, w.toNat, (aFr s f).2.2.1 + 1, (f : Int), i, agF (fg E s f) (prs_ (fg E s f) (fn E s f) 30 (i + 1)) 0 (fun _ => -1))) (aNf s) = ((eSn E w.toNat).toNat, w.toNat, (aFr s f).2.2.1 + 1, (f : Int), i, agF (fg E s f) (prs_ (fg E s f) (fn E s f) 30 (i + 1)) 0 (fun _ => -1)) := if_pos rfl
  have hDn : DS (fg E (uFr (uSe (uCa (uPs s f i 2)) 0 0 rd 0 0) ((eSn E w.toNat).toNat, w.toNat, (aFr s f).2.2.1 + 1, (f : Int), i, agF (fg E s f) (prs_ (fg E s f) (fn E s f) 30 (i + 1)) 0 (fun _ => -1))) (aNf s)) 0 (eTl E (eSn E w.toNat).toNat) := by
    show DS (eTx E (aFr _ (aNf s)).1) 0 _
    rw [nw]
    exact DS.whole c2t
  have tcF : Tc (uFr (uSe (uCa (uPs s f i 2)) 0 0 rd 0 0) ((eSn E w.toNat).toNat, w.toNat, (aFr s f).2.2.1 + 1, (f : Int), i, agF (fg E s f) (prs_ (fg E s f) (fn E s f) 30 (i + 1)) 0 (fun _ => -1))) = Tc s + 1 := tcS
  have nS : aNf (uFr (uSe (uCa (uPs s f i 2)) 0 0 rd 0 0) ((eSn E w.toNat).toNat, w.toNat, (aFr s f).2.2.1 + 1, (f : Int), i, agF (fg E s f) (prs_ (fg E s f) (fn E s f) 30 (i + 1)) 0 (fun _ => -1))) = aNf s + 1 := rfl
  have pS : ∀ g p, aPs (uFr (uSe (uCa (uPs s f i 2)) 0 0 rd 0 0) ((eSn E w.toNat).toNat, w.toNat, (aFr s f).2.2.1 + 1, (f : Int), i, agF (fg E s f) (prs_ (fg E s f) (fn E s f) 30 (i + 1)) 0 (fun _ => -1))) g p = if g = f ∧ p = i then 2 else aPs s g p := fun _ _ => rfl
  generalize uFr (uSe (uCa (uPs s f i 2)) 0 0 rd 0 0) ((eSn E w.toNat).toNat, w.toNat, (aFr s f).2.2.1 + 1, (f : Int), i, agF (fg E s f) (prs_ (fg E s f) (fn E s f) 30 (i + 1)) 0 (fun _ => -1)) = S at *
  have frf : aFr S f = aFr s f := cS.2.1 f hf
  -- what its arguments come from
  have arS : ∀ g p, AR E S (aNf s) g p → (g = f ∧ i < p ∧ p < fE (fg E s f) (fn E s f) i) ∨ AR E s f g p := by
    intro g p ⟨n, z⟩
    cases n with
    | zero =>
      obtain ⟨z1, z2, z3, z4⟩ := z
      rw [nw] at z2 z3 z4
      have e1 : fg E S ((f : Int)).toNat = fg E s f := by rw [Int.toNat_natCast]; show eTx E (aFr S f).1 = _; rw [frf]
      have e2 : fn E S ((f : Int)).toNat = fn E s f := by rw [Int.toNat_natCast]; show eTl E (aFr S f).1 = _; rw [frf]
      have z4' : p < fE (fg E S ((f : Int)).toNat) (fn E S ((f : Int)).toNat) i := z4
      rw [e1, e2] at z4'
      have z2' : g = ((f : Int)).toNat := z2
      have z3' : i < p := z3
      exact Or.inl ⟨by omega, z3', z4'⟩
    | succ n =>
      obtain ⟨z1, z2⟩ := z
      rw [nw] at z2
      have z2' : arN E S n ((f : Int)).toNat g p := z2
      rw [Int.toNat_natCast] at z2'
      exact Or.inr ⟨n, arN_same hP.1 cS.2.1 n f g p hf z2'⟩
  have w3 := nPF_ch (E := E) cS
  have w4 := nMk_ch (E := E) cS
  have preS : TPre E false (r + 1) (t + 1) (aNf s) 0 (eTl E (eSn E w.toNat).toNat) S := by
    refine ⟨hS, fun g p => ?_, uF, by omega, hBn, hDn, fun q hq => absurd hq (Nat.not_lt_zero _), fun g p a => ?_, by omega, fun _ => ⟨by omega, fun p _ _ => ?_⟩, fun z => absurd z Bool.false_ne_true⟩
    · rw [pS]
      by_cases c : g = f ∧ p = i
      · rw [if_pos c]; exact Nat.le_refl _
      · rw [if_neg c]; exact hL g p
    · rw [pS]
      rcases arS g p a with ⟨z1, z2, z3⟩ | z
      · rw [if_neg (by omega), z1, hun p (by omega) (by omega)]; decide
      · have := z.lt hP.1 hf
        rw [if_neg (by omega)]
        exact hA g p z
    · rw [pS, if_neg (by omega)]
      exact hP.2.1.1 _ (Nat.le_refl _) p
  obtain ⟨⟨a2, s2⟩, e2, u2⟩ := ih false (r + 1) (t + 1) (aNf s) 0 (eTl E (eSn E w.toNat).toNat) acc S (by omega) preS oa
  obtain ⟨v1, v2, v3⟩ := runX_ch hE m _ _ _ _ _ _ _ _ _ _ e2 hS (by omega) hBn oa (fun z => absurd z Bool.false_ne_true)
  have c2 : ChZ (RZ E s f i (fE (fg E s f) (fn E s f) i + 1)) s s2 := by
    refine cS.tr v2 (fun g p hg z => ?_)
    rcases z with z | z
    · omega
    · rcases arS g p z with ⟨z1, z2, z3⟩ | z
      · exact Or.inl ⟨z1, by omega, by omega⟩
      · exact Or.inr z
  obtain ⟨q, e3, u3⟩ := tot_on ih hE hP hL hf hA ht hr v1 c2 u2 (hD.over hT hin ho) (hB.over hi ho) (hEI.over hT hin ho) (fun p x1 x2 => hun p (by omega) x2) hi (by omega) hm v3
  refine ⟨q, ?_, u3⟩
  rw [e2]
  exact e3
set_option maxHeartbeats 1000000 in
theorem tot_param (ih : TotOk E m) (hE : EnP E) (hP : PI E s) (hL : ∀ g p, aPs s g p ≤ 2) (u : UU E s) (hf : f < aNf s) (hB : Bl (fg E s f) (fn E s f) i to) (hD : DS (fg E s f) i to) (hEI : EI E s f i) (hA : ∀ g p, AR E s f g p → aPs s g p ≠ 1) (ht : t ≤ 2 * Tc s) (hr : 3 * r + 3 ≤ 3 * aNf s + (2 * nPF E s + nMk E s)) (hi : i < to) (ek : fg E s f i / 1000 = 3)
   (hun : ∀ p, i ≤ p → p < to → aPs s f p = 0) (hm : 64 * (1230 - Tc s) + (to - i) < m + 1) (oa : okr acc) (ca : (aFr s f).2.2.2.2.2 (fg E s f i % 1000).toNat ≠ -1) {cf q : Nat} (hcc : (aFr s f).2.2.2.1.toNat = cf) (hqq : ((aFr s f).2.2.2.2.2 (fg E s f i % 1000).toNat).toNat = q) (p0 : aPs s cf q = 0) :
   ∃ o, ((runX E m false (r + 1) (t + 2) cf (q + 1) (fE (fg E s cf) (fn E s cf) q) [] (uPs (uPs s f i 2) cf q 1)).bind
            fun qq => runX E m false r t f (fE (fg E s f) (fn E s f) i + 1) to (aal acc qq.1) (uDn qq.2 cf q qq.1)) = some o ∧ UU E o.2 := by
  have ho : opB (fg E s f i / 1000) = true := by rw [ek]; rfl
  obtain ⟨hT, hK⟩ := hP.tx hE hf
  have hin : i < fn E s f := by have := hB.2.1; omega
  have hlt := hB.2.2 i (Nat.le_refl _) hi ho
  have gt := fE_gt (fg E s f) (fn E s f) i
  have h41 := hP.n41
  have n30 := hT.1.2
  have h0 : aPs s f i = 0 := hun i (Nat.le_refl i) hi
  obtain ⟨a1, a2, a3, a4, a5, a6, a7, a8, a9⟩ := hP.arg hE hf ca
  have hfu := (hP.1 f hf).2
  rw [hcc, hqq] at a4 a6 a7 a8 a9
  rw [hqq] at a5
  have hcf : cf < aNf s := by omega
  have hcff : cf < f := by omega
  obtain ⟨hTc, hKc⟩ := hP.tx hE hcf
  have nc30 := hTc.1.2
  have hP0 : PI E (uPs s f i 2) := hP.touch hf (by decide)
  have uS0 : UU E (uPs s f i 2) := u.touch hEI (by decide)
  have tcS0 : Tc (uPs s f i 2) = Tc s + 1 := Tc_new (by decide) (by omega) (by omega) h0
  have p0' : aPs (uPs s f i 2) cf q = 0 := by
    show (if cf = f ∧ q = i then 2 else aPs s cf q) = 0
    rw [if_neg (by omega)]; exact p0
  -- around the argument all is begun
  have hEIq : EI E s cf q := by
    rcases hfu with z | ⟨d1, d2, d3, d4, d5, d6, d7⟩
    · exact absurd (z.2 _) ca
    · rw [hcc] at d3 d4 d6
      have oat : opB (fg E s cf (aFr s f).2.2.2.2.1 / 1000) = true := by rw [d4]; rfl
      have eat : EI E s cf (aFr s f).2.2.2.2.1 := fun q' h1 h2 h3 => u cf q' (aFr s f).2.2.2.2.1 hcf (by omega) h2 h1 h3 d6
      exact EI.part u eat hP hE hcf d3 oat a4
  have hEIq0 : EI E (uPs s f i 2) cf q := by
    intro q' h1 h2 h3
    show (if cf = f ∧ q' = i then 2 else aPs s cf q') ≠ 0
    rw [if_neg (by omega)]
    exact hEIq q' h1 h2 h3
  have hPS : PI E (uPs (uPs s f i 2) cf q 1) := hP0.touch hcf (by decide)
  have uS : UU E (uPs (uPs s f i 2) cf q 1) := uS0.touch hEIq0 (by decide)
  have tcS : Tc (uPs (uPs s f i 2) cf q 1) = Tc (uPs s f i 2) + 1 := Tc_new (by decide) (by omega) (by omega) p0'
  have tl := Tc_le (uPs (uPs s f i 2) cf q 1)
  have w1 : nPF E s + 1 ≤ nPF E (uPs s f i 2) := nPF_new (by decide) (by omega) hf hin (by omega) (Or.inl ek) h0
  have w2 : nMk E s ≤ nMk E (uPs s f i 2) := nMk_up (by decide)
  have w3 : nMk E (uPs s f i 2) + 1 ≤ nMk E (uPs (uPs s f i 2) cf q 1) := nMk_new (by decide) (by omega) hcf a9 (by omega) a7 p0'
  have w4 : nPF E (uPs s f i 2) ≤ nPF E (uPs (uPs s f i 2) cf q 1) := nPF_up (by decide)
  have stS : ∀ g p, aPs (uPs (uPs s f i 2) cf q 1) g p = if g = cf ∧ p = q then 1 else if g = f ∧ p = i then 2 else aPs s g p := fun _ _ => rfl
  have hBS : Bl (fg E s cf) (fn E s cf) (q + 1) (fE (fg E s cf) (fn E s cf) q) := Bl.part hTc a9 a7
  have preS : TPre E false (r + 1) (t + 2) cf (q + 1) (fE (fg E s cf) (fn E s cf) q) (uPs (uPs s f i 2) cf q 1) := by
    refine ⟨hPS, fun g p => ?_, uS, hcf, hBS, DS.part hTc a9 a7, fun q' hq' hm' hfe => ?_, fun g p a => ?_, by omega, fun _ => ⟨?_, fun p x1 x2 => ?_⟩, fun z => absurd z Bool.false_ne_true⟩
    · rw [stS]
      by_cases c : g = cf ∧ p = q
      · rw [if_pos c]; decide
      · rw [if_neg c]
        by_cases c2 : g = f ∧ p = i
        · rw [if_pos c2]; exact Nat.le_refl _
        · rw [if_neg c2]; exact hL g p
    · rw [stS]
      by_cases c : q' = q
      · rw [if_pos ⟨rfl, c⟩]; decide
      · rw [if_neg (fun z => c z.2), if_neg (by omega)]
        exact hEIq q' (by omega) hm' (by have hfe' : q + 1 < fE (fg E s cf) (fn E s cf) q' := hfe; omega)
    · have a' : AR E s cf g p := AR.same (s' := uPs (uPs s f i 2) cf q 1) hP.1 (fun _ _ => rfl) hcf a
      have := a'.lt hP.1 hcf
      rw [stS, if_neg (by omega), if_neg (by omega)]
      obtain ⟨n, z⟩ := a'
      exact hA g p ⟨n + 1, by omega, by rw [hcc]; exact z⟩
    · show 3 * (r + 1) + 3 ≤ 3 * aNf s + (2 * nPF E (uPs (uPs s f i 2) cf q 1) + nMk E (uPs (uPs s f i 2) cf q 1))
      omega
    · rw [stS, if_neg (by omega), if_neg (by omega)]
      refine Decidable.byContradiction (fun z => ?_)
      exact u cf q p hcf a9 a7 (by omega) x2 z p0
  have fq30 := (cl_mk hTc a9 a7).2.1
  obtain ⟨⟨r2, s2⟩, e2, u2⟩ := ih false (r + 1) (t + 2) cf (q + 1) (fE (fg E s cf) (fn E s cf) q) [] (uPs (uPs s f i 2) cf q 1) (by omega) preS okr_nil
  obtain ⟨v1, v2, v3⟩ := runX_ch hE m _ _ _ _ _ _ _ _ _ _ e2 hPS hcf hBS okr_nil (fun z => absurd z Bool.false_ne_true)
  have hs2 : aPs s2 cf q = 1 := by
    rw [v2.nz (g := cf) (p := q) (by rw [stS, if_pos ⟨rfl, rfl⟩]; decide), stS, if_pos ⟨rfl, rfl⟩]
  have ct : ChZ (RZ E s f i (fE (fg E s f) (fn E s f) i + 1)) s (uPs s f i 2) := ChZ.touch (Or.inl h0) (Or.inl ⟨rfl, Nat.le_refl i, by omega⟩)
  have cp : ChZ (RZ E s f i (fE (fg E s f) (fn E s f) i + 1)) (uPs s f i 2) (uDn s2 cf q r2) := by
    refine ChZ.part v2 p0' (fun g p hg z => ?_) (Or.inr ⟨0, by omega, hcc.symm, a5, by rw [hcc]; exact a6⟩)
    rcases z with ⟨z1, z2, z3⟩ | z
    · refine Or.inr ⟨0, by omega, by rw [hcc]; exact z1, by omega, ?_⟩
      have z3' : p < fE (fg E s cf) (fn E s cf) q := z3
      rw [hcc]
      omega
    · obtain ⟨n, z⟩ := AR.same (s := s) (s' := uPs (uPs s f i 2) cf q 1) hP.1 (fun _ _ => rfl) hcf z
      exact Or.inr ⟨n + 1, by omega, by rw [hcc]; exact z⟩
  have c2 : ChZ (RZ E s f i (fE (fg E s f) (fn E s f) i + 1)) s (uDn s2 cf q r2) := ct.tr cp (fun _ _ _ z => z)
  have hcf2 : cf < aNf s2 := Nat.lt_of_lt_of_le hcf v2.1
  obtain ⟨o, e3, u3⟩ := tot_on (acc1 := aal acc r2) ih hE hP hL hf hA ht hr (v1.dn hcf2 v3) c2 (UU.dn u2 (by rw [hs2]; decide)) (hD.over hT hin ho) (hB.over hi ho) (hEI.over hT hin ho) (fun p x1 x2 => hun p (by omega) x2) hi (by omega) hm (aal_ok oa v3.2)
  refine ⟨o, ?_, u3⟩
  rw [e2]
  exact e3
set_option maxHeartbeats 1000000 in
theorem tot_ok (hE : EnP E) : ∀ m, TotOk E m := by
  intro m
  induction m with
  | zero => intro re r t f i to acc s hm; exact absurd hm (Nat.not_lt_zero _)
  | succ m ih =>
    intro re r t f i to acc s hm hpre oa
    obtain ⟨hP, hL, u, hf, hB, hD, hEI, hA, ht, g0, g1⟩ := hpre
    have tl := Tc_le s
    have w := wt_le hP hE
    have nf := nFu_le hP hE
    have h41 := hP.n41
    obtain ⟨hT, hK⟩ := hP.tx hE hf
    have rb : ¬ (510 ≤ r ∨ 3990 ≤ t) := by
      cases re with
      | false => have := (g0 rfl).1; omega
      | true => have := (g1 rfl).1; omega
    rw [runX, if_neg rb]
    by_cases c1 : to ≤ i
    · rw [if_pos c1]; exact ⟨_, rfl, u⟩
    rw [if_neg c1]
    have hi : i < to := by omega
    have hin : i < fn E s f := by have := hB.2.1; omega
    have hok := hK i hin
    unfold okt at hok
    have n30 := hT.1.2
    have gt := fE_gt (fg E s f) (fn E s f) i
    by_cases ho : opB (fg E s f i / 1000) = true
    · rw [if_pos ho]
      have hlt := hB.2.2 i (Nat.le_refl _) hi ho
      cases re with
      | true =>
        obtain ⟨hr, _, ek, h2, hpt, hun⟩ := g1 rfl
        rw [if_neg (fun z => absurd z.1.symm Bool.false_ne_true), if_neg (fun z => absurd z.1.symm Bool.false_ne_true), if_neg (fun z => z.2 ek), if_neg (by omega), if_neg (by omega), if_neg (by omega), if_pos ek, uPs_self h2]
        exact tot_func ih hE hP hL u hf hB hD hEI hA ht hr hi ek h2 hpt hun hm oa
      | false =>
        obtain ⟨hr, hun⟩ := g0 rfl
        have h0 := hun i (Nat.le_refl i) hi
        have hu := unt_mk (s := s) (f := f) (i := i) (c := fE (fg E s f) (fn E s f) i) (fun p x1 x2 => hun p x1 (by omega))
        rw [if_neg (fun z => by rw [hu] at z; exact absurd z.2.symm Bool.false_ne_true), if_neg (fun z => by have := z.2.2; omega), if_neg (fun z => absurd z.1 Bool.false_ne_true)]
        have hP0 : PI E (uPs s f i 2) := hP.touch hf (by decide)
        have uS : UU E (uPs s f i 2) := u.touch hEI (by decide)
        have ct : ChZ (RZ E s f i (fE (fg E s f) (fn E s f) i + 1)) s (uPs s f i 2) := ChZ.touch (Or.inl h0) (Or.inl ⟨rfl, Nat.le_refl i, by omega⟩)
        have on : ∀ {s1 : ASt} {acc1 : List Int}, PI E s1 → ChZ (RZ E s f i (fE (fg E s f) (fn E s f) i + 1)) s s1 → UU E s1 → okr acc1 → ∃ q, runX E m false r t f (fE (fg E s f) (fn E s f) i + 1) to acc1 s1 = some q ∧ UU E q.2 := fun x1 x2 x3 x4 => tot_on ih hE hP hL hf hA ht hr x1 x2 x3 (hD.over hT hin ho) (hB.over hi ho) (hEI.over hT hin ho) (fun p y1 y2 => hun p (by omega) y2) hi (by omega) hm x4
        by_cases k1 : fg E s f i / 1000 = 10 ∨ (fg E s f i / 1000 = 8 ∧ 0 < (aFr s f).2.2.1) ∨ (fg E s f i / 1000 = 9 ∧ (aFr s f).2.2.1 = 0)
        · rw [if_pos k1]
          exact tot_content ih hE hP hL u hf hB hD hEI hA ht hr hi ho hun hm oa (by omega)
        rw [if_neg k1]
        by_cases k2 : fg E s f i / 1000 = 2
        · rw [if_pos k2]
          have hv : (fg E s f i % 1000).toNat < 24 := by omega
          by_cases c40 : 40 ≤ aCa s
          · rw [if_pos c40]
            exact on hP0 ct uS (apl_ok oa (by decide) (by decide))
          rw [if_neg c40]
          have hPc : ∀ {l c d u q : Nat}, PI E (uSe (uCa (uPs s f i 2)) l c d u q) := (hP0.ca (by show aCa s < 40; omega)).se
          have uc : ∀ {l c d u q : Nat}, UU E (uSe (uCa (uPs s f i 2)) l c d u q) := UU.same (UU.ca uS) sSame.se
          have cs : ∀ {l c d u q : Nat}, ChZ (RZ E s f i (fE (fg E s f) (fn E s f) i + 1)) s (uSe (uCa (uPs s f i 2)) l c d u q) := (ct.tr (ChZ.ca (Z := fun _ _ => False)) (fun _ _ _ z => z.elim)).tr (ChZ.se (Z := fun _ _ => False)) (fun _ _ _ z => z.elim)
          by_cases cw : (wayF E 5 (fg E s f i % 1000).toNat 0).1 = -1
          · rw [if_pos cw]
            exact on hPc cs uc (apl_ok oa (by omega) (by omega))
          rw [if_neg cw]
          by_cases cm : cmF s 41 f (wayF E 5 (fg E s f i % 1000).toNat 0).1 = true
          · rw [if_pos cm]
            exact on hPc cs uc (apl_ok oa (by decide) (by decide))
          rw [if_neg cm]
          by_cases c6 : 6 ≤ (aFr s f).2.2.1
          · rw [if_pos c6]
            exact on hPc cs uc (apl_ok oa (by decide) (by decide))
          rw [if_neg c6]
          have hw := (wayF_lt E 5 (fg E s f i % 1000).toNat 0 (by decide) hv (fun t t1 t2 t3 => by
            have z := hE.1 t t1 t2
            have y := z.2.2 0 (by have := z.2.1.1.1; omega)
            unfold okt at y
            omega)).2.resolve_left cw
          exact tot_call ih hE hP hL u hf hB hD hEI hA ht hr hi k2 hun hm oa c40 c6 hw
        rw [if_neg k2]
        by_cases k3 : fg E s f i / 1000 = 3
        · rw [if_pos k3]
          by_cases ca : (aFr s f).2.2.2.2.2 (fg E s f i % 1000).toNat = -1 ∨ (aFr s f).2.2.2.1 = -1
          · rw [if_pos ca]
            exact tot_content ih hE hP hL u hf hB hD hEI hA ht hr hi ho hun hm oa (by omega)
          rw [if_neg ca]
          have ca' : (aFr s f).2.2.2.2.2 (fg E s f i % 1000).toNat ≠ -1 := fun z => ca (Or.inl z)
          by_cases p2 : aPs s (aFr s f).2.2.2.1.toNat ((aFr s f).2.2.2.2.2 (fg E s f i % 1000).toNat).toNat = 2
          · rw [if_pos p2]
            exact on hP0 ct uS (aal_ok oa (hP.2.2.1 _ _).2)
          rw [if_neg p2]
          obtain ⟨a1, a2, a3, a4, a5, a6, a7, a8, a9⟩ := hP.arg hE hf ca'
          have p1 := hA _ _ ⟨0, show (aFr s f).2.2.2.1 ≠ -1 by omega, rfl, a5, a6⟩
          have p3 := hL (aFr s f).2.2.2.1.toNat ((aFr s f).2.2.2.2.2 (fg E s f i % 1000).toNat).toNat
          have p0 : aPs s (aFr s f).2.2.2.1.toNat ((aFr s f).2.2.2.2.2 (fg E s f i % 1000).toNat).toNat = 0 := by omega
          rw [if_pos p0]
          exact tot_param ih hE hP hL u hf hB hD hEI hA ht hr hi k3 hun hm oa ca' rfl rfl p0
        rw [if_neg k3]
        by_cases k4 : fg E s f i / 1000 = 4
        · rw [if_pos k4]
          have tcS : Tc (uPs s f i 2) = Tc s + 1 := Tc_new (by decide) (by omega) (by omega) h0
          have tlS := Tc_le (uPs s f i 2)
          have w1 : nPF E s + 1 ≤ nPF E (uPs s f i 2) := nPF_new (by decide) (by omega) hf hin (by omega) (Or.inr k4) h0
          have w2 : nMk E s ≤ nMk E (uPs s f i 2) := nMk_up (by decide)
          have st : ∀ g p, aPs (uPs s f i 2) g p = if g = f ∧ p = i then 2 else aPs s g p := fun _ _ => rfl
          refine tot_func (s := uPs s f i 2) ih hE hP0 (fun g p => ?_) uS hf hB hD (hEI.ch ct hf) (fun g p a => ?_) (by omega) ?_ hi k4 (if_pos ⟨rfl, rfl⟩) (fun p x1 x2 => ?_) (fun p x1 x2 => ?_) (by omega) oa
          · rw [st]
            by_cases c : g = f ∧ p = i
            · rw [if_pos c]; exact Nat.le_refl _
            · rw [if_neg c]; exact hL g p
          · have a' : AR E s f g p := AR.same (s' := uPs s f i 2) hP.1 (fun _ _ => rfl) hf a
            have := a'.lt hP.1 hf
            rw [st, if_neg (by omega)]
            exact hA g p a'
          · show 3 * r + 5 ≤ 3 * aNf s + (2 * nPF E (uPs s f i 2) + nMk E (uPs s f i 2))
            omega
          · have x2' : p < fE (fg E s f) (fn E s f) i := x2
            rw [st, if_neg (by omega), hun p (by omega) (by omega)]; decide
          · have x1' : fE (fg E s f) (fn E s f) i ≤ p := x1
            rw [st, if_neg (by omega)]
            exact hun p (by omega) x2
        rw [if_neg k4]
        exact on hP0 ct uS oa
    · rw [if_neg ho]
      have hre : re = false := by
        cases re with
        | false => rfl
        | true => have := (g1 rfl).2.2.1; rw [this] at ho; exact absurd rfl ho
      obtain ⟨hr, hun⟩ := g0 hre
      have nowD := hD.now hi
      have on : ∀ {s1 : ASt} {acc1 : List Int}, sSame s s1 → okr acc1 → ∃ q, runX E m false r t f (i + 1) to acc1 s1 = some q ∧ UU E q.2 := fun x1 x4 => tot_on ih hE hP hL hf hA ht hr (hP.same x1) (ChZ.same x1) (u.same x1) (hD.step hi ho) (hB.step hi) (hEI.plain nowD.2) (fun p y1 y2 => hun p (by omega) y2) hi (Nat.lt_succ_self i) hm x4
      by_cases k0 : fg E s f i / 1000 = 0
      · rw [if_pos k0]
        exact on sSame.rf (apl_ok oa (by omega) (by omega))
      rw [if_neg k0]
      by_cases k1 : fg E s f i / 1000 = 1 ∨ fg E s f i / 1000 = 12
      · rw [if_pos k1]
        exact on sSame.se (apl_ok oa (by omega) (by omega))
      rw [if_neg k1]
      by_cases k11 : fg E s f i / 1000 = 11
      · rw [if_pos k11]
        exact on sSame.se oa
      rw [if_neg k11]
      exact on sSame.rf oa
/-- a title's text is always expanded -/
theorem runX_top (hE : EnP E) {t : Nat} (ht : t < 24) (hne : eSn E t ≠ -1) : ∃ q, runX E 80000 false 0 0 0 0 (eTl E (eSn E t).toNat) [] (uFr aS0 (topF E t)) = some q := by
  obtain ⟨c1, c2, c3⟩ := hE.1 t ht hne
  have hP := PI.top (E := E) ht hne
  have pre : TPre E false 0 0 0 0 (eTl E (eSn E t).toNat) (uFr aS0 (topF E t)) := by
    refine ⟨hP, fun _ _ => Nat.zero_le _, fun g q p _ _ _ _ _ z => absurd rfl z, Nat.lt_succ_self 0, Bl.whole c2, DS.whole c2, fun q hq => absurd hq (Nat.not_lt_zero _), fun g p ⟨n, z⟩ => ?_, Nat.zero_le _, fun _ => ⟨by show 3 * 0 + 3 ≤ 3 * 1 + _; omega, fun _ _ _ => rfl⟩, fun z => absurd z Bool.false_ne_true⟩
    cases n with
    | zero => exact absurd rfl z.1
    | succ n => exact absurd rfl z.1
  have hl := c2.1.2
  obtain ⟨q, e, _⟩ := tot_ok hE 80000 false 0 0 0 0 (eTl E (eSn E t).toNat) [] (uFr aS0 (topF E t)) (by omega) pre okr_nil
  exact ⟨q, e⟩
end TOT3
