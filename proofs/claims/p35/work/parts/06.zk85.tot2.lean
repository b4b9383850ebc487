/-! THE EVALUATOR ALWAYS ENDS -/
section TOT2
variable {E : Env} {s s1 s2 s' : ASt} {r t f i i1 to m : Nat} {acc acc1 : List Int}
theorem tot_on (ih : TotOk E m) (hE : EnP E) (hP : PI E s) (hL : ∀ g p, aPs s g p ≤ 2) (hf : f < aNf s) (hA : ∀ g p, AR E s f g p → aPs s g p ≠ 1) (ht : t ≤ 2 * Tc s) (hr : 3 * r + 3 ≤ 3 * aNf s + (2 * nPF E s + nMk E s)) (h1 : PI E s1) (c : ChZ (RZ E s f i i1) s s1) (u : UU E s1) (hD : DS (fg E s f) i1 to) (hB : Bl (fg E s f) (fn E s f) i1 to) (hEI : EI E s f i1)
   (hun : ∀ p, i1 ≤ p → p < to → aPs s f p = 0) (hi : i < to) (hi1 : i < i1) (hm : 64 * (1230 - Tc s) + (to - i) < m + 1) (oa : okr acc1) : ∃ q, runX E m false r t f i1 to acc1 s1 = some q ∧ UU E q.2 := by
  have a1 := Tc_ch c
  exact ih false r t f i1 to acc1 s1 (by omega) (tot_next hE hP hL hf hA ht hr h1 c u hD hB hEI hun) oa
theorem unt_mk {c : Nat} (h : ∀ p, i ≤ p → p < c → aPs s f p = 0) : unt s f i c = true := by
  unfold unt
  refine List.all_eq_true.mpr (fun d hd => ?_)
  have hd' := List.mem_range.mp hd
  exact beq_iff_eq.mpr (h (i + d) (by omega) (by omega))
set_option maxHeartbeats 1000000 in
theorem tot_func (ih : TotOk E m) (hE : EnP E) (hP : PI E s) (hL : ∀ g p, aPs s g p ≤ 2) (u : UU E s) (hf : f < aNf s) (hB : Bl (fg E s f) (fn E s f) i to) (hD : DS (fg E s f) i to) (hEI : EI E s f i) (hA : ∀ g p, AR E s f g p → aPs s g p ≠ 1) (ht : t ≤ 2 * Tc s) (hr : 3 * r + 5 ≤ 3 * aNf s + (2 * nPF E s + nMk E s)) (hi : i < to) (ek : fg E s f i / 1000 = 4) (h2 : aPs s f i = 2)
   (hpt : ∀ p, i < p → p < fE (fg E s f) (fn E s f) i → aPs s f p ≠ 1) (hun : ∀ p, fE (fg E s f) (fn E s f) i ≤ p → p < to → aPs s f p = 0) (hm : 64 * (1230 - Tc s) + (to - i) < m + 1) (oa : okr acc) :
   ∃ q, (match gv E s f (prs_ (fg E s f) (fn E s f) 30 (i + 1)) (fg E s f i % 1000) acc with
        | none => none
        | some (0, acc', s') => runX E m false r t f (fE (fg E s f) (fn E s f) i + 1) to acc' s'
        | some (j + 1, _, s') =>
          (runX E m false (r + 1) (t + 2) f ((prs_ (fg E s f) (fn E s f) 30 (i + 1)).getD j 0 + 1) (fE (fg E s f) (fn E s f) ((prs_ (fg E s f) (fn E s f) 30 (i + 1)).getD j 0)) [] (uPs s' f ((prs_ (fg E s f) (fn E s f) 30 (i + 1)).getD j 0) 1)).bind
            fun q => runX E m true r t f i to acc (uDn q.2 f ((prs_ (fg E s f) (fn E s f) 30 (i + 1)).getD j 0) q.1)) = some q ∧ UU E q.2 := by
  have ho : opB (fg E s f i / 1000) = true := by rw [ek]; rfl
  obtain ⟨hT, hK⟩ := hP.tx hE hf
  have hin : i < fn E s f := by have := hB.2.1; omega
  have hlt := hB.2.2 i (Nat.le_refl _) hi ho
  have gt := fE_gt (fg E s f) (fn E s f) i
  have h41 := hP.n41
  have n30 := hT.1.2
  obtain ⟨o, hg⟩ := gv_tot hP.2.2.1 hE.2.2 (pl := prs_ (fg E s f) (fn E s f) 30 (i + 1)) (f := f) (fun p hp => by
    obtain ⟨b1, b2, b3, b4, b5⟩ := prs_sub hT hin ho hp
    exact ⟨hpt p b1 b2, hL f p⟩) (fg E s f i % 1000) acc
  rw [hg]
  have hsm := gv_same hg
  have hgo := gv_out hP.2.2.1 oa hE.2.2 hg
  obtain ⟨oj, oacc, os⟩ := o
  have hPo : PI E os := hP.same hsm
  have c0 : ChZ (RZ E s f i (fE (fg E s f) (fn E s f) i + 1)) s os := ChZ.same hsm
  cases oj with
  | zero =>
    rcases hgo with ⟨_, y⟩ | ⟨j, y, _⟩
    · exact tot_on ih hE hP hL hf hA ht (by omega) hPo c0 (u.same hsm) (hD.over hT hin ho) (hB.over hi ho) (hEI.over hT hin ho) (fun p x1 x2 => hun p (by omega) x2) hi (by omega) hm y
    · exact absurd y (Nat.succ_ne_zero j).symm
  | succ j =>
    rcases hgo with ⟨y, _⟩ | ⟨j', y1, y2, y3⟩
    · exact absurd y (Nat.succ_ne_zero j)
    · have ej : j' = j := by have : j + 1 = j' + 1 := y1; omega
      subst ej
      have hmem := getDn_mem y2
      obtain ⟨b1, b2, b3, b4, b5⟩ := prs_sub hT hin ho hmem
      have bn := prs_mem hmem
      dsimp only
      have hEIp : EI E s f ((prs_ (fg E s f) (fn E s f) 30 (i + 1)).getD j' 0) := EI.part u hEI hP hE hf hin ho hmem
      generalize (prs_ (fg E s f) (fn E s f) 30 (i + 1)).getD j' 0 = p at *
      obtain ⟨o1, o2, o3, o4, o5⟩ := hsm
      have fo : aFr os = aFr s := o2
      have nfo : aNf os = aNf s := o1
      have eg : fg E os f = fg E s f := by show eTx E (aFr os f).1 = _; rw [fo]
      have en : fn E os f = fn E s f := by show eTl E (aFr os f).1 = _; rw [fo]
      have hfo : f < aNf os := by rw [nfo]; exact hf
      have p0 : aPs os f p = 0 := by rw [o3]; exact y3
      have uo : UU E os := u.same ⟨o1, o2, o3, o4, o5⟩
      have hEIo : EI E os f p := hEIp.ch c0 hf
      have hPS : PI E (uPs os f p 1) := hPo.touch hfo (by decide)
      have uS : UU E (uPs os f p 1) := uo.touch hEIo (by decide)
      have tcS : Tc (uPs os f p 1) = Tc os + 1 := Tc_new (by decide) (by omega) (by omega) p0
      have tco : Tc os = Tc s := by unfold Tc; rw [o3]
      have w1 : nMk E os + 1 ≤ nMk E (uPs os f p 1) := nMk_new (by decide) (by omega) hfo (by rw [en]; exact bn.1) (by omega) (by rw [eg]; exact bn.2) p0
      have w2 : nPF E os ≤ nPF E (uPs os f p 1) := nPF_up (by decide)
      have w3 := nPF_ch (E := E) c0
      have w4 := nMk_ch (E := E) c0
      have tl := Tc_le (uPs os f p 1)
      have stS : ∀ g q, aPs (uPs os f p 1) g q = if g = f ∧ q = p then 1 else aPs os g q := fun _ _ => rfl
      have hEIS : EI E (uPs os f p 1) f (p + 1) := by
        intro q hq hm' hfe
        rw [stS]
        by_cases c : q = p
        · rw [if_pos ⟨rfl, c⟩]; decide
        · rw [if_neg (fun z => c z.2)]
          exact hEIo q (by omega) hm' (by have hfe' : p + 1 < fE (fg E os f) (fn E os f) q := hfe; omega)
      have preS : TPre E false (r + 1) (t + 2) f (p + 1) (fE (fg E s f) (fn E s f) p) (uPs os f p 1) := by
        refine ⟨hPS, fun g q => ?_, uS, hfo, ?_, ?_, hEIS, fun g q a => ?_, by omega, fun _ => ⟨?_, fun q x1 x2 => ?_⟩, fun z => absurd z Bool.false_ne_true⟩
        · rw [stS, o3]
          by_cases c : g = f ∧ q = p
          · rw [if_pos c]; decide
          · rw [if_neg c]; exact hL g q
        · show Bl (fg E os f) (fn E os f) _ _
          rw [eg, en]; exact Bl.part hT bn.1 bn.2
        · show DS (fg E os f) _ _
          rw [eg]; exact DS.part hT bn.1 bn.2
        · have a' : AR E s f g q := a.same hP.1 (fun g _ => by show aFr os g = _; rw [fo]) hf
          have := a'.lt hP.1 hf
          rw [stS, if_neg (by omega), o3]
          exact hA g q a'
        · show 3 * (r + 1) + 3 ≤ 3 * aNf os + (2 * nPF E (uPs os f p 1) + nMk E (uPs os f p 1))
          omega
        · rw [stS, if_neg (by omega)]
          refine Decidable.byContradiction (fun z => ?_)
          exact uo f p q hfo (by rw [en]; exact bn.1) (by rw [eg]; exact bn.2) (by omega) (by rw [eg, en]; exact x2) z p0
      have fp30 := (cl_mk hT bn.1 bn.2).2.1
      obtain ⟨q2, e2, u2⟩ := ih false (r + 1) (t + 2) f (p + 1) (fE (fg E s f) (fn E s f) p) [] (uPs os f p 1) (by omega) preS okr_nil
      obtain ⟨r2, s2⟩ := q2
      have hBS : Bl (fg E (uPs os f p 1) f) (fn E (uPs os f p 1) f) (p + 1) (fE (fg E s f) (fn E s f) p) := preS.2.2.2.2.1
      obtain ⟨v1, v2, v3⟩ := runX_ch hE m _ _ _ _ _ _ _ _ _ _ e2 hPS hfo hBS okr_nil (fun z => absurd z Bool.false_ne_true)
      have hs2 : aPs s2 f p = 1 := by
        rw [v2.nz (g := f) (p := p) (by rw [stS, if_pos ⟨rfl, rfl⟩]; decide), stS, if_pos ⟨rfl, rfl⟩]
      have cp : ChZ (RZ E s f i (fE (fg E s f) (fn E s f) i)) os (uDn s2 f p r2) := by
        refine ChZ.part v2 p0 (fun g p' hg' z => z.same hP.1 (fun g _ => by show aFr os g = _; rw [fo]) hf (by omega) (by omega)) (Or.inl ⟨rfl, by omega, by omega⟩)
      have c3 : ChZ (RZ E s f i (fE (fg E s f) (fn E s f) i)) s (uDn s2 f p r2) := (ChZ.same (Z := RZ E s f i (fE (fg E s f) (fn E s f) i)) ⟨o1, o2, o3, o4, o5⟩).tr cp (fun _ _ _ z => z)
      have hP3 : PI E (uDn s2 f p r2) := v1.dn (Nat.lt_of_lt_of_le hfo v2.1) v3
      have u3 : UU E (uDn s2 f p r2) := UU.dn u2 (by rw [hs2]; decide)
      have fr := c3.2.1 f hf
      have eg3 : fg E (uDn s2 f p r2) f = fg E s f := by show eTx E (aFr _ f).1 = _; rw [fr]
      have en3 : fn E (uDn s2 f p r2) f = fn E s f := by show eTl E (aFr _ f).1 = _; rw [fr]
      have tc3 : Tc (uPs os f p 1) ≤ Tc (uDn s2 f p r2) := Nat.le_trans (Tc_ch v2) Tc_dn
      have tl3 := Tc_le (uDn s2 f p r2)
      have m1 := nPF_ch (E := E) c3
      have m2 := nMk_ch (E := E) c3
      have m3 := c3.1
      have pre3 : TPre E true r t f i to (uDn s2 f p r2) := by
        refine ⟨hP3, fun g q => ?_, u3, Nat.lt_of_lt_of_le hf c3.1, by rw [eg3, en3]; exact hB, by rw [eg3]; exact hD, hEI.ch c3 hf, fun g q a => ?_, by omega, fun z => absurd z.symm Bool.false_ne_true, fun _ => ⟨by omega, hi, by rw [eg3]; exact ek, by rw [c3.nz (by rw [h2]; decide)]; exact h2, fun q x1 x2 => ?_, fun q x1 x2 => ?_⟩⟩
        · rcases c3.2.2.1 g q with e | ⟨_, e⟩
          · rw [e]; exact hL g q
          · rw [e]; exact Nat.le_refl _
        · have z := hA g q (a.same hP.1 c3.2.1 hf)
          rcases c3.2.2.1 g q with e | ⟨_, e⟩
          · rw [e]; exact z
          · rw [e]; decide
        · rw [eg3, en3] at x2
          rcases c3.2.2.1 f q with e | ⟨_, e⟩
          · rw [e]; exact hpt q x1 x2
          · rw [e]; decide
        · rw [eg3, en3] at x1
          rw [c3.2.2.2.2.1 f q hf (fun z => ?_)]
          · exact hun q x1 x2
          · rcases z with z | z
            · omega
            · have := z.lt hP.1 hf; omega
      obtain ⟨q4, e4, u4⟩ := ih true r t f i to acc (uDn s2 f p r2) (by omega) pre3 oa
      refine ⟨q4, ?_, u4⟩
      rw [e2]
      exact e4
end TOT2
