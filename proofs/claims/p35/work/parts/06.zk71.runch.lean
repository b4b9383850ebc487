/-! EXPANDING, as a function: what a stretch changes -/
section RCH
variable {E : Env} {s s1 s2 s' : ASt} {f i to m : Nat} {acc acc' : List Int}
theorem PI.arg (h : PI E s) (hE : EnP E) (hf : f < aNf s) {x : Nat} (hx : (aFr s f).2.2.2.2.2 x ≠ -1) :
   0 ≤ (aFr s f).2.2.2.1 ∧ (aFr s f).2.2.2.1 < (f : Int) ∧ 0 ≤ (aFr s f).2.2.2.2.2 x ∧ ((aFr s f).2.2.2.2.2 x).toNat ∈ prs_ (fg E s (aFr s f).2.2.2.1.toNat) (fn E s (aFr s f).2.2.2.1.toNat) 30 ((aFr s f).2.2.2.2.1 + 1) ∧
   (aFr s f).2.2.2.2.1 < ((aFr s f).2.2.2.2.2 x).toNat ∧ ((aFr s f).2.2.2.2.2 x).toNat < fE (fg E s (aFr s f).2.2.2.1.toNat) (fn E s (aFr s f).2.2.2.1.toNat) (aFr s f).2.2.2.2.1 ∧
   mkB (fg E s (aFr s f).2.2.2.1.toNat ((aFr s f).2.2.2.2.2 x).toNat / 1000) = true ∧
   fE (fg E s (aFr s f).2.2.2.1.toNat) (fn E s (aFr s f).2.2.2.1.toNat) ((aFr s f).2.2.2.2.2 x).toNat ≤ fE (fg E s (aFr s f).2.2.2.1.toNat) (fn E s (aFr s f).2.2.2.1.toNat) (aFr s f).2.2.2.2.1 ∧
   ((aFr s f).2.2.2.2.2 x).toNat < fn E s (aFr s f).2.2.2.1.toNat := by
  rcases (h.1 f hf).2 with z | ⟨b1, b2, b3, b4, b5, b6, b7⟩
  · exact absurd (z.2 x) hx
  · obtain ⟨hT, hK⟩ := h.tx hE (f := (aFr s f).2.2.2.1.toNat) (by omega)
    rw [b5] at hx ⊢
    rcases agF_mem (g := fg E s (aFr s f).2.2.2.1.toNat) (l := prs_ (fg E s (aFr s f).2.2.2.1.toNat) (fn E s (aFr s f).2.2.2.1.toNat) 30 ((aFr s f).2.2.2.2.1 + 1)) (c := 0) (a := fun _ => -1) (x := x) with e | ⟨p, p1, p2⟩
    · exact absurd e hx
    · obtain ⟨q1, q2, q3, q4, q5⟩ := prs_sub hT b3 (by rw [b4]; rfl) p1
      have := prs_mem p1
      rw [p2, Int.toNat_natCast]
      exact ⟨b1, b2, by omega, p1, q1, q2, q3, q5, this.1⟩
def ChOk (E : Env) (m : Nat) : Prop := ∀ re r t f i to acc s acc' s', runX E m re r t f i to acc s = some (acc', s') → PI E s → f < aNf s → Bl (fg E s f) (fn E s f) i to → okr acc → (re = true → aPs s f i = 2) → PI E s' ∧ ChZ (RZ E s f i to) s s' ∧ okr acc'
theorem ch_on (ih : ChOk E m) (h : PI E s) (h1 : PI E s1) (c1 : ChZ (RZ E s f i to) s s1) (hf : f < aNf s) {i1 r t : Nat} (hi : i ≤ i1) (hB : Bl (fg E s f) (fn E s f) i1 to) {acc1 : List Int} (oa : okr acc1) (hx : runX E m false r t f i1 to acc1 s1 = some (acc', s')) :
   PI E s' ∧ ChZ (RZ E s f i to) s s' ∧ okr acc' := by
  have fr := c1.2.1 f hf
  have e1 : fg E s1 f = fg E s f := by show eTx E (aFr s1 f).1 = _; rw [fr]
  have e2 : fn E s1 f = fn E s f := by show eTl E (aFr s1 f).1 = _; rw [fr]
  obtain ⟨q1, q2, q3⟩ := ih _ _ _ _ _ _ _ _ _ _ hx h1 (Nat.lt_of_lt_of_le hf c1.1) (by rw [e1, e2]; exact hB) oa (fun z => absurd z Bool.false_ne_true)
  exact ⟨q1, c1.tr q2 (fun g p _ z => z.same h.1 c1.2.1 hf hi (Nat.le_refl _)), q3⟩
theorem bind_some {α β : Type} {x : Option α} {k : α → Option β} {y : β} (h : x.bind k = some y) : ∃ a, x = some a ∧ k a = some y := by
  cases x with
  | none => cases h
  | some a => exact ⟨a, rfl, h⟩
set_option maxHeartbeats 4000000 in
theorem runX_ch (hE : EnP E) : ∀ m, ChOk E m := by
  intro m
  induction m with
  | zero => intro re r t f i to acc s acc' s' hx; cases hx
  | succ m ih =>
    intro re r t f i to acc s acc' s' hx h hf hB oa hre
    rw [runX] at hx
    by_cases c0 : 510 ≤ r ∨ 3990 ≤ t
    · rw [if_pos c0] at hx; cases hx
    rw [if_neg c0] at hx
    by_cases c1 : to ≤ i
    · rw [if_pos c1] at hx
      injection hx with hx
      injection hx with e1 e2
      subst e1 e2
      exact ⟨h, ChZ.rf, oa⟩
    rw [if_neg c1] at hx
    have hi : i < to := by omega
    obtain ⟨hT, hK⟩ := h.tx hE hf
    have hin : i < fn E s f := by have := hB.2.1; omega
    have hok := hK i hin
    unfold okt at hok
    have gt := fE_gt (fg E s f) (fn E s f) i
    have Zi : RZ E s f i to f i := Or.inl ⟨rfl, Nat.le_refl _, hi⟩
    by_cases ho : opB (fg E s f i / 1000) = true
    · rw [if_pos ho] at hx
      have hlt := hB.2.2 i (Nat.le_refl _) hi ho
      have hBo := hB.over hi ho
      have hBs := Bl.sub hT hin ho
      by_cases u1 : re = false ∧ unt s f i (fE (fg E s f) (fn E s f) i) = false
      · rw [if_pos u1] at hx; cases hx
      rw [if_neg u1] at hx
      by_cases u2 : re = false ∧ fg E s f i / 1000 = 4 ∧ 690 ≤ nFu E s
      · rw [if_pos u2] at hx; cases hx
      rw [if_neg u2] at hx
      by_cases u3 : re = true ∧ ¬ fg E s f i / 1000 = 4
      · rw [if_pos u3] at hx; cases hx
      rw [if_neg u3] at hx
      have h0 : aPs s f i = 0 ∨ aPs s f i = 2 := by
        cases re with
        | true => exact Or.inr (hre rfl)
        | false => exact Or.inl (unt_0 (f := f) (c := fE (fg E s f) (fn E s f) i) (eq_true_of_ne_false (fun z => u1 ⟨rfl, z⟩)) gt)
      have ht : PI E (uPs s f i 2) := h.touch hf (by decide)
      have ct : ChZ (RZ E s f i to) s (uPs s f i 2) := ChZ.touch h0 Zi
      have content : ∀ {r1 t1 : Nat}, ((runX E m false r1 t1 f (i + 1) (fE (fg E s f) (fn E s f) i) acc (uPs s f i 2)).bind fun q => runX E m false r t f (fE (fg E s f) (fn E s f) i + 1) to q.1 q.2) = some (acc', s') → PI E s' ∧ ChZ (RZ E s f i to) s s' ∧ okr acc' := by
        intro r1 t1 hx
        obtain ⟨⟨a2, s2⟩, q1, q2⟩ := bind_some hx
        obtain ⟨p1, p2, p3⟩ := ih _ _ _ _ _ _ _ _ _ _ q1 ht hf hBs oa (fun z => absurd z Bool.false_ne_true)
        have c2 : ChZ (RZ E s f i to) s s2 := ct.tr p2 (fun g p _ z => RZ.same (s' := uPs s f i 2) h.1 (fun _ _ => rfl) hf (Nat.le_succ i) (Nat.le_of_lt hlt) z)
        exact ch_on ih h p1 c2 hf (by omega) hBo p3 q2
      by_cases k1 : fg E s f i / 1000 = 10 ∨ (fg E s f i / 1000 = 8 ∧ 0 < (aFr s f).2.2.1) ∨ (fg E s f i / 1000 = 9 ∧ (aFr s f).2.2.1 = 0)
      · rw [if_pos k1] at hx
        exact content hx
      rw [if_neg k1] at hx
      by_cases k2 : fg E s f i / 1000 = 2
      · rw [if_pos k2] at hx
        have hre0 : re = false := by
          cases re with
          | false => rfl
          | true => exact absurd ⟨rfl, by omega⟩ u3
        have h00 : aPs s f i = 0 := unt_0 (f := f) (c := fE (fg E s f) (fn E s f) i) (eq_true_of_ne_false (fun z => u1 ⟨hre0, z⟩)) gt
        have hv : (fg E s f i % 1000).toNat < 24 := by omega
        by_cases c40 : 40 ≤ aCa s
        · rw [if_pos c40] at hx
          exact ch_on ih h ht ct hf (by omega) hBo (apl_ok oa (by decide) (by decide)) hx
        rw [if_neg c40] at hx
        have hc : PI E (uCa (uPs s f i 2)) := ht.ca (by show aCa s < 40; omega)
        have cc : ChZ (RZ E s f i to) s (uCa (uPs s f i 2)) := ct.tr (ChZ.ca (Z := fun _ _ => False)) (fun _ _ _ z => z.elim)
        have cs : ∀ {l c d u q : Nat}, ChZ (RZ E s f i to) s (uSe (uCa (uPs s f i 2)) l c d u q) := cc.tr (ChZ.se (Z := fun _ _ => False)) (fun _ _ _ z => z.elim)
        by_cases cw : (wayF E 5 (fg E s f i % 1000).toNat 0).1 = -1
        · rw [if_pos cw] at hx
          exact ch_on ih h hc.se cs hf (by omega) hBo (apl_ok oa (by omega) (by omega)) hx
        rw [if_neg cw] at hx
        by_cases cm : cmF s 41 f (wayF E 5 (fg E s f i % 1000).toNat 0).1 = true
        · rw [if_pos cm] at hx
          exact ch_on ih h hc.se cs hf (by omega) hBo (apl_ok oa (by decide) (by decide)) hx
        rw [if_neg cm] at hx
        by_cases c6 : 6 ≤ (aFr s f).2.2.1
        · rw [if_pos c6] at hx
          exact ch_on ih h hc.se cs hf (by omega) hBo (apl_ok oa (by decide) (by decide)) hx
        rw [if_neg c6] at hx
        obtain ⟨⟨a2, s2⟩, q1, q2⟩ := bind_some hx
        have hw := (wayF_lt E 5 (fg E s f i % 1000).toNat 0 (by decide) hv (fun t t1 t2 t3 => by
          have z := hE.1 t t1 t2
          have y := z.2.2 0 (by have := z.2.1.1.1; omega)
          unfold okt at y
          omega)).2.resolve_left cw
        have hS : PI E (uFr (uSe (uCa (uPs s f i 2)) 0 0 (wayF E 5 (fg E s f i % 1000).toNat 0).2 0 0) ((eSn E (wayF E 5 (fg E s f i % 1000).toNat 0).1.toNat).toNat, (wayF E 5 (fg E s f i % 1000).toNat 0).1.toNat, (aFr s f).2.2.1 + 1, (f : Int), i, agF (fg E s f) (prs_ (fg E s f) (fn E s f) 30 (i + 1)) 0 (fun _ => -1))) := by
          refine PI.fr (s := uSe (uCa (uPs s f i 2)) 0 0 (wayF E 5 (fg E s f i % 1000).toNat 0).2 0 0) hc.se ?_ ⟨_, by omega, hw.2.2, rfl⟩ (by omega) (by omega) hf hin k2 ?_ (fun f' hf' y1 y2 => ?_)
          · show aNf s ≤ aCa s + 1
            exact h.2.1.2
          · show (if f = f ∧ i = i then 2 else aPs s f i) ≠ 0
            rw [if_pos ⟨rfl, rfl⟩]; decide
          · rcases (h.1 f' hf').2 with z | ⟨b1, b2, b3, b4, b5, b6, b7⟩
            · have y1' : (aFr s f').2.2.2.1 = (f : Int) := y1
              have := z.1
              omega
            · have y1' : (aFr s f').2.2.2.1 = (f : Int) := y1
              have y2' : (aFr s f').2.2.2.2.1 = i := y2
              rw [y1', y2', Int.toNat_natCast] at b6
              exact b6 h00
        obtain ⟨p1, p2, p3⟩ := ih _ _ _ _ _ _ _ _ _ _ q1 hS (Nat.lt_succ_self _) (by
          have e1 : aFr (uFr (uSe (uCa (uPs s f i 2)) 0 0 (wayF E 5 (fg E s f i % 1000).toNat 0).2 0 0) ((eSn E (wayF E 5 (fg E s f i % 1000).toNat 0).1.toNat).toNat, (wayF E 5 (fg E s f i % 1000).toNat 0).1.toNat, (aFr s f).2.2.1 + 1, (f : Int), i, agF (fg E s f) (prs_ (fg E s f) (fn E s f) 30 (i + 1)) 0 (fun _ => -1))) (aNf s) = ((eSn E (wayF E 5 (fg E s f i % 1000).toNat 0).1.toNat).toNat, (wayF E 5 (fg E s f i % 1000).toNat 0).1.toNat, (aFr s f).2.2.1 + 1, (f : Int), i, agF (fg E s f) (prs_ (fg E s f) (fn E s f) 30 (i + 1)) 0 (fun _ => -1)) := if_pos rfl
          show Bl (eTx E (aFr _ (aNf s)).1) (eTl E (aFr _ (aNf s)).1) 0 _
          rw [e1]
          exact Bl.whole (hE.1 _ (by omega) hw.2.2).2.1) oa (fun z => absurd z Bool.false_ne_true)
        have cF : ChZ (RZ E s f i to) s (uFr (uSe (uCa (uPs s f i 2)) 0 0 (wayF E 5 (fg E s f i % 1000).toNat 0).2 0 0) ((eSn E (wayF E 5 (fg E s f i % 1000).toNat 0).1.toNat).toNat, (wayF E 5 (fg E s f i % 1000).toNat 0).1.toNat, (aFr s f).2.2.1 + 1, (f : Int), i, agF (fg E s f) (prs_ (fg E s f) (fn E s f) 30 (i + 1)) 0 (fun _ => -1))) := cs.tr (ChZ.fr (Z := fun _ _ => False)) (fun _ _ _ z => z.elim)
        have c2 : ChZ (RZ E s f i to) s s2 := by
          refine cF.tr p2 (fun g p hg z => ?_)
          rcases z with z | ⟨n, z⟩
          · have := z.1
            have : g = aNf s := z.1
            omega
          · have nw : aFr (uFr (uSe (uCa (uPs s f i 2)) 0 0 (wayF E 5 (fg E s f i % 1000).toNat 0).2 0 0) ((eSn E (wayF E 5 (fg E s f i % 1000).toNat 0).1.toNat).toNat, (wayF E 5 (fg E s f i % 1000).toNat 0).1.toNat, (aFr s f).2.2.1 + 1, (f : Int), i, agF (fg E s f) (prs_ (fg E s f) (fn E s f) 30 (i + 1)) 0 (fun _ => -1))) (aNf s) = ((eSn E (wayF E 5 (fg E s f i % 1000).toNat 0).1.toNat).toNat, (wayF E 5 (fg E s f i % 1000).toNat 0).1.toNat, (aFr s f).2.2.1 + 1, (f : Int), i, agF (fg E s f) (prs_ (fg E s f) (fn E s f) 30 (i + 1)) 0 (fun _ => -1)) := if_pos rfl
            have fo := cF.2.1 f hf
            have z' : arN E (uFr (uSe (uCa (uPs s f i 2)) 0 0 (wayF E 5 (fg E s f i % 1000).toNat 0).2 0 0) ((eSn E (wayF E 5 (fg E s f i % 1000).toNat 0).1.toNat).toNat, (wayF E 5 (fg E s f i % 1000).toNat 0).1.toNat, (aFr s f).2.2.1 + 1, (f : Int), i, agF (fg E s f) (prs_ (fg E s f) (fn E s f) 30 (i + 1)) 0 (fun _ => -1))) n (aNf s) g p := z
            have cF' := cF.2.1
            generalize uFr (uSe (uCa (uPs s f i 2)) 0 0 (wayF E 5 (fg E s f i % 1000).toNat 0).2 0 0) ((eSn E (wayF E 5 (fg E s f i % 1000).toNat 0).1.toNat).toNat, (wayF E 5 (fg E s f i % 1000).toNat 0).1.toNat, (aFr s f).2.2.1 + 1, (f : Int), i, agF (fg E s f) (prs_ (fg E s f) (fn E s f) 30 (i + 1)) 0 (fun _ => -1)) = S at *
            cases n with
            | zero =>
              obtain ⟨z1, z2, z3, z4⟩ := z'
              rw [nw] at z2 z3 z4
              have e1 : fg E S ((f : Int)).toNat = fg E s f := by rw [Int.toNat_natCast]; show eTx E (aFr S f).1 = _; rw [fo]
              have e2 : fn E S ((f : Int)).toNat = fn E s f := by rw [Int.toNat_natCast]; show eTl E (aFr S f).1 = _; rw [fo]
              have z4' : p < fE (fg E S ((f : Int)).toNat) (fn E S ((f : Int)).toNat) i := z4
              rw [e1, e2] at z4'
              have z2' : g = ((f : Int)).toNat := z2
              have z3' : i < p := z3
              exact Or.inl ⟨by omega, by omega, by omega⟩
            | succ n =>
              obtain ⟨z1, z2⟩ := z'
              rw [nw] at z2
              have z2' : arN E S n ((f : Int)).toNat g p := z2
              rw [Int.toNat_natCast] at z2'
              exact Or.inr ⟨n, arN_same h.1 cF' n f g p hf z2'⟩
        exact ch_on ih h p1 c2 hf (by omega) hBo p3 q2
      rw [if_neg k2] at hx
      by_cases k3 : fg E s f i / 1000 = 3
      · rw [if_pos k3] at hx
        by_cases ca : (aFr s f).2.2.2.2.2 (fg E s f i % 1000).toNat = -1 ∨ (aFr s f).2.2.2.1 = -1
        · rw [if_pos ca] at hx
          exact content hx
        rw [if_neg ca] at hx
        obtain ⟨a1, a2, a3, a4, a5, a6, a7, a8, a9⟩ := h.arg hE hf (fun z => ca (Or.inl z))
        by_cases p2 : aPs s (aFr s f).2.2.2.1.toNat ((aFr s f).2.2.2.2.2 (fg E s f i % 1000).toNat).toNat = 2
        · rw [if_pos p2] at hx
          exact ch_on ih h ht ct hf (by omega) hBo (aal_ok oa (h.2.2.1 _ _).2) hx
        rw [if_neg p2] at hx
        by_cases p0 : aPs s (aFr s f).2.2.2.1.toNat ((aFr s f).2.2.2.2.2 (fg E s f i % 1000).toNat).toNat = 0
        · rw [if_pos p0] at hx
          obtain ⟨⟨r2, s2⟩, q1, q2⟩ := bind_some hx
          have hcf : (aFr s f).2.2.2.1.toNat < aNf s := by omega
          obtain ⟨hTc, hKc⟩ := h.tx hE hcf
          have hne : ¬ ((aFr s f).2.2.2.1.toNat = f ∧ ((aFr s f).2.2.2.2.2 (fg E s f i % 1000).toNat).toNat = i) := fun z => by have := z.1; omega
          have p0' : aPs (uPs s f i 2) (aFr s f).2.2.2.1.toNat ((aFr s f).2.2.2.2.2 (fg E s f i % 1000).toNat).toNat = 0 := by
            show (if _ then _ else _) = 0
            rw [if_neg hne]; exact p0
          have hS : PI E (uPs (uPs s f i 2) (aFr s f).2.2.2.1.toNat ((aFr s f).2.2.2.2.2 (fg E s f i % 1000).toNat).toNat 1) := ht.touch hcf (by decide)
          obtain ⟨w1, w2, w3⟩ := ih _ _ _ _ _ _ _ _ _ _ q1 hS hcf (Bl.part hTc a9 a7) okr_nil (fun z => absurd z Bool.false_ne_true)
          have zq : RZ E s f i to (aFr s f).2.2.2.1.toNat ((aFr s f).2.2.2.2.2 (fg E s f i % 1000).toNat).toNat := Or.inr ⟨0, by omega, rfl, a5, a6⟩
          have cp : ChZ (RZ E s f i to) (uPs s f i 2) (uDn s2 (aFr s f).2.2.2.1.toNat ((aFr s f).2.2.2.2.2 (fg E s f i % 1000).toNat).toNat r2) := by
            refine ChZ.part w2 p0' (fun g p hg z => ?_) zq
            rcases z with ⟨z1, z2, z3⟩ | z
            · refine Or.inr ⟨0, by omega, z1, by omega, ?_⟩
              have z3' : p < fE (fg E s (aFr s f).2.2.2.1.toNat) (fn E s (aFr s f).2.2.2.1.toNat) ((aFr s f).2.2.2.2.2 (fg E s f i % 1000).toNat).toNat := z3
              omega
            · obtain ⟨n, z⟩ := AR.same (s := s) (s' := uPs (uPs s f i 2) (aFr s f).2.2.2.1.toNat ((aFr s f).2.2.2.2.2 (fg E s f i % 1000).toNat).toNat 1) h.1 (fun _ _ => rfl) hcf z
              exact Or.inr ⟨n + 1, by omega, z⟩
          have c2 := ct.tr cp (fun _ _ _ z => z)
          have hcf2 : (aFr s f).2.2.2.1.toNat < aNf s2 := Nat.lt_of_lt_of_le hcf w2.1
          exact ch_on ih h (w1.dn hcf2 w3) c2 hf (by omega) hBo (aal_ok oa w3.2) q2
        · rw [if_neg p0] at hx; cases hx
      rw [if_neg k3] at hx
      by_cases k4 : fg E s f i / 1000 = 4
      · rw [if_pos k4] at hx
        cases hg : gv E (uPs s f i 2) f (prs_ (fg E s f) (fn E s f) 30 (i + 1)) (fg E s f i % 1000) acc with
        | none => rw [hg] at hx; cases hx
        | some o =>
          rw [hg] at hx
          have hsm := gv_same hg
          have hgo := gv_out ht.2.2.1 oa hE.2.2 hg
          obtain ⟨oj, oacc, os⟩ := o
          have hs1 : PI E os := ht.same hsm
          have cs1 : ChZ (RZ E s f i to) s os := ct.tr (ChZ.same (Z := fun _ _ => False) hsm) (fun _ _ _ z => z.elim)
          cases oj with
          | zero =>
            rcases hgo with ⟨_, y⟩ | ⟨j, y, _⟩
            · exact ch_on ih h hs1 cs1 hf (by omega) hBo y hx
            · exact absurd y (Nat.succ_ne_zero j).symm
          | succ j =>
            rcases hgo with ⟨y, _⟩ | ⟨j', y1, y2, y3⟩
            · exact absurd y (Nat.succ_ne_zero j)
            · have ej : j' = j := by have : j + 1 = j' + 1 := y1; omega
              subst ej
              obtain ⟨⟨r2, s2⟩, q1, q2⟩ := bind_some hx
              have hmem := getDn_mem y2
              obtain ⟨b1, b2, b3, b4, b5⟩ := prs_sub hT hin ho hmem
              have bn := prs_mem hmem
              obtain ⟨o1, o2, o3, o4, o5⟩ := hsm
              have hfo : f < aNf os := by show f < os.1; rw [o1]; exact hf
              have p0 : aPs os f ((prs_ (fg E s f) (fn E s f) 30 (i + 1)).getD j' 0) = 0 := by rw [o3]; exact y3
              have fo : aFr os = aFr s := o2
              have hS := hs1.touch (i := (prs_ (fg E s f) (fn E s f) 30 (i + 1)).getD j' 0) hfo (show (1 : Nat) ≠ 0 by decide)
              have eg : fg E (uPs os f ((prs_ (fg E s f) (fn E s f) 30 (i + 1)).getD j' 0) 1) f = fg E s f := by show eTx E (aFr os f).1 = _; rw [fo]
              have en : fn E (uPs os f ((prs_ (fg E s f) (fn E s f) 30 (i + 1)).getD j' 0) 1) f = fn E s f := by show eTl E (aFr os f).1 = _; rw [fo]
              obtain ⟨w1, w2, w3⟩ := ih _ _ _ _ _ _ _ _ _ _ q1 hS hfo (by rw [eg, en]; exact Bl.part hT bn.1 bn.2) okr_nil (fun z => absurd z Bool.false_ne_true)
              have cp : ChZ (RZ E s f i to) os (uDn s2 f ((prs_ (fg E s f) (fn E s f) 30 (i + 1)).getD j' 0) r2) := by
                refine ChZ.part w2 p0 (fun g p hg' z => z.same h.1 (fun g _ => by show aFr os g = _; rw [fo]) hf (by omega) (by omega)) (Or.inl ⟨rfl, by omega, by omega⟩)
              have c2 : ChZ (RZ E s f i to) s (uDn s2 f ((prs_ (fg E s f) (fn E s f) 30 (i + 1)).getD j' 0) r2) := cs1.tr cp (fun _ _ _ z => z)
              have hi2 : aPs os f i = 2 := by rw [o3]; show (if f = f ∧ i = i then 2 else aPs s f i) = 2; exact if_pos ⟨rfl, rfl⟩
              have hp2 := w1.dn (Nat.lt_of_lt_of_le hfo w2.1) (i := (prs_ (fg E s f) (fn E s f) 30 (i + 1)).getD j' 0) w3
              have hre2 := cp.nz (g := f) (p := i) (by rw [hi2]; decide)
              have fr := c2.2.1 f hf
              have e1 : fg E (uDn s2 f ((prs_ (fg E s f) (fn E s f) 30 (i + 1)).getD j' 0) r2) f = fg E s f := by show eTx E (aFr _ f).1 = _; rw [fr]
              have e2 : fn E (uDn s2 f ((prs_ (fg E s f) (fn E s f) 30 (i + 1)).getD j' 0) r2) f = fn E s f := by show eTl E (aFr _ f).1 = _; rw [fr]
              obtain ⟨v1, v2, v3⟩ := ih _ _ _ _ _ _ _ _ _ _ q2 hp2 (Nat.lt_of_lt_of_le hf c2.1) (by rw [e1, e2]; exact hB) oa (fun _ => hre2.trans hi2)
              exact ⟨v1, c2.tr v2 (fun g p _ z => z.same h.1 c2.2.1 hf (Nat.le_refl _) (Nat.le_refl _)), v3⟩
      rw [if_neg k4] at hx
      exact ch_on ih h ht ct hf (by omega) hBo oa hx
    · rw [if_neg ho] at hx
      have hBs := hB.step hi
      by_cases k0 : fg E s f i / 1000 = 0
      · rw [if_pos k0] at hx
        exact ch_on ih h h ChZ.rf hf (by omega) hBs (apl_ok oa (by omega) (by omega)) hx
      rw [if_neg k0] at hx
      by_cases k1 : fg E s f i / 1000 = 1 ∨ fg E s f i / 1000 = 12
      · rw [if_pos k1] at hx
        exact ch_on ih h h.se ChZ.se hf (by omega) hBs (apl_ok oa (by omega) (by omega)) hx
      rw [if_neg k1] at hx
      by_cases k11 : fg E s f i / 1000 = 11
      · rw [if_pos k11] at hx
        exact ch_on ih h h.se ChZ.se hf (by omega) hBs oa hx
      rw [if_neg k11] at hx
      exact ch_on ih h h ChZ.rf hf (by omega) hBs oa hx
end RCH
