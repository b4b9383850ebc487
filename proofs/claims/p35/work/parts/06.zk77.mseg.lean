/-! THE REFERENCE GOES OVER A STRETCH AS THE EVALUATOR SAYS -/
section MSG
variable {E : Env} {s s1 s' : ASt} {M M1 M' : Md} {rn fu rn1 fu1 D row f i i1 to F r t m n1 N k : Nat} {acc acc1 acc' : List Int}
/-- a stretch has been gone over -/
def PostM (E : Env) (M : Md) (s s' : ASt) (D row F rn fu : Nat) (acc' : List Int) (N : Nat) : Prop := ∃ n M' rn' fu', MSts n M M' ∧ MS M' E s' rn' fu' ∧ RowM M' row acc' ∧ M'.1 59 = (D : Int) ∧ KeepM M M' s s' D row F rn ∧ rn ≤ rn' ∧ fu ≤ fu' ∧ n + 64 * Tc s ≤ N + 64 * Tc s'
def SegM (E : Env) (m : Nat) : Prop := ∀ re r t f i to acc s acc' s', runX E m re r t f i to acc s = some (acc', s') → PI E s → f < aNf s → Bl (fg E s f) (fn E s f) i to → (re = true → aPs s f i = 2 ∧ i < to ∧ fg E s f i / 1000 = 4) → ∀ (M : Md) (D row rn fu : Nat), MS M E s rn fu → CuM M s row rn → RowM M row acc → D ≤ t →
  (re = false → TkM M D 0 (f : Int) (i : Int) (to : Int) (row : Int) → M.1 59 = (D : Int) + 1 → PostM E M s s' D row fu rn fu acc' ((to - i) + 1)) ∧
  (re = true → ∀ k, k < fu → TkM M D 0 (f : Int) ((fE (fg E s f) (fn E s f) i + 1 : Nat) : Int) (to : Int) (row : Int) → TkM M (D + 1) 2 (k : Int) 0 0 (row : Int) → M.1 59 = (D : Int) + 1 + 1 → FnK M E k s f (prs_ (fg E s f) (fn E s f) 30 (i + 1)) row rn (fg E s f i % 1000) → PostM E M s s' D row k rn fu acc' ((to - i) + 1))
theorem mseg_on (ih : SegM E m) (h1 : PI E s1) (hf1 : f < aNf s1) (hB : Bl (fg E s1 f) (fn E s1 f) i1 to) (st : MSts n1 M M1) (ms : MS M1 E s1 rn1 fu1) (cm : CuM M1 s1 row rn1) (rm : RowM M1 row acc1) (hD : D ≤ t) (tk : TkM M1 D 0 (f : Int) (i1 : Int) (to : Int) (row : Int)) (h59 : M1.1 59 = (D : Int) + 1)
   (kp : KeepM M M1 s s1 D row F rn) (e1 : rn ≤ rn1) (e2 : fu ≤ fu1) (e3 : F ≤ fu1) (hn : aNf s ≤ aNf s1) (cost : n1 + 64 * Tc s + ((to - i1) + 1) ≤ N + 64 * Tc s1) (hx : runX E m false r t f i1 to acc1 s1 = some (acc', s')) : PostM E M s s' D row F rn fu acc' N := by
  obtain ⟨n, M2, rn2, fu2, a1, a2, a3, a4, a5, a6, a7, a8⟩ := (ih _ _ _ _ _ _ _ _ _ _ hx h1 hf1 hB (fun z => absurd z Bool.false_ne_true) M1 D row rn1 fu1 ms cm rm hD).1 rfl tk h59
  exact ⟨n1 + n, M2, rn2, fu2, st.app a1, a2, a3, a4, kp.tr a5 (Nat.le_refl _) e3 e1 (fun _ _ z => z) hn, by omega, by omega, by omega⟩
/-- a token is taken -/
theorem mt_base (hE : EnP E) (hP : PI E s) (ms : MS M E s rn fu) (cm : CuM M s row rn) (rm : RowM M row acc) (hf : f < aNf s) (hi : i < to) (hto : to ≤ fn E s f) (hD : D < 4000) (tk : TkM M D 0 (f : Int) (i : Int) (to : Int) (row : Int)) (h59 : M.1 59 = (D : Int) + 1) :
   ∃ M1, MS M1 E s rn fu ∧ CuM M1 s row rn ∧ RowM M1 row acc ∧ KeepM M M1 s s D row fu rn ∧ M1.1 59 = (D : Int) + 1 ∧ TkM M1 D 0 (f : Int) (((if opB (fg E s f i / 1000) = true then fE (fg E s f) (fn E s f) i + 1 else i + 1 : Nat)) : Int) (to : Int) (row : Int) ∧
     ∀ M2, tokR (f : Int) (i : Int) (row : Int) (fg E s f i / 1000) (fg E s f i % 1000) (((if opB (fg E s f i / 1000) = true then fE (fg E s f) (fn E s f) i else i : Nat)) : Int) M1 = some ((), M2) → MStp M M2 := by
  have hT := (hP.tx hE hf).1
  obtain ⟨M1, o1, e59, eI, eR, tk1, stp⟩ := mtok (ms.fr hf) hT tk h59 hD hi hto
  obtain ⟨a1, a2, a3⟩ := ms.move (F := fu) cm o1 KyS.rf (ms.2.2.1.keep (fun j _ _ => eI j (by omega))) (by rw [eI 65 (by decide)]; exact ms.2.1.2.1) (by rw [eI 71 (by decide)]; exact ms.2.1.2.2) (Nat.le_refl _) (Nat.le_refl _)
  exact ⟨M1, a1, a2, rm.t eR, a3, e59, tk1, fun M2 h2 => stp M2 ((tok_eq (a1.fr hf) hT (by omega)).trans h2)⟩
theorem nodup_getD {l : List Nat} (h : l.Nodup) {a b : Nat} (ha : a < l.length) (hb : b < l.length) (e : l.getD a 0 = l.getD b 0) : a = b := by
  rw [List.getD_eq_getElem?_getD, List.getD_eq_getElem?_getD, List.getElem?_eq_getElem ha, List.getElem?_eq_getElem hb] at e
  have e' : l[a] = l[b] := e
  have q := List.pairwise_iff_getElem.mp h
  rcases Nat.lt_trichotomy a b with z | z | z
  · exact absurd e' (q a b ha hb z)
  · exact z
  · exact absurd e'.symm (q b a hb ha z)
theorem uPs_self (h : aPs s f i = 2) : uPs s f i 2 = s := by
  obtain ⟨a, b, c, d⟩ := s
  have e : (fun f' p' => if f' = f ∧ p' = i then 2 else c f' p') = c := by
    funext f' p'
    by_cases z : f' = f ∧ p' = i
    · rw [if_pos z, z.1, z.2]; exact h.symm
    · rw [if_neg z]
  show (a, b, (fun f' p' => if f' = f ∧ p' = i then 2 else c f' p'), d) = (a, b, c, d)
  rw [e]
/-- a part's row, behind its stretch -/
theorem mgive_step {D : Nat} (tk : TkM M D 2 (k : Int) 0 0 (row : Int)) (h59 : M.1 59 = (D : Int) + 1) (hD : D < 4000) {M2 : Md} (h : fX12_give (k : Int) (mSet M 59 (D : Int)) = some ((), M2)) : MStp M M2 := by
  intro L
  rw [mtask tk h59 hD]
  unfold mRest
  rw [bnd_eq, if_pos (by decide), if_neg (fun z => z (by decide)), cal_of h]
theorem mapp_step {D d : Nat} (tk : TkM M D 1 (d : Int) 0 0 (row : Int)) (h59 : M.1 59 = (D : Int) + 1) (hD : D < 4000) {M2 : Md} (h : fX12_appendRow (row : Int) (d : Int) (mSet M 59 (D : Int)) = some ((), M2)) : MStp M M2 := by
  intro L
  rw [mtask tk h59 hD]
  unfold mRest
  rw [bnd_eq, if_neg (fun z => z (by decide)), cal_of h]
set_option maxHeartbeats 2000000 in
/-- a FUNC that waits, at its state st -/
theorem mseg_func (ih : SegM E m) (hE : EnP E) (hP : PI E s) (hf : f < aNf s) (hB : Bl (fg E s f) (fn E s f) i to) (hi : i < to) (ek : fg E s f i / 1000 = 4) (h2 : aPs s f i = 2) (ms : MS M E s rn fu) (cm : CuM M s row rn) (rm : RowM M row acc) (hD : D ≤ t) (ht : t < 3990) (hk : k < fu)
   (tk : TkM M D 0 (f : Int) ((fE (fg E s f) (fn E s f) i + 1 : Nat) : Int) (to : Int) (row : Int)) (tk2 : TkM M (D + 1) 2 (k : Int) 0 0 (row : Int)) (h59 : M.1 59 = (D : Int) + 1 + 1) (hF : FnK M E k s f (prs_ (fg E s f) (fn E s f) 30 (i + 1)) row rn (fg E s f i % 1000))
   (hx : (match gv E s f (prs_ (fg E s f) (fn E s f) 30 (i + 1)) (fg E s f i % 1000) acc with
        | none => none
        | some (0, acc', s') => runX E m false r t f (fE (fg E s f) (fn E s f) i + 1) to acc' s'
        | some (j + 1, _, s') =>
          (runX E m false (r + 1) (t + 2) f ((prs_ (fg E s f) (fn E s f) 30 (i + 1)).getD j 0 + 1) (fE (fg E s f) (fn E s f) ((prs_ (fg E s f) (fn E s f) 30 (i + 1)).getD j 0)) [] (uPs s' f ((prs_ (fg E s f) (fn E s f) 30 (i + 1)).getD j 0) 1)).bind
            fun q => runX E m true r t f i to acc (uDn q.2 f ((prs_ (fg E s f) (fn E s f) 30 (i + 1)).getD j 0) q.1)) = some (acc', s')) :
   PostM E M s s' D row k rn fu acc' ((to - fE (fg E s f) (fn E s f) i) + 1) := by
  have ho : opB (fg E s f i / 1000) = true := by rw [ek]; rfl
  have hlt := hB.2.2 i (Nat.le_refl _) hi ho
  have hBo := hB.over hi ho
  have gt := fE_gt (fg E s f) (fn E s f) i
  obtain ⟨hT, hK⟩ := hP.tx hE hf
  have hin : i < fn E s f := by have := hB.2.1; omega
  have hok := hK i hin
  unfold okt at hok
  have h41 := hP.n41
  have n30 := (ms.fr hf).2.2.2.1
  obtain ⟨f1, f2, f3, f4⟩ := hF
  -- the task is taken
  have oS : PlO row (D + 1) M (mSet M 59 ((D + 1 : Nat) : Int)) := PlO.set (Or.inl rfl)
  obtain ⟨a1, a2, a3⟩ := ms.move (F := k) cm oS KyS.rf (ms.2.2.1.keep (fun j _ _ => mS2 _ _ (by omega))) ((mS2 _ _ (by decide)).trans ms.2.1.2.1) (by rw [mS2 _ _ (by decide)]; exact ms.2.1.2.2) (Nat.le_refl _) (Nat.le_refl _)
  have rm1 : RowM (mSet M 59 ((D + 1 : Nat) : Int)) row acc := rm
  have f1' : FnS (mSet M 59 ((D + 1 : Nat) : Int)) k s f (prs_ (fg E s f) (fn E s f) 30 (i + 1)) := f1.st (fun _ _ => rfl) (mS2 _ _ (by decide))
  have f2' : FnH (mSet M 59 ((D + 1 : Nat) : Int)) k f row (fg E s f i % 1000) := f2
  cases hg : gv E s f (prs_ (fg E s f) (fn E s f) 30 (i + 1)) (fg E s f i % 1000) acc with
  | none => rw [hg] at hx; cases hx
  | some o =>
    rw [hg] at hx
    have hsm := gv_same hg
    have hgo := gv_out hP.2.2.1 rm.2.2.1 hE.2.2 hg
    obtain ⟨M2, g1, g2, g3, g4⟩ := X12_give_J f1' f2' (fun j hj => (f3 j hj).1) cm.2.1 rm1 a1.2.2.1 a1.1 hE ⟨by omega, by omega⟩ hg
    have h59' : M.1 59 = ((D + 1 : Nat) : Int) + 1 := by rw [h59]; omega
    obtain ⟨oj, oacc, os⟩ := o
    have hPo : PI E os := hP.same hsm
    have oG : PlO row (D + 1) (mSet M 59 ((D + 1 : Nat) : Int)) M2 := g2.pl
    have h65 : M2.1 65 = (aCa os : Int) := by
      rw [g2.1 65 (by decide), show aCa os = aCa s from hsm.2.2.2.2]
      exact (mS2 _ _ (by decide)).trans ms.2.1.2.1
    have e59 : M2.1 59 = (D : Int) + 1 := by rw [g2.1 59 (by decide), mS1]; omega
    have nTc : Tc os = Tc s := by
      show cnt _ _ = cnt _ _
      rw [hsm.2.2.1]
    have nNu : nFu E s ≤ nFu E os := nFu_ch (ChZ.same (Z := fun _ _ => True) hsm)
    have fo : aFr os = aFr s := hsm.2.1
    have nfo : aNf os = aNf s := hsm.1
    have eg : fg E os f = fg E s f := by show eTx E (aFr os f).1 = _; rw [fo]
    have en : fn E os f = fn E s f := by show eTl E (aFr os f).1 = _; rw [fo]
    cases oj with
    | zero =>
      rcases g4 with ⟨_, y1, y2⟩ | y
      · obtain ⟨b1, b2, b3⟩ := a1.move (F := k) a2 oG (KyS.same hsm) g3 h65 (Or.inl y2) (Nat.le_of_eq nTc.symm) nNu
        have stp : MStp M M2 := mgive_step tk2 h59' (by omega) (g1.trans (giveT_done y2))
        have kp : KeepM M M2 s os D row k rn := (a3.tr b3 (Nat.le_refl _) (Nat.le_refl _) (Nat.le_refl _) (fun _ _ z => z) (Nat.le_refl _)).tr (PlO.rf.keep b1.2.2.2.2.2.2 KyS.rf) (Nat.le_refl _) (Nat.le_refl _) (Nat.le_refl _) (fun _ _ z => z) (Nat.le_of_eq nfo.symm) |> fun z => ⟨z.1, fun q i a b c => z.2.1 q i a b (by omega), z.2.2⟩
        refine mseg_on ih hPo (by rw [nfo]; exact hf) (by rw [eg, en]; exact hBo) (MSts.one stp) b1 b2 y1 hD ((a3.tr b3 (Nat.le_refl _) (Nat.le_refl _) (Nat.le_refl _) (fun _ _ z => z) (Nat.le_refl _)).tk tk (Nat.lt_succ_self D)) e59 kp (Nat.le_refl _) (Nat.le_refl _) (Nat.le_of_lt hk) (Nat.le_of_eq nfo.symm) (by rw [nTc]; omega) hx
      · exact absurd rfl y.1
    | succ j =>
      rcases hgo with ⟨y, _⟩ | ⟨j', y1, y2, y3⟩
      · exact absurd y (Nat.succ_ne_zero j)
      · have ej : j' = j := by have : j + 1 = j' + 1 := y1; omega
        subst ej
        rcases g4 with ⟨y, _⟩ | ⟨_, z2, z3, z4⟩
        · exact absurd y (Nat.succ_ne_zero j')
        have pl30 : (prs_ (fg E s f) (fn E s f) 30 (i + 1)).length ≤ 30 := prs_len _ _
        have h71' : M2.1 71 = ((j' + 1 : Nat) : Int) := z4
        obtain ⟨b1, b2, b3⟩ := a1.move (F := k) a2 oG (KyS.same hsm) g3 h65 (Or.inr (by omega)) (Nat.le_of_eq nTc.symm) nNu
        have hmem := getDn_mem y2
        obtain ⟨p1, p2, p3, p4, p5⟩ := prs_sub hT hin ho hmem
        have pn := prs_mem hmem
        generalize hpp : (prs_ (fg E s f) (fn E s f) 30 (i + 1)).getD j' 0 = p at *
        have tl := Tc_le s
        have rn1700 : rn < 1700 := by have := ms.2.2.2.1.2.2.1; omega
        have q58 : ∀ j, M2.2 58 j = M.2 58 j := fun j => by rw [g2.2.1 58 (by decide) (by decide) (by decide)]; rfl
        have q56 : M2.2 56 (32 * k + j') = ((p + 1 : Nat) : Int) := by rw [g2.2.1 56 (by decide) (by decide) (by decide)]; have := (f4 j' y2).1; rw [hpp] at this; exact this.trans (by omega)
        have q57 : M2.2 57 (32 * k + j') = (fE (fg E s f) (fn E s f) p : Int) := by rw [g2.2.1 57 (by decide) (by decide) (by decide)]; have := (f4 j' y2).2; rw [hpp] at this; exact this
        have hH2 : FnH M2 k f row (fg E s f i % 1000) := ⟨by rw [g2.2.1 52 (by decide) (by decide) (by decide)]; exact f2.1, by rw [g2.2.1 53 (by decide) (by decide) (by decide)]; exact f2.2.1, by rw [g2.2.1 54 (by decide) (by decide) (by decide)]; exact f2.2.2⟩
        have e59' : M2.1 59 = ((D + 1 : Nat) : Int) := by rw [e59]; omega
        obtain ⟨M3, c1, c2, c3, c4, c5, c6, c7, c8, c9, c10, c11, c12⟩ := giveT_need (row := row) f1.1 hH2 (by omega) h71' b1.2.2.2.1.1 rn1700 e59' (by omega) q56 q57
        have stp : MStp M M3 := mgive_step tk2 h59' (by omega) (g1.trans c1)
        have p0 : aPs os f p = 0 := by rw [hsm.2.2.1]; exact y3
        have nk : ∀ g x, g < aNf os → ¬ Kpl os g x f p := fun g x hg z => by
          have q := KyS.fpart hPo hE (f := f) (i := i) (p := p) (by rw [nfo]; exact hf) (by rw [en]; exact hin) (by rw [eg]; exact ek) (by rw [eg, en]; exact hmem) g
          by_cases hx : x < 10
          · exact q x hg hx z.1 z.2
          · obtain ⟨d1, d2, d3, d4, d5, d6, d7, d8, d9⟩ := hPo.arg hE hg z.1
            rcases (hPo.1 g hg).2 with w | ⟨w1, w2, w3, w4, w5, w6, w7⟩
            · exact z.1 (w.2 x)
            · rw [z.2.1] at d4 w3 w4
              rw [z.2.2] at d4
              rw [eg, en] at d4
              rw [en] at w3
              rw [eg] at w4
              have e := prs_inj hT w3 (by rw [w4]; rfl) hin ho d4 hmem
              rw [e, ek] at w4
              exact absurd w4 (by decide)
        have oB : BgO rn (D + 1) M2 M3 := ⟨fun j a b => c8 j a b, fun q a => c9 q (by omega) (by omega) (by omega), c10, fun q j a b c => c12 q j a b (by omega) (by omega)⟩
        obtain ⟨d1, d2, d3, d4⟩ := b1.begin_ (row := row) (F := k) hPo (by rw [nfo]; exact hf) (by rw [en]; exact pn.1) p0 oB (by rw [c2]; omega) c7.2.1 (fun j hj => c11 j (by omega)) (fun g x hg hx => ⟨fun z => absurd z (nk g x hg), fun _ => congrFun (c9 47 (by decide) (by decide) (by decide)) _⟩)
        -- the part's stretch
        obtain ⟨⟨r2, s2⟩, x1, x2⟩ := bind_some hx
        rw [hpp] at x1 x2
        dsimp only at x2
        have hP3 : PI E (uPs os f p 1) := hPo.touch (by rw [nfo]; exact hf) (by decide)
        have hf3 : f < aNf (uPs os f p 1) := by show f < aNf os; rw [nfo]; exact hf
        have eg3 : fg E (uPs os f p 1) f = fg E s f := eg
        have en3 : fn E (uPs os f p 1) f = fn E s f := en
        have hB3 : Bl (fg E (uPs os f p 1) f) (fn E (uPs os f p 1) f) (p + 1) (fE (fg E s f) (fn E s f) p) := by rw [eg3, en3]; exact Bl.part hT pn.1 pn.2
        obtain ⟨v1, v2, v3⟩ := runX_ch hE m _ _ _ _ _ _ _ _ _ _ x1 hP3 hf3 hB3 okr_nil (fun z => absurd z Bool.false_ne_true)
        obtain ⟨n4, M4, rn4, fu4, w1, w2, w3, w4, w5, w6, w7, w8⟩ := (ih _ _ _ _ _ _ _ _ _ _ x1 hP3 hf3 hB3 (fun z => absurd z Bool.false_ne_true) M3 (D + 1 + 1) rn (rn + 1) fu d1 d2 d4 (by omega)).1 rfl c5 (by rw [c3]; omega)
        -- the part is done
        have hs2 : aPs s2 f p = 1 := by
          rw [v2.nz (g := f) (p := p) (by rw [show aPs (uPs os f p 1) f p = 1 from if_pos ⟨rfl, rfl⟩]; decide)]
          exact if_pos ⟨rfl, rfl⟩
        have hf2 : f < aNf s2 := Nat.lt_of_lt_of_le hf3 v2.1
        have fr2 : aFr s2 f = aFr s f := (v2.2.1 f hf3).trans (by show aFr os f = _; rw [fo])
        have eg2 : fg E s2 f = fg E s f := by show eTx E (aFr s2 f).1 = _; rw [fr2]
        have en2 : fn E s2 f = fn E s f := by show eTl E (aFr s2 f).1 = _; rw [fr2]
        have nk2 : ∀ g x, g < aNf s2 → ¬ Kpl s2 g x f p := fun g x hg z => by
          obtain ⟨d1, d2, d3, d4, d5, d6, d7, d8, d9⟩ := v1.arg hE hg z.1
          rcases (v1.1 g hg).2 with w | ⟨w1, w2, w3, w4, w5, w6, w7⟩
          · exact z.1 (w.2 x)
          · rw [z.2.1] at d4 w3 w4
            rw [z.2.2] at d4
            rw [eg2, en2] at d4
            rw [en2] at w3
            rw [eg2] at w4
            have e := prs_inj hT w3 (by rw [w4]; rfl) hin ho d4 hmem
            rw [e, ek] at w4
            exact absurd w4 (by decide)
        obtain ⟨u1, u2⟩ := w2.done_ (r := r2) hs2 (fun g x hg _ z => absurd z (nk2 g x hg))
        have hP5 : PI E (uDn s2 f p r2) := v1.dn hf2 v3
        have ch5 : ChZ (RZ E s f i to) os (uDn s2 f p r2) := by
          refine ChZ.part v2 p0 (fun g p' hg' z => z.same hP.1 (fun g _ => by show aFr os g = _; rw [fo]) hf (by omega) (by omega)) (Or.inl ⟨rfl, by omega, by omega⟩)
        have hre2 : aPs (uDn s2 f p r2) f i = 2 := by
          rw [ch5.nz (g := f) (p := i) (by rw [hsm.2.2.1, h2]; decide), hsm.2.2.1]; exact h2
        have kp2 : KeepM M M2 s os (D + 1) row k rn := a3.tr b3 (Nat.le_refl _) (Nat.le_refl _) (Nat.le_refl _) (fun _ _ z => z) (Nat.le_refl _)
        have kp3 : KeepM M M3 s (uPs os f p 1) (D + 1) row k rn := kp2.tr d3 (Nat.le_refl _) (Nat.le_refl _) (Nat.le_refl _) (fun _ _ z => z) (Nat.le_of_eq nfo.symm)
        have kp4 : KeepM M M4 s s2 (D + 1) row k rn := kp3.tr w5 (by omega) (Nat.le_of_lt hk) (by omega) (fun d hd _ => by omega) (Nat.le_of_eq nfo.symm)
        have kp5 : KeepM M M4 s (uDn s2 f p r2) D row k rn := ⟨kp4.1, fun q j a b c => kp4.2.1 q j a b (by omega), kp4.2.2.1, kp4.2.2.2.1, kp4.2.2.2.2.1, kp4.2.2.2.2.2.1, fun d hd z => u2 d (kp4.2.2.2.2.2.2 d hd z) (fun g x hg _ z => absurd z (nk2 g x hg))⟩
        have cm5 : CuM M4 (uDn s2 f p r2) row rn4 := ⟨by have := cm.1; omega, cm.2.1, kp5.2.2.2.2.2.2 row cm.1 cm.2.2⟩
        have z3' : RowM M3 row acc := ⟨z3.1, by rw [c10 row (by have := cm.1; omega)]; exact z3.2.1, z3.2.2.1, fun k hk => by rw [c9 50 (by decide) (by decide) (by decide)]; exact z3.2.2.2 k hk⟩
        have rm5 : RowM M4 row acc := w5.rw_ z3' (by have := cm.1; omega) (by have := cm.1; omega)
        have tkD : TkM M4 D 0 (f : Int) ((fE (fg E s f) (fn E s f) i + 1 : Nat) : Int) (to : Int) (row : Int) := kp4.tk tk (Nat.lt_succ_self D)
        have tkD1 : TkM M4 (D + 1) 2 (k : Int) 0 0 (row : Int) := w5.tk c4 (Nat.lt_succ_self _)
        have m58 : ∀ jj, jj < (prs_ (fg E s f) (fn E s f) 30 (i + 1)).length → M4.2 58 (32 * k + jj) = M3.2 58 (32 * k + jj) := fun jj hjj => w5.2.2.2.1 58 _ (by decide) (by decide) (by omega)
        have mm58 : ∀ jj, jj < (prs_ (fg E s f) (fn E s f) 30 (i + 1)).length → jj ≠ j' → M4.2 58 (32 * k + jj) = M.2 58 (32 * k + jj) := fun jj hjj hn => by rw [m58 jj hjj, c11 _ (by omega)]; exact q58 _
        have mj58 : M4.2 58 (32 * k + j') = (rn : Int) := by rw [m58 j' y2]; exact c6
        have mq : ∀ q, 52 ≤ q → q ≤ 55 → M4.2 q k = M.2 q k := fun q h1 h2 => by rw [w5.2.2.1 q k h1 h2 hk, c9 q (by omega) (by omega) (by omega), g2.2.1 q (by omega) (by omega) (by omega)]; rfl
        have mq2 : ∀ q, 56 ≤ q → q ≤ 57 → ∀ jj, jj < (prs_ (fg E s f) (fn E s f) 30 (i + 1)).length → M4.2 q (32 * k + jj) = M.2 q (32 * k + jj) := fun q h1 h2 jj hjj => by rw [w5.2.2.2.1 q _ (by omega) (by omega) (by omega), c9 q (by omega) (by omega) (by omega), g2.2.1 q (by omega) (by omega) (by omega)]; rfl
        have egD : fg E (uDn s2 f p r2) f = fg E s f := eg2
        have enD : fn E (uDn s2 f p r2) f = fn E s f := en2
        have gne : ∀ jj, jj < (prs_ (fg E s f) (fn E s f) 30 (i + 1)).length → jj ≠ j' → (prs_ (fg E s f) (fn E s f) 30 (i + 1)).getD jj 0 ≠ p := fun jj hjj hn e => by
          exact hn (nodup_getD (prs_nodup 30 (i + 1)) hjj y2 (e.trans hpp.symm))
        have fk5 : FnK M4 E k (uDn s2 f p r2) f (prs_ (fg E s f) (fn E s f) 30 (i + 1)) row rn4 (fg E s f i % 1000) := by
          refine ⟨⟨f1.1, (mq 55 (by decide) (by decide)).trans f1.2.1, f1.2.2.1, w2.2.2.2.2.1, w2.2.1.2.2, fun jj hjj => ?_⟩, ⟨(mq 52 (by decide) (by decide)).trans f2.1, (mq 53 (by decide) (by decide)).trans f2.2.1, (mq 54 (by decide) (by decide)).trans f2.2.2⟩, fun jj hjj => ?_, fun jj hjj => ?_⟩
          · by_cases ejj : jj = j'
            · subst ejj
              rw [hpp]
              have st : aPs (uDn s2 f p r2) f p = 2 := if_pos ⟨rfl, rfl⟩
              have sr : aRw (uDn s2 f p r2) f p = r2 := if_pos ⟨rfl, rfl⟩
              exact Or.inr ⟨by rw [st]; decide, rn, rn1700, mj58, fun _ => by rw [sr]; exact w3⟩
            · have hne := gne jj hjj ejj
              obtain ⟨o1, o2, o3, o4, o5⟩ := prs_sub hT hin ho (getDn_mem hjj)
              have st : aPs (uDn s2 f p r2) f ((prs_ (fg E s f) (fn E s f) 30 (i + 1)).getD jj 0) = aPs s f ((prs_ (fg E s f) (fn E s f) 30 (i + 1)).getD jj 0) := by
                show (if f = f ∧ (prs_ (fg E s f) (fn E s f) 30 (i + 1)).getD jj 0 = p then 2 else aPs s2 f _) = _
                rw [if_neg (fun z => hne z.2)]
                have zz := v2.2.2.2.2.1 f ((prs_ (fg E s f) (fn E s f) 30 (i + 1)).getD jj 0) hf3 (fun z => by
                  rcases z with ⟨_, z1, z2⟩ | z
                  · have z2' : (prs_ (fg E s f) (fn E s f) 30 (i + 1)).getD jj 0 < fE (fg E s f) (fn E s f) p := z2
                    obtain ⟨q, q1, q2⟩ := (cl_mk hT pn.1 pn.2).2.2.2.2 _ (by omega) z2'
                    rw [o4, p4] at q1
                    have ql := congrArg List.length q1
                    rw [List.length_append] at ql
                    exact q2 (List.length_eq_zero_iff.mp (by omega)) (Or.inr o3)
                  · have := z.lt hP3.1 hf3
                    omega)
                rw [zz]
                show (if f = f ∧ (prs_ (fg E s f) (fn E s f) 30 (i + 1)).getD jj 0 = p then 1 else aPs os f _) = _
                rw [if_neg (fun z => hne z.2), hsm.2.2.1]
              rw [st, mm58 jj hjj ejj]
              rcases f1.2.2.2.2.2 jj hjj with q | ⟨q1, d, q2, q3, q4⟩
              · exact Or.inl q
              · refine Or.inr ⟨q1, d, q2, q3, fun q5 => ?_⟩
                have hr2 := q4 q5
                have dne : d ≠ row := fun e => (f3 jj hjj).1 (by rw [q3, e])
                have dlt : d < rn := by have := (f3 jj hjj).2; rw [q3] at this; omega
                have sw : aRw (uDn s2 f p r2) f ((prs_ (fg E s f) (fn E s f) 30 (i + 1)).getD jj 0) = aRw s f ((prs_ (fg E s f) (fn E s f) 30 (i + 1)).getD jj 0) := by
                  rw [ch5.2.2.2.1 f _ (by rw [hsm.2.2.1, q5]; decide), hsm.2.2.2.1]
                rw [sw]
                exact kp4.rw_ hr2 dlt dne
          · by_cases ejj : jj = j'
            · subst ejj
              rw [mj58]
              have := cm.1
              exact ⟨by omega, by omega⟩
            · rw [mm58 jj hjj ejj]
              have := f3 jj hjj
              exact ⟨this.1, by omega⟩
          · rw [mq2 56 (by decide) (by decide) jj hjj, mq2 57 (by decide) (by decide) jj hjj, egD, enD]
            exact f4 jj hjj
        have fin := (ih _ _ _ _ _ _ _ _ _ _ x2 hP5 hf2 (by rw [egD, enD]; exact hB) (fun _ => ⟨hre2, hi, by rw [egD]; exact ek⟩) M4 D row rn4 fu4 u1 cm5 rm5 hD).2 rfl k (by omega) (by rw [egD, enD]; exact tkD) tkD1 (by rw [w4]; omega) (by rw [egD, enD]; exact fk5)
        obtain ⟨n6, M6, rn6, fu6, l1, l2, l3, l4, l5, l6, l7, l8⟩ := fin
        have tcp : Tc (uPs os f p 1) = Tc s + 1 := by rw [Tc_new (by decide) (by omega) (by omega) p0, nTc]
        have tcd : Tc s2 ≤ Tc (uDn s2 f p r2) := Tc_dn
        have htn := hB.2.1
        have fi30 : fE (fg E s f) (fn E s f) i ≤ 30 := by omega
        have fp30 : fE (fg E s f) (fn E s f) p ≤ 30 := by omega
        refine ⟨1 + (n4 + n6), M6, rn6, fu6, (MSts.one stp).app (w1.app l1), l2, l3, l4, kp5.tr l5 (Nat.le_refl _) (Nat.le_refl _) (by omega) (fun _ _ z => z) (Nat.le_trans (Nat.le_of_eq nfo.symm) v2.1), by omega, by omega, ?_⟩
        rw [tcp] at w8
        omega
end MSG
