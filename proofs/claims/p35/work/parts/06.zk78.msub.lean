/-! THE REFERENCE GOES OVER A STRETCH: a stretch within, calls -/
section MSB
variable {E : Env} {s s1 s' : ASt} {M M1 M2 M' : Md} {rn fu rn1 fu1 D row f i i1 to F r r2 t m n1 N k : Nat} {acc acc1 acc' : List Int}
theorem unt_all {c : Nat} (h : unt s f i c = true) {p : Nat} (h1 : i ≤ p) (h2 : p < c) : aPs s f p = 0 := by
  unfold unt at h
  have q := List.all_eq_true.mp h (p - i) (List.mem_range.mpr (by omega))
  rw [show i + (p - i) = p by omega] at q
  exact eq_of_beq q
/-- a stretch within, into the same row, and on -/
theorem mseg_sub (ih : SegM E m) (hE : EnP E) {S : ASt} {g i2 to2 : Nat} (hS : PI E S) (hg : g < aNf S) (hB2 : Bl (fg E S g) (fn E S g) i2 to2) (hfS : f < aNf S) (frS : aFr S f = aFr s f) (nS : aNf s ≤ aNf S) (tcS : Tc s + 1 ≤ Tc S) (st : MStp M M2) (ms2 : MS M2 E S rn fu) (cm2 : CuM M2 S row rn) (rm2 : RowM M2 row acc) (kp : KeepM M M2 s S D row fu rn)
   (tkD : TkM M2 D 0 (f : Int) (i1 : Int) (to : Int) (row : Int)) (tk2 : TkM M2 (D + 1) 0 (g : Int) (i2 : Int) (to2 : Int) (row : Int)) (h59 : M2.1 59 = ((D + 1 : Nat) : Int) + 1) (hD : D ≤ t) (hl : to2 - i2 ≤ 30) (hB : Bl (fg E s f) (fn E s f) i1 to) (hi : i < i1) (nk : NK M s row) (hrow : row < rn ∧ row ≠ 1)
   (hx : ((runX E m false r2 (t + 1) g i2 to2 acc S).bind fun q => runX E m false r t f i1 to q.1 q.2) = some (acc', s')) : PostM E M s s' D row fu rn fu acc' ((to - i) + 1) := by
  obtain ⟨⟨a2, s2⟩, x1, x2⟩ := bind_some hx
  obtain ⟨v1, v2, v3⟩ := runX_ch hE m _ _ _ _ _ _ _ _ _ _ x1 hS hg hB2 rm2.2.2.1 (fun z => absurd z Bool.false_ne_true)
  obtain ⟨n3, M3, rn3, fu3, w1, w2, w3, w4, w5, w6, w7, w8⟩ := (ih _ _ _ _ _ _ _ _ _ _ x1 hS hg hB2 (fun z => absurd z Bool.false_ne_true) M2 (D + 1) row rn fu ms2 cm2 rm2 (by omega)).1 rfl tk2 h59
  have kp3 : KeepM M M3 s s2 D row fu rn := kp.tr w5 (Nat.le_succ D) (Nat.le_refl _) (Nat.le_refl _) (fun _ _ z => z) nS
  have fr : aFr s2 f = aFr s f := (v2.2.1 f hfS).trans frS
  have eg : fg E s2 f = fg E s f := by show eTx E (aFr s2 f).1 = _; rw [fr]
  have en : fn E s2 f = fn E s f := by show eTl E (aFr s2 f).1 = _; rw [fr]
  have hn2 : aNf s ≤ aNf s2 := by have := v2.1; omega
  exact mseg_on ih v1 (by have := v2.1; omega) (by rw [eg, en]; exact hB) ((MSts.one st).app w1) w2 ⟨by omega, hrow.2, kp3.2.2.2.2.2.2 row hrow.1 nk⟩ w3 hD (w5.tk tkD (Nat.lt_succ_self D)) (w4.trans (by omega)) kp3 w6 w7 w7 hn2 (by omega) x2
/-- the evaluator's new frame -/
theorem PI.newF (hP : PI E s) (hE : EnP E) (hf : f < aNf s) (hi : i < fn E s f) (ek : fg E s f i / 1000 = 2) (h0 : aPs s f i = 0) (c40 : ¬ 40 ≤ aCa s) (c6 : ¬ 6 ≤ (aFr s f).2.2.1) {w : Int} {rd : Nat} (hw : 0 ≤ w ∧ w < 24 ∧ eSn E w.toNat ≠ -1) :
   PI E (uFr (uSe (uCa (uPs s f i 2)) 0 0 rd 0 0) ((eSn E w.toNat).toNat, w.toNat, (aFr s f).2.2.1 + 1, (f : Int), i, agF (fg E s f) (prs_ (fg E s f) (fn E s f) 30 (i + 1)) 0 (fun _ => -1))) ∧
   Bl (fg E (uFr (uSe (uCa (uPs s f i 2)) 0 0 rd 0 0) ((eSn E w.toNat).toNat, w.toNat, (aFr s f).2.2.1 + 1, (f : Int), i, agF (fg E s f) (prs_ (fg E s f) (fn E s f) 30 (i + 1)) 0 (fun _ => -1))) (aNf s)) (fn E (uFr (uSe (uCa (uPs s f i 2)) 0 0 rd 0 0) ((eSn E w.toNat).toNat, w.toNat, (aFr s f).2.2.1 + 1, (f : Int), i, agF (fg E s f) (prs_ (fg E s f) (fn E s f) 30 (i + 1)) 0 (fun _ => -1))) (aNf s)) 0 (eTl E (eSn E w.toNat).toNat) ∧ eTl E (eSn E w.toNat).toNat ≤ 30 := by
  have hP0 : PI E (uPs s f i 2) := hP.touch hf (by decide)
  have hPc : PI E (uSe (uCa (uPs s f i 2)) 0 0 rd 0 0) := (hP0.ca (by show aCa s < 40; omega)).se
  obtain ⟨c1, c2, c3⟩ := hE.1 w.toNat (by omega) hw.2.2
  refine ⟨PI.fr (s := uSe (uCa (uPs s f i 2)) 0 0 rd 0 0) hPc ?_ ⟨_, by omega, hw.2.2, rfl⟩ (by omega) (by omega) hf hi ek ?_ (fun f' hf' y1 y2 => ?_), ?_, c2.1.2⟩
  · show aNf s ≤ aCa s + 1
    exact hP.2.1.2
  · show (if f = f ∧ i = i then 2 else aPs s f i) ≠ 0
    rw [if_pos ⟨rfl, rfl⟩]; decide
  · rcases (hP.1 f' hf').2 with z | ⟨b1, b2, b3, b4, b5, b6, b7⟩
    · have y1' : (aFr s f').2.2.2.1 = (f : Int) := y1
      have := z.1
      omega
    · have y1' : (aFr s f').2.2.2.1 = (f : Int) := y1
      have y2' : (aFr s f').2.2.2.2.1 = i := y2
      rw [y1', y2', Int.toNat_natCast] at b6
      exact b6 h0
  · have nwF : aFr (uFr (uSe (uCa (uPs s f i 2)) 0 0 rd 0 0) ((eSn E w.toNat).toNat, w.toNat, (aFr s f).2.2.1 + 1, (f : Int), i, agF (fg E s f) (prs_ (fg E s f) (fn E s f) 30 (i + 1)) 0 (fun _ => -1))) (aNf s) = ((eSn E w.toNat).toNat, w.toNat, (aFr s f).2.2.1 + 1, (f : Int), i, agF (fg E s f) (prs_ (fg E s f) (fn E s f) 30 (i + 1)) 0 (fun _ => -1)) := if_pos rfl
    show Bl (eTx E (aFr _ (aNf s)).1) (eTl E (aFr _ (aNf s)).1) 0 _
    rw [nwF]
    exact Bl.whole c2
/-- what only appends, and on -/
theorem mseg_plain (ih : SegM E m) {s0 : ASt} (e1 : aNf s0 = aNf s) (e2 : aFr s0 = aFr s) (tc0 : Tc s ≤ Tc s0) (b1 : MS M1 E s0 rn fu) (b2 : CuM M1 s0 row rn) (kp0 : KeepM M M1 s s0 D row fu rn) (b5 : M1.1 59 = (D : Int) + 1) (b6 : TkM M1 D 0 (f : Int) (i1 : Int) (to : Int) (row : Int)) (st : MStp M M2) (o : PlO row (D + 1) M1 M2) (ks : KyS s0 s1) (h1 : PI E s1) (hse : SeM M2 s1)
   (h65 : M2.1 65 = (aCa s1 : Int)) (h71 : M2.1 71 = M1.1 71) (h59 : M2.1 59 = M1.1 59) (hps : aPs s1 = aPs s0) (rm : RowM M2 row acc1) (hf : f < aNf s) (hB : Bl (fg E s f) (fn E s f) i1 to) (hi : i < i1) (hD : D ≤ t) (hx : runX E m false r t f i1 to acc1 s1 = some (acc', s')) : PostM E M s s' D row fu rn fu acc' ((to - i) + 1) := by
  have e3 : aNf s1 = aNf s := (show aNf s1 = aNf s0 from ks.1).trans e1
  have e4 : aFr s1 = aFr s := (show aFr s1 = aFr s0 from ks.2.1).trans e2
  have eg : ∀ g, fg E s1 g = fg E s0 g := fun g => by show eTx E (aFr s1 g).1 = eTx E (aFr s0 g).1; rw [e4, e2]
  have en : ∀ g, fn E s1 g = fn E s0 g := fun g => by show eTl E (aFr s1 g).1 = eTl E (aFr s0 g).1; rw [e4, e2]
  have eg' : fg E s1 f = fg E s f := by show eTx E (aFr s1 f).1 = _; rw [e4]
  have en' : fn E s1 f = fn E s f := by show eTl E (aFr s1 f).1 = _; rw [e4]
  have tc : Tc s1 = Tc s0 := by
    unfold Tc
    rw [hps]
  have nn : nFu E s0 ≤ nFu E s1 := by
    refine cnt_imp (fun k _ h => ?_)
    obtain ⟨a, b, c, d⟩ := of_decide_eq_true h
    exact decide_eq_true ⟨by rw [e3, ← e1]; exact a, by rw [en]; exact b, by rw [eg]; exact c, by rw [hps]; exact d⟩
  obtain ⟨g1, g2, g3⟩ := b1.move (F := fu) b2 o ks hse h65 (by rw [h71]; exact b1.2.1.2.2) (Nat.le_of_eq tc.symm) nn
  have g3' : KeepM M1 M2 s0 s1 D row fu rn := ⟨g3.1, fun q j a b c => g3.2.1 q j a b (Nat.lt_succ_of_lt c), g3.2.2⟩
  exact mseg_on ih h1 (by rw [e3]; exact hf) (by rw [eg', en']; exact hB) (MSts.one st) g1 g2 rm hD (g3.tk b6 (Nat.lt_succ_self D)) (h59.trans b5) (kp0.tr g3' (Nat.le_refl _) (Nat.le_refl _) (Nat.le_refl _) (fun _ _ z => z) (Nat.le_of_eq e1.symm)) (Nat.le_refl _) (Nat.le_refl _) (Nat.le_refl _) (Nat.le_of_eq e3.symm) (by have := hB.1; omega) hx
end MSB
