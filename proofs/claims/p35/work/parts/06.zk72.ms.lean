/-! THE REFERENCE WHILE IT EXPANDS -/
section MSD
variable {E : Env} {s s1 s2 s' : ASt} {M M1 M2 M' : Md} {rn fu D D1 row row1 F F1 rn1 : Nat} {acc : List Int}
/-- a frame -/
def FkM (M : Md) (E : Env) (s : ASt) (f : Nat) : Prop := FrM M f (aFr s f).1 (fg E s f) (fn E s f) ∧ M.2 42 f = ((aFr s f).2.1 : Int) ∧ M.2 43 f = ((aFr s f).2.2.1 : Int) ∧ M.2 44 f = (aFr s f).2.2.2.1
/-- an argument and its row -/
def KyM (M : Md) (E : Env) (s : ASt) (rn f x : Nat) : Prop :=
  ((aFr s f).2.2.2.2.2 x = -1 ∧ M.2 45 (10 * f + x) = -1 ∧ M.2 47 (10 * f + x) = -1) ∨
  (0 ≤ (aFr s f).2.2.2.2.2 x ∧ M.2 45 (10 * f + x) = (aFr s f).2.2.2.2.2 x + 1 ∧ M.2 46 (10 * f + x) = (fE (fg E s (aFr s f).2.2.2.1.toNat) (fn E s (aFr s f).2.2.2.1.toNat) ((aFr s f).2.2.2.2.2 x).toNat : Int) ∧
    ((aPs s (aFr s f).2.2.2.1.toNat ((aFr s f).2.2.2.2.2 x).toNat = 0 ∧ M.2 47 (10 * f + x) = -1) ∨
     (aPs s (aFr s f).2.2.2.1.toNat ((aFr s f).2.2.2.2.2 x).toNat ≠ 0 ∧ ∃ d : Nat, d < rn ∧ M.2 47 (10 * f + x) = (d : Int) ∧ (aPs s (aFr s f).2.2.2.1.toNat ((aFr s f).2.2.2.2.2 x).toNat = 2 → RowM M d (aRw s (aFr s f).2.2.2.1.toNat ((aFr s f).2.2.2.2.2 x).toNat)))))
def MS (M : Md) (E : Env) (s : ASt) (rn fu : Nat) : Prop := EnM M E ∧ (M.1 40 = (aNf s : Int) ∧ M.1 65 = (aCa s : Int) ∧ (M.1 71 = 0 ∨ (1 ≤ M.1 71 ∧ M.1 71 ≤ 30))) ∧ SeM M s ∧
  (M.1 48 = (rn : Int) ∧ 2 ≤ rn ∧ rn ≤ 2 + Tc s ∧ M.1 51 = (fu : Int) ∧ fu ≤ nFu E s) ∧ RowM M 1 [] ∧ (∀ f, f < aNf s → FkM M E s f) ∧ ∀ f x, f < aNf s → x < 10 → KyM M E s rn f x
/-- the arguments that have this row are in work -/
def NK (M : Md) (s : ASt) (d : Nat) : Prop := ∀ f x, f < aNf s → x < 10 → M.2 47 (10 * f + x) = (d : Int) → aPs s (aFr s f).2.2.2.1.toNat ((aFr s f).2.2.2.2.2 x).toNat = 1
/-- a row that is written -/
def CuM (M : Md) (s : ASt) (row rn : Nat) : Prop := row < rn ∧ row ≠ 1 ∧ NK M s row
/-- what a stretch keeps -/
def KeepM (M M' : Md) (s s' : ASt) (D row F rn : Nat) : Prop := ExO M M' ∧ (∀ q i, 60 ≤ q → q ≤ 64 → i < D → M'.2 q i = M.2 q i) ∧ (∀ q k, 52 ≤ q → q ≤ 55 → k < F → M'.2 q k = M.2 q k) ∧ (∀ q j, 56 ≤ q → q ≤ 58 → j < 32 * F → M'.2 q j = M.2 q j) ∧
  (∀ d, d < rn → d ≠ row → M'.2 49 d = M.2 49 d ∧ ∀ k, k < 150 → M'.2 50 (150 * d + k) = M.2 50 (150 * d + k)) ∧ (∀ f x, f < aNf s → x < 10 → M.2 47 (10 * f + x) ≠ -1 → M'.2 47 (10 * f + x) = M.2 47 (10 * f + x)) ∧ (∀ d, d < rn → NK M s d → NK M' s' d)
theorem KeepM.tr (h : KeepM M M1 s s1 D row F rn) (h1 : KeepM M1 M2 s1 s2 D1 row1 F1 rn1) (hD : D ≤ D1) (hF : F ≤ F1) (hrn : rn ≤ rn1) (hrow : ∀ d, d < rn → d ≠ row → d ≠ row1) (hn : aNf s ≤ aNf s1) : KeepM M M2 s s2 D row F rn := by
  obtain ⟨a1, a2, a3, a4, a5, a6, a7⟩ := h
  obtain ⟨b1, b2, b3, b4, b5, b6, b7⟩ := h1
  refine ⟨a1.tr b1, fun q i x y z => (b2 q i x y (by omega)).trans (a2 q i x y z), fun q k x y z => (b3 q k x y (by omega)).trans (a3 q k x y z), fun q j x y z => (b4 q j x y (by omega)).trans (a4 q j x y z), fun d x y => ?_, fun f x hf hx z => ?_, fun d hd z => b7 d (by omega) (a7 d hd z)⟩
  · obtain ⟨c1, c2⟩ := b5 d (by omega) (hrow d x y)
    obtain ⟨d1, d2⟩ := a5 d x y
    exact ⟨c1.trans d1, fun k hk => (c2 k hk).trans (d2 k hk)⟩
  · have e := a6 f x hf hx z
    exact (b6 f x (by omega) hx (by rw [e]; exact z)).trans e
theorem KeepM.rw_ (h : KeepM M M' s s' D row F rn) {d : Nat} {r : List Int} (hr : RowM M d r) (hd : d < rn) (hne : d ≠ row) : RowM M' d r := by
  obtain ⟨c1, c2⟩ := h.2.2.2.2.1 d hd hne
  exact ⟨hr.1, c1.trans hr.2.1, hr.2.2.1, fun k hk => (c2 k (by have := hr.2.2.1.1; omega)).trans (hr.2.2.2 k hk)⟩
theorem KeepM.tk (h : KeepM M M' s s' D row F rn) {d : Nat} {o a b c e : Int} (ht : TkM M d o a b c e) (hd : d < D) : TkM M' d o a b c e := by
  obtain ⟨t1, t2, t3, t4, t5⟩ := ht
  exact ⟨(h.2.1 60 d (by decide) (by decide) hd).trans t1, (h.2.1 61 d (by decide) (by decide) hd).trans t2, (h.2.1 62 d (by decide) (by decide) hd).trans t3, (h.2.1 63 d (by decide) (by decide) hd).trans t4, (h.2.1 64 d (by decide) (by decide) hd).trans t5⟩
/-- tasks, the row that is written, the sets, the calls, the stack -/
def PlO (row D : Nat) (M M' : Md) : Prop := (∀ j, ¬ (j = 59 ∨ (65 ≤ j ∧ j ≤ 71) ∨ j = 73) → M'.1 j = M.1 j) ∧ (∀ k, ¬ (k = 49 ∨ k = 50 ∨ (60 ≤ k ∧ k ≤ 64) ∨ k = 72) → M'.2 k = M.2 k) ∧ (∀ i, i ≠ row → M'.2 49 i = M.2 49 i) ∧ (∀ i, (i < 150 * row ∨ 150 * row + 150 ≤ i) → M'.2 50 i = M.2 50 i) ∧ ∀ q i, 60 ≤ q → q ≤ 64 → i < D → M'.2 q i = M.2 q i
theorem PlO.rf : PlO row D M M := ⟨fun _ _ => rfl, fun _ _ => rfl, fun _ _ => rfl, fun _ _ => rfl, fun _ _ _ _ _ => rfl⟩
theorem PlO.tr (h : PlO row D M M1) (h1 : PlO row D M1 M2) : PlO row D M M2 :=
  ⟨fun j a => (h1.1 j a).trans (h.1 j a), fun k a => (h1.2.1 k a).trans (h.2.1 k a), fun i a => (h1.2.2.1 i a).trans (h.2.2.1 i a), fun i a => (h1.2.2.2.1 i a).trans (h.2.2.2.1 i a), fun q i a b c => (h1.2.2.2.2 q i a b c).trans (h.2.2.2.2 q i a b c)⟩
theorem PlO.set {j : Nat} {x : Int} (hj : j = 59 ∨ (65 ≤ j ∧ j ≤ 71) ∨ j = 73) : PlO row D M (mSet M j x) := ⟨fun i a => mS2 _ _ (fun e => a (by rw [e]; exact hj)), fun _ _ => rfl, fun _ _ => rfl, fun _ _ => rfl, fun _ _ _ _ _ => rfl⟩
theorem RoO.pl (h : RoO row M M') : PlO row D M M' := ⟨fun j _ => congrFun h.1 j, fun k a => h.2.1 k (by omega) (by omega), h.2.2.1, h.2.2.2, fun q i a b _ => by rw [h.2.1 q (by omega) (by omega)]⟩
theorem GiO.pl (h : GiO row M M') : PlO row D M M' := ⟨fun j a => h.1 j (by omega), fun k a => h.2.1 k (by omega) (by omega) (by omega), h.2.2.1, h.2.2.2, fun q i a b _ => by rw [h.2.1 q (by omega) (by omega) (by omega)]⟩
theorem TkO.pl {d : Nat} (h : TkO d M M') (hd : D ≤ d) : PlO row D M M' := ⟨fun j a => h.1 j (by omega), fun k a => h.2.1 k (by omega), fun i _ => by rw [h.2.1 49 (by decide)], fun i _ => by rw [h.2.1 50 (by decide)], fun q i a b c => h.2.2 q i (by omega)⟩
theorem PlO.ex (h : PlO row D M M') : ExO M M' := ⟨fun j a => h.1 j (by omega), fun k a => h.2.1 k (by omega)⟩
theorem PlO.rw_ (h : PlO row D M M') {d : Nat} {r : List Int} (hr : RowM M d r) (hne : d ≠ row) : RowM M' d r :=
  ⟨hr.1, (h.2.2.1 d hne).trans hr.2.1, hr.2.2.1, fun k hk => (h.2.2.2.1 _ (by have := hr.2.2.1.1; omega)).trans (hr.2.2.2 k hk)⟩
theorem PlO.mono (h : PlO row D M M') (hd : D1 ≤ D) : PlO row D1 M M' := ⟨h.1, h.2.1, h.2.2.1, h.2.2.2.1, fun q i a b c => h.2.2.2.2 q i a b (by omega)⟩
theorem FrM.pl {fr v n : Nat} {g : Nat → Int} (h : FrM M fr v g n) (o : PlO row D M M') : FrM M' fr v g n := by
  obtain ⟨h1, h2, h3, h4, h5⟩ := h
  exact ⟨h1, h2, by rw [o.2.1 41 (by decide)]; exact h3, h4, fun k hk => by rw [o.2.1 9 (by decide)]; exact h5 k hk⟩
/-- the evaluator's state goes on, what is keyed stays -/
def KyS (s s' : ASt) : Prop := s'.1 = s.1 ∧ s'.2.1 = s.2.1 ∧ (∀ f x, f < aNf s → x < 10 → (aFr s f).2.2.2.2.2 x ≠ -1 → aPs s' (aFr s f).2.2.2.1.toNat ((aFr s f).2.2.2.2.2 x).toNat = aPs s (aFr s f).2.2.2.1.toNat ((aFr s f).2.2.2.2.2 x).toNat ∧ aRw s' (aFr s f).2.2.2.1.toNat ((aFr s f).2.2.2.2.2 x).toNat = aRw s (aFr s f).2.2.2.1.toNat ((aFr s f).2.2.2.2.2 x).toNat)
theorem KyS.rf : KyS s s := ⟨rfl, rfl, fun _ _ _ _ _ => ⟨rfl, rfl⟩⟩
theorem KyS.same (h : sSame s s') : KyS s s' := ⟨h.1, h.2.1, fun _ _ _ _ _ => ⟨by rw [h.2.2.1], by rw [h.2.2.2.1]⟩⟩
theorem KyS.ca : KyS s (uCa s) := ⟨rfl, rfl, fun _ _ _ _ _ => ⟨rfl, rfl⟩⟩
theorem KyS.tr (h : KyS s s1) (h1 : KyS s1 s2) : KyS s s2 := by
  obtain ⟨a1, a2, a3⟩ := h
  obtain ⟨b1, b2, b3⟩ := h1
  refine ⟨b1.trans a1, b2.trans a2, fun f x hf hx z => ?_⟩
  have e : aFr s1 = aFr s := a2
  have b := b3 f x (by show f < s1.1; rw [a1]; exact hf) hx (by rw [e]; exact z)
  have a := a3 f x hf hx z
  rw [e] at b
  exact ⟨b.1.trans a.1, b.2.trans a.2⟩
/-- an opener is come to -/
theorem KyS.touch (h : PI E s) (hE : EnP E) {f i : Nat} (ho : opB (fg E s f i / 1000) = true) : KyS s (uPs s f i 2) := by
  refine ⟨rfl, rfl, fun g x hg hx z => ⟨?_, rfl⟩⟩
  obtain ⟨b1, b2, b3, b4, b5, b6, b7, b8, b9⟩ := h.arg hE hg z
  show (if (aFr s g).2.2.2.1.toNat = f ∧ ((aFr s g).2.2.2.2.2 x).toNat = i then 2 else _) = _
  refine if_neg (fun c => ?_)
  rw [c.1, c.2] at b7
  exact mk_op b7 ho
/-- a part of a FUNC is begun, is done -/
theorem KyS.fpart {f i p : Nat} (h : PI E s) (hE : EnP E) (hf : f < aNf s) (hi : i < fn E s f) (hk : fg E s f i / 1000 = 4) (hp : p ∈ prs_ (fg E s f) (fn E s f) 30 (i + 1)) : ∀ g x, g < aNf s → x < 10 → (aFr s g).2.2.2.2.2 x ≠ -1 → ¬ ((aFr s g).2.2.2.1.toNat = f ∧ ((aFr s g).2.2.2.2.2 x).toNat = p) := by
  intro g x hg hx z c
  obtain ⟨b1, b2, b3, b4, b5, b6, b7, b8, b9⟩ := h.arg hE hg z
  rcases (h.1 g hg).2 with y | ⟨d1, d2, d3, d4, d5, d6, d7⟩
  · exact z (y.2 x)
  · rw [c.1] at b4 d3 d4
    rw [c.2] at b4
    have hT := (h.tx hE hf).1
    have e := prs_inj hT d3 (by rw [d4]; rfl) hi (by rw [hk]; rfl) b4 hp
    rw [e, hk] at d4
    exact absurd d4 (by decide)
theorem CuM.ne (hc : CuM M s row rn) {f x d : Nat} (hf : f < aNf s) (hx : x < 10) (h2 : aPs s (aFr s f).2.2.2.1.toNat ((aFr s f).2.2.2.2.2 x).toNat = 2) (hd : M.2 47 (10 * f + x) = (d : Int)) : d ≠ row := by
  intro e
  have := hc.2.2 f x hf hx (by rw [hd, e])
  omega
theorem MS.ky (h : MS M E s rn fu) (o : PlO row D M M') (hc : CuM M s row rn) (hs : KyS s s') {f x : Nat} (hf : f < aNf s) (hx : x < 10) : KyM M' E s' rn f x := by
  have k := h.2.2.2.2.2.2 f x hf hx
  have e : aFr s' = aFr s := hs.2.1
  have eg : ∀ f, fg E s' f = fg E s f := fun f => by show eTx E (aFr s' f).1 = _; rw [e]
  have en : ∀ f, fn E s' f = fn E s f := fun f => by show eTl E (aFr s' f).1 = _; rw [e]
  unfold KyM at k ⊢
  rw [e, eg, en, o.2.1 45 (by decide), o.2.1 46 (by decide), o.2.1 47 (by decide)]
  rcases k with k | ⟨k1, k2, k3, k4⟩
  · exact Or.inl k
  · refine Or.inr ⟨k1, k2, k3, ?_⟩
    obtain ⟨y1, y2⟩ := hs.2.2 f x hf hx (by omega)
    rw [y1, y2]
    rcases k4 with k4 | ⟨k4, d, k5, k6, k7⟩
    · exact Or.inl k4
    · exact Or.inr ⟨k4, d, k5, k6, fun z => o.rw_ (k7 z) (hc.ne hf hx z k6)⟩
theorem NK.move (h : NK M s row1) (hk : ∀ f x, f < aNf s → x < 10 → KyM M E s rn f x) (e47 : M'.2 47 = M.2 47) (hs : KyS s s') : NK M' s' row1 := by
  intro f x hf hx z
  have e : aFr s' = aFr s := hs.2.1
  have hf' : f < aNf s := by have e1 : aNf s' = aNf s := hs.1; omega
  rw [e47] at z
  have q := h f x hf' hx z
  have hA : (aFr s f).2.2.2.2.2 x ≠ -1 := by
    rcases hk f x hf' hx with y | y
    · rw [y.2.2] at z; omega
    · have := y.1; omega
  rw [e, (hs.2.2 f x hf' hx hA).1]
  exact q
theorem PlO.keep (o : PlO row D M M') (hk : ∀ f x, f < aNf s → x < 10 → KyM M E s rn f x) (hs : KyS s s') : KeepM M M' s s' D row F rn := by
  have e47 : M'.2 47 = M.2 47 := o.2.1 47 (by decide)
  refine ⟨o.ex, o.2.2.2.2, fun q k a b _ => by rw [o.2.1 q (by omega)], fun q k a b _ => by rw [o.2.1 q (by omega)], fun d a b => ⟨o.2.2.1 d b, fun k hk => o.2.2.2.1 _ (by omega)⟩, fun f x _ _ _ => by rw [e47], fun d _ z => z.move hk e47 hs⟩
theorem MS.move (h : MS M E s rn fu) (hc : CuM M s row rn) (o : PlO row D M M') (hs : KyS s s') (hse : SeM M' s') (h65 : M'.1 65 = (aCa s' : Int)) (h71 : M'.1 71 = 0 ∨ (1 ≤ M'.1 71 ∧ M'.1 71 ≤ 30)) (hT : Tc s ≤ Tc s') (hN : nFu E s ≤ nFu E s') :
   MS M' E s' rn fu ∧ CuM M' s' row rn ∧ KeepM M M' s s' D row F rn := by
  obtain ⟨a1, a2, a3, a4, a5, a6, a7⟩ := h
  have e : aFr s' = aFr s := hs.2.1
  have e0 : aNf s' = aNf s := hs.1
  have hk := o.keep (F := F) a7 hs
  refine ⟨⟨a1.step o.ex, ⟨by rw [o.1 40 (by decide), e0]; exact a2.1, h65, h71⟩, hse, ⟨by rw [o.1 48 (by decide)]; exact a4.1, a4.2.1, by omega, by rw [o.1 51 (by decide)]; exact a4.2.2.2.1, by omega⟩, o.rw_ a5 (fun z => hc.2.1 z.symm), fun f hf => ?_, fun f x hf hx => ?_⟩, ⟨hc.1, hc.2.1, hc.2.2.move a7 (o.2.1 47 (by decide)) hs⟩, hk⟩
  · rw [e0] at hf
    obtain ⟨b1, b2, b3, b4⟩ := a6 f hf
    refine ⟨?_, by rw [o.2.1 42 (by decide), e]; exact b2, by rw [o.2.1 43 (by decide), e]; exact b3, by rw [o.2.1 44 (by decide), e]; exact b4⟩
    show FrM M' f (aFr s' f).1 (eTx E (aFr s' f).1) (eTl E (aFr s' f).1)
    rw [e]
    exact b1.pl o
  · rw [e0] at hf
    exact MS.ky ⟨a1, a2, a3, a4, a5, a6, a7⟩ o hc hs hf hx
theorem MS.touch (h : MS M E s rn fu) (hP : PI E s) (hE : EnP E) {f i : Nat} (ho : opB (fg E s f i / 1000) = true) (hN : nFu E s ≤ nFu E (uPs s f i 2)) (hc : CuM M s row rn) : MS M E (uPs s f i 2) rn fu ∧ CuM M (uPs s f i 2) row rn ∧ KeepM M M s (uPs s f i 2) D row F rn :=
  h.move hc PlO.rf (KyS.touch hP hE ho) h.2.2.1 h.2.1.2.1 h.2.1.2.2 (Tc_up (by decide)) hN
theorem nFu_up {f i x : Nat} (hx : x ≠ 0) : nFu E s ≤ nFu E (uPs s f i x) := by
  refine cnt_imp (fun k _ h => ?_)
  obtain ⟨a, b, c, d⟩ := of_decide_eq_true h
  refine decide_eq_true ⟨a, b, c, ?_⟩
  show (if k / 30 = f ∧ k % 30 = i then x else aPs s (k / 30) (k % 30)) ≠ 0
  by_cases z : k / 30 = f ∧ k % 30 = i
  · rw [if_pos z]; exact hx
  · rw [if_neg z]; exact d
theorem nFu_ch {Z : Nat → Nat → Prop} (h : ChZ Z s s') : nFu E s ≤ nFu E s' := by
  refine cnt_imp (fun k _ hh => ?_)
  obtain ⟨a, b, c, d⟩ := of_decide_eq_true hh
  have fr := h.2.1 _ a
  have e1 : fg E s' (k / 30) = fg E s (k / 30) := by show eTx E (aFr s' _).1 = _; rw [fr]
  have e2 : fn E s' (k / 30) = fn E s (k / 30) := by show eTl E (aFr s' _).1 = _; rw [fr]
  exact decide_eq_true ⟨Nat.lt_of_lt_of_le a h.1, by rw [e2]; exact b, by rw [e1]; exact c, by rw [h.nz d]; exact d⟩
theorem Tc_ch {Z : Nat → Nat → Prop} (h : ChZ Z s s') : Tc s ≤ Tc s' := by
  refine cnt_imp (fun k _ hh => ?_)
  have d := of_decide_eq_true hh
  exact decide_eq_true (by rw [h.nz d]; exact d)
theorem nFu_new {f i : Nat} (hf : f < 41) (hfn : f < aNf s) (hi : i < fn E s f) (h30 : i < 30) (hk : fg E s f i / 1000 = 4) (h0 : aPs s f i = 0) : nFu E s + 1 ≤ nFu E (uPs s f i 2) := by
  refine cnt_lt (j := 30 * f + i) (fun k _ h => ?_) (by omega) ?_ ?_
  · obtain ⟨a, b, c, d⟩ := of_decide_eq_true h
    refine decide_eq_true ⟨a, b, c, ?_⟩
    show (if k / 30 = f ∧ k % 30 = i then 2 else aPs s (k / 30) (k % 30)) ≠ 0
    by_cases z : k / 30 = f ∧ k % 30 = i
    · rw [if_pos z]; decide
    · rw [if_neg z]; exact d
  · rw [show (30 * f + i) / 30 = f by omega, show (30 * f + i) % 30 = i by omega]
    exact decide_eq_false (fun z => z.2.2.2 h0)
  · rw [show (30 * f + i) / 30 = f by omega, show (30 * f + i) % 30 = i by omega]
    refine decide_eq_true ⟨hfn, hi, hk, ?_⟩
    show (if f = f ∧ i = i then 2 else aPs s f i) ≠ 0
    rw [if_pos ⟨rfl, rfl⟩]; decide
end MSD
