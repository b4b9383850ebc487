/-! THE REFERENCE COMES TO A CALL -/
section MCA
variable {E : Env} {s s1 s' : ASt} {M M1 M' : Md} {rn fu D row f i F : Nat} {acc : List Int}
theorem MS.fr (h : MS M E s rn fu) (hf : f < aNf s) : FrM M f (aFr s f).1 (fg E s f) (fn E s f) := (h.2.2.2.2.2.1 f hf).1
theorem RowM.t (h : RowM M row acc) (o : ∀ k, (k < 60 ∨ 64 < k) → M'.2 k = M.2 k) : RowM M' row acc :=
  ⟨h.1, by rw [o 49 (by decide)]; exact h.2.1, h.2.2.1, fun k hk => by rw [o 50 (by decide)]; exact h.2.2.2 k hk⟩
/-- a title's way -/
theorem MS.way (h : MS M E s rn fu) (hE : EnP E) {v : Nat} (hv : v < 24) (c40 : aCa s < 40) :
   ∃ M4, fX12_wayOf (v : Int) (mSet M 65 ((M.1 65) + 1)) = some ((wayF E 5 v 0).1, M4) ∧ M4.2 = M.2 ∧ (∀ j, j ≠ 65 → j ≠ 68 → M4.1 j = M.1 j) ∧ M4.1 65 = ((aCa s + 1 : Nat) : Int) ∧ SeM M4 (uSe (uCa s) 0 0 (wayF E 5 v 0).2 0 0) ∧ ((wayF E 5 v 0).1 = -1 ∨ (0 ≤ (wayF E 5 v 0).1 ∧ (wayF E 5 v 0).1 < 24 ∧ eSn E (wayF E 5 v 0).1.toNat ≠ -1)) := by
  obtain ⟨a1, a2, a3, a4, a5, a6, a7⟩ := h
  have ex : ∀ M1, MO (fun k => k = 68) (fun _ => False) (mSet M 65 ((M.1 65) + 1)) M1 → ExO M M1 := fun M1 q => ⟨fun j hj => (q.1 j (by omega)).trans (mS2 _ _ (by omega)), fun k _ => q.2 k (fun z => z)⟩
  have hred : ∀ t, t < 24 → eSn E t ≠ -1 → eTx E (eSn E t).toNat 0 / 1000 = 12 → (eTx E (eSn E t).toNat 0 % 1000).toNat < 24 := fun t t1 t2 t3 => by
    have z := hE.1 t t1 t2
    have y := z.2.2 0 (by have := z.2.1.1.1; omega)
    unfold okt at y
    omega
  obtain ⟨M4, e, o, e68⟩ := X12_wayOf_ (M := mSet M 65 ((M.1 65) + 1)) (E := E) (S := aRd s) (t := v) (fun M1 q t ht => (a1 M1 (ex M1 q)).1 t ht) (fun t ht hne => by
    have z := hE.1 t ht hne
    have q := (a1 M (ExO.rf M)).2.2.2 t ht hne
    have y := z.2.2 0 (by have := z.2.1.1.1; omega)
    unfold okt at y
    refine ⟨q.1, q.2.1, q.2.2.2 0 (by have := z.2.1.1.1; omega), by omega, by omega⟩) hv ((mS2 _ _ (by decide)).trans a3.2.2.1.1) a3.2.2.1.2
  have w := wayF_or E (aRd s) 5 v 0
  rw [Nat.or_zero] at w
  have wl := wayF_lt E 5 v 0 (by decide) hv hred
  have q : ∀ j, j ≠ 65 → j ≠ 68 → M4.1 j = M.1 j := fun j h1 h2 => (o.1 j h2).trans (mS2 _ _ h1)
  rw [w] at e e68
  refine ⟨M4, e, funext (fun k => o.2 k (fun z => z)), q, ?_, ?_, wl.2⟩
  · rw [o.1 65 (by decide), mS1, a2.2.1]; omega
  · exact SeM.mk (s := uCa s) a3 (by rw [q 66 (by decide) (by decide), Nat.or_zero]; exact a3.1.1) (by rw [q 67 (by decide) (by decide), Nat.or_zero]; exact a3.2.1.1) e68 (by rw [q 69 (by decide) (by decide), Nat.or_zero]; exact a3.2.2.2.1.1) (by rw [q 70 (by decide) (by decide), Nat.or_zero]; exact a3.2.2.2.2.1) (by decide) (by decide) wl.1 (by decide) (by decide)
theorem MS.called (h : MS M E s rn fu) (hP : PI E s) (hf : f < aNf s) {M4 : Md} (e2 : M4.2 = M.2) {t : Int} (ht : I32 t) : fX12_isCalledFrom (f : Int) t M4 = some (if cmF s 41 f t = true then 1 else 0, M4) := by
  refine X12_isCalledFrom_ (nf := aNf s) hP.n41 (fun g hg => ?_) hf ht
  obtain ⟨b1, b2, b3, b4⟩ := h.2.2.2.2.2.1 g hg
  rw [e2]
  refine ⟨b2, (hP.1 g hg).1.2.1, b4, ?_⟩
  rcases (hP.1 g hg).2 with z | z
  · exact Or.inl z.1
  · exact Or.inr ⟨z.1, z.2.1⟩
/-- no more calls -/
theorem X12_call_40 (h : MS M E s rn fu) (hP : PI E s) (hE : EnP E) (hf : f < aNf s) (hi : i < fn E s f) (hr : RowM M row acc) (c40 : 40 ≤ aCa s) (c : Int) :
   ∃ M2, fX12_expandCall (f : Int) (i : Int) c (row : Int) M = some ((), M2) ∧ RoO row M M2 ∧ RowM M2 row (apl acc 9003) := by
  have hF := h.fr hf
  have h40 : aCa s = 40 := by have := hP.2.2.2; omega
  obtain ⟨M2, e2, r2, o2⟩ := X12_append_ (x := 9003) hr (by decide) (by decide)
  unfold fX12_expandCall
  rw [cal_of (X12_codeAt_ hF hi), bnd_eq, if_neg (fun z => z (by rw [h.2.1.2.1, h40]; rfl)), cal_of e2]
  exact ⟨M2, rfl, o2, r2⟩
/-- a call that comes to a number -/
theorem X12_call_no (h : MS M E s rn fu) (hP : PI E s) (hE : EnP E) (hf : f < aNf s) (hi : i < fn E s f) (ek : fg E s f i / 1000 = 2) (hr : RowM M row acc) (c40 : ¬ 40 ≤ aCa s) (c : Int) :
   ((wayF E 5 (fg E s f i % 1000).toNat 0).1 = -1 → ∃ M2, fX12_expandCall (f : Int) (i : Int) c (row : Int) M = some ((), M2) ∧ (∀ D, PlO row D M M2) ∧ M2.1 59 = M.1 59 ∧ M2.1 71 = M.1 71 ∧ M2.1 65 = ((aCa s + 1 : Nat) : Int) ∧ SeM M2 (uSe (uCa s) (2 ^ (fg E s f i % 1000).toNat) 0 (wayF E 5 (fg E s f i % 1000).toNat 0).2 0 0) ∧ RowM M2 row (apl acc (2000 + fg E s f i % 1000))) ∧
   ((wayF E 5 (fg E s f i % 1000).toNat 0).1 ≠ -1 → cmF s 41 f (wayF E 5 (fg E s f i % 1000).toNat 0).1 = true → ∃ M2, fX12_expandCall (f : Int) (i : Int) c (row : Int) M = some ((), M2) ∧ (∀ D, PlO row D M M2) ∧ M2.1 59 = M.1 59 ∧ M2.1 71 = M.1 71 ∧ M2.1 65 = ((aCa s + 1 : Nat) : Int) ∧ SeM M2 (uSe (uCa s) 0 0 (wayF E 5 (fg E s f i % 1000).toNat 0).2 0 0) ∧ RowM M2 row (apl acc 9001)) ∧
   ((wayF E 5 (fg E s f i % 1000).toNat 0).1 ≠ -1 → ¬ cmF s 41 f (wayF E 5 (fg E s f i % 1000).toNat 0).1 = true → 6 ≤ (aFr s f).2.2.1 → ∃ M2, fX12_expandCall (f : Int) (i : Int) c (row : Int) M = some ((), M2) ∧ (∀ D, PlO row D M M2) ∧ M2.1 59 = M.1 59 ∧ M2.1 71 = M.1 71 ∧ M2.1 65 = ((aCa s + 1 : Nat) : Int) ∧ SeM M2 (uSe (uCa s) 0 0 (wayF E 5 (fg E s f i % 1000).toNat 0).2 0 0) ∧ RowM M2 row (apl acc 9002)) := by
  have hF := h.fr hf
  have h41 := hP.n41
  obtain ⟨hT, hK⟩ := hP.tx hE hf
  have hok := hK i hi
  unfold okt at hok
  obtain ⟨k1, k2, k3, k4⟩ := hF.k hi
  have ev : fg E s f i % 1000 = (((fg E s f i % 1000).toNat : Nat) : Int) := by omega
  have hv : (fg E s f i % 1000).toNat < 24 := by omega
  generalize (fg E s f i % 1000).toNat = v at *
  obtain ⟨M4, w1, w2, w3, w4, w5, w6⟩ := h.way hE hv (by omega)
  have oP : ∀ D, PlO row D M M4 := fun D => ⟨fun j a => w3 j (by omega) (by omega), fun k _ => by rw [w2], fun k _ => by rw [w2], fun k _ => by rw [w2], fun q k _ _ _ => by rw [w2]⟩
  have r4 : RowM M4 row acc := hr.t (fun k _ => by rw [w2])
  have start : fX12_expandCall (f : Int) (i : Int) c (row : Int) M = (bnd (fun  (M_183 : Md) =>
some ((), M_183)) fun J183 =>
if ¬ w32 (wayF E 5 v 0).1 = w32 (-1) then
cal (fX12_isCalledFrom (f : Int) (wayF E 5 v 0).1 M4) fun r7 M6 =>
if w32 r7 = 0 then
if inR (f : Int) (mLen 43) then
if ¬ w32 (M6.2 43 (ix (f : Int))) = w32 6 then
cal (fX12_seenAt (wayF E 5 v 0).1 M6) fun r9 M8 =>
if inR (f : Int) (mLen 43) then
cal (fX12_newFrame r9 (wayF E 5 v 0).1 ((M8.2 43 (ix (f : Int))) + 1) (f : Int) M8) fun r11 M10 =>
cal (fX12_layArguments r11 (f : Int) ((i : Int) + 1) c M10) fun r13 M12 =>
if inR r9 (mLen 10) then
cal (fX12_task 0 r11 0 (M12.2 10 (ix r9)) (row : Int) M12) fun r15 M14 =>
J183 M14
else none
else none
else
cal (fX12_append (row : Int) 9002 M6) fun r17 M16 =>
J183 M16
else none
else
cal (fX12_append (row : Int) 9001 M6) fun r19 M18 =>
J183 M18
else
cal (fX12_append (row : Int) (2000 + (v : Int)) M4) fun r21 M20 =>
bnd (mSet M20 66 (orI (M20.1 66) (shlI 1 (v : Int)))) fun (M22 : Md) =>
J183 M22) := by
    unfold fX12_expandCall
    rw [cal_of (X12_codeAt_ hF hi), bnd_eq, if_pos (by rw [h.2.1.2.1, w32_n (by omega), show w32 40 = 40 from rfl]; omega), bnd_eq, k2, ev, cal_of w1]
  rw [ev]
  refine ⟨fun c1 => ?_, fun c1 c2 => ?_, fun c1 c2 c3 => ?_⟩
  · obtain ⟨M2, e2, r2, o2⟩ := X12_append_ (x := 2000 + (v : Int)) r4 (by omega) (by omega)
    have h66 : M2.1 66 = (aLk s : Int) := by rw [o2.1, w3 66 (by decide) (by decide)]; exact h.2.2.1.1.1
    rw [start, bnd_eq, if_neg (fun z => z (by rw [c1])), cal_of e2, bnd_eq, h66, orI_set h.2.2.1.1.2 (by omega)]
    have q : ∀ j, j ≠ 66 → (mSet M2 66 ((aLk s ||| 2 ^ v : Nat) : Int)).1 j = M4.1 j := fun j hj => (mS2 _ _ hj).trans (congrFun o2.1 j)
    refine ⟨_, rfl, fun D => ((oP D).tr o2.pl).tr (PlO.set (by decide)), (q 59 (by decide)).trans (w3 59 (by decide) (by decide)), (q 71 (by decide)).trans (w3 71 (by decide) (by decide)), (q 65 (by decide)).trans w4, ?_, r2⟩
    refine SeM.mk (s := uCa s) h.2.2.1 (mS1 _ _ _) ?_ ((q 68 (by decide)).trans w5.2.2.1.1) ?_ ?_ (Nat.pow_lt_pow_right (n := 24) (by decide) (by omega)) (by decide) ?_ (by decide) (by decide)
    · rw [q 67 (by decide)]; exact w5.2.1.1
    · rw [q 69 (by decide)]; exact w5.2.2.2.1.1
    · rw [q 70 (by decide)]; exact w5.2.2.2.2.1
    · exact (wayF_lt E 5 v 0 (by decide) hv (fun t t1 t2 t3 => by
        have z := hE.1 t t1 t2
        have y := z.2.2 0 (by have := z.2.1.1.1; omega)
        unfold okt at y
        omega)).1
  · have hw := w6.resolve_left c1
    obtain ⟨M2, e2, r2, o2⟩ := X12_append_ (x := 9001) r4 (by decide) (by decide)
    rw [start, bnd_eq, if_pos (by rw [w32_of (by omega) (by omega), show w32 (-1) = -1 from rfl]; omega), cal_of (h.called hP hf w2 ⟨by omega, by omega⟩), if_pos c2, if_neg (by decide), cal_of e2]
    exact ⟨M2, rfl, fun D => (oP D).tr o2.pl, (congrFun o2.1 59).trans (w3 59 (by decide) (by decide)), (congrFun o2.1 71).trans (w3 71 (by decide) (by decide)), (congrFun o2.1 65).trans w4, w5.keep (fun j _ _ => congrFun o2.1 j), r2⟩
  · have hw := w6.resolve_left c1
    obtain ⟨M2, e2, r2, o2⟩ := X12_append_ (x := 9002) r4 (by decide) (by decide)
    have d6 : (aFr s f).2.2.1 = 6 := by have := (hP.1 f hf).1.2.2; omega
    have h43 : M4.2 43 f = ((aFr s f).2.2.1 : Int) := by rw [w2]; exact (h.2.2.2.2.2.1 f hf).2.2.1
    rw [start, bnd_eq, if_pos (by rw [w32_of (by omega) (by omega), show w32 (-1) = -1 from rfl]; omega), cal_of (h.called hP hf w2 ⟨by omega, by omega⟩), if_neg c2, if_pos (by decide), if_pos (in_41 (by omega) rfl), ix_n (by omega), h43, if_neg (fun z => z (by rw [d6]; rfl)), cal_of e2]
    exact ⟨M2, rfl, fun D => (oP D).tr o2.pl, (congrFun o2.1 59).trans (w3 59 (by decide) (by decide)), (congrFun o2.1 71).trans (w3 71 (by decide) (by decide)), (congrFun o2.1 65).trans w4, w5.keep (fun j _ _ => congrFun o2.1 j), r2⟩
/-- frames, tasks -/
def NwO (g D : Nat) (M M' : Md) : Prop := (∀ j, j ≠ 40 → j ≠ 59 → M'.1 j = M.1 j) ∧ (∀ k, ¬ ((41 ≤ k ∧ k ≤ 47) ∨ (60 ≤ k ∧ k ≤ 64)) → M'.2 k = M.2 k) ∧ (∀ k i, 41 ≤ k → k ≤ 44 → i ≠ g → M'.2 k i = M.2 k i) ∧ (∀ k i, 45 ≤ k → k ≤ 47 → i < 10 * g → M'.2 k i = M.2 k i) ∧ ∀ q i, 60 ≤ q → q ≤ 64 → i < D → M'.2 q i = M.2 q i
theorem NwO.ex {g : Nat} (h : NwO g D M M') : ExO M M' := ⟨fun j a => h.1 j (by omega) (by omega), fun k a => h.2.1 k (by omega)⟩
theorem MS.frame (h : MS M E s rn fu) (hP : PI E s) (hc : CuM M s row rn) {G : AFr} (o : NwO (aNf s) D M M') (h40 : M'.1 40 = (aNf s : Int) + 1) (hnew : FkM M' E (uFr s G) (aNf s)) (hky : ∀ x, x < 10 → KyM M' E (uFr s G) rn (aNf s) x) (h47 : ∀ x, x < 10 → M'.2 47 (10 * aNf s + x) = -1) :
   MS M' E (uFr s G) rn fu ∧ CuM M' (uFr s G) row rn ∧ KeepM M M' s (uFr s G) D row F rn := by
  obtain ⟨a1, a2, a3, a4, a5, a6, a7⟩ := h
  have old : ∀ g, g < aNf s → aFr (uFr s G) g = aFr s g := fun g hg => if_neg (Nat.ne_of_lt hg)
  have nf : aNf (uFr s G) = aNf s + 1 := rfl
  have pp : aPs (uFr s G) = aPs s := rfl
  have ww : aRw (uFr s G) = aRw s := rfl
  have row_ : ∀ {d r}, RowM M d r → RowM M' d r := fun hr => ⟨hr.1, by rw [o.2.1 49 (by decide)]; exact hr.2.1, hr.2.2.1, fun k hk => by rw [o.2.1 50 (by decide)]; exact hr.2.2.2 k hk⟩
  have nk : ∀ d, NK M s d → NK M' (uFr s G) d := by
    intro d hd g x hg hx z
    rcases Nat.lt_or_ge g (aNf s) with c | c
    · rw [o.2.2.2.1 47 _ (by decide) (by decide) (by omega)] at z
      rw [old g c, pp]
      exact hd g x c hx z
    · have e : g = aNf s := by omega
      rw [e, h47 x hx] at z
      omega
  have hN : nFu E s ≤ nFu E (uFr s G) := nFu_ch (ChZ.fr (Z := fun _ _ => True))
  refine ⟨⟨a1.step o.ex, ⟨by rw [h40, nf]; omega, by rw [o.1 65 (by decide) (by decide)]; exact a2.2.1, by rw [o.1 71 (by decide) (by decide)]; exact a2.2.2⟩, a3.keep (fun j b c => o.1 j (by omega) (by omega)), ⟨by rw [o.1 48 (by decide) (by decide)]; exact a4.1, a4.2.1, a4.2.2.1, by rw [o.1 51 (by decide) (by decide)]; exact a4.2.2.2.1, Nat.le_trans a4.2.2.2.2 hN⟩, row_ a5, fun g hg => ?_, fun g x hg hx => ?_⟩, ⟨hc.1, hc.2.1, nk _ hc.2.2⟩, ⟨o.ex, o.2.2.2.2, fun q k _ _ _ => by rw [o.2.1 q (by omega)], fun q k _ _ _ => by rw [o.2.1 q (by omega)], fun d _ _ => ⟨by rw [o.2.1 49 (by decide)], fun k _ => by rw [o.2.1 50 (by decide)]⟩, fun g x hg hx _ => o.2.2.2.1 47 _ (by decide) (by decide) (by omega), fun d _ z => nk d z⟩⟩
  · rcases Nat.lt_or_ge g (aNf s) with c | c
    · obtain ⟨⟨c1, c2, c3, c4, c5⟩, b2, b3, b4⟩ := a6 g c
      refine ⟨?_, by rw [o.2.2.1 42 g (by decide) (by decide) (by omega), old g c]; exact b2, by rw [o.2.2.1 43 g (by decide) (by decide) (by omega), old g c]; exact b3, by rw [o.2.2.1 44 g (by decide) (by decide) (by omega), old g c]; exact b4⟩
      show FrM M' g (aFr (uFr s G) g).1 (eTx E (aFr (uFr s G) g).1) (eTl E (aFr (uFr s G) g).1)
      rw [old g c]
      exact ⟨c1, c2, by rw [o.2.2.1 41 g (by decide) (by decide) (by omega)]; exact c3, c4, fun k hk => by rw [o.2.1 9 (by decide)]; exact c5 k hk⟩
    · have e : g = aNf s := by omega
      subst e
      exact hnew
  · rcases Nat.lt_or_ge g (aNf s) with c | c
    · have k := a7 g x c hx
      unfold KyM at k ⊢
      rw [old g c, pp, ww, o.2.2.2.1 45 _ (by decide) (by decide) (by omega), o.2.2.2.1 46 _ (by decide) (by decide) (by omega), o.2.2.2.1 47 _ (by decide) (by decide) (by omega)]
      rcases k with k | ⟨k1, k2, k3, k4⟩
      · exact Or.inl k
      · refine Or.inr ⟨k1, k2, ?_, k4.elim Or.inl (fun z => Or.inr ⟨z.1, by obtain ⟨d, y1, y2, y3⟩ := z.2; exact ⟨d, y1, y2, fun q => row_ (y3 q)⟩⟩)⟩
        rcases (hP.1 g c).2 with z | z
        · have := z.2 x
          omega
        · have ec := old (aFr s g).2.2.2.1.toNat (by omega)
          have e1 : fg E (uFr s G) (aFr s g).2.2.2.1.toNat = fg E s (aFr s g).2.2.2.1.toNat := by show eTx E (aFr _ _).1 = _; rw [ec]
          have e2 : fn E (uFr s G) (aFr s g).2.2.2.1.toNat = fn E s (aFr s g).2.2.2.1.toNat := by show eTl E (aFr _ _).1 = _; rw [ec]
          rw [e1, e2]
          exact k3
    · have e : g = aNf s := by omega
      subst e
      exact hky x hx
end MCA
