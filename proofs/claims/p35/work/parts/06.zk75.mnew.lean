/-! THE REFERENCE MAKES A FRAME, BEGINS A PART, HAS DONE ONE -/
section MNW
variable {E : Env} {s s1 s' : ASt} {M M1 M' : Md} {rn fu D row f i F cf q : Nat} {acc r : List Int}
theorem MS.txt (h : MS M E s rn fu) (hE : EnP E) {t g : Nat} (ht : t < 24) (hne : eSn E t ≠ -1) (hg : g < 41) (ex : ExO M M') (h41 : M'.2 41 g = eSn E t) : FrM M' g (eSn E t).toNat (eTx E (eSn E t).toNat) (eTl E (eSn E t).toNat) := by
  obtain ⟨b1, b2, b3, b4⟩ := (h.1 M' ex).2.2.2 t ht hne
  obtain ⟨c1, c2, c3⟩ := hE.1 t ht hne
  refine ⟨hg, b2, by rw [h41]; omega, c2.1.2, fun k hk => ⟨b4 k hk, ?_⟩⟩
  have := c3 k hk
  unfold okt at this
  omega
set_option maxHeartbeats 1000000 in
theorem X12_call_new (h : MS M E s rn fu) (hP : PI E s) (hE : EnP E) (hc : CuM M s row rn) (hf : f < aNf s) (hi : i < fn E s f) (ek : fg E s f i / 1000 = 2) (hr : RowM M row acc) (c40 : ¬ 40 ≤ aCa s) (hne : (wayF E 5 (fg E s f i % 1000).toNat 0).1 ≠ -1) (hcm : ¬ cmF s 41 f (wayF E 5 (fg E s f i % 1000).toNat 0).1 = true) (hd6 : ¬ 6 ≤ (aFr s f).2.2.1)
   (hun : ∀ p, i < p → p < fE (fg E s f) (fn E s f) i → aPs s f p = 0) (h59 : M.1 59 = (D : Int)) (hD : D < 4000) :
   ∃ M2, fX12_expandCall (f : Int) (i : Int) (fE (fg E s f) (fn E s f) i : Int) (row : Int) M = some ((), M2) ∧
    MS M2 E (uFr (uSe (uCa s) 0 0 (wayF E 5 (fg E s f i % 1000).toNat 0).2 0 0) ((eSn E (wayF E 5 (fg E s f i % 1000).toNat 0).1.toNat).toNat, (wayF E 5 (fg E s f i % 1000).toNat 0).1.toNat, (aFr s f).2.2.1 + 1, (f : Int), i, agF (fg E s f) (prs_ (fg E s f) (fn E s f) 30 (i + 1)) 0 (fun _ => -1))) rn fu ∧
    CuM M2 (uFr (uSe (uCa s) 0 0 (wayF E 5 (fg E s f i % 1000).toNat 0).2 0 0) ((eSn E (wayF E 5 (fg E s f i % 1000).toNat 0).1.toNat).toNat, (wayF E 5 (fg E s f i % 1000).toNat 0).1.toNat, (aFr s f).2.2.1 + 1, (f : Int), i, agF (fg E s f) (prs_ (fg E s f) (fn E s f) 30 (i + 1)) 0 (fun _ => -1))) row rn ∧
    KeepM M M2 s (uFr (uSe (uCa s) 0 0 (wayF E 5 (fg E s f i % 1000).toNat 0).2 0 0) ((eSn E (wayF E 5 (fg E s f i % 1000).toNat 0).1.toNat).toNat, (wayF E 5 (fg E s f i % 1000).toNat 0).1.toNat, (aFr s f).2.2.1 + 1, (f : Int), i, agF (fg E s f) (prs_ (fg E s f) (fn E s f) 30 (i + 1)) 0 (fun _ => -1))) D row F rn ∧
    RowM M2 row acc ∧ M2.1 59 = (D : Int) + 1 ∧ TkM M2 D 0 (aNf s : Int) ((0 : Nat) : Int) (eTl E (eSn E (wayF E 5 (fg E s f i % 1000).toNat 0).1.toNat).toNat : Int) (row : Int) := by
  have hF := h.fr hf
  have h41 := hP.n41
  have hg41 : aNf s < 41 := by have := hP.2.1.2; omega
  obtain ⟨hT, hK⟩ := hP.tx hE hf
  have hok := hK i hi
  unfold okt at hok
  obtain ⟨k1, k2, k3, k4⟩ := hF.k hi
  have ev : fg E s f i % 1000 = (((fg E s f i % 1000).toNat : Nat) : Int) := by omega
  have hv : (fg E s f i % 1000).toNat < 24 := by omega
  generalize hvv : (fg E s f i % 1000).toNat = v at *
  obtain ⟨M4, w1, w2, w3, w4, w5, w6⟩ := h.way hE hv (by omega)
  obtain ⟨x1, x2, x3⟩ := w6.resolve_left hne
  have oP : PlO row D M M4 := ⟨fun j a => w3 j (by omega) (by omega), fun k _ => by rw [w2], fun k _ => by rw [w2], fun k _ => by rw [w2], fun q k _ _ _ => by rw [w2]⟩
  have r4 : RowM M4 row acc := hr.t (fun k _ => by rw [w2])
  obtain ⟨t, ht⟩ : ∃ t : Nat, (wayF E 5 v 0).1 = (t : Int) := ⟨(wayF E 5 v 0).1.toNat, by omega⟩
  have hcall := h.called hP hf w2 (t := (wayF E 5 v 0).1) ⟨by omega, by omega⟩
  generalize (wayF E 5 v 0).2 = rd at *
  rw [ht] at hcall w1 hcm hne x3 ⊢
  rw [Int.toNat_natCast] at x3 ⊢
  obtain ⟨m1, m2, m3⟩ := h.move (F := F) hc oP (KyS.ca.tr (KyS.same (sSame.se (l := 0) (c := 0) (d := rd) (u := 0) (q := 0)))) w5 w4 (by rw [w3 71 (by decide) (by decide)]; exact h.2.1.2.2) (Nat.le_refl _) (Nat.le_refl _)
  have hP1 : PI E (uSe (uCa s) 0 0 rd 0 0) := (hP.ca (by omega)).se
  generalize hS : uSe (uCa s) 0 0 rd 0 0 = s1 at *
  have eN : aNf s1 = aNf s := by rw [← hS]; rfl
  have eF : aFr s1 = aFr s := by rw [← hS]; rfl
  have eP : aPs s1 = aPs s := by rw [← hS]; rfl
  have eg : ∀ f, fg E s1 f = fg E s f := fun f => by show eTx E (aFr s1 f).1 = _; rw [eF]
  have en : ∀ f, fn E s1 f = fn E s f := fun f => by show eTl E (aFr s1 f).1 = _; rw [eF]
  have hseen := (h.1 M4 oP.ex).1 t (by omega)
  obtain ⟨c1, c2, c3⟩ := hE.1 t (by omega) x3
  have h43 : M4.2 43 f = ((aFr s f).2.2.1 : Int) := by rw [w2]; exact (h.2.2.2.2.2.1 f hf).2.2.1
  have h40 : M4.1 40 = (aNf s : Int) := by rw [w3 40 (by decide) (by decide)]; exact h.2.1.1
  have hver := (h.1 M4 oP.ex).2.2.2 t (by omega) x3
  obtain ⟨M10, n1, n2, n3, n4, n5, n6, n7, n8⟩ := X12_newFrame_ h40 hg41 (eSn E t) (t : Int) (((aFr s f).2.2.1 : Int) + 1) (f : Int)
  have hF10 : FrM M10 f (aFr s f).1 (fg E s f) (fn E s f) := by
    obtain ⟨d1, d2, d3, d4, d5⟩ := hF
    exact ⟨d1, d2, by rw [n2.2.2.1 41 f (by decide) (by omega), w2]; exact d3, d4, fun k hk => by rw [n2.2.1 9 (by decide), w2]; exact d5 k hk⟩
  obtain ⟨M12, l1, l2, l3⟩ := X12_layArguments_ hF10 hT hK hi (Or.inl ek) hg41 (fun x hx => Or.inl ⟨rfl, (n8 x hx).1⟩)
  have ex12 : ExO M M12 := oP.ex.tr ⟨fun j a => by rw [l2.1]; exact n2.1 j (by omega), fun k a => by rw [l2.2.1 k (by omega) (by omega)]; exact n2.2.1 k (by omega)⟩
  have h10 : M12.2 10 (eSn E t).toNat = (eTl E (eSn E t).toNat : Int) := ((h.1 M12 ex12).2.2.2 t (by omega) x3).2.2.1
  have h59' : M12.1 59 = (D : Int) := by rw [l2.1, n2.1 59 (by decide), w3 59 (by decide) (by decide)]; exact h59
  obtain ⟨M14, t1, t2, t3, t4⟩ := X12_task_ h59' hD 0 (aNf s : Int) ((0 : Nat) : Int) (eTl E (eSn E t).toNat : Int) (row : Int)
  have oN : NwO (aNf s1) D M4 M14 := by
    rw [eN]
    refine ⟨fun j a b => ?_, fun k a => ?_, fun k j a b c => ?_, fun k j a b c => ?_, fun q j a b c => ?_⟩
    · rw [t4.1 j b, l2.1]; exact n2.1 j a
    · rw [t4.2.1 k (by omega), l2.2.1 k (by omega) (by omega)]; exact n2.2.1 k (by omega)
    · rw [t4.2.1 k (by omega), l2.2.1 k (by omega) (by omega)]; exact n2.2.2.1 k j b c
    · rw [t4.2.1 k (by omega), l2.2.2 k j (Or.inl c)]; exact n2.2.2.2 k j (Or.inl c) a
    · rw [t4.2.2 q j (by omega), l2.2.1 q (by omega) (by omega), n2.2.1 q (by omega)]
  have new : aFr (uFr s1 ((eSn E t).toNat, t, (aFr s f).2.2.1 + 1, (f : Int), i, agF (fg E s f) (prs_ (fg E s f) (fn E s f) 30 (i + 1)) 0 (fun _ => -1))) (aNf s1) = ((eSn E t).toNat, t, (aFr s f).2.2.1 + 1, (f : Int), i, agF (fg E s f) (prs_ (fg E s f) (fn E s f) 30 (i + 1)) 0 (fun _ => -1)) := if_pos rfl
  have old : ∀ g, g < aNf s1 → aFr (uFr s1 ((eSn E t).toNat, t, (aFr s f).2.2.1 + 1, (f : Int), i, agF (fg E s f) (prs_ (fg E s f) (fn E s f) 30 (i + 1)) 0 (fun _ => -1))) g = aFr s1 g := fun g hg => if_neg (Nat.ne_of_lt hg)
  have k47 : ∀ x, x < 10 → M14.2 47 (10 * aNf s1 + x) = -1 := fun x hx => by rw [eN, t4.2.1 47 (by decide), l2.2.1 47 (by decide) (by decide)]; exact (n8 x hx).2
  have ppS : aPs (uFr s1 ((eSn E t).toNat, t, (aFr s f).2.2.1 + 1, (f : Int), i, agF (fg E s f) (prs_ (fg E s f) (fn E s f) 30 (i + 1)) 0 (fun _ => -1))) = aPs s1 := rfl
  have hfk : FkM M14 E (uFr s1 ((eSn E t).toNat, t, (aFr s f).2.2.1 + 1, (f : Int), i, agF (fg E s f) (prs_ (fg E s f) (fn E s f) 30 (i + 1)) 0 (fun _ => -1))) (aNf s1) := by
    unfold FkM
    show FrM M14 (aNf s1) (aFr _ (aNf s1)).1 (eTx E (aFr _ (aNf s1)).1) (eTl E (aFr _ (aNf s1)).1) ∧ _
    rw [new, eN]
    refine ⟨h.txt hE (by omega) x3 hg41 (ex12.tr ⟨fun j a => t4.1 j (by omega), fun k a => t4.2.1 k (by omega)⟩) ?_, ?_, ?_, ?_⟩
    · rw [t4.2.1 41 (by decide), l2.2.1 41 (by decide) (by decide)]; exact n4
    · rw [t4.2.1 42 (by decide), l2.2.1 42 (by decide) (by decide)]; exact n5
    · rw [t4.2.1 43 (by decide), l2.2.1 43 (by decide) (by decide), n6]
      show ((aFr s f).2.2.1 : Int) + 1 = (((aFr s f).2.2.1 + 1 : Nat) : Int)
      omega
    · rw [t4.2.1 44 (by decide), l2.2.1 44 (by decide) (by decide)]; exact n7
  have hky : ∀ x, x < 10 → KyM M14 E (uFr s1 ((eSn E t).toNat, t, (aFr s f).2.2.1 + 1, (f : Int), i, agF (fg E s f) (prs_ (fg E s f) (fn E s f) 30 (i + 1)) 0 (fun _ => -1))) rn (aNf s1) x := by
    intro x hx
    have k7 := k47 x hx
    unfold KyM
    rw [new, k7, eN]
    have e5 : M14.2 45 (10 * aNf s + x) = M12.2 45 (10 * aNf s + x) := by rw [t4.2.1 45 (by decide)]
    have e6 : M14.2 46 (10 * aNf s + x) = M12.2 46 (10 * aNf s + x) := by rw [t4.2.1 46 (by decide)]
    have ef := old f (by omega)
    have eg' : fg E (uFr s1 ((eSn E t).toNat, t, (aFr s f).2.2.1 + 1, (f : Int), i, agF (fg E s f) (prs_ (fg E s f) (fn E s f) 30 (i + 1)) 0 (fun _ => -1))) f = fg E s f := by show eTx E (aFr _ f).1 = _; rw [ef, eF]
    have en' : fn E (uFr s1 ((eSn E t).toNat, t, (aFr s f).2.2.1 + 1, (f : Int), i, agF (fg E s f) (prs_ (fg E s f) (fn E s f) 30 (i + 1)) 0 (fun _ => -1))) f = fn E s f := by show eTl E (aFr _ f).1 = _; rw [ef, eF]
    rw [e5, e6]
    rcases l3 x hx with ⟨y1, y2⟩ | ⟨y1, y2, y3⟩
    · exact Or.inl ⟨y1, y2, rfl⟩
    · refine Or.inr ⟨y1, y2, ?_, Or.inl ⟨?_, rfl⟩⟩
      · show M12.2 46 _ = (fE (fg E _ ((f : Int)).toNat) (fn E _ ((f : Int)).toNat) _ : Int)
        rw [Int.toNat_natCast, eg', en']
        exact y3
      · show aPs _ ((f : Int)).toNat _ = 0
        rw [Int.toNat_natCast, ppS, eP]
        rcases agF_mem (g := fg E s f) (l := prs_ (fg E s f) (fn E s f) 30 (i + 1)) (c := 0) (a := fun _ => -1) (x := x) with e | ⟨p, p1, p2⟩
        · rw [e] at y1; exact absurd y1 (by decide)
        · obtain ⟨q1, q2, q3, q4, q5⟩ := prs_sub hT hi (by rw [ek]; rfl) p1
          show aPs s f (agF _ _ 0 (fun _ => -1) x).toNat = 0
          rw [p2, Int.toNat_natCast]
          exact hun p q1 q2
  obtain ⟨z1, z2, z3⟩ := m1.frame (F := F) hP1 m2 oN (by rw [eN, t4.1 40 (by decide), l2.1]; exact n3) hfk hky k47
  refine ⟨M14, ?_, z1, z2, m3.tr z3 (Nat.le_refl _) (Nat.le_refl _) (Nat.le_refl _) (fun _ _ z => z) (Nat.le_of_eq eN.symm), ?_, t2, t3⟩
  · have t1' := t1
    rw [show ((0 : Nat) : Int) = 0 from rfl] at t1'
    unfold fX12_expandCall
    have w41 : ¬ w32 (t : Int) = w32 (-1) := by rw [w32_n (by omega), show w32 (-1) = -1 from rfl]; omega
    rw [cal_of (X12_codeAt_ hF hi), bnd_eq, if_pos (by rw [h.2.1.2.1, w32_n (by omega), show w32 40 = 40 from rfl]; omega), bnd_eq, k2, ev, cal_of w1, bnd_eq, if_pos w41, cal_of hcall, if_neg hcm, if_pos (by decide), if_pos (in_41 (by omega) rfl), ix_n (by omega), h43,
      if_pos (by rw [w32_n (by omega), show w32 6 = 6 from rfl]; omega), cal_of hseen, if_pos (in_41 (by omega) rfl), h43, cal_of n1, cal_of l1, show eSn E t = (((eSn E t).toNat : Nat) : Int) by omega, if_pos (inM (n := 120) rfl hver.2.1 (by decide)), ix_n (by have := hver.2.1; omega), h10, cal_of t1']
  · have e49 : ∀ k, k = 49 ∨ k = 50 → M14.2 k = M4.2 k := fun k hk => by rw [t4.2.1 k (by omega), l2.2.1 k (by omega) (by omega)]; exact n2.2.1 k (by omega)
    exact ⟨r4.1, by rw [e49 49 (by decide)]; exact r4.2.1, r4.2.2.1, fun k hk => by rw [e49 50 (by decide)]; exact r4.2.2.2 k hk⟩
/-- a part is begun -/
def BgO (rn D : Nat) (M M' : Md) : Prop := (∀ j, j ≠ 48 → j ≠ 59 → M'.1 j = M.1 j) ∧ (∀ k, ¬ (k = 47 ∨ k = 49 ∨ k = 58 ∨ (60 ≤ k ∧ k ≤ 64)) → M'.2 k = M.2 k) ∧ (∀ d, d ≠ rn → M'.2 49 d = M.2 49 d) ∧ ∀ q i, 60 ≤ q → q ≤ 64 → i < D → M'.2 q i = M.2 q i
/-- an argument's place -/
def Kpl (s : ASt) (g x cf q : Nat) : Prop := (aFr s g).2.2.2.2.2 x ≠ -1 ∧ (aFr s g).2.2.2.1.toNat = cf ∧ ((aFr s g).2.2.2.2.2 x).toNat = q
theorem MS.begin_ (h : MS M E s rn fu) (hP : PI E s) (hcf : cf < aNf s) (hq : q < fn E s cf) (h0 : aPs s cf q = 0) (o : BgO rn D M M') (h48 : M'.1 48 = ((rn + 1 : Nat) : Int)) (h49 : M'.2 49 rn = 0) (hF : ∀ j, j < 32 * F → M'.2 58 j = M.2 58 j)
   (hkey : ∀ g x, g < aNf s → x < 10 → (Kpl s g x cf q → M'.2 47 (10 * g + x) = (rn : Int)) ∧ (¬ Kpl s g x cf q → M'.2 47 (10 * g + x) = M.2 47 (10 * g + x))) :
   MS M' E (uPs s cf q 1) (rn + 1) fu ∧ CuM M' (uPs s cf q 1) rn (rn + 1) ∧ KeepM M M' s (uPs s cf q 1) D row F rn ∧ RowM M' rn [] := by
  obtain ⟨a1, a2, a3, a4, a5, a6, a7⟩ := h
  have ex : ExO M M' := ⟨fun j a => o.1 j (by omega) (by omega), fun k a => o.2.1 k (by omega)⟩
  have h41 := hP.n41
  have n30 : fn E s cf ≤ 30 := (a6 cf hcf).1.2.2.2.1
  have tc : Tc (uPs s cf q 1) = Tc s + 1 := Tc_new (by decide) (by omega) (by omega) h0
  have tl := Tc_le (uPs s cf q 1)
  have st1 : aPs (uPs s cf q 1) cf q = 1 := if_pos ⟨rfl, rfl⟩
  have stn : ∀ g p, ¬ (g = cf ∧ p = q) → aPs (uPs s cf q 1) g p = aPs s g p := fun g p c => if_neg c
  have row_ : ∀ {d r}, d < rn → RowM M d r → RowM M' d r := fun hd hr => ⟨hr.1, by rw [o.2.2.1 _ (by omega)]; exact hr.2.1, hr.2.2.1, fun k hk => by rw [o.2.1 50 (by decide)]; exact hr.2.2.2 k hk⟩
  have nk : ∀ d, d < rn → NK M s d → NK M' (uPs s cf q 1) d := by
    intro d hd hn g x hg hx z
    show aPs (uPs s cf q 1) (aFr s g).2.2.2.1.toNat ((aFr s g).2.2.2.2.2 x).toNat = 1
    by_cases c : Kpl s g x cf q
    · rw [c.2.1, c.2.2]; exact st1
    · rw [(hkey g x hg hx).2 c] at z
      have y := hn g x hg hx z
      by_cases c2 : (aFr s g).2.2.2.1.toNat = cf ∧ ((aFr s g).2.2.2.2.2 x).toNat = q
      · rw [c2.1, c2.2]; exact st1
      · rw [stn _ _ c2]; exact y
  refine ⟨⟨a1.step ex, ⟨by rw [o.1 40 (by decide) (by decide)]; exact a2.1, by rw [o.1 65 (by decide) (by decide)]; exact a2.2.1, by rw [o.1 71 (by decide) (by decide)]; exact a2.2.2⟩, a3.keep (fun j b c => o.1 j (by omega) (by omega)), ⟨h48, by omega, by omega, by rw [o.1 51 (by decide) (by decide)]; exact a4.2.2.2.1, Nat.le_trans a4.2.2.2.2 (nFu_up (by decide))⟩, row_ (by omega) a5, fun g hg => ?_, fun g x hg hx => ?_⟩, ⟨Nat.lt_succ_self _, by omega, fun g x hg hx z => ?_⟩,
    ⟨ex, o.2.2.2, fun q' k b c _ => by rw [o.2.1 q' (by omega)], fun q' j b c d => ?_, fun d b c => ⟨o.2.2.1 d (by omega), fun k _ => by rw [o.2.1 50 (by decide)]⟩, fun g x hg hx z => ?_, fun d hd z => nk d hd z⟩, ⟨by omega, h49, okr_nil, fun k hk => absurd hk (Nat.not_lt_zero _)⟩⟩
  · obtain ⟨⟨c1, c2, c3, c4, c5⟩, b2, b3, b4⟩ := a6 g hg
    exact ⟨⟨c1, c2, by rw [o.2.1 41 (by decide)]; exact c3, c4, fun k hk => by rw [o.2.1 9 (by decide)]; exact c5 k hk⟩, by rw [o.2.1 42 (by decide)]; exact b2, by rw [o.2.1 43 (by decide)]; exact b3, by rw [o.2.1 44 (by decide)]; exact b4⟩
  · have k := a7 g x hg hx
    unfold KyM at k ⊢
    show ((aFr s g).2.2.2.2.2 x = -1 ∧ _ ∧ _) ∨ _
    rw [o.2.1 45 (by decide), o.2.1 46 (by decide)]
    by_cases c : Kpl s g x cf q
    · have e47 := (hkey g x hg hx).1 c
      rcases k with k | ⟨k1, k2, k3, k4⟩
      · exact absurd k.1 c.1
      · refine Or.inr ⟨k1, k2, k3, Or.inr ⟨?_, rn, Nat.lt_succ_self _, e47, fun z => ?_⟩⟩
        · show aPs (uPs s cf q 1) (aFr s g).2.2.2.1.toNat ((aFr s g).2.2.2.2.2 x).toNat ≠ 0
          rw [c.2.1, c.2.2, st1]; decide
        · exfalso
          have z' : aPs (uPs s cf q 1) (aFr s g).2.2.2.1.toNat ((aFr s g).2.2.2.2.2 x).toNat = 2 := z
          rw [c.2.1, c.2.2, st1] at z'
          exact absurd z' (by decide)
    · have e47 := (hkey g x hg hx).2 c
      rw [e47]
      rcases k with k | ⟨k1, k2, k3, k4⟩
      · exact Or.inl k
      · have nst : aPs (uPs s cf q 1) (aFr s g).2.2.2.1.toNat ((aFr s g).2.2.2.2.2 x).toNat = aPs s (aFr s g).2.2.2.1.toNat ((aFr s g).2.2.2.2.2 x).toNat := stn _ _ (fun z => c ⟨by omega, z⟩)
        refine Or.inr ⟨k1, k2, k3, ?_⟩
        show (aPs (uPs s cf q 1) (aFr s g).2.2.2.1.toNat ((aFr s g).2.2.2.2.2 x).toNat = 0 ∧ _) ∨ (aPs (uPs s cf q 1) (aFr s g).2.2.2.1.toNat ((aFr s g).2.2.2.2.2 x).toNat ≠ 0 ∧ ∃ d, _ ∧ _ ∧ (aPs (uPs s cf q 1) (aFr s g).2.2.2.1.toNat ((aFr s g).2.2.2.2.2 x).toNat = 2 → _))
        rw [nst]
        rcases k4 with k4 | ⟨k4, d, k5, k6, k7⟩
        · exact Or.inl k4
        · exact Or.inr ⟨k4, d, by omega, k6, fun z => row_ k5 (k7 z)⟩
  · show aPs (uPs s cf q 1) (aFr s g).2.2.2.1.toNat ((aFr s g).2.2.2.2.2 x).toNat = 1
    by_cases c : Kpl s g x cf q
    · rw [c.2.1, c.2.2]; exact st1
    · exfalso
      rw [(hkey g x hg hx).2 c] at z
      rcases a7 g x hg hx with k | ⟨k1, k2, k3, k4⟩
      · rw [k.2.2] at z; omega
      · rcases k4 with k4 | ⟨k4, d, k5, k6, k7⟩
        · rw [k4.2] at z; omega
        · rw [k6] at z; omega
  · by_cases c58 : q' = 58
    · subst c58; exact hF j d
    · rw [o.2.1 q' (by omega)]
  · by_cases c : Kpl s g x cf q
    · exfalso
      rcases a7 g x hg hx with k | ⟨k1, k2, k3, k4⟩
      · exact c.1 k.1
      · rw [c.2.1, c.2.2] at k4
        rcases k4 with k4 | ⟨k4, d, k5, k6, k7⟩
        · exact z k4.2
        · exact k4 h0
    · exact (hkey g x hg hx).2 c
/-- a part is done -/
theorem MS.done_ (h : MS M E s rn fu) (h1 : aPs s cf q = 1) (hrow : ∀ g x, g < aNf s → x < 10 → Kpl s g x cf q → ∃ d : Nat, M.2 47 (10 * g + x) = (d : Int) ∧ RowM M d r) :
   MS M E (uDn s cf q r) rn fu ∧ ∀ d, NK M s d → (∀ g x, g < aNf s → x < 10 → Kpl s g x cf q → M.2 47 (10 * g + x) ≠ (d : Int)) → NK M (uDn s cf q r) d := by
  obtain ⟨a1, a2, a3, a4, a5, a6, a7⟩ := h
  have st1 : aPs (uDn s cf q r) cf q = 2 := if_pos ⟨rfl, rfl⟩
  have stn : ∀ g p, ¬ (g = cf ∧ p = q) → aPs (uDn s cf q r) g p = aPs s g p := fun g p c => if_neg c
  have sw1 : aRw (uDn s cf q r) cf q = r := if_pos ⟨rfl, rfl⟩
  have swn : ∀ g p, ¬ (g = cf ∧ p = q) → aRw (uDn s cf q r) g p = aRw s g p := fun g p c => if_neg c
  have hN : nFu E s ≤ nFu E (uDn s cf q r) := by
    refine cnt_imp (fun k _ h => ?_)
    obtain ⟨a, b, c, d⟩ := of_decide_eq_true h
    refine decide_eq_true ⟨a, b, c, ?_⟩
    show (if k / 30 = cf ∧ k % 30 = q then 2 else aPs s (k / 30) (k % 30)) ≠ 0
    by_cases z : k / 30 = cf ∧ k % 30 = q
    · rw [if_pos z]; decide
    · rw [if_neg z]; exact d
  refine ⟨⟨a1, a2, a3, ⟨a4.1, a4.2.1, Nat.le_trans a4.2.2.1 (Nat.add_le_add_left Tc_dn 2), a4.2.2.2.1, Nat.le_trans a4.2.2.2.2 hN⟩, a5, a6, fun g x hg hx => ?_⟩, fun d hd hne g x hg hx z => ?_⟩
  · have k := a7 g x hg hx
    unfold KyM at k ⊢
    show ((aFr s g).2.2.2.2.2 x = -1 ∧ _ ∧ _) ∨ _
    rcases k with k | ⟨k1, k2, k3, k4⟩
    · exact Or.inl k
    · refine Or.inr ⟨k1, k2, k3, ?_⟩
      show (aPs (uDn s cf q r) (aFr s g).2.2.2.1.toNat ((aFr s g).2.2.2.2.2 x).toNat = 0 ∧ _) ∨ (aPs (uDn s cf q r) (aFr s g).2.2.2.1.toNat ((aFr s g).2.2.2.2.2 x).toNat ≠ 0 ∧ ∃ d, _ ∧ _ ∧ (aPs (uDn s cf q r) (aFr s g).2.2.2.1.toNat ((aFr s g).2.2.2.2.2 x).toNat = 2 → RowM M d (aRw (uDn s cf q r) (aFr s g).2.2.2.1.toNat ((aFr s g).2.2.2.2.2 x).toNat)))
      by_cases c : (aFr s g).2.2.2.1.toNat = cf ∧ ((aFr s g).2.2.2.2.2 x).toNat = q
      · obtain ⟨d, y1, y2⟩ := hrow g x hg hx ⟨by omega, c⟩
        rw [c.1, c.2] at k4 ⊢
        rw [st1, sw1]
        rcases k4 with k4 | ⟨k4, d', k5, k6, k7⟩
        · rw [h1] at k4; exact absurd k4.1 (by decide)
        · have : d' = d := by rw [k6] at y1; omega
          subst this
          exact Or.inr ⟨by decide, d', k5, k6, fun _ => y2⟩
      · rw [stn _ _ c, swn _ _ c]
        exact k4
  · show aPs (uDn s cf q r) (aFr s g).2.2.2.1.toNat ((aFr s g).2.2.2.2.2 x).toNat = 1
    have hg' : g < aNf s := hg
    have y := hd g x hg' hx z
    by_cases c : (aFr s g).2.2.2.1.toNat = cf ∧ ((aFr s g).2.2.2.2.2 x).toNat = q
    · exfalso
      rcases a7 g x hg' hx with k | k
      · rw [k.2.2] at z; omega
      · exact hne g x hg' hx ⟨by omega, c⟩ z
    · rw [stn _ _ c]; exact y
end MNW
