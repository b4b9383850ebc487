/-! TREES: what moveTree asks -/
section TRE
variable {b kc : Nat} {M M' M1 M2 : Md} {C C' C1 C2 : Cd} {nv n : Nat} {g : Nat → Int}
theorem X11_pagesOfTree_ (hL : Lay b C) {pg : Nat → Bool} (hp : ∀ t, t < 24 → (pg t = false ∧ cR C 1203 (b + 13 + 6 * t) = none) ∨ (pg t = true ∧ ∃ p, cR C 1203 (b + 13 + 6 * t) = some p)) {tr : Nat} (htr : tr < 6) :
   fX11_pagesOfTree b (tr : Int) C = some ((bitsN (fun i => decide (i / 4 = tr) && pg i) 24 : Int), C) := by
  unfold fX11_pagesOfTree
  rw [bnd_eq]
  refine lpn_rule (P := fun mm (L : Int → Int → Cd → Option (Int × Cd)) => ∀ i, i ≤ 24 → 24 - i < mm → L (bitsN (fun i => decide (i / 4 = tr) && pg i) i : Int) (i : Int) C = some ((bitsN (fun i => decide (i / 4 = tr) && pg i) 24 : Int), C)) (fun i _ h => absurd h (Nat.not_lt_zero _)) (fun mm L hLL i hi hm => ?_) FU 0 (by decide) (by unfold FU; omega)
  rw [if_pos hL.o, bnd_eq, hL.r1, drf_some, if_pos hL.ot, hL.nt]
  rcases Nat.lt_or_ge i 24 with hlt | hge
  · have q := hLL (i + 1) (by omega) (by omega)
    rw [bitsN] at q
    rw [if_neg (by rw [show w32 ((24 : Nat) : Int) = 24 from rfl, w32_n (by omega)]; omega), bnd_eq, show (4 : Int) = ((4 : Nat) : Int) from rfl, divI_N (by omega) (by decide) (by decide), w32_n (by omega), w32_n (by omega)]
    by_cases c : i / 4 = tr
    · rw [if_neg (fun z => z (by omega)), if_pos hL.o, bnd_eq, drf_some, if_pos ⟨hL.ot, by rw [hL.nt]; exact inR_n hlt (by decide)⟩, bnd_eq, hL.tt hlt, drf_some, if_pos (hL.to hlt), bnd_eq]
      rcases hp i hlt with ⟨p1, p2⟩ | ⟨p1, p, p2⟩
      · rw [p2, opt_none]
        rw [p1, Bool.and_false, ite_ff, Nat.or_zero] at q
        exact q
      · rw [p2, opt_some, bnd_eq, orI_set (bitsN_24 _ hi) hlt]
        rw [p1, decide_eq_true c, Bool.true_and, ite_tt] at q
        exact q
    · rw [if_pos (by omega)]
      rw [decide_eq_false c, Bool.false_and, ite_ff, Nat.or_zero] at q
      exact q
  · have e : i = 24 := by omega
    subst e
    rw [if_pos (by decide)]
theorem X11_pagesLeadingInto_ (hL : Lay b C) {G : Nat} {le : Nat → Bool} (hp : ∀ t, t < 24 → (le t = false ∧ cR C 1203 (b + 13 + 6 * t) = none) ∨ ∃ p w, cR C 1203 (b + 13 + 6 * t) = some p ∧ isO C p 6 ∧ cR C 601 p = some w ∧ isO C w 13 ∧ cR C 1302 w = some (w + 1) ∧ isO C (w + 1) 11 ∧ fX8_leadsInto_ (w + 1) (G : Int) C = some (if le t = true then 1 else 0, C)) :
   fX11_pagesLeadingInto b (G : Int) C = some ((cnt le 24 : Int), C) := by
  unfold fX11_pagesLeadingInto
  rw [bnd_eq]
  refine lpn_rule (P := fun mm (L : Int → Int → Cd → Option (Int × Cd)) => ∀ i, i ≤ 24 → 24 - i < mm → L (cnt le i : Int) (i : Int) C = some ((cnt le 24 : Int), C)) (fun i _ h => absurd h (Nat.not_lt_zero _)) (fun mm L hLL i hi hm => ?_) FU 0 (by decide) (by unfold FU; omega)
  rw [if_pos hL.o, bnd_eq, hL.r1, drf_some, if_pos hL.ot, hL.nt]
  rcases Nat.lt_or_ge i 24 with hlt | hge
  · have q := hLL (i + 1) (by omega) (by omega)
    rw [cnt_succ] at q
    rw [if_neg (by rw [show w32 ((24 : Nat) : Int) = 24 from rfl, w32_n (by omega)]; omega), if_pos hL.o, bnd_eq, drf_some, hL.nt, if_pos ⟨hL.ot, inR_n hlt (by decide)⟩, bnd_eq, hL.tt hlt, drf_some, if_pos (hL.to hlt), bnd_eq, bnd_eq]
    rcases hp i hlt with ⟨p1, p2⟩ | ⟨p, w, p1, p2, p3, p4, p5, p6, p7⟩
    · rw [p2, opt_none]
      rw [p1, ite_ff, Nat.add_zero] at q
      exact q
    · rw [p1, opt_some, if_pos p2, bnd_eq, p3, drf_some, if_pos p4, bnd_eq, p5, drf_some, if_pos p6, cal_of p7]
      by_cases c : le i = true
      · rw [if_pos c] at q
        rw [if_pos c, if_neg (by decide), show (cnt le i : Int) + 1 = ((cnt le i + 1 : Nat) : Int) by omega]
        exact q
      · rw [if_neg c, Nat.add_zero] at q
        rw [if_neg c, if_pos (by decide)]
        exact q
  · have e : i = 24 := by omega
    subst e
    rw [if_pos (by decide)]
theorem X11_mayActInTree_ (hL : Lay b C) {may : Nat → Bool} (hm : ∀ t, t < 24 → fX11_mayActAt b (some (b + 13 + 6 * t)) C = some (if may t = true then 1 else 0, C)) {tr : Nat} (htr : tr < 6) :
   BR (fX11_mayActInTree b (tr : Int) C) C (∀ i, i < 24 → i / 4 = tr → may i = true) := by
  unfold fX11_mayActInTree
  rw [bnd_eq]
  refine lpn_rule (P := fun mm (L : Int → Cd → Option (Int × Cd)) => ∀ i, i ≤ 24 → 24 - i < mm → (∀ j, j < i → j / 4 = tr → may j = true) → BR (L (i : Int) C) C (∀ i, i < 24 → i / 4 = tr → may i = true)) (fun i _ h => absurd h (Nat.not_lt_zero _)) (fun mm L hLL i hi hm' hj => ?_) FU 0 (by decide) (by unfold FU; omega) (fun j hj => absurd hj (Nat.not_lt_zero _))
  rw [if_pos hL.o, bnd_eq, hL.r1, drf_some, if_pos hL.ot, hL.nt]
  rcases Nat.lt_or_ge i 24 with hlt | hge
  · rw [if_neg (by rw [show w32 ((24 : Nat) : Int) = 24 from rfl, w32_n (by omega)]; omega), bnd_eq, show (4 : Int) = ((4 : Nat) : Int) from rfl, divI_N (by omega) (by decide) (by decide), w32_n (n := i / 4) (by omega), w32_n (n := tr) (by omega)]
    by_cases c : i / 4 = tr
    · rw [if_neg (fun z => z (by omega)), if_pos hL.o, bnd_eq, drf_some, if_pos ⟨hL.ot, by rw [hL.nt]; exact inR_n hlt (by decide)⟩, bnd_eq, hL.tt hlt, if_pos hL.o, cal_of (hm i hlt)]
      by_cases d : may i = true
      · rw [if_pos d, if_pos (by decide)]
        exact hLL (i + 1) hlt (by omega) (fun j hj2 hj3 => by
          rcases Nat.lt_or_ge j i with z | z
          · exact hj j z hj3
          · rw [show j = i by omega]; exact d)
      · rw [if_neg d, if_neg (fun z => z (by decide))]
        exact Or.inr ⟨rfl, fun z => d (z i hlt c)⟩
    · rw [if_pos (by omega)]
      exact hLL (i + 1) hlt (by omega) (fun j hj2 hj3 => by
        rcases Nat.lt_or_ge j i with z | z
        · exact hj j z hj3
        · exact absurd (by rw [← hj3, show j = i by omega]) c)
  · have e : i = 24 := by omega
    subst e
    rw [if_pos (by decide)]
    exact Or.inl ⟨rfl, fun j hj2 hj3 => hj j hj2 hj3⟩
theorem X12_leadsOn_ {kd : Int} (h0 : 0 ≤ kd) (h1 : kd < 14) (M : Md) : fX12_leadsOn kd M = some (if ldk kd = true then 1 else 0, M) := by
  have w : w32 kd = kd := w32_of (by omega) (by omega)
  unfold fX12_leadsOn ldk
  rw [bnd_eq, bnd_eq, w, show w32 1 = 1 from rfl, show w32 2 = 2 from rfl, show w32 12 = 12 from rfl]
  by_cases c1 : kd = 1
  · rw [if_pos c1, decide_eq_true (Or.inl c1), ite_tt]; rfl
  · by_cases c2 : kd = 2
    · rw [if_neg c1, if_pos c2, decide_eq_true (Or.inr (Or.inl c2)), ite_tt]; rfl
    · by_cases c3 : kd = 12
      · rw [if_neg c1, if_neg c2, if_neg (fun z => z c3), decide_eq_true (Or.inr (Or.inr c3)), ite_tt]; rfl
      · rw [if_neg c1, if_neg c2, if_pos c3, decide_eq_false (fun z => z.elim c1 (fun z => z.elim c2 c3)), ite_ff]; rfl
def liB (g : Nat → Int) (G : Nat) (k : Nat) : Bool := ldk (g k / 1000) && G.testBit (g k % 1000).toNat
theorem liB_iff {G k : Nat} : liB g G k = true ↔ LI g G k := by
  unfold liB LI
  rw [Bool.and_eq_true]
theorem wlo_liB {G k : Nat} {by_ : Int} : wlo g G by_ k = if liB g G k = true then g k + by_ else g k := rfl
/-- a token led on is one -/
theorem wlo_ok {G fr to : Nat} {had : Nat} (hfr : fr < 6) (hto : to < 6) (hG : ∀ v, v < 24 → G.testBit v = (decide (v / 4 = fr) && had.testBit (v % 4))) {k : Nat} (h : okt (g k)) : okt (wlo g G (4 * ((to : Int) - (fr : Int))) k) := by
  rw [wlo_liB]
  by_cases c : liB g G k = true
  · rw [if_pos c]
    obtain ⟨c1, c2⟩ := liB_iff.mp c
    unfold ldk at c1
    have c1 := of_decide_eq_true c1
    obtain ⟨a1, a2, a3, a4, a5, a6⟩ := h
    have a3 := a3 c1
    rw [hG _ (by omega), Bool.and_eq_true] at c2
    have c3 := of_decide_eq_true c2.1
    have hv : ((g k % 1000).toNat : Int) = g k % 1000 := by omega
    have e1 : (g k + 4 * ((to : Int) - (fr : Int))) / 1000 = g k / 1000 := by omega
    have e2 : (g k + 4 * ((to : Int) - (fr : Int))) % 1000 = g k % 1000 + 4 * ((to : Int) - (fr : Int)) := by omega
    unfold okt
    rw [e1, e2]
    refine ⟨by omega, by omega, fun _ => by omega, fun z => ?_, fun z => ?_, fun z => ?_⟩
    · omega
    · omega
    · omega
  · rw [if_neg c]; exact h
/-- the reference turns a title's text -/
theorem X12_turns_ (hV : VI M nv) (hT : TI M nv) {t pv G fr to had : Nat} (ht : t < 24) (h6 : I32 (M.2 6 t)) (hpv : pv < nv) (hpr : prAt M nv t = (pv : Int)) (hfr : fr < 6) (hto : to < 6) (hhad : had < 16) (hG : ∀ v, v < 24 → G.testBit v = (decide (v / 4 = fr) && had.testBit (v % 4))) :
   ∃ M', fX12_turns (t : Int) (fr : Int) (to : Int) (had : Int) M = some (if anyN (liB (tx M pv) G) (tl M pv) = true then 1 else 0, M') ∧ MO oRes rRes M M' ∧ RV M' (wlo (tx M pv) G (4 * ((to : Int) - (fr : Int)))) (tl M pv) := by
  have ep := X12_presentAt_ hV ht h6
  rw [hpr] at ep
  have n120 := hV.2.1
  have l10 := tl_eq hV hpv
  have lv := hV.2.2.2.2 pv hpv
  have h30 : tl M pv ≤ 30 := by unfold tl; omega
  have tv := tx_mv hV hT hpv
  have kv := (hT pv hpv).2
  have o1 : MO oRes rRes M (mSet M 77 0) := MO.set M 77 0 rfl
  generalize hf : tx M pv = f at *
  generalize hm : tl M pv = m at *
  obtain ⟨M2, e2, t2, o2⟩ := X12_putResult_ (k := 9) (fr := 30 * pv) (m := m) (f := f) (by decide) (lo := 0) (hi := m) (Nat.le_refl _) (mSet M 77 0) (fun _ => 0) 0 (Nat.zero_le _) (RV.nil M _) (tv.keep o1 (by decide)) (by omega)
  have x3 : 30 * (pv : Int) = ((30 * pv : Nat) : Int) := by omega
  rw [show ((30 * pv : Nat) : Int) + ((0 : Nat) : Int) = ((30 * pv : Nat) : Int) by omega] at e2
  have t2' : RV M2 f m := by
    have y := t2.ext (f := f) (fun i hi => by
      have := cat_ge (g := fun _ => (0 : Int)) (f := fun i => f (0 + i)) (n := 0) i
      rw [Nat.zero_add] at this
      rw [this])
    rw [Nat.zero_add, Nat.sub_zero] at y
    exact y
  unfold fX12_turns
  rw [cal_of ep, bnd_eq, if_pos (inM (n := 120) rfl (by omega) (by decide)), ix_n (by omega), show (mSet M 77 0).2 10 pv = (m : Int) from l10, x3, cal_of e2, bnd_eq]
  refine (lpn_rule (P := fun mm (L : Int → Int → Md → Option (Int × Md)) => ∀ (i : Nat) (M1 : Md), i ≤ m → m - i < mm → MO oRes rRes M M1 → RV M1 (fun k => if k < i then wlo f G (4 * ((to : Int) - (fr : Int))) k else f k) m → ∃ M', L (if anyN (liB f G) i = true then 1 else 0) (i : Int) M1 = some (if anyN (liB f G) m = true then 1 else 0, M') ∧ MO oRes rRes M M' ∧ RV M' (wlo f G (4 * ((to : Int) - (fr : Int)))) m) (fun i _ _ h => absurd h (Nat.not_lt_zero _)) (fun mm L hL i M1 hi hm' o3 r3 => ?_) FU) 0 M2 (Nat.zero_le _) (by unfold FU; omega) (o1.tr o2) (t2'.ext (fun k hk => by rw [if_neg (Nat.not_lt_zero k)]))
  have e77 : M1.1 77 = (m : Int) := r3.1
  rw [e77]
  rcases Nat.lt_or_ge i m with hlt | hge
  · have a1 := r3.2.2.2.1 i hlt
    rw [Nat.zero_add] at a1
    dsimp only at a1
    rw [if_neg (Nat.lt_irrefl i)] at a1
    have kk := kv i hlt
    have kk' := kk
    obtain ⟨b1, b2, b3, b4, b5, b6⟩ := kk
    have vn : 0 ≤ f i % 1000 ∧ f i % 1000 < 1000 := by omega
    rw [if_neg (by rw [w32_n (by omega), w32_n (by omega)]; omega), if_pos (inM (n := 200) rfl (by omega) (by decide)), bnd_eq, ix_n (by omega), a1, remI_of (x := f i) (d := 1000) b1 (by omega) (by decide) (by decide), if_pos (inM (n := 200) rfl (by omega) (by decide)), divI_of (x := f i) (d := 1000) b1 (by omega) (by decide) (by decide), cal_of (X12_leadsOn_ (by omega) (by omega) M1), bnd_eq, show (i : Int) + 1 = ((i + 1 : Nat) : Int) by omega]
    -- a token that stays
    have stay : liB f G i = false → ∃ M', L (if anyN (liB f G) i = true then 1 else 0) ((i + 1 : Nat) : Int) M1 = some (if anyN (liB f G) m = true then 1 else 0, M') ∧ MO oRes rRes M M' ∧ RV M' (wlo f G (4 * ((to : Int) - (fr : Int)))) m := by
      intro hb
      have y := hL (i + 1) M1 hlt (by omega) o3 (r3.ext (fun k hk => by
        by_cases c : k < i
        · rw [if_pos c, if_pos (by omega)]
        · rw [if_neg c]
          by_cases c2 : k = i
          · rw [if_pos (by omega), c2, wlo_liB, hb, ite_ff]
          · rw [if_neg (by omega)]))
      rw [anyN, hb, Bool.or_false] at y
      exact y
    by_cases c1 : ldk (f i / 1000) = true
    · have c1' := of_decide_eq_true c1
      have v24 := b3 c1'
      obtain ⟨v, hv⟩ : ∃ v : Nat, f i % 1000 = (v : Int) := ⟨(f i % 1000).toNat, by omega⟩
      have hv24 : v < 24 := by omega
      have hGv := hG v hv24
      have elB : liB f G i = (decide (v / 4 = fr) && had.testBit (v % 4)) := by
        unfold liB
        rw [c1, hv, Int.toNat_natCast, hGv, Bool.true_and]
      have d4 : divI (v : Int) 4 = ((v / 4 : Nat) : Int) := divI_N (a := v) (d := 4) (by omega) (by decide) (by decide)
      have m4 : remI (v : Int) 4 = ((v % 4 : Nat) : Int) := remI_N (a := v) (d := 4) (by omega) (by decide) (by decide)
      rw [if_pos c1, if_neg (by decide), hv, d4, m4, w32_n (n := v / 4) (by omega), w32_n (n := fr) (by omega), bitI_N (by omega) (by omega)]
      by_cases c2 : v / 4 = fr
      · rw [if_neg (fun z => z (by omega))]
        by_cases c3 : had.testBit (v % 4) = true
        · have hb : liB f G i = true := by rw [elB, decide_eq_true c2, c3]; rfl
          rw [if_pos c3, if_neg (fun z => z rfl), if_pos (inM (n := 200) rfl (by omega) (by decide)), if_pos (inM (n := 200) rfl (by omega) (by decide)), bnd_eq, a1]
          have okw := wlo_ok (g := f) (to := to) hfr hto hG (k := i) kk'
          rw [wlo_liB, hb, ite_tt] at okw
          have y := hL (i + 1) (mPut M1 76 i (f i + 4 * ((to : Int) - (fr : Int)))) hlt (by omega) (o3.tr (MO.put (S := oRes) (R := rRes) M1 76 i _ rfl)) ⟨r3.1, r3.2.1, r3.2.2.1, fun k hk => by
            rw [Nat.zero_add]
            dsimp only
            by_cases c : k = i
            · rw [c, if_pos (by omega), wlo_liB, hb, ite_tt]; exact p2_1 _ _ _ _
            · rw [p2_2 (k := 76) (k' := 76) M1 _ (Or.inr c)]
              have z := r3.2.2.2.1 k hk
              rw [Nat.zero_add] at z
              dsimp only at z
              rw [z]
              by_cases c4 : k < i
              · rw [if_pos c4, if_pos (by omega)]
              · rw [if_neg c4, if_neg (by omega)], fun k hk => by
            dsimp only
            by_cases c4 : k < i + 1
            · rw [if_pos c4]
              have := wlo_ok (g := f) (to := to) hfr hto hG (k := k) (kv k hk)
              exact ⟨this.1, this.2.1⟩
            · rw [if_neg c4]
              have := kv k hk
              exact ⟨this.1, this.2.1⟩⟩
          rw [anyN, hb, Bool.or_true, ite_tt] at y
          exact y
        · have hb : liB f G i = false := by rw [elB, eq_false_of_ne_true c3, Bool.and_false]
          rw [if_neg c3, if_pos (by decide)]
          exact stay hb
      · have hb : liB f G i = false := by rw [elB, decide_eq_false c2, Bool.false_and]
        rw [if_pos (by omega)]
        exact stay hb
    · have hb : liB f G i = false := by unfold liB; rw [eq_false_of_ne_true c1, Bool.false_and]
      rw [if_neg c1, if_pos (by decide)]
      exact stay hb
  · have e : i = m := by omega
    subst e
    rw [if_pos (Int.le_refl _)]
    refine ⟨M1, ?_, o3, r3.ext (fun k hk => by rw [if_pos hk])⟩
    by_cases c : anyN (liB f G) i = true
    · rw [if_pos c]; rfl
    · rw [if_neg c]; rfl
end TRE
