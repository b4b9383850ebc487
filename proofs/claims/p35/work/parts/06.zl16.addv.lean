/-! ONE MORE VERSION OF A PAGE, in both -/
section ADV
variable {b kc : Nat} {M M' M1 : Md} {C C' : Cd} {P : Nat → Prop} {VA PA LE AA : Nat → Nat} {nv np na : Nat}
theorem fEg_congr {g f : Nat → Int} {part : Bool} : ∀ m d i, (∀ k, k < i + m → g k = f k) → fEg g part d i m = fEg f part d i m := by
  intro m
  induction m with
  | zero => intro d i _; rfl
  | succ m ih =>
    intro d i h
    unfold fEg
    rw [h i (by omega), ih _ (i + 1) (fun k hk => h k (by omega))]
theorem fE_congr {g f : Nat → Int} {n p : Nat} (h : ∀ k, k < n → g k = f k) (hp : p < n) : fE g n p = fE f n p := by
  unfold fE
  rw [h p hp]
  exact fEg_congr _ _ _ (fun k hk => h k (by omega))
theorem Stl.ext {a n : Nat} {g f : Nat → Int} (h : Stl C a g n) (e : ∀ k, k < n → g k = f k) : Stl C a f n := ⟨h.1.ext e, fun k hk => by rw [← fE_congr e hk]; exact h.2 k hk⟩
theorem VerO.ext {a v n : Nat} {t : Int} {g f : Nat → Int} (h : VerO C a v t g n) (e : ∀ k, k < n → g k = f k) : VerO C a v t f n := ⟨h.1, h.2.1, h.2.2.1, h.2.2.2.1, h.2.2.2.2.ext e⟩
theorem LL.ext {L n e : Nat} {vs ws : Nat → Nat} (h : LL C L n e vs) (q : ∀ i, i < n → vs i = ws i) : LL C L n e ws := by
  obtain ⟨h1, h2, h3, h4, h5, h6, h7, h8, h9⟩ := h
  exact ⟨h1, h2, h3, h4, h5, h6, h7, h8, fun i hi => by rw [← q i hi]; exact h9 i hi⟩
theorem RH.leI (h : RH b M C VA PA LE AA nv np na) {p q : Nat} (hp : p < np) (hq : q < np) (e : LE p = LE q) : p = q := by
  obtain ⟨x1, ⟨_, _, x2⟩, _⟩ := h.2.2.2.2.2.1 p hp
  obtain ⟨y1, ⟨_, _, y2⟩, _⟩ := h.2.2.2.2.2.1 q hq
  have a := x2.2.2.2.2.2.2.2.2 0 x1
  have c := y2.2.2.2.2.2.2.2.2 0 y1
  rw [e, c] at a
  obtain ⟨hA, _⟩ := ord_all M (p : Int) nv
  obtain ⟨hB, _⟩ := ord_all M (q : Int) nv
  have a1 := hA 0 x1
  have b1 := hB 0 y1
  have n1 := (h.2.2.2.2.1 _ a1.1).1.2.1
  have n2 := (h.2.2.2.2.1 _ b1.1).1.2.1
  have e2 : VA (vsl M (q : Int) nv 0) = VA (vsl M (p : Int) nv 0) := Option.some.inj a
  rw [e2, n1] at n2
  have e3 : vsl M (p : Int) nv 0 = vsl M (q : Int) nv 0 := by omega
  have o1 := onp_eq a1.2.1
  have o2 := onp_eq b1.2.1
  rw [e3] at o1
  omega
theorem RH.paI (h : RH b M C VA PA LE AA nv np na) {p q : Nat} (hp : p < np) (hq : q < np) (e : PA p = PA q) : p = q := by
  obtain ⟨x1, ⟨_, _, x2⟩, _⟩ := h.2.2.2.2.2.1 p hp
  obtain ⟨y1, ⟨_, _, y2⟩, _⟩ := h.2.2.2.2.2.1 q hq
  have a := x2.2.2.1
  have c := y2.2.2.1
  rw [e, c] at a
  exact h.leI hp hq (Option.some.inj a).symm
/-- what one more version touches: of a page at A with its row at L -/
def sAv (b A L q k a : Nat) : Prop := (q = 0 ∧ ((k = 1407 ∧ a = b) ∨ (k = 702 ∧ a < b + 854) ∨ ((k = 200 ∨ k = 202) ∧ a = A + 1))) ∨ (q = 1 ∧ ((k = 201 ∧ a = A + 1) ∨ (k = 601 ∧ a = A))) ∨ (q = 3 ∧ a = L)
theorem ty_ne {a c t s : Nat} (h1 : isO C a t) (h2 : isO C c s) (hts : t ≠ s) : a ≠ c := fun e => hts (by rw [e] at h1; exact h1.2.symm.trans h2.2)
theorem tx_e {p : Int} {tm : Int} {g : Nat → Int} {n : Nat} (hm : NvM M M1 p tm g n nv) {v : Nat} (hv : v < nv) {k : Nat} (hk : k < 30) : tx M1 v k = tx M v k := (hm.2.2.2.1 v hv).2.2.2 k hk
theorem tl_e {p : Int} {tm : Int} {g : Nat → Int} {n : Nat} (hm : NvM M M1 p tm g n nv) {v : Nat} (hv : v < nv) : tl M1 v = tl M v := by unfold tl; rw [(hm.2.2.2.1 v hv).1]
theorem tm_e {p : Int} {tm : Int} {g : Nat → Int} {n : Nat} (hm : NvM M M1 p tm g n nv) : TmE M M1 nv := fun v hv => ⟨(hm.2.2.2.1 v hv).2.1, (hm.2.2.2.1 v hv).2.2.1⟩
theorem isTx_n {g : Nat → Int} {n : Nat} (h : isTx g n = true) : 1 ≤ n ∧ n ≤ 30 := by
  unfold isTx at h
  rw [Bool.and_eq_true] at h
  exact of_decide_eq_true h.1
theorem Tkv.congr {g f : Nat → Int} {n : Nat} (h : Tkv g n) (e : ∀ k, k < n → g k = f k) : Tkv f n := fun k hk => by rw [← e k hk]; exact h k hk
/-- versions behind a new one -/
theorem NvM.vi {p : Nat} {tm : Int} {g : Nat → Int} {n : Nat} (hm : NvM M M1 (p : Int) tm g n nv) (hv : VI M nv) (ht : TI M nv) (hnv : nv < 120) (hp : p < nv + 1) (htm : I32 tm) (hg : isTx g n = true) (hk : Tkv g n) : VI M1 (nv + 1) ∧ TI M1 (nv + 1) := by
  obtain ⟨m1, m8, m2, mo, ⟨n10, n11, n12⟩, m9⟩ := hm
  have hn := isTx_n hg
  refine ⟨⟨by rw [m8]; omega, by omega, fun v h => ?_, fun v h => ?_, fun v h => ?_⟩, fun v h => ?_⟩
  · rcases Nat.lt_or_ge v nv with z | z
    · rw [(mo v z).2.1]; exact hv.2.2.1 v z
    · rw [show v = nv by omega, n11]; exact htm
  · rcases Nat.lt_or_ge v nv with z | z
    · rw [(mo v z).2.2.1]; have := hv.2.2.2.1 v z; omega
    · rw [show v = nv by omega, n12]; omega
  · rcases Nat.lt_or_ge v nv with z | z
    · rw [(mo v z).1]; exact hv.2.2.2.2 v z
    · rw [show v = nv by omega, n10]; omega
  · rcases Nat.lt_or_ge v nv with z | z
    · have e1 : tl M1 v = tl M v := by unfold tl; rw [(mo v z).1]
      have h10 := hv.2.2.2.2 v z
      have hl : tl M v ≤ 30 := by unfold tl; omega
      have e2 : ∀ k, k < tl M v → tx M v k = tx M1 v k := fun k hk => ((mo v z).2.2.2 k (by omega)).symm
      rw [e1, ← isTx_congr e2]
      exact ⟨(ht v z).1, (ht v z).2.congr e2⟩
    · have e : v = nv := by omega
      subst e
      have e1 : tl M1 v = n := by unfold tl; rw [n10]; omega
      have e2 : ∀ k, k < n → g k = tx M1 v k := fun k hk => (m9 k hk).symm
      rw [e1, ← isTx_congr e2]
      exact ⟨hg, hk.congr e2⟩
theorem RH.addV (h : RH b M C VA PA LE AA nv np na) (W : Wf C) (hL : Lay b C) {p w e' n pos : Nat} {tm : Int} {g : Nat → Int} (hp : p < np) (hnv : nv < 120) (hm : NvM M M1 (p : Int) tm g n nv) (htm : I32 tm) (hg : isTx g n = true) (hk : Tkv g n)
   (f : Fp (sAv b (PA p) (LE p)) C C') (v1 : VerO C' w nv tm g n) (hw : csz C ≤ w) (v2 : cI C' 1407 b = (nv : Int) + 1) (hpos : pos = ipos (fun i => M.2 11 (vsl M (p : Int) nv i)) tm (cnt (onp M (p : Int)) nv))
   (v3 : PgA C' (PA p) (cnt (onp M (p : Int)) nv + 1) e' (ins (fun i => VA (vsl M (p : Int) nv i)) pos w)) (v4 : cR C' 601 (PA p) = if pos = cnt (onp M (p : Int)) nv then some w else cR C 601 (PA p)) (he : e' = LE p ∨ csz C ≤ e') :
   RH b M1 C' (fun v => if v = nv then w else VA v) PA (fun q => if q = p then e' else LE q) AA (nv + 1) np na ∧ prs M1 (p : Int) (nv + 1) = (if pos = cnt (onp M (p : Int)) nv then (nv : Int) else prs M (p : Int) nv) ∧ ∀ q, q ≠ (p : Int) → prs M1 q (nv + 1) = prs M q nv := by
  have hh := h
  obtain ⟨⟨a1, a2, a3⟩, ⟨b1, b2, b3⟩, ⟨c1, c2, c3⟩, ⟨d1, d2⟩, e1, f1, g1⟩ := h
  have hz := hL.sz
  have hn := isTx_n hg
  have hm' := hm
  obtain ⟨m1, m8, m2, mo, ⟨n10, n11, n12⟩, m9⟩ := hm
  have te : TmE M M1 nv := fun v hv => ⟨(mo v hv).2.1, (mo v hv).2.2.1⟩
  have onew : onp M1 (p : Int) nv = true := decide_eq_true n12
  have ooth : ∀ q : Int, q ≠ (p : Int) → ¬ onp M1 q nv = true := fun q hq z => hq ((onp_eq z).symm.trans n12)
  have cnew : cnt (onp M1 (p : Int)) (nv + 1) = cnt (onp M (p : Int)) nv + 1 := by rw [cnt_succ, if_pos onew, cnt_onp_e te _ (Nat.le_refl _)]
  have coth : ∀ q : Int, q ≠ (p : Int) → cnt (onp M1 q) (nv + 1) = cnt (onp M q) nv := fun q hq => by rw [cnt_succ, if_neg (ooth q hq), cnt_onp_e te _ (Nat.le_refl _)]; rfl
  have lnew : vsl M1 (p : Int) (nv + 1) = insN (vsl M (p : Int) nv) pos nv := by
    obtain ⟨hA, _⟩ := ord_all M (p : Int) nv
    rw [vsl_on _ _ _ onew, vsl_e te _ nv (Nat.le_refl _), cnt_onp_e te _ (Nat.le_refl _), n11, hpos, ipos_e _ (fun i hi => (te _ (hA i hi).1).1)]
  have loth : ∀ q : Int, q ≠ (p : Int) → vsl M1 q (nv + 1) = vsl M q nv := fun q hq => by rw [vsl_off _ _ _ (ooth q hq), vsl_e te _ nv (Nat.le_refl _)]
  have poth : ∀ q : Int, q ≠ (p : Int) → prs M1 q (nv + 1) = prs M q nv := fun q hq => by rw [prs_succ, if_neg (fun z => ooth q hq z.1), prs_e te q nv (Nat.le_refl _)]
  have hposle : pos ≤ cnt (onp M (p : Int)) nv := by rw [hpos]; exact ipos_le _ _ _
  obtain ⟨hA, _⟩ := ord_all M (p : Int) nv
  obtain ⟨y1, ⟨y2, y3, y4⟩, y5, y6, y7, y8⟩ := f1 p hp
  have pnew : prs M1 (p : Int) (nv + 1) = (if pos = cnt (onp M (p : Int)) nv then (nv : Int) else prs M (p : Int) nv) := by
    rcases prs_last M1 (p : Int) (nv + 1) with ⟨z, _⟩ | ⟨z1, z2⟩
    · omega
    · rw [z2, cnew, lnew, Nat.add_sub_cancel]
      unfold insN
      by_cases c : pos = cnt (onp M (p : Int)) nv
      · rw [if_neg (by omega), if_pos c.symm, if_pos c]
      · rw [if_neg (by omega), if_neg (by omega), if_neg c]
        rcases prs_last M (p : Int) nv with ⟨z, _⟩ | ⟨_, z3⟩
        · omega
        · exact z3.symm
  have hprs := hh.pres hp
  have pA := y2
  have lA := y4.1
  have eA := y4.2.2.2.2.1
  have zp := W _ pA.1
  have zl := W _ lA.1
  have ze := W _ eA.1
  obtain ⟨q1, q2⟩ := hm'.vi a1 a2 hnv (by omega) htm hg hk
  refine ⟨⟨⟨q1, q2, by rw [v2]; omega⟩, ⟨(m1 7 (by decide)).trans b1, by omega, fun v hv => ?_⟩, ⟨(m1 13 (by decide)).trans c1, c2, fun k hk => ?_⟩, ⟨fun t ht => ?_, fun t t' => by rw [m2 6 (by decide)]; exact d2 t t'⟩, fun v hv => ?_, fun q hq => ?_, fun k hk => ?_⟩, pnew, poth⟩
  · rcases Nat.lt_or_ge v nv with z | z
    · rw [(mo v z).2.2.1]; exact b3 v z
    · rw [show v = nv by omega, n12]; omega
  · rw [m2 14 (by decide), m2 15 (by decide), m2 16 (by decide), m1 5 (by decide)]
    obtain ⟨x1, x2, x3⟩ := c3 k hk
    exact ⟨x1, x2, by omega, by omega⟩
  · rw [m2 6 (by decide), f.fR (by omega) (by unfold sAv; omega)]
    exact d1 t ht
  · rcases Nat.lt_or_ge v nv with z | z
    · obtain ⟨x1, x2⟩ := e1 v z
      dsimp only
      rw [if_neg (by omega), (mo v z).2.1, tl_e hm' z]
      have x1' := x1
      obtain ⟨w1, w2, w3, w4, w5⟩ := x1
      have o1 := w5.1.1.1.1
      have o2 := w5.1.1.1.2.2.2.1
      have o3 := w5.1.1.1.2.2.2.2.1
      have n1 := ty_ne w1 pA (by decide)
      have n2 := ty_ne w1 lA (by decide)
      have n3 := ty_ne o1 pA (by decide)
      have n4 := ty_ne o1 lA (by decide)
      have h10 := a1.2.2.2.2 v z
      refine ⟨(x1'.fp W f (by unfold sAv; omega) (by unfold sAv; omega) (by unfold sAv; omega) (by unfold sAv; omega) (by unfold sAv; omega) (by unfold sAv; omega) (by unfold sAv; omega) (by unfold sAv; omega)).ext (fun k hk => (tx_e hm' z (by unfold tl at hk; omega)).symm), x2⟩
    · have e : v = nv := by omega
      subst e
      dsimp only
      rw [if_pos rfl, n11, show tl M1 v = n by unfold tl; rw [n10]; omega]
      exact ⟨v1.ext (fun k hk => (m9 k hk).symm), by omega⟩
  · obtain ⟨x1, ⟨x2, x3, x4⟩, x5, x6, x7, x8⟩ := f1 q hq
    have ar : aRef M1 AA (q : Int) na = aRef M AA (q : Int) na := aRef_congr na (fun k _ => by rw [m2 14 (by decide)])
    by_cases c : q = p
    · subst c
      dsimp only
      rw [cnew, lnew, pnew, ar, if_pos rfl]
      have e6 : cR C' 602 (PA q) = cR C 602 (PA q) := f.fR zp (by unfold sAv; omega)
      refine ⟨Nat.succ_pos _, ⟨v3.1, v3.2.1, v3.2.2.ext (fun i hi => ?_)⟩, ?_, e6.trans x6, x7, ?_⟩
      · unfold ins insN
        by_cases c1 : i < pos
        · rw [if_pos c1, if_pos c1, if_neg (by have := (hA i (by omega)).1; omega)]
        · rw [if_neg c1, if_neg c1]
          by_cases c2 : i = pos
          · rw [if_pos c2, if_pos c2, if_pos rfl]
          · rw [if_neg c2, if_neg c2, if_neg (by have := (hA (i - 1) (by omega)).1; omega)]
      · rw [v4]
        by_cases c1 : pos = cnt (onp M (q : Int)) nv
        · rw [if_pos c1, if_pos c1, Int.toNat_natCast, if_pos rfl]
        · rw [if_neg c1, if_neg c1, x5]
          obtain ⟨v, hv1, hv2, _⟩ := hprs
          rw [hv2, Int.toNat_natCast, if_neg (by omega)]
      · rcases he with z | z
        · rw [z]; exact x8
        · omega
    · have n1 : PA q ≠ PA p := fun z => c (hh.paI hq hp z)
      have n2 : LE q ≠ LE p := fun z => c (hh.leI hq hp z)
      have cq : (q : Int) ≠ (p : Int) := by omega
      dsimp only
      rw [coth _ cq, loth _ cq, poth _ cq, ar, if_neg c]
      have zq := W _ x2.1
      have zql := W _ x4.1.1
      have zqe := W _ x4.2.2.2.2.1.1
      obtain ⟨hA2, _⟩ := ord_all M (q : Int) nv
      have n3 := ty_ne x2 lA (by decide)
      have n4 := ty_ne x4.1 pA (by decide)
      refine ⟨x1, ⟨f.ob W x2, (f.fR zq (by unfold sAv; omega)).trans x3, (x4.fp W f (by unfold sAv; omega) (by unfold sAv; omega) (by unfold sAv; omega)).ext (fun i hi => by rw [if_neg (by have := (hA2 i hi).1; omega)])⟩, ?_, (f.fR zq (by unfold sAv; omega)).trans x6, x7, x8⟩
      rw [f.fR zq (by unfold sAv; omega), x5]
      obtain ⟨v, hv1, hv2, _⟩ := hh.pres hq
      rw [hv2, Int.toNat_natCast, if_neg (by omega)]
  · obtain ⟨x1, x2, x3, x4, x5⟩ := g1 k hk
    have y := (c3 k hk).2.2
    have z0 := W _ x1.1
    have n1 := ty_ne x1 pA (by decide)
    have n2 := ty_ne x1 lA (by decide)
    dsimp only
    rw [m2 14 (by decide), m2 15 (by decide), m2 16 (by decide), aRef_congr (M := M) (M' := M1) k (fun k _ => by rw [m2 14 (by decide)]), if_neg (by omega)]
    exact ⟨f.ob W x1, (f.fI z0 (by unfold sAv; omega)).trans x2, (f.fR z0 (by unfold sAv; omega)).trans x3, (f.fR z0 (by unfold sAv; omega)).trans x4, x5⟩
end ADV
