/-! THE REFERENCE GOES OVER A STRETCH: CALL -/
section MCL
variable {E : Env} {s s1 s' : ASt} {M M1 M2 M' : Md} {rn fu rn1 fu1 D row f i i1 to F r r2 t m n1 N k : Nat} {acc acc1 acc' : List Int}
theorem mseg_call_new (ih : SegM E m) (hE : EnP E) (hP : PI E s) (hP0 : PI E (uPs s f i 2)) (hf : f < aNf s) (hi : i < to) (hin : i < fn E s f) (hB : Bl (fg E s f) (fn E s f) (fE (fg E s f) (fn E s f) i + 1) to) (hD : D ≤ t) (ht : t < 3990) (ek : fg E s f i / 1000 = 2) (hu0 : ∀ p, i ≤ p → p < fE (fg E s f) (fn E s f) i → aPs s f p = 0)
   (d1 : MS M1 E (uPs s f i 2) rn fu) (d2 : CuM M1 (uPs s f i 2) row rn) (kp0 : KeepM M M1 s (uPs s f i 2) D row fu rn) (b3 : RowM M1 row acc) (b5 : M1.1 59 = (D : Int) + 1) (b6 : TkM M1 D 0 (f : Int) ((fE (fg E s f) (fn E s f) i + 1 : Nat) : Int) (to : Int) (row : Int)) (cm : CuM M s row rn)
   (b7 : ∀ M2, fX12_expandCall (f : Int) (i : Int) (fE (fg E s f) (fn E s f) i : Int) (row : Int) M1 = some ((), M2) → MStp M M2) (tcu : Tc (uPs s f i 2) = Tc s + 1) (c40 : ¬ 40 ≤ aCa s) {w : Int} {rd : Nat} (hw : (wayF E 5 (fg E s f i % 1000).toNat 0) = (w, rd)) (cw : w ≠ -1) (cmf : ¬ cmF s 41 f w = true) (c6 : ¬ 6 ≤ (aFr s f).2.2.1)
   (hx : ((runX E m false (r + 1) (t + 1) (aNf s) 0 (eTl E (eSn E w.toNat).toNat) acc (uFr (uSe (uCa (uPs s f i 2)) 0 0 rd 0 0) ((eSn E w.toNat).toNat, w.toNat, (aFr s f).2.2.1 + 1, (f : Int), i, agF (fg E s f) (prs_ (fg E s f) (fn E s f) 30 (i + 1)) 0 (fun _ => -1)))).bind
          fun q => runX E m false r t f (fE (fg E s f) (fn E s f) i + 1) to q.1 q.2) = some (acc', s')) : PostM E M s s' D row fu rn fu acc' ((to - i) + 1) := by
  have gt := fE_gt (fg E s f) (fn E s f) i
  obtain ⟨hT, hK⟩ := hP.tx hE hf
  have hok := hK i hin
  unfold okt at hok
  have hv : (fg E s f i % 1000).toNat < 24 := by omega
  have hw1 : (wayF E 5 (fg E s f i % 1000).toNat 0).1 = w := by rw [hw]
  have hw2 : (wayF E 5 (fg E s f i % 1000).toNat 0).2 = rd := by rw [hw]
  have hwl := (wayF_lt E 5 (fg E s f i % 1000).toNat 0 (by decide) hv (fun t t1 t2 t3 => by
    have z := hE.1 t t1 t2
    have y := z.2.2 0 (by have := z.2.1.1.1; omega)
    unfold okt at y
    omega)).2
  rw [hw1] at hwl
  have hwl := hwl.resolve_left cw
  obtain ⟨hS, hBn, l30⟩ := PI.newF (rd := rd) hP hE hf hin ek (hu0 i (Nat.le_refl i) gt) c40 c6 hwl
  have cmf' : ¬ cmF (uPs s f i 2) 41 f w = true := fun z => cmf ((cmF_uPs s f i 2 _ _ _).symm.trans z)
  have big := X12_call_new (F := fu) (D := D + 1) d1 hP0 hE d2 (f := f) (i := i) hf hin ek b3 c40 (by show (wayF E 5 (fg E s f i % 1000).toNat 0).1 ≠ -1; rw [hw1]; exact cw) (by show ¬ cmF (uPs s f i 2) 41 f (wayF E 5 (fg E s f i % 1000).toNat 0).1 = true; rw [hw1]; exact cmf') c6 (fun p h1 h2 => by
    show (if f = f ∧ p = i then 2 else aPs s f p) = 0
    rw [if_neg (by omega)]
    exact hu0 p (by omega) h2) (b5.trans (by omega)) (by omega)
  have eg0 : fg E (uPs s f i 2) f = fg E s f := rfl
  have en0 : fn E (uPs s f i 2) f = fn E s f := rfl
  have ef0 : aFr (uPs s f i 2) f = aFr s f := rfl
  have ew0 : aNf (uPs s f i 2) = aNf s := rfl
  rw [eg0, en0, ef0, ew0, hw1, hw2] at big
  have tcF : Tc s + 1 ≤ Tc (uFr (uSe (uCa (uPs s f i 2)) 0 0 rd 0 0) ((eSn E w.toNat).toNat, w.toNat, (aFr s f).2.2.1 + 1, (f : Int), i, agF (fg E s f) (prs_ (fg E s f) (fn E s f) 30 (i + 1)) 0 (fun _ => -1))) := Nat.le_of_eq tcu.symm
  have frS : aFr (uFr (uSe (uCa (uPs s f i 2)) 0 0 rd 0 0) ((eSn E w.toNat).toNat, w.toNat, (aFr s f).2.2.1 + 1, (f : Int), i, agF (fg E s f) (prs_ (fg E s f) (fn E s f) 30 (i + 1)) 0 (fun _ => -1))) f = aFr s f := if_neg (Nat.ne_of_lt hf)
  have nS : aNf (uFr (uSe (uCa (uPs s f i 2)) 0 0 rd 0 0) ((eSn E w.toNat).toNat, w.toNat, (aFr s f).2.2.1 + 1, (f : Int), i, agF (fg E s f) (prs_ (fg E s f) (fn E s f) 30 (i + 1)) 0 (fun _ => -1))) = aNf s + 1 := rfl
  generalize uFr (uSe (uCa (uPs s f i 2)) 0 0 rd 0 0) ((eSn E w.toNat).toNat, w.toNat, (aFr s f).2.2.1 + 1, (f : Int), i, agF (fg E s f) (prs_ (fg E s f) (fn E s f) 30 (i + 1)) 0 (fun _ => -1)) = S at *
  obtain ⟨M2, z1, z2, z3, z4, z5, z6, z7⟩ := big
  exact mseg_sub (i := i) ih hE hS (by omega) hBn (by omega) frS (by omega) tcF (b7 M2 z1) z2 z3 z5 (kp0.tr z4 (Nat.le_succ D) (Nat.le_refl _) (Nat.le_refl _) (fun _ _ z => z) (Nat.le_refl _)) (z4.tk b6 (Nat.lt_succ_self D)) z7 z6 hD (by omega) hB (by omega) cm.2.2 ⟨cm.1, cm.2.1⟩ hx
theorem mseg_call (ih : SegM E m) (hE : EnP E) (hP : PI E s) (hP0 : PI E (uPs s f i 2)) (hf : f < aNf s) (hi : i < to) (hin : i < fn E s f) (hB : Bl (fg E s f) (fn E s f) (fE (fg E s f) (fn E s f) i + 1) to) (hD : D ≤ t) (ht : t < 3990) (ek : fg E s f i / 1000 = 2) (hu0 : ∀ p, i ≤ p → p < fE (fg E s f) (fn E s f) i → aPs s f p = 0)
   (d1 : MS M1 E (uPs s f i 2) rn fu) (d2 : CuM M1 (uPs s f i 2) row rn) (kp0 : KeepM M M1 s (uPs s f i 2) D row fu rn) (b3 : RowM M1 row acc) (b5 : M1.1 59 = (D : Int) + 1) (b6 : TkM M1 D 0 (f : Int) ((fE (fg E s f) (fn E s f) i + 1 : Nat) : Int) (to : Int) (row : Int)) (cm : CuM M s row rn)
   (b7 : ∀ M2, fX12_expandCall (f : Int) (i : Int) (fE (fg E s f) (fn E s f) i : Int) (row : Int) M1 = some ((), M2) → MStp M M2) (tcu : Tc (uPs s f i 2) = Tc s + 1)
   (hx : (if 40 ≤ aCa s then runX E m false r t f (fE (fg E s f) (fn E s f) i + 1) to (apl acc 9003) (uPs s f i 2)
        else if (wayF E 5 (fg E s f i % 1000).toNat 0).1 = -1 then runX E m false r t f (fE (fg E s f) (fn E s f) i + 1) to (apl acc (2000 + fg E s f i % 1000)) (uSe (uCa (uPs s f i 2)) (2 ^ (fg E s f i % 1000).toNat) 0 (wayF E 5 (fg E s f i % 1000).toNat 0).2 0 0)
        else if cmF s 41 f (wayF E 5 (fg E s f i % 1000).toNat 0).1 = true then runX E m false r t f (fE (fg E s f) (fn E s f) i + 1) to (apl acc 9001) (uSe (uCa (uPs s f i 2)) 0 0 (wayF E 5 (fg E s f i % 1000).toNat 0).2 0 0)
        else if 6 ≤ (aFr s f).2.2.1 then runX E m false r t f (fE (fg E s f) (fn E s f) i + 1) to (apl acc 9002) (uSe (uCa (uPs s f i 2)) 0 0 (wayF E 5 (fg E s f i % 1000).toNat 0).2 0 0)
        else (runX E m false (r + 1) (t + 1) (aNf s) 0 (eTl E (eSn E (wayF E 5 (fg E s f i % 1000).toNat 0).1.toNat).toNat) acc
            (uFr (uSe (uCa (uPs s f i 2)) 0 0 (wayF E 5 (fg E s f i % 1000).toNat 0).2 0 0) ((eSn E (wayF E 5 (fg E s f i % 1000).toNat 0).1.toNat).toNat, (wayF E 5 (fg E s f i % 1000).toNat 0).1.toNat, (aFr s f).2.2.1 + 1, (f : Int), i, agF (fg E s f) (prs_ (fg E s f) (fn E s f) 30 (i + 1)) 0 (fun _ => -1)))).bind
          fun q => runX E m false r t f (fE (fg E s f) (fn E s f) i + 1) to q.1 q.2) = some (acc', s')) : PostM E M s s' D row fu rn fu acc' ((to - i) + 1) := by
  have gt := fE_gt (fg E s f) (fn E s f) i
  have tc0 : Tc s ≤ Tc (uPs s f i 2) := by omega
  have hgt : i < fE (fg E s f) (fn E s f) i + 1 := by omega
  by_cases c40 : 40 ≤ aCa s
  · rw [if_pos c40] at hx
    obtain ⟨M2, e2, o2, r2⟩ := X12_call_40 d1 hP0 hE hf hin b3 c40 (fE (fg E s f) (fn E s f) i : Int)
    exact mseg_plain (s0 := uPs s f i 2) (s := s) (f := f) ih rfl rfl tc0 d1 d2 kp0 b5 b6 (b7 M2 e2) o2.pl KyS.rf hP0 (d1.2.2.1.keep (fun j _ _ => congrFun o2.1 j)) (by rw [o2.1]; exact d1.2.1.2.1) (congrFun o2.1 71) (congrFun o2.1 59) rfl r2 hf hB hgt hD hx
  rw [if_neg c40] at hx
  have hPc : ∀ {l c d u q : Nat}, PI E (uSe (uCa (uPs s f i 2)) l c d u q) := (hP0.ca (by show aCa s < 40; omega)).se
  obtain ⟨q1, q2, q3⟩ := X12_call_no d1 hP0 hE hf hin ek b3 c40 (fE (fg E s f) (fn E s f) i : Int)
  have kyc : ∀ {l c d u q : Nat}, KyS (uPs s f i 2) (uSe (uCa (uPs s f i 2)) l c d u q) := KyS.ca.tr (KyS.same sSame.se)
  by_cases cw : (wayF E 5 (fg E s f i % 1000).toNat 0).1 = -1
  · rw [if_pos cw] at hx
    obtain ⟨M2, z1, z2, z3, z4, z5, z6, z7⟩ := q1 cw
    exact mseg_plain (s0 := uPs s f i 2) (s := s) (f := f) ih rfl rfl tc0 d1 d2 kp0 b5 b6 (b7 M2 z1) (z2 _) kyc hPc z6 z5 z4 z3 rfl z7 hf hB hgt hD hx
  rw [if_neg cw] at hx
  by_cases cmf : cmF s 41 f (wayF E 5 (fg E s f i % 1000).toNat 0).1 = true
  · rw [if_pos cmf] at hx
    obtain ⟨M2, z1, z2, z3, z4, z5, z6, z7⟩ := q2 cw ((cmF_uPs s f i 2 _ _ _).trans cmf)
    exact mseg_plain (s0 := uPs s f i 2) (s := s) (f := f) ih rfl rfl tc0 d1 d2 kp0 b5 b6 (b7 M2 z1) (z2 _) kyc hPc z6 z5 z4 z3 rfl z7 hf hB hgt hD hx
  rw [if_neg cmf] at hx
  have cmf' : ¬ cmF (uPs s f i 2) 41 f (wayF E 5 (fg E s f i % 1000).toNat 0).1 = true := fun z => cmf ((cmF_uPs s f i 2 _ _ _).symm.trans z)
  by_cases c6 : 6 ≤ (aFr s f).2.2.1
  · rw [if_pos c6] at hx
    obtain ⟨M2, z1, z2, z3, z4, z5, z6, z7⟩ := q3 cw cmf' c6
    exact mseg_plain (s0 := uPs s f i 2) (s := s) (f := f) ih rfl rfl tc0 d1 d2 kp0 b5 b6 (b7 M2 z1) (z2 _) kyc hPc z6 z5 z4 z3 rfl z7 hf hB hgt hD hx
  rw [if_neg c6] at hx
  exact mseg_call_new ih hE hP hP0 hf hi hin hB hD ht ek hu0 d1 d2 kp0 b3 b5 b6 cm b7 tcu c40 rfl cw cmf c6 hx
end MCL
