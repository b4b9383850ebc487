/-! THE REFERENCE GOES OVER A STRETCH: PARAM -/
section MPS
variable {E : Env} {s s1 s' : ASt} {M M1 M2 M' : Md} {rn fu rn1 fu1 D row f i i1 to F r r2 t m n1 N k : Nat} {acc acc1 acc' : List Int}
theorem mseg_param_begin (ih : SegM E m) (hE : EnP E) (hP : PI E s) (hP0 : PI E (uPs s f i 2)) (hf : f < aNf s) (hi : i < to) (hin : i < fn E s f) (hB : Bl (fg E s f) (fn E s f) (fE (fg E s f) (fn E s f) i + 1) to) (hD : D ≤ t) (ht : t < 3990) (ek : fg E s f i / 1000 = 3)
   (d1 : MS M1 E (uPs s f i 2) rn fu) (d2 : CuM M1 (uPs s f i 2) row rn) (kp0 : KeepM M M1 s (uPs s f i 2) D row fu rn) (b3 : RowM M1 row acc) (b5 : M1.1 59 = (D : Int) + 1) (b6 : TkM M1 D 0 (f : Int) ((fE (fg E s f) (fn E s f) i + 1 : Nat) : Int) (to : Int) (row : Int)) (cm : CuM M s row rn)
   (b7 : ∀ M2, fX12_expandParam (f : Int) (i : Int) (fE (fg E s f) (fn E s f) i : Int) (row : Int) M1 = some ((), M2) → MStp M M2) (tc0 : Tc s ≤ Tc (uPs s f i 2)) (ca : (aFr s f).2.2.2.2.2 (fg E s f i % 1000).toNat ≠ -1) {cf q : Nat} (hcc : (aFr s f).2.2.2.1.toNat = cf) (hqq : ((aFr s f).2.2.2.2.2 (fg E s f i % 1000).toNat).toNat = q)
   (p0' : aPs (uPs s f i 2) cf q = 0)
   (hx : ((runX E m false (r + 1) (t + 2) cf (q + 1) (fE (fg E s cf) (fn E s cf) q) [] (uPs (uPs s f i 2) cf q 1)).bind
            fun qq => runX E m false r t f (fE (fg E s f) (fn E s f) i + 1) to (aal acc qq.1) (uDn qq.2 cf q qq.1)) = some (acc', s')) : PostM E M s s' D row fu rn fu acc' ((to - i) + 1) := by
  have gt := fE_gt (fg E s f) (fn E s f) i
  obtain ⟨hT, hK⟩ := hP.tx hE hf
  have hok := hK i hin
  unfold okt at hok
  have h41 := hP.n41
  obtain ⟨⟨r2, s2⟩, x1, x2⟩ := bind_some hx
  dsimp only at x2
  obtain ⟨a1, a2, a3, a4, a5, a6, a7, a8, a9⟩ := hP.arg hE hf ca
  rw [hcc, hqq] at a4 a6 a7 a8 a9
  rw [hqq] at a5
  have hcf : cf < aNf s := by omega
  have tl := Tc_le (uPs s f i 2)
  have rn1700 : rn < 1700 := by have := d1.2.2.2.1.2.2.1; omega
  obtain ⟨hTc, hKc⟩ := hP.tx hE hcf
  have nc30 : fn E s cf ≤ 30 := hTc.1.2
  have big := X12_param_begin (row := row) (D := D + 1) d1 hP0 hE (f := f) (i := i) hf hin ek ca (by show aPs (uPs s f i 2) (aFr s f).2.2.2.1.toNat ((aFr s f).2.2.2.2.2 (fg E s f i % 1000).toNat).toNat = 0; rw [hcc, hqq]; exact p0') (fE (fg E s f) (fn E s f) i : Int) (b5.trans (by omega)) (by omega) rn1700
  have eg0 : ∀ g, fg E (uPs s f i 2) g = fg E s g := fun _ => rfl
  have en0 : ∀ g, fn E (uPs s f i 2) g = fn E s g := fun _ => rfl
  have ef0 : aFr (uPs s f i 2) f = aFr s f := rfl
  rw [eg0, ef0, hcc, hqq, eg0, en0] at big
  obtain ⟨M2, z1, z2, z3, z4, z5, z6, z7, z8, z9, z10⟩ := big
  have ux : ∀ g x, g < aNf s → Kpl (uPs s f i 2) g x cf q → g = f ∧ x = (fg E s f i % 1000).toNat := fun g x hg z => hP0.uniq hE (f := f) (x0 := (fg E s f i % 1000).toNat) hf ca hg (by show Kpl _ _ _ (aFr s f).2.2.2.1.toNat ((aFr s f).2.2.2.2.2 (fg E s f i % 1000).toNat).toNat; rw [hcc, hqq]; exact z)
  have x10 : (fg E s f i % 1000).toNat < 10 := by omega
  obtain ⟨g1, g2, g3, g4⟩ := d1.begin_ (row := row) (F := fu) (cf := cf) (q := q) hP0 hcf a9 p0' z2 z3 z4 (fun j _ => by rw [z5]) (fun g x hg hx => ⟨fun z => by
      obtain ⟨y1, y2⟩ := ux g x hg z
      rw [y1, y2]; exact z6, fun z => z7 _ (fun e => by
      have hgf : g = f ∧ x = (fg E s f i % 1000).toNat := by omega
      exact z (by rw [hgf.1, hgf.2]; exact ⟨ca, hcc, hqq⟩))⟩)
  have hP3 : PI E (uPs (uPs s f i 2) cf q 1) := hP0.touch hcf (by decide)
  have hB3 : Bl (fg E s cf) (fn E s cf) (q + 1) (fE (fg E s cf) (fn E s cf) q) := Bl.part hTc a9 a7
  obtain ⟨v1, v2, v3⟩ := runX_ch hE m _ _ _ _ _ _ _ _ _ _ x1 hP3 hcf hB3 okr_nil (fun z => absurd z Bool.false_ne_true)
  obtain ⟨n4, M4, rn4, fu4, w1, w2, w3, w4, w5, w6, w7, w8⟩ := (ih _ _ _ _ _ _ _ _ _ _ x1 hP3 hcf hB3 (fun z => absurd z Bool.false_ne_true) M2 (D + 1 + 1) rn (rn + 1) fu g1 g2 g4 (by omega)).1 rfl z10 (by rw [z8]; omega)
  have hs1 : aPs (uPs (uPs s f i 2) cf q 1) cf q = 1 := if_pos ⟨rfl, rfl⟩
  have tcp : Tc (uPs (uPs s f i 2) cf q 1) = Tc (uPs s f i 2) + 1 := Tc_new (by decide) (by omega) (by omega) p0'
  have nS : aNf (uPs (uPs s f i 2) cf q 1) = aNf s := rfl
  have fS : aFr (uPs (uPs s f i 2) cf q 1) = aFr s := rfl
  generalize uPs (uPs s f i 2) cf q 1 = S at *
  have hs2 : aPs s2 cf q = 1 := by
    rw [v2.nz (g := cf) (p := q) (by rw [hs1]; decide)]
    exact hs1
  have k47 : M4.2 47 (10 * f + (fg E s f i % 1000).toNat) = (rn : Int) := (w5.2.2.2.2.2.1 f _ (by omega) x10 (by rw [z6]; omega)).trans z6
  have fr2 : aFr s2 f = aFr s f := (v2.2.1 f (by omega)).trans (by rw [fS])
  have hf2 : f < aNf s2 := by have := v2.1; omega
  have ux2 : ∀ g x, g < aNf s2 → Kpl s2 g x cf q → g = f ∧ x = (fg E s f i % 1000).toNat := fun g x hg z => v1.uniq hE hf2 (x0 := (fg E s f i % 1000).toNat) (by rw [fr2]; exact ca) hg (by rw [fr2, hcc, hqq]; exact z)
  obtain ⟨u1', u2'⟩ := w2.done_ (r := r2) hs2 (fun g x hg hx z => by
    obtain ⟨y1, y2⟩ := ux2 g x hg z
    exact ⟨rn, by rw [y1, y2]; exact k47, w3⟩)
  have hcf2 : cf < aNf s2 := by have := v2.1; omega
  have hP5 : PI E (uDn s2 cf q r2) := v1.dn hcf2 v3
  have kp2 : KeepM M M2 s S D row fu rn := kp0.tr g3 (Nat.le_succ D) (Nat.le_refl _) (Nat.le_refl _) (fun _ _ z => z) (Nat.le_refl _)
  have kp4 : KeepM M M4 s s2 D row fu rn := kp2.tr w5 (by omega) (Nat.le_refl _) (Nat.le_succ _) (fun d hd _ => by omega) (Nat.le_of_eq nS.symm)
  have hn2 : aNf s ≤ aNf (uDn s2 cf q r2) := by have := v2.1; show aNf s ≤ aNf s2; omega
  have kp5 : KeepM M M4 s (uDn s2 cf q r2) D row fu rn := ⟨kp4.1, kp4.2.1, kp4.2.2.1, kp4.2.2.2.1, kp4.2.2.2.2.1, kp4.2.2.2.2.2.1, fun d hd z => u2' d (kp4.2.2.2.2.2.2 d hd z) (fun g x hg _ z => by
    obtain ⟨y1, y2⟩ := ux2 g x hg z
    rw [y1, y2, k47]; omega)⟩
  have cm5 : CuM M4 (uDn s2 cf q r2) row rn4 := ⟨by have := cm.1; omega, cm.2.1, kp5.2.2.2.2.2.2 row cm.1 cm.2.2⟩
  have rm2 : RowM M2 row acc := ⟨b3.1, by rw [z2.2.2.1 row (by have := cm.1; omega)]; exact b3.2.1, b3.2.2.1, fun k hk => by rw [z2.2.1 50 (by decide)]; exact b3.2.2.2 k hk⟩
  have rm5 : RowM M4 row acc := w5.rw_ rm2 (by have := cm.1; omega) (by have := cm.1; omega)
  have tk1 : TkM M4 (D + 1) 1 (rn : Int) 0 0 (row : Int) := w5.tk z9 (Nat.lt_succ_self _)
  have oS : PlO row (D + 1) M4 (mSet M4 59 ((D + 1 : Nat) : Int)) := PlO.set (Or.inl rfl)
  obtain ⟨M6, e6, r6, o6⟩ := X12_appendRow_ (M := mSet M4 59 ((D + 1 : Nat) : Int)) (d := row) (e := rn) (by have := cm.1; omega) rm5 w3
  have stp6 : MStp M4 M6 := mapp_step tk1 (by rw [w4]; omega) (by omega) e6
  obtain ⟨m1, m2, m3⟩ := u1'.move (F := fu) (D := D + 1) cm5 (oS.tr o6.pl) KyS.rf (u1'.2.2.1.keep (fun j _ _ => (congrFun o6.1 j).trans (mS2 _ _ (by omega)))) (by rw [o6.1, mS2 _ _ (by decide)]; exact u1'.2.1.2.1) (by rw [o6.1, mS2 _ _ (by decide)]; exact u1'.2.1.2.2) (Nat.le_refl _) (Nat.le_refl _)
  have kp6 : KeepM M M6 s (uDn s2 cf q r2) D row fu rn := kp5.tr m3 (Nat.le_succ D) (Nat.le_refl _) (by omega) (fun _ _ z => z) hn2
  have egD : fg E (uDn s2 cf q r2) f = fg E s f := by show eTx E (aFr s2 f).1 = _; rw [fr2]
  have enD : fn E (uDn s2 cf q r2) f = fn E s f := by show eTl E (aFr s2 f).1 = _; rw [fr2]
  have tcd : Tc s2 ≤ Tc (uDn s2 cf q r2) := Tc_dn
  have fq30 : fE (fg E s cf) (fn E s cf) q ≤ 30 := by have := (cl_mk hTc a9 a7).2.1; omega
  have b6' : TkM M6 D 0 (f : Int) ((fE (fg E s f) (fn E s f) i + 1 : Nat) : Int) (to : Int) (row : Int) := m3.tk (w5.tk (g3.tk b6 (Nat.lt_succ_self D)) (by omega)) (Nat.lt_succ_self D)
  exact mseg_on ih hP5 hf2 (by rw [egD, enD]; exact hB) (((MSts.one (b7 _ z1)).app w1).app (MSts.one stp6)) m1 m2 r6 hD b6' (by rw [o6.1, mS1]; omega) kp6 (by omega) w7 w7 hn2 (by rw [tcp] at w8; omega) x2
end MPS
