/-! THE REFERENCE GOES OVER A STRETCH, all -/
section MSG2
variable {E : Env} {s s1 s' : ASt} {M M1 M' : Md} {rn fu rn1 fu1 D row f i i1 to F r t m n1 N k : Nat} {acc acc1 acc' : List Int}
set_option maxHeartbeats 1000000 in
theorem mseg_op (ih : SegM E m) (hE : EnP E) (hP : PI E s) (hf : f < aNf s) (hB : Bl (fg E s f) (fn E s f) i to) (hi : i < to) (ms : MS M E s rn fu) (cm : CuM M s row rn) (rm : RowM M row acc) (hD : D ≤ t) (ht : t < 3990) (tk : TkM M D 0 (f : Int) (i : Int) (to : Int) (row : Int)) (h59 : M.1 59 = (D : Int) + 1) (ho : opB (fg E s f i / 1000) = true) (hu : unt s f i (fE (fg E s f) (fn E s f) i) = true)
   (hnF : ¬ (fg E s f i / 1000 = 4 ∧ 690 ≤ nFu E s))
   (hx : (if fg E s f i / 1000 = 10 ∨ (fg E s f i / 1000 = 8 ∧ 0 < (aFr s f).2.2.1) ∨ (fg E s f i / 1000 = 9 ∧ (aFr s f).2.2.1 = 0) then
        (runX E m false r (t + 1) f (i + 1) (fE (fg E s f) (fn E s f) i) acc (uPs s f i 2)).bind fun q => runX E m false r t f (fE (fg E s f) (fn E s f) i + 1) to q.1 q.2
      else if fg E s f i / 1000 = 2 then
        if 40 ≤ aCa s then runX E m false r t f (fE (fg E s f) (fn E s f) i + 1) to (apl acc 9003) (uPs s f i 2)
        else if (wayF E 5 (fg E s f i % 1000).toNat 0).1 = -1 then runX E m false r t f (fE (fg E s f) (fn E s f) i + 1) to (apl acc (2000 + fg E s f i % 1000)) (uSe (uCa (uPs s f i 2)) (2 ^ (fg E s f i % 1000).toNat) 0 (wayF E 5 (fg E s f i % 1000).toNat 0).2 0 0)
        else if cmF s 41 f (wayF E 5 (fg E s f i % 1000).toNat 0).1 = true then runX E m false r t f (fE (fg E s f) (fn E s f) i + 1) to (apl acc 9001) (uSe (uCa (uPs s f i 2)) 0 0 (wayF E 5 (fg E s f i % 1000).toNat 0).2 0 0)
        else if 6 ≤ (aFr s f).2.2.1 then runX E m false r t f (fE (fg E s f) (fn E s f) i + 1) to (apl acc 9002) (uSe (uCa (uPs s f i 2)) 0 0 (wayF E 5 (fg E s f i % 1000).toNat 0).2 0 0)
        else (runX E m false (r + 1) (t + 1) (aNf s) 0 (eTl E (eSn E (wayF E 5 (fg E s f i % 1000).toNat 0).1.toNat).toNat) acc
            (uFr (uSe (uCa (uPs s f i 2)) 0 0 (wayF E 5 (fg E s f i % 1000).toNat 0).2 0 0) ((eSn E (wayF E 5 (fg E s f i % 1000).toNat 0).1.toNat).toNat, (wayF E 5 (fg E s f i % 1000).toNat 0).1.toNat, (aFr s f).2.2.1 + 1, (f : Int), i, agF (fg E s f) (prs_ (fg E s f) (fn E s f) 30 (i + 1)) 0 (fun _ => -1)))).bind
          fun q => runX E m false r t f (fE (fg E s f) (fn E s f) i + 1) to q.1 q.2
      else if fg E s f i / 1000 = 3 then
        if (aFr s f).2.2.2.2.2 (fg E s f i % 1000).toNat = -1 ∨ (aFr s f).2.2.2.1 = -1 then
          (runX E m false r (t + 1) f (i + 1) (fE (fg E s f) (fn E s f) i) acc (uPs s f i 2)).bind fun q => runX E m false r t f (fE (fg E s f) (fn E s f) i + 1) to q.1 q.2
        else if aPs s (aFr s f).2.2.2.1.toNat ((aFr s f).2.2.2.2.2 (fg E s f i % 1000).toNat).toNat = 2 then
          runX E m false r t f (fE (fg E s f) (fn E s f) i + 1) to (aal acc (aRw s (aFr s f).2.2.2.1.toNat ((aFr s f).2.2.2.2.2 (fg E s f i % 1000).toNat).toNat)) (uPs s f i 2)
        else if aPs s (aFr s f).2.2.2.1.toNat ((aFr s f).2.2.2.2.2 (fg E s f i % 1000).toNat).toNat = 0 then
          (runX E m false (r + 1) (t + 2) (aFr s f).2.2.2.1.toNat (((aFr s f).2.2.2.2.2 (fg E s f i % 1000).toNat).toNat + 1) (fE (fg E s (aFr s f).2.2.2.1.toNat) (fn E s (aFr s f).2.2.2.1.toNat) ((aFr s f).2.2.2.2.2 (fg E s f i % 1000).toNat).toNat) []
              (uPs (uPs s f i 2) (aFr s f).2.2.2.1.toNat ((aFr s f).2.2.2.2.2 (fg E s f i % 1000).toNat).toNat 1)).bind
            fun q => runX E m false r t f (fE (fg E s f) (fn E s f) i + 1) to (aal acc q.1) (uDn q.2 (aFr s f).2.2.2.1.toNat ((aFr s f).2.2.2.2.2 (fg E s f i % 1000).toNat).toNat q.1)
        else none
      else if fg E s f i / 1000 = 4 then
        match gv E (uPs s f i 2) f (prs_ (fg E s f) (fn E s f) 30 (i + 1)) (fg E s f i % 1000) acc with
        | none => none
        | some (0, acc', s') => runX E m false r t f (fE (fg E s f) (fn E s f) i + 1) to acc' s'
        | some (j + 1, _, s') =>
          (runX E m false (r + 1) (t + 2) f ((prs_ (fg E s f) (fn E s f) 30 (i + 1)).getD j 0 + 1) (fE (fg E s f) (fn E s f) ((prs_ (fg E s f) (fn E s f) 30 (i + 1)).getD j 0)) [] (uPs s' f ((prs_ (fg E s f) (fn E s f) 30 (i + 1)).getD j 0) 1)).bind
            fun q => runX E m true r t f i to acc (uDn q.2 f ((prs_ (fg E s f) (fn E s f) 30 (i + 1)).getD j 0) q.1)
      else runX E m false r t f (fE (fg E s f) (fn E s f) i + 1) to acc (uPs s f i 2)) = some (acc', s')) : PostM E M s s' D row fu rn fu acc' ((to - i) + 1) := by
  obtain ⟨hT, hK⟩ := hP.tx hE hf
  have hin : i < fn E s f := by have := hB.2.1; omega
  have gt := fE_gt (fg E s f) (fn E s f) i
  have h41 := hP.n41
  have n30 := (ms.fr hf).2.2.2.1
  have hf41 : f < 41 := by omega
  have hlt := hB.2.2 i (Nat.le_refl _) hi ho
  have htn := hB.2.1
  have hBo := hB.over hi ho
  have hBs := Bl.sub hT hin ho
  have hu0 : ∀ p, i ≤ p → p < fE (fg E s f) (fn E s f) i → aPs s f p = 0 := fun p h1 h2 => unt_all hu h1 h2
  obtain ⟨M1, b1, b2, b3, b4, b5, b6, b7⟩ := mt_base hE hP ms cm rm hf hi hB.2.1 (by omega) tk h59
  rw [if_pos ho] at b6
  rw [if_pos ho] at b7
  have hP0 : PI E (uPs s f i 2) := hP.touch hf (by decide)
  obtain ⟨d1, d2, d3⟩ := b1.touch (D := D) (F := fu) hP hE ho (nFu_up (by decide)) b2
  have kp0 : KeepM M M1 s (uPs s f i 2) D row fu rn := b4.tr d3 (Nat.le_refl _) (Nat.le_refl _) (Nat.le_refl _) (fun _ _ z => z) (Nat.le_refl _)
  have tcu : Tc (uPs s f i 2) = Tc s + 1 := Tc_new (by decide) hf41 (by omega) (hu0 i (Nat.le_refl i) gt)
  have tc0 : Tc s ≤ Tc (uPs s f i 2) := by omega
  have hgt : i < fE (fg E s f) (fn E s f) i + 1 := by omega
  have hdep : M1.2 43 f = ((aFr s f).2.2.1 : Int) := (b1.2.2.2.2.2.1 f hf).2.2.1
  have hd6 := (hP.1 f hf).1.2.2
  -- a content, and on
  have content : ∀ {M2 : Md}, MStp M M2 → M2.1 59 = ((D + 1 : Nat) : Int) + 1 → TkM M2 (D + 1) 0 (f : Int) ((i + 1 : Nat) : Int) (fE (fg E s f) (fn E s f) i : Int) (row : Int) → TkO (D + 1) M1 M2 →
     ((runX E m false r (t + 1) f (i + 1) (fE (fg E s f) (fn E s f) i) acc (uPs s f i 2)).bind fun q => runX E m false r t f (fE (fg E s f) (fn E s f) i + 1) to q.1 q.2) = some (acc', s') → PostM E M s s' D row fu rn fu acc' ((to - i) + 1) := by
    intro M2 y1 y2 y3 y4 hx
    obtain ⟨g1, g2, g3⟩ := d1.move (F := fu) (D := D + 1) d2 (y4.pl (Nat.le_refl _)) KyS.rf (d1.2.2.1.keep (fun j _ _ => y4.1 j (by omega))) (by rw [y4.1 65 (by decide)]; exact d1.2.1.2.1) (by rw [y4.1 71 (by decide)]; exact b1.2.1.2.2) (Nat.le_refl _) (Nat.le_refl _)
    have rm2 : RowM M2 row acc := b3.t y4.2.1
    exact mseg_sub (i := i) ih hE hP0 hf hBs hf rfl (Nat.le_refl _) (Nat.le_of_eq tcu.symm) y1 g1 g2 rm2 (kp0.tr g3 (Nat.le_succ D) (Nat.le_refl _) (Nat.le_refl _) (fun _ _ z => z) (Nat.le_refl _)) (g3.tk b6 (Nat.lt_succ_self D)) y3 y2 hD (by omega) hBo hgt cm.2.2 ⟨cm.1, cm.2.1⟩ hx
  by_cases k1 : fg E s f i / 1000 = 10 ∨ (fg E s f i / 1000 = 8 ∧ 0 < (aFr s f).2.2.1) ∨ (fg E s f i / 1000 = 9 ∧ (aFr s f).2.2.1 = 0)
  · rw [if_pos k1] at hx
    obtain ⟨M2, t1, t2, t3, t4⟩ := X12_task_ (M := M1) (d := D + 1) (b5.trans (by omega)) (by omega) 0 (f : Int) ((i + 1 : Nat) : Int) (fE (fg E s f) (fn E s f) i : Int) (row : Int)
    refine content (M2 := M2) (b7 M2 ?_) t2 t3 t4 hx
    rw [tokR_in hf41 hdep hd6 k1, show (i : Int) + 1 = ((i + 1 : Nat) : Int) by omega, cal_of t1]
  rw [if_neg k1] at hx
  by_cases k2 : fg E s f i / 1000 = 2
  · rw [if_pos k2] at hx
    rw [k2, tokR_2] at b7
    exact mseg_call ih hE hP hP0 hf hi hin hBo hD ht k2 hu0 d1 d2 kp0 b3 b5 b6 cm (fun M2 e => b7 M2 (by rw [cal_of e])) tcu hx
  rw [if_neg k2] at hx
  by_cases k3 : fg E s f i / 1000 = 3
  · rw [if_pos k3] at hx
    rw [k3, tokR_3] at b7
    have b7' : ∀ M2, fX12_expandParam (f : Int) (i : Int) (fE (fg E s f) (fn E s f) i : Int) (row : Int) M1 = some ((), M2) → MStp M M2 := fun M2 e => b7 M2 (by rw [cal_of e])
    by_cases ca : (aFr s f).2.2.2.2.2 (fg E s f i % 1000).toNat = -1 ∨ (aFr s f).2.2.2.1 = -1
    · rw [if_pos ca] at hx
      have ca' : (aFr s f).2.2.2.2.2 (fg E s f i % 1000).toNat = -1 := by
        rcases ca with z | z
        · exact z
        · rcases (hP.1 f hf).2 with y | y
          · exact y.2 _
          · have := y.1; omega
      obtain ⟨M2, t1, t2, t3, t4⟩ := X12_param_free (row := row) (D := D + 1) b1 hP hE hf hin k3 ca' (b5.trans (by omega)) (by omega) (fE (fg E s f) (fn E s f) i)
      exact content (b7' M2 t1) t2 t3 t4 hx
    rw [if_neg ca] at hx
    have ca' : (aFr s f).2.2.2.2.2 (fg E s f i % 1000).toNat ≠ -1 := fun z => ca (Or.inl z)
    obtain ⟨a1, a2, a3, a4, a5, a6, a7, a8, a9⟩ := hP.arg hE hf ca'
    have hne : ¬ ((aFr s f).2.2.2.1.toNat = f ∧ ((aFr s f).2.2.2.2.2 (fg E s f i % 1000).toNat).toNat = i) := fun z => by have := z.1; omega
    have hst : aPs (uPs s f i 2) (aFr s f).2.2.2.1.toNat ((aFr s f).2.2.2.2.2 (fg E s f i % 1000).toNat).toNat = aPs s (aFr s f).2.2.2.1.toNat ((aFr s f).2.2.2.2.2 (fg E s f i % 1000).toNat).toNat := if_neg hne
    by_cases p2 : aPs s (aFr s f).2.2.2.1.toNat ((aFr s f).2.2.2.2.2 (fg E s f i % 1000).toNat).toNat = 2
    · rw [if_pos p2] at hx
      obtain ⟨M2, e2, o2, r2⟩ := X12_param_done d1 hP0 hE d2 b3 hf hin k3 ca' (hst.trans p2) (fE (fg E s f) (fn E s f) i : Int)
      exact mseg_plain (s0 := uPs s f i 2) (s := s) (f := f) ih rfl rfl tc0 d1 d2 kp0 b5 b6 (b7' M2 e2) o2.pl KyS.rf hP0 (d1.2.2.1.keep (fun j _ _ => congrFun o2.1 j)) (by rw [o2.1]; exact d1.2.1.2.1) (congrFun o2.1 71) (congrFun o2.1 59) rfl r2 hf hBo hgt hD hx
    rw [if_neg p2] at hx
    by_cases p0 : aPs s (aFr s f).2.2.2.1.toNat ((aFr s f).2.2.2.2.2 (fg E s f i % 1000).toNat).toNat = 0
    · rw [if_pos p0] at hx
      exact mseg_param_begin ih hE hP hP0 hf hi hin hBo hD ht k3 d1 d2 kp0 b3 b5 b6 cm b7' tc0 ca' rfl rfl (hst.trans p0) hx
    · rw [if_neg p0] at hx; cases hx
  rw [if_neg k3] at hx
  by_cases k4 : fg E s f i / 1000 = 4
  · rw [if_pos k4] at hx
    rw [k4, tokR_4] at b7
    have hfu : fu < 700 := by have := ms.2.2.2.1.2.2.2.2; omega
    obtain ⟨M2, z1, z2, z3, z4, z5, z6, z7, z8⟩ := mfunc_new (row := row) (D := D + 1) b1 hP hE b2 b3 hf hin k4 hu0 hfu (b5.trans (by omega)) (by omega)
    have h2 : aPs (uPs s f i 2) f i = 2 := if_pos ⟨rfl, rfl⟩
    obtain ⟨n3, M3, rn3, fu3, w1, w2, w3, w4, w5, w6, w7, w8⟩ := mseg_func (s := uPs s f i 2) (t := t) (r := r) ih hE hP0 hf hB hi k4 h2 z2 z3 z4 hD (by omega) (Nat.lt_succ_self fu) (z5.tk b6 (Nat.lt_succ_self D)) z8 (by rw [z7]; omega) z6 hx
    have kp2 : KeepM M M2 s (uPs s f i 2) D row fu rn := b4.tr z5 (Nat.le_succ D) (Nat.le_refl _) (Nat.le_refl _) (fun _ _ z => z) (Nat.le_refl _)
    have w8' : n3 + 64 * Tc (uPs s f i 2) ≤ (to - fE (fg E s f) (fn E s f) i) + 1 + 64 * Tc s' := w8
    exact ⟨1 + n3, M3, rn3, fu3, (MSts.one (b7 _ (by rw [cal_of z1]))).app w1, w2, w3, w4, kp2.tr w5 (Nat.le_refl _) (Nat.le_refl _) (Nat.le_refl _) (fun _ _ z => z) (Nat.le_refl _), w6, by omega, by omega⟩
  rw [if_neg k4] at hx
  have k89 : (fg E s f i / 1000 = 8 ∧ (aFr s f).2.2.1 = 0) ∨ (fg E s f i / 1000 = 9 ∧ 0 < (aFr s f).2.2.1) := by
    rcases opB_cases ho with e | e | e | e | e | e <;> omega
  exact mseg_plain (s0 := uPs s f i 2) (s := s) (f := f) ih rfl rfl tc0 d1 d2 kp0 b5 b6 (b7 M1 (tokR_out hf41 hdep hd6 k89)) PlO.rf KyS.rf hP0 d1.2.2.1 d1.2.1.2.1 rfl rfl rfl b3 hf hBo hgt hD hx
set_option maxHeartbeats 1000000 in
theorem seg_m (hE : EnP E) : ∀ m, SegM E m := by
  intro m
  induction m with
  | zero => intro re r t f i to acc s acc' s' hx; cases hx
  | succ m ih =>
    intro re r t f i to acc s acc' s' hx hP hf hB hre M D row rn fu ms cm rm hD
    rw [runX] at hx
    by_cases c0 : 510 ≤ r ∨ 3990 ≤ t
    · rw [if_pos c0] at hx; cases hx
    rw [if_neg c0] at hx
    by_cases c1 : to ≤ i
    · rw [if_pos c1] at hx
      injection hx with hx
      injection hx with e1 e2
      subst e1 e2
      refine ⟨fun hr tk h59 => ?_, fun hr => by have := (hre hr).2.1; omega⟩
      have hb := hB.1
      have hn := (ms.fr hf).2.2.2.1
      have hb2 := hB.2.1
      have st := mdone tk h59 (by omega) c1 (by omega)
      have oS : PlO row D M (mSet M 59 (D : Int)) := PlO.set (Or.inl rfl)
      obtain ⟨a1, a2, a3⟩ := ms.move (F := fu) cm oS KyS.rf (ms.2.2.1.keep (fun j _ _ => mS2 _ _ (by omega))) ((mS2 _ _ (by decide)).trans ms.2.1.2.1) (by rw [mS2 _ _ (by decide)]; exact ms.2.1.2.2) (Nat.le_refl _) (Nat.le_refl _)
      exact ⟨1, _, rn, fu, MSts.one st, a1, rm, mS1 _ _ _, a3, Nat.le_refl _, Nat.le_refl _, by omega⟩
    rw [if_neg c1] at hx
    have hi : i < to := by omega
    by_cases ho : opB (fg E s f i / 1000) = true
    · rw [if_pos ho] at hx
      by_cases u1 : re = false ∧ unt s f i (fE (fg E s f) (fn E s f) i) = false
      · rw [if_pos u1] at hx; cases hx
      rw [if_neg u1] at hx
      by_cases u2 : re = false ∧ fg E s f i / 1000 = 4 ∧ 690 ≤ nFu E s
      · rw [if_pos u2] at hx; cases hx
      rw [if_neg u2] at hx
      by_cases u3 : re = true ∧ ¬ fg E s f i / 1000 = 4
      · rw [if_pos u3] at hx; cases hx
      rw [if_neg u3] at hx
      cases re with
      | true =>
        refine ⟨fun z => absurd z.symm Bool.false_ne_true, fun _ k hk tk tk2 h59 hF => ?_⟩
        obtain ⟨h2, _, ek⟩ := hre rfl
        have gt := fE_gt (fg E s f) (fn E s f) i
        rw [if_neg (by omega), if_neg (by omega), if_neg (by omega), if_pos ek, uPs_self h2] at hx
        obtain ⟨n, M2, rn2, fu2, a1, a2, a3, a4, a5, a6, a7, a8⟩ := mseg_func ih hE hP hf hB hi ek h2 ms cm rm hD (by omega) hk tk tk2 h59 hF hx
        exact ⟨n, M2, rn2, fu2, a1, a2, a3, a4, a5, a6, a7, by omega⟩
      | false =>
        refine ⟨fun _ tk h59 => ?_, fun z => absurd z Bool.false_ne_true⟩
        exact mseg_op ih hE hP hf hB hi ms cm rm hD (by omega) tk h59 ho (eq_true_of_ne_false (fun z => u1 ⟨rfl, z⟩)) (fun z => u2 ⟨rfl, z⟩) hx
    · rw [if_neg ho] at hx
      refine ⟨fun hr tk h59 => ?_, fun hr => by have := (hre hr).2.2; rw [this] at ho; exact absurd rfl ho⟩
      obtain ⟨hT, hK⟩ := hP.tx hE hf
      have hin : i < fn E s f := by have := hB.2.1; omega
      have hok := hK i hin
      unfold okt at hok
      have hBs := hB.step hi
      obtain ⟨M1, b1, b2, b3, b4, b5, b6, b7⟩ := mt_base hE hP ms cm rm hf hi hB.2.1 (by omega) tk h59
      rw [if_neg ho] at b6 b7
      have plain : ∀ {M2 : Md} {s1 : ASt} {acc1 : List Int}, tokR (f : Int) (i : Int) (row : Int) (fg E s f i / 1000) (fg E s f i % 1000) (i : Int) M1 = some ((), M2) → PlO row (D + 1) M1 M2 → sSame s s1 → SeM M2 s1 → M2.1 65 = M1.1 65 → M2.1 71 = M1.1 71 → M2.1 59 = M1.1 59 → RowM M2 row acc1 →
           runX E m false r t f (i + 1) to acc1 s1 = some (acc', s') → PostM E M s s' D row fu rn fu acc' ((to - i) + 1) := by
        intro M2 s1 acc1 y1 y2 y3 y5 y6 y7 y8 y10 hx
        exact mseg_plain (s0 := s) (s := s) (f := f) ih rfl rfl (Nat.le_refl _) b1 b2 b4 b5 b6 (b7 M2 y1) y2 (KyS.same y3) (hP.same y3) y5 (by rw [y6, show aCa s1 = aCa s from y3.2.2.2.2]; exact b1.2.1.2.1) y7 y8 y3.2.2.1 y10 hf hBs (Nat.lt_succ_self i) hD hx
      have hSe := b1.2.2.1
      by_cases k0 : fg E s f i / 1000 = 0
      · rw [if_pos k0] at hx
        obtain ⟨M2, e2, r2, o2⟩ := X12_append_ (x := fg E s f i % 1000) b3 (by omega) (by omega)
        exact plain (by rw [k0, tokR_0, cal_of e2]) o2.pl sSame.rf (hSe.keep (fun j _ _ => congrFun o2.1 j)) (congrFun o2.1 65) (congrFun o2.1 71) (congrFun o2.1 59) r2 hx
      rw [if_neg k0] at hx
      by_cases k1 : fg E s f i / 1000 = 1 ∨ fg E s f i / 1000 = 12
      · rw [if_pos k1] at hx
        obtain ⟨M2, e2, r2, o2⟩ := X12_append_ (x := 1000 + fg E s f i % 1000) b3 (by omega) (by omega)
        have ev : fg E s f i % 1000 = (((fg E s f i % 1000).toNat : Nat) : Int) := by omega
        have hv : (fg E s f i % 1000).toNat < 24 := by omega
        have h66 : orI (M2.1 66) (shlI 1 (fg E s f i % 1000)) = ((aLk s ||| 2 ^ (fg E s f i % 1000).toNat : Nat) : Int) := by
          rw [o2.1, hSe.1.1, ev, orI_set hSe.1.2 hv, Int.toNat_natCast]
        have q : ∀ j, j ≠ 66 → (mSet M2 66 ((aLk s ||| 2 ^ (fg E s f i % 1000).toNat : Nat) : Int)).1 j = M1.1 j := fun j hj => (mS2 _ _ hj).trans (congrFun o2.1 j)
        refine plain (M2 := mSet M2 66 ((aLk s ||| 2 ^ (fg E s f i % 1000).toNat : Nat) : Int)) (by rw [tokR_1 k1, cal_of e2, h66]) (o2.pl.tr (PlO.set (by decide))) sSame.se ?_ (q 65 (by decide)) (q 71 (by decide)) (q 59 (by decide)) r2 hx
        exact hSe.mk (mS1 _ _ _) (by rw [q 67 (by decide), Nat.or_zero]; exact hSe.2.1.1) (by rw [q 68 (by decide), Nat.or_zero]; exact hSe.2.2.1.1) (by rw [q 69 (by decide), Nat.or_zero]; exact hSe.2.2.2.1.1) (by rw [q 70 (by decide), Nat.or_zero]; exact hSe.2.2.2.2.1) (Nat.pow_lt_pow_right (n := 24) (by decide) hv) (by decide) (by decide) (by decide) (by decide)
      rw [if_neg k1] at hx
      by_cases k11 : fg E s f i / 1000 = 11
      · rw [if_pos k11] at hx
        have ev : fg E s f i % 1000 = (((fg E s f i % 1000).toNat : Nat) : Int) := by omega
        have hv : (fg E s f i % 1000).toNat < 8 := by omega
        have h67 : orI (M1.1 67) (shlI 1 (fg E s f i % 1000)) = ((aCt s ||| 2 ^ (fg E s f i % 1000).toNat : Nat) : Int) := by
          rw [hSe.2.1.1, ev, orI_set (by have := hSe.2.1.2; omega) (by omega), Int.toNat_natCast]
        have q : ∀ j, j ≠ 67 → (mSet M1 67 ((aCt s ||| 2 ^ (fg E s f i % 1000).toNat : Nat) : Int)).1 j = M1.1 j := fun j hj => mS2 _ _ hj
        refine plain (M2 := mSet M1 67 ((aCt s ||| 2 ^ (fg E s f i % 1000).toNat : Nat) : Int)) (by rw [k11, tokR_11, h67]) (PlO.set (by decide)) sSame.se ?_ (q 65 (by decide)) (q 71 (by decide)) (q 59 (by decide)) b3 hx
        exact hSe.mk (by rw [q 66 (by decide), Nat.or_zero]; exact hSe.1.1) (mS1 _ _ _) (by rw [q 68 (by decide), Nat.or_zero]; exact hSe.2.2.1.1) (by rw [q 69 (by decide), Nat.or_zero]; exact hSe.2.2.2.1.1) (by rw [q 70 (by decide), Nat.or_zero]; exact hSe.2.2.2.2.1) (by decide) (Nat.pow_lt_pow_right (n := 8) (by decide) hv) (by decide) (by decide) (by decide)
      rw [if_neg k11] at hx
      have nop : ∀ k : Int, (k = 2 ∨ k = 3 ∨ k = 4 ∨ k = 8 ∨ k = 9 ∨ k = 10) → fg E s f i / 1000 ≠ k := fun k hk z => ho (by rw [z]; exact decide_eq_true hk)
      have n2 := nop 2 (by decide); have n3 := nop 3 (by decide); have n4 := nop 4 (by decide); have n8 := nop 8 (by decide); have n9 := nop 9 (by decide); have n10 := nop 10 (by decide)
      exact plain (tokR_skip (by omega)) PlO.rf sSame.rf hSe rfl rfl rfl b3 hx
end MSG2
