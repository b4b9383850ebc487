/-! THE CALL edit -/
section EDI
variable {b kc : Nat} {M M' M1 M2 M11 : Md} {C C' C1 C2 : Cd} {P : Nat → Prop} {VA PA LE AA : Nat → Nat} {nv np na : Nat} {d f g : Nat → Int} {n m dn : Nat} {A B : Nat → Bool}
def edE (a0 : Nat) (a1 : Int) (p3 p22 : Nat) (C28 : Cd) : Option ((Int ⊕ Nat) × Cd) :=
if isO C28 a0 14 then cal (fX11_addNextVersion a0 a1 (some p3) (some p22) C28) fun (r31 : Int) (C30 : Cd) =>
if isO C30 a0 14 then bnd (cR C30 1403 a0) fun (z32 : Option Nat) =>
drf z32 fun (p33 : Nat) =>
if isO C30 p33 11 then cal (fX8_clear p33 C30) fun (r35 : Unit) (C34 : Cd) =>
some (.inl r31, C34)
else none
else none
else none
def edT (a0 : Nat) (a1 : Int) (p3 : Nat) (v7_146 : Option Nat) (v8_146 : Int) (C_146 : Cd) : Option ((Int ⊕ Nat) × Cd) :=
bnd (fun  (C_175 : Cd) =>
some (.inr 1, cBump C_175)) fun J175 =>
if w32 v8_146 = 0 then
J175 C_146
else
drf v7_146 fun (p22 : Nat) =>
if isO C_146 p22 11 then cal (fX8_isText p22 C_146) fun (r24 : Int) (C23 : Cd) =>
if w32 r24 = 0 then
J175 C23
else
if isO C23 p3 6 then bnd (cR C23 601 p3) fun (z25 : Option Nat) =>
drf z25 fun (p26 : Nat) =>
if isO C23 p26 13 then bnd (cR C23 1302 p26) fun (z27 : Option Nat) =>
if isO C23 p22 11 then cal (fX8_sameAs p22 z27 C23) fun (r29 : Int) (C28 : Cd) =>
if w32 r29 = 0 then
if isO C28 a0 14 then cal (fX11_addNextVersion a0 a1 (some p3) (some p22) C28) fun (r31 : Int) (C30 : Cd) =>
if isO C30 a0 14 then bnd (cR C30 1403 a0) fun (z32 : Option Nat) =>
drf z32 fun (p33 : Nat) =>
if isO C30 p33 11 then cal (fX8_clear p33 C30) fun (r35 : Unit) (C34 : Cd) =>
some (.inl r31, C34)
else none
else none
else none
else
J175 C28
else none
else none
else none
else none
theorem edT_no {t : Int} {p3 : Nat} {v : Option Nat} : edT b t p3 v 0 C = some (.inr 1, cBump C) := by
  unfold edT
  rw [bnd_eq, if_pos (by decide)]
def NwC (g : Nat → Int) (n : Nat) (f : Nat → Int) (m : Nat) : Prop := isTx g n = true ∧ ¬ (n = m ∧ ∀ k, k < n → g k = f k)
theorem edT_yes (W : Wf C) {t : Int} {p3 T cap w capw : Nat} (hT : TxV C T cap g n) (hw : TxV C (w + 1) capw f m) (hp : isO C p3 6) (h601 : cR C 601 p3 = some w) (ow : isO C w 13) (rw_ : cR C 1302 w = some (w + 1)) :
   ∃ C3, Fp (fun _ _ _ => False) C C3 ∧ csz C3 ≤ csz C + 1 ∧ csl C3 ≤ csl C + 31 ∧ ((NwC g n f m ∧ edT b t p3 (some T) 1 C = edE b t p3 T C3) ∨ (¬ NwC g n f m ∧ edT b t p3 (some T) 1 C = some (.inr 1, cBump C3))) := by
  obtain ⟨C3, e1, k1, s1, hl, l1⟩ := X8_isText_2 W hT
  have f1 : Fp (fun _ _ _ => False) C C3 := Fp.of k1 hl (fun _ _ _ _ z => z)
  have hT3 := hT.fp W f1 (fun z => z) (fun z => z) (fun z => z) (fun z => z)
  have hw3 := hw.fp W f1 (fun z => z) (fun z => z) (fun z => z) (fun z => z)
  refine ⟨C3, f1, s1, l1, ?_⟩
  unfold edT
  rw [bnd_eq, if_neg (by decide), drf_some, if_pos hT.isO_, cal_of e1]
  by_cases c : isTx g n = true
  · rw [if_pos c, if_neg (by decide), if_pos (f1.ob W hp), bnd_eq, (f1.fR (W _ hp.1) (fun z => z)).trans h601, drf_some, if_pos (f1.ob W ow), bnd_eq, (f1.fR (W _ ow.1) (fun z => z)).trans rw_, if_pos hT3.isO_]
    rcases X8_sameAs_ hT3 hw3 with ⟨e, q⟩ | ⟨e, q⟩
    · rw [cal_of e, if_neg (by decide)]
      exact Or.inr ⟨fun z => z.2 q, rfl⟩
    · rw [cal_of e, if_pos (by decide)]
      exact Or.inl ⟨⟨c, q⟩, rfl⟩
  · rw [if_neg c, if_pos (by decide)]
    exact Or.inr ⟨fun z => c z.1, rfl⟩
def edR (M_115 : Md) (a1 t0_115 : Int) : Option (Int × Md) :=
bnd (mSet M_115 36 t0_115) fun (M10 : Md) =>
if w32 (M10.1 36) ≤ 0 then
bnd (mSet M10 1 0) fun (M11 : Md) =>
if inR a1 (mLen 6) then
cal (fX12_newVersionNow (M11.2 6 (ix a1)) 76 0 (M11.1 77) M11) fun r13 M12 =>
cal (fX12_settleTitles M12) fun r15 M14 =>
some (r13, M14)
else none
else
some (0, M10)
theorem edR_no {x : Int} (M : Md) : edR M x 2 = some (0, mSet M 36 2) := by
  unfold edR
  rw [bnd_eq, mS1, if_neg (by decide)]
def edJ (a1 r5 t0_93 : Int) (M_93 : Md) : Option (Int × Md) :=
if w32 t0_93 = 0 then
edR M_93 a1 2
else
cal (fX12_isNew r5 M_93) fun r17 M16 =>
if w32 r17 = 0 then
edR M16 a1 2
else
edR M16 a1 0
theorem edJ_no {x y : Int} (M : Md) : edJ x y 0 M = edR M x 2 := by
  unfold edJ
  rw [if_pos (by decide)]
theorem edJ_yes {x : Int} {w : Nat} (hV : VI M nv) (hT : TI M nv) (hw : w < nv) (hr : RV M g n) : ∃ M', MO noS rTx M M' ∧ ((NewP g n (tx M w) (tl M w) nv ∧ edJ x (w : Int) 1 M = edR M' x 0) ∨ (¬ NewP g n (tx M w) (tl M w) nv ∧ edJ x (w : Int) 1 M = edR M' x 2)) := by
  obtain ⟨M', e, o⟩ := X12_isNew_ hV hT hw hr
  refine ⟨M', o, ?_⟩
  unfold edJ
  rw [if_neg (by decide)]
  rcases e with ⟨e, q⟩ | ⟨e, q⟩
  · rw [cal_of e, if_neg (by decide)]; exact Or.inl ⟨q, rfl⟩
  · rw [cal_of e, if_pos (by decide)]; exact Or.inr ⟨q, rfl⟩
theorem RR.setB (h : RR b kc M C) (x : Int) : RR b kc (mSet M 36 x) C := (h.nil (Fp.rf h.1.1.W) (sc36 M x)).rb (by
  obtain ⟨⟨b1, b2⟩, b3, b4, b5⟩ := h.2.2.2.1
  exact ⟨⟨b1, b2⟩, b3, b4, b5⟩)
theorem RR.qb {S : Nat → Nat → Nat → Prop} (h : RR b kc M C) (f : Fp S C C') (hq : Qt b S) (hs : HS b C S) (hl : RLy b C') (o : ScO M M') : RR b kc M' C' := (h.quiet f hq hs hl o).rb (by
  obtain ⟨⟨b1, b2⟩, b3, b4, b5⟩ := h.2.2.2.1
  unfold RB
  rw [o.1 5 (by decide), o.1 13 (by decide), o.1 22 (by decide)]
  exact ⟨⟨b1, b2⟩, b3, b4, b5⟩)
theorem scMO {S R : Nat → Prop} (o : MO S R M M') (hS : ∀ k, S k → 72 ≤ k) (hR : ∀ k, R k → 37 ≤ k) : ScO M M' :=
  ⟨fun j hj => o.1 j (fun z => by have := hS j z; omega), fun k hk => o.2 k (fun z => by have := hR k z; omega), Or.inl (o.1 68 (fun z => by have := hS 68 z; omega)), Or.inl (o.1 71 (fun z => by have := hS 71 z; omega))⟩
/-- the edit done -/
theorem RR.edited (h : RR b kc M C) (hk5 : kc ≤ 600) {t q : Nat} (ht : t < 24) (hq : cR C 1203 (b + 13 + 6 * t) = some q) {T cap : Nat} (hT : TxV C T cap g n) (hg : isTx g n = true) (hk : Tkv g n) (h8 : M.1 8 = (nv : Int)) (hnv : nv < 120) (hr : RV M g n) :
   ∃ C' M', edE b (t : Int) q T C = some (.inl (nv : Int), C') ∧ edR M (t : Int) 0 = some ((nv : Int), M') ∧ RR b (kc + 1) M' C' ∧ M'.1 36 = 0 ∧ Fp (sFr b) C C' ∧ csz C' ≤ csz C + 5 ∧ csl C' ≤ csl C + 400 := by
  have h0 := h.setB 0
  have g1 : ∀ j, j ≠ 36 → (mSet M 36 0).1 j = M.1 j := fun j hj => mS2 _ _ hj
  obtain ⟨p, C3, M12, h6, eC, eM, ⟨P, VA, PA, LE, AA, nv', np, na, hq3⟩, j1, j5, f3, s3, l3⟩ := h0.addNext (M11 := mSet (mSet M 36 0) 1 0) hk5 (fun j hj => mS2 _ _ hj) rfl ht hq hT hg hk ((g1 8 (by decide)).trans h8) hnv ⟨by rw [mS2 _ _ (by decide), g1 77 (by decide)]; exact hr.1, hr.2⟩
  have j12 : M12.1 1 = 0 := (j1 1 (by decide) (by decide)).trans (mS1 _ _ _)
  have e12 : mSet (mSet M12 1 ((mSet M 36 0).1 1)) 1 0 = M12 := by
    rw [mSet_set]
    have := mSet_self M12 1
    rw [j12] at this
    exact this
  have jj : ∀ j, j ≠ 1 → j ≠ 5 → j ≠ 8 → (mSet M12 1 ((mSet M 36 0).1 1)).1 j = (mSet M 36 0).1 j := fun j q1 q2 q3 => by
    rw [mS2 _ _ q1, j1 j q2 q3, mS2 _ _ q1]
  obtain ⟨C4, M', c4, m4, hr4, r36, f4, s4, l4⟩ := hq3.last (M0 := M) h.2.2.2.1 (Or.inr (by rw [mS2 _ _ (by decide), j5, g1 5 (by decide)])) ((jj 13 (by decide) (by decide) (by decide)).trans (g1 13 (by decide))) ((jj 22 (by decide) (by decide) (by decide)).trans (g1 22 (by decide))) ((jj 36 (by decide) (by decide) (by decide)).trans (mS1 _ _ _))
  rw [e12] at m4
  have hL := h.1.1
  have hL3 := hq3.1.1
  obtain ⟨dn3, g3, hd3⟩ := hq3.2.1
  refine ⟨C4, M', ?_, ?_, hr4, r36, f3.tr f4, by omega, by omega⟩
  · unfold edE
    rw [if_pos hL.o, cal_of eC, if_pos hL3.o, bnd_eq, hL3.r3, drf_some, if_pos hd3.2.2.1.isO_, cal_of c4]
  · unfold edR
    have h6' : (mSet (mSet M 36 0) 1 0).2 6 t = (p : Int) := h6
    have h77 : (mSet (mSet M 36 0) 1 0).1 77 = (n : Int) := by rw [mS2 _ _ (by decide), g1 77 (by decide)]; exact hr.1
    rw [bnd_eq, mS1, if_pos (by decide), bnd_eq, if_pos (inM (n := 24) rfl ht (by decide)), ix_n (by omega), h6', h77, cal_of eM, cal_of m4]
end EDI
