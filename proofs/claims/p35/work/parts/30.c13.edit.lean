/-! EDITING, in both wikis -/
section EDI
variable {b kc N np t : Nat} {E E' : Rw} {G G' M : Md} {C C' : Cd} {T : Nat → List Nat}
theorem catL_secs (X : List Nat) : ∀ k, catL k (secF X) = X.take (mst X k) := by
  intro k
  induction k with
  | zero => rw [mst_0, List.take_zero]; rfl
  | succ k ih => rw [catL_succ, ih, secF_mst]
theorem catL_with (X D : List Nat) (s : Nat) : ∀ k, catL k (fun k => if k = s then D else secF X k) = if k ≤ s then X.take (mst X k) else X.take (mst X s) ++ (D ++ (X.take (mst X k)).drop (mst X (s + 1))) := by
  intro k
  induction k with
  | zero => rw [if_pos (Nat.zero_le _), mst_0, List.take_zero]; rfl
  | succ k ih =>
    rw [catL_succ, ih]
    rcases Nat.lt_trichotomy k s with c | c | c
    · rw [if_pos (by omega), if_neg (by omega), if_pos (by omega), secF_mst]
    · subst c
      rw [if_pos (Nat.le_refl _), if_pos rfl, if_neg (by omega)]
      have e : (X.take (mst X (k + 1))).drop (mst X (k + 1)) = [] := List.drop_eq_nil_of_le (by rw [List.length_take]; omega)
      rw [e, List.append_nil]
    · rw [if_neg (by omega), if_neg (by omega), if_neg (by omega), secF_mst X k, List.append_assoc, List.append_assoc]
      have le : mst X (s + 1) ≤ mst X k := by
        have : ∀ d, mst X (s + 1) ≤ mst X (s + 1 + d) := fun d => by
          induction d with
          | zero => exact Nat.le_refl _
          | succ d ihd => exact Nat.le_trans ihd (mst_mono X (s + 1 + d))
        have z := this (k - (s + 1))
        rw [show s + 1 + (k - (s + 1)) = k by omega] at z
        exact z
      have lk := mst_le X k
      rw [List.drop_append_of_le_length (by rw [List.length_take]; omega)]
/-- what is meant, as macros -/
def mnT (X D : List Nat) (z : Int) : List Nat := if z = -1 then D else catL (1 + scN X) (fun k => if k = z.toNat then D else secF X k)
theorem mnT_ok {X D : List Nat} {z : Int} (hX : ∀ m ∈ X, okM m) (hD : ∀ m ∈ D, okM m) : ∀ m ∈ mnT X D z, okM m := by
  unfold mnT
  split
  · exact hD
  · exact okM_cat (fun k m hm => by
      split at hm
      · exact hD m hm
      · exact secF_ok hX k m hm)
theorem mn_rep {f d : Nat → Int} {m dn : Nat} {X D : List Nat} (hf : Rep f m X) (hd : Rep d dn D) (hX : ∀ x ∈ X, okM x) {z : Int} (hz : z = -1 ∨ (0 ≤ z ∧ z < 1 + (scN X : Int))) : Rep (mnG f d m dn z) (mnN f m dn z) (mnT X D z) := by
  unfold mnG mnN mnT
  have dd : ∀ (g : Nat → Int) (n : Nat) (Y : List Nat), Rep g n Y → Rep (cat g n (fun i => d (0 + i))) (n + (dn - 0)) (Y ++ D) := fun g n Y h => by
    have q := h.cat (f := fun i => d (0 + i)) (Y := D) (fun k hk => by
      show d (0 + k) = _
      rw [Nat.zero_add]; exact hd.2 k (by rw [hd.1]; exact hk))
    rw [← hd.1] at q
    exact q
  rcases hz with e | ⟨e1, e2⟩
  · rw [if_pos e, if_pos e, if_pos e]
    exact dd _ 0 [] (Rep.nil _)
  · rw [if_neg (by omega), if_neg (by omega), if_neg (by omega)]
    obtain ⟨s, rfl⟩ : ∃ s : Nat, z = (s : Int) := ⟨z.toNat, by omega⟩
    rw [Int.toNat_natCast, catL_with, if_neg (by omega)]
    have e : ∀ k, k < m → f k = tkG X k := hf.2
    have p1 : sst f m s = PT X (mst X s) := by rw [sst_congr s e, hf.1]; exact sst_tks hX s
    have p2 : sst f m (s + 1) = PT X (mst X (s + 1)) := by rw [sst_congr (s + 1) e, hf.1]; exact sst_tks hX (s + 1)
    have pe : mst X (1 + scN X) = X.length := mst_end X _ (by omega)
    rw [pe, List.take_length, p1, p2, ← List.append_assoc]
    have t1 : Rep (cat (fun _ => 0) 0 (fun i => f (0 + i))) (0 + (PT X (mst X s) - 0)) (X.take (mst X s)) := by
      have q := (Rep.nil (fun _ => 0)).cat (f := fun i => f (0 + i)) (Y := X.take (mst X s)) (fun k hk => by
        show f (0 + k) = _
        have le : PT X (mst X s) ≤ (tks X).length := tks_take_le
        rw [Nat.zero_add, hf.2 k (by rw [hf.1]; exact Nat.lt_of_lt_of_le hk le)]
        have sp : tks X = tks (X.take (mst X s)) ++ tks (X.drop (mst X s)) := by rw [← tks_app, List.take_append_drop]
        rw [sp, List.getD_eq_getElem?_getD, List.getElem?_append_left hk, ← List.getD_eq_getElem?_getD])
      rw [List.nil_append] at q
      exact q
    have t2 := dd _ _ _ t1
    have t3 := t2.cat (f := fun i => f (PT X (mst X (s + 1)) + i)) (Y := X.drop (mst X (s + 1))) (fun k hk => by
      have sp : tks X = tks (X.take (mst X (s + 1))) ++ tks (X.drop (mst X (s + 1))) := by rw [← tks_app, List.take_append_drop]
      have ln : (tks X).length = PT X (mst X (s + 1)) + (tks (X.drop (mst X (s + 1)))).length := by
        have := congrArg List.length sp
        rw [List.length_append] at this
        exact this
      show f (PT X (mst X (s + 1)) + k) = _
      rw [hf.2 _ (by rw [hf.1]; omega), sp, List.getD_eq_getElem?_getD, List.getElem?_append_right (show (tks (X.take (mst X (s + 1)))).length ≤ (tks (X.take (mst X (s + 1)))).length + k by omega), show PT X (mst X (s + 1)) + k - (tks (X.take (mst X (s + 1)))).length = k by show (tks (X.take (mst X (s + 1)))).length + k - _ = k; omega, ← List.getD_eq_getElem?_getD])
    have ln : m - PT X (mst X (s + 1)) = (tks (X.drop (mst X (s + 1)))).length := by
      have sp : tks X = tks (X.take (mst X (s + 1))) ++ tks (X.drop (mst X (s + 1))) := by rw [← tks_app, List.take_append_drop]
      have := congrArg List.length sp
      rw [List.length_append] at this
      have e0 : PT X (mst X (s + 1)) = (tks (X.take (mst X (s + 1)))).length := rfl
      rw [hf.1]
      omega
    rw [ln]
    exact t3
/-- what the merging gives, where there is any -/
def mrg (W B P : List Nat) (same : Bool) : Option (List Nat) := if same = true then some W else mgW W B P
theorem mgW_ok {W B P R : List Nat} (hW : ∀ m ∈ W, okM m) (hP : ∀ m ∈ P, okM m) (h : mgW W B P = some R) : ∀ m ∈ R, okM m := by
  unfold mgW at h
  split at h
  · cases h
    exact okM_cat (fun k m hm => by
      split at hm
      · exact secF_ok hP k m hm
      · exact secF_ok hW k m hm)
  · cases h
theorem R_editX {v : Nat} {D : List Nat} {z : Int} (h : RR b kc G C) (hkc : kc ≤ 600) (hL : LW N np T E G) (ht : t < 8) (hp : G.2 6 t ≠ -1) (hv : v < N) (eV : fX12_isVersionAt (t : Int) (v : Int) G = some (1, G)) (hz : z = -1 ∨ (0 ≤ z ∧ z < 1 + (scN (T v) : Int))) (hDr : DrA G (tks D)) (hD : ∀ m ∈ D, okM m) (hD6 : D.length ≤ 6) (h32 : N < 32) (h3 : E 0 3 + 8 < 100000) :
   (∃ C' G', (mrg (mnT (T v) D z) (T v) (T (prAt G N t).toNat) (decide ((v : Int) = prAt G N t)) = none ∨ ∃ R, mrg (mnT (T v) D z) (T v) (T (prAt G N t).toNat) (decide ((v : Int) = prAt G N t)) = some R ∧ R.length ≤ 5 ∧ ¬ (isTL R = true ∧ R ≠ T (prAt G N t).toNat)) ∧ fX11_edit b (t : Int) (v : Int) z C = some (.inr 1, C') ∧ RR b (kc + 1) G' C' ∧ RmL b C C' ∧ LW N np T E G') ∨
   (∃ R, mrg (mnT (T v) D z) (T v) (T (prAt G N t).toNat) (decide ((v : Int) = prAt G N t)) = some R ∧ 5 < R.length) ∨
   (∃ R, mrg (mnT (T v) D z) (T v) (T (prAt G N t).toNat) (decide ((v : Int) = prAt G N t)) = some R ∧ R.length ≤ 5 ∧ (isTL R = true ∧ R ≠ T (prAt G N t).toNat) ∧ ∃ C' G' E2, fX11_edit b (t : Int) (v : Int) z C = some (.inl (N : Int), C') ∧ RR b (kc + 1) G' C' ∧ RmL b C C' ∧ fW_settles (avE (wPut E 0 2 (G.1 5 + 1)) N (G.2 6 t) (G.1 5 + 1) R) = some ((), E2) ∧ LW (N + 1) np (nT T N R) E2 G' ∧ E 0 3 ≤ E2 0 3 ∧ E2 0 3 ≤ E 0 3 + 8) := by
  have sx := hL.six (show t < 24 by omega)
  have clk := h.2.2.2.1.1
  have pr := h.prN hL.2.2.2.2.2.1 (show t < 24 by omega) hp
  have prg := (prAt_lt (N := N) hL.1.2.1 ht).resolve_left pr
  obtain ⟨pv, hpv⟩ : ∃ pv : Nat, prAt G N t = (pv : Int) := ⟨(prAt G N t).toNat, by omega⟩
  have pvN : pv < N := by omega
  have npl : G.2 6 t ≤ (N : Int) := by
    obtain ⟨VA, PA, LE, AA, np', na, hH, hK⟩ := h.nN hL.2.2.2.2.2.1
    have c := hH.2.1.2.1
    rcases hH.2.2.2.1.1 t (by omega) with z | ⟨p, p1, p2, p3⟩
    · exact absurd z.1 hp
    · omega
  rw [hpv, Int.toNat_natCast]
  have sm0 := SmG.s36 G 0
  have hL0 := hL.sc sm0
  have hV0 := hL0.vi
  obtain ⟨VA, PA, LE, AA, np', na, hH, hK⟩ := h.nN hL.2.2.2.2.2.1
  have hT0 : TI (mSet G 36 0) N := hH.1.2.1.same (sc36 G 0).vs
  obtain ⟨rv, kv, ov, lv1, lv2⟩ := hL0.rep hv
  obtain ⟨rp, kp, op, lp1, lp2⟩ := hL0.rep pvN
  obtain ⟨d1, d2, d3⟩ := hDr
  have l4 := (tks_len D).2
  have tv4 := (tks_len (T v)).2
  have zb : -1 ≤ z ∧ z < 10 := by have := scN_le (T v); omega
  have scv : secs (tx (mSet G 36 0) v) (tl (mSet G 36 0) v) = scN (T v) := secs_rep rv kv
  -- down to what is meant
  have ev : fX12_edit (t : Int) (v : Int) z G = edA G (t : Int) (v : Int) z 0 := by
    rw [edit_def eV, if_neg (by decide)]
    by_cases c : z = -1
    · rw [c, if_pos rfl]
    · rw [if_neg (by rw [w32_of (by omega) (by omega), show w32 (-1) = -1 from rfl]; exact c), cal_of (X12_sectionsOf_ hL.vi hH.1.2.1 hv)]
      have s2 : secs (tx G v) (tl G v) = scN (T v) := scv
      rw [s2]
      have sl := scN_le (T v)
      rcases X12_in_ (x := z) (lo := 0) (hi := ((1 + scN (T v) : Nat) : Int) - 1) G ⟨by omega, by omega⟩ ⟨by decide, by decide⟩ ⟨by omega, by omega⟩ with ⟨e, q⟩ | ⟨e, q⟩
      · rw [cal_of e, if_pos (by decide)]
      · exact absurd ⟨by omega, by omega⟩ q
  have dk : Tks (fun k => (tks D).getD k 0) (tks D).length := fun k hk => by
    obtain ⟨dn, g, hd⟩ := h.2.1
    have e1 : dn = (tks D).length := by have := hd.1; omega
    have tk := hd.2.2.1.tks k (by omega)
    rw [← hd.2.2.2.2 k (by omega), d3 k hk] at tk
    exact tk
  obtain ⟨M6, m1, m2, m3, m4, m5⟩ := X12_layMeant_ (M := mSet G 36 0) (d := fun k => (tks D).getD k 0) (dn := (tks D).length) hV0 hT0 hv ((mS2 G _ (by decide)).trans d1) d2 (fun k hk => d3 k hk) dk (s := z) (by rw [scv]; exact hz)
  have rm := mn_rep rv (⟨rfl, fun k _ => rfl⟩ : Rep (fun k => (tks D).getD k 0) (tks D).length D) kv hz
  have okm := mnT_ok (z := z) kv hD
  have sm6 : SmG (mSet G 36 0) M6 := ⟨fun j hj _ => m5.1 j (by intro z; omega), fun k hk _ => m5.2 k (by intro z; omega)⟩
  have hL6 := hL0.sc sm6
  have vs6 : VSame (mSet G 36 0) M6 := ⟨fun j hj => m5.1 j (by intro z; omega), fun k hk => m5.2 k (by intro z; omega)⟩
  have hT6 := hT0.same vs6
  have pp := presP (G1 := mSet G 36 0) hL (t := t) (fun j hj => mS2 G _ (by omega)) (fun k hk => rfl) ht
  have ev2 : fX12_edit (t : Int) (v : Int) z G = edM (t : Int) (v : Int) (pv : Int) 1 M6 := by
    rw [ev]
    unfold edA
    rw [bnd_eq, mS1, if_pos (by decide), cal_of pp, hpv, cal_of m1, cal_of (mayP hL6 (show t < 24 by omega))]
  have nw60 : mnN (tx (mSet G 36 0) v) (tl (mSet G 36 0) v) (tks D).length z ≤ 60 := by
    refine Nat.le_trans mnN_le ?_
    rw [rv.1]
    omega
  have no : ∀ M3, SmG G M3 → fX12_edit (t : Int) (v : Int) z G = edR M3 (t : Int) 2 → ∃ C' G', fX11_edit b (t : Int) (v : Int) z C = some (.inr 1, C') ∧ RR b (kc + 1) G' C' ∧ RmL b C C' ∧ LW N np T E G' := by
    intro M3 sm hY
    rw [edR_no] at hY
    obtain ⟨C', e, e1, e2, e3, e4, e5⟩ := deed_no (call_edit h hkc (x := (t : Int)) (y := (v : Int)) (z := z) ⟨by omega, by omega⟩ ⟨by omega, by omega⟩ ⟨by omega, by omega⟩) hY (by rw [mS1]; decide)
    have e6 := ex_fX11_edit b (t : Int) (v : Int) z C e C' e1
    rw [mS1] at e2
    have e7 : e = 1 := by
      simp only [List.mem_cons, List.not_mem_nil, or_false] at e6
      rcases e6 with z | z
      · exact z
      · subst z; exact absurd e2 (by decide)
    subst e7
    exact ⟨C', _, e1, e4, e5, (hL.sc sm).sc (SmG.s36 M3 2)⟩
  -- what is written, if it is new
  have fin : ∀ (M2 : Md) (g : Nat → Int) (n : Nat) (R : List Nat), SmG G M2 → VSame (mSet G 36 0) M2 → RV M2 g n → Rep g n R → (∀ m ∈ R, okM m) → fX12_edit (t : Int) (v : Int) z G = edJ (t : Int) (pv : Int) 1 M2 → mrg (mnT (T v) D z) (T v) (T pv) (decide ((v : Int) = (pv : Int))) = some R →
     (∃ C' G', (mrg (mnT (T v) D z) (T v) (T pv) (decide ((v : Int) = (pv : Int))) = none ∨ ∃ R, mrg (mnT (T v) D z) (T v) (T pv) (decide ((v : Int) = (pv : Int))) = some R ∧ R.length ≤ 5 ∧ ¬ (isTL R = true ∧ R ≠ T pv)) ∧ fX11_edit b (t : Int) (v : Int) z C = some (.inr 1, C') ∧ RR b (kc + 1) G' C' ∧ RmL b C C' ∧ LW N np T E G') ∨
     (∃ R, mrg (mnT (T v) D z) (T v) (T pv) (decide ((v : Int) = (pv : Int))) = some R ∧ 5 < R.length) ∨
     (∃ R, mrg (mnT (T v) D z) (T v) (T pv) (decide ((v : Int) = (pv : Int))) = some R ∧ R.length ≤ 5 ∧ (isTL R = true ∧ R ≠ T pv) ∧ ∃ C' G' E2, fX11_edit b (t : Int) (v : Int) z C = some (.inl (N : Int), C') ∧ RR b (kc + 1) G' C' ∧ RmL b C C' ∧ fW_settles (avE (wPut E 0 2 (G.1 5 + 1)) N (G.2 6 t) (G.1 5 + 1) R) = some ((), E2) ∧ LW (N + 1) np (nT T N R) E2 G' ∧ E 0 3 ≤ E2 0 3 ∧ E2 0 3 ≤ E 0 3 + 8) := by
    intro M2 g n R sm2 vs2 hrv g3 okR hev hm
    have hL2 := hL.sc sm2
    by_cases l5 : R.length ≤ 5
    · obtain ⟨M3, o3, e3⟩ := edJ_yes (x := (t : Int)) hL2.vi (hT0.same vs2) pvN hrv
      have rp2 : Rep (tx M2 pv) (tl M2 pv) (T pv) := (hL2.rep pvN).1
      have sm3 : SmG M2 M3 := MO.sm o3
      rcases e3 with ⟨q, e⟩ | ⟨q, e⟩
      · have q2 := (newP_iff g3 rp2 okR kp l5 (by omega)).mp q
        refine Or.inr (Or.inr ⟨R, hm, l5, q2, ?_⟩)
        have okt := isTL_ok okR q2.1
        have sm4 := (sm2.tr (sm3.tr (SmG.s36 M3 0))).tr (SmG.s1 (mSet M3 36 0) 0)
        have hL4 := hL.sc sm4
        have q4 : StQ (mSet (mSet M3 36 0) 1 0) := (hL.sto h).of (sm4.2 26 (by decide) (by decide)) (sm4.2 28 (by decide) (by decide)) (sm4.1 22 (by decide) (by decide))
        have r4 : RV (mSet (mSet M3 36 0) 1 0) g n := by
          refine ⟨(mS2 (mSet M3 36 0) _ (by decide)).trans ((mS2 M3 _ (by decide)).trans ((o3.1 77 (fun z => z)).trans hrv.1)), hrv.2.1, hrv.2.2.1, fun i hi => ?_, hrv.2.2.2.2⟩
          show M3.2 76 (0 + i) = _
          rw [o3.2 76 (by decide)]
          exact hrv.2.2.2.1 i hi
        have e6 : (mSet (mSet M3 36 0) 1 0).2 6 = G.2 6 := sm4.2 6 (by decide) (by decide)
        have e5 : (mSet (mSet M3 36 0) 1 0).1 5 = G.1 5 := sm4.1 5 (by decide) (by decide)
        obtain ⟨M5, w1, h36, w2⟩ := R_wr (t := t) hL4 q4 r4 g3 okt.1 okt.2 h32 (by rw [e6]; omega) (by rw [e5]; omega) h3
        obtain ⟨G', E2, z1, z2, z3, z4, z5, z6⟩ := w2 M5 SmG.rf h36
        have hY : fX12_edit (t : Int) (v : Int) z G = some ((N : Int), G') := by
          rw [hev, e]
          unfold edR
          rw [bnd_eq, mS1, if_pos (by decide), bnd_eq, if_pos (inM (n := 24) rfl (show t < 24 by omega) (by decide)), ix_n (by omega), cal_of w1, cal_of z1]
        obtain ⟨C', c1, c2, c3⟩ := deed_of (call_edit h hkc (x := (t : Int)) (y := (v : Int)) (z := z) ⟨by omega, by omega⟩ ⟨by omega, by omega⟩ ⟨by omega, by omega⟩) hY (z2.trans ((mS2 (mSet M3 36 0) _ (by decide)).trans (mS1 M3 36 0))) cd2_ne
        rw [e5, e6] at z3
        exact ⟨C', G', E2, c1, c2, c3, z3, z4, z5, z6⟩
      · obtain ⟨C', G', x1, x2, x3, x4⟩ := no M3 (sm2.tr sm3) (hev.trans e)
        exact Or.inl ⟨C', G', Or.inr ⟨R, hm, l5, fun z => q ((newP_iff g3 rp2 okR kp l5 (by omega)).mpr z)⟩, x1, x2, x3, x4⟩
    · exact Or.inr (Or.inl ⟨R, hm, by omega⟩)
  by_cases same : (v : Int) = (pv : Int)
  · have hm : mrg (mnT (T v) D z) (T v) (T pv) (decide ((v : Int) = (pv : Int))) = some (mnT (T v) D z) := by
      unfold mrg
      rw [decide_eq_true same, if_pos rfl]
    refine fin M6 _ _ (mnT (T v) D z) (sm0.tr sm6) vs6 m2 rm okm ?_ hm
    rw [ev2]
    unfold edM
    rw [if_neg (by decide), if_pos (by rw [same])]
  · have hm0 : mrg (mnT (T v) D z) (T v) (T pv) (decide ((v : Int) = (pv : Int))) = mgW (mnT (T v) D z) (T v) (T pv) := by
      unfold mrg
      rw [decide_eq_false same, if_neg (by decide)]
    obtain ⟨rv6, _⟩ := hL6.rep hv
    obtain ⟨rp6, _⟩ := hL6.rep pvN
    obtain ⟨M7, n1, n2, n3⟩ := X12_merges_ (M := M6) (A := fun i => decide (secF (mnT (T v) D z) i = secF (T v) i)) (B := fun i => decide (secF (T pv) i = secF (T v) i ∨ secF (T pv) i = secF (mnT (T v) D z) i)) hL6.vi hT6 hv pvN m3 m4 nw60 (fun i _ => by
      rw [decide_eq_true_iff]; exact (sameS_rep rm rv6 okm kv i).symm) (fun i _ => by
      rw [decide_eq_true_iff, ← sameS_rep rp6 rv6 kp kv i, ← sameS_rep rp6 rm kp okm i])
    have mg := mgO_rep (a := fun i => decide (secF (mnT (T v) D z) i = secF (T v) i)) (b' := fun i => decide (secF (T pv) i = secF (T v) i ∨ secF (T pv) i = secF (mnT (T v) D z) i)) (okp := fun k => secF (mnT (T v) D z) k = secF (T v) k ∨ secF (T pv) k = secF (T v) k ∨ secF (T pv) k = secF (mnT (T v) D z) k) rm rv6 rp6 okm kv kp (fun i => by rw [decide_eq_true_iff, decide_eq_true_iff]) (fun i => decide_eq_true_iff) (mgW (mnT (T v) D z) (T v) (T pv)) rfl
    have ev3 : fX12_edit (t : Int) (v : Int) z G = (cal (fX12_merges (v : Int) (pv : Int) M6) fun r19 M18 =>
        if w32 r19 = 0 then
        edJ (t : Int) (pv : Int) 0 M18
        else
        edJ (t : Int) (pv : Int) 1 M18) := by
      rw [ev2]
      unfold edM
      rw [if_neg (by decide), if_neg (by rw [w32_n (by omega), w32_n (by omega)]; exact same)]
    rw [cal_of n1] at ev3
    have sm7 : SmG M6 M7 := ⟨fun j hj _ => n2.1 j (by intro z; omega), fun k hk _ => n2.2 k (by intro z; omega)⟩
    have vs7 : VSame (mSet G 36 0) M7 := ⟨fun j hj => (n2.1 j (by intro z; omega)).trans (vs6.1 j hj), fun k hk => (n2.2 k (by intro z; omega)).trans (vs6.2 k hk)⟩
    rcases mg with ⟨g1, g2⟩ | ⟨R, g, n, g1, g2, g3⟩
    · rw [g2, if_pos (show w32 (isS (none : Option ((Nat → Int) × Nat))) = 0 from rfl), edJ_no] at ev3
      obtain ⟨C', G', x1, x2, x3, x4⟩ := no M7 ((sm0.tr sm6).tr sm7) ev3
      exact Or.inl ⟨C', G', Or.inl (hm0.trans g1), x1, x2, x3, x4⟩
    · rw [g2, if_neg (show ¬ w32 (isS (some (g, n))) = 0 from (by decide : ¬ w32 1 = 0))] at ev3
      exact fin M7 g n R ((sm0.tr sm6).tr sm7) vs7 (n3 g n g2) g3 (mgW_ok okm kp g1) ev3 (hm0.trans g1)
/-- edit, refused for its page, its version or its section -/
theorem R_editNo {y z : Int} (h : RR b kc G C) (hkc : kc ≤ 600) (hL : LW N np T E G) (ht : t < 8) (hy : 0 ≤ y ∧ y < 1000) (hz : -1 ≤ z ∧ z < 10) (hn : fX12_isVersionAt (t : Int) y G = some (0, G) ∨ ∃ v : Nat, y = (v : Int) ∧ v < N ∧ fX12_isVersionAt (t : Int) y G = some (1, G) ∧ 1 + (scN (T v) : Int) ≤ z) : ∃ C' G', fX11_edit b (t : Int) y z C = some (.inr 2, C') ∧ RR b (kc + 1) G' C' ∧ RmL b C C' ∧ LW N np T E G' := by
  have hY : fX12_edit (t : Int) y z G = some (0, mSet G 36 1) := by
    rcases hn with e | ⟨v, rfl, hv, e, hzz⟩
    · rw [edit_def e, if_pos (by decide), edA_no]
    · obtain ⟨rv, kv, _⟩ := hL.rep hv
      obtain ⟨VA, PA, LE, AA, np', na, hH, hK⟩ := h.nN hL.2.2.2.2.2.1
      rw [edit_def e, if_neg (by decide), if_neg (by rw [w32_of (by omega) (by omega), show w32 (-1) = -1 from rfl]; omega), cal_of (X12_sectionsOf_ hL.vi hH.1.2.1 hv), secs_rep rv kv]
      have sl := scN_le (T v)
      have l5 := (hL.rep hv).2.2.2.2
      rcases X12_in_ (x := z) (lo := 0) (hi := ((1 + scN (T v) : Nat) : Int) - 1) G ⟨by omega, by omega⟩ ⟨by decide, by decide⟩ ⟨by omega, by omega⟩ with ⟨e, q⟩ | ⟨e, q⟩
      · exact absurd q.2 (by omega)
      · rw [cal_of e, if_neg (by decide), edA_no]
  obtain ⟨C', e, e1, e2, e3, e4, e5⟩ := deed_no (call_edit h hkc (x := (t : Int)) (y := y) (z := z) ⟨by omega, by omega⟩ ⟨by omega, by omega⟩ ⟨by omega, by omega⟩) hY (by rw [mS1]; decide)
  rw [mS1] at e2
  rw [cd2_2 e3 e2.symm] at e1
  exact ⟨C', _, e1, e4, e5, hL.sc (SmG.s36 G 1)⟩
end EDI
