/-! moveTree IN BOTH WIKIS: the pages written anew -/
section MVW
variable {b N np fr to had Gs i c : Nat} {E E0 : Rw} {G G0 : Md} {C : Cd} {T T0 : Nat → List Nat} {q : Nat → Nat} {many : Int}
theorem okt_tkO {x : Int} (h : tkO x) : okt x := by
  obtain ⟨h1, h2, h3⟩ := h
  have k : ∀ (n : Nat) (m : Int), x / 1000 = (n : Int) → sAt 0 n = m → x % 1000 ≤ m := fun n m e s => by
    rw [e, Int.toNat_natCast, s] at h3
    exact h3
  refine ⟨h1, by omega, fun z => ?_, fun z => ?_, fun z => ?_, fun z => ?_⟩
  · rcases z with z | z | z
    · have := k 1 23 z rfl; omega
    · have := k 2 23 z rfl; omega
    · have := k 12 23 z rfl; omega
  · have := k 11 7 z rfl; omega
  · rcases z with z | z
    · have := k 3 9 z rfl; omega
    · have := k 6 9 z rfl; omega
  · have := k 4 6 z rfl; omega
theorem LW.ti (hL : LW N np T E G) : TI G N := by
  intro v hv
  obtain ⟨⟨r1, r2⟩, kv, ov, lv1, lv2⟩ := hL.rep hv
  refine ⟨?_, fun k hk => ?_⟩
  · rw [isTx_congr (f := tkG (T v)) r2, r1, isTx_tks kv lv2]
    exact isTL_of ov lv1 lv2
  · rw [r2 k hk]
    have hm := gDi_mem (l := tks (T v)) (j := k) (by omega) 0
    obtain ⟨m, m1, m2⟩ := List.mem_flatMap.mp hm
    exact okt_tkO (cdL_rng (kv m m1) _ m2)
theorem MO.smR {G' : Md} (o : MO oRes rRes G G') : SmG G G' := ⟨fun j hj _ => o.1 j (by intro z; omega), fun k hk _ => o.2 k (by intro z; omega)⟩
abbrev mv1B (b : Nat) (a9 v10 : Int) : (Int → Int → Rw → Cd → (Nat → Nat) → Option (Int × S3)) → Int → Int → Rw → Cd → (Nat → Nat) → Option (Int × S3) := fun L186 v13_186 v14_186 E_186 C_186 q_186 => fW_isMoved_186 b a9 v10 1 L186 v13_186 v14_186 E_186 C_186 q_186
/-- behind i titles, c of them written anew -/
def WrL (b N np fr to had Gs : Nat) (many : Int) (T0 : Nat → List Nat) (E0 : Rw) (G0 : Md) (C : Cd) (q : Nat → Nat) (i : Nat) (E : Rw) (G : Md) (c : Nat) (T : Nat → List Nat) : Prop :=
  (LW (N + c) np T E G ∧ StQ G) ∧
  (∀ F, lpn zM1 (mt2 (fr : Int) (to : Int) (had : Int) many) (F + i) 0 G0 = lpn zM1 (mt2 (fr : Int) (to : Int) (had : Int) many) F (i : Int) G) ∧
  (∀ F, lpn zW2 (mv1B b (fr : Int) (had : Int)) (F + i) 0 0 E0 C q = lpn zW2 (mv1B b (fr : Int) (had : Int)) F (c : Int) (i : Int) E C q) ∧
  (c = cnt (leF G0 N Gs) i ∧ G.2 6 = G0.2 6) ∧ (∀ v, v < N → T v = T0 v) ∧
  (∀ s, i ≤ s → s < 8 → G0.2 6 s ≠ -1 → prs G (G0.2 6 s) (N + c) = prs G0 (G0.2 6 s) N) ∧
  (G.1 36 = G0.1 36 ∧ E 0 3 = E0 0 3) ∧ (G0.1 5 ≤ G.1 5 ∧ G.1 5 ≤ G0.1 5 + (i : Int))
theorem WrL.step (hf : fr + to = 1) (hh : had < 16) (hN : N < 24) (h5 : G0.1 5 < 99000) (hG : ∀ v, v < 24 → Gs.testBit v = (decide (v / 4 = fr) && had.testBit (v % 4))) (inj : ∀ s u, s < 8 → u < 8 → G0.2 6 s = G0.2 6 u → G0.2 6 s = -1 ∨ s = u) (hpr : ∀ s, s < 8 → G0.2 6 s ≠ -1 → prs G0 (G0.2 6 s) N ≠ -1) (hL0 : LW N np T0 E0 G0) (hi : i < 8)
   (h : WrL b N np fr to had Gs many T0 E0 G0 C q i E G c T) : ∃ E' G' c' T', WrL b N np fr to had Gs many T0 E0 G0 C q (i + 1) E' G' c' T' := by
  obtain ⟨⟨hL, hq⟩, hm, hw, ⟨hc, h6⟩, hT, hp, ⟨h36, hE3⟩, ⟨c1, c2⟩⟩ := h
  have cle : c ≤ i := by rw [hc]; exact cnt_le _ i
  have ei : (i : Int) + 1 = ((i + 1 : Nat) : Int) := by omega
  have s6 := hL.six (show i < 24 by omega)
  have mturn : ∀ F, lpn zM1 (mt2 (fr : Int) (to : Int) (had : Int) many) (F + (i + 1)) 0 G0 = mt2 (fr : Int) (to : Int) (had : Int) many (lpn zM1 (mt2 (fr : Int) (to : Int) (had : Int) many) F) (i : Int) G := fun F => by
    rw [show F + (i + 1) = (F + 1) + i by omega, hm (F + 1), lpn_succ]
  have wturn : ∀ F, lpn zW2 (mv1B b (fr : Int) (had : Int)) (F + (i + 1)) 0 0 E0 C q = fW_isMoved_186 b (fr : Int) (had : Int) 1 (lpn zW2 (mv1B b (fr : Int) (had : Int)) F) (c : Int) (i : Int) E C q := fun F => by
    rw [show F + (i + 1) = (F + 1) + i by omega, hw (F + 1), lpn_succ]
  by_cases hpg : G.2 6 i = -1
  · -- no page
    have pn : prAt G (N + c) i = -1 := by unfold prAt; rw [if_pos hpg]
    have hle : leF G0 N Gs i = false := by unfold leF; rw [← h6, decide_eq_false (fun z => z hpg), Bool.false_and]
    refine ⟨E, G, c, T, ⟨hL, hq⟩, fun F => ?_, fun F => ?_, ⟨by rw [cnt_succ, hle, ite_ff, Nat.add_zero]; exact hc, h6⟩, hT, fun s a d e => hp s (by omega) d e, ⟨h36, hE3⟩, ⟨c1, by omega⟩⟩
    · rw [mturn F]
      unfold mt2
      rw [if_neg (by rw [show w32 24 = 24 from rfl, w32_n (by omega)]; omega), if_pos (inM (n := 24) rfl (by omega) (by decide)), bnd_eq, ix_n (by omega), hpg, if_pos rfl, ei]
    · rw [wturn F, mv_186n hL hi pn, ei]
  · -- a page
    have hpg0 : G0.2 6 i ≠ -1 := by rw [← h6]; exact hpg
    have epr := hp i (Nat.le_refl _) hi hpg0
    have npr := hpr i hi hpg0
    have rg := prs_rng G0 (G0.2 6 i) N
    obtain ⟨pv, hpv⟩ : ∃ pv : Nat, prs G0 (G0.2 6 i) N = (pv : Int) := ⟨(prs G0 (G0.2 6 i) N).toNat, by omega⟩
    have pvN : pv < N := by omega
    have pa : prAt G (N + c) i = (pv : Int) := by unfold prAt; rw [if_neg hpg, h6, epr, hpv]
    obtain ⟨rv, kv, ov, lv1, lv2⟩ := hL.rep (show pv < N + c by omega)
    obtain ⟨rv0, _⟩ := hL0.rep pvN
    have l4 := (tks_len (T pv)).2
    have hle : leF G0 N Gs i = true ↔ (T pv).map (tnM fr had) ≠ T pv := by
      unfold leF lpF
      rw [decide_eq_true hpg0, Bool.true_and, hpv, Int.toNat_natCast, ← hT pv pvN] at *
      exact tn_any hf hG kv rv0
    have ha : anyN (liB (tx G pv) Gs) (tl G pv) = true ↔ (T pv).map (tnM fr had) ≠ T pv := tn_any hf hG kv rv
    obtain ⟨M9, e9, o9, r9⟩ := X12_turns_ hL.vi hL.ti (t := i) (pv := pv) (fr := fr) (to := to) (had := had) (G := Gs) (by omega) ⟨by omega, by omega⟩ (by omega) pa (by omega) (by omega) hh hG
    have sm9 := MO.smR o9
    have h69 : M9.2 6 = G.2 6 := o9.2 6 (by decide)
    have mhead : ∀ F, lpn zM1 (mt2 (fr : Int) (to : Int) (had : Int) many) (F + (i + 1)) 0 G0 = (if w32 (if anyN (liB (tx G pv) Gs) (tl G pv) = true then 1 else 0) = 0 then
lpn zM1 (mt2 (fr : Int) (to : Int) (had : Int) many) F ((i + 1 : Nat) : Int) M9
else
cal (fX12_newVersionNow (G.2 6 i) 76 0 (M9.1 77) M9) fun r12 M11 =>
lpn zM1 (mt2 (fr : Int) (to : Int) (had : Int) many) F ((i + 1 : Nat) : Int) M11) := fun F => by
      rw [mturn F]
      unfold mt2
      rw [if_neg (by rw [show w32 24 = 24 from rfl, w32_n (by omega)]; omega), if_pos (inM (n := 24) rfl (by omega) (by decide)), bnd_eq, ix_n (by omega), if_neg (by rw [w32_of (by omega) (by omega), show w32 (-1) = -1 from rfl]; exact hpg), cal_of e9, ei, if_pos (inM (n := 24) rfl (by omega) (by decide)), h69]
    have hL9 := hL.sc sm9
    have vs9 : VSame G M9 := ⟨fun j hj => o9.1 j (by intro z; omega), fun k hk => o9.2 k (by intro z; omega)⟩
    by_cases d : (T pv).map (tnM fr had) = T pv
    · -- it stays
      have na : ¬ anyN (liB (tx G pv) Gs) (tl G pv) = true := fun z => ha.mp z d
      have nl : leF G0 N Gs i = false := by
        cases hb : leF G0 N Gs i
        · rfl
        · exact absurd d (hle.mp hb)
      refine ⟨E, M9, c, T, ⟨hL9, hq.of (sm9.2 26 (by decide) (by decide)) (sm9.2 28 (by decide) (by decide)) (sm9.1 22 (by decide) (by decide))⟩, fun F => ?_, fun F => ?_, ⟨by rw [cnt_succ, nl, ite_ff, Nat.add_zero]; exact hc, h69.trans h6⟩, hT, fun s a d e => by rw [prs_same vs9]; exact hp s (by omega) d e, ⟨(o9.1 36 (by decide)).trans h36, hE3⟩, ?_⟩
      · rw [mhead F, if_neg na, if_pos (by decide)]
      · rw [wturn F, mv_186s hL hi pa (by omega) (by omega) hh d, ei]
      · rw [sm9.1 5 (by decide) (by decide)]
        exact ⟨c1, by omega⟩
    · -- written anew
      have na := ha.mpr d
      have nl := hle.mpr d
      have g5 : M9.1 5 = G.1 5 := sm9.1 5 (by decide) (by decide)
      have clk := hL.1.1.2.2.2.2.2.1
      have hL5 := hL9.clock (x := G.1 5 + 1) (by rw [g5]; omega)
      have rn := tn_rep (to := to) hf hG kv rv
      have okn := tn_okT (had := had) (show fr ≤ 1 by omega) ov
      obtain ⟨r77, r1, r2, r3, r4⟩ := r9
      obtain ⟨M1, n1, n2⟩ := X12_newVersion_ (M := mSet M9 5 (G.1 5 + 1)) (nv := N + c) (p := G.2 6 i) (tm := G.1 5 + 1) (n := tl G pv) (fr := 0) (k := 76) (g := wlo (tx G pv) Gs (4 * ((to : Int) - (fr : Int)))) hL5.2.2.2.2.2.1 (by omega) (by rw [rv.1]; omega) (by decide) (by rw [ml_76]; rw [rv.1]; omega) (by rw [ml_76]; decide) (fun k hk => r3 k hk)
      have eN : fX12_newVersionNow (G.2 6 i) 76 0 (M9.1 77) M9 = some (((N + c : Nat) : Int), M1) := by
        unfold fX12_newVersionNow
        rw [bnd_eq, mS1, r77, g5, show (0 : Int) = ((0 : Nat) : Int) from rfl, cal_of n1]
      have npl : G.2 6 i ≤ ((N + c : Nat) : Int) ∧ 0 ≤ G.2 6 i := by
        rcases prs_last G (G.2 6 i) (N + c) with ⟨z1, z2⟩ | ⟨z1, z2⟩
        · rw [h6, epr] at z2
          exact absurd z2 npr
        · have a := (ord_all G (G.2 6 i) (N + c)).1 (cnt (onp G (G.2 6 i)) (N + c) - 1) (by omega)
          have e12 := onp_eq a.2.1
          have := hL.1.1.2.2.2.1 _ a.1
          omega
      have hLn := hL5.addV n2 (by omega) ⟨npl.2, npl.1⟩ (by rw [mS1]; omega) okn (by rw [List.length_map]; exact ⟨lv1, lv2⟩) rn
      have n6 : M1.2 6 = G.2 6 := (n2.2.2.1 6 (by decide)).trans h69
      have n5 : M1.1 5 = G.1 5 + 1 := (n2.1 5 (by decide)).trans (mS1 _ _ _)
      refine ⟨_, M1, c + 1, _, ⟨hLn, ((hq.of (sm9.2 26 (by decide) (by decide)) (sm9.2 28 (by decide) (by decide)) (sm9.1 22 (by decide) (by decide))).of (G1 := mSet M9 5 (G.1 5 + 1)) rfl rfl (mS2 M9 _ (by decide))).of (n2.2.2.1 26 (by omega)) (n2.2.2.1 28 (by omega)) (n2.1 22 (by decide))⟩, fun F => ?_, fun F => ?_, ⟨by rw [cnt_succ, nl, if_pos rfl]; omega, n6.trans h6⟩, fun v hv => ?_, fun s a d e => ?_, ⟨?_, ?_⟩, ?_⟩
      · rw [mhead F, if_pos na, if_neg (by decide), cal_of eN]
      · rw [wturn F, mv_186w hL hi pa (by omega) (by omega) (by omega) hh d, ei]
        rfl
      · rw [if_neg (by omega)]
        exact hT v hv
      · have ne : G0.2 6 s ≠ G.2 6 i := fun z => by
          rw [h6] at z
          rcases inj s i d hi z with y | y
          · exact e y
          · omega
        have te : TmE M9 M1 (N + c) := fun v hv => ⟨(n2.2.2.2.1 v hv).2.1, (n2.2.2.2.1 v hv).2.2.1⟩
        have no : ¬ onp M1 (G0.2 6 s) (N + c) = true := fun z => by
          have := onp_eq z
          rw [n2.2.2.2.2.1.2.2] at this
          exact ne this.symm
        rw [show N + (c + 1) = N + c + 1 from rfl, prs_succ, if_neg (fun z => no z.1), prs_e te _ _ (Nat.le_refl _), prs_same vs9]
        exact hp s (by omega) d e
      · rw [n2.1 36 (by decide), mS2 M9 _ (by decide), o9.1 36 (by decide)]
        exact h36
      · rw [wP2 _ _ (by omega), wP2 _ _ (by omega), wP2 _ _ (by omega), wP2 _ _ (by omega), wP2 _ _ (by omega)]
        exact hE3
      · rw [n5]
        exact ⟨by omega, by omega⟩
theorem LW.written (hf : fr + to = 1) (hh : had < 16) (hN : N < 24) (h5 : G0.1 5 < 99000) (hG : ∀ v, v < 24 → Gs.testBit v = (decide (v / 4 = fr) && had.testBit (v % 4))) (inj : ∀ s u, s < 8 → u < 8 → G0.2 6 s = G0.2 6 u → G0.2 6 s = -1 ∨ s = u) (hpr : ∀ s, s < 8 → G0.2 6 s ≠ -1 → prs G0 (G0.2 6 s) N ≠ -1) (hL0 : LW N np T0 E0 G0) (hq0 : StQ G0) : ∀ i, i ≤ 8 → ∃ E G c T, WrL b N np fr to had Gs many T0 E0 G0 C q i E G c T := by
  intro i
  induction i with
  | zero =>
    intro _
    exact ⟨E0, G0, 0, T0, ⟨hL0, hq0⟩, fun F => rfl, fun F => rfl, ⟨rfl, rfl⟩, fun _ _ => rfl, fun s _ _ _ => rfl, ⟨rfl, rfl⟩, ⟨Int.le_refl _, by omega⟩⟩
  | succ i ih =>
    intro hi
    obtain ⟨E, G, c, T, h⟩ := ih (by omega)
    exact h.step hf hh hN h5 hG inj hpr hL0 (by omega)
/-- behind the wiki's titles nothing is written -/
theorem mt2_run : ∀ (m i : Nat), i + m ≤ 24 → (∀ s, i ≤ s → s < i + m → G.2 6 s = -1) → ∀ F, lpn zM1 (mt2 (fr : Int) (to : Int) (had : Int) many) (F + m) (i : Int) G = lpn zM1 (mt2 (fr : Int) (to : Int) (had : Int) many) F ((i + m : Nat) : Int) G := by
  intro m
  induction m with
  | zero => intro i _ _ F; rfl
  | succ m ih =>
    intro i hi h F
    have e : mt2 (fr : Int) (to : Int) (had : Int) many (lpn zM1 (mt2 (fr : Int) (to : Int) (had : Int) many) (F + m)) (i : Int) G = lpn zM1 (mt2 (fr : Int) (to : Int) (had : Int) many) (F + m) ((i + 1 : Nat) : Int) G := by
      unfold mt2
      rw [if_neg (by rw [show w32 24 = 24 from rfl, w32_n (by omega)]; omega), if_pos (inM (n := 24) rfl (by omega) (by decide)), bnd_eq, ix_n (by omega), h i (Nat.le_refl _) (by omega), if_pos rfl, show (i : Int) + 1 = ((i + 1 : Nat) : Int) by omega]
    rw [show F + (m + 1) = (F + m) + 1 by omega, lpn_succ, e, ih (i + 1) (by omega) (fun s h1 h2 => h s (by omega) (by omega)) F, show i + 1 + m = i + (m + 1) by omega]
end MVW
