/-! THE LAW'S RENDERING, whole -/
theorem mSK_ca {En : Env} {tm : Nat → List Nat} {n : Nat} {rec : List Nat → List Nat → MSt → MSt} {ts : List Nat} {A : MSt} {kd v : Nat} (h : kd ≠ 2) : (mSK En tm n rec ts A kd v).2.1 = A.2.1 := by
  unfold mSK
  rw [if_neg h]
  repeat' split
  all_goals rfl
section SEG
variable {N kz w : Nat} {G : Md} {T : Nat → List Nat} {En : Env}
abbrev rB (kz : Nat) : (Int → Int → Rw → Option (Int × Rw)) → Int → Int → Rw → Option (Int × Rw) := fun L70 (v10_70 : Int) (v12_70 : Int) (E_70 : Rw) => fW_renders_70 kz L70 v10_70 v12_70 E_70
abbrev rZ : Int → Int → Rw → Option (Int × Rw) := fun (_ : Int) (_ : Int) (_ : Rw) => (none : Option (Int × Rw))
theorem seg_w (hz : kz = 10 ∨ kz = 11) (hE : LEn N G T En) (hw : w < 150) : ∀ (n q d : Nat) (ts : List Nat) (v k c : Nat) (A : MSt) (E : Rw) (mm : Nat), n + d = 6 → ts.length = d + 1 → SkT E ts → (∀ j, j ≤ d → 0 ≤ E 14 j ∧ E 14 j < 8) → Top N T E d v k → (T v).length - k = q → LRw N G T E → ZR kz w c E A → c + 8 * (q + 6 * (40 - A.2.1)) < 80000 → q + 6 * (40 - A.2.1) ≤ mm →
    ∃ mm' E' c', mm ≤ mm' + (q + 6 * ((mX En T n ts ((T v).drop k) A).2.1 - A.2.1)) ∧ lpn rZ (rB kz) mm (digF A.1) (d : Int) E = lpn rZ (rB kz) mm' (digF (mX En T n ts ((T v).drop k) A).1) (d : Int) E' ∧ ZR kz w c' E' (mX En T n ts ((T v).drop k) A) ∧ c' ≤ c + 8 * (q + 6 * ((mX En T n ts ((T v).drop k) A).2.1 - A.2.1)) ∧ A.2.1 ≤ (mX En T n ts ((T v).drop k) A).2.1 ∧ Top N T E' d v (T v).length ∧ (∀ j, j ≤ d → E' 14 j = E 14 j ∧ E' 12 j = E 12 j) ∧ (∀ j, j < d → E' 13 j = E 13 j) ∧ ∀ r, r ≠ kz → r ≠ 12 → r ≠ 13 → r ≠ 14 → E' r = E r := by
  intro n
  induction n using Nat.strongRecOn with
  | ind n IH =>
    intro q
    induction q with
    | zero =>
      intro d ts v k c A E mm hn hl hS h8 ht hq hL hZ hc hm
      have ht2 := ht
      obtain ⟨x1, x2, x3, x4, x5⟩ := ht2
      have e : k = (T v).length := by omega
      rw [e, List.drop_length, mX_nil]
      rw [e] at ht
      exact ⟨mm, E, c, by omega, rfl, hZ, by omega, Nat.le_refl _, ht, fun _ _ => ⟨rfl, rfl⟩, fun _ _ => rfl, fun _ _ _ _ _ => rfl⟩
    | succ q IHq =>
      intro d ts v k c A E mm hn hl hS h8 ht hq hL hZ hc hm
      obtain ⟨hd6, hvN, h12, h13, hkl⟩ := ht
      have hlt : k < (T v).length := by omega
      obtain ⟨mm, rfl⟩ : ∃ m1, mm = m1 + 1 := ⟨mm - 1, by omega⟩
      have a40 := hZ.2.2.2.2.2.1.2
      rw [drop_at hlt, mX_cons, lpn_succ]
      -- a step without a new frame
      have flat : ∀ (A1 : MSt) (E1 : Rw) (c1 : Nat), fW_renders_70 kz (lpn rZ (rB kz) mm) (digF A.1) (d : Int) E = lpn rZ (rB kz) mm (digF A1.1) (d : Int) E1 → c1 ≤ c + 8 → ZR kz w c1 E1 A1 → StF kz d k E E1 → A.2.1 ≤ A1.2.1 →
          ∃ mm' E' c', mm + 1 ≤ mm' + (q + 1 + 6 * ((mX En T n ts ((T v).drop (k + 1)) A1).2.1 - A.2.1)) ∧ rB kz (lpn rZ (rB kz) mm) (digF A.1) (d : Int) E = lpn rZ (rB kz) mm' (digF (mX En T n ts ((T v).drop (k + 1)) A1).1) (d : Int) E' ∧ ZR kz w c' E' (mX En T n ts ((T v).drop (k + 1)) A1) ∧ c' ≤ c + 8 * (q + 1 + 6 * ((mX En T n ts ((T v).drop (k + 1)) A1).2.1 - A.2.1)) ∧ A.2.1 ≤ (mX En T n ts ((T v).drop (k + 1)) A1).2.1 ∧ Top N T E' d v (T v).length ∧ (∀ j, j ≤ d → E' 14 j = E 14 j ∧ E' 12 j = E 12 j) ∧ (∀ j, j < d → E' 13 j = E 13 j) ∧ ∀ r, r ≠ kz → r ≠ 12 → r ≠ 13 → r ≠ 14 → E' r = E r := by
        intro A1 E1 c1 e1 e2 e3 ⟨s1, s2, s3⟩ e4
        have b40 := e3.2.2.2.2.2.1.2
        obtain ⟨mm', E', c', z1, z2, z3, z4, z5, z6, z7, z8, z9⟩ := IHq d ts v (k + 1) c1 A1 E1 mm hn hl (hS.same (fun j _ => by rw [s1 14 (by omega) (by decide)])) (fun j hj => by rw [s1 14 (by omega) (by decide)]; exact h8 j hj) ⟨hd6, hvN, by rw [s1 12 (by omega) (by decide)]; exact h12, s2, hlt⟩ (by omega) (hL.row (fun r hr => s1 r (by omega) (by omega))) e3 (by omega) (by omega)
        refine ⟨mm', E', c', by omega, e1.trans z2, z3, by omega, by omega, z6, fun j hj => ?_, fun j hj => ?_, fun r r1 r2 r3 r4 => (z9 r r1 r2 r3 r4).trans (s1 r r1 r3)⟩
        · rw [(z7 j hj).1, (z7 j hj).2, s1 14 (by omega) (by decide), s1 12 (by omega) (by decide)]
          exact ⟨rfl, rfl⟩
        · rw [z8 j hj]; exact s3 j (by omega)
      by_cases k2 : (T v).getD k 0 % 16 = 2
      · rcases R_call (ts := ts) (n := n) (L := lpn rZ (rB kz) mm) hz hL hE ⟨hd6, hvN, h12, h13, hkl⟩ hlt hZ hw (by omega) hn k2 hS hl h8 (mXr En T n) with ⟨E1, c1, e1, e2, e3, e4, e5⟩ | ⟨E1, v1, w1, A1, e0, e1, e2, e3, e4, e5, e6, ⟨s1, ⟨s2, s3, s4⟩, ⟨s5, s6⟩, s7, s8⟩, e8⟩
        · exact flat _ E1 c1 e1 e2 e3 e4 e5
        · obtain ⟨n, rfl⟩ : ∃ n', n = n' + 1 := ⟨n - 1, by omega⟩
          have b40 := e2.2.2.2.2.2.1.2
          have hL1 : LRw N G T E1 := hL.row (fun r hr => s1 r (by omega) (by omega) (by omega) (by omega))
          have l5 := (hL.2.2.1 v1 e5).2.2.1
          obtain ⟨m2, E2, c2, z1, z2, z3, z4, z5, z6, z7, z8, z9⟩ := IH n (Nat.lt_succ_self n) (T v1).length (d + 1) (w1 :: ts) v1 0 c A1 E1 mm (by omega) (by rw [List.length_cons, hl]) ⟨by rw [hl]; exact s7, hS.same (fun j hj => s8 j (by omega))⟩ (fun j hj => by
            by_cases y : j = d + 1
            · rw [y, s7]; omega
            · rw [s8 j y]; exact h8 j (by omega)) ⟨by omega, e5, s5, s3, Nat.zero_le _⟩ (Nat.sub_zero _) hL1 e2 (by omega) (by omega)
          rw [List.drop_zero] at z1 z2 z3 z4 z5
          have e8' : mSK En T (n + 1) (mXr En T (n + 1)) ts A ((T v).getD k 0 % 16) ((T v).getD k 0 / 16) = mX En T n (w1 :: ts) (T v1) A1 := e8
          rw [e8']
          generalize hA2 : mX En T n (w1 :: ts) (T v1) A1 = A2 at *
          have c40 := z3.2.2.2.2.2.1.2
          obtain ⟨m3, rfl⟩ : ∃ m3, m2 = m3 + 1 := ⟨m2 - 1, by omega⟩
          have hL2 : LRw N G T E2 := hL1.row (fun r hr => z9 r (by omega) (by omega) (by omega) (by omega))
          have pop := R_end (kz := kz) (L := lpn rZ (rB kz) m3) hL2 z6 rfl (digF A2.1)
          rw [show (((d + 1 : Nat) : Int) + -1) = (d : Int) by omega] at pop
          obtain ⟨mm', E', c', y1, y2, y3, y4, y5, y6, y7, y8, y9⟩ := IHq d ts v (k + 1) c2 A2 E2 m3 hn hl (hS.same (fun j hj => by rw [(z7 j (by omega)).1, s8 j (by omega)])) (fun j hj => by rw [(z7 j (by omega)).1, s8 j (by omega)]; exact h8 j hj) ⟨hd6, hvN, by rw [(z7 d (by omega)).2, s6 d (by omega)]; exact h12, by rw [z8 d (by omega)]; exact s2, hlt⟩ (by omega) hL2 z3 (by omega) (by omega)
          refine ⟨mm', E', c', by omega, ?_, y3, by omega, by omega, y6, fun j hj => ?_, fun j hj => ?_, fun r r1 r2 r3 r4 => (y9 r r1 r2 r3 r4).trans ((z9 r r1 r2 r3 r4).trans (s1 r r1 r2 r3 r4))⟩
          · refine Eq.trans e1 ?_
            rw [← e3, z2, lpn_succ]
            exact pop.trans y2
          · rw [(y7 j hj).1, (y7 j hj).2, (z7 j (by omega)).1, (z7 j (by omega)).2, s8 j (by omega), s6 j (by omega)]
            exact ⟨rfl, rfl⟩
          · rw [y8 j hj, z8 j (by omega), s4 j (by omega) (by omega)]
      · obtain ⟨E1, c1, e1, e2, e3, e4⟩ := R_plain (ts := ts) (L := lpn rZ (rB kz) mm) hz hL hE ⟨hd6, hvN, h12, h13, hkl⟩ hlt hZ hw (by omega) hn k2 (mXr En T n)
        exact flat _ E1 c1 e1 e2 e3 e4 (by rw [mSK_ca k2]; exact Nat.le_refl _)
/-- what rendering leaves in its row -/
def ZE (kz w : Nat) (E : Rw) (A : MSt) : Prop := (E kz 0 = (A.2.2.1 : Int) ∧ A.2.2.1 < 256) ∧ (E kz 1 = (A.2.2.2.2.1 : Int) ∧ A.2.2.2.2.1 < 256) ∧ (E kz 2 = (A.2.2.2.1 : Int) ∧ A.2.2.2.1 < 256) ∧ (E kz 3 = (A.2.2.2.2.2 : Int) ∧ A.2.2.2.2.2 < 256) ∧ (E kz 4 = (A.1.length : Int) ∧ A.1.length ≤ 150) ∧ E kz 6 = (w : Int) ∧ E kz 7 = (if w < A.1.length then A.1.getD w 0 else -1)
abbrev mA0 : MSt := ([], 0, 0, 0, 0, 0)
theorem W_renders {E : Rw} {t : Nat} (hz : kz = 10 ∨ kz = 11) (hL : LRw N G T E) (hE : LEn N G T En) (hw : w < 150) (ht : t < 8) (hp : prAt G N t ≠ -1) (h6 : E kz 6 = (w : Int)) (h13 : E 13 0 = 0) : ∃ E', fW_renders kz (t : Int) E = some (digF (mX En T 6 [t] (T (prAt G N t).toNat) mA0).1, E') ∧ ZE kz w E' (mX En T 6 [t] (T (prAt G N t).toNat) mA0) ∧ ∀ r, r ≠ kz → r ≠ 12 → r ≠ 13 → r ≠ 14 → E' r = E r := by
  have i7 : inR 7 (wLen kz) := inZ (i := 7) hz (by decide)
  have i4 : inR 4 (wLen kz) := inZ (i := 4) hz (by decide)
  have k12 : (12 : Nat) ≠ kz := by omega
  have k13 : (13 : Nat) ≠ kz := by omega
  have k14 : (14 : Nat) ≠ kz := by omega
  unfold fW_renders
  rw [bnd_eq]
  refine lpn_rule (P := fun mm (L : Int → Rw → Option (Int × Rw)) => ∀ (E1 : Rw) (i : Nat), i ≤ 6 → 6 - i < mm → (∀ r, r ≠ kz → E1 r = E r) → (∀ j, j < i → E1 kz j = 0) → E1 kz 6 = (w : Int) → ∃ E', L (i : Int) E1 = some (digF (mX En T 6 [t] (T (prAt G N t).toNat) mA0).1, E') ∧ ZE kz w E' (mX En T 6 [t] (T (prAt G N t).toNat) mA0) ∧ ∀ r, r ≠ kz → r ≠ 12 → r ≠ 13 → r ≠ 14 → E' r = E r) (fun E1 i _ h => absurd h (Nat.not_lt_zero _)) (fun mm L hLL E1 i hi hm hr1 h0 h16 => ?_) FU E 0 (Nat.zero_le _) (by unfold FU; omega) (fun _ _ => rfl) (fun j hj => absurd hj (Nat.not_lt_zero _)) h6
  unfold fW_renders_21
  rcases Nat.lt_or_ge i 6 with hlt | hge
  · have ii : inR (i : Int) (wLen kz) := inZ hz (by omega)
    rw [if_neg (by rw [show w32 6 = 6 from rfl, w32_n (by omega)]; omega), if_pos ii, bnd_eq, ix_n (by omega)]
    refine hLL _ (i + 1) (by omega) (by omega) (fun r hr => (wPk _ _ hr).trans (hr1 r hr)) (fun j hj => ?_) (by rw [wP2 _ _ (by omega)]; exact h16)
    by_cases e : j = i
    · rw [e, wP1]
    · rw [wP2 _ _ (Or.inr e)]; exact h0 j (by omega)
  · have e : i = 6 := by omega
    subst e
    have hL1 : LRw N G T E1 := hL.row (fun r hr => hr1 r (by omega))
    have hL2 : LRw N G T (wPut E1 kz 7 (-1)) := hL1.row (fun r hr => wPk _ _ (by omega))
    have rg := (prAt_lt (N := N) hL.2.1 ht).resolve_left hp
    obtain ⟨v, hv⟩ : ∃ v : Nat, prAt G N t = (v : Int) := ⟨(prAt G N t).toNat, by omega⟩
    have hvN : v < N := by omega
    rw [if_pos (by decide), if_pos i7, show ix 7 = 7 from rfl, bnd_eq, cal1_of (W_present hL2.1 hL2.2.1 ht), if_pos (inW 8 (i := 0) wl_12 (by decide) (by decide) (by decide)), bnd_eq, if_pos (inW 8 (i := 0) wl_14 (by decide) (by decide) (by decide)), bnd_eq, bnd_eq, show ix 0 = 0 from rfl, hv, show ((v : Nat) : Int).toNat = v from rfl]
    generalize hE5 : wPut (wPut (wPut E1 kz 7 (-1)) 12 0 (v : Int)) 14 0 (t : Int) = E5
    have z5 : ∀ j, j ≠ 7 → E5 kz j = E1 kz j := fun j hj => by rw [← hE5, wPk _ _ k14.symm, wPk _ _ k12.symm, wP2 _ _ (Or.inr hj)]
    have z57 : E5 kz 7 = -1 := by rw [← hE5, wPk _ _ k14.symm, wPk _ _ k12.symm, wP1]
    have r5 : ∀ r, r ≠ kz → r ≠ 12 → r ≠ 14 → E5 r = E r := fun r r1 r2 r3 => by rw [← hE5, wPk _ _ r3, wPk _ _ r2, wPk _ _ r1]; exact hr1 r r1
    have e12 : E5 12 0 = (v : Int) := by rw [← hE5, wPk _ _ (by decide), wP1]
    have e14 : E5 14 0 = (t : Int) := by rw [← hE5, wP1]
    have e13 : E5 13 0 = 0 := by rw [r5 13 k13 (by decide) (by decide)]; exact h13
    have hL5 : LRw N G T E5 := hL.row (fun r hr => r5 r (by omega) (by omega) (by omega))
    have l5 := (hL.2.2.1 v hvN).2.2.1
    have hZ : ZR kz w 0 E5 mA0 := by
      refine ⟨⟨?_, by decide⟩, ⟨?_, by decide⟩, ⟨?_, by decide⟩, ⟨?_, by decide⟩, ⟨?_, rfl⟩, ⟨?_, by decide⟩, ?_, ?_⟩
      · rw [z5 0 (by decide)]; exact h0 0 (by decide)
      · rw [z5 1 (by decide)]; exact h0 1 (by decide)
      · rw [z5 2 (by decide)]; exact h0 2 (by decide)
      · rw [z5 3 (by decide)]; exact h0 3 (by decide)
      · rw [z5 4 (by decide)]; exact h0 4 (by decide)
      · rw [z5 5 (by decide)]; exact h0 5 (by decide)
      · rw [z5 6 (by decide)]; exact h16
      · rw [z57]; exact (if_neg (Nat.not_lt_zero _)).symm
    obtain ⟨mm', E', c', y1, y2, y3, y4, y5, y6, y7, y8, y9⟩ := seg_w hz hE hw 6 (T v).length 0 [t] v 0 0 mA0 E5 FU rfl rfl ⟨e14, trivial⟩ (fun j hj => by
      have : j = 0 := by omega
      rw [this, e14]; omega) ⟨by decide, hvN, e12, e13, Nat.zero_le _⟩ (Nat.sub_zero _) hL5 hZ (by show 0 + 8 * ((T v).length + 6 * (40 - 0)) < 80000; omega) (by show (T v).length + 6 * (40 - 0) ≤ FU; unfold FU; omega)
    rw [List.drop_zero] at y1 y2 y3 y4 y5
    generalize mX En T 6 [t] (T v) mA0 = A' at *
    have a40 := y3.2.2.2.2.2.1.2
    have y1' : FU ≤ mm' + ((T v).length + 6 * (A'.2.1 - 0)) := y1
    obtain ⟨m1, rfl⟩ : ∃ m1, mm' = m1 + 1 + 1 := ⟨mm' - 2, by unfold FU at y1'; omega⟩
    have hL6 : LRw N G T E' := hL5.row (fun r hr => y9 r (by omega) (by omega) (by omega) (by omega))
    have pop := R_end (kz := kz) (L := lpn rZ (rB kz) (m1 + 1)) hL6 y6 rfl (digF A'.1)
    have y2' : lpn rZ (rB kz) FU 1 0 E5 = fW_renders_70 kz (lpn rZ (rB kz) (m1 + 1)) (digF A'.1) ((0 : Nat) : Int) E' := y2
    have rest : ∃ E'', lpn rZ (rB kz) (m1 + 1) (digF A'.1) (((0 : Nat) : Int) + -1) E' = some (digF A'.1, E'') ∧ ZE kz w E'' A' ∧ ∀ r, r ≠ kz → E'' r = E' r := by
      obtain ⟨q0, q1, q2, q3, ⟨q4, q4l⟩, q5, q6, q7⟩ := y3
      have c4 : c' ≤ 0 + 8 * ((T v).length + 6 * (A'.2.1 - 0)) := y4
      refine ⟨wPut E' kz 4 ((A'.1.length : Nat) : Int), ?_, ⟨?_, ?_, ?_, ?_, ⟨wP1 _ _ _ _, by omega⟩, ?_, ?_⟩, fun r hr => wPk _ _ hr⟩
      · rw [lpn_succ]
        show fW_renders_70 kz _ _ _ _ = _
        unfold fW_renders_70 fW_renders_385
        rw [if_pos (by decide), if_pos i4, bnd_eq, show ix 4 = 4 from rfl, q4, show w32 150 = 150 from rfl, w32_n (by omega)]
        by_cases d : c' ≤ 150
        · rw [if_pos (by omega), if_pos i4]; (try dsimp only); rw [if_pos i4, bnd_eq, show A'.1.length = c' by omega]
        · rw [if_neg (by omega)]; (try dsimp only); rw [if_pos i4, bnd_eq, show ((A'.1.length : Nat) : Int) = 150 by omega]
      · rw [wP2 _ _ (by omega)]; exact q0
      · rw [wP2 _ _ (by omega)]; exact q1
      · rw [wP2 _ _ (by omega)]; exact q2
      · rw [wP2 _ _ (by omega)]; exact q3
      · rw [wP2 _ _ (by omega)]; exact q6
      · rw [wP2 _ _ (by omega)]; exact q7
    obtain ⟨E'', x1, x2, x3⟩ := rest
    exact ⟨E'', y2'.trans (pop.trans x1), x2, fun r r1 r2 r3 r4 => by rw [x3 r r1, y9 r r1 r2 r3 r4, r5 r r1 r2 r4]⟩
end SEG
