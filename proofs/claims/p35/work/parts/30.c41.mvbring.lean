/-! moveTree IN BOTH WIKIS: the pages brought over -/
section MVB
variable {b N np fr to had Gs k : Nat} {E E0 : Rw} {G G0 : Md} {C : Cd} {T : Nat → List Nat} {q : Nat → Nat} {many : Int}
abbrev zW1 : Int → Rw → Cd → (Nat → Nat) → Option (Int × S3) := fun (_ : Int) (_ : Rw) (_ : Cd) (_ : (Nat → Nat)) => (none : Option (Int × S3))
abbrev mv0B (b : Nat) (a9 v10 : Int) : (Int → Rw → Cd → (Nat → Nat) → Option (Int × S3)) → Int → Rw → Cd → (Nat → Nat) → Option (Int × S3) := fun L93 v13_93 E_93 C_93 q_93 => fW_isMoved_93 b a9 v10 1 L93 v13_93 E_93 C_93 q_93
def BrL (b N np fr to had Gs : Nat) (many : Int) (T : Nat → List Nat) (E0 : Rw) (G0 : Md) (C : Cd) (q : Nat → Nat) (k : Nat) (E : Rw) (G : Md) : Prop :=
  (LW N np T E G ∧ StQ G ∧ ∀ c, c < 8 → G.2 24 c ≤ G.1 22) ∧
  (∀ F, lpn zM1 (mt1 (fr : Int) (to : Int) (had : Int) many) (F + k) 0 G0 = lpn zM1 (mt1 (fr : Int) (to : Int) (had : Int) many) F (k : Int) G) ∧
  (∀ F, lpn zW1 (mv0B b (fr : Int) (had : Int)) (F + k) 0 E0 C q = lpn zW1 (mv0B b (fr : Int) (had : Int)) F (k : Int) E C q) ∧
  (∀ s, s < 24 → G.2 6 s = if s / 4 = to ∧ s % 4 < k then G0.2 6 (4 * fr + s % 4) else if s / 4 = fr ∧ s % 4 < k then -1 else G0.2 6 s) ∧
  ((∀ j, j ≠ 22 → G.1 j = G0.1 j) ∧ ∀ z, z ≠ 6 → z ≠ 24 → z ≠ 27 → z ≠ 32 → G.2 z = G0.2 z) ∧
  cnt (leF G N Gs) 24 = cnt (leF G0 N Gs) 24 ∧ (E0 0 3 ≤ E 0 3 ∧ E 0 3 ≤ E0 0 3 + 8 * (k : Int))
theorem BrL.step (hf : fr + to = 1) (hpt : ∀ k, k < 4 → G0.2 6 (4 * to + k) = -1) (h3 : E0 0 3 + 40 < 100000) (hk : k < 4) (h : BrL b N np fr to had Gs many T E0 G0 C q k E G) : ∃ E' G', BrL b N np fr to had Gs many T E0 G0 C q (k + 1) E' G' := by
  obtain ⟨⟨hL, hq, h24⟩, hm, hw, h6, ⟨g1, g2⟩, hcnt, e1, e2⟩ := h
  have eu : G.2 6 (4 * fr + k) = G0.2 6 (4 * fr + k) := by rw [h6 _ (by omega), if_neg (by omega), if_neg (by omega)]
  have ew : G.2 6 (4 * to + k) = -1 := by rw [h6 _ (by omega), if_neg (by omega), if_neg (by omega)]; exact hpt k hk
  have x1 : 4 * (fr : Int) + (k : Int) = ((4 * fr + k : Nat) : Int) := by omega
  have x2 : 4 * (to : Int) + (k : Int) = ((4 * to + k : Nat) : Int) := by omega
  have x3 : (4 - 4 * (fr : Int)) + (k : Int) = ((4 * to + k : Nat) : Int) := by omega
  have su := hL.six (show 4 * fr + k < 24 by omega)
  obtain ⟨Es, G4, w1, w2, w3, w4, w5, w6, w7, w8⟩ := hL.drop hq h24 (t := 4 * fr + k) (by omega) (by omega)
  have d6 : G4.2 6 = G.2 6 := w7 6 (by decide) (by decide) (by decide)
  have p1 := (w3.1.2.1 (4 * fr + k) (by omega)).1
  rw [d6] at p1
  have hL5 := w3.six_ (s := 4 * to + k) (x := G.2 6 (4 * fr + k)) (by omega) ⟨by omega, by omega⟩
  have hL6 := hL5.six_ (s := 4 * fr + k) (x := -1) (by omega) ⟨by omega, by omega⟩
  rw [show (-1 : Int) + 1 = 0 from rfl] at hL6
  have i6 : inR (7 * ((4 * fr + k : Nat) : Int)) (wLen 6) := inW 56 wl_6 (by omega) (by omega) (by decide)
  have y6 : ix (7 * ((4 * fr + k : Nat) : Int)) = 7 * (4 * fr + k) := ixn (by omega) (by omega)
  have iu : inR ((4 * fr + k : Nat) : Int) (wLen 1) := inWn 8 wl_1 (by omega) (by decide)
  have iw : inR ((4 * to + k : Nat) : Int) (wLen 1) := inWn 8 wl_1 (by omega) (by decide)
  have yu : ix ((4 * fr + k : Nat) : Int) = 4 * fr + k := ix_n (by omega)
  have yw : ix ((4 * to + k : Nat) : Int) = 4 * to + k := ix_n (by omega)
  have q6 : ∀ s, (mPut (mPut G4 6 (4 * to + k) (G.2 6 (4 * fr + k))) 6 (4 * fr + k) (-1)).2 6 s = if s = 4 * to + k then G.2 6 (4 * fr + k) else if s = 4 * fr + k then -1 else G.2 6 s := fun s => by
    by_cases z : s = 4 * fr + k
    · rw [z, if_neg (by omega), if_pos rfl]; exact p2_1 _ _ _ _
    · rw [p2_2 (k := 6) (k' := 6) _ _ (Or.inr z)]
      by_cases z2 : s = 4 * to + k
      · rw [if_pos z2, z2]; exact p2_1 _ _ _ _
      · rw [if_neg z2, if_neg z, p2_2 (k := 6) (k' := 6) _ _ (Or.inr z2), d6]
  have qk : ∀ z, z ≠ 6 → (mPut (mPut G4 6 (4 * to + k) (G.2 6 (4 * fr + k))) 6 (4 * fr + k) (-1)).2 z = G4.2 z := fun z hz => by rw [mPut_ne _ _ _ hz, mPut_ne _ _ _ hz]
  have q1 : (mPut (mPut G4 6 (4 * to + k) (G.2 6 (4 * fr + k))) 6 (4 * fr + k) (-1)).1 = G4.1 := rfl
  have mturn : ∀ F, lpn zM1 (mt1 (fr : Int) (to : Int) (had : Int) many) (F + (k + 1)) 0 G0 = lpn zM1 (mt1 (fr : Int) (to : Int) (had : Int) many) F ((k + 1 : Nat) : Int) (mPut (mPut G4 6 (4 * to + k) (G.2 6 (4 * fr + k))) 6 (4 * fr + k) (-1)) := fun F => by
    rw [show F + (k + 1) = (F + 1) + k by omega, hm (F + 1), lpn_succ]
    unfold mt1
    rw [if_neg (by rw [show w32 4 = 4 from rfl, w32_n (by omega)]; omega), x1, x2, cal_of w2, if_pos (inM (n := 24) rfl (by omega) (by decide)), if_pos (inM (n := 24) rfl (by omega) (by decide)), bnd_eq, if_pos (inM (n := 24) rfl (by omega) (by decide)), bnd_eq, yw, yu, d6, show (k : Int) + 1 = ((k + 1 : Nat) : Int) by omega]
  have wturn : ∀ F, lpn zW1 (mv0B b (fr : Int) (had : Int)) (F + (k + 1)) 0 E0 C q = lpn zW1 (mv0B b (fr : Int) (had : Int)) F ((k + 1 : Nat) : Int) (wPut (wPut (wPut (wPut Es 6 (7 * (4 * fr + k) + 4) 0) 6 (7 * (4 * fr + k)) 0) 1 (4 * to + k) (G.2 6 (4 * fr + k) + 1)) 1 (4 * fr + k) 0) C q := fun F => by
    rw [show F + (k + 1) = (F + 1) + k by omega, hw (F + 1), lpn_succ]
    show fW_isMoved_93 b (fr : Int) (had : Int) 1 _ (k : Int) E C q = _
    unfold fW_isMoved_93
    rw [bnd_eq, if_neg (by rw [show w32 4 = 4 from rfl, w32_n (by omega)]; omega), if_neg (by decide), x1, x3, cal1_of w1, if_pos i6, y6, bnd_eq, if_pos iu, if_pos iw, yw, yu, p1, bnd_eq, if_pos iu, bnd_eq, show (k : Int) + 1 = ((k + 1 : Nat) : Int) by omega]
  have hE3 : wPut (wPut (wPut (wPut Es 6 (7 * (4 * fr + k) + 4) 0) 6 (7 * (4 * fr + k)) 0) 1 (4 * to + k) (G.2 6 (4 * fr + k) + 1)) 1 (4 * fr + k) 0 0 3 = Es 0 3 := by
    rw [wP2 _ _ (by omega), wP2 _ _ (by omega), wP2 _ _ (by omega), wP2 _ _ (by omega)]
  have s3 := w4.2.2.1
  generalize mPut (mPut G4 6 (4 * to + k) (G.2 6 (4 * fr + k))) 6 (4 * fr + k) (-1) = G6 at *
  refine ⟨_, G6, ⟨hL6, w5.of (qk 26 (by decide)) (qk 28 (by decide)) (by rw [q1]), fun c hc => by rw [qk 24 (by decide), q1]; exact w8 c hc⟩, mturn, wturn, fun s hs => ?_, ⟨fun j hj => by rw [q1, w6 j hj]; exact g1 j hj, fun z a1 a2 a3 a4 => by rw [qk z a1, w7 z a2 a3 a4]; exact g2 z a1 a2 a3 a4⟩, ?_, ?_, ?_⟩
  · rw [q6, h6 s hs]
    by_cases z1 : s = 4 * to + k
    · rw [if_pos z1, z1, if_pos (by omega), show (4 * to + k) % 4 = k by omega, eu]
    · rw [if_neg z1]
      by_cases z2 : s = 4 * fr + k
      · rw [if_pos z2, z2, if_neg (by omega), if_pos (by omega)]
      · rw [if_neg z2]
        by_cases q1' : s / 4 = to ∧ s % 4 < k
        · rw [if_pos q1', if_pos ⟨q1'.1, by omega⟩]
        · rw [if_neg q1', if_neg (show ¬ (s / 4 = to ∧ s % 4 < k + 1) by omega)]
          by_cases q3 : s / 4 = fr ∧ s % 4 < k
          · rw [if_pos q3, if_pos ⟨q3.1, by omega⟩]
          · rw [if_neg q3, if_neg (show ¬ (s / 4 = fr ∧ s % 4 < k + 1) by omega)]
  · rw [← hcnt]
    have lp : ∀ x, lpF G6 N Gs x = lpF G N Gs x := fun x => lpF_same (fun z hz => by rw [qk z (by omega)]; exact w7 z (by omega) (by omega) (by omega)) x
    refine cnt_swap (u := 4 * fr + k) (w := 4 * to + k) (by omega) (by omega) (by omega) ?_ ?_ ?_ (fun s hs' z1 z2 => ?_)
    · unfold leF; rw [ew, decide_eq_false (fun z => z rfl), Bool.false_and]
    · unfold leF; rw [q6, if_neg (by omega), if_pos rfl, decide_eq_false (fun z => z rfl), Bool.false_and]
    · unfold leF; rw [q6, if_pos rfl, lp]
    · unfold leF; rw [q6, if_neg z2, if_neg z1, lp]
  · rw [hE3]; omega
  · rw [hE3]; omega
theorem LW.brought (hf : fr + to = 1) (hpt : ∀ k, k < 4 → G0.2 6 (4 * to + k) = -1) (h3 : E0 0 3 + 40 < 100000) (hL : LW N np T E0 G0) (hq : StQ G0) (h24 : ∀ c, c < 8 → G0.2 24 c ≤ G0.1 22) : ∃ E G, BrL b N np fr to had Gs many T E0 G0 C q 4 E G := by
  have b0 : BrL b N np fr to had Gs many T E0 G0 C q 0 E0 G0 := ⟨⟨hL, hq, h24⟩, fun F => rfl, fun F => rfl, fun s _ => by rw [if_neg (by omega), if_neg (by omega)], ⟨fun _ _ => rfl, fun _ _ _ _ _ => rfl⟩, rfl, ⟨Int.le_refl _, by omega⟩⟩
  obtain ⟨E1, G1, b1⟩ := b0.step hf hpt h3 (by decide)
  obtain ⟨E2, G2, b2⟩ := b1.step hf hpt h3 (by decide)
  obtain ⟨E3, G3, b3⟩ := b2.step hf hpt h3 (by decide)
  exact b3.step hf hpt h3 (by decide)
/-- what the two trees hold, as the law asks it -/
theorem mv_9 (hL : LW N np T E G) (hf : fr + to = 1) : fW_isMoved b (fr : Int) E C q = fW_isMoved_88 b (fr : Int) (hadF G fr : Int) (if hadF G fr ≠ 0 ∧ hadF G to = 0 then 1 else 0) E C q := by
  have hP := hL.1.2.1
  have key := lpn_rule (z := fun (_ : Int) (_ : Int) (_ : Int) (_ : Rw) (_ : Cd) (_ : (Nat → Nat)) => (none : Option (Int × S3))) (body := fun L9 v10_9 v11_9 v12_9 E_9 C_9 q_9 => fW_isMoved_9 b (fr : Int) L9 v10_9 v11_9 v12_9 E_9 C_9 q_9) (P := fun mm (L : Int → Int → Int → Rw → Cd → (Nat → Nat) → Option (Int × S3)) => ∀ k : Nat, k ≤ 4 → 4 - k < mm → L (bitsN (fun k => decide (G.2 6 (4 * fr + k) ≠ -1)) k : Int) (bitsN (fun k => decide (G.2 6 (4 * to + k) ≠ -1)) k : Int) (k : Int) E C q = fW_isMoved_88 b (fr : Int) (hadF G fr : Int) (if hadF G fr ≠ 0 ∧ hadF G to = 0 then 1 else 0) E C q) (fun i _ h => absurd h (Nat.not_lt_zero _)) (fun mm L hLL k hk hm => ?_) FU
  · have y := key 0 (Nat.zero_le _) (by unfold FU; omega)
    exact y
  · show fW_isMoved_9 b (fr : Int) L (bitsN (fun k => decide (G.2 6 (4 * fr + k) ≠ -1)) k : Int) (bitsN (fun k => decide (G.2 6 (4 * to + k) ≠ -1)) k : Int) (k : Int) E C q = _
    unfold fW_isMoved_9
    rcases Nat.lt_or_ge k 4 with hlt | hge
    · have x1 : 4 * (fr : Int) + (k : Int) = ((4 * fr + k : Nat) : Int) := by omega
      have x3 : (4 - 4 * (fr : Int)) + (k : Int) = ((4 * to + k : Nat) : Int) := by omega
      have iu : inR ((4 * fr + k : Nat) : Int) (wLen 1) := inWn 8 wl_1 (by omega) (by decide)
      have iw : inR ((4 * to + k : Nat) : Int) (wLen 1) := inWn 8 wl_1 (by omega) (by decide)
      have yu : ix ((4 * fr + k : Nat) : Int) = 4 * fr + k := ix_n (by omega)
      have yw : ix ((4 * to + k : Nat) : Int) = 4 * to + k := ix_n (by omega)
      obtain ⟨pu, pu2, pu3⟩ := hP (4 * fr + k) (by omega)
      obtain ⟨pw, pw2, pw3⟩ := hP (4 * to + k) (by omega)
      have lu : bitsN (fun k => decide (G.2 6 (4 * fr + k) ≠ -1)) k < 16777216 := bitsN_24 _ (by omega)
      have lw : bitsN (fun k => decide (G.2 6 (4 * to + k) ≠ -1)) k < 16777216 := bitsN_24 _ (by omega)
      have y := hLL (k + 1) hlt (by omega)
      -- the other tree's bit
      have tail : ∀ s : Int, orI (bitsN (fun k => decide (G.2 6 (4 * fr + k) ≠ -1)) k : Int) s = (bitsN (fun k => decide (G.2 6 (4 * fr + k) ≠ -1)) (k + 1) : Int) → fW_isMoved_37 (fr : Int) L (bitsN (fun k => decide (G.2 6 (4 * fr + k) ≠ -1)) k : Int) (bitsN (fun k => decide (G.2 6 (4 * to + k) ≠ -1)) k : Int) (k : Int) s E C q = fW_isMoved_88 b (fr : Int) (hadF G fr : Int) (if hadF G fr ≠ 0 ∧ hadF G to = 0 then 1 else 0) E C q := by
        intro s hs
        unfold fW_isMoved_37 fW_isMoved_64
        rw [hs, bnd_eq, x3, if_pos iw, bnd_eq, yw, pw, show (k : Int) + 1 = ((k + 1 : Nat) : Int) by omega]
        by_cases c : G.2 6 (4 * to + k) = -1
        · have eb : bitsN (fun k => decide (G.2 6 (4 * to + k) ≠ -1)) (k + 1) = bitsN (fun k => decide (G.2 6 (4 * to + k) ≠ -1)) k := by rw [bitsN, if_neg (by rw [decide_eq_false (fun z => z c)]; decide), Nat.or_zero]
          rw [eb] at y
          rw [c, if_pos (by decide)]; (try dsimp only); rw [bnd_eq, orI_0 (by omega)]
          exact y
        · have eb : orI (bitsN (fun k => decide (G.2 6 (4 * to + k) ≠ -1)) k : Int) (shlI 1 (k : Int)) = (bitsN (fun k => decide (G.2 6 (4 * to + k) ≠ -1)) (k + 1) : Int) := by
            rw [bitsN, if_pos (decide_eq_true c)]
            exact orI_set lw (by omega)
          rw [if_neg (by rw [w32_of (by omega) (by omega)]; omega)]; (try dsimp only); rw [bnd_eq, eb]
          exact y
      rw [if_neg (by rw [show w32 4 = 4 from rfl, w32_n (by omega)]; omega), x1, if_pos iu, bnd_eq, yu, pu]
      by_cases c : G.2 6 (4 * fr + k) = -1
      · rw [c, if_pos (by decide)]
        refine tail 0 ?_
        rw [bitsN, if_neg (by rw [decide_eq_false (fun z => z c)]; decide), Nat.or_zero]
        exact orI_0 (by omega)
      · rw [if_neg (by rw [w32_of (by omega) (by omega)]; omega)]
        refine tail _ ?_
        rw [bitsN, if_pos (decide_eq_true c)]
        exact orI_set lu (by omega)
    · have e : k = 4 := by omega
      subst e
      have e1 : bitsN (fun k => decide (G.2 6 (4 * fr + k) ≠ -1)) 4 = hadF G fr := rfl
      have e2 : bitsN (fun k => decide (G.2 6 (4 * to + k) ≠ -1)) 4 = hadF G to := rfl
      have l1 := hadF_lt G fr
      have l2 := hadF_lt G to
      rw [e1, e2, if_pos (by decide)]
      unfold fW_isMoved_87
      rw [bnd_eq, bnd_eq]
      by_cases c1 : hadF G fr = 0
      · rw [if_pos (by rw [c1]; decide), if_neg (fun z => z.1 c1)]
      · rw [if_neg (by rw [w32_n (by omega)]; omega)]
        by_cases c2 : hadF G to = 0
        · rw [if_neg (fun z => z (by rw [c2]; rfl)), if_pos ⟨c1, c2⟩]
        · rw [if_pos (by rw [w32_n (by omega)]; omega), if_neg (fun z => c2 z.2)]
end MVB
