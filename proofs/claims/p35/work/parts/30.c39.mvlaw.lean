/-! THE LAW'S moveTree: a text turned, written or left -/
section MVL
variable {b kc N np t pv fr to had : Nat} {E : Rw} {G : Md} {C : Cd} {T : Nat → List Nat} {q : Nat → Nat} {L186 : Int → Int → Rw → Cd → (Nat → Nat) → Option (Int × S3)} {v13 v14 : Int}
theorem mv_277 {L214 : Int → Int → Rw → Cd → (Nat → Nat) → Option (Int × S3)} {x i : Int} {m : Nat} (hf : fr ≤ 1) (hh : had < 16) (ok : okM m) : (bnd (fun (t0_277 : Int) (E_277 : Rw) (C_277 : Cd) (q_277 : (Nat → Nat)) =>
fW_isMoved_277 (fr : Int) (had : Int) L214 x i (m : Int) t0_277 E_277 C_277 q_277) fun J277 =>
bnd (fun (E_272 : Rw) (C_272 : Cd) (q_272 : (Nat → Nat)) =>
fW_isMoved_272 J277 E_272 C_272 q_272) fun J272 =>
if w32 (remI (m : Int) 16) = w32 1 then
J272 E C q
else
if w32 (remI (m : Int) 16) = w32 2 then
J272 E C q
else
if ¬ w32 (remI (m : Int) 16) = w32 10 then
J277 0 E C q
else
J272 E C q) = fW_isMoved_342 L214 x i (m : Int) (if tnB fr had m = true then 64 - 128 * (fr : Int) else 0) E C q := by
  have lt := ok.lt
  have r16 : remI (m : Int) 16 = ((m % 16 : Nat) : Int) := by rw [show (16 : Int) = ((16 : Nat) : Int) from rfl, remI_N (by omega) (by decide) (by decide)]
  have d16 : divI (m : Int) 16 = ((m / 16 : Nat) : Int) := by rw [show (16 : Int) = ((16 : Nat) : Int) from rfl, divI_N (by omega) (by decide) (by decide)]
  have d64 : divI (m : Int) 64 = ((m / 64 : Nat) : Int) := by rw [show (64 : Int) = ((64 : Nat) : Int) from rfl, divI_N (by omega) (by decide) (by decide)]
  have r4 : remI ((m / 16 : Nat) : Int) 4 = ((m / 16 % 4 : Nat) : Int) := by rw [show (4 : Int) = ((4 : Nat) : Int) from rfl, remI_N (by omega) (by decide) (by decide)]
  have bt := bitI_N (n := had) (k := m / 16 % 4) (by omega) (by omega)
  have yes : (m % 16 = 1 ∨ m % 16 = 2 ∨ m % 16 = 10) → fW_isMoved_277 (fr : Int) (had : Int) L214 x i (m : Int) 1 E C q = fW_isMoved_342 L214 x i (m : Int) (if tnB fr had m = true then 64 - 128 * (fr : Int) else 0) E C q := by
    intro hk
    unfold fW_isMoved_277 fW_isMoved_314 fW_isMoved_315
    rw [bnd_eq, bnd_eq, if_neg (by decide), d64, d16, r4, bt]
    by_cases c1 : m / 64 = fr
    · rw [if_neg (fun z => z (by rw [c1]))]
      by_cases c2 : had.testBit (m / 16 % 4) = true
      · rw [if_pos c2, if_neg (fun z => z rfl)]; (try dsimp only); rw [bnd_eq, if_neg (by decide), if_pos (tnB_iff.mpr ⟨hk, c1, c2⟩)]
      · rw [if_neg c2, if_pos (by decide)]; (try dsimp only); rw [bnd_eq, if_pos (by decide), if_neg (fun z => c2 (tnB_iff.mp z).2.2)]
    · rw [if_pos (by rw [w32_n (by omega), w32_n (by omega)]; omega)]; (try dsimp only); rw [bnd_eq, if_pos (by decide), if_neg (fun z => c1 (tnB_iff.mp z).2.1)]
  rw [bnd_eq, bnd_eq, r16, w32_n (n := m % 16) (by omega), show w32 1 = 1 from rfl, show w32 2 = 2 from rfl, show w32 10 = 10 from rfl]
  by_cases k1 : m % 16 = 1
  · rw [if_pos (by omega)]
    exact yes (Or.inl k1)
  · rw [if_neg (by omega)]
    by_cases k2 : m % 16 = 2
    · rw [if_pos (by omega)]
      exact yes (Or.inr (Or.inl k2))
    · rw [if_neg (by omega)]
      by_cases k3 : m % 16 = 10
      · rw [if_neg (by omega)]
        exact yes (Or.inr (Or.inr k3))
      · rw [if_pos (by omega), if_neg (fun z => by have := (tnB_iff.mp z).1; omega)]
        show fW_isMoved_277 (fr : Int) (had : Int) L214 x i (m : Int) 0 E C q = _
        unfold fW_isMoved_277 fW_isMoved_314 fW_isMoved_315
        rw [bnd_eq, bnd_eq, if_pos (by decide)]; (try dsimp only); rw [bnd_eq, if_pos (by decide)]
abbrev zW2 : Int → Int → Rw → Cd → (Nat → Nat) → Option (Int × S3) := fun (_ : Int) (_ : Int) (_ : Rw) (_ : Cd) (_ : (Nat → Nat)) => (none : Option (Int × S3))
abbrev mv2B (a9 v10 : Int) (L186 : Int → Int → Rw → Cd → (Nat → Nat) → Option (Int × S3)) (v13 v14 r5 : Int) : (Int → Int → Rw → Cd → (Nat → Nat) → Option (Int × S3)) → Int → Int → Rw → Cd → (Nat → Nat) → Option (Int × S3) := fun L214 v16_214 v18_214 E_214 C_214 q_214 => fW_isMoved_214 a9 v10 L186 v13 v14 r5 L214 v16_214 v18_214 E_214 C_214 q_214
theorem mv_214 (hL : LW N np T E G) (hpv : pv < N) (hf : fr ≤ 1) (hh : had < 16) : lpn zW2 (mv2B (fr : Int) (had : Int) L186 v13 v14 (pv : Int)) FU 1 0 E C q = fW_isMoved_353 L186 v13 v14 (pv : Int) (encT ((T pv).map (tnM fr had))) E C q := by
  have n32 := hL.1.1.2.1
  obtain ⟨rv, kv, ov, lv1, lv2⟩ := hL.rep hpv
  have iv : inR (pv : Int) (wLen 3) := inWn 32 wl_3 (by omega) (by decide)
  have xv : ix (pv : Int) = pv := ix_n (by omega)
  have ev := (hL.1.2.2.1 pv hpv).1
  have tm := ov.tm (by omega)
  have key := lpn_rule (z := zW2) (body := mv2B (fr : Int) (had : Int) L186 v13 v14 (pv : Int)) (P := fun mm (L : Int → Int → Rw → Cd → (Nat → Nat) → Option (Int × S3)) => ∀ i : Nat, i ≤ (T pv).length → (T pv).length - i < mm → L (encT (((T pv).take i).map (tnM fr had))) (i : Int) E C q = fW_isMoved_353 L186 v13 v14 (pv : Int) (encT ((T pv).map (tnM fr had))) E C q) (fun i _ h => absurd h (Nat.not_lt_zero _)) (fun mm L hLL i hi hm => ?_) FU
  · have y := key 0 (Nat.zero_le _) (by unfold FU; omega)
    rw [List.take_zero] at y
    exact y
  · show fW_isMoved_214 (fr : Int) (had : Int) L186 v13 v14 (pv : Int) L (encT (((T pv).take i).map (tnM fr had))) (i : Int) E C q = _
    unfold fW_isMoved_214
    rw [bnd_eq, if_neg (by rw [w32_n (by omega)]; omega), if_pos iv, xv, ev, cal1_of (W_macros tm)]
    rcases Nat.lt_or_ge i (T pv).length with hlt | hge
    · have okm := kv _ (getD_mm hlt)
      have okt2 := (tnM_ok (had := had) hf okm).1
      rw [if_neg (by rw [w32_n (by omega), w32_n (by omega)]; omega), if_pos iv, cal1_of (W_macro tm hlt)]
      refine (mv_277 hf hh okm).trans ?_
      have em : (((T pv).getD i 0 : Nat) : Int) + (if tnB fr had ((T pv).getD i 0) = true then 64 - 128 * (fr : Int) else 0) = ((tnM fr had ((T pv).getD i 0) : Nat) : Int) := by
        unfold tnM
        by_cases c : tnB fr had ((T pv).getD i 0) = true
        · have h2 := (tnB_iff.mp c).2.1
          rw [if_pos c, if_pos c]
          rcases (show fr = 0 ∨ fr = 1 by omega) with z | z <;> subst z <;> omega
        · rw [if_neg c, if_neg c, Int.add_zero]
      have et : ((T pv).take (i + 1)).map (tnM fr had) = ((T pv).take i).map (tnM fr had) ++ [tnM fr had ((T pv).getD i 0)] := by
        rw [take_snoc hlt, List.map_append]
        rfl
      have z := hLL (i + 1) hlt (by omega)
      rw [et, encT_snoc] at z
      have tb : TM (((T pv).take i).map (tnM fr had)) := ⟨by rw [List.length_map, List.length_take]; omega, fun m hm => by
        obtain ⟨x, hx, rfl⟩ := List.mem_map.mp hm
        exact (tnM_ok hf (kv x (List.mem_of_mem_take hx))).1.lt⟩
      have eb := encT_b5 tb (by rw [List.length_map, List.length_take]; omega)
      have ml := okt2.lt
      unfold fW_isMoved_342
      rw [em, w32_n (by omega), lor_mac (by omega) (by omega) (by omega) (by omega), bnd_eq, show (i : Int) + 1 = ((i + 1 : Nat) : Int) by omega]
      exact z
    · have e : i = (T pv).length := by omega
      subst e
      rw [if_pos (Int.le_refl _), List.take_length]
/-- no page there -/
theorem mv_214n : lpn zW2 (mv2B (fr : Int) (had : Int) L186 v13 v14 (-1)) FU 1 0 E C q = L186 v13 (v14 + 1) E C q := by
  obtain ⟨F, hF⟩ : ∃ F, FU = F + 1 := ⟨FU - 1, by unfold FU; omega⟩
  rw [hF, lpn_succ]
  show fW_isMoved_214 (fr : Int) (had : Int) L186 v13 v14 (-1) _ 1 0 E C q = _
  unfold fW_isMoved_214 fW_isMoved_353 fW_isMoved_399
  rw [bnd_eq, if_pos (by decide)]; (try dsimp only); rw [bnd_eq, if_pos (by decide)]
theorem mv_353s {R : List Nat} (hL : LW N np T E G) (hpv : pv < N) (tm : TM R) (he : R = T pv) : fW_isMoved_353 L186 v13 v14 (pv : Int) (encT R) E C q = L186 v13 (v14 + 1) E C q := by
  have n32 := hL.1.1.2.1
  obtain ⟨rv, kv, ov, lv1, lv2⟩ := hL.rep hpv
  have iv : inR (pv : Int) (wLen 3) := inWn 32 wl_3 (by omega) (by decide)
  have xv : ix (pv : Int) = pv := ix_n (by omega)
  have ev := (hL.1.2.2.1 pv hpv).1
  unfold fW_isMoved_353 fW_isMoved_399
  rw [bnd_eq, if_neg (by rw [w32_n (by omega)]; omega), if_pos iv, xv, ev, if_pos ((enc_ne tm (ov.tm (by omega))).mpr he)]
theorem mv_353w {R : List Nat} (hL : LW N np T E G) (ht : t < 8) (hpv : pv < N) (h32 : N < 32) (tm : TM R) (he : R ≠ T pv) : fW_isMoved_353 L186 v13 (t : Int) (pv : Int) (encT R) E C q = L186 (v13 + 1) ((t : Int) + 1) (avE (wPut E 0 2 (G.1 5 + 1)) N (G.2 6 t) (G.1 5 + 1) R) C q := by
  have n32 := hL.1.1.2.1
  obtain ⟨rv, kv, ov, lv1, lv2⟩ := hL.rep hpv
  have iv : inR (pv : Int) (wLen 3) := inWn 32 wl_3 (by omega) (by decide)
  have xv : ix (pv : Int) = pv := ix_n (by omega)
  have ev := (hL.1.2.2.1 pv hpv).1
  have i2 : inR 2 (wLen 0) := inW 4 wl_0 (by decide) (by decide) (by decide)
  have it : inR (t : Int) (wLen 1) := inWn 8 wl_1 ht (by decide)
  have e00 : E 0 0 = (N : Int) := hL.1.1.1
  have e02 : E 0 2 = G.1 5 := hL.1.1.2.2.2.2.2.2
  have e1t : E 1 t - 1 = G.2 6 t := by rw [(hL.1.2.1 t ht).1]; omega
  have ad : fW_adds (G.2 6 t) (G.1 5 + 1) (encT R) (wPut E 0 2 (G.1 5 + 1)) = some ((N : Int), avE (wPut E 0 2 (G.1 5 + 1)) N (G.2 6 t) (G.1 5 + 1) R) := W_adds (by rw [wP2 _ _ (by omega)]; exact e00) h32
  unfold fW_isMoved_353 fW_isMoved_399
  rw [bnd_eq, if_neg (by rw [w32_n (by omega)]; omega), if_pos iv, xv, ev, if_neg (fun z => he ((enc_ne tm (ov.tm (by omega))).mp z)), if_pos i2, if_pos i2, show ix 2 = 2 from rfl, e02, bnd_eq, if_pos it, if_pos i2, ix_n (n := t) (by omega), wP1, wP2 _ _ (show 1 ≠ 0 ∨ t ≠ 2 by omega), e1t, cal1_of ad]
theorem tn_tm {R : List Nat} (hf : fr ≤ 1) (ok : ∀ m ∈ R, okM m) (h5 : R.length ≤ 5) : TM (R.map (tnM fr had)) := ⟨by rw [List.length_map]; omega, fun m hm => by
  obtain ⟨x, hx, rfl⟩ := List.mem_map.mp hm
  exact (tnM_ok hf (ok x hx)).1.lt⟩
/-- a title's turn -/
theorem mv_186n (hL : LW N np T E G) (ht : t < 8) (hp : prAt G N t = -1) : fW_isMoved_186 b (fr : Int) (had : Int) 1 L186 v13 (t : Int) E C q = L186 v13 ((t : Int) + 1) E C q := by
  unfold fW_isMoved_186
  rw [bnd_eq, if_neg (by rw [w32_n (by omega), show w32 8 = 8 from rfl]; omega), if_neg (by decide), cal1_of (W_present hL.1.1 hL.1.2.1 ht), hp, bnd_eq]
  exact mv_214n
theorem mv_186s (hL : LW N np T E G) (ht : t < 8) (hp : prAt G N t = (pv : Int)) (hpv : pv < N) (hf : fr ≤ 1) (hh : had < 16) (he : (T pv).map (tnM fr had) = T pv) : fW_isMoved_186 b (fr : Int) (had : Int) 1 L186 v13 (t : Int) E C q = L186 v13 ((t : Int) + 1) E C q := by
  obtain ⟨rv, kv, ov, lv1, lv2⟩ := hL.rep hpv
  unfold fW_isMoved_186
  rw [bnd_eq, if_neg (by rw [w32_n (by omega), show w32 8 = 8 from rfl]; omega), if_neg (by decide), cal1_of (W_present hL.1.1 hL.1.2.1 ht), hp, bnd_eq]
  exact (mv_214 hL hpv hf hh).trans (mv_353s hL hpv (tn_tm hf kv lv2) he)
theorem mv_186w (hL : LW N np T E G) (ht : t < 8) (hp : prAt G N t = (pv : Int)) (hpv : pv < N) (h32 : N < 32) (hf : fr ≤ 1) (hh : had < 16) (he : (T pv).map (tnM fr had) ≠ T pv) : fW_isMoved_186 b (fr : Int) (had : Int) 1 L186 v13 (t : Int) E C q = L186 (v13 + 1) ((t : Int) + 1) (avE (wPut E 0 2 (G.1 5 + 1)) N (G.2 6 t) (G.1 5 + 1) ((T pv).map (tnM fr had))) C q := by
  obtain ⟨rv, kv, ov, lv1, lv2⟩ := hL.rep hpv
  unfold fW_isMoved_186
  rw [bnd_eq, if_neg (by rw [w32_n (by omega), show w32 8 = 8 from rfl]; omega), if_neg (by decide), cal1_of (W_present hL.1.1 hL.1.2.1 ht), hp, bnd_eq]
  exact (mv_214 hL hpv hf hh).trans (mv_353w hL ht hpv h32 (tn_tm hf kv lv2) he)
end MVL
