/-! THE LAW'S DEEDS: edit, its pieces -/
section DED
variable {b kc N np t v pv : Nat} {E : Rw} {G G1 : Md} {C C1 C' : Cd} {T : Nat → List Nat} {q : Nat → Nat} {z : Int}
theorem vof_sm {j : Nat} (hL : LW N np T E G) (hL1 : LW N np T E G1) (ht : t < 8) (hj : j < 1000) : vofF G1 N t j = vofF G N t j := by
  have a := W_versionOf hL.1.1 hL.1.2.1 ht (place := j) hj
  have c := W_versionOf hL1.1.1 hL1.1.2.1 ht (place := j) hj
  rw [a] at c
  exact (Prod.mk.inj (Option.some.inj c)).1.symm
theorem prAt_sm (hL : LW N np T E G) (hL1 : LW N np T E G1) (ht : t < 8) : prAt G1 N t = prAt G N t := by
  have a := W_present hL.1.1 hL.1.2.1 ht
  have c := W_present hL1.1.1 hL1.1.2.1 ht
  rw [a] at c
  exact (Prod.mk.inj (Option.some.inj c)).1.symm
theorem pres_vof (h : RR b kc G C) (hL : LW N np T E G) (ht : t < 8) (hp : G.2 6 t ≠ -1) : ∃ j, j < 1000 ∧ vofF G N t j = prAt G N t := by
  have pr := h.prN hL.2.2.2.2.2.1 (show t < 24 by omega) hp
  have n32 := hL.1.1.2.1
  have cl := cnt_le (onp G (G.2 6 t)) N
  have ep : prAt G N t = prs G (G.2 6 t) N := by unfold prAt; rw [if_neg hp]
  rcases prs_last G (G.2 6 t) N with ⟨_, y⟩ | ⟨y1, y2⟩
  · exact absurd (ep.trans y) pr
  · refine ⟨cnt (onp G (G.2 6 t)) N - 1, by omega, ?_⟩
    rw [vofF_at, ep, y2]
    unfold nVers
    rw [if_neg hp, if_pos (by omega)]
theorem ed_verAt {j : Nat} (h : RR b kc G C) (hL : LW N np T E G) (ht : t < 8) (e : vofF G N t j = (v : Int)) : v < N ∧ G.2 6 t ≠ -1 ∧ fX12_isVersionAt (t : Int) (v : Int) G = some (1, G) := by
  rw [vofF_at] at e
  by_cases c : j < nVers G N t
  · rw [if_pos c] at e
    have hp : G.2 6 t ≠ -1 := fun y => by unfold nVers at c; rw [if_pos y] at c; omega
    obtain ⟨v1, v2, v3, v4⟩ := isVer h hL ht hp c
    rw [e] at v2
    exact ⟨by omega, hp, v2⟩
  · rw [if_neg c] at e
    omega
theorem isVer0 {y : Int} (hL : LW N np T E G) (ht : t < 8) (hp : G.2 6 t = -1) : fX12_isVersionAt (t : Int) y G = some (0, G) := by
  unfold fX12_isVersionAt
  rw [cal_of (hasP0 hL ht hp), bnd_eq, bnd_eq, if_pos (by decide)]
  rfl
theorem ed_450y {part : Int} (hL : LW N np T E G) (hv : v < N) (hz : -1 ≤ z ∧ z < 1 + (scN (T v) : Int)) (J : Int → Rw → Cd → (Nat → Nat) → Option (Int × S3)) : fW_law_450 b 1 (t : Int) 1 (pv : Int) J (v : Int) z part E C q = fW_law_475 b 1 (t : Int) (pv : Int) J (v : Int) z part 1 E C q := by
  have n32 := hL.1.1.2.1
  obtain ⟨rv, kv, ov, lv1, lv2⟩ := hL.rep hv
  have sl := scN_le (T v)
  have iv : inR (v : Int) (wLen 3) := inWn 32 wl_3 (by omega) (by decide)
  have ev := (hL.1.2.2.1 v hv).1
  have ws := W_sections (ov.tm (by omega))
  rw [← ev] at ws
  unfold fW_law_450 fW_law_474
  rw [bnd_eq, bnd_eq, if_neg (by decide), if_pos iv, ix_n (n := v) (by omega), cal1_of ws, if_neg (by rw [w32_n (by omega), w32_of (by omega) (by omega)]; omega)]
theorem ed_450n {part : Int} (hL : LW N np T E G) (hv : v < N) (hz : 1 + (scN (T v) : Int) ≤ z ∧ z < 10) (J : Int → Rw → Cd → (Nat → Nat) → Option (Int × S3)) : fW_law_450 b 1 (t : Int) 1 (pv : Int) J (v : Int) z part E C q = fW_law_475 b 1 (t : Int) (pv : Int) J (v : Int) z part 0 E C q := by
  have n32 := hL.1.1.2.1
  obtain ⟨rv, kv, ov, lv1, lv2⟩ := hL.rep hv
  have sl := scN_le (T v)
  have iv : inR (v : Int) (wLen 3) := inWn 32 wl_3 (by omega) (by decide)
  have ev := (hL.1.2.2.1 v hv).1
  have ws := W_sections (ov.tm (by omega))
  rw [← ev] at ws
  unfold fW_law_450 fW_law_474
  rw [bnd_eq, bnd_eq, if_neg (by decide), if_pos iv, ix_n (n := v) (by omega), cal1_of ws, if_pos (by rw [w32_n (by omega), w32_of (by omega) (by omega)]; omega)]
theorem ed_475z {part base r9 : Int} (J : Int → Rw → Cd → (Nat → Nat) → Option (Int × S3)) : fW_law_475 b 1 (t : Int) r9 J base z part 0 E C q = fW_law_607 b (t : Int) base z part 0 1 0 (fun v E C q => fW_law_693 J v E C q) E C q := by
  unfold fW_law_475
  rw [bnd_eq, if_neg (by decide)]
  show fW_law_508 b 1 (t : Int) r9 J base z part 0 1 E C q = _
  unfold fW_law_508 fW_law_522
  rw [bnd_eq, bnd_eq, if_pos (by decide)]
  show fW_law_542 b 1 (t : Int) r9 J base z part 0 1 1 E C q = _
  unfold fW_law_542 fW_law_579
  rw [bnd_eq, bnd_eq, if_pos (by decide)]
  show fW_law_580 b 1 (t : Int) J base z part 0 1 1 0 E C q = _
  unfold fW_law_580
  rw [bnd_eq, bnd_eq, if_pos (by decide)]
theorem ed_475 {D : List Nat} {r9 : Int} (hL : LW N np T E G) (hv : v < N) (ok : okT D) (lD : D.length ≤ 5) (hz : z = -1 ∨ (0 ≤ z ∧ z < 10)) (J : Int → Rw → Cd → (Nat → Nat) → Option (Int × S3)) : fW_law_475 b 1 (t : Int) r9 J (v : Int) z (encT D) 1 E C q = fW_law_508 b 1 (t : Int) r9 J (v : Int) z (encT D) 1 (encT ((mnT (T v) D z).take 6)) E C q := by
  have n32 := hL.1.1.2.1
  obtain ⟨rv, kv, ov, lv1, lv2⟩ := hL.rep hv
  have iv : inR (v : Int) (wLen 3) := inWn 32 wl_3 (by omega) (by decide)
  have ev := (hL.1.2.2.1 v hv).1
  unfold fW_law_475
  rcases hz with e | ⟨e1, e2⟩
  · have em : mnT (T v) D z = D := by unfold mnT; rw [if_pos e]
    rw [bnd_eq, if_pos (by decide), if_neg (by rw [e]; decide), em, take_5 lD]
  · obtain ⟨s, rfl⟩ : ∃ s : Nat, z = (s : Int) := ⟨z.toNat, by omega⟩
    have em : mnT (T v) D (s : Int) = catL (1 + scN (T v)) (fun k => if k = s then D else secF (T v) k) := by unfold mnT; rw [if_neg (by omega), Int.toNat_natCast]
    have ww := W_with (ov.tm (by omega)) (ok.tm (by omega)) (s := s) (by omega)
    rw [← em, ← ev] at ww
    rw [bnd_eq, if_pos (by decide), if_pos (by rw [w32_n (by omega)]; omega), if_pos iv, ix_n (n := v) (by omega), cal1_of ww]
/-- what the law takes for the merging -/
def edX (M V P : List Nat) (same : Bool) : Option (List Nat) := if same = true then some M else mgW (M.take 6) V P
theorem ed_508 {M : List Nat} {part : Int} (hL : LW N np T E G) (hv : v < N) (hpv : pv < N) (okm : ∀ m ∈ M, okM m) (J : Int → Rw → Cd → (Nat → Nat) → Option (Int × S3)) : fW_law_508 b 1 (t : Int) (pv : Int) J (v : Int) z part 1 (encT (M.take 6)) E C q = fW_law_542 b 1 (t : Int) (pv : Int) J (v : Int) z part 1 (encT (M.take 6)) (encO (edX M (T v) (T pv) (decide ((v : Int) = (pv : Int))))) E C q := by
  have n32 := hL.1.1.2.1
  obtain ⟨rv, kv, ov, lv1, lv2⟩ := hL.rep hv
  obtain ⟨rp, kp, op, lp1, lp2⟩ := hL.rep hpv
  have iv : inR (v : Int) (wLen 3) := inWn 32 wl_3 (by omega) (by decide)
  have ip : inR (pv : Int) (wLen 3) := inWn 32 wl_3 (by omega) (by decide)
  have ev := (hL.1.2.2.1 v hv).1
  have ep := (hL.1.2.2.1 pv hpv).1
  unfold fW_law_508 fW_law_522
  by_cases same : (v : Int) = (pv : Int)
  · have ex : edX M (T v) (T pv) (decide ((v : Int) = (pv : Int))) = some M := by
      unfold edX
      rw [decide_eq_true same, if_pos rfl]
    rw [ex, bnd_eq, bnd_eq, if_neg (by decide), if_neg (by rw [same]; exact fun y => y rfl)]
    rfl
  · have ex : edX M (T v) (T pv) (decide ((v : Int) = (pv : Int))) = mgW (M.take 6) (T v) (T pv) := by
      unfold edX
      rw [decide_eq_false same, if_neg (by decide)]
    have wm := W_merged (take_tm okm) (ov.tm (by omega)) (op.tm (by omega))
    rw [← ev, ← ep] at wm
    rw [ex, bnd_eq, bnd_eq, if_neg (by decide), if_pos (by rw [w32_n (by omega), w32_n (by omega)]; exact same), if_pos iv, if_pos ip, ix_n (n := v) (by omega), ix_n (n := pv) (by omega), cal1_of wm]
/-- whether it may be -/
def canX (X : Option (List Nat)) (P : List Nat) : Int := match X with
  | none => 0
  | some R => if isTL (R.take 6) = true ∧ R.take 6 ≠ P then 1 else 0
theorem ed_542 {X : Option (List Nat)} {part meant base : Int} (hL : LW N np T E G) (hpv : pv < N) (hX : ∀ R, X = some R → ∀ m ∈ R, okM m) (J : Int → Rw → Cd → (Nat → Nat) → Option (Int × S3)) : fW_law_542 b 1 (t : Int) (pv : Int) J base z part 1 meant (encO X) E C q = fW_law_580 b 1 (t : Int) J base z part 1 meant (encO X) (canX X (T pv)) E C q := by
  have n32 := hL.1.1.2.1
  obtain ⟨rp, kp, op, lp1, lp2⟩ := hL.rep hpv
  have ip : inR (pv : Int) (wLen 3) := inWn 32 wl_3 (by omega) (by decide)
  have ep := (hL.1.2.2.1 pv hpv).1
  unfold fW_law_542 fW_law_579
  rw [bnd_eq, bnd_eq, if_neg (by decide)]
  rcases X with _ | R
  · rw [show encO none = 0 from rfl, if_pos (by decide)]
    rfl
  · have tm := take_tm (hX R rfl)
    rw [show encO (some R) = encT (R.take 6) from rfl]
    show _ = fW_law_580 b 1 (t : Int) J base z part 1 meant (encT (R.take 6)) (if isTL (R.take 6) = true ∧ R.take 6 ≠ T pv then 1 else 0) E C q
    have wt := W_isText tm
    by_cases d : isTL (R.take 6) = true
    · have l1 : 1 ≤ (R.take 6).length := by
        unfold isTL at d
        rw [Bool.and_eq_true, decide_eq_true_iff] at d
        exact d.1.1
      have gt := enc_gt tm l1
      rw [if_pos d] at wt
      rw [if_neg (fun y => by have := (lcmp_1 tm).mp y; omega), cal1_of wt, if_neg (by decide), if_pos ip, ix_n (n := pv) (by omega), ep]
      by_cases e : R.take 6 = T pv
      · rw [if_pos ((enc_ne tm (op.tm (by omega))).mpr e), if_neg (fun y => y.2 e)]
      · rw [if_neg (fun y => e ((enc_ne tm (op.tm (by omega))).mp y)), if_pos ⟨d, e⟩]
    · rw [if_neg d] at wt
      rw [if_neg (show ¬ (isTL (R.take 6) = true ∧ R.take 6 ≠ T pv) from fun y => d y.1)]
      by_cases c : w32 (lcmpI (encT (R.take 6)) 1) ≤ 0
      · rw [if_pos c]
      · rw [if_neg c, cal1_of wt, if_pos (by decide)]
theorem ed_580m {M : List Nat} {part due base f : Int} (okm : ∀ m ∈ M, okM m) (h5 : 5 < M.length) (J : Int → Rw → Cd → (Nat → Nat) → Option (Int × S3)) : fW_law_580 b 1 (t : Int) J base z part 1 (encT (M.take 6)) due f E C q = J 1 E C q := by
  have m := W_macros (take_tm okm)
  unfold fW_law_580
  rw [bnd_eq, bnd_eq, if_neg (by decide), cal1_of m, if_pos (by rw [List.length_take, Nat.min_eq_left (by omega)]; decide)]
  rfl
theorem ed_580s {M R : List Nat} {part base f : Int} (okm : ∀ m ∈ M, okM m) (h5 : M.length ≤ 5) (okr : ∀ m ∈ R, okM m) (r5 : 5 < R.length) (J : Int → Rw → Cd → (Nat → Nat) → Option (Int × S3)) : fW_law_580 b 1 (t : Int) J base z part 1 (encT (M.take 6)) (encO (some R)) f E C q = J 1 E C q := by
  have m := W_macros (take_tm okm)
  have r := W_macros (take_tm okr)
  unfold fW_law_580
  rw [show encO (some R) = encT (R.take 6) from rfl, bnd_eq, bnd_eq, if_neg (by decide), cal1_of m, if_neg (by rw [List.length_take, Nat.min_eq_right (by omega), w32_n (by omega), show w32 6 = 6 from rfl]; omega), cal1_of r, if_pos (by rw [List.length_take, Nat.min_eq_left (by omega)]; decide)]
  rfl
theorem ed_580g {M : List Nat} {X : Option (List Nat)} {part base f : Int} (okm : ∀ m ∈ M, okM m) (h5 : M.length ≤ 5) (hX : ∀ R, X = some R → (∀ m ∈ R, okM m) ∧ R.length ≤ 5) (J : Int → Rw → Cd → (Nat → Nat) → Option (Int × S3)) : fW_law_580 b 1 (t : Int) J base z part 1 (encT (M.take 6)) (encO X) f E C q = fW_law_607 b (t : Int) base z part 1 (encO X) f (fun v E C q => fW_law_693 J v E C q) E C q := by
  have m := W_macros (take_tm okm)
  unfold fW_law_580
  rw [bnd_eq, bnd_eq, if_neg (by decide), cal1_of m, if_neg (by rw [List.length_take, Nat.min_eq_right (by omega), w32_n (by omega), show w32 6 = 6 from rfl]; omega)]
  rcases X with _ | R
  · rw [show encO none = 0 from rfl, cal1_of W_macros_0, if_neg (by decide)]
  · obtain ⟨okr, r5⟩ := hX R rfl
    have r := W_macros (take_tm okr)
    rw [show encO (some R) = encT (R.take 6) from rfl, cal1_of r, if_neg (by rw [List.length_take, Nat.min_eq_right (by omega), w32_n (by omega), show w32 6 = 6 from rfl]; omega)]
end DED
