/-! THE EVALUATOR'S SURROUNDINGS, read from the relation -/
section ENVI
variable {b kc : Nat} {M M' : Md} {C C' : Cd} {S : Nat → Nat → Nat → Prop} {VA PA LE AA : Nat → Nat} {nv np na t : Nat}
/-- what a title shows -/
def seen (M : Md) (nv na : Nat) (up : Int) (t : Nat) : Int := if up = -1 ∨ M.2 6 t = -1 then prAt M nv t else appr M (M.2 6 t) up na
def envF (M : Md) (nv na : Nat) (up : Int) (ct : Nat → Nat) : Env := (tx M, tl M, fun t => seen M nv na up t, fun c => bitsN (fun t => (ct t).testBit c) 24, fun j i => M.2 19 (16 * j + i), fun j i => M.2 20 (16 * j + i), fun j => (M.2 21 j).toNat)
theorem appr_congr {p up : Int} : ∀ n, (∀ k, (k = 14 ∨ k = 15 ∨ k = 16) → M'.2 k = M.2 k) → appr M' p up n = appr M p up n := by
  intro n
  induction n with
  | zero => intro _; rfl
  | succ n ih => intro h; unfold appr; rw [h 14 (by decide), h 15 (by decide), h 16 (by decide), ih h]
theorem appr_rng (p up : Int) : ∀ n, (∀ k, k < n → 0 ≤ M.2 16 k ∧ M.2 16 k < (nv : Int)) → appr M p up n = -1 ∨ (0 ≤ appr M p up n ∧ appr M p up n < (nv : Int)) := by
  intro n
  induction n with
  | zero => intro _; exact Or.inl rfl
  | succ n ih =>
    intro h
    unfold appr
    by_cases c : M.2 14 n = p ∧ M.2 15 n ≤ up
    · rw [if_pos c]; exact Or.inr (h n (Nat.lt_succ_self n))
    · rw [if_neg c]; exact ih (fun k hk => h k (by omega))
/-- the chain of approvals and what was approved up to a time -/
theorem aRef_cases {p : Int} : ∀ n, (aRef M AA p n = none ∧ ∀ up, appr M p up n = -1) ∨ ∃ k, k < n ∧ M.2 14 k = p ∧ aRef M AA p n = some (AA k) ∧ ∀ up, appr M p up n = if M.2 15 k ≤ up then M.2 16 k else appr M p up k := by
  intro n
  induction n with
  | zero => exact Or.inl ⟨rfl, fun _ => rfl⟩
  | succ n ih =>
    unfold aRef
    by_cases c : M.2 14 n = p
    · rw [if_pos c]
      refine Or.inr ⟨n, Nat.lt_succ_self n, c, rfl, fun up => ?_⟩
      rw [appr]
      by_cases c2 : M.2 15 n ≤ up
      · rw [if_pos ⟨c, c2⟩, if_pos c2]
      · rw [if_neg (fun z => c2 z.2), if_neg c2]
    · rw [if_neg c]
      have e : ∀ up, appr M p up (n + 1) = appr M p up n := fun up => by rw [appr, if_neg (fun z => c z.1)]
      rcases ih with ⟨h1, h2⟩ | ⟨k, h1, h2, h3, h4⟩
      · exact Or.inl ⟨h1, fun up => (e up).trans (h2 up)⟩
      · exact Or.inr ⟨k, by omega, h2, h3, fun up => (e up).trans (h4 up)⟩
theorem X12_approvedUpTo_ (h13 : M.1 13 = (na : Int)) (hna : na ≤ 512) (hA : ∀ k, k < na → I32 (M.2 14 k) ∧ I32 (M.2 15 k)) {p up : Int} (hp : I32 p) (hu : I32 up) : fX12_approvedUpTo p up M = some (appr M p up na, M) := by
  unfold fX12_approvedUpTo
  rw [bnd_eq]
  refine lpn_rule (P := fun mm (L : Int → Int → Md → Option (Int × Md)) => ∀ i, i ≤ na → na - i < mm → L (appr M p up i) (i : Int) M = some (appr M p up na, M)) (fun i _ h => absurd h (Nat.not_lt_zero _)) (fun mm L hLL i hi hm => ?_) FU 0 (Nat.zero_le _) (by unfold FU; omega)
  rcases Nat.lt_or_ge i na with hlt | hge
  · have q := hLL (i + 1) (by omega) (by omega)
    obtain ⟨a1, a2⟩ := hA i hlt
    rw [appr] at q
    rw [h13, if_neg (by rw [w32_n (by omega), w32_n (by omega)]; omega), if_pos (inM (n := 2000) rfl (by omega) (by decide)), bnd_eq, bnd_eq, ix_n (by omega), w32_of a1.1 a1.2, w32_of hp.1 hp.2]
    by_cases c : M.2 14 i = p
    · rw [if_neg (fun z => z c), if_pos (inM (n := 2000) rfl (by omega) (by decide)), w32_of hu.1 hu.2, w32_of a2.1 a2.2]
      by_cases c2 : up < M.2 15 i
      · rw [if_neg (fun z => by have := z.2; omega)] at q
        rw [if_pos c2]
        exact q
      · rw [if_pos ⟨c, by omega⟩] at q
        rw [if_neg c2, if_pos (inM (n := 2000) rfl (by omega) (by decide))]
        exact q
    · rw [if_neg (fun z => c z.1)] at q
      rw [if_pos c]
      exact q
  · have e : i = na := by omega
    subst e
    rw [h13, if_pos (Int.le_refl _)]
theorem RH.t6 (h : RH b M C VA PA LE AA nv np na) (ht : t < 24) : -1 ≤ M.2 6 t ∧ M.2 6 t < (np : Int) := by
  rcases h.2.2.2.1.1 t ht with ⟨c, _⟩ | ⟨p, p1, p2, _⟩
  · omega
  · omega
theorem RH.seen_rng (h : RH b M C VA PA LE AA nv np na) (up : Int) (t : Nat) : seen M nv na up t = -1 ∨ (0 ≤ seen M nv na up t ∧ seen M nv na up t < (nv : Int)) := by
  unfold seen
  by_cases c : up = -1 ∨ M.2 6 t = -1
  · rw [if_pos c]
    unfold prAt
    by_cases c2 : M.2 6 t = -1
    · rw [if_pos c2]; exact Or.inl rfl
    · rw [if_neg c2]; exact prs_rng M _ nv
  · rw [if_neg c]
    exact appr_rng _ _ na (fun k hk => by have := (h.2.2.1.2.2 k hk).2.2; omega)
theorem VI.m1 (h : VI M nv) (e : M'.1 8 = M.1 8) (e2 : ∀ k, k ≤ 40 → M'.2 k = M.2 k) : VI M' nv := by
  unfold VI at h ⊢
  rw [e, e2 10 (by decide), e2 11 (by decide), e2 12 (by decide)]
  exact h
/-- what the reference reads while it expands -/
theorem env_m {ct : Nat → Nat} (h : RH b M C VA PA LE AA nv np na) (hM : ∀ j, j < 4 → RMo b M C j) (hct : ∀ t, t < 24 → M.2 32 t = (ct t : Int) ∧ ct t < 256) (h5 : M.1 5 < 2147483648) {M1 : Md} {up : Int} (h1 : ∀ j, j ≤ 35 → M1.1 j = M.1 j) (h2 : ∀ k, k ≤ 40 → M1.2 k = M.2 k) (h39 : M1.1 39 = up) (hu : I32 up) : EnM M1 (envF M nv na up ct) := by
  intro M' o
  have e1 : ∀ j, j ≤ 35 → M'.1 j = M.1 j := fun j hj => (o.1 j (by omega)).trans (h1 j hj)
  have e2 : ∀ k, k ≤ 40 → M'.2 k = M.2 k := fun k hk => (o.2 k (by omega)).trans (h2 k hk)
  have e39 : M'.1 39 = up := (o.1 39 (by omega)).trans h39
  have vs : VSame M M' := ⟨fun j hj => e1 j (by omega), fun k hk => e2 k (by omega)⟩
  obtain ⟨nv1, np1⟩ := h.nv120
  have hV : VI M' nv := h.1.1.same vs
  refine ⟨fun t ht => ?_, fun c hc => ?_, fun j hj => ?_, fun t ht hne => ?_⟩
  · have t6 := h.t6 ht
    have e6 : M'.2 6 t = M.2 6 t := by rw [e2 6 (by decide)]
    have hp := X12_presentAt_ hV ht (by rw [e6]; exact ⟨by omega, by omega⟩)
    rw [prAt_same vs] at hp
    unfold fX12_seenAt
    rw [bnd_eq, bnd_eq, e39, w32_of hu.1 hu.2, show w32 (-1) = -1 from rfl]
    show _ = some (seen M nv na up t, M')
    unfold seen
    by_cases c : up = -1
    · rw [if_pos c, if_pos (Or.inl c)]
      dsimp only
      rw [cal_of hp]
    · rw [if_neg c, if_pos (inM (n := 24) rfl ht (by decide)), ix_n (by omega), e6, w32_of (by omega) (by omega)]
      by_cases c2 : M.2 6 t = -1
      · rw [if_neg (fun z => z c2), if_pos (Or.inr c2)]
        dsimp only
        rw [cal_of hp]
      · have ha := X12_approvedUpTo_ (M := M') (na := na) (p := M.2 6 t) (up := up) ((e1 13 (by decide)).trans h.2.2.1.1) h.2.2.1.2.1 (fun k hk => by
          obtain ⟨y1, y2, y3⟩ := h.2.2.1.2.2 k hk
          rw [e2 14 (by decide), e2 15 (by decide)]
          exact ⟨⟨by omega, by omega⟩, ⟨by omega, by omega⟩⟩) ⟨by omega, by omega⟩ hu
        rw [appr_congr na (fun k hk => e2 k (by omega))] at ha
        rw [if_pos c2, if_pos (inM (n := 24) rfl ht (by decide)), if_neg (fun z => z.elim c c2), cal_of ha]
  · exact X12_membersOf_ (M := M') (ct := ct) (fun t ht => by rw [e2 32 (by decide)]; exact hct t ht) hc
  · obtain ⟨ml, m1, m2, m3⟩ := hM j hj
    rw [e2 21 (by decide), e2 19 (by decide), e2 20 (by decide)]
    refine ⟨?_, fun i hi => ⟨rfl, rfl⟩⟩
    show M.2 21 j = (((M.2 21 j).toNat : Nat) : Int)
    omega
  · have hr : seen M nv na up t = -1 ∨ _ := h.seen_rng up t
    have hne' : seen M nv na up t ≠ -1 := hne
    show 0 ≤ seen M nv na up t ∧ (seen M nv na up t).toNat < 120 ∧ M'.2 10 (seen M nv na up t).toNat = ((tl M (seen M nv na up t).toNat : Nat) : Int) ∧ ∀ k, k < tl M (seen M nv na up t).toNat → M'.2 9 (30 * (seen M nv na up t).toNat + k) = tx M (seen M nv na up t).toNat k
    generalize seen M nv na up t = x at *
    have hx : x.toNat < nv := by omega
    rw [e2 10 (by decide), e2 9 (by decide)]
    exact ⟨by omega, by omega, tl_eq h.1.1 hx, fun k hk => rfl⟩
theorem env_p {ct : Nat → Nat} (h : RH b M C VA PA LE AA nv np na) (hM : ∀ j, j < 4 → RMo b M C j) (up : Int) : EnP (envF M nv na up ct) := by
  refine ⟨fun t ht hne => ?_, fun c hc => bitsN_24 _ (by decide), fun j hj => ?_⟩
  · have hr : seen M nv na up t = -1 ∨ _ := h.seen_rng up t
    have hne' : seen M nv na up t ≠ -1 := hne
    show 0 ≤ seen M nv na up t ∧ TxOK (tx M (seen M nv na up t).toNat) (tl M (seen M nv na up t).toNat) ∧ Tkv (tx M (seen M nv na up t).toNat) (tl M (seen M nv na up t).toNat)
    generalize seen M nv na up t = x at *
    obtain ⟨y1, y2⟩ := h.1.2.1 x.toNat (by omega)
    exact ⟨by omega, isTx_ok y1, y2⟩
  · obtain ⟨ml, m1, m2, m3⟩ := hM j hj
    have e : (M.2 21 j).toNat = ml := by omega
    show (M.2 21 j).toNat ≤ 16 ∧ ∀ k, k < (M.2 21 j).toNat → (0 ≤ M.2 19 (16 * j + k) ∧ M.2 19 (16 * j + k) ≤ 8) ∧ 0 ≤ M.2 20 (16 * j + k) ∧ M.2 20 (16 * j + k) < 1000
    rw [e]
    exact ⟨m2.2.1, m3⟩
/-- what the class's chain gives -/
theorem X3_textUpTo_ (h : RH b M C VA PA LE AA nv np na) (h5 : M.1 5 < 2147483648) {p : Nat} (hp : p < np) {up : Int} (hu : I32 up) : fX3_textUpTo (PA p) up C = some (if (if up = -1 then prs M (p : Int) nv else appr M (p : Int) up na) = -1 then none else some (VA (if up = -1 then prs M (p : Int) nv else appr M (p : Int) up na).toNat + 1), C) := by
  obtain ⟨x1, x2, x3, x4, x5, x6⟩ := h.2.2.2.2.2.1 p hp
  have hna := h.2.2.1.2.1
  unfold fX3_textUpTo
  rw [w32_of hu.1 hu.2, show w32 (-1) = -1 from rfl]
  by_cases c : up = -1
  · obtain ⟨v, v1, v2, v3, v4⟩ := h.pres hp
    obtain ⟨⟨y1, y2, y3, y4, y5⟩, y6⟩ := h.2.2.2.2.1 v v1
    rw [if_neg (fun z => z c), if_pos c, if_pos x2.1, bnd_eq, v4, drf_some, if_pos y1, bnd_eq, y4, v2, if_neg (by omega), Int.toNat_natCast]
  · rw [if_pos c, if_neg c, if_pos x2.1, bnd_eq, bnd_eq, x4]
    refine lpn_rule (P := fun mm (L : Option Nat → Cd → Option (Option Nat × Cd)) => ∀ n, n ≤ na → n < mm → L (aRef M AA (p : Int) n) C = some (if appr M (p : Int) up n = -1 then none else some (VA (appr M (p : Int) up n).toNat + 1), C)) (fun n _ h => absurd h (Nat.not_lt_zero _)) (fun mm L hLL n hn hm => ?_) FU na (Nat.le_refl _) (by unfold FU; omega)
    rcases aRef_cases (M := M) (AA := AA) (p := (p : Int)) n with ⟨z1, z2⟩ | ⟨k, z1, z2, z3, z4⟩
    · rw [z1, opt_none, z2, if_pos rfl]
    · obtain ⟨g1, g2, g3, g4, g5⟩ := h.2.2.2.2.2.2 k (by omega)
      obtain ⟨a1, a2, a3⟩ := h.2.2.1.2.2 k (by omega)
      rw [z3, opt_some, if_pos g1, g2, w32_of (x := M.2 15 k) (by omega) (by omega), z4]
      by_cases c2 : up < M.2 15 k
      · have z5 : (if M.2 15 k ≤ up then M.2 16 k else appr M (p : Int) up k) = appr M (p : Int) up k := if_neg (by omega)
        rw [if_pos c2, if_pos g1, bnd_eq, g4, z2, z5]
        exact hLL k (by omega) (by omega)
      · have z5 : (if M.2 15 k ≤ up then M.2 16 k else appr M (p : Int) up k) = M.2 16 k := if_pos (by omega)
        rw [if_neg c2, if_pos g1, bnd_eq, g3, z5, if_neg (by omega)]
theorem X1_textAt_ (hL : Lay b C) (h : RH b M C VA PA LE AA nv np na) (h5 : M.1 5 < 2147483648) (ht : t < 24) {up : Int} (hu : I32 up) (ct : Nat → Nat) : fX1_textAt (b + 1) (t : Int) up C = some (tRef (envF M nv na up ct) VA t, C) := by
  have hz := hL.sz
  unfold fX1_textAt
  rw [bnd_eq, bnd_eq, bnd_eq, if_neg (by rw [w32_n (by omega)]; omega), if_pos hL.oe, bnd_eq, hL.x0, drf_some, if_pos hL.ot, hL.nt, if_neg (by rw [w32_n (n := 24) (by omega), w32_n (n := t) (by omega)]; omega), if_pos hL.oe, drf_some, if_pos ⟨hL.ot, by rw [hL.nt]; exact inR_n ht (by decide)⟩, bnd_eq, hL.tt ht, drf_some, if_pos (hL.to ht), bnd_eq]
  show _ = some (if seen M nv na up t = -1 then none else some (VA (seen M nv na up t).toNat + 1), C)
  unfold seen
  rcases h.2.2.2.1.1 t ht with ⟨c1, c2⟩ | ⟨p, p1, p2, p3⟩
  · rw [c2]
    dsimp only
    rw [bnd_eq, opt_none, if_pos (Or.inr c1)]
    unfold prAt
    rw [if_pos c1, if_pos rfl]
  · have e := X3_textUpTo_ h h5 p1 hu
    rw [p3]
    dsimp only
    have es : (if up = -1 ∨ M.2 6 t = -1 then prAt M nv t else appr M (M.2 6 t) up na) = (if up = -1 then prs M (p : Int) nv else appr M (p : Int) up na) := by
      by_cases c : up = -1
      · rw [if_pos (Or.inl c), if_pos c]
        unfold prAt
        rw [if_neg (by omega), p2]
      · rw [if_neg (fun z => z.elim c (fun y => by omega)), if_neg c, p2]
    rw [bnd_eq, opt_some, if_pos (h.2.2.2.2.2.1 p p1).2.1.1, cal_of e, es]
theorem sX_hs (hL : Lay b C) : HS b C (sX b (DyC b C)) := by
  intro q k a ha z hb
  rcases z with ⟨h, h2 | h2 | ⟨h2, h3 | h3⟩ | ⟨h2, ff, h3, h4⟩ | ⟨h2, ff, h3, h4⟩⟩ | ⟨h, ⟨h2, ff, h3, h4⟩ | ⟨h2, ff, h3, h4⟩⟩ | ⟨h, h2 | h2 | h2 | ⟨d, h2, h3⟩ | ⟨ff, h3, h4⟩⟩ | ⟨h, ff, h3, h4⟩
  · omega
  · omega
  · omega
  · exact Or.inl ⟨h, h2⟩
  · omega
  · omega
  · omega
  · omega
  · omega
  · omega
  · omega
  · exact Or.inr ⟨h, d, h2, h3⟩
  · omega
  · omega
theorem sX_lo2 {D : Nat → Prop} (hD : ∀ d, D d → b + 854 ≤ d) {k a : Nat} (z : sX b D 2 k a) (ha : a < b + 854) : a = b + 8 ∨ a = b + 9 ∨ a = b + 12 ∨ (b + 169 ≤ a ∧ a < b + 333) := by
  rcases z with ⟨h, _⟩ | ⟨h, _⟩ | ⟨h, h2 | h2 | h2 | ⟨d, h2, h3⟩ | ⟨ff, h3, h4⟩⟩ | ⟨h, _⟩
  · omega
  · omega
  · omega
  · omega
  · omega
  · have := hD d h2; omega
  · omega
  · omega
/-- what the class reads while it expands -/
theorem env_c {ct : Nat → Nat} (hL : Lay b C) (hX : RXc b C) (h : RH b M C VA PA LE AA nv np na) (hM : ∀ j, j < 4 → RMo b M C j) (hct : ∀ t, t < 24 → cI C 704 (b + 13 + 6 * t + 1) = (ct t : Int) ∧ ct t < 256) (h5 : M.1 5 < 2147483648) {up : Int} (hu : I32 up) : EnvC b (envF M nv na up ct) VA up C := by
  intro C' f
  have W := hL.W
  have hz := hL.sz
  have hL' := hL.keep (f.mono (fun _ _ _ _ z => z.mu))
  have dy : ∀ d, DyC b C d → b + 854 ≤ d := fun d ⟨ff, p, hf, hp, hd⟩ => (hX ff p d hf hp hd).2.1
  have n1 : ¬ sX b (DyC b C) 0 1407 b := by unfold sX; omega
  have n2 : ∀ t, t < 24 → ¬ sX b (DyC b C) 1 1203 (b + 13 + 6 * t) := fun t ht => by unfold sX; omega
  have hR := h.low W hL hX f (sX_hs hL) VSame.rf (Int.le_refl _) n1 n2
  refine ⟨fun t ht hne => ?_, fun t ht => X1_textAt_ hL' hR h5 ht hu ct, fun c hc => X11_membersOf_ hL' (ct := ct) (fun t ht => ⟨(f.fI (by omega) (by unfold sX; omega)).trans (hct t ht).1, (hct t ht).2⟩) hc, fun j hj => ?_⟩
  · have hr : seen M nv na up t = -1 ∨ _ := h.seen_rng up t
    have hne' : seen M nv na up t ≠ -1 := hne
    show Stl C' (VA (seen M nv na up t).toNat + 1) (tx M (seen M nv na up t).toNat) (tl M (seen M nv na up t).toNat)
    generalize seen M nv na up t = x at *
    exact (hR.2.2.2.2.1 x.toNat (by omega)).1.2.2.2.2
  · obtain ⟨ml, m1, m2, m3⟩ := (hM j hj).low hL hj f (M' := M) (by unfold sX; omega) (fun z => by have := sX_lo2 dy z (by omega); omega) (fun z => by have := sX_lo2 dy z (by omega); omega) (fun _ _ => rfl)
    have e : (M.2 21 j).toNat = ml := by omega
    show ModC C' (b + 157 + 3 * j) (fun i => M.2 19 (16 * j + i)) (fun i => M.2 20 (16 * j + i)) (M.2 21 j).toNat
    rw [e]
    exact m2
end ENVI
