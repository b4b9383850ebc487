/-! CALLS: token, protect, rank, inLanguage, isOutdated -/
section CAL3
variable {b kc : Nat} {M M' : Md} {C C' : Cd}
theorem sAt0 : ∀ i, i < 14 → 0 ≤ sAt 0 i ∧ sAt 0 i ≤ 999 := by decide
theorem sAt1 : ∀ i, i < 9 → 0 ≤ sAt 1 i ∧ sAt 1 i ≤ 999 := by decide
theorem X11_isAmong_ {w : Nat} (hw : w = 0 ∨ w = 1) {k v : Int} (hk : I32 k) (hv : I32 v) : BR (fX11_isAmong b w k v C) C (0 ≤ k ∧ k < (sLen w : Int) ∧ 0 ≤ v ∧ v ≤ sAt w k.toNat) := by
  have hl : sLen w = 14 ∨ sLen w = 9 := by rcases hw with e | e <;> subst e <;> decide
  have wk : w32 k = k := w32_of hk.1 hk.2
  have wv : w32 v = v := w32_of hv.1 hv.2
  have wl : w32 (sLen w : Int) = (sLen w : Int) := w32_n (n := sLen w) (by omega)
  unfold fX11_isAmong
  rw [bnd_eq, bnd_eq]
  by_cases c1 : k < 0
  · rw [if_pos (by rw [wk]; exact c1)]; exact Or.inr ⟨rfl, by omega⟩
  · rw [if_neg (by rw [wk]; exact c1)]
    by_cases c2 : (sLen w : Int) ≤ k
    · rw [if_pos (by rw [wk, wl]; exact c2)]; exact Or.inr ⟨rfl, by omega⟩
    · rw [if_neg (by rw [wk, wl]; exact c2)]
      obtain ⟨n, rfl⟩ : ∃ n : Nat, k = (n : Int) := ⟨k.toNat, by omega⟩
      have hs : 0 ≤ sAt w n ∧ sAt w n ≤ 999 := by
        rcases hw with e | e <;> subst e
        · exact sAt0 n (by have : sLen 0 = 14 := rfl; omega)
        · exact sAt1 n (by have : sLen 1 = 9 := rfl; omega)
      by_cases c3 : v < 0
      · rw [if_pos (by rw [wv]; exact c3)]; exact Or.inr ⟨rfl, by omega⟩
      · rw [if_neg (by rw [wv]; exact c3), if_pos (inR_n (by omega) (by omega)), ix_n (by omega), Int.toNat_natCast]
        by_cases c4 : sAt w n < v
        · rw [if_pos (by rw [wv, w32_of (x := sAt w n) (by omega) (by omega)]; exact c4)]; exact Or.inr ⟨rfl, by omega⟩
        · rw [if_neg (by rw [wv, w32_of (x := sAt w n) (by omega) (by omega)]; exact c4)]; exact Or.inl ⟨rfl, by omega, by omega, by omega, by omega⟩
theorem X12_isValue_ {n : Nat} (hn : n < 14) {v : Int} (hv : I32 v) : BR (fX12_isValue (n : Int) v M) M (0 ≤ v ∧ v ≤ sAt 0 n) := by
  have e : fX12_isValue (n : Int) v M = cal (fX12_in v 0 (sAt 0 n) M) fun r2 M1 => retZ r2 M1 := by
    have hn' : n = 0 ∨ n = 1 ∨ n = 2 ∨ n = 3 ∨ n = 4 ∨ n = 5 ∨ n = 6 ∨ n = 7 ∨ n = 8 ∨ n = 9 ∨ n = 10 ∨ n = 11 ∨ n = 12 ∨ n = 13 := by omega
    rcases hn' with e | e | e | e | e | e | e | e | e | e | e | e | e | e <;> subst e <;> rfl
  have hs := sAt0 n hn
  rw [e]
  rcases X12_in_ (x := v) (lo := 0) (hi := sAt 0 n) M hv (by decide) ⟨by omega, by omega⟩ with ⟨q, p⟩ | ⟨q, p⟩
  · rw [cal_of q]; exact Or.inl ⟨rfl, p⟩
  · rw [cal_of q]; exact Or.inr ⟨rfl, p⟩
theorem okt_of {n : Nat} (hn : n < 14) {v : Int} (h0 : 0 ≤ v) (h1 : v ≤ sAt 0 n) : okt (1000 * (n : Int) + v) := by
  have hs := sAt0 n hn
  have e1 : (1000 * (n : Int) + v) / 1000 = (n : Int) := by omega
  have e2 : (1000 * (n : Int) + v) % 1000 = v := by omega
  have hn' : n = 0 ∨ n = 1 ∨ n = 2 ∨ n = 3 ∨ n = 4 ∨ n = 5 ∨ n = 6 ∨ n = 7 ∨ n = 8 ∨ n = 9 ∨ n = 10 ∨ n = 11 ∨ n = 12 ∨ n = 13 := by omega
  unfold okt
  rw [e1, e2]
  refine ⟨by omega, by omega, ?_⟩
  have tab : sAt 0 1 = 23 ∧ sAt 0 2 = 23 ∧ sAt 0 12 = 23 ∧ sAt 0 11 = 7 ∧ sAt 0 3 = 9 ∧ sAt 0 6 = 9 ∧ sAt 0 4 = 6 := by decide
  obtain ⟨t1, t2, t12, t11, t3, t6, t4⟩ := tab
  refine ⟨fun z => ?_, fun z => ?_, fun z => ?_, fun z => ?_⟩
  · have : n = 1 ∨ n = 2 ∨ n = 12 := by omega
    rcases this with e | e | e <;> subst e <;> omega
  · have : n = 11 := by omega
    subst this; omega
  · have : n = 3 ∨ n = 6 := by omega
    rcases this with e | e <;> subst e <;> omega
  · have : n = 4 := by omega
    subst this; omega
theorem call_token (h : RR b kc M C) {k v : Int} (hk : I32 k) (hv : I32 v) : CallE b kc C cd0 (fX11_token b k v C) (fX12_token k v M) := by
  have hL := h.1.1
  have W := hL.W
  have hz := hL.sz
  have ho := hL.o
  obtain ⟨dn, g, hd⟩ := h.2.1
  obtain ⟨d1, d2, d3, d4, d5⟩ := hd
  have hA := X11_isAmong_ (b := b) (C := C) (w := 0) (Or.inl rfl) hk hv
  rw [show (sLen 0 : Int) = 14 from rfl] at hA
  have bad : ¬ (0 ≤ k ∧ k < 14 ∧ 0 ≤ v ∧ v ≤ sAt 0 k.toNat) → fX12_token k v M = some (0, mSet M 36 1) := by
    intro hn
    unfold fX12_token
    rcases X12_in_ (x := k) (lo := 0) (hi := 13) M hk (by decide) (by decide) with ⟨e, p⟩ | ⟨e, p⟩
    · obtain ⟨n, rfl⟩ : ∃ n : Nat, k = (n : Int) := ⟨k.toNat, by omega⟩
      rcases X12_isValue_ (M := M) (n := n) (by omega) hv with ⟨e2, p2⟩ | ⟨e2, p2⟩
      · exact absurd ⟨p.1, by omega, p2.1, by rw [Int.toNat_natCast]; exact p2.2⟩ hn
      · rw [cal_of e, bnd_eq, bnd_eq, if_neg (by decide), cal_of e2, if_neg (fun z => z (by decide))]
        dsimp only
        rw [bnd_eq, mS1, if_neg (by decide)]
    · rw [cal_of e, bnd_eq, bnd_eq, if_pos (by decide)]
      dsimp only
      rw [bnd_eq, mS1, if_neg (by decide)]
  rcases hA with ⟨eX, p⟩ | ⟨eX, p⟩
  · obtain ⟨n, rfl⟩ : ∃ n : Nat, k = (n : Int) := ⟨k.toNat, by omega⟩
    rw [Int.toNat_natCast] at p
    have hn : n < 14 := by omega
    have hs := sAt0 n hn
    have sY : ∀ J : Int → Md → Option (Int × Md), fX12_token (n : Int) v M = (if ¬ w32 (M.1 1) = w32 30 then (fun (t0_37 : Int) (M_37 : Md) =>
bnd (mSet M_37 36 t0_37) fun (M3 : Md) =>
if w32 (M3.1 36) ≤ 0 then
if inR (M3.1 1) (mLen 0) then bnd (mPut M3 0 (ix (M3.1 1)) ((1000 * (n : Int)) + v)) fun (M4 : Md) =>
bnd (mSet M4 1 ((M4.1 1) + 1)) fun (M5 : Md) =>
some (M5.1 1, M5)
else none
else
some (0, M3)) 0 M else some (0, mSet M 36 2)) := by
      intro _
      unfold fX12_token
      rcases X12_in_ (x := (n : Int)) (lo := 0) (hi := 13) M hk (by decide) (by decide) with ⟨e, q⟩ | ⟨e, q⟩
      · rcases X12_isValue_ (M := M) (n := n) hn hv with ⟨e2, p2⟩ | ⟨e2, p2⟩
        · rw [cal_of e, bnd_eq, bnd_eq, if_neg (by decide), cal_of e2, if_pos (by decide)]
          rfl
        · exact absurd ⟨p.2.2.1, p.2.2.2⟩ p2
      · exact absurd ⟨by omega, by omega⟩ q
    have sY := sY (fun _ _ => none)
    by_cases c30 : dn = 30
    · refine h.exc (e := 1) (M' := mSet M 36 2) ?_ ?_ (sc36 M 2) (mS1 _ _ _) (by decide)
      · unfold fX11_token
        rw [if_pos ho, cal_of eX, if_pos (by decide), if_pos ho, bnd_eq, hL.r3, drf_some, if_pos d3.isO_, d3.sz, if_neg (by rw [c30]; decide)]
      · rw [sY, d1, c30, if_neg (fun z => z rfl)]
    · have hdn : dn < 30 := by omega
      obtain ⟨C', e1, v1, o1⟩ := X8_add_ (v := 1000 * (n : Int) + v) d3 hdn (by omega) (by omega)
      have f := o1.fp W
      have hX : fX11_token b (n : Int) v C = some (.inl ((dn : Int) + 1), C') := by
        unfold fX11_token
        rw [if_pos ho, cal_of eX, if_pos (by decide), if_pos ho, bnd_eq, hL.r3, drf_some, if_pos d3.isO_, d3.sz, if_pos (by rw [w32_n (by omega), show w32 30 = 30 from rfl]; omega), if_pos ho, bnd_eq, drf_some, if_pos d3.isO_, show (n : Int) * 1000 + v = 1000 * (n : Int) + v by omega, cal_of e1, if_pos (f.ob W ho), bnd_eq, (f.fR (by omega) (by unfold sTx; omega)).trans hL.r3, drf_some, if_pos v1.isO_, v1.sz]
        rfl
      have hY : fX12_token (n : Int) v M = some ((dn : Int) + 1, mSet (mPut (mSet M 36 0) 0 dn (1000 * (n : Int) + v)) 1 ((dn : Int) + 1)) := by
        have q1 : (mSet M 36 0).1 1 = (dn : Int) := (mS2 _ _ (by decide)).trans d1
        rw [sY, d1, if_pos (by rw [w32_n (by omega), show w32 30 = 30 from rfl]; omega)]
        dsimp only
        rw [bnd_eq, mS1, if_pos (by decide), q1, if_pos (inM (n := 30) rfl hdn (by decide)), bnd_eq, bnd_eq, ix_n (by omega)]
        have q2 : (mPut (mSet M 36 0) 0 dn (1000 * (n : Int) + v)).1 1 = (dn : Int) := q1
        rw [q2, mS1]
      have m1 : ∀ j, ¬ (j = 1 ∨ j = 36) → (mSet (mPut (mSet M 36 0) 0 dn (1000 * (n : Int) + v)) 1 ((dn : Int) + 1)).1 j = M.1 j := fun j a => (mS2 (mPut (mSet M 36 0) 0 dn (1000 * (n : Int) + v)) _ (by omega)).trans (mS2 M _ (by omega))
      have m2 : ∀ k, ¬ k = 0 → (mSet (mPut (mSet M 36 0) 0 dn (1000 * (n : Int) + v)) 1 ((dn : Int) + 1)).2 k = M.2 k := fun k a => mPut_ne (mSet M 36 0) _ _ a
      have r1 : (mSet (mPut (mSet M 36 0) 0 dn (1000 * (n : Int) + v)) 1 ((dn : Int) + 1)).1 1 = ((dn + 1 : Nat) : Int) := mS1 _ _ _
      have r2 : (mSet (mPut (mSet M 36 0) 0 dn (1000 * (n : Int) + v)) 1 ((dn : Int) + 1)).2 0 dn = 1000 * (n : Int) + v := p2_1 (mSet M 36 0) 0 dn _
      have r3 : ∀ k, k ≠ dn → (mSet (mPut (mSet M 36 0) 0 dn (1000 * (n : Int) + v)) 1 ((dn : Int) + 1)).2 0 k = M.2 0 k := fun k hk => p2_2 (k := 0) (k' := 0) (mSet M 36 0) _ (Or.inr hk)
      have r36 : (mSet (mPut (mSet M 36 0) 0 dn (1000 * (n : Int) + v)) 1 ((dn : Int) + 1)).1 36 = 0 := (mS2 (mPut (mSet M 36 0) 0 dn (1000 * (n : Int) + v)) _ (by decide)).trans (mS1 M 36 0)
      generalize mSet (mPut (mSet M 36 0) 0 dn (1000 * (n : Int) + v)) 1 ((dn : Int) + 1) = M2 at *
      have kRL : RLy b C' := h.1.low f (fun q k a _ z => by unfold sTx at z; unfold Mu; omega) (by unfold sTx; omega) (by unfold sTx; omega) (by unfold sTx; omega) (by unfold sTx; omega) (fun _ => by unfold sTx; omega) (by unfold sTx; omega) (by unfold sTx; omega) (fun _ => by unfold sTx; omega) (by unfold sTx; omega) (by unfold sTx; omega) (fun _ _ => by unfold sTx; omega) (fun _ _ _ => by unfold sTx; omega)
      have kRS : RS b M2 C' := h.2.2.1.low hL f (by unfold sTx; omega) (by unfold sTx; omega) (by unfold sTx; omega) (fun j hj => m1 j (by omega)) (Or.inl (m1 71 (by omega))) (Or.inl (m1 68 (by omega)))
      have kRB : RB (kc + 1) M2 := h.2.2.2.1.up1 (m1 5 (by omega)) (m1 13 (by omega)) (m1 22 (by omega))
      have kRT : ∀ t, t < 24 → RTi b M2 C' t := fun t ht => (h.2.2.2.2.1 t ht).low hL ht f (by unfold sTx; omega) (by unfold sTx; omega) (by unfold sTx; omega) (by unfold sTx; omega) (fun k hk => m2 k (by omega))
      have kRM : ∀ j, j < 4 → RMo b M2 C' j := fun j hj => (h.2.2.2.2.2.1 j hj).low hL hj f (by unfold sTx; omega) (by unfold sTx; omega) (by unfold sTx; omega) (fun k hk => m2 k (by omega))
      have kVS : VSame M M2 := ⟨fun j hj => m1 j (by omega), fun k hk => m2 k (by omega)⟩
      have kRK : ∀ nv, RK M nv → RK M2 nv := fun nv hk => hk.same kVS (m1 22 (by omega)) (fun k hk => m2 k (by omega))
      have kRG : RGs b M2 C' := h.2.2.2.2.2.2.2.low hL f (fun _ _ _ _ _ => by unfold sTx; omega) (fun _ _ => by unfold sTx; omega) (fun _ _ => by unfold sTx; omega) (fun _ _ => by unfold sTx; omega) (fun _ _ => by unfold sTx; omega) (fun k hk => m2 k (by omega))
      have hr : RR b (kc + 1) M2 C' := by
        refine h.part f (fun q k a z => by unfold sTx at z; omega) kRL ⟨dn + 1, _, r1, by omega, v1, fun k hk => ?_, fun k hk => ?_⟩ kRS kRB kRT kRM kVS (Int.le_of_eq (m1 5 (by omega)).symm) (by unfold sTx; omega) (fun _ _ => by unfold sTx; omega) kRK kRG
        · rcases Nat.lt_or_ge k dn with z | z
          · rw [cat_lt z]; exact d4 k z
          · have e : k = dn + 0 := by omega
            rw [e, cat_ge]; exact okt_of hn p.2.2.1 p.2.2.2
        · rcases Nat.lt_or_ge k dn with z | z
          · rw [cat_lt z, r3 k (by omega)]; exact d5 k z
          · have e : k = dn + 0 := by omega
            rw [e, cat_ge]; exact r2
      exact ⟨M2, C', _, hY, hr, RmL.of hz f (fun _ _ => by unfold sTx; omega) (by rw [o1.csz]; omega) (by rw [o1.csl]; omega), Or.inl ⟨hX, r36⟩⟩
  · refine h.exc (e := 0) (M' := mSet M 36 1) ?_ (bad p) (sc36 M 1) (mS1 _ _ _) (by decide)
    unfold fX11_token
    rw [if_pos ho, cal_of eX, if_neg (fun z => z (by decide))]
theorem X12_mayAt_ {t : Nat} (ht : t < 24) (h1 : 0 ≤ M.1 2 ∧ M.1 2 ≤ 2) (h2 : 0 ≤ M.2 3 t ∧ M.2 3 t ≤ 2) : BR (fX12_mayAt (t : Int) M) M (M.2 3 t ≤ M.1 2) := by
  unfold fX12_mayAt
  rw [if_pos (inM (n := 24) rfl ht (by decide)), bnd_eq, ix_n (by omega), w32_of (x := M.1 2) (by omega) (by omega), w32_of (x := M.2 3 t) (by omega) (by omega)]
  by_cases c : M.1 2 < M.2 3 t
  · rw [if_pos c]; exact Or.inr ⟨rfl, by omega⟩
  · rw [if_neg c]; exact Or.inl ⟨rfl, by omega⟩
theorem call_rank (h : RR b kc M C) {x y : Int} (hx : I32 x) (hy : I32 y) : CallE b kc C cd2 (fX11_rank b x y C) (fX12_rank x y M) := by
  have hL := h.1.1
  have W := hL.W
  have hz := hL.sz
  have ho := hL.o
  have wy : w32 y = y := w32_of hy.1 hy.2
  rcases X12_isTitle_ (x := x) M hx with ⟨e, p⟩ | ⟨e, p⟩
  · obtain ⟨t, rfl⟩ : ∃ t : Nat, x = (t : Int) := ⟨x.toNat, by omega⟩
    have ht : t < 24 := by omega
    rcases X12_in_ (x := y) (lo := 0) (hi := 99) M hy (by decide) (by decide) with ⟨e2, p2⟩ | ⟨e2, p2⟩
    · obtain ⟨⟨a1, a2⟩, ⟨a3, a4⟩, a5⟩ := h.2.2.2.2.1 t ht
      have hX : fX11_rank b (t : Int) y C = some (.inl (M.2 4 t), cSetI C 1205 (b + 13 + 6 * t) y) := by
        unfold fX11_rank
        rw [if_pos ho, calx_of (X11_titleOf_in hL ht), bnd_eq, wy, if_neg (by omega), if_pos (by rw [show w32 99 = 99 from rfl]; omega), drf_some, if_pos (hL.to ht), bnd_eq, if_pos (hL.to ht), bnd_eq, a3]
      have hY : fX12_rank (t : Int) y M = some (M.2 4 t, mPut (mSet M 36 0) 4 t y) := by
        unfold fX12_rank
        rw [cal_of e, bnd_eq, if_pos (by decide), cal_of e2, if_pos (by decide)]
        dsimp only
        rw [bnd_eq, mS1, if_pos (by decide), if_pos (inM (n := 24) rfl ht (by decide)), bnd_eq, if_pos (inM (n := 24) rfl ht (by decide)), bnd_eq, ix_n (by omega)]
        rfl
      have f : Fp (fun q k a => q = 0 ∧ k = 1205 ∧ a = b + 13 + 6 * t) C (cSetI C 1205 (b + 13 + 6 * t) y) := Fp.I W _ _ _ ⟨rfl, rfl, rfl⟩
      have m1 : ∀ j, ¬ (j = 36) → (mPut (mSet M 36 0) 4 t y).1 j = M.1 j := fun j a => mS2 M _ a
      have m2 : ∀ k, ¬ k = 4 → (mPut (mSet M 36 0) 4 t y).2 k = M.2 k := fun k a => mPut_ne (mSet M 36 0) _ _ a
      have r4 : ∀ s, (mPut (mSet M 36 0) 4 t y).2 4 s = if s = t then y else M.2 4 s := fun s => by
        by_cases c : s = t
        · rw [if_pos c, c]; exact p2_1 _ _ _ _
        · rw [if_neg c]; exact p2_2 (k := 4) (k' := 4) (mSet M 36 0) _ (Or.inr c)
      have r36 : (mPut (mSet M 36 0) 4 t y).1 36 = 0 := mS1 M 36 0
      generalize mPut (mSet M 36 0) 4 t y = M2 at *
      have kRL : RLy b (cSetI C 1205 (b + 13 + 6 * t) y) := h.1.low f (fun q k a _ z => by skip; unfold Mu; omega) (by skip; omega) (by skip; omega) (by skip; omega) (by skip; omega) (fun _ => by skip; omega) (by skip; omega) (by skip; omega) (fun _ => by skip; omega) (by skip; omega) (by skip; omega) (fun _ _ => by skip; omega) (fun _ _ _ => by skip; omega)
      have kRD : ∃ dn g, RD b M2 (cSetI C 1205 (b + 13 + 6 * t) y) dn g := by
        obtain ⟨dn, g, hd⟩ := h.2.1
        exact ⟨dn, g, hd.low W f (by skip; omega) (by skip; omega) (by skip; omega) (by skip; omega) (m1 1 (by omega)) (m2 0 (by omega))⟩
      have kRS : RS b M2 (cSetI C 1205 (b + 13 + 6 * t) y) := h.2.2.1.low hL f (by skip; omega) (by skip; omega) (by skip; omega) (fun j hj => m1 j (by omega)) (Or.inl (m1 71 (by omega))) (Or.inl (m1 68 (by omega)))
      have kRB : RB (kc + 1) M2 := h.2.2.2.1.up1 (m1 5 (by omega)) (m1 13 (by omega)) (m1 22 (by omega))
      have kRM : ∀ j, j < 4 → RMo b M2 (cSetI C 1205 (b + 13 + 6 * t) y) j := fun j hj => (h.2.2.2.2.2.1 j hj).low hL hj f (by skip; omega) (by skip; omega) (by skip; omega) (fun k hk => m2 k (by omega))
      have kVS : VSame M M2 := ⟨fun j hj => m1 j (by omega), fun k hk => m2 k (by omega)⟩
      have kRK : ∀ nv, RK M nv → RK M2 nv := fun nv hk => hk.same kVS (m1 22 (by omega)) (fun k hk => m2 k (by omega))
      have kRG : RGs b M2 (cSetI C 1205 (b + 13 + 6 * t) y) := h.2.2.2.2.2.2.2.low hL f (fun _ _ _ _ _ => by skip; omega) (fun _ _ => by skip; omega) (fun _ _ => by skip; omega) (fun _ _ => by skip; omega) (fun _ _ => by skip; omega) (fun k hk => m2 k (by omega))
      have hr : RR b (kc + 1) M2 (cSetI C 1205 (b + 13 + 6 * t) y) := by
        refine h.part f (fun q k a z => by have := z.2.2; omega) kRL kRD kRS kRB (fun s hs => ?_) kRM kVS (Int.le_of_eq (m1 5 (by omega)).symm) (by omega) (fun _ _ => by omega) kRK kRG
        obtain ⟨b1, b2, b3⟩ := h.2.2.2.2.1 s hs
        unfold RTi
        rw [m2 3 (by omega), m2 17 (by omega), m2 18 (by omega), r4, cI_I2 _ _ (Or.inl (by decide))]
        refine ⟨b1, ?_, b3⟩
        by_cases c : s = t
        · subst c
          rw [if_pos rfl]
          exact ⟨(cI_I1 _ _ _ _).symm, p2.1, p2.2⟩
        · rw [if_neg c, cI_I2 _ _ (Or.inr (by omega))]
          exact b2
      exact ⟨M2, _, _, hY, hr, RmL.of hz f (fun _ _ => by omega) (Nat.le_add_right _ _) (Nat.le_add_right _ _), Or.inl ⟨hX, r36⟩⟩
    · refine h.exc (e := 0) (M' := mSet M 36 2) ?_ ?_ (sc36 M 2) (mS1 _ _ _) (by decide)
      · unfold fX11_rank
        rw [if_pos ho, calx_of (X11_titleOf_in hL ht), bnd_eq, wy]
        by_cases c : y < 0
        · rw [if_pos c]
        · rw [if_neg c, if_neg (by rw [show w32 99 = 99 from rfl]; omega)]
      · unfold fX12_rank
        rw [cal_of e, bnd_eq, if_pos (by decide), cal_of e2, if_neg (fun z => z (by decide))]
        dsimp only
        rw [bnd_eq, mS1, if_neg (by decide)]
  · refine h.exc (e := 2) (M' := mSet M 36 1) ?_ ?_ (sc36 M 1) (mS1 _ _ _) (by decide)
    · unfold fX11_rank
      rw [if_pos ho, calx_ofx (X11_titleOf_out hL hx (by omega))]
    · unfold fX12_rank
      rw [cal_of e, bnd_eq, if_neg (fun z => z (by decide))]
      dsimp only
      rw [bnd_eq, mS1, if_neg (by decide)]
theorem call_protect (h : RR b kc M C) {x y : Int} (hx : I32 x) (hy : I32 y) : CallE b kc C cd1 (fX11_protect b x y C) (fX12_protect x y M) := by
  have hL := h.1.1
  have W := hL.W
  have hz := hL.sz
  have ho := hL.o
  have wy : w32 y = y := w32_of hy.1 hy.2
  obtain ⟨⟨s1, s2⟩, s3⟩ := h.2.2.1
  rcases X12_isTitle_ (x := x) M hx with ⟨e, p⟩ | ⟨e, p⟩
  · obtain ⟨t, rfl⟩ : ∃ t : Nat, x = (t : Int) := ⟨x.toNat, by omega⟩
    have ht : t < 24 := by omega
    obtain ⟨⟨a1, a2⟩, ⟨a3, a4⟩, a5⟩ := h.2.2.2.2.1 t ht
    rcases X12_in_ (x := y) (lo := 0) (hi := 2) M hy (by decide) (by decide) with ⟨e2, p2⟩ | ⟨e2, p2⟩
    · have eM := X11_mayActAt_ hL ht (r := M.1 2) (p := M.2 3 t) s1.symm a1.symm s2 a2
      have eR := X12_mayAt_ (M := M) ht s2 a2
      have c3 : cI C 1409 b = M.1 2 := s1.symm
      by_cases good : M.2 3 t ≤ M.1 2 ∧ y ≤ M.1 2
      · have hX : fX11_protect b (t : Int) y C = some (.inl (M.2 3 t), cSetI C 1204 (b + 13 + 6 * t) y) := by
          rcases eM with ⟨q, _⟩ | ⟨q, q2⟩
          · unfold fX11_protect
            rw [if_pos ho, calx_of (X11_titleOf_in hL ht), bnd_eq, wy, if_neg (by omega), if_pos (by rw [show w32 2 = 2 from rfl]; omega), if_pos ho, cal_of q, bnd_eq, if_neg (by decide), if_pos ho, c3, if_pos (by rw [w32_of (x := M.1 2) (by omega) (by omega)]; omega), drf_some, if_pos (hL.to ht), bnd_eq, if_pos (hL.to ht), bnd_eq, a1]
          · exact absurd good.1 q2
        have hY : fX12_protect (t : Int) y M = some (M.2 3 t, mPut (mSet M 36 0) 3 t y) := by
          rcases eR with ⟨q, _⟩ | ⟨q, q2⟩
          · unfold fX12_protect
            rw [cal_of e, bnd_eq, if_pos (by decide), cal_of e2, if_pos (by decide), cal_of q, bnd_eq, if_neg (by decide), if_pos (by rw [wy, w32_of (x := M.1 2) (by omega) (by omega)]; omega)]
            dsimp only
            rw [bnd_eq, mS1, if_pos (by decide), if_pos (inM (n := 24) rfl ht (by decide)), bnd_eq, if_pos (inM (n := 24) rfl ht (by decide)), bnd_eq, ix_n (by omega)]
            rfl
          · exact absurd good.1 q2
        have f : Fp (fun q k a => q = 0 ∧ k = 1204 ∧ a = b + 13 + 6 * t) C (cSetI C 1204 (b + 13 + 6 * t) y) := Fp.I W _ _ _ ⟨rfl, rfl, rfl⟩
        have m1 : ∀ j, ¬ (j = 36) → (mPut (mSet M 36 0) 3 t y).1 j = M.1 j := fun j a => mS2 M _ a
        have m2 : ∀ k, ¬ k = 3 → (mPut (mSet M 36 0) 3 t y).2 k = M.2 k := fun k a => mPut_ne (mSet M 36 0) _ _ a
        have r4 : ∀ s, (mPut (mSet M 36 0) 3 t y).2 3 s = if s = t then y else M.2 3 s := fun s => by
          by_cases c : s = t
          · rw [if_pos c, c]; exact p2_1 _ _ _ _
          · rw [if_neg c]; exact p2_2 (k := 3) (k' := 3) (mSet M 36 0) _ (Or.inr c)
        have r36 : (mPut (mSet M 36 0) 3 t y).1 36 = 0 := mS1 M 36 0
        generalize mPut (mSet M 36 0) 3 t y = M2 at *
        have kRL : RLy b (cSetI C 1204 (b + 13 + 6 * t) y) := h.1.low f (fun q k a _ z => by skip; unfold Mu; omega) (by skip; omega) (by skip; omega) (by skip; omega) (by skip; omega) (fun _ => by skip; omega) (by skip; omega) (by skip; omega) (fun _ => by skip; omega) (by skip; omega) (by skip; omega) (fun _ _ => by skip; omega) (fun _ _ _ => by skip; omega)
        have kRD : ∃ dn g, RD b M2 (cSetI C 1204 (b + 13 + 6 * t) y) dn g := by
          obtain ⟨dn, g, hd⟩ := h.2.1
          exact ⟨dn, g, hd.low W f (by skip; omega) (by skip; omega) (by skip; omega) (by skip; omega) (m1 1 (by omega)) (m2 0 (by omega))⟩
        have kRS : RS b M2 (cSetI C 1204 (b + 13 + 6 * t) y) := h.2.2.1.low hL f (by skip; omega) (by skip; omega) (by skip; omega) (fun j hj => m1 j (by omega)) (Or.inl (m1 71 (by omega))) (Or.inl (m1 68 (by omega)))
        have kRB : RB (kc + 1) M2 := h.2.2.2.1.up1 (m1 5 (by omega)) (m1 13 (by omega)) (m1 22 (by omega))
        have kRM : ∀ j, j < 4 → RMo b M2 (cSetI C 1204 (b + 13 + 6 * t) y) j := fun j hj => (h.2.2.2.2.2.1 j hj).low hL hj f (by skip; omega) (by skip; omega) (by skip; omega) (fun k hk => m2 k (by omega))
        have kVS : VSame M M2 := ⟨fun j hj => m1 j (by omega), fun k hk => m2 k (by omega)⟩
        have kRK : ∀ nv, RK M nv → RK M2 nv := fun nv hk => hk.same kVS (m1 22 (by omega)) (fun k hk => m2 k (by omega))
        have kRG : RGs b M2 (cSetI C 1204 (b + 13 + 6 * t) y) := h.2.2.2.2.2.2.2.low hL f (fun _ _ _ _ _ => by skip; omega) (fun _ _ => by skip; omega) (fun _ _ => by skip; omega) (fun _ _ => by skip; omega) (fun _ _ => by skip; omega) (fun k hk => m2 k (by omega))
        have hr : RR b (kc + 1) M2 (cSetI C 1204 (b + 13 + 6 * t) y) := by
          refine h.part f (fun q k a z => by have := z.2.2; omega) kRL kRD kRS kRB (fun s hs => ?_) kRM kVS (Int.le_of_eq (m1 5 (by omega)).symm) (by omega) (fun _ _ => by omega) kRK kRG
          obtain ⟨b1, b2, b3⟩ := h.2.2.2.2.1 s hs
          unfold RTi
          rw [m2 4 (by omega), m2 17 (by omega), m2 18 (by omega), r4, cI_I2 (k' := 1205) _ _ (Or.inl (by decide))]
          refine ⟨?_, b2, b3⟩
          by_cases c : s = t
          · subst c
            rw [if_pos rfl]
            exact ⟨(cI_I1 _ _ _ _).symm, p2.1, p2.2⟩
          · rw [if_neg c, cI_I2 _ _ (Or.inr (by omega))]
            exact b1
        exact ⟨M2, _, _, hY, hr, RmL.of hz f (fun _ _ => by omega) (Nat.le_add_right _ _) (Nat.le_add_right _ _), Or.inl ⟨hX, r36⟩⟩
      · refine h.exc (e := 1) (M' := mSet M 36 3) ?_ ?_ (sc36 M 3) (mS1 _ _ _) (by decide)
        · unfold fX11_protect
          rcases eM with ⟨q, q2⟩ | ⟨q, q2⟩
          · rw [if_pos ho, calx_of (X11_titleOf_in hL ht), bnd_eq, wy, if_neg (by omega), if_pos (by rw [show w32 2 = 2 from rfl]; omega), if_pos ho, cal_of q, bnd_eq, if_neg (by decide), if_pos ho, c3, if_neg (by rw [w32_of (x := M.1 2) (by omega) (by omega)]; omega)]
          · rw [if_pos ho, calx_of (X11_titleOf_in hL ht), bnd_eq, wy, if_neg (by omega), if_pos (by rw [show w32 2 = 2 from rfl]; omega), if_pos ho, cal_of q, bnd_eq, if_pos (by decide)]
        · unfold fX12_protect
          rcases eR with ⟨q, q2⟩ | ⟨q, q2⟩
          · rw [cal_of e, bnd_eq, if_pos (by decide), cal_of e2, if_pos (by decide), cal_of q, bnd_eq, if_neg (by decide), if_neg (by rw [wy, w32_of (x := M.1 2) (by omega) (by omega)]; omega)]
            dsimp only
            rw [bnd_eq, mS1, if_neg (by decide)]
          · rw [cal_of e, bnd_eq, if_pos (by decide), cal_of e2, if_pos (by decide), cal_of q, bnd_eq, if_pos (by decide)]
            dsimp only
            rw [bnd_eq, mS1, if_neg (by decide)]
    · refine h.exc (e := 0) (M' := mSet M 36 2) ?_ ?_ (sc36 M 2) (mS1 _ _ _) (by decide)
      · unfold fX11_protect
        rw [if_pos ho, calx_of (X11_titleOf_in hL ht), bnd_eq, wy]
        by_cases c : y < 0
        · rw [if_pos c]
        · rw [if_neg c, if_neg (by rw [show w32 2 = 2 from rfl]; omega)]
      · unfold fX12_protect
        rw [cal_of e, bnd_eq, if_pos (by decide), cal_of e2, if_neg (fun z => z (by decide))]
        dsimp only
        rw [bnd_eq, mS1, if_neg (by decide)]
  · refine h.exc (e := 2) (M' := mSet M 36 1) ?_ ?_ (sc36 M 1) (mS1 _ _ _) (by decide)
    · unfold fX11_protect
      rw [if_pos ho, calx_ofx (X11_titleOf_out hL hx (by omega))]
    · unfold fX12_protect
      rw [cal_of e, bnd_eq, if_neg (fun z => z (by decide))]
      dsimp only
      rw [bnd_eq, mS1, if_neg (by decide)]
end CAL3
