/-! THE LAW'S RENDERING: a token comes; what a macro gives -/
def digF (acc : List Int) : Int := acc.foldl (fun (x y : Int) => x * 1000003 + w32 y + 17) 1
theorem digF_snoc (acc : List Int) (y : Int) : digF (acc ++ [y]) = digF acc * 1000003 + w32 y + 17 := by
  unfold digF
  rw [List.foldl_append]
  rfl
def ZR (kz w c : Nat) (E : Rw) (A : MSt) : Prop := (E kz 0 = (A.2.2.1 : Int) ∧ A.2.2.1 < 256) ∧ (E kz 1 = (A.2.2.2.2.1 : Int) ∧ A.2.2.2.2.1 < 256) ∧ (E kz 2 = (A.2.2.2.1 : Int) ∧ A.2.2.2.1 < 256) ∧ (E kz 3 = (A.2.2.2.2.2 : Int) ∧ A.2.2.2.2.2 < 256) ∧ (E kz 4 = (c : Int) ∧ A.1.length = min c 150) ∧ (E kz 5 = (A.2.1 : Int) ∧ A.2.1 ≤ 40) ∧ E kz 6 = (w : Int) ∧ E kz 7 = (if w < A.1.length then A.1.getD w 0 else -1)
/-- the surroundings are the law's rows' -/
def LEn (N : Nat) (G : Md) (T : Nat → List Nat) (En : Env) : Prop := (∀ t, t < 8 → eSn En t = prAt G N t) ∧ eTx En = tx G ∧ (∀ v, v < N → eTl En v = (tks (T v)).length) ∧ ∀ c, c < 8 → eMb En c = bitsN (fun t => (ctF G t).testBit c) 8
def LRw (N : Nat) (G : Md) (T : Nat → List Nat) (E : Rw) : Prop := WV N E G ∧ WP E G ∧ WT T N E G ∧ WGs E G ∧ WK E G
theorem LRw.row {N : Nat} {E E' : Rw} {G : Md} {T : Nat → List Nat} (h : LRw N G T E) (e : ∀ k, k ≤ 9 → E' k = E k) : LRw N G T E' := ⟨h.1.row (fun k hk => e k (by omega)), h.2.1.row (e 1 (by decide)), h.2.2.1.row (e 3 (by decide)), h.2.2.2.1.row (e 6 (by decide)), h.2.2.2.2.row (e 0 (by decide)) (e 4 (by decide)) (e 5 (by decide)) (e 6 (by decide)) (e 8 (by decide))⟩
section GIV
variable {N kz w c n : Nat} {E : Rw} {G : Md} {T : Nat → List Nat} {En : Env} {A : MSt}
theorem inZ {i : Nat} (hz : kz = 10 ∨ kz = 11) (hi : i < 8) : inR (i : Int) (wLen kz) := inWn 8 (wLz hz) hi (by decide)
theorem W_comes (hz : kz = 10 ∨ kz = 11) (h : ZR kz w c E A) (hw : w < 150) (hc : c < 100000) (y : Int) : ∃ E', fW_comes kz (digF A.1) y E = some (digF (apl A.1 y), E') ∧ ZR kz w (c + 1) E' (apl A.1 y, A.2) ∧ ∀ k, k ≠ kz → E' k = E k := by
  obtain ⟨h0, h1, h2, h3, ⟨h4, h4l⟩, h5, h6, h7⟩ := h
  have i4 : inR 4 (wLen kz) := inZ (i := 4) hz (by decide)
  have i6 : inR 6 (wLen kz) := inZ (i := 6) hz (by decide)
  have i7 : inR 7 (wLen kz) := inZ (i := 7) hz (by decide)
  unfold fW_comes
  rw [if_pos i4, if_pos i4, show ix 4 = 4 from rfl, h4, bnd_eq, if_pos i4, if_pos i6, show ix 6 = 6 from rfl, show ix 7 = 7 from rfl, bnd_eq]
  have e4 : wPut E kz 4 ((c : Int) + 1) kz 4 = ((c + 1 : Nat) : Int) := by rw [wP1]; omega
  have e6 : wPut E kz 4 ((c : Int) + 1) kz 6 = (w : Int) := by rw [wP2 _ _ (by omega)]; exact h6
  have e7 : wPut E kz 4 ((c : Int) + 1) kz 7 = E kz 7 := wP2 _ _ (by omega)
  -- what stands in row 7 behind it
  have z7 : (if c = w then y else E kz 7) = (if w < (apl A.1 y).length then (apl A.1 y).getD w 0 else -1) := by
    by_cases d : c < 150
    · have l : A.1.length = c := by omega
      have ea : apl A.1 y = A.1 ++ [y] := by unfold apl; rw [if_pos (by omega)]
      rw [ea, List.length_append, List.length_singleton, l]
      by_cases e : c = w
      · subst e
        rw [if_pos rfl, if_pos (by omega), List.getD_eq_getElem?_getD, List.getElem?_append_right (by omega), l, Nat.sub_self]
        rfl
      · rw [if_neg e, h7, l]
        by_cases k : w < c
        · rw [if_pos k, if_pos (by omega), List.getD_eq_getElem?_getD, List.getD_eq_getElem?_getD, List.getElem?_append_left (by omega)]
        · rw [if_neg k, if_neg (by omega)]
    · have ea : apl A.1 y = A.1 := by unfold apl; rw [if_neg (by omega)]
      rw [ea, if_neg (show ¬ c = w by omega), h7]
  have J30 : ∀ t0 : Int, t0 = (if c = w then y else E kz 7) → ∃ E', (bnd (wPut (wPut E kz 4 ((c : Int) + 1)) kz 7 t0) fun (E2 : Rw) =>
      if inR 4 (wLen kz) then
      bnd (fun (t0_56 : Int) (E_56 : Rw) => (some (t0_56, E_56) : Option (Int × Rw))) fun J56 =>
      if w32 (E2 kz 4) ≤ w32 150 then
      J56 (((digF A.1 * 1000003) + (w32 y)) + 17) E2
      else
      J56 (digF A.1) E2
      else none) = some (digF (apl A.1 y), E') ∧ ZR kz w (c + 1) E' (apl A.1 y, A.2) ∧ ∀ k, k ≠ kz → E' k = E k := by
    intro t0 ht
    refine ⟨wPut (wPut E kz 4 ((c : Int) + 1)) kz 7 t0, ?_, ⟨?_, ?_, ?_, ?_, ⟨?_, ?_⟩, ?_, ?_, ?_⟩, fun k hk => ?_⟩
    · rw [bnd_eq, if_pos i4, bnd_eq, wP2 _ _ (by omega), e4, w32_n (by omega), show w32 150 = 150 from rfl]
      unfold apl
      by_cases d : c < 150
      · rw [if_pos (by omega), if_pos (by omega), digF_snoc]
      · rw [if_neg (by omega), if_neg (by omega)]
    · rw [wP2 _ _ (by omega), wP2 _ _ (by omega)]; exact h0
    · rw [wP2 _ _ (by omega), wP2 _ _ (by omega)]; exact h1
    · rw [wP2 _ _ (by omega), wP2 _ _ (by omega)]; exact h2
    · rw [wP2 _ _ (by omega), wP2 _ _ (by omega)]; exact h3
    · rw [wP2 _ _ (by omega)]; exact e4
    · show (apl A.1 y).length = _
      unfold apl
      by_cases d : c < 150
      · rw [if_pos (by omega), List.length_append, List.length_singleton]; omega
      · rw [if_neg (by omega)]; omega
    · rw [wP2 _ _ (by omega), wP2 _ _ (by omega)]; exact h5
    · rw [wP2 _ _ (by omega)]; exact e6
    · rw [wP1, ht]; exact z7
    · rw [wPk _ _ hk, wPk _ _ hk]
  rw [e4, e6, show (w : Int) + 1 = ((w + 1 : Nat) : Int) by omega, w32_n (by omega), w32_n (by omega)]
  by_cases d : c = w
  · rw [if_neg (by omega)]
    dsimp only
    rw [if_pos i7]
    exact J30 y (by rw [if_pos d])
  · rw [if_pos (by omega), if_pos i7, e7]
    dsimp only
    rw [if_pos i7]
    exact J30 (E kz 7) (by rw [if_neg d])
/-- a bit more in a set -/
theorem ZR.bit (h : ZR kz w c E A) {j a s : Nat} (hj : j < 4) (ha : a < 8) (hs : E kz j = (s : Int)) (hs2 : s < 256) : orI (E kz j) (shlI 1 (a : Int)) = ((s ||| 2 ^ a : Nat) : Int) ∧ s ||| 2 ^ a < 256 := by
  have p2 : (2 : Nat) ^ a < 256 := by
    have := Nat.pow_lt_pow_right (show 1 < 2 by decide) ha
    omega
  refine ⟨?_, Nat.or_lt_two_pow (n := 8) (by omega) (by omega)⟩
  rw [hs, two_N (by omega), orI_N (by omega) (by omega)]
theorem ZR.lk (h : ZR kz w c E A) {x : Nat} (hx : x < 256) : ZR kz w c (wPut E kz 0 (x : Int)) (A.1, A.2.1, x, A.2.2.2) := by
  obtain ⟨h0, h1, h2, h3, h4, h5, h6, h7⟩ := h
  exact ⟨⟨wP1 _ _ _ _, hx⟩, by rw [wP2 _ _ (by omega)]; exact h1, by rw [wP2 _ _ (by omega)]; exact h2, by rw [wP2 _ _ (by omega)]; exact h3, by rw [wP2 _ _ (by omega)]; exact h4, by rw [wP2 _ _ (by omega)]; exact h5, by rw [wP2 _ _ (by omega)]; exact h6, by rw [wP2 _ _ (by omega)]; exact h7⟩
theorem ZR.rd (h : ZR kz w c E A) {x : Nat} (hx : x < 256) : ZR kz w c (wPut E kz 1 (x : Int)) (A.1, A.2.1, A.2.2.1, A.2.2.2.1, x, A.2.2.2.2.2) := by
  obtain ⟨h0, h1, h2, h3, h4, h5, h6, h7⟩ := h
  exact ⟨by rw [wP2 _ _ (by omega)]; exact h0, ⟨wP1 _ _ _ _, hx⟩, by rw [wP2 _ _ (by omega)]; exact h2, by rw [wP2 _ _ (by omega)]; exact h3, by rw [wP2 _ _ (by omega)]; exact h4, by rw [wP2 _ _ (by omega)]; exact h5, by rw [wP2 _ _ (by omega)]; exact h6, by rw [wP2 _ _ (by omega)]; exact h7⟩
theorem ZR.ct (h : ZR kz w c E A) {x : Nat} (hx : x < 256) : ZR kz w c (wPut E kz 2 (x : Int)) (A.1, A.2.1, A.2.2.1, x, A.2.2.2.2) := by
  obtain ⟨h0, h1, h2, h3, h4, h5, h6, h7⟩ := h
  exact ⟨by rw [wP2 _ _ (by omega)]; exact h0, by rw [wP2 _ _ (by omega)]; exact h1, ⟨wP1 _ _ _ _, hx⟩, by rw [wP2 _ _ (by omega)]; exact h3, by rw [wP2 _ _ (by omega)]; exact h4, by rw [wP2 _ _ (by omega)]; exact h5, by rw [wP2 _ _ (by omega)]; exact h6, by rw [wP2 _ _ (by omega)]; exact h7⟩
theorem ZR.cd (h : ZR kz w c E A) {x : Nat} (hx : x < 256) : ZR kz w c (wPut E kz 3 (x : Int)) (A.1, A.2.1, A.2.2.1, A.2.2.2.1, A.2.2.2.2.1, x) := by
  obtain ⟨h0, h1, h2, h3, h4, h5, h6, h7⟩ := h
  exact ⟨by rw [wP2 _ _ (by omega)]; exact h0, by rw [wP2 _ _ (by omega)]; exact h1, by rw [wP2 _ _ (by omega)]; exact h2, ⟨wP1 _ _ _ _, hx⟩, by rw [wP2 _ _ (by omega)]; exact h4, by rw [wP2 _ _ (by omega)]; exact h5, by rw [wP2 _ _ (by omega)]; exact h6, by rw [wP2 _ _ (by omega)]; exact h7⟩
theorem ZR.ca (h : ZR kz w c E A) {x : Nat} (hx : x ≤ 40) : ZR kz w c (wPut E kz 5 (x : Int)) (A.1, x, A.2.2) := by
  obtain ⟨h0, h1, h2, h3, h4, h5, h6, h7⟩ := h
  exact ⟨by rw [wP2 _ _ (by omega)]; exact h0, by rw [wP2 _ _ (by omega)]; exact h1, by rw [wP2 _ _ (by omega)]; exact h2, by rw [wP2 _ _ (by omega)]; exact h3, by rw [wP2 _ _ (by omega)]; exact h4, ⟨wP1 _ _ _ _, hx⟩, by rw [wP2 _ _ (by omega)]; exact h6, by rw [wP2 _ _ (by omega)]; exact h7⟩
/-- other rows don't matter -/
theorem ZR.row {E' : Rw} (h : ZR kz w c E A) (e : E' kz = E kz) : ZR kz w c E' A := by
  unfold ZR at h ⊢
  rw [e]
  exact h
theorem lsA_hi {S : Nat} (hS : S < 256) : ∀ (m i : Nat) (acc : List Int), 8 ≤ i → lsA S m i acc = acc := by
  intro m
  induction m with
  | zero => intro i acc _; rfl
  | succ m ih =>
    intro i acc hi
    rw [lsA, testBit_hi hS hi, if_neg (by decide)]
    exact ih (i + 1) acc (by omega)
theorem bits8 {S : Nat} (hS : S < 256) : bitsN (fun i => S.testBit i) 8 = S := by
  refine Nat.eq_of_testBit_eq (fun i => ?_)
  rw [bitsN_bit]
  by_cases c : i < 8
  · rw [decide_eq_true c, Bool.true_and]
  · rw [decide_eq_false c, Bool.false_and, testBit_hi hS (by omega)]
theorem bits_lt8 (f : Nat → Bool) {n : Nat} (h : n ≤ 8) : bitsN f n < 256 := Nat.lt_of_lt_of_le (bitsN_lt f n) (show 2 ^ n ≤ 2 ^ 8 from Nat.pow_le_pow_right (by decide) h)
/-- a plain macro -/
theorem W_gives (hz : kz = 10 ∨ kz = 11) (hL : LRw N G T E) (hE : LEn N G T En) (h : ZR kz w c E A) (hw : w < 150) (hc : c < 90000) {kd v d : Nat} (hn : n + d = 6) (hk : kd ≤ 10) (h2 : kd ≠ 2) (hv : v < 60) (hv8 : kd ≠ 0 → kd ≠ 8 → kd ≠ 9 → v < 8) (rec : List Nat → List Nat → MSt → MSt) (ts : List Nat) :
    ∃ E' c', fW_gives kz (digF A.1) (kd : Int) (v : Int) (d : Int) E = some (digF (mSK En T n rec ts A kd v).1, E') ∧ c' ≤ c + 8 ∧ ZR kz w c' E' (mSK En T n rec ts A kd v) ∧ ∀ k, k ≠ kz → E' k = E k := by
  obtain ⟨hS, hX, hTl, hM⟩ := hE
  have come : ∀ (y : Int) (E1 : Rw) (A1 : MSt), ZR kz w c E1 A1 → (∀ k, k ≠ kz → E1 k = E k) → ∃ E' c', (cal1 (fW_comes kz (digF A1.1) y E1) fun (r1 : Int) (E2 : Rw) => (some (r1, E2) : Option (Int × Rw))) = some (digF (apl A1.1 y), E') ∧ c' ≤ c + 8 ∧ ZR kz w c' E' (apl A1.1 y, A1.2) ∧ ∀ k, k ≠ kz → E' k = E k := by
    intro y E1 A1 hh he
    obtain ⟨E', q1, q2, q3⟩ := W_comes hz hh hw (by omega) y
    exact ⟨E', c + 1, by rw [cal1_of q1], by omega, q2, fun k hk => (q3 k hk).trans (he k hk)⟩
  have iz : ∀ i : Nat, i < 8 → inR (i : Int) (wLen kz) := fun i hi => inZ hz hi
  have i0 : inR 0 (wLen kz) := iz 0 (by decide)
  have i1 : inR 1 (wLen kz) := iz 1 (by decide)
  have i2 : inR 2 (wLen kz) := iz 2 (by decide)
  have i3 : inR 3 (wLen kz) := iz 3 (by decide)
  have wd : w32 (d : Int) = (d : Int) := w32_n (by omega)
  have h00 := h
  obtain ⟨⟨z0, y0⟩, ⟨z1, y1⟩, ⟨z2, y2⟩, ⟨z3, y3⟩, -⟩ := h00
  unfold fW_gives fW_gives_259 fW_gives_33
  rw [bnd_eq, bnd_eq]
  dsimp only
  rcases (show kd = 0 ∨ kd = 1 ∨ kd = 3 ∨ kd = 4 ∨ kd = 5 ∨ kd = 6 ∨ kd = 7 ∨ kd = 8 ∨ kd = 9 ∨ kd = 10 by omega) with a | a | a | a | a | a | a | a | a | a
  · subst a
    rw [if_pos (by decide)]
    exact come (v : Int) E A h (fun _ _ => rfl)
  · have v8 : v < 8 := hv8 (by omega) (by omega) (by omega)
    subst a
    obtain ⟨b1, b2⟩ := h.bit (j := 0) (a := v) (by decide) v8 z0 y0
    rw [if_neg (by decide), bnd_eq, if_pos (by decide)]
    unfold fW_gives_21 fW_gives_47 fW_gives_60
    dsimp only
    rw [bnd_eq]; (try dsimp only); rw [if_pos (by decide)]; (try dsimp only); rw [bnd_eq]; (try dsimp only); rw [if_pos (by decide)]; (try dsimp only); rw [if_pos i0, if_pos i0, show ix 0 = 0 from rfl, b1, bnd_eq]
    exact come (1000 + (v : Int)) _ _ (h.lk b2) (fun k hk => wPk _ _ hk)
  · have v8 : v < 8 := hv8 (by omega) (by omega) (by omega)
    subst a
    obtain ⟨b1, b2⟩ := h.bit (j := 2) (a := v) (by decide) v8 z2 y2
    rw [if_neg (by decide), bnd_eq, if_pos (by decide)]
    unfold fW_gives_21 fW_gives_47
    dsimp only
    rw [bnd_eq]; (try dsimp only); rw [if_pos (by decide)]; (try dsimp only); rw [bnd_eq]; (try dsimp only); rw [if_neg (by decide)]; (try dsimp only); rw [if_pos (by decide)]; (try dsimp only); rw [if_neg (by decide)]; (try dsimp only); rw [if_pos i2, if_pos i2, show ix 2 = 2 from rfl, b1, bnd_eq]
    exact ⟨_, c, rfl, by omega, h.ct b2, fun k hk => wPk _ _ hk⟩
  · subst a
    rw [if_neg (by decide), bnd_eq, if_pos (by decide)]
    unfold fW_gives_21 fW_gives_47
    dsimp only
    rw [bnd_eq]; (try dsimp only); rw [if_pos (by decide)]; (try dsimp only); rw [bnd_eq]; (try dsimp only); rw [if_neg (by decide)]; (try dsimp only); rw [if_pos (by decide)]; (try dsimp only); rw [if_pos (by decide)]; (try dsimp only); rw [bnd_eq]; (try dsimp only); rw [if_neg (by decide)]; (try dsimp only); rw [if_pos (by decide)]; (try dsimp only); rw [if_pos (by decide)]
    exact ⟨E, c, rfl, by omega, h, fun _ _ => rfl⟩
  · have v8 : v < 8 := hv8 (by omega) (by omega) (by omega)
    subst a
    obtain ⟨b1, b2⟩ := h.bit (j := 3) (a := v) (by decide) v8 z3 y3
    have hm := W_members (hL.row (E' := wPut E kz 3 ((A.2.2.2.2.2 ||| 2 ^ v : Nat) : Int)) (fun k hk => wPk _ _ (zs hz (Or.inl hk)))).2.2.2.1 (hL.row (E' := wPut E kz 3 ((A.2.2.2.2.2 ||| 2 ^ v : Nat) : Int)) (fun k hk => wPk _ _ (zs hz (Or.inl hk)))).2.2.2.2 v8
    rw [← hM v v8] at hm
    have lt := bits_lt8 (fun t => (ctF G t).testBit v) (Nat.le_refl 8)
    rw [← hM v v8] at lt
    obtain ⟨E', q1, q2, q3⟩ := W_comes hz (h.cd b2) hw (by omega) (nBits (eMb En v) 32 : Int)
    rw [if_neg (by decide), bnd_eq, if_pos (by decide)]
    unfold fW_gives_21 fW_gives_47 fW_gives_122
    dsimp only
    rw [bnd_eq]; (try dsimp only); rw [if_pos (by decide)]; (try dsimp only); rw [bnd_eq]; (try dsimp only); rw [if_neg (by decide)]; (try dsimp only); rw [if_pos (by decide)]; (try dsimp only); rw [if_pos (by decide)]; (try dsimp only); rw [bnd_eq]; (try dsimp only); rw [if_pos (by decide)]; (try dsimp only); rw [if_pos i3, if_pos i3, show ix 3 = 3 from rfl, b1, bnd_eq]; (try dsimp only); rw [cal1_of hm, if_neg (by decide)]; (try dsimp only); rw [cal1_of (W_many (by omega)), cal1_of q1]
    exact ⟨E', c + 1, rfl, by omega, q2, fun k hk => (q3 k hk).trans (wPk _ _ hk)⟩
  · have v8 : v < 8 := hv8 (by omega) (by omega) (by omega)
    subst a
    obtain ⟨b1, b2⟩ := h.bit (j := 3) (a := v) (by decide) v8 z3 y3
    have hm := W_members (hL.row (E' := wPut E kz 3 ((A.2.2.2.2.2 ||| 2 ^ v : Nat) : Int)) (fun k hk => wPk _ _ (zs hz (Or.inl hk)))).2.2.2.1 (hL.row (E' := wPut E kz 3 ((A.2.2.2.2.2 ||| 2 ^ v : Nat) : Int)) (fun k hk => wPk _ _ (zs hz (Or.inl hk)))).2.2.2.2 v8
    rw [← hM v v8] at hm
    have lt := bits_lt8 (fun t => (ctF G t).testBit v) (Nat.le_refl 8)
    rw [← hM v v8] at lt
    rw [if_neg (by decide), bnd_eq, if_pos (by decide)]
    unfold fW_gives_21 fW_gives_47 fW_gives_122
    dsimp only
    rw [bnd_eq]; (try dsimp only); rw [if_pos (by decide)]; (try dsimp only); rw [bnd_eq]; (try dsimp only); rw [if_neg (by decide)]; (try dsimp only); rw [if_pos (by decide)]; (try dsimp only); rw [if_pos (by decide)]; (try dsimp only); rw [bnd_eq]; (try dsimp only); rw [if_neg (by decide)]; (try dsimp only); rw [if_neg (by decide)]; (try dsimp only); rw [if_pos i3, if_pos i3, show ix 3 = 3 from rfl, b1, bnd_eq]; (try dsimp only); rw [cal1_of hm, if_pos (by decide)]; (try dsimp only); rw [bnd_eq]
    have goal : mSK En T n rec ts A 6 v = (lsA (eMb En v) 24 0 A.1, A.2.1, A.2.2.1 ||| eMb En v, A.2.2.2.1, A.2.2.2.2.1, A.2.2.2.2.2 ||| 2 ^ v) := rfl
    rw [goal]
    generalize eMb En v = S at *
    have h3 := h.cd b2
    generalize hE3 : wPut E kz 3 ((A.2.2.2.2.2 ||| 2 ^ v : Nat) : Int) = E3 at *
    have k3 : ∀ k, k ≠ kz → E3 k = E k := fun k hk => by rw [← hE3]; exact wPk _ _ hk
    refine lpn_rule (P := fun mm (L : Int → Int → Rw → Option (Int × Rw)) => ∀ (acc : List Int) (E4 : Rw) (i c4 : Nat), i ≤ 8 → 8 - i < mm → c4 ≤ c + i → lsA S (24 - i) i acc = lsA S 24 0 A.1 → ZR kz w c4 E4 (acc, A.2.1, A.2.2.1 ||| bitsN (fun t => S.testBit t) i, A.2.2.2.1, A.2.2.2.2.1, A.2.2.2.2.2 ||| 2 ^ v) → (∀ k, k ≠ kz → E4 k = E k) → ∃ E' c', L (digF acc) (i : Int) E4 = some (digF (lsA S 24 0 A.1), E') ∧ c' ≤ c + 8 ∧ ZR kz w c' E' (lsA S 24 0 A.1, A.2.1, A.2.2.1 ||| S, A.2.2.2.1, A.2.2.2.2.1, A.2.2.2.2.2 ||| 2 ^ v) ∧ ∀ k, k ≠ kz → E' k = E k) (fun acc E4 i c4 _ h => absurd h (Nat.not_lt_zero _)) (fun mm L hLL acc E4 i c4 hi hm hc4 hacc hZ hk4 => ?_) FU A.1 E3 0 c (by decide) (by unfold FU; omega) (by omega) rfl (by rw [show A.2.2.1 ||| bitsN (fun t => S.testBit t) 0 = A.2.2.1 from Nat.or_zero _]; exact h3) k3
    unfold fW_gives_163 fW_gives_207
    rcases Nat.lt_or_ge i 8 with hlt | hge
    · rw [if_neg (by rw [show w32 8 = 8 from rfl, w32_n (by omega)]; omega), bnd_eq]
      have st : lsA S (24 - (i + 1)) (i + 1) (if S.testBit i = true then apl acc (1000 + (i : Int)) else acc) = lsA S 24 0 A.1 := by
        rw [← hacc, show 24 - i = (24 - (i + 1)) + 1 by omega, lsA]
      by_cases b : S.testBit i = true
      · rw [if_pos b] at st
        obtain ⟨x0, t0⟩ := hZ.1
        obtain ⟨c1, c2⟩ := hZ.bit (j := 0) (a := i) (by decide) hlt x0 t0
        obtain ⟨E5, q1, q2, q3⟩ := W_comes hz (hZ.lk c2) hw (by omega) (1000 + (i : Int))
        have hb : bitsN (fun t => S.testBit t) (i + 1) = bitsN (fun t => S.testBit t) i ||| 2 ^ i := by rw [bitsN, if_pos b]
        have z := hLL _ E5 (i + 1) (c4 + 1) (by omega) (by omega) (by omega) st (by rw [hb, ← Nat.or_assoc]; exact q2) (fun k hk => (q3 k hk).trans ((wPk _ _ hk).trans (hk4 k hk)))
        rw [if_neg (fun z => z ((bit1 S i (by omega) (by omega)).mpr b)), if_pos i0, if_pos i0, show ix 0 = 0 from rfl, c1, bnd_eq, cal1_of q1]
        exact z
      · rw [if_neg b] at st
        have hb : bitsN (fun t => S.testBit t) (i + 1) = bitsN (fun t => S.testBit t) i := by rw [bitsN, if_neg b, Nat.or_zero]
        have z := hLL acc E4 (i + 1) c4 (by omega) (by omega) (by omega) st (by rw [hb]; exact hZ) hk4
        rw [if_pos (fun z => b ((bit1 S i (by omega) (by omega)).mp z))]
        exact z
    · have e : i = 8 := by omega
      subst e
      rw [if_pos (by decide)]
      rw [lsA_hi lt _ _ _ (Nat.le_refl 8)] at hacc
      subst hacc
      rw [bits8 lt] at hZ
      exact ⟨E4, c4, rfl, hc4, hZ, hk4⟩
  · have v8 : v < 8 := hv8 (by omega) (by omega) (by omega)
    subst a
    obtain ⟨b1, b2⟩ := h.bit (j := 1) (a := v) (by decide) v8 z1 y1
    have hL2 := hL.row (E' := wPut E kz 1 ((A.2.2.2.2.1 ||| 2 ^ v : Nat) : Int)) (fun k hk => wPk _ _ (zs hz (Or.inl hk)))
    have hp := W_present hL2.1 hL2.2.1 v8
    have rg := prAt_lt (N := N) hL.2.1 v8
    have h32 := hL.1.2.1
    rw [if_neg (by decide), bnd_eq, if_pos (by decide)]
    unfold fW_gives_21 fW_gives_47 fW_gives_254
    dsimp only
    rw [bnd_eq]; (try dsimp only); rw [if_pos (by decide)]; (try dsimp only); rw [bnd_eq]; (try dsimp only); rw [if_neg (by decide)]; (try dsimp only); rw [if_pos (by decide)]; (try dsimp only); rw [if_pos (by decide)]; (try dsimp only); rw [bnd_eq]; (try dsimp only); rw [if_neg (by decide)]; (try dsimp only); rw [if_pos (by decide)]; (try dsimp only); rw [if_neg (by decide)]; (try dsimp only); rw [if_pos i1, if_pos i1, show ix 1 = 1 from rfl, b1, bnd_eq]; (try dsimp only); rw [cal1_of hp, bnd_eq]
    have goal : mSK En T n rec ts A 7 v = (apl A.1 (if eSn En v = -1 then 0 else 1), A.2.1, A.2.2.1, A.2.2.2.1, A.2.2.2.2.1 ||| 2 ^ v, A.2.2.2.2.2) := rfl
    rw [goal, hS v v8]
    rcases rg with g | g
    · rw [g, if_neg (by decide), if_pos rfl]
      exact come 0 _ _ (h.rd b2) (fun k hk => wPk _ _ hk)
    · rw [if_pos (by rw [w32_of (by omega) (by omega)]; exact g.1), if_neg (show ¬ prAt G N v = -1 by omega)]
      exact come 1 _ _ (h.rd b2) (fun k hk => wPk _ _ hk)
  · subst a
    have goal : mSK En T n rec ts A 8 v = (if n < 6 then (apl A.1 (v : Int), A.2) else A) := rfl
    rw [goal, if_neg (by decide), bnd_eq, if_neg (by decide), wd]
    by_cases q : n < 6
    · rw [if_pos q, if_pos (by omega)]
      exact come (v : Int) E A h (fun _ _ => rfl)
    · rw [if_neg q, if_neg (by omega)]
      unfold fW_gives_21 fW_gives_47
      dsimp only
      rw [bnd_eq]; (try dsimp only); rw [if_pos (by decide)]; (try dsimp only); rw [bnd_eq]; (try dsimp only); rw [if_neg (by decide)]; (try dsimp only); rw [if_pos (by decide)]; (try dsimp only); rw [if_pos (by decide)]; (try dsimp only); rw [bnd_eq]; (try dsimp only); rw [if_neg (by decide)]; (try dsimp only); rw [if_pos (by decide)]; (try dsimp only); rw [if_pos (by decide)]
      exact ⟨E, c, rfl, by omega, h, fun _ _ => rfl⟩
  · subst a
    have goal : mSK En T n rec ts A 9 v = (if n < 6 then A else (apl A.1 (v : Int), A.2)) := rfl
    rw [goal, if_neg (by decide), bnd_eq, if_pos (by decide)]
    unfold fW_gives_21 fW_gives_47
    dsimp only
    rw [bnd_eq]; (try dsimp only); rw [if_neg (by decide)]; (try dsimp only); rw [wd]
    by_cases q : n < 6
    · rw [if_pos q, if_pos (by omega), bnd_eq]; (try dsimp only); rw [if_neg (by decide)]; (try dsimp only); rw [if_pos (by decide)]; (try dsimp only); rw [if_pos (by decide)]; (try dsimp only); rw [bnd_eq]; (try dsimp only); rw [if_neg (by decide)]; (try dsimp only); rw [if_pos (by decide)]; (try dsimp only); rw [if_pos (by decide)]
      exact ⟨E, c, rfl, by omega, h, fun _ _ => rfl⟩
    · rw [if_neg q, if_neg (by omega)]
      exact come (v : Int) E A h (fun _ _ => rfl)
  · have v8 : v < 8 := hv8 (by omega) (by omega) (by omega)
    subst a
    obtain ⟨b1, b2⟩ := h.bit (j := 0) (a := v) (by decide) v8 z0 y0
    rw [if_neg (by decide), bnd_eq, if_pos (by decide)]
    unfold fW_gives_21 fW_gives_47 fW_gives_60
    dsimp only
    rw [bnd_eq]; (try dsimp only); rw [if_pos (by decide)]; (try dsimp only); rw [bnd_eq]; (try dsimp only); rw [if_neg (by decide)]; (try dsimp only); rw [if_neg (by decide)]; (try dsimp only); rw [if_pos i0, if_pos i0, show ix 0 = 0 from rfl, b1, bnd_eq]
    exact come (1000 + (v : Int)) _ _ (h.lk b2) (fun k hk => wPk _ _ hk)
end GIV
