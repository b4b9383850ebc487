/-! THE LAW'S ROWS: reads and writes; versions -/
theorem wl_0 : wLen 0 = 4 := rfl
theorem wl_1 : wLen 1 = 8 := rfl
theorem wl_2 : wLen 2 = 64 := rfl
theorem wl_3 : wLen 3 = 32 := rfl
theorem wl_4 : wLen 4 = 8 := rfl
theorem wl_5 : wLen 5 = 8 := rfl
theorem wl_6 : wLen 6 = 56 := rfl
theorem wl_7 : wLen 7 = 8 := rfl
theorem wl_8 : wLen 8 = 8 := rfl
theorem wl_9 : wLen 9 = 32 := rfl
theorem wl_10 : wLen 10 = 8 := rfl
theorem wl_11 : wLen 11 = 8 := rfl
theorem wl_12 : wLen 12 = 8 := rfl
theorem wl_13 : wLen 13 = 8 := rfl
theorem wl_14 : wLen 14 = 8 := rfl
theorem wP1 (E : Rw) (k i : Nat) (x : Int) : wPut E k i x k i = x := by unfold wPut; rw [if_pos rfl, if_pos rfl]
theorem wP2 {k i k' i' : Nat} (E : Rw) (x : Int) (h : k' ≠ k ∨ i' ≠ i) : wPut E k i x k' i' = E k' i' := by
  unfold wPut
  by_cases c : k' = k
  · subst c
    rw [if_pos rfl]
    exact if_neg (fun e => h.elim (fun z => z rfl) (fun z => z e))
  · rw [if_neg c]
theorem wPk {k i k' : Nat} (E : Rw) (x : Int) (h : k' ≠ k) : wPut E k i x k' = E k' := by
  unfold wPut
  rw [if_neg h]
theorem inW {i : Int} {k : Nat} (n : Nat) (hk : wLen k = n) (h0 : 0 ≤ i) (h1 : i < n) (h2 : n ≤ 100) : inR i (wLen k) := by
  rw [hk]
  exact ⟨by rw [w32_of (by omega) (by omega)]; exact h0, by rw [w32_of (by omega) (by omega)]; exact h1⟩
theorem inWn {i : Nat} {k : Nat} (n : Nat) (hk : wLen k = n) (h1 : i < n) (h2 : n ≤ 100) : inR (i : Int) (wLen k) := inW n hk (by omega) (by omega) h2
theorem ixn {i : Int} {n : Nat} (h : i = (n : Int)) (hn : n < 1000) : ix i = n := ix_eq h (by omega)
/-- versions, as the law has them -/
def WV (N : Nat) (E : Rw) (G : Md) : Prop := E 0 0 = (N : Int) ∧ N ≤ 32 ∧ (∀ v, v < N → E 2 (2 * v) = G.2 12 v ∧ E 2 (2 * v + 1) = G.2 11 v) ∧ (∀ v, v < N → 0 ≤ G.2 12 v ∧ G.2 12 v < (N : Int)) ∧ (∀ v, v < N → 1 ≤ G.2 11 v ∧ G.2 11 v ≤ G.1 5) ∧ (0 ≤ G.1 5 ∧ G.1 5 < 100000) ∧ E 0 2 = G.1 5
/-- pages -/
def WP (E : Rw) (G : Md) : Prop := ∀ t, t < 8 → E 1 t = G.2 6 t + 1 ∧ -1 ≤ G.2 6 t ∧ G.2 6 t < 120
section PRES
variable {N t : Nat} {E : Rw} {G : Md}
theorem W_present (hV : WV N E G) (hP : WP E G) (ht : t < 8) : fW_present (t : Int) E = some (prAt G N t, E) := by
  obtain ⟨v1, v2, v3, v4, v5, v6, v7⟩ := hV
  obtain ⟨p1, p2, p3⟩ := hP t ht
  have rm : remI (t : Int) 8 = (t : Int) := by rw [remI_of (by omega) (by omega) (by decide) (by decide)]; omega
  unfold fW_present
  rw [bnd_eq]
  refine lpn_rule (P := fun mm (L : Int → Int → Rw → Option (Int × Rw)) => ∀ (x : Int) (v : Nat), x = (if G.2 6 t = -1 then -1 else prs G (G.2 6 t) v) → v ≤ N → N - v < mm → L x (v : Int) E = some (prAt G N t, E)) (fun x v _ _ h => absurd h (Nat.not_lt_zero _)) (fun mm L hL x v hx hv hm => ?_) FU (-1) 0 (by split <;> rfl) (Nat.zero_le _) (by unfold FU; omega)
  · rw [if_pos (inW 4 (i := 0) rfl (by decide) (by decide) (by decide)), bnd_eq, show ix 0 = 0 from rfl, v1, rm]
    by_cases hp : G.2 6 t = -1
    · rw [if_pos hp] at hx
      subst hx
      unfold prAt
      rw [if_pos hp]
      by_cases c : N ≤ v
      · rw [if_pos (by rw [w32_n (by omega), w32_n (by omega)]; omega)]
      · rw [if_neg (by rw [w32_n (by omega), w32_n (by omega)]; omega), if_neg (by rw [w32_n (by omega), show w32 8 = 8 from rfl]; omega), if_pos (inWn 8 rfl ht (by decide)), ix_n (by omega), p1, hp, if_pos (by decide)]
    · rw [if_neg hp] at hx
      subst hx
      unfold prAt at hL ⊢
      rw [if_neg hp] at hL ⊢
      rcases Nat.lt_or_ge v N with hlt | hge
      · have q := hL _ (v + 1) rfl (by omega) (by omega)
        rw [if_neg hp, prs_succ] at q
        obtain ⟨a1, a2⟩ := v3 v hlt
        have a3 := v4 v hlt
        have a4 := v5 v hlt
        have hr := prs_rng G (G.2 6 t) v
        rw [if_neg (by rw [w32_n (by omega), w32_n (by omega)]; omega), if_neg (by rw [w32_n (by omega), show w32 8 = 8 from rfl]; omega), if_pos (inWn 8 rfl ht (by decide)), ix_n (by omega), p1, if_neg (by rw [w32_of (by omega) (by omega)]; omega),
          if_pos (inW 64 rfl (by omega) (by omega) (by decide)), if_pos (inWn 8 rfl ht (by decide)), bnd_eq, ixn (n := 2 * v) (by omega) (by omega), a1]
        have J86 : ∀ x : Int, x = (if onp G (G.2 6 t) v = true ∧ (prs G (G.2 6 t) v = -1 ∨ ahd G (prs G (G.2 6 t) v).toNat v = true) then (v : Int) else prs G (G.2 6 t) v) → L x ((v : Int) + 1) E = some (prs G (G.2 6 t) N, E) := by
          intro x hx
          rw [hx]
          exact q
        by_cases c : G.2 12 v = G.2 6 t
        · have on : onp G (G.2 6 t) v = true := decide_eq_true c
          rw [if_neg (by rw [w32_of (by omega) (by omega), w32_of (by omega) (by omega)]; omega)]; (try dsimp only); rw [bnd_eq, bnd_eq, if_neg (by decide), bnd_eq]
          by_cases d : prs G (G.2 6 t) v = -1
          · rw [if_pos (by rw [d]; decide)]
            exact J86 _ (by rw [if_pos ⟨on, Or.inl d⟩])
          · have hr2 := hr.resolve_left d
            obtain ⟨b1, b2⟩ := v3 (prs G (G.2 6 t) v).toNat (by omega)
            have b3 := v5 (prs G (G.2 6 t) v).toNat (by omega)
            rw [if_neg (by rw [w32_of (by omega) (by omega)]; omega), if_pos (inW 64 rfl (by omega) (by omega) (by decide)), if_pos (inW 64 rfl (by omega) (by omega) (by decide)), ixn (n := 2 * v + 1) (by omega) (by omega), ixn (n := 2 * (prs G (G.2 6 t) v).toNat + 1) (by omega) (by omega), a2, b2]
            by_cases e : G.2 11 v < G.2 11 (prs G (G.2 6 t) v).toNat
            · rw [if_pos (by rw [w32_of (by omega) (by omega), w32_of (by omega) (by omega)]; exact e)]
              refine J86 _ ?_
              rw [if_neg (fun z => by
                rcases z.2 with y | y
                · exact d y
                · unfold ahd at y
                  have := of_decide_eq_true y
                  omega)]
            · rw [if_neg (by rw [w32_of (by omega) (by omega), w32_of (by omega) (by omega)]; exact e)]
              refine J86 _ ?_
              rw [if_pos ⟨on, Or.inr (decide_eq_true (by omega))⟩]
        · have on : ¬ onp G (G.2 6 t) v = true := by unfold onp; rw [decide_eq_false c]; decide
          rw [if_pos (by rw [w32_of (by omega) (by omega), w32_of (by omega) (by omega)]; omega)]; (try dsimp only); rw [bnd_eq, bnd_eq, if_pos (by decide)]
          exact J86 _ (by rw [if_neg (fun z => on z.1)])
      · have e : v = N := by omega
        subst e
        rw [if_pos (Int.le_refl _)]
/-- how many versions the law has come to -/
def cB (G : Md) (p : Int) (N tt v : Nat) : Nat := cnt (fun o => onp G p o && decide (G.2 11 o < (tt : Int) ∨ (G.2 11 o = (tt : Int) ∧ o < v))) N
theorem cB_rk {p : Int} {tt v : Nat} (hv : v < N) (ho : onp G p v = true) (ht : G.2 11 v = (tt : Int)) : cB G p N tt v = rk G v N := by
  unfold cB rk
  refine cnt_congr (fun o hol => ?_)
  have hp : G.2 12 v = p := of_decide_eq_true ho
  unfold ahd
  rw [hp, ht]
theorem cnt_le2 {f g : Nat → Bool} : ∀ n, (∀ k, k < n → f k = true → g k = true) → cnt f n ≤ cnt g n := by
  intro n
  induction n with
  | zero => intro _; exact Nat.le_refl _
  | succ n ih =>
    intro h
    have i := ih (fun k hk => h k (by omega))
    unfold cnt
    by_cases c : f n = true
    · rw [if_pos c, if_pos (h n (Nat.lt_succ_self n) c)]
      omega
    · rw [if_neg c]
      split
      · omega
      · exact i
theorem cnt_split {f g : Nat → Bool} {a : Nat} : ∀ n, a < n → f a = false → g a = true → (∀ k, k < n → k ≠ a → g k = f k) → cnt g n = cnt f n + 1 := by
  intro n
  induction n with
  | zero => intro h; exact absurd h (Nat.not_lt_zero _)
  | succ n ih =>
    intro ha h1 h2 h3
    unfold cnt
    by_cases c : a = n
    · subst c
      rw [h1, h2, if_pos rfl, if_neg (by decide), cnt_congr (fun k hk => h3 k (by omega) (by omega))]
    · have i := ih (by omega) h1 h2 (fun k hk hne => h3 k (by omega) hne)
      rw [h3 n (Nat.lt_succ_self n) (fun z => c z.symm), i]
      split
      · omega
      · rfl
theorem cB_step {p : Int} {tt v : Nat} (hv : v < N) : cB G p N tt (v + 1) = cB G p N tt v + (if onp G p v = true ∧ G.2 11 v = (tt : Int) then 1 else 0) := by
  unfold cB
  by_cases c : onp G p v = true ∧ G.2 11 v = (tt : Int)
  · rw [if_pos c]
    refine cnt_split N (a := v) hv ?_ ?_ (fun k hk hne => ?_)
    · rw [c.1, c.2, decide_eq_false (by omega)]; rfl
    · rw [c.1, c.2, decide_eq_true (by omega)]; rfl
    · congr 1
      by_cases d : G.2 11 k < (tt : Int) ∨ (G.2 11 k = (tt : Int) ∧ k < v)
      · rw [decide_eq_true d, decide_eq_true (by omega)]
      · rw [decide_eq_false d, decide_eq_false (by omega)]
  · rw [if_neg c, Nat.add_zero]
    refine cnt_congr (fun k hk => ?_)
    by_cases e : k = v
    · subst e
      by_cases o : onp G p k = true
      · rw [o, Bool.true_and, Bool.true_and]
        have : ¬ G.2 11 k = (tt : Int) := fun z => c ⟨o, z⟩
        by_cases d : G.2 11 k < (tt : Int)
        · rw [decide_eq_true (Or.inl d), decide_eq_true (Or.inl d)]
        · rw [decide_eq_false (by omega), decide_eq_false (by omega)]
      · rw [Bool.not_eq_true] at o
        rw [o]; rfl
    · congr 1
      by_cases d : G.2 11 k < (tt : Int) ∨ (G.2 11 k = (tt : Int) ∧ k < v)
      · rw [decide_eq_true d, decide_eq_true (by omega)]
      · rw [decide_eq_false d, decide_eq_false (by omega)]
theorem cB_next {p : Int} {tt : Nat} : cB G p N (tt + 1) 0 = cB G p N tt N := by
  unfold cB
  refine cnt_congr (fun k hk => ?_)
  congr 1
  by_cases d : G.2 11 k < ((tt + 1 : Nat) : Int) ∨ (G.2 11 k = ((tt + 1 : Nat) : Int) ∧ k < 0)
  · rw [decide_eq_true d, decide_eq_true (by omega)]
  · rw [decide_eq_false d, decide_eq_false (by omega)]
theorem cB_0 {p : Int} (h : ∀ v, v < N → 1 ≤ G.2 11 v) : cB G p N 1 0 = 0 := by
  unfold cB
  have : ∀ n, n ≤ N → cnt (fun o => onp G p o && decide (G.2 11 o < ((1 : Nat) : Int) ∨ (G.2 11 o = ((1 : Nat) : Int) ∧ o < 0))) n = 0 := by
    intro n
    induction n with
    | zero => intro _; rfl
    | succ n ih =>
      intro hn
      have := h n (by omega)
      unfold cnt
      rw [ih (by omega), decide_eq_false (by omega), Bool.and_false, if_neg (by decide)]
  exact this N (Nat.le_refl _)
theorem rk_lt {p : Int} {v : Nat} (hv : v < N) (ho : onp G p v = true) : rk G v N < cnt (onp G p) N := by
  have hp : G.2 12 v = p := of_decide_eq_true ho
  unfold rk
  rw [hp]
  have h1 : cnt (fun o => onp G p o && ahd G o v) N + 1 ≤ cnt (onp G p) N := by
    have e := cnt_split (f := fun o => (onp G p o && ahd G o v)) (g := fun o => decide (o = v) || (onp G p o && ahd G o v)) (a := v) N hv (by unfold ahd; (try dsimp only); rw [decide_eq_false (by omega), Bool.and_false]) (by (try dsimp only); rw [decide_eq_true rfl, Bool.true_or]) (fun k _ hne => by (try dsimp only); rw [decide_eq_false hne, Bool.false_or])
    rw [← e]
    refine cnt_le2 N (fun k hk h => ?_)
    simp only [Bool.or_eq_true, decide_eq_true_eq, Bool.and_eq_true] at h
    rcases h with h | h
    · rw [h]; exact ho
    · exact h.1
  omega
/-- the version that is found, by its place -/
theorem vin_atp {p : Int} {v place : Nat} (hv : v < N) (ho : onp G p v = true) (hr : rk G v N = place) : vin G p N (place : Int) 0 N = (v : Int) := by
  obtain ⟨hA, hB⟩ := ord_all G p N
  obtain ⟨i, hi, e⟩ := hB v hv ho
  have a := hA i hi
  rw [e] at a
  have e2 := rk_rkp (M := G) N (onp_eq ho)
  have e3 : i = place := by rw [← hr, e2, a.2.2]
  subst e3
  rw [vin_ord, if_pos ⟨by omega, by omega⟩, show ((i : Nat) : Int).toNat = i from rfl, e]
theorem vin_no {p : Int} {place : Nat} (h : vin G p N (place : Int) 0 N = -1) : cnt (onp G p) N ≤ place := by
  rw [vin_ord] at h
  by_cases c : 0 ≤ (place : Int) ∧ (place : Int) < (cnt (onp G p) N : Int)
  · rw [if_pos c] at h
    omega
  · omega
theorem vin_some {p : Int} {place : Nat} {v : Nat} (h : vin G p N (place : Int) 0 N = (v : Int)) : v < N ∧ onp G p v = true ∧ rk G v N = place := by
  rw [vin_ord] at h
  by_cases c : 0 ≤ (place : Int) ∧ (place : Int) < (cnt (onp G p) N : Int)
  · rw [if_pos c, show ((place : Nat) : Int).toNat = place from rfl] at h
    obtain ⟨hA, -⟩ := ord_all G p N
    have a := hA place (by omega)
    have e : vsl G p N place = v := by omega
    rw [e] at a
    exact ⟨a.1, a.2.1, by rw [rk_rkp (M := G) N (onp_eq a.2.1), a.2.2]⟩
  · rw [if_neg c] at h
    omega
/-- a version of a page by its place, as the law finds it -/
def vofF (G : Md) (N t : Nat) (place : Nat) : Int := if G.2 6 t = -1 then -1 else vin G (G.2 6 t) N (place : Int) 0 N
theorem W_versionOf (hV : WV N E G) (hP : WP E G) (ht : t < 8) {place : Nat} (hpl : place < 1000) : fW_versionOf (t : Int) (place : Int) E = some (vofF G N t place, E) := by
  have hV' := hV
  obtain ⟨v1, v2, v3, v4, v5, v6, v7⟩ := hV
  obtain ⟨p1, p2, p3⟩ := hP t ht
  unfold fW_versionOf
  rw [bnd_eq]
  obtain ⟨ck, hck2⟩ : ∃ ck : Nat, ck < 100000 ∧ (∀ tt : Nat, 1 ≤ tt → ((tt : Int) ≤ G.1 5 ↔ tt ≤ ck)) := ⟨(G.1 5).toNat, by omega, fun tt h1 => by omega⟩
  -- the outer loop's rule
  have outer := lpn_rule (z := fun (_ : Int) (_ : Int) (_ : Rw) => (none : Option (Int × Rw))) (body := fun L7 (v5_7 : Int) (v6_7 : Int) (E_7 : Rw) =>
    if inR 2 (wLen 0) then
    if w32 (E_7 0 (ix 2)) < w32 v6_7 then some (-1, E_7)
    else
    bnd (lpn (fun (_ : Int) (_ : Int) (_ : Rw) => (none : Option (Int × Rw))) (fun L19 (v5_19 : Int) (v7_19 : Int) (E_19 : Rw) =>
    if inR 0 (wLen 0) then
    if w32 (E_19 0 (ix 0)) ≤ w32 v7_19 then
    L7 v5_19 (v6_7 + 1) E_19
    else
    if inR (t : Int) (wLen 1) then
    bnd (fun (v5_74 : Int) (E_74 : Rw) => L19 v5_74 (v7_19 + 1) E_74) fun J74 =>
    if w32 (E_19 1 (ix (t : Int))) ≤ 0 then J74 v5_19 E_19
    else
    if inR (2 * v7_19) (wLen 2) then
    if inR (t : Int) (wLen 1) then
    if ¬ w32 (E_19 2 (ix (2 * v7_19))) = w32 ((E_19 1 (ix (t : Int))) - 1) then J74 v5_19 E_19
    else
    if inR ((2 * v7_19) + 1) (wLen 2) then
    if ¬ w32 (E_19 2 (ix ((2 * v7_19) + 1))) = w32 v6_7 then J74 v5_19 E_19
    else
    if ¬ w32 v5_19 = 0 then J74 (v5_19 + (-1)) E_19
    else some (v7_19, E_19)
    else none
    else none
    else none
    else none
    else none) FU) fun J19 => J19 v5_7 0 E_7
    else none)
    (fun mm L => ∀ (tt : Nat), 1 ≤ tt → tt ≤ ck + 1 → ck + 1 - tt < mm → cB G (G.2 6 t) N tt 0 ≤ place → (∀ v : Nat, vofF G N t place = (v : Int) → (tt : Int) ≤ G.2 11 v) → L (((place - cB G (G.2 6 t) N tt 0 : Nat)) : Int) (tt : Int) E = some (vofF G N t place, E))
    (fun tt _ _ h => absurd h (Nat.not_lt_zero _)) (fun mm L hL tt h1 h2 hm hle htar => ?_) FU 1 (Nat.le_refl _) (by omega) (by unfold FU; omega) (by rw [cB_0 (fun v hv => (v5 v hv).1)]; exact Nat.zero_le _) (fun v hv => ?_)
  · rw [cB_0 (fun v hv => (v5 v hv).1)] at outer
    exact outer
  · dsimp only
    rw [if_pos (inW 4 (i := 2) rfl (by decide) (by decide) (by decide)), show ix 2 = 2 from rfl, v7]
    rcases Nat.lt_or_ge ck tt with hgt | hle2
    · -- all times are past: none was there
      have hno : vofF G N t place = -1 := by
        by_cases hp : G.2 6 t = -1
        · unfold vofF; rw [if_pos hp]
        · have hr : vofF G N t place = -1 ∨ ∃ v : Nat, vofF G N t place = (v : Int) := by
            unfold vofF
            rw [if_neg hp, vin_ord]
            split
            · exact Or.inr ⟨_, rfl⟩
            · exact Or.inl rfl
          rcases hr with h | ⟨v, h⟩
          · exact h
          · exfalso
            have a := htar v h
            have b := h
            unfold vofF at b
            rw [if_neg hp] at b
            have c := (v5 v (vin_some b).1).2
            have := (hck2.2 tt h1).mp (by omega)
            omega
      rw [if_pos (by
        have := hck2.2 tt h1
        rw [w32_n (by omega), w32_of (by omega) (by omega)]
        omega), hno]
    · have hck3 := (hck2.2 tt h1).mpr hle2
      rw [if_neg (by rw [w32_n (by omega), w32_of (by omega) (by omega)]; omega), bnd_eq]
      have inner := lpn_rule (z := fun (_ : Int) (_ : Int) (_ : Rw) => (none : Option (Int × Rw))) (body := fun L19 (v5_19 : Int) (v7_19 : Int) (E_19 : Rw) =>
        if inR 0 (wLen 0) then
        if w32 (E_19 0 (ix 0)) ≤ w32 v7_19 then
        L v5_19 ((tt : Int) + 1) E_19
        else
        if inR (t : Int) (wLen 1) then
        bnd (fun (v5_74 : Int) (E_74 : Rw) => L19 v5_74 (v7_19 + 1) E_74) fun J74 =>
        if w32 (E_19 1 (ix (t : Int))) ≤ 0 then J74 v5_19 E_19
        else
        if inR (2 * v7_19) (wLen 2) then
        if inR (t : Int) (wLen 1) then
        if ¬ w32 (E_19 2 (ix (2 * v7_19))) = w32 ((E_19 1 (ix (t : Int))) - 1) then J74 v5_19 E_19
        else
        if inR ((2 * v7_19) + 1) (wLen 2) then
        if ¬ w32 (E_19 2 (ix ((2 * v7_19) + 1))) = w32 (tt : Int) then J74 v5_19 E_19
        else
        if ¬ w32 v5_19 = 0 then J74 (v5_19 + (-1)) E_19
        else some (v7_19, E_19)
        else none
        else none
        else none
        else none
        else none)
        (fun nn L2 => ∀ (v : Nat), v ≤ N → N - v < nn → cB G (G.2 6 t) N tt v ≤ place → (∀ u : Nat, vofF G N t place = (u : Int) → (tt : Int) < G.2 11 u ∨ ((tt : Int) = G.2 11 u ∧ v ≤ u)) → L2 (((place - cB G (G.2 6 t) N tt v : Nat)) : Int) (v : Int) E = some (vofF G N t place, E))
        (fun v _ h => absurd h (Nat.not_lt_zero _)) (fun nn L2 hL2 v hv hn hle3 htar2 => ?_) FU 0 (Nat.zero_le _) (by unfold FU; omega) hle (fun u hu => by have := htar u hu; omega)
      · exact inner
      · dsimp only
        rw [if_pos (inW 4 (i := 0) rfl (by decide) (by decide) (by decide)), show ix 0 = 0 from rfl, v1]
        rcases Nat.lt_or_ge v N with hlt | hge
        · obtain ⟨a1, a2⟩ := v3 v hlt
          have a3 := v4 v hlt
          have a4 := v5 v hlt
          rw [if_neg (by rw [w32_n (by omega), w32_n (by omega)]; omega), if_pos (inWn 8 rfl ht (by decide)), bnd_eq, ix_n (by omega), p1]
          have st := cB_step (G := G) (p := G.2 6 t) (tt := tt) hlt
          -- not this one
          have go : ¬ (onp G (G.2 6 t) v = true ∧ G.2 11 v = (tt : Int)) → L2 (((place - cB G (G.2 6 t) N tt v : Nat)) : Int) ((v : Int) + 1) E = some (vofF G N t place, E) := by
            intro hne
            rw [if_neg hne, Nat.add_zero] at st
            have q := hL2 (v + 1) (by omega) (by omega) (by rw [st]; exact hle3) (fun u hu => by
              rcases htar2 u hu with z | ⟨z1, z2⟩
              · exact Or.inl z
              · refine Or.inr ⟨z1, ?_⟩
                by_cases e : v = u
                · exfalso
                  subst e
                  by_cases hp : G.2 6 t = -1
                  · unfold vofF at hu; rw [if_pos hp] at hu; omega
                  · unfold vofF at hu; rw [if_neg hp] at hu
                    exact hne ⟨(vin_some hu).2.1, z1.symm⟩
                · omega)
            rw [st] at q
            exact q
          by_cases hp : G.2 6 t = -1
          · rw [if_pos (by rw [hp]; decide)]
            exact go (fun z => by
              have := of_decide_eq_true z.1
              omega)
          · rw [if_neg (by rw [w32_of (by omega) (by omega)]; omega), if_pos (inW 64 rfl (by omega) (by omega) (by decide)), if_pos (inWn 8 rfl ht (by decide)), ixn (n := 2 * v) (by omega) (by omega), a1]
            by_cases c1 : G.2 12 v = G.2 6 t
            · have on : onp G (G.2 6 t) v = true := decide_eq_true c1
              rw [if_neg (by rw [w32_of (by omega) (by omega), w32_of (by omega) (by omega)]; omega), if_pos (inW 64 rfl (by omega) (by omega) (by decide)), ixn (n := 2 * v + 1) (by omega) (by omega), a2]
              by_cases c2 : G.2 11 v = (tt : Int)
              · rw [if_neg (by rw [c2]; exact fun z => z rfl)]
                have hrk := cB_rk (p := G.2 6 t) hlt on c2
                rw [if_pos ⟨on, c2⟩] at st
                by_cases c3 : rk G v N = place
                · rw [if_neg (by rw [hrk, c3, Nat.sub_self]; exact fun z => z rfl)]
                  have e := vin_atp hlt on c3
                  unfold vofF
                  rw [if_neg hp, e]
                · rw [if_pos (by rw [w32_n (by omega)]; omega)]
                  have q := hL2 (v + 1) (by omega) (by omega) (by rw [st]; omega) (fun u hu => by
                    rcases htar2 u hu with z | ⟨z1, z2⟩
                    · exact Or.inl z
                    · refine Or.inr ⟨z1, ?_⟩
                      by_cases e : v = u
                      · exfalso
                        subst e
                        unfold vofF at hu; rw [if_neg hp] at hu
                        exact c3 (vin_some hu).2.2
                      · omega)
                  rw [st] at q
                  rw [show (((place - cB G (G.2 6 t) N tt v : Nat) : Int) + -1) = ((place - (cB G (G.2 6 t) N tt v + 1) : Nat) : Int) by omega]
                  exact q
              · rw [if_pos (by rw [w32_of (by omega) (by omega), w32_n (by omega)]; exact c2)]
                exact go (fun z => c2 z.2)
            · rw [if_pos (by rw [w32_of (by omega) (by omega), w32_of (by omega) (by omega)]; omega)]
              exact go (fun z => c1 (of_decide_eq_true z.1))
        · have e : v = N := by omega
          subst e
          rw [if_pos (Int.le_refl _)]
          have q := hL (tt + 1) (by omega) (by omega) (by omega) (by rw [cB_next]; exact hle3) (fun u hu => by
            rcases htar2 u hu with z | ⟨z1, z2⟩
            · omega
            · exfalso
              by_cases hp : G.2 6 t = -1
              · unfold vofF at hu; rw [if_pos hp] at hu; omega
              · unfold vofF at hu; rw [if_neg hp] at hu
                have := (vin_some hu).1
                omega)
          rw [cB_next] at q
          exact q
  · by_cases hp : G.2 6 t = -1
    · unfold vofF at hv; rw [if_pos hp] at hv; omega
    · unfold vofF at hv; rw [if_neg hp] at hv
      have := v5 v (vin_some hv).1
      omega
end PRES
