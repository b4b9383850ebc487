/-! THE LAW'S ROWS: where titles lead, members, what is stale -/
theorem wPP (E : Rw) (k i : Nat) (x y : Int) : wPut (wPut E k i x) k i y = wPut E k i y := by
  funext j
  unfold wPut
  by_cases c : j = k
  · rw [if_pos c, if_pos c]
    funext q
    by_cases d : q = i
    · rw [if_pos d, if_pos d]
    · rw [if_neg d, if_neg d, if_pos rfl, if_neg d]
  · rw [if_neg c, if_neg c, if_neg c]
theorem wPs (E : Rw) (k i : Nat) : wPut E k i (E k i) = E := by
  funext j
  unfold wPut
  by_cases c : j = k
  · rw [if_pos c]
    funext q
    by_cases d : q = i
    · rw [if_pos d, c, d]
    · rw [if_neg d, c]
  · rw [if_neg c]
theorem wLz {kz : Nat} (hz : kz = 10 ∨ kz = 11) : wLen kz = 8 := by rcases hz with h | h <;> rw [h] <;> rfl
theorem zs {kz k : Nat} (hz : kz = 10 ∨ kz = 11) (hk : k ≤ 9 ∨ 12 ≤ k) : k ≠ kz := by omega
/-- the texts of versions are rows of macros -/
def WT (T : Nat → List Nat) (N : Nat) (E : Rw) (G : Md) : Prop := ∀ v, v < N → E 3 v = encT (T v) ∧ okT (T v) ∧ (1 ≤ (T v).length ∧ (T v).length ≤ 5) ∧ tl G v = (tks (T v)).length ∧ ∀ k, k < (tks (T v)).length → tx G v k = (tks (T v)).getD k 0
theorem WV.row {N : Nat} {E E' : Rw} {G : Md} (h : WV N E G) (e : ∀ k, k ≤ 3 → E' k = E k) : WV N E' G := by
  unfold WV at h ⊢
  rw [e 0 (by decide), e 2 (by decide)]
  exact h
theorem WP.row {E E' : Rw} {G : Md} (h : WP E G) (e : E' 1 = E 1) : WP E' G := by
  unfold WP at h ⊢
  rw [e]
  exact h
theorem WT.row {T : Nat → List Nat} {N : Nat} {E E' : Rw} {G : Md} (h : WT T N E G) (e : E' 3 = E 3) : WT T N E' G := by
  unfold WT at h ⊢
  rw [e]
  exact h
theorem tks_0 {T : List Nat} (h : 1 ≤ T.length) : (tks T).getD 0 0 = (cdL (T.getD 0 0)).getD 0 0 := by
  cases T with
  | nil => exact absurd h (by decide)
  | cons m T =>
    rw [tks_cons]
    have := (cdL_len m).1
    rw [List.getD_eq_getElem?_getD, List.getElem?_append_left (by omega), ← List.getD_eq_getElem?_getD]
    rfl
theorem cd2_0 {kd v : Nat} (h : kd ≤ 10) (hv : v < 60) : ((cdM kd v).getD 0 0 / 1000 = 12 ↔ kd = 10) ∧ (kd = 10 → (cdM kd v).getD 0 0 % 1000 = (v : Int)) := by
  rcases (show kd = 0 ∨ kd = 1 ∨ kd = 2 ∨ kd = 3 ∨ kd = 4 ∨ kd = 5 ∨ kd = 6 ∨ kd = 7 ∨ kd = 8 ∨ kd = 9 ∨ kd = 10 by omega) with a | a | a | a | a | a | a | a | a | a | a <;> subst a <;> simp only [cdM, Nat.reduceEqDiff, ↓reduceIte, List.getD_cons_zero] <;> refine ⟨⟨?_, ?_⟩, ?_⟩ <;> intros <;> first | omega | trivial | contradiction
/-- whether a version's text is a redirect, and where to -/
theorem WT.redir {T : Nat → List Nat} {N : Nat} {E : Rw} {G : Md} (h : WT T N E G) {v : Nat} (hv : v < N) : (tx G v 0 / 1000 = 12 ↔ (T v).getD 0 0 % 16 = 10) ∧ ((T v).getD 0 0 % 16 = 10 → tx G v 0 % 1000 = (((T v).getD 0 0 / 16 : Nat) : Int) ∧ (T v).getD 0 0 / 16 < 8) ∧ TM (T v) := by
  obtain ⟨h1, h2, h3, h4, h5⟩ := h v hv
  have l := tks_len (T v)
  rw [h5 0 (by omega), tks_0 h3.1]
  have hm : (T v).getD 0 0 ∈ T v := by
    rw [List.getD_eq_getElem?_getD, List.getElem?_eq_getElem (by omega)]
    exact List.getElem_mem _
  have ok := h2.1 _ hm
  obtain ⟨c1, c2⟩ := cd2_0 ok.1 ok.v60
  exact ⟨c1, fun z => ⟨c2 z, ok.2.2.2 (by omega) (by omega) (by omega)⟩, h2.tm (by omega)⟩
section WAYS
variable {N t na kz : Nat} {E : Rw} {G : Md} {T : Nat → List Nat} {En : Env}
theorem prAt_lt (h : WP E G) (ht : t < 8) : prAt G N t = -1 ∨ (0 ≤ prAt G N t ∧ prAt G N t < (N : Int)) := by
  unfold prAt
  split
  · exact Or.inl rfl
  · exact prs_rng G _ N
theorem W_way (hz : kz = 10 ∨ kz = 11) (hV : WV N E G) (hP : WP E G) (hT : WT T N E G) (hS : ∀ t, t < 8 → eSn En t = prAt G N t) (hX : eTx En = tx G) (ht : t < 8) {S : Nat} (hSS : S < 256) (h1 : E kz 1 = (S : Int)) : ∃ S' : Nat, (wayF En 5 t S).2 = S' ∧ S' < 256 ∧ fW_way kz (t : Int) E = some ((wayF En 5 t S).1, wPut E kz 1 (S' : Int)) ∧ ((wayF En 5 t S).1 = -1 ∨ (0 ≤ (wayF En 5 t S).1 ∧ (wayF En 5 t S).1 < 8 ∧ prAt G N (wayF En 5 t S).1.toNat ≠ -1)) := by
  have key := lpn_rule (z := fun (_ : Int) (_ : Int) (_ : Rw) => (none : Option (Int × Rw))) (body := fun L7 (v6_7 : Int) (v7_7 : Int) (E_7 : Rw) =>
    if w32 5 ≤ w32 v7_7 then
    some ((-1), E_7)
    else
    if inR 1 (wLen kz) then
    if inR 1 (wLen kz) then bnd (wPut E_7 kz (ix 1) (orI (E_7 kz (ix 1)) (shlI 1 v6_7))) fun (E1 : Rw) =>
    cal1 (fW_present v6_7 E1) fun (r2 : Int) (E3 : Rw) =>
    bnd (fun (E_55 : Rw) =>
    bnd (fun (t0_66 : Int) (E_66 : Rw) =>
    some (t0_66, E_66)) fun J66 =>
    if 0 ≤ w32 r2 then
    J66 v6_7 E_55
    else
    J66 (-1) E_55) fun J55 =>
    if w32 r2 < 0 then
    J55 E3
    else
    if inR r2 (wLen 3) then
    cal1 (fW_macro (E3 3 (ix r2)) 0) fun (r4 : Int) _ =>
    if w32 (remI r4 16) = w32 10 then
    if inR r2 (wLen 3) then
    cal1 (fW_macro (E3 3 (ix r2)) 0) fun (r5 : Int) _ =>
    bnd (divI r5 16) fun (x6_78 : Int) =>
    L7 x6_78 (v7_7 + 1) E3
    else none
    else
    J55 E3
    else none
    else none
    else none) (fun mm L => ∀ (i t S : Nat), i ≤ 5 → 5 - i < mm → t < 8 → S < 256 → ∃ S' : Nat, (wayF En (5 - i) t S).2 = S' ∧ S' < 256 ∧ L (t : Int) (i : Int) (wPut E kz 1 (S : Int)) = some ((wayF En (5 - i) t S).1, wPut E kz 1 (S' : Int)) ∧ ((wayF En (5 - i) t S).1 = -1 ∨ (0 ≤ (wayF En (5 - i) t S).1 ∧ (wayF En (5 - i) t S).1 < 8 ∧ prAt G N (wayF En (5 - i) t S).1.toNat ≠ -1)))
    (fun i t S _ h => absurd h (Nat.not_lt_zero _)) (fun mm L hL i t S hi hm ht hSS => ?_) FU 0 t S (Nat.zero_le _) (by unfold FU; omega) ht hSS
  · unfold fW_way
    rw [bnd_eq]
    rw [← h1, wPs] at key
    exact key
  · dsimp only
    rcases Nat.lt_or_ge i 5 with hlt | hge
    · have p2 : (2 : Nat) ^ t < 256 := by
        have := Nat.pow_lt_pow_right (show 1 < 2 by decide) (show t < 8 from ht)
        omega
      have hor : S ||| 2 ^ t < 256 := Nat.or_lt_two_pow (n := 8) (by omega) (by omega)
      have e1 : orI (wPut E kz 1 (S : Int) kz (ix 1)) (shlI 1 (t : Int)) = ((S ||| 2 ^ t : Nat) : Int) := by
        rw [show ix 1 = 1 from rfl, wP1, two_N (by omega), orI_N (by omega) (by omega)]
      have hrow : ∀ x : Int, ∀ k, k ≤ 9 → wPut E kz 1 x k = E k := fun x k hk => wPk E x (zs hz (Or.inl hk))
      have hV' : WV N (wPut E kz 1 ((S ||| 2 ^ t : Nat) : Int)) G := hV.row (fun k hk => hrow _ k (by omega))
      have hP' : WP (wPut E kz 1 ((S ||| 2 ^ t : Nat) : Int)) G := hP.row (hrow _ 1 (by decide))
      have iz : inR 1 (wLen kz) := inWn (i := 1) 8 (wLz hz) (by decide) (by decide)
      obtain ⟨n, hn⟩ : ∃ n, 5 - i = n + 1 := ⟨4 - i, by omega⟩
      rw [if_neg (by rw [w32_n (by omega), show w32 5 = 5 from rfl]; omega), if_pos iz, if_pos iz, e1, show ix 1 = 1 from rfl, wPP, bnd_eq, cal1_of (W_present hV' hP' ht), hn, wayF, hS t ht, hX]
      rcases prAt_lt (N := N) hP ht with hpr | hpr
      · rw [if_pos hpr, hpr, bnd_eq, if_pos (show w32 (-1) < 0 by decide)]; (try dsimp only); rw [bnd_eq, if_neg (show ¬ 0 ≤ w32 (-1) by decide)]
        exact ⟨_, rfl, hor, rfl, Or.inl rfl⟩
      · have hne : prAt G N t ≠ -1 := by omega
        have ng : ¬ (w32 (prAt G N t) < 0) := by rw [w32_of (by omega) (by have := hV.2.1; omega)]; omega
        rw [if_neg hne, bnd_eq, if_neg ng, if_pos (inW 32 rfl hpr.1 (by have := hV.2.1; omega) (by decide)), hrow _ 3 (by decide)]
        generalize hpv : prAt G N t = pv at *
        obtain ⟨v, rfl⟩ : ∃ v : Nat, pv = (v : Int) := ⟨pv.toNat, by omega⟩
        have hvN : v < N := by omega
        have hv32 : v < 32 := by have := hV.2.1; omega
        obtain ⟨t1, t2, t3, t4, t5⟩ := hT v hvN
        obtain ⟨r1, r2, r3⟩ := hT.redir hvN
        have hl := getD_lt r3 0
        have hm := W_macro r3 (i := 0) (by omega)
        rw [show ((0 : Nat) : Int) = 0 from rfl] at hm
        rw [ix_n (by omega), t1, cal1_of hm, rem16 hl, show ((v : Nat) : Int).toNat = v from rfl]
        by_cases c : (T v).getD 0 0 % 16 = 10
        · obtain ⟨d1, d2⟩ := r2 c
          rw [if_pos (show w32 (((T v).getD 0 0 % 16 : Nat) : Int) = w32 10 by rw [c]; rfl), if_pos (inWn 32 rfl hv32 (by decide)), cal1_of hm, div16 hl, bnd_eq, if_pos (r1.mpr c), d1, show (((T v).getD 0 0 / 16 : Nat) : Int).toNat = (T v).getD 0 0 / 16 from rfl]
          have q := hL (i + 1) ((T v).getD 0 0 / 16) (S ||| 2 ^ t) (by omega) (by omega) d2 hor
          rw [show 5 - (i + 1) = n by omega] at q
          exact q
        · rw [if_neg (show ¬ w32 (((T v).getD 0 0 % 16 : Nat) : Int) = w32 10 by rw [w32_n (by omega), show w32 10 = 10 from rfl]; omega)]; (try dsimp only); rw [bnd_eq, if_pos (show 0 ≤ w32 ((v : Nat) : Int) by rw [w32_n (by omega)]; omega), if_neg (fun z => c (r1.mp z))]
          refine ⟨_, rfl, hor, rfl, Or.inr ⟨by show (0 : Int) ≤ (t : Int); omega, by show (t : Int) < 8; omega, ?_⟩⟩
          show prAt G N ((t : Nat) : Int).toNat ≠ -1
          rw [show ((t : Nat) : Int).toNat = t from rfl, hpv]
          omega
    · have e : i = 5 := by omega
      subst e
      rw [if_pos (by decide)]
      exact ⟨S, rfl, hSS, rfl, Or.inl rfl⟩
end WAYS
