/-! THE ORDER OF VERSIONS: the list that is built by putting each one in is the order by times and numbers -/
def insN (vs : Nat → Nat) (i v j : Nat) : Nat := if j < i then vs j else if j = i then v else vs (j - 1)
def vsl (M : Md) (p : Int) : Nat → Nat → Nat
  | 0 => fun _ => 0
  | n + 1 => if onp M p n = true then insN (vsl M p n) (ipos (fun i => M.2 11 (vsl M p n i)) (M.2 11 n) (cnt (onp M p) n)) n else vsl M p n
theorem vsl_on (M : Md) (p : Int) (n : Nat) (h : onp M p n = true) : vsl M p (n + 1) = insN (vsl M p n) (ipos (fun i => M.2 11 (vsl M p n i)) (M.2 11 n) (cnt (onp M p) n)) n := by
  rw [vsl, if_pos h]
theorem vsl_off (M : Md) (p : Int) (n : Nat) (h : ¬ onp M p n = true) : vsl M p (n + 1) = vsl M p n := by
  rw [vsl, if_neg h]
def rkp (M : Md) (p : Int) (v n : Nat) : Nat := cnt (fun o => onp M p o && ahd M o v) n
theorem rk_rkp {M : Md} {p : Int} {v : Nat} (n : Nat) (h : M.2 12 v = p) : rk M v n = rkp M p v n := by
  unfold rk rkp
  rw [h]
theorem cnt_or1 {p q : Nat → Bool} {n u : Nat} (hu : u < n) (hp : p u = false) (h : ∀ o, o < n → q o = (p o || decide (o = u))) : cnt q n = cnt p n + 1 := by
  induction n with
  | zero => exact absurd hu (Nat.not_lt_zero _)
  | succ n ih =>
    rw [cnt_succ, cnt_succ]
    by_cases c : u = n
    · subst c
      rw [h u (by omega), hp, decide_eq_true rfl]
      have e : cnt q u = cnt p u := cnt_congr (fun k hk => by rw [h k (by omega), decide_eq_false (by omega), Bool.or_false])
      rw [e]
      rfl
    · rw [ih (by omega) (fun o ho => h o (by omega)), h n (by omega), decide_eq_false (fun z => c z.symm), Bool.or_false]
      omega
theorem ahd_iff (M : Md) (v o : Nat) : ahd M v o = true ↔ (M.2 11 v < M.2 11 o ∨ (M.2 11 v = M.2 11 o ∧ v < o)) := by
  unfold ahd
  exact decide_eq_true_iff
theorem ahd_irr (M : Md) (v : Nat) : ahd M v v = false := by
  unfold ahd
  exact decide_eq_false (fun h => by omega)
theorem ipos_hi (tm : Nat → Int) (t : Int) : ∀ n i, ipos tm t n ≤ i → i < n → t < tm i := by
  intro n
  induction n with
  | zero => intro i _ h; exact absurd h (Nat.not_lt_zero _)
  | succ n ih =>
    intro i h1 h2
    unfold ipos at h1
    by_cases c : tm n ≤ t
    · rw [if_pos c] at h1; omega
    · rw [if_neg c] at h1
      rcases Nat.lt_or_ge i n with z | z
      · exact ih i h1 z
      · have e : i = n := by omega
        subst e
        omega
theorem ipos_at (tm : Nat → Int) (t : Int) : ∀ n q, ipos tm t n = q + 1 → tm q ≤ t := by
  intro n
  induction n with
  | zero => intro q h; exact absurd h (by unfold ipos; omega)
  | succ n ih =>
    intro q h
    unfold ipos at h
    by_cases c : tm n ≤ t
    · rw [if_pos c] at h
      have e : q = n := by omega
      subst e
      exact c
    · rw [if_neg c] at h
      exact ih q h
def OrdA (M : Md) (p : Int) (n : Nat) : Prop := ∀ i, i < cnt (onp M p) n → vsl M p n i < n ∧ onp M p (vsl M p n i) = true ∧ rkp M p (vsl M p n i) n = i
def OrdB (M : Md) (p : Int) (n : Nat) : Prop := ∀ v, v < n → onp M p v = true → ∃ i, i < cnt (onp M p) n ∧ vsl M p n i = v
theorem ord_lt {M : Md} {p : Int} {n i j : Nat} (h : OrdA M p n) (hj : j < cnt (onp M p) n) (hij : i < j) : ahd M (vsl M p n i) (vsl M p n j) = true := by
  have a := h i (by omega)
  have a2 := h j hj
  by_cases c : ahd M (vsl M p n i) (vsl M p n j) = true
  · exact c
  · exfalso
    have c1 : ¬ (M.2 11 (vsl M p n i) < M.2 11 (vsl M p n j) ∨ (M.2 11 (vsl M p n i) = M.2 11 (vsl M p n j) ∧ vsl M p n i < vsl M p n j)) := fun z => c ((ahd_iff _ _ _).mpr z)
    have le : rkp M p (vsl M p n j) n ≤ rkp M p (vsl M p n i) n := by
      refine cnt_imp (fun o _ ho => ?_)
      rw [Bool.and_eq_true, ahd_iff] at ho ⊢
      exact ⟨ho.1, by omega⟩
    omega
theorem ord_step {M : Md} {p : Int} {n : Nat} (hA : OrdA M p n) (hB : OrdB M p n) : OrdA M p (n + 1) ∧ OrdB M p (n + 1) := by
  by_cases ho : onp M p n = true
  · have ec : cnt (onp M p) (n + 1) = cnt (onp M p) n + 1 := by rw [cnt_succ, if_pos ho]
    have ev := vsl_on M p n ho
    generalize hk : cnt (onp M p) n = k at *
    have hA' : ∀ i, i < k → vsl M p n i < n ∧ onp M p (vsl M p n i) = true ∧ rkp M p (vsl M p n i) n = i := fun i hi => hA i (by omega)
    have hB' : ∀ v, v < n → onp M p v = true → ∃ i, i < k ∧ vsl M p n i = v := fun v h1 h2 => by
      have h := hB v h1 h2
      rw [hk] at h
      exact h
    have hlt : ∀ {i j : Nat}, j < k → i < j → ahd M (vsl M p n i) (vsl M p n j) = true := fun hj hij => ord_lt hA (by omega) hij
    generalize hpos : ipos (fun i => M.2 11 (vsl M p n i)) (M.2 11 n) k = pos at ev
    have hpk : pos ≤ k := by rw [← hpos]; exact ipos_le _ _ _
    have F2 : ∀ i, pos ≤ i → i < k → M.2 11 n < M.2 11 (vsl M p n i) := fun i h1 h2 => ipos_hi (fun i => M.2 11 (vsl M p n i)) (M.2 11 n) k i (by omega) h2
    have F1 : ∀ i, i < pos → M.2 11 (vsl M p n i) ≤ M.2 11 n := fun i hi => by
      have h1 := ipos_at (fun i => M.2 11 (vsl M p n i)) (M.2 11 n) k (pos - 1) (by omega)
      have h1' : M.2 11 (vsl M p n (pos - 1)) ≤ M.2 11 n := h1
      rcases Nat.lt_or_ge i (pos - 1) with z | z
      · have h2 := (ahd_iff _ _ _).mp (hlt (by omega) z)
        omega
      · have e : i = pos - 1 := by omega
        rw [e]; exact h1'
    have claim : rkp M p n n = pos := by
      rcases Nat.eq_zero_or_pos pos with z | z
      · rw [z]
        refine cnt_zero (fun o hon => ?_)
        by_cases c : onp M p o = true
        · obtain ⟨i, hi, e⟩ := hB' o hon c
          have := F2 i (by omega) hi
          rw [e] at this
          rw [c, Bool.true_and]
          exact decide_eq_false (fun q => by omega)
        · rw [eq_false_of_ne_true c, Bool.false_and]
      · have hu := hA' (pos - 1) (by omega)
        have hr : rkp M p (vsl M p n (pos - 1)) n + 1 = pos := by omega
        rw [← hr]
        refine cnt_or1 (u := vsl M p n (pos - 1)) hu.1 (by rw [ahd_irr, Bool.and_false]) (fun o hon => ?_)
        by_cases c : onp M p o = true
        · obtain ⟨i, hi, e⟩ := hB' o hon c
          rw [c, Bool.true_and, Bool.true_and]
          rcases Nat.lt_trichotomy i (pos - 1) with y | y | y
          · have h1 := hlt (i := i) (j := pos - 1) (by omega) y
            rw [e] at h1
            have h2 := F1 i (by omega)
            rw [e] at h2
            rw [h1, Bool.true_or]
            exact decide_eq_true (by omega)
          · have e2 : o = vsl M p n (pos - 1) := by rw [← e, y]
            have h2 := F1 i (by omega)
            rw [e] at h2
            rw [decide_eq_true e2, Bool.or_true]
            exact decide_eq_true (by omega)
          · have h2 := F2 i (by omega) hi
            rw [e] at h2
            have h3 := hlt (i := pos - 1) (j := i) hi y
            rw [e] at h3
            have h4 := (ahd_iff _ _ _).mp h3
            rw [show ahd M o n = false from decide_eq_false (by omega), show ahd M o (vsl M p n (pos - 1)) = false from decide_eq_false (by omega), Bool.false_or]
            exact (decide_eq_false (fun q => by rw [← q] at h4; omega)).symm
        · have e2 : ¬ o = vsl M p n (pos - 1) := fun q => c (by rw [q]; exact hu.2.1)
          rw [eq_false_of_ne_true c, Bool.false_and, Bool.false_and, decide_eq_false e2, Bool.or_false]
    have rks : ∀ v, rkp M p v (n + 1) = rkp M p v n + (if ahd M n v = true then 1 else 0) := fun v => by
      unfold rkp
      rw [cnt_succ, ho, Bool.true_and]
    refine ⟨fun j hj => ?_, fun v hv hon => ?_⟩
    · rw [ec] at hj
      rw [ev]
      unfold insN
      by_cases c1 : j < pos
      · rw [if_pos c1]
        have a := hA' j (by omega)
        have h2 := F1 j c1
        refine ⟨by omega, a.2.1, ?_⟩
        rw [rks, a.2.2, if_neg (fun q => by rw [ahd_iff] at q; omega)]
        omega
      · rw [if_neg c1]
        by_cases c2 : j = pos
        · rw [if_pos c2]
          refine ⟨by omega, ho, ?_⟩
          rw [rks, claim, ahd_irr, ite_ff]
          omega
        · rw [if_neg c2]
          have a := hA' (j - 1) (by omega)
          have h2 := F2 (j - 1) (by omega) (by omega)
          refine ⟨by omega, a.2.1, ?_⟩
          rw [rks, a.2.2, if_pos (by rw [ahd_iff]; omega)]
          omega
    · rw [ec, ev]
      rcases Nat.lt_or_ge v n with z | z
      · obtain ⟨i, hi, e⟩ := hB' v z hon
        rcases Nat.lt_or_ge i pos with y | y
        · refine ⟨i, by omega, ?_⟩
          unfold insN
          rw [if_pos y]
          exact e
        · refine ⟨i + 1, by omega, ?_⟩
          unfold insN
          rw [if_neg (by omega), if_neg (by omega)]
          exact e
      · have e : v = n := by omega
        refine ⟨pos, by omega, ?_⟩
        unfold insN
        rw [if_neg (by omega), if_pos rfl, e]
  · have ec : cnt (onp M p) (n + 1) = cnt (onp M p) n := by rw [cnt_succ, if_neg ho]; rfl
    have ev := vsl_off M p n ho
    have rks : ∀ v, rkp M p v (n + 1) = rkp M p v n := fun v => by
      unfold rkp
      rw [cnt_succ, eq_false_of_ne_true ho, Bool.false_and, ite_ff, Nat.add_zero]
    refine ⟨fun j hj => ?_, fun v hv hon => ?_⟩
    · rw [ec] at hj
      rw [ev, rks]
      have a := hA j hj
      exact ⟨by omega, a.2.1, a.2.2⟩
    · rw [ec, ev]
      rcases Nat.lt_or_ge v n with z | z
      · exact hB v z hon
      · have e : v = n := by omega
        subst e
        exact absurd hon ho
theorem ord_all (M : Md) (p : Int) : ∀ n, OrdA M p n ∧ OrdB M p n := by
  intro n
  induction n with
  | zero => exact ⟨fun i hi => absurd hi (Nat.not_lt_zero _), fun v hv => absurd hv (Nat.not_lt_zero _)⟩
  | succ n ih => exact ord_step ih.1 ih.2
/-- the last one is the present one -/
theorem prs_last (M : Md) (p : Int) : ∀ n, (cnt (onp M p) n = 0 ∧ prs M p n = -1) ∨ (0 < cnt (onp M p) n ∧ prs M p n = (vsl M p n (cnt (onp M p) n - 1) : Int)) := by
  intro n
  induction n with
  | zero => exact Or.inl ⟨rfl, rfl⟩
  | succ n ih =>
    obtain ⟨hA, hB⟩ := ord_all M p n
    by_cases ho : onp M p n = true
    · have ec : cnt (onp M p) (n + 1) = cnt (onp M p) n + 1 := by rw [cnt_succ, if_pos ho]
      have ev := vsl_on M p n ho
      refine Or.inr ⟨by omega, ?_⟩
      rw [ec, ev, Nat.add_sub_cancel]
      generalize hk : cnt (onp M p) n = k at *
      rcases ih with ⟨h1, h2⟩ | ⟨h1, h2⟩
      · rw [prs_succ, if_pos ⟨ho, Or.inl h2⟩]
        subst h1
        unfold insN ipos
        rfl
      · have a := hA (k - 1) (by omega)
        have h3 : (prs M p n).toNat = vsl M p n (k - 1) := by rw [h2]; exact Int.toNat_natCast _
        have h4 : ¬ prs M p n = -1 := by omega
        obtain ⟨k', rfl⟩ : ∃ k', k = k' + 1 := ⟨k - 1, by omega⟩
        rw [Nat.add_sub_cancel] at *
        by_cases c : M.2 11 (vsl M p n k') ≤ M.2 11 n
        · have e1 : ipos (fun i => M.2 11 (vsl M p n i)) (M.2 11 n) (k' + 1) = k' + 1 := by rw [ipos, if_pos c]
          have e2 : ahd M (prs M p n).toNat n = true := by rw [h3, ahd_iff]; omega
          rw [prs_succ, if_pos ⟨ho, Or.inr e2⟩, e1]
          unfold insN
          rw [if_neg (by omega), if_pos rfl]
        · have e1 : ipos (fun i => M.2 11 (vsl M p n i)) (M.2 11 n) (k' + 1) ≤ k' := by rw [ipos, if_neg c]; exact ipos_le _ _ _
          have e2 : ¬ ahd M (prs M p n).toNat n = true := by rw [h3, ahd_iff]; omega
          rw [prs_succ, if_neg (fun q => q.2.elim h4 e2)]
          generalize ipos (fun i => M.2 11 (vsl M p n i)) (M.2 11 n) (k' + 1) = pos at *
          unfold insN
          rw [if_neg (by omega), if_neg (by omega), h2]
          rfl
    · have ec : cnt (onp M p) (n + 1) = cnt (onp M p) n := by rw [cnt_succ, if_neg ho]; rfl
      have ev := vsl_off M p n ho
      rw [ec, ev, prs_succ, if_neg (fun q => ho q.1)]
      exact ih
theorem vin_at (M : Md) (p x : Int) (nv : Nat) : ∀ m i, i + m = nv → (∃ v, i ≤ v ∧ v < nv ∧ onp M p v = true ∧ (rk M v nv : Int) = x ∧ (vin M p nv x i m = (v : Int))) ∨ ((∀ v, i ≤ v → v < nv → ¬ (onp M p v = true ∧ (rk M v nv : Int) = x)) ∧ vin M p nv x i m = -1) := by
  intro m
  induction m with
  | zero => intro i hi; exact Or.inr ⟨fun v h1 h2 => by omega, rfl⟩
  | succ m ih =>
    intro i hi
    by_cases c : onp M p i = true ∧ (rk M i nv : Int) = x
    · exact Or.inl ⟨i, Nat.le_refl _, by omega, c.1, c.2, by rw [vin, if_pos c]⟩
    · have e : vin M p nv x i (m + 1) = vin M p nv x (i + 1) m := by rw [vin, if_neg c]
      rw [e]
      rcases ih (i + 1) (by omega) with ⟨v, h1, h2, h3⟩ | ⟨h1, h2⟩
      · exact Or.inl ⟨v, by omega, h2, h3⟩
      · refine Or.inr ⟨fun v a1 a2 q => ?_, h2⟩
        rcases Nat.lt_or_ge i v with z | z
        · exact h1 v z a2 q
        · have e : v = i := by omega
          subst e
          exact c q
theorem onp_eq {M : Md} {p : Int} {v : Nat} (h : onp M p v = true) : M.2 12 v = p := of_decide_eq_true h
/-- the version at a place, by the order -/
theorem vin_ord (M : Md) (p : Int) (nv : Nat) (x : Int) : vin M p nv x 0 nv = if 0 ≤ x ∧ x < (cnt (onp M p) nv : Int) then (vsl M p nv x.toNat : Int) else -1 := by
  obtain ⟨hA, hB⟩ := ord_all M p nv
  rcases vin_at M p x nv nv 0 (Nat.zero_add _) with ⟨v, _, h2, h3, h4, h5⟩ | ⟨h1, h2⟩
  · obtain ⟨i, hi, e⟩ := hB v h2 h3
    have a := hA i hi
    rw [e] at a
    rw [rk_rkp nv (onp_eq h3), a.2.2] at h4
    rw [h5, if_pos ⟨by omega, by omega⟩, ← h4, Int.toNat_natCast, e]
  · rw [h2]
    by_cases c : 0 ≤ x ∧ x < (cnt (onp M p) nv : Int)
    · exfalso
      have a := hA x.toNat (by omega)
      refine h1 _ (Nat.zero_le _) a.1 ⟨a.2.1, ?_⟩
      rw [rk_rkp nv (onp_eq a.2.1), a.2.2]
      omega
    · rw [if_neg c]
theorem iof_at (num : Nat → Int) (x : Int) : ∀ m i, (∃ j, i ≤ j ∧ j < i + m ∧ num j = x ∧ (∀ k, i ≤ k → k < j → num k ≠ x) ∧ iof num x i m = (j : Int)) ∨ ((∀ j, i ≤ j → j < i + m → num j ≠ x) ∧ iof num x i m = -1) := by
  intro m
  induction m with
  | zero => intro i; exact Or.inr ⟨fun j a b => by omega, rfl⟩
  | succ m ih =>
    intro i
    by_cases c : num i = x
    · exact Or.inl ⟨i, Nat.le_refl _, by omega, c, fun k a b => by omega, by rw [iof, if_pos c]⟩
    · have e : iof num x i (m + 1) = iof num x (i + 1) m := by rw [iof, if_neg c]
      rw [e]
      rcases ih (i + 1) with ⟨j, a, b, d, f, g⟩ | ⟨a, b⟩
      · refine Or.inl ⟨j, by omega, by omega, d, fun k p q => ?_, g⟩
        rcases Nat.lt_or_ge i k with z | z
        · exact f k z q
        · have e : k = i := by omega
          subst e; exact c
      · refine Or.inr ⟨fun j p q => ?_, b⟩
        rcases Nat.lt_or_ge i j with z | z
        · exact a j z (by omega)
        · have e : j = i := by omega
          subst e; exact c
theorem vsl_inj {M : Md} {p : Int} {nv i j : Nat} (hi : i < cnt (onp M p) nv) (hj : j < cnt (onp M p) nv) (h : vsl M p nv i = vsl M p nv j) : i = j := by
  obtain ⟨hA, _⟩ := ord_all M p nv
  have a := hA i hi
  have a2 := hA j hj
  rw [h] at a
  omega
/-- the place of a number in a page's list -/
theorem iof_ord (M : Md) (p : Int) (nv : Nat) (x : Int) : iof (fun i => (vsl M p nv i : Int)) x 0 (cnt (onp M p) nv) = if 0 ≤ x ∧ x < (nv : Int) ∧ onp M p x.toNat = true then (rk M x.toNat nv : Int) else -1 := by
  obtain ⟨hA, hB⟩ := ord_all M p nv
  rcases iof_at (fun i => (vsl M p nv i : Int)) x (cnt (onp M p) nv) 0 with ⟨j, _, b, d, _, g⟩ | ⟨a, b⟩
  · have a := hA j (by omega)
    have e : vsl M p nv j = x.toNat := by have : (vsl M p nv j : Int) = x := d; omega
    have e2 : (vsl M p nv j : Int) = x := d
    rw [e] at a
    rw [g, if_pos ⟨by omega, by omega, a.2.1⟩, rk_rkp nv (onp_eq a.2.1), a.2.2]
  · rw [b]
    by_cases c : 0 ≤ x ∧ x < (nv : Int) ∧ onp M p x.toNat = true
    · exfalso
      obtain ⟨i, hi, e⟩ := hB x.toNat (by omega) c.2.2
      exact a i (Nat.zero_le _) (by omega) (by show (vsl M p nv i : Int) = x; omega)
    · rw [if_neg c]
