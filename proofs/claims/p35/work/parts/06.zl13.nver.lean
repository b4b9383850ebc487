/-! A NEW VERSION IN THE REFERENCE; the titles settle -/
section NVM
variable {M M' M1 : Md} {nv n : Nat} {g : Nat → Int} {p tm : Int}
/-- the rows of versions behind a new one -/
def NvM (M M1 : Md) (p tm : Int) (g : Nat → Int) (n nv : Nat) : Prop :=
  (∀ j, j ≠ 8 → M1.1 j = M.1 j) ∧ M1.1 8 = (nv : Int) + 1 ∧ (∀ k, ¬ (9 ≤ k ∧ k ≤ 12) → M1.2 k = M.2 k) ∧
  (∀ v, v < nv → M1.2 10 v = M.2 10 v ∧ M1.2 11 v = M.2 11 v ∧ M1.2 12 v = M.2 12 v ∧ ∀ k, k < 30 → M1.2 9 (30 * v + k) = M.2 9 (30 * v + k)) ∧
  (M1.2 10 nv = (n : Int) ∧ M1.2 11 nv = tm ∧ M1.2 12 nv = p) ∧ ∀ k, k < n → M1.2 9 (30 * nv + k) = g k
theorem X12_newVersion_ {k fr : Nat} (h8 : M.1 8 = (nv : Int)) (hnv : nv < 120) (hn : n ≤ 30) (hk : k ≠ 9) (hfr : fr + n ≤ mLen k) (hml : mLen k ≤ 3600) (hg : ∀ i, i < n → M.2 k (fr + i) = g i) :
   ∃ M1, fX12_newVersion p tm k (fr : Int) (n : Int) M = some ((nv : Int), M1) ∧ NvM M M1 p tm g n nv := by
  unfold fX12_newVersion
  rw [bnd_eq]
  refine (lpn_rule (P := fun mm (L : Int → Md → Option (Int × Md)) => ∀ (i : Nat) (M2 : Md), i ≤ n → n - i < mm → M2.1 = M.1 → (∀ j, j ≠ 9 → M2.2 j = M.2 j) → (∀ x, ¬ (30 * nv ≤ x ∧ x < 30 * nv + i) → M2.2 9 x = M.2 9 x) → (∀ j, j < i → M2.2 9 (30 * nv + j) = g j) → ∃ M1, L (i : Int) M2 = some ((nv : Int), M1) ∧ NvM M M1 p tm g n nv) (fun i _ _ h => absurd h (Nat.not_lt_zero _)) (fun mm L hL i M2 hi hm q1 q2 q3 q4 => ?_) FU) 0 M (Nat.zero_le _) (by unfold FU; omega) rfl (fun _ _ => rfl) (fun _ _ => rfl) (fun j hj => absurd hj (Nat.not_lt_zero _))
  rcases Nat.lt_or_ge i n with hlt | hge
  · have e8 : M2.1 8 = (nv : Int) := by rw [q1]; exact h8
    rw [if_neg (by rw [w32_n (by omega), w32_n (by omega)]; omega), show (fr : Int) + (i : Int) = ((fr + i : Nat) : Int) by omega, if_pos (inR_n (by omega) (by omega)), e8, show 30 * (nv : Int) + (i : Int) = ((30 * nv + i : Nat) : Int) by omega, if_pos (inM (n := 3600) rfl (by omega) (by decide)), bnd_eq, ix_n (n := fr + i) (by omega), ix_n (n := 30 * nv + i) (by omega), show (i : Int) + 1 = ((i + 1 : Nat) : Int) by omega]
    have eg : M2.2 k (fr + i) = g i := by rw [q2 k hk]; exact hg i hlt
    rw [eg]
    refine hL (i + 1) _ hlt (by omega) q1 (fun j hj => (mPut_ne M2 _ _ hj).trans (q2 j hj)) (fun x hx => ?_) (fun j hj => ?_)
    · rw [p2_2 (k := 9) (k' := 9) M2 _ (Or.inr (by omega))]
      exact q3 x (by omega)
    · by_cases c : j = i
      · subst c; exact p2_1 _ _ _ _
      · rw [p2_2 (k := 9) (k' := 9) M2 _ (Or.inr (by omega))]
        exact q4 j (by omega)
  · have e : i = n := by omega
    subst e
    have e8 : M2.1 8 = (nv : Int) := by rw [q1]; exact h8
    have a1 : (mPut M2 10 nv (i : Int)).1 8 = (nv : Int) := e8
    have a2 : (mPut (mPut M2 10 nv (i : Int)) 11 nv tm).1 8 = (nv : Int) := e8
    have a3 : (mPut (mPut (mPut M2 10 nv (i : Int)) 11 nv tm) 12 nv p).1 8 = (nv : Int) := e8
    have r10 : ∀ x, (mSet (mPut (mPut (mPut M2 10 nv (i : Int)) 11 nv tm) 12 nv p) 8 ((nv : Int) + 1)).2 10 x = if x = nv then (i : Int) else M2.2 10 x := fun x => by
      show (mPut (mPut (mPut M2 10 nv (i : Int)) 11 nv tm) 12 nv p).2 10 x = _
      rw [mPut_ne _ _ _ (by decide), mPut_ne _ _ _ (by decide)]
      by_cases c : x = nv
      · rw [if_pos c, c]; exact p2_1 _ _ _ _
      · rw [if_neg c]; exact p2_2 (k := 10) (k' := 10) M2 _ (Or.inr c)
    have r11 : ∀ x, (mSet (mPut (mPut (mPut M2 10 nv (i : Int)) 11 nv tm) 12 nv p) 8 ((nv : Int) + 1)).2 11 x = if x = nv then tm else M2.2 11 x := fun x => by
      show (mPut (mPut (mPut M2 10 nv (i : Int)) 11 nv tm) 12 nv p).2 11 x = _
      rw [mPut_ne _ _ _ (by decide)]
      by_cases c : x = nv
      · rw [if_pos c, c]; exact p2_1 _ _ _ _
      · rw [if_neg c, p2_2 (k := 11) (k' := 11) _ _ (Or.inr c), mPut_ne _ _ _ (by decide)]
    have r12 : ∀ x, (mSet (mPut (mPut (mPut M2 10 nv (i : Int)) 11 nv tm) 12 nv p) 8 ((nv : Int) + 1)).2 12 x = if x = nv then p else M2.2 12 x := fun x => by
      show (mPut (mPut (mPut M2 10 nv (i : Int)) 11 nv tm) 12 nv p).2 12 x = _
      by_cases c : x = nv
      · rw [if_pos c, c]; exact p2_1 _ _ _ _
      · rw [if_neg c, p2_2 (k := 12) (k' := 12) _ _ (Or.inr c), mPut_ne _ _ _ (by decide), mPut_ne _ _ _ (by decide)]
    have rk : ∀ k, ¬ (10 ≤ k ∧ k ≤ 12) → (mSet (mPut (mPut (mPut M2 10 nv (i : Int)) 11 nv tm) 12 nv p) 8 ((nv : Int) + 1)).2 k = M2.2 k := fun k hk => by
      show (mPut (mPut (mPut M2 10 nv (i : Int)) 11 nv tm) 12 nv p).2 k = _
      rw [mPut_ne _ _ _ (by omega), mPut_ne _ _ _ (by omega), mPut_ne _ _ _ (by omega)]
    refine ⟨mSet (mPut (mPut (mPut M2 10 nv (i : Int)) 11 nv tm) 12 nv p) 8 ((nv : Int) + 1), ?_, ⟨fun j hj => (mS2 (mPut (mPut (mPut M2 10 nv (i : Int)) 11 nv tm) 12 nv p) _ hj).trans (congrFun q1 j), mS1 _ _ _, fun k hk => (rk k (by omega)).trans (q2 k (by omega)), fun v hv => ⟨?_, ?_, ?_, fun k hk => ?_⟩, ⟨?_, ?_, ?_⟩, fun k hk => ?_⟩⟩
    · rw [if_pos (Int.le_refl _), e8, if_pos (inM (n := 120) rfl hnv (by decide)), bnd_eq, ix_n (by omega), a1, if_pos (inM (n := 120) rfl hnv (by decide)), bnd_eq, ix_n (by omega), a2, if_pos (inM (n := 120) rfl hnv (by decide)), bnd_eq, ix_n (by omega), bnd_eq, a3, mS1]
      rw [show (nv : Int) + 1 - 1 = (nv : Int) by omega]
    · rw [r10, if_neg (by omega), q2 10 (by decide)]
    · rw [r11, if_neg (by omega), q2 11 (by decide)]
    · rw [r12, if_neg (by omega), q2 12 (by decide)]
    · rw [rk 9 (by omega)]; exact q3 _ (by omega)
    · rw [r10, if_pos rfl]
    · rw [r11, if_pos rfl]
    · rw [r12, if_pos rfl]
    · rw [rk 9 (by omega)]; exact q4 k hk
/-- the titles settled -/
def StM (M M' : Md) (nv : Nat) : Prop := (∀ j, j ≠ 22 → M'.1 j = M.1 j) ∧ M.1 22 ≤ M'.1 22 ∧ M'.1 22 ≤ M.1 22 + 24 ∧ (∀ k, k ≠ 23 → k ≠ 26 → M'.2 k = M.2 k) ∧ ∀ t, t < 24 → M'.2 26 t = prAt M nv t ∧ if M.2 26 t = prAt M nv t then M'.2 23 t = M.2 23 t else M.1 22 < M'.2 23 t ∧ M'.2 23 t ≤ M'.1 22
theorem prAt_rng (M : Md) (nv t : Nat) : -1 ≤ prAt M nv t ∧ prAt M nv t < (nv : Int) ∨ prAt M nv t = -1 := by
  unfold prAt
  by_cases c : M.2 6 t = -1
  · rw [if_pos c]; exact Or.inr rfl
  · rw [if_neg c]
    rcases prs_rng M (M.2 6 t) nv with z | z
    · exact Or.inr z
    · exact Or.inl ⟨by omega, z.2⟩
theorem X12_settleTitles_ (h : VI M nv) (h6 : ∀ t, t < 24 → I32 (M.2 6 t)) (h26 : ∀ t, t < 24 → I32 (M.2 26 t)) : ∃ M', fX12_settleTitles M = some ((), M') ∧ StM M M' nv := by
  have h120 := h.2.1
  unfold fX12_settleTitles
  rw [bnd_eq]
  refine (lpn_rule (P := fun mm (L : Int → Md → Option (Unit × Md)) => ∀ (i : Nat) (M2 : Md), i ≤ 24 → 24 - i < mm → (∀ j, j ≠ 22 → M2.1 j = M.1 j) → M.1 22 ≤ M2.1 22 → M2.1 22 ≤ M.1 22 + (i : Int) → (∀ k, k ≠ 23 → k ≠ 26 → M2.2 k = M.2 k) → (∀ t, t < 24 → if t < i then (M2.2 26 t = prAt M nv t ∧ if M.2 26 t = prAt M nv t then M2.2 23 t = M.2 23 t else M.1 22 < M2.2 23 t ∧ M2.2 23 t ≤ M2.1 22) else (M2.2 26 t = M.2 26 t ∧ M2.2 23 t = M.2 23 t)) → ∃ M', L (i : Int) M2 = some ((), M') ∧ StM M M' nv) (fun i _ _ h => absurd h (Nat.not_lt_zero _)) (fun mm L hL i M2 hi hm q1 q2 q3 q4 q5 => ?_) FU) 0 M (Nat.zero_le _) (by unfold FU; omega) (fun _ _ => rfl) (Int.le_refl _) (by omega) (fun _ _ _ => rfl) (fun t ht => by rw [if_neg (Nat.not_lt_zero _)]; exact ⟨rfl, rfl⟩)
  rcases Nat.lt_or_ge i 24 with hlt | hge
  · have vs : VSame M M2 := ⟨fun j hj => q1 j (by omega), fun k hk => q4 k (by omega) (by omega)⟩
    have ep := X12_presentAt_ (h.same vs) hlt (by rw [q4 6 (by decide) (by decide)]; exact h6 i hlt)
    rw [prAt_same vs] at ep
    have qi := q5 i hlt
    rw [if_neg (Nat.lt_irrefl _)] at qi
    have r1 := prAt_rng M nv i
    have w1 : w32 (prAt M nv i) = prAt M nv i := w32_of (by omega) (by omega)
    have w2 : w32 (M.2 26 i) = M.2 26 i := w32_of (h26 i hlt).1 (h26 i hlt).2
    rw [if_neg (by rw [show w32 24 = 24 from rfl, w32_n (by omega)]; omega), cal_of ep, if_pos (inM (n := 24) rfl hlt (by decide)), bnd_eq, ix_n (by omega), qi.1, w1, w2, show (i : Int) + 1 = ((i + 1 : Nat) : Int) by omega]
    by_cases c : prAt M nv i = M.2 26 i
    · rw [if_pos c]
      refine hL (i + 1) M2 hlt (by omega) q1 q2 (by omega) q4 (fun t ht => ?_)
      have y := q5 t ht
      by_cases z : t < i
      · rw [if_pos z] at y; rw [if_pos (by omega)]; exact y
      · rw [if_neg z] at y
        by_cases z2 : t = i
        · rw [if_pos (by omega), z2, if_pos c.symm]; exact ⟨qi.1.trans c.symm, qi.2⟩
        · rw [if_neg (by omega)]; exact y
    · rw [if_neg c, if_pos (inM (n := 24) rfl hlt (by decide)), bnd_eq, bnd_eq, if_pos (inM (n := 24) rfl hlt (by decide)), bnd_eq, mS1]
      have s22 : (mPut M2 26 i (prAt M nv i)).1 22 = M2.1 22 := rfl
      rw [s22]
      have t22 : (mPut (mSet (mPut M2 26 i (prAt M nv i)) 22 (M2.1 22 + 1)) 23 i (M2.1 22 + 1)).1 22 = M2.1 22 + 1 := mS1 (mPut M2 26 i (prAt M nv i)) 22 _
      have t23 : ∀ x, (mPut (mSet (mPut M2 26 i (prAt M nv i)) 22 (M2.1 22 + 1)) 23 i (M2.1 22 + 1)).2 23 x = if x = i then M2.1 22 + 1 else M2.2 23 x := fun x => by
        by_cases e : x = i
        · rw [if_pos e, e]; exact p2_1 _ _ _ _
        · rw [if_neg e, p2_2 (k := 23) (k' := 23) _ _ (Or.inr e)]
          exact congrFun (mPut_ne (k := 26) (k' := 23) M2 i (prAt M nv i) (by decide)) x
      have t26 : ∀ x, (mPut (mSet (mPut M2 26 i (prAt M nv i)) 22 (M2.1 22 + 1)) 23 i (M2.1 22 + 1)).2 26 x = if x = i then prAt M nv i else M2.2 26 x := fun x => by
        rw [mPut_ne _ _ _ (by decide)]
        show (mPut M2 26 i (prAt M nv i)).2 26 x = _
        by_cases e : x = i
        · rw [if_pos e, e]; exact p2_1 _ _ _ _
        · rw [if_neg e]; exact p2_2 (k := 26) (k' := 26) _ _ (Or.inr e)
      refine hL (i + 1) _ hlt (by omega) (fun j hj => (mS2 (mPut M2 26 i (prAt M nv i)) _ hj).trans (q1 j hj)) (by rw [t22]; omega) (by rw [t22]; omega) (fun k k1 k2 => (mPut_ne _ _ _ k1).trans ((mPut_ne M2 _ _ k2).trans (q4 k k1 k2))) (fun t ht => ?_)
      rw [t22, t23, t26]
      have y := q5 t ht
      by_cases z2 : t = i
      · rw [if_pos (by omega), if_pos z2, if_pos z2, z2, if_neg (fun q => c q.symm)]
        exact ⟨rfl, by omega, Int.le_refl _⟩
      · rw [if_neg z2, if_neg z2]
        by_cases z : t < i
        · rw [if_pos z] at y; rw [if_pos (by omega)]
          refine ⟨y.1, ?_⟩
          have y2 := y.2
          by_cases z3 : M.2 26 t = prAt M nv t
          · rw [if_pos z3] at y2 ⊢; exact y2
          · rw [if_neg z3] at y2 ⊢; exact ⟨y2.1, by omega⟩
        · rw [if_neg z] at y; rw [if_neg (by omega)]; exact y
  · have e : i = 24 := by omega
    subst e
    rw [if_pos (by decide)]
    refine ⟨M2, rfl, q1, q2, q3, q4, fun t ht => ?_⟩
    have y := q5 t ht
    rw [if_pos ht] at y
    exact y
theorem X12_newPage_ {t np : Nat} (ht : t < 24) (h7 : M.1 7 = (np : Int)) : fX12_newPage (t : Int) M = some ((np : Int), mSet (mPut M 6 t (np : Int)) 7 ((np : Int) + 1)) := by
  unfold fX12_newPage
  rw [if_pos (inM (n := 24) rfl ht (by decide)), bnd_eq, ix_n (by omega), h7, bnd_eq, if_pos (inM (n := 24) rfl ht (by decide))]
  have e1 : (mPut M 6 t (np : Int)).1 7 = (np : Int) := h7
  rw [e1]
  have e2 : (mSet (mPut M 6 t (np : Int)) 7 ((np : Int) + 1)).2 6 t = (np : Int) := p2_1 M 6 t _
  rw [e2]
/-- a rendering dropped -/
theorem X12_drop_ {t ct : Nat} (ht : t < 24) (h27 : M.2 27 t = 1) (hct : ct < 256) (h32 : M.2 32 t = (ct : Int)) :
   ∃ M', fX12_dropRendering (t : Int) M = some ((), M') ∧ CtN (mPut M 27 t 0) M' ct 0 8 ∧ (∀ k, k ≠ 24 → k ≠ 32 → M'.2 k = (mPut M 27 t 0).2 k) ∧ M'.2 32 t = 0 ∧ ∀ s, s ≠ t → M'.2 32 s = M.2 32 s := by
  obtain ⟨M', e1, e2, e3, e4, e5⟩ := X12_setCategories_ (M := mPut M 27 t 0) ht hct (cu := 0) (by decide) ((congrFun (mPut_ne M _ _ (by decide)) t).trans h32)
  have e1' : fX12_setCategories (t : Int) 0 (mPut M 27 t 0) = some ((), M') := e1
  refine ⟨M', ?_, e2, e3, e4, fun s hs => (e5 s hs).trans (congrFun (mPut_ne M _ _ (by decide)) s)⟩
  unfold fX12_dropRendering
  rw [if_pos (inM (n := 24) rfl ht (by decide)), bnd_eq, ix_n (by omega), h27, if_neg (by decide), if_pos (inM (n := 24) rfl ht (by decide)), bnd_eq, cal_of e1']
theorem X12_drop_0 {t : Nat} (ht : t < 24) (h27 : M.2 27 t = 0) : fX12_dropRendering (t : Int) M = some ((), M) := by
  unfold fX12_dropRendering
  rw [if_pos (inM (n := 24) rfl ht (by decide)), bnd_eq, ix_n (by omega), h27, if_pos (by decide)]
end NVM
/-! THE ORDER, behind one more version -/
section ORD
variable {M M1 : Md} {p : Int} {nv : Nat}
def TmE (M M1 : Md) (nv : Nat) : Prop := ∀ v, v < nv → M1.2 11 v = M.2 11 v ∧ M1.2 12 v = M.2 12 v
theorem onp_e (h : TmE M M1 nv) {v : Nat} (hv : v < nv) (p : Int) : onp M1 p v = onp M p v := by unfold onp; rw [(h v hv).2]
theorem ahd_e (h : TmE M M1 nv) {v w : Nat} (hv : v < nv) (hw : w < nv) : ahd M1 v w = ahd M v w := by unfold ahd; rw [(h v hv).1, (h w hw).1]
theorem ipos_e {f g : Nat → Int} {t : Int} : ∀ n, (∀ i, i < n → f i = g i) → ipos f t n = ipos g t n := by
  intro n
  induction n with
  | zero => intro _; rfl
  | succ n ih => intro h; unfold ipos; rw [h n (Nat.lt_succ_self n), ih (fun i hi => h i (by omega))]
theorem cnt_onp_e (h : TmE M M1 nv) (p : Int) {n : Nat} (hn : n ≤ nv) : cnt (onp M1 p) n = cnt (onp M p) n := cnt_congr (fun k hk => onp_e h (by omega) p)
theorem prs_e (h : TmE M M1 nv) (p : Int) : ∀ n, n ≤ nv → prs M1 p n = prs M p n := by
  intro n
  induction n with
  | zero => intro _; rfl
  | succ n ih =>
    intro hn
    have r := prs_rng M p n
    rw [prs_succ, prs_succ, ih (by omega), onp_e h (by omega) p]
    by_cases c : prs M p n = -1
    · rw [c]
      by_cases d : onp M p n = true
      · rw [if_pos ⟨d, Or.inl rfl⟩, if_pos ⟨d, Or.inl rfl⟩]
      · rw [if_neg (fun z => d z.1), if_neg (fun z => d z.1)]
    · rw [ahd_e h (show (prs M p n).toNat < nv by omega) (by omega)]
theorem vsl_e (h : TmE M M1 nv) (p : Int) : ∀ n, n ≤ nv → vsl M1 p n = vsl M p n := by
  intro n
  induction n with
  | zero => intro _; rfl
  | succ n ih =>
    intro hn
    obtain ⟨hA, _⟩ := ord_all M p n
    have e1 := ih (by omega)
    have e2 := onp_e h (show n < nv by omega) p
    have e3 := cnt_onp_e h p (show n ≤ nv by omega)
    have e4 : ipos (fun i => M1.2 11 (vsl M p n i)) (M1.2 11 n) (cnt (onp M p) n) = ipos (fun i => M.2 11 (vsl M p n i)) (M.2 11 n) (cnt (onp M p) n) := by
      rw [(h n (by omega)).1]
      exact ipos_e _ (fun i hi => (h _ (by have := (hA i hi).1; omega)).1)
    unfold vsl
    rw [e1, e2, e3, e4]
end ORD
