/-! THE RELATION OF THE TWO STATES -/
section REL
/-- the last approval of a page -/
def aRef (M : Md) (AA : Nat → Nat) (p : Int) : Nat → Option Nat
  | 0 => none
  | n + 1 => if M.2 14 n = p then some (AA n) else aRef M AA p n
/-- what was approved last up to a time -/
def appr (M : Md) (p up : Int) : Nat → Int
  | 0 => -1
  | n + 1 => if M.2 14 n = p ∧ M.2 15 n ≤ up then M.2 16 n else appr M p up n
/-- the fast part -/
def RLy (b : Nat) (C : Cd) : Prop := Lay b C ∧ RXc b C ∧ RowV C (b + 6) [] ∧ (∃ g n, TxV C (b + 848) 60 g n) ∧ ∃ g n, TxV C (b + 851) 90 g n
/-- the draft -/
def RD (b : Nat) (M : Md) (C : Cd) (dn : Nat) (g : Nat → Int) : Prop := M.1 1 = (dn : Int) ∧ dn ≤ 30 ∧ TxV C (b + 845) 30 g dn ∧ Tkv g dn ∧ ∀ k, k < dn → M.2 0 k = g k
def RS (b : Nat) (M : Md) (C : Cd) : Prop := (M.1 2 = cI C 1409 b ∧ 0 ≤ M.1 2 ∧ M.1 2 ≤ 2) ∧ M.1 5 = cI C 1406 b ∧ M.1 13 = cI C 1408 b ∧ (M.1 71 = 0 ∨ (1 ≤ M.1 71 ∧ M.1 71 ≤ 30)) ∧ 0 ≤ M.1 68 ∧ M.1 68 < 16777216
/-- how far numbers go in kc calls -/
def RB (kc : Nat) (M : Md) : Prop := (0 ≤ M.1 5 ∧ M.1 5 ≤ 100 * (kc : Int)) ∧ M.1 13 ≤ (kc : Int) ∧ 0 ≤ M.1 22 ∧ M.1 22 ≤ 100 * (kc : Int)
/-- a title's own -/
def RTi (b : Nat) (M : Md) (C : Cd) (t : Nat) : Prop := (M.2 3 t = cI C 1204 (b + 13 + 6 * t) ∧ 0 ≤ M.2 3 t ∧ M.2 3 t ≤ 2) ∧ (M.2 4 t = cI C 1205 (b + 13 + 6 * t) ∧ 0 ≤ M.2 4 t ∧ M.2 4 t ≤ 99) ∧
  ∀ l, l < 2 → (M.2 17 (24 * l + t) = cE C (b + 13 + 6 * t + 4) (l + 1) ∧ -1 ≤ M.2 17 (24 * l + t) ∧ M.2 17 (24 * l + t) < 24) ∧ (M.2 17 (24 * l + t) ≠ -1 → M.2 18 (24 * l + t) = cE C (b + 13 + 6 * t + 5) (l + 1) ∧ 0 ≤ M.2 18 (24 * l + t) ∧ M.2 18 (24 * l + t) < 120)
/-- a module -/
def RMo (b : Nat) (M : Md) (C : Cd) (j : Nat) : Prop := ∃ ml : Nat, M.2 21 j = (ml : Int) ∧ ModC C (b + 157 + 3 * j) (fun i => M.2 19 (16 * j + i)) (fun i => M.2 20 (16 * j + i)) ml ∧ ∀ k, k < ml → (0 ≤ M.2 19 (16 * j + k) ∧ M.2 19 (16 * j + k) ≤ 8) ∧ 0 ≤ M.2 20 (16 * j + k) ∧ M.2 20 (16 * j + k) < 1000
/-- versions, pages, approvals -/
def RH (b : Nat) (M : Md) (C : Cd) (VA PA LE AA : Nat → Nat) (nv np na : Nat) : Prop := (VI M nv ∧ TI M nv ∧ cI C 1407 b = (nv : Int)) ∧ (M.1 7 = (np : Int) ∧ np ≤ nv ∧ ∀ v, v < nv → M.2 12 v < (np : Int)) ∧
  (M.1 13 = (na : Int) ∧ na ≤ 512 ∧ ∀ k, k < na → (0 ≤ M.2 14 k ∧ M.2 14 k < (np : Int)) ∧ (0 ≤ M.2 15 k ∧ M.2 15 k ≤ M.1 5) ∧ 0 ≤ M.2 16 k ∧ M.2 16 k < (nv : Int)) ∧
  ((∀ t, t < 24 → (M.2 6 t = -1 ∧ cR C 1203 (b + 13 + 6 * t) = none) ∨ ∃ p, p < np ∧ M.2 6 t = (p : Int) ∧ cR C 1203 (b + 13 + 6 * t) = some (PA p)) ∧ ∀ t t', t < 24 → t' < 24 → M.2 6 t = M.2 6 t' → M.2 6 t = -1 ∨ t = t') ∧
  (∀ v, v < nv → VerO C (VA v) v (M.2 11 v) (tx M v) (tl M v) ∧ b + 854 ≤ VA v) ∧
  (∀ p, p < np → 0 < cnt (onp M (p : Int)) nv ∧ PgA C (PA p) (cnt (onp M (p : Int)) nv) (LE p) (fun i => VA (vsl M (p : Int) nv i)) ∧ cR C 601 (PA p) = some (VA (prs M (p : Int) nv).toNat) ∧ cR C 602 (PA p) = aRef M AA (p : Int) na ∧ b + 854 ≤ PA p ∧ b + 854 ≤ LE p) ∧
  ∀ k, k < na → isO C (AA k) 3 ∧ cI C 300 (AA k) = M.2 15 k ∧ cR C 301 (AA k) = some (VA (M.2 16 k).toNat + 1) ∧ cR C 302 (AA k) = aRef M AA (M.2 14 k) k ∧ b + 854 ≤ AA k
/-- the ticks -/
def RK (M : Md) (nv : Nat) : Prop := (∀ t, t < 24 → M.2 26 t = prAt M nv t) ∧ (∀ k, k < 24 → 0 ≤ M.2 23 k ∧ M.2 23 k ≤ M.1 22) ∧ (∀ k, k < 8 → 0 ≤ M.2 24 k ∧ M.2 24 k ≤ M.1 22) ∧ (∀ k, k < 4 → 0 ≤ M.2 25 k ∧ M.2 25 k ≤ M.1 22) ∧ ∀ t, t < 24 → 0 ≤ M.2 28 t ∧ M.2 28 t ≤ M.1 22
/-- a rendering that is behind -/
def OldP (M : Md) (t rd cd us : Nat) : Prop := M.2 28 t < M.2 23 t ∨ (∃ k, k < 24 ∧ rd.testBit k = true ∧ M.2 28 t < M.2 23 k) ∨ (∃ k, k < 8 ∧ cd.testBit k = true ∧ M.2 28 t < M.2 24 k) ∨ ∃ k, k < 4 ∧ us.testBit k = true ∧ M.2 28 t < M.2 25 k
/-- a rendering -/
def RG (b : Nat) (M : Md) (C : Cd) (t : Nat) (r : List Int) (lk ct rd cd us : Nat) : Prop :=
  (cI C 701 (b + 13 + 6 * t + 1) = M.2 27 t ∧ (M.2 27 t = 0 ∨ M.2 27 t = 1)) ∧ (cI C 702 (b + 13 + 6 * t + 1) = 0 ∨ cI C 702 (b + 13 + 6 * t + 1) = 1) ∧ RowV C (b + 13 + 6 * t + 2) r ∧
  ((cI C 703 (b + 13 + 6 * t + 1) = (lk : Int) ∧ lk < 16777216) ∧ (cI C 704 (b + 13 + 6 * t + 1) = (ct : Int) ∧ ct < 256) ∧ (cI C 705 (b + 13 + 6 * t + 1) = (rd : Int) ∧ rd < 16777216) ∧ (cI C 706 (b + 13 + 6 * t + 1) = (cd : Int) ∧ cd < 256) ∧ (cI C 707 (b + 13 + 6 * t + 1) = (us : Int) ∧ us < 16)) ∧
  M.2 32 t = (ct : Int) ∧
  (M.2 27 t = 1 → (M.2 30 t = (r.length : Int) ∧ ∀ k, k < r.length → M.2 29 (150 * t + k) = r.getD k 0) ∧ (M.2 31 t = (lk : Int) ∧ M.2 33 t = (rd : Int) ∧ M.2 34 t = (cd : Int) ∧ M.2 35 t = (us : Int)) ∧ (cI C 702 (b + 13 + 6 * t + 1) = 1 ↔ OldP M t rd cd us) ∧ M.2 6 t ≠ -1) ∧
  (M.2 27 t = 0 → r = [] ∧ lk = 0 ∧ ct = 0 ∧ rd = 0 ∧ cd = 0 ∧ us = 0)
def RGs (b : Nat) (M : Md) (C : Cd) : Prop := ∀ t, t < 24 → ∃ r lk ct rd cd us, RG b M C t r lk ct rd cd us
/-- the relation -/
def RR (b kc : Nat) (M : Md) (C : Cd) : Prop := RLy b C ∧ (∃ dn g, RD b M C dn g) ∧ RS b M C ∧ RB kc M ∧ (∀ t, t < 24 → RTi b M C t) ∧ (∀ j, j < 4 → RMo b M C j) ∧ (∃ VA PA LE AA nv np na, RH b M C VA PA LE AA nv np na ∧ RK M nv) ∧ RGs b M C
/-- what a call may take -/
def RmL (b : Nat) (C C' : Cd) : Prop := csz C' + 2 * nRow b C ≤ csz C + 2 * nRow b C' + 500 ∧ csl C' + 153 * nRow b C ≤ csl C + 153 * nRow b C' + 10000 ∧ csz C ≤ csz C' ∧ csl C ≤ csl C'
/-- what lies behind the fast part stays, but rows of frames' parts -/
def HS (b : Nat) (C : Cd) (S : Nat → Nat → Nat → Prop) : Prop := ∀ q k a, a < csz C → S q k a → b + 854 ≤ a → (q = 0 ∧ (k = 801 ∨ k = 802)) ∨ (q = 2 ∧ ∃ d, DyC b C d ∧ a = d + 1)
variable {b kc : Nat} {M M' : Md} {C C' : Cd} {S : Nat → Nat → Nat → Prop} {VA PA LE AA : Nat → Nat} {nv np na t : Nat}
theorem aRef_congr {p : Int} : ∀ n, (∀ k, k < n → M'.2 14 k = M.2 14 k) → aRef M' AA p n = aRef M AA p n := by
  intro n
  induction n with
  | zero => intro _; rfl
  | succ n ih => intro h; unfold aRef; rw [h n (Nat.lt_succ_self n), ih (fun k hk => h k (by omega))]
/-- the same rows of versions in the reference -/
def VSame (M M' : Md) : Prop := (∀ j, (j = 7 ∨ j = 8 ∨ j = 13) → M'.1 j = M.1 j) ∧ ∀ k, ((9 ≤ k ∧ k ≤ 12) ∨ (14 ≤ k ∧ k ≤ 16) ∨ k = 6) → M'.2 k = M.2 k
theorem VSame.rf : VSame M M := ⟨fun _ _ => rfl, fun _ _ => rfl⟩
theorem onp_same (h : VSame M M') (p : Int) : onp M' p = onp M p := by funext v; unfold onp; rw [h.2 12 (by decide)]
theorem ahd_same (h : VSame M M') : ahd M' = ahd M := by funext v o; unfold ahd; rw [h.2 11 (by decide)]
theorem prs_same (h : VSame M M') (p : Int) : ∀ n, prs M' p n = prs M p n := by
  intro n
  induction n with
  | zero => rfl
  | succ n ih => rw [prs_succ, prs_succ, ih, onp_same h, ahd_same h]
theorem vsl_same (h : VSame M M') (p : Int) : ∀ n, vsl M' p n = vsl M p n := by
  intro n
  induction n with
  | zero => rfl
  | succ n ih =>
    unfold vsl
    rw [ih, onp_same h, h.2 11 (by decide)]
theorem prAt_same (h : VSame M M') (n t : Nat) : prAt M' n t = prAt M n t := by unfold prAt; rw [h.2 6 (by decide), prs_same h]
theorem tx_same (h : VSame M M') (v : Nat) : tx M' v = tx M v := by funext k; unfold tx; rw [h.2 9 (by decide)]
theorem tl_same (h : VSame M M') (v : Nat) : tl M' v = tl M v := by unfold tl; rw [h.2 10 (by decide)]
theorem VI.same (h : VSame M M') (v : VI M nv) : VI M' nv := by
  unfold VI at v ⊢
  rw [h.1 8 (by decide), h.2 10 (by decide), h.2 11 (by decide), h.2 12 (by decide)]
  exact v
theorem TI.same (h : VSame M M') (v : TI M nv) : TI M' nv := fun x hx => by rw [tx_same h, tl_same h]; exact v x hx
theorem LL.fp {L n e : Nat} {vs : Nat → Nat} (W : Wf C) (f : Fp S C C') (h : LL C L n e vs) (s1 : ¬ S 0 202 L) (s2 : ¬ S 1 201 L) (s3 : ¬ S 3 0 e) : LL C' L n e vs := by
  obtain ⟨h1, h2, h3, h4, h5, h6, h7, h8, h9⟩ := h
  refine ⟨f.ob W h1, (f.fI (W L h1.1) s1).trans h2, (f.fR (W L h1.1) s2).trans h3, h4, f.ob W h5, ?_, ?_, ?_, fun i hi => (f.fP (W e h5.1) s3 i).trans (h9 i hi)⟩
  · rw [f.len W h5]; exact h6
  · rw [f.len W h5]; exact h7
  · rw [f.len W h5]; exact h8
/-- the high part under what touches the fast part alone -/
theorem RH.low (h : RH b M C VA PA LE AA nv np na) (W : Wf C) (hL : Lay b C) (hX : RXc b C) (f : Fp S C C') (hs : HS b C S) (vs : VSame M M') (h5 : M.1 5 ≤ M'.1 5) (s1 : ¬ S 0 1407 b) (s2 : ∀ t, t < 24 → ¬ S 1 1203 (b + 13 + 6 * t)) : RH b M' C' VA PA LE AA nv np na := by
  obtain ⟨⟨a1, a2, a3⟩, ⟨b1, b2, b3⟩, ⟨c1, c2, c3⟩, ⟨d1, d2⟩, e1, f1, g1⟩ := h
  have hz := hL.sz
  have lo : ∀ {q k a : Nat}, b + 854 ≤ a → a < csz C → ¬ (q = 0 ∧ (k = 801 ∨ k = 802)) → q ≠ 2 → ¬ S q k a := fun hb ha n1 n2 z => (hs _ _ _ ha z hb).elim n1 (fun y => n2 y.1)
  have lo2 : ∀ {a t : Nat}, b + 854 ≤ a → isO C a 100 → (t = 11 ∨ t = 100) → isO C (a - 1) t → 0 < a → ¬ S 2 0 a := fun {a t} hb ha ht hp h0 z => by
    rcases hs _ _ _ (W a ha.1) z hb with y | ⟨_, d, ⟨ff, p, hf, hp', hd⟩, e⟩
    · omega
    · have r := (hX ff p d hf hp' hd).1.1
      have : a - 1 = d := by omega
      rw [this] at hp
      have t1 := hp.2
      have t2 := r.2
      rw [t1] at t2
      omega
  refine ⟨⟨a1.same vs, a2.same vs, (f.fI (by omega) s1).trans a3⟩, ⟨(vs.1 7 (by decide)).trans b1, b2, fun v hv => by rw [vs.2 12 (by decide)]; exact b3 v hv⟩, ⟨(vs.1 13 (by decide)).trans c1, c2, fun k hk => ?_⟩, ⟨fun t ht => ?_, fun t t' => by rw [vs.2 6 (by decide)]; exact d2 t t'⟩, fun v hv => ?_, fun p hp => ?_, fun k hk => ?_⟩
  · obtain ⟨x1, x2, x3⟩ := c3 k hk
    rw [vs.2 14 (by decide), vs.2 15 (by decide), vs.2 16 (by decide)]
    exact ⟨x1, ⟨x2.1, Int.le_trans x2.2 h5⟩, x3⟩
  · rw [vs.2 6 (by decide), f.fR (by omega) (s2 t ht)]
    exact d1 t ht
  · obtain ⟨x1, x2⟩ := e1 v hv
    rw [vs.2 11 (by decide), tx_same vs, tl_same vs]
    have x1' := x1
    obtain ⟨y1, y2, y3, y4, y5⟩ := x1
    have o1 := y5.1.1.1.1
    have o2 := y5.1.1.1.2.2.2.1
    have o3 := y5.1.1.1.2.2.2.2.1
    have z0 := W _ y1.1
    have z1 := W _ o1.1
    exact ⟨x1'.fp W f (lo x2 z0 (by omega) (by omega)) (lo x2 z0 (by omega) (by omega)) (lo x2 z0 (by omega) (by omega)) (lo (by omega) z1 (by omega) (by omega)) (lo (by omega) z1 (by omega) (by omega)) (lo (by omega) z1 (by omega) (by omega)) (lo2 (t := 11) (by omega) o2 (Or.inl rfl) o1 (by omega)) (lo2 (t := 100) (by omega) o3 (Or.inr rfl) o2 (by omega)), x2⟩
  · obtain ⟨x1, ⟨x2, x3, x4⟩, x5, x6, x7, x8⟩ := f1 p hp
    rw [onp_same vs, vsl_same vs, prs_same vs, aRef_congr (M := M) (M' := M') na (fun k _ => by rw [vs.2 14 (by decide)])]
    have z0 := W _ x2.1
    have z1 := W _ x4.1.1
    have z2 := W _ x4.2.2.2.2.1.1
    exact ⟨x1, ⟨f.ob W x2, (f.fR z0 (lo x7 z0 (by omega) (by omega))).trans x3, x4.fp W f (lo (by omega) z1 (by omega) (by omega)) (lo (by omega) z1 (by omega) (by omega)) (lo x8 z2 (by omega) (by omega))⟩, (f.fR z0 (lo x7 z0 (by omega) (by omega))).trans x5, (f.fR z0 (lo x7 z0 (by omega) (by omega))).trans x6, x7, x8⟩
  · obtain ⟨x1, x2, x3, x4, x5⟩ := g1 k hk
    have z0 := W _ x1.1
    rw [vs.2 14 (by decide), vs.2 15 (by decide), vs.2 16 (by decide), aRef_congr (M := M) (M' := M') k (fun k _ => by rw [vs.2 14 (by decide)])]
    exact ⟨f.ob W x1, (f.fI z0 (lo x5 z0 (by omega) (by omega))).trans x2, (f.fR z0 (lo x5 z0 (by omega) (by omega))).trans x3, (f.fR z0 (lo x5 z0 (by omega) (by omega))).trans x4, x5⟩
theorem RK.same (h : RK M nv) (vs : VSame M M') (e : M'.1 22 = M.1 22) (e2 : ∀ k, ((23 ≤ k ∧ k ≤ 26) ∨ k = 28) → M'.2 k = M.2 k) : RK M' nv := by
  obtain ⟨h1, h2, h3, h4, h5⟩ := h
  refine ⟨fun t ht => ?_, ?_, ?_, ?_, ?_⟩
  · rw [e2 26 (by decide), prAt_same vs]; exact h1 t ht
  · rw [e2 23 (by decide), e]; exact h2
  · rw [e2 24 (by decide), e]; exact h3
  · rw [e2 25 (by decide), e]; exact h4
  · rw [e2 28 (by decide), e]; exact h5
theorem RTi.low (h : RTi b M C t) (hL : Lay b C) (ht : t < 24) (f : Fp S C C') (s1 : ¬ S 0 1204 (b + 13 + 6 * t)) (s2 : ¬ S 0 1205 (b + 13 + 6 * t)) (s3 : ¬ S 2 0 (b + 13 + 6 * t + 4)) (s4 : ¬ S 2 0 (b + 13 + 6 * t + 5)) (e : ∀ k, (k = 3 ∨ k = 4 ∨ k = 17 ∨ k = 18) → M'.2 k = M.2 k) : RTi b M' C' t := by
  have hz := hL.sz
  obtain ⟨h1, h2, h3⟩ := h
  unfold RTi
  rw [e 3 (by decide), e 4 (by decide), e 17 (by decide), e 18 (by decide), f.fI (by omega) s1, f.fI (by omega) s2]
  refine ⟨h1, h2, fun l hl => ?_⟩
  rw [f.fE (by omega) s3, f.fE (by omega) s4]
  exact h3 l hl
theorem RMo.low {j : Nat} (h : RMo b M C j) (hL : Lay b C) (hj : j < 4) (f : Fp S C C') (s1 : ¬ S 0 1002 (b + 157 + 3 * j)) (s3 : ¬ S 2 0 (b + 157 + 3 * j + 1)) (s4 : ¬ S 2 0 (b + 157 + 3 * j + 2)) (e : ∀ k, (k = 19 ∨ k = 20 ∨ k = 21) → M'.2 k = M.2 k) : RMo b M' C' j := by
  have hz := hL.sz
  obtain ⟨ml, h1, ⟨h2, h3, h4⟩, h5⟩ := h
  refine ⟨ml, ?_, ⟨(f.fI (by omega) s1).trans h2, h3, fun k hk => ?_⟩, ?_⟩
  · rw [e 21 (by decide)]; exact h1
  · rw [e 19 (by decide), e 20 (by decide), f.fE (by omega) s3, f.fE (by omega) s4]; exact h4 k hk
  · rw [e 19 (by decide), e 20 (by decide)]; exact h5
theorem RG.low {r : List Int} {lk ct rd cd us : Nat} (h : RG b M C t r lk ct rd cd us) (hL : Lay b C) (ht : t < 24) (f : Fp S C C') (s1 : ∀ k, 701 ≤ k → k ≤ 707 → ¬ S 0 k (b + 13 + 6 * t + 1)) (s2 : ¬ S 1 800 (b + 13 + 6 * t + 2)) (s3 : ¬ S 0 801 (b + 13 + 6 * t + 2)) (s4 : ¬ S 0 802 (b + 13 + 6 * t + 2)) (s5 : ¬ S 2 0 (b + 13 + 6 * t + 2 + 1))
   (e : ∀ k, ((23 ≤ k ∧ k ≤ 35) ∨ k = 6) → M'.2 k = M.2 k) : RG b M' C' t r lk ct rd cd us := by
  have hz := hL.sz
  obtain ⟨h1, h2, h3, h4, h5, h6, h7⟩ := h
  have fi : ∀ k, 701 ≤ k → k ≤ 707 → cI C' k (b + 13 + 6 * t + 1) = cI C k (b + 13 + 6 * t + 1) := fun k a b => f.fI (by omega) (s1 k a b)
  have eo : OldP M' t rd cd us ↔ OldP M t rd cd us := by
    unfold OldP
    rw [e 23 (by decide), e 24 (by decide), e 25 (by decide), e 28 (by decide)]
  unfold RG
  rw [e 27 (by decide), e 29 (by decide), e 30 (by decide), e 31 (by decide), e 32 (by decide), e 33 (by decide), e 34 (by decide), e 35 (by decide), e 6 (by decide), fi 701 (by decide) (by decide), fi 702 (by decide) (by decide), fi 703 (by decide) (by decide), fi 704 (by decide) (by decide), fi 705 (by decide) (by decide), fi 706 (by decide) (by decide), fi 707 (by decide) (by decide), eo]
  exact ⟨h1, h2, h3.fp hL.W f s2 s3 s4 s5, h4, h5, h6, h7⟩
end REL
