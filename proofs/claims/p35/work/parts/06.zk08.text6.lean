/-! TEXTS: new ones, settled ones, sections put on, titles led on -/
theorem X8_init_ {C : Cd} (W : Wf C) {n : Nat} (hn : n ≤ 90) : ∃ C', fX8_init (csz C) (n : Int) (cNew C 11) = some ((), C') ∧ TxI C' (csz C) n 0 ∧ Kp (fun _ => False) C C' ∧ csz C' = csz C + 3 ∧ csl C' = csl C + 3 + 2 * n ∧ Wf C' := by
  have W1 := Wf_N W 11
  have W2 : Wf (cSetI (cNew C 11) 1102 (csz C) 0) := Wf_I W1 _ _ _
  have W3 : Wf (cNewA (cSetI (cNew C 11) 1102 (csz C) 0) 100 n) := Wf_A W2 _ _
  have W4 : Wf (cSetR (cNewA (cSetI (cNew C 11) 1102 (csz C) 0) 100 n) 1100 (csz C) (some (csz C + 1))) := Wf_R W3 _ _ _
  have W5 : Wf (cNewA (cSetR (cNewA (cSetI (cNew C 11) 1102 (csz C) 0) 100 n) 1100 (csz C) (some (csz C + 1))) 100 n) := Wf_A W4 _ _
  have z1 : csz (cSetI (cNew C 11) 1102 (csz C) 0) = csz C + 1 := rfl
  have z2 : csz (cSetR (cNewA (cSetI (cNew C 11) 1102 (csz C) 0) 100 n) 1100 (csz C) (some (csz C + 1))) = csz C + 2 := rfl
  have o1 : isO (cNew C 11) (csz C) 11 := isO_N1 C 11
  have o2 : isO (cSetI (cNew C 11) 1102 (csz C) 0) (csz C) 11 := o1
  have o3 : isO (cNewA (cSetI (cNew C 11) 1102 (csz C) 0) 100 n) (csz C) 11 := isO_A2 W2 _ _ o2
  have o3b : isO (cNewA (cSetI (cNew C 11) 1102 (csz C) 0) 100 n) (csz C + 1) 100 := isO_A1 _ _ _
  have o4 : isO (cSetR (cNewA (cSetI (cNew C 11) 1102 (csz C) 0) 100 n) 1100 (csz C) (some (csz C + 1))) (csz C) 11 := o3
  have o4b : isO (cSetR (cNewA (cSetI (cNew C 11) 1102 (csz C) 0) 100 n) 1100 (csz C) (some (csz C + 1))) (csz C + 1) 100 := o3b
  have o5 : isO (cNewA (cSetR (cNewA (cSetI (cNew C 11) 1102 (csz C) 0) 100 n) 1100 (csz C) (some (csz C + 1))) 100 n) (csz C) 11 := isO_A2 W4 _ _ o4
  have o5b : isO (cNewA (cSetR (cNewA (cSetI (cNew C 11) 1102 (csz C) 0) 100 n) 1100 (csz C) (some (csz C + 1))) 100 n) (csz C + 1) 100 := isO_A2 W4 _ _ o4b
  have o5c : isO (cNewA (cSetR (cNewA (cSetI (cNew C 11) 1102 (csz C) 0) 100 n) 1100 (csz C) (some (csz C + 1))) 100 n) (csz C + 2) 100 := isO_A1 _ _ _
  have n1 : cn (cNewA (cSetI (cNew C 11) 1102 (csz C) 0) 100 n) (csz C + 1) = n := cn_A1 _ _ _
  have n2 : cn (cNewA (cSetR (cNewA (cSetI (cNew C 11) 1102 (csz C) 0) 100 n) 1100 (csz C) (some (csz C + 1))) 100 n) (csz C + 1) = n := (cn_A2 _ _ _ (show csz C + 1 ≠ csz C + 2 by omega)).trans n1
  have n3 : cn (cNewA (cSetR (cNewA (cSetI (cNew C 11) 1102 (csz C) 0) 100 n) 1100 (csz C) (some (csz C + 1))) 100 n) (csz C + 2) = n := cn_A1 _ _ _
  refine ⟨cSetR (cNewA (cSetR (cNewA (cSetI (cNew C 11) 1102 (csz C) 0) 100 n) 1100 (csz C) (some (csz C + 1))) 100 n) 1101 (csz C) (some (csz C + 2)), ?_, ⟨⟨o5, ?_, cR_R1 _ _ _ _, o5b, o5c, n2, n3, hn⟩, cI_I1 _ _ _ _, Nat.zero_le _, fun k hk => absurd hk (Nat.not_lt_zero _)⟩, ?_, rfl, ?_, Wf_R W5 _ _ _⟩
  · unfold fX8_init
    have r1 : cR (cSetR (cNewA (cSetI (cNew C 11) 1102 (csz C) 0) 100 n) 1100 (csz C) (some (csz C + 1))) 1100 (csz C) = some (csz C + 1) := cR_R1 _ _ _ _
    have n1' : cn (cSetR (cNewA (cSetI (cNew C 11) 1102 (csz C) 0) 100 n) 1100 (csz C) (some (csz C + 1))) (csz C + 1) = n := n1
    simp (disch := omega) only [isO, ↓bnd_eq, ↓reduceIte, ↓drf_some, ↓cal_some, ↓calx_inl, ↓calx_inr, ↓opt_some, ↓opt_none, w32_of, ix_of, inR, le_t, le_f, lt_t, lt_f, eq_t, eq_f, and_self, true_and, and_true, false_and, and_false, not_true_eq_false, not_false_eq_true, or_true, true_or, or_false, false_or, Bool.false_eq_true, o1, o2, z1, Int.toNat_natCast, o3, o4, o4b, ↓drf_eq r1, n1', z2, o5]
  · rw [cR_R2 _ _ (Or.inl (by omega))]
    exact cR_R1 _ _ _ _
  · have k1 : Kp (fun _ => False) C (cNew C 11) := Kp.N W 11
    have k2 : Kp (fun q => q = csz C) (cNew C 11) (cSetI (cNew C 11) 1102 (csz C) 0) := Kp.I W1 _ _ _ rfl
    have k3 : Kp (fun q => q = csz C) (cSetI (cNew C 11) 1102 (csz C) 0) (cNewA (cSetI (cNew C 11) 1102 (csz C) 0) 100 n) := Kp.A W2 _ _
    have k4 : Kp (fun q => q = csz C) (cNewA (cSetI (cNew C 11) 1102 (csz C) 0) 100 n) (cSetR (cNewA (cSetI (cNew C 11) 1102 (csz C) 0) 100 n) 1100 (csz C) (some (csz C + 1))) := Kp.R W3 _ _ _ rfl
    have k5 : Kp (fun q => q = csz C) (cSetR (cNewA (cSetI (cNew C 11) 1102 (csz C) 0) 100 n) 1100 (csz C) (some (csz C + 1))) (cNewA (cSetR (cNewA (cSetI (cNew C 11) 1102 (csz C) 0) 100 n) 1100 (csz C) (some (csz C + 1))) 100 n) := Kp.A W4 _ _
    have k6 : Kp (fun q => q = csz C) (cNewA (cSetR (cNewA (cSetI (cNew C 11) 1102 (csz C) 0) 100 n) 1100 (csz C) (some (csz C + 1))) 100 n) (cSetR (cNewA (cSetR (cNewA (cSetI (cNew C 11) 1102 (csz C) 0) 100 n) 1100 (csz C) (some (csz C + 1))) 100 n) 1101 (csz C) (some (csz C + 2))) := Kp.R W5 _ _ _ rfl
    exact k1.tr2 ((((k2.tr k3).tr k4).tr k5).tr k6) (fun b hb e => absurd e (Nat.ne_of_lt hb))
  · show csl C + nF 11 + n + n = _
    have : nF 11 = 3 := rfl
    omega
/-- a text whose ends are written -/
def Stl (C : Cd) (t : Nat) (g : Nat → Int) (n : Nat) : Prop := TxV C t n g n ∧ ∀ k, k < n → cE C (t + 2) k = (fE g n k : Int)
theorem fEg_hi (g : Nat → Int) (part : Bool) : ∀ m d i, fEg g part d i m ≤ i + m := by
  intro m
  induction m with
  | zero => intro d i; exact Nat.le_refl _
  | succ m ih =>
    intro d i
    unfold fEg
    by_cases c : d = 0 ∧ (g i / 1000 = 7 ∨ part = true ∧ mkB (g i / 1000) = true)
    · rw [if_pos c]; omega
    · rw [if_neg c]
      have := ih (d + dlt (g i / 1000)) (i + 1)
      omega
theorem fEg_lo (g : Nat → Int) (part : Bool) : ∀ m d i, i ≤ fEg g part d i m := by
  intro m
  induction m with
  | zero => intro d i; exact Nat.le_refl _
  | succ m ih =>
    intro d i
    unfold fEg
    by_cases c : d = 0 ∧ (g i / 1000 = 7 ∨ part = true ∧ mkB (g i / 1000) = true)
    · rw [if_pos c]; omega
    · rw [if_neg c]
      have := ih (d + dlt (g i / 1000)) (i + 1)
      omega
theorem fE_le (g : Nat → Int) {n p : Nat} (hp : p < n) : fE g n p ≤ n := by
  unfold fE
  have := fEg_hi g (mkB (g p / 1000)) (n - (p + 1)) 0 (p + 1)
  omega
theorem fE_gt (g : Nat → Int) (n p : Nat) : p < fE g n p := fEg_lo g (mkB (g p / 1000)) (n - (p + 1)) 0 (p + 1)
section TX6
variable {C : Cd} {a b cap capb n m : Nat} {g f : Nat → Int}
theorem X8_settled_ (W : Wf C) (h : TxV C a cap g n) : ∃ C', fX8_settled a C = some (some (csz C), C') ∧ Stl C' (csz C) g n ∧ Kp (fun _ => False) C C' ∧ csz C' = csz C + 3 ∧ csl C' = csl C + 3 + 2 * n := by
  have hO := h.isO_
  have hz := h.sz
  have hn := h.n90
  have hac : a < csz C := W a hO.1
  have ha1c : a + 1 < csz C := W _ h.1.1.2.2.2.1.1
  obtain ⟨C2, e2, t2, k2, s2, l2, W2⟩ := X8_init_ W hn
  have h2 := h.kp W k2 (fun e => e) (fun e => e)
  have hV2 : TxV C2 (csz C) n g 0 := ⟨t2, fun k hk => absurd hk (Nat.not_lt_zero _)⟩
  obtain ⟨C3, e3, t3, o3⟩ := X8_addStretch_ (a := csz C) (p := a) (capp := cap) (np := n) (f := g) (by omega) (fr := 0) (to := n) (Nat.le_refl _) C2 g 0 (Nat.zero_le _) hV2 h2 (by omega)
  rw [show 0 + (n - 0) = n by omega] at t3
  have t3' : TxV C3 (csz C) n g n := t3.ext (fun k hk => by
    unfold cat
    rw [if_neg (Nat.not_lt_zero _)]
    show g (0 + (k - 0)) = g k
    congr 1
    omega)
  have W3 := o3.wf W2
  have k3 := o3.kp W2
  have e0 : fX8_settled a C = lpn (fun (_ : Int) (_ : Cd) => (none : Option (Option Nat × Cd))) (fun L24 (v2_24 : Int) (C_24 : Cd) =>
if isO C_24 (csz C) 11 then bnd (cR C_24 1101 (csz C)) fun (z6 : Option Nat) =>
drf z6 fun (p7 : Nat) =>
if isO C_24 p7 100 then
if w32 (cn C_24 p7 : Int) ≤ w32 v2_24 then
some ((some (csz C)), C_24)
else
if isO C_24 (csz C) 11 then bnd (cR C_24 1101 (csz C)) fun (z8 : Option Nat) =>
if isO C_24 (csz C) 11 then cal (fX8_findEnd (csz C) v2_24 C_24) fun (r10 : Int) (C9 : Cd) =>
drf z8 fun (p11 : Nat) =>
if isO C9 p11 100 ∧ inR v2_24 (cn C9 p11) then bnd (cSetE C9 p11 (ix v2_24) r10) fun (C12 : Cd) =>
L24 (v2_24 + 1) C12
else none
else none
else none
else none
else none) FU 0 C3 := by
    unfold fX8_settled
    generalize (lpn (fun (_ : Int) (_ : Cd) => (none : Option (Option Nat × Cd))) (fun L24 (v2_24 : Int) (C_24 : Cd) =>
if isO C_24 (csz C) 11 then bnd (cR C_24 1101 (csz C)) fun (z6 : Option Nat) =>
drf z6 fun (p7 : Nat) =>
if isO C_24 p7 100 then
if w32 (cn C_24 p7 : Int) ≤ w32 v2_24 then
some ((some (csz C)), C_24)
else
if isO C_24 (csz C) 11 then bnd (cR C_24 1101 (csz C)) fun (z8 : Option Nat) =>
if isO C_24 (csz C) 11 then cal (fX8_findEnd (csz C) v2_24 C_24) fun (r10 : Int) (C9 : Cd) =>
drf z8 fun (p11 : Nat) =>
if isO C9 p11 100 ∧ inR v2_24 (cn C9 p11) then bnd (cSetE C9 p11 (ix v2_24) r10) fun (C12 : Cd) =>
L24 (v2_24 + 1) C12
else none
else none
else none
else none
else none) FU) = L0
    have q1 : isO (cNew C 11) a 11 := isO_N2 W 11 hO
    have q2 : cI (cNew C 11) 1102 a = (n : Int) := (cI_N2 C 11 (Nat.ne_of_lt hac)).trans hz
    have q3 := h2.isO_
    have q4 := h2.sz
    have q5 := hV2.isO_
    rw [show ((0 : Nat) : Int) = 0 from rfl] at e3
    simp (disch := omega) only [isO, ↓bnd_eq, ↓reduceIte, ↓drf_some, ↓cal_some, ↓calx_inl, ↓calx_inr, ↓opt_some, ↓opt_none, w32_of, ix_of, inR, le_t, le_f, lt_t, lt_f, eq_t, eq_f, and_self, true_and, and_true, false_and, and_false, not_true_eq_false, not_false_eq_true, or_true, true_or, or_false, false_or, Bool.false_eq_true, q1, q2, ↓cal_of e2, q3, q4, q5, ↓cal_of e3]
  rw [e0]
  obtain ⟨C4, e4, t4, k4, s4, l4⟩ : ∃ C', lpn (fun (_ : Int) (_ : Cd) => (none : Option (Option Nat × Cd))) (fun L24 (v2_24 : Int) (C_24 : Cd) =>
if isO C_24 (csz C) 11 then bnd (cR C_24 1101 (csz C)) fun (z6 : Option Nat) =>
drf z6 fun (p7 : Nat) =>
if isO C_24 p7 100 then
if w32 (cn C_24 p7 : Int) ≤ w32 v2_24 then
some ((some (csz C)), C_24)
else
if isO C_24 (csz C) 11 then bnd (cR C_24 1101 (csz C)) fun (z8 : Option Nat) =>
if isO C_24 (csz C) 11 then cal (fX8_findEnd (csz C) v2_24 C_24) fun (r10 : Int) (C9 : Cd) =>
drf z8 fun (p11 : Nat) =>
if isO C9 p11 100 ∧ inR v2_24 (cn C9 p11) then bnd (cSetE C9 p11 (ix v2_24) r10) fun (C12 : Cd) =>
L24 (v2_24 + 1) C12
else none
else none
else none
else none
else none) FU 0 C3 = some (some (csz C), C') ∧ Stl C' (csz C) g n ∧ Kp (fun q => q = csz C + 2) C3 C' ∧ csz C' = csz C3 ∧ csl C' = csl C3 := by
    refine (lpn_rule (P := fun mm (L : Int → Cd → Option (Option Nat × Cd)) => ∀ (i : Nat) (C1 : Cd), i ≤ n → n - i < mm → Wf C1 → TxV C1 (csz C) n g n → (∀ k, k < i → cE C1 (csz C + 2) k = (fE g n k : Int)) →
      ∃ C', L (i : Int) C1 = some (some (csz C), C') ∧ Stl C' (csz C) g n ∧ Kp (fun q => q = csz C + 2) C1 C' ∧ csz C' = csz C1 ∧ csl C' = csl C1) (fun i _ _ h => absurd h (Nat.not_lt_zero _)) (fun mm L hL i C1 hin hm hw1 h1 hpre => ?_) FU) 0 C3 (Nat.zero_le _) (by unfold FU; omega) W3 t3' (fun k hk => absurd hk (Nat.not_lt_zero _))
    have q1 := h1.isO_
    have q2 := h1.1.1.2.2.1
    have q3 := h1.1.1.2.2.2.2.1
    have q4 := h1.1.1.2.2.2.2.2.2.1
    rcases Nat.lt_or_ge i n with hlt | hge
    · have hk : Kp (fun q => q = csz C + 2) C1 (cSetE C1 (csz C + 2) i (fE g n i : Int)) := Kp.E hw1 _ _ _ rfl
      obtain ⟨C', r1, r2, r3, r4, r5⟩ := hL (i + 1) (cSetE C1 (csz C + 2) i (fE g n i : Int)) hlt (by omega) (Wf_E hw1 _ _ _) (h1.kp hw1 hk (by omega) (by omega)) (fun k hk => by
        rcases Nat.lt_or_ge k i with z | z
        · rw [cE_E2 _ _ (Or.inr (by omega))]; exact hpre k z
        · have e : k = i := by omega
          subst e; exact cE_E1 _ _ _ _)
      refine ⟨C', ?_, r2, hk.tr r3, r4, r5⟩
      rw [← r1]
      have q5 := X8_findEnd_ h1 hlt
      have q6 : ix (i : Int) = i := ix_n (by omega)
      simp (disch := omega) only [isO, ↓bnd_eq, ↓reduceIte, ↓drf_some, ↓cal_some, ↓calx_inl, ↓calx_inr, ↓opt_some, ↓opt_none, w32_of, ix_of, inR, le_t, le_f, lt_t, lt_f, eq_t, eq_f, and_self, true_and, and_true, false_and, and_false, not_true_eq_false, not_false_eq_true, or_true, true_or, or_false, false_or, Bool.false_eq_true, q1, ↓drf_eq q2, q3, q4, ↓cal_of q5, q6]
      rfl
    · have e : i = n := by omega
      subst e
      refine ⟨C1, ?_, ⟨h1, hpre⟩, Kp.rf hw1 _, rfl, rfl⟩
      simp (disch := omega) only [isO, ↓bnd_eq, ↓reduceIte, ↓drf_some, ↓cal_some, ↓calx_inl, ↓calx_inr, ↓opt_some, ↓opt_none, w32_of, ix_of, inR, le_t, le_f, lt_t, lt_f, eq_t, eq_f, and_self, true_and, and_true, false_and, and_false, not_true_eq_false, not_false_eq_true, or_true, true_or, or_false, false_or, Bool.false_eq_true, q1, ↓drf_eq q2, q3, q4]
  refine ⟨C4, e4, t4, ?_, ?_, ?_⟩
  · exact k2.tr2 ((k3.mono (T := fun q => csz C ≤ q) (fun b _ e => by rcases e with e | e <;> omega)).tr (k4.mono (fun b _ e => by omega))) (fun b hb e => absurd e (by omega))
  · rw [s4, o3.csz, s2]
  · have e5 : csl C3 = csl C2 := congrArg (fun (z : (Nat → Nat → Option Nat) × (Nat → Nat) × (Nat → Nat) × List Nat × Nat × Nat) => z.2.2.2.2.2) o3.2.1
    rw [l4, e5, l2]
/-- a section of another text behind a text -/
theorem X8_addSection_ (hap : b ≠ a) (h : TxV C a cap g n) (h2 : TxV C b capb f m) {s : Nat} (hs : s < 900) (hc : n + (sst f m (s + 1) - sst f m s) ≤ cap) :
    ∃ C', fX8_addSection a (some b) (s : Int) C = some ((), C') ∧ TxV C' a cap (cat g n (fun i => f (sst f m s + i))) (n + (sst f m (s + 1) - sst f m s)) ∧ TxOnly C C' a := by
  have q1 := X8_sectionStart_ h2 (s := s) (by omega)
  have q2 := X8_sectionStart_ h2 (s := s + 1) (by omega)
  rw [show ((s + 1 : Nat) : Int) = (s : Int) + 1 from rfl] at q2
  have hO := h.isO_
  have hO2 := h2.isO_
  obtain ⟨C', e, t, o⟩ := X8_addStretch_ (a := a) (p := b) (capp := capb) (np := m) (f := f) hap (fr := sst f m s) (to := sst f m (s + 1)) (sst_le f m (s + 1)) C g n (sst_mono f m (Nat.le_succ s)) h h2 hc
  refine ⟨C', ?_, t, o⟩
  unfold fX8_addSection
  simp (disch := omega) only [isO, ↓bnd_eq, ↓reduceIte, ↓drf_some, ↓cal_some, ↓calx_inl, ↓calx_inr, ↓opt_some, ↓opt_none, w32_of, ix_of, inR, le_t, le_f, lt_t, lt_f, eq_t, eq_f, and_self, true_and, and_true, false_and, and_false, not_true_eq_false, not_false_eq_true, or_true, true_or, or_false, false_or, Bool.false_eq_true, hO, hO2, ↓cal_of q1, ↓cal_of q2, ↓cal_of e]
/-- led on -/
def wlo (g : Nat → Int) (G : Nat) (by_ : Int) (k : Nat) : Int := if ldk (g k / 1000) && G.testBit (g k % 1000).toNat then g k + by_ else g k
theorem wlo_t {g : Nat → Int} {G : Nat} {by_ : Int} {k : Nat} (h : LI g G k) : wlo g G by_ k = g k + by_ := by
  unfold wlo
  rw [h.1, h.2]
  rfl
theorem wlo_f {g : Nat → Int} {G : Nat} {by_ : Int} {k : Nat} (h : ¬ LI g G k) : wlo g G by_ k = g k := by
  unfold wlo
  rw [if_neg]
  intro q
  rw [Bool.and_eq_true] at q
  exact h q
theorem X8_writeLeadingOn_ (hab : a ≠ b) (h : TxV C a cap g n) (hk : Tkv g n) (hb : ∃ m f, TxV C b capb f m) (hcap : n ≤ capb) {G : Nat} (hG : G < 16777216) {by_ : Int} (b1 : -24 ≤ by_) (b2 : by_ ≤ 24) (hby : ∀ k, k < n → LI g G k → 0 ≤ g k + by_ ∧ g k + by_ < 14000) :
    ∃ C', fX8_writeLeadingOn a (G : Int) by_ (some b) C = some ((), C') ∧ TxV C' b capb (wlo g G by_) n ∧ TxOnly C C' b := by
  obtain ⟨m, f, hb⟩ := hb
  have hOb := hb.isO_
  have hn := h.n90
  obtain ⟨C1, e1, t1, o1⟩ := X8_clear_ hb.1 (wlo g G by_)
  have h1 := h.keep o1 hab
  obtain ⟨C2, e2, t2, o2⟩ : ∃ C', lpn (fun (_ : Int) (_ : Cd) => (none : Option (Unit × Cd))) (fun L7 (v4_7 : Int) (C_7 : Cd) =>
if isO C_7 a 11 then
if w32 (cI C_7 1102 a) ≤ w32 v4_7 then
some ((), C_7)
else
if isO C_7 a 11 then cal (fX8_leadsInto a v4_7 (G : Int) C_7) fun (r5 : Int) (C4 : Cd) =>
bnd (fun (t0_44 : Int) (C_44 : Cd) =>
if isO C_44 b 11 then cal (fX8_add b t0_44 C_44) fun (r7 : Unit) (C6 : Cd) =>
L7 (v4_7 + 1) C6
else none) fun J44 =>
if w32 r5 = 0 then
if isO C4 a 11 then cal (fX8_codeAt a v4_7 C4) fun (r9 : Int) (C8 : Cd) =>
J44 r9 C8
else none
else
if isO C4 a 11 then cal (fX8_codeAt a v4_7 C4) fun (r11 : Int) (C10 : Cd) =>
J44 (r11 + by_) C10
else none
else none
else none) FU 0 C1 = some ((), C') ∧ TxV C' b capb (wlo g G by_) n ∧ TxOnly C1 C' b := by
    refine (lpn_rule (P := fun mm (L : Int → Cd → Option (Unit × Cd)) => ∀ (i : Nat) (C1 : Cd), i ≤ n → n - i < mm → TxV C1 a cap g n → TxV C1 b capb (wlo g G by_) i →
      ∃ C', L (i : Int) C1 = some ((), C') ∧ TxV C' b capb (wlo g G by_) n ∧ TxOnly C1 C' b) (fun i _ _ h => absurd h (Nat.not_lt_zero _)) (fun mm L hL i C1 hin hm h1 hb1 => ?_) FU) 0 C1 (Nat.zero_le _) (by unfold FU; omega) h1 t1
    have q1 := h1.isO_
    have q2 := h1.sz
    have q3 := hb1.isO_
    have q4 := h1.n90
    rcases Nat.lt_or_ge i n with hlt | hge
    · have ht := h1.tks i hlt
      have hcd := h1.code hlt
      have hval : 0 ≤ wlo g G by_ i ∧ wlo g G by_ i < 14000 := by
        by_cases c : LI g G i
        · rw [wlo_t c]; exact hby i hlt c
        · rw [wlo_f c]; exact ht
      obtain ⟨C2, e2, t2, o2⟩ := X8_add_ (v := wlo g G by_ i) hb1 (by omega) hval.1 hval.2
      have t2' : TxV C2 b capb (wlo g G by_) (i + 1) := t2.ext (fun k hk => by
        unfold cat
        by_cases z : k < i
        · rw [if_pos z]
        · rw [if_neg z]
          have e : k = i := by omega
          rw [e])
      obtain ⟨C3, e3, t3, o3⟩ := hL (i + 1) C2 hlt (by omega) (h1.keep o2 hab) t2'
      refine ⟨C3, ?_, t3, o2.tr o3⟩
      rw [← e3]
      rcases X8_leadsInto_1 h1 hk hlt hG with ⟨e, p⟩ | ⟨e, p⟩
      · rw [wlo_t p] at e2
        simp (disch := omega) only [isO, ↓bnd_eq, ↓reduceIte, ↓drf_some, ↓cal_some, ↓calx_inl, ↓calx_inr, ↓opt_some, ↓opt_none, w32_of, ix_of, inR, le_t, le_f, lt_t, lt_f, eq_t, eq_f, and_self, true_and, and_true, false_and, and_false, not_true_eq_false, not_false_eq_true, or_true, true_or, or_false, false_or, Bool.false_eq_true, q1, q2, q3, ↓cal_of e, ↓cal_of hcd, ↓cal_of e2]
        rfl
      · rw [wlo_f p] at e2
        simp (disch := omega) only [isO, ↓bnd_eq, ↓reduceIte, ↓drf_some, ↓cal_some, ↓calx_inl, ↓calx_inr, ↓opt_some, ↓opt_none, w32_of, ix_of, inR, le_t, le_f, lt_t, lt_f, eq_t, eq_f, and_self, true_and, and_true, false_and, and_false, not_true_eq_false, not_false_eq_true, or_true, true_or, or_false, false_or, Bool.false_eq_true, q1, q2, q3, ↓cal_of e, ↓cal_of hcd, ↓cal_of e2]
        rfl
    · have e : i = n := by omega
      subst e
      refine ⟨C1, ?_, hb1, TxOnly.rfl _ _⟩
      simp (disch := omega) only [isO, ↓bnd_eq, ↓reduceIte, ↓drf_some, ↓cal_some, ↓calx_inl, ↓calx_inr, ↓opt_some, ↓opt_none, w32_of, ix_of, inR, le_t, le_f, lt_t, lt_f, eq_t, eq_f, and_self, true_and, and_true, false_and, and_false, not_true_eq_false, not_false_eq_true, or_true, true_or, or_false, false_or, Bool.false_eq_true, q1, q2]
  refine ⟨C2, ?_, t2, o1.tr o2⟩
  unfold fX8_writeLeadingOn
  rw [drf_some, ← e2]
  generalize (lpn (fun (_ : Int) (_ : Cd) => (none : Option (Unit × Cd))) (fun L7 (v4_7 : Int) (C_7 : Cd) =>
if isO C_7 a 11 then
if w32 (cI C_7 1102 a) ≤ w32 v4_7 then
some ((), C_7)
else
if isO C_7 a 11 then cal (fX8_leadsInto a v4_7 (G : Int) C_7) fun (r5 : Int) (C4 : Cd) =>
bnd (fun (t0_44 : Int) (C_44 : Cd) =>
if isO C_44 b 11 then cal (fX8_add b t0_44 C_44) fun (r7 : Unit) (C6 : Cd) =>
L7 (v4_7 + 1) C6
else none) fun J44 =>
if w32 r5 = 0 then
if isO C4 a 11 then cal (fX8_codeAt a v4_7 C4) fun (r9 : Int) (C8 : Cd) =>
J44 r9 C8
else none
else
if isO C4 a 11 then cal (fX8_codeAt a v4_7 C4) fun (r11 : Int) (C10 : Cd) =>
J44 (r11 + by_) C10
else none
else none
else none) FU) = L0
  simp (disch := omega) only [isO, ↓bnd_eq, ↓reduceIte, ↓drf_some, ↓cal_some, ↓calx_inl, ↓calx_inr, ↓opt_some, ↓opt_none, w32_of, ix_of, inR, le_t, le_f, lt_t, lt_f, eq_t, eq_f, and_self, true_and, and_true, false_and, and_false, not_true_eq_false, not_false_eq_true, or_true, true_or, or_false, false_or, Bool.false_eq_true, hOb, ↓cal_of e1]
end TX6
