/-! TEXTS: what leads into titles, ends, what is a text -/
/-- nothing old is other but in S; types and lengths stay -/
def Kp (S : Nat → Prop) (C C' : Cd) : Prop := csz C ≤ csz C' ∧ Wf C' ∧ (∀ b, b < csz C → (b ∈ cL C' ↔ b ∈ cL C) ∧ cty C' b = cty C b ∧ cn C' b = cn C b) ∧
  (∀ b, b < csz C → ¬ S b → (∀ k, cI C' k b = cI C k b) ∧ (∀ k, cR C' k b = cR C k b) ∧ (∀ i, cE C' b i = cE C b i) ∧ (∀ i, cP C' b i = cP C b i))
theorem Kp.rf {C : Cd} (W : Wf C) (S : Nat → Prop) : Kp S C C := ⟨Nat.le_refl _, W, fun _ _ => ⟨Iff.rfl, rfl, rfl⟩, fun _ _ _ => ⟨fun _ => rfl, fun _ => rfl, fun _ => rfl, fun _ => rfl⟩⟩
theorem Kp.tr {S : Nat → Prop} {C C1 C2 : Cd} (h : Kp S C C1) (h1 : Kp S C1 C2) : Kp S C C2 := by
  refine ⟨Nat.le_trans h.1 h1.1, h1.2.1, fun b hb => ?_, fun b hb hs => ?_⟩
  · have a := h.2.2.1 b hb
    have a1 := h1.2.2.1 b (Nat.lt_of_lt_of_le hb h.1)
    exact ⟨a1.1.trans a.1, a1.2.1.trans a.2.1, a1.2.2.trans a.2.2⟩
  · have a := h.2.2.2 b hb hs
    have a1 := h1.2.2.2 b (Nat.lt_of_lt_of_le hb h.1) hs
    exact ⟨fun k => (a1.1 k).trans (a.1 k), fun k => (a1.2.1 k).trans (a.2.1 k), fun k => (a1.2.2.1 k).trans (a.2.2.1 k), fun k => (a1.2.2.2 k).trans (a.2.2.2 k)⟩
theorem Kp.mono {S T : Nat → Prop} {C C' : Cd} (h : Kp S C C') (q : ∀ b, b < csz C → S b → T b) : Kp T C C' :=
  ⟨h.1, h.2.1, h.2.2.1, fun b hb hs => h.2.2.2 b hb (fun z => hs (q b hb z))⟩
/-- a later change may reach what was made in between -/
theorem Kp.tr2 {S T : Nat → Prop} {C C1 C2 : Cd} (h : Kp S C C1) (h1 : Kp T C1 C2) (q : ∀ b, b < csz C → T b → S b) : Kp S C C2 := by
  refine ⟨Nat.le_trans h.1 h1.1, h1.2.1, fun b hb => ?_, fun b hb hs => ?_⟩
  · have a := h.2.2.1 b hb
    have a1 := h1.2.2.1 b (Nat.lt_of_lt_of_le hb h.1)
    exact ⟨a1.1.trans a.1, a1.2.1.trans a.2.1, a1.2.2.trans a.2.2⟩
  · have a := h.2.2.2 b hb hs
    have a1 := h1.2.2.2 b (Nat.lt_of_lt_of_le hb h.1) (fun z => hs (q b hb z))
    exact ⟨fun k => (a1.1 k).trans (a.1 k), fun k => (a1.2.1 k).trans (a.2.1 k), fun k => (a1.2.2.1 k).trans (a.2.2.1 k), fun k => (a1.2.2.2 k).trans (a.2.2.2 k)⟩
theorem Kp.isO {S : Nat → Prop} {C C' : Cd} (W : Wf C) (h : Kp S C C') {b t : Nat} (hb : isO C b t) : isO C' b t := by
  have a := h.2.2.1 b (W b hb.1)
  exact ⟨a.1.mpr hb.1, a.2.1.trans hb.2⟩
theorem Kp.I {S : Nat → Prop} {C : Cd} (W : Wf C) (k a : Nat) (v : Int) (hs : S a) : Kp S C (cSetI C k a v) :=
  ⟨Nat.le_refl _, W, fun _ _ => ⟨Iff.rfl, rfl, rfl⟩, fun b _ hn => ⟨fun k' => cI_I2 C v (Or.inr (fun e => hn (e ▸ hs))), fun _ => rfl, fun _ => rfl, fun _ => rfl⟩⟩
theorem Kp.R {S : Nat → Prop} {C : Cd} (W : Wf C) (k a : Nat) (v : Option Nat) (hs : S a) : Kp S C (cSetR C k a v) :=
  ⟨Nat.le_refl _, W, fun _ _ => ⟨Iff.rfl, rfl, rfl⟩, fun b _ hn => ⟨fun _ => rfl, fun k' => cR_R2 C v (Or.inr (fun e => hn (e ▸ hs))), fun _ => rfl, fun _ => rfl⟩⟩
theorem Kp.E {S : Nat → Prop} {C : Cd} (W : Wf C) (a i : Nat) (v : Int) (hs : S a) : Kp S C (cSetE C a i v) :=
  ⟨Nat.le_refl _, W, fun _ _ => ⟨Iff.rfl, rfl, rfl⟩, fun b _ hn => ⟨fun _ => rfl, fun _ => rfl, fun i' => cE_E2 C v (Or.inl (fun e => hn (e ▸ hs))), fun _ => rfl⟩⟩
theorem Kp.P {S : Nat → Prop} {C : Cd} (W : Wf C) (a i : Nat) (v : Option Nat) (hs : S a) : Kp S C (cSetP C a i v) :=
  ⟨Nat.le_refl _, W, fun _ _ => ⟨Iff.rfl, rfl, rfl⟩, fun b _ hn => ⟨fun _ => rfl, fun _ => rfl, fun _ => rfl, fun i' => cP_P2 C v (Or.inl (fun e => hn (e ▸ hs)))⟩⟩
theorem Kp.N {S : Nat → Prop} {C : Cd} (W : Wf C) (c : Nat) : Kp S C (cNew C c) := by
  refine ⟨Nat.le_succ _, Wf_N W c, fun b hb => ⟨?_, cty_N2 C c (Nat.ne_of_lt hb), rfl⟩, fun b hb _ => ⟨fun k => cI_N2 C c (Nat.ne_of_lt hb), fun k => cR_N2 C c (Nat.ne_of_lt hb), fun _ => rfl, fun _ => rfl⟩⟩
  rw [cL_N, List.mem_append, List.mem_singleton]
  exact ⟨fun q => q.elim id (fun e => absurd e (Nat.ne_of_lt hb)), Or.inl⟩
theorem Kp.A {S : Nat → Prop} {C : Cd} (W : Wf C) (c n : Nat) : Kp S C (cNewA C c n) := by
  refine ⟨Nat.le_succ _, Wf_A W c n, fun b hb => ⟨?_, cty_A2 C c n (Nat.ne_of_lt hb), cn_A2 C c n (Nat.ne_of_lt hb)⟩, fun b hb _ => ⟨fun k => rfl, fun k => rfl, fun _ => cE_A2 C c n (Nat.ne_of_lt hb), fun _ => cP_A2 C c n (Nat.ne_of_lt hb)⟩⟩
  rw [cL_A, List.mem_append, List.mem_singleton]
  exact ⟨fun q => q.elim id (fun e => absurd e (Nat.ne_of_lt hb)), Or.inl⟩
theorem Kp.B {S : Nat → Prop} {C : Cd} (W : Wf C) : Kp S C (cBump C) :=
  ⟨Nat.le_succ _, Wf_B W, fun _ _ => ⟨Iff.rfl, rfl, rfl⟩, fun _ _ _ => ⟨fun _ => rfl, fun _ => rfl, fun _ => rfl, fun _ => rfl⟩⟩
theorem TxA.kp {S : Nat → Prop} {C C' : Cd} {a cap : Nat} (W : Wf C) (h : Kp S C C') (ha : TxA C a cap) (hs : ¬ S a) : TxA C' a cap := by
  obtain ⟨h1, h2, h3, h4, h5, h6, h7, h8⟩ := ha
  have q := h.2.2.2 a (W a h1.1) hs
  refine ⟨h.isO W h1, (q.2.1 _).trans h2, (q.2.1 _).trans h3, h.isO W h4, h.isO W h5, ?_, ?_, h8⟩
  · rw [(h.2.2.1 _ (W _ h4.1)).2.2]; exact h6
  · rw [(h.2.2.1 _ (W _ h5.1)).2.2]; exact h7
theorem TxV.kp {S : Nat → Prop} {C C' : Cd} {a cap n : Nat} {g : Nat → Int} (W : Wf C) (h : Kp S C C') (ha : TxV C a cap g n) (hs : ¬ S a) (hs1 : ¬ S (a + 1)) : TxV C' a cap g n := by
  obtain ⟨⟨h1, h2, h3, h4⟩, h5⟩ := ha
  have q := h.2.2.2 a (W a h1.1.1) hs
  have q1 := h.2.2.2 (a + 1) (W _ h1.2.2.2.1.1) hs1
  refine ⟨⟨h1.kp W h hs, (q.1 _).trans h2, h3, fun k hk => ?_⟩, fun k hk => ?_⟩
  · rw [q1.2.2.1]; exact h4 k hk
  · rw [q1.2.2.1]; exact h5 k hk
theorem TxOnly.wf {C C' : Cd} {a : Nat} (h : TxOnly C C' a) (W : Wf C) : Wf C' := fun b hb => by
  have e1 : cL C' = cL C := congrArg (fun (z : (Nat → Nat → Option Nat) × (Nat → Nat) × (Nat → Nat) × List Nat × Nat × Nat) => z.2.2.2.1) h.2.1
  rw [h.csz]
  rw [e1] at hb
  exact W b hb
theorem TxOnly.kp {C C' : Cd} {a : Nat} (h : TxOnly C C' a) (W : Wf C) : Kp (fun b => b = a ∨ b = a + 1) C C' := by
  have e1 : cL C' = cL C := congrArg (fun (z : (Nat → Nat → Option Nat) × (Nat → Nat) × (Nat → Nat) × List Nat × Nat × Nat) => z.2.2.2.1) h.2.1
  have e2 : cty C' = cty C := congrArg (fun (z : (Nat → Nat → Option Nat) × (Nat → Nat) × (Nat → Nat) × List Nat × Nat × Nat) => z.2.2.1) h.2.1
  have e3 : cP C' = cP C := congrArg (fun (z : (Nat → Nat → Option Nat) × (Nat → Nat) × (Nat → Nat) × List Nat × Nat × Nat) => z.1) h.2.1
  refine ⟨by rw [h.csz]; exact Nat.le_refl _, h.wf W, fun b _ => ⟨by rw [e1], by rw [e2], by rw [h.cn]⟩, fun b _ hs => ⟨fun k => h.2.2.1 k b (Or.inr (fun e => hs (Or.inl e))), fun k => by rw [h.1], fun i => h.2.2.2 b i (fun e => hs (Or.inr e)), fun i => by rw [e3]⟩⟩
/-- a number's kinds and values -/
def okt (t : Int) : Prop := 0 ≤ t ∧ t < 14000 ∧ (t / 1000 = 1 ∨ t / 1000 = 2 ∨ t / 1000 = 12 → t % 1000 < 24) ∧ (t / 1000 = 11 → t % 1000 < 8) ∧ (t / 1000 = 3 ∨ t / 1000 = 6 → t % 1000 ≤ 9) ∧ (t / 1000 = 4 → t % 1000 ≤ 6)
def Tkv (g : Nat → Int) (n : Nat) : Prop := ∀ k, k < n → okt (g k)
def ldk (k : Int) : Bool := decide (k = 1 ∨ k = 2 ∨ k = 12)
/-- a token leads into a set of titles -/
def LI (g : Nat → Int) (G : Nat) (k : Nat) : Prop := ldk (g k / 1000) = true ∧ G.testBit (g k % 1000).toNat = true
theorem X11_has_ {s e : Nat} {C : Cd} (hs : s < 2147483648) (he : e < 31) : fX11_has (s : Int) (e : Int) C = some (if s.testBit e = true then 1 else 0, C) := by
  have h := bitI_N (n := s) (k := e) (by omega) hs
  unfold fX11_has
  by_cases c : s.testBit e = true
  · rw [if_pos c] at h
    simp (disch := omega) only [isO, ↓bnd_eq, ↓reduceIte, ↓drf_some, ↓cal_some, ↓calx_inl, ↓calx_inr, ↓opt_some, ↓opt_none, w32_of, ix_of, inR, le_t, le_f, lt_t, lt_f, eq_t, eq_f, and_self, true_and, and_true, false_and, and_false, not_true_eq_false, not_false_eq_true, or_true, true_or, or_false, false_or, Bool.false_eq_true, h, retZ, c]
  · rw [if_neg c] at h
    simp (disch := omega) only [isO, ↓bnd_eq, ↓reduceIte, ↓drf_some, ↓cal_some, ↓calx_inl, ↓calx_inr, ↓opt_some, ↓opt_none, w32_of, ix_of, inR, le_t, le_f, lt_t, lt_f, eq_t, eq_f, and_self, true_and, and_true, false_and, and_false, not_true_eq_false, not_false_eq_true, or_true, true_or, or_false, false_or, Bool.false_eq_true, h, retZ, c]
section TX4
variable {C : Cd} {a b cap capb n m : Nat} {g f : Nat → Int}
theorem X8_leadsInto_1 (h : TxV C a cap g n) (hk : Tkv g n) {k G : Nat} (hkn : k < n) (hG : G < 16777216) : BR (fX8_leadsInto a (k : Int) (G : Int) C) C (LI g G k) := by
  have hO := h.isO_
  have ht := hk k hkn
  unfold okt at ht
  have e1 : g k % 1000 = (((g k % 1000).toNat : Nat) : Int) := by omega
  have hv := h.value hkn
  rw [e1] at hv
  unfold fX8_leadsInto LI ldk
  by_cases c : g k / 1000 = 1 ∨ g k / 1000 = 2 ∨ g k / 1000 = 12
  · have hv24 : (g k % 1000).toNat < 24 := by
      have := ht.2.2.1 c
      omega
    have hh := X11_has_ (s := G) (e := (g k % 1000).toNat) (C := C) (by omega) (by omega)
    by_cases cb : G.testBit (g k % 1000).toNat = true
    · rw [if_pos cb] at hh
      refine Or.inl ⟨?_, decide_eq_true c, cb⟩
      rcases c with c | c | c
      · simp (disch := omega) only [isO, ↓bnd_eq, ↓reduceIte, ↓drf_some, ↓cal_some, ↓calx_inl, ↓calx_inr, ↓opt_some, ↓opt_none, w32_of, ix_of, inR, le_t, le_f, lt_t, lt_f, eq_t, eq_f, and_self, true_and, and_true, false_and, and_false, not_true_eq_false, not_false_eq_true, or_true, true_or, or_false, false_or, Bool.false_eq_true, hO, ↓cal_of (h.kind hkn), c, ↓cal_of hv, ↓cal_of hh, retZ]
      · simp (disch := omega) only [isO, ↓bnd_eq, ↓reduceIte, ↓drf_some, ↓cal_some, ↓calx_inl, ↓calx_inr, ↓opt_some, ↓opt_none, w32_of, ix_of, inR, le_t, le_f, lt_t, lt_f, eq_t, eq_f, and_self, true_and, and_true, false_and, and_false, not_true_eq_false, not_false_eq_true, or_true, true_or, or_false, false_or, Bool.false_eq_true, hO, ↓cal_of (h.kind hkn), c, ↓cal_of hv, ↓cal_of hh, retZ]
      · simp (disch := omega) only [isO, ↓bnd_eq, ↓reduceIte, ↓drf_some, ↓cal_some, ↓calx_inl, ↓calx_inr, ↓opt_some, ↓opt_none, w32_of, ix_of, inR, le_t, le_f, lt_t, lt_f, eq_t, eq_f, and_self, true_and, and_true, false_and, and_false, not_true_eq_false, not_false_eq_true, or_true, true_or, or_false, false_or, Bool.false_eq_true, hO, ↓cal_of (h.kind hkn), c, ↓cal_of hv, ↓cal_of hh, retZ]
    · rw [if_neg cb] at hh
      refine Or.inr ⟨?_, fun q => cb q.2⟩
      rcases c with c | c | c
      · simp (disch := omega) only [isO, ↓bnd_eq, ↓reduceIte, ↓drf_some, ↓cal_some, ↓calx_inl, ↓calx_inr, ↓opt_some, ↓opt_none, w32_of, ix_of, inR, le_t, le_f, lt_t, lt_f, eq_t, eq_f, and_self, true_and, and_true, false_and, and_false, not_true_eq_false, not_false_eq_true, or_true, true_or, or_false, false_or, Bool.false_eq_true, hO, ↓cal_of (h.kind hkn), c, ↓cal_of hv, ↓cal_of hh, retZ]
      · simp (disch := omega) only [isO, ↓bnd_eq, ↓reduceIte, ↓drf_some, ↓cal_some, ↓calx_inl, ↓calx_inr, ↓opt_some, ↓opt_none, w32_of, ix_of, inR, le_t, le_f, lt_t, lt_f, eq_t, eq_f, and_self, true_and, and_true, false_and, and_false, not_true_eq_false, not_false_eq_true, or_true, true_or, or_false, false_or, Bool.false_eq_true, hO, ↓cal_of (h.kind hkn), c, ↓cal_of hv, ↓cal_of hh, retZ]
      · simp (disch := omega) only [isO, ↓bnd_eq, ↓reduceIte, ↓drf_some, ↓cal_some, ↓calx_inl, ↓calx_inr, ↓opt_some, ↓opt_none, w32_of, ix_of, inR, le_t, le_f, lt_t, lt_f, eq_t, eq_f, and_self, true_and, and_true, false_and, and_false, not_true_eq_false, not_false_eq_true, or_true, true_or, or_false, false_or, Bool.false_eq_true, hO, ↓cal_of (h.kind hkn), c, ↓cal_of hv, ↓cal_of hh, retZ]
  · refine Or.inr ⟨?_, fun q => c (of_decide_eq_true q.1)⟩
    have c1 : ¬ g k / 1000 = 1 := fun e => c (Or.inl e)
    have c2 : ¬ g k / 1000 = 2 := fun e => c (Or.inr (Or.inl e))
    have c3 : ¬ g k / 1000 = 12 := fun e => c (Or.inr (Or.inr e))
    simp (disch := omega) only [isO, ↓bnd_eq, ↓reduceIte, ↓drf_some, ↓cal_some, ↓calx_inl, ↓calx_inr, ↓opt_some, ↓opt_none, w32_of, ix_of, inR, le_t, le_f, lt_t, lt_f, eq_t, eq_f, and_self, true_and, and_true, false_and, and_false, not_true_eq_false, not_false_eq_true, or_true, true_or, or_false, false_or, Bool.false_eq_true, hO, ↓cal_of (h.kind hkn), c1, c2, c3, retZ]
theorem X8_leadsInto_2 (h : TxV C a cap g n) (hk : Tkv g n) {G : Nat} (hG : G < 16777216) : BR (fX8_leadsInto_ a (G : Int) C) C (∃ k, k < n ∧ LI g G k) := by
  have hO := h.isO_
  have hz := h.sz
  have hn := h.n90
  unfold fX8_leadsInto_
  rw [bnd_eq]
  refine (lpn_rule (P := fun mm (L : Int → Cd → Option (Int × Cd)) => ∀ k : Nat, k ≤ n → n - k < mm → (∀ i, i < k → ¬ LI g G i) → BR (L (k : Int) C) C (∃ k, k < n ∧ LI g G k)) (fun k _ h => absurd h (Nat.not_lt_zero _)) (fun mm L hL k hkn hm hpre => ?_) FU) 0 (Nat.zero_le _) (by unfold FU; omega) (fun i hi => absurd hi (Nat.not_lt_zero _))
  rcases Nat.lt_or_ge k n with hlt | hge
  · rcases X8_leadsInto_1 h hk hlt hG with ⟨e, p⟩ | ⟨e, p⟩
    · simp (disch := omega) only [isO, ↓bnd_eq, ↓reduceIte, ↓drf_some, ↓cal_some, ↓calx_inl, ↓calx_inr, ↓opt_some, ↓opt_none, w32_of, ix_of, inR, le_t, le_f, lt_t, lt_f, eq_t, eq_f, and_self, true_and, and_true, false_and, and_false, not_true_eq_false, not_false_eq_true, or_true, true_or, or_false, false_or, Bool.false_eq_true, hO, hz, ↓cal_of e]
      exact Or.inl ⟨rfl, k, hlt, p⟩
    · simp (disch := omega) only [isO, ↓bnd_eq, ↓reduceIte, ↓drf_some, ↓cal_some, ↓calx_inl, ↓calx_inr, ↓opt_some, ↓opt_none, w32_of, ix_of, inR, le_t, le_f, lt_t, lt_f, eq_t, eq_f, and_self, true_and, and_true, false_and, and_false, not_true_eq_false, not_false_eq_true, or_true, true_or, or_false, false_or, Bool.false_eq_true, hO, hz, ↓cal_of e]
      exact hL (k + 1) hlt (by omega) (fun i hi => by
          rcases Nat.lt_or_ge i k with z | z
          · exact hpre i z
          · have : i = k := by omega
            subst this; exact p)
  · simp (disch := omega) only [isO, ↓bnd_eq, ↓reduceIte, ↓drf_some, ↓cal_some, ↓calx_inl, ↓calx_inr, ↓opt_some, ↓opt_none, w32_of, ix_of, inR, le_t, le_f, lt_t, lt_f, eq_t, eq_f, and_self, true_and, and_true, false_and, and_false, not_true_eq_false, not_false_eq_true, or_true, true_or, or_false, false_or, Bool.false_eq_true, hO, hz]
    exact Or.inr ⟨rfl, fun ⟨i, h1, h2⟩ => hpre i (by omega) h2⟩
/-- the ends: from a place on at a depth -/
def dlt (k : Int) : Int := if opB k = true then 1 else if k = 7 then -1 else 0
def fEg (g : Nat → Int) (part : Bool) : Int → Nat → Nat → Nat
  | _, i, 0 => i
  | d, i, m + 1 => if d = 0 ∧ (g i / 1000 = 7 ∨ part = true ∧ mkB (g i / 1000) = true) then i else fEg g part (d + dlt (g i / 1000)) (i + 1) m
def fE (g : Nat → Int) (n p : Nat) : Nat := fEg g (mkB (g p / 1000)) 0 (p + 1) (n - (p + 1))
theorem X8_findEnd_ (h : TxV C a cap g n) {p : Nat} (hp : p < n) : fX8_findEnd a (p : Int) C = some ((fE g n p : Int), C) := by
  have hO := h.isO_
  have hz := h.sz
  have hn := h.n90
  have htp := h.tks p hp
  unfold fX8_findEnd fE
  generalize hb : mkB (g p / 1000) = part
  have hst := h.starts hp
  rw [hb] at hst
  simp (disch := omega) only [isO, ↓bnd_eq, ↓reduceIte, ↓drf_some, ↓cal_some, ↓calx_inl, ↓calx_inr, ↓opt_some, ↓opt_none, w32_of, ix_of, inR, le_t, le_f, lt_t, lt_f, eq_t, eq_f, and_self, true_and, and_true, false_and, and_false, not_true_eq_false, not_false_eq_true, or_true, true_or, or_false, false_or, Bool.false_eq_true, hO, ↓cal_of hst]
  refine (lpn_rule (P := fun mm (L : Int → Int → Cd → Option (Int × Cd)) => ∀ (k : Nat) (d : Int), k ≤ n → n - k < mm → -1000 + (k : Int) ≤ d + 500 → d ≤ 500 + (k : Int) → -500 - (k : Int) ≤ d → L d (k : Int) C = some ((fEg g part d k (n - k) : Int), C)) (fun k _ _ h => absurd h (Nat.not_lt_zero _)) (fun mm L hL k d hk hm b0 b1 b2 => ?_) FU) (p + 1) 0 hp (by unfold FU; omega) (by omega) (by omega) (by omega)
  rcases Nat.lt_or_ge k n with hlt | hge
  · have ht := h.tks k hlt
    have hkd := h.kind hlt
    have hop := X8_opens (C := C) (k := g k / 1000) (by omega) (by omega)
    have hst2 := h.starts hlt
    have e2 : n - k = (n - (k + 1)) + 1 := by omega
    have hdl : dlt (g k / 1000) = 1 ∨ dlt (g k / 1000) = -1 ∨ dlt (g k / 1000) = 0 := by
      unfold dlt
      by_cases q : opB (g k / 1000) = true
      · rw [if_pos q]; exact Or.inl rfl
      · rw [if_neg q]
        by_cases q2 : g k / 1000 = 7
        · rw [if_pos q2]; exact Or.inr (Or.inl rfl)
        · rw [if_neg q2]; exact Or.inr (Or.inr rfl)
    have ih := hL (k + 1) (d + dlt (g k / 1000)) hlt (by omega) (by omega) (by omega) (by omega)
    rw [e2]
    conv => rhs; unfold fEg
    by_cases c0 : d = 0 ∧ (g k / 1000 = 7 ∨ part = true ∧ mkB (g k / 1000) = true)
    · rw [if_pos c0]
      obtain ⟨c1, c2⟩ := c0
      rcases c2 with c2 | ⟨c2, c3⟩
      · simp (disch := omega) only [isO, ↓bnd_eq, ↓reduceIte, ↓drf_some, ↓cal_some, ↓calx_inl, ↓calx_inr, ↓opt_some, ↓opt_none, w32_of, ix_of, inR, le_t, le_f, lt_t, lt_f, eq_t, eq_f, and_self, true_and, and_true, false_and, and_false, not_true_eq_false, not_false_eq_true, or_true, true_or, or_false, false_or, Bool.false_eq_true, hO, hz, ↓cal_of hkd, c1, c2]
      · by_cases c4 : g k / 1000 = 7
        · simp (disch := omega) only [isO, ↓bnd_eq, ↓reduceIte, ↓drf_some, ↓cal_some, ↓calx_inl, ↓calx_inr, ↓opt_some, ↓opt_none, w32_of, ix_of, inR, le_t, le_f, lt_t, lt_f, eq_t, eq_f, and_self, true_and, and_true, false_and, and_false, not_true_eq_false, not_false_eq_true, or_true, true_or, or_false, false_or, Bool.false_eq_true, hO, hz, ↓cal_of hkd, c1, c4]
        · rw [if_pos c3] at hst2
          simp (disch := omega) only [isO, ↓bnd_eq, ↓reduceIte, ↓drf_some, ↓cal_some, ↓calx_inl, ↓calx_inr, ↓opt_some, ↓opt_none, w32_of, ix_of, inR, le_t, le_f, lt_t, lt_f, eq_t, eq_f, and_self, true_and, and_true, false_and, and_false, not_true_eq_false, not_false_eq_true, or_true, true_or, or_false, false_or, Bool.false_eq_true, hO, hz, ↓cal_of hkd, c1, c4, c2, ↓cal_of hst2]
    · rw [if_neg c0, ← ih]
      have c7 : d = 0 → ¬ g k / 1000 = 7 := fun z q => c0 ⟨z, Or.inl q⟩
      have cm : d = 0 → part = true → ¬ mkB (g k / 1000) = true := fun z q r => c0 ⟨z, Or.inr ⟨q, r⟩⟩
      unfold dlt
      by_cases q : opB (g k / 1000) = true
      · rw [if_pos q] at hop ⊢
        by_cases z : d = 0
        · have d7 := c7 z
          by_cases pt : part = true
          · have nm := cm z pt
            rw [if_neg nm] at hst2
            simp (disch := omega) only [isO, ↓bnd_eq, ↓reduceIte, ↓drf_some, ↓cal_some, ↓calx_inl, ↓calx_inr, ↓opt_some, ↓opt_none, w32_of, ix_of, inR, le_t, le_f, lt_t, lt_f, eq_t, eq_f, and_self, true_and, and_true, false_and, and_false, not_true_eq_false, not_false_eq_true, or_true, true_or, or_false, false_or, Bool.false_eq_true, hO, hz, ↓cal_of hkd, z, d7, pt, ↓cal_of hst2, ↓cal_of hop, q]
            rfl
          · simp (disch := omega) only [isO, ↓bnd_eq, ↓reduceIte, ↓drf_some, ↓cal_some, ↓calx_inl, ↓calx_inr, ↓opt_some, ↓opt_none, w32_of, ix_of, inR, le_t, le_f, lt_t, lt_f, eq_t, eq_f, and_self, true_and, and_true, false_and, and_false, not_true_eq_false, not_false_eq_true, or_true, true_or, or_false, false_or, Bool.false_eq_true, hO, hz, ↓cal_of hkd, z, d7, pt, ↓cal_of hop, q]
            rfl
        · simp (disch := omega) only [isO, ↓bnd_eq, ↓reduceIte, ↓drf_some, ↓cal_some, ↓calx_inl, ↓calx_inr, ↓opt_some, ↓opt_none, w32_of, ix_of, inR, le_t, le_f, lt_t, lt_f, eq_t, eq_f, and_self, true_and, and_true, false_and, and_false, not_true_eq_false, not_false_eq_true, or_true, true_or, or_false, false_or, Bool.false_eq_true, hO, hz, ↓cal_of hkd, z, ↓cal_of hop, q]
          rfl
      · rw [if_neg q] at hop ⊢
        by_cases q2 : g k / 1000 = 7
        · have z : ¬ d = 0 := fun e => c7 e q2
          simp (disch := omega) only [isO, ↓bnd_eq, ↓reduceIte, ↓drf_some, ↓cal_some, ↓calx_inl, ↓calx_inr, ↓opt_some, ↓opt_none, w32_of, ix_of, inR, le_t, le_f, lt_t, lt_f, eq_t, eq_f, and_self, true_and, and_true, false_and, and_false, not_true_eq_false, not_false_eq_true, or_true, true_or, or_false, false_or, Bool.false_eq_true, hO, hz, ↓cal_of hkd, z, ↓cal_of hop, q2]
          rfl
        · rw [if_neg q2, Int.add_zero]
          by_cases z : d = 0
          · have d7 := c7 z
            by_cases pt : part = true
            · have nm := cm z pt
              rw [if_neg nm] at hst2
              simp (disch := omega) only [isO, ↓bnd_eq, ↓reduceIte, ↓drf_some, ↓cal_some, ↓calx_inl, ↓calx_inr, ↓opt_some, ↓opt_none, w32_of, ix_of, inR, le_t, le_f, lt_t, lt_f, eq_t, eq_f, and_self, true_and, and_true, false_and, and_false, not_true_eq_false, not_false_eq_true, or_true, true_or, or_false, false_or, Bool.false_eq_true, hO, hz, ↓cal_of hkd, z, d7, pt, ↓cal_of hst2, ↓cal_of hop, q2]
              rfl
            · simp (disch := omega) only [isO, ↓bnd_eq, ↓reduceIte, ↓drf_some, ↓cal_some, ↓calx_inl, ↓calx_inr, ↓opt_some, ↓opt_none, w32_of, ix_of, inR, le_t, le_f, lt_t, lt_f, eq_t, eq_f, and_self, true_and, and_true, false_and, and_false, not_true_eq_false, not_false_eq_true, or_true, true_or, or_false, false_or, Bool.false_eq_true, hO, hz, ↓cal_of hkd, z, d7, pt, ↓cal_of hop, q2]
              rfl
          · simp (disch := omega) only [isO, ↓bnd_eq, ↓reduceIte, ↓drf_some, ↓cal_some, ↓calx_inl, ↓calx_inr, ↓opt_some, ↓opt_none, w32_of, ix_of, inR, le_t, le_f, lt_t, lt_f, eq_t, eq_f, and_self, true_and, and_true, false_and, and_false, not_true_eq_false, not_false_eq_true, or_true, true_or, or_false, false_or, Bool.false_eq_true, hO, hz, ↓cal_of hkd, z, ↓cal_of hop, q2]
            rfl
  · have e : k = n := by omega
    subst e
    rw [Nat.sub_self]
    simp (disch := omega) only [isO, ↓bnd_eq, ↓reduceIte, ↓drf_some, ↓cal_some, ↓calx_inl, ↓calx_inr, ↓opt_some, ↓opt_none, w32_of, ix_of, inR, le_t, le_f, lt_t, lt_f, eq_t, eq_f, and_self, true_and, and_true, false_and, and_false, not_true_eq_false, not_false_eq_true, or_true, true_or, or_false, false_or, Bool.false_eq_true, hO, hz]
    rfl
end TX4
