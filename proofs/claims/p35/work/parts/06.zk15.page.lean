/-! LISTS OF VERSIONS, PAGES -/
def LL (C : Cd) (L n e : Nat) (vs : Nat → Nat) : Prop := isO C L 2 ∧ cI C 202 L = (n : Int) ∧ cR C 201 L = some e ∧ 0 < e ∧ isO C e 107 ∧ n ≤ cn C e ∧ 2 ≤ cn C e ∧ cn C e ≤ 400 ∧ ∀ i, i < n → cP C e i = some (vs i)
def ins (vs : Nat → Nat) (i v j : Nat) : Nat := if j < i then vs j else if j = i then v else vs (j - 1)
def sLL (L e q k a : Nat) : Prop := (q = 0 ∧ (k = 200 ∨ k = 202) ∧ a = L) ∨ (q = 1 ∧ k = 201 ∧ a = L) ∨ (q = 3 ∧ a = e)
section LST
variable {C : Cd} {L n e : Nat} {vs : Nat → Nat}
theorem AL_size_ (h : LL C L n e vs) : fAL_size L C = some ((n : Int), C) := by
  unfold fAL_size
  rw [if_pos h.1, h.2.1]
theorem LL.n400 (h : LL C L n e vs) : n ≤ 400 := Nat.le_trans h.2.2.2.2.2.1 h.2.2.2.2.2.2.2.1
theorem AL_get_ (h : LL C L n e vs) {i : Nat} (hi : i < n) : fAL_get L (i : Int) C = some (some (vs i), C) := by
  have hn := h.n400
  obtain ⟨h1, h2, h3, h4, h5, h6, h7, h8, h9⟩ := h
  unfold fAL_get
  rw [if_pos h1, drf_eq h3, if_pos ⟨⟨by rw [w32_n (by omega)]; omega, by rw [h2, w32_n (by omega), w32_n (by omega)]; omega⟩, h5, by rw [w32_n (by omega)]; omega, by rw [w32_n (by omega)]; omega⟩, ix_n (by omega), h9 i hi]
theorem alShift_P (C : Cd) (e i n : Nat) (v : Option Nat) (j : Nat) : cP (alShift C e i n v) e j = if j = i then v else if i < j ∧ j ≤ n then cP C e (j - 1) else cP C e j := if_pos rfl
theorem alShift_P2 (C : Cd) {e a : Nat} (i n : Nat) (v : Option Nat) (j : Nat) (h : a ≠ e) : cP (alShift C e i n v) a j = cP C a j := if_neg h
theorem Fp.shift {S : Nat → Nat → Nat → Prop} (W : Wf C) (i m : Nat) (v : Option Nat) (hs : S 3 0 e) : Fp S C (alShift C e i m v) :=
  ⟨Nat.le_refl _, Nat.le_refl _, W, fun _ _ => ⟨Iff.rfl, rfl, rfl⟩, fun b _ => ⟨fun _ _ => rfl, fun _ _ => rfl, fun _ _ => rfl, fun z i' => alShift_P2 C _ _ _ _ (fun y => z (y ▸ hs))⟩⟩
theorem okc_of {C : Cd} {a c : Nat} (h : isO C a c) : okc C (some a) c = true := decide_eq_true h
theorem allV_of {C : Cd} {e n : Nat} {vs : Nat → Nat} (h : ∀ i, i < n → cP C e i = some (vs i)) (hv : ∀ i, i < n → isO C (vs i) 13) : allV C e n = true := by
  unfold allV
  rw [List.all_eq_true]
  intro i hi
  rw [h i (List.mem_range.mp hi)]
  exact okc_of (hv i (List.mem_range.mp hi))
/-- room is made for one more -/
theorem AL_room (W : Wf C) (h : LL C L n e vs) (hn : n ≤ 200) (hvs : ∀ i, i < n → isO C (vs i) 13) : ∃ C2 e2, (if alFull L (cSetI C 200 L (cI C 200 L + 1)) = true then alGrow L (cSetI C 200 L (cI C 200 L + 1)) else some (cSetI C 200 L (cI C 200 L + 1))) = some C2 ∧ LL C2 L n e2 vs ∧ n < cn C2 e2 ∧ Fp (sLL L e) C C2 ∧ csz C2 ≤ csz C + 1 ∧ csl C2 ≤ csl C + 300 ∧ (e2 = e ∨ csz C ≤ e2) := by
  obtain ⟨h1, h2, h3, h4, h5, h6, h7, h8, h9⟩ := h
  have hLz := W L h1.1
  have hez := W e h5.1
  have hne : ¬ e = 0 := by omega
  have f1 : Fp (sLL L e) C (cSetI C 200 L (cI C 200 L + 1)) := Fp.I W _ _ _ (Or.inl ⟨rfl, Or.inl rfl, rfl⟩)
  have q2 : cI (cSetI C 200 L (cI C 200 L + 1)) 202 L = (n : Int) := (cI_I2 _ _ (Or.inl (by decide))).trans h2
  have eF : alFull L (cSetI C 200 L (cI C 200 L + 1)) = decide (n = cn C e) := by
    unfold alFull
    rw [show cR (cSetI C 200 L (cI C 200 L + 1)) 201 L = some e from h3]
    show (if e = 0 then true else decide (w32 (cI (cSetI C 200 L (cI C 200 L + 1)) 202 L) = (cn C e : Int))) = _
    rw [if_neg hne, q2, w32_n (by omega)]
    by_cases c : n = cn C e
    · rw [decide_eq_true c, decide_eq_true (by omega)]
    · rw [decide_eq_false c, decide_eq_false (by omega)]
  rw [eF]
  by_cases c : n = cn C e
  · rw [decide_eq_true c, ite_tt]
    unfold alGrow
    rw [if_neg (by rw [show cR (cSetI C 200 L (cI C 200 L + 1)) 201 L = some e from h3]; intro z; injection z with z; omega), drf_eq (show cR (cSetI C 200 L (cI C 200 L + 1)) 201 L = some e from h3), if_pos ⟨h5, h7, by show cn C e ≤ 40000; omega, allV_of (C := cSetI C 200 L (cI C 200 L + 1)) (vs := vs) (fun i hi => h9 i (by have h0 : i < cn C e := hi; omega)) (fun i hi => hvs i (by have h0 : i < cn C e := hi; omega))⟩]
    have e0 : cn (cSetI C 200 L (cI C 200 L + 1)) e = cn C e := rfl
    have W1 : Wf (cSetI C 200 L (cI C 200 L + 1)) := W
    have k2 : Fp (sLL L e) (cSetI C 200 L (cI C 200 L + 1)) (alCopy (cSetI C 200 L (cI C 200 L + 1)) e (cn C e + cn C e / 2)) := by
      refine ⟨Nat.le_succ _, Nat.le_add_right _ _, ?_, fun b hb => ⟨?_, if_neg (Nat.ne_of_lt hb), if_neg (Nat.ne_of_lt hb)⟩, fun b hb => ⟨fun _ _ => rfl, fun _ _ => rfl, fun _ i => if_neg (Nat.ne_of_lt hb), fun _ i => if_neg (Nat.ne_of_lt hb)⟩⟩
      · intro a ha
        rcases List.mem_append.mp ha with z | z
        · exact Nat.lt_succ_of_lt (W a z)
        · rw [List.mem_singleton.mp z]; exact Nat.lt_succ_self _
      · show b ∈ cL C ++ [csz C] ↔ b ∈ cL C
        rw [List.mem_append, List.mem_singleton]
        exact ⟨fun q => q.elim id (fun e => absurd e (Nat.ne_of_lt hb)), Or.inl⟩
    have k3 : Fp (sLL L e) (alCopy (cSetI C 200 L (cI C 200 L + 1)) e (cn C e + cn C e / 2)) (cSetR (alCopy (cSetI C 200 L (cI C 200 L + 1)) e (cn C e + cn C e / 2)) 201 L (some (csz C))) := Fp.R k2.wf _ _ _ (Or.inr (Or.inl ⟨rfl, rfl, rfl⟩))
    have f3 := (f1.tr k2).tr k3
    have n3 : cn (cSetR (alCopy (cSetI C 200 L (cI C 200 L + 1)) e (cn C e + cn C e / 2)) 201 L (some (csz C))) (csz C) = cn C e + cn C e / 2 := if_pos rfl
    refine ⟨cSetR (alCopy (cSetI C 200 L (cI C 200 L + 1)) e (cn C e + cn C e / 2)) 201 L (some (csz C)), csz C, rfl, ⟨f3.ob W h1, ?_, cR_R1 _ _ _ _, by omega, ⟨List.mem_append_right _ (List.mem_singleton.mpr rfl), if_pos rfl⟩, ?_, ?_, ?_, ?_⟩, ?_, f3, Nat.le_refl _, ?_, Or.inr (Nat.le_refl _)⟩
    · exact q2
    · rw [n3]; omega
    · rw [n3]; omega
    · rw [n3]; omega
    · intro i hi
      show (if csz C = csz C then (if i < cn C e then cP C e i else none) else cP C (csz C) i) = _
      rw [if_pos rfl, if_pos (by omega)]
      exact h9 i hi
    · rw [n3]; omega
    · show csl C + (cn C e + cn C e / 2) ≤ _
      omega
  · rw [decide_eq_false c, ite_ff]
    exact ⟨_, e, rfl, ⟨h1, q2, h3, h4, h5, h6, h7, h8, h9⟩, by show n < cn C e; omega, f1, Nat.le_succ _, Nat.le_add_right _ _, Or.inl rfl⟩
theorem AL_addAt_ (W : Wf C) (h : LL C L n e vs) (hn : n ≤ 200) (hvs : ∀ i, i < n → isO C (vs i) 13) {i : Nat} (hi : i ≤ n) (v : Nat) (hw : isO C v 13) : ∃ C' e', fAL_addAt L (i : Int) (some v) C = some ((), C') ∧ LL C' L (n + 1) e' (ins vs i v) ∧ Fp (sLL L e) C C' ∧ csz C' ≤ csz C + 1 ∧ csl C' ≤ csl C + 300 ∧ (e' = e ∨ csz C ≤ e') := by
  obtain ⟨C2, e2, r1, r2, r3, r4, r5, r6, r7⟩ := AL_room W h hn hvs
  obtain ⟨h1, h2, h3, h4, h5, h6, h7, h8, h9⟩ := h
  obtain ⟨g1, g2, g3, g4, g5, g6, g7, g8, g9⟩ := r2
  have hix : ix (cI C 202 L) = n := by rw [h2]; exact ix_n (by omega)
  have hii : ix (i : Int) = i := ix_n (by omega)
  have k2 : Fp (fun q k a => q = 3 ∧ a = e2) C2 (alShift C2 e2 i n (some v)) := Fp.shift r4.wf _ _ _ ⟨rfl, rfl⟩
  have k3 : Fp (fun q k a => q = 0 ∧ k = 202 ∧ a = L) (alShift C2 e2 i n (some v)) (cSetI (alShift C2 e2 i n (some v)) 202 L ((n : Int) + 1)) := Fp.I k2.wf _ _ _ ⟨rfl, rfl, rfl⟩
  have f3 : Fp (sLL L e) C (cSetI (alShift C2 e2 i n (some v)) 202 L ((n : Int) + 1)) :=
    (r4.tr2 k2 (fun q k a ha z => by
      rcases r7 with y | y
      · rw [y] at z; exact Or.inr (Or.inr z)
      · omega)).tr2 k3 (fun q k a ha z => Or.inl ⟨z.1, Or.inr z.2.1, z.2.2⟩)
  refine ⟨cSetI (alShift C2 e2 i n (some v)) 202 L ((n : Int) + 1), e2, ?_, ⟨g1, (cI_I1 _ _ _ _).trans (by omega), g3, g4, g5, r3, g7, g8, ?_⟩, f3, r5, r6, r7⟩
  · unfold fAL_addAt
    rw [if_pos ⟨h1, ⟨by rw [h2, w32_n (by omega)]; omega, by rw [h2, w32_n (by omega)]; omega⟩, by rw [w32_n (by omega)]; omega, by rw [h2, w32_n (by omega), w32_n (by omega)]; omega⟩, bnd_eq, r1, Option.bind_some, drf_eq g3, hix, hii, if_pos ⟨g5, r3, okc_of (r4.ob W hw), allV_of g9 (fun i hi => r4.ob W (hvs i hi)), by omega⟩]
  · intro j hj
    show cP (alShift C2 e2 i n (some v)) e2 j = _
    rw [alShift_P]
    unfold ins
    by_cases c1 : j < i
    · rw [if_neg (by omega), if_neg (by omega), if_pos c1]
      exact g9 j (by omega)
    · rw [if_neg c1]
      by_cases c2 : j = i
      · rw [if_pos c2, if_pos c2]
      · rw [if_neg c2, if_neg c2, if_pos (by omega)]
        exact g9 (j - 1) (by omega)
/-- a page's object with its list -/
def PgA (C : Cd) (P n e : Nat) (vs : Nat → Nat) : Prop := isO C P 6 ∧ cR C 600 P = some (P + 1) ∧ LL C (P + 1) n e vs
def ipos (tm : Nat → Int) (t : Int) : Nat → Nat
  | 0 => 0
  | n + 1 => if tm n ≤ t then n + 1 else ipos tm t n
theorem ipos_le (tm : Nat → Int) (t : Int) (n : Nat) : ipos tm t n ≤ n := by
  induction n with
  | zero => exact Nat.le_refl _
  | succ n ih => unfold ipos; split <;> omega
def sPg (P e q k a : Nat) : Prop := sLL (P + 1) e q k a ∨ (q = 1 ∧ k = 601 ∧ a = P)
theorem X3_put_ {P : Nat} {tm : Nat → Int} {w : Nat} {t : Int} {pr : Option Nat} (W : Wf C) (h : PgA C P n e vs) (hn : n ≤ 200) (hv : ∀ i, i < n → isO C (vs i) 13 ∧ cI C 1301 (vs i) = tm i ∧ I32 (tm i)) (hw : isO C w 13) (hwt : cI C 1301 w = t) (ht : I32 t) (hpr : cR C 601 P = pr) :
   ∃ C' e', fX3_put P (some w) C = some ((), C') ∧ PgA C' P (n + 1) e' (ins vs (ipos tm t n) w) ∧ cR C' 601 P = (if ipos tm t n = n then some w else pr) ∧ Fp (sPg P e) C C' ∧ csz C' ≤ csz C + 1 ∧ csl C' ≤ csl C + 300 ∧ (e' = e ∨ csz C ≤ e') := by
  obtain ⟨h1, h2, h3⟩ := h
  have hs := AL_size_ h3
  have hPz := W P h1.1
  have hLz := W (P + 1) h3.1.1
  have hez := W e h3.2.2.2.2.1.1
  -- behind the search
  have key : ∀ k : Nat, k ≤ n → ∃ C' e', (if isO C P 6 then bnd (cR C 600 P) fun (z5 : Option Nat) =>
drf z5 fun (p6 : Nat) =>
if isO C p6 2 then cal (fAL_size p6 C) fun (r8 : Int) (C7 : Cd) =>
bnd (fun  (C_57 : Cd) =>
if isO C_57 P 6 then bnd (cR C_57 600 P) fun (z9 : Option Nat) =>
drf z9 fun (p10 : Nat) =>
if isO C_57 p10 2 then cal (fAL_addAt p10 (k : Int) (some w) C_57) fun (r12 : Unit) (C11 : Cd) =>
some ((), C11)
else none
else none) fun J57 =>
if ¬ w32 (k : Int) = w32 r8 then
J57 C7
else
if isO C7 P 6 then bnd (cSetR C7 601 P (some w)) fun (C13 : Cd) =>
J57 C13
else none
else none
else none) = some ((), C') ∧ PgA C' P (n + 1) e' (ins vs k w) ∧ cR C' 601 P = (if k = n then some w else pr) ∧ Fp (sPg P e) C C' ∧ csz C' ≤ csz C + 1 ∧ csl C' ≤ csl C + 300 ∧ (e' = e ∨ csz C ≤ e') := by
    intro k hk
    rw [if_pos h1, bnd_eq, drf_eq h2, if_pos h3.1, cal_of hs, bnd_eq, w32_n (show k < 2147483648 by omega), w32_n (show n < 2147483648 by omega)]
    by_cases c : k = n
    · rw [if_neg (fun z => z (by omega)), if_pos h1, bnd_eq]
      have f1 : Fp (sPg P e) C (cSetR C 601 P (some w)) := Fp.R W _ _ _ (Or.inr ⟨rfl, rfl, rfl⟩)
      have h2' : cR (cSetR C 601 P (some w)) 600 P = some (P + 1) := (cR_R2 _ _ (Or.inl (by decide))).trans h2
      have h3' : LL (cSetR C 601 P (some w)) (P + 1) n e vs := ⟨h3.1, h3.2.1, (cR_R2 _ _ (Or.inl (by decide))).trans h3.2.2.1, h3.2.2.2⟩
      obtain ⟨C', e', r1, r2, r3, r4, r5, r6⟩ := AL_addAt_ (C := cSetR C 601 P (some w)) W h3' hn (fun i hi => (hv i hi).1) hk w hw
      refine ⟨C', e', ?_, ⟨Fp.ob (C := cSetR C 601 P (some w)) W r3 h1, (r3.fR hPz (fun z => ?_)).trans h2', r2⟩, ?_, f1.tr2 r3 (fun _ _ _ _ z => Or.inl z), r4, r5, r6⟩
      · dsimp only
        rw [if_pos (show isO (cSetR C 601 P (some w)) P 6 from h1), bnd_eq, drf_eq h2', if_pos h3'.1, cal_of r1]
      · unfold sLL at z; omega
      · rw [if_pos c, r3.fR hPz (fun z => by unfold sLL at z; omega)]
        exact cR_R1 _ _ _ _
    · rw [if_pos (fun z => c (by omega))]
      dsimp only
      rw [if_pos h1, bnd_eq, drf_eq h2, if_pos h3.1]
      obtain ⟨C', e', r1, r2, r3, r4, r5, r6⟩ := AL_addAt_ W h3 hn (fun i hi => (hv i hi).1) hk w hw
      refine ⟨C', e', ?_, ⟨r3.ob W h1, (r3.fR hPz (fun z => ?_)).trans h2, r2⟩, ?_, r3.mono (fun _ _ _ _ z => Or.inl z), r4, r5, r6⟩
      · rw [cal_of r1]
      · unfold sLL at z; omega
      · rw [if_neg c, r3.fR hPz (fun z => by unfold sLL at z; omega)]
        exact hpr
  unfold fX3_put
  rw [if_pos h1, bnd_eq, drf_eq h2, if_pos h3.1, cal_of hs, bnd_eq]
  refine (lpn_rule (P := fun mm (L : Int → Cd → Option (Unit × Cd)) => ∀ k : Nat, k ≤ n → k < mm → ipos tm t n = ipos tm t k → ∃ C' e', L (k : Int) C = some ((), C') ∧ PgA C' P (n + 1) e' (ins vs (ipos tm t n) w) ∧ cR C' 601 P = (if ipos tm t n = n then some w else pr) ∧ Fp (sPg P e) C C' ∧ csz C' ≤ csz C + 1 ∧ csl C' ≤ csl C + 300 ∧ (e' = e ∨ csz C ≤ e')) (fun k _ h => absurd h (Nat.not_lt_zero _)) (fun mm L hL k hk hm hip => ?_) FU) n (Nat.le_refl _) (by unfold FU; omega) rfl
  rw [bnd_eq]
  cases k with
  | zero =>
    rw [if_pos (by decide)]
    have e0 : ipos tm t n = 0 := hip
    rw [e0]
    exact key 0 hk
  | succ k =>
    have hv1 := hv k (by omega)
    have hg : fAL_get (P + 1) (((k + 1 : Nat) : Int) - 1) C = some (some (vs k), C) := by
      rw [show (((k + 1 : Nat) : Int) - 1) = (k : Int) by omega]
      exact AL_get_ h3 (by omega)
    rw [if_neg (by rw [w32_n (by omega)]; omega), if_pos h1, bnd_eq, drf_eq h2, if_pos h3.1, cal_of hg, if_pos (show okc C (some (vs k)) 13 = true from decide_eq_true hv1.1), drf_some, if_pos hv1.1, drf_some, if_pos hw, hv1.2.1, hwt, w32_of hv1.2.2.1 hv1.2.2.2, w32_of ht.1 ht.2]
    by_cases c : tm k ≤ t
    · rw [if_pos c]
      have e0 : ipos tm t n = k + 1 := hip.trans (by rw [ipos, if_pos c])
      rw [e0]
      exact key (k + 1) hk
    · rw [if_neg c]
      have e0 : ipos tm t n = ipos tm t k := hip.trans (by rw [ipos, if_neg c])
      rw [show (((k + 1 : Nat) : Int) + -1) = (k : Int) by omega]
      exact hL k (by omega) (by omega) e0
def iof (num : Nat → Int) (x : Int) : Nat → Nat → Int
  | _, 0 => -1
  | i, m + 1 => if num i = x then (i : Int) else iof num x (i + 1) m
theorem X3_indexOf_ {P : Nat} {num : Nat → Int} {x : Int} (h : PgA C P n e vs) (hx : I32 x) (hv : ∀ i, i < n → isO C (vs i) 13 ∧ cI C 1300 (vs i) = num i ∧ I32 (num i)) : fX3_indexOf P x C = some (iof num x 0 n, C) := by
  obtain ⟨h1, h2, h3⟩ := h
  have hs := AL_size_ h3
  have hn := h3.n400
  unfold fX3_indexOf
  rw [bnd_eq]
  refine (lpn_rule (P := fun mm (L : Int → Cd → Option (Int × Cd)) => ∀ i : Nat, i ≤ n → n - i < mm → L (i : Int) C = some (iof num x i (n - i), C)) (fun i _ h => absurd h (Nat.not_lt_zero _)) (fun mm L hL i hi hm => ?_) FU) 0 (Nat.zero_le _) (by unfold FU; omega)
  rw [if_pos h1, bnd_eq, drf_eq h2, if_pos h3.1, cal_of hs, w32_n (show n < 2147483648 by omega), w32_n (show i < 2147483648 by omega)]
  rcases Nat.lt_or_ge i n with hlt | hge
  · have hv1 := hv i hlt
    have e2 : n - i = (n - (i + 1)) + 1 := by omega
    rw [if_neg (by omega), if_pos h1, bnd_eq, drf_eq h2, if_pos h3.1, cal_of (AL_get_ h3 hlt), if_pos (show okc C (some (vs i)) 13 = true from decide_eq_true hv1.1), drf_some, if_pos hv1.1, hv1.2.1, w32_of hv1.2.2.1 hv1.2.2.2, w32_of hx.1 hx.2, e2, iof]
    by_cases c : num i = x
    · rw [if_neg (fun z => z c), if_pos c]
    · rw [if_pos c, if_neg c]
      exact hL (i + 1) hlt (by omega)
  · have e : i = n := by omega
    subst e
    rw [if_pos (by omega), Nat.sub_self]
    rfl
theorem X3_versionAtIndex_in {P : Nat} (h : PgA C P n e vs) {i : Nat} (hi : i < n) (hv : isO C (vs i) 13) : fX3_versionAtIndex P (i : Int) C = some (some (vs i), C) := by
  obtain ⟨h1, h2, h3⟩ := h
  have hs := AL_size_ h3
  have hn := h3.n400
  unfold fX3_versionAtIndex
  rw [bnd_eq, bnd_eq, if_neg (by rw [w32_n (by omega)]; omega), if_pos h1, bnd_eq, drf_eq h2, if_pos h3.1, cal_of hs, if_neg (by rw [w32_n (by omega), w32_n (by omega)]; omega), if_pos h1, bnd_eq, drf_eq h2, if_pos h3.1, cal_of (AL_get_ h3 hi), if_pos (show okc C (some (vs i)) 13 = true from decide_eq_true hv)]
theorem X3_versionAtIndex_out {P : Nat} (h : PgA C P n e vs) {x : Int} (hx : I32 x) (ho : x < 0 ∨ (n : Int) ≤ x) : fX3_versionAtIndex P x C = some (none, C) := by
  obtain ⟨h1, h2, h3⟩ := h
  have hs := AL_size_ h3
  have hn := h3.n400
  unfold fX3_versionAtIndex
  rw [bnd_eq, bnd_eq, w32_of hx.1 hx.2]
  by_cases c : x < 0
  · rw [if_pos c]
  · rw [if_neg c, if_pos h1, bnd_eq, drf_eq h2, if_pos h3.1, cal_of hs, w32_n (by omega), if_pos (by omega)]
end LST
