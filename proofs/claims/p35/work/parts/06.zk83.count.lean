/-! HOW MUCH CAN BE COME TO -/
section CNT
theorem cnt_add (p : Nat → Bool) (a : Nat) : ∀ b, cnt p (a + b) = cnt p a + cnt (fun x => p (a + x)) b := by
  intro b
  induction b with
  | zero => rfl
  | succ b ih =>
    rw [show a + (b + 1) = (a + b) + 1 from rfl, cnt_succ, cnt_succ, ih]
    omega
/-- two kinds of places, block by block -/
theorem cnt_blk {p q : Nat → Bool} : ∀ m, (∀ f, f < m → 2 * cnt (fun x => p (30 * f + x)) 30 + cnt (fun x => q (30 * f + x)) 30 ≤ 30) → 2 * cnt p (30 * m) + cnt q (30 * m) ≤ 30 * m := by
  intro m
  induction m with
  | zero => intro _; exact Nat.le_refl _
  | succ m ih =>
    intro h
    have i := ih (fun f hf => h f (by omega))
    have l := h m (Nat.lt_succ_self m)
    rw [show 30 * (m + 1) = 30 * m + 30 by omega, cnt_add p, cnt_add q]
    omega
theorem cnt_3 {p q r : Nat → Bool} : ∀ n, (∀ k, k < n → (p k = true → q k = false ∧ r k = false) ∧ (q k = true → r k = false)) → cnt p n + cnt q n + cnt r n ≤ n := by
  intro n
  induction n with
  | zero => intro _; exact Nat.le_refl _
  | succ n ih =>
    intro h
    have i := ih (fun k hk => h k (by omega))
    obtain ⟨h1, h2⟩ := h n (Nat.lt_succ_self n)
    rw [cnt_succ, cnt_succ, cnt_succ]
    by_cases a : p n = true
    · rw [if_pos a, if_neg (by rw [(h1 a).1]; decide), if_neg (by rw [(h1 a).2]; decide)]; omega
    · rw [if_neg a]
      by_cases b : q n = true
      · rw [if_pos b, if_neg (by rw [h2 b]; decide)]; omega
      · rw [if_neg b]
        by_cases c : r n = true
        · rw [if_pos c]; omega
        · rw [if_neg c]; omega
/-- openers and their ends -/
theorem stk_cnt {g : Nat → Int} {n : Nat} (h : TxOK g n) : ∀ j, j ≤ n → (stk g j).length + cnt (fun k => decide (g k / 1000 = 7)) j = cnt (fun k => opB (g k / 1000)) j := by
  intro j
  induction j with
  | zero => intro _; rfl
  | succ j ih =>
    intro hj
    have i := ih (by omega)
    rw [cnt_succ, cnt_succ, stk_succ]
    by_cases ho : opB (g j / 1000) = true
    · rw [aft_op ho, if_pos ho, List.length_cons]
      have n7 : ¬ decide (g j / 1000 = 7) = true := fun z => by
        have := of_decide_eq_true z
        rw [this] at ho
        exact absurd ho (by decide)
      rw [if_neg n7]
      omega
    · rw [if_neg ho]
      by_cases h7 : g j / 1000 = 7
      · rw [if_pos (decide_eq_true h7), h7, aft_cl]
        have fit := h.2.2 j (by omega)
        rw [h7] at fit
        have hne := fit_cl fit
        cases hs : stk g j with
        | nil => rw [hs] at hne; exact absurd rfl hne
        | cons a r =>
          rw [hs, List.length_cons] at i
          rw [List.tail_cons]
          omega
      · rw [if_neg (fun z => h7 (of_decide_eq_true z)), aft_no ho h7]
        omega
theorem txt_cnt {g : Nat → Int} {n : Nat} (h : TxOK g n) : 2 * cnt (fun k => opB (g k / 1000)) n + cnt (fun k => mkB (g k / 1000)) n ≤ n := by
  have e := stk_cnt h n (Nat.le_refl n)
  rw [h.2.1] at e
  have c := cnt_3 (p := fun k => opB (g k / 1000)) (q := fun k => mkB (g k / 1000)) (r := fun k => decide (g k / 1000 = 7)) n (fun k _ => ⟨fun z => ⟨opB_mk z, decide_eq_false (fun y => by rw [y] at z; exact absurd z (by decide))⟩, fun z => decide_eq_false (fun y => by rw [y] at z; exact absurd z (by decide))⟩)
  have e' : 0 + cnt (fun k => decide (g k / 1000 = 7)) n = cnt (fun k => opB (g k / 1000)) n := e
  omega
/-- in a block of 30 -/
theorem cnt_cut {p : Nat → Bool} {n : Nat} (hn : n ≤ 30) (h : ∀ k, n ≤ k → p k = false) : cnt p 30 = cnt p n := by
  rw [show 30 = n + (30 - n) by omega, cnt_add, cnt_zero (fun k _ => h _ (Nat.le_add_right _ _))]
  rfl
variable {E : Env} {s s' : ASt} {f i : Nat}
/-- PARAMs and FUNCs come to; marks come to -/
def nPF (E : Env) (s : ASt) : Nat := cnt (fun k => decide (k / 30 < aNf s ∧ k % 30 < fn E s (k / 30) ∧ (fg E s (k / 30) (k % 30) / 1000 = 3 ∨ fg E s (k / 30) (k % 30) / 1000 = 4) ∧ aPs s (k / 30) (k % 30) ≠ 0)) 1230
def nMk (E : Env) (s : ASt) : Nat := cnt (fun k => decide (k / 30 < aNf s ∧ k % 30 < fn E s (k / 30) ∧ mkB (fg E s (k / 30) (k % 30) / 1000) = true ∧ aPs s (k / 30) (k % 30) ≠ 0)) 1230
theorem dm {f x : Nat} (hx : x < 30) : (30 * f + x) / 30 = f ∧ (30 * f + x) % 30 = x := by omega
theorem cnt_c30 {p q : Nat → Bool} (h : ∀ x, x < 30 → p x = q x) : cnt p 30 = cnt q 30 := cnt_congr h
theorem wt_le (hP : PI E s) (hE : EnP E) : 2 * nPF E s + nMk E s ≤ 1230 := by
  refine cnt_blk 41 (fun f hf => ?_)
  by_cases c : f < aNf s
  · obtain ⟨hT, hK⟩ := hP.tx hE c
    have hn := hT.1.2
    have t := txt_cnt hT
    have a : cnt (fun x => decide ((30 * f + x) / 30 < aNf s ∧ (30 * f + x) % 30 < fn E s ((30 * f + x) / 30) ∧ (fg E s ((30 * f + x) / 30) ((30 * f + x) % 30) / 1000 = 3 ∨ fg E s ((30 * f + x) / 30) ((30 * f + x) % 30) / 1000 = 4) ∧ aPs s ((30 * f + x) / 30) ((30 * f + x) % 30) ≠ 0)) 30 ≤ cnt (fun k => opB (fg E s f k / 1000)) (fn E s f) := by
      rw [cnt_c30 (q := fun x => decide (x < fn E s f ∧ (fg E s f x / 1000 = 3 ∨ fg E s f x / 1000 = 4) ∧ aPs s f x ≠ 0)) (fun x hx => by
        rw [(dm hx).1, (dm hx).2]
        by_cases z : x < fn E s f ∧ (fg E s f x / 1000 = 3 ∨ fg E s f x / 1000 = 4) ∧ aPs s f x ≠ 0
        · rw [decide_eq_true z, decide_eq_true ⟨c, z⟩]
        · rw [decide_eq_false z, decide_eq_false (fun y => z y.2)]), cnt_cut hn (fun k hk => decide_eq_false (fun z => by have := z.1; omega))]
      refine cnt_imp (fun k _ h => ?_)
      obtain ⟨z1, z2, z3⟩ := of_decide_eq_true h
      rcases z2 with z2 | z2 <;> (rw [z2]; rfl)
    have b : cnt (fun x => decide ((30 * f + x) / 30 < aNf s ∧ (30 * f + x) % 30 < fn E s ((30 * f + x) / 30) ∧ mkB (fg E s ((30 * f + x) / 30) ((30 * f + x) % 30) / 1000) = true ∧ aPs s ((30 * f + x) / 30) ((30 * f + x) % 30) ≠ 0)) 30 ≤ cnt (fun k => mkB (fg E s f k / 1000)) (fn E s f) := by
      rw [cnt_c30 (q := fun x => decide (x < fn E s f ∧ mkB (fg E s f x / 1000) = true ∧ aPs s f x ≠ 0)) (fun x hx => by
        rw [(dm hx).1, (dm hx).2]
        by_cases z : x < fn E s f ∧ mkB (fg E s f x / 1000) = true ∧ aPs s f x ≠ 0
        · rw [decide_eq_true z, decide_eq_true ⟨c, z⟩]
        · rw [decide_eq_false z, decide_eq_false (fun y => z y.2)]), cnt_cut hn (fun k hk => decide_eq_false (fun z => by have := z.1; omega))]
      exact cnt_imp (fun k _ h => (of_decide_eq_true h).2.1)
    omega
  · rw [cnt_zero (fun x hx => by rw [(dm hx).1]; exact decide_eq_false (fun z => c z.1)), cnt_zero (fun x hx => by rw [(dm hx).1]; exact decide_eq_false (fun z => c z.1))]
    decide
theorem nFu_le (hP : PI E s) (hE : EnP E) : nFu E s ≤ 615 := by
  have w := cnt_blk (p := fun k => decide (k / 30 < aNf s ∧ k % 30 < fn E s (k / 30) ∧ fg E s (k / 30) (k % 30) / 1000 = 4 ∧ aPs s (k / 30) (k % 30) ≠ 0)) (q := fun _ => false) 41 (fun f hf => by
    rw [cnt_zero (p := fun _ => false) (fun _ _ => rfl)]
    by_cases c : f < aNf s
    · obtain ⟨hT, hK⟩ := hP.tx hE c
      have hn := hT.1.2
      have t := txt_cnt hT
      have a : cnt (fun x => decide ((30 * f + x) / 30 < aNf s ∧ (30 * f + x) % 30 < fn E s ((30 * f + x) / 30) ∧ fg E s ((30 * f + x) / 30) ((30 * f + x) % 30) / 1000 = 4 ∧ aPs s ((30 * f + x) / 30) ((30 * f + x) % 30) ≠ 0)) 30 ≤ cnt (fun k => opB (fg E s f k / 1000)) (fn E s f) := by
        rw [cnt_c30 (q := fun x => decide (x < fn E s f ∧ fg E s f x / 1000 = 4 ∧ aPs s f x ≠ 0)) (fun x hx => by
          rw [(dm hx).1, (dm hx).2]
          by_cases z : x < fn E s f ∧ fg E s f x / 1000 = 4 ∧ aPs s f x ≠ 0
          · rw [decide_eq_true z, decide_eq_true ⟨c, z⟩]
          · rw [decide_eq_false z, decide_eq_false (fun y => z y.2)]), cnt_cut hn (fun k hk => decide_eq_false (fun z => by have := z.1; omega))]
        refine cnt_imp (fun k _ h => ?_)
        obtain ⟨z1, z2, z3⟩ := of_decide_eq_true h
        rw [z2]; rfl
      omega
    · rw [cnt_zero (fun x hx => by rw [(dm hx).1]; exact decide_eq_false (fun z => c z.1))]
      decide)
  rw [cnt_zero (p := fun _ => false) (fun _ _ => rfl)] at w
  have w' : 2 * nFu E s + 0 ≤ 30 * 41 := w
  omega
theorem nPF_ch {Z : Nat → Nat → Prop} (h : ChZ Z s s') : nPF E s ≤ nPF E s' := by
  refine cnt_imp (fun k _ hh => ?_)
  obtain ⟨a, b, c, d⟩ := of_decide_eq_true hh
  have fr := h.2.1 _ a
  have e1 : fg E s' (k / 30) = fg E s (k / 30) := by show eTx E (aFr s' _).1 = _; rw [fr]
  have e2 : fn E s' (k / 30) = fn E s (k / 30) := by show eTl E (aFr s' _).1 = _; rw [fr]
  exact decide_eq_true ⟨Nat.lt_of_lt_of_le a h.1, by rw [e2]; exact b, by rw [e1]; exact c, by rw [h.nz d]; exact d⟩
theorem nMk_ch {Z : Nat → Nat → Prop} (h : ChZ Z s s') : nMk E s ≤ nMk E s' := by
  refine cnt_imp (fun k _ hh => ?_)
  obtain ⟨a, b, c, d⟩ := of_decide_eq_true hh
  have fr := h.2.1 _ a
  have e1 : fg E s' (k / 30) = fg E s (k / 30) := by show eTx E (aFr s' _).1 = _; rw [fr]
  have e2 : fn E s' (k / 30) = fn E s (k / 30) := by show eTl E (aFr s' _).1 = _; rw [fr]
  exact decide_eq_true ⟨Nat.lt_of_lt_of_le a h.1, by rw [e2]; exact b, by rw [e1]; exact c, by rw [h.nz d]; exact d⟩
theorem nPF_new {x : Nat} (hx : x ≠ 0) (hf : f < 41) (hfn : f < aNf s) (hi : i < fn E s f) (h30 : i < 30) (hk : fg E s f i / 1000 = 3 ∨ fg E s f i / 1000 = 4) (h0 : aPs s f i = 0) : nPF E s + 1 ≤ nPF E (uPs s f i x) := by
  refine cnt_lt (j := 30 * f + i) (fun k _ h => ?_) (by omega) ?_ ?_
  · obtain ⟨a, b, c, d⟩ := of_decide_eq_true h
    refine decide_eq_true ⟨a, b, c, ?_⟩
    show (if k / 30 = f ∧ k % 30 = i then x else aPs s (k / 30) (k % 30)) ≠ 0
    by_cases z : k / 30 = f ∧ k % 30 = i
    · rw [if_pos z]; exact hx
    · rw [if_neg z]; exact d
  · rw [(dm h30).1, (dm h30).2]
    exact decide_eq_false (fun z => z.2.2.2 h0)
  · rw [(dm h30).1, (dm h30).2]
    refine decide_eq_true ⟨hfn, hi, hk, ?_⟩
    show (if f = f ∧ i = i then x else aPs s f i) ≠ 0
    rw [if_pos ⟨rfl, rfl⟩]; exact hx
theorem nMk_new {x : Nat} (hx : x ≠ 0) (hf : f < 41) (hfn : f < aNf s) (hi : i < fn E s f) (h30 : i < 30) (hk : mkB (fg E s f i / 1000) = true) (h0 : aPs s f i = 0) : nMk E s + 1 ≤ nMk E (uPs s f i x) := by
  refine cnt_lt (j := 30 * f + i) (fun k _ h => ?_) (by omega) ?_ ?_
  · obtain ⟨a, b, c, d⟩ := of_decide_eq_true h
    refine decide_eq_true ⟨a, b, c, ?_⟩
    show (if k / 30 = f ∧ k % 30 = i then x else aPs s (k / 30) (k % 30)) ≠ 0
    by_cases z : k / 30 = f ∧ k % 30 = i
    · rw [if_pos z]; exact hx
    · rw [if_neg z]; exact d
  · rw [(dm h30).1, (dm h30).2]
    exact decide_eq_false (fun z => z.2.2.2 h0)
  · rw [(dm h30).1, (dm h30).2]
    refine decide_eq_true ⟨hfn, hi, hk, ?_⟩
    show (if f = f ∧ i = i then x else aPs s f i) ≠ 0
    rw [if_pos ⟨rfl, rfl⟩]; exact hx
theorem nPF_up {x : Nat} (hx : x ≠ 0) : nPF E s ≤ nPF E (uPs s f i x) := by
  refine cnt_imp (fun k _ h => ?_)
  obtain ⟨a, b, c, d⟩ := of_decide_eq_true h
  refine decide_eq_true ⟨a, b, c, ?_⟩
  show (if k / 30 = f ∧ k % 30 = i then x else aPs s (k / 30) (k % 30)) ≠ 0
  by_cases z : k / 30 = f ∧ k % 30 = i
  · rw [if_pos z]; exact hx
  · rw [if_neg z]; exact d
theorem nMk_up {x : Nat} (hx : x ≠ 0) : nMk E s ≤ nMk E (uPs s f i x) := by
  refine cnt_imp (fun k _ h => ?_)
  obtain ⟨a, b, c, d⟩ := of_decide_eq_true h
  refine decide_eq_true ⟨a, b, c, ?_⟩
  show (if k / 30 = f ∧ k % 30 = i then x else aPs s (k / 30) (k % 30)) ≠ 0
  by_cases z : k / 30 = f ∧ k % 30 = i
  · rw [if_pos z]; exact hx
  · rw [if_neg z]; exact d
end CNT
section STR
variable {g : Nat → Int} {n : Nat}
/-- a mark in an opener's content ends there -/
theorem mk_nest (h : TxOK g n) {c q : Nat} (hc : c < n) (ho : opB (g c / 1000) = true) (hq1 : c < q) (hq2 : q < fE g n c) (hm : mkB (g q / 1000) = true) : fE g n q ≤ fE g n c := by
  obtain ⟨a1, a2, a3, a4, a5, a6⟩ := cl_op h hc ho
  obtain ⟨b1, b2, b3, b4, b5⟩ := cl_mk h (p := q) (by omega) hm
  rcases Nat.lt_or_ge (fE g n c) (fE g n q) with z | z
  · exfalso
    obtain ⟨Q, q1, _⟩ := a6 q hq1 hq2
    obtain ⟨Q', q3, q4⟩ := b5 (fE g n c) hq2 z
    have l1 := congrArg List.length q1
    have l2 := congrArg List.length q3
    have l3 := congrArg List.length a4
    rw [List.length_append, List.length_cons] at l1
    rw [List.length_append] at l2
    rw [List.length_cons] at l3
    exact q4 (List.length_eq_zero_iff.mp (by omega)) (Or.inl a3)
  · exact z
/-- no mark of an opener's direct content encloses another one of it -/
theorem mk_direct (h : TxOK g n) {c q p : Nat} (hc : c < n) (ho : opB (g c / 1000) = true) (hq : c < q) (hqp : q < p) (hp2 : p < fE g n c) (hm : mkB (g q / 1000) = true) (hmp : mkB (g p / 1000) = true) (hs : stk g p = g c / 1000 :: stk g c) : fE g n q ≤ p := by
  obtain ⟨a1, a2, a3, a4, a5, a6⟩ := cl_op h hc ho
  obtain ⟨b1, b2, b3, b4, b5⟩ := cl_mk h (p := q) (by omega) hm
  rcases Nat.lt_or_ge p (fE g n q) with z | z
  · exfalso
    obtain ⟨Q, q1, _⟩ := a6 q hq (by omega)
    obtain ⟨Q', q3, q4⟩ := b5 p hqp z
    have l1 := congrArg List.length q1
    have l2 := congrArg List.length q3
    have l3 := congrArg List.length hs
    rw [List.length_append, List.length_cons] at l1
    rw [List.length_append] at l2
    rw [List.length_cons] at l3
    exact q4 (List.length_eq_zero_iff.mp (by omega)) (Or.inr hmp)
  · exact z
/-- what stands directly in a stretch -/
def DS (g : Nat → Int) (i to : Nat) : Prop := ∀ j, i ≤ j → j < to → ∃ Q, stk g j = Q ++ stk g i ∧ (Q = [] → ¬ g j / 1000 = 7 ∧ ¬ mkB (g j / 1000) = true)
theorem DS.now {i to : Nat} (h : DS g i to) (hi : i < to) : ¬ g i / 1000 = 7 ∧ ¬ mkB (g i / 1000) = true := by
  obtain ⟨Q, q1, q2⟩ := h i (Nat.le_refl i) hi
  have l := congrArg List.length q1
  rw [List.length_append] at l
  exact q2 (List.length_eq_zero_iff.mp (by omega))
theorem DS.step {i to : Nat} (h : DS g i to) (hi : i < to) (ho : ¬ opB (g i / 1000) = true) : DS g (i + 1) to := by
  have e : stk g (i + 1) = stk g i := by rw [stk_succ, aft_no ho (h.now hi).1]
  intro j h1 h2
  rw [e]
  exact h j (by omega) h2
theorem DS.over (hT : TxOK g n) {i to : Nat} (h : DS g i to) (hin : i < n) (ho : opB (g i / 1000) = true) : DS g (fE g n i + 1) to := by
  obtain ⟨a1, a2, a3, a4, a5, a6⟩ := cl_op hT hin ho
  intro j h1 h2
  rw [a5]
  exact h j (by omega) h2
theorem DS.sub (hT : TxOK g n) {i : Nat} (hin : i < n) (ho : opB (g i / 1000) = true) (hk : ¬ (g i / 1000 = 2 ∨ g i / 1000 = 4)) : DS g (i + 1) (fE g n i) := by
  obtain ⟨a1, a2, a3, a4, a5, a6⟩ := cl_op hT hin ho
  intro j h1 h2
  obtain ⟨Q, q1, q2⟩ := a6 j (by omega) h2
  rw [stk_succ, aft_op ho]
  refine ⟨Q, q1, fun z => ⟨q2 z, fun y => ?_⟩⟩
  rw [z, List.nil_append] at q1
  obtain ⟨r, r1⟩ := mk_in hT (by omega) y
  rw [q1] at r1
  rcases r1 with r1 | r1
  · injection r1 with r1 _
    exact hk (Or.inl r1)
  · injection r1 with r1 _
    exact hk (Or.inr r1)
theorem DS.part (hT : TxOK g n) {p : Nat} (hp : p < n) (hm : mkB (g p / 1000) = true) : DS g (p + 1) (fE g n p) := by
  obtain ⟨b1, b2, b3, b4, b5⟩ := cl_mk hT hp hm
  intro j h1 h2
  obtain ⟨Q, q1, q2⟩ := b5 j (by omega) h2
  have e : stk g (p + 1) = stk g p := by
    rw [stk_succ, aft_no (mk_op hm) (fun z => by rw [z] at hm; exact absurd hm (by decide))]
  rw [e]
  exact ⟨Q, q1, fun z => ⟨fun y => q2 z (Or.inl y), fun y => q2 z (Or.inr y)⟩⟩
theorem DS.whole (hT : TxOK g n) : DS g 0 n := by
  intro j _ h2
  refine ⟨stk g j, by show stk g j = stk g j ++ []; rw [List.append_nil], fun z => ⟨fun y => ?_, fun y => ?_⟩⟩
  · have fit := hT.2.2 j h2
    rw [y] at fit
    have hne := fit_cl fit
    rw [z] at hne
    exact hne rfl
  · obtain ⟨r, r1⟩ := mk_in hT h2 y
    rw [z] at r1
    rcases r1 with r1 | r1 <;> cases r1
end STR
