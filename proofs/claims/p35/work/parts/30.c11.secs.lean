/-! SECTIONS of tokens and of macros -/
abbrev PT (T : List Nat) (k : Nat) : Nat := (tks (T.take k)).length
def mst : List Nat → Nat → Nat
  | _, 0 => 0
  | [], _ + 1 => 0
  | m :: T, s + 1 => if isSc m = true then (if s = 0 then 0 else mst T s + 1) else mst T (s + 1) + 1
theorem mst_0 (T : List Nat) : mst T 0 = 0 := by cases T <;> rfl
theorem mst_le : ∀ (T : List Nat) (s : Nat), mst T s ≤ T.length := by
  intro T
  induction T with
  | nil => intro s; cases s <;> exact Nat.le_refl _
  | cons m T ih =>
    intro s
    cases s with
    | zero => exact Nat.zero_le _
    | succ s =>
      show (if isSc m = true then (if s = 0 then 0 else mst T s + 1) else mst T (s + 1) + 1) ≤ T.length + 1
      have a := ih s
      have c := ih (s + 1)
      split
      · split <;> omega
      · omega
theorem mst_mono : ∀ (T : List Nat) (s : Nat), mst T s ≤ mst T (s + 1) := by
  intro T
  induction T with
  | nil => intro s; cases s <;> exact Nat.le_refl _
  | cons m T ih =>
    intro s
    cases s with
    | zero => rw [mst_0]; exact Nat.zero_le _
    | succ s =>
      show (if isSc m = true then (if s = 0 then 0 else mst T s + 1) else mst T (s + 1) + 1) ≤ (if isSc m = true then (if s + 1 = 0 then 0 else mst T (s + 1) + 1) else mst T (s + 1 + 1) + 1)
      have a := ih s
      have c := ih (s + 1)
      by_cases d : isSc m = true
      · rw [if_pos d, if_pos d, if_neg (show ¬ s + 1 = 0 by omega)]
        split <;> omega
      · rw [if_neg d, if_neg d]
        omega
theorem secF_mst : ∀ (T : List Nat) (s : Nat), T.take (mst T (s + 1)) = T.take (mst T s) ++ secF T s := by
  intro T
  induction T with
  | nil => intro s; cases s <;> rfl
  | cons m T ih =>
    intro s
    cases s with
    | zero =>
      rw [mst_0, List.take_zero, List.nil_append]
      show (m :: T).take (if isSc m = true then (if 0 = 0 then 0 else mst T 0 + 1) else mst T 1 + 1) = (if isSc m = true then [] else m :: secF T 0)
      by_cases d : isSc m = true
      · rw [if_pos d, if_pos d, if_pos rfl]; rfl
      · rw [if_neg d, if_neg d, List.take_succ_cons, ih 0, mst_0, List.take_zero, List.nil_append]
    | succ s =>
      show (m :: T).take (if isSc m = true then (if s + 1 = 0 then 0 else mst T (s + 1) + 1) else mst T (s + 1 + 1) + 1) = (m :: T).take (if isSc m = true then (if s = 0 then 0 else mst T s + 1) else mst T (s + 1) + 1) ++ (if isSc m = true then (if s = 0 then m :: secF T 0 else secF T s) else secF T (s + 1))
      by_cases d : isSc m = true
      · rw [if_pos d, if_pos d, if_pos d, if_neg (by omega), List.take_succ_cons, ih s]
        by_cases z : s = 0
        · subst z
          rw [if_pos rfl, if_pos rfl, mst_0, List.take_zero, List.take_zero]
          rfl
        · rw [if_neg z, if_neg z, List.take_succ_cons]; rfl
      · rw [if_neg d, if_neg d, if_neg d, List.take_succ_cons, ih (s + 1), List.take_succ_cons]; rfl
theorem mst_spec : ∀ (T : List Nat) (s : Nat), s + 1 ≤ scN T → mst T (s + 1) < T.length ∧ isSc (T.getD (mst T (s + 1)) 0) = true ∧ scN (T.take (mst T (s + 1))) = s := by
  intro T
  induction T with
  | nil => intro s h; exact absurd h (by show ¬ (s + 1 ≤ 0); omega)
  | cons m T ih =>
    intro s h
    have h : s + 1 ≤ (if isSc m = true then scN T + 1 else scN T) := h
    have e : mst (m :: T) (s + 1) = (if isSc m = true then (if s = 0 then 0 else mst T s + 1) else mst T (s + 1) + 1) := rfl
    by_cases d : isSc m = true
    · rw [if_pos d] at h e
      by_cases z : s = 0
      · rw [if_pos z] at e
        rw [e]
        exact ⟨Nat.succ_pos _, d, z.symm⟩
      · rw [if_neg z] at e
        obtain ⟨s, rfl⟩ : ∃ s', s = s' + 1 := ⟨s - 1, by omega⟩
        obtain ⟨a1, a2, a3⟩ := ih s (by omega)
        rw [e]
        refine ⟨Nat.succ_lt_succ a1, a2, ?_⟩
        rw [List.take_succ_cons]
        show (if isSc m = true then scN (T.take (mst T (s + 1))) + 1 else _) = _
        rw [if_pos d, a3]
    · rw [if_neg d] at h e
      obtain ⟨a1, a2, a3⟩ := ih s h
      rw [e]
      refine ⟨Nat.succ_lt_succ a1, a2, ?_⟩
      rw [List.take_succ_cons]
      show (if isSc m = true then _ else scN (T.take (mst T (s + 1)))) = _
      rw [if_neg d, a3]
theorem mst_end : ∀ (T : List Nat) (s : Nat), scN T < s → mst T s = T.length := by
  intro T
  induction T with
  | nil => intro s h; cases s <;> rfl
  | cons m T ih =>
    intro s h
    cases s with
    | zero => exact absurd h (Nat.not_lt_zero _)
    | succ s =>
      have h : (if isSc m = true then scN T + 1 else scN T) < s + 1 := h
      show (if isSc m = true then (if s = 0 then 0 else mst T s + 1) else mst T (s + 1) + 1) = T.length + 1
      by_cases d : isSc m = true
      · rw [if_pos d] at h ⊢
        rw [if_neg (by omega), ih s (by omega)]
      · rw [if_neg d] at h ⊢
        rw [ih (s + 1) (by omega)]
section SCT
variable {T A B W N V : List Nat}
/-- the tokens of a macro -/
theorem secs_mac {g : Nat → Int} {p : Nat} {kd v : Nat} (hk : kd ≤ 10) (hv : v < 60) (h4 : kd = 4 → v = 0) (h : ∀ j, j < (cdM kd v).length → g (p + j) = (cdM kd v).getD j 0) : secs g (p + (cdM kd v).length) = secs g p + (if kd = 4 then 1 else 0) := by
  have z : ∀ (x : Int) (i : Nat), g i = x → ¬ x / 1000 = 13 → secs g (i + 1) = secs g i := fun x i e n => by rw [secs_succ, e, if_neg n]; rfl
  rcases (show kd = 0 ∨ kd = 1 ∨ kd = 2 ∨ kd = 3 ∨ kd = 4 ∨ kd = 5 ∨ kd = 6 ∨ kd = 7 ∨ kd = 8 ∨ kd = 9 ∨ kd = 10 by omega) with a | a | a | a | a | a | a | a | a | a | a <;> subst a
  · exact z (v : Int) p (h 0 (by show 0 < 1; decide)) (by omega)
  · exact z (1000 + (v : Int)) p (h 0 (by show 0 < 1; decide)) (by omega)
  · exact (z 7000 (p + 1) (h 1 (by show 1 < 2; decide)) (by decide)).trans (z (2000 + (v : Int)) p (h 0 (by show 0 < 2; decide)) (by omega))
  · exact z (11000 + (v : Int)) p (h 0 (by show 0 < 1; decide)) (by omega)
  · show secs g (p + 1) = _
    have e : g p = 13000 := h 0 (by show 0 < 1; decide)
    rw [secs_succ, e]; rfl
  · exact (z 7000 (p + 3) (h 3 (by show 3 < 4; decide)) (by decide)).trans ((z (v : Int) (p + 2) (h 2 (by show 2 < 4; decide)) (by omega)).trans ((z 5000 (p + 1) (h 1 (by show 1 < 4; decide)) (by decide)).trans (z 4004 p (h 0 (by show 0 < 4; decide)) (by decide))))
  · exact (z 7000 (p + 3) (h 3 (by show 3 < 4; decide)) (by decide)).trans ((z (v : Int) (p + 2) (h 2 (by show 2 < 4; decide)) (by omega)).trans ((z 5000 (p + 1) (h 1 (by show 1 < 4; decide)) (by decide)).trans (z 4005 p (h 0 (by show 0 < 4; decide)) (by decide))))
  · exact (z 7000 (p + 3) (h 3 (by show 3 < 4; decide)) (by decide)).trans ((z (v : Int) (p + 2) (h 2 (by show 2 < 4; decide)) (by omega)).trans ((z 5000 (p + 1) (h 1 (by show 1 < 4; decide)) (by decide)).trans (z 4003 p (h 0 (by show 0 < 4; decide)) (by decide))))
  · exact (z 7000 (p + 2) (h 2 (by show 2 < 3; decide)) (by decide)).trans ((z (v : Int) (p + 1) (h 1 (by show 1 < 3; decide)) (by omega)).trans (z 8000 p (h 0 (by show 0 < 3; decide)) (by decide)))
  · exact (z 7000 (p + 2) (h 2 (by show 2 < 3; decide)) (by decide)).trans ((z (v : Int) (p + 1) (h 1 (by show 1 < 3; decide)) (by omega)).trans (z 9000 p (h 0 (by show 0 < 3; decide)) (by decide)))
  · exact z (12000 + (v : Int)) p (h 0 (by show 0 < 1; decide)) (by omega)
theorem secs_tks (hT : ∀ m ∈ T, okM m) : ∀ k, k ≤ T.length → secs (tkG T) (PT T k) = scN (T.take k) := by
  intro k
  induction k with
  | zero => intro _; rfl
  | succ k ih =>
    intro hk
    have hlt : k < T.length := hk
    have ok := hT _ (getD_mm hlt)
    have l2 : PT T (k + 1) = PT T k + (cdL (T.getD k 0)).length := by show (tks (T.take (k + 1))).length = _; rw [tks_take hlt, List.length_append]
    rw [l2, take_snoc hlt, scN_app, scN_one, ← ih (by omega)]
    have e := secs_mac (g := tkG T) (p := PT T k) ok.1 ok.v60 ok.2.2.1 (fun j hj => tks_at hlt hj)
    refine e.trans ?_
    unfold isSc
    by_cases c : T.getD k 0 % 16 = 4
    · rw [if_pos c, if_pos (decide_eq_true c)]
    · rw [if_neg c, if_neg (fun z => c (of_decide_eq_true z))]
theorem secs_all (hT : ∀ m ∈ T, okM m) : secs (tkG T) (tks T).length = scN T := by
  have e := secs_tks hT T.length (Nat.le_refl _)
  unfold PT at e
  rw [List.take_length] at e
  exact e
theorem sstG_at {g : Nat → Int} {s i0 : Nat} (h1 : g i0 / 1000 = 13) (h2 : secs g (i0 + 1) = s) : ∀ m i, i ≤ i0 → i0 < i + m → sstG g s i m = i0 := by
  intro m
  induction m with
  | zero => intro i a c; omega
  | succ m ih =>
    intro i a c
    by_cases e : i = i0
    · subst e
      unfold sstG
      rw [if_pos ⟨h1, h2⟩]
    · unfold sstG
      have mono := secs_mono g (show i + 1 ≤ i0 by omega)
      have st : secs g (i0 + 1) = secs g i0 + 1 := by rw [secs_succ, if_pos h1]
      rw [if_neg (fun z => by have := z.2; omega)]
      exact ih (i + 1) (by omega) (by omega)
theorem sst_tks (hT : ∀ m ∈ T, okM m) (s : Nat) : sst (tkG T) (tks T).length s = PT T (mst T s) := by
  cases s with
  | zero => rw [mst_0]; rfl
  | succ s =>
    by_cases c : s + 1 ≤ scN T
    · obtain ⟨a1, a2, a3⟩ := mst_spec T s c
      have ok := hT _ (getD_mm a1)
      have k4 : T.getD (mst T (s + 1)) 0 % 16 = 4 := of_decide_eq_true a2
      have g0 : tkG T (PT T (mst T (s + 1))) = 13000 := by
        have := tks_at a1 (j := 0) (by have := (cdL_len (T.getD (mst T (s + 1)) 0)).1; omega)
        refine this.trans ?_
        unfold cdL
        rw [k4]; rfl
      have sc := secs_tks hT _ (Nat.le_of_lt a1)
      have lt : PT T (mst T (s + 1)) < (tks T).length := by
        have l := tks_take_le (T := T) (k := mst T (s + 1) + 1)
        rw [tks_take a1, List.length_append] at l
        have := (cdL_len (T.getD (mst T (s + 1)) 0)).1
        show (tks (T.take (mst T (s + 1)))).length < _
        omega
      unfold sst
      rw [if_neg (Nat.succ_ne_zero s)]
      exact sstG_at (by rw [g0]; decide) (by rw [secs_succ, g0, if_pos (by decide), sc, a3]) _ 0 (Nat.zero_le _) (by omega)
    · rw [sst_end (g := tkG T) (n := (tks T).length) (s := s + 1) (by rw [secs_all hT]; omega), mst_end T (s + 1) (by omega)]
      show _ = (tks (T.take T.length)).length
      rw [List.take_length]
/-- a section, as a row of tokens -/
theorem sec_tks (hT : ∀ m ∈ T, okM m) (s : Nat) : sst (tkG T) (tks T).length (s + 1) = sst (tkG T) (tks T).length s + (tks (secF T s)).length ∧ ∀ i, i < (tks (secF T s)).length → tkG T (sst (tkG T) (tks T).length s + i) = (tks (secF T s)).getD i 0 := by
  have e := secF_mst T s
  rw [sst_tks hT, sst_tks hT]
  have l : PT T (mst T (s + 1)) = PT T (mst T s) + (tks (secF T s)).length := by
    show (tks (T.take (mst T (s + 1)))).length = _
    rw [e, tks_app, List.length_append]
  refine ⟨l, fun i hi => ?_⟩
  have e2 : tks T = tks (T.take (mst T s)) ++ (tks (secF T s) ++ tks (T.drop (mst T (s + 1)))) := by
    rw [← List.append_assoc, ← tks_app, ← e, ← tks_app, List.take_append_drop]
  show (tks T).getD _ 0 = _
  rw [e2, List.getD_eq_getElem?_getD, List.getElem?_append_right (show (tks (T.take (mst T s))).length ≤ (tks (T.take (mst T s))).length + i by omega), show PT T (mst T s) + i - (tks (T.take (mst T s))).length = i by show (tks (T.take (mst T s))).length + i - _ = i; omega, List.getElem?_append_left hi, ← List.getD_eq_getElem?_getD]
theorem secF_ok (hT : ∀ m ∈ T, okM m) (s : Nat) : ∀ m ∈ secF T s, okM m := fun m hm => hT m (secF_mem T s m hm)
/-- a row of tokens that stands for macros -/
def Rep (g : Nat → Int) (n : Nat) (X : List Nat) : Prop := n = (tks X).length ∧ ∀ k, k < n → g k = (tks X).getD k 0
theorem sec_rep {g : Nat → Int} {n : Nat} (h : Rep g n T) (hT : ∀ m ∈ T, okM m) (s : Nat) : sst g n (s + 1) = sst g n s + (tks (secF T s)).length ∧ ∀ i, i < (tks (secF T s)).length → g (sst g n s + i) = (tks (secF T s)).getD i 0 := by
  obtain ⟨h1, h2⟩ := h
  obtain ⟨a1, a2⟩ := sec_tks hT s
  have e : ∀ k, k < n → g k = tkG T k := h2
  rw [sst_congr s e, sst_congr (s + 1) e, h1]
  refine ⟨a1, fun i hi => ?_⟩
  have le := sst_le (tkG T) (tks T).length (s + 1)
  rw [h2 _ (by omega)]
  exact a2 i hi
theorem secs_rep {g : Nat → Int} {n : Nat} (h : Rep g n T) (hT : ∀ m ∈ T, okM m) : secs g n = scN T := by
  rw [secs_congr (f := tkG T) h.2, h.1]
  exact secs_all hT
theorem sameS_rep {ga gb : Nat → Int} {na nb : Nat} (ra : Rep ga na A) (rb : Rep gb nb B) (hA : ∀ m ∈ A, okM m) (hB : ∀ m ∈ B, okM m) (s : Nat) : SameS ga na gb nb s ↔ secF A s = secF B s := by
  obtain ⟨a1, a2⟩ := sec_rep ra hA s
  obtain ⟨b1, b2⟩ := sec_rep rb hB s
  unfold SameS
  rw [a1, b1, show sst ga na s + (tks (secF A s)).length - sst ga na s = (tks (secF A s)).length by omega, show sst gb nb s + (tks (secF B s)).length - sst gb nb s = (tks (secF B s)).length by omega]
  constructor
  · rintro ⟨h1, h2⟩
    refine tks_inj _ _ (secF_ok hA s) (secF_ok hB s) (List.ext_getElem h1 (fun i hi hj => ?_))
    have := h2 i hi
    rw [a2 i hi, b2 i hj, List.getD_eq_getElem?_getD, List.getD_eq_getElem?_getD, List.getElem?_eq_getElem hi, List.getElem?_eq_getElem hj] at this
    exact this
  · intro e
    refine ⟨by rw [e], fun i hi => ?_⟩
    rw [a2 i hi, b2 i (by rw [← e]; exact hi), e]
theorem Rep.nil (g : Nat → Int) : Rep g 0 [] := ⟨rfl, fun k hk => absurd hk (Nat.not_lt_zero _)⟩
theorem Rep.cat {g f : Nat → Int} {n : Nat} {X Y : List Nat} (h : Rep g n X) (hf : ∀ k, k < (tks Y).length → f k = (tks Y).getD k 0) : Rep (cat g n f) (n + (tks Y).length) (X ++ Y) := by
  obtain ⟨h1, h2⟩ := h
  refine ⟨by rw [tks_app, List.length_append, h1], fun k hk => ?_⟩
  rw [tks_app]
  by_cases c : k < n
  · rw [cat_lt c, h2 k c, List.getD_eq_getElem?_getD, List.getD_eq_getElem?_getD, List.getElem?_append_left (by omega)]
  · obtain ⟨j, rfl⟩ : ∃ j, k = n + j := ⟨k - n, by omega⟩
    rw [cat_ge, hf j (by omega), List.getD_eq_getElem?_getD, List.getD_eq_getElem?_getD, List.getElem?_append_right (by omega), show n + j - (tks X).length = j by omega]
theorem mgL_rep {a b' : Nat → Bool} {gw gn : Nat → Int} {nw nn : Nat} (rw_ : Rep gw nw W) (rn : Rep gn nn N) (hW : ∀ m ∈ W, okM m) (hN : ∀ m ∈ N, okM m) {okp : Nat → Prop} [DecidablePred okp] (hab : ∀ i, okp i ↔ (a i = true ∨ b' i = true)) (ha : ∀ i, a i = true ↔ secF W i = secF B i) : ∀ m i g n X, Rep g n X → (pcs okp (fun k => if secF W k = secF B k then secF N k else secF W k) m i X = none ∧ mgL a b' gw gn nw nn i m g n = none) ∨ (∃ R g' n', pcs okp (fun k => if secF W k = secF B k then secF N k else secF W k) m i X = some R ∧ mgL a b' gw gn nw nn i m g n = some (g', n') ∧ Rep g' n' R) := by
  intro m
  induction m with
  | zero => intro i g n X h; exact Or.inr ⟨X, g, n, rfl, rfl, h⟩
  | succ m ih =>
    intro i g n X h
    have e1 : pcs okp (fun k => if secF W k = secF B k then secF N k else secF W k) (m + 1) i X = if okp i then pcs okp (fun k => if secF W k = secF B k then secF N k else secF W k) m (i + 1) (X ++ (if secF W i = secF B i then secF N i else secF W i)) else none := rfl
    rw [e1, mgL]
    obtain ⟨w1, w2⟩ := sec_rep rw_ hW i
    obtain ⟨n1, n2⟩ := sec_rep rn hN i
    by_cases c : a i = true
    · rw [if_pos c, if_pos ((hab i).mpr (Or.inl c)), if_pos ((ha i).mp c), n1, show sst gn nn i + (tks (secF N i)).length - sst gn nn i = (tks (secF N i)).length by omega]
      exact ih (i + 1) _ _ _ (h.cat n2)
    · rw [if_neg c, if_neg (fun z => c ((ha i).mpr z))]
      by_cases d : b' i = true
      · rw [if_pos d, if_pos ((hab i).mpr (Or.inr d)), w1, show sst gw nw i + (tks (secF W i)).length - sst gw nw i = (tks (secF W i)).length by omega]
        exact ih (i + 1) _ _ _ (h.cat w2)
      · rw [if_neg d, if_neg (fun z => ((hab i).mp z).elim c d)]
        exact Or.inl ⟨rfl, rfl⟩
theorem mgO_rep {a b' : Nat → Bool} {gw gb gn : Nat → Int} {nw nb nn : Nat} (rw_ : Rep gw nw W) (rb : Rep gb nb B) (rn : Rep gn nn N) (hW : ∀ m ∈ W, okM m) (hB : ∀ m ∈ B, okM m) (hN : ∀ m ∈ N, okM m) {okp : Nat → Prop} [DecidablePred okp] (hab : ∀ i, okp i ↔ (a i = true ∨ b' i = true)) (ha : ∀ i, a i = true ↔ secF W i = secF B i) (R : Option (List Nat)) (hR : R = if (scN W = scN B ∧ scN W = scN N) ∧ ∀ k, k < 1 + scN B → okp k then some (catL (1 + scN B) (fun k => if secF W k = secF B k then secF N k else secF W k)) else none) : (R = none ∧ mgO a b' gb gw gn nb nw nn = none) ∨ (∃ X g' n', R = some X ∧ mgO a b' gb gw gn nb nw nn = some (g', n') ∧ Rep g' n' X) := by
  unfold mgO
  rw [secs_rep rw_ hW, secs_rep rb hB, secs_rep rn hN]
  by_cases c : scN W = scN B ∧ scN N = scN B
  · rw [if_pos c]
    have p := pcs_0 (ok := okp) (p := fun k => if secF W k = secF B k then secF N k else secF W k) (1 + scN B)
    have eR : R = pcs okp (fun k => if secF W k = secF B k then secF N k else secF W k) (1 + scN B) 0 [] := by
      rw [hR, p]
      by_cases d : ∀ k, k < 1 + scN B → okp k
      · rw [if_pos ⟨⟨c.1, c.1.trans c.2.symm⟩, d⟩, if_pos d]
      · rw [if_neg (fun z => d z.2), if_neg d]
    rw [eR]
    exact mgL_rep rw_ rn hW hN hab ha (1 + scN B) 0 _ 0 [] (Rep.nil _)
  · rw [if_neg c, hR, if_neg (fun z => c ⟨z.1.1, z.1.2.symm.trans z.1.1⟩)]
    exact Or.inl ⟨rfl, rfl⟩
end SCT
