/-! SECTIONS of a row of macros -/
def isSc (m : Nat) : Bool := decide (m % 16 = 4)
def scN : List Nat → Nat
  | [] => 0
  | m :: T => if isSc m = true then scN T + 1 else scN T
def secF : List Nat → Nat → List Nat
  | [], _ => []
  | m :: T, 0 => if isSc m = true then [] else m :: secF T 0
  | m :: T, w + 1 => if isSc m = true then (if w = 0 then m :: secF T 0 else secF T w) else secF T (w + 1)
theorem scN_app (A B : List Nat) : scN (A ++ B) = scN A + scN B := by
  induction A with
  | nil => show scN B = 0 + scN B; omega
  | cons m A ih =>
    show (if isSc m = true then scN (A ++ B) + 1 else scN (A ++ B)) = (if isSc m = true then scN A + 1 else scN A) + scN B
    split <;> omega
theorem scN_one (m : Nat) : scN [m] = if isSc m = true then 1 else 0 := rfl
theorem scN_le (T : List Nat) : scN T ≤ T.length := by
  induction T with
  | nil => exact Nat.le_refl _
  | cons m T ih =>
    show (if isSc m = true then scN T + 1 else scN T) ≤ T.length + 1
    split <;> omega
theorem secF_snoc (m : Nat) : ∀ (T : List Nat) (w : Nat), secF (T ++ [m]) w = secF T w ++ (if scN (T ++ [m]) = w then [m] else []) := by
  intro T
  induction T with
  | nil =>
    intro w
    cases w with
    | zero =>
      show (if isSc m = true then [] else m :: secF [] 0) = [] ++ (if (if isSc m = true then 0 + 1 else 0) = 0 then [m] else [])
      split
      · rfl
      · rfl
    | succ w =>
      show (if isSc m = true then (if w = 0 then m :: secF [] 0 else secF [] w) else secF [] (w + 1)) = [] ++ (if (if isSc m = true then 0 + 1 else 0) = w + 1 then [m] else [])
      by_cases c : isSc m = true
      · rw [if_pos c, if_pos c]
        by_cases d : w = 0
        · subst d; rfl
        · rw [if_neg d, if_neg (by omega)]; rfl
      · rw [if_neg c, if_neg c, if_neg (by omega)]; rfl
  | cons x T ih =>
    intro w
    have e : scN (x :: T ++ [m]) = if isSc x = true then scN (T ++ [m]) + 1 else scN (T ++ [m]) := rfl
    cases w with
    | zero =>
      show (if isSc x = true then [] else x :: secF (T ++ [m]) 0) = (if isSc x = true then [] else x :: secF T 0) ++ _
      rw [e]
      by_cases c : isSc x = true
      · rw [if_pos c, if_pos c, if_pos c, if_neg (by omega)]; rfl
      · rw [if_neg c, if_neg c, if_neg c, ih 0]; rfl
    | succ w =>
      show (if isSc x = true then (if w = 0 then x :: secF (T ++ [m]) 0 else secF (T ++ [m]) w) else secF (T ++ [m]) (w + 1)) = (if isSc x = true then (if w = 0 then x :: secF T 0 else secF T w) else secF T (w + 1)) ++ _
      rw [e]
      by_cases c : isSc x = true
      · rw [if_pos c, if_pos c, if_pos c]
        by_cases d : w = 0
        · subst d
          rw [if_pos rfl, if_pos rfl, ih 0]
          by_cases g : scN (T ++ [m]) = 0
          · rw [if_pos g, if_pos (by omega)]; rfl
          · rw [if_neg g, if_neg (by omega)]; rfl
        · rw [if_neg d, if_neg d, ih w]
          by_cases g : scN (T ++ [m]) = w
          · rw [if_pos g, if_pos (by omega)]
          · rw [if_neg g, if_neg (by omega)]
      · rw [if_neg c, if_neg c, if_neg c, ih (w + 1)]
theorem secF_mem : ∀ (T : List Nat) (w m : Nat), m ∈ secF T w → m ∈ T := by
  intro T
  induction T with
  | nil => intro w m h; cases h
  | cons x T ih =>
    intro w m h
    cases w with
    | zero =>
      have h : m ∈ (if isSc x = true then [] else x :: secF T 0) := h
      split at h
      · cases h
      · rcases List.mem_cons.mp h with g | g
        · rw [g]; exact List.mem_cons_self
        · exact List.mem_cons_of_mem _ (ih _ _ g)
    | succ w =>
      have h : m ∈ (if isSc x = true then (if w = 0 then x :: secF T 0 else secF T w) else secF T (w + 1)) := h
      split at h
      · split at h
        · rcases List.mem_cons.mp h with g | g
          · rw [g]; exact List.mem_cons_self
          · exact List.mem_cons_of_mem _ (ih _ _ g)
        · exact List.mem_cons_of_mem _ (ih _ _ h)
      · exact List.mem_cons_of_mem _ (ih _ _ h)
theorem secF_len (T : List Nat) : ∀ w, (secF T w).length ≤ T.length := by
  induction T with
  | nil => intro w; exact Nat.le_refl _
  | cons x T ih =>
    intro w
    cases w with
    | zero =>
      show (if isSc x = true then [] else x :: secF T 0).length ≤ T.length + 1
      split
      · exact Nat.zero_le _
      · have := ih 0; show (secF T 0).length + 1 ≤ _; omega
    | succ w =>
      show (if isSc x = true then (if w = 0 then x :: secF T 0 else secF T w) else secF T (w + 1)).length ≤ T.length + 1
      split
      · split
        · have := ih 0; show (secF T 0).length + 1 ≤ _; omega
        · have := ih w; omega
      · have := ih (w + 1); omega
theorem secF_tm {T : List Nat} (h : TM T) (w : Nat) : TM (secF T w) := ⟨Nat.le_trans (secF_len T w) h.1, fun m hm => h.2 m (secF_mem T w m hm)⟩
/-- rows one behind another -/
def catL (n : Nat) (p : Nat → List Nat) : List Nat := (List.range n).flatMap p
theorem catL_succ (n : Nat) (p : Nat → List Nat) : catL (n + 1) p = catL n p ++ p n := by
  unfold catL
  rw [List.range_succ, List.flatMap_append]
  show _ ++ (p n ++ []) = _
  rw [List.append_nil]
theorem take6 (A B : List Nat) : (A.take 6 ++ B).take 6 = (A ++ B).take 6 := by
  by_cases h : A.length ≤ 6
  · rw [List.take_of_length_le h]
  · rw [List.take_append, List.take_append, List.take_take, List.length_take]
    have e : 6 - min 6 A.length = 0 := by omega
    have e2 : 6 - A.length = 0 := by omega
    rw [e, e2, List.take_zero, Nat.min_self]
theorem take_snoc {T : List Nat} {i : Nat} (hi : i < T.length) : T.take (i + 1) = T.take i ++ [T.getD i 0] := by
  rw [List.take_succ_eq_append_getElem hi, List.getD_eq_getElem?_getD, List.getElem?_eq_getElem hi]
  rfl
theorem getD_lt {T : List Nat} (h : TM T) (i : Nat) : T.getD i 0 < 1024 := by
  rw [List.getD_eq_getElem?_getD]
  by_cases hi : i < T.length
  · rw [List.getElem?_eq_getElem hi]
    exact h.2 _ (List.getElem_mem hi)
  · rw [List.getElem?_eq_none (by omega)]
    decide
theorem rem16 {m : Nat} (hm : m < 1024) : remI (m : Int) 16 = ((m % 16 : Nat) : Int) := by
  rw [remI_of (by omega) (by omega) (by decide) (by decide)]
  omega
theorem div16 {m : Nat} (hm : m < 1024) : divI (m : Int) 16 = ((m / 16 : Nat) : Int) := by
  rw [divI_of (by omega) (by omega) (by decide) (by decide)]
  omega
theorem W_sections {T : List Nat} (h : TM T) : fW_sections (encT T) = some (((1 + scN T : Nat) : Int), ()) := by
  unfold fW_sections
  rw [bnd_eq]
  have h6 := h.1
  refine lpn_rule (P := fun mm (L : Int → Int → Option (Int × Unit)) => ∀ i, i ≤ T.length → T.length - i < mm → L ((1 + scN (T.take i) : Nat) : Int) (i : Int) = some (((1 + scN T : Nat) : Int), ())) (fun i _ h => absurd h (Nat.not_lt_zero _)) (fun mm L hL i hi hm => ?_) FU 0 (Nat.zero_le _) (by unfold FU; omega)
  have s1 := scN_le (T.take i)
  rw [List.length_take] at s1
  rw [cal1_of (W_macros h)]
  rcases Nat.lt_or_ge i T.length with hlt | hge
  · have q := hL (i + 1) (by omega) (by omega)
    have hl := getD_lt h i
    rw [take_snoc hlt, scN_app, scN_one] at q
    rw [if_neg (by rw [w32_n (by omega), w32_n (by omega)]; omega), cal1_of (W_macro h hlt), rem16 hl, bnd_eq]
    unfold isSc at q
    by_cases c : T.getD i 0 % 16 = 4
    · rw [if_pos (decide_eq_true c)] at q
      rw [if_neg (by rw [w32_n (by omega)]; exact fun z => z (by rw [c]; rfl))]
      dsimp only
      rw [bnd_eq, show (((1 + scN (T.take i) : Nat) : Int) + 1) = ((1 + (scN (T.take i) + 1) : Nat) : Int) by omega]
      exact q
    · rw [if_neg (fun z => c (of_decide_eq_true z))] at q
      rw [if_pos (by rw [w32_n (by omega), show w32 4 = 4 from rfl]; omega)]
      dsimp only
      rw [bnd_eq, show (((1 + scN (T.take i) : Nat) : Int) + 0) = ((1 + (scN (T.take i) + 0) : Nat) : Int) by omega]
      exact q
  · have e : i = T.length := by omega
    subst e
    rw [if_pos (by omega), List.take_length]
theorem W_section {T : List Nat} (h : TM T) {w : Nat} (hw : w < 100) : fW_section (encT T) (w : Int) = some (encT (secF T w), ()) := by
  unfold fW_section
  rw [bnd_eq]
  have h6 := h.1
  refine lpn_rule (P := fun mm (L : Int → Int → Int → Option (Int × Unit)) => ∀ i, i ≤ T.length → T.length - i < mm → L (encT (secF (T.take i) w)) (scN (T.take i) : Int) (i : Int) = some (encT (secF T w), ())) (fun i _ h => absurd h (Nat.not_lt_zero _)) (fun mm L hL i hi hm => ?_) FU 0 (Nat.zero_le _) (by unfold FU; omega)
  have s1 := scN_le (T.take i)
  rw [List.length_take] at s1
  rw [cal1_of (W_macros h)]
  rcases Nat.lt_or_ge i T.length with hlt | hge
  · have q := hL (i + 1) (by omega) (by omega)
    have hl := getD_lt h i
    rw [take_snoc hlt, secF_snoc] at q
    rw [if_neg (by rw [w32_n (by omega), w32_n (by omega)]; omega), cal1_of (W_macro h hlt), rem16 hl, bnd_eq]
    have st : ∀ x : Nat, x = scN (T.take i ++ [T.getD i 0]) → (bnd ((x : Nat) : Int) fun (x5_38 : Int) => bnd (fun (t0_62 : Int) => L t0_62 x5_38 ((i : Int) + 1)) fun J62 => if ¬ w32 x5_38 = w32 (w : Int) then J62 (encT (secF (T.take i) w)) else cal1 (fW_macro (encT T) (i : Int)) fun (r3 : Int) _ => J62 (lorI (lshlI (encT (secF (T.take i) w)) 10) (w32 r3))) = some (encT (secF T w), ()) := by
      intro x hx
      have s2 := scN_le (T.take i ++ [T.getD i 0])
      rw [List.length_append, List.length_take] at s2
      have s3 : scN (T.take i ++ [T.getD i 0]) ≤ min i T.length + 1 := s2
      rw [← hx] at q s3
      rw [bnd_eq, bnd_eq]
      by_cases c : x = w
      · rw [if_pos c, encT_snoc] at q
        have hb := encT_b5 (T := secF (T.take i) w) ⟨Nat.le_trans (secF_len _ _) (by rw [List.length_take]; omega), fun m hm => h.2 m (List.mem_of_mem_take (secF_mem _ _ _ hm))⟩ (Nat.le_trans (secF_len _ _) (by rw [List.length_take]; omega))
        rw [if_neg (fun z => z (by rw [c])), cal1_of (W_macro h hlt), w32_n (by omega), lor_mac (by omega) (by omega) (by omega) (by omega)]
        exact q
      · rw [if_neg c, List.append_nil] at q
        rw [if_pos (by rw [w32_n (by omega), w32_n (by omega)]; omega)]
        exact q
    have sx : scN (T.take i ++ [T.getD i 0]) = scN (T.take i) + (if isSc (T.getD i 0) = true then 1 else 0) := by rw [scN_app, scN_one]
    unfold isSc at sx
    by_cases c : T.getD i 0 % 16 = 4
    · rw [if_pos (decide_eq_true c)] at sx
      rw [if_neg (by rw [w32_n (by omega)]; exact fun z => z (by rw [c]; rfl))]
      exact st (scN (T.take i) + 1) sx.symm
    · rw [if_neg (fun z => c (of_decide_eq_true z))] at sx
      rw [if_pos (by rw [w32_n (by omega), show w32 4 = 4 from rfl]; omega)]
      have z := st (scN (T.take i) + 0) sx.symm
      exact z
  · have e : i = T.length := by omega
    subst e
    rw [if_pos (by omega), List.take_length]
theorem W_behind {A B : List Nat} (hA : TM A) (hB : TM B) : fW_behind (encT A) (encT B) = some (encT ((A ++ B).take 6), ()) := by
  unfold fW_behind
  rw [bnd_eq]
  have a6 := hA.1
  have b6 := hB.1
  have key := lpn_rule (z := fun (_ : Int) (_ : Int) => (none : Option (Int × Unit))) (body := fun L6 (v4_6 : Int) (v6_6 : Int) =>
    cal1 (fW_macros (encT B)) fun (r1 : Int) _ =>
    bnd (some (v4_6, ())) fun J46 =>
    if w32 r1 ≤ w32 v6_6 then J46 else
    cal1 (fW_macros v4_6) fun (r2 : Int) _ =>
    if w32 6 ≤ w32 r2 then J46 else
    cal1 (fW_macro (encT B) v6_6) fun (r3 : Int) _ =>
    bnd (lorI (lshlI v4_6 10) (w32 r3)) fun (x4_38 : Int) => L6 x4_38 (v6_6 + 1)) (fun mm L => ∀ (X : List Nat) (i : Nat), i ≤ B.length → B.length - i < mm → TM X → L (encT X) (i : Int) = some (encT ((X ++ B.drop i).take 6), ())) (fun X i _ h => absurd h (Nat.not_lt_zero _)) (fun mm L hL X i hi hm hX => ?_) FU A 0 (Nat.zero_le _) (by unfold FU; omega) hA
  · exact key
  · have x6 := hX.1
    dsimp only
    rw [cal1_of (W_macros hB), bnd_eq]
    rcases Nat.lt_or_ge i B.length with hlt | hge
    · rw [if_neg (by rw [w32_n (by omega), w32_n (by omega)]; omega), cal1_of (W_macros hX)]
      by_cases c : X.length = 6
      · rw [if_pos (by rw [w32_n (by omega), show w32 6 = 6 from rfl]; omega), List.take_append_of_le_length (by omega), List.take_of_length_le (by omega)]
      · have hl := getD_lt hB i
        have q := hL (X ++ [B.getD i 0]) (i + 1) (by omega) (by omega) (hX.snoc (by omega) hl)
        have hb := encT_b5 hX (by omega)
        rw [if_neg (by rw [w32_n (by omega), show w32 6 = 6 from rfl]; omega), cal1_of (W_macro hB hlt), bnd_eq, w32_n (by omega), lor_mac (by omega) (by omega) (by omega) (by omega), ← encT_snoc]
        rw [List.append_assoc] at q
        have e : [B.getD i 0] ++ B.drop (i + 1) = B.drop i := by
          rw [List.drop_eq_getElem_cons hlt, List.getD_eq_getElem?_getD, List.getElem?_eq_getElem hlt]
          rfl
        rw [e] at q
        exact q
    · have e : i = B.length := by omega
      subst e
      rw [if_pos (by omega), List.drop_length, List.append_nil, List.take_of_length_le (by omega)]
theorem TM.take6 {A : List Nat} (h : ∀ m ∈ A, m < 1024) : TM (A.take 6) := ⟨by rw [List.length_take]; omega, fun m hm => h m (List.mem_of_mem_take hm)⟩
theorem catL_lt {n : Nat} {p : Nat → List Nat} (h : ∀ k, k < n → ∀ m ∈ p k, m < 1024) : ∀ m ∈ catL n p, m < 1024 := by
  intro m hm
  obtain ⟨k, hk, g⟩ := List.mem_flatMap.mp hm
  exact h k (List.mem_range.mp hk) m g
theorem W_with {T P : List Nat} (h : TM T) (hP : TM P) {s : Nat} (hs : s < 100) : fW_with (encT T) (s : Int) (encT P) = some (encT ((catL (1 + scN T) (fun k => if k = s then P else secF T k)).take 6), ()) := by
  unfold fW_with
  rw [bnd_eq]
  have h6 := h.1
  have s0 := scN_le T
  refine lpn_rule (P := fun mm (L : Int → Int → Option (Int × Unit)) => ∀ i, i ≤ 1 + scN T → (1 + scN T) - i < mm → L (encT ((catL i (fun k => if k = s then P else secF T k)).take 6)) (i : Int) = some (encT ((catL (1 + scN T) (fun k => if k = s then P else secF T k)).take 6), ())) (fun i _ h => absurd h (Nat.not_lt_zero _)) (fun mm L hL i hi hm => ?_) FU 0 (Nat.zero_le _) (by unfold FU; omega)
  rw [cal1_of (W_sections h)]
  rcases Nat.lt_or_ge i (1 + scN T) with hlt | hge
  · have q := hL (i + 1) (by omega) (by omega)
    have hX : TM ((catL i (fun k => if k = s then P else secF T k)).take 6) := TM.take6 (catL_lt (fun k _ m hm => by
      by_cases c : k = s
      · rw [if_pos c] at hm; exact hP.2 m hm
      · rw [if_neg c] at hm; exact h.2 m (secF_mem _ _ _ hm)))
    rw [catL_succ, ← take6] at q
    rw [if_neg (by rw [w32_n (by omega), w32_n (by omega)]; omega), bnd_eq]
    by_cases c : i = s
    · rw [if_pos c] at q
      rw [if_neg (fun z => z (by rw [c]))]
      dsimp only
      rw [cal1_of (W_behind hX hP)]
      exact q
    · rw [if_neg c] at q
      rw [if_pos (by rw [w32_n (by omega), w32_n (by omega)]; omega), cal1_of (W_section h (by omega))]
      dsimp only
      rw [cal1_of (W_behind hX (secF_tm h i))]
      exact q
  · have e : i = 1 + scN T := by omega
    subst e
    rw [if_pos (by omega)]
