/-! MERGING, UNDOING, what a text is, drawing -/
def mgW (W B N : List Nat) : Option (List Nat) := if (scN W = scN B ∧ scN W = scN N) ∧ ∀ k, k < 1 + scN B → (secF W k = secF B k ∨ secF N k = secF B k ∨ secF N k = secF W k) then some (catL (1 + scN B) (fun k => if secF W k = secF B k then secF N k else secF W k)) else none
def unW (A V N : List Nat) : Option (List Nat) := if (scN A = scN V ∧ scN A = scN N) ∧ ∀ k, k < 1 + scN V → (secF A k = secF V k ∨ secF N k = secF V k) then some (catL (1 + scN V) (fun k => if secF A k = secF V k then secF N k else secF A k)) else none
def encO : Option (List Nat) → Int
  | none => 0
  | some L => encT (L.take 6)
theorem enc_ne {T T' : List Nat} (h : TM T) (h' : TM T') : (w32 (lcmpI (encT T) (encT T')) = 0) ↔ T = T' := by
  rw [lcmp_eq0, w64_enc h, w64_enc h', encT_iff h h']
/-- pieces in turn, until one can't be -/
def pcs (ok : Nat → Prop) [DecidablePred ok] (p : Nat → List Nat) : Nat → Nat → List Nat → Option (List Nat)
  | 0, _, X => some X
  | n + 1, i, X => if ok i then pcs ok p n (i + 1) (X ++ p i) else none
theorem pcs_spec {ok : Nat → Prop} [DecidablePred ok] {p : Nat → List Nat} : ∀ n i, pcs ok p n i (catL i p) = if ∀ k, k < n → ok (i + k) then some (catL (i + n) p) else none := by
  intro n
  induction n with
  | zero => intro i; rw [if_pos (fun k hk => absurd hk (Nat.not_lt_zero _))]; rfl
  | succ n ih =>
    intro i
    show (if ok i then pcs ok p n (i + 1) (catL i p ++ p i) else none) = _
    rw [← catL_succ]
    by_cases c : ok i
    · rw [if_pos c, ih (i + 1)]
      by_cases d : ∀ k, k < n → ok (i + 1 + k)
      · rw [if_pos d, if_pos (fun k hk => by
          cases k with
          | zero => exact c
          | succ k => have := d k (by omega); rw [show i + (k + 1) = i + 1 + k by omega]; exact this), show i + 1 + n = i + (n + 1) by omega]
      · rw [if_neg d, if_neg (fun z => d (fun k hk => by have := z (k + 1) (by omega); rw [show i + 1 + k = i + (k + 1) by omega]; exact this))]
    · rw [if_neg c, if_neg (fun z => c (z 0 (by omega)))]
theorem pcs_0 {ok : Nat → Prop} [DecidablePred ok] {p : Nat → List Nat} (n : Nat) : pcs ok p n 0 [] = if ∀ k, k < n → ok k then some (catL n p) else none := by
  have h := pcs_spec (ok := ok) (p := p) n 0
  rw [show catL 0 p = [] from rfl] at h
  rw [h, Nat.zero_add]
  by_cases c : ∀ k, k < n → ok k
  · rw [if_pos c, if_pos (fun k hk => by rw [Nat.zero_add]; exact c k hk)]
  · rw [if_neg c, if_neg (fun z => c (fun k hk => by have := z k hk; rw [Nat.zero_add] at this; exact this))]
/-- the loop over sections -/
theorem pcs_loop {body : (Int → Int → Option (Int × Unit)) → Int → Int → Option (Int × Unit)} {ok : Nat → Prop} [DecidablePred ok] {p : Nat → List Nat} {N : Nat} (hN : N ≤ 7) (hp : ∀ i, ∀ m ∈ p i, m < 1024)
    (hend : ∀ L X, body L X (N : Int) = some (X, ())) (hstep : ∀ L X i, i < N → TM X → body L (encT X) (i : Int) = if ok i then L (encT ((X ++ p i).take 6)) ((i : Int) + 1) else some (0, ())) :
    lpn (fun (_ : Int) (_ : Int) => (none : Option (Int × Unit))) body FU 1 0 = some (encO (pcs ok p N 0 []), ()) := by
  have key := lpn_rule (z := fun (_ : Int) (_ : Int) => (none : Option (Int × Unit))) (body := body) (fun mm L => ∀ (X : List Nat) (i : Nat), i ≤ N → N - i < mm → (∀ m ∈ X, m < 1024) → L (encT (X.take 6)) (i : Int) = some (encO (pcs ok p (N - i) i X), ())) (fun X i _ h => absurd h (Nat.not_lt_zero _)) (fun mm L hL X i hi hm hX => ?_) FU [] 0 (Nat.zero_le _) (by unfold FU; omega) (fun _ h => by cases h)
  · exact key
  · rcases Nat.lt_or_ge i N with hlt | hge
    · rw [hstep L _ i hlt (TM.take6 hX)]
      obtain ⟨n, hn⟩ : ∃ n, N - i = n + 1 := ⟨N - i - 1, by omega⟩
      have q := hL (X ++ p i) (i + 1) (by omega) (by omega) (fun m hm2 => by
        rcases List.mem_append.mp hm2 with g | g
        · exact hX m g
        · exact hp i m g)
      rw [show N - (i + 1) = n by omega] at q
      rw [hn, take6]
      show _ = some (encO (if ok i then pcs ok p n (i + 1) (X ++ p i) else none), ())
      by_cases c : ok i
      · rw [if_pos c, if_pos c]; exact q
      · rw [if_neg c, if_neg c]; rfl
    · have e : i = N := by omega
      subst e
      rw [hend, Nat.sub_self]
      rfl
theorem W_merged {W B N : List Nat} (hW : TM W) (hB : TM B) (hN : TM N) : fW_merged (encT W) (encT B) (encT N) = some (encO (mgW W B N), ()) := by
  have s0 := scN_le B
  have s1 := scN_le W
  have s2 := scN_le N
  have w6 := hW.1
  have b6 := hB.1
  have n6 := hN.1
  unfold fW_merged fW_merged_26 mgW
  rw [cal1_of (W_sections hW), cal1_of (W_sections hB), bnd_eq]
  by_cases c1 : scN W = scN B
  · rw [if_neg (fun z => z (by rw [c1])), cal1_of (W_sections hW), cal1_of (W_sections hN)]
    by_cases c2 : scN W = scN N
    · rw [if_pos (by rw [c2]), bnd_eq]
      have key := pcs_loop (body := fun L31 (v6_31 : Int) (v8_31 : Int) => fW_merged_31 (encT W) (encT B) (encT N) L31 v6_31 v8_31) (ok := fun k => secF W k = secF B k ∨ secF N k = secF B k ∨ secF N k = secF W k) (p := fun k => if secF W k = secF B k then secF N k else secF W k) (N := 1 + scN B) (by omega) (fun i m hm => by
        split at hm
        · exact hN.2 m (secF_mem _ _ _ hm)
        · exact hW.2 m (secF_mem _ _ _ hm)) (fun L X => by
        unfold fW_merged_31
        rw [cal1_of (W_sections hB), if_pos (Int.le_refl _)]) (fun L X i hi hX => by
        have a1 := secF_tm hW i
        have a2 := secF_tm hB i
        have a3 := secF_tm hN i
        unfold fW_merged_31
        rw [cal1_of (W_sections hB), if_neg (by rw [w32_n (by omega), w32_n (by omega)]; omega), cal1_of (W_section hW (by omega)), cal1_of (W_section hB (by omega)), cal1_of (W_section hN (by omega)), bnd_eq]
        have J : fW_merged_91 L (encT X) (i : Int) (encT (secF W i)) (encT (secF B i)) (encT (secF N i)) = L (encT ((X ++ (if secF W i = secF B i then secF N i else secF W i)).take 6)) ((i : Int) + 1) := by
          unfold fW_merged_91 fW_merged_108
          rw [bnd_eq]
          by_cases d : secF W i = secF B i
          · rw [if_neg (fun z => z ((enc_ne a1 a2).mpr d))]; (try dsimp only); rw [cal1_of (W_behind hX a3), if_pos d]
          · rw [if_pos (fun z => d ((enc_ne a1 a2).mp z))]; (try dsimp only); rw [cal1_of (W_behind hX a1), if_neg d]
        rw [J]
        by_cases d1 : secF W i = secF B i
        · rw [if_pos ((enc_ne a1 a2).mpr d1), if_pos (Or.inl d1)]
        · rw [if_neg (fun z => d1 ((enc_ne a1 a2).mp z))]
          by_cases d2 : secF N i = secF B i
          · rw [if_pos ((enc_ne a3 a2).mpr d2), if_pos (Or.inr (Or.inl d2))]
          · rw [if_neg (fun z => d2 ((enc_ne a3 a2).mp z))]
            by_cases d3 : secF N i = secF W i
            · rw [if_pos ((enc_ne a3 a1).mpr d3), if_pos (Or.inr (Or.inr d3))]
            · rw [if_neg (fun z => d3 ((enc_ne a3 a1).mp z)), if_neg (fun z => by rcases z with z | z | z <;> contradiction)])
      rw [key, pcs_0]
      by_cases d : ∀ k, k < 1 + scN B → (secF W k = secF B k ∨ secF N k = secF B k ∨ secF N k = secF W k)
      · rw [if_pos d, if_pos ⟨⟨c1, c2⟩, d⟩]
      · rw [if_neg d, if_neg (fun z => d z.2)]
    · rw [if_neg (by rw [w32_n (by omega), w32_n (by omega)]; omega), if_neg (fun z => c2 z.1.2)]
      rfl
  · rw [if_pos (by rw [w32_n (by omega), w32_n (by omega)]; omega), if_neg (fun z => c1 z.1.1)]
    rfl
theorem W_undone {A V N : List Nat} (hA : TM A) (hV : TM V) (hN : TM N) : fW_undone (encT A) (encT V) (encT N) = some (encO (unW A V N), ()) := by
  have s0 := scN_le V
  have s1 := scN_le A
  have s2 := scN_le N
  have w6 := hA.1
  have b6 := hV.1
  have n6 := hN.1
  unfold fW_undone fW_undone_26 unW
  rw [cal1_of (W_sections hA), cal1_of (W_sections hV), bnd_eq]
  by_cases c1 : scN A = scN V
  · rw [if_neg (fun z => z (by rw [c1])), cal1_of (W_sections hA), cal1_of (W_sections hN)]
    by_cases c2 : scN A = scN N
    · rw [if_pos (by rw [c2]), bnd_eq]
      have key := pcs_loop (body := fun L31 (v6_31 : Int) (v8_31 : Int) => fW_undone_31 (encT A) (encT V) (encT N) L31 v6_31 v8_31) (ok := fun k => secF A k = secF V k ∨ secF N k = secF V k) (p := fun k => if secF A k = secF V k then secF N k else secF A k) (N := 1 + scN V) (by omega) (fun i m hm => by
        split at hm
        · exact hN.2 m (secF_mem _ _ _ hm)
        · exact hA.2 m (secF_mem _ _ _ hm)) (fun L X => by
        unfold fW_undone_31
        rw [cal1_of (W_sections hV), if_pos (Int.le_refl _)]) (fun L X i hi hX => by
        have a1 := secF_tm hA i
        have a2 := secF_tm hV i
        have a3 := secF_tm hN i
        unfold fW_undone_31
        rw [cal1_of (W_sections hV), if_neg (by rw [w32_n (by omega), w32_n (by omega)]; omega), cal1_of (W_section hA (by omega)), cal1_of (W_section hV (by omega)), bnd_eq]
        by_cases d1 : secF A i = secF V i
        · rw [if_pos ((enc_ne a1 a2).mpr d1), if_pos (Or.inl d1)]
          unfold fW_undone_61 fW_undone_87 fW_undone_100
          dsimp only
          rw [bnd_eq, if_pos (by decide)]; (try dsimp only); rw [bnd_eq, if_pos (by decide)]; (try dsimp only); rw [cal1_of (W_section hN (by omega)), cal1_of (W_behind hX a3), if_pos d1]
        · rw [if_neg (fun z => d1 ((enc_ne a1 a2).mp z))]
          unfold fW_undone_61 fW_undone_87 fW_undone_100
          dsimp only
          rw [bnd_eq, if_neg (by decide), cal1_of (W_section hN (by omega)), cal1_of (W_section hV (by omega))]
          by_cases d2 : secF N i = secF V i
          · rw [if_pos ((enc_ne a3 a2).mpr d2), bnd_eq, if_neg (by decide)]; (try dsimp only); rw [cal1_of (W_section hA (by omega)), cal1_of (W_behind hX a1), if_pos (Or.inr d2), if_neg d1]
          · rw [if_neg (fun z => d2 ((enc_ne a3 a2).mp z)), if_neg (fun z => by rcases z with z | z <;> contradiction)])
      rw [key, pcs_0]
      by_cases d : ∀ k, k < 1 + scN V → (secF A k = secF V k ∨ secF N k = secF V k)
      · rw [if_pos d, if_pos ⟨⟨c1, c2⟩, d⟩]
      · rw [if_neg d, if_neg (fun z => d z.2)]
    · rw [if_neg (by rw [w32_n (by omega), w32_n (by omega)]; omega), if_neg (fun z => c2 z.1.2)]
      rfl
  · rw [if_pos (by rw [w32_n (by omega), w32_n (by omega)]; omega), if_neg (fun z => c1 z.1.1)]
    rfl
/-- whether a row of macros is a text -/
def isTL (T : List Nat) : Bool := decide (1 ≤ T.length ∧ T.length ≤ 5) && (decide (T.length ≤ 1) || T.all (fun m => decide (m % 16 ≠ 10)))
theorem W_isText {T : List Nat} (h : TM T) : fW_isText (encT T) = some (if isTL T = true then 1 else 0, ()) := by
  have h6 := h.1
  have loop : ∀ b : Bool, lpn (fun (_ : Int) (_ : Int) => (none : Option (Int × Unit))) (fun L24 (v2_24 : Int) (v3_24 : Int) =>
      cal1 (fW_macros (encT T)) fun (r2 : Int) _ => bnd (retZ v2_24 ()) fun J69 => if w32 r2 ≤ w32 v3_24 then J69 else
      cal1 (fW_macros (encT T)) fun (r3 : Int) _ => if w32 r3 ≤ w32 1 then J69 else
      bnd (fun (t0_62 : Int) => L24 t0_62 (v3_24 + 1)) fun J62 => bnd (J62 0) fun J61 => if w32 v2_24 = 0 then J61 else
      cal1 (fW_macro (encT T) v3_24) fun (r4 : Int) _ => if w32 (remI r4 16) = w32 10 then J61 else J62 1) FU (if b = true then 1 else 0) 0 = some (if (b && (decide (T.length ≤ 1) || T.all (fun m => decide (m % 16 ≠ 10)))) = true then 1 else 0, ()) := by
    intro b
    have rz : ∀ b : Bool, (retZ (if b = true then (1 : Int) else 0) () : Option (Int × Unit)) = some (if b = true then 1 else 0, ()) := by
      intro b
      cases b
      · rfl
      · rfl
    have key := lpn_rule (z := fun (_ : Int) (_ : Int) => (none : Option (Int × Unit))) (body := fun L24 (v2_24 : Int) (v3_24 : Int) =>
      cal1 (fW_macros (encT T)) fun (r2 : Int) _ => bnd (retZ v2_24 ()) fun J69 => if w32 r2 ≤ w32 v3_24 then J69 else
      cal1 (fW_macros (encT T)) fun (r3 : Int) _ => if w32 r3 ≤ w32 1 then J69 else
      bnd (fun (t0_62 : Int) => L24 t0_62 (v3_24 + 1)) fun J62 => bnd (J62 0) fun J61 => if w32 v2_24 = 0 then J61 else
      cal1 (fW_macro (encT T) v3_24) fun (r4 : Int) _ => if w32 (remI r4 16) = w32 10 then J61 else J62 1) (fun mm L => ∀ (b : Bool) (i : Nat), i ≤ T.length → T.length - i < mm → L (if b = true then 1 else 0) (i : Int) = some (if (b && (decide (T.length ≤ 1) || (T.drop i).all (fun m => decide (m % 16 ≠ 10)))) = true then 1 else 0, ())) (fun b i _ h => absurd h (Nat.not_lt_zero _)) (fun mm L hL b i hi hm => ?_) FU b 0 (Nat.zero_le _) (by unfold FU; omega)
    · rw [List.drop_zero] at key
      exact key
    · dsimp only
      rw [cal1_of (W_macros h), bnd_eq, rz]
      rcases Nat.lt_or_ge i T.length with hlt | hge
      · rw [if_neg (by rw [w32_n (by omega), w32_n (by omega)]; omega), cal1_of (W_macros h)]
        by_cases c : T.length ≤ 1
        · rw [if_pos (by rw [w32_n (by omega), show w32 1 = 1 from rfl]; omega), decide_eq_true c, Bool.true_or, Bool.and_true]
        · have hl := getD_lt h i
          have q1 := hL true (i + 1) (by omega) (by omega)
          have q0 := hL false (i + 1) (by omega) (by omega)
          rw [if_pos rfl] at q1
          rw [if_neg (by decide), Bool.false_and, if_neg (by decide)] at q0
          rw [decide_eq_false c, Bool.false_or] at q1 ⊢
          have e : T.drop i = T.getD i 0 :: T.drop (i + 1) := by
            rw [List.drop_eq_getElem_cons hlt, List.getD_eq_getElem?_getD, List.getElem?_eq_getElem hlt]
            rfl
          rw [e, List.all_cons]
          rw [if_neg (by rw [w32_n (by omega), show w32 1 = 1 from rfl]; omega), bnd_eq, bnd_eq]
          have ei : ((i : Int) + 1) = ((i + 1 : Nat) : Int) := by omega
          rw [ei]; (try dsimp only); rw [q0, q1]
          cases b with
          | false => rfl
          | true =>
            rw [if_neg (show ¬ w32 (if true = true then (1 : Int) else 0) = 0 by decide), cal1_of (W_macro h hlt), rem16 hl]
            by_cases d : T.getD i 0 % 16 = 10
            · rw [if_pos (by rw [d]; rfl), decide_eq_false (fun z => z d), Bool.false_and, Bool.and_false, if_neg (by decide)]
            · rw [if_neg (by rw [w32_n (by omega), show w32 10 = 10 from rfl]; omega), decide_eq_true d, Bool.true_and]
              rfl
      · have e : i = T.length := by omega
        subst e
        rw [if_pos (Int.le_refl _), List.drop_length]
        simp
  unfold fW_isText isTL
  rw [cal1_of (W_macros h), bnd_eq, bnd_eq]
  dsimp only
  have l1 := loop true
  have l0 := loop false
  rw [if_pos rfl] at l1
  rw [if_neg (by decide)] at l0
  rw [bnd_eq, l0, bnd_eq, l1]
  by_cases c : T.length = 0
  · rw [if_pos (by rw [c]; decide), decide_eq_false (show ¬ (1 ≤ T.length ∧ T.length ≤ 5) by omega), Bool.false_and]
  · rw [if_neg (by rw [w32_n (by omega)]; omega), cal1_of (W_macros h)]
    by_cases c6 : T.length = 6
    · rw [if_pos (by rw [c6]; decide), decide_eq_false (show ¬ (1 ≤ T.length ∧ T.length ≤ 5) by omega), Bool.false_and]
    · rw [if_neg (by rw [w32_n (by omega), show w32 6 = 6 from rfl]; omega), decide_eq_true (show 1 ≤ T.length ∧ T.length ≤ 5 by omega)]
theorem isTL_ok {T : List Nat} (h : ∀ m ∈ T, okM m) (ht : isTL T = true) : okT T ∧ 1 ≤ T.length ∧ T.length ≤ 5 := by
  unfold isTL at ht
  simp only [Bool.and_eq_true, Bool.or_eq_true, decide_eq_true_eq, List.all_eq_true] at ht
  obtain ⟨⟨a, b⟩, c⟩ := ht
  refine ⟨⟨h, fun h2 m hm => ?_⟩, a, b⟩
  rcases c with c | c
  · omega
  · exact c m hm
theorem isTL_of {T : List Nat} (h : okT T) (h1 : 1 ≤ T.length) (h5 : T.length ≤ 5) : isTL T = true := by
  unfold isTL
  simp only [Bool.and_eq_true, Bool.or_eq_true, decide_eq_true_eq, List.all_eq_true]
  refine ⟨⟨h1, h5⟩, ?_⟩
  by_cases c : T.length ≤ 1
  · exact Or.inl c
  · exact Or.inr (h.2 (by omega))
/-- a drawn macro -/
theorem drawn_85 {L : Int → Int → Option (Int × Unit)} {X : List Nat} {i z kd : Nat} (hX : TM X) (h5 : X.length ≤ 4) (hz : z < 2147483648) (hk : kd ≤ 9) : ∃ m, okM m ∧ m % 16 ≠ 10 ∧ fW_drawn_85 L (encT X) (i : Int) (z : Int) (kd : Int) = L (encT (X ++ [m])) ((i : Int) + 1) := by
  have hb := encT_b5 hX (by omega)
  have put : ∀ v : Nat, v < 60 → fW_drawn_130 L (encT X) (i : Int) (kd : Int) (v : Int) = L (encT (X ++ [kd + 16 * v])) ((i : Int) + 1) := by
    intro v hv
    unfold fW_drawn_130
    rw [show (kd : Int) + 16 * (v : Int) = ((kd + 16 * v : Nat) : Int) by omega, w32_n (by omega), bnd_eq, lor_mac (by omega) (by omega) (by omega) (by omega), encT_snoc]
  have dv : divI (z : Int) 13 = ((z / 13 : Nat) : Int) := by
    rw [divI_of (by omega) (by omega) (by decide) (by decide)]; omega
  have rm : ∀ d : Nat, 0 < d → d < 100 → remI ((z / 13 : Nat) : Int) (d : Int) = ((z / 13 % d : Nat) : Int) := by
    intro d d0 d1
    rw [remI_N (by omega) d0 (by omega)]
  unfold fW_drawn_85
  rw [bnd_eq]
  by_cases c4 : kd = 4
  · subst c4
    refine ⟨4 + 16 * 0, ⟨by decide, fun z => by omega, fun _ => by decide, fun _ _ _ => by decide⟩, by decide, ?_⟩
    rw [if_neg (by decide)]
    exact put 0 (by decide)
  · rw [if_pos (by rw [w32_n (by omega), show w32 4 = 4 from rfl]; omega), bnd_eq, bnd_eq]
    unfold fW_drawn_122 fW_drawn_129
    rw [dv]
    by_cases c0 : kd = 0
    · have hv : z / 13 % 60 < 60 := Nat.mod_lt _ (by decide)
      refine ⟨kd + 16 * (z / 13 % 60), ⟨by omega, fun _ => by omega, fun z => by omega, fun a => by omega⟩, by omega, ?_⟩
      rw [if_pos (by rw [w32_n (by omega)]; omega)]
      dsimp only
      rw [if_neg (by decide)]
      have e := rm 60 (by decide) (by decide)
      rw [show ((60 : Nat) : Int) = 60 from rfl] at e
      rw [e]
      exact put _ hv
    · rw [if_neg (by rw [w32_n (by omega)]; omega)]
      by_cases c7 : kd ≤ 7
      · have hv : z / 13 % 8 < 8 := Nat.mod_lt _ (by decide)
        refine ⟨kd + 16 * (z / 13 % 8), ⟨by omega, fun _ => by omega, fun z => by omega, fun a => by omega⟩, by omega, ?_⟩
        rw [if_pos (by rw [w32_n (by omega), show w32 7 = 7 from rfl]; omega)]
        dsimp only
        rw [if_neg (by decide)]
        have e := rm 8 (by decide) (by decide)
        rw [show ((8 : Nat) : Int) = 8 from rfl] at e
        rw [e]
        exact put _ (by omega)
      · have hv : z / 13 % 60 < 60 := Nat.mod_lt _ (by decide)
        refine ⟨kd + 16 * (z / 13 % 60), ⟨by omega, fun _ => by omega, fun z => by omega, fun a => by omega⟩, by omega, ?_⟩
        rw [if_neg (by rw [w32_n (by omega), show w32 7 = 7 from rfl]; omega)]
        dsimp only
        rw [if_neg (by decide)]
        have e := rm 60 (by decide) (by decide)
        rw [show ((60 : Nat) : Int) = 60 from rfl] at e
        rw [e]
        exact put _ hv
theorem W_drawn {y : Nat} (hy : y < 2147483648) : ∃ T, fW_drawn (y : Int) = some (encT T, ()) ∧ okT T ∧ 1 ≤ T.length ∧ T.length ≤ 5 := by
  have r5 : remI (y : Int) 5 = ((y % 5 : Nat) : Int) := by rw [remI_of (by omega) (by omega) (by decide) (by decide)]; omega
  have r11 : remI (y : Int) 11 = ((y % 11 : Nat) : Int) := by rw [remI_of (by omega) (by omega) (by decide) (by decide)]; omega
  unfold fW_drawn
  rw [r5, r11, show (1 : Int) + ((y % 5 : Nat) : Int) = ((1 + y % 5 : Nat) : Int) by omega, bnd_eq]
  have h5 : y % 5 < 5 := Nat.mod_lt _ (by decide)
  generalize hmy : 1 + y % 5 = my at *
  by_cases c : y % 11 = 0
  · rw [if_neg (by rw [c]; exact fun z => z rfl)]
    have dv : divI (y : Int) 11 = ((y / 11 : Nat) : Int) := by rw [divI_of (by omega) (by omega) (by decide) (by decide)]; omega
    have rm : remI ((y / 11 : Nat) : Int) 8 = ((y / 11 % 8 : Nat) : Int) := by rw [remI_of (by omega) (by omega) (by decide) (by decide)]; omega
    have hv : y / 11 % 8 < 8 := Nat.mod_lt _ (by decide)
    refine ⟨[10 + 16 * (y / 11 % 8)], ?_, ⟨fun m hm => ?_, fun h2 => by exact absurd h2 (by show ¬ (2 ≤ 1); decide)⟩, Nat.le_refl 1, by show 1 ≤ 5; decide⟩
    · rw [dv, rm, show (10 : Int) + 16 * ((y / 11 % 8 : Nat) : Int) = ((10 + 16 * (y / 11 % 8) : Nat) : Int) by omega, w32_n (by omega), show (1024 : Int) = ((1024 : Nat) : Int) from rfl, lor_N (by omega) (by omega)]
      have e := Nat.two_pow_add_eq_or_of_lt (show 10 + 16 * (y / 11 % 8) < 2 ^ 10 by omega) 1
      rw [Nat.mul_one] at e
      rw [show (1024 : Nat) = 2 ^ 10 from rfl, ← e]
      show some _ = some ((1 : Int) * 1024 + ((10 + 16 * (y / 11 % 8) : Nat) : Int), ())
      congr 2
    · rw [List.mem_singleton] at hm
      subst hm
      exact ⟨by omega, fun z => by omega, fun z => by omega, fun _ _ _ => by omega⟩
  · rw [if_pos (by rw [w32_n (by omega)]; omega), bnd_eq]
    have key := lpn_rule (z := fun (_ : Int) (_ : Int) => (none : Option (Int × Unit))) (body := fun L37 (v2_37 : Int) (v4_37 : Int) => fW_drawn_37 (y : Int) (my : Int) L37 v2_37 v4_37) (fun mm L => ∀ (X : List Nat) (i : Nat), X.length = i → i ≤ my → my - i < mm → (∀ m ∈ X, okM m ∧ m % 16 ≠ 10) → ∃ T, L (encT X) (i : Int) = some (encT T, ()) ∧ (∀ m ∈ T, okM m ∧ m % 16 ≠ 10) ∧ T.length = my) (fun X i _ _ h => absurd h (Nat.not_lt_zero _)) (fun mm L hL X i hXi hi hm hX => ?_) FU [] 0 rfl (Nat.zero_le _) (by unfold FU; omega) (fun _ h => by cases h)
    · obtain ⟨T, k1, k2, k3⟩ := key
      exact ⟨T, k1, ⟨fun m hm => (k2 m hm).1, fun _ m hm => (k2 m hm).2⟩, by omega, by omega⟩
    · unfold fW_drawn_37
      dsimp only
      rcases Nat.lt_or_ge i my with hlt | hge
      · have hT : TM X := ⟨by omega, fun m hm => (hX m hm).1.lt⟩
        have hd : (7 : Int) + 13 * (i : Int) = ((7 + 13 * i : Nat) : Int) := by omega
        have dv : divI (y : Int) ((7 + 13 * i : Nat) : Int) = ((y / (7 + 13 * i) : Nat) : Int) := divI_N hy (by omega) (by omega)
        have hz : y / (7 + 13 * i) < 2147483648 := Nat.lt_of_le_of_lt (Nat.div_le_self _ _) hy
        rw [if_neg (by rw [w32_n (by omega), w32_n (by omega)]; omega), hd, if_neg (by rw [w32_n (by omega)]; omega), dv, bnd_eq, bnd_eq]
        generalize y / (7 + 13 * i) = z at *
        have r13 : remI (z : Int) 13 = ((z % 13 : Nat) : Int) := by rw [remI_of (by omega) (by omega) (by decide) (by decide)]; omega
        have r2 : remI (z : Int) 2 = ((z % 2 : Nat) : Int) := by rw [remI_of (by omega) (by omega) (by decide) (by decide)]; omega
        have go : ∀ kd : Nat, kd ≤ 9 → ∃ T, fW_drawn_85 L (encT X) (i : Int) (z : Int) (kd : Int) = some (encT T, ()) ∧ (∀ m ∈ T, okM m ∧ m % 16 ≠ 10) ∧ T.length = my := by
          intro kd hk
          obtain ⟨m, m1, m2, m3⟩ := drawn_85 (L := L) (i := i) (z := z) hT (by omega) hz hk
          obtain ⟨T, t1, t2, t3⟩ := hL (X ++ [m]) (i + 1) (by rw [List.length_append, hXi]; rfl) (by omega) (by omega) (fun x hx => by
            rcases List.mem_append.mp hx with g | g
            · exact hX x g
            · rw [List.mem_singleton] at g; subst g; exact ⟨m1, m2⟩)
          exact ⟨T, by rw [m3]; exact t1, t2, t3⟩
        rw [r13, r2]
        by_cases c10 : 10 ≤ z % 13
        · rw [if_pos (by rw [w32_n (by omega), show w32 10 = 10 from rfl]; omega)]
          by_cases c2 : z % 2 = 0
          · rw [if_neg (by rw [c2]; exact fun z => z rfl)]
            exact go 2 (by decide)
          · rw [if_pos (by rw [w32_n (by omega)]; omega)]
            exact go 0 (by decide)
        · rw [if_neg (by rw [w32_n (by omega), show w32 10 = 10 from rfl]; omega)]
          exact go (z % 13) (by omega)
      · have e : i = my := by omega
        rw [if_pos (by rw [e]; exact Int.le_refl _)]
        exact ⟨X, rfl, hX, by omega⟩
