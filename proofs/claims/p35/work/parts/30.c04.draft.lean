/-! THE DRAFT is laid down -/
theorem remI_N2 {x y : Nat} (hx : x < 2147483648) (hy : 0 < y) (hy2 : y < 2147483648) : remI (x : Int) (y : Int) = ((x % y : Nat) : Int) := remI_N hx hy hy2
/-- the draft of the reference is a row of tokens -/
def DrA (G : Md) (L : List Int) : Prop := G.1 1 = (L.length : Int) ∧ L.length ≤ 30 ∧ ∀ k, k < L.length → G.2 0 k = L.getD k 0
def tkO (x : Int) : Prop := 0 ≤ x ∧ x / 1000 < 14 ∧ x % 1000 ≤ sAt 0 (x / 1000).toNat
theorem gDi_mem {l : List Int} {j : Nat} (h : j < l.length) (d : Int) : l.getD j d ∈ l := by
  rw [List.getD_eq_getElem?_getD, List.getElem?_eq_getElem h]
  exact List.getElem_mem h
theorem gDi_take {l : List Int} {j : Nat} (h : j < l.length) (d : Int) : l.take (j + 1) = l.take j ++ [l.getD j d] := by
  rw [List.take_succ_eq_append_getElem h, List.getD_eq_getElem?_getD, List.getElem?_eq_getElem h]
  rfl
theorem SmG.rf {G : Md} : SmG G G := ⟨fun _ _ _ => rfl, fun _ _ _ => rfl⟩
theorem SmG.tr {G G1 G2 : Md} (h : SmG G G1) (h1 : SmG G1 G2) : SmG G G2 := ⟨fun j a c => (h1.1 j a c).trans (h.1 j a c), fun k a c => (h1.2 k a c).trans (h.2 k a c)⟩
theorem cdM_ok {kd v : Nat} (hk : kd ≤ 10) (hv : v < 60) (h8 : kd ≠ 0 → kd ≠ 8 → kd ≠ 9 → v < 8) : ∀ x ∈ cdM kd v, tkO x := by
  have one : ∀ (x : Int) (n : Nat) (c : Int), x = 1000 * (n : Int) + c → n < 14 → 0 ≤ c → c ≤ sAt 0 n → c < 1000 → tkO x := by
    intro x n c hx hn h0 h1 h2
    have e : x / 1000 = (n : Int) := by omega
    refine ⟨by omega, by omega, ?_⟩
    rw [e, Int.toNat_natCast]
    omega
  have s0 : sAt 0 0 = 999 := rfl
  have s1 : sAt 0 1 = 23 := rfl
  have s2 : sAt 0 2 = 23 := rfl
  have s4 : sAt 0 4 = 6 := rfl
  have s5 : sAt 0 5 = 0 := rfl
  have s7 : sAt 0 7 = 0 := rfl
  have s8 : sAt 0 8 = 0 := rfl
  have s9 : sAt 0 9 = 0 := rfl
  have s11 : sAt 0 11 = 7 := rfl
  have s12 : sAt 0 12 = 23 := rfl
  have s13 : sAt 0 13 = 0 := rfl
  have seven : tkO 7000 := one 7000 7 0 (by decide) (by decide) (by decide) (by rw [s7]; decide) (by decide)
  have five : tkO 5000 := one 5000 5 0 (by decide) (by decide) (by decide) (by rw [s5]; decide) (by decide)
  have wv : tkO (v : Int) := one (v : Int) 0 (v : Int) (by omega) (by decide) (by omega) (by rw [s0]; omega) (by omega)
  intro x hx
  rcases (show kd = 0 ∨ kd = 1 ∨ kd = 2 ∨ kd = 3 ∨ kd = 4 ∨ kd = 5 ∨ kd = 6 ∨ kd = 7 ∨ kd = 8 ∨ kd = 9 ∨ kd = 10 by omega) with a | a | a | a | a | a | a | a | a | a | a <;> subst a <;> simp only [cdM, Nat.reduceEqDiff, ↓reduceIte, List.mem_cons, List.not_mem_nil, or_false] at hx
  · rw [hx]; exact wv
  · have := h8 (by decide) (by decide) (by decide)
    exact one x 1 (v : Int) (by omega) (by decide) (by omega) (by rw [s1]; omega) (by omega)
  · have := h8 (by decide) (by decide) (by decide)
    rcases hx with z | z
    · exact one x 2 (v : Int) (by omega) (by decide) (by omega) (by rw [s2]; omega) (by omega)
    · rw [z]; exact seven
  · have := h8 (by decide) (by decide) (by decide)
    exact one x 11 (v : Int) (by omega) (by decide) (by omega) (by rw [s11]; omega) (by omega)
  · exact one x 13 0 (by omega) (by decide) (by decide) (by rw [s13]; decide) (by decide)
  · rcases hx with z | z | z | z
    · exact one x 4 4 (by omega) (by decide) (by decide) (by rw [s4]; decide) (by decide)
    · rw [z]; exact five
    · rw [z]; exact wv
    · rw [z]; exact seven
  · rcases hx with z | z | z | z
    · exact one x 4 5 (by omega) (by decide) (by decide) (by rw [s4]; decide) (by decide)
    · rw [z]; exact five
    · rw [z]; exact wv
    · rw [z]; exact seven
  · rcases hx with z | z | z | z
    · exact one x 4 3 (by omega) (by decide) (by decide) (by rw [s4]; decide) (by decide)
    · rw [z]; exact five
    · rw [z]; exact wv
    · rw [z]; exact seven
  · rcases hx with z | z | z
    · exact one x 8 0 (by omega) (by decide) (by decide) (by rw [s8]; decide) (by decide)
    · rw [z]; exact wv
    · rw [z]; exact seven
  · rcases hx with z | z | z
    · exact one x 9 0 (by omega) (by decide) (by decide) (by rw [s9]; decide) (by decide)
    · rw [z]; exact wv
    · rw [z]; exact seven
  · have := h8 (by decide) (by decide) (by decide)
    exact one x 12 (v : Int) (by omega) (by decide) (by omega) (by rw [s12]; omega) (by omega)
section DRAFT
variable {b kc : Nat} {G G0 : Md} {C C' : Cd}
theorem ask_P {X : Option (Int × Cd)} {Y : Option (Int × Md)} {y : Int} {G' : Md} (h : RR b kc G C) (hc : CallP b kc C X Y) (hx : SZ C X) (hY : Y = some (y, G')) (hs : SmG G G') : ∃ C', X = some (y, C') ∧ RR b kc G' C' ∧ Sz C C' := by
  obtain ⟨M', C', y', e1, e2, e3, e4⟩ := hc
  rw [hY] at e1
  cases e1
  exact ⟨C', e4, e2.rb (h.2.2.2.1.sc hs), hx _ _ e4⟩
theorem R_token {dn : Nat} {x : Int} (d1 : G.1 1 = (dn : Int)) (hdn : dn < 30) (hx : tkO x) : fX12_token (x / 1000) (x % 1000) G = some ((dn : Int) + 1, mSet (mPut (mSet G 36 0) 0 dn x) 1 ((dn : Int) + 1)) := by
  obtain ⟨x1, x2, x3⟩ := hx
  obtain ⟨n, hn⟩ : ∃ n : Nat, x / 1000 = (n : Int) := ⟨(x / 1000).toNat, by omega⟩
  rw [hn] at x2 x3 ⊢
  rw [Int.toNat_natCast] at x3
  have hn14 : n < 14 := by omega
  have hv : I32 (x % 1000) := ⟨by omega, by omega⟩
  have xe : (1000 * (n : Int)) + x % 1000 = x := by omega
  have q1 : (mSet G 36 0).1 1 = (dn : Int) := (mS2 _ _ (by decide)).trans d1
  unfold fX12_token
  rcases X12_in_ (x := (n : Int)) (lo := 0) (hi := 13) G ⟨by omega, by omega⟩ (by decide) (by decide) with ⟨e, q⟩ | ⟨e, q⟩
  · rcases X12_isValue_ (M := G) (n := n) hn14 hv with ⟨e2, p2⟩ | ⟨e2, p2⟩
    · rw [cal_of e, bnd_eq, bnd_eq, if_neg (by decide), cal_of e2, if_pos (by decide), d1, if_pos (by rw [w32_n (by omega), show w32 30 = 30 from rfl]; omega)]
      dsimp only
      rw [bnd_eq, mS1, if_pos (by decide), q1, if_pos (show inR ((dn : Nat) : Int) (mLen 0) from inM (n := 30) rfl hdn (by decide)), bnd_eq, bnd_eq, ix_n (by omega), xe]
      have q2 : (mPut (mSet G 36 0) 0 dn x).1 1 = (dn : Int) := q1
      rw [q2, mS1]
    · exact absurd ⟨by omega, x3⟩ p2
  · exact absurd ⟨by omega, by omega⟩ q
theorem K_token (h : RR b kc G C) {L : List Int} (hD : DrA G L) (hL : L.length < 30) {x : Int} (hx : tkO x) : ∃ C' G', fX11_token b (x / 1000) (x % 1000) C = some (.inl (((L.length + 1 : Nat)) : Int), C') ∧ RR b kc G' C' ∧ SmG G G' ∧ DrA G' (L ++ [x]) ∧ Sz C C' := by
  obtain ⟨d1, d2, d3⟩ := hD
  have e := R_token d1 hL hx
  have hs : SmG G (mSet (mPut (mSet G 36 0) 0 L.length x) 1 ((L.length : Int) + 1)) := ⟨fun j hj h1 => (mS2 _ _ h1).trans (mS2 G _ (by omega)), fun k _ hk => mPut_ne (mSet G 36 0) _ _ hk⟩
  obtain ⟨x1, x2, x3⟩ := hx
  obtain ⟨C', c1, c2, c3⟩ := ask_of (code := cd0) h (call_token h (k := x / 1000) (v := x % 1000) ⟨by omega, by omega⟩ ⟨by omega, by omega⟩) (sz_fX11_token b _ _ C) e hs ((mS2 _ _ (by decide)).trans (show (mPut (mSet G 36 0) 0 L.length x).1 36 = 0 from mS1 G 36 0)) (fun e _ => by unfold cd0; split <;> decide)
  refine ⟨C', _, by rw [c1, show ((L.length : Int) + 1) = ((L.length + 1 : Nat) : Int) by omega], c2, hs, ⟨?_, ?_, fun k hk => ?_⟩, c3⟩
  · rw [mS1, List.length_append, List.length_singleton]; omega
  · rw [List.length_append, List.length_singleton]; omega
  · rw [List.length_append, List.length_singleton] at hk
    show (mPut (mSet G 36 0) 0 L.length x).2 0 k = _
    by_cases c : k = L.length
    · subst c
      rw [p2_1, List.getD_eq_getElem?_getD, List.getElem?_append_right (Nat.le_refl _), Nat.sub_self]
      rfl
    · rw [show (mPut (mSet G 36 0) 0 L.length x).2 0 k = G.2 0 k from p2_2 (mSet G 36 0) x (Or.inr c), d3 k (by omega), List.getD_eq_getElem?_getD, List.getD_eq_getElem?_getD, List.getElem?_append_left (by omega)]
theorem cdL_rng {m : Nat} (ok : okM m) : ∀ x ∈ cdL m, tkO x := cdM_ok ok.1 ok.v60 (fun a b c => ok.2.2.2 a b c)
theorem W_drafts {T : List Nat} (h : RR b kc G0 C) (hT : okT T) (h6 : T.length ≤ 6) : ∃ C' G', fW_drafts b (encT T) C = some (1, C') ∧ RR b kc G' C' ∧ SmG G0 G' ∧ DrA G' (tks T) ∧ Sz C C' := by
  have tm := hT.tm h6
  have l4 := (tks_len T).2
  have hw : fX12_wipe G0 = some (G0.1 1, mSet (mSet G0 36 0) 1 0) := by
    unfold fX12_wipe
    rw [bnd_eq, bnd_eq, bnd_eq, mS2 _ _ (by decide)]
  have hs : SmG G0 (mSet (mSet G0 36 0) 1 0) := ⟨fun j hj h1 => (mS2 _ _ h1).trans (mS2 G0 _ (by omega)), fun k _ hk => rfl⟩
  obtain ⟨C1, c1, c2, c3⟩ := ask_P h (call_wipe h) (sz_fX11_wipe b C) hw hs
  have d0 : DrA (mSet (mSet G0 36 0) 1 0) [] := ⟨mS1 _ _ _, by decide, fun k hk => absurd hk (Nat.not_lt_zero _)⟩
  obtain ⟨dn, g, hd⟩ := h.2.1
  have e1 : G0.1 1 = (dn : Int) := hd.1
  have dn30 := hd.2.1
  generalize mSet (mSet G0 36 0) 1 0 = G1 at *
  unfold fW_drafts fW_drafts_14
  rw [if_pos h.1.1.o, cal1_of c1, e1, bnd_eq, if_neg (by rw [w32_n (by omega)]; omega)]
  dsimp only
  rw [bnd_eq]
  have key : ∃ C' G', lpn (fun (_ : Int) (_ : Int) (_ : Int) (_ : Cd) => (none : Option (Int × Cd))) (fun L19 (v3_19 : Int) (v4_19 : Int) (v5_19 : Int) (C_19 : Cd) => fW_drafts_19 b (encT T) L19 v3_19 v4_19 v5_19 C_19) FU 0 1 0 C1 = some (1, C') ∧ RR b kc G' C' ∧ SmG G1 G' ∧ DrA G' (tks T) ∧ Sz C1 C' := by
    refine lpn_rule (P := fun mm (L : Int → Int → Int → Cd → Option (Int × Cd)) => ∀ (k : Nat) (C2 : Cd) (G2 : Md), k ≤ T.length → T.length - k < mm → RR b kc G2 C2 → SmG G1 G2 → DrA G2 (tks (T.take k)) → Sz C1 C2 → ∃ C' G', L ((tks (T.take k)).length : Int) 1 (k : Int) C2 = some (1, C') ∧ RR b kc G' C' ∧ SmG G1 G' ∧ DrA G' (tks T) ∧ Sz C1 C') (fun k C2 G2 _ h => absurd h (Nat.not_lt_zero _)) (fun mm L hLL k C2 G2 hk hm hR hS hD hZ => ?_) FU 0 C1 G1 (Nat.zero_le _) (by unfold FU; omega) c2 SmG.rf d0 (Sz.rf C1)
    unfold fW_drafts_19
    rw [cal1_of (W_macros tm)]
    rcases Nat.lt_or_ge k T.length with hlt | hge
    · rw [if_neg (by rw [w32_n (by omega), w32_n (by omega)]; omega), bnd_eq]
      have ok := hT.1 _ (getD_mm hlt)
      have ml := ok.lt
      have cl := cdL_len (T.getD k 0)
      have tl4 : (tks (T.take k)).length + (cdL (T.getD k 0)).length ≤ (tks T).length := by
        have := tks_take_le (T := T) (k := k + 1)
        rw [tks_take hlt, List.length_append] at this
        exact this
      refine lpn_rule (P := fun nn (L31 : Int → Int → Int → Cd → Option (Int × Cd)) => ∀ (j : Nat) (C3 : Cd) (G3 : Md), j ≤ (cdL (T.getD k 0)).length → (cdL (T.getD k 0)).length - j < nn → RR b kc G3 C3 → SmG G1 G3 → DrA G3 (tks (T.take k) ++ (cdL (T.getD k 0)).take j) → Sz C1 C3 → ∃ C' G', L31 (((tks (T.take k)).length + j : Nat) : Int) 1 (j : Int) C3 = some (1, C') ∧ RR b kc G' C' ∧ SmG G1 G' ∧ DrA G' (tks T) ∧ Sz C1 C') (fun j C3 G3 _ h => absurd h (Nat.not_lt_zero _)) (fun nn L31 hL31 j C3 G3 hj hn hR3 hS3 hD3 hZ3 => ?_) FU 0 C2 G2 (Nat.zero_le _) (by unfold FU; omega) hR hS (by rw [List.take_zero, List.append_nil]; exact hD) hZ
      unfold fW_drafts_31 fW_drafts_96 fW_drafts_95
      have cm := W_macro tm hlt
      rw [cal1_of cm, cal1_of (W_code ml (k := j) (by omega))]
      rcases Nat.lt_or_ge j (cdL (T.getD k 0)).length with jlt | jge
      · have xm : (cdL (T.getD k 0)).getD j (-1) ∈ cdL (T.getD k 0) := gDi_mem jlt _
        have xo := cdL_rng ok _ xm
        have xt : (cdL (T.getD k 0)).take (j + 1) = (cdL (T.getD k 0)).take j ++ [(cdL (T.getD k 0)).getD j (-1)] := gDi_take jlt _
        generalize xe : (cdL (T.getD k 0)).getD j (-1) = x at *
        have xo2 := xo
        obtain ⟨x1, x2, x3⟩ := xo2
        have ll : (tks (T.take k) ++ (cdL (T.getD k 0)).take j).length = (tks (T.take k)).length + j := by rw [List.length_append, List.length_take]; omega
        obtain ⟨C4, G4, k1, k2, k3, k4, k5⟩ := K_token hR3 hD3 (by omega) xo
        rw [ll] at k1
        rw [List.append_assoc, ← xt] at k4
        have z := hL31 (j + 1) C4 G4 (by omega) (by omega) k2 (hS3.tr k3) k4 (hZ3.tr k5)
        rw [if_neg (by rw [w32_of (by omega) (by omega)]; omega), bnd_eq, bnd_eq, if_neg (by decide), cal1_of cm, cal1_of (W_code ml (k := j) (by omega)), cal1_of cm, cal1_of (W_code ml (k := j) (by omega))]
        rw [if_pos hR3.1.1.o]
        rw [xe, divI_of (by omega) (by omega) (by decide) (by decide), remI_of (by omega) (by omega) (by decide) (by decide), calt_of k1, if_neg (by rw [show (((tks (T.take k)).length + j : Nat) : Int) + 1 = (((tks (T.take k)).length + j + 1 : Nat) : Int) by omega]; exact fun y => y rfl)]
        exact z
      · have e : j = (cdL (T.getD k 0)).length := by omega
        subst e
        have no : (cdL (T.getD k 0)).getD (cdL (T.getD k 0)).length (-1) = -1 := by rw [List.getD_eq_getElem?_getD, List.getElem?_eq_none (Nat.le_refl _)]; rfl
        rw [List.take_length, ← tks_take hlt] at hD3
        have z := hLL (k + 1) C3 G3 hlt (by omega) hR3 hS3 hD3 hZ3
        rw [tks_take hlt, List.length_append] at z
        rw [no, if_pos (by decide)]
        exact z
    · have e : k = T.length := by omega
      subst e
      rw [List.take_length] at hD
      rw [if_pos (Int.le_refl _)]
      exact ⟨C2, G2, rfl, hR, hS, hD, hZ⟩
  obtain ⟨C', G', z1, z2, z3, z4, z5⟩ := key
  exact ⟨C', G', z1, z2, hs.tr z3, z4, c3.tr z5⟩
end DRAFT
