/-! WHAT WAITS: isStale, queued -/
section OLD
variable {b kc : Nat} {M M' : Md} {C C' : Cd} {t : Nat}
def wqC (b : Nat) (C : Cd) (t : Nat) : Bool := decide (cR C 1203 (b + 13 + 6 * t) ≠ none ∧ (cI C 701 (b + 13 + 6 * t + 1) = 0 ∨ cI C 702 (b + 13 + 6 * t + 1) ≠ 0))
theorem X9_waits_ (hL : Lay b C) (ht : t < 24) (h1 : cI C 701 (b + 13 + 6 * t + 1) = 0 ∨ cI C 701 (b + 13 + 6 * t + 1) = 1) (h2 : cI C 702 (b + 13 + 6 * t + 1) = 0 ∨ cI C 702 (b + 13 + 6 * t + 1) = 1) : fX9_waits (b + 13 + 6 * t) C = some (if wqC b C t = true then 1 else 0, C) := by
  unfold fX9_waits
  rw [if_pos (hL.to ht), bnd_eq, bnd_eq, bnd_eq]
  cases hp : cR C 1203 (b + 13 + 6 * t) with
  | none =>
    have e : wqC b C t = false := decide_eq_false (fun z => z.1 hp)
    rw [opt_none, e]
    rfl
  | some P =>
    rw [opt_some, if_pos (hL.to ht), bnd_eq, hL.tr ht, drf_some, if_pos (hL.ro ht), bnd_eq]
    rcases h1 with h1 | h1
    · have e : wqC b C t = true := decide_eq_true ⟨by rw [hp]; exact Option.some_ne_none P, Or.inl h1⟩
      rw [h1, if_pos (by decide), e]
      rfl
    · rw [h1, if_neg (by decide), if_pos (hL.to ht), bnd_eq, drf_some, if_pos (hL.ro ht)]
      rcases h2 with h2 | h2
      · have e : wqC b C t = false := decide_eq_false (fun z => z.2.elim (fun y => by rw [h1] at y; exact absurd y (by decide)) (fun y => y h2))
        rw [h2, if_pos (by decide), e]
        rfl
      · have e : wqC b C t = true := decide_eq_true ⟨by rw [hp]; exact Option.some_ne_none P, Or.inr (by rw [h2]; decide)⟩
        rw [h2, if_neg (by decide), e]
        rfl
def oldC (a1 : Int) (L32 : Int → Int → Md → Option (Int × Md)) (v3_32 : Int) (t0_121 : Int) (M_121 : Md) : Option (Int × Md) :=
bnd (fun (t0_165 : Int) (M_165 : Md) =>
L32 t0_165 (v3_32 + 1) M_165) fun J165 =>
bnd (fun  (M_160 : Md) =>
J165 1 M_160) fun J160 =>
if ¬ w32 t0_121 = 0 then
J160 M_121
else
bnd (fun  (M_164 : Md) =>
J165 0 M_164) fun J164 =>
if w32 4 ≤ w32 v3_32 then
J164 M_121
else
if inR a1 (mLen 35) then
if ¬ w32 (andI (shrI (M_121.2 35 (ix a1)) v3_32) 1) = w32 1 then
J164 M_121
else
if inR v3_32 (mLen 25) then
if inR a1 (mLen 28) then
if w32 (M_121.2 25 (ix v3_32)) ≤ w32 (M_121.2 28 (ix a1)) then
J164 M_121
else
J160 M_121
else none
else none
else none
def oldB (a1 : Int) (L32 : Int → Int → Md → Option (Int × Md)) (v3_32 : Int) (t0_76 : Int) (M_76 : Md) : Option (Int × Md) :=
bnd (oldC a1 L32 v3_32) fun J121 =>
bnd (fun  (M_116 : Md) =>
J121 1 M_116) fun J116 =>
if ¬ w32 t0_76 = 0 then
J116 M_76
else
bnd (fun  (M_120 : Md) =>
J121 0 M_120) fun J120 =>
if w32 8 ≤ w32 v3_32 then
J120 M_76
else
if inR a1 (mLen 34) then
if ¬ w32 (andI (shrI (M_76.2 34 (ix a1)) v3_32) 1) = w32 1 then
J120 M_76
else
if inR v3_32 (mLen 24) then
if inR a1 (mLen 28) then
if w32 (M_76.2 24 (ix v3_32)) ≤ w32 (M_76.2 28 (ix a1)) then
J120 M_76
else
J116 M_76
else none
else none
else none
def oldL (a1 : Int) (L32 : Int → Int → Md → Option (Int × Md)) (v2_32 v3_32 : Int) (M_32 : Md) : Option (Int × Md) :=
bnd (fun  (M_172 : Md) =>
retZ v2_32 M_172) fun J172 =>
if w32 24 ≤ w32 v3_32 then
J172 M_32
else
if ¬ w32 v2_32 = 0 then
J172 M_32
else
if inR a1 (mLen 33) then
bnd (oldB a1 L32 v3_32) fun J76 =>
bnd (fun  (M_75 : Md) =>
J76 0 M_75) fun J75 =>
if ¬ w32 (andI (shrI (M_32.2 33 (ix a1)) v3_32) 1) = w32 1 then
J75 M_32
else
if inR v3_32 (mLen 23) then
if inR a1 (mLen 28) then
if w32 (M_32.2 23 (ix v3_32)) ≤ w32 (M_32.2 28 (ix a1)) then
J75 M_32
else
J76 1 M_32
else none
else none
else none
theorem isOld_def (a1 : Int) (M : Md) : fX12_isOld a1 M = (if inR a1 (mLen 27) then
bnd (fun (t0_29 : Int) (M_29 : Md) =>
bnd (lpn (fun (_ : Int) (_ : Int) (_ : Md) => (none : Option (Int × Md))) (oldL a1) FU) fun J32 =>
J32 t0_29 0 M_29) fun J29 =>
bnd (fun  (M_24 : Md) =>
J29 1 M_24) fun J24 =>
if w32 (M.2 27 (ix a1)) = 0 then
J24 M
else
if inR a1 (mLen 23) then
if inR a1 (mLen 28) then
if w32 (M.2 23 (ix a1)) ≤ w32 (M.2 28 (ix a1)) then
J29 0 M
else
J24 M
else none
else none
else none) := rfl
section STEPS
variable {L : Int → Int → Md → Option (Int × Md)} {i rd cd us : Nat}
theorem oldC_1 : oldC (t : Int) L (i : Int) 1 M = L 1 ((i : Int) + 1) M := by
  unfold oldC
  rw [bnd_eq, bnd_eq, if_pos (by decide)]
theorem oldC_0 (ht : t < 24) (hi : i < 24) (h35 : M.2 35 t = (us : Int)) (b3 : us < 16) (r28 : I32 (M.2 28 t)) (r25 : ∀ k, k < 4 → I32 (M.2 25 k)) : oldC (t : Int) L (i : Int) 0 M = L (if i < 4 ∧ us.testBit i = true ∧ M.2 28 t < M.2 25 i then 1 else 0) ((i : Int) + 1) M := by
  unfold oldC
  rw [bnd_eq, bnd_eq, if_neg (fun z => z (by decide)), bnd_eq]
  by_cases c4 : i < 4
  · have v25 := r25 i c4
    rw [if_neg (by rw [show w32 4 = 4 from rfl, w32_n (by omega)]; omega), if_pos (inM (n := 24) rfl ht (by decide)), ix_n (by omega), ix_n (by omega), h35, bitI_N (by omega) (by omega)]
    by_cases ck : us.testBit i = true
    · rw [if_pos ck, if_neg (fun z => z rfl), if_pos (inM (n := 4) rfl c4 (by decide)), if_pos (inM (n := 24) rfl ht (by decide))]
      by_cases c2 : M.2 25 i ≤ M.2 28 t
      · rw [if_pos (by rw [w32_of r28.1 r28.2, w32_of v25.1 v25.2]; exact c2), if_neg (fun z => by have := z.2.2; omega)]
      · rw [if_neg (by rw [w32_of r28.1 r28.2, w32_of v25.1 v25.2]; exact c2), if_pos ⟨c4, ck, by omega⟩]
    · rw [if_neg ck, if_pos (by decide), if_neg (fun z => ck z.2.1)]
  · rw [if_pos (by rw [show w32 4 = 4 from rfl, w32_n (by omega)]; omega), if_neg (fun z => c4 z.1)]
theorem oldB_1 : oldB (t : Int) L (i : Int) 1 M = L 1 ((i : Int) + 1) M := by
  unfold oldB
  rw [bnd_eq, bnd_eq, if_pos (by decide)]
  exact oldC_1
theorem oldB_0 (ht : t < 24) (hi : i < 24) (h34 : M.2 34 t = (cd : Int)) (b2 : cd < 256) (h35 : M.2 35 t = (us : Int)) (b3 : us < 16) (r28 : I32 (M.2 28 t)) (r24 : ∀ k, k < 8 → I32 (M.2 24 k)) (r25 : ∀ k, k < 4 → I32 (M.2 25 k)) : oldB (t : Int) L (i : Int) 0 M = L (if (i < 8 ∧ cd.testBit i = true ∧ M.2 28 t < M.2 24 i) ∨ (i < 4 ∧ us.testBit i = true ∧ M.2 28 t < M.2 25 i) then 1 else 0) ((i : Int) + 1) M := by
  have e0 := oldC_0 (L := L) ht hi h35 b3 r28 r25
  have no : ¬ (i < 8 ∧ cd.testBit i = true ∧ M.2 28 t < M.2 24 i) → oldC (t : Int) L (i : Int) 0 M = L (if (i < 8 ∧ cd.testBit i = true ∧ M.2 28 t < M.2 24 i) ∨ (i < 4 ∧ us.testBit i = true ∧ M.2 28 t < M.2 25 i) then 1 else 0) ((i : Int) + 1) M := fun hn => by
    rw [e0]
    by_cases c : i < 4 ∧ us.testBit i = true ∧ M.2 28 t < M.2 25 i
    · rw [if_pos c, if_pos (Or.inr c)]
    · rw [if_neg c, if_neg (fun z => z.elim hn c)]
  unfold oldB
  rw [bnd_eq, bnd_eq, if_neg (fun z => z (by decide)), bnd_eq]
  by_cases c4 : i < 8
  · have v25 := r24 i c4
    rw [if_neg (by rw [show w32 8 = 8 from rfl, w32_n (by omega)]; omega), if_pos (inM (n := 24) rfl ht (by decide)), ix_n (by omega), ix_n (by omega), h34, bitI_N (by omega) (by omega)]
    by_cases ck : cd.testBit i = true
    · rw [if_pos ck, if_neg (fun z => z rfl), if_pos (inM (n := 8) rfl c4 (by decide)), if_pos (inM (n := 24) rfl ht (by decide))]
      by_cases c2 : M.2 24 i ≤ M.2 28 t
      · rw [if_pos (by rw [w32_of r28.1 r28.2, w32_of v25.1 v25.2]; exact c2)]
        exact no (fun z => by have := z.2.2; omega)
      · rw [if_neg (by rw [w32_of r28.1 r28.2, w32_of v25.1 v25.2]; exact c2), if_pos (Or.inl ⟨c4, ck, by omega⟩)]
        exact oldC_1
    · rw [if_neg ck, if_pos (by decide)]
      exact no (fun z => ck z.2.1)
  · rw [if_pos (by rw [show w32 8 = 8 from rfl, w32_n (by omega)]; omega)]
    exact no (fun z => c4 z.1)
end STEPS
theorem X12_isOld_ (ht : t < 24) {rd cd us : Nat} (h27 : M.2 27 t = 1) (h33 : M.2 33 t = (rd : Int)) (h34 : M.2 34 t = (cd : Int)) (h35 : M.2 35 t = (us : Int)) (b1 : rd < 16777216) (b2 : cd < 256) (b3 : us < 16) (r28 : I32 (M.2 28 t)) (r23 : ∀ k, k < 24 → I32 (M.2 23 k)) (r24 : ∀ k, k < 8 → I32 (M.2 24 k)) (r25 : ∀ k, k < 4 → I32 (M.2 25 k)) :
   BR (fX12_isOld (t : Int) M) M (OldP M t rd cd us) := by
  have i28 : inR (t : Int) (mLen 28) := inM (n := 24) rfl ht (by decide)
  have wr : w32 (M.2 28 t) = M.2 28 t := w32_of r28.1 r28.2
  have v23t := r23 t ht
  have loop : ∀ fl : Bool, BR (lpn (fun (_ : Int) (_ : Int) (_ : Md) => (none : Option (Int × Md))) (oldL (t : Int)) FU (if fl = true then 1 else 0) 0 M) M (fl = true ∨ ∃ k, k < 24 ∧ ((rd.testBit k = true ∧ M.2 28 t < M.2 23 k) ∨ (k < 8 ∧ cd.testBit k = true ∧ M.2 28 t < M.2 24 k) ∨ (k < 4 ∧ us.testBit k = true ∧ M.2 28 t < M.2 25 k))) := by
    intro fl
    have key := lpn_rule (P := fun mm (L : Int → Int → Md → Option (Int × Md)) => ∀ (fl : Bool) (i : Nat), i ≤ 24 → 24 - i < mm → BR (L (if fl = true then 1 else 0) (i : Int) M) M (fl = true ∨ ∃ k, i ≤ k ∧ k < 24 ∧ ((rd.testBit k = true ∧ M.2 28 t < M.2 23 k) ∨ (k < 8 ∧ cd.testBit k = true ∧ M.2 28 t < M.2 24 k) ∨ (k < 4 ∧ us.testBit k = true ∧ M.2 28 t < M.2 25 k))))
      (z := fun (_ : Int) (_ : Int) (_ : Md) => (none : Option (Int × Md))) (body := oldL (t : Int)) (fun _ i _ h => absurd h (Nat.not_lt_zero _)) (fun mm L hLL fl i hi hm => ?_) FU fl 0 (by decide) (by unfold FU; omega)
    · refine key.iff ?_
      refine or_congr Iff.rfl ⟨fun ⟨k, k1, k2, k3⟩ => ⟨k, k2, k3⟩, fun ⟨k, k2, k3⟩ => ⟨k, Nat.zero_le _, k2, k3⟩⟩
    · rcases Nat.lt_or_ge i 24 with hlt | hge
      · cases fl with
        | true =>
          unfold oldL
          rw [bnd_eq, if_neg (by rw [show w32 24 = 24 from rfl, w32_n (by omega)]; omega), if_pos rfl, if_pos (by decide)]
          exact Or.inl ⟨rfl, Or.inl rfl⟩
        | false =>
          have v23 := r23 i hlt
          have next : ∀ (a : Bool), BR (L (if a = true then 1 else 0) ((i : Int) + 1) M) M (a = true ∨ ∃ k, i + 1 ≤ k ∧ k < 24 ∧ ((rd.testBit k = true ∧ M.2 28 t < M.2 23 k) ∨ (k < 8 ∧ cd.testBit k = true ∧ M.2 28 t < M.2 24 k) ∨ (k < 4 ∧ us.testBit k = true ∧ M.2 28 t < M.2 25 k))) := fun a => hLL a (i + 1) (by omega) (by omega)
          have fin : ∀ (a : Bool), (a = true ↔ ((rd.testBit i = true ∧ M.2 28 t < M.2 23 i) ∨ (i < 8 ∧ cd.testBit i = true ∧ M.2 28 t < M.2 24 i) ∨ (i < 4 ∧ us.testBit i = true ∧ M.2 28 t < M.2 25 i))) → BR (L (if a = true then 1 else 0) ((i : Int) + 1) M) M (false = true ∨ ∃ k, i ≤ k ∧ k < 24 ∧ ((rd.testBit k = true ∧ M.2 28 t < M.2 23 k) ∨ (k < 8 ∧ cd.testBit k = true ∧ M.2 28 t < M.2 24 k) ∨ (k < 4 ∧ us.testBit k = true ∧ M.2 28 t < M.2 25 k))) := fun a ha => (next a).iff ⟨fun z => Or.inr (by
            rcases z with z | ⟨k, k1, k2, k3⟩
            · exact ⟨i, Nat.le_refl _, hlt, ha.mp z⟩
            · exact ⟨k, by omega, k2, k3⟩), fun z => by
            rcases z with z | ⟨k, k1, k2, k3⟩
            · exact absurd z Bool.false_ne_true
            · by_cases e : k = i
              · subst e; exact Or.inl (ha.mpr k3)
              · exact Or.inr ⟨k, by omega, k2, k3⟩⟩
          have e0 := oldB_0 (L := L) ht hlt h34 b2 h35 b3 r28 r24 r25
          have no : ¬ (rd.testBit i = true ∧ M.2 28 t < M.2 23 i) → BR (oldB (t : Int) L (i : Int) 0 M) M (false = true ∨ ∃ k, i ≤ k ∧ k < 24 ∧ ((rd.testBit k = true ∧ M.2 28 t < M.2 23 k) ∨ (k < 8 ∧ cd.testBit k = true ∧ M.2 28 t < M.2 24 k) ∨ (k < 4 ∧ us.testBit k = true ∧ M.2 28 t < M.2 25 k))) := fun hn => by
            rw [e0]
            by_cases c : (i < 8 ∧ cd.testBit i = true ∧ M.2 28 t < M.2 24 i) ∨ (i < 4 ∧ us.testBit i = true ∧ M.2 28 t < M.2 25 i)
            · rw [if_pos c]; exact fin true ⟨fun _ => Or.inr c, fun _ => rfl⟩
            · rw [if_neg c]; exact fin false ⟨fun z => absurd z Bool.false_ne_true, fun z => z.elim (fun y => absurd y hn) (fun y => absurd y c)⟩
          unfold oldL
          rw [bnd_eq, if_neg (by rw [show w32 24 = 24 from rfl, w32_n (by omega)]; omega), if_neg Bool.false_ne_true, if_neg (fun z => z (by decide)), if_pos (inM (n := 24) rfl ht (by decide)), bnd_eq, bnd_eq, ix_n (by omega), ix_n (by omega), h33, bitI_N (by omega) (by omega)]
          by_cases ck : rd.testBit i = true
          · rw [if_pos ck, if_neg (fun z => z rfl), if_pos (inM (n := 24) rfl hlt (by decide)), if_pos i28]
            by_cases c2 : M.2 23 i ≤ M.2 28 t
            · rw [if_pos (by rw [wr, w32_of v23.1 v23.2]; exact c2)]
              exact no (fun z => by have := z.2; omega)
            · rw [if_neg (by rw [wr, w32_of v23.1 v23.2]; exact c2), oldB_1]
              exact fin true ⟨fun _ => Or.inl ⟨ck, by omega⟩, fun _ => rfl⟩
          · rw [if_neg ck, if_pos (by decide)]
            exact no (fun z => ck z.1)
      · have e : i = 24 := by omega
        subst e
        unfold oldL
        rw [bnd_eq, if_pos (by decide)]
        cases fl with
        | true => exact Or.inl ⟨rfl, Or.inl rfl⟩
        | false => exact Or.inr ⟨rfl, fun z => by
            rcases z with z | ⟨k, k1, k2, k3⟩
            · exact absurd z Bool.false_ne_true
            · omega⟩
  have fin2 : ∀ fl : Bool, (fl = true ↔ M.2 28 t < M.2 23 t) → BR (lpn (fun (_ : Int) (_ : Int) (_ : Md) => (none : Option (Int × Md))) (oldL (t : Int)) FU (if fl = true then 1 else 0) 0 M) M (OldP M t rd cd us) := fun fl hfl => (loop fl).iff (by
    unfold OldP
    constructor
    · intro z
      rcases z with z | ⟨k, k1, z | z | z⟩
      · exact Or.inl (hfl.mp z)
      · exact Or.inr (Or.inl ⟨k, k1, z⟩)
      · exact Or.inr (Or.inr (Or.inl ⟨k, z⟩))
      · exact Or.inr (Or.inr (Or.inr ⟨k, z⟩))
    · intro z
      rcases z with z | ⟨k, k1, z⟩ | ⟨k, k1, z⟩ | ⟨k, k1, z⟩
      · exact Or.inl (hfl.mpr z)
      · exact Or.inr ⟨k, k1, Or.inl z⟩
      · exact Or.inr ⟨k, by omega, Or.inr (Or.inl ⟨k1, z⟩)⟩
      · exact Or.inr ⟨k, by omega, Or.inr (Or.inr ⟨k1, z⟩)⟩)
  rw [isOld_def, if_pos (inM (n := 24) rfl ht (by decide)), bnd_eq, bnd_eq, ix_n (by omega), h27, if_neg (by decide), if_pos (inM (n := 24) rfl ht (by decide)), if_pos i28]
  by_cases c2 : M.2 23 t ≤ M.2 28 t
  · rw [if_pos (by rw [wr, w32_of v23t.1 v23t.2]; exact c2)]
    exact fin2 false ⟨fun z => absurd z Bool.false_ne_true, fun z => by omega⟩
  · rw [if_neg (by rw [wr, w32_of v23t.1 v23t.2]; exact c2)]
    exact fin2 true ⟨fun _ => by omega, fun _ => rfl⟩
theorem X12_isOld_0 (ht : t < 24) (h27 : M.2 27 t = 0) : fX12_isOld (t : Int) M = some (1, M) := by
  rw [isOld_def, if_pos (inM (n := 24) rfl ht (by decide)), bnd_eq, bnd_eq, ix_n (by omega), h27, if_pos (by decide)]
  show lpn (fun (_ : Int) (_ : Int) (_ : Md) => (none : Option (Int × Md))) (oldL (t : Int)) (999999 + 1) 1 0 M = _
  rw [lpn_succ]
  unfold oldL
  rw [bnd_eq, if_neg (by decide), if_pos (by decide)]
  rfl
theorem RK.i32 {nv : Nat} (hB : RB kc M) (hk : kc ≤ 1000) (h : RK M nv) : (∀ k, k < 24 → I32 (M.2 23 k)) ∧ (∀ k, k < 8 → I32 (M.2 24 k)) ∧ (∀ k, k < 4 → I32 (M.2 25 k)) ∧ ∀ t, t < 24 → I32 (M.2 28 t) := by
  obtain ⟨b1, b2, b3, b4⟩ := hB
  obtain ⟨h1, h2, h3, h4, h5⟩ := h
  exact ⟨fun k hk => by have := h2 k hk; exact ⟨by omega, by omega⟩, fun k hk => by have := h3 k hk; exact ⟨by omega, by omega⟩, fun k hk => by have := h4 k hk; exact ⟨by omega, by omega⟩, fun k hk => by have := h5 k hk; exact ⟨by omega, by omega⟩⟩
/-- the reference sees what waits as the class does -/
theorem RR.old_ (h : RR b kc M C) (hk : kc ≤ 1000) (ht : t < 24) (hne : M.2 6 t ≠ -1) : BR (fX12_isOld (t : Int) M) M (wqC b C t = true) := by
  obtain ⟨VA, PA, LE, AA, nv, np, na, hH, hK, hc⟩ := h.at_ ht
  obtain ⟨r, lk, ct, rd, cd, us, hg⟩ := h.2.2.2.2.2.2.2 t ht
  obtain ⟨g1, g2, g3, g4, g5, g6, g7⟩ := hg
  obtain ⟨q1, q2, q3, q4⟩ := hK.i32 h.2.2.2.1 hk
  have hp : cR C 1203 (b + 13 + 6 * t) ≠ none := by
    rcases hc with z | ⟨p, p1, p2, p3⟩
    · exact absurd z.1 hne
    · rw [p3]; exact Option.some_ne_none _
  rcases g1.2 with m | m
  · rw [X12_isOld_0 ht m]
    exact Or.inl ⟨rfl, decide_eq_true ⟨hp, Or.inl (g1.1.trans m)⟩⟩
  · obtain ⟨_, ⟨y1, y2, y3, y4⟩, y5, _⟩ := g6 m
    refine (X12_isOld_ ht m y2 y3 y4 g4.2.2.1.2 g4.2.2.2.1.2 g4.2.2.2.2.2 (q4 t ht) q1 q2 q3).iff ?_
    rw [← y5]
    unfold wqC
    rw [decide_eq_true_iff, g1.1, m]
    constructor
    · intro z; exact ⟨hp, Or.inr (by rw [z]; decide)⟩
    · intro z
      rcases z.2 with w | w
      · exact absurd w (by decide)
      · rcases g2 with v | v
        · exact absurd v w
        · exact v
theorem RR.waits_ (h : RR b kc M C) (ht : t < 24) : fX9_waits (b + 13 + 6 * t) C = some (if wqC b C t = true then 1 else 0, C) := by
  obtain ⟨r, lk, ct, rd, cd, us, hg⟩ := h.2.2.2.2.2.2.2 t ht
  obtain ⟨g1, g2, g3⟩ := hg
  exact X9_waits_ h.1.1 ht (by rw [g1.1]; exact g1.2) g2
theorem RR.nopage (h : RR b kc M C) (ht : t < 24) (hp : M.2 6 t = -1) : wqC b C t = false := by
  obtain ⟨VA, PA, LE, AA, nv, np, na, hH, hK, hc⟩ := h.at_ ht
  rcases hc with z | ⟨p, p1, p2, p3⟩
  · exact decide_eq_false (fun y => y.1 z.2)
  · omega
theorem RR.pg (h : RR b kc M C) (ht : t < 24) : -1 ≤ M.2 6 t ∧ M.2 6 t < 200 := by
  obtain ⟨VA, PA, LE, AA, nv, np, na, hH, hK, hc⟩ := h.at_ ht
  obtain ⟨n1, n2⟩ := hH.nv120
  rcases hc with z | ⟨p, p1, p2, p3⟩
  · omega
  · omega
/-- what doesn't last is set -/
theorem RR.m36 (h : RR b kc M C) (o : ScO M M') : RR b (kc + 1) M' C := h.nil (Fp.rf h.1.1.W) o
theorem call_isStale (h : RR b kc M C) (hk : kc ≤ 900) {x : Int} (hx : I32 x) : CallE b kc C cd2 (fX11_isStale b x C) (fX12_isStale x M) := by
  have hL := h.1.1
  have bad : fX12_hasPage x M = some (0, M) → fX11_isStale b x C = some (.inr 2, cBump C) → CallE b kc C cd2 (fX11_isStale b x C) (fX12_isStale x M) := fun e hX => by
    refine h.exc hX (M' := mSet M 36 1) ?_ (sc36 M 1) (mS1 _ _ _) (by decide)
    unfold fX12_isStale
    rw [cal_of e, bnd_eq, if_pos (by decide)]
    dsimp only
    rw [bnd_eq, bnd_eq, bnd_eq, mS1, if_pos (by decide)]
    rfl
  by_cases c : 0 ≤ x ∧ x < 24
  · obtain ⟨t, rfl⟩ : ∃ t : Nat, x = (t : Int) := ⟨x.toNat, by omega⟩
    have ht : t < 24 := by omega
    obtain ⟨VA, PA, LE, AA, nv, np, na, hH, hK, hc⟩ := h.at_ ht
    rcases X12_hasPage_ (M := M) ht (h.pg ht) with ⟨e, p⟩ | ⟨e, p⟩
    · rcases hc with ⟨c1, c2⟩ | ⟨p, p1, p2, p3⟩
      · exact absurd c1 p
      · have hX : fX11_isStale b (t : Int) C = some (.inl (if wqC b C t = true then 1 else 0), C) := by
          unfold fX11_isStale
          rw [if_pos hL.o, calx_of (X11_pageOf_in hL ht p3), if_pos hL.o, bnd_eq, hL.r1, drf_some, if_pos ⟨hL.ot, by rw [hL.nt]; exact inR_n ht (by decide)⟩, bnd_eq, hL.tt ht, drf_some, if_pos (hL.to ht), cal_of (h.waits_ ht)]
          unfold retZX
          by_cases z : wqC b C t = true
          · rw [if_pos z, if_pos (Or.inr (by decide))]
          · rw [if_neg z, if_pos (Or.inl (by decide))]
        have hold := (h.m36 (sc36 M 0)).old_ (by omega) ht (by show M.2 6 t ≠ -1; omega)
        refine h.ret hX (M' := mSet M 36 0) ?_ (sc36 M 0) (mS1 _ _ _)
        unfold fX12_isStale
        rw [cal_of e, bnd_eq, if_neg (by decide)]
        dsimp only
        rw [bnd_eq, bnd_eq, bnd_eq, mS1, if_neg (fun z => z (by decide))]
        rcases hold with ⟨q, z⟩ | ⟨q, z⟩
        · rw [cal_of q, if_neg (by decide), if_pos z]; rfl
        · rw [cal_of q, if_pos (by decide), if_neg z]; rfl
    · refine bad e ?_
      rcases hc with ⟨c1, c2⟩ | ⟨p', p1, p2, p3⟩
      · unfold fX11_isStale
        rw [if_pos hL.o, calx_ofx (X11_pageOf_no hL ht c2)]
      · exact absurd (by omega) p
  · refine bad (X12_hasPage_out hx c) ?_
    unfold fX11_isStale
    rw [if_pos hL.o, calx_ofx (X11_pageOf_out hL hx c)]
theorem call_queued (h : RR b kc M C) (hk : kc ≤ 900) : CallP b kc C (fX11_queued b C) (fX12_queued M) := by
  have hL := h.1.1
  have W := hL.W
  have h' := h.m36 (sc36 M 0)
  have hc24 := cnt_le (wqC b C) 24
  have hX : fX11_queued b C = some ((cnt (wqC b C) 24 : Int), C) := by
    unfold fX11_queued
    rw [bnd_eq]
    refine lpn_rule (P := fun mm (L : Int → Int → Cd → Option (Int × Cd)) => ∀ i, i ≤ 24 → 24 - i < mm → L (cnt (wqC b C) i : Int) (i : Int) C = some ((cnt (wqC b C) 24 : Int), C)) (fun i _ h => absurd h (Nat.not_lt_zero _)) (fun mm L hLL i hi hm => ?_) FU 0 (by decide) (by unfold FU; omega)
    rw [if_pos hL.o, bnd_eq, hL.r1, drf_some, if_pos hL.ot, hL.nt]
    rcases Nat.lt_or_ge i 24 with hlt | hge
    · have q := hLL (i + 1) (by omega) (by omega)
      rw [cnt_succ] at q
      rw [if_neg (by rw [show w32 ((24 : Nat) : Int) = 24 from rfl, w32_n (by omega)]; omega), if_pos hL.o, bnd_eq, drf_some, hL.nt, if_pos ⟨hL.ot, inR_n hlt (by decide)⟩, bnd_eq, hL.tt hlt, drf_some, if_pos (hL.to hlt), cal_of (h.waits_ hlt), bnd_eq]
      by_cases z : wqC b C i = true
      · rw [if_pos z] at q
        rw [if_pos z, if_neg (by decide)]
        exact q
      · rw [if_neg z] at q
        rw [if_neg z, if_pos (by decide)]
        exact q
    · have e : i = 24 := by omega
      subst e
      rw [if_pos (by decide)]
  have hY : fX12_queued M = some ((cnt (wqC b C) 24 : Int), mSet M 36 0) := by
    unfold fX12_queued
    rw [bnd_eq, bnd_eq]
    refine lpn_rule (P := fun mm (L : Int → Int → Md → Option (Int × Md)) => ∀ i, i ≤ 24 → 24 - i < mm → L (cnt (wqC b C) i : Int) (i : Int) (mSet M 36 0) = some ((cnt (wqC b C) 24 : Int), mSet M 36 0)) (fun i _ h => absurd h (Nat.not_lt_zero _)) (fun mm L hLL i hi hm => ?_) FU 0 (by decide) (by unfold FU; omega)
    rcases Nat.lt_or_ge i 24 with hlt | hge
    · have q := hLL (i + 1) (by omega) (by omega)
      rw [cnt_succ] at q
      have pg := h.pg hlt
      have e6 : (mSet M 36 0).2 6 i = M.2 6 i := rfl
      rw [if_neg (by rw [show w32 24 = 24 from rfl, w32_n (by omega)]; omega), if_pos (inM (n := 24) rfl hlt (by decide)), bnd_eq, bnd_eq, ix_n (by omega), e6]
      by_cases cp : M.2 6 i = -1
      · rw [h.nopage hlt cp, if_neg Bool.false_ne_true] at q
        rw [if_pos (by rw [cp])]
        dsimp only
        rw [bnd_eq]
        exact q
      · rw [if_neg (by rw [w32_of (by omega) (by omega), show w32 (-1) = -1 from rfl]; exact cp)]
        rcases h'.old_ (by omega) hlt cp with ⟨q1, z⟩ | ⟨q1, z⟩
        · rw [if_pos z] at q
          rw [cal_of q1, if_neg (by decide)]
          dsimp only
          rw [bnd_eq]
          exact q
        · rw [if_neg z] at q
          rw [cal_of q1, if_pos (by decide)]
          dsimp only
          rw [bnd_eq]
          exact q
    · have e : i = 24 := by omega
      subst e
      rw [if_pos (by decide)]
  exact ⟨mSet M 36 0, C, _, hY, h', RmL.of hL.sz (Fp.rf W) (S := fun _ _ _ => False) (fun _ _ z => z) (Nat.le_add_right _ _) (Nat.le_add_right _ _), hX⟩
end OLD
