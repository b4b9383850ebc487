/-! THE REFERENCE'S LOOP, ITS TOKENS -/
section MLO
def tokR (a1 a2 a3 x4_10 x5_22 t0_42 : Int) (M_42 : Md) : Option (Unit × Md) :=
bnd (fun  (M_227 : Md) =>
some ((), M_227)) fun J227 =>
if ¬ w32 x4_10 = 0 then
bnd (fun  (M_72 : Md) =>
cal (fX12_append a3 (1000 + x5_22) M_72) fun r8 M7 =>
bnd (mSet M7 66 (orI (M7.1 66) (shlI 1 x5_22))) fun (M9 : Md) =>
J227 M9) fun J72 =>
if w32 x4_10 = w32 1 then
J72 M_42
else
if ¬ w32 x4_10 = w32 12 then
if ¬ w32 x4_10 = w32 11 then
bnd (fun  (M_161 : Md) =>
cal (fX12_task 0 a1 (a2 + 1) t0_42 a3 M_161) fun r11 M10 =>
J227 M10) fun J161 =>
if w32 x4_10 = w32 10 then
J161 M_42
else
bnd (fun  (M_145 : Md) =>
bnd (fun  (M_176 : Md) =>
if ¬ w32 x4_10 = w32 2 then
if ¬ w32 x4_10 = w32 3 then
if ¬ w32 x4_10 = w32 4 then
J227 M_176
else
cal (fX12_expandFunction a1 a2 t0_42 a3 M_176) fun r13 M12 =>
J227 M12
else
cal (fX12_expandParam a1 a2 t0_42 a3 M_176) fun r15 M14 =>
J227 M14
else
cal (fX12_expandCall a1 a2 t0_42 a3 M_176) fun r17 M16 =>
J227 M16) fun J176 =>
if ¬ w32 x4_10 = w32 9 then
J176 M_145
else
if inR a1 (mLen 43) then
if ¬ w32 (M_145.2 43 (ix a1)) = 0 then
J176 M_145
else
J161 M_145
else none) fun J145 =>
if ¬ w32 x4_10 = w32 8 then
J145 M_42
else
if inR a1 (mLen 43) then
if 0 < w32 (M_42.2 43 (ix a1)) then
J161 M_42
else
J145 M_42
else none
else
bnd (mSet M_42 67 (orI (M_42.1 67) (shlI 1 x5_22))) fun (M18 : Md) =>
J227 M18
else
J72 M_42
else
cal (fX12_append a3 x5_22 M_42) fun r20 M19 =>
J227 M19
theorem tok_def (a1 a2 a3 : Int) (M : Md) : fX12_expandToken a1 a2 a3 M = (cal (fX12_codeAt a1 a2 M) fun r2 M1 =>
bnd (divI r2 1000) fun (x4_10 : Int) =>
cal (fX12_codeAt a1 a2 M1) fun r4 M3 =>
bnd (remI r4 1000) fun (x5_22 : Int) =>
cal (fX12_opens x4_10 M3) fun r6 M5 =>
bnd (tokR a1 a2 a3 x4_10 x5_22) fun J42 =>
if w32 r6 = 0 then
J42 a2 M5
else
cal (fX12_closeOf a1 a2 M5) fun r22 M21 =>
J42 r22 M21) := rfl
def mRest (L82 : Md → Option (Unit × Md)) (x5_108 x6_119 x7_130 x8_141 x9_152 : Int) (M19 : Md) : Option (Unit × Md) :=
bnd (fun  (M_249 : Md) =>
L82 M_249) fun J249 =>
if ¬ w32 x5_108 = w32 1 then
if ¬ w32 x5_108 = w32 2 then
if w32 x8_141 ≤ w32 x7_130 then
J249 M19
else
cal (fX12_codeAt x6_119 x7_130 M19) fun r21 M20 =>
cal (fX12_opens (divI r21 1000) M20) fun r23 M22 =>
bnd (fun (t0_232 : Int) (M_232 : Md) =>
cal (fX12_task 0 x6_119 t0_232 x8_141 x9_152 M_232) fun r25 M24 =>
cal (fX12_expandToken x6_119 x7_130 x9_152 M24) fun r27 M26 =>
J249 M26) fun J232 =>
if w32 r23 = 0 then
J232 (x7_130 + 1) M22
else
cal (fX12_closeOf x6_119 x7_130 M22) fun r29 M28 =>
J232 (r29 + 1) M28
else
cal (fX12_give x6_119 M19) fun r31 M30 =>
J249 M30
else
cal (fX12_appendRow x9_152 x6_119 M19) fun r33 M32 =>
J249 M32
def mBody (L82 : Md → Option (Unit × Md)) (M_82 : Md) : Option (Unit × Md) :=
if w32 (M_82.1 59) ≤ 0 then
some ((), M_82)
else
bnd (mSet M_82 59 ((M_82.1 59) - 1)) fun (M19 : Md) =>
if inR (M19.1 59) (mLen 60) then
bnd (M19.2 60 (ix (M19.1 59))) fun (x5_108 : Int) =>
if inR (M19.1 59) (mLen 61) then
bnd (M19.2 61 (ix (M19.1 59))) fun (x6_119 : Int) =>
if inR (M19.1 59) (mLen 62) then
bnd (M19.2 62 (ix (M19.1 59))) fun (x7_130 : Int) =>
if inR (M19.1 59) (mLen 63) then
bnd (M19.2 63 (ix (M19.1 59))) fun (x8_141 : Int) =>
if inR (M19.1 59) (mLen 64) then
bnd (M19.2 64 (ix (M19.1 59))) fun (x9_152 : Int) =>
mRest L82 x5_108 x6_119 x7_130 x8_141 x9_152 M19
else none
else none
else none
else none
else none
theorem expand_def (a1 a2 : Int) (M : Md) : fX12_expand a1 a2 M = (bnd (mSet M 40 0) fun (M1 : Md) =>
bnd (mSet M1 48 0) fun (M2 : Md) =>
bnd (mSet M2 51 0) fun (M3 : Md) =>
bnd (mSet M3 59 0) fun (M4 : Md) =>
bnd (mSet M4 65 0) fun (M5 : Md) =>
bnd (mSet M5 66 0) fun (M6 : Md) =>
bnd (mSet M6 67 0) fun (M7 : Md) =>
bnd (mSet M7 68 0) fun (M8 : Md) =>
bnd (mSet M8 69 0) fun (M9 : Md) =>
bnd (mSet M9 70 0) fun (M10 : Md) =>
cal (fX12_newRow M10) fun r12 M11 =>
cal (fX12_newRow M11) fun r14 M13 =>
cal (fX12_newFrame a2 a1 0 (-1) M13) fun r16 M15 =>
if inR a2 (mLen 10) then
cal (fX12_task 0 r16 0 (M15.2 10 (ix a2)) r12 M15) fun r18 M17 =>
bnd (lpn (fun  (_ : Md) => (none : Option (Unit × Md))) mBody FU) fun J82 =>
J82 M17
else none) := rfl
/-- a step of the loop -/
def MStp (M M' : Md) : Prop := ∀ L, mBody L M = L M'
def MSts : Nat → Md → Md → Prop
  | 0, M, M' => M' = M
  | k + 1, M, M' => ∃ M1, MStp M M1 ∧ MSts k M1 M'
theorem MSts.app {k : Nat} : ∀ {j : Nat} {M M1 M2 : Md}, MSts j M M1 → MSts k M1 M2 → MSts (j + k) M M2 := by
  intro j
  induction j with
  | zero => intro M M1 M2 h h2; have e : M1 = M := h; subst e; rw [Nat.zero_add]; exact h2
  | succ j ih =>
    intro M M1 M2 h h2
    obtain ⟨M3, a, b⟩ := h
    rw [Nat.succ_add]
    exact ⟨M3, a, ih b h2⟩
theorem MSts.one {M M1 : Md} (h : MStp M M1) : MSts 1 M M1 := ⟨M1, h, rfl⟩
theorem MSts.run {k : Nat} : ∀ {M M' : Md}, MSts k M M' → M'.1 59 = 0 → ∀ n, k < n → lpn (fun (_ : Md) => (none : Option (Unit × Md))) mBody n M = some ((), M') := by
  induction k with
  | zero =>
    intro M M' h h0 n hn
    have e : M' = M := h
    subst e
    obtain ⟨n, rfl⟩ : ∃ m, n = m + 1 := ⟨n - 1, by omega⟩
    show mBody (lpn _ mBody n) M' = _
    unfold mBody
    rw [h0, if_pos (by decide)]
  | succ k ih =>
    intro M M' h h0 n hn
    obtain ⟨M1, a, b⟩ := h
    obtain ⟨n, rfl⟩ : ∃ m, n = m + 1 := ⟨n - 1, by omega⟩
    show mBody (lpn _ mBody n) M = _
    rw [a]
    exact ih b h0 n (by omega)
variable {M : Md} {D fr v n i to row : Nat} {g : Nat → Int}
theorem mtask {o a b c e : Int} (h : TkM M D o a b c e) (h59 : M.1 59 = (D : Int) + 1) (hD : D < 4000) (L : Md → Option (Unit × Md)) : mBody L M = mRest L o a b c e (mSet M 59 (D : Int)) := by
  obtain ⟨t1, t2, t3, t4, t5⟩ := h
  have i60 : inR (D : Int) (mLen 60) := in_4000 hD rfl
  have i61 : inR (D : Int) (mLen 61) := in_4000 hD rfl
  have i62 : inR (D : Int) (mLen 62) := in_4000 hD rfl
  have i63 : inR (D : Int) (mLen 63) := in_4000 hD rfl
  have i64 : inR (D : Int) (mLen 64) := in_4000 hD rfl
  have t1' : (mSet M 59 (D : Int)).2 60 D = o := t1
  have t2' : (mSet M 59 (D : Int)).2 61 D = a := t2
  have t3' : (mSet M 59 (D : Int)).2 62 D = b := t3
  have t4' : (mSet M 59 (D : Int)).2 63 D = c := t4
  have t5' : (mSet M 59 (D : Int)).2 64 D = e := t5
  unfold mBody
  rw [h59, if_neg (by rw [w32_of (by omega) (by omega)]; omega), show (D : Int) + 1 - 1 = (D : Int) by omega, bnd_eq, mS1, if_pos i60, ix_n (by omega), t1', bnd_eq, if_pos i61, t2', bnd_eq, if_pos i62, t3', bnd_eq, if_pos i63, t4', bnd_eq, if_pos i64, t5', bnd_eq]
/-- a stretch that is done -/
theorem mdone {f : Nat} (h : TkM M D 0 (f : Int) (i : Int) (to : Int) (row : Int)) (h59 : M.1 59 = (D : Int) + 1) (hD : D < 4000) (hi : to ≤ i) (h30 : i < 1000) : MStp M (mSet M 59 (D : Int)) := by
  intro L
  rw [mtask h h59 hD]
  unfold mRest
  rw [bnd_eq, if_pos (by decide), if_pos (by decide), if_pos (by rw [w32_n (by omega), w32_n (by omega)]; omega)]
theorem mtok (hF : FrM M fr v g n) (hT : TxOK g n) (h : TkM M D 0 (fr : Int) (i : Int) (to : Int) (row : Int)) (h59 : M.1 59 = (D : Int) + 1) (hD : D < 4000) (hi : i < to) (hto : to ≤ n) :
   ∃ M1, PlO row D M M1 ∧ M1.1 59 = (D : Int) + 1 ∧ (∀ j, j ≠ 59 → M1.1 j = M.1 j) ∧ (∀ k, (k < 60 ∨ 64 < k) → M1.2 k = M.2 k) ∧ TkM M1 D 0 (fr : Int) (((if opB (g i / 1000) = true then fE g n i + 1 else i + 1 : Nat)) : Int) (to : Int) (row : Int) ∧ ∀ M2, fX12_expandToken (fr : Int) (i : Int) (row : Int) M1 = some ((), M2) → MStp M M2 := by
  have hin : i < n := by omega
  have hn := hF.2.2.2.1
  have oS : PlO row D M (mSet M 59 (D : Int)) := PlO.set (Or.inl rfl)
  have hF1 : FrM (mSet M 59 (D : Int)) fr v g n := hF.pl oS
  obtain ⟨k1, k2, k3, k4⟩ := hF1.k hin
  obtain ⟨M1, t1, t2, t3, t4⟩ := X12_task_ (M := mSet M 59 (D : Int)) (d := D) (mS1 _ _ _) hD 0 (fr : Int) (((if opB (g i / 1000) = true then fE g n i + 1 else i + 1 : Nat)) : Int) (to : Int) (row : Int)
  refine ⟨M1, oS.tr (t4.pl (Nat.le_refl _)), t2, fun j hj => (t4.1 j hj).trans (mS2 _ _ hj), fun k hk => t4.2.1 k hk, t3, fun M2 he L => ?_⟩
  rw [mtask h h59 hD]
  unfold mRest
  rw [bnd_eq, if_pos (by decide), if_pos (by decide), if_neg (by rw [w32_n (by omega), w32_n (by omega)]; omega), cal_of (X12_codeAt_ hF1 hin), k1, cal_of k4, bnd_eq]
  by_cases ho : opB (g i / 1000) = true
  · rw [if_pos ho] at t1
    rw [if_pos ho, if_neg (by decide), cal_of (X12_close_ hF1 hT hin ho), show (fE g n i : Int) + 1 = ((fE g n i + 1 : Nat) : Int) by omega]
    dsimp only
    rw [cal_of t1, cal_of he]
  · rw [if_neg ho] at t1
    rw [if_neg ho, if_pos (by decide), show (i : Int) + 1 = ((i + 1 : Nat) : Int) by omega]
    dsimp only
    rw [cal_of t1, cal_of he]
theorem tok_eq (hF : FrM M fr v g n) (hT : TxOK g n) (hin : i < n) : fX12_expandToken (fr : Int) (i : Int) (row : Int) M = tokR (fr : Int) (i : Int) (row : Int) (g i / 1000) (g i % 1000) (((if opB (g i / 1000) = true then fE g n i else i : Nat)) : Int) M := by
  obtain ⟨k1, k2, k3, k4⟩ := hF.k hin
  rw [tok_def, cal_of (X12_codeAt_ hF hin), k1, bnd_eq, cal_of (X12_codeAt_ hF hin), k2, bnd_eq, cal_of k4, bnd_eq]
  by_cases ho : opB (g i / 1000) = true
  · rw [if_pos ho, if_pos ho, if_neg (by decide), cal_of (X12_close_ hF hT hin ho)]
  · rw [if_neg ho, if_neg ho, if_pos (by decide)]
variable {a1 a2 a3 x t : Int}
theorem tokR_0 : tokR a1 a2 a3 0 x t M = cal (fX12_append a3 x M) fun _ M19 => some ((), M19) := by
  unfold tokR
  rw [bnd_eq, if_neg (fun z => z (by decide))]
theorem tokR_1 {k : Int} (hk : k = 1 ∨ k = 12) : tokR a1 a2 a3 k x t M = cal (fX12_append a3 (1000 + x) M) fun _ M7 => some ((), mSet M7 66 (orI (M7.1 66) (shlI 1 x))) := by
  unfold tokR
  rcases hk with e | e <;> subst e
  · rw [bnd_eq, if_pos (by decide), bnd_eq, if_pos (by decide)]
    rfl
  · rw [bnd_eq, if_pos (by decide), bnd_eq, if_neg (by decide), if_neg (fun z => z (by decide))]
    rfl
theorem tokR_11 : tokR a1 a2 a3 11 x t M = some ((), mSet M 67 (orI (M.1 67) (shlI 1 x))) := by
  unfold tokR
  rw [bnd_eq, if_pos (by decide), bnd_eq, if_neg (by decide), if_pos (by decide), if_neg (fun z => z (by decide)), bnd_eq]
theorem tokR_in {f : Nat} {k : Int} {d : Nat} (hf : f < 41) (hd : M.2 43 f = (d : Int)) (hd6 : d ≤ 6) (hk : k = 10 ∨ (k = 8 ∧ 0 < d) ∨ (k = 9 ∧ d = 0)) : tokR (f : Int) a2 a3 k x t M = cal (fX12_task 0 (f : Int) (a2 + 1) t a3 M) fun _ M10 => some ((), M10) := by
  unfold tokR
  rcases hk with e | ⟨e, e2⟩ | ⟨e, e2⟩ <;> subst e
  · rw [bnd_eq, if_pos (by decide), bnd_eq, if_neg (by decide), if_pos (by decide), if_pos (by decide), bnd_eq, if_pos (by decide)]
  · rw [bnd_eq, if_pos (by decide), bnd_eq, if_neg (by decide), if_pos (by decide), if_pos (by decide), bnd_eq, if_neg (by decide), bnd_eq, if_neg (fun z => z (by decide)), if_pos (in_41 hf rfl), ix_n (by omega), hd, if_pos (by rw [w32_n (by omega)]; omega)]
  · rw [bnd_eq, if_pos (by decide), bnd_eq, if_neg (by decide), if_pos (by decide), if_pos (by decide), bnd_eq, if_neg (by decide), bnd_eq, if_pos (by decide)]
    dsimp only
    rw [bnd_eq, if_neg (fun z => z (by decide)), if_pos (in_41 hf rfl), ix_n (by omega), hd, if_neg (fun z => z (by rw [e2]; decide))]
theorem tokR_out {f : Nat} {k : Int} {d : Nat} (hf : f < 41) (hd : M.2 43 f = (d : Int)) (hd6 : d ≤ 6) (hk : (k = 8 ∧ d = 0) ∨ (k = 9 ∧ 0 < d)) : tokR (f : Int) a2 a3 k x t M = some ((), M) := by
  unfold tokR
  rcases hk with ⟨e, e2⟩ | ⟨e, e2⟩ <;> subst e
  · rw [bnd_eq, if_pos (by decide), bnd_eq, if_neg (by decide), if_pos (by decide), if_pos (by decide), bnd_eq, if_neg (by decide), bnd_eq, if_neg (fun z => z (by decide)), if_pos (in_41 hf rfl), ix_n (by omega), hd, if_neg (by rw [w32_n (by omega)]; omega)]
    dsimp only
    rw [bnd_eq, if_pos (by decide)]
    dsimp only
    rw [if_pos (by decide), if_pos (by decide), if_pos (by decide)]
  · rw [bnd_eq, if_pos (by decide), bnd_eq, if_neg (by decide), if_pos (by decide), if_pos (by decide), bnd_eq, if_neg (by decide), bnd_eq, if_pos (by decide)]
    dsimp only
    rw [bnd_eq, if_neg (fun z => z (by decide)), if_pos (in_41 hf rfl), ix_n (by omega), hd, if_pos (by rw [w32_n (by omega)]; omega)]
    dsimp only
    rw [if_pos (by decide), if_pos (by decide), if_pos (by decide)]
theorem tokR_skip {k : Int} (hk : k = 5 ∨ k = 6 ∨ k = 7 ∨ k = 13) : tokR a1 a2 a3 k x t M = some ((), M) := by
  unfold tokR
  rcases hk with e | e | e | e <;> subst e <;>
  · rw [bnd_eq, if_pos (by decide), bnd_eq, if_neg (by decide), if_pos (by decide), if_pos (by decide), bnd_eq, if_neg (by decide), bnd_eq, if_pos (by decide)]
    dsimp only
    rw [bnd_eq, if_pos (by decide)]
    dsimp only
    rw [if_pos (by decide), if_pos (by decide), if_pos (by decide)]
theorem tokR_2 : tokR a1 a2 a3 2 x t M = cal (fX12_expandCall a1 a2 t a3 M) fun _ M16 => some ((), M16) := by
  unfold tokR
  rw [bnd_eq, if_pos (by decide), bnd_eq, if_neg (by decide), if_pos (by decide), if_pos (by decide), bnd_eq, if_neg (by decide), bnd_eq, if_pos (by decide)]
  dsimp only
  rw [bnd_eq, if_pos (by decide)]
  dsimp only
  rw [if_neg (fun z => z (by decide))]
theorem tokR_3 : tokR a1 a2 a3 3 x t M = cal (fX12_expandParam a1 a2 t a3 M) fun _ M14 => some ((), M14) := by
  unfold tokR
  rw [bnd_eq, if_pos (by decide), bnd_eq, if_neg (by decide), if_pos (by decide), if_pos (by decide), bnd_eq, if_neg (by decide), bnd_eq, if_pos (by decide)]
  dsimp only
  rw [bnd_eq, if_pos (by decide)]
  dsimp only
  rw [if_pos (by decide), if_neg (fun z => z (by decide))]
theorem tokR_4 : tokR a1 a2 a3 4 x t M = cal (fX12_expandFunction a1 a2 t a3 M) fun _ M12 => some ((), M12) := by
  unfold tokR
  rw [bnd_eq, if_pos (by decide), bnd_eq, if_neg (by decide), if_pos (by decide), if_pos (by decide), bnd_eq, if_neg (by decide), bnd_eq, if_pos (by decide)]
  dsimp only
  rw [bnd_eq, if_pos (by decide)]
  dsimp only
  rw [if_pos (by decide), if_pos (by decide), if_neg (fun z => z (by decide))]
end MLO
