/-! THE CALL moveTree: its loops named -/
section MTD
variable {b kc : Nat} {M M' M1 M2 : Md} {C C' C1 C2 : Cd} {P : Nat → Prop} {VA PA LE AA : Nat → Nat} {nv np na n : Nat} {g : Nat → Int}
def mt2 (a1 a2 v3_35 v5_139 : Int) (L307 : Int → Md → Option (Int × Md)) (v6_307 : Int) (M_307 : Md) : Option (Int × Md) :=
if w32 24 ≤ w32 v6_307 then
cal (fX12_settleTitles M_307) fun r8 M7 =>
some (v5_139, M7)
else
if inR v6_307 (mLen 6) then
bnd (fun  (M_359 : Md) =>
L307 (v6_307 + 1) M_359) fun J359 =>
if w32 (M_307.2 6 (ix v6_307)) = w32 (-1) then
J359 M_307
else
cal (fX12_turns v6_307 a1 a2 v3_35 M_307) fun r10 M9 =>
if w32 r10 = 0 then
J359 M9
else
if inR v6_307 (mLen 6) then
cal (fX12_newVersionNow (M9.2 6 (ix v6_307)) 76 0 (M9.1 77) M9) fun r12 M11 =>
J359 M11
else none
else none
def mt1 (a1 a2 v3_35 v5_139 : Int) (L244 : Int → Md → Option (Int × Md)) (v6_244 : Int) (M_244 : Md) : Option (Int × Md) :=
if w32 4 ≤ w32 v6_244 then
cal (fX12_settleTitles M_244) fun r6 M5 =>
bnd (lpn (fun (_ : Int) (_ : Md) => (none : Option (Int × Md))) (mt2 a1 a2 v3_35 v5_139) FU) fun J307 =>
J307 0 M5
else
cal (fX12_dropRendering ((4 * a1) + v6_244) M_244) fun r14 M13 =>
if inR ((4 * a1) + v6_244) (mLen 6) then
if inR ((4 * a2) + v6_244) (mLen 6) then bnd (mPut M13 6 (ix ((4 * a2) + v6_244)) (M13.2 6 (ix ((4 * a1) + v6_244)))) fun (M15 : Md) =>
if inR ((4 * a1) + v6_244) (mLen 6) then bnd (mPut M15 6 (ix ((4 * a1) + v6_244)) (-1)) fun (M16 : Md) =>
L244 (v6_244 + 1) M16
else none
else none
else none
def mtG (a1 a2 v3_35 v5_139 t0_229 : Int) (M_229 : Md) : Option (Int × Md) :=
bnd (mSet M_229 36 t0_229) fun (M4 : Md) =>
if w32 (M4.1 36) ≤ 0 then
bnd (lpn (fun (_ : Int) (_ : Md) => (none : Option (Int × Md))) (mt1 a1 a2 v3_35 v5_139) FU) fun J244 =>
J244 0 M4
else
some (0, M4)
def mtQ (a1 a2 v3_35 v4_35 v5_139 : Int) (M_192 : Md) : Option (Int × Md) :=
bnd (fun (t0_229 : Int) (M_229 : Md) =>
mtG a1 a2 v3_35 v5_139 t0_229 M_229) fun J229 =>
bnd (fun  (M_225 : Md) =>
J229 (M_225.1 36) M_225) fun J225 =>
if ¬ w32 (M_192.1 36) = 0 then
J225 M_192
else
bnd (fun  (M_221 : Md) =>
J229 2 M_221) fun J221 =>
if w32 v4_35 = 0 then
J221 M_192
else
if w32 v3_35 = 0 then
J221 M_192
else
if w32 ((M_192.1 8) + v5_139) ≤ w32 120 then
J225 M_192
else
J221 M_192
def mtC (a1 a2 v3_35 v4_35 : Int) (L139 : Int → Int → Md → Option (Int × Md)) (v5_139 : Int) (v6_139 : Int) (M_139 : Md) : Option (Int × Md) :=
bnd (fun  (M_192 : Md) =>
mtQ a1 a2 v3_35 v4_35 v5_139 M_192) fun J192 =>
if w32 24 ≤ w32 v6_139 then
J192 M_139
else
if ¬ w32 (M_139.1 36) = 0 then
J192 M_139
else
if inR v6_139 (mLen 6) then
bnd (fun (t0_183 : Int) (M_183 : Md) =>
bnd (v5_139 + t0_183) fun (x5_184 : Int) =>
L139 x5_184 (v6_139 + 1) M_183) fun J183 =>
bnd (fun  (M_182 : Md) =>
J183 0 M_182) fun J182 =>
if w32 (M_139.2 6 (ix v6_139)) = w32 (-1) then
J182 M_139
else
cal (fX12_turns v6_139 a1 a2 v3_35 M_139) fun r18 M17 =>
if w32 r18 = 0 then
J182 M17
else
J183 1 M17
else none
def mtE (a1 a2 : Int) (L35 : Int → Int → Int → Md → Option (Int × Md)) (v3_35 : Int) (v4_35 : Int) (v5_35 : Int) (M_35 : Md) : Option (Int × Md) :=
bnd (fun  (M_133 : Md) =>
bnd (lpn (fun (_ : Int) (_ : Int) (_ : Md) => (none : Option (Int × Md))) (mtC a1 a2 v3_35 v4_35) FU) fun J139 =>
J139 0 0 M_133) fun J133 =>
if w32 4 ≤ w32 v5_35 then
J133 M_35
else
if ¬ w32 (M_35.1 36) = 0 then
J133 M_35
else
if inR ((4 * a1) + v5_35) (mLen 6) then
bnd (fun (t0_72 : Int) (M_72 : Md) =>
bnd (orI v3_35 t0_72) fun (x3_73 : Int) =>
bnd (fun (t0_125 : Int) (M_125 : Md) =>
L35 x3_73 t0_125 (v5_35 + 1) M_125) fun J125 =>
bnd (fun  (M_124 : Md) =>
J125 0 M_124) fun J124 =>
if w32 v4_35 = 0 then
J124 M_72
else
if inR ((4 * a2) + v5_35) (mLen 6) then
if ¬ w32 (M_72.2 6 (ix ((4 * a2) + v5_35))) = w32 (-1) then
J124 M_72
else
cal (fX12_mayAt ((4 * a1) + v5_35) M_72) fun r20 M19 =>
if w32 r20 = 0 then
J124 M19
else
cal (fX12_mayAt ((4 * a2) + v5_35) M19) fun r22 M21 =>
if w32 r22 = 0 then
J124 M21
else
J125 1 M21
else none) fun J72 =>
if ¬ w32 (M_35.2 6 (ix ((4 * a1) + v5_35))) = w32 (-1) then
J72 (shlI 1 v5_35) M_35
else
J72 0 M_35
else none
def mtA (a1 a2 t0_24 : Int) (M_24 : Md) : Option (Int × Md) :=
bnd (mSet M_24 36 t0_24) fun (M3 : Md) =>
bnd (lpn (fun (_ : Int) (_ : Int) (_ : Int) (_ : Md) => (none : Option (Int × Md))) (mtE a1 a2) FU) fun J35 =>
J35 0 1 0 M3
theorem moveTree_def (a1 a2 : Int) (M : Md) : fX12_moveTree a1 a2 M = (cal (fX12_in a1 0 5 M) fun r2 M1 =>
bnd (fun (t0_24 : Int) (M_24 : Md) =>
mtA a1 a2 t0_24 M_24) fun J24 =>
bnd (fun  (M_23 : Md) =>
J24 1 M_23) fun J23 =>
if w32 r2 = 0 then
J23 M1
else
cal (fX12_in a2 0 5 M1) fun r24 M23 =>
if w32 r24 = 0 then
J23 M23
else
J24 0 M23) := rfl
def c2B (a0 : Nat) (r2 r4 x5_98 : Int) (L142 : Int → Cd → Option ((Int ⊕ Nat) × Cd)) (v6_142 : Int) (C_142 : Cd) : Option ((Int ⊕ Nat) × Cd) :=
if isO C_142 a0 14 then bnd (cR C_142 1401 a0) fun (z13 : Option Nat) =>
drf z13 fun (p14 : Nat) =>
if isO C_142 p14 102 then
if w32 (cn C_142 p14 : Int) ≤ w32 v6_142 then
some (.inl r4, C_142)
else
if isO C_142 a0 14 then bnd (cR C_142 1401 a0) fun (z15 : Option Nat) =>
drf z15 fun (p16 : Nat) =>
if isO C_142 p16 102 ∧ inR v6_142 (cn C_142 p16) then bnd (cP C_142 p16 (ix v6_142)) fun (z17 : Option Nat) =>
drf z17 fun (p18 : Nat) =>
if isO C_142 p18 12 then bnd (cR C_142 1203 p18) fun (z19 : Option Nat) =>
bnd (fun  (C_215 : Cd) =>
L142 (v6_142 + 1) C_215) fun J215 =>
opt z19 (
J215 C_142) (fun (p20 : Nat) =>
if isO C_142 p20 6 then bnd (cR C_142 601 p20) fun (z21 : Option Nat) =>
drf z21 fun (p22 : Nat) =>
if isO C_142 p22 13 then bnd (cR C_142 1302 p22) fun (z23 : Option Nat) =>
drf z23 fun (p24 : Nat) =>
if isO C_142 p24 11 then cal (fX8_leadsInto_ p24 r2 C_142) fun (r26 : Int) (C25 : Cd) =>
if w32 r26 = 0 then
J215 C25
else
if isO C25 p20 6 then bnd (cR C25 601 p20) fun (z27 : Option Nat) =>
drf z27 fun (p28 : Nat) =>
if isO C25 p28 13 then bnd (cR C25 1302 p28) fun (z29 : Option Nat) =>
if isO C25 a0 14 then bnd (cR C25 1405 a0) fun (z30 : Option Nat) =>
drf z29 fun (p31 : Nat) =>
if isO C25 p31 11 then cal (fX8_writeLeadingOn p31 r2 x5_98 z30 C25) fun (r33 : Unit) (C32 : Cd) =>
if isO C32 a0 14 then bnd (cR C32 1405 a0) fun (z34 : Option Nat) =>
if isO C32 a0 14 then cal (fX11_addNextVersion a0 v6_142 (some p20) z34 C32) fun (r36 : Int) (C35 : Cd) =>
J215 C35
else none
else none
else none
else none
else none
else none
else none
else none
else none)
else none
else none
else none
else none
else none
def c1B (a0 : Nat) (r2 r4 x5_98 : Int) (L103 : Int → Cd → Option ((Int ⊕ Nat) × Cd)) (v6_103 : Int) (C_103 : Cd) : Option ((Int ⊕ Nat) × Cd) :=
if isO C_103 a0 14 then bnd (cR C_103 1401 a0) fun (z11 : Option Nat) =>
drf z11 fun (p12 : Nat) =>
if isO C_103 p12 102 then
if w32 (cn C_103 p12 : Int) ≤ w32 v6_103 then
bnd (lpn (fun (_ : Int) (_ : Cd) => (none : Option ((Int ⊕ Nat) × Cd))) (c2B a0 r2 r4 x5_98) FU) fun J142 =>
J142 0 C_103
else
cal (fX11_has r2 v6_103 C_103) fun (r38 : Int) (C37 : Cd) =>
bnd (fun  (C_133 : Cd) =>
L103 (v6_103 + 1) C_133) fun J133 =>
if w32 r38 = 0 then
J133 C37
else
if isO C37 a0 14 then calx (fX11_bringOver a0 v6_103 (v6_103 + x5_98) C37) fun (r40 : Unit) (C39 : Cd) =>
J133 C39
else none
else none
else none
def c0K (a0 : Nat) (a1 a2 r2 r4 : Int) (C9 : Cd) : Option ((Int ⊕ Nat) × Cd) :=
bnd ((a2 - a1) * 4) fun (x5_98 : Int) =>
bnd (lpn (fun (_ : Int) (_ : Cd) => (none : Option ((Int ⊕ Nat) × Cd))) (c1B a0 r2 r4 x5_98) FU) fun J103 =>
J103 0 C9
/-! counting -/
theorem cnt_upd {p q : Nat → Bool} {j : Nat} : ∀ n, j < n → (∀ k, k < n → k ≠ j → q k = p k) → cnt q n + (if p j = true then 1 else 0) = cnt p n + (if q j = true then 1 else 0) := by
  intro n
  induction n with
  | zero => intro h; exact absurd h (Nat.not_lt_zero _)
  | succ n ih =>
    intro hj h
    rw [cnt_succ, cnt_succ]
    by_cases c : j = n
    · subst c
      rw [cnt_congr (p := q) (q := p) (n := j) (fun k hk => h k (by omega) (by omega))]
      omega
    · have y := ih (by omega) (fun k hk hne => h k (by omega) hne)
      rw [h n (by omega) (fun z => c z.symm)]
      omega
/-- one that went over -/
theorem cnt_swap {p q : Nat → Bool} {u w N : Nat} (hu : u < N) (hw : w < N) (huw : u ≠ w) (h1 : p w = false) (h2 : q u = false) (h3 : q w = p u) (h : ∀ k, k < N → k ≠ u → k ≠ w → q k = p k) : cnt q N = cnt p N := by
  have a := cnt_upd (p := p) (q := fun k => if k = u then false else p k) (j := u) N hu (fun k _ hne => if_neg hne)
  have b := cnt_upd (p := fun k => if k = u then false else p k) (q := q) (j := w) N hw (fun k hk hne => by
    by_cases c : k = u
    · rw [c, h2]; exact (if_pos rfl).symm
    · rw [h k hk c hne]; exact (if_neg c).symm)
  rw [if_pos rfl] at a
  rw [if_neg (show ¬ w = u from fun z => huw z.symm), h1, h3] at b
  have e : (if false = true then (1 : Nat) else 0) = 0 := rfl
  rw [e] at a b
  omega
def alN (f : Nat → Bool) : Nat → Bool
  | 0 => true
  | n + 1 => alN f n && f n
theorem alN_iff {f : Nat → Bool} : ∀ {n}, alN f n = true ↔ ∀ k, k < n → f k = true := by
  intro n
  induction n with
  | zero => exact ⟨fun _ k h => absurd h (Nat.not_lt_zero k), fun _ => rfl⟩
  | succ n ih =>
    rw [alN, Bool.and_eq_true, ih]
    refine ⟨fun h k hk => ?_, fun h => ⟨fun k hk => h k (by omega), h n (Nat.lt_succ_self n)⟩⟩
    rcases Nat.lt_or_ge k n with z | z
    · exact h.1 k z
    · rw [show k = n by omega]; exact h.2
theorem anyN_congr {f g : Nat → Bool} : ∀ n, (∀ k, k < n → f k = g k) → anyN f n = anyN g n := by
  intro n
  induction n with
  | zero => intro _; rfl
  | succ n ih => intro h; rw [anyN, anyN, ih (fun k hk => h k (by omega)), h n (Nat.lt_succ_self n)]
/-- what a text's kinds say -/
theorem chk_kinds {g f : Nat → Int} {n : Nat} : ∀ m i st, i + m ≤ n → (∀ k, k < n → g k / 1000 = f k / 1000) → chk g n i st m = chk f n i st m := by
  intro m
  induction m with
  | zero => intro i st _ _; rfl
  | succ m ih =>
    intro i st hi h
    unfold chk
    rw [h i (by omega), ih (i + 1) _ (by omega) h]
    rcases Nat.eq_zero_or_pos i with z | z
    · rw [decide_eq_false (by omega), Bool.false_and, Bool.false_and]
    · rw [h (i - 1) (by omega)]
theorem isTx_kinds {g f : Nat → Int} {n : Nat} (h : ∀ k, k < n → g k / 1000 = f k / 1000) : isTx g n = isTx f n := by
  unfold isTx
  rw [chk_kinds n 0 [] (by omega) h]
theorem wlo_kind {G fr to had : Nat} (hfr : fr < 6) (hto : to < 6) (hG : ∀ v, v < 24 → G.testBit v = (decide (v / 4 = fr) && had.testBit (v % 4))) {k : Nat} (h : okt (g k)) : wlo g G (4 * ((to : Int) - (fr : Int))) k / 1000 = g k / 1000 := by
  rw [wlo_liB]
  by_cases c : liB g G k = true
  · rw [if_pos c]
    obtain ⟨c1, c2⟩ := liB_iff.mp c
    unfold ldk at c1
    have c1 := of_decide_eq_true c1
    obtain ⟨a1, a2, a3, a4, a5, a6⟩ := h
    have a3 := a3 c1
    rw [hG _ (by omega), Bool.and_eq_true] at c2
    have c3 := of_decide_eq_true c2.1
    omega
  · rw [if_neg c]
/-- whether the page's text leads into the pages moved -/
def lpF (M : Md) (nv G : Nat) (p : Int) : Bool := anyN (liB (tx M (prs M p nv).toNat) G) (tl M (prs M p nv).toNat)
def leF (M : Md) (nv G t : Nat) : Bool := decide (M.2 6 t ≠ -1) && lpF M nv G (M.2 6 t)
theorem lpF_same {G : Nat} (vs2 : ∀ k, (9 ≤ k ∧ k ≤ 12) → M'.2 k = M.2 k) (p : Int) : lpF M' nv G p = lpF M nv G p := by
  unfold lpF
  have te : TmE M M' nv := fun v hv => ⟨by rw [vs2 11 (by decide)], by rw [vs2 12 (by decide)]⟩
  have et : ∀ v, tx M' v = tx M v := fun v => by funext k; unfold tx; rw [vs2 9 (by decide)]
  have el : ∀ v, tl M' v = tl M v := fun v => by unfold tl; rw [vs2 10 (by decide)]
  rw [prs_e te p nv (Nat.le_refl _), et, el]
end MTD
