/-! THE LAW'S OWN METHODS, as functions: rows of ints and longs by their numbers (0 n, 1 p, 2 i, 3 v, 4 t, 5 w, 6 r, 7 d, 8 c, 9 l, 10 z, 11 isWiki's z, 12 .. 14 those of renders) -/
abbrev Rw : Type := Nat → Nat → Int
abbrev S3 : Type := Rw × Cd × (Nat → Nat)
def wLen (k : Nat) : Nat := [4, 8, 64, 32, 8, 8, 56, 8, 8, 32, 8, 8, 8, 8, 8].getD k 0
def wPut (E : Rw) (k i : Nat) (x : Int) : Rw := fun j => if j = k then (fun q => if q = i then x else E k q) else E j
def zRow (E : Rw) (k : Nat) : Rw := fun j => if j = k then (fun _ => 0) else E j
def setq (q : Nat → Nat) (k a : Nat) : Nat → Nat := fun j => if j = k then a else q j
/-- a row more on the heap -/
def cBumpA (C : Cd) (n : Nat) : Cd := (cI C, cR C, cE C, cP C, cn C, cty C, cL C, csz C + 1, csl C + n)
def w64 (x : Int) : Int := (Int64.ofInt x).toInt
def landI (x y : Int) : Int := (Int64.ofInt x &&& Int64.ofInt y).toInt
def lorI (x y : Int) : Int := (Int64.ofInt x ||| Int64.ofInt y).toInt
def lshlI (x y : Int) : Int := (Int64.ofInt x <<< ((Int32.ofInt y).toInt64 &&& 63)).toInt
def lshrI (x y : Int) : Int := (Int64.ofInt x >>> ((Int32.ofInt y).toInt64 &&& 63)).toInt
def lcmpI (x y : Int) : Int := if w64 y < w64 x then 1 else if w64 x = w64 y then 0 else -1
def cal1 {ρ2 S2 ρ S : Type} (X2 : Option (ρ2 × S2)) (f : ρ2 → S2 → Option (ρ × S)) : Option (ρ × S) := X2.bind (fun q => f q.1 q.2)
def cal3 {ρ2 ρ S : Type} (X2 : Option (ρ2 × S3)) (f : ρ2 → Rw → Cd → (Nat → Nat) → Option (ρ × S)) : Option (ρ × S) := X2.bind (fun q => f q.1 q.2.1 q.2.2.1 q.2.2.2)
/-- a call of which an exception isn't looked for -/
def calt {S2 ρ S : Type} (X2 : Option ((Int ⊕ Nat) × S2)) (f : Int → S2 → Option (ρ × S)) : Option (ρ × S) := X2.bind (fun q => match q.1 with | .inl v => f v q.2 | .inr _ => none)
/-- a call with handlers -/
def calh {S2 ρ S : Type} (X2 : Option ((Int ⊕ Nat) × S2)) (f : Int → S2 → Option (ρ × S)) (g : Nat → S2 → Option (ρ × S)) : Option (ρ × S) := X2.bind (fun q => match q.1 with | .inl v => f v q.2 | .inr e => g e q.2)
def bnd4 {α : Type} (E : Rw) (C : Cd) (q : Nat → Nat) (y : Nat) (f : Rw → Cd → (Nat → Nat) → Nat → α) : α := f E C q y
def doesX (e : Nat) (C : Cd) : Option (Int × Cd) := if e = 2 then some (-11, C) else if e = 0 then some (-12, C) else if e = 1 then some (-13, C) else none
def fW_adds (a3 : Int) (a4 : Int) (a5 : Int) (E : Rw) : Option (Int × Rw) :=
if inR 0 (wLen 0) then
if inR (2 * (E 0 (ix 0))) (wLen 2) then bnd (wPut E 2 (ix (2 * (E 0 (ix 0)))) a3) fun (E1 : Rw) =>
if inR 0 (wLen 0) then
if inR ((2 * (E1 0 (ix 0))) + 1) (wLen 2) then bnd (wPut E1 2 (ix ((2 * (E1 0 (ix 0))) + 1)) a4) fun (E2 : Rw) =>
if inR 0 (wLen 0) then
if inR (E2 0 (ix 0)) (wLen 3) then bnd (wPut E2 3 (ix (E2 0 (ix 0))) a5) fun (E3 : Rw) =>
if inR 0 (wLen 0) then
if inR 0 (wLen 0) then bnd (wPut E3 0 (ix 0) ((E3 0 (ix 0)) + 1)) fun (E4 : Rw) =>
if inR 0 (wLen 0) then
some ((E4 0 (ix 0)) - 1, E4)
else none
else none
else none
else none
else none
else none
else none
else none
else none
def fW_macros (a0 : Int)  : Option (Int × Unit) :=
bnd (lpn (fun (_ : Int) (_ : Int) => (none : Option (Int × Unit))) (fun L4 (v2_4 : Int) (v3_4 : Int) =>
if w32 (lcmpI v3_4 1) ≤ 0 then
some (v2_4, ())
else
bnd (lshrI v3_4 10) fun (x3_17 : Int) =>
L4 (v2_4 + 1) x3_17) FU) fun J4 =>
J4 0 a0
def fW_macro (a0 : Int) (a2 : Int)  : Option (Int × Unit) :=
cal1 (fW_macros a0) fun (r1 : Int) _ =>
some (landI (lshrI a0 (10 * ((r1 - 1) - a2))) 1023, ())
def fW_behind (a0 : Int) (a2 : Int)  : Option (Int × Unit) :=
bnd (lpn (fun (_ : Int) (_ : Int) => (none : Option (Int × Unit))) (fun L6 (v4_6 : Int) (v6_6 : Int) =>
cal1 (fW_macros a2) fun (r1 : Int) _ =>
bnd (
some (v4_6, ())) fun J46 =>
if w32 r1 ≤ w32 v6_6 then
J46
else
cal1 (fW_macros v4_6) fun (r2 : Int) _ =>
if w32 6 ≤ w32 r2 then
J46
else
cal1 (fW_macro a2 v6_6) fun (r3 : Int) _ =>
bnd (lorI (lshlI v4_6 10) (w32 r3)) fun (x4_38 : Int) =>
L6 x4_38 (v6_6 + 1)) FU) fun J6 =>
J6 a0 0
def fW_code (a0 : Int) (a1 : Int)  : Option (Int × Unit) :=
bnd (remI a0 16) fun (x2_4 : Int) =>
bnd (divI a0 16) fun (x3_9 : Int) =>
if ¬ w32 x2_4 = w32 2 then
bnd (
bnd (
bnd (fun (t0_160 : Int) =>
some (t0_160, ())) fun J160 =>
if ¬ w32 a1 = 0 then
if ¬ w32 a1 = w32 1 then
if ¬ w32 a1 = w32 2 then
J160 (-1)
else
J160 7000
else
J160 x3_9
else
J160 (1000 * x2_4)) fun J127 =>
if w32 x2_4 = w32 8 then
J127
else
if ¬ w32 x2_4 = w32 9 then
bnd (fun (t0_219 : Int) =>
some (t0_219, ())) fun J219 =>
if w32 a1 ≤ 0 then
if ¬ w32 x2_4 = 0 then
if ¬ w32 x2_4 = w32 1 then
if ¬ w32 x2_4 = w32 3 then
if ¬ w32 x2_4 = w32 4 then
J219 (12000 + x3_9)
else
J219 13000
else
J219 (11000 + x3_9)
else
J219 (1000 + x3_9)
else
J219 x3_9
else
J219 (-1)
else
J127) fun J115 =>
if w32 x2_4 ≤ w32 4 then
J115
else
if w32 8 ≤ w32 x2_4 then
J115
else
bnd (fun (t0_114 : Int) =>
some (t0_114, ())) fun J114 =>
if ¬ w32 a1 = 0 then
if ¬ w32 a1 = w32 1 then
if ¬ w32 a1 = w32 2 then
if ¬ w32 a1 = w32 3 then
J114 (-1)
else
J114 7000
else
J114 x3_9
else
J114 5000
else
bnd (fun (t0_78 : Int) =>
J114 (4000 + t0_78)) fun J78 =>
if ¬ w32 x2_4 = w32 5 then
if ¬ w32 x2_4 = w32 6 then
J78 3
else
J78 5
else
J78 4
else
bnd (fun (t0_39 : Int) =>
some (t0_39, ())) fun J39 =>
if ¬ w32 a1 = 0 then
if ¬ w32 a1 = w32 1 then
J39 (-1)
else
J39 7000
else
J39 (2000 + x3_9)
def fW_comes (kz : Nat) (a1 : Int) (a3 : Int) (E : Rw) : Option (Int × Rw) :=
if inR 4 (wLen kz) then
if inR 4 (wLen kz) then bnd (wPut E kz (ix 4) ((E kz (ix 4)) + 1)) fun (E1 : Rw) =>
if inR 4 (wLen kz) then
if inR 6 (wLen kz) then
bnd (fun (t0_30 : Int) (E_30 : Rw) =>
if inR 7 (wLen kz) then bnd (wPut E_30 kz (ix 7) t0_30) fun (E2 : Rw) =>
if inR 4 (wLen kz) then
bnd (fun (t0_56 : Int) (E_56 : Rw) =>
some (t0_56, E_56)) fun J56 =>
if w32 (E2 kz (ix 4)) ≤ w32 150 then
J56 (((a1 * 1000003) + (w32 a3)) + 17) E2
else
J56 a1 E2
else none
else none) fun J30 =>
if ¬ w32 (E1 kz (ix 4)) = w32 ((E1 kz (ix 6)) + 1) then
if inR 7 (wLen kz) then
J30 (E1 kz (ix 7)) E1
else none
else
J30 a3 E1
else none
else none
else none
else none
def fW_does (a0 : Nat) (a1 : Int) (a2 : Int) (a3 : Int) (a4 : Int) (C : Cd) : Option (Int × Cd) :=
bnd (fun (t0_190 : Int) (C_190 : Cd) =>
some (t0_190, C_190)) fun J190 =>
if ¬ w32 a1 = 0 then
if ¬ w32 a1 = w32 1 then
if ¬ w32 a1 = w32 2 then
if ¬ w32 a1 = w32 3 then
if ¬ w32 a1 = w32 4 then
if ¬ w32 a1 = w32 5 then
if ¬ w32 a1 = w32 6 then
if ¬ w32 a1 = w32 7 then
if ¬ w32 a1 = w32 8 then
if ¬ w32 a1 = w32 9 then
if ¬ w32 a1 = w32 10 then
if ¬ w32 a1 = w32 11 then
if isO C a0 14 then calh (fX11_versionAt a0 a2 a3 C) (fun (r1 : Int) (C2 : Cd) =>
J190 r1 C2
) doesX else none
else
if isO C a0 14 then calh (fX11_tokenAt a0 a2 a3 C) (fun (r3 : Int) (C4 : Cd) =>
J190 r3 C4
) doesX else none
else
if isO C a0 14 then calh (fX11_shownAnew a0 a2 a3 C) (fun (r5 : Int) (C6 : Cd) =>
J190 r5 C6
) doesX else none
else
if isO C a0 14 then calh (fX11_shown a0 a2 a3 C) (fun (r7 : Int) (C8 : Cd) =>
J190 r7 C8
) doesX else none
else
if isO C a0 14 then calh (fX11_translate a0 a2 a3 a4 C) (fun (r9 : Int) (C10 : Cd) =>
J190 r9 C10
) doesX else none
else
bnd (fun (t0_116 : Int) (C_116 : Cd) =>
if isO C_116 a0 14 then calh (fX11_read a0 a2 t0_116 C_116) (fun (r11 : Int) (C12 : Cd) =>
J190 r11 C12
) doesX else none) fun J116 =>
if ¬ w32 a3 = w32 1 then
J116 0 C
else
J116 1 C
else
if isO C a0 14 then calh (fX11_approve a0 a2 C) (fun (r13 : Int) (C14 : Cd) =>
J190 r13 C14
) doesX else none
else
if isO C a0 14 then calh (fX11_moveTree a0 a2 a3 C) (fun (r15 : Int) (C16 : Cd) =>
J190 r15 C16
) doesX else none
else
if isO C a0 14 then calh (fX11_move a0 a2 a3 C) (fun (r17 : Int) (C18 : Cd) =>
J190 r17 C18
) doesX else none
else
if isO C a0 14 then calh (fX11_bringIn a0 a2 a3 C) (fun (r19 : Int) (C20 : Cd) =>
J190 r19 C20
) doesX else none
else
if isO C a0 14 then calh (fX11_undo a0 a2 a3 C) (fun (r21 : Int) (C22 : Cd) =>
J190 r21 C22
) doesX else none
else
if isO C a0 14 then calh (fX11_edit a0 a2 a3 a4 C) (fun (r23 : Int) (C24 : Cd) =>
J190 r23 C24
) doesX else none
else
if isO C a0 14 then calh (fX11_create a0 a2 C) (fun (r25 : Int) (C26 : Cd) =>
J190 r25 C26
) doesX else none
def fW_digest (a0 : Nat) (a1 : Int) (a2 : Int) (C : Cd) : Option (Int × Cd) :=
cal1 (fW_does a0 a1 a2 0 0 C) fun (r1 : Int) (C2 : Cd) =>
bnd (lpn (fun (_ : Int) (_ : Int) (_ : Int) (_ : Cd) => (none : Option (Int × Cd))) (fun L15 (v3_15 : Int) (v5_15 : Int) (v6_15 : Int) (C_15 : Cd) =>
if w32 v5_15 < 0 then
some (v3_15, C_15)
else
bnd (((v3_15 * 1000003) + (w32 v5_15)) + 17) fun (x3_33 : Int) =>
cal1 (fW_does a0 a1 a2 v6_15 0 C_15) fun (r3 : Int) (C4 : Cd) =>
L15 x3_33 r3 (v6_15 + 1) C4) FU) fun J15 =>
J15 1 r1 1 C2
def fW_drafts_96 (L31 : Int → Int → Int → Cd → Option (Int × Cd)) (v3_31 : Int) (v6_31 : Int) (t0_96 : Int) (C_96 : Cd) : Option (Int × Cd) :=
L31 (v3_31 + 1) t0_96 (v6_31 + 1) C_96
def fW_drafts_95 (J96 : Int → Cd → Option (Int × Cd)) (C_95 : Cd) : Option (Int × Cd) :=
J96 0 C_95
def fW_drafts_31 (a0 : Nat) (a1 : Int) (L19 : Int → Int → Int → Cd → Option (Int × Cd)) (v5_19 : Int) (L31 : Int → Int → Int → Cd → Option (Int × Cd)) (v3_31 : Int) (v4_31 : Int) (v6_31 : Int) (C_31 : Cd) : Option (Int × Cd) :=
cal1 (fW_macro a1 v5_19) fun (r4 : Int) _ =>
cal1 (fW_code r4 v6_31) fun (r5 : Int) _ =>
if w32 r5 < 0 then
L19 v3_31 v4_31 (v5_19 + 1) C_31
else
bnd (fun (t0_96 : Int) (C_96 : Cd) =>
fW_drafts_96 L31 v3_31 v6_31 t0_96 C_96) fun J96 =>
bnd (fun (C_95 : Cd) =>
fW_drafts_95 J96 C_95) fun J95 =>
if w32 v4_31 = 0 then
J95 C_31
else
cal1 (fW_macro a1 v5_19) fun (r6 : Int) _ =>
cal1 (fW_code r6 v6_31) fun (r7 : Int) _ =>
cal1 (fW_macro a1 v5_19) fun (r8 : Int) _ =>
cal1 (fW_code r8 v6_31) fun (r9 : Int) _ =>
if isO C_31 a0 14 then calt (fX11_token a0 (divI r7 1000) (remI r9 1000) C_31) fun (r10 : Int) (C11 : Cd) =>
if ¬ w32 r10 = w32 (v3_31 + 1) then
J95 C11
else
J96 1 C11
else none
def fW_drafts_19 (a0 : Nat) (a1 : Int) (L19 : Int → Int → Int → Cd → Option (Int × Cd)) (v3_19 : Int) (v4_19 : Int) (v5_19 : Int) (C_19 : Cd) : Option (Int × Cd) :=
cal1 (fW_macros a1) fun (r3 : Int) _ =>
if w32 r3 ≤ w32 v5_19 then
retZ v4_19 C_19
else
bnd (lpn (fun (_ : Int) (_ : Int) (_ : Int) (_ : Cd) => (none : Option (Int × Cd))) (fun L31 (v3_31 : Int) (v4_31 : Int) (v6_31 : Int) (C_31 : Cd) =>
fW_drafts_31 a0 a1 L19 v5_19 L31 v3_31 v4_31 v6_31 C_31) FU) fun J31 =>
J31 v3_19 v4_19 0 C_19
def fW_drafts_14 (a0 : Nat) (a1 : Int) (t0_14 : Int) (C_14 : Cd) : Option (Int × Cd) :=
bnd (lpn (fun (_ : Int) (_ : Int) (_ : Int) (_ : Cd) => (none : Option (Int × Cd))) (fun L19 (v3_19 : Int) (v4_19 : Int) (v5_19 : Int) (C_19 : Cd) =>
fW_drafts_19 a0 a1 L19 v3_19 v4_19 v5_19 C_19) FU) fun J19 =>
J19 0 t0_14 0 C_14
def fW_drafts (a0 : Nat) (a1 : Int) (C : Cd) : Option (Int × Cd) :=
if isO C a0 14 then cal1 (fX11_wipe a0 C) fun (r1 : Int) (C2 : Cd) =>
bnd (fun (t0_14 : Int) (C_14 : Cd) =>
fW_drafts_14 a0 a1 t0_14 C_14) fun J14 =>
if w32 r1 < 0 then
J14 0 C2
else
J14 1 C2
else none
def fW_drawn_130 (L37 : Int → Int → Option (Int × Unit)) (v2_37 : Int) (v4_37 : Int) (t0_85 : Int) (t0_130 : Int) : Option (Int × Unit) :=
bnd (lorI (lshlI v2_37 10) (w32 (t0_85 + (16 * t0_130)))) fun (x2_134 : Int) =>
L37 x2_134 (v4_37 + 1)
def fW_drawn_129 (x5_53 : Int) (J130 : Int → Option (Int × Unit)) (t0_129 : Int) : Option (Int × Unit) :=
if w32 t0_129 = 0 then none else
J130 (remI (divI x5_53 13) t0_129)
def fW_drawn_122 (J129 : Int → Option (Int × Unit))  : Option (Int × Unit) :=
J129 60
def fW_drawn_85 (L37 : Int → Int → Option (Int × Unit)) (v2_37 : Int) (v4_37 : Int) (x5_53 : Int) (t0_85 : Int) : Option (Int × Unit) :=
bnd (fun (t0_130 : Int) =>
fW_drawn_130 L37 v2_37 v4_37 t0_85 t0_130) fun J130 =>
if ¬ w32 t0_85 = w32 4 then
bnd (fun (t0_129 : Int) =>
fW_drawn_129 x5_53 J130 t0_129) fun J129 =>
bnd (
fW_drawn_122 J129) fun J122 =>
if w32 t0_85 = 0 then
J122
else
if w32 t0_85 ≤ w32 7 then
J129 8
else
J122
else
J130 0
def fW_drawn_37 (a0 : Int) (x1_5 : Int) (L37 : Int → Int → Option (Int × Unit)) (v2_37 : Int) (v4_37 : Int) : Option (Int × Unit) :=
if w32 x1_5 ≤ w32 v4_37 then
some (v2_37, ())
else
if w32 (7 + (13 * v4_37)) = 0 then none else
bnd (divI a0 (7 + (13 * v4_37))) fun (x5_53 : Int) =>
bnd (fun (t0_85 : Int) =>
fW_drawn_85 L37 v2_37 v4_37 x5_53 t0_85) fun J85 =>
if w32 10 ≤ w32 (remI x5_53 13) then
if ¬ w32 (remI x5_53 2) = 0 then
J85 0
else
J85 2
else
J85 (remI x5_53 13)
def fW_drawn (a0 : Int)  : Option (Int × Unit) :=
bnd (1 + (remI a0 5)) fun (x1_5 : Int) =>
if ¬ w32 (remI a0 11) = 0 then
bnd (lpn (fun (_ : Int) (_ : Int) => (none : Option (Int × Unit))) (fun L37 (v2_37 : Int) (v4_37 : Int) =>
fW_drawn_37 a0 x1_5 L37 v2_37 v4_37) FU) fun J37 =>
J37 1 0
else
some (lorI 1024 (w32 (10 + (16 * (remI (divI a0 11) 8)))), ())
def fW_members (a1 : Int) (E : Rw) : Option (Int × Rw) :=
bnd (lpn (fun (_ : Int) (_ : Int) (_ : Rw) => (none : Option (Int × Rw))) (fun L4 (v2_4 : Int) (v3_4 : Int) (E_4 : Rw) =>
if w32 8 ≤ w32 v3_4 then
some (v2_4, E_4)
else
if inR (7 * v3_4) (wLen 6) then
bnd (fun (t0_36 : Int) (E_36 : Rw) =>
bnd (orI v2_4 (shlI t0_36 v3_4)) fun (x2_39 : Int) =>
L4 x2_39 (v3_4 + 1) E_36) fun J36 =>
if w32 (E_4 6 (ix (7 * v3_4))) ≤ 0 then
J36 0 E_4
else
if inR ((7 * v3_4) + 4) (wLen 6) then
J36 (andI (shrI (E_4 6 (ix ((7 * v3_4) + 4))) a1) 1) E_4
else none
else none) FU) fun J4 =>
J4 0 0 E
def fW_many (a0 : Int)  : Option (Int × Unit) :=
bnd (lpn (fun (_ : Int) (_ : Int) => (none : Option (Int × Unit))) (fun L4 (v1_4 : Int) (v2_4 : Int) =>
if w32 v2_4 ≤ 0 then
some (v1_4, ())
else
bnd (v1_4 + (andI v2_4 1)) fun (x1_13 : Int) =>
bnd (shrI v2_4 1) fun (x2_17 : Int) =>
L4 x1_13 x2_17) FU) fun J4 =>
J4 0 a0
def fW_present (a3 : Int) (E : Rw) : Option (Int × Rw) :=
bnd (lpn (fun (_ : Int) (_ : Int) (_ : Rw) => (none : Option (Int × Rw))) (fun L6 (v4_6 : Int) (v5_6 : Int) (E_6 : Rw) =>
if inR 0 (wLen 0) then
bnd (fun (E_94 : Rw) =>
some (v4_6, E_94)) fun J94 =>
if w32 (E_6 0 (ix 0)) ≤ w32 v5_6 then
J94 E_6
else
if w32 8 ≤ w32 a3 then
J94 E_6
else
if inR (remI a3 8) (wLen 1) then
if w32 (E_6 1 (ix (remI a3 8))) ≤ 0 then
J94 E_6
else
if inR (2 * v5_6) (wLen 2) then
if inR a3 (wLen 1) then
bnd (fun (t0_48 : Int) (E_48 : Rw) =>
bnd (fun (t0_86 : Int) (E_86 : Rw) =>
L6 t0_86 (v5_6 + 1) E_86) fun J86 =>
bnd (fun (E_84 : Rw) =>
J86 v4_6 E_84) fun J84 =>
if w32 t0_48 = 0 then
J84 E_48
else
bnd (fun (E_79 : Rw) =>
J86 v5_6 E_79) fun J79 =>
if w32 v4_6 < 0 then
J79 E_48
else
if inR ((2 * v5_6) + 1) (wLen 2) then
if inR ((2 * v4_6) + 1) (wLen 2) then
if w32 (E_48 2 (ix ((2 * v5_6) + 1))) < w32 (E_48 2 (ix ((2 * v4_6) + 1))) then
J84 E_48
else
J79 E_48
else none
else none) fun J48 =>
if ¬ w32 (E_6 2 (ix (2 * v5_6))) = w32 ((E_6 1 (ix a3)) - 1) then
J48 0 E_6
else
J48 1 E_6
else none
else none
else none
else none) FU) fun J6 =>
J6 (-1) 0 E
def fW_gives_259  (v10_259 : Int) (E_259 : Rw) : Option (Int × Rw) :=
some (v10_259, E_259)
def fW_gives_33 (kz : Nat) (a5 : Int) (a8 : Int) (J259 : Int → Rw → Option (Int × Rw)) (E_33 : Rw) : Option (Int × Rw) :=
cal1 (fW_comes kz a5 a8 E_33) fun (r1 : Int) (E2 : Rw) =>
J259 r1 E2
def fW_gives_60 (kz : Nat) (a5 : Int) (a8 : Int) (J259 : Int → Rw → Option (Int × Rw)) (E_60 : Rw) : Option (Int × Rw) :=
if inR 0 (wLen kz) then
if inR 0 (wLen kz) then bnd (wPut E_60 kz (ix 0) (orI (E_60 kz (ix 0)) (shlI 1 a8))) fun (E3 : Rw) =>
cal1 (fW_comes kz a5 (1000 + a8) E3) fun (r4 : Int) (E5 : Rw) =>
J259 r4 E5
else none
else none
def fW_gives_207 (L163 : Int → Int → Rw → Option (Int × Rw)) (v13_163 : Int) (v10_207 : Int) (E_207 : Rw) : Option (Int × Rw) :=
L163 v10_207 (v13_163 + 1) E_207
def fW_gives_163 (kz : Nat) (J259 : Int → Rw → Option (Int × Rw)) (r7 : Int) (L163 : Int → Int → Rw → Option (Int × Rw)) (v10_163 : Int) (v13_163 : Int) (E_163 : Rw) : Option (Int × Rw) :=
if w32 8 ≤ w32 v13_163 then
J259 v10_163 E_163
else
bnd (fun (v10_207 : Int) (E_207 : Rw) =>
fW_gives_207 L163 v13_163 v10_207 E_207) fun J207 =>
if ¬ w32 (andI (shrI r7 v13_163) 1) = w32 1 then
J207 v10_163 E_163
else
if inR 0 (wLen kz) then
if inR 0 (wLen kz) then bnd (wPut E_163 kz (ix 0) (orI (E_163 kz (ix 0)) (shlI 1 v13_163))) fun (E9 : Rw) =>
cal1 (fW_comes kz v10_163 (1000 + v13_163) E9) fun (r10 : Int) (E11 : Rw) =>
J207 r10 E11
else none
else none
def fW_gives_122 (kz : Nat) (a5 : Int) (a7 : Int) (a8 : Int) (J259 : Int → Rw → Option (Int × Rw)) (E_122 : Rw) : Option (Int × Rw) :=
if inR 3 (wLen kz) then
if inR 3 (wLen kz) then bnd (wPut E_122 kz (ix 3) (orI (E_122 kz (ix 3)) (shlI 1 a8))) fun (E6 : Rw) =>
cal1 (fW_members a8 E6) fun (r7 : Int) (E8 : Rw) =>
if ¬ w32 a7 = w32 5 then
bnd (lpn (fun (_ : Int) (_ : Int) (_ : Rw) => (none : Option (Int × Rw))) (fun L163 (v10_163 : Int) (v13_163 : Int) (E_163 : Rw) =>
fW_gives_163 kz J259 r7 L163 v10_163 v13_163 E_163) FU) fun J163 =>
J163 a5 0 E8
else
cal1 (fW_many r7) fun (r12 : Int) _ =>
cal1 (fW_comes kz a5 r12 E8) fun (r13 : Int) (E14 : Rw) =>
some (r13, E14)
else none
else none
def fW_gives_254 (kz : Nat) (a5 : Int) (J259 : Int → Rw → Option (Int × Rw)) (t0_254 : Int) (E_254 : Rw) : Option (Int × Rw) :=
cal1 (fW_comes kz a5 t0_254 E_254) fun (r18 : Int) (E19 : Rw) =>
J259 r18 E19
def fW_gives_47 (kz : Nat) (a5 : Int) (a7 : Int) (a8 : Int) (J259 : Int → Rw → Option (Int × Rw)) (E_47 : Rw) : Option (Int × Rw) :=
bnd (fun (E_60 : Rw) =>
fW_gives_60 kz a5 a8 J259 E_60) fun J60 =>
if w32 a7 = w32 1 then
J60 E_47
else
if ¬ w32 a7 = w32 10 then
if ¬ w32 a7 = w32 3 then
bnd (fun (E_122 : Rw) =>
fW_gives_122 kz a5 a7 a8 J259 E_122) fun J122 =>
if w32 a7 = w32 5 then
J122 E_47
else
if ¬ w32 a7 = w32 6 then
if ¬ w32 a7 = w32 7 then
J259 a5 E_47
else
if inR 1 (wLen kz) then
if inR 1 (wLen kz) then bnd (wPut E_47 kz (ix 1) (orI (E_47 kz (ix 1)) (shlI 1 a8))) fun (E15 : Rw) =>
cal1 (fW_present a8 E15) fun (r16 : Int) (E17 : Rw) =>
bnd (fun (t0_254 : Int) (E_254 : Rw) =>
fW_gives_254 kz a5 J259 t0_254 E_254) fun J254 =>
if 0 ≤ w32 r16 then
J254 1 E17
else
J254 0 E17
else none
else none
else
J122 E_47
else
if inR 2 (wLen kz) then
if inR 2 (wLen kz) then bnd (wPut E_47 kz (ix 2) (orI (E_47 kz (ix 2)) (shlI 1 a8))) fun (E20 : Rw) =>
J259 a5 E20
else none
else none
else
J60 E_47
def fW_gives_21 (kz : Nat) (a5 : Int) (a7 : Int) (a8 : Int) (a9 : Int) (J259 : Int → Rw → Option (Int × Rw)) (J33 : Rw → Option (Int × Rw)) (E_21 : Rw) : Option (Int × Rw) :=
bnd (fun (E_47 : Rw) =>
fW_gives_47 kz a5 a7 a8 J259 E_47) fun J47 =>
if ¬ w32 a7 = w32 9 then
J47 E_21
else
if ¬ w32 a9 = 0 then
J47 E_21
else
J33 E_21
def fW_gives (kz : Nat) (a5 : Int) (a7 : Int) (a8 : Int) (a9 : Int) (E : Rw) : Option (Int × Rw) :=
bnd (fun (v10_259 : Int) (E_259 : Rw) =>
fW_gives_259 v10_259 E_259) fun J259 =>
bnd (fun (E_33 : Rw) =>
fW_gives_33 kz a5 a8 J259 E_33) fun J33 =>
if w32 a7 = 0 then
J33 E
else
bnd (fun (E_21 : Rw) =>
fW_gives_21 kz a5 a7 a8 a9 J259 J33 E_21) fun J21 =>
if ¬ w32 a7 = w32 8 then
J21 E
else
if 0 < w32 a9 then
J33 E
else
J21 E
def fW_way (kz : Nat) (a5 : Int) (E : Rw) : Option (Int × Rw) :=
bnd (lpn (fun (_ : Int) (_ : Int) (_ : Rw) => (none : Option (Int × Rw))) (fun L7 (v6_7 : Int) (v7_7 : Int) (E_7 : Rw) =>
if w32 5 ≤ w32 v7_7 then
some ((-1), E_7)
else
if inR 1 (wLen kz) then
if inR 1 (wLen kz) then bnd (wPut E_7 kz (ix 1) (orI (E_7 kz (ix 1)) (shlI 1 v6_7))) fun (E1 : Rw) =>
cal1 (fW_present v6_7 E1) fun (r2 : Int) (E3 : Rw) =>
bnd (fun (E_55 : Rw) =>
bnd (fun (t0_66 : Int) (E_66 : Rw) =>
some (t0_66, E_66)) fun J66 =>
if 0 ≤ w32 r2 then
J66 v6_7 E_55
else
J66 (-1) E_55) fun J55 =>
if w32 r2 < 0 then
J55 E3
else
if inR r2 (wLen 3) then
cal1 (fW_macro (E3 3 (ix r2)) 0) fun (r4 : Int) _ =>
if w32 (remI r4 16) = w32 10 then
if inR r2 (wLen 3) then
cal1 (fW_macro (E3 3 (ix r2)) 0) fun (r5 : Int) _ =>
bnd (divI r5 16) fun (x6_78 : Int) =>
L7 x6_78 (v7_7 + 1) E3
else none
else
J55 E3
else none
else none
else none) FU) fun J7 =>
J7 a5 0 E
def fW_renders_385 (kz : Nat) (v10_70 : Int) (t0_385 : Int) (E_385 : Rw) : Option (Int × Rw) :=
if inR 4 (wLen kz) then bnd (wPut E_385 kz (ix 4) t0_385) fun (E6 : Rw) =>
some (v10_70, E6)
else none
def fW_renders_359 (L70 : Int → Int → Rw → Option (Int × Rw)) (v10_359 : Int) (v12_359 : Int) (E_359 : Rw) : Option (Int × Rw) :=
L70 v10_359 v12_359 E_359
def fW_renders_322 (kz : Nat) (v10_70 : Int) (v12_70 : Int) (J359 : Int → Int → Rw → Option (Int × Rw)) (t0_322 : Int) (E_322 : Rw) : Option (Int × Rw) :=
cal1 (fW_comes kz v10_70 t0_322 E_322) fun (r13 : Int) (E14 : Rw) =>
J359 r13 v12_70 E14
def fW_renders_304 (kz : Nat) (v10_70 : Int) (v12_70 : Int) (J359 : Int → Int → Rw → Option (Int × Rw)) (v15_217 : Int) (E_304 : Rw) : Option (Int × Rw) :=
bnd (fun (t0_322 : Int) (E_322 : Rw) =>
fW_renders_322 kz v10_70 v12_70 J359 t0_322 E_322) fun J322 =>
if w32 v15_217 = 0 then
J322 9002 E_304
else
J322 9001 E_304
def fW_renders_244 (L217 : Int → Int → Rw → Option (Int × Rw)) (v16_217 : Int) (t0_244 : Int) (E_244 : Rw) : Option (Int × Rw) :=
L217 t0_244 (v16_217 + 1) E_244
def fW_renders_239 (J244 : Int → Rw → Option (Int × Rw)) (E_239 : Rw) : Option (Int × Rw) :=
J244 1 E_239
def fW_renders_217 (kz : Nat) (v10_70 : Int) (v12_70 : Int) (r8 : Int) (J359 : Int → Int → Rw → Option (Int × Rw)) (r11 : Int) (L217 : Int → Int → Rw → Option (Int × Rw)) (v15_217 : Int) (v16_217 : Int) (E_217 : Rw) : Option (Int × Rw) :=
if w32 v12_70 < w32 v16_217 then
if 0 ≤ w32 r11 then
bnd (fun (E_304 : Rw) =>
fW_renders_304 kz v10_70 v12_70 J359 v15_217 E_304) fun J304 =>
if ¬ w32 v15_217 = 0 then
J304 E_217
else
if ¬ w32 v12_70 = w32 6 then
cal1 (fW_present r11 E_217) fun (r15 : Int) (E16 : Rw) =>
if inR (v12_70 + 1) (wLen 12) then bnd (wPut E16 12 (ix (v12_70 + 1)) r15) fun (E17 : Rw) =>
if inR (v12_70 + 1) (wLen 13) then bnd (wPut E17 13 (ix (v12_70 + 1)) 0) fun (E18 : Rw) =>
if inR (v12_70 + 1) (wLen 14) then bnd (wPut E18 14 (ix (v12_70 + 1)) r11) fun (E19 : Rw) =>
J359 v10_70 (v12_70 + 1) E19
else none
else none
else none
else
J304 E_217
else
if inR 0 (wLen kz) then
if inR 0 (wLen kz) then bnd (wPut E_217 kz (ix 0) (orI (E_217 kz (ix 0)) (shlI 1 (divI r8 16)))) fun (E20 : Rw) =>
cal1 (fW_comes kz v10_70 (2000 + (divI r8 16)) E20) fun (r21 : Int) (E22 : Rw) =>
J359 r21 v12_70 E22
else none
else none
else
bnd (fun (t0_244 : Int) (E_244 : Rw) =>
fW_renders_244 L217 v16_217 t0_244 E_244) fun J244 =>
bnd (fun (E_239 : Rw) =>
fW_renders_239 J244 E_239) fun J239 =>
if ¬ w32 v15_217 = 0 then
J239 E_217
else
if inR v16_217 (wLen 14) then
if ¬ w32 (E_217 14 (ix v16_217)) = w32 r11 then
J244 0 E_217
else
J239 E_217
else none
def fW_renders_70 (kz : Nat) (L70 : Int → Int → Rw → Option (Int × Rw)) (v10_70 : Int) (v12_70 : Int) (E_70 : Rw) : Option (Int × Rw) :=
if w32 v12_70 < 0 then
if inR 4 (wLen kz) then
bnd (fun (t0_385 : Int) (E_385 : Rw) =>
fW_renders_385 kz v10_70 t0_385 E_385) fun J385 =>
if w32 (E_70 kz (ix 4)) ≤ w32 150 then
if inR 4 (wLen kz) then
J385 (E_70 kz (ix 4)) E_70
else none
else
J385 150 E_70
else none
else
if inR v12_70 (wLen 13) then
if inR v12_70 (wLen 12) then
if inR (E_70 12 (ix v12_70)) (wLen 3) then
cal1 (fW_macros (E_70 3 (ix (E_70 12 (ix v12_70))))) fun (r7 : Int) _ =>
if ¬ w32 (E_70 13 (ix v12_70)) = w32 r7 then
if inR v12_70 (wLen 12) then
if inR (E_70 12 (ix v12_70)) (wLen 3) then
if inR v12_70 (wLen 13) then
cal1 (fW_macro (E_70 3 (ix (E_70 12 (ix v12_70)))) (E_70 13 (ix v12_70))) fun (r8 : Int) _ =>
if inR v12_70 (wLen 13) then
if inR v12_70 (wLen 13) then bnd (wPut E_70 13 (ix v12_70) ((E_70 13 (ix v12_70)) + 1)) fun (E9 : Rw) =>
bnd (fun (v10_359 : Int) (v12_359 : Int) (E_359 : Rw) =>
fW_renders_359 L70 v10_359 v12_359 E_359) fun J359 =>
if w32 (remI r8 16) = w32 2 then
if inR 5 (wLen kz) then
if ¬ w32 (E9 kz (ix 5)) = w32 40 then
if inR 5 (wLen kz) then
if inR 5 (wLen kz) then bnd (wPut E9 kz (ix 5) ((E9 kz (ix 5)) + 1)) fun (E10 : Rw) =>
cal1 (fW_way kz (divI r8 16) E10) fun (r11 : Int) (E12 : Rw) =>
bnd (lpn (fun (_ : Int) (_ : Int) (_ : Rw) => (none : Option (Int × Rw))) (fun L217 (v15_217 : Int) (v16_217 : Int) (E_217 : Rw) =>
fW_renders_217 kz v10_70 v12_70 r8 J359 r11 L217 v15_217 v16_217 E_217) FU) fun J217 =>
J217 0 0 E12
else none
else none
else
cal1 (fW_comes kz v10_70 9003 E9) fun (r23 : Int) (E24 : Rw) =>
J359 r23 v12_70 E24
else none
else
cal1 (fW_gives kz v10_70 (remI r8 16) (divI r8 16) v12_70 E9) fun (r25 : Int) (E26 : Rw) =>
J359 r25 v12_70 E26
else none
else none
else none
else none
else none
else
L70 v10_70 (v12_70 + (-1)) E_70
else none
else none
else none
def fW_renders_21 (kz : Nat) (a6 : Int) (L21 : Int → Rw → Option (Int × Rw)) (v10_21 : Int) (E_21 : Rw) : Option (Int × Rw) :=
if w32 6 ≤ w32 v10_21 then
if inR 7 (wLen kz) then bnd (wPut E_21 kz (ix 7) (-1)) fun (E1 : Rw) =>
cal1 (fW_present a6 E1) fun (r2 : Int) (E3 : Rw) =>
if inR 0 (wLen 12) then bnd (wPut E3 12 (ix 0) r2) fun (E4 : Rw) =>
if inR 0 (wLen 14) then bnd (wPut E4 14 (ix 0) a6) fun (E5 : Rw) =>
bnd (lpn (fun (_ : Int) (_ : Int) (_ : Rw) => (none : Option (Int × Rw))) (fun L70 (v10_70 : Int) (v12_70 : Int) (E_70 : Rw) =>
fW_renders_70 kz L70 v10_70 v12_70 E_70) FU) fun J70 =>
J70 1 0 E5
else none
else none
else none
else
if inR v10_21 (wLen kz) then bnd (wPut E_21 kz (ix v10_21) 0) fun (E27 : Rw) =>
L21 (v10_21 + 1) E27
else none
def fW_renders (kz : Nat) (a6 : Int) (E : Rw) : Option (Int × Rw) :=
bnd (lpn (fun (_ : Int) (_ : Rw) => (none : Option (Int × Rw))) (fun L21 (v10_21 : Int) (E_21 : Rw) =>
fW_renders_21 kz a6 L21 v10_21 E_21) FU) fun J21 =>
J21 0 E
/-- with the three rows that it makes -/
def fW_renders3 (kz : Nat) (a6 : Int) (E : Rw) (C : Cd) (q : Nat → Nat) : Option (Int × S3) := if csz C = 0 then none else (fW_renders kz a6 (zRow (zRow (zRow E 12) 13) 14)).map (fun r => (r.1, (r.2, cBumpA (cBumpA (cBumpA C 8) 8) 8, setq (setq (setq q 12 (csz C)) 13 (csz C + 1)) 14 (csz C + 2))))
def fW_isAnew_115  (t0_115 : Int) (E_115 : Rw) (C_115 : Cd) (q_115 : (Nat → Nat)) : Option (Int × S3) :=
retZ t0_115 (E_115, C_115, q_115)
def fW_isAnew_114 (J115 : Int → Rw → Cd → (Nat → Nat) → Option (Int × S3)) (E_114 : Rw) (C_114 : Cd) (q_114 : (Nat → Nat)) : Option (Int × S3) :=
J115 0 E_114 C_114 q_114
def fW_isAnew_81 (a0 : Nat) (a6 : Nat) (a7 : Int) (t0_81 : Int) (E_81 : Rw) (C_81 : Cd) (q_81 : (Nat → Nat)) : Option (Int × S3) :=
bnd (fun (t0_115 : Int) (E_115 : Rw) (C_115 : Cd) (q_115 : (Nat → Nat)) =>
fW_isAnew_115 t0_115 E_115 C_115 q_115) fun J115 =>
bnd (fun (E_114 : Rw) (C_114 : Cd) (q_114 : (Nat → Nat)) =>
fW_isAnew_114 J115 E_114 C_114 q_114) fun J114 =>
if w32 t0_81 = 0 then
J114 E_81 C_81 q_81
else
if (q_81 11 = a6 ∧ ¬ q_81 11 = 0) ∧ inR 6 (wLen 11) then
cal1 (fW_does a0 10 a7 (E_81 11 (ix 6)) 0 C_81) fun (r9 : Int) (C10 : Cd) =>
if (q_81 11 = a6 ∧ ¬ q_81 11 = 0) ∧ inR 7 (wLen 11) then
if ¬ w32 r9 = w32 (E_81 11 (ix 7)) then
J114 E_81 C10 q_81
else
J115 1 E_81 C10 q_81
else none
else none
def fW_isAnew_80 (J81 : Int → Rw → Cd → (Nat → Nat) → Option (Int × S3)) (E_80 : Rw) (C_80 : Cd) (q_80 : (Nat → Nat)) : Option (Int × S3) :=
J81 0 E_80 C_80 q_80
def fW_isAnew_40 (a0 : Nat) (a6 : Nat) (a7 : Int) (r1 : Int) (x11_20 : Int) (t0_40 : Int) (E_40 : Rw) (C_40 : Cd) (q_40 : (Nat → Nat)) : Option (Int × S3) :=
if (q_40 11 = a6 ∧ ¬ q_40 11 = 0) ∧ inR 6 (wLen 11) then bnd (wPut E_40 11 (ix 6) t0_40) fun (E6 : Rw) =>
cal1 (fW_does a0 10 a7 x11_20 0 C_40) fun (r7 : Int) (C8 : Cd) =>
bnd (fun (t0_81 : Int) (E_81 : Rw) (C_81 : Cd) (q_81 : (Nat → Nat)) =>
fW_isAnew_81 a0 a6 a7 t0_81 E_81 C_81 q_81) fun J81 =>
bnd (fun (E_80 : Rw) (C_80 : Cd) (q_80 : (Nat → Nat)) =>
fW_isAnew_80 J81 E_80 C_80 q_80) fun J80 =>
if ¬ w32 r7 = w32 (-1) then
J80 E6 C8 q_40
else
if q_40 11 = a6 ∧ ¬ q_40 11 = 0 then
cal3 (fW_renders3 11 a7 E6 C8 q_40) fun (r11 : Int) (E13 : Rw) (C14 : Cd) (q15 : (Nat → Nat)) =>
if ¬ w32 (lcmpI r1 r11) = 0 then
J80 E13 C14 q15
else
J81 1 E13 C14 q15
else none
else none
def fW_isAnew (a0 : Nat) (a6 : Nat) (a7 : Int) (a8 : Int) (E : Rw) (C : Cd) (q : (Nat → Nat)) : Option (Int × S3) :=
if q 11 = a6 ∧ ¬ q 11 = 0 then
cal3 (fW_renders3 11 a7 E C q) fun (r1 : Int) (E3 : Rw) (C4 : Cd) (q5 : (Nat → Nat)) =>
if (q5 11 = a6 ∧ ¬ q5 11 = 0) ∧ inR 4 (wLen 11) then
bnd (E3 11 (ix 4)) fun (x11_20 : Int) =>
bnd (fun (t0_40 : Int) (E_40 : Rw) (C_40 : Cd) (q_40 : (Nat → Nat)) =>
fW_isAnew_40 a0 a6 a7 r1 x11_20 t0_40 E_40 C_40 q_40) fun J40 =>
if ¬ w32 x11_20 = 0 then
if w32 x11_20 = 0 then none else
J40 (remI a8 x11_20) E3 C4 q5
else
J40 0 E3 C4 q5
else none
else none
def fW_sets (a3 : Int) (a4 : Int) (E : Rw) : Option (Unit × Rw) :=
if inR (7 * a3) (wLen 6) then
bnd (fun (t0_21 : Int) (E_21 : Rw) =>
bnd (lpn (fun (_ : Int) (_ : Rw) => (none : Option (Unit × Rw))) (fun L26 (v6_26 : Int) (E_26 : Rw) =>
if w32 8 ≤ w32 v6_26 then
if inR ((7 * a3) + 4) (wLen 6) then bnd (wPut E_26 6 (ix ((7 * a3) + 4)) a4) fun (E1 : Rw) =>
some ((), E1)
else none
else
bnd (fun (E_64 : Rw) =>
L26 (v6_26 + 1) E_64) fun J64 =>
if w32 (andI (shrI t0_21 v6_26) 1) = w32 (andI (shrI a4 v6_26) 1) then
J64 E_26
else
if inR 3 (wLen 0) then
if inR 3 (wLen 0) then bnd (wPut E_26 0 (ix 3) ((E_26 0 (ix 3)) + 1)) fun (E2 : Rw) =>
if inR 3 (wLen 0) then
if inR v6_26 (wLen 8) then bnd (wPut E2 8 (ix v6_26) (E2 0 (ix 3))) fun (E3 : Rw) =>
J64 E3
else none
else none
else none
else none) FU) fun J26 =>
J26 0 E_21) fun J21 =>
if w32 (E 6 (ix (7 * a3))) ≤ 0 then
J21 0 E
else
if inR ((7 * a3) + 4) (wLen 6) then
J21 (E 6 (ix ((7 * a3) + 4))) E
else none
else none
def fW_settles  (E : Rw) : Option (Unit × Rw) :=
bnd (lpn (fun (_ : Int) (_ : Rw) => (none : Option (Unit × Rw))) (fun L3 (v5_3 : Int) (E_3 : Rw) =>
if w32 8 ≤ w32 v5_3 then
some ((), E_3)
else
cal1 (fW_present v5_3 E_3) fun (r1 : Int) (E2 : Rw) =>
bnd (r1 + 1) fun (x6_20 : Int) =>
if inR v5_3 (wLen 5) then
bnd (fun (E_53 : Rw) =>
L3 (v5_3 + 1) E_53) fun J53 =>
if w32 x6_20 = w32 (E2 5 (ix v5_3)) then
J53 E2
else
if inR 3 (wLen 0) then
if inR 3 (wLen 0) then bnd (wPut E2 0 (ix 3) ((E2 0 (ix 3)) + 1)) fun (E3 : Rw) =>
if inR 3 (wLen 0) then
if inR v5_3 (wLen 4) then bnd (wPut E3 4 (ix v5_3) (E3 0 (ix 3))) fun (E4 : Rw) =>
if inR v5_3 (wLen 5) then bnd (wPut E4 5 (ix v5_3) x6_20) fun (E5 : Rw) =>
J53 E5
else none
else none
else none
else none
else none
else none) FU) fun J3 =>
J3 0 E
def fW_isMoved_437  (t0_437 : Int) (E_437 : Rw) (C_437 : Cd) (q_437 : (Nat → Nat)) : Option (Int × S3) :=
retZ t0_437 (E_437, C_437, q_437)
def fW_isMoved_429 (r3 : Int) (t0_429 : Int) (E_429 : Rw) (C_429 : Cd) (q_429 : (Nat → Nat)) : Option (Int × S3) :=
bnd (fun (t0_437 : Int) (E_437 : Rw) (C_437 : Cd) (q_437 : (Nat → Nat)) =>
fW_isMoved_437 t0_437 E_437 C_437 q_437) fun J437 =>
if ¬ w32 r3 = w32 t0_429 then
J437 0 E_429 C_429 q_429
else
J437 1 E_429 C_429 q_429
def fW_isMoved_405 (a0 : Nat) (a9 : Int) (t0_88 : Int) (v13_186 : Int) (E_405 : Rw) (C_405 : Cd) (q_405 : (Nat → Nat)) : Option (Int × S3) :=
cal1 (fW_does a0 5 a9 (1 - a9) 0 C_405) fun (r3 : Int) (C4 : Cd) =>
bnd (fun (t0_429 : Int) (E_429 : Rw) (C_429 : Cd) (q_429 : (Nat → Nat)) =>
fW_isMoved_429 r3 t0_429 E_429 C_429 q_429) fun J429 =>
if w32 t0_88 = 0 then
J429 (-13) E_405 C4 q_405
else
J429 v13_186 E_405 C4 q_405
def fW_isMoved_399 (L186 : Int → Int → Rw → Cd → (Nat → Nat) → Option (Int × S3)) (v14_186 : Int) (v13_399 : Int) (E_399 : Rw) (C_399 : Cd) (q_399 : (Nat → Nat)) : Option (Int × S3) :=
L186 v13_399 (v14_186 + 1) E_399 C_399 q_399
def fW_isMoved_353 (L186 : Int → Int → Rw → Cd → (Nat → Nat) → Option (Int × S3)) (v13_186 : Int) (v14_186 : Int) (r5 : Int) (v16_214 : Int) (E_353 : Rw) (C_353 : Cd) (q_353 : (Nat → Nat)) : Option (Int × S3) :=
bnd (fun (v13_399 : Int) (E_399 : Rw) (C_399 : Cd) (q_399 : (Nat → Nat)) =>
fW_isMoved_399 L186 v14_186 v13_399 E_399 C_399 q_399) fun J399 =>
if w32 r5 < 0 then
J399 v13_186 E_353 C_353 q_353
else
if inR r5 (wLen 3) then
if w32 (lcmpI v16_214 (E_353 3 (ix r5))) = 0 then
J399 v13_186 E_353 C_353 q_353
else
if inR 2 (wLen 0) then
if inR 2 (wLen 0) then bnd (wPut E_353 0 (ix 2) ((E_353 0 (ix 2)) + 1)) fun (E7 : Rw) =>
if inR v14_186 (wLen 1) then
if inR 2 (wLen 0) then
cal1 (fW_adds ((E7 1 (ix v14_186)) - 1) (E7 0 (ix 2)) v16_214 E7) fun (r8 : Int) (E9 : Rw) =>
J399 (v13_186 + 1) E9 C_353 q_353
else none
else none
else none
else none
else none
def fW_isMoved_342 (L214 : Int → Int → Rw → Cd → (Nat → Nat) → Option (Int × S3)) (v16_214 : Int) (v18_214 : Int) (r11 : Int) (t0_342 : Int) (E_342 : Rw) (C_342 : Cd) (q_342 : (Nat → Nat)) : Option (Int × S3) :=
bnd (lorI (lshlI v16_214 10) (w32 (r11 + t0_342))) fun (x16_345 : Int) =>
L214 x16_345 (v18_214 + 1) E_342 C_342 q_342
def fW_isMoved_315 (a9 : Int) (L214 : Int → Int → Rw → Cd → (Nat → Nat) → Option (Int × S3)) (v16_214 : Int) (v18_214 : Int) (r11 : Int) (t0_315 : Int) (E_315 : Rw) (C_315 : Cd) (q_315 : (Nat → Nat)) : Option (Int × S3) :=
bnd (fun (t0_342 : Int) (E_342 : Rw) (C_342 : Cd) (q_342 : (Nat → Nat)) =>
fW_isMoved_342 L214 v16_214 v18_214 r11 t0_342 E_342 C_342 q_342) fun J342 =>
if w32 t0_315 = 0 then
J342 0 E_315 C_315 q_315
else
J342 (64 - (128 * a9)) E_315 C_315 q_315
def fW_isMoved_314 (J315 : Int → Rw → Cd → (Nat → Nat) → Option (Int × S3)) (E_314 : Rw) (C_314 : Cd) (q_314 : (Nat → Nat)) : Option (Int × S3) :=
J315 0 E_314 C_314 q_314
def fW_isMoved_277 (a9 : Int) (v10_9 : Int) (L214 : Int → Int → Rw → Cd → (Nat → Nat) → Option (Int × S3)) (v16_214 : Int) (v18_214 : Int) (r11 : Int) (t0_277 : Int) (E_277 : Rw) (C_277 : Cd) (q_277 : (Nat → Nat)) : Option (Int × S3) :=
bnd (fun (t0_315 : Int) (E_315 : Rw) (C_315 : Cd) (q_315 : (Nat → Nat)) =>
fW_isMoved_315 a9 L214 v16_214 v18_214 r11 t0_315 E_315 C_315 q_315) fun J315 =>
bnd (fun (E_314 : Rw) (C_314 : Cd) (q_314 : (Nat → Nat)) =>
fW_isMoved_314 J315 E_314 C_314 q_314) fun J314 =>
if w32 t0_277 = 0 then
J314 E_277 C_277 q_277
else
if ¬ w32 (divI r11 64) = w32 a9 then
J314 E_277 C_277 q_277
else
if ¬ w32 (andI (shrI v10_9 (remI (divI r11 16) 4)) 1) = w32 1 then
J314 E_277 C_277 q_277
else
J315 1 E_277 C_277 q_277
def fW_isMoved_272 (J277 : Int → Rw → Cd → (Nat → Nat) → Option (Int × S3)) (E_272 : Rw) (C_272 : Cd) (q_272 : (Nat → Nat)) : Option (Int × S3) :=
J277 1 E_272 C_272 q_272
def fW_isMoved_214 (a9 : Int) (v10_9 : Int) (L186 : Int → Int → Rw → Cd → (Nat → Nat) → Option (Int × S3)) (v13_186 : Int) (v14_186 : Int) (r5 : Int) (L214 : Int → Int → Rw → Cd → (Nat → Nat) → Option (Int × S3)) (v16_214 : Int) (v18_214 : Int) (E_214 : Rw) (C_214 : Cd) (q_214 : (Nat → Nat)) : Option (Int × S3) :=
bnd (fun (E_353 : Rw) (C_353 : Cd) (q_353 : (Nat → Nat)) =>
fW_isMoved_353 L186 v13_186 v14_186 r5 v16_214 E_353 C_353 q_353) fun J353 =>
if w32 r5 < 0 then
J353 E_214 C_214 q_214
else
if inR r5 (wLen 3) then
cal1 (fW_macros (E_214 3 (ix r5))) fun (r10 : Int) _ =>
if w32 r10 ≤ w32 v18_214 then
J353 E_214 C_214 q_214
else
if inR r5 (wLen 3) then
cal1 (fW_macro (E_214 3 (ix r5)) v18_214) fun (r11 : Int) _ =>
bnd (fun (t0_277 : Int) (E_277 : Rw) (C_277 : Cd) (q_277 : (Nat → Nat)) =>
fW_isMoved_277 a9 v10_9 L214 v16_214 v18_214 r11 t0_277 E_277 C_277 q_277) fun J277 =>
bnd (fun (E_272 : Rw) (C_272 : Cd) (q_272 : (Nat → Nat)) =>
fW_isMoved_272 J277 E_272 C_272 q_272) fun J272 =>
if w32 (remI r11 16) = w32 1 then
J272 E_214 C_214 q_214
else
if w32 (remI r11 16) = w32 2 then
J272 E_214 C_214 q_214
else
if ¬ w32 (remI r11 16) = w32 10 then
J277 0 E_214 C_214 q_214
else
J272 E_214 C_214 q_214
else none
else none
def fW_isMoved_186 (a0 : Nat) (a9 : Int) (v10_9 : Int) (t0_88 : Int) (L186 : Int → Int → Rw → Cd → (Nat → Nat) → Option (Int × S3)) (v13_186 : Int) (v14_186 : Int) (E_186 : Rw) (C_186 : Cd) (q_186 : (Nat → Nat)) : Option (Int × S3) :=
bnd (fun (E_405 : Rw) (C_405 : Cd) (q_405 : (Nat → Nat)) =>
fW_isMoved_405 a0 a9 t0_88 v13_186 E_405 C_405 q_405) fun J405 =>
if w32 8 ≤ w32 v14_186 then
J405 E_186 C_186 q_186
else
if w32 t0_88 = 0 then
J405 E_186 C_186 q_186
else
cal1 (fW_present v14_186 E_186) fun (r5 : Int) (E6 : Rw) =>
bnd (lpn (fun (_ : Int) (_ : Int) (_ : Rw) (_ : Cd) (_ : (Nat → Nat)) => (none : Option (Int × S3))) (fun L214 (v16_214 : Int) (v18_214 : Int) (E_214 : Rw) (C_214 : Cd) (q_214 : (Nat → Nat)) =>
fW_isMoved_214 a9 v10_9 L186 v13_186 v14_186 r5 L214 v16_214 v18_214 E_214 C_214 q_214) FU) fun J214 =>
J214 1 0 E6 C_186 q_186
def fW_isMoved_170 (a0 : Nat) (a9 : Int) (v10_9 : Int) (t0_88 : Int) (E_170 : Rw) (C_170 : Cd) (q_170 : (Nat → Nat)) : Option (Int × S3) :=
cal1 (fW_settles E_170) fun (r1 : Unit) (E2 : Rw) =>
bnd (lpn (fun (_ : Int) (_ : Int) (_ : Rw) (_ : Cd) (_ : (Nat → Nat)) => (none : Option (Int × S3))) (fun L186 (v13_186 : Int) (v14_186 : Int) (E_186 : Rw) (C_186 : Cd) (q_186 : (Nat → Nat)) =>
fW_isMoved_186 a0 a9 v10_9 t0_88 L186 v13_186 v14_186 E_186 C_186 q_186) FU) fun J186 =>
J186 0 0 E2 C_170 q_170
def fW_isMoved_93 (a0 : Nat) (a9 : Int) (v10_9 : Int) (t0_88 : Int) (L93 : Int → Rw → Cd → (Nat → Nat) → Option (Int × S3)) (v13_93 : Int) (E_93 : Rw) (C_93 : Cd) (q_93 : (Nat → Nat)) : Option (Int × S3) :=
bnd (fun (E_170 : Rw) (C_170 : Cd) (q_170 : (Nat → Nat)) =>
fW_isMoved_170 a0 a9 v10_9 t0_88 E_170 C_170 q_170) fun J170 =>
if w32 4 ≤ w32 v13_93 then
J170 E_93 C_93 q_93
else
if w32 t0_88 = 0 then
J170 E_93 C_93 q_93
else
cal1 (fW_sets ((4 * a9) + v13_93) 0 E_93) fun (r12 : Unit) (E13 : Rw) =>
if inR (7 * ((4 * a9) + v13_93)) (wLen 6) then bnd (wPut E13 6 (ix (7 * ((4 * a9) + v13_93))) 0) fun (E14 : Rw) =>
if inR ((4 * a9) + v13_93) (wLen 1) then
if inR ((4 - (4 * a9)) + v13_93) (wLen 1) then bnd (wPut E14 1 (ix ((4 - (4 * a9)) + v13_93)) (E14 1 (ix ((4 * a9) + v13_93)))) fun (E15 : Rw) =>
if inR ((4 * a9) + v13_93) (wLen 1) then bnd (wPut E15 1 (ix ((4 * a9) + v13_93)) 0) fun (E16 : Rw) =>
L93 (v13_93 + 1) E16 C_93 q_93
else none
else none
else none
else none
def fW_isMoved_88 (a0 : Nat) (a9 : Int) (v10_9 : Int) (t0_88 : Int) (E_88 : Rw) (C_88 : Cd) (q_88 : (Nat → Nat)) : Option (Int × S3) :=
bnd (lpn (fun (_ : Int) (_ : Rw) (_ : Cd) (_ : (Nat → Nat)) => (none : Option (Int × S3))) (fun L93 (v13_93 : Int) (E_93 : Rw) (C_93 : Cd) (q_93 : (Nat → Nat)) =>
fW_isMoved_93 a0 a9 v10_9 t0_88 L93 v13_93 E_93 C_93 q_93) FU) fun J93 =>
J93 0 E_88 C_88 q_88
def fW_isMoved_87 (J88 : Int → Rw → Cd → (Nat → Nat) → Option (Int × S3)) (E_87 : Rw) (C_87 : Cd) (q_87 : (Nat → Nat)) : Option (Int × S3) :=
J88 0 E_87 C_87 q_87
def fW_isMoved_64 (L9 : Int → Int → Int → Rw → Cd → (Nat → Nat) → Option (Int × S3)) (v11_9 : Int) (v12_9 : Int) (x10_38 : Int) (t0_64 : Int) (E_64 : Rw) (C_64 : Cd) (q_64 : (Nat → Nat)) : Option (Int × S3) :=
bnd (orI v11_9 t0_64) fun (x11_65 : Int) =>
L9 x10_38 x11_65 (v12_9 + 1) E_64 C_64 q_64
def fW_isMoved_37 (a9 : Int) (L9 : Int → Int → Int → Rw → Cd → (Nat → Nat) → Option (Int × S3)) (v10_9 : Int) (v11_9 : Int) (v12_9 : Int) (t0_37 : Int) (E_37 : Rw) (C_37 : Cd) (q_37 : (Nat → Nat)) : Option (Int × S3) :=
bnd (orI v10_9 t0_37) fun (x10_38 : Int) =>
if inR ((4 - (4 * a9)) + v12_9) (wLen 1) then
bnd (fun (t0_64 : Int) (E_64 : Rw) (C_64 : Cd) (q_64 : (Nat → Nat)) =>
fW_isMoved_64 L9 v11_9 v12_9 x10_38 t0_64 E_64 C_64 q_64) fun J64 =>
if w32 (E_37 1 (ix ((4 - (4 * a9)) + v12_9))) ≤ 0 then
J64 0 E_37 C_37 q_37
else
J64 (shlI 1 v12_9) E_37 C_37 q_37
else none
def fW_isMoved_9 (a0 : Nat) (a9 : Int) (L9 : Int → Int → Int → Rw → Cd → (Nat → Nat) → Option (Int × S3)) (v10_9 : Int) (v11_9 : Int) (v12_9 : Int) (E_9 : Rw) (C_9 : Cd) (q_9 : (Nat → Nat)) : Option (Int × S3) :=
if w32 4 ≤ w32 v12_9 then
bnd (fun (t0_88 : Int) (E_88 : Rw) (C_88 : Cd) (q_88 : (Nat → Nat)) =>
fW_isMoved_88 a0 a9 v10_9 t0_88 E_88 C_88 q_88) fun J88 =>
bnd (fun (E_87 : Rw) (C_87 : Cd) (q_87 : (Nat → Nat)) =>
fW_isMoved_87 J88 E_87 C_87 q_87) fun J87 =>
if w32 v10_9 ≤ 0 then
J87 E_9 C_9 q_9
else
if ¬ w32 v11_9 = 0 then
J87 E_9 C_9 q_9
else
J88 1 E_9 C_9 q_9
else
if inR ((4 * a9) + v12_9) (wLen 1) then
bnd (fun (t0_37 : Int) (E_37 : Rw) (C_37 : Cd) (q_37 : (Nat → Nat)) =>
fW_isMoved_37 a9 L9 v10_9 v11_9 v12_9 t0_37 E_37 C_37 q_37) fun J37 =>
if w32 (E_9 1 (ix ((4 * a9) + v12_9))) ≤ 0 then
J37 0 E_9 C_9 q_9
else
J37 (shlI 1 v12_9) E_9 C_9 q_9
else none
def fW_isMoved (a0 : Nat) (a9 : Int) (E : Rw) (C : Cd) (q : (Nat → Nat)) : Option (Int × S3) :=
bnd (lpn (fun (_ : Int) (_ : Int) (_ : Int) (_ : Rw) (_ : Cd) (_ : (Nat → Nat)) => (none : Option (Int × S3))) (fun L9 (v10_9 : Int) (v11_9 : Int) (v12_9 : Int) (E_9 : Rw) (C_9 : Cd) (q_9 : (Nat → Nat)) =>
fW_isMoved_9 a0 a9 L9 v10_9 v11_9 v12_9 E_9 C_9 q_9) FU) fun J9 =>
J9 0 0 0 E C q
def fW_isStale (a4 : Int) (E : Rw) : Option (Int × Rw) :=
if inR (7 * a4) (wLen 6) then
bnd ((E 6 (ix (7 * a4))) - 1) fun (x5_9 : Int) =>
bnd (fun (t0_30 : Int) (E_30 : Rw) =>
bnd (lpn (fun (_ : Int) (_ : Int) (_ : Rw) => (none : Option (Int × Rw))) (fun L35 (v6_35 : Int) (v7_35 : Int) (E_35 : Rw) =>
if w32 8 ≤ w32 v7_35 then
bnd (fun (t0_131 : Int) (E_131 : Rw) =>
retZ t0_131 E_131) fun J131 =>
bnd (fun (E_130 : Rw) =>
J131 0 E_130) fun J130 =>
if w32 v6_35 = 0 then
J130 E_35
else
if inR a4 (wLen 1) then
if w32 (E_35 1 (ix a4)) ≤ 0 then
J130 E_35
else
J131 1 E_35
else none
else
bnd (fun (t0_106 : Int) (E_106 : Rw) =>
L35 t0_106 (v7_35 + 1) E_106) fun J106 =>
bnd (fun (E_101 : Rw) =>
J106 1 E_101) fun J101 =>
if ¬ w32 v6_35 = 0 then
J101 E_35
else
if inR ((7 * a4) + 3) (wLen 6) then
bnd (fun (E_74 : Rw) =>
if inR ((7 * a4) + 5) (wLen 6) then
bnd (fun (E_105 : Rw) =>
J106 0 E_105) fun J105 =>
if ¬ w32 (andI (shrI (E_74 6 (ix ((7 * a4) + 5))) v7_35) 1) = w32 1 then
J105 E_74
else
if inR v7_35 (wLen 8) then
if w32 (E_74 8 (ix v7_35)) ≤ w32 x5_9 then
J105 E_74
else
J101 E_74
else none
else none) fun J74 =>
if ¬ w32 (andI (shrI (E_35 6 (ix ((7 * a4) + 3))) v7_35) 1) = w32 1 then
J74 E_35
else
if inR v7_35 (wLen 4) then
if w32 x5_9 < w32 (E_35 4 (ix v7_35)) then
J101 E_35
else
J74 E_35
else none
else none) FU) fun J35 =>
J35 t0_30 0 E_30) fun J30 =>
bnd (fun (E_25 : Rw) =>
J30 1 E_25) fun J25 =>
if w32 x5_9 < 0 then
J25 E
else
if inR a4 (wLen 4) then
if w32 (E 4 (ix a4)) ≤ w32 x5_9 then
J30 0 E
else
J25 E
else none
else none
def fW_isText (a0 : Int)  : Option (Int × Unit) :=
cal1 (fW_macros a0) fun (r1 : Int) _ =>
bnd (fun (t0_21 : Int) =>
bnd (lpn (fun (_ : Int) (_ : Int) => (none : Option (Int × Unit))) (fun L24 (v2_24 : Int) (v3_24 : Int) =>
cal1 (fW_macros a0) fun (r2 : Int) _ =>
bnd (
retZ v2_24 ()) fun J69 =>
if w32 r2 ≤ w32 v3_24 then
J69
else
cal1 (fW_macros a0) fun (r3 : Int) _ =>
if w32 r3 ≤ w32 1 then
J69
else
bnd (fun (t0_62 : Int) =>
L24 t0_62 (v3_24 + 1)) fun J62 =>
bnd (
J62 0) fun J61 =>
if w32 v2_24 = 0 then
J61
else
cal1 (fW_macro a0 v3_24) fun (r4 : Int) _ =>
if w32 (remI r4 16) = w32 10 then
J61
else
J62 1) FU) fun J24 =>
J24 t0_21 0) fun J21 =>
bnd (
J21 0) fun J20 =>
if w32 r1 ≤ 0 then
J20
else
cal1 (fW_macros a0) fun (r5 : Int) _ =>
if w32 6 ≤ w32 r5 then
J20
else
J21 1
def fW_versionOf (a3 : Int) (a4 : Int) (E : Rw) : Option (Int × Rw) :=
bnd (lpn (fun (_ : Int) (_ : Int) (_ : Rw) => (none : Option (Int × Rw))) (fun L7 (v5_7 : Int) (v6_7 : Int) (E_7 : Rw) =>
if inR 2 (wLen 0) then
if w32 (E_7 0 (ix 2)) < w32 v6_7 then
some ((-1), E_7)
else
bnd (lpn (fun (_ : Int) (_ : Int) (_ : Rw) => (none : Option (Int × Rw))) (fun L18 (v5_18 : Int) (v7_18 : Int) (E_18 : Rw) =>
if inR 0 (wLen 0) then
if w32 (E_18 0 (ix 0)) ≤ w32 v7_18 then
L7 v5_18 (v6_7 + 1) E_18
else
if inR a3 (wLen 1) then
bnd (fun (v5_70 : Int) (E_70 : Rw) =>
L18 v5_70 (v7_18 + 1) E_70) fun J70 =>
if w32 (E_18 1 (ix a3)) ≤ 0 then
J70 v5_18 E_18
else
if inR (2 * v7_18) (wLen 2) then
if inR a3 (wLen 1) then
if ¬ w32 (E_18 2 (ix (2 * v7_18))) = w32 ((E_18 1 (ix a3)) - 1) then
J70 v5_18 E_18
else
if inR ((2 * v7_18) + 1) (wLen 2) then
if ¬ w32 (E_18 2 (ix ((2 * v7_18) + 1))) = w32 v6_7 then
J70 v5_18 E_18
else
if ¬ w32 v5_18 = 0 then
J70 (v5_18 + (-1)) E_18
else
some (v7_18, E_18)
else none
else none
else none
else none
else none) FU) fun J18 =>
J18 v5_7 0 E_7
else none) FU) fun J7 =>
J7 a4 1 E
def fW_isWiki_723  (t0_723 : Int) (E_723 : Rw) (C_723 : Cd) (q_723 : (Nat → Nat)) : Option (Int × S3) :=
retZ t0_723 (E_723, C_723, q_723)
def fW_isWiki_722 (J723 : Int → Rw → Cd → (Nat → Nat) → Option (Int × S3)) (E_722 : Rw) (C_722 : Cd) (q_722 : (Nat → Nat)) : Option (Int × S3) :=
J723 0 E_722 C_722 q_722
def fW_isWiki_694 (a0 : Nat) (v13_32 : Int) (v14_32 : Int) (v12_653 : Int) (E_694 : Rw) (C_694 : Cd) (q_694 : (Nat → Nat)) : Option (Int × S3) :=
bnd (fun (t0_723 : Int) (E_723 : Rw) (C_723 : Cd) (q_723 : (Nat → Nat)) =>
fW_isWiki_723 t0_723 E_723 C_723 q_723) fun J723 =>
bnd (fun (E_722 : Rw) (C_722 : Cd) (q_722 : (Nat → Nat)) =>
fW_isWiki_722 J723 E_722 C_722 q_722) fun J722 =>
if w32 v12_653 = 0 then
J722 E_694 C_694 q_694
else
if isO C_694 a0 14 then cal1 (fX11_queued a0 C_694) fun (r7 : Int) (C8 : Cd) =>
if ¬ w32 r7 = w32 v13_32 then
J722 E_694 C8 q_694
else
if isO C8 a0 14 then cal1 (fX11_odd a0 1 C8) fun (r9 : Int) (C10 : Cd) =>
if ¬ w32 r9 = w32 v14_32 then
J722 E_694 C10 q_694
else
J723 1 E_694 C10 q_694
else none
else none
def fW_isWiki_686 (L653 : Int → Int → Rw → Cd → (Nat → Nat) → Option (Int × S3)) (v15_653 : Int) (t0_686 : Int) (E_686 : Rw) (C_686 : Cd) (q_686 : (Nat → Nat)) : Option (Int × S3) :=
L653 t0_686 (v15_653 + 1) E_686 C_686 q_686
def fW_isWiki_653 (a0 : Nat) (v13_32 : Int) (v14_32 : Int) (L653 : Int → Int → Rw → Cd → (Nat → Nat) → Option (Int × S3)) (v12_653 : Int) (v15_653 : Int) (E_653 : Rw) (C_653 : Cd) (q_653 : (Nat → Nat)) : Option (Int × S3) :=
bnd (fun (E_694 : Rw) (C_694 : Cd) (q_694 : (Nat → Nat)) =>
fW_isWiki_694 a0 v13_32 v14_32 v12_653 E_694 C_694 q_694) fun J694 =>
if w32 8 ≤ w32 v15_653 then
J694 E_653 C_653 q_653
else
if w32 v12_653 = 0 then
J694 E_653 C_653 q_653
else
if isO C_653 a0 14 then calt (fX11_members a0 v15_653 C_653) fun (r11 : Int) (C12 : Cd) =>
cal1 (fW_members v15_653 E_653) fun (r13 : Int) (E14 : Rw) =>
bnd (fun (t0_686 : Int) (E_686 : Rw) (C_686 : Cd) (q_686 : (Nat → Nat)) =>
fW_isWiki_686 L653 v15_653 t0_686 E_686 C_686 q_686) fun J686 =>
if ¬ w32 r11 = w32 r13 then
J686 0 E14 C12 q_653
else
J686 1 E14 C12 q_653
else none
def fW_isWiki_650 (a0 : Nat) (v12_32 : Int) (v13_32 : Int) (v14_32 : Int) (E_650 : Rw) (C_650 : Cd) (q_650 : (Nat → Nat)) : Option (Int × S3) :=
bnd (lpn (fun (_ : Int) (_ : Int) (_ : Rw) (_ : Cd) (_ : (Nat → Nat)) => (none : Option (Int × S3))) (fun L653 (v12_653 : Int) (v15_653 : Int) (E_653 : Rw) (C_653 : Cd) (q_653 : (Nat → Nat)) =>
fW_isWiki_653 a0 v13_32 v14_32 L653 v12_653 v15_653 E_653 C_653 q_653) FU) fun J653 =>
J653 v12_32 0 E_650 C_650 q_650
def fW_isWiki_644 (L32 : Int → Int → Int → Int → Rw → Cd → (Nat → Nat) → Option (Int × S3)) (v15_32 : Int) (x13_121 : Int) (v14_436 : Int) (v12_495 : Int) (E_644 : Rw) (C_644 : Cd) (q_644 : (Nat → Nat)) : Option (Int × S3) :=
L32 v12_495 x13_121 v14_436 (v15_32 + 1) E_644 C_644 q_644
def fW_isWiki_636 (L495 : Int → Int → Rw → Cd → (Nat → Nat) → Option (Int × S3)) (v20_495 : Int) (t0_636 : Int) (E_636 : Rw) (C_636 : Cd) (q_636 : (Nat → Nat)) : Option (Int × S3) :=
L495 t0_636 (v20_495 + 1) E_636 C_636 q_636
def fW_isWiki_635 (J636 : Int → Rw → Cd → (Nat → Nat) → Option (Int × S3)) (E_635 : Rw) (C_635 : Cd) (q_635 : (Nat → Nat)) : Option (Int × S3) :=
J636 0 E_635 C_635 q_635
def fW_isWiki_628 (J636 : Int → Rw → Cd → (Nat → Nat) → Option (Int × S3)) (J635 : Rw → Cd → (Nat → Nat) → Option (Int × S3)) (r25 : Int) (t0_628 : Int) (E_628 : Rw) (C_628 : Cd) (q_628 : (Nat → Nat)) : Option (Int × S3) :=
if ¬ w32 r25 = w32 t0_628 then
J635 E_628 C_628 q_628
else
J636 1 E_628 C_628 q_628
def fW_isWiki_627 (J628 : Int → Rw → Cd → (Nat → Nat) → Option (Int × S3)) (E_627 : Rw) (C_627 : Cd) (q_627 : (Nat → Nat)) : Option (Int × S3) :=
J628 0 E_627 C_627 q_627
def fW_isWiki_570 (a0 : Nat) (v15_32 : Int) (r15 : Int) (L495 : Int → Int → Rw → Cd → (Nat → Nat) → Option (Int × S3)) (v20_495 : Int) (x21_517 : Int) (t0_570 : Int) (E_570 : Rw) (C_570 : Cd) (q_570 : (Nat → Nat)) : Option (Int × S3) :=
if isO C_570 a0 14 then calt (fX11_inLanguage a0 v15_32 (v20_495 + 1) C_570) fun (r23 : Int) (C24 : Cd) =>
bnd (fun (t0_636 : Int) (E_636 : Rw) (C_636 : Cd) (q_636 : (Nat → Nat)) =>
fW_isWiki_636 L495 v20_495 t0_636 E_636 C_636 q_636) fun J636 =>
bnd (fun (E_635 : Rw) (C_635 : Cd) (q_635 : (Nat → Nat)) =>
fW_isWiki_635 J636 E_635 C_635 q_635) fun J635 =>
if ¬ w32 r23 = w32 t0_570 then
J635 E_570 C24 q_570
else
if isO C24 a0 14 then calt (fX11_isOutdated a0 v15_32 (v20_495 + 1) C24) fun (r25 : Int) (C26 : Cd) =>
bnd (fun (t0_628 : Int) (E_628 : Rw) (C_628 : Cd) (q_628 : (Nat → Nat)) =>
fW_isWiki_628 J636 J635 r25 t0_628 E_628 C_628 q_628) fun J628 =>
bnd (fun (E_627 : Rw) (C_627 : Cd) (q_627 : (Nat → Nat)) =>
fW_isWiki_627 J628 E_627 C_627 q_627) fun J627 =>
if w32 x21_517 ≤ 0 then
J627 E_570 C26 q_570
else
if inR ((16 + v15_32) + (8 * v20_495)) (wLen 9) then
if w32 (E_570 9 (ix ((16 + v15_32) + (8 * v20_495)))) = w32 (r15 + 1) then
J627 E_570 C26 q_570
else
J628 1 E_570 C26 q_570
else none
else none
else none
def fW_isWiki_568 (v15_32 : Int) (J570 : Int → Rw → Cd → (Nat → Nat) → Option (Int × S3)) (E_568 : Rw) (C_568 : Cd) (q_568 : (Nat → Nat)) : Option (Int × S3) :=
J570 v15_32 E_568 C_568 q_568
def fW_isWiki_547 (v15_32 : Int) (x22_524 : Int) (J570 : Int → Rw → Cd → (Nat → Nat) → Option (Int × S3)) (E_547 : Rw) (C_547 : Cd) (q_547 : (Nat → Nat)) : Option (Int × S3) :=
bnd (fun (E_568 : Rw) (C_568 : Cd) (q_568 : (Nat → Nat)) =>
fW_isWiki_568 v15_32 J570 E_568 C_568 q_568) fun J568 =>
if w32 x22_524 ≤ 0 then
J568 E_547 C_547 q_547
else
if inR (x22_524 - 1) (wLen 1) then
if w32 (E_547 1 (ix (x22_524 - 1))) ≤ 0 then
J568 E_547 C_547 q_547
else
J570 (x22_524 - 1) E_547 C_547 q_547
else none
def fW_isWiki_495 (a0 : Nat) (L32 : Int → Int → Int → Int → Rw → Cd → (Nat → Nat) → Option (Int × S3)) (v15_32 : Int) (r15 : Int) (x13_121 : Int) (v14_436 : Int) (L495 : Int → Int → Rw → Cd → (Nat → Nat) → Option (Int × S3)) (v12_495 : Int) (v20_495 : Int) (E_495 : Rw) (C_495 : Cd) (q_495 : (Nat → Nat)) : Option (Int × S3) :=
bnd (fun (E_644 : Rw) (C_644 : Cd) (q_644 : (Nat → Nat)) =>
fW_isWiki_644 L32 v15_32 x13_121 v14_436 v12_495 E_644 C_644 q_644) fun J644 =>
if w32 2 ≤ w32 v20_495 then
J644 E_495 C_495 q_495
else
if w32 v12_495 = 0 then
J644 E_495 C_495 q_495
else
if inR (v15_32 + (8 * v20_495)) (wLen 9) then
bnd (E_495 9 (ix (v15_32 + (8 * v20_495)))) fun (x21_517 : Int) =>
if inR v15_32 (wLen 9) then
bnd (E_495 9 (ix v15_32)) fun (x22_524 : Int) =>
bnd (fun (t0_570 : Int) (E_570 : Rw) (C_570 : Cd) (q_570 : (Nat → Nat)) =>
fW_isWiki_570 a0 v15_32 r15 L495 v20_495 x21_517 t0_570 E_570 C_570 q_570) fun J570 =>
bnd (fun (E_547 : Rw) (C_547 : Cd) (q_547 : (Nat → Nat)) =>
fW_isWiki_547 v15_32 x22_524 J570 E_547 C_547 q_547) fun J547 =>
if w32 x21_517 ≤ 0 then
J547 E_495 C_495 q_495
else
if inR (x21_517 - 1) (wLen 1) then
if w32 (E_495 1 (ix (x21_517 - 1))) ≤ 0 then
J547 E_495 C_495 q_495
else
J570 (x21_517 - 1) E_495 C_495 q_495
else none
else none
else none
def fW_isWiki_483 (L436 : Int → Int → Rw → Cd → (Nat → Nat) → Option (Int × S3)) (v14_436 : Int) (v20_436 : Int) (t0_483 : Int) (E_483 : Rw) (C_483 : Cd) (q_483 : (Nat → Nat)) : Option (Int × S3) :=
bnd (orI v14_436 t0_483) fun (x14_484 : Int) =>
L436 x14_484 (v20_436 + 1) E_483 C_483 q_483
def fW_isWiki_482 (J483 : Int → Rw → Cd → (Nat → Nat) → Option (Int × S3)) (E_482 : Rw) (C_482 : Cd) (q_482 : (Nat → Nat)) : Option (Int × S3) :=
J483 0 E_482 C_482 q_482
def fW_isWiki_436 (a0 : Nat) (L32 : Int → Int → Int → Int → Rw → Cd → (Nat → Nat) → Option (Int × S3)) (v15_32 : Int) (r15 : Int) (x13_121 : Int) (v12_433 : Int) (L436 : Int → Int → Rw → Cd → (Nat → Nat) → Option (Int × S3)) (v14_436 : Int) (v20_436 : Int) (E_436 : Rw) (C_436 : Cd) (q_436 : (Nat → Nat)) : Option (Int × S3) :=
if w32 8 ≤ w32 v20_436 then
bnd (lpn (fun (_ : Int) (_ : Int) (_ : Rw) (_ : Cd) (_ : (Nat → Nat)) => (none : Option (Int × S3))) (fun L495 (v12_495 : Int) (v20_495 : Int) (E_495 : Rw) (C_495 : Cd) (q_495 : (Nat → Nat)) =>
fW_isWiki_495 a0 L32 v15_32 r15 x13_121 v14_436 L495 v12_495 v20_495 E_495 C_495 q_495) FU) fun J495 =>
J495 v12_433 0 E_436 C_436 q_436
else
bnd (fun (t0_483 : Int) (E_483 : Rw) (C_483 : Cd) (q_483 : (Nat → Nat)) =>
fW_isWiki_483 L436 v14_436 v20_436 t0_483 E_483 C_483 q_483) fun J483 =>
bnd (fun (E_482 : Rw) (C_482 : Cd) (q_482 : (Nat → Nat)) =>
fW_isWiki_482 J483 E_482 C_482 q_482) fun J482 =>
if 0 ≤ w32 r15 then
J482 E_436 C_436 q_436
else
if inR (7 * v20_436) (wLen 6) then
if w32 (E_436 6 (ix (7 * v20_436))) ≤ 0 then
J482 E_436 C_436 q_436
else
if inR ((7 * v20_436) + 2) (wLen 6) then
J483 (shlI (andI (shrI (E_436 6 (ix ((7 * v20_436) + 2))) v15_32) 1) v15_32) E_436 C_436 q_436
else none
else none
def fW_isWiki_433 (a0 : Nat) (L32 : Int → Int → Int → Int → Rw → Cd → (Nat → Nat) → Option (Int × S3)) (v14_32 : Int) (v15_32 : Int) (r15 : Int) (x13_121 : Int) (v12_433 : Int) (E_433 : Rw) (C_433 : Cd) (q_433 : (Nat → Nat)) : Option (Int × S3) :=
bnd (lpn (fun (_ : Int) (_ : Int) (_ : Rw) (_ : Cd) (_ : (Nat → Nat)) => (none : Option (Int × S3))) (fun L436 (v14_436 : Int) (v20_436 : Int) (E_436 : Rw) (C_436 : Cd) (q_436 : (Nat → Nat)) =>
fW_isWiki_436 a0 L32 v15_32 r15 x13_121 v12_433 L436 v14_436 v20_436 E_436 C_436 q_436) FU) fun J436 =>
J436 v14_32 0 E_433 C_433 q_433
def fW_isWiki_431 (J433 : Int → Rw → Cd → (Nat → Nat) → Option (Int × S3)) (t0_431 : Int) (E_431 : Rw) (C_431 : Cd) (q_431 : (Nat → Nat)) : Option (Int × S3) :=
J433 t0_431 E_431 C_431 q_431
def fW_isWiki_430 (J431 : Int → Rw → Cd → (Nat → Nat) → Option (Int × S3)) (E_430 : Rw) (C_430 : Cd) (q_430 : (Nat → Nat)) : Option (Int × S3) :=
J431 0 E_430 C_430 q_430
def fW_isWiki_396 (a0 : Nat) (v15_32 : Int) (r15 : Int) (J433 : Int → Rw → Cd → (Nat → Nat) → Option (Int × S3)) (t0_396 : Int) (E_396 : Rw) (C_396 : Cd) (q_396 : (Nat → Nat)) : Option (Int × S3) :=
bnd (fun (t0_431 : Int) (E_431 : Rw) (C_431 : Cd) (q_431 : (Nat → Nat)) =>
fW_isWiki_431 J433 t0_431 E_431 C_431 q_431) fun J431 =>
bnd (fun (E_430 : Rw) (C_430 : Cd) (q_430 : (Nat → Nat)) =>
fW_isWiki_430 J431 E_430 C_430 q_430) fun J430 =>
if w32 t0_396 = 0 then
J430 E_396 C_396 q_396
else
if isO C_396 a0 14 then calt (fX11_tokenAt a0 v15_32 0 C_396) fun (r29 : Int) (C30 : Cd) =>
if inR r15 (wLen 3) then
cal1 (fW_macro (E_396 3 (ix r15)) 0) fun (r31 : Int) _ =>
cal1 (fW_code r31 0) fun (r32 : Int) _ =>
if ¬ w32 r29 = w32 r32 then
J430 E_396 C30 q_396
else
J431 1 E_396 C30 q_396
else none
else none
def fW_isWiki_395 (J396 : Int → Rw → Cd → (Nat → Nat) → Option (Int × S3)) (E_395 : Rw) (C_395 : Cd) (q_395 : (Nat → Nat)) : Option (Int × S3) :=
J396 0 E_395 C_395 q_395
def fW_isWiki_391 (J396 : Int → Rw → Cd → (Nat → Nat) → Option (Int × S3)) (E_391 : Rw) (C_391 : Cd) (q_391 : (Nat → Nat)) : Option (Int × S3) :=
J396 1 E_391 C_391 q_391
def fW_isWiki_358 (a0 : Nat) (a10 : Int) (y4 : Nat) (v15_32 : Int) (J396 : Int → Rw → Cd → (Nat → Nat) → Option (Int × S3)) (J395 : Rw → Cd → (Nat → Nat) → Option (Int × S3)) (E_358 : Rw) (C_358 : Cd) (q_358 : (Nat → Nat)) : Option (Int × S3) :=
bnd (fun (E_391 : Rw) (C_391 : Cd) (q_391 : (Nat → Nat)) =>
fW_isWiki_391 J396 E_391 C_391 q_391) fun J391 =>
if ¬ w32 v15_32 = w32 (remI a10 8) then
J391 E_358 C_358 q_358
else
cal3 (fW_isAnew a0 y4 v15_32 (divI a10 8) E_358 C_358 q_358) fun (r35 : Int) (E36 : Rw) (C37 : Cd) (q38 : (Nat → Nat)) =>
if w32 r35 = 0 then
J395 E36 C37 q38
else
J391 E36 C37 q38
def fW_isWiki_354 (J395 : Rw → Cd → (Nat → Nat) → Option (Int × S3)) (J358 : Rw → Cd → (Nat → Nat) → Option (Int × S3)) (r39 : Int) (t0_354 : Int) (E_354 : Rw) (C_354 : Cd) (q_354 : (Nat → Nat)) : Option (Int × S3) :=
if ¬ w32 (lcmpI r39 t0_354) = 0 then
J395 E_354 C_354 q_354
else
J358 E_354 C_354 q_354
def fW_isWiki_313 (a0 : Nat) (a10 : Int) (y4 : Nat) (v15_32 : Int) (t0_106 : Int) (J396 : Int → Rw → Cd → (Nat → Nat) → Option (Int × S3)) (J395 : Rw → Cd → (Nat → Nat) → Option (Int × S3)) (t0_313 : Int) (E_313 : Rw) (C_313 : Cd) (q_313 : (Nat → Nat)) : Option (Int × S3) :=
cal1 (fW_does a0 9 v15_32 t0_313 0 C_313) fun (r33 : Int) (C34 : Cd) =>
if ¬ w32 r33 = w32 (-1) then
J395 E_313 C34 q_313
else
bnd (fun (E_358 : Rw) (C_358 : Cd) (q_358 : (Nat → Nat)) =>
fW_isWiki_358 a0 a10 y4 v15_32 J396 J395 E_358 C_358 q_358) fun J358 =>
if ¬ w32 (remI v15_32 2) = w32 (remI a10 2) then
J358 E_313 C34 q_313
else
cal1 (fW_digest a0 9 v15_32 C34) fun (r39 : Int) (C40 : Cd) =>
bnd (fun (t0_354 : Int) (E_354 : Rw) (C_354 : Cd) (q_354 : (Nat → Nat)) =>
fW_isWiki_354 J395 J358 r39 t0_354 E_354 C_354 q_354) fun J354 =>
if w32 t0_106 = 0 then
J354 1 E_313 C40 q_313
else
if inR v15_32 (wLen 7) then
J354 (E_313 7 (ix v15_32)) E_313 C40 q_313
else none
def fW_isWiki_266 (a0 : Nat) (a10 : Int) (y4 : Nat) (L32 : Int → Int → Int → Int → Rw → Cd → (Nat → Nat) → Option (Int × S3)) (v14_32 : Int) (v15_32 : Int) (r15 : Int) (r19 : Int) (t0_106 : Int) (x13_121 : Int) (t0_266 : Int) (E_266 : Rw) (C_266 : Cd) (q_266 : (Nat → Nat)) : Option (Int × S3) :=
bnd (fun (v12_433 : Int) (E_433 : Rw) (C_433 : Cd) (q_433 : (Nat → Nat)) =>
fW_isWiki_433 a0 L32 v14_32 v15_32 r15 x13_121 v12_433 E_433 C_433 q_433) fun J433 =>
if w32 t0_266 = 0 then
J433 t0_266 E_266 C_266 q_266
else
if w32 r15 < 0 then
J433 t0_266 E_266 C_266 q_266
else
if isO C_266 a0 14 then calt (fX11_isStale a0 v15_32 C_266) fun (r27 : Int) (C28 : Cd) =>
bnd (fun (t0_396 : Int) (E_396 : Rw) (C_396 : Cd) (q_396 : (Nat → Nat)) =>
fW_isWiki_396 a0 v15_32 r15 J433 t0_396 E_396 C_396 q_396) fun J396 =>
bnd (fun (E_395 : Rw) (C_395 : Cd) (q_395 : (Nat → Nat)) =>
fW_isWiki_395 J396 E_395 C_395 q_395) fun J395 =>
if ¬ w32 r27 = w32 r19 then
J395 E_266 C28 q_266
else
bnd (fun (t0_313 : Int) (E_313 : Rw) (C_313 : Cd) (q_313 : (Nat → Nat)) =>
fW_isWiki_313 a0 a10 y4 v15_32 t0_106 J396 J395 t0_313 E_313 C_313 q_313) fun J313 =>
if w32 t0_106 = 0 then
J313 0 E_266 C28 q_266
else
if inR ((7 * v15_32) + 1) (wLen 6) then
J313 (E_266 6 (ix ((7 * v15_32) + 1))) E_266 C28 q_266
else none
else none
def fW_isWiki_265 (J266 : Int → Rw → Cd → (Nat → Nat) → Option (Int × S3)) (E_265 : Rw) (C_265 : Cd) (q_265 : (Nat → Nat)) : Option (Int × S3) :=
J266 0 E_265 C_265 q_265
def fW_isWiki_258 (J266 : Int → Rw → Cd → (Nat → Nat) → Option (Int × S3)) (J265 : Rw → Cd → (Nat → Nat) → Option (Int × S3)) (r50 : Int) (t0_258 : Int) (E_258 : Rw) (C_258 : Cd) (q_258 : (Nat → Nat)) : Option (Int × S3) :=
if ¬ w32 r50 = w32 t0_258 then
J265 E_258 C_258 q_258
else
J266 1 E_258 C_258 q_258
def fW_isWiki_229 (a0 : Nat) (v15_32 : Int) (t0_106 : Int) (J266 : Int → Rw → Cd → (Nat → Nat) → Option (Int × S3)) (J265 : Rw → Cd → (Nat → Nat) → Option (Int × S3)) (r48 : Int) (t0_229 : Int) (E_229 : Rw) (C_229 : Cd) (q_229 : (Nat → Nat)) : Option (Int × S3) :=
if ¬ w32 r48 = w32 t0_229 then
J265 E_229 C_229 q_229
else
if isO C_229 a0 14 then calt (fX11_linked a0 v15_32 2 C_229) fun (r50 : Int) (C51 : Cd) =>
bnd (fun (t0_258 : Int) (E_258 : Rw) (C_258 : Cd) (q_258 : (Nat → Nat)) =>
fW_isWiki_258 J266 J265 r50 t0_258 E_258 C_258 q_258) fun J258 =>
if w32 t0_106 = 0 then
J258 0 E_229 C51 q_229
else
if inR ((7 * v15_32) + 3) (wLen 6) then
J258 (E_229 6 (ix ((7 * v15_32) + 3))) E_229 C51 q_229
else none
else none
def fW_isWiki_166 (a0 : Nat) (y4 : Nat) (v15_32 : Int) (v17_57 : Int) (t0_106 : Int) (J266 : Int → Rw → Cd → (Nat → Nat) → Option (Int × S3)) (J265 : Rw → Cd → (Nat → Nat) → Option (Int × S3)) (E_166 : Rw) (C_166 : Cd) (q_166 : (Nat → Nat)) : Option (Int × S3) :=
cal1 (fW_does a0 12 v15_32 v17_57 0 C_166) fun (r41 : Int) (C42 : Cd) =>
if ¬ w32 r41 = w32 (-11) then
J265 E_166 C42 q_166
else
if isO C42 a0 14 then calt (fX11_leads a0 v15_32 C42) fun (r43 : Int) (C44 : Cd) =>
if q_166 11 = y4 ∧ ¬ q_166 11 = 0 then
cal1 (fW_way 11 v15_32 E_166) fun (r45 : Int) (E47 : Rw) =>
if ¬ w32 r43 = w32 r45 then
J265 E47 C44 q_166
else
if isO C44 a0 14 then calt (fX11_linked a0 v15_32 0 C44) fun (r48 : Int) (C49 : Cd) =>
bnd (fun (t0_229 : Int) (E_229 : Rw) (C_229 : Cd) (q_229 : (Nat → Nat)) =>
fW_isWiki_229 a0 v15_32 t0_106 J266 J265 r48 t0_229 E_229 C_229 q_229) fun J229 =>
if w32 t0_106 = 0 then
J229 0 E47 C49 q_166
else
if inR ((7 * v15_32) + 2) (wLen 6) then
J229 (E47 6 (ix ((7 * v15_32) + 2))) E47 C49 q_166
else none
else none
else none
else none
def fW_isWiki_120 (a0 : Nat) (a10 : Int) (y4 : Nat) (L32 : Int → Int → Int → Int → Rw → Cd → (Nat → Nat) → Option (Int × S3)) (v13_32 : Int) (v14_32 : Int) (v15_32 : Int) (r15 : Int) (v17_57 : Int) (r19 : Int) (t0_106 : Int) (t0_120 : Int) (E_120 : Rw) (C_120 : Cd) (q_120 : (Nat → Nat)) : Option (Int × S3) :=
bnd (v13_32 + t0_120) fun (x13_121 : Int) =>
if isO C_120 a0 14 then calt (fX11_versions a0 v15_32 C_120) fun (r21 : Int) (C22 : Cd) =>
bnd (fun (t0_266 : Int) (E_266 : Rw) (C_266 : Cd) (q_266 : (Nat → Nat)) =>
fW_isWiki_266 a0 a10 y4 L32 v14_32 v15_32 r15 r19 t0_106 x13_121 t0_266 E_266 C_266 q_266) fun J266 =>
bnd (fun (E_265 : Rw) (C_265 : Cd) (q_265 : (Nat → Nat)) =>
fW_isWiki_265 J266 E_265 C_265 q_265) fun J265 =>
if ¬ w32 r21 = w32 v17_57 then
J265 E_120 C22 q_120
else
bnd (fun (E_166 : Rw) (C_166 : Cd) (q_166 : (Nat → Nat)) =>
fW_isWiki_166 a0 y4 v15_32 v17_57 t0_106 J266 J265 E_166 C_166 q_166) fun J166 =>
if w32 v17_57 = 0 then
J166 E_120 C22 q_120
else
if w32 v17_57 = 0 then none else
if isO C22 a0 14 then calt (fX11_versionAt a0 v15_32 (remI a10 v17_57) C22) fun (r52 : Int) (C53 : Cd) =>
if w32 v17_57 = 0 then none else
cal1 (fW_versionOf v15_32 (remI a10 v17_57) E_120) fun (r54 : Int) (E55 : Rw) =>
if ¬ w32 r52 = w32 r54 then
J265 E55 C53 q_120
else
J166 E55 C53 q_120
else none
else none
def fW_isWiki_106 (a0 : Nat) (a10 : Int) (y4 : Nat) (L32 : Int → Int → Int → Int → Rw → Cd → (Nat → Nat) → Option (Int × S3)) (v13_32 : Int) (v14_32 : Int) (v15_32 : Int) (r15 : Int) (v17_57 : Int) (r19 : Int) (t0_106 : Int) (E_106 : Rw) (C_106 : Cd) (q_106 : (Nat → Nat)) : Option (Int × S3) :=
bnd (fun (t0_120 : Int) (E_120 : Rw) (C_120 : Cd) (q_120 : (Nat → Nat)) =>
fW_isWiki_120 a0 a10 y4 L32 v13_32 v14_32 v15_32 r15 v17_57 r19 t0_106 t0_120 E_120 C_120 q_120) fun J120 =>
if w32 r19 = 0 then
J120 0 E_106 C_106 q_106
else
J120 1 E_106 C_106 q_106
def fW_isWiki_57 (a0 : Nat) (a10 : Int) (y4 : Nat) (L32 : Int → Int → Int → Int → Rw → Cd → (Nat → Nat) → Option (Int × S3)) (v13_32 : Int) (v14_32 : Int) (v15_32 : Int) (r15 : Int) (L57 : Int → Rw → Cd → (Nat → Nat) → Option (Int × S3)) (v17_57 : Int) (E_57 : Rw) (C_57 : Cd) (q_57 : (Nat → Nat)) : Option (Int × S3) :=
cal1 (fW_versionOf v15_32 v17_57 E_57) fun (r17 : Int) (E18 : Rw) =>
if w32 r17 < 0 then
cal1 (fW_isStale v15_32 E18) fun (r19 : Int) (E20 : Rw) =>
if inR (7 * v15_32) (wLen 6) then
bnd (fun (t0_106 : Int) (E_106 : Rw) (C_106 : Cd) (q_106 : (Nat → Nat)) =>
fW_isWiki_106 a0 a10 y4 L32 v13_32 v14_32 v15_32 r15 v17_57 r19 t0_106 E_106 C_106 q_106) fun J106 =>
if w32 (E20 6 (ix (7 * v15_32))) ≤ 0 then
J106 0 E20 C_57 q_57
else
J106 1 E20 C_57 q_57
else none
else
L57 (v17_57 + 1) E18 C_57 q_57
def fW_isWiki_32 (a0 : Nat) (a10 : Int) (y4 : Nat) (L32 : Int → Int → Int → Int → Rw → Cd → (Nat → Nat) → Option (Int × S3)) (v12_32 : Int) (v13_32 : Int) (v14_32 : Int) (v15_32 : Int) (E_32 : Rw) (C_32 : Cd) (q_32 : (Nat → Nat)) : Option (Int × S3) :=
bnd (fun (E_650 : Rw) (C_650 : Cd) (q_650 : (Nat → Nat)) =>
fW_isWiki_650 a0 v12_32 v13_32 v14_32 E_650 C_650 q_650) fun J650 =>
if w32 8 ≤ w32 v15_32 then
J650 E_32 C_32 q_32
else
if w32 v12_32 = 0 then
J650 E_32 C_32 q_32
else
cal1 (fW_present v15_32 E_32) fun (r15 : Int) (E16 : Rw) =>
bnd (lpn (fun (_ : Int) (_ : Rw) (_ : Cd) (_ : (Nat → Nat)) => (none : Option (Int × S3))) (fun L57 (v17_57 : Int) (E_57 : Rw) (C_57 : Cd) (q_57 : (Nat → Nat)) =>
fW_isWiki_57 a0 a10 y4 L32 v13_32 v14_32 v15_32 r15 L57 v17_57 E_57 C_57 q_57) FU) fun J57 =>
J57 0 E16 C_32 q_32
def fW_isWiki_21 (a0 : Nat) (a10 : Int) (y4 : Nat) (t0_21 : Int) (E_21 : Rw) (C_21 : Cd) (q_21 : (Nat → Nat)) : Option (Int × S3) :=
bnd (lpn (fun (_ : Int) (_ : Int) (_ : Int) (_ : Int) (_ : Rw) (_ : Cd) (_ : (Nat → Nat)) => (none : Option (Int × S3))) (fun L32 (v12_32 : Int) (v13_32 : Int) (v14_32 : Int) (v15_32 : Int) (E_32 : Rw) (C_32 : Cd) (q_32 : (Nat → Nat)) =>
fW_isWiki_32 a0 a10 y4 L32 v12_32 v13_32 v14_32 v15_32 E_32 C_32 q_32) FU) fun J32 =>
J32 t0_21 0 0 0 E_21 C_21 q_21
def fW_isWiki (a0 : Nat) (a10 : Int) (E : Rw) (C : Cd) (q : (Nat → Nat)) : Option (Int × S3) :=
bnd4 (zRow E 11) (cBumpA C 8) (setq q 11 (csz C)) (csz C) fun (E1 : Rw) (C2 : Cd) (q3 : Nat → Nat) (y4 : Nat) =>
if isO C2 a0 14 then cal1 (fX11_clock a0 C2) fun (r5 : Int) (C6 : Cd) =>
if inR 2 (wLen 0) then
bnd (fun (t0_21 : Int) (E_21 : Rw) (C_21 : Cd) (q_21 : (Nat → Nat)) =>
fW_isWiki_21 a0 a10 y4 t0_21 E_21 C_21 q_21) fun J21 =>
if ¬ w32 r5 = w32 (E1 0 (ix 2)) then
J21 0 E1 C6 q3
else
J21 1 E1 C6 q3
else none
else none
def fW_sections (a0 : Int)  : Option (Int × Unit) :=
bnd (lpn (fun (_ : Int) (_ : Int) => (none : Option (Int × Unit))) (fun L4 (v2_4 : Int) (v3_4 : Int) =>
cal1 (fW_macros a0) fun (r1 : Int) _ =>
if w32 r1 ≤ w32 v3_4 then
some (v2_4, ())
else
cal1 (fW_macro a0 v3_4) fun (r2 : Int) _ =>
bnd (fun (t0_30 : Int) =>
bnd (v2_4 + t0_30) fun (x2_31 : Int) =>
L4 x2_31 (v3_4 + 1)) fun J30 =>
if ¬ w32 (remI r2 16) = w32 4 then
J30 0
else
J30 1) FU) fun J4 =>
J4 1 0
def fW_section (a0 : Int) (a2 : Int)  : Option (Int × Unit) :=
bnd (lpn (fun (_ : Int) (_ : Int) (_ : Int) => (none : Option (Int × Unit))) (fun L8 (v3_8 : Int) (v5_8 : Int) (v6_8 : Int) =>
cal1 (fW_macros a0) fun (r1 : Int) _ =>
if w32 r1 ≤ w32 v6_8 then
some (v3_8, ())
else
cal1 (fW_macro a0 v6_8) fun (r2 : Int) _ =>
bnd (fun (t0_37 : Int) =>
bnd (v5_8 + t0_37) fun (x5_38 : Int) =>
bnd (fun (t0_62 : Int) =>
L8 t0_62 x5_38 (v6_8 + 1)) fun J62 =>
if ¬ w32 x5_38 = w32 a2 then
J62 v3_8
else
cal1 (fW_macro a0 v6_8) fun (r3 : Int) _ =>
J62 (lorI (lshlI v3_8 10) (w32 r3))) fun J37 =>
if ¬ w32 (remI r2 16) = w32 4 then
J37 0
else
J37 1) FU) fun J8 =>
J8 1 0 0
def fW_with (a0 : Int) (a2 : Int) (a3 : Int)  : Option (Int × Unit) :=
bnd (lpn (fun (_ : Int) (_ : Int) => (none : Option (Int × Unit))) (fun L6 (v5_6 : Int) (v7_6 : Int) =>
cal1 (fW_sections a0) fun (r1 : Int) _ =>
if w32 r1 ≤ w32 v7_6 then
some (v5_6, ())
else
bnd (fun (t0_33 : Int) =>
cal1 (fW_behind v5_6 t0_33) fun (r2 : Int) _ =>
L6 r2 (v7_6 + 1)) fun J33 =>
if ¬ w32 v7_6 = w32 a2 then
cal1 (fW_section a0 v7_6) fun (r3 : Int) _ =>
J33 r3
else
J33 a3) FU) fun J6 =>
J6 1 0
def fW_merged_26   : Option (Int × Unit) :=
some (0, ())
def fW_merged_108 (L31 : Int → Int → Option (Int × Unit)) (v6_31 : Int) (v8_31 : Int) (t0_108 : Int) : Option (Int × Unit) :=
cal1 (fW_behind v6_31 t0_108) fun (r9 : Int) _ =>
L31 r9 (v8_31 + 1)
def fW_merged_91 (L31 : Int → Int → Option (Int × Unit)) (v6_31 : Int) (v8_31 : Int) (r6 : Int) (r7 : Int) (r8 : Int)  : Option (Int × Unit) :=
bnd (fun (t0_108 : Int) =>
fW_merged_108 L31 v6_31 v8_31 t0_108) fun J108 =>
if ¬ w32 (lcmpI r6 r7) = 0 then
J108 r6
else
J108 r8
def fW_merged_31 (a0 : Int) (a2 : Int) (a4 : Int) (L31 : Int → Int → Option (Int × Unit)) (v6_31 : Int) (v8_31 : Int) : Option (Int × Unit) :=
cal1 (fW_sections a2) fun (r5 : Int) _ =>
if w32 r5 ≤ w32 v8_31 then
some (v6_31, ())
else
cal1 (fW_section a0 v8_31) fun (r6 : Int) _ =>
cal1 (fW_section a2 v8_31) fun (r7 : Int) _ =>
cal1 (fW_section a4 v8_31) fun (r8 : Int) _ =>
bnd (
fW_merged_91 L31 v6_31 v8_31 r6 r7 r8) fun J91 =>
if w32 (lcmpI r6 r7) = 0 then
J91
else
if w32 (lcmpI r8 r7) = 0 then
J91
else
if w32 (lcmpI r8 r6) = 0 then
J91
else
some (0, ())
def fW_merged (a0 : Int) (a2 : Int) (a4 : Int)  : Option (Int × Unit) :=
cal1 (fW_sections a0) fun (r1 : Int) _ =>
cal1 (fW_sections a2) fun (r2 : Int) _ =>
bnd (
fW_merged_26) fun J26 =>
if ¬ w32 r1 = w32 r2 then
J26
else
cal1 (fW_sections a0) fun (r3 : Int) _ =>
cal1 (fW_sections a4) fun (r4 : Int) _ =>
if w32 r3 = w32 r4 then
bnd (lpn (fun (_ : Int) (_ : Int) => (none : Option (Int × Unit))) (fun L31 (v6_31 : Int) (v8_31 : Int) =>
fW_merged_31 a0 a2 a4 L31 v6_31 v8_31) FU) fun J31 =>
J31 1 0
else
J26
def fW_undone_26   : Option (Int × Unit) :=
some (0, ())
def fW_undone_100 (L31 : Int → Int → Option (Int × Unit)) (v6_31 : Int) (v8_31 : Int) (t0_100 : Int) : Option (Int × Unit) :=
cal1 (fW_section t0_100 v8_31) fun (r8 : Int) _ =>
cal1 (fW_behind v6_31 r8) fun (r9 : Int) _ =>
L31 r9 (v8_31 + 1)
def fW_undone_87 (a0 : Int) (a4 : Int) (L31 : Int → Int → Option (Int × Unit)) (v6_31 : Int) (v8_31 : Int) (t0_61 : Int)  : Option (Int × Unit) :=
bnd (fun (t0_100 : Int) =>
fW_undone_100 L31 v6_31 v8_31 t0_100) fun J100 =>
if w32 t0_61 = 0 then
J100 a4
else
J100 a0
def fW_undone_61 (a0 : Int) (a2 : Int) (a4 : Int) (L31 : Int → Int → Option (Int × Unit)) (v6_31 : Int) (v8_31 : Int) (t0_61 : Int) : Option (Int × Unit) :=
bnd (
fW_undone_87 a0 a4 L31 v6_31 v8_31 t0_61) fun J87 =>
if w32 t0_61 = 0 then
J87
else
cal1 (fW_section a4 v8_31) fun (r10 : Int) _ =>
cal1 (fW_section a2 v8_31) fun (r11 : Int) _ =>
if w32 (lcmpI r10 r11) = 0 then
J87
else
some (0, ())
def fW_undone_31 (a0 : Int) (a2 : Int) (a4 : Int) (L31 : Int → Int → Option (Int × Unit)) (v6_31 : Int) (v8_31 : Int) : Option (Int × Unit) :=
cal1 (fW_sections a2) fun (r5 : Int) _ =>
if w32 r5 ≤ w32 v8_31 then
some (v6_31, ())
else
cal1 (fW_section a0 v8_31) fun (r6 : Int) _ =>
cal1 (fW_section a2 v8_31) fun (r7 : Int) _ =>
bnd (fun (t0_61 : Int) =>
fW_undone_61 a0 a2 a4 L31 v6_31 v8_31 t0_61) fun J61 =>
if w32 (lcmpI r6 r7) = 0 then
J61 0
else
J61 1
def fW_undone (a0 : Int) (a2 : Int) (a4 : Int)  : Option (Int × Unit) :=
cal1 (fW_sections a0) fun (r1 : Int) _ =>
cal1 (fW_sections a2) fun (r2 : Int) _ =>
bnd (
fW_undone_26) fun J26 =>
if ¬ w32 r1 = w32 r2 then
J26
else
cal1 (fW_sections a0) fun (r3 : Int) _ =>
cal1 (fW_sections a4) fun (r4 : Int) _ =>
if w32 r3 = w32 r4 then
bnd (lpn (fun (_ : Int) (_ : Int) => (none : Option (Int × Unit))) (fun L31 (v6_31 : Int) (v8_31 : Int) =>
fW_undone_31 a0 a2 a4 L31 v6_31 v8_31) FU) fun J31 =>
J31 1 0
else
J26
def fW_next  (E : Rw) : Option (Int × Rw) :=
bnd (lpn (fun (_ : Int) (_ : Int) (_ : Rw) => (none : Option (Int × Rw))) (fun L6 (v4_6 : Int) (v5_6 : Int) (E_6 : Rw) =>
if w32 8 ≤ w32 v5_6 then
some (v4_6, E_6)
else
cal1 (fW_isStale v5_6 E_6) fun (r1 : Int) (E2 : Rw) =>
bnd (fun (t0_60 : Int) (E_60 : Rw) =>
L6 t0_60 (v5_6 + 1) E_60) fun J60 =>
bnd (fun (E_58 : Rw) =>
J60 v4_6 E_58) fun J58 =>
if w32 r1 = 0 then
J58 E2
else
bnd (fun (E_53 : Rw) =>
J60 v5_6 E_53) fun J53 =>
if w32 v4_6 < 0 then
J53 E2
else
if inR ((7 * v5_6) + 6) (wLen 6) then
if inR ((7 * v4_6) + 6) (wLen 6) then
if w32 (E2 6 (ix ((7 * v5_6) + 6))) ≤ w32 (E2 6 (ix ((7 * v4_6) + 6))) then
J58 E2
else
J53 E2
else none
else none) FU) fun J6 =>
J6 (-1) 0 E
def fW_rendered (a8 : Int) (E : Rw) (C : Cd) (q : (Nat → Nat)) : Option (Unit × S3) :=
if inR 3 (wLen 0) then
bnd (E 0 (ix 3)) fun (x9_3 : Int) =>
cal3 (fW_renders3 10 a8 E C q) fun (r1 : Int) (E2 : Rw) (C3 : Cd) (q4 : (Nat → Nat)) =>
if inR a8 (wLen 7) then bnd (wPut E2 7 (ix a8) r1) fun (E5 : Rw) =>
if inR 2 (wLen 10) then
cal1 (fW_sets a8 (E5 10 (ix 2)) E5) fun (r6 : Unit) (E7 : Rw) =>
if inR (7 * a8) (wLen 6) then bnd (wPut E7 6 (ix (7 * a8)) (x9_3 + 1)) fun (E8 : Rw) =>
if inR 4 (wLen 10) then
if inR ((7 * a8) + 1) (wLen 6) then bnd (wPut E8 6 (ix ((7 * a8) + 1)) (E8 10 (ix 4))) fun (E9 : Rw) =>
if inR 0 (wLen 10) then
if inR ((7 * a8) + 2) (wLen 6) then bnd (wPut E9 6 (ix ((7 * a8) + 2)) (E9 10 (ix 0))) fun (E10 : Rw) =>
if inR 1 (wLen 10) then
if inR ((7 * a8) + 3) (wLen 6) then bnd (wPut E10 6 (ix ((7 * a8) + 3)) (E10 10 (ix 1))) fun (E11 : Rw) =>
if inR 3 (wLen 10) then
if inR ((7 * a8) + 5) (wLen 6) then bnd (wPut E11 6 (ix ((7 * a8) + 5)) (E11 10 (ix 3))) fun (E12 : Rw) =>
some ((), (E12, C3, q4))
else none
else none
else none
else none
else none
else none
else none
else none
else none
else none
else none
else none
def fW_law_1885  (t0_1885 : Int) (E_1885 : Rw) (C_1885 : Cd) (q_1885 : (Nat → Nat)) : Option (Int × S3) :=
retZ t0_1885 (E_1885, C_1885, q_1885)
def fW_law_1884 (J1885 : Int → Rw → Cd → (Nat → Nat) → Option (Int × S3)) (E_1884 : Rw) (C_1884 : Cd) (q_1884 : (Nat → Nat)) : Option (Int × S3) :=
J1885 0 E_1884 C_1884 q_1884
def fW_law_1850 (a1 : Nat) (v13_97 : Int) (E_1850 : Rw) (C_1850 : Cd) (q_1850 : (Nat → Nat)) : Option (Int × S3) :=
bnd (fun (t0_1885 : Int) (E_1885 : Rw) (C_1885 : Cd) (q_1885 : (Nat → Nat)) =>
fW_law_1885 t0_1885 E_1885 C_1885 q_1885) fun J1885 =>
bnd (fun (E_1884 : Rw) (C_1884 : Cd) (q_1884 : (Nat → Nat)) =>
fW_law_1884 J1885 E_1884 C_1884 q_1884) fun J1884 =>
if w32 v13_97 = 0 then
J1884 E_1850 C_1850 q_1850
else
cal3 (fW_isWiki a1 13 E_1850 C_1850 q_1850) fun (r5 : Int) (E6 : Rw) (C7 : Cd) (q8 : (Nat → Nat)) =>
if w32 r5 = 0 then
J1884 E6 C7 q8
else
J1885 1 E6 C7 q8
def fW_law_1842 (L97 : Int → Int → Rw → Cd → (Nat → Nat) → Option (Int × S3)) (v14_97 : Int) (t0_1842 : Int) (E_1842 : Rw) (C_1842 : Cd) (q_1842 : (Nat → Nat)) : Option (Int × S3) :=
L97 t0_1842 (v14_97 + 1) E_1842 C_1842 q_1842
def fW_law_1841 (J1842 : Int → Rw → Cd → (Nat → Nat) → Option (Int × S3)) (E_1841 : Rw) (C_1841 : Cd) (q_1841 : (Nat → Nat)) : Option (Int × S3) :=
J1842 0 E_1841 C_1841 q_1841
def fW_law_1837 (J1842 : Int → Rw → Cd → (Nat → Nat) → Option (Int × S3)) (E_1837 : Rw) (C_1837 : Cd) (q_1837 : (Nat → Nat)) : Option (Int × S3) :=
J1842 1 E_1837 C_1837 q_1837
def fW_law_1788 (a1 : Nat) (L97 : Int → Int → Rw → Cd → (Nat → Nat) → Option (Int × S3)) (v14_97 : Int) (x17_171 : Int) (v13_1788 : Int) (E_1788 : Rw) (C_1788 : Cd) (q_1788 : (Nat → Nat)) : Option (Int × S3) :=
cal1 (fW_settles E_1788) fun (r12 : Unit) (E13 : Rw) =>
bnd (fun (t0_1842 : Int) (E_1842 : Rw) (C_1842 : Cd) (q_1842 : (Nat → Nat)) =>
fW_law_1842 L97 v14_97 t0_1842 E_1842 C_1842 q_1842) fun J1842 =>
bnd (fun (E_1841 : Rw) (C_1841 : Cd) (q_1841 : (Nat → Nat)) =>
fW_law_1841 J1842 E_1841 C_1841 q_1841) fun J1841 =>
if w32 v13_1788 = 0 then
J1841 E13 C_1788 q_1788
else
bnd (fun (E_1837 : Rw) (C_1837 : Cd) (q_1837 : (Nat → Nat)) =>
fW_law_1837 J1842 E_1837 C_1837 q_1837) fun J1837 =>
if w32 (remI v14_97 5) < w32 4 then
J1837 E13 C_1788 q_1788
else
cal3 (fW_isWiki a1 x17_171 E13 C_1788 q_1788) fun (r14 : Int) (E15 : Rw) (C16 : Cd) (q17 : (Nat → Nat)) =>
if w32 r14 = 0 then
J1841 E15 C16 q17
else
J1837 E15 C16 q17
def fW_law_1787 (t0_189 : Int) (J1788 : Int → Rw → Cd → (Nat → Nat) → Option (Int × S3)) (x24_1634 : Int) (t0_1712 : Int) (t0_1787 : Int) (E_1787 : Rw) (C_1787 : Cd) (q_1787 : (Nat → Nat)) : Option (Int × S3) :=
if inR ((16 + t0_189) + (8 * x24_1634)) (wLen 9) then bnd (wPut E_1787 9 (ix ((16 + t0_189) + (8 * x24_1634))) t0_1787) fun (E21 : Rw) =>
J1788 t0_1712 E21 C_1787 q_1787
else none
def fW_law_1747 (t0_189 : Int) (r9 : Int) (J1788 : Int → Rw → Cd → (Nat → Nat) → Option (Int × S3)) (x24_1634 : Int) (t0_1653 : Int) (t0_1712 : Int) (t0_1747 : Int) (E_1747 : Rw) (C_1747 : Cd) (q_1747 : (Nat → Nat)) : Option (Int × S3) :=
if inR (t0_189 + (8 * x24_1634)) (wLen 9) then bnd (wPut E_1747 9 (ix (t0_189 + (8 * x24_1634))) t0_1747) fun (E20 : Rw) =>
bnd (fun (t0_1787 : Int) (E_1787 : Rw) (C_1787 : Cd) (q_1787 : (Nat → Nat)) =>
fW_law_1787 t0_189 J1788 x24_1634 t0_1712 t0_1787 E_1787 C_1787 q_1787) fun J1787 =>
if w32 t0_1653 = 0 then
if inR ((16 + t0_189) + (8 * x24_1634)) (wLen 9) then
J1787 (E20 9 (ix ((16 + t0_189) + (8 * x24_1634)))) E20 C_1747 q_1747
else none
else
J1787 (r9 + 1) E20 C_1747 q_1747
else none
def fW_law_1712 (t0_189 : Int) (r9 : Int) (x23_234 : Int) (J1788 : Int → Rw → Cd → (Nat → Nat) → Option (Int × S3)) (x24_1634 : Int) (t0_1653 : Int) (t0_1712 : Int) (E_1712 : Rw) (C_1712 : Cd) (q_1712 : (Nat → Nat)) : Option (Int × S3) :=
bnd (fun (t0_1747 : Int) (E_1747 : Rw) (C_1747 : Cd) (q_1747 : (Nat → Nat)) =>
fW_law_1747 t0_189 r9 J1788 x24_1634 t0_1653 t0_1712 t0_1747 E_1747 C_1747 q_1747) fun J1747 =>
if w32 t0_1653 = 0 then
if inR (t0_189 + (8 * x24_1634)) (wLen 9) then
J1747 (E_1712 9 (ix (t0_189 + (8 * x24_1634)))) E_1712 C_1712 q_1712
else none
else
J1747 (x23_234 + 1) E_1712 C_1712 q_1712
def fW_law_1704 (t0_189 : Int) (r9 : Int) (x23_234 : Int) (J1788 : Int → Rw → Cd → (Nat → Nat) → Option (Int × S3)) (x24_1634 : Int) (t0_1653 : Int) (r18 : Int) (t0_1704 : Int) (E_1704 : Rw) (C_1704 : Cd) (q_1704 : (Nat → Nat)) : Option (Int × S3) :=
bnd (fun (t0_1712 : Int) (E_1712 : Rw) (C_1712 : Cd) (q_1712 : (Nat → Nat)) =>
fW_law_1712 t0_189 r9 x23_234 J1788 x24_1634 t0_1653 t0_1712 E_1712 C_1712 q_1712) fun J1712 =>
if ¬ w32 r18 = w32 t0_1704 then
J1712 0 E_1704 C_1704 q_1704
else
J1712 1 E_1704 C_1704 q_1704
def fW_law_1653 (a1 : Nat) (t0_189 : Int) (t0_203 : Int) (r9 : Int) (x23_234 : Int) (J1788 : Int → Rw → Cd → (Nat → Nat) → Option (Int × S3)) (x24_1634 : Int) (t0_1653 : Int) (E_1653 : Rw) (C_1653 : Cd) (q_1653 : (Nat → Nat)) : Option (Int × S3) :=
cal1 (fW_does a1 8 t0_189 (x24_1634 + 1) x23_234 C_1653) fun (r18 : Int) (C19 : Cd) =>
bnd (fun (t0_1704 : Int) (E_1704 : Rw) (C_1704 : Cd) (q_1704 : (Nat → Nat)) =>
fW_law_1704 t0_189 r9 x23_234 J1788 x24_1634 t0_1653 r18 t0_1704 E_1704 C_1704 q_1704) fun J1704 =>
if ¬ w32 t0_203 = 0 then
if ¬ w32 x23_234 = w32 t0_189 then
if inR (t0_189 + (8 * x24_1634)) (wLen 9) then
J1704 ((E_1653 9 (ix (t0_189 + (8 * x24_1634)))) - 1) E_1653 C19 q_1653
else none
else
J1704 (-12) E_1653 C19 q_1653
else
J1704 (-11) E_1653 C19 q_1653
def fW_law_1652 (J1653 : Int → Rw → Cd → (Nat → Nat) → Option (Int × S3)) (E_1652 : Rw) (C_1652 : Cd) (q_1652 : (Nat → Nat)) : Option (Int × S3) :=
J1653 0 E_1652 C_1652 q_1652
def fW_law_1609 (t0_189 : Int) (J1788 : Int → Rw → Cd → (Nat → Nat) → Option (Int × S3)) (x24_1580 : Int) (t0_1609 : Int) (E_1609 : Rw) (C_1609 : Cd) (q_1609 : (Nat → Nat)) : Option (Int × S3) :=
if inR ((7 * t0_189) + 6) (wLen 6) then bnd (wPut E_1609 6 (ix ((7 * t0_189) + 6)) x24_1580) fun (E24 : Rw) =>
J1788 t0_1609 E24 C_1609 q_1609
else none
def fW_law_1560 (J1788 : Int → Rw → Cd → (Nat → Nat) → Option (Int × S3)) (t0_1560 : Int) (E_1560 : Rw) (C_1560 : Cd) (q_1560 : (Nat → Nat)) : Option (Int × S3) :=
J1788 t0_1560 E_1560 C_1560 q_1560
def fW_law_1552 (J1788 : Int → Rw → Cd → (Nat → Nat) → Option (Int × S3)) (r25 : Int) (t0_1552 : Int) (E_1552 : Rw) (C_1552 : Cd) (q_1552 : (Nat → Nat)) : Option (Int × S3) :=
bnd (fun (t0_1560 : Int) (E_1560 : Rw) (C_1560 : Cd) (q_1560 : (Nat → Nat)) =>
fW_law_1560 J1788 t0_1560 E_1560 C_1560 q_1560) fun J1560 =>
if ¬ w32 r25 = w32 t0_1552 then
J1560 0 E_1552 C_1552 q_1552
else
J1560 1 E_1552 C_1552 q_1552
def fW_law_1528 (a1 : Nat) (t0_189 : Int) (t0_203 : Int) (J1788 : Int → Rw → Cd → (Nat → Nat) → Option (Int × S3)) (t0_1528 : Int) (E_1528 : Rw) (C_1528 : Cd) (q_1528 : (Nat → Nat)) : Option (Int × S3) :=
cal1 (fW_does a1 7 t0_189 t0_1528 0 C_1528) fun (r25 : Int) (C26 : Cd) =>
bnd (fun (t0_1552 : Int) (E_1552 : Rw) (C_1552 : Cd) (q_1552 : (Nat → Nat)) =>
fW_law_1552 J1788 r25 t0_1552 E_1552 C_1552 q_1552) fun J1552 =>
if w32 t0_203 = 0 then
J1552 (-11) E_1528 C26 q_1528
else
if inR ((7 * t0_189) + 1) (wLen 6) then
J1552 (E_1528 6 (ix ((7 * t0_189) + 1))) E_1528 C26 q_1528
else none
def fW_law_1513 (a1 : Nat) (t0_189 : Int) (t0_203 : Int) (J1788 : Int → Rw → Cd → (Nat → Nat) → Option (Int × S3)) (t0_1456 : Int) (E_1513 : Rw) (C_1513 : Cd) (q_1513 : (Nat → Nat)) : Option (Int × S3) :=
bnd (fun (t0_1528 : Int) (E_1528 : Rw) (C_1528 : Cd) (q_1528 : (Nat → Nat)) =>
fW_law_1528 a1 t0_189 t0_203 J1788 t0_1528 E_1528 C_1528 q_1528) fun J1528 =>
if w32 t0_1456 = 0 then
J1528 0 E_1513 C_1513 q_1513
else
J1528 1 E_1513 C_1513 q_1513
def fW_law_1494 (t0_189 : Int) (J1513 : Rw → Cd → (Nat → Nat) → Option (Int × S3)) (E_1494 : Rw) (C_1494 : Cd) (q_1494 : (Nat → Nat)) : Option (Int × S3) :=
cal3 (fW_rendered t0_189 E_1494 C_1494 q_1494) fun (r27 : Unit) (E28 : Rw) (C29 : Cd) (q30 : (Nat → Nat)) =>
J1513 E28 C29 q30
def fW_law_1456 (a1 : Nat) (t0_189 : Int) (t0_203 : Int) (J1788 : Int → Rw → Cd → (Nat → Nat) → Option (Int × S3)) (t0_1456 : Int) (E_1456 : Rw) (C_1456 : Cd) (q_1456 : (Nat → Nat)) : Option (Int × S3) :=
bnd (fun (E_1513 : Rw) (C_1513 : Cd) (q_1513 : (Nat → Nat)) =>
fW_law_1513 a1 t0_189 t0_203 J1788 t0_1456 E_1513 C_1513 q_1513) fun J1513 =>
if w32 t0_203 = 0 then
J1513 E_1456 C_1456 q_1456
else
if inR (7 * t0_189) (wLen 6) then
bnd (fun (E_1494 : Rw) (C_1494 : Cd) (q_1494 : (Nat → Nat)) =>
fW_law_1494 t0_189 J1513 E_1494 C_1494 q_1494) fun J1494 =>
if w32 (E_1456 6 (ix (7 * t0_189))) = 0 then
J1494 E_1456 C_1456 q_1456
else
if ¬ w32 t0_1456 = 0 then
J1513 E_1456 C_1456 q_1456
else
cal1 (fW_isStale t0_189 E_1456) fun (r31 : Int) (E32 : Rw) =>
if w32 r31 = 0 then
J1513 E32 C_1456 q_1456
else
J1494 E32 C_1456 q_1456
else none
def fW_law_1429 (J1788 : Int → Rw → Cd → (Nat → Nat) → Option (Int × S3)) (t0_1429 : Int) (E_1429 : Rw) (C_1429 : Cd) (q_1429 : (Nat → Nat)) : Option (Int × S3) :=
J1788 t0_1429 E_1429 C_1429 q_1429
def fW_law_1413 (a1 : Nat) (J1788 : Int → Rw → Cd → (Nat → Nat) → Option (Int × S3)) (x24_1347 : Int) (v25_1364 : Int) (E_1413 : Rw) (C_1413 : Cd) (q_1413 : (Nat → Nat)) : Option (Int × S3) :=
if isO C_1413 a1 14 then calt (fX11_work a1 x24_1347 C_1413) fun (r35 : Int) (C36 : Cd) =>
bnd (fun (t0_1429 : Int) (E_1429 : Rw) (C_1429 : Cd) (q_1429 : (Nat → Nat)) =>
fW_law_1429 J1788 t0_1429 E_1429 C_1429 q_1429) fun J1429 =>
if ¬ w32 r35 = w32 v25_1364 then
J1429 0 E_1413 C36 q_1413
else
J1429 1 E_1413 C36 q_1413
else none
def fW_law_1364 (a1 : Nat) (J1788 : Int → Rw → Cd → (Nat → Nat) → Option (Int × S3)) (x24_1347 : Int) (L1364 : Int → Int → Rw → Cd → (Nat → Nat) → Option (Int × S3)) (v25_1364 : Int) (v26_1364 : Int) (E_1364 : Rw) (C_1364 : Cd) (q_1364 : (Nat → Nat)) : Option (Int × S3) :=
bnd (fun (E_1413 : Rw) (C_1413 : Cd) (q_1413 : (Nat → Nat)) =>
fW_law_1413 a1 J1788 x24_1347 v25_1364 E_1413 C_1413 q_1413) fun J1413 =>
if w32 v26_1364 < 0 then
J1413 E_1364 C_1364 q_1364
else
if w32 x24_1347 ≤ w32 v25_1364 then
J1413 E_1364 C_1364 q_1364
else
cal3 (fW_rendered v26_1364 E_1364 C_1364 q_1364) fun (r37 : Unit) (E38 : Rw) (C39 : Cd) (q40 : (Nat → Nat)) =>
cal1 (fW_next E38) fun (r41 : Int) (E42 : Rw) =>
L1364 (v25_1364 + 1) r41 E42 C39 q40
def fW_law_1329 (J1788 : Int → Rw → Cd → (Nat → Nat) → Option (Int × S3)) (t0_1313 : Int) (E_1313 : Rw) (t0_1329 : Int) (E_1329 : Rw) (C_1329 : Cd) (q_1329 : (Nat → Nat)) : Option (Int × S3) :=
if inR 2 (wLen 0) then bnd (wPut E_1329 0 (ix 2) ((E_1313 0 (ix 2)) + t0_1329)) fun (E45 : Rw) =>
J1788 t0_1313 E45 C_1329 q_1329
else none
def fW_law_1313 (t0_203 : Int) (J1788 : Int → Rw → Cd → (Nat → Nat) → Option (Int × S3)) (t0_1313 : Int) (E_1313 : Rw) (C_1313 : Cd) (q_1313 : (Nat → Nat)) : Option (Int × S3) :=
if inR 2 (wLen 0) then
bnd (fun (t0_1329 : Int) (E_1329 : Rw) (C_1329 : Cd) (q_1329 : (Nat → Nat)) =>
fW_law_1329 J1788 t0_1313 E_1313 t0_1329 E_1329 C_1329 q_1329) fun J1329 =>
if w32 t0_203 = 0 then
J1329 0 E_1313 C_1313 q_1313
else
J1329 1 E_1313 C_1313 q_1313
else none
def fW_law_1305 (t0_203 : Int) (J1788 : Int → Rw → Cd → (Nat → Nat) → Option (Int × S3)) (r43 : Int) (t0_1305 : Int) (E_1305 : Rw) (C_1305 : Cd) (q_1305 : (Nat → Nat)) : Option (Int × S3) :=
bnd (fun (t0_1313 : Int) (E_1313 : Rw) (C_1313 : Cd) (q_1313 : (Nat → Nat)) =>
fW_law_1313 t0_203 J1788 t0_1313 E_1313 C_1313 q_1313) fun J1313 =>
if ¬ w32 r43 = w32 t0_1305 then
J1313 0 E_1305 C_1305 q_1305
else
J1313 1 E_1305 C_1305 q_1305
def fW_law_1273 (a1 : Nat) (t0_164 : Int) (x17_171 : Int) (t0_189 : Int) (t0_203 : Int) (r9 : Int) (x23_234 : Int) (J1788 : Int → Rw → Cd → (Nat → Nat) → Option (Int × S3)) (E_1273 : Rw) (C_1273 : Cd) (q_1273 : (Nat → Nat)) : Option (Int × S3) :=
if ¬ w32 t0_164 = w32 15 then
if w32 19 ≤ w32 t0_164 then
if w32 22 ≤ w32 t0_164 then
if w32 24 ≤ w32 t0_164 then
bnd (remI (divI x17_171 64) 2) fun (x24_1634 : Int) =>
bnd (fun (t0_1653 : Int) (E_1653 : Rw) (C_1653 : Cd) (q_1653 : (Nat → Nat)) =>
fW_law_1653 a1 t0_189 t0_203 r9 x23_234 J1788 x24_1634 t0_1653 E_1653 C_1653 q_1653) fun J1653 =>
bnd (fun (E_1652 : Rw) (C_1652 : Cd) (q_1652 : (Nat → Nat)) =>
fW_law_1652 J1653 E_1652 C_1652 q_1652) fun J1652 =>
if w32 t0_203 = 0 then
J1652 E_1273 C_1273 q_1273
else
if w32 x23_234 = w32 t0_189 then
J1652 E_1273 C_1273 q_1273
else
J1653 1 E_1273 C_1273 q_1273
else
bnd (remI (divI x17_171 8) 100) fun (x24_1580 : Int) =>
if isO C_1273 a1 14 then calt (fX11_rank a1 t0_189 x24_1580 C_1273) fun (r22 : Int) (C23 : Cd) =>
if inR ((7 * t0_189) + 6) (wLen 6) then
bnd (fun (t0_1609 : Int) (E_1609 : Rw) (C_1609 : Cd) (q_1609 : (Nat → Nat)) =>
fW_law_1609 t0_189 J1788 x24_1580 t0_1609 E_1609 C_1609 q_1609) fun J1609 =>
if ¬ w32 r22 = w32 (E_1273 6 (ix ((7 * t0_189) + 6))) then
J1609 0 E_1273 C23 q_1273
else
J1609 1 E_1273 C23 q_1273
else none
else none
else
bnd (fun (t0_1456 : Int) (E_1456 : Rw) (C_1456 : Cd) (q_1456 : (Nat → Nat)) =>
fW_law_1456 a1 t0_189 t0_203 J1788 t0_1456 E_1456 C_1456 q_1456) fun J1456 =>
if ¬ w32 (remI (divI x17_171 8) 2) = 0 then
J1456 0 E_1273 C_1273 q_1273
else
J1456 1 E_1273 C_1273 q_1273
else
bnd (1 + (remI x17_171 4)) fun (x24_1347 : Int) =>
cal1 (fW_next E_1273) fun (r33 : Int) (E34 : Rw) =>
bnd (lpn (fun (_ : Int) (_ : Int) (_ : Rw) (_ : Cd) (_ : (Nat → Nat)) => (none : Option (Int × S3))) (fun L1364 (v25_1364 : Int) (v26_1364 : Int) (E_1364 : Rw) (C_1364 : Cd) (q_1364 : (Nat → Nat)) =>
fW_law_1364 a1 J1788 x24_1347 L1364 v25_1364 v26_1364 E_1364 C_1364 q_1364) FU) fun J1364 =>
J1364 0 r33 E34 C_1273 q_1273
else
cal1 (fW_does a1 6 t0_189 0 0 C_1273) fun (r43 : Int) (C44 : Cd) =>
bnd (fun (t0_1305 : Int) (E_1305 : Rw) (C_1305 : Cd) (q_1305 : (Nat → Nat)) =>
fW_law_1305 t0_203 J1788 r43 t0_1305 E_1305 C_1305 q_1305) fun J1305 =>
if w32 t0_203 = 0 then
J1305 (-11) E_1273 C44 q_1273
else
if inR 2 (wLen 0) then
J1305 ((E_1273 0 (ix 2)) + 1) E_1273 C44 q_1273
else none
def fW_law_1231 (a1 : Nat) (t0_164 : Int) (x17_171 : Int) (t0_189 : Int) (t0_203 : Int) (r9 : Int) (x23_234 : Int) (J1788 : Int → Rw → Cd → (Nat → Nat) → Option (Int × S3)) (E_1231 : Rw) (C_1231 : Cd) (q_1231 : (Nat → Nat)) : Option (Int × S3) :=
bnd (fun (E_1273 : Rw) (C_1273 : Cd) (q_1273 : (Nat → Nat)) =>
fW_law_1273 a1 t0_164 x17_171 t0_189 t0_203 r9 x23_234 J1788 E_1273 C_1273 q_1273) fun J1273 =>
if ¬ w32 t0_164 = w32 14 then
J1273 E_1231 C_1231 q_1231
else
if inR 0 (wLen 0) then
if w32 24 ≤ w32 (E_1231 0 (ix 0)) then
J1273 E_1231 C_1231 q_1231
else
cal3 (fW_isMoved a1 (remI x17_171 2) E_1231 C_1231 q_1231) fun (r46 : Int) (E47 : Rw) (C48 : Cd) (q49 : (Nat → Nat)) =>
J1788 r46 E47 C48 q49
else none
def fW_law_1228 (J1788 : Int → Rw → Cd → (Nat → Nat) → Option (Int × S3)) (t0_1141 : Int) (E_1228 : Rw) (C_1228 : Cd) (q_1228 : (Nat → Nat)) : Option (Int × S3) :=
J1788 t0_1141 E_1228 C_1228 q_1228
def fW_law_1141 (t0_189 : Int) (x23_234 : Int) (J1788 : Int → Rw → Cd → (Nat → Nat) → Option (Int × S3)) (t0_1098 : Int) (t0_1141 : Int) (E_1141 : Rw) (C_1141 : Cd) (q_1141 : (Nat → Nat)) : Option (Int × S3) :=
bnd (fun (E_1228 : Rw) (C_1228 : Cd) (q_1228 : (Nat → Nat)) =>
fW_law_1228 J1788 t0_1141 E_1228 C_1228 q_1228) fun J1228 =>
if w32 t0_1098 = 0 then
J1228 E_1141 C_1141 q_1141
else
cal1 (fW_sets t0_189 0 E_1141) fun (r52 : Unit) (E53 : Rw) =>
if inR (7 * t0_189) (wLen 6) then bnd (wPut E53 6 (ix (7 * t0_189)) 0) fun (E54 : Rw) =>
if inR t0_189 (wLen 1) then
if inR x23_234 (wLen 1) then bnd (wPut E54 1 (ix x23_234) (E54 1 (ix t0_189))) fun (E55 : Rw) =>
if inR 1 (wLen 0) then
if inR t0_189 (wLen 1) then bnd (wPut E55 1 (ix t0_189) ((E55 0 (ix 1)) + 1)) fun (E56 : Rw) =>
if inR 2 (wLen 0) then
if inR 2 (wLen 0) then bnd (wPut E56 0 (ix 2) ((E56 0 (ix 2)) + 1)) fun (E57 : Rw) =>
if inR 1 (wLen 0) then
if inR 2 (wLen 0) then
cal1 (fW_adds (E57 0 (ix 1)) (E57 0 (ix 2)) (lorI 1024 (w32 (10 + (16 * x23_234)))) E57) fun (r58 : Int) (E59 : Rw) =>
if inR 1 (wLen 0) then
if inR 1 (wLen 0) then bnd (wPut E59 0 (ix 1) ((E59 0 (ix 1)) + 1)) fun (E60 : Rw) =>
J1228 E60 C_1141 q_1141
else none
else none
else none
else none
else none
else none
else none
else none
else none
else none
else none
def fW_law_1133 (t0_189 : Int) (x23_234 : Int) (J1788 : Int → Rw → Cd → (Nat → Nat) → Option (Int × S3)) (t0_1098 : Int) (r50 : Int) (t0_1133 : Int) (E_1133 : Rw) (C_1133 : Cd) (q_1133 : (Nat → Nat)) : Option (Int × S3) :=
bnd (fun (t0_1141 : Int) (E_1141 : Rw) (C_1141 : Cd) (q_1141 : (Nat → Nat)) =>
fW_law_1141 t0_189 x23_234 J1788 t0_1098 t0_1141 E_1141 C_1141 q_1141) fun J1141 =>
if ¬ w32 r50 = w32 t0_1133 then
J1141 0 E_1133 C_1133 q_1133
else
J1141 1 E_1133 C_1133 q_1133
def fW_law_1098 (a1 : Nat) (t0_189 : Int) (t0_203 : Int) (x23_234 : Int) (J1788 : Int → Rw → Cd → (Nat → Nat) → Option (Int × S3)) (t0_1098 : Int) (E_1098 : Rw) (C_1098 : Cd) (q_1098 : (Nat → Nat)) : Option (Int × S3) :=
cal1 (fW_does a1 4 t0_189 x23_234 0 C_1098) fun (r50 : Int) (C51 : Cd) =>
bnd (fun (t0_1133 : Int) (E_1133 : Rw) (C_1133 : Cd) (q_1133 : (Nat → Nat)) =>
fW_law_1133 t0_189 x23_234 J1788 t0_1098 r50 t0_1133 E_1133 C_1133 q_1133) fun J1133 =>
if ¬ w32 t0_203 = 0 then
if w32 t0_1098 = 0 then
J1133 (-13) E_1098 C51 q_1098
else
if inR 0 (wLen 0) then
J1133 (E_1098 0 (ix 0)) E_1098 C51 q_1098
else none
else
J1133 (-11) E_1098 C51 q_1098
def fW_law_1097 (J1098 : Int → Rw → Cd → (Nat → Nat) → Option (Int × S3)) (E_1097 : Rw) (C_1097 : Cd) (q_1097 : (Nat → Nat)) : Option (Int × S3) :=
J1098 0 E_1097 C_1097 q_1097
def fW_law_1066 (a1 : Nat) (t0_164 : Int) (x17_171 : Int) (t0_189 : Int) (t0_203 : Int) (r9 : Int) (x23_234 : Int) (J1788 : Int → Rw → Cd → (Nat → Nat) → Option (Int × S3)) (E_1066 : Rw) (C_1066 : Cd) (q_1066 : (Nat → Nat)) : Option (Int × S3) :=
bnd (fun (E_1231 : Rw) (C_1231 : Cd) (q_1231 : (Nat → Nat)) =>
fW_law_1231 a1 t0_164 x17_171 t0_189 t0_203 r9 x23_234 J1788 E_1231 C_1231 q_1231) fun J1231 =>
if w32 14 ≤ w32 t0_164 then
J1231 E_1066 C_1066 q_1066
else
if inR 0 (wLen 0) then
if w32 32 ≤ w32 (E_1066 0 (ix 0)) then
J1231 E_1066 C_1066 q_1066
else
bnd (fun (t0_1098 : Int) (E_1098 : Rw) (C_1098 : Cd) (q_1098 : (Nat → Nat)) =>
fW_law_1098 a1 t0_189 t0_203 x23_234 J1788 t0_1098 E_1098 C_1098 q_1098) fun J1098 =>
bnd (fun (E_1097 : Rw) (C_1097 : Cd) (q_1097 : (Nat → Nat)) =>
fW_law_1097 J1098 E_1097 C_1097 q_1097) fun J1097 =>
if w32 t0_203 = 0 then
J1097 E_1066 C_1066 q_1066
else
if inR x23_234 (wLen 1) then
if ¬ w32 (E_1066 1 (ix x23_234)) = 0 then
J1097 E_1066 C_1066 q_1066
else
J1098 1 E_1066 C_1066 q_1066
else none
else none
def fW_law_1063 (J1788 : Int → Rw → Cd → (Nat → Nat) → Option (Int × S3)) (t0_1036 : Int) (E_1063 : Rw) (C_1063 : Cd) (q_1063 : (Nat → Nat)) : Option (Int × S3) :=
J1788 t0_1036 E_1063 C_1063 q_1063
def fW_law_1036 (t0_189 : Int) (r11 : Int) (J1788 : Int → Rw → Cd → (Nat → Nat) → Option (Int × S3)) (x24_959 : Int) (t0_984 : Int) (t0_1036 : Int) (E_1036 : Rw) (C_1036 : Cd) (q_1036 : (Nat → Nat)) : Option (Int × S3) :=
bnd (fun (E_1063 : Rw) (C_1063 : Cd) (q_1063 : (Nat → Nat)) =>
fW_law_1063 J1788 t0_1036 E_1063 C_1063 q_1063) fun J1063 =>
if w32 t0_984 = 0 then
J1063 E_1036 C_1036 q_1036
else
if inR t0_189 (wLen 1) then
cal1 (fW_adds ((E_1036 1 (ix t0_189)) - 1) x24_959 r11 E_1036) fun (r63 : Int) (E64 : Rw) =>
J1063 E64 C_1036 q_1036
else none
def fW_law_1035 (J1036 : Int → Rw → Cd → (Nat → Nat) → Option (Int × S3)) (E_1035 : Rw) (C_1035 : Cd) (q_1035 : (Nat → Nat)) : Option (Int × S3) :=
J1036 0 E_1035 C_1035 q_1035
def fW_law_1028 (J1036 : Int → Rw → Cd → (Nat → Nat) → Option (Int × S3)) (J1035 : Rw → Cd → (Nat → Nat) → Option (Int × S3)) (r65 : Int) (t0_1028 : Int) (E_1028 : Rw) (C_1028 : Cd) (q_1028 : (Nat → Nat)) : Option (Int × S3) :=
if ¬ w32 r65 = w32 t0_1028 then
J1035 E_1028 C_1028 q_1028
else
J1036 1 E_1028 C_1028 q_1028
def fW_law_984 (a1 : Nat) (t0_189 : Int) (t0_203 : Int) (r11 : Int) (J1788 : Int → Rw → Cd → (Nat → Nat) → Option (Int × S3)) (x24_959 : Int) (t0_984 : Int) (E_984 : Rw) (C_984 : Cd) (q_984 : (Nat → Nat)) : Option (Int × S3) :=
cal1 (fW_drafts a1 r11 C_984) fun (r61 : Int) (C62 : Cd) =>
bnd (fun (t0_1036 : Int) (E_1036 : Rw) (C_1036 : Cd) (q_1036 : (Nat → Nat)) =>
fW_law_1036 t0_189 r11 J1788 x24_959 t0_984 t0_1036 E_1036 C_1036 q_1036) fun J1036 =>
bnd (fun (E_1035 : Rw) (C_1035 : Cd) (q_1035 : (Nat → Nat)) =>
fW_law_1035 J1036 E_1035 C_1035 q_1035) fun J1035 =>
if w32 r61 = 0 then
J1035 E_984 C62 q_984
else
cal1 (fW_does a1 3 t0_189 x24_959 0 C62) fun (r65 : Int) (C66 : Cd) =>
bnd (fun (t0_1028 : Int) (E_1028 : Rw) (C_1028 : Cd) (q_1028 : (Nat → Nat)) =>
fW_law_1028 J1036 J1035 r65 t0_1028 E_1028 C_1028 q_1028) fun J1028 =>
if ¬ w32 t0_203 = 0 then
if w32 t0_984 = 0 then
J1028 (-12) E_984 C66 q_984
else
if inR 0 (wLen 0) then
J1028 (E_984 0 (ix 0)) E_984 C66 q_984
else none
else
J1028 (-11) E_984 C66 q_984
def fW_law_983 (J984 : Int → Rw → Cd → (Nat → Nat) → Option (Int × S3)) (E_983 : Rw) (C_983 : Cd) (q_983 : (Nat → Nat)) : Option (Int × S3) :=
J984 0 E_983 C_983 q_983
def fW_law_933 (a1 : Nat) (t0_164 : Int) (x17_171 : Int) (t0_189 : Int) (t0_203 : Int) (r9 : Int) (r11 : Int) (x23_234 : Int) (J1788 : Int → Rw → Cd → (Nat → Nat) → Option (Int × S3)) (E_933 : Rw) (C_933 : Cd) (q_933 : (Nat → Nat)) : Option (Int × S3) :=
bnd (fun (E_1066 : Rw) (C_1066 : Cd) (q_1066 : (Nat → Nat)) =>
fW_law_1066 a1 t0_164 x17_171 t0_189 t0_203 r9 x23_234 J1788 E_1066 C_1066 q_1066) fun J1066 =>
if ¬ w32 t0_164 = w32 11 then
J1066 E_933 C_933 q_933
else
if inR 0 (wLen 0) then
if w32 32 ≤ w32 (E_933 0 (ix 0)) then
J1066 E_933 C_933 q_933
else
if inR 2 (wLen 0) then
if w32 ((E_933 0 (ix 2)) + 2) = 0 then none else
bnd (remI (divI x17_171 9) ((E_933 0 (ix 2)) + 2)) fun (x24_959 : Int) =>
bnd (fun (t0_984 : Int) (E_984 : Rw) (C_984 : Cd) (q_984 : (Nat → Nat)) =>
fW_law_984 a1 t0_189 t0_203 r11 J1788 x24_959 t0_984 E_984 C_984 q_984) fun J984 =>
bnd (fun (E_983 : Rw) (C_983 : Cd) (q_983 : (Nat → Nat)) =>
fW_law_983 J984 E_983 C_983 q_983) fun J983 =>
if w32 t0_203 = 0 then
J983 E_933 C_933 q_933
else
if w32 x24_959 ≤ 0 then
J983 E_933 C_933 q_933
else
if inR 2 (wLen 0) then
if w32 (E_933 0 (ix 2)) < w32 x24_959 then
J983 E_933 C_933 q_933
else
J984 1 E_933 C_933 q_933
else none
else none
else none
def fW_law_930 (J1788 : Int → Rw → Cd → (Nat → Nat) → Option (Int × S3)) (v13_930 : Int) (E_930 : Rw) (C_930 : Cd) (q_930 : (Nat → Nat)) : Option (Int × S3) :=
J1788 v13_930 E_930 C_930 q_930
def fW_law_895 (t0_189 : Int) (t0_788 : Int) (t0_826 : Int) (J930 : Int → Rw → Cd → (Nat → Nat) → Option (Int × S3)) (t0_895 : Int) (E_895 : Rw) (C_895 : Cd) (q_895 : (Nat → Nat)) : Option (Int × S3) :=
if w32 t0_826 = 0 then
J930 t0_895 E_895 C_895 q_895
else
if inR 2 (wLen 0) then
if inR 2 (wLen 0) then bnd (wPut E_895 0 (ix 2) ((E_895 0 (ix 2)) + 1)) fun (E71 : Rw) =>
if inR t0_189 (wLen 1) then
if inR 2 (wLen 0) then
cal1 (fW_adds ((E71 1 (ix t0_189)) - 1) (E71 0 (ix 2)) t0_788 E71) fun (r72 : Int) (E73 : Rw) =>
J930 t0_895 E73 C_895 q_895
else none
else none
else none
else none
def fW_law_887 (t0_189 : Int) (t0_788 : Int) (t0_826 : Int) (J930 : Int → Rw → Cd → (Nat → Nat) → Option (Int × S3)) (r69 : Int) (t0_887 : Int) (E_887 : Rw) (C_887 : Cd) (q_887 : (Nat → Nat)) : Option (Int × S3) :=
bnd (fun (t0_895 : Int) (E_895 : Rw) (C_895 : Cd) (q_895 : (Nat → Nat)) =>
fW_law_895 t0_189 t0_788 t0_826 J930 t0_895 E_895 C_895 q_895) fun J895 =>
if ¬ w32 r69 = w32 t0_887 then
J895 0 E_887 C_887 q_887
else
J895 1 E_887 C_887 q_887
def fW_law_860 (a1 : Nat) (t0_189 : Int) (t0_748 : Int) (t0_788 : Int) (t0_826 : Int) (J930 : Int → Rw → Cd → (Nat → Nat) → Option (Int × S3)) (t0_860 : Int) (E_860 : Rw) (C_860 : Cd) (q_860 : (Nat → Nat)) : Option (Int × S3) :=
cal1 (fW_does a1 2 t0_189 t0_860 0 C_860) fun (r69 : Int) (C70 : Cd) =>
bnd (fun (t0_887 : Int) (E_887 : Rw) (C_887 : Cd) (q_887 : (Nat → Nat)) =>
fW_law_887 t0_189 t0_788 t0_826 J930 r69 t0_887 E_887 C_887 q_887) fun J887 =>
if ¬ w32 t0_748 = 0 then
if w32 t0_826 = 0 then
J887 (-13) E_860 C70 q_860
else
if inR 0 (wLen 0) then
J887 (E_860 0 (ix 0)) E_860 C70 q_860
else none
else
J887 (-11) E_860 C70 q_860
def fW_law_843 (a1 : Nat) (t0_189 : Int) (r67 : Int) (t0_748 : Int) (t0_788 : Int) (t0_826 : Int) (J930 : Int → Rw → Cd → (Nat → Nat) → Option (Int × S3)) (E_843 : Rw) (C_843 : Cd) (q_843 : (Nat → Nat)) : Option (Int × S3) :=
bnd (fun (t0_860 : Int) (E_860 : Rw) (C_860 : Cd) (q_860 : (Nat → Nat)) =>
fW_law_860 a1 t0_189 t0_748 t0_788 t0_826 J930 t0_860 E_860 C_860 q_860) fun J860 =>
if 0 ≤ w32 r67 then
J860 r67 E_843 C_843 q_843
else
if inR 0 (wLen 0) then
J860 (E_843 0 (ix 0)) E_843 C_843 q_843
else none
def fW_law_826 (a1 : Nat) (v13_97 : Int) (t0_189 : Int) (J1788 : Int → Rw → Cd → (Nat → Nat) → Option (Int × S3)) (r67 : Int) (t0_748 : Int) (t0_788 : Int) (t0_826 : Int) (E_826 : Rw) (C_826 : Cd) (q_826 : (Nat → Nat)) : Option (Int × S3) :=
bnd (fun (v13_930 : Int) (E_930 : Rw) (C_930 : Cd) (q_930 : (Nat → Nat)) =>
fW_law_930 J1788 v13_930 E_930 C_930 q_930) fun J930 =>
bnd (fun (E_843 : Rw) (C_843 : Cd) (q_843 : (Nat → Nat)) =>
fW_law_843 a1 t0_189 r67 t0_748 t0_788 t0_826 J930 E_843 C_843 q_843) fun J843 =>
if w32 t0_748 = 0 then
J843 E_826 C_826 q_826
else
cal1 (fW_macros t0_788) fun (r74 : Int) _ =>
if w32 6 ≤ w32 r74 then
J930 v13_97 E_826 C_826 q_826
else
J843 E_826 C_826 q_826
def fW_law_825 (J826 : Int → Rw → Cd → (Nat → Nat) → Option (Int × S3)) (E_825 : Rw) (C_825 : Cd) (q_825 : (Nat → Nat)) : Option (Int × S3) :=
J826 0 E_825 C_825 q_825
def fW_law_788 (a1 : Nat) (v13_97 : Int) (t0_189 : Int) (r9 : Int) (J1788 : Int → Rw → Cd → (Nat → Nat) → Option (Int × S3)) (r67 : Int) (t0_748 : Int) (t0_788 : Int) (E_788 : Rw) (C_788 : Cd) (q_788 : (Nat → Nat)) : Option (Int × S3) :=
bnd (fun (t0_826 : Int) (E_826 : Rw) (C_826 : Cd) (q_826 : (Nat → Nat)) =>
fW_law_826 a1 v13_97 t0_189 J1788 r67 t0_748 t0_788 t0_826 E_826 C_826 q_826) fun J826 =>
bnd (fun (E_825 : Rw) (C_825 : Cd) (q_825 : (Nat → Nat)) =>
fW_law_825 J826 E_825 C_825 q_825) fun J825 =>
if w32 t0_748 = 0 then
J825 E_788 C_788 q_788
else
if w32 (lcmpI t0_788 1) ≤ 0 then
J825 E_788 C_788 q_788
else
cal1 (fW_isText t0_788) fun (r75 : Int) _ =>
if w32 r75 = 0 then
J825 E_788 C_788 q_788
else
if inR r9 (wLen 3) then
if w32 (lcmpI t0_788 (E_788 3 (ix r9))) = 0 then
J825 E_788 C_788 q_788
else
J826 1 E_788 C_788 q_788
else none
def fW_law_748 (a1 : Nat) (v13_97 : Int) (t0_189 : Int) (r9 : Int) (J1788 : Int → Rw → Cd → (Nat → Nat) → Option (Int × S3)) (x24_718 : Int) (r67 : Int) (t0_748 : Int) (E_748 : Rw) (C_748 : Cd) (q_748 : (Nat → Nat)) : Option (Int × S3) :=
bnd (fun (t0_788 : Int) (E_788 : Rw) (C_788 : Cd) (q_788 : (Nat → Nat)) =>
fW_law_788 a1 v13_97 t0_189 r9 J1788 r67 t0_748 t0_788 E_788 C_788 q_788) fun J788 =>
if w32 t0_748 = 0 then
J788 0 E_748 C_748 q_748
else
cal1 (fW_versionOf t0_189 (x24_718 - 1) E_748) fun (r76 : Int) (E77 : Rw) =>
if inR r76 (wLen 3) then
if inR r67 (wLen 3) then
if inR r9 (wLen 3) then
cal1 (fW_undone (E77 3 (ix r76)) (E77 3 (ix r67)) (E77 3 (ix r9))) fun (r78 : Int) _ =>
J788 r78 E77 C_748 q_748
else none
else none
else none
def fW_law_747 (J748 : Int → Rw → Cd → (Nat → Nat) → Option (Int × S3)) (E_747 : Rw) (C_747 : Cd) (q_747 : (Nat → Nat)) : Option (Int × S3) :=
J748 0 E_747 C_747 q_747
def fW_law_696 (a1 : Nat) (v13_97 : Int) (t0_164 : Int) (x17_171 : Int) (t0_189 : Int) (t0_203 : Int) (r9 : Int) (r11 : Int) (x23_234 : Int) (J1788 : Int → Rw → Cd → (Nat → Nat) → Option (Int × S3)) (E_696 : Rw) (C_696 : Cd) (q_696 : (Nat → Nat)) : Option (Int × S3) :=
bnd (fun (E_933 : Rw) (C_933 : Cd) (q_933 : (Nat → Nat)) =>
fW_law_933 a1 t0_164 x17_171 t0_189 t0_203 r9 r11 x23_234 J1788 E_933 C_933 q_933) fun J933 =>
if ¬ w32 t0_164 = w32 10 then
J933 E_696 C_696 q_696
else
if inR 0 (wLen 0) then
if w32 32 ≤ w32 (E_696 0 (ix 0)) then
J933 E_696 C_696 q_696
else
bnd (remI (divI x17_171 9) 3) fun (x24_718 : Int) =>
cal1 (fW_versionOf t0_189 x24_718 E_696) fun (r67 : Int) (E68 : Rw) =>
bnd (fun (t0_748 : Int) (E_748 : Rw) (C_748 : Cd) (q_748 : (Nat → Nat)) =>
fW_law_748 a1 v13_97 t0_189 r9 J1788 x24_718 r67 t0_748 E_748 C_748 q_748) fun J748 =>
bnd (fun (E_747 : Rw) (C_747 : Cd) (q_747 : (Nat → Nat)) =>
fW_law_747 J748 E_747 C_747 q_747) fun J747 =>
if w32 r67 < 0 then
J747 E68 C_696 q_696
else
if w32 x24_718 ≤ 0 then
J747 E68 C_696 q_696
else
J748 1 E68 C_696 q_696
else none
def fW_law_693 (J1788 : Int → Rw → Cd → (Nat → Nat) → Option (Int × S3)) (v13_693 : Int) (E_693 : Rw) (C_693 : Cd) (q_693 : (Nat → Nat)) : Option (Int × S3) :=
J1788 v13_693 E_693 C_693 q_693
def fW_law_658 (t0_189 : Int) (t0_542 : Int) (t0_580 : Int) (J693 : Int → Rw → Cd → (Nat → Nat) → Option (Int × S3)) (t0_658 : Int) (E_658 : Rw) (C_658 : Cd) (q_658 : (Nat → Nat)) : Option (Int × S3) :=
if w32 t0_580 = 0 then
J693 t0_658 E_658 C_658 q_658
else
if inR 2 (wLen 0) then
if inR 2 (wLen 0) then bnd (wPut E_658 0 (ix 2) ((E_658 0 (ix 2)) + 1)) fun (E81 : Rw) =>
if inR t0_189 (wLen 1) then
if inR 2 (wLen 0) then
cal1 (fW_adds ((E81 1 (ix t0_189)) - 1) (E81 0 (ix 2)) t0_542 E81) fun (r82 : Int) (E83 : Rw) =>
J693 t0_658 E83 C_658 q_658
else none
else none
else none
else none
def fW_law_657 (J658 : Int → Rw → Cd → (Nat → Nat) → Option (Int × S3)) (E_657 : Rw) (C_657 : Cd) (q_657 : (Nat → Nat)) : Option (Int × S3) :=
J658 0 E_657 C_657 q_657
def fW_law_650 (J658 : Int → Rw → Cd → (Nat → Nat) → Option (Int × S3)) (J657 : Rw → Cd → (Nat → Nat) → Option (Int × S3)) (r84 : Int) (t0_650 : Int) (E_650 : Rw) (C_650 : Cd) (q_650 : (Nat → Nat)) : Option (Int × S3) :=
if ¬ w32 r84 = w32 t0_650 then
J657 E_650 C_650 q_650
else
J658 1 E_650 C_650 q_650
def fW_law_607 (a1 : Nat) (t0_189 : Int) (t0_420 : Int) (x25_430 : Int) (t0_450 : Int) (t0_475 : Int) (t0_542 : Int) (t0_580 : Int) (J693 : Int → Rw → Cd → (Nat → Nat) → Option (Int × S3)) (E_607 : Rw) (C_607 : Cd) (q_607 : (Nat → Nat)) : Option (Int × S3) :=
cal1 (fW_drafts a1 t0_450 C_607) fun (r79 : Int) (C80 : Cd) =>
bnd (fun (t0_658 : Int) (E_658 : Rw) (C_658 : Cd) (q_658 : (Nat → Nat)) =>
fW_law_658 t0_189 t0_542 t0_580 J693 t0_658 E_658 C_658 q_658) fun J658 =>
bnd (fun (E_657 : Rw) (C_657 : Cd) (q_657 : (Nat → Nat)) =>
fW_law_657 J658 E_657 C_657 q_657) fun J657 =>
if w32 r79 = 0 then
J657 E_607 C80 q_607
else
cal1 (fW_does a1 1 t0_189 t0_420 x25_430 C80) fun (r84 : Int) (C85 : Cd) =>
bnd (fun (t0_650 : Int) (E_650 : Rw) (C_650 : Cd) (q_650 : (Nat → Nat)) =>
fW_law_650 J658 J657 r84 t0_650 E_650 C_650 q_650) fun J650 =>
if ¬ w32 t0_475 = 0 then
if w32 t0_580 = 0 then
J650 (-13) E_607 C85 q_607
else
if inR 0 (wLen 0) then
J650 (E_607 0 (ix 0)) E_607 C85 q_607
else none
else
J650 (-11) E_607 C85 q_607
def fW_law_580 (a1 : Nat) (v13_97 : Int) (t0_189 : Int) (J1788 : Int → Rw → Cd → (Nat → Nat) → Option (Int × S3)) (t0_420 : Int) (x25_430 : Int) (t0_450 : Int) (t0_475 : Int) (t0_508 : Int) (t0_542 : Int) (t0_580 : Int) (E_580 : Rw) (C_580 : Cd) (q_580 : (Nat → Nat)) : Option (Int × S3) :=
bnd (fun (v13_693 : Int) (E_693 : Rw) (C_693 : Cd) (q_693 : (Nat → Nat)) =>
fW_law_693 J1788 v13_693 E_693 C_693 q_693) fun J693 =>
bnd (fun (E_607 : Rw) (C_607 : Cd) (q_607 : (Nat → Nat)) =>
fW_law_607 a1 t0_189 t0_420 x25_430 t0_450 t0_475 t0_542 t0_580 J693 E_607 C_607 q_607) fun J607 =>
if w32 t0_475 = 0 then
J607 E_580 C_580 q_580
else
cal1 (fW_macros t0_508) fun (r86 : Int) _ =>
if w32 6 ≤ w32 r86 then
J693 v13_97 E_580 C_580 q_580
else
cal1 (fW_macros t0_542) fun (r87 : Int) _ =>
if w32 6 ≤ w32 r87 then
J693 v13_97 E_580 C_580 q_580
else
J607 E_580 C_580 q_580
def fW_law_579 (J580 : Int → Rw → Cd → (Nat → Nat) → Option (Int × S3)) (E_579 : Rw) (C_579 : Cd) (q_579 : (Nat → Nat)) : Option (Int × S3) :=
J580 0 E_579 C_579 q_579
def fW_law_542 (a1 : Nat) (v13_97 : Int) (t0_189 : Int) (r9 : Int) (J1788 : Int → Rw → Cd → (Nat → Nat) → Option (Int × S3)) (t0_420 : Int) (x25_430 : Int) (t0_450 : Int) (t0_475 : Int) (t0_508 : Int) (t0_542 : Int) (E_542 : Rw) (C_542 : Cd) (q_542 : (Nat → Nat)) : Option (Int × S3) :=
bnd (fun (t0_580 : Int) (E_580 : Rw) (C_580 : Cd) (q_580 : (Nat → Nat)) =>
fW_law_580 a1 v13_97 t0_189 J1788 t0_420 x25_430 t0_450 t0_475 t0_508 t0_542 t0_580 E_580 C_580 q_580) fun J580 =>
bnd (fun (E_579 : Rw) (C_579 : Cd) (q_579 : (Nat → Nat)) =>
fW_law_579 J580 E_579 C_579 q_579) fun J579 =>
if w32 t0_475 = 0 then
J579 E_542 C_542 q_542
else
if w32 (lcmpI t0_542 1) ≤ 0 then
J579 E_542 C_542 q_542
else
cal1 (fW_isText t0_542) fun (r88 : Int) _ =>
if w32 r88 = 0 then
J579 E_542 C_542 q_542
else
if inR r9 (wLen 3) then
if w32 (lcmpI t0_542 (E_542 3 (ix r9))) = 0 then
J579 E_542 C_542 q_542
else
J580 1 E_542 C_542 q_542
else none
def fW_law_522 (t0_508 : Int) (J542 : Int → Rw → Cd → (Nat → Nat) → Option (Int × S3)) (E_522 : Rw) (C_522 : Cd) (q_522 : (Nat → Nat)) : Option (Int × S3) :=
J542 t0_508 E_522 C_522 q_522
def fW_law_508 (a1 : Nat) (v13_97 : Int) (t0_189 : Int) (r9 : Int) (J1788 : Int → Rw → Cd → (Nat → Nat) → Option (Int × S3)) (t0_420 : Int) (x25_430 : Int) (t0_450 : Int) (t0_475 : Int) (t0_508 : Int) (E_508 : Rw) (C_508 : Cd) (q_508 : (Nat → Nat)) : Option (Int × S3) :=
bnd (fun (t0_542 : Int) (E_542 : Rw) (C_542 : Cd) (q_542 : (Nat → Nat)) =>
fW_law_542 a1 v13_97 t0_189 r9 J1788 t0_420 x25_430 t0_450 t0_475 t0_508 t0_542 E_542 C_542 q_542) fun J542 =>
bnd (fun (E_522 : Rw) (C_522 : Cd) (q_522 : (Nat → Nat)) =>
fW_law_522 t0_508 J542 E_522 C_522 q_522) fun J522 =>
if w32 t0_475 = 0 then
J522 E_508 C_508 q_508
else
if ¬ w32 t0_420 = w32 r9 then
if inR t0_420 (wLen 3) then
if inR r9 (wLen 3) then
cal1 (fW_merged t0_508 (E_508 3 (ix t0_420)) (E_508 3 (ix r9))) fun (r89 : Int) _ =>
J542 r89 E_508 C_508 q_508
else none
else none
else
J522 E_508 C_508 q_508
def fW_law_475 (a1 : Nat) (v13_97 : Int) (t0_189 : Int) (r9 : Int) (J1788 : Int → Rw → Cd → (Nat → Nat) → Option (Int × S3)) (t0_420 : Int) (x25_430 : Int) (t0_450 : Int) (t0_475 : Int) (E_475 : Rw) (C_475 : Cd) (q_475 : (Nat → Nat)) : Option (Int × S3) :=
bnd (fun (t0_508 : Int) (E_508 : Rw) (C_508 : Cd) (q_508 : (Nat → Nat)) =>
fW_law_508 a1 v13_97 t0_189 r9 J1788 t0_420 x25_430 t0_450 t0_475 t0_508 E_508 C_508 q_508) fun J508 =>
if ¬ w32 t0_475 = 0 then
if 0 ≤ w32 x25_430 then
if inR t0_420 (wLen 3) then
cal1 (fW_with (E_475 3 (ix t0_420)) x25_430 t0_450) fun (r90 : Int) _ =>
J508 r90 E_475 C_475 q_475
else none
else
J508 t0_450 E_475 C_475 q_475
else
J508 1 E_475 C_475 q_475
def fW_law_474 (J475 : Int → Rw → Cd → (Nat → Nat) → Option (Int × S3)) (E_474 : Rw) (C_474 : Cd) (q_474 : (Nat → Nat)) : Option (Int × S3) :=
J475 0 E_474 C_474 q_474
def fW_law_450 (a1 : Nat) (v13_97 : Int) (t0_189 : Int) (t0_203 : Int) (r9 : Int) (J1788 : Int → Rw → Cd → (Nat → Nat) → Option (Int × S3)) (t0_420 : Int) (x25_430 : Int) (t0_450 : Int) (E_450 : Rw) (C_450 : Cd) (q_450 : (Nat → Nat)) : Option (Int × S3) :=
bnd (fun (t0_475 : Int) (E_475 : Rw) (C_475 : Cd) (q_475 : (Nat → Nat)) =>
fW_law_475 a1 v13_97 t0_189 r9 J1788 t0_420 x25_430 t0_450 t0_475 E_475 C_475 q_475) fun J475 =>
bnd (fun (E_474 : Rw) (C_474 : Cd) (q_474 : (Nat → Nat)) =>
fW_law_474 J475 E_474 C_474 q_474) fun J474 =>
if w32 t0_203 = 0 then
J474 E_450 C_450 q_450
else
if inR t0_420 (wLen 3) then
cal1 (fW_sections (E_450 3 (ix t0_420))) fun (r91 : Int) _ =>
if w32 r91 ≤ w32 x25_430 then
J474 E_450 C_450 q_450
else
J475 1 E_450 C_450 q_450
else none
def fW_law_444 (r11 : Int) (J450 : Int → Rw → Cd → (Nat → Nat) → Option (Int × S3)) (E_444 : Rw) (C_444 : Cd) (q_444 : (Nat → Nat)) : Option (Int × S3) :=
J450 r11 E_444 C_444 q_444
def fW_law_420 (a1 : Nat) (v13_97 : Int) (x17_171 : Int) (t0_189 : Int) (t0_203 : Int) (r9 : Int) (r11 : Int) (J1788 : Int → Rw → Cd → (Nat → Nat) → Option (Int × S3)) (t0_420 : Int) (E_420 : Rw) (C_420 : Cd) (q_420 : (Nat → Nat)) : Option (Int × S3) :=
bnd ((remI (divI x17_171 5) 3) - 1) fun (x25_430 : Int) =>
bnd (fun (t0_450 : Int) (E_450 : Rw) (C_450 : Cd) (q_450 : (Nat → Nat)) =>
fW_law_450 a1 v13_97 t0_189 t0_203 r9 J1788 t0_420 x25_430 t0_450 E_450 C_450 q_450) fun J450 =>
bnd (fun (E_444 : Rw) (C_444 : Cd) (q_444 : (Nat → Nat)) =>
fW_law_444 r11 J450 E_444 C_444 q_444) fun J444 =>
if w32 x25_430 < 0 then
J444 E_420 C_420 q_420
else
if w32 (remI x17_171 4) ≤ 0 then
J450 1 E_420 C_420 q_420
else
J444 E_420 C_420 q_420
def fW_law_406 (a1 : Nat) (v13_97 : Int) (x17_171 : Int) (t0_189 : Int) (t0_203 : Int) (r9 : Int) (r11 : Int) (J1788 : Int → Rw → Cd → (Nat → Nat) → Option (Int × S3)) (t0_406 : Int) (E_406 : Rw) (C_406 : Cd) (q_406 : (Nat → Nat)) : Option (Int × S3) :=
bnd (fun (t0_420 : Int) (E_420 : Rw) (C_420 : Cd) (q_420 : (Nat → Nat)) =>
fW_law_420 a1 v13_97 x17_171 t0_189 t0_203 r9 r11 J1788 t0_420 E_420 C_420 q_420) fun J420 =>
if 0 ≤ w32 t0_406 then
J420 t0_406 E_406 C_406 q_406
else
J420 r9 E_406 C_406 q_406
def fW_law_399 (t0_189 : Int) (J406 : Int → Rw → Cd → (Nat → Nat) → Option (Int × S3)) (t0_399 : Int) (E_399 : Rw) (C_399 : Cd) (q_399 : (Nat → Nat)) : Option (Int × S3) :=
cal1 (fW_versionOf t0_189 t0_399 E_399) fun (r92 : Int) (E93 : Rw) =>
J406 r92 E93 C_399 q_399
def fW_law_352 (a1 : Nat) (v13_97 : Int) (t0_164 : Int) (x17_171 : Int) (t0_189 : Int) (t0_203 : Int) (r9 : Int) (r11 : Int) (x23_234 : Int) (J1788 : Int → Rw → Cd → (Nat → Nat) → Option (Int × S3)) (E_352 : Rw) (C_352 : Cd) (q_352 : (Nat → Nat)) : Option (Int × S3) :=
bnd (fun (E_696 : Rw) (C_696 : Cd) (q_696 : (Nat → Nat)) =>
fW_law_696 a1 v13_97 t0_164 x17_171 t0_189 t0_203 r9 r11 x23_234 J1788 E_696 C_696 q_696) fun J696 =>
if w32 10 ≤ w32 t0_164 then
J696 E_352 C_352 q_352
else
if inR 0 (wLen 0) then
if w32 32 ≤ w32 (E_352 0 (ix 0)) then
J696 E_352 C_352 q_352
else
bnd (fun (t0_406 : Int) (E_406 : Rw) (C_406 : Cd) (q_406 : (Nat → Nat)) =>
fW_law_406 a1 v13_97 x17_171 t0_189 t0_203 r9 r11 J1788 t0_406 E_406 C_406 q_406) fun J406 =>
if w32 t0_203 = 0 then
J406 0 E_352 C_352 q_352
else
bnd (fun (t0_399 : Int) (E_399 : Rw) (C_399 : Cd) (q_399 : (Nat → Nat)) =>
fW_law_399 t0_189 J406 t0_399 E_399 C_399 q_399) fun J399 =>
if w32 (remI (divI x17_171 9) 3) ≤ 0 then
J399 (remI (divI x17_171 27) 4) E_352 C_352 q_352
else
J399 0 E_352 C_352 q_352
else none
def fW_law_349 (J1788 : Int → Rw → Cd → (Nat → Nat) → Option (Int × S3)) (t0_301 : Int) (E_349 : Rw) (C_349 : Cd) (q_349 : (Nat → Nat)) : Option (Int × S3) :=
J1788 t0_301 E_349 C_349 q_349
def fW_law_301 (t0_189 : Int) (r11 : Int) (J1788 : Int → Rw → Cd → (Nat → Nat) → Option (Int × S3)) (t0_260 : Int) (t0_301 : Int) (E_301 : Rw) (C_301 : Cd) (q_301 : (Nat → Nat)) : Option (Int × S3) :=
bnd (fun (E_349 : Rw) (C_349 : Cd) (q_349 : (Nat → Nat)) =>
fW_law_349 J1788 t0_301 E_349 C_349 q_349) fun J349 =>
if w32 t0_260 = 0 then
J349 E_301 C_301 q_301
else
if inR 1 (wLen 0) then
if inR t0_189 (wLen 1) then bnd (wPut E_301 1 (ix t0_189) ((E_301 0 (ix 1)) + 1)) fun (E96 : Rw) =>
if inR 2 (wLen 0) then
if inR 2 (wLen 0) then bnd (wPut E96 0 (ix 2) ((E96 0 (ix 2)) + 1)) fun (E97 : Rw) =>
if inR 1 (wLen 0) then
if inR 2 (wLen 0) then
cal1 (fW_adds (E97 0 (ix 1)) (E97 0 (ix 2)) r11 E97) fun (r98 : Int) (E99 : Rw) =>
if inR 1 (wLen 0) then
if inR 1 (wLen 0) then bnd (wPut E99 0 (ix 1) ((E99 0 (ix 1)) + 1)) fun (E100 : Rw) =>
J349 E100 C_301 q_301
else none
else none
else none
else none
else none
else none
else none
else none
def fW_law_300 (J301 : Int → Rw → Cd → (Nat → Nat) → Option (Int × S3)) (E_300 : Rw) (C_300 : Cd) (q_300 : (Nat → Nat)) : Option (Int × S3) :=
J301 0 E_300 C_300 q_300
def fW_law_293 (J301 : Int → Rw → Cd → (Nat → Nat) → Option (Int × S3)) (J300 : Rw → Cd → (Nat → Nat) → Option (Int × S3)) (r101 : Int) (t0_293 : Int) (E_293 : Rw) (C_293 : Cd) (q_293 : (Nat → Nat)) : Option (Int × S3) :=
if ¬ w32 r101 = w32 t0_293 then
J300 E_293 C_293 q_293
else
J301 1 E_293 C_293 q_293
def fW_law_260 (a1 : Nat) (t0_189 : Int) (r11 : Int) (J1788 : Int → Rw → Cd → (Nat → Nat) → Option (Int × S3)) (t0_260 : Int) (E_260 : Rw) (C_260 : Cd) (q_260 : (Nat → Nat)) : Option (Int × S3) :=
cal1 (fW_drafts a1 r11 C_260) fun (r94 : Int) (C95 : Cd) =>
bnd (fun (t0_301 : Int) (E_301 : Rw) (C_301 : Cd) (q_301 : (Nat → Nat)) =>
fW_law_301 t0_189 r11 J1788 t0_260 t0_301 E_301 C_301 q_301) fun J301 =>
bnd (fun (E_300 : Rw) (C_300 : Cd) (q_300 : (Nat → Nat)) =>
fW_law_300 J301 E_300 C_300 q_300) fun J300 =>
if w32 r94 = 0 then
J300 E_260 C95 q_260
else
cal1 (fW_does a1 0 t0_189 0 0 C95) fun (r101 : Int) (C102 : Cd) =>
bnd (fun (t0_293 : Int) (E_293 : Rw) (C_293 : Cd) (q_293 : (Nat → Nat)) =>
fW_law_293 J301 J300 r101 t0_293 E_293 C_293 q_293) fun J293 =>
if w32 t0_260 = 0 then
J293 (-13) E_260 C102 q_260
else
if inR 0 (wLen 0) then
J293 (E_260 0 (ix 0)) E_260 C102 q_260
else none
def fW_law_203 (a1 : Nat) (L97 : Int → Int → Rw → Cd → (Nat → Nat) → Option (Int × S3)) (v13_97 : Int) (v14_97 : Int) (t0_164 : Int) (x17_171 : Int) (t0_189 : Int) (t0_203 : Int) (E_203 : Rw) (C_203 : Cd) (q_203 : (Nat → Nat)) : Option (Int × S3) :=
cal1 (fW_present t0_189 E_203) fun (r9 : Int) (E10 : Rw) =>
cal1 (fW_drawn (divI x17_171 8)) fun (r11 : Int) _ =>
bnd (remI (divI x17_171 8) 8) fun (x23_234 : Int) =>
bnd (fun (v13_1788 : Int) (E_1788 : Rw) (C_1788 : Cd) (q_1788 : (Nat → Nat)) =>
fW_law_1788 a1 L97 v14_97 x17_171 v13_1788 E_1788 C_1788 q_1788) fun J1788 =>
bnd (fun (E_352 : Rw) (C_352 : Cd) (q_352 : (Nat → Nat)) =>
fW_law_352 a1 v13_97 t0_164 x17_171 t0_189 t0_203 r9 r11 x23_234 J1788 E_352 C_352 q_352) fun J352 =>
if w32 5 ≤ w32 t0_164 then
J352 E10 C_203 q_203
else
if inR 0 (wLen 0) then
if w32 32 ≤ w32 (E10 0 (ix 0)) then
J352 E10 C_203 q_203
else
bnd (fun (t0_260 : Int) (E_260 : Rw) (C_260 : Cd) (q_260 : (Nat → Nat)) =>
fW_law_260 a1 t0_189 r11 J1788 t0_260 E_260 C_260 q_260) fun J260 =>
if ¬ w32 t0_203 = 0 then
J260 0 E10 C_203 q_203
else
J260 1 E10 C_203 q_203
else none
def fW_law_189 (a1 : Nat) (L97 : Int → Int → Rw → Cd → (Nat → Nat) → Option (Int × S3)) (v13_97 : Int) (v14_97 : Int) (t0_164 : Int) (x17_171 : Int) (t0_189 : Int) (E_189 : Rw) (C_189 : Cd) (q_189 : (Nat → Nat)) : Option (Int × S3) :=
if inR t0_189 (wLen 1) then
bnd (fun (t0_203 : Int) (E_203 : Rw) (C_203 : Cd) (q_203 : (Nat → Nat)) =>
fW_law_203 a1 L97 v13_97 v14_97 t0_164 x17_171 t0_189 t0_203 E_203 C_203 q_203) fun J203 =>
if w32 (E_189 1 (ix t0_189)) ≤ 0 then
J203 0 E_189 C_189 q_189
else
J203 1 E_189 C_189 q_189
else none
def fW_law_164 (a1 : Nat) (L97 : Int → Int → Rw → Cd → (Nat → Nat) → Option (Int × S3)) (v13_97 : Int) (v14_97 : Int) (t0_147 : Int) (t0_164 : Int) (E_164 : Rw) (C_164 : Cd) (q_164 : (Nat → Nat)) : Option (Int × S3) :=
bnd (divI t0_147 26) fun (x17_171 : Int) =>
bnd (fun (t0_189 : Int) (E_189 : Rw) (C_189 : Cd) (q_189 : (Nat → Nat)) =>
fW_law_189 a1 L97 v13_97 v14_97 t0_164 x17_171 t0_189 E_189 C_189 q_189) fun J189 =>
if w32 3 ≤ w32 v14_97 then
J189 (remI x17_171 8) E_164 C_164 q_164
else
J189 v14_97 E_164 C_164 q_164
def fW_law_147 (a1 : Nat) (L97 : Int → Int → Rw → Cd → (Nat → Nat) → Option (Int × S3)) (v13_97 : Int) (v14_97 : Int) (t0_147 : Int) (E_147 : Rw) (C_147 : Cd) (q_147 : (Nat → Nat)) : Option (Int × S3) :=
bnd (fun (t0_164 : Int) (E_164 : Rw) (C_164 : Cd) (q_164 : (Nat → Nat)) =>
fW_law_164 a1 L97 v13_97 v14_97 t0_147 t0_164 E_164 C_164 q_164) fun J164 =>
if w32 3 ≤ w32 v14_97 then
J164 (remI t0_147 26) E_147 C_147 q_147
else
J164 0 E_147 C_147 q_147
def fW_law_97 (xs : Nat → Int32) (Ls : Nat) (a1 : Nat) (L97 : Int → Int → Rw → Cd → (Nat → Nat) → Option (Int × S3)) (v13_97 : Int) (v14_97 : Int) (E_97 : Rw) (C_97 : Cd) (q_97 : (Nat → Nat)) : Option (Int × S3) :=
bnd (fun (E_1850 : Rw) (C_1850 : Cd) (q_1850 : (Nat → Nat)) =>
fW_law_1850 a1 v13_97 E_1850 C_1850 q_1850) fun J1850 =>
if w32 100 ≤ w32 v14_97 then
J1850 E_97 C_97 q_97
else
if w32 v13_97 = 0 then
J1850 E_97 C_97 q_97
else
bnd (fun (t0_147 : Int) (E_147 : Rw) (C_147 : Cd) (q_147 : (Nat → Nat)) =>
fW_law_147 a1 L97 v13_97 v14_97 t0_147 E_147 C_147 q_147) fun J147 =>
if w32 (Ls : Int) ≤ w32 v14_97 then
J147 (andI ((((42019 * v14_97) * v14_97) + (8017 * v14_97)) + 71) 2147483647) E_97 C_97 q_97
else
if inR v14_97 Ls then
J147 (andI ((xs (ix v14_97)).toInt) 2147483647) E_97 C_97 q_97
else none
def fW_law (xs : Nat → Int32) (Ls : Nat) (a1 : Nat) (E : Rw) (C : Cd) (q : (Nat → Nat)) : Option (Int × S3) :=
cal3 (fW_isWiki a1 0 E C q) fun (r1 : Int) (E2 : Rw) (C3 : Cd) (q4 : (Nat → Nat)) =>
bnd (lpn (fun (_ : Int) (_ : Int) (_ : Rw) (_ : Cd) (_ : (Nat → Nat)) => (none : Option (Int × S3))) (fun L97 (v13_97 : Int) (v14_97 : Int) (E_97 : Rw) (C_97 : Cd) (q_97 : (Nat → Nat)) =>
fW_law_97 xs Ls a1 L97 v13_97 v14_97 E_97 C_97 q_97) FU) fun J97 =>
J97 r1 0 E2 C3 q4
