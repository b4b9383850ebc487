/-! THE FUNCTIONS: what the methods do, in pure form (moved here out of the parts behind; the contracts stand there) -/
/-- how long its rows are, by the field -/
def mLen (k : Nat) : Nat := [30, 0, 0, 24, 24, 0, 24, 0, 0, 3600, 120, 120, 120, 0, 2000, 2000, 2000, 48, 48, 64, 64, 4, 0, 24, 8, 4, 24, 24, 24, 3600, 24, 24, 24, 24, 24, 24, 0, 61, 61, 0, 0, 41, 41, 41, 41, 410, 410, 410, 0, 1700, 255000, 0, 700, 700, 700, 700, 22400, 22400, 22400, 0, 4000, 4000, 4000, 4000, 4000, 0, 0, 0, 0, 0, 0, 0, 9, 0, 60, 0, 200, 0, 1].getD k 0
def ix (i : Int) : Nat := (w32 i).toNat
def mSet (M : Md) (k : Nat) (x : Int) : Md := (fun j => if j = k then x else M.1 j, M.2)
def mPut (M : Md) (k i : Nat) (x : Int) : Md := (M.1, fun j => if j = k then (fun q => if q = i then x else M.2 k q) else M.2 j)
/-- is an index in a row of n places? -/
abbrev inR (i : Int) (n : Nat) : Prop := 0 ≤ w32 i ∧ w32 i < (n : Int)
abbrev isO (C : Cd) (a c : Nat) : Prop := a ∈ cL C ∧ cty C a = c
def cSetI (C : Cd) (k a : Nat) (v : Int) : Cd := (fun k' a' => if k' = k ∧ a' = a then v else cI C k' a', C.2)
def cSetR (C : Cd) (k a : Nat) (v : Option Nat) : Cd := (C.1, fun k' a' => if k' = k ∧ a' = a then v else cR C k' a', C.2.2)
def cSetE (C : Cd) (a i : Nat) (v : Int) : Cd := (C.1, C.2.1, fun a' i' => if a' = a ∧ i' = i then v else cE C a' i', C.2.2.2)
def cSetP (C : Cd) (a i : Nat) (v : Option Nat) : Cd := (C.1, C.2.1, C.2.2.1, fun a' i' => if a' = a ∧ i' = i then v else cP C a' i', C.2.2.2.2)
def cNew (C : Cd) (c : Nat) : Cd := (fun k' a' => if a' = csz C then 0 else cI C k' a', fun k' a' => if a' = csz C then none else cR C k' a', cE C, cP C, cn C, fun a' => if a' = csz C then c else cty C a', cL C ++ [csz C], csz C + 1, csl C + nF c)
def cNewA (C : Cd) (t n : Nat) : Cd := (cI C, cR C, fun a' i' => if a' = csz C then 0 else cE C a' i', fun a' i' => if a' = csz C then none else cP C a' i', fun a' => if a' = csz C then n else cn C a', fun a' => if a' = csz C then t else cty C a', cL C ++ [csz C], csz C + 1, csl C + n)
def drf {α : Type} (r : Option Nat) (f : Nat → Option α) : Option α := r.bind f
def opt {α : Type} (r : Option Nat) (x : α) (f : Nat → α) : α := match r with
  | none => x
  | some a => f a
def okc (C : Cd) (r : Option Nat) (c : Nat) : Bool := match r with
  | none => true
  | some a => decide (isO C a c)
/-- behind a call that may throw, where nothing is caught -/
def xk {α ρ S : Type} (f : α → S → Option ((ρ ⊕ Nat) × S)) (r : α ⊕ Nat) (σ : S) : Option ((ρ ⊕ Nat) × S) := match r with
  | .inl x => f x σ
  | .inr e => some (.inr e, σ)
def calx {α ρ S : Type} (X2 : Option ((α ⊕ Nat) × S)) (f : α → S → Option ((ρ ⊕ Nat) × S)) : Option ((ρ ⊕ Nat) × S) := cal X2 (xk f)
def cBump (C : Cd) : Cd := (cI C, cR C, cE C, cP C, cn C, cty C, cL C, csz C + 1, csl C + 6)
def retZX {S : Type} (x : Int) (σ : S) : Option ((Int ⊕ Nat) × S) := if w32 x = 0 ∨ w32 x = 1 then some (.inl x, σ) else none
/-- the class's two tables -/
def sTab (w : Nat) : List Int := if w = 0 then [999, 23, 23, 9, 6, 0, 9, 0, 0, 0, 0, 7, 23, 0] else [999, 8, 0, 0, 0, 0, 15, 15, 0]
def sLen (w : Nat) : Nat := (sTab w).length
def sAt (w i : Nat) : Int := (sTab w).getD i 0
/-- a copy of a list's row with room for n -/
def alCopy (C : Cd) (e n : Nat) : Cd := (cI C, cR C, fun a' i' => if a' = csz C then 0 else cE C a' i', fun a' i' => if a' = csz C then (if i' < cn C e then cP C e i' else none) else cP C a' i', fun a' => if a' = csz C then n else cn C a', fun a' => if a' = csz C then 107 else cty C a', cL C ++ [csz C], csz C + 1, csl C + n)
/-- the first n of a row are versions -/
def allV (C : Cd) (e n : Nat) : Bool := (List.range n).all fun i => okc C (cP C e i) 13
/-- a list's row with more room: the first one, or a longer copy -/
def alGrow (a : Nat) (C : Cd) : Option Cd :=
  if cR C 201 a = some 0 then (if w32 (cI C 202 a) = 0 then some (cSetR (cNewA C 107 10) 201 a (some (csz C))) else none)
  else drf (cR C 201 a) fun (e : Nat) => if isO C e 107 ∧ 2 ≤ cn C e ∧ cn C e ≤ 40000 ∧ allV C e (cn C e) = true then some (cSetR (alCopy C e (cn C e + cn C e / 2)) 201 a (some (csz C))) else none
/-- is there no room? -/
def alFull (a : Nat) (C : Cd) : Bool := match cR C 201 a with
  | none => true
  | some e => if e = 0 then true else decide (w32 (cI C 202 a) = (cn C e : Int))
/-- its row with one more at the place n -/
def alPut (a : Nat) (n : Nat) (v : Option Nat) (C : Cd) : Option Cd := drf (cR C 201 a) fun (e : Nat) => if isO C e 107 ∧ n < cn C e ∧ okc C v 13 = true ∧ cn C e ≤ 100000 then
    some (cSetI (cSetP C e n v) 202 a (n + 1)) else none
/-- the places from i on of a row, one further, and v at i -/
def alShift (C : Cd) (e i n : Nat) (v : Option Nat) : Cd := (cI C, cR C, cE C, fun a' j => if a' = e then (if j = i then v else if i < j ∧ j ≤ n then cP C e (j - 1) else cP C e j) else cP C a' j, C.2.2.2.2)
def nBits (n : Nat) : Nat → Nat
  | 0 => 0
  | k + 1 => nBits n k + (if n.testBit k then 1 else 0)
def fX12_in (a0 : Int) (a1 : Int) (a2 : Int) (M : Md) : Option (Int × Md) :=
bnd (fun (t0_15 : Int) (M_15 : Md) =>
retZ t0_15 M_15) fun J15 =>
bnd (fun  (M_14 : Md) =>
J15 0 M_14) fun J14 =>
if w32 a0 < w32 a1 then
J14 M
else
if w32 a2 < w32 a0 then
J14 M
else
J15 1 M
def fX12_act (a1 : Int) (M : Md) : Option (Int × Md) :=
cal (fX12_in a1 0 2 M) fun r2 M1 =>
bnd (fun (t0_15 : Int) (M_15 : Md) =>
bnd (mSet M_15 36 t0_15) fun (M3 : Md) =>
if w32 (M3.1 36) ≤ 0 then
bnd (M3.1 2) fun (x2_31 : Int) =>
bnd (mSet M3 2 a1) fun (M4 : Md) =>
some (x2_31, M4)
else
some (0, M3)) fun J15 =>
if w32 r2 = 0 then
J15 1 M1
else
J15 0 M1
def fX12_isAhead (a1 : Int) (a2 : Int) (M : Md) : Option (Int × Md) :=
if inR a1 (mLen 11) then
if inR a2 (mLen 11) then
bnd (fun (t0_40 : Int) (M_40 : Md) =>
retZ t0_40 M_40) fun J40 =>
bnd (fun  (M_35 : Md) =>
J40 1 M_35) fun J35 =>
if w32 (M.2 11 (ix a1)) < w32 (M.2 11 (ix a2)) then
J35 M
else
if inR a1 (mLen 11) then
if inR a2 (mLen 11) then
bnd (fun  (M_39 : Md) =>
J40 0 M_39) fun J39 =>
if ¬ w32 (M.2 11 (ix a1)) = w32 (M.2 11 (ix a2)) then
J39 M
else
if w32 a2 ≤ w32 a1 then
J39 M
else
J35 M
else none
else none
else none
else none
def fX12_aheadOf (a1 : Int) (M : Md) : Option (Int × Md) :=
bnd (lpn (fun (_ : Int) (_ : Int) (_ : Md) => (none : Option (Int × Md))) (fun L4 (v2_4 : Int) (v3_4 : Int) (M_4 : Md) =>
if w32 (M_4.1 8) ≤ w32 v3_4 then
some (v2_4, M_4)
else
if inR v3_4 (mLen 12) then
if inR a1 (mLen 12) then
bnd (fun (t0_42 : Int) (M_42 : Md) =>
bnd (v2_4 + t0_42) fun (x2_43 : Int) =>
L4 x2_43 (v3_4 + 1) M_42) fun J42 =>
bnd (fun  (M_41 : Md) =>
J42 0 M_41) fun J41 =>
if ¬ w32 (M_4.2 12 (ix v3_4)) = w32 (M_4.2 12 (ix a1)) then
J41 M_4
else
cal (fX12_isAhead v3_4 a1 M_4) fun r2 M1 =>
if w32 r2 = 0 then
J41 M1
else
J42 1 M1
else none
else none) FU) fun J4 =>
J4 0 0 M
def fX12_append (a1 : Int) (a2 : Int) (M : Md) : Option (Unit × Md) :=
if inR a1 (mLen 49) then
bnd (fun  (M_40 : Md) =>
some ((), M_40)) fun J40 =>
if w32 150 ≤ w32 (M.2 49 (ix a1)) then
J40 M
else
if inR a1 (mLen 49) then
if inR ((150 * a1) + (M.2 49 (ix a1))) (mLen 50) then bnd (mPut M 50 (ix ((150 * a1) + (M.2 49 (ix a1)))) a2) fun (M1 : Md) =>
if inR a1 (mLen 49) then
if inR a1 (mLen 49) then bnd (mPut M1 49 (ix a1) ((M1.2 49 (ix a1)) + 1)) fun (M2 : Md) =>
J40 M2
else none
else none
else none
else none
else none
def fX12_appendRow (a1 : Int) (a2 : Int) (M : Md) : Option (Unit × Md) :=
bnd (lpn (fun (_ : Int) (_ : Md) => (none : Option (Unit × Md))) (fun L2 (v3_2 : Int) (M_2 : Md) =>
if inR a2 (mLen 49) then
if w32 (M_2.2 49 (ix a2)) ≤ w32 v3_2 then
some ((), M_2)
else
if inR ((150 * a2) + v3_2) (mLen 50) then
cal (fX12_append a1 (M_2.2 50 (ix ((150 * a2) + v3_2))) M_2) fun r2 M1 =>
L2 (v3_2 + 1) M1
else none
else none) FU) fun J2 =>
J2 0 M
def fX12_isTitle (a0 : Int) (M : Md) : Option (Int × Md) :=
cal (fX12_in a0 0 23 M) fun r2 M1 =>
retZ r2 M1
def fX12_hasPage (a1 : Int) (M : Md) : Option (Int × Md) :=
cal (fX12_isTitle a1 M) fun r2 M1 =>
bnd (fun (t0_22 : Int) (M_22 : Md) =>
retZ t0_22 M_22) fun J22 =>
bnd (fun  (M_21 : Md) =>
J22 0 M_21) fun J21 =>
if w32 r2 = 0 then
J21 M1
else
if inR a1 (mLen 6) then
if w32 (M1.2 6 (ix a1)) = w32 (-1) then
J21 M1
else
J22 1 M1
else none
def fX12_mayAt (a1 : Int) (M : Md) : Option (Int × Md) :=
if inR a1 (mLen 3) then
bnd (fun (t0_18 : Int) (M_18 : Md) =>
retZ t0_18 M_18) fun J18 =>
if w32 (M.1 2) < w32 (M.2 3 (ix a1)) then
J18 0 M
else
J18 1 M
else none
def fX12_presentOf (a1 : Int) (M : Md) : Option (Int × Md) :=
bnd (lpn (fun (_ : Int) (_ : Int) (_ : Md) => (none : Option (Int × Md))) (fun L4 (v2_4 : Int) (v3_4 : Int) (M_4 : Md) =>
if w32 (M_4.1 8) ≤ w32 v3_4 then
some (v2_4, M_4)
else
if inR v3_4 (mLen 12) then
bnd (fun (v2_38 : Int) (M_38 : Md) =>
L4 v2_38 (v3_4 + 1) M_38) fun J38 =>
if ¬ w32 (M_4.2 12 (ix v3_4)) = w32 a1 then
J38 v2_4 M_4
else
bnd (fun  (M_36 : Md) =>
J38 v3_4 M_36) fun J36 =>
if w32 v2_4 = w32 (-1) then
J36 M_4
else
cal (fX12_isAhead v2_4 v3_4 M_4) fun r2 M1 =>
if w32 r2 = 0 then
J38 v2_4 M1
else
J36 M1
else none) FU) fun J4 =>
J4 (-1) 0 M
def fX12_presentAt (a1 : Int) (M : Md) : Option (Int × Md) :=
if inR a1 (mLen 6) then
bnd (fun (t0_24 : Int) (M_24 : Md) =>
some (t0_24, M_24)) fun J24 =>
if ¬ w32 (M.2 6 (ix a1)) = w32 (-1) then
if inR a1 (mLen 6) then
cal (fX12_presentOf (M.2 6 (ix a1)) M) fun r2 M1 =>
J24 r2 M1
else none
else
J24 (-1) M
else none
def fX12_approve (a1 : Int) (M : Md) : Option (Int × Md) :=
cal (fX12_hasPage a1 M) fun r2 M1 =>
bnd (fun (t0_26 : Int) (M_26 : Md) =>
bnd (mSet M_26 36 t0_26) fun (M3 : Md) =>
if w32 (M3.1 36) ≤ 0 then
bnd (mSet M3 5 ((M3.1 5) + 1)) fun (M4 : Md) =>
if inR a1 (mLen 6) then
if inR (M4.1 13) (mLen 14) then bnd (mPut M4 14 (ix (M4.1 13)) (M4.2 6 (ix a1))) fun (M5 : Md) =>
if inR (M5.1 13) (mLen 15) then bnd (mPut M5 15 (ix (M5.1 13)) (M5.1 5)) fun (M6 : Md) =>
cal (fX12_presentAt a1 M6) fun r8 M7 =>
if inR (M6.1 13) (mLen 16) then bnd (mPut M7 16 (ix (M6.1 13)) r8) fun (M9 : Md) =>
bnd (mSet M9 13 ((M9.1 13) + 1)) fun (M10 : Md) =>
some (M10.1 5, M10)
else none
else none
else none
else none
else
some (0, M3)) fun J26 =>
if ¬ w32 r2 = 0 then
cal (fX12_mayAt a1 M1) fun r12 M11 =>
if ¬ w32 r12 = 0 then
J26 0 M11
else
J26 2 M11
else
J26 1 M1
def fX12_hasIndex (a1 : Int) (a2 : Int) (M : Md) : Option (Int × Md) :=
cal (fX12_hasPage a1 M) fun r2 M1 =>
bnd (fun (t0_18 : Int) (M_18 : Md) =>
bnd (mSet M_18 36 t0_18) fun (M3 : Md) =>
bnd (fun (t0_33 : Int) (M_33 : Md) =>
retZ t0_33 M_33) fun J33 =>
if ¬ w32 (M3.1 36) = 0 then
J33 0 M3
else
J33 1 M3) fun J18 =>
bnd (fun  (M_17 : Md) =>
J18 1 M_17) fun J17 =>
if w32 r2 = 0 then
J17 M1
else
if w32 a2 < 0 then
J17 M1
else
J18 0 M1
def fX12_newRow  (M : Md) : Option (Int × Md) :=
if inR (M.1 48) (mLen 49) then bnd (mPut M 49 (ix (M.1 48)) 0) fun (M1 : Md) =>
bnd (mSet M1 48 ((M1.1 48) + 1)) fun (M2 : Md) =>
some ((M2.1 48) - 1, M2)
else none
def fX12_newFrame (a1 : Int) (a2 : Int) (a3 : Int) (a4 : Int) (M : Md) : Option (Int × Md) :=
bnd (M.1 40) fun (x5_4 : Int) =>
if inR x5_4 (mLen 41) then bnd (mPut M 41 (ix x5_4) a1) fun (M1 : Md) =>
if inR x5_4 (mLen 42) then bnd (mPut M1 42 (ix x5_4) a2) fun (M2 : Md) =>
if inR x5_4 (mLen 43) then bnd (mPut M2 43 (ix x5_4) a3) fun (M3 : Md) =>
if inR x5_4 (mLen 44) then bnd (mPut M3 44 (ix x5_4) a4) fun (M4 : Md) =>
bnd (lpn (fun (_ : Int) (_ : Md) => (none : Option (Int × Md))) (fun L42 (v6_42 : Int) (M_42 : Md) =>
if w32 10 ≤ w32 v6_42 then
bnd (mSet M_42 40 ((M_42.1 40) + 1)) fun (M5 : Md) =>
some (x5_4, M5)
else
if inR ((10 * x5_4) + v6_42) (mLen 45) then bnd (mPut M_42 45 (ix ((10 * x5_4) + v6_42)) (-1)) fun (M6 : Md) =>
if inR ((10 * x5_4) + v6_42) (mLen 47) then bnd (mPut M6 47 (ix ((10 * x5_4) + v6_42)) (-1)) fun (M7 : Md) =>
L42 (v6_42 + 1) M7
else none
else none) FU) fun J42 =>
J42 0 M4
else none
else none
else none
else none
def fX12_task (a1 : Int) (a2 : Int) (a3 : Int) (a4 : Int) (a5 : Int) (M : Md) : Option (Unit × Md) :=
if inR (M.1 59) (mLen 60) then bnd (mPut M 60 (ix (M.1 59)) a1) fun (M1 : Md) =>
if inR (M1.1 59) (mLen 61) then bnd (mPut M1 61 (ix (M1.1 59)) a2) fun (M2 : Md) =>
if inR (M2.1 59) (mLen 62) then bnd (mPut M2 62 (ix (M2.1 59)) a3) fun (M3 : Md) =>
if inR (M3.1 59) (mLen 63) then bnd (mPut M3 63 (ix (M3.1 59)) a4) fun (M4 : Md) =>
if inR (M4.1 59) (mLen 64) then bnd (mPut M4 64 (ix (M4.1 59)) a5) fun (M5 : Md) =>
bnd (mSet M5 59 ((M5.1 59) + 1)) fun (M6 : Md) =>
some ((), M6)
else none
else none
else none
else none
else none
def fX12_partOf (a1 : Int) (a2 : Int) (M : Md) : Option (Int × Md) :=
if inR a1 (mLen 55) then
if w32 a2 ≤ w32 (M.2 55 (ix a1)) then
if inR (((32 * a1) + a2) - 1) (mLen 58) then
bnd (M.2 58 (ix (((32 * a1) + a2) - 1))) fun (x3_25 : Int) =>
bnd (fun (t0_47 : Int) (M_47 : Md) =>
bnd (mSet M_47 71 t0_47) fun (M1 : Md) =>
bnd (fun (t0_60 : Int) (M_60 : Md) =>
some (t0_60, M_60)) fun J60 =>
if ¬ w32 x3_25 = w32 (-1) then
J60 x3_25 M1
else
J60 1 M1) fun J47 =>
bnd (fun  (M_43 : Md) =>
J47 (M_43.1 71) M_43) fun J43 =>
if ¬ w32 x3_25 = w32 (-1) then
J43 M
else
if ¬ w32 (M.1 71) = 0 then
J43 M
else
J47 a2 M
else none
else
some (1, M)
else none
def fX12_hasOther (a1 : Int) (M : Md) : Option (Int × Md) :=
bnd (lpn (fun (_ : Int) (_ : Int) (_ : Md) => (none : Option (Int × Md))) (fun L4 (v2_4 : Int) (v3_4 : Int) (M_4 : Md) =>
if inR a1 (mLen 49) then
if w32 (M_4.2 49 (ix a1)) ≤ w32 v3_4 then
retZ v2_4 M_4
else
bnd (fun (t0_38 : Int) (M_38 : Md) =>
L4 t0_38 (v3_4 + 1) M_38) fun J38 =>
bnd (fun  (M_33 : Md) =>
J38 1 M_33) fun J33 =>
if ¬ w32 v2_4 = 0 then
J33 M_4
else
if inR ((150 * a1) + v3_4) (mLen 50) then
if w32 (M_4.2 50 (ix ((150 * a1) + v3_4))) = 0 then
J38 0 M_4
else
J33 M_4
else none
else none) FU) fun J4 =>
J4 0 0 M
def fX12_areSame (a1 : Int) (a2 : Int) (M : Md) : Option (Int × Md) :=
if inR a1 (mLen 49) then
if inR a2 (mLen 49) then
bnd (fun (t0_20 : Int) (M_20 : Md) =>
bnd (lpn (fun (_ : Int) (_ : Int) (_ : Md) => (none : Option (Int × Md))) (fun L24 (v3_24 : Int) (v4_24 : Int) (M_24 : Md) =>
if inR a1 (mLen 49) then
bnd (fun  (M_80 : Md) =>
retZ v3_24 M_80) fun J80 =>
if w32 (M_24.2 49 (ix a1)) ≤ w32 v4_24 then
J80 M_24
else
if w32 v3_24 = 0 then
J80 M_24
else
if inR ((150 * a1) + v4_24) (mLen 50) then
if inR ((150 * a2) + v4_24) (mLen 50) then
bnd (fun (t0_73 : Int) (M_73 : Md) =>
L24 t0_73 (v4_24 + 1) M_73) fun J73 =>
if ¬ w32 (M_24.2 50 (ix ((150 * a1) + v4_24))) = w32 (M_24.2 50 (ix ((150 * a2) + v4_24))) then
J73 0 M_24
else
J73 1 M_24
else none
else none
else none) FU) fun J24 =>
J24 t0_20 0 M_20) fun J20 =>
if ¬ w32 (M.2 49 (ix a1)) = w32 (M.2 49 (ix a2)) then
J20 0 M
else
J20 1 M
else none
else none
def fX12_sumOf (a1 : Int) (M : Md) : Option (Int × Md) :=
bnd (lpn (fun (_ : Int) (_ : Int) (_ : Md) => (none : Option (Int × Md))) (fun L4 (v2_4 : Int) (v3_4 : Int) (M_4 : Md) =>
if inR a1 (mLen 55) then
bnd (fun  (M_93 : Md) =>
some (v2_4, M_93)) fun J93 =>
if w32 (M_4.2 55 (ix a1)) < w32 v3_4 then
J93 M_4
else
if ¬ w32 (M_4.1 71) = 0 then
J93 M_4
else
cal (fX12_partOf a1 v3_4 M_4) fun r2 M1 =>
bnd (lpn (fun (_ : Int) (_ : Int) (_ : Md) => (none : Option (Int × Md))) (fun L32 (v2_32 : Int) (v5_32 : Int) (M_32 : Md) =>
if inR r2 (mLen 49) then
if w32 (M_32.2 49 (ix r2)) ≤ w32 v5_32 then
L4 v2_32 (v3_4 + 1) M_32
else
if inR ((150 * r2) + v5_32) (mLen 50) then
bnd (M_32.2 50 (ix ((150 * r2) + v5_32))) fun (x6_58 : Int) =>
bnd (fun (t0_80 : Int) (M_80 : Md) =>
L32 t0_80 (v5_32 + 1) M_80) fun J80 =>
if w32 1000 ≤ w32 x6_58 then
J80 v2_32 M_32
else
J80 (remI (v2_32 + x6_58) 1000) M_32
else none
else none) FU) fun J32 =>
J32 v2_4 0 M1
else none) FU) fun J4 =>
J4 0 1 M
def fX12_numberOf (a1 : Int) (M : Md) : Option (Int × Md) :=
if inR a1 (mLen 49) then
bnd (fun (t0_39 : Int) (M_39 : Md) =>
some (t0_39, M_39)) fun J39 =>
bnd (fun  (M_38 : Md) =>
J39 (-1) M_38) fun J38 =>
if w32 (M.2 49 (ix a1)) ≤ 0 then
J38 M
else
if inR (150 * a1) (mLen 50) then
if w32 1000 ≤ w32 (M.2 50 (ix (150 * a1))) then
J38 M
else
if inR (150 * a1) (mLen 50) then
J39 (M.2 50 (ix (150 * a1))) M
else none
else none
else none
def fX12_approvedUpTo (a1 : Int) (a2 : Int) (M : Md) : Option (Int × Md) :=
bnd (lpn (fun (_ : Int) (_ : Int) (_ : Md) => (none : Option (Int × Md))) (fun L5 (v3_5 : Int) (v4_5 : Int) (M_5 : Md) =>
if w32 (M_5.1 13) ≤ w32 v4_5 then
some (v3_5, M_5)
else
if inR v4_5 (mLen 14) then
bnd (fun (t0_47 : Int) (M_47 : Md) =>
L5 t0_47 (v4_5 + 1) M_47) fun J47 =>
bnd (fun  (M_46 : Md) =>
J47 v3_5 M_46) fun J46 =>
if ¬ w32 (M_5.2 14 (ix v4_5)) = w32 a1 then
J46 M_5
else
if inR v4_5 (mLen 15) then
if w32 a2 < w32 (M_5.2 15 (ix v4_5)) then
J46 M_5
else
if inR v4_5 (mLen 16) then
J47 (M_5.2 16 (ix v4_5)) M_5
else none
else none
else none) FU) fun J5 =>
J5 (-1) 0 M
def fX12_seenAt (a1 : Int) (M : Md) : Option (Int × Md) :=
bnd (fun (t0_40 : Int) (M_40 : Md) =>
some (t0_40, M_40)) fun J40 =>
bnd (fun  (M_18 : Md) =>
cal (fX12_presentAt a1 M_18) fun r2 M1 =>
J40 r2 M1) fun J18 =>
if w32 (M.1 39) = w32 (-1) then
J18 M
else
if inR a1 (mLen 6) then
if ¬ w32 (M.2 6 (ix a1)) = w32 (-1) then
if inR a1 (mLen 6) then
cal (fX12_approvedUpTo (M.2 6 (ix a1)) (M.1 39) M) fun r4 M3 =>
J40 r4 M3
else none
else
J18 M
else none
def fX12_membersOf (a1 : Int) (M : Md) : Option (Int × Md) :=
bnd (lpn (fun (_ : Int) (_ : Int) (_ : Md) => (none : Option (Int × Md))) (fun L4 (v2_4 : Int) (v3_4 : Int) (M_4 : Md) =>
if w32 24 ≤ w32 v3_4 then
some (v2_4, M_4)
else
if inR v3_4 (mLen 32) then
bnd (orI v2_4 (shlI (andI (shrI (M_4.2 32 (ix v3_4)) a1) 1) v3_4)) fun (x2_24 : Int) =>
L4 x2_24 (v3_4 + 1) M_4
else none) FU) fun J4 =>
J4 0 0 M
def fX12_countOf (a0 : Int) (M : Md) : Option (Int × Md) :=
bnd (lpn (fun (_ : Int) (_ : Int) (_ : Md) => (none : Option (Int × Md))) (fun L4 (v1_4 : Int) (v2_4 : Int) (M_4 : Md) =>
if w32 v2_4 ≤ 0 then
some (v1_4, M_4)
else
bnd (v1_4 + (andI v2_4 1)) fun (x1_13 : Int) =>
bnd (shrI v2_4 1) fun (x2_17 : Int) =>
L4 x1_13 x2_17 M_4) FU) fun J4 =>
J4 0 a0 M
def fX12_listMembers (a1 : Int) (a2 : Int) (M : Md) : Option (Unit × Md) :=
bnd (lpn (fun (_ : Int) (_ : Md) => (none : Option (Unit × Md))) (fun L2 (v3_2 : Int) (M_2 : Md) =>
if w32 24 ≤ w32 v3_2 then
some ((), M_2)
else
bnd (fun  (M_39 : Md) =>
L2 (v3_2 + 1) M_39) fun J39 =>
if ¬ w32 (andI (shrI a2 v3_2) 1) = w32 1 then
J39 M_2
else
cal (fX12_append a1 (1000 + v3_2) M_2) fun r2 M1 =>
bnd (mSet M1 66 (orI (M1.1 66) (shlI 1 v3_2))) fun (M3 : Md) =>
J39 M3) FU) fun J2 =>
J2 0 M
def fX12_takesTwo (a1 : Int) (M : Md) : Option (Int × Md) :=
if w32 2 ≤ w32 (M.1 73) then
if inR ((M.1 73) - 1) (mLen 72) then
bnd (M.2 72 (ix ((M.1 73) - 1))) fun (x2_21 : Int) =>
if inR ((M.1 73) - 2) (mLen 72) then
bnd (M.2 72 (ix ((M.1 73) - 2))) fun (x3_33 : Int) =>
bnd (mSet M 73 ((M.1 73) - 1)) fun (M1 : Md) =>
bnd (fun (t0_113 : Int) (M_113 : Md) =>
if inR ((M1.1 73) - 1) (mLen 72) then bnd (mPut M_113 72 (ix ((M1.1 73) - 1)) t0_113) fun (M2 : Md) =>
some (1, M2)
else none) fun J113 =>
if ¬ w32 a1 = w32 2 then
if ¬ w32 a1 = w32 3 then
if ¬ w32 a1 = w32 4 then
if w32 x2_21 ≤ w32 x3_33 then
J113 0 M1
else
J113 1 M1
else
J113 (remI (x3_33 * x2_21) 1000) M1
else
J113 (remI ((x3_33 - x2_21) + 1000) 1000) M1
else
J113 (remI (x3_33 + x2_21) 1000) M1
else none
else none
else
some (0, M)
def fX12_moduleResult (a1 : Int) (a2 : Int) (M : Md) : Option (Int × Md) :=
bnd (mSet M 73 0) fun (M1 : Md) =>
bnd (lpn (fun (_ : Int) (_ : Int) (_ : Md) => (none : Option (Int × Md))) (fun L10 (v3_10 : Int) (v4_10 : Int) (M_10 : Md) =>
bnd (fun  (M_277 : Md) =>
some (9004, M_277)) fun J277 =>
if w32 50 ≤ w32 v4_10 then
J277 M_10
else
if inR a2 (mLen 21) then
if w32 (M_10.2 21 (ix a2)) ≤ w32 v3_10 then
J277 M_10
else
if inR ((16 * a2) + v3_10) (mLen 19) then
bnd (M_10.2 19 (ix ((16 * a2) + v3_10))) fun (x5_38 : Int) =>
if inR ((16 * a2) + v3_10) (mLen 20) then
bnd (M_10.2 20 (ix ((16 * a2) + v3_10))) fun (x6_51 : Int) =>
bnd (fun  (M_78 : Md) =>
bnd (fun (v3_262 : Int) (v7_262 : Int) (M_262 : Md) =>
if ¬ w32 v7_262 = 0 then
L10 v3_262 (v4_10 + 1) M_262
else
some (9004, M_262)) fun J262 =>
if w32 2 ≤ w32 x5_38 then
if w32 6 ≤ w32 x5_38 then
if ¬ w32 x5_38 = w32 6 then
bnd (fun (t0_195 : Int) (M_195 : Md) =>
bnd (fun (t0_212 : Int) (M_212 : Md) =>
bnd (mSet M_212 73 ((M_195.1 73) - t0_212)) fun (M2 : Md) =>
bnd (fun  (M_238 : Md) =>
bnd (fun (t0_261 : Int) (M_261 : Md) =>
J262 t0_261 t0_195 M_261) fun J261 =>
bnd (fun  (M_260 : Md) =>
J261 (v3_10 + 1) M_260) fun J260 =>
if w32 t0_195 = 0 then
J260 M_238
else
if inR (M_238.1 73) (mLen 72) then
if ¬ w32 (M_238.2 72 (ix (M_238.1 73))) = 0 then
J260 M_238
else
J261 x6_51 M_238
else none) fun J238 =>
if w32 t0_195 = 0 then
J238 M2
else
if ¬ w32 x5_38 = w32 8 then
J238 M2
else
if inR (M2.1 73) (mLen 72) then
some (M2.2 72 (ix (M2.1 73)), M2)
else none) fun J212 =>
if w32 t0_195 = 0 then
J212 0 M_195
else
J212 1 M_195) fun J195 =>
if w32 (M_78.1 73) ≤ 0 then
J195 0 M_78
else
J195 1 M_78
else
J262 x6_51 1 M_78
else
cal (fX12_takesTwo x5_38 M_78) fun r4 M3 =>
J262 (v3_10 + 1) r4 M3
else
bnd (fun (t0_107 : Int) (M_107 : Md) =>
if w32 (M_107.1 71) ≤ 0 then
bnd (fun (t0_138 : Int) (M_138 : Md) =>
if inR (M_107.1 73) (mLen 72) then bnd (mPut M_138 72 (ix (M_107.1 73)) t0_138) fun (M5 : Md) =>
bnd (mSet M5 73 ((M5.1 73) + 1)) fun (M6 : Md) =>
J262 (v3_10 + 1) 1 M6
else none) fun J138 =>
if ¬ w32 t0_107 = w32 (-1) then
J138 t0_107 M_107
else
J138 0 M_107
else
some (0, M_107)) fun J107 =>
if ¬ w32 x5_38 = 0 then
cal (fX12_partOf a1 (x6_51 + 2) M_78) fun r8 M7 =>
cal (fX12_numberOf r8 M7) fun r10 M9 =>
J107 r10 M9
else
J107 x6_51 M_78) fun J78 =>
if w32 2 ≤ w32 x5_38 then
J78 M_10
else
if ¬ w32 (M_10.1 73) = w32 8 then
J78 M_10
else
some (9004, M_10)
else none
else none
else none) FU) fun J10 =>
J10 0 0 M1
def fX12_giveByNumber (a1 : Int) (a2 : Int) (M : Md) : Option (Unit × Md) :=
if inR a1 (mLen 54) then
bnd (M.2 54 (ix a1)) fun (x3_6 : Int) =>
if inR a1 (mLen 52) then
bnd (M.2 52 (ix a1)) fun (x4_13 : Int) =>
bnd (fun  (M_224 : Md) =>
some ((), M_224)) fun J224 =>
if ¬ w32 x4_13 = w32 3 then
bnd (fun  (M_87 : Md) =>
cal (fX12_in a2 0 7 M_87) fun r2 M1 =>
bnd (fun (t0_113 : Int) (M_113 : Md) =>
bnd (mSet M_113 69 (orI (M1.1 69) t0_113)) fun (M3 : Md) =>
bnd (fun (t0_131 : Int) (M_131 : Md) =>
bnd (fun  (M_159 : Md) =>
J224 M_159) fun J159 =>
if ¬ w32 x4_13 = w32 4 then
cal (fX12_listMembers x3_6 t0_131 M_131) fun r5 M4 =>
J159 M4
else
cal (fX12_countOf t0_131 M_131) fun r7 M6 =>
cal (fX12_append x3_6 r7 M6) fun r9 M8 =>
J159 M8) fun J131 =>
if w32 r2 = 0 then
J131 0 M3
else
cal (fX12_membersOf a2 M3) fun r11 M10 =>
J131 r11 M10) fun J113 =>
if w32 r2 = 0 then
J113 0 M1
else
J113 (shlI 1 a2) M1) fun J87 =>
if w32 x4_13 = w32 4 then
J87 M
else
if ¬ w32 x4_13 = w32 5 then
cal (fX12_in a2 0 3 M) fun r13 M12 =>
bnd (fun (t0_187 : Int) (M_187 : Md) =>
bnd (mSet M_187 70 (orI (M12.1 70) t0_187)) fun (M14 : Md) =>
bnd (fun (t0_208 : Int) (M_208 : Md) =>
if ¬ w32 (M_208.1 71) = 0 then
J224 M_208
else
cal (fX12_append x3_6 t0_208 M_208) fun r16 M15 =>
J224 M15) fun J208 =>
if w32 r13 = 0 then
J208 9004 M14
else
cal (fX12_moduleResult a1 a2 M14) fun r18 M17 =>
J208 r18 M17) fun J187 =>
if w32 r13 = 0 then
J187 0 M12
else
J187 (shlI 1 a2) M12
else
J87 M
else
cal (fX12_isTitle a2 M) fun r20 M19 =>
bnd (fun (t0_44 : Int) (M_44 : Md) =>
bnd (mSet M_44 68 (orI (M19.1 68) t0_44)) fun (M21 : Md) =>
bnd (fun (t0_69 : Int) (M_69 : Md) =>
cal (fX12_append x3_6 t0_69 M_69) fun r23 M22 =>
J224 M22) fun J69 =>
bnd (fun  (M_68 : Md) =>
J69 0 M_68) fun J68 =>
if w32 r20 = 0 then
J68 M21
else
cal (fX12_seenAt a2 M21) fun r25 M24 =>
if w32 r25 = w32 (-1) then
J68 M24
else
J69 1 M24) fun J44 =>
if w32 r20 = 0 then
J44 0 M19
else
J44 (shlI 1 a2) M19
else none
else none
def fX12_give (a1 : Int) (M : Md) : Option (Unit × Md) :=
if inR a1 (mLen 54) then
bnd (M.2 54 (ix a1)) fun (x2_6 : Int) =>
if inR a1 (mLen 52) then
bnd (M.2 52 (ix a1)) fun (x3_13 : Int) =>
bnd (mSet M 71 0) fun (M1 : Md) =>
bnd (fun (t0_34 : Int) (M_34 : Md) =>
bnd (fun  (M_182 : Md) =>
bnd (fun  (M_254 : Md) =>
some ((), M_254)) fun J254 =>
if w32 (M_182.1 71) ≤ 0 then
J254 M_182
else
bnd (((32 * a1) + (M_182.1 71)) - 1) fun (x5_200 : Int) =>
cal (fX12_newRow M_182) fun r3 M2 =>
if inR x5_200 (mLen 58) then bnd (mPut M2 58 (ix x5_200) r3) fun (M4 : Md) =>
cal (fX12_task 2 a1 0 0 x2_6 M4) fun r6 M5 =>
if inR a1 (mLen 53) then
if inR x5_200 (mLen 56) then
if inR x5_200 (mLen 57) then
if inR x5_200 (mLen 58) then
cal (fX12_task 0 (M5.2 53 (ix a1)) (M5.2 56 (ix x5_200)) (M5.2 57 (ix x5_200)) (M5.2 58 (ix x5_200)) M5) fun r8 M7 =>
J254 M7
else none
else none
else none
else none
else none) fun J182 =>
bnd (fun  (M_135 : Md) =>
if ¬ w32 x3_13 = w32 2 then
if ¬ w32 (M_135.1 71) = 0 then
J182 M_135
else
cal (fX12_numberOf t0_34 M_135) fun r10 M9 =>
cal (fX12_giveByNumber a1 r10 M9) fun r12 M11 =>
J182 M11
else
cal (fX12_sumOf a1 M_135) fun r14 M13 =>
bnd (fun  (M_161 : Md) =>
J182 M_161) fun J161 =>
if ¬ w32 (M13.1 71) = 0 then
J161 M13
else
cal (fX12_append x2_6 r14 M13) fun r16 M15 =>
J161 M15) fun J135 =>
if w32 2 ≤ w32 x3_13 then
J135 M_34
else
if ¬ w32 (M_34.1 71) = 0 then
J135 M_34
else
bnd (fun (t0_63 : Int) (M_63 : Md) =>
bnd (fun (t0_86 : Int) (M_86 : Md) =>
bnd (fun (t0_116 : Int) (M_116 : Md) =>
bnd (fun  (M_132 : Md) =>
J182 M_132) fun J132 =>
if ¬ w32 (M_116.1 71) = 0 then
J132 M_116
else
cal (fX12_appendRow x2_6 t0_116 M_116) fun r18 M17 =>
J132 M17) fun J116 =>
if w32 (M_86.1 71) ≤ 0 then
bnd (fun (t0_112 : Int) (M_112 : Md) =>
cal (fX12_partOf a1 (x3_13 + t0_112) M_112) fun r20 M19 =>
J116 r20 M19) fun J112 =>
if w32 t0_86 = 0 then
J112 3 M_86
else
J112 2 M_86
else
J116 1 M_86) fun J86 =>
if ¬ w32 x3_13 = 0 then
cal (fX12_areSame t0_34 t0_63 M_63) fun r22 M21 =>
J86 r22 M21
else
cal (fX12_hasOther t0_34 M_63) fun r24 M23 =>
J86 r24 M23) fun J63 =>
if ¬ w32 x3_13 = w32 1 then
J63 1 M_34
else
cal (fX12_partOf a1 2 M_34) fun r26 M25 =>
J63 r26 M25) fun J34 =>
if ¬ w32 x3_13 = w32 2 then
cal (fX12_partOf a1 1 M1) fun r28 M27 =>
J34 r28 M27
else
J34 1 M1
else none
else none
def fX12_codeAt (a1 : Int) (a2 : Int) (M : Md) : Option (Int × Md) :=
if inR a1 (mLen 41) then
if inR ((30 * (M.2 41 (ix a1))) + a2) (mLen 9) then
some (M.2 9 (ix ((30 * (M.2 41 (ix a1))) + a2)), M)
else none
else none
def fX12_opens (a0 : Int) (M : Md) : Option (Int × Md) :=
bnd (fun (t0_38 : Int) (M_38 : Md) =>
retZ t0_38 M_38) fun J38 =>
bnd (fun  (M_33 : Md) =>
J38 1 M_33) fun J33 =>
if w32 a0 = w32 2 then
J33 M
else
if w32 a0 = w32 3 then
J33 M
else
if w32 a0 = w32 4 then
J33 M
else
if w32 a0 = w32 8 then
J33 M
else
if w32 a0 = w32 9 then
J33 M
else
if ¬ w32 a0 = w32 10 then
J38 0 M
else
J33 M
def fX12_closeOf (a1 : Int) (a2 : Int) (M : Md) : Option (Int × Md) :=
bnd (lpn (fun (_ : Int) (_ : Int) (_ : Md) => (none : Option (Int × Md))) (fun L5 (v3_5 : Int) (v4_5 : Int) (M_5 : Md) =>
if w32 v3_5 ≤ 0 then
some (v4_5, M_5)
else
cal (fX12_codeAt a1 (v4_5 + 1) M_5) fun r2 M1 =>
bnd (divI r2 1000) fun (x5_23 : Int) =>
cal (fX12_opens x5_23 M1) fun r4 M3 =>
bnd (fun (t0_50 : Int) (M_50 : Md) =>
bnd (v3_5 + t0_50) fun (x3_51 : Int) =>
L5 x3_51 (v4_5 + 1) M_50) fun J50 =>
if w32 r4 = 0 then
if ¬ w32 x5_23 = w32 7 then
J50 0 M3
else
J50 (-1) M3
else
J50 1 M3) FU) fun J5 =>
J5 1 a2 M
def fX12_redirectOf (a1 : Int) (M : Md) : Option (Int × Md) :=
if inR (30 * a1) (mLen 9) then
bnd (M.2 9 (ix (30 * a1))) fun (x2_9 : Int) =>
bnd (fun (t0_29 : Int) (M_29 : Md) =>
some (t0_29, M_29)) fun J29 =>
if ¬ w32 (divI x2_9 1000) = w32 12 then
J29 (-1) M
else
J29 (remI x2_9 1000) M
else none
def fX12_wayOf (a1 : Int) (M : Md) : Option (Int × Md) :=
bnd (lpn (fun (_ : Int) (_ : Int) (_ : Md) => (none : Option (Int × Md))) (fun L4 (v2_4 : Int) (v3_4 : Int) (M_4 : Md) =>
if w32 5 ≤ w32 v3_4 then
some ((-1), M_4)
else
bnd (mSet M_4 68 (orI (M_4.1 68) (shlI 1 v2_4))) fun (M1 : Md) =>
cal (fX12_seenAt v2_4 M1) fun r3 M2 =>
if ¬ w32 r3 = w32 (-1) then
cal (fX12_redirectOf r3 M2) fun r5 M4 =>
if ¬ w32 r5 = w32 (-1) then
L4 r5 (v3_4 + 1) M4
else
some (v2_4, M4)
else
some ((-1), M2)) FU) fun J4 =>
J4 a1 0 M
def fX12_isCalledFrom (a1 : Int) (a2 : Int) (M : Md) : Option (Int × Md) :=
bnd (lpn (fun (_ : Int) (_ : Int) (_ : Md) => (none : Option (Int × Md))) (fun L5 (v3_5 : Int) (v4_5 : Int) (M_5 : Md) =>
if w32 v4_5 = w32 (-1) then
retZ v3_5 M_5
else
bnd (fun (t0_31 : Int) (M_31 : Md) =>
if inR v4_5 (mLen 44) then
bnd (M_31.2 44 (ix v4_5)) fun (x4_39 : Int) =>
L5 t0_31 x4_39 M_31
else none) fun J31 =>
bnd (fun  (M_26 : Md) =>
J31 1 M_26) fun J26 =>
if ¬ w32 v3_5 = 0 then
J26 M_5
else
if inR v4_5 (mLen 42) then
if ¬ w32 (M_5.2 42 (ix v4_5)) = w32 a2 then
J31 0 M_5
else
J26 M_5
else none) FU) fun J5 =>
J5 0 a1 M
def fX12_markFrom (a1 : Int) (a2 : Int) (a3 : Int) (M : Md) : Option (Int × Md) :=
bnd (lpn (fun (_ : Int) (_ : Md) => (none : Option (Int × Md))) (fun L3 (v4_3 : Int) (M_3 : Md) =>
bnd (fun  (M_78 : Md) =>
some (v4_3, M_78)) fun J78 =>
if w32 a3 ≤ w32 v4_3 then
J78 M_3
else
cal (fX12_codeAt a1 v4_3 M_3) fun r2 M1 =>
if w32 (divI r2 1000) = w32 5 then
J78 M1
else
cal (fX12_codeAt a1 v4_3 M1) fun r4 M3 =>
if w32 (divI r4 1000) = w32 6 then
J78 M3
else
cal (fX12_codeAt a1 v4_3 M3) fun r6 M5 =>
cal (fX12_opens (divI r6 1000) M5) fun r8 M7 =>
bnd (fun (t0_73 : Int) (M_73 : Md) =>
L3 t0_73 M_73) fun J73 =>
if w32 r8 = 0 then
J73 (v4_3 + 1) M7
else
cal (fX12_closeOf a1 v4_3 M7) fun r10 M9 =>
J73 (r10 + 1) M9) FU) fun J3 =>
J3 a2 M
def fX12_layArguments (a1 : Int) (a2 : Int) (a3 : Int) (a4 : Int) (M : Md) : Option (Unit × Md) :=
bnd (lpn (fun (_ : Int) (_ : Int) (_ : Md) => (none : Option (Unit × Md))) (fun L6 (v5_6 : Int) (v6_6 : Int) (M_6 : Md) =>
if w32 a4 ≤ w32 v6_6 then
some ((), M_6)
else
cal (fX12_codeAt a2 v6_6 M_6) fun r2 M1 =>
bnd (fun (t0_39 : Int) (M_39 : Md) =>
bnd (v5_6 + t0_39) fun (x5_40 : Int) =>
bnd (fun (t0_63 : Int) (M_63 : Md) =>
bnd (fun  (M_111 : Md) =>
cal (fX12_markFrom a2 (v6_6 + 1) a4 M_111) fun r4 M3 =>
L6 x5_40 r4 M3) fun J111 =>
if w32 10 ≤ w32 t0_63 then
J111 M_63
else
if inR ((10 * a1) + t0_63) (mLen 45) then bnd (mPut M_63 45 (ix ((10 * a1) + t0_63)) (v6_6 + 1)) fun (M5 : Md) =>
cal (fX12_markFrom a2 (v6_6 + 1) a4 M5) fun r7 M6 =>
if inR ((10 * a1) + t0_63) (mLen 46) then bnd (mPut M6 46 (ix ((10 * a1) + t0_63)) r7) fun (M8 : Md) =>
J111 M8
else none
else none) fun J63 =>
if ¬ w32 (divI r2 1000) = w32 5 then
J63 (remI r2 1000) M_39
else
J63 x5_40 M_39) fun J39 =>
if ¬ w32 (divI r2 1000) = w32 5 then
J39 0 M1
else
J39 1 M1) FU) fun J6 =>
J6 0 a3 M
def fX12_expandCall (a1 : Int) (a2 : Int) (a3 : Int) (a4 : Int) (M : Md) : Option (Unit × Md) :=
cal (fX12_codeAt a1 a2 M) fun r2 M1 =>
bnd (remI r2 1000) fun (x5_10 : Int) =>
if ¬ w32 (M1.1 65) = w32 40 then
bnd (mSet M1 65 ((M1.1 65) + 1)) fun (M3 : Md) =>
cal (fX12_wayOf x5_10 M3) fun r5 M4 =>
bnd (fun  (M_183 : Md) =>
some ((), M_183)) fun J183 =>
if ¬ w32 r5 = w32 (-1) then
cal (fX12_isCalledFrom a1 r5 M4) fun r7 M6 =>
if w32 r7 = 0 then
if inR a1 (mLen 43) then
if ¬ w32 (M6.2 43 (ix a1)) = w32 6 then
cal (fX12_seenAt r5 M6) fun r9 M8 =>
if inR a1 (mLen 43) then
cal (fX12_newFrame r9 r5 ((M8.2 43 (ix a1)) + 1) a1 M8) fun r11 M10 =>
cal (fX12_layArguments r11 a1 (a2 + 1) a3 M10) fun r13 M12 =>
if inR r9 (mLen 10) then
cal (fX12_task 0 r11 0 (M12.2 10 (ix r9)) a4 M12) fun r15 M14 =>
J183 M14
else none
else none
else
cal (fX12_append a4 9002 M6) fun r17 M16 =>
J183 M16
else none
else
cal (fX12_append a4 9001 M6) fun r19 M18 =>
J183 M18
else
cal (fX12_append a4 (2000 + x5_10) M4) fun r21 M20 =>
bnd (mSet M20 66 (orI (M20.1 66) (shlI 1 x5_10))) fun (M22 : Md) =>
J183 M22
else
cal (fX12_append a4 9003 M1) fun r24 M23 =>
some ((), M23)
def fX12_expandParam (a1 : Int) (a2 : Int) (a3 : Int) (a4 : Int) (M : Md) : Option (Unit × Md) :=
cal (fX12_codeAt a1 a2 M) fun r2 M1 =>
bnd ((10 * a1) + (remI r2 1000)) fun (x5_15 : Int) =>
if inR x5_15 (mLen 45) then
bnd (fun  (M_129 : Md) =>
some ((), M_129)) fun J129 =>
if ¬ w32 (M1.2 45 (ix x5_15)) = w32 (-1) then
if inR x5_15 (mLen 47) then
if w32 (M1.2 47 (ix x5_15)) = w32 (-1) then
cal (fX12_newRow M1) fun r4 M3 =>
if inR x5_15 (mLen 47) then bnd (mPut M3 47 (ix x5_15) r4) fun (M5 : Md) =>
if inR x5_15 (mLen 47) then
cal (fX12_task 1 (M5.2 47 (ix x5_15)) 0 0 a4 M5) fun r7 M6 =>
if inR a1 (mLen 44) then
if inR x5_15 (mLen 45) then
if inR x5_15 (mLen 46) then
if inR x5_15 (mLen 47) then
cal (fX12_task 0 (M6.2 44 (ix a1)) (M6.2 45 (ix x5_15)) (M6.2 46 (ix x5_15)) (M6.2 47 (ix x5_15)) M6) fun r9 M8 =>
J129 M8
else none
else none
else none
else none
else none
else none
else
if inR x5_15 (mLen 47) then
cal (fX12_appendRow a4 (M1.2 47 (ix x5_15)) M1) fun r11 M10 =>
J129 M10
else none
else none
else
cal (fX12_task 0 a1 (a2 + 1) a3 a4 M1) fun r13 M12 =>
J129 M12
else none
def fX12_expandFunction (a1 : Int) (a2 : Int) (a3 : Int) (a4 : Int) (M : Md) : Option (Unit × Md) :=
bnd (M.1 51) fun (x5_4 : Int) =>
cal (fX12_codeAt a1 a2 M) fun r2 M1 =>
if inR x5_4 (mLen 52) then bnd (mPut M1 52 (ix x5_4) (remI r2 1000)) fun (M3 : Md) =>
if inR x5_4 (mLen 53) then bnd (mPut M3 53 (ix x5_4) a1) fun (M4 : Md) =>
if inR x5_4 (mLen 54) then bnd (mPut M4 54 (ix x5_4) a4) fun (M5 : Md) =>
if inR x5_4 (mLen 55) then bnd (mPut M5 55 (ix x5_4) 0) fun (M6 : Md) =>
bnd (a2 + 1) fun (x6_51 : Int) =>
bnd (lpn (fun (_ : Int) (_ : Md) => (none : Option (Unit × Md))) (fun L53 (v6_53 : Int) (M_53 : Md) =>
if w32 a3 ≤ w32 v6_53 then
bnd (mSet M_53 51 ((M_53.1 51) + 1)) fun (M7 : Md) =>
cal (fX12_task 2 x5_4 0 0 a4 M7) fun r9 M8 =>
some ((), M8)
else
if inR x5_4 (mLen 55) then
bnd ((32 * x5_4) + (M_53.2 55 (ix x5_4))) fun (x7_72 : Int) =>
if inR x7_72 (mLen 56) then bnd (mPut M_53 56 (ix x7_72) (v6_53 + 1)) fun (M10 : Md) =>
cal (fX12_markFrom a1 (v6_53 + 1) a3 M10) fun r12 M11 =>
if inR x7_72 (mLen 57) then bnd (mPut M11 57 (ix x7_72) r12) fun (M13 : Md) =>
if inR x7_72 (mLen 58) then bnd (mPut M13 58 (ix x7_72) (-1)) fun (M14 : Md) =>
if inR x5_4 (mLen 55) then
if inR x5_4 (mLen 55) then bnd (mPut M14 55 (ix x5_4) ((M14.2 55 (ix x5_4)) + 1)) fun (M15 : Md) =>
cal (fX12_markFrom a1 (v6_53 + 1) a3 M15) fun r17 M16 =>
L53 r17 M16
else none
else none
else none
else none
else none
else none) FU) fun J53 =>
J53 x6_51 M6
else none
else none
else none
else none
def fX12_expandToken (a1 : Int) (a2 : Int) (a3 : Int) (M : Md) : Option (Unit × Md) :=
cal (fX12_codeAt a1 a2 M) fun r2 M1 =>
bnd (divI r2 1000) fun (x4_10 : Int) =>
cal (fX12_codeAt a1 a2 M1) fun r4 M3 =>
bnd (remI r4 1000) fun (x5_22 : Int) =>
cal (fX12_opens x4_10 M3) fun r6 M5 =>
bnd (fun (t0_42 : Int) (M_42 : Md) =>
bnd (fun  (M_227 : Md) =>
some ((), M_227)) fun J227 =>
if ¬ w32 x4_10 = 0 then
bnd (fun  (M_72 : Md) =>
cal (fX12_append a3 (1000 + x5_22) M_72) fun r8 M7 =>
bnd (mSet M7 66 (orI (M7.1 66) (shlI 1 x5_22))) fun (M9 : Md) =>
J227 M9) fun J72 =>
if w32 x4_10 = w32 1 then
J72 M_42
else
if ¬ w32 x4_10 = w32 12 then
if ¬ w32 x4_10 = w32 11 then
bnd (fun  (M_161 : Md) =>
cal (fX12_task 0 a1 (a2 + 1) t0_42 a3 M_161) fun r11 M10 =>
J227 M10) fun J161 =>
if w32 x4_10 = w32 10 then
J161 M_42
else
bnd (fun  (M_145 : Md) =>
bnd (fun  (M_176 : Md) =>
if ¬ w32 x4_10 = w32 2 then
if ¬ w32 x4_10 = w32 3 then
if ¬ w32 x4_10 = w32 4 then
J227 M_176
else
cal (fX12_expandFunction a1 a2 t0_42 a3 M_176) fun r13 M12 =>
J227 M12
else
cal (fX12_expandParam a1 a2 t0_42 a3 M_176) fun r15 M14 =>
J227 M14
else
cal (fX12_expandCall a1 a2 t0_42 a3 M_176) fun r17 M16 =>
J227 M16) fun J176 =>
if ¬ w32 x4_10 = w32 9 then
J176 M_145
else
if inR a1 (mLen 43) then
if ¬ w32 (M_145.2 43 (ix a1)) = 0 then
J176 M_145
else
J161 M_145
else none) fun J145 =>
if ¬ w32 x4_10 = w32 8 then
J145 M_42
else
if inR a1 (mLen 43) then
if 0 < w32 (M_42.2 43 (ix a1)) then
J161 M_42
else
J145 M_42
else none
else
bnd (mSet M_42 67 (orI (M_42.1 67) (shlI 1 x5_22))) fun (M18 : Md) =>
J227 M18
else
J72 M_42
else
cal (fX12_append a3 x5_22 M_42) fun r20 M19 =>
J227 M19) fun J42 =>
if w32 r6 = 0 then
J42 a2 M5
else
cal (fX12_closeOf a1 a2 M5) fun r22 M21 =>
J42 r22 M21
def fX12_expand (a1 : Int) (a2 : Int) (M : Md) : Option (Unit × Md) :=
bnd (mSet M 40 0) fun (M1 : Md) =>
bnd (mSet M1 48 0) fun (M2 : Md) =>
bnd (mSet M2 51 0) fun (M3 : Md) =>
bnd (mSet M3 59 0) fun (M4 : Md) =>
bnd (mSet M4 65 0) fun (M5 : Md) =>
bnd (mSet M5 66 0) fun (M6 : Md) =>
bnd (mSet M6 67 0) fun (M7 : Md) =>
bnd (mSet M7 68 0) fun (M8 : Md) =>
bnd (mSet M8 69 0) fun (M9 : Md) =>
bnd (mSet M9 70 0) fun (M10 : Md) =>
cal (fX12_newRow M10) fun r12 M11 =>
cal (fX12_newRow M11) fun r14 M13 =>
cal (fX12_newFrame a2 a1 0 (-1) M13) fun r16 M15 =>
if inR a2 (mLen 10) then
cal (fX12_task 0 r16 0 (M15.2 10 (ix a2)) r12 M15) fun r18 M17 =>
bnd (lpn (fun  (_ : Md) => (none : Option (Unit × Md))) (fun L82  (M_82 : Md) =>
if w32 (M_82.1 59) ≤ 0 then
some ((), M_82)
else
bnd (mSet M_82 59 ((M_82.1 59) - 1)) fun (M19 : Md) =>
if inR (M19.1 59) (mLen 60) then
bnd (M19.2 60 (ix (M19.1 59))) fun (x5_108 : Int) =>
if inR (M19.1 59) (mLen 61) then
bnd (M19.2 61 (ix (M19.1 59))) fun (x6_119 : Int) =>
if inR (M19.1 59) (mLen 62) then
bnd (M19.2 62 (ix (M19.1 59))) fun (x7_130 : Int) =>
if inR (M19.1 59) (mLen 63) then
bnd (M19.2 63 (ix (M19.1 59))) fun (x8_141 : Int) =>
if inR (M19.1 59) (mLen 64) then
bnd (M19.2 64 (ix (M19.1 59))) fun (x9_152 : Int) =>
bnd (fun  (M_249 : Md) =>
L82 M_249) fun J249 =>
if ¬ w32 x5_108 = w32 1 then
if ¬ w32 x5_108 = w32 2 then
if w32 x8_141 ≤ w32 x7_130 then
J249 M19
else
cal (fX12_codeAt x6_119 x7_130 M19) fun r21 M20 =>
cal (fX12_opens (divI r21 1000) M20) fun r23 M22 =>
bnd (fun (t0_232 : Int) (M_232 : Md) =>
cal (fX12_task 0 x6_119 t0_232 x8_141 x9_152 M_232) fun r25 M24 =>
cal (fX12_expandToken x6_119 x7_130 x9_152 M24) fun r27 M26 =>
J249 M26) fun J232 =>
if w32 r23 = 0 then
J232 (x7_130 + 1) M22
else
cal (fX12_closeOf x6_119 x7_130 M22) fun r29 M28 =>
J232 (r29 + 1) M28
else
cal (fX12_give x6_119 M19) fun r31 M30 =>
J249 M30
else
cal (fX12_appendRow x9_152 x6_119 M19) fun r33 M32 =>
J249 M32
else none
else none
else none
else none
else none) FU) fun J82 =>
J82 M17
else none
def fX12_approvedAt (a1 : Int) (a2 : Int) (M : Md) : Option (Int × Md) :=
cal (fX12_hasIndex a1 a2 M) fun r2 M1 =>
if ¬ w32 r2 = 0 then
bnd (mSet M1 39 (-1)) fun (M3 : Md) =>
bnd (lpn (fun (_ : Int) (_ : Int) (_ : Md) => (none : Option (Int × Md))) (fun L21 (v3_21 : Int) (v4_21 : Int) (M_21 : Md) =>
if w32 (M_21.1 13) ≤ w32 v4_21 then
if ¬ w32 v3_21 = w32 (-1) then
cal (fX12_expand a1 v3_21 M_21) fun r5 M4 =>
if inR 0 (mLen 49) then
bnd (fun (t0_104 : Int) (M_104 : Md) =>
some (t0_104, M_104)) fun J104 =>
if w32 (M4.2 49 (ix 0)) ≤ w32 a2 then
J104 (-1) M4
else
if inR a2 (mLen 50) then
J104 (M4.2 50 (ix a2)) M4
else none
else none
else
some ((-1), M_21)
else
if inR v4_21 (mLen 14) then
if inR a1 (mLen 6) then
bnd (fun (v3_65 : Int) (M_65 : Md) =>
L21 v3_65 (v4_21 + 1) M_65) fun J65 =>
if ¬ w32 (M_21.2 14 (ix v4_21)) = w32 (M_21.2 6 (ix a1)) then
J65 v3_21 M_21
else
if inR v4_21 (mLen 15) then
bnd (mSet M_21 39 (M_21.2 15 (ix v4_21))) fun (M6 : Md) =>
if inR v4_21 (mLen 16) then
bnd (M6.2 16 (ix v4_21)) fun (x3_64 : Int) =>
J65 x3_64 M6
else none
else none
else none
else none) FU) fun J21 =>
J21 (-1) 0 M3
else
some (0, M1)
def fX12_sectionFrom (a0 : Nat) (a1 : Int) (a2 : Int) (a3 : Int) (M : Md) : Option (Int × Md) :=
bnd (lpn (fun (_ : Int) (_ : Int) (_ : Md) => (none : Option (Int × Md))) (fun L6 (v4_6 : Int) (v5_6 : Int) (M_6 : Md) =>
bnd (fun  (M_55 : Md) =>
bnd (fun (t0_64 : Int) (M_64 : Md) =>
some (t0_64, M_64)) fun J64 =>
if ¬ w32 a3 = 0 then
J64 a2 M_55
else
J64 0 M_55) fun J55 =>
if w32 a2 ≤ w32 v5_6 then
J55 M_6
else
if w32 a3 ≤ 0 then
J55 M_6
else
if inR (a1 + v5_6) (mLen a0) then
bnd (fun (t0_38 : Int) (M_38 : Md) =>
bnd (v4_6 - t0_38) fun (x4_39 : Int) =>
if ¬ w32 x4_39 = 0 then
L6 x4_39 (v5_6 + 1) M_38
else
some (v5_6, M_38)) fun J38 =>
if ¬ w32 (divI (M_6.2 a0 (ix (a1 + v5_6))) 1000) = w32 13 then
J38 0 M_6
else
J38 1 M_6
else none) FU) fun J6 =>
J6 a3 0 M
def fX12_areAlike (a0 : Nat) (a1 : Int) (a2 : Int) (a3 : Nat) (a4 : Int) (a5 : Int) (a6 : Int) (M : Md) : Option (Int × Md) :=
cal (fX12_sectionFrom a0 a1 a2 a6 M) fun r2 M1 =>
cal (fX12_sectionFrom a0 a1 a2 (a6 + 1) M1) fun r4 M3 =>
bnd (r4 - r2) fun (x8_23 : Int) =>
cal (fX12_sectionFrom a3 a4 a5 a6 M3) fun r6 M5 =>
cal (fX12_sectionFrom a3 a4 a5 (a6 + 1) M5) fun r8 M7 =>
bnd (fun (t0_62 : Int) (M_62 : Md) =>
bnd (lpn (fun (_ : Int) (_ : Int) (_ : Md) => (none : Option (Int × Md))) (fun L67 (v10_67 : Int) (v11_67 : Int) (M_67 : Md) =>
bnd (fun  (M_114 : Md) =>
retZ v10_67 M_114) fun J114 =>
if w32 x8_23 ≤ w32 v11_67 then
J114 M_67
else
if w32 v10_67 = 0 then
J114 M_67
else
if inR ((a1 + r2) + v11_67) (mLen a0) then
if inR ((a4 + r6) + v11_67) (mLen a3) then
bnd (fun (t0_106 : Int) (M_106 : Md) =>
L67 t0_106 (v11_67 + 1) M_106) fun J106 =>
if ¬ w32 (M_67.2 a0 (ix ((a1 + r2) + v11_67))) = w32 (M_67.2 a3 (ix ((a4 + r6) + v11_67))) then
J106 0 M_67
else
J106 1 M_67
else none
else none) FU) fun J67 =>
J67 t0_62 0 M_62) fun J62 =>
if ¬ w32 x8_23 = w32 (r8 - r6) then
J62 0 M7
else
J62 1 M7
def fX12_asksFor (a1 : Int) (M : Md) : Option (Int × Md) :=
cal (fX12_isTitle a1 M) fun r2 M1 =>
bnd (fun (t0_13 : Int) (M_13 : Md) =>
bnd (mSet M_13 36 t0_13) fun (M3 : Md) =>
bnd (fun (t0_28 : Int) (M_28 : Md) =>
retZ t0_28 M_28) fun J28 =>
if ¬ w32 (M3.1 36) = 0 then
J28 0 M3
else
J28 1 M3) fun J13 =>
if w32 r2 = 0 then
J13 1 M1
else
J13 0 M1
def fX12_asksIn (a1 : Int) (a2 : Int) (M : Md) : Option (Int × Md) :=
cal (fX12_isTitle a1 M) fun r2 M1 =>
bnd (fun (t0_26 : Int) (M_26 : Md) =>
bnd (mSet M_26 36 t0_26) fun (M3 : Md) =>
bnd (fun (t0_41 : Int) (M_41 : Md) =>
retZ t0_41 M_41) fun J41 =>
if ¬ w32 (M3.1 36) = 0 then
J41 0 M3
else
J41 1 M3) fun J26 =>
if ¬ w32 r2 = 0 then
cal (fX12_in a2 1 2 M1) fun r5 M4 =>
if ¬ w32 r5 = 0 then
J26 0 M4
else
J26 2 M4
else
J26 1 M1
def fX12_isText (a1 : Nat) (a2 : Int) (a3 : Int) (M : Md) : Option (Int × Md) :=
cal (fX12_in a3 1 30 M) fun r2 M1 =>
bnd (lpn (fun (_ : Int) (_ : Int) (_ : Int) (_ : Md) => (none : Option (Int × Md))) (fun L15 (v4_15 : Int) (v5_15 : Int) (v6_15 : Int) (M_15 : Md) =>
bnd (fun  (M_344 : Md) =>
bnd (fun (t0_359 : Int) (M_359 : Md) =>
retZ t0_359 M_359) fun J359 =>
bnd (fun  (M_358 : Md) =>
J359 0 M_358) fun J358 =>
if w32 v5_15 = 0 then
J358 M_344
else
if ¬ w32 v4_15 = 0 then
J358 M_344
else
J359 1 M_344) fun J344 =>
if w32 a3 ≤ w32 v6_15 then
J344 M_15
else
if w32 v5_15 = 0 then
J344 M_15
else
if inR (a2 + v6_15) (mLen a1) then
bnd (divI (M_15.2 a1 (ix (a2 + v6_15))) 1000) fun (x7_36 : Int) =>
bnd (fun (t0_56 : Int) (M_56 : Md) =>
bnd (fun (t0_106 : Int) (M_106 : Md) =>
bnd (fun (t0_126 : Int) (M_126 : Md) =>
bnd (fun (t0_152 : Int) (M_152 : Md) =>
bnd (fun (t0_200 : Int) (M_200 : Md) =>
bnd (fun (t0_243 : Int) (M_243 : Md) =>
bnd (fun (t0_284 : Int) (M_284 : Md) =>
bnd (fun (v4_338 : Int) (M_338 : Md) =>
L15 v4_338 t0_284 (v6_15 + 1) M_338) fun J338 =>
bnd (fun  (M_304 : Md) =>
if w32 t0_284 = 0 then
J338 v4_15 M_304
else
cal (fX12_opens x7_36 M_304) fun r4 M3 =>
if w32 r4 = 0 then
J338 v4_15 M3
else
if inR v4_15 (mLen 37) then bnd (mPut M3 37 (ix v4_15) x7_36) fun (M5 : Md) =>
if inR v4_15 (mLen 38) then bnd (mPut M5 38 (ix v4_15) v6_15) fun (M6 : Md) =>
J338 (v4_15 + 1) M6
else none
else none) fun J304 =>
if w32 t0_284 = 0 then
J304 M_284
else
if ¬ w32 x7_36 = w32 7 then
J304 M_284
else
J338 (v4_15 + (-1)) M_284) fun J284 =>
bnd (fun  (M_283 : Md) =>
J284 0 M_283) fun J283 =>
if w32 t0_243 = 0 then
J283 M_243
else
bnd (fun  (M_279 : Md) =>
J284 1 M_279) fun J279 =>
if w32 t0_106 = 0 then
J279 M_243
else
bnd (fun  (M_267 : Md) =>
if ¬ w32 t0_126 = 0 then
J279 M_267
else
if ¬ w32 x7_36 = w32 7 then
J283 M_267
else
J279 M_267) fun J267 =>
if w32 t0_56 = w32 2 then
J267 M_243
else
if ¬ w32 t0_56 = w32 4 then
J279 M_243
else
J267 M_243) fun J243 =>
bnd (fun  (M_242 : Md) =>
J243 0 M_242) fun J242 =>
if w32 t0_200 = 0 then
J242 M_200
else
bnd (fun  (M_225 : Md) =>
bnd (fun  (M_238 : Md) =>
J243 1 M_238) fun J238 =>
if ¬ w32 x7_36 = w32 6 then
J238 M_225
else
if ¬ w32 t0_56 = w32 2 then
J242 M_225
else
J238 M_225) fun J225 =>
if ¬ w32 x7_36 = w32 5 then
J225 M_200
else
if w32 t0_56 = w32 2 then
J225 M_200
else
if ¬ w32 t0_56 = w32 4 then
J242 M_200
else
J225 M_200) fun J200 =>
bnd (fun  (M_199 : Md) =>
J200 0 M_199) fun J199 =>
if w32 t0_152 = 0 then
J199 M_152
else
bnd (fun  (M_171 : Md) =>
bnd (fun  (M_183 : Md) =>
bnd (fun  (M_195 : Md) =>
J200 1 M_195) fun J195 =>
if ¬ w32 x7_36 = w32 7 then
J195 M_183
else
if w32 v4_15 ≤ 0 then
J199 M_183
else
J195 M_183) fun J183 =>
if ¬ w32 x7_36 = w32 12 then
J183 M_171
else
if ¬ w32 a3 = w32 1 then
J199 M_171
else
J183 M_171) fun J171 =>
if ¬ w32 x7_36 = w32 13 then
J171 M_152
else
if ¬ w32 v4_15 = 0 then
J199 M_152
else
J171 M_152) fun J152 =>
bnd (fun  (M_147 : Md) =>
J152 1 M_147) fun J147 =>
if ¬ w32 t0_56 = w32 10 then
J147 M_126
else
if w32 x7_36 = 0 then
J147 M_126
else
if ¬ w32 x7_36 = w32 7 then
J152 0 M_126
else
J147 M_126) fun J126 =>
bnd (fun  (M_121 : Md) =>
J126 1 M_121) fun J121 =>
if w32 x7_36 = w32 5 then
J121 M_106
else
if ¬ w32 x7_36 = w32 6 then
J126 0 M_106
else
J121 M_106) fun J106 =>
bnd (fun  (M_105 : Md) =>
J106 0 M_105) fun J105 =>
if w32 v6_15 ≤ 0 then
J105 M_56
else
if w32 v4_15 ≤ 0 then
J105 M_56
else
if inR ((a2 + v6_15) - 1) (mLen a1) then
if ¬ w32 (divI (M_56.2 a1 (ix ((a2 + v6_15) - 1))) 1000) = w32 t0_56 then
J105 M_56
else
if inR (v4_15 - 1) (mLen 38) then
if ¬ w32 (M_56.2 38 (ix (v4_15 - 1))) = w32 (v6_15 - 1) then
J105 M_56
else
J106 1 M_56
else none
else none) fun J56 =>
if ¬ w32 v4_15 = 0 then
if inR (v4_15 - 1) (mLen 37) then
J56 (M_15.2 37 (ix (v4_15 - 1))) M_15
else none
else
J56 (-1) M_15
else none) FU) fun J15 =>
J15 0 r2 0 M1
def fX12_newVersion (a1 : Int) (a2 : Int) (a3 : Nat) (a4 : Int) (a5 : Int) (M : Md) : Option (Int × Md) :=
bnd (lpn (fun (_ : Int) (_ : Md) => (none : Option (Int × Md))) (fun L3 (v6_3 : Int) (M_3 : Md) =>
if w32 a5 ≤ w32 v6_3 then
if inR (M_3.1 8) (mLen 10) then bnd (mPut M_3 10 (ix (M_3.1 8)) a5) fun (M1 : Md) =>
if inR (M1.1 8) (mLen 11) then bnd (mPut M1 11 (ix (M1.1 8)) a2) fun (M2 : Md) =>
if inR (M2.1 8) (mLen 12) then bnd (mPut M2 12 (ix (M2.1 8)) a1) fun (M3 : Md) =>
bnd (mSet M3 8 ((M3.1 8) + 1)) fun (M4 : Md) =>
some ((M4.1 8) - 1, M4)
else none
else none
else none
else
if inR (a4 + v6_3) (mLen a3) then
if inR ((30 * (M_3.1 8)) + v6_3) (mLen 9) then bnd (mPut M_3 9 (ix ((30 * (M_3.1 8)) + v6_3)) (M_3.2 a3 (ix (a4 + v6_3)))) fun (M5 : Md) =>
L3 (v6_3 + 1) M5
else none
else none) FU) fun J3 =>
J3 0 M
def fX12_settleTitles  (M : Md) : Option (Unit × Md) :=
bnd (lpn (fun (_ : Int) (_ : Md) => (none : Option (Unit × Md))) (fun L2 (v1_2 : Int) (M_2 : Md) =>
if w32 24 ≤ w32 v1_2 then
some ((), M_2)
else
cal (fX12_presentAt v1_2 M_2) fun r2 M1 =>
if inR v1_2 (mLen 26) then
bnd (fun  (M_51 : Md) =>
L2 (v1_2 + 1) M_51) fun J51 =>
if w32 r2 = w32 (M1.2 26 (ix v1_2)) then
J51 M1
else
if inR v1_2 (mLen 26) then bnd (mPut M1 26 (ix v1_2) r2) fun (M3 : Md) =>
bnd (mSet M3 22 ((M3.1 22) + 1)) fun (M4 : Md) =>
if inR v1_2 (mLen 23) then bnd (mPut M4 23 (ix v1_2) (M4.1 22)) fun (M5 : Md) =>
J51 M5
else none
else none
else none) FU) fun J2 =>
J2 0 M
def fX12_fromDraft (a1 : Int) (a2 : Int) (M : Md) : Option (Int × Md) :=
cal (fX12_newVersion a1 a2 0 0 (M.1 1) M) fun r2 M1 =>
bnd (mSet M1 1 0) fun (M3 : Md) =>
cal (fX12_settleTitles M3) fun r5 M4 =>
some (r2, M4)
def fX12_bringIn (a1 : Int) (a2 : Int) (M : Md) : Option (Int × Md) :=
cal (fX12_hasPage a1 M) fun r2 M1 =>
bnd (fun (t0_67 : Int) (M_67 : Md) =>
bnd (mSet M_67 36 t0_67) fun (M3 : Md) =>
bnd (fun (t0_92 : Int) (M_92 : Md) =>
some (t0_92, M_92)) fun J92 =>
if ¬ w32 (M3.1 36) = 0 then
J92 0 M3
else
if inR a1 (mLen 6) then
cal (fX12_fromDraft (M3.2 6 (ix a1)) a2 M3) fun r5 M4 =>
J92 r5 M4
else none) fun J67 =>
if ¬ w32 r2 = 0 then
cal (fX12_in a2 1 (M1.1 5) M1) fun r7 M6 =>
if ¬ w32 r7 = 0 then
cal (fX12_mayAt a1 M6) fun r9 M8 =>
bnd (fun  (M_62 : Md) =>
J67 3 M_62) fun J62 =>
if w32 r9 = 0 then
J62 M8
else
cal (fX12_isText 0 0 (M8.1 1) M8) fun r11 M10 =>
if w32 r11 = 0 then
J62 M10
else
if ¬ w32 (M10.1 8) = w32 120 then
J67 0 M10
else
J62 M10
else
J67 2 M6
else
J67 1 M1
def fX12_clock  (M : Md) : Option (Int × Md) :=
bnd (mSet M 36 0) fun (M1 : Md) =>
some (M1.1 5, M1)
def fX12_newPage (a1 : Int) (M : Md) : Option (Int × Md) :=
if inR a1 (mLen 6) then bnd (mPut M 6 (ix a1) (M.1 7)) fun (M1 : Md) =>
bnd (mSet M1 7 ((M1.1 7) + 1)) fun (M2 : Md) =>
if inR a1 (mLen 6) then
some (M2.2 6 (ix a1), M2)
else none
else none
def fX12_create (a1 : Int) (M : Md) : Option (Int × Md) :=
cal (fX12_isTitle a1 M) fun r2 M1 =>
bnd (fun (t0_60 : Int) (M_60 : Md) =>
bnd (mSet M_60 36 t0_60) fun (M3 : Md) =>
if w32 (M3.1 36) ≤ 0 then
bnd (mSet M3 5 ((M3.1 5) + 1)) fun (M4 : Md) =>
cal (fX12_newPage a1 M4) fun r6 M5 =>
cal (fX12_fromDraft r6 (M5.1 5) M5) fun r8 M7 =>
some (r8, M7)
else
some (0, M3)) fun J60 =>
if ¬ w32 r2 = 0 then
if inR a1 (mLen 6) then
bnd (fun  (M_55 : Md) =>
J60 2 M_55) fun J55 =>
if ¬ w32 (M1.2 6 (ix a1)) = w32 (-1) then
J55 M1
else
cal (fX12_mayAt a1 M1) fun r10 M9 =>
if w32 r10 = 0 then
J55 M9
else
cal (fX12_isText 0 0 (M9.1 1) M9) fun r12 M11 =>
if w32 r12 = 0 then
J55 M11
else
if ¬ w32 (M11.1 8) = w32 120 then
J60 0 M11
else
J55 M11
else none
else
J60 1 M1
def fX12_setCategories (a1 : Int) (a2 : Int) (M : Md) : Option (Unit × Md) :=
bnd (lpn (fun (_ : Int) (_ : Md) => (none : Option (Unit × Md))) (fun L2 (v3_2 : Int) (M_2 : Md) =>
if w32 8 ≤ w32 v3_2 then
if inR a1 (mLen 32) then bnd (mPut M_2 32 (ix a1) a2) fun (M1 : Md) =>
some ((), M1)
else none
else
if inR a1 (mLen 32) then
bnd (fun  (M_46 : Md) =>
L2 (v3_2 + 1) M_46) fun J46 =>
if w32 (andI (shrI (M_2.2 32 (ix a1)) v3_2) 1) = w32 (andI (shrI a2 v3_2) 1) then
J46 M_2
else
bnd (mSet M_2 22 ((M_2.1 22) + 1)) fun (M2 : Md) =>
if inR v3_2 (mLen 24) then bnd (mPut M2 24 (ix v3_2) (M2.1 22)) fun (M3 : Md) =>
J46 M3
else none
else none) FU) fun J2 =>
J2 0 M
def fX12_dropRendering (a1 : Int) (M : Md) : Option (Unit × Md) :=
if inR a1 (mLen 27) then
bnd (fun  (M_22 : Md) =>
some ((), M_22)) fun J22 =>
if w32 (M.2 27 (ix a1)) = 0 then
J22 M
else
if inR a1 (mLen 27) then bnd (mPut M 27 (ix a1) 0) fun (M1 : Md) =>
cal (fX12_setCategories a1 0 M1) fun r3 M2 =>
J22 M2
else none
else none
def fX12_isVersionAt (a1 : Int) (a2 : Int) (M : Md) : Option (Int × Md) :=
cal (fX12_hasPage a1 M) fun r2 M1 =>
bnd (fun (t0_42 : Int) (M_42 : Md) =>
retZ t0_42 M_42) fun J42 =>
bnd (fun  (M_41 : Md) =>
J42 0 M_41) fun J41 =>
if w32 r2 = 0 then
J41 M1
else
cal (fX12_in a2 0 ((M1.1 8) - 1) M1) fun r4 M3 =>
if w32 r4 = 0 then
J41 M3
else
if inR a2 (mLen 12) then
if inR a1 (mLen 6) then
if ¬ w32 (M3.2 12 (ix a2)) = w32 (M3.2 6 (ix a1)) then
J41 M3
else
J42 1 M3
else none
else none
def fX12_sectionMany (a0 : Nat) (a1 : Int) (a2 : Int) (M : Md) : Option (Int × Md) :=
bnd (lpn (fun (_ : Int) (_ : Int) (_ : Md) => (none : Option (Int × Md))) (fun L5 (v3_5 : Int) (v4_5 : Int) (M_5 : Md) =>
if w32 a2 ≤ w32 v4_5 then
some (v3_5, M_5)
else
if inR (a1 + v4_5) (mLen a0) then
bnd (fun (t0_32 : Int) (M_32 : Md) =>
bnd (v3_5 + t0_32) fun (x3_33 : Int) =>
L5 x3_33 (v4_5 + 1) M_32) fun J32 =>
if ¬ w32 (divI (M_5.2 a0 (ix (a1 + v4_5))) 1000) = w32 13 then
J32 0 M_5
else
J32 1 M_5
else none) FU) fun J5 =>
J5 1 0 M
def fX12_sectionsOf (a1 : Int) (M : Md) : Option (Int × Md) :=
if inR a1 (mLen 10) then
cal (fX12_sectionMany 9 (30 * a1) (M.2 10 (ix a1)) M) fun r2 M1 =>
some (r2, M1)
else none
def fX12_putResult (a1 : Nat) (a2 : Int) (a3 : Int) (M : Md) : Option (Unit × Md) :=
bnd (lpn (fun (_ : Int) (_ : Md) => (none : Option (Unit × Md))) (fun L3 (v4_3 : Int) (M_3 : Md) =>
if w32 a3 ≤ w32 v4_3 then
some ((), M_3)
else
if inR v4_3 (mLen a1) then
if inR (M_3.1 77) (mLen 76) then bnd (mPut M_3 76 (ix (M_3.1 77)) (M_3.2 a1 (ix v4_3))) fun (M1 : Md) =>
bnd (mSet M1 77 ((M1.1 77) + 1)) fun (M2 : Md) =>
L3 (v4_3 + 1) M2
else none
else none) FU) fun J3 =>
J3 a2 M
def fX12_layMeant (a1 : Int) (a2 : Int) (M : Md) : Option (Unit × Md) :=
bnd (mSet M 77 0) fun (M1 : Md) =>
bnd (fun  (M_101 : Md) =>
bnd (mSet M_101 75 (M_101.1 77)) fun (M2 : Md) =>
bnd (lpn (fun (_ : Int) (_ : Md) => (none : Option (Unit × Md))) (fun L111 (v3_111 : Int) (M_111 : Md) =>
if w32 (M_111.1 77) ≤ w32 v3_111 then
some ((), M_111)
else
if inR v3_111 (mLen 76) then
if inR v3_111 (mLen 74) then bnd (mPut M_111 74 (ix v3_111) (M_111.2 76 (ix v3_111))) fun (M3 : Md) =>
L111 (v3_111 + 1) M3
else none
else none) FU) fun J111 =>
J111 0 M2) fun J101 =>
if ¬ w32 a2 = w32 (-1) then
bnd (30 * a1) fun (x3_30 : Int) =>
if inR a1 (mLen 10) then
bnd (M1.2 10 (ix a1)) fun (x4_37 : Int) =>
cal (fX12_sectionFrom 9 x3_30 x4_37 a2 M1) fun r5 M4 =>
cal (fX12_putResult 9 x3_30 (x3_30 + r5) M4) fun r7 M6 =>
cal (fX12_putResult 0 0 (M6.1 1) M6) fun r9 M8 =>
cal (fX12_sectionFrom 9 x3_30 x4_37 (a2 + 1) M8) fun r11 M10 =>
cal (fX12_putResult 9 (x3_30 + r11) (x3_30 + x4_37) M10) fun r13 M12 =>
J101 M12
else none
else
cal (fX12_putResult 0 0 (M1.1 1) M1) fun r15 M14 =>
J101 M14
def fX12_putSection (a1 : Nat) (a2 : Int) (a3 : Int) (a4 : Int) (M : Md) : Option (Unit × Md) :=
cal (fX12_sectionFrom a1 a2 a3 a4 M) fun r2 M1 =>
cal (fX12_sectionFrom a1 a2 a3 (a4 + 1) M1) fun r4 M3 =>
cal (fX12_putResult a1 (a2 + r2) (a2 + r4) M3) fun r6 M5 =>
some ((), M5)
def fX12_merges (a1 : Int) (a2 : Int) (M : Md) : Option (Int × Md) :=
bnd (30 * a1) fun (x3_4 : Int) =>
bnd (30 * a2) fun (x4_9 : Int) =>
cal (fX12_sectionMany 74 0 (M.1 75) M) fun r2 M1 =>
cal (fX12_sectionsOf a1 M1) fun r4 M3 =>
bnd (fun (t0_50 : Int) (M_50 : Md) =>
bnd (mSet M_50 77 0) fun (M5 : Md) =>
bnd (lpn (fun (_ : Int) (_ : Int) (_ : Md) => (none : Option (Int × Md))) (fun L60 (v6_60 : Int) (v7_60 : Int) (M_60 : Md) =>
bnd (fun  (M_209 : Md) =>
retZ v6_60 M_209) fun J209 =>
if w32 r2 ≤ w32 v7_60 then
J209 M_60
else
if w32 v6_60 = 0 then
J209 M_60
else
if inR a1 (mLen 10) then
cal (fX12_areAlike 74 0 (M_60.1 75) 9 x3_4 (M_60.2 10 (ix a1)) v7_60 M_60) fun r7 M6 =>
bnd (fun (v6_203 : Int) (M_203 : Md) =>
L60 v6_203 (v7_60 + 1) M_203) fun J203 =>
if w32 r7 = 0 then
if inR a2 (mLen 10) then
if inR a1 (mLen 10) then
cal (fX12_areAlike 9 x4_9 (M6.2 10 (ix a2)) 9 x3_4 (M6.2 10 (ix a1)) v7_60 M6) fun r9 M8 =>
bnd (fun (t0_186 : Int) (M_186 : Md) =>
cal (fX12_putSection 74 0 (M_186.1 75) v7_60 M_186) fun r11 M10 =>
J203 t0_186 M10) fun J186 =>
bnd (fun  (M_181 : Md) =>
J186 1 M_181) fun J181 =>
if ¬ w32 r9 = 0 then
J181 M8
else
if inR a2 (mLen 10) then
cal (fX12_areAlike 9 x4_9 (M8.2 10 (ix a2)) 74 0 (M8.1 75) v7_60 M8) fun r13 M12 =>
if w32 r13 = 0 then
J186 0 M12
else
J181 M12
else none
else none
else none
else
if inR a2 (mLen 10) then
cal (fX12_putSection 9 x4_9 (M6.2 10 (ix a2)) v7_60 M6) fun r15 M14 =>
J203 v6_60 M14
else none
else none) FU) fun J60 =>
J60 t0_50 0 M5) fun J50 =>
bnd (fun  (M_49 : Md) =>
J50 0 M_49) fun J49 =>
if ¬ w32 r2 = w32 r4 then
J49 M3
else
cal (fX12_sectionsOf a2 M3) fun r17 M16 =>
if ¬ w32 r2 = w32 r17 then
J49 M16
else
J50 1 M16
def fX12_isNew (a1 : Int) (M : Md) : Option (Int × Md) :=
if inR a1 (mLen 10) then
bnd (fun (t0_18 : Int) (M_18 : Md) =>
bnd (lpn (fun (_ : Int) (_ : Int) (_ : Md) => (none : Option (Int × Md))) (fun L21 (v2_21 : Int) (v3_21 : Int) (M_21 : Md) =>
bnd (fun  (M_65 : Md) =>
bnd (fun (t0_99 : Int) (M_99 : Md) =>
retZ t0_99 M_99) fun J99 =>
bnd (fun  (M_98 : Md) =>
J99 0 M_98) fun J98 =>
if w32 v2_21 = 0 then
J98 M_65
else
cal (fX12_isText 76 0 (M_65.1 77) M_65) fun r2 M1 =>
if w32 r2 = 0 then
J98 M1
else
if w32 120 ≤ w32 (M1.1 8) then
J98 M1
else
J99 1 M1) fun J65 =>
if w32 (M_21.1 77) ≤ w32 v3_21 then
J65 M_21
else
if ¬ w32 v2_21 = 0 then
J65 M_21
else
if inR v3_21 (mLen 76) then
if inR ((30 * a1) + v3_21) (mLen 9) then
bnd (fun (t0_58 : Int) (M_58 : Md) =>
L21 t0_58 (v3_21 + 1) M_58) fun J58 =>
if w32 (M_21.2 76 (ix v3_21)) = w32 (M_21.2 9 (ix ((30 * a1) + v3_21))) then
J58 0 M_21
else
J58 1 M_21
else none
else none) FU) fun J21 =>
J21 t0_18 0 M_18) fun J18 =>
if w32 (M.1 77) = w32 (M.2 10 (ix a1)) then
J18 0 M
else
J18 1 M
else none
def fX12_newVersionNow (a1 : Int) (a2 : Nat) (a3 : Int) (a4 : Int) (M : Md) : Option (Int × Md) :=
bnd (mSet M 5 ((M.1 5) + 1)) fun (M1 : Md) =>
cal (fX12_newVersion a1 (M1.1 5) a2 a3 a4 M1) fun r3 M2 =>
some (r3, M2)
def fX12_edit (a1 : Int) (a2 : Int) (a3 : Int) (M : Md) : Option (Int × Md) :=
cal (fX12_isVersionAt a1 a2 M) fun r2 M1 =>
bnd (fun (t0_39 : Int) (M_39 : Md) =>
bnd (mSet M_39 36 t0_39) fun (M3 : Md) =>
if w32 (M3.1 36) ≤ 0 then
cal (fX12_presentAt a1 M3) fun r5 M4 =>
cal (fX12_layMeant a2 a3 M4) fun r7 M6 =>
cal (fX12_mayAt a1 M6) fun r9 M8 =>
bnd (fun (t0_93 : Int) (M_93 : Md) =>
bnd (fun (t0_115 : Int) (M_115 : Md) =>
bnd (mSet M_115 36 t0_115) fun (M10 : Md) =>
if w32 (M10.1 36) ≤ 0 then
bnd (mSet M10 1 0) fun (M11 : Md) =>
if inR a1 (mLen 6) then
cal (fX12_newVersionNow (M11.2 6 (ix a1)) 76 0 (M11.1 77) M11) fun r13 M12 =>
cal (fX12_settleTitles M12) fun r15 M14 =>
some (r13, M14)
else none
else
some (0, M10)) fun J115 =>
bnd (fun  (M_114 : Md) =>
J115 2 M_114) fun J114 =>
if w32 t0_93 = 0 then
J114 M_93
else
cal (fX12_isNew r5 M_93) fun r17 M16 =>
if w32 r17 = 0 then
J114 M16
else
J115 0 M16) fun J93 =>
bnd (fun  (M_92 : Md) =>
J93 0 M_92) fun J92 =>
if w32 r9 = 0 then
J92 M8
else
bnd (fun  (M_88 : Md) =>
J93 1 M_88) fun J88 =>
if w32 a2 = w32 r5 then
J88 M8
else
cal (fX12_merges a2 r5 M8) fun r19 M18 =>
if w32 r19 = 0 then
J92 M18
else
J88 M18
else
some (0, M3)) fun J39 =>
bnd (fun  (M_34 : Md) =>
J39 1 M_34) fun J34 =>
if w32 r2 = 0 then
J34 M1
else
bnd (fun  (M_38 : Md) =>
J39 0 M_38) fun J38 =>
if w32 a3 = w32 (-1) then
J38 M1
else
cal (fX12_sectionsOf a2 M1) fun r21 M20 =>
cal (fX12_in a3 0 (r21 - 1) M20) fun r23 M22 =>
if ¬ w32 r23 = 0 then
J38 M22
else
J34 M22
def fX12_empty (a1 : Int) (M : Md) : Option (Int × Md) :=
cal (fX12_in a1 0 3 M) fun r2 M1 =>
bnd (fun (t0_15 : Int) (M_15 : Md) =>
bnd (mSet M_15 36 t0_15) fun (M3 : Md) =>
if w32 (M3.1 36) ≤ 0 then
if inR a1 (mLen 21) then
bnd (M3.2 21 (ix a1)) fun (x2_33 : Int) =>
if inR a1 (mLen 21) then bnd (mPut M3 21 (ix a1) 0) fun (M4 : Md) =>
bnd (fun  (M_65 : Md) =>
some (x2_33, M_65)) fun J65 =>
if w32 x2_33 ≤ 0 then
J65 M4
else
bnd (mSet M4 22 ((M4.1 22) + 1)) fun (M5 : Md) =>
if inR a1 (mLen 25) then bnd (mPut M5 25 (ix a1) (M5.1 22)) fun (M6 : Md) =>
J65 M6
else none
else none
else none
else
some (0, M3)) fun J15 =>
if w32 r2 = 0 then
J15 1 M1
else
J15 0 M1
def fX12_translated (a1 : Int) (a2 : Int) (M : Md) : Option (Int × Md) :=
if inR ((24 * (a2 - 1)) + a1) (mLen 17) then
bnd (M.2 17 (ix ((24 * (a2 - 1)) + a1))) fun (x3_13 : Int) =>
bnd (fun (t0_34 : Int) (M_34 : Md) =>
some (t0_34, M_34)) fun J34 =>
bnd (fun  (M_33 : Md) =>
J34 (-1) M_33) fun J33 =>
if w32 x3_13 = w32 (-1) then
J33 M
else
if inR x3_13 (mLen 6) then
if w32 (M.2 6 (ix x3_13)) = w32 (-1) then
J33 M
else
J34 x3_13 M
else none
else none
def fX12_inLanguage (a1 : Int) (a2 : Int) (M : Md) : Option (Int × Md) :=
cal (fX12_asksIn a1 a2 M) fun r2 M1 =>
if ¬ w32 r2 = 0 then
cal (fX12_translated a1 a2 M1) fun r4 M3 =>
bnd (fun (t0_38 : Int) (M_38 : Md) =>
bnd (fun (t0_49 : Int) (M_49 : Md) =>
some (t0_49, M_49)) fun J49 =>
if ¬ w32 t0_38 = w32 (-1) then
J49 t0_38 M_38
else
J49 a1 M_38) fun J38 =>
bnd (fun  (M_37 : Md) =>
J38 r4 M_37) fun J37 =>
if ¬ w32 r4 = w32 (-1) then
J37 M3
else
if ¬ w32 a2 = w32 2 then
J37 M3
else
cal (fX12_translated a1 1 M3) fun r6 M5 =>
J38 r6 M5
else
some (0, M1)
def fX12_instruct (a1 : Int) (a2 : Int) (a3 : Int) (M : Md) : Option (Int × Md) :=
bnd (fun (t0_38 : Int) (M_38 : Md) =>
cal (fX12_in a1 0 3 M_38) fun r2 M1 =>
bnd (fun (t0_94 : Int) (M_94 : Md) =>
bnd (mSet M_94 36 t0_94) fun (M3 : Md) =>
if w32 (M3.1 36) ≤ 0 then
if inR a1 (mLen 21) then
if inR ((16 * a1) + (M3.2 21 (ix a1))) (mLen 19) then bnd (mPut M3 19 (ix ((16 * a1) + (M3.2 21 (ix a1)))) a2) fun (M4 : Md) =>
if inR a1 (mLen 21) then
if inR ((16 * a1) + (M4.2 21 (ix a1))) (mLen 20) then bnd (mPut M4 20 (ix ((16 * a1) + (M4.2 21 (ix a1)))) a3) fun (M5 : Md) =>
if inR a1 (mLen 21) then
if inR a1 (mLen 21) then bnd (mPut M5 21 (ix a1) ((M5.2 21 (ix a1)) + 1)) fun (M6 : Md) =>
bnd (mSet M6 22 ((M6.1 22) + 1)) fun (M7 : Md) =>
if inR a1 (mLen 25) then bnd (mPut M7 25 (ix a1) (M7.1 22)) fun (M8 : Md) =>
if inR a1 (mLen 21) then
some (M8.2 21 (ix a1), M8)
else none
else none
else none
else none
else none
else none
else none
else none
else
some (0, M3)) fun J94 =>
if ¬ w32 r2 = 0 then
cal (fX12_in a2 0 8 M1) fun r10 M9 =>
bnd (fun  (M_74 : Md) =>
J94 2 M_74) fun J74 =>
if w32 r10 = 0 then
J74 M9
else
cal (fX12_in a3 0 t0_38 M9) fun r12 M11 =>
if ¬ w32 r12 = 0 then
if inR a1 (mLen 21) then
if ¬ w32 (M11.2 21 (ix a1)) = w32 16 then
J94 0 M11
else
J94 3 M11
else none
else
J74 M11
else
J94 1 M1) fun J38 =>
if ¬ w32 a2 = 0 then
if ¬ w32 a2 = w32 1 then
bnd (fun  (M_32 : Md) =>
J38 15 M_32) fun J32 =>
if w32 a2 = w32 6 then
J32 M
else
if ¬ w32 a2 = w32 7 then
J38 0 M
else
J32 M
else
J38 8 M
else
J38 999 M
def fX12_leadsTo (a1 : Int) (M : Md) : Option (Int × Md) :=
bnd (mSet M 39 (-1)) fun (M1 : Md) =>
cal (fX12_wayOf a1 M1) fun r3 M2 =>
some (r3, M2)
def fX12_isLinked (a1 : Int) (M : Md) : Option (Int × Md) :=
bnd (lpn (fun (_ : Int) (_ : Int) (_ : Md) => (none : Option (Int × Md))) (fun L4 (v2_4 : Int) (v3_4 : Int) (M_4 : Md) =>
if w32 24 ≤ w32 v3_4 then
retZ v2_4 M_4
else
bnd (lpn (fun (_ : Int) (_ : Int) (_ : Md) => (none : Option (Int × Md))) (fun L13 (v2_13 : Int) (v4_13 : Int) (M_13 : Md) =>
bnd (fun  (M_75 : Md) =>
L4 v2_13 (v3_4 + 1) M_75) fun J75 =>
if w32 24 ≤ w32 v4_13 then
J75 M_13
else
if w32 v3_4 = w32 a1 then
J75 M_13
else
if inR v3_4 (mLen 27) then
if w32 (M_13.2 27 (ix v3_4)) = 0 then
J75 M_13
else
bnd (fun (t0_68 : Int) (M_68 : Md) =>
L13 t0_68 (v4_13 + 1) M_68) fun J68 =>
bnd (fun  (M_63 : Md) =>
J68 1 M_63) fun J63 =>
if ¬ w32 v2_13 = 0 then
J63 M_13
else
if inR v3_4 (mLen 31) then
bnd (fun  (M_67 : Md) =>
J68 0 M_67) fun J67 =>
if ¬ w32 (andI (shrI (M_13.2 31 (ix v3_4)) v4_13) 1) = w32 1 then
J67 M_13
else
cal (fX12_leadsTo v4_13 M_13) fun r2 M1 =>
if ¬ w32 r2 = w32 a1 then
J67 M1
else
J63 M1
else none
else none) FU) fun J13 =>
J13 v2_4 0 M_4) FU) fun J4 =>
J4 0 0 M
def fX12_isOld (a1 : Int) (M : Md) : Option (Int × Md) :=
if inR a1 (mLen 27) then
bnd (fun (t0_29 : Int) (M_29 : Md) =>
bnd (lpn (fun (_ : Int) (_ : Int) (_ : Md) => (none : Option (Int × Md))) (fun L32 (v2_32 : Int) (v3_32 : Int) (M_32 : Md) =>
bnd (fun  (M_172 : Md) =>
retZ v2_32 M_172) fun J172 =>
if w32 24 ≤ w32 v3_32 then
J172 M_32
else
if ¬ w32 v2_32 = 0 then
J172 M_32
else
if inR a1 (mLen 33) then
bnd (fun (t0_76 : Int) (M_76 : Md) =>
bnd (fun (t0_121 : Int) (M_121 : Md) =>
bnd (fun (t0_165 : Int) (M_165 : Md) =>
L32 t0_165 (v3_32 + 1) M_165) fun J165 =>
bnd (fun  (M_160 : Md) =>
J165 1 M_160) fun J160 =>
if ¬ w32 t0_121 = 0 then
J160 M_121
else
bnd (fun  (M_164 : Md) =>
J165 0 M_164) fun J164 =>
if w32 4 ≤ w32 v3_32 then
J164 M_121
else
if inR a1 (mLen 35) then
if ¬ w32 (andI (shrI (M_121.2 35 (ix a1)) v3_32) 1) = w32 1 then
J164 M_121
else
if inR v3_32 (mLen 25) then
if inR a1 (mLen 28) then
if w32 (M_121.2 25 (ix v3_32)) ≤ w32 (M_121.2 28 (ix a1)) then
J164 M_121
else
J160 M_121
else none
else none
else none) fun J121 =>
bnd (fun  (M_116 : Md) =>
J121 1 M_116) fun J116 =>
if ¬ w32 t0_76 = 0 then
J116 M_76
else
bnd (fun  (M_120 : Md) =>
J121 0 M_120) fun J120 =>
if w32 8 ≤ w32 v3_32 then
J120 M_76
else
if inR a1 (mLen 34) then
if ¬ w32 (andI (shrI (M_76.2 34 (ix a1)) v3_32) 1) = w32 1 then
J120 M_76
else
if inR v3_32 (mLen 24) then
if inR a1 (mLen 28) then
if w32 (M_76.2 24 (ix v3_32)) ≤ w32 (M_76.2 28 (ix a1)) then
J120 M_76
else
J116 M_76
else none
else none
else none) fun J76 =>
bnd (fun  (M_75 : Md) =>
J76 0 M_75) fun J75 =>
if ¬ w32 (andI (shrI (M_32.2 33 (ix a1)) v3_32) 1) = w32 1 then
J75 M_32
else
if inR v3_32 (mLen 23) then
if inR a1 (mLen 28) then
if w32 (M_32.2 23 (ix v3_32)) ≤ w32 (M_32.2 28 (ix a1)) then
J75 M_32
else
J76 1 M_32
else none
else none
else none) FU) fun J32 =>
J32 t0_29 0 M_29) fun J29 =>
bnd (fun  (M_24 : Md) =>
J29 1 M_24) fun J24 =>
if w32 (M.2 27 (ix a1)) = 0 then
J24 M
else
if inR a1 (mLen 23) then
if inR a1 (mLen 28) then
if w32 (M.2 23 (ix a1)) ≤ w32 (M.2 28 (ix a1)) then
J29 0 M
else
J24 M
else none
else none
else none
def fX12_isOutdated (a1 : Int) (a2 : Int) (M : Md) : Option (Int × Md) :=
cal (fX12_asksIn a1 a2 M) fun r2 M1 =>
if ¬ w32 r2 = 0 then
bnd ((24 * (a2 - 1)) + a1) fun (x3_19 : Int) =>
if inR x3_19 (mLen 17) then
bnd (fun (t0_59 : Int) (M_59 : Md) =>
retZ t0_59 M_59) fun J59 =>
bnd (fun  (M_58 : Md) =>
J59 0 M_58) fun J58 =>
if w32 (M1.2 17 (ix x3_19)) = w32 (-1) then
J58 M1
else
if inR a1 (mLen 6) then
bnd (fun  (M_54 : Md) =>
J59 1 M_54) fun J54 =>
if w32 (M1.2 6 (ix a1)) = w32 (-1) then
J54 M1
else
cal (fX12_presentAt a1 M1) fun r4 M3 =>
if inR x3_19 (mLen 18) then
if w32 r4 = w32 (M3.2 18 (ix x3_19)) then
J58 M3
else
J54 M3
else none
else none
else none
else
some (0, M1)
def fX12_isStale (a1 : Int) (M : Md) : Option (Int × Md) :=
cal (fX12_hasPage a1 M) fun r2 M1 =>
bnd (fun (t0_14 : Int) (M_14 : Md) =>
bnd (mSet M_14 36 t0_14) fun (M3 : Md) =>
bnd (fun (t0_37 : Int) (M_37 : Md) =>
retZ t0_37 M_37) fun J37 =>
bnd (fun  (M_36 : Md) =>
J37 0 M_36) fun J36 =>
if ¬ w32 (M3.1 36) = 0 then
J36 M3
else
cal (fX12_isOld a1 M3) fun r5 M4 =>
if w32 r5 = 0 then
J36 M4
else
J37 1 M4) fun J14 =>
if w32 r2 = 0 then
J14 1 M1
else
J14 0 M1
def fX12_isValue (a0 : Int) (a1 : Int) (M : Md) : Option (Int × Md) :=
bnd (fun (t0_69 : Int) (M_69 : Md) =>
cal (fX12_in a1 0 t0_69 M_69) fun r2 M1 =>
retZ r2 M1) fun J69 =>
if ¬ w32 a0 = 0 then
bnd (fun  (M_26 : Md) =>
J69 23 M_26) fun J26 =>
if w32 a0 = w32 1 then
J26 M
else
if w32 a0 = w32 2 then
J26 M
else
if ¬ w32 a0 = w32 12 then
bnd (fun  (M_42 : Md) =>
J69 9 M_42) fun J42 =>
if w32 a0 = w32 3 then
J42 M
else
if ¬ w32 a0 = w32 6 then
if ¬ w32 a0 = w32 4 then
if ¬ w32 a0 = w32 11 then
J69 0 M
else
J69 7 M
else
J69 6 M
else
J42 M
else
J26 M
else
J69 999 M
def fX12_leads (a1 : Int) (M : Md) : Option (Int × Md) :=
cal (fX12_asksFor a1 M) fun r2 M1 =>
bnd (fun (t0_17 : Int) (M_17 : Md) =>
some (t0_17, M_17)) fun J17 =>
if w32 r2 = 0 then
J17 0 M1
else
cal (fX12_leadsTo a1 M1) fun r4 M3 =>
J17 r4 M3
def fX12_leadsOn (a0 : Int) (M : Md) : Option (Int × Md) :=
bnd (fun (t0_21 : Int) (M_21 : Md) =>
retZ t0_21 M_21) fun J21 =>
bnd (fun  (M_16 : Md) =>
J21 1 M_16) fun J16 =>
if w32 a0 = w32 1 then
J16 M
else
if w32 a0 = w32 2 then
J16 M
else
if ¬ w32 a0 = w32 12 then
J21 0 M
else
J16 M
def fX12_linked (a1 : Int) (a2 : Int) (M : Md) : Option (Int × Md) :=
cal (fX12_isTitle a1 M) fun r2 M1 =>
bnd (fun (t0_22 : Int) (M_22 : Md) =>
bnd (mSet M_22 36 t0_22) fun (M3 : Md) =>
if w32 (M3.1 36) ≤ 0 then
bnd (lpn (fun (_ : Int) (_ : Int) (_ : Md) => (none : Option (Int × Md))) (fun L39 (v3_39 : Int) (v4_39 : Int) (M_39 : Md) =>
if w32 24 ≤ w32 v4_39 then
bnd (fun (t0_124 : Int) (M_124 : Md) =>
some (t0_124, M_124)) fun J124 =>
if ¬ w32 a2 = w32 1 then
if inR a1 (mLen 27) then
if ¬ w32 (M_39.2 27 (ix a1)) = 0 then
if ¬ w32 a2 = 0 then
if inR a1 (mLen 33) then
J124 (M_39.2 33 (ix a1)) M_39
else none
else
if inR a1 (mLen 31) then
J124 (M_39.2 31 (ix a1)) M_39
else none
else
J124 0 M_39
else none
else
J124 v3_39 M_39
else
if inR v4_39 (mLen 27) then
bnd (fun (t0_75 : Int) (M_75 : Md) =>
bnd (orI v3_39 t0_75) fun (x3_76 : Int) =>
L39 x3_76 (v4_39 + 1) M_75) fun J75 =>
if w32 (M_39.2 27 (ix v4_39)) = 0 then
J75 0 M_39
else
if inR v4_39 (mLen 31) then
J75 (shlI (andI (shrI (M_39.2 31 (ix v4_39)) a1) 1) v4_39) M_39
else none
else none) FU) fun J39 =>
J39 0 0 M3
else
some (0, M3)) fun J22 =>
bnd (fun  (M_21 : Md) =>
J22 1 M_21) fun J21 =>
if w32 r2 = 0 then
J21 M1
else
cal (fX12_in a2 0 2 M1) fun r5 M4 =>
if w32 r5 = 0 then
J21 M4
else
J22 0 M4
def fX12_members (a1 : Int) (M : Md) : Option (Int × Md) :=
cal (fX12_in a1 0 7 M) fun r2 M1 =>
bnd (fun (t0_16 : Int) (M_16 : Md) =>
bnd (mSet M_16 36 t0_16) fun (M3 : Md) =>
bnd (fun (t0_35 : Int) (M_35 : Md) =>
some (t0_35, M_35)) fun J35 =>
if ¬ w32 (M3.1 36) = 0 then
J35 0 M3
else
cal (fX12_membersOf a1 M3) fun r5 M4 =>
J35 r5 M4) fun J16 =>
if w32 r2 = 0 then
J16 1 M1
else
J16 0 M1
def fX12_move (a1 : Int) (a2 : Int) (M : Md) : Option (Int × Md) :=
cal (fX12_isTitle a1 M) fun r2 M1 =>
bnd (fun (t0_69 : Int) (M_69 : Md) =>
bnd (mSet M_69 36 t0_69) fun (M3 : Md) =>
if w32 (M3.1 36) ≤ 0 then
cal (fX12_dropRendering a1 M3) fun r5 M4 =>
if inR a1 (mLen 6) then
if inR a2 (mLen 6) then bnd (mPut M4 6 (ix a2) (M4.2 6 (ix a1))) fun (M6 : Md) =>
if inR 0 (mLen 78) then bnd (mPut M6 78 (ix 0) (12000 + a2)) fun (M7 : Md) =>
cal (fX12_newPage a1 M7) fun r9 M8 =>
cal (fX12_newVersionNow r9 78 0 1 M8) fun r11 M10 =>
cal (fX12_settleTitles M10) fun r13 M12 =>
some (r11, M12)
else none
else none
else none
else
some (0, M3)) fun J69 =>
bnd (fun  (M_25 : Md) =>
J69 1 M_25) fun J25 =>
if w32 r2 = 0 then
J25 M1
else
cal (fX12_isTitle a2 M1) fun r15 M14 =>
if w32 r15 = 0 then
J25 M14
else
if inR a1 (mLen 6) then
if ¬ w32 (M14.2 6 (ix a1)) = w32 (-1) then
if inR a2 (mLen 6) then
bnd (fun  (M_64 : Md) =>
J69 2 M_64) fun J64 =>
if ¬ w32 (M14.2 6 (ix a2)) = w32 (-1) then
J64 M14
else
cal (fX12_mayAt a1 M14) fun r17 M16 =>
if w32 r17 = 0 then
J64 M16
else
cal (fX12_mayAt a2 M16) fun r19 M18 =>
if w32 r19 = 0 then
J64 M18
else
if ¬ w32 (M18.1 8) = w32 120 then
J69 0 M18
else
J64 M18
else none
else
J25 M14
else none
def fX12_turns (a1 : Int) (a2 : Int) (a3 : Int) (a4 : Int) (M : Md) : Option (Int × Md) :=
cal (fX12_presentAt a1 M) fun r2 M1 =>
bnd (mSet M1 77 0) fun (M3 : Md) =>
if inR r2 (mLen 10) then
cal (fX12_putResult 9 (30 * r2) ((30 * r2) + (M3.2 10 (ix r2))) M3) fun r5 M4 =>
bnd (lpn (fun (_ : Int) (_ : Int) (_ : Md) => (none : Option (Int × Md))) (fun L44 (v6_44 : Int) (v7_44 : Int) (M_44 : Md) =>
if w32 (M_44.1 77) ≤ w32 v7_44 then
retZ v6_44 M_44
else
if inR v7_44 (mLen 76) then
bnd (remI (M_44.2 76 (ix v7_44)) 1000) fun (x8_64 : Int) =>
if inR v7_44 (mLen 76) then
cal (fX12_leadsOn (divI (M_44.2 76 (ix v7_44)) 1000) M_44) fun r7 M6 =>
bnd (fun (v6_122 : Int) (M_122 : Md) =>
L44 v6_122 (v7_44 + 1) M_122) fun J122 =>
if w32 r7 = 0 then
J122 v6_44 M6
else
if ¬ w32 (divI x8_64 4) = w32 a2 then
J122 v6_44 M6
else
if ¬ w32 (andI (shrI a4 (remI x8_64 4)) 1) = w32 1 then
J122 v6_44 M6
else
if inR v7_44 (mLen 76) then
if inR v7_44 (mLen 76) then bnd (mPut M6 76 (ix v7_44) ((M6.2 76 (ix v7_44)) + (4 * (a3 - a2)))) fun (M8 : Md) =>
J122 1 M8
else none
else none
else none
else none) FU) fun J44 =>
J44 0 0 M4
else none
def fX12_moveTree (a1 : Int) (a2 : Int) (M : Md) : Option (Int × Md) :=
cal (fX12_in a1 0 5 M) fun r2 M1 =>
bnd (fun (t0_24 : Int) (M_24 : Md) =>
bnd (mSet M_24 36 t0_24) fun (M3 : Md) =>
bnd (lpn (fun (_ : Int) (_ : Int) (_ : Int) (_ : Md) => (none : Option (Int × Md))) (fun L35 (v3_35 : Int) (v4_35 : Int) (v5_35 : Int) (M_35 : Md) =>
bnd (fun  (M_133 : Md) =>
bnd (lpn (fun (_ : Int) (_ : Int) (_ : Md) => (none : Option (Int × Md))) (fun L139 (v5_139 : Int) (v6_139 : Int) (M_139 : Md) =>
bnd (fun  (M_192 : Md) =>
bnd (fun (t0_229 : Int) (M_229 : Md) =>
bnd (mSet M_229 36 t0_229) fun (M4 : Md) =>
if w32 (M4.1 36) ≤ 0 then
bnd (lpn (fun (_ : Int) (_ : Md) => (none : Option (Int × Md))) (fun L244 (v6_244 : Int) (M_244 : Md) =>
if w32 4 ≤ w32 v6_244 then
cal (fX12_settleTitles M_244) fun r6 M5 =>
bnd (lpn (fun (_ : Int) (_ : Md) => (none : Option (Int × Md))) (fun L307 (v6_307 : Int) (M_307 : Md) =>
if w32 24 ≤ w32 v6_307 then
cal (fX12_settleTitles M_307) fun r8 M7 =>
some (v5_139, M7)
else
if inR v6_307 (mLen 6) then
bnd (fun  (M_359 : Md) =>
L307 (v6_307 + 1) M_359) fun J359 =>
if w32 (M_307.2 6 (ix v6_307)) = w32 (-1) then
J359 M_307
else
cal (fX12_turns v6_307 a1 a2 v3_35 M_307) fun r10 M9 =>
if w32 r10 = 0 then
J359 M9
else
if inR v6_307 (mLen 6) then
cal (fX12_newVersionNow (M9.2 6 (ix v6_307)) 76 0 (M9.1 77) M9) fun r12 M11 =>
J359 M11
else none
else none) FU) fun J307 =>
J307 0 M5
else
cal (fX12_dropRendering ((4 * a1) + v6_244) M_244) fun r14 M13 =>
if inR ((4 * a1) + v6_244) (mLen 6) then
if inR ((4 * a2) + v6_244) (mLen 6) then bnd (mPut M13 6 (ix ((4 * a2) + v6_244)) (M13.2 6 (ix ((4 * a1) + v6_244)))) fun (M15 : Md) =>
if inR ((4 * a1) + v6_244) (mLen 6) then bnd (mPut M15 6 (ix ((4 * a1) + v6_244)) (-1)) fun (M16 : Md) =>
L244 (v6_244 + 1) M16
else none
else none
else none) FU) fun J244 =>
J244 0 M4
else
some (0, M4)) fun J229 =>
bnd (fun  (M_225 : Md) =>
J229 (M_225.1 36) M_225) fun J225 =>
if ¬ w32 (M_192.1 36) = 0 then
J225 M_192
else
bnd (fun  (M_221 : Md) =>
J229 2 M_221) fun J221 =>
if w32 v4_35 = 0 then
J221 M_192
else
if w32 v3_35 = 0 then
J221 M_192
else
if w32 ((M_192.1 8) + v5_139) ≤ w32 120 then
J225 M_192
else
J221 M_192) fun J192 =>
if w32 24 ≤ w32 v6_139 then
J192 M_139
else
if ¬ w32 (M_139.1 36) = 0 then
J192 M_139
else
if inR v6_139 (mLen 6) then
bnd (fun (t0_183 : Int) (M_183 : Md) =>
bnd (v5_139 + t0_183) fun (x5_184 : Int) =>
L139 x5_184 (v6_139 + 1) M_183) fun J183 =>
bnd (fun  (M_182 : Md) =>
J183 0 M_182) fun J182 =>
if w32 (M_139.2 6 (ix v6_139)) = w32 (-1) then
J182 M_139
else
cal (fX12_turns v6_139 a1 a2 v3_35 M_139) fun r18 M17 =>
if w32 r18 = 0 then
J182 M17
else
J183 1 M17
else none) FU) fun J139 =>
J139 0 0 M_133) fun J133 =>
if w32 4 ≤ w32 v5_35 then
J133 M_35
else
if ¬ w32 (M_35.1 36) = 0 then
J133 M_35
else
if inR ((4 * a1) + v5_35) (mLen 6) then
bnd (fun (t0_72 : Int) (M_72 : Md) =>
bnd (orI v3_35 t0_72) fun (x3_73 : Int) =>
bnd (fun (t0_125 : Int) (M_125 : Md) =>
L35 x3_73 t0_125 (v5_35 + 1) M_125) fun J125 =>
bnd (fun  (M_124 : Md) =>
J125 0 M_124) fun J124 =>
if w32 v4_35 = 0 then
J124 M_72
else
if inR ((4 * a2) + v5_35) (mLen 6) then
if ¬ w32 (M_72.2 6 (ix ((4 * a2) + v5_35))) = w32 (-1) then
J124 M_72
else
cal (fX12_mayAt ((4 * a1) + v5_35) M_72) fun r20 M19 =>
if w32 r20 = 0 then
J124 M19
else
cal (fX12_mayAt ((4 * a2) + v5_35) M19) fun r22 M21 =>
if w32 r22 = 0 then
J124 M21
else
J125 1 M21
else none) fun J72 =>
if ¬ w32 (M_35.2 6 (ix ((4 * a1) + v5_35))) = w32 (-1) then
J72 (shlI 1 v5_35) M_35
else
J72 0 M_35
else none) FU) fun J35 =>
J35 0 1 0 M3) fun J24 =>
bnd (fun  (M_23 : Md) =>
J24 1 M_23) fun J23 =>
if w32 r2 = 0 then
J23 M1
else
cal (fX12_in a2 0 5 M1) fun r24 M23 =>
if w32 r24 = 0 then
J23 M23
else
J24 0 M23
def fX12_nextStale  (M : Md) : Option (Int × Md) :=
bnd (lpn (fun (_ : Int) (_ : Int) (_ : Md) => (none : Option (Int × Md))) (fun L4 (v1_4 : Int) (v2_4 : Int) (M_4 : Md) =>
if w32 24 ≤ w32 v2_4 then
some (v1_4, M_4)
else
if inR v2_4 (mLen 6) then
bnd (fun (t0_33 : Int) (M_33 : Md) =>
bnd (fun (t0_63 : Int) (M_63 : Md) =>
L4 t0_63 (v2_4 + 1) M_63) fun J63 =>
bnd (fun  (M_62 : Md) =>
J63 v1_4 M_62) fun J62 =>
if w32 t0_33 = 0 then
J62 M_33
else
bnd (fun  (M_58 : Md) =>
J63 v2_4 M_58) fun J58 =>
if w32 v1_4 = w32 (-1) then
J58 M_33
else
if inR v2_4 (mLen 4) then
if inR v1_4 (mLen 4) then
if w32 (M_33.2 4 (ix v2_4)) ≤ w32 (M_33.2 4 (ix v1_4)) then
J62 M_33
else
J58 M_33
else none
else none) fun J33 =>
bnd (fun  (M_32 : Md) =>
J33 0 M_32) fun J32 =>
if w32 (M_4.2 6 (ix v2_4)) = w32 (-1) then
J32 M_4
else
cal (fX12_isOld v2_4 M_4) fun r2 M1 =>
if w32 r2 = 0 then
J32 M1
else
J33 1 M1
else none) FU) fun J4 =>
J4 (-1) 0 M
def fX12_odd (a1 : Int) (M : Md) : Option (Int × Md) :=
bnd (mSet M 36 0) fun (M1 : Md) =>
bnd (lpn (fun (_ : Int) (_ : Int) (_ : Md) => (none : Option (Int × Md))) (fun L9 (v2_9 : Int) (v3_9 : Int) (M_9 : Md) =>
if w32 24 ≤ w32 v3_9 then
some (v2_9, M_9)
else
bnd (fun (v4_112 : Int) (M_112 : Md) =>
bnd (fun (t0_125 : Int) (M_125 : Md) =>
bnd (orI v2_9 t0_125) fun (x2_126 : Int) =>
L9 x2_126 (v3_9 + 1) M_125) fun J125 =>
if w32 v4_112 = 0 then
J125 0 M_112
else
J125 (shlI 1 v3_9) M_112) fun J112 =>
if w32 a1 = 0 then
cal (fX12_leadsTo v3_9 M_9) fun r3 M2 =>
bnd (fun (t0_110 : Int) (M_110 : Md) =>
J112 t0_110 M_110) fun J110 =>
bnd (fun  (M_109 : Md) =>
J110 0 M_109) fun J109 =>
if ¬ w32 r3 = w32 v3_9 then
J109 M2
else
cal (fX12_isLinked v3_9 M2) fun r5 M4 =>
if ¬ w32 r5 = 0 then
J109 M4
else
J110 1 M4
else
bnd (lpn (fun (_ : Int) (_ : Int) (_ : Md) => (none : Option (Int × Md))) (fun L25 (v4_25 : Int) (v5_25 : Int) (M_25 : Md) =>
if w32 24 ≤ w32 v5_25 then
J112 v4_25 M_25
else
bnd (fun (t0_77 : Int) (M_77 : Md) =>
L25 t0_77 (v5_25 + 1) M_77) fun J77 =>
bnd (fun  (M_72 : Md) =>
J77 1 M_72) fun J72 =>
if ¬ w32 v4_25 = 0 then
J72 M_25
else
if inR v3_9 (mLen 6) then
bnd (fun  (M_76 : Md) =>
J77 0 M_76) fun J76 =>
if ¬ w32 (M_25.2 6 (ix v3_9)) = w32 (-1) then
J76 M_25
else
if inR v5_25 (mLen 27) then
if w32 (M_25.2 27 (ix v5_25)) = 0 then
J76 M_25
else
if inR v5_25 (mLen 31) then
if ¬ w32 (andI (shrI (M_25.2 31 (ix v5_25)) v3_9) 1) = w32 1 then
J76 M_25
else
J72 M_25
else none
else none
else none) FU) fun J25 =>
J25 0 0 M_9) FU) fun J9 =>
J9 0 0 M1
def fX12_protect (a1 : Int) (a2 : Int) (M : Md) : Option (Int × Md) :=
cal (fX12_isTitle a1 M) fun r2 M1 =>
bnd (fun (t0_46 : Int) (M_46 : Md) =>
bnd (mSet M_46 36 t0_46) fun (M3 : Md) =>
if w32 (M3.1 36) ≤ 0 then
if inR a1 (mLen 3) then
bnd (M3.2 3 (ix a1)) fun (x3_64 : Int) =>
if inR a1 (mLen 3) then bnd (mPut M3 3 (ix a1) a2) fun (M4 : Md) =>
some (x3_64, M4)
else none
else none
else
some (0, M3)) fun J46 =>
if ¬ w32 r2 = 0 then
cal (fX12_in a2 0 2 M1) fun r6 M5 =>
if ¬ w32 r6 = 0 then
cal (fX12_mayAt a1 M5) fun r8 M7 =>
bnd (fun  (M_41 : Md) =>
J46 3 M_41) fun J41 =>
if w32 r8 = 0 then
J41 M7
else
if w32 a2 ≤ w32 (M7.1 2) then
J46 0 M7
else
J41 M7
else
J46 2 M5
else
J46 1 M1
def fX12_queued  (M : Md) : Option (Int × Md) :=
bnd (mSet M 36 0) fun (M1 : Md) =>
bnd (lpn (fun (_ : Int) (_ : Int) (_ : Md) => (none : Option (Int × Md))) (fun L9 (v1_9 : Int) (v2_9 : Int) (M_9 : Md) =>
if w32 24 ≤ w32 v2_9 then
some (v1_9, M_9)
else
if inR v2_9 (mLen 6) then
bnd (fun (t0_39 : Int) (M_39 : Md) =>
bnd (v1_9 + t0_39) fun (x1_40 : Int) =>
L9 x1_40 (v2_9 + 1) M_39) fun J39 =>
bnd (fun  (M_38 : Md) =>
J39 0 M_38) fun J38 =>
if w32 (M_9.2 6 (ix v2_9)) = w32 (-1) then
J38 M_9
else
cal (fX12_isOld v2_9 M_9) fun r3 M2 =>
if w32 r3 = 0 then
J38 M2
else
J39 1 M2
else none) FU) fun J9 =>
J9 0 0 M1
def fX12_rank (a1 : Int) (a2 : Int) (M : Md) : Option (Int × Md) :=
cal (fX12_isTitle a1 M) fun r2 M1 =>
bnd (fun (t0_27 : Int) (M_27 : Md) =>
bnd (mSet M_27 36 t0_27) fun (M3 : Md) =>
if w32 (M3.1 36) ≤ 0 then
if inR a1 (mLen 4) then
bnd (M3.2 4 (ix a1)) fun (x3_45 : Int) =>
if inR a1 (mLen 4) then bnd (mPut M3 4 (ix a1) a2) fun (M4 : Md) =>
some (x3_45, M4)
else none
else none
else
some (0, M3)) fun J27 =>
if ¬ w32 r2 = 0 then
cal (fX12_in a2 0 99 M1) fun r6 M5 =>
if ¬ w32 r6 = 0 then
J27 0 M5
else
J27 2 M5
else
J27 1 M1
def fX12_render (a1 : Int) (M : Md) : Option (Unit × Md) :=
bnd (mSet M 39 (-1)) fun (M1 : Md) =>
bnd (M1.1 22) fun (x2_9 : Int) =>
cal (fX12_presentAt a1 M1) fun r3 M2 =>
cal (fX12_expand a1 r3 M2) fun r5 M4 =>
if inR a1 (mLen 28) then bnd (mPut M4 28 (ix a1) x2_9) fun (M6 : Md) =>
if inR a1 (mLen 27) then bnd (mPut M6 27 (ix a1) 1) fun (M7 : Md) =>
if inR 0 (mLen 49) then
if inR a1 (mLen 30) then bnd (mPut M7 30 (ix a1) (M7.2 49 (ix 0))) fun (M8 : Md) =>
bnd (lpn (fun (_ : Int) (_ : Md) => (none : Option (Unit × Md))) (fun L48 (v3_48 : Int) (M_48 : Md) =>
if inR 0 (mLen 49) then
if w32 (M_48.2 49 (ix 0)) ≤ w32 v3_48 then
if inR a1 (mLen 31) then bnd (mPut M_48 31 (ix a1) (M_48.1 66)) fun (M9 : Md) =>
if inR a1 (mLen 33) then bnd (mPut M9 33 (ix a1) (M9.1 68)) fun (M10 : Md) =>
if inR a1 (mLen 34) then bnd (mPut M10 34 (ix a1) (M10.1 69)) fun (M11 : Md) =>
if inR a1 (mLen 35) then bnd (mPut M11 35 (ix a1) (M11.1 70)) fun (M12 : Md) =>
cal (fX12_setCategories a1 (M12.1 67) M12) fun r14 M13 =>
some ((), M13)
else none
else none
else none
else none
else
if inR v3_48 (mLen 50) then
if inR ((150 * a1) + v3_48) (mLen 29) then bnd (mPut M_48 29 (ix ((150 * a1) + v3_48)) (M_48.2 50 (ix v3_48))) fun (M15 : Md) =>
L48 (v3_48 + 1) M15
else none
else none
else none) FU) fun J48 =>
J48 0 M8
else none
else none
else none
else none
def fX12_read (a1 : Int) (a2 : Int) (M : Md) : Option (Int × Md) :=
cal (fX12_hasPage a1 M) fun r2 M1 =>
bnd (fun (t0_14 : Int) (M_14 : Md) =>
bnd (mSet M_14 36 t0_14) fun (M3 : Md) =>
if w32 (M3.1 36) ≤ 0 then
if inR a1 (mLen 27) then
bnd (fun  (M_52 : Md) =>
if inR a1 (mLen 30) then
some (M_52.2 30 (ix a1), M_52)
else none) fun J52 =>
bnd (fun  (M_47 : Md) =>
cal (fX12_render a1 M_47) fun r5 M4 =>
J52 M4) fun J47 =>
if w32 (M3.2 27 (ix a1)) = 0 then
J47 M3
else
if ¬ w32 a2 = 0 then
J52 M3
else
cal (fX12_isOld a1 M3) fun r7 M6 =>
if w32 r7 = 0 then
J52 M6
else
J47 M6
else none
else
some (0, M3)) fun J14 =>
if w32 r2 = 0 then
J14 1 M1
else
J14 0 M1
def fX12_shown (a1 : Int) (a2 : Int) (M : Md) : Option (Int × Md) :=
cal (fX12_hasIndex a1 a2 M) fun r2 M1 =>
bnd (fun (t0_48 : Int) (M_48 : Md) =>
some (t0_48, M_48)) fun J48 =>
if ¬ w32 r2 = 0 then
if inR a1 (mLen 27) then
bnd (fun  (M_47 : Md) =>
J48 (-1) M_47) fun J47 =>
if w32 (M1.2 27 (ix a1)) = 0 then
J47 M1
else
if inR a1 (mLen 30) then
if w32 (M1.2 30 (ix a1)) ≤ w32 a2 then
J47 M1
else
if inR ((150 * a1) + a2) (mLen 29) then
J48 (M1.2 29 (ix ((150 * a1) + a2))) M1
else none
else none
else none
else
J48 0 M1
def fX12_shownAnew (a1 : Int) (a2 : Int) (M : Md) : Option (Int × Md) :=
cal (fX12_hasIndex a1 a2 M) fun r2 M1 =>
if ¬ w32 r2 = 0 then
bnd (mSet M1 39 (-1)) fun (M3 : Md) =>
cal (fX12_presentAt a1 M3) fun r5 M4 =>
cal (fX12_expand a1 r5 M4) fun r7 M6 =>
if inR 0 (mLen 49) then
bnd (fun (t0_46 : Int) (M_46 : Md) =>
some (t0_46, M_46)) fun J46 =>
if w32 (M6.2 49 (ix 0)) ≤ w32 a2 then
J46 (-1) M6
else
if inR a2 (mLen 50) then
J46 (M6.2 50 (ix a2)) M6
else none
else none
else
some (0, M1)
def fX12_thrown  (M : Md) : Option (Int × Md) :=
some (M.1 36, M)
def fX12_token (a1 : Int) (a2 : Int) (M : Md) : Option (Int × Md) :=
cal (fX12_in a1 0 13 M) fun r2 M1 =>
bnd (fun (t0_37 : Int) (M_37 : Md) =>
bnd (mSet M_37 36 t0_37) fun (M3 : Md) =>
if w32 (M3.1 36) ≤ 0 then
if inR (M3.1 1) (mLen 0) then bnd (mPut M3 0 (ix (M3.1 1)) ((1000 * a1) + a2)) fun (M4 : Md) =>
bnd (mSet M4 1 ((M4.1 1) + 1)) fun (M5 : Md) =>
some (M5.1 1, M5)
else none
else
some (0, M3)) fun J37 =>
bnd (fun  (M_19 : Md) =>
J37 1 M_19) fun J19 =>
if w32 r2 = 0 then
J19 M1
else
cal (fX12_isValue a1 a2 M1) fun r7 M6 =>
if ¬ w32 r7 = 0 then
if ¬ w32 (M6.1 1) = w32 30 then
J37 0 M6
else
J37 2 M6
else
J19 M6
def fX12_tokenAt (a1 : Int) (a2 : Int) (M : Md) : Option (Int × Md) :=
cal (fX12_hasIndex a1 a2 M) fun r2 M1 =>
if ¬ w32 r2 = 0 then
cal (fX12_presentAt a1 M1) fun r4 M3 =>
if inR r4 (mLen 10) then
bnd (fun (t0_42 : Int) (M_42 : Md) =>
some (t0_42, M_42)) fun J42 =>
if w32 (M3.2 10 (ix r4)) ≤ w32 a2 then
J42 (-1) M3
else
if inR ((30 * r4) + a2) (mLen 9) then
J42 (M3.2 9 (ix ((30 * r4) + a2))) M3
else none
else none
else
some (0, M1)
def fX12_translate (a1 : Int) (a2 : Int) (a3 : Int) (M : Md) : Option (Int × Md) :=
cal (fX12_isTitle a1 M) fun r2 M1 =>
bnd (fun (t0_48 : Int) (M_48 : Md) =>
bnd (mSet M_48 36 t0_48) fun (M3 : Md) =>
if w32 (M3.1 36) ≤ 0 then
bnd ((24 * (a2 - 1)) + a1) fun (x4_68 : Int) =>
if inR x4_68 (mLen 17) then
bnd (M3.2 17 (ix x4_68)) fun (x5_77 : Int) =>
if inR x4_68 (mLen 17) then bnd (mPut M3 17 (ix x4_68) a3) fun (M4 : Md) =>
cal (fX12_presentAt a1 M4) fun r6 M5 =>
if inR x4_68 (mLen 18) then bnd (mPut M5 18 (ix x4_68) r6) fun (M7 : Md) =>
some (x5_77, M7)
else none
else none
else none
else
some (0, M3)) fun J48 =>
bnd (fun  (M_25 : Md) =>
J48 1 M_25) fun J25 =>
if w32 r2 = 0 then
J25 M1
else
cal (fX12_isTitle a3 M1) fun r9 M8 =>
if w32 r9 = 0 then
J25 M8
else
if inR a1 (mLen 6) then
if ¬ w32 (M8.2 6 (ix a1)) = w32 (-1) then
cal (fX12_in a2 1 2 M8) fun r11 M10 =>
bnd (fun  (M_43 : Md) =>
J48 2 M_43) fun J43 =>
if w32 r11 = 0 then
J43 M10
else
if ¬ w32 a1 = w32 a3 then
J48 0 M10
else
J43 M10
else
J25 M8
else none
def fX12_versionIn (a1 : Int) (a2 : Int) (M : Md) : Option (Int × Md) :=
bnd (lpn (fun (_ : Int) (_ : Md) => (none : Option (Int × Md))) (fun L2 (v3_2 : Int) (M_2 : Md) =>
if w32 (M_2.1 8) ≤ w32 v3_2 then
some ((-1), M_2)
else
if inR v3_2 (mLen 12) then
bnd (fun  (M_31 : Md) =>
L2 (v3_2 + 1) M_31) fun J31 =>
if ¬ w32 (M_2.2 12 (ix v3_2)) = w32 a1 then
J31 M_2
else
cal (fX12_aheadOf v3_2 M_2) fun r2 M1 =>
if ¬ w32 r2 = w32 a2 then
J31 M1
else
some (v3_2, M1)
else none) FU) fun J2 =>
J2 0 M
def fX12_undoes (a1 : Int) (a2 : Int) (a3 : Int) (M : Md) : Option (Int × Md) :=
cal (fX12_sectionsOf a2 M) fun r2 M1 =>
cal (fX12_sectionsOf a1 M1) fun r4 M3 =>
bnd (fun (t0_32 : Int) (M_32 : Md) =>
bnd (30 * a1) fun (x6_38 : Int) =>
bnd (30 * a2) fun (x7_44 : Int) =>
bnd (30 * a3) fun (x8_50 : Int) =>
bnd (mSet M_32 77 0) fun (M5 : Md) =>
bnd (lpn (fun (_ : Int) (_ : Int) (_ : Md) => (none : Option (Int × Md))) (fun L60 (v5_60 : Int) (v9_60 : Int) (M_60 : Md) =>
bnd (fun  (M_180 : Md) =>
retZ v5_60 M_180) fun J180 =>
if w32 r2 ≤ w32 v9_60 then
J180 M_60
else
if w32 v5_60 = 0 then
J180 M_60
else
if inR a1 (mLen 10) then
if inR a2 (mLen 10) then
cal (fX12_areAlike 9 x6_38 (M_60.2 10 (ix a1)) 9 x7_44 (M_60.2 10 (ix a2)) v9_60 M_60) fun r7 M6 =>
bnd (fun (v5_174 : Int) (M_174 : Md) =>
L60 v5_174 (v9_60 + 1) M_174) fun J174 =>
if w32 r7 = 0 then
if inR a3 (mLen 10) then
if inR a2 (mLen 10) then
cal (fX12_areAlike 9 x8_50 (M6.2 10 (ix a3)) 9 x7_44 (M6.2 10 (ix a2)) v9_60 M6) fun r9 M8 =>
if inR a1 (mLen 10) then
cal (fX12_putSection 9 x6_38 (M8.2 10 (ix a1)) v9_60 M8) fun r11 M10 =>
J174 r9 M10
else none
else none
else none
else
if inR a3 (mLen 10) then
cal (fX12_putSection 9 x8_50 (M6.2 10 (ix a3)) v9_60 M6) fun r13 M12 =>
J174 v5_60 M12
else none
else none
else none) FU) fun J60 =>
J60 t0_32 0 M5) fun J32 =>
bnd (fun  (M_31 : Md) =>
J32 0 M_31) fun J31 =>
if ¬ w32 r2 = w32 r4 then
J31 M3
else
cal (fX12_sectionsOf a3 M3) fun r15 M14 =>
if ¬ w32 r2 = w32 r15 then
J31 M14
else
J32 1 M14
def fX12_undo (a1 : Int) (a2 : Int) (M : Md) : Option (Int × Md) :=
cal (fX12_isVersionAt a1 a2 M) fun r2 M1 =>
bnd (fun (t0_25 : Int) (M_25 : Md) =>
bnd (mSet M_25 36 t0_25) fun (M3 : Md) =>
if w32 (M3.1 36) ≤ 0 then
cal (fX12_presentAt a1 M3) fun r5 M4 =>
if inR a1 (mLen 6) then
cal (fX12_aheadOf a2 M4) fun r7 M6 =>
cal (fX12_versionIn (M4.2 6 (ix a1)) (r7 - 1) M6) fun r9 M8 =>
cal (fX12_mayAt a1 M8) fun r11 M10 =>
bnd (fun (t0_98 : Int) (M_98 : Md) =>
bnd (mSet M_98 36 t0_98) fun (M12 : Md) =>
if w32 (M12.1 36) ≤ 0 then
if inR a1 (mLen 6) then
cal (fX12_newVersionNow (M12.2 6 (ix a1)) 76 0 (M12.1 77) M12) fun r14 M13 =>
cal (fX12_settleTitles M13) fun r16 M15 =>
some (r14, M15)
else none
else
some (0, M12)) fun J98 =>
bnd (fun  (M_97 : Md) =>
J98 2 M_97) fun J97 =>
if w32 r11 = 0 then
J97 M10
else
cal (fX12_undoes r9 a2 r5 M10) fun r18 M17 =>
if w32 r18 = 0 then
J97 M17
else
cal (fX12_isNew r5 M17) fun r20 M19 =>
if w32 r20 = 0 then
J97 M19
else
J98 0 M19
else none
else
some (0, M3)) fun J25 =>
bnd (fun  (M_24 : Md) =>
J25 1 M_24) fun J24 =>
if w32 r2 = 0 then
J24 M1
else
cal (fX12_aheadOf a2 M1) fun r22 M21 =>
if w32 r22 ≤ 0 then
J24 M21
else
J25 0 M21
def fX12_versionAt (a1 : Int) (a2 : Int) (M : Md) : Option (Int × Md) :=
cal (fX12_hasPage a1 M) fun r2 M1 =>
bnd (fun (t0_27 : Int) (M_27 : Md) =>
bnd (fun (t0_39 : Int) (M_39 : Md) =>
bnd (mSet M_39 36 t0_39) fun (M3 : Md) =>
bnd (fun (t0_54 : Int) (M_54 : Md) =>
some (t0_54, M_54)) fun J54 =>
if ¬ w32 (M3.1 36) = 0 then
J54 0 M3
else
J54 t0_27 M3) fun J39 =>
if ¬ w32 t0_27 = w32 (-1) then
J39 0 M_27
else
J39 1 M_27) fun J27 =>
bnd (fun  (M_26 : Md) =>
J27 (-1) M_26) fun J26 =>
if w32 r2 = 0 then
J26 M1
else
if w32 a2 < 0 then
J26 M1
else
if inR a1 (mLen 6) then
cal (fX12_versionIn (M1.2 6 (ix a1)) a2 M1) fun r5 M4 =>
J27 r5 M4
else none
def fX12_versionsOf (a1 : Int) (M : Md) : Option (Int × Md) :=
bnd (lpn (fun (_ : Int) (_ : Int) (_ : Md) => (none : Option (Int × Md))) (fun L4 (v2_4 : Int) (v3_4 : Int) (M_4 : Md) =>
if w32 (M_4.1 8) ≤ w32 v3_4 then
some (v2_4, M_4)
else
if inR v3_4 (mLen 12) then
bnd (fun (t0_28 : Int) (M_28 : Md) =>
bnd (v2_4 + t0_28) fun (x2_29 : Int) =>
L4 x2_29 (v3_4 + 1) M_28) fun J28 =>
if ¬ w32 (M_4.2 12 (ix v3_4)) = w32 a1 then
J28 0 M_4
else
J28 1 M_4
else none) FU) fun J4 =>
J4 0 0 M
def fX12_versions (a1 : Int) (M : Md) : Option (Int × Md) :=
cal (fX12_asksFor a1 M) fun r2 M1 =>
bnd (fun (t0_32 : Int) (M_32 : Md) =>
some (t0_32, M_32)) fun J32 =>
bnd (fun  (M_31 : Md) =>
J32 0 M_31) fun J31 =>
if w32 r2 = 0 then
J31 M1
else
if inR a1 (mLen 6) then
if w32 (M1.2 6 (ix a1)) = w32 (-1) then
J31 M1
else
if inR a1 (mLen 6) then
cal (fX12_versionsOf (M1.2 6 (ix a1)) M1) fun r4 M3 =>
J32 r4 M3
else none
else none
def fX12_wipe  (M : Md) : Option (Int × Md) :=
bnd (mSet M 36 0) fun (M1 : Md) =>
bnd (M1.1 1) fun (x1_9 : Int) =>
bnd (mSet M1 1 0) fun (M2 : Md) =>
some (x1_9, M2)
def fX12_work (a1 : Int) (M : Md) : Option (Int × Md) :=
cal (fX12_in a1 1 4 M) fun r2 M1 =>
bnd (fun (t0_15 : Int) (M_15 : Md) =>
bnd (mSet M_15 36 t0_15) fun (M3 : Md) =>
cal (fX12_nextStale M3) fun r5 M4 =>
bnd (lpn (fun (_ : Int) (_ : Int) (_ : Md) => (none : Option (Int × Md))) (fun L25 (v2_25 : Int) (v3_25 : Int) (M_25 : Md) =>
bnd (fun  (M_58 : Md) =>
some (v2_25, M_58)) fun J58 =>
if w32 v3_25 = w32 (-1) then
J58 M_25
else
if w32 a1 ≤ w32 v2_25 then
J58 M_25
else
if ¬ w32 (M_25.1 36) = 0 then
J58 M_25
else
cal (fX12_render v3_25 M_25) fun r7 M6 =>
cal (fX12_nextStale M6) fun r9 M8 =>
L25 (v2_25 + 1) r9 M8) FU) fun J25 =>
J25 0 r5 M4) fun J15 =>
if w32 r2 = 0 then
J15 1 M1
else
J15 0 M1
/-- ArrayList(): its row is the empty old one, written 0 -/
def fAL_init (a : Nat) (C : Cd) : Option (Unit × Cd) := if isO C a 2 ∧ cI C 200 a = 0 then some ((), cSetR C 201 a (some 0)) else none
def fAL_size (a : Nat) (C : Cd) : Option (Int × Cd) := if isO C a 2 then some (cI C 202 a, C) else none
def fAL_get (a : Nat) (i : Int) (C : Cd) : Option (Option Nat × Cd) := if isO C a 2 then drf (cR C 201 a) fun (e : Nat) => if (0 ≤ w32 i ∧ w32 i < w32 (cI C 202 a)) ∧ isO C e 107 ∧ inR i (cn C e) then some (cP C e (ix i), C) else none else none
def fAL_add (a : Nat) (v : Option Nat) (C : Cd) : Option (Int × Cd) :=
  if isO C a 2 ∧ 0 ≤ w32 (cI C 202 a) ∧ w32 (cI C 202 a) < 30000 then
    bnd (cSetI C 200 a (cI C 200 a + 1)) fun (C1 : Cd) =>
    (if alFull a C1 = true then alGrow a C1 else some C1).bind fun (C2 : Cd) => (alPut a (ix (cI C 202 a)) v C2).map fun C3 => (1, C3)
  else none
def fAL_addAt (a : Nat) (i : Int) (v : Option Nat) (C : Cd) : Option (Unit × Cd) :=
  if isO C a 2 ∧ (0 ≤ w32 (cI C 202 a) ∧ w32 (cI C 202 a) < 30000) ∧ 0 ≤ w32 i ∧ w32 i ≤ w32 (cI C 202 a) then
    bnd (cSetI C 200 a (cI C 200 a + 1)) fun (C1 : Cd) =>
    (if alFull a C1 = true then alGrow a C1 else some C1).bind fun (C2 : Cd) => drf (cR C2 201 a) fun (e : Nat) => if isO C2 e 107 ∧ ix (cI C 202 a) < cn C2 e ∧ okc C2 v 13 = true ∧ allV C2 e (ix (cI C 202 a)) = true ∧ cn C2 e ≤ 100000 then
      some ((), cSetI (alShift C2 e (ix i) (ix (cI C 202 a)) v) 202 a (ix (cI C 202 a) + 1)) else none
  else none
def fbitCount (x : Int) (C : Cd) : Option (Int × Cd) := if 0 ≤ w32 x then some ((nBits (w32 x).toNat 32 : Int), C) else none
def fX0_init (a0 : Nat) (a1 : Int) (a2 : Option Nat) (a3 : Option Nat) (C : Cd) : Option (Unit × Cd) :=
if isO C a0 3 then bnd (cSetI C 300 a0 a1) fun (C1 : Cd) =>
if isO C1 a0 3 then bnd (cSetR C1 301 a0 a2) fun (C2 : Cd) =>
if isO C2 a0 3 then bnd (cSetR C2 302 a0 a3) fun (C3 : Cd) =>
some ((), C3)
else none
else none
else none
def fX1_combined (a0 : Nat) (a1 : Int) (a2 : Int) (a3 : Int) (C : Cd) : Option (Int × Cd) :=
if w32 a1 = 2 then
some (remI (a2 + a3) 1000, C)
else
if w32 a1 = 3 then
some (remI ((a2 - a3) + 1000) 1000, C)
else
if w32 a1 = 4 then
some (remI (a2 * a3) 1000, C)
else
bnd (fun (t0_66 : Int) (C_66 : Cd) =>
some (t0_66, C_66)) fun J66 =>
if w32 a3 ≤ w32 a2 then
J66 0 C
else
J66 1 C
def fX11_has (a0 : Int) (a1 : Int) (C : Cd) : Option (Int × Cd) :=
bnd (fun (t0_13 : Int) (C_13 : Cd) =>
retZ t0_13 C_13) fun J13 =>
if w32 (andI (shrI a0 a1) 1) = 0 then
J13 0 C
else
J13 1 C
def fX11_membersOf (a0 : Option Nat) (a1 : Int) (C : Cd) : Option (Int × Cd) :=
bnd (lpn (fun (_ : Int) (_ : Int) (_ : Cd) => (none : Option (Int × Cd))) (fun L4 (v2_4 : Int) (v3_4 : Int) (C_4 : Cd) =>
drf a0 fun (p1 : Nat) =>
if isO C_4 p1 102 then
if w32 (cn C_4 p1 : Int) ≤ w32 v3_4 then
some (v2_4, C_4)
else
if isO C_4 p1 102 ∧ inR v3_4 (cn C_4 p1) then bnd (cP C_4 p1 (ix v3_4)) fun (z2 : Option Nat) =>
drf z2 fun (p3 : Nat) =>
if isO C_4 p3 12 then bnd (cR C_4 1200 p3) fun (z4 : Option Nat) =>
drf z4 fun (p5 : Nat) =>
if isO C_4 p5 7 then
cal (fX11_has (cI C_4 704 p5) a1 C_4) fun (r7 : Int) (C6 : Cd) =>
bnd (fun (v2_32 : Int) (C_32 : Cd) =>
L4 v2_32 (v3_4 + 1) C_32) fun J32 =>
if w32 r7 = 0 then
J32 v2_4 C6
else
bnd (orI v2_4 (shlI 1 v3_4)) fun (x2_31 : Int) =>
J32 x2_31 C6
else none
else none
else none
else none) FU) fun J4 =>
J4 0 0 C
def fX1_countedMembers (a0 : Nat) (a1 : Int) (C : Cd) : Option (Int × Cd) :=
bnd (fun  (C_10 : Cd) =>
some (0, C_10)) fun J10 =>
if w32 a1 < 0 then
J10 C
else
if w32 a1 < w32 8 then
if isO C a0 4 then bnd (cR C 407 a0) fun (z1 : Option Nat) =>
drf z1 fun (p2 : Nat) =>
if isO C p2 7 then
if isO C p2 7 then bnd (cSetI C 706 p2 (orI (cI C 706 p2) (shlI 1 a1))) fun (C3 : Cd) =>
if isO C3 a0 4 then bnd (cR C3 400 a0) fun (z4 : Option Nat) =>
cal (fX11_membersOf z4 a1 C3) fun (r6 : Int) (C5 : Cd) =>
some (r6, C5)
else none
else none
else none
else none
else
J10 C
def fX5_clear (a0 : Nat) (C : Cd) : Option (Unit × Cd) :=
if isO C a0 8 then bnd (cSetI C 801 a0 0) fun (C1 : Cd) =>
if isO C1 a0 8 then bnd (cSetI C1 802 a0 0) fun (C2 : Cd) =>
some ((), C2)
else none
else none
def fX4_clear (a0 : Nat) (C : Cd) : Option (Unit × Cd) :=
if isO C a0 7 then bnd (cR C 700 a0) fun (z1 : Option Nat) =>
drf z1 fun (p2 : Nat) =>
if isO C p2 8 then cal (fX5_clear p2 C) fun (r4 : Unit) (C3 : Cd) =>
if isO C3 a0 7 then bnd (cSetI C3 701 a0 0) fun (C5 : Cd) =>
if isO C5 a0 7 then bnd (cSetI C5 702 a0 0) fun (C6 : Cd) =>
if isO C6 a0 7 then bnd (cSetI C6 703 a0 0) fun (C7 : Cd) =>
if isO C7 a0 7 then bnd (cSetI C7 704 a0 0) fun (C8 : Cd) =>
if isO C8 a0 7 then bnd (cSetI C8 705 a0 0) fun (C9 : Cd) =>
if isO C9 a0 7 then bnd (cSetI C9 706 a0 0) fun (C10 : Cd) =>
if isO C10 a0 7 then bnd (cSetI C10 707 a0 0) fun (C11 : Cd) =>
some ((), C11)
else none
else none
else none
else none
else none
else none
else none
else none
else none
def fX2_begin (a0 : Nat) (a1 : Int) (a2 : Option Nat) (a3 : Option Nat) (C : Cd) : Option (Unit × Cd) :=
if isO C a0 5 then bnd (cSetI C 505 a0 a1) fun (C1 : Cd) =>
if isO C1 a0 5 then bnd (cSetR C1 504 a0 a2) fun (C2 : Cd) =>
if isO C2 a0 5 then bnd (cSetR C2 503 a0 a3) fun (C3 : Cd) =>
bnd (fun (t0_30 : Int) (C_30 : Cd) =>
if isO C_30 a0 5 then bnd (cSetI C_30 506 a0 t0_30) fun (C4 : Cd) =>
bnd (lpn (fun (_ : Int) (_ : Cd) => (none : Option (Unit × Cd))) (fun L36 (v4_36 : Int) (C_36 : Cd) =>
if isO C_36 a0 5 then bnd (cR C_36 500 a0) fun (z5 : Option Nat) =>
drf z5 fun (p6 : Nat) =>
if isO C_36 p6 100 then
if w32 (cn C_36 p6 : Int) ≤ w32 v4_36 then
bnd (lpn (fun (_ : Int) (_ : Cd) => (none : Option (Unit × Cd))) (fun L63 (v4_63 : Int) (C_63 : Cd) =>
if isO C_63 a0 5 then bnd (cR C_63 502 a0) fun (z7 : Option Nat) =>
drf z7 fun (p8 : Nat) =>
if isO C_63 p8 101 then
if w32 (cn C_63 p8 : Int) ≤ w32 v4_63 then
some ((), C_63)
else
if isO C_63 a0 5 then bnd (cR C_63 502 a0) fun (z9 : Option Nat) =>
drf z9 fun (p10 : Nat) =>
if isO C_63 p10 101 ∧ inR v4_63 (cn C_63 p10) then bnd (cSetE C_63 p10 (ix v4_63) 0) fun (C11 : Cd) =>
L63 (v4_63 + 1) C11
else none
else none
else none
else none) FU) fun J63 =>
J63 0 C_36
else
if isO C_36 a0 5 then bnd (cR C_36 500 a0) fun (z12 : Option Nat) =>
drf z12 fun (p13 : Nat) =>
if isO C_36 p13 100 ∧ inR v4_36 (cn C_36 p13) then bnd (cSetE C_36 p13 (ix v4_36) (-1)) fun (C14 : Cd) =>
L36 (v4_36 + 1) C14
else none
else none
else none
else none) FU) fun J36 =>
J36 0 C4
else none) fun J30 =>
opt a3 (
J30 0 C3) (fun (p15 : Nat) =>
if isO C3 p15 5 then
J30 ((cI C3 506 p15) + 1) C3
else none)
else none
else none
else none
def fX1_openRun (a0 : Nat) (a1 : Option Nat) (a2 : Int) (a3 : Int) (a4 : Option Nat) (C : Cd) : Option (Unit × Cd) :=
if isO C a0 4 then
if isO C a0 4 then bnd (cR C 403 a0) fun (z1 : Option Nat) =>
drf z1 fun (p2 : Nat) =>
if isO C p2 105 then
bnd (fun  (C_58 : Cd) =>
some ((), C_58)) fun J58 =>
if w32 (cn C p2 : Int) ≤ w32 (cI C 409 a0) then
J58 C
else
if isO C a0 4 then bnd (cR C 403 a0) fun (z3 : Option Nat) =>
if isO C a0 4 then
drf z3 fun (p4 : Nat) =>
if isO C p4 105 ∧ inR (cI C 409 a0) (cn C p4) then bnd (cP C p4 (ix (cI C 409 a0))) fun (z5 : Option Nat) =>
if isO C a0 4 then
if isO C a0 4 then bnd (cSetI C 409 a0 ((cI C 409 a0) + 1)) fun (C6 : Cd) =>
drf z5 fun (p7 : Nat) =>
if isO C6 p7 9 then bnd (cSetR C6 900 p7 a1) fun (C8 : Cd) =>
if isO C8 p7 9 then bnd (cSetI C8 902 p7 a2) fun (C9 : Cd) =>
if isO C9 p7 9 then bnd (cSetI C9 903 p7 a3) fun (C10 : Cd) =>
if isO C10 p7 9 then bnd (cSetR C10 901 p7 a4) fun (C11 : Cd) =>
J58 C11
else none
else none
else none
else none
else none
else none
else none
else none
else none
else none
else none
else none
def fX1_openFrame (a0 : Nat) (a1 : Int) (a2 : Option Nat) (a3 : Option Nat) (a4 : Option Nat) (C : Cd) : Option (Option Nat × Cd) :=
if isO C a0 4 then
if isO C a0 4 then bnd (cR C 402 a0) fun (z1 : Option Nat) =>
drf z1 fun (p2 : Nat) =>
if isO C p2 104 then
bnd (fun  (C_16 : Cd) =>
some (none, C_16)) fun J16 =>
if w32 (cn C p2 : Int) ≤ w32 (cI C 408 a0) then
J16 C
else
opt a2 (
J16 C) (fun (p3 : Nat) =>
if isO C a0 4 then bnd (cR C 402 a0) fun (z4 : Option Nat) =>
if isO C a0 4 then
drf z4 fun (p5 : Nat) =>
if isO C p5 104 ∧ inR (cI C 408 a0) (cn C p5) then bnd (cP C p5 (ix (cI C 408 a0))) fun (z6 : Option Nat) =>
if isO C a0 4 then
if isO C a0 4 then bnd (cSetI C 408 a0 ((cI C 408 a0) + 1)) fun (C7 : Cd) =>
drf z6 fun (p8 : Nat) =>
if isO C7 p8 5 then cal (fX2_begin p8 a1 (some p3) a3 C7) fun (r10 : Unit) (C9 : Cd) =>
if isO C9 p3 11 then
if isO C9 a0 4 then cal (fX1_openRun a0 (some p8) 0 (cI C9 1102 p3) a4 C9) fun (r12 : Unit) (C11 : Cd) =>
some ((some p8), C11)
else none
else none
else none
else none
else none
else none
else none
else none)
else none
else none
else none
def fX8_valueAt (a0 : Nat) (a1 : Int) (C : Cd) : Option (Int × Cd) :=
bnd (fun (t0_26 : Int) (C_26 : Cd) =>
some (t0_26, C_26)) fun J26 =>
bnd (fun  (C_25 : Cd) =>
J26 (-1) C_25) fun J25 =>
if w32 a1 < 0 then
J25 C
else
if isO C a0 11 then
if w32 (cI C 1102 a0) ≤ w32 a1 then
J25 C
else
if isO C a0 11 then bnd (cR C 1100 a0) fun (z1 : Option Nat) =>
drf z1 fun (p2 : Nat) =>
if isO C p2 100 ∧ inR a1 (cn C p2) then
J26 (remI (cE C p2 (ix a1)) 1000) C
else none
else none
else none
def fX8_kindAt (a0 : Nat) (a1 : Int) (C : Cd) : Option (Int × Cd) :=
bnd (fun (t0_26 : Int) (C_26 : Cd) =>
some (t0_26, C_26)) fun J26 =>
bnd (fun  (C_25 : Cd) =>
J26 (-1) C_25) fun J25 =>
if w32 a1 < 0 then
J25 C
else
if isO C a0 11 then
if w32 (cI C 1102 a0) ≤ w32 a1 then
J25 C
else
if isO C a0 11 then bnd (cR C 1100 a0) fun (z1 : Option Nat) =>
drf z1 fun (p2 : Nat) =>
if isO C p2 100 ∧ inR a1 (cn C p2) then
J26 (divI (cE C p2 (ix a1)) 1000) C
else none
else none
else none
def fX5_add (a0 : Nat) (a1 : Int) (C : Cd) : Option (Unit × Cd) :=
if isO C a0 8 then
if isO C a0 8 then bnd (cR C 800 a0) fun (z1 : Option Nat) =>
drf z1 fun (p2 : Nat) =>
if isO C p2 100 then
bnd (fun  (C_53 : Cd) =>
some ((), C_53)) fun J53 =>
if w32 (cn C p2 : Int) ≤ w32 (cI C 801 a0) then
J53 C
else
if isO C a0 8 then bnd (cR C 800 a0) fun (z3 : Option Nat) =>
if isO C a0 8 then
drf z3 fun (p4 : Nat) =>
if isO C p4 100 ∧ inR (cI C 801 a0) (cn C p4) then bnd (cSetE C p4 (ix (cI C 801 a0)) a1) fun (C5 : Cd) =>
if isO C5 a0 8 then
if isO C5 a0 8 then bnd (cSetI C5 801 a0 ((cI C5 801 a0) + 1)) fun (C6 : Cd) =>
if isO C6 a0 8 then
bnd (fun (t0_49 : Int) (C_49 : Cd) =>
if isO C_49 a0 8 then bnd (cSetI C_49 802 a0 ((cI C6 802 a0) + t0_49)) fun (C7 : Cd) =>
J53 C7
else none) fun J49 =>
if w32 1000 ≤ w32 a1 then
J49 0 C6
else
J49 a1 C6
else none
else none
else none
else none
else none
else none
else none
else none
else none
def fX8_endAt (a0 : Nat) (a1 : Int) (C : Cd) : Option (Int × Cd) :=
bnd (fun (t0_25 : Int) (C_25 : Cd) =>
some (t0_25, C_25)) fun J25 =>
bnd (fun  (C_21 : Cd) =>
if isO C_21 a0 11 then
J25 (cI C_21 1102 a0) C_21
else none) fun J21 =>
if w32 a1 < 0 then
J21 C
else
if isO C a0 11 then
if w32 (cI C 1102 a0) ≤ w32 a1 then
J21 C
else
if isO C a0 11 then bnd (cR C 1101 a0) fun (z1 : Option Nat) =>
drf z1 fun (p2 : Nat) =>
if isO C p2 100 ∧ inR a1 (cn C p2) then
J25 (cE C p2 (ix a1)) C
else none
else none
else none
def fX2_argumentAt (a0 : Nat) (a1 : Int) (C : Cd) : Option (Int × Cd) :=
bnd (fun (t0_23 : Int) (C_23 : Cd) =>
some (t0_23, C_23)) fun J23 =>
bnd (fun  (C_22 : Cd) =>
J23 (-1) C_22) fun J22 =>
if w32 a1 < 0 then
J22 C
else
if isO C a0 5 then bnd (cR C 500 a0) fun (z1 : Option Nat) =>
drf z1 fun (p2 : Nat) =>
if isO C p2 100 then
if w32 (cn C p2 : Int) ≤ w32 a1 then
J22 C
else
if isO C a0 5 then bnd (cR C 500 a0) fun (z3 : Option Nat) =>
drf z3 fun (p4 : Nat) =>
if isO C p4 100 ∧ inR a1 (cn C p4) then
J23 (cE C p4 (ix a1)) C
else none
else none
else none
else none
def fX2_rowAt (a0 : Nat) (a1 : Int) (C : Cd) : Option (Option Nat × Cd) :=
bnd (fun (t0_32 : Option Nat) (C_32 : Cd) =>
some (t0_32, C_32)) fun J32 =>
bnd (fun  (C_31 : Cd) =>
J32 none C_31) fun J31 =>
if w32 a1 < 0 then
J31 C
else
if isO C a0 5 then bnd (cR C 501 a0) fun (z1 : Option Nat) =>
drf z1 fun (p2 : Nat) =>
if isO C p2 106 then
if w32 (cn C p2 : Int) ≤ w32 a1 then
J31 C
else
if isO C a0 5 then bnd (cR C 502 a0) fun (z3 : Option Nat) =>
drf z3 fun (p4 : Nat) =>
if isO C p4 101 ∧ inR a1 (cn C p4) then
if w32 (cE C p4 (ix a1)) = 0 then
J31 C
else
if isO C a0 5 then bnd (cR C 501 a0) fun (z5 : Option Nat) =>
drf z5 fun (p6 : Nat) =>
if isO C p6 106 ∧ inR a1 (cn C p6) then bnd (cP C p6 (ix a1)) fun (z7 : Option Nat) =>
J32 z7 C
else none
else none
else none
else none
else none
else none
def fX5_init (a0 : Nat) (C : Cd) : Option (Unit × Cd) :=
if 0 ≤ w32 150 ∧ w32 150 < 1000000 then bnd (cNewA C 100 (ix 150)) fun (C1 : Cd) =>
if isO C1 a0 8 then bnd (cSetR C1 800 a0 (some (csz C))) fun (C2 : Cd) =>
if isO C2 a0 8 then bnd (cSetI C2 801 a0 0) fun (C3 : Cd) =>
if isO C3 a0 8 then bnd (cSetI C3 802 a0 0) fun (C4 : Cd) =>
some ((), C4)
else none
else none
else none
else none
def fX1_openPart (a0 : Nat) (a1 : Option Nat) (a2 : Int) (C : Cd) : Option (Unit × Cd) :=
bnd (fun  (C_13 : Cd) =>
some ((), C_13)) fun J13 =>
if w32 a2 < 0 then
J13 C
else
drf a1 fun (p1 : Nat) =>
if isO C p1 5 then bnd (cR C 501 p1) fun (z2 : Option Nat) =>
drf z2 fun (p3 : Nat) =>
if isO C p3 106 then
if w32 a2 < w32 (cn C p3 : Int) then
if isO C p1 5 then bnd (cR C 501 p1) fun (z4 : Option Nat) =>
drf z4 fun (p5 : Nat) =>
if isO C p5 106 ∧ inR a2 (cn C p5) then bnd (cP C p5 (ix a2)) fun (z6 : Option Nat) =>
bnd (fun (v3_40 : Option Nat) (C_40 : Cd) =>
drf v3_40 fun (p7 : Nat) =>
if isO C_40 p7 8 then cal (fX5_clear p7 C_40) fun (r9 : Unit) (C8 : Cd) =>
if isO C8 p1 5 then bnd (cR C8 502 p1) fun (z10 : Option Nat) =>
drf z10 fun (p11 : Nat) =>
if isO C8 p11 101 ∧ inR a2 (cn C8 p11) then bnd (cSetE C8 p11 (ix a2) 1) fun (C12 : Cd) =>
if isO C12 p1 5 then bnd (cR C12 504 p1) fun (z13 : Option Nat) =>
drf z13 fun (p14 : Nat) =>
if isO C12 p14 11 then cal (fX8_endAt p14 a2 C12) fun (r16 : Int) (C15 : Cd) =>
if isO C15 a0 4 then cal (fX1_openRun a0 (some p1) (a2 + 1) r16 (some p7) C15) fun (r18 : Unit) (C17 : Cd) =>
some ((), C17)
else none
else none
else none
else none
else none
else none) fun J40 =>
opt z6 (
bnd (cNew C 8) fun (C20 : Cd) =>
cal (fX5_init (csz C) C20) fun (r22 : Unit) (C21 : Cd) =>
if isO C21 p1 5 then bnd (cR C21 501 p1) fun (z23 : Option Nat) =>
drf z23 fun (p24 : Nat) =>
if (isO C21 p24 106 ∧ inR a2 (cn C21 p24)) ∧ isO C21 (csz C) 8 then bnd (cSetP C21 p24 (ix a2) (some (csz C))) fun (C25 : Cd) =>
J40 (some (csz C)) C25
else none
else none) (fun (p19 : Nat) =>
J40 (some p19) C)
else none
else none
else
J13 C
else none
else none
def fX5_at (a0 : Nat) (a1 : Int) (C : Cd) : Option (Int × Cd) :=
bnd (fun (t0_31 : Int) (C_31 : Cd) =>
some (t0_31, C_31)) fun J31 =>
bnd (fun  (C_30 : Cd) =>
J31 (-1) C_30) fun J30 =>
if w32 a1 < 0 then
J30 C
else
if isO C a0 8 then
if w32 (cI C 801 a0) ≤ w32 a1 then
J30 C
else
if isO C a0 8 then bnd (cR C 800 a0) fun (z1 : Option Nat) =>
drf z1 fun (p2 : Nat) =>
if isO C p2 100 then
if w32 (cn C p2 : Int) ≤ w32 a1 then
J30 C
else
if isO C a0 8 then bnd (cR C 800 a0) fun (z3 : Option Nat) =>
drf z3 fun (p4 : Nat) =>
if isO C p4 100 ∧ inR a1 (cn C p4) then
J31 (cE C p4 (ix a1)) C
else none
else none
else none
else none
else none
def fX5_addAll (a0 : Nat) (a1 : Option Nat) (C : Cd) : Option (Unit × Cd) :=
bnd (lpn (fun (_ : Int) (_ : Cd) => (none : Option (Unit × Cd))) (fun L2 (v2_2 : Int) (C_2 : Cd) =>
drf a1 fun (p1 : Nat) =>
if isO C_2 p1 8 then
if w32 (cI C_2 801 p1) ≤ w32 v2_2 then
some ((), C_2)
else
if isO C_2 p1 8 then cal (fX5_at p1 v2_2 C_2) fun (r3 : Int) (C2 : Cd) =>
if isO C2 a0 8 then cal (fX5_add a0 r3 C2) fun (r5 : Unit) (C4 : Cd) =>
L2 (v2_2 + 1) C4
else none
else none
else none) FU) fun J2 =>
J2 0 C
def fX1_giveArgument (a0 : Nat) (a1 : Option Nat) (a2 : Int) (C : Cd) : Option (Int × Cd) :=
drf a1 fun (p1 : Nat) =>
if isO C p1 9 then bnd (cR C 900 p1) fun (z2 : Option Nat) =>
drf z2 fun (p3 : Nat) =>
if isO C p3 5 then cal (fX2_argumentAt p3 a2 C) fun (r5 : Int) (C4 : Cd) =>
bnd (fun  (C_25 : Cd) =>
some (1, C_25)) fun J25 =>
if w32 r5 = w32 (-1) then
J25 C4
else
if isO C4 p3 5 then bnd (cR C4 503 p3) fun (z6 : Option Nat) =>
opt z6 (
J25 C4) (fun (p7 : Nat) =>
if isO C4 p3 5 then bnd (cR C4 503 p3) fun (z8 : Option Nat) =>
drf z8 fun (p9 : Nat) =>
if isO C4 p9 5 then cal (fX2_rowAt p9 r5 C4) fun (r11 : Option Nat) (C10 : Cd) =>
opt r11 (
if isO C10 p3 5 then bnd (cR C10 503 p3) fun (z13 : Option Nat) =>
if isO C10 a0 4 then cal (fX1_openPart a0 z13 r5 C10) fun (r15 : Unit) (C14 : Cd) =>
some (0, C14)
else none
else none) (fun (p12 : Nat) =>
if isO C10 p1 9 then bnd (cR C10 901 p1) fun (z16 : Option Nat) =>
drf z16 fun (p17 : Nat) =>
if isO C10 p17 8 then cal (fX5_addAll p17 (some p12) C10) fun (r19 : Unit) (C18 : Cd) =>
if isO C18 p3 5 then bnd (cR C18 504 p3) fun (z20 : Option Nat) =>
if isO C18 p1 9 then
drf z20 fun (p21 : Nat) =>
if isO C18 p21 11 then cal (fX8_endAt p21 (cI C18 902 p1) C18) fun (r23 : Int) (C22 : Cd) =>
if isO C22 p1 9 then bnd (cSetI C22 902 p1 r23) fun (C24 : Cd) =>
some (1, C24)
else none
else none
else none
else none
else none
else none)
else none
else none)
else none
else none
else none
def fX8_startsPart (a0 : Nat) (a1 : Int) (C : Cd) : Option (Int × Cd) :=
if isO C a0 11 then cal (fX8_kindAt a0 a1 C) fun (r2 : Int) (C1 : Cd) =>
bnd (fun (t0_22 : Int) (C_22 : Cd) =>
retZ t0_22 C_22) fun J22 =>
bnd (fun  (C_17 : Cd) =>
J22 1 C_17) fun J17 =>
if w32 r2 = w32 5 then
J17 C1
else
if ¬ w32 r2 = w32 6 then
J22 0 C1
else
J17 C1
else none
def fX1_listParts (a0 : Nat) (a1 : Option Nat) (a2 : Int) (C : Cd) : Option (Unit × Cd) :=
if isO C a0 4 then bnd (cSetI C 413 a0 0) fun (C1 : Cd) =>
bnd (a2 + 1) fun (x3_8 : Int) =>
bnd (lpn (fun (_ : Int) (_ : Int) (_ : Cd) => (none : Option (Unit × Cd))) (fun L12 (v3_12 : Int) (v4_12 : Int) (C_12 : Cd) =>
if isO C_12 a0 4 then bnd (cR C_12 406 a0) fun (z2 : Option Nat) =>
drf z2 fun (p3 : Nat) =>
if isO C_12 p3 100 then
bnd (fun  (C_60 : Cd) =>
some ((), C_60)) fun J60 =>
if w32 (cn C_12 p3 : Int) ≤ w32 v4_12 then
J60 C_12
else
drf a1 fun (p4 : Nat) =>
if isO C_12 p4 11 then cal (fX8_startsPart p4 v3_12 C_12) fun (r6 : Int) (C5 : Cd) =>
if w32 r6 = 0 then
J60 C5
else
if isO C5 a0 4 then bnd (cR C5 406 a0) fun (z7 : Option Nat) =>
drf z7 fun (p8 : Nat) =>
if isO C5 p8 100 ∧ inR v4_12 (cn C5 p8) then bnd (cSetE C5 p8 (ix v4_12) v3_12) fun (C9 : Cd) =>
if isO C9 a0 4 then
if isO C9 a0 4 then bnd (cSetI C9 413 a0 ((cI C9 413 a0) + 1)) fun (C10 : Cd) =>
if isO C10 p4 11 then cal (fX8_endAt p4 v3_12 C10) fun (r12 : Int) (C11 : Cd) =>
L12 r12 (v4_12 + 1) C11
else none
else none
else none
else none
else none
else none
else none
else none) FU) fun J12 =>
J12 x3_8 0 C1
else none
def fX1_partOf (a0 : Nat) (a1 : Option Nat) (a2 : Int) (C : Cd) : Option (Option Nat × Cd) :=
bnd (fun (t0_34 : Int) (C_34 : Cd) =>
bnd (fun  (C_48 : Cd) =>
if isO C_48 a0 4 then bnd (cR C_48 404 a0) fun (z1 : Option Nat) =>
some (z1, C_48)
else none) fun J48 =>
if w32 t0_34 < 0 then
J48 C_34
else
drf a1 fun (p2 : Nat) =>
if isO C_34 p2 5 then bnd (cR C_34 501 p2) fun (z3 : Option Nat) =>
drf z3 fun (p4 : Nat) =>
if isO C_34 p4 106 then
if w32 t0_34 < w32 (cn C_34 p4 : Int) then
if isO C_34 p2 5 then bnd (cR C_34 502 p2) fun (z5 : Option Nat) =>
drf z5 fun (p6 : Nat) =>
if isO C_34 p6 101 ∧ inR t0_34 (cn C_34 p6) then
if ¬ w32 (cE C_34 p6 (ix t0_34)) = 0 then
if isO C_34 p2 5 then bnd (cR C_34 501 p2) fun (z7 : Option Nat) =>
drf z7 fun (p8 : Nat) =>
if isO C_34 p8 106 ∧ inR t0_34 (cn C_34 p8) then bnd (cP C_34 p8 (ix t0_34)) fun (z9 : Option Nat) =>
some (z9, C_34)
else none
else none
else
if isO C_34 a0 4 then bnd (cSetI C_34 414 a0 t0_34) fun (C10 : Cd) =>
some (none, C10)
else none
else none
else none
else
J48 C_34
else none
else none) fun J34 =>
bnd (fun  (C_33 : Cd) =>
J34 (-1) C_33) fun J33 =>
if w32 a2 < w32 1 then
J33 C
else
if isO C a0 4 then
if w32 (cI C 413 a0) < w32 a2 then
J33 C
else
if isO C a0 4 then bnd (cR C 406 a0) fun (z11 : Option Nat) =>
drf z11 fun (p12 : Nat) =>
if isO C p12 100 then
if w32 (cn C p12 : Int) < w32 a2 then
J33 C
else
if isO C a0 4 then bnd (cR C 406 a0) fun (z13 : Option Nat) =>
drf z13 fun (p14 : Nat) =>
if isO C p14 100 ∧ inR (a2 - 1) (cn C p14) then
J34 (cE C p14 (ix (a2 - 1))) C
else none
else none
else none
else none
else none
def fX1_giveSum (a0 : Nat) (a1 : Option Nat) (C : Cd) : Option (Int × Cd) :=
bnd (lpn (fun (_ : Int) (_ : Int) (_ : Cd) => (none : Option (Int × Cd))) (fun L4 (v2_4 : Int) (v3_4 : Int) (C_4 : Cd) =>
if isO C_4 a0 4 then
if w32 (cI C_4 413 a0) < w32 v3_4 then
drf a1 fun (p1 : Nat) =>
if isO C_4 p1 9 then bnd (cR C_4 901 p1) fun (z2 : Option Nat) =>
drf z2 fun (p3 : Nat) =>
if isO C_4 p3 8 then cal (fX5_add p3 (remI v2_4 1000) C_4) fun (r5 : Unit) (C4 : Cd) =>
some (1, C4)
else none
else none
else
drf a1 fun (p6 : Nat) =>
if isO C_4 p6 9 then bnd (cR C_4 900 p6) fun (z7 : Option Nat) =>
if isO C_4 a0 4 then cal (fX1_partOf a0 z7 v3_4 C_4) fun (r9 : Option Nat) (C8 : Cd) =>
opt r9 (
some (0, C8)) (fun (p10 : Nat) =>
if isO C8 p10 8 then
bnd (v2_4 + (cI C8 802 p10)) fun (x2_37 : Int) =>
L4 x2_37 (v3_4 + 1) C8
else none)
else none
else none
else none) FU) fun J4 =>
J4 0 1 C
def fX5_hasOtherThanZero (a0 : Nat) (C : Cd) : Option (Int × Cd) :=
bnd (lpn (fun (_ : Int) (_ : Cd) => (none : Option (Int × Cd))) (fun L2 (v1_2 : Int) (C_2 : Cd) =>
if isO C_2 a0 8 then
if w32 (cI C_2 801 a0) ≤ w32 v1_2 then
some (0, C_2)
else
if isO C_2 a0 8 then cal (fX5_at a0 v1_2 C_2) fun (r2 : Int) (C1 : Cd) =>
if w32 r2 = 0 then
L2 (v1_2 + 1) C1
else
some (1, C1)
else none
else none) FU) fun J2 =>
J2 0 C
def fX1_givePart (a0 : Nat) (a1 : Option Nat) (a2 : Int) (C : Cd) : Option (Int × Cd) :=
drf a1 fun (p1 : Nat) =>
if isO C p1 9 then bnd (cR C 900 p1) fun (z2 : Option Nat) =>
if isO C a0 4 then cal (fX1_partOf a0 z2 a2 C) fun (r4 : Option Nat) (C3 : Cd) =>
opt r4 (
some (0, C3)) (fun (p5 : Nat) =>
if isO C3 p1 9 then bnd (cR C3 901 p1) fun (z6 : Option Nat) =>
drf z6 fun (p7 : Nat) =>
if isO C3 p7 8 then cal (fX5_addAll p7 (some p5) C3) fun (r9 : Unit) (C8 : Cd) =>
some (1, C8)
else none
else none)
else none
else none
def fX5_sameAs (a0 : Nat) (a1 : Option Nat) (C : Cd) : Option (Int × Cd) :=
drf a1 fun (p1 : Nat) =>
if isO C p1 8 then
if isO C a0 8 then
if w32 (cI C 801 p1) = w32 (cI C 801 a0) then
bnd (lpn (fun (_ : Int) (_ : Cd) => (none : Option (Int × Cd))) (fun L15 (v2_15 : Int) (C_15 : Cd) =>
if isO C_15 a0 8 then
if w32 (cI C_15 801 a0) ≤ w32 v2_15 then
some (1, C_15)
else
if isO C_15 a0 8 then cal (fX5_at a0 v2_15 C_15) fun (r3 : Int) (C2 : Cd) =>
if isO C2 p1 8 then cal (fX5_at p1 v2_15 C2) fun (r5 : Int) (C4 : Cd) =>
if w32 r3 = w32 r5 then
L15 (v2_15 + 1) C4
else
some (0, C4)
else none
else none
else none) FU) fun J15 =>
J15 0 C
else
some (0, C)
else none
else none
def fX5_number (a0 : Nat) (C : Cd) : Option (Int × Cd) :=
if isO C a0 8 then
bnd (fun (t0_29 : Int) (C_29 : Cd) =>
some (t0_29, C_29)) fun J29 =>
bnd (fun  (C_28 : Cd) =>
J29 (-1) C_28) fun J28 =>
if w32 (cI C 801 a0) ≤ 0 then
J28 C
else
if isO C a0 8 then bnd (cR C 800 a0) fun (z1 : Option Nat) =>
drf z1 fun (p2 : Nat) =>
if isO C p2 100 ∧ inR 0 (cn C p2) then
if w32 1000 ≤ w32 (cE C p2 (ix 0)) then
J28 C
else
if isO C a0 8 then bnd (cR C 800 a0) fun (z3 : Option Nat) =>
drf z3 fun (p4 : Nat) =>
if isO C p4 100 ∧ inR 0 (cn C p4) then
J29 (cE C p4 (ix 0)) C
else none
else none
else none
else none
else none
def fX3_textUpTo (a0 : Nat) (a1 : Int) (C : Cd) : Option (Option Nat × Cd) :=
if ¬ w32 a1 = w32 (-1) then
if isO C a0 6 then bnd (cR C 602 a0) fun (z1 : Option Nat) =>
bnd (lpn (fun (_ : Option Nat) (_ : Cd) => (none : Option (Option Nat × Cd))) (fun L18 (v2_18 : Option Nat) (C_18 : Cd) =>
opt v2_18 (
some (none, C_18)) (fun (p2 : Nat) =>
if isO C_18 p2 3 then
if w32 a1 < w32 (cI C_18 300 p2) then
if isO C_18 p2 3 then bnd (cR C_18 302 p2) fun (z3 : Option Nat) =>
L18 z3 C_18
else none
else
if isO C_18 p2 3 then bnd (cR C_18 301 p2) fun (z4 : Option Nat) =>
some (z4, C_18)
else none
else none)) FU) fun J18 =>
J18 z1 C
else none
else
if isO C a0 6 then bnd (cR C 601 a0) fun (z5 : Option Nat) =>
drf z5 fun (p6 : Nat) =>
if isO C p6 13 then bnd (cR C 1302 p6) fun (z7 : Option Nat) =>
some (z7, C)
else none
else none
def fX1_textAt (a0 : Nat) (a1 : Int) (a2 : Int) (C : Cd) : Option (Option Nat × Cd) :=
bnd (fun (t0_26 : Option Nat) (C_26 : Cd) =>
bnd (fun (t0_40 : Option Nat) (C_40 : Cd) =>
some (t0_40, C_40)) fun J40 =>
opt t0_26 (
J40 none C_26) (fun (p1 : Nat) =>
if isO C_26 p1 6 then cal (fX3_textUpTo p1 a2 C_26) fun (r3 : Option Nat) (C2 : Cd) =>
J40 r3 C2
else none)) fun J26 =>
bnd (fun  (C_25 : Cd) =>
J26 none C_25) fun J25 =>
if w32 a1 < 0 then
J25 C
else
if isO C a0 4 then bnd (cR C 400 a0) fun (z4 : Option Nat) =>
drf z4 fun (p5 : Nat) =>
if isO C p5 102 then
if w32 (cn C p5 : Int) ≤ w32 a1 then
J25 C
else
if isO C a0 4 then bnd (cR C 400 a0) fun (z6 : Option Nat) =>
drf z6 fun (p7 : Nat) =>
if isO C p7 102 ∧ inR a1 (cn C p7) then bnd (cP C p7 (ix a1)) fun (z8 : Option Nat) =>
drf z8 fun (p9 : Nat) =>
if isO C p9 12 then bnd (cR C 1203 p9) fun (z10 : Option Nat) =>
J26 z10 C
else none
else none
else none
else none
else none
def fX1_giveExists (a0 : Nat) (a1 : Option Nat) (a2 : Int) (C : Cd) : Option (Unit × Cd) :=
bnd (fun (t0_15 : Int) (C_15 : Cd) =>
bnd (fun  (C_35 : Cd) =>
drf a1 fun (p1 : Nat) =>
if isO C_35 p1 9 then bnd (cR C_35 901 p1) fun (z2 : Option Nat) =>
bnd (fun (t0_60 : Int) (C_60 : Cd) =>
drf z2 fun (p3 : Nat) =>
if isO C_60 p3 8 then cal (fX5_add p3 t0_60 C_60) fun (r5 : Unit) (C4 : Cd) =>
some ((), C4)
else none) fun J60 =>
bnd (fun  (C_59 : Cd) =>
J60 0 C_59) fun J59 =>
if w32 t0_15 = 0 then
J59 C_35
else
if isO C_35 a0 4 then
if isO C_35 a0 4 then cal (fX1_textAt a0 a2 (cI C_35 411 a0) C_35) fun (r7 : Option Nat) (C6 : Cd) =>
opt r7 (
J59 C6) (fun (p8 : Nat) =>
J60 1 C6)
else none
else none
else none) fun J35 =>
if w32 t0_15 = 0 then
J35 C_15
else
if isO C_15 a0 4 then bnd (cR C_15 407 a0) fun (z9 : Option Nat) =>
drf z9 fun (p10 : Nat) =>
if isO C_15 p10 7 then
if isO C_15 p10 7 then bnd (cSetI C_15 705 p10 (orI (cI C_15 705 p10) (shlI 1 a2))) fun (C11 : Cd) =>
J35 C11
else none
else none
else none) fun J15 =>
bnd (fun  (C_14 : Cd) =>
J15 0 C_14) fun J14 =>
if w32 a2 < 0 then
J14 C
else
if w32 24 ≤ w32 a2 then
J14 C
else
J15 1 C
def fX1_giveList (a0 : Nat) (a1 : Option Nat) (a2 : Int) (C : Cd) : Option (Unit × Cd) :=
if isO C a0 4 then bnd (cR C 407 a0) fun (z1 : Option Nat) =>
drf z1 fun (p2 : Nat) =>
if isO C p2 7 then
if isO C p2 7 then bnd (cSetI C 703 p2 (orI (cI C 703 p2) a2)) fun (C3 : Cd) =>
bnd (lpn (fun (_ : Int) (_ : Cd) => (none : Option (Unit × Cd))) (fun L15 (v3_15 : Int) (C_15 : Cd) =>
if w32 24 ≤ w32 v3_15 then
some ((), C_15)
else
cal (fX11_has a2 v3_15 C_15) fun (r5 : Int) (C4 : Cd) =>
bnd (fun  (C_41 : Cd) =>
L15 (v3_15 + 1) C_41) fun J41 =>
if w32 r5 = 0 then
J41 C4
else
drf a1 fun (p6 : Nat) =>
if isO C4 p6 9 then bnd (cR C4 901 p6) fun (z7 : Option Nat) =>
drf z7 fun (p8 : Nat) =>
if isO C4 p8 8 then cal (fX5_add p8 (1000 + v3_15) C4) fun (r10 : Unit) (C9 : Cd) =>
J41 C9
else none
else none) FU) fun J15 =>
J15 0 C3
else none
else none
else none
def fX7_instructionAt (a0 : Nat) (a1 : Int) (C : Cd) : Option (Int × Cd) :=
bnd (fun (t0_31 : Int) (C_31 : Cd) =>
some (t0_31, C_31)) fun J31 =>
bnd (fun  (C_30 : Cd) =>
J31 (-1) C_30) fun J30 =>
if w32 a1 < 0 then
J30 C
else
if isO C a0 10 then
if w32 (cI C 1002 a0) ≤ w32 a1 then
J30 C
else
if isO C a0 10 then bnd (cR C 1000 a0) fun (z1 : Option Nat) =>
drf z1 fun (p2 : Nat) =>
if isO C p2 100 then
if w32 (cn C p2 : Int) ≤ w32 a1 then
J30 C
else
if isO C a0 10 then bnd (cR C 1000 a0) fun (z3 : Option Nat) =>
drf z3 fun (p4 : Nat) =>
if isO C p4 100 ∧ inR a1 (cn C p4) then
J31 (cE C p4 (ix a1)) C
else none
else none
else none
else none
else none
def fX7_valueAt (a0 : Nat) (a1 : Int) (C : Cd) : Option (Int × Cd) :=
bnd (fun (t0_31 : Int) (C_31 : Cd) =>
some (t0_31, C_31)) fun J31 =>
bnd (fun  (C_30 : Cd) =>
J31 (-1) C_30) fun J30 =>
if w32 a1 < 0 then
J30 C
else
if isO C a0 10 then
if w32 (cI C 1002 a0) ≤ w32 a1 then
J30 C
else
if isO C a0 10 then bnd (cR C 1001 a0) fun (z1 : Option Nat) =>
drf z1 fun (p2 : Nat) =>
if isO C p2 100 then
if w32 (cn C p2 : Int) ≤ w32 a1 then
J30 C
else
if isO C a0 10 then bnd (cR C 1001 a0) fun (z3 : Option Nat) =>
drf z3 fun (p4 : Nat) =>
if isO C p4 100 ∧ inR a1 (cn C p4) then
J31 (cE C p4 (ix a1)) C
else none
else none
else none
else none
else none
def fX1_takenBy (a0 : Nat) (a1 : Int) (C : Cd) : Option (Int × Cd) :=
bnd (fun  (C_44 : Cd) =>
some (2, C_44)) fun J44 =>
bnd (fun  (C_48 : Cd) =>
some (0, C_48)) fun J48 =>
bnd (fun  (C_46 : Cd) =>
some (1, C_46)) fun J46 =>
if w32 a1 = 2 then
J44 C
else
if w32 a1 = 3 then
J44 C
else
if w32 a1 = 4 then
J44 C
else
if w32 a1 = 5 then
J44 C
else
if w32 a1 = 6 then
J48 C
else
if w32 a1 = 7 then
J46 C
else
if w32 a1 = 8 then
J46 C
else
J48 C
def fX1_stackAt (a0 : Nat) (a1 : Int) (C : Cd) : Option (Int × Cd) :=
bnd (fun (t0_23 : Int) (C_23 : Cd) =>
some (t0_23, C_23)) fun J23 =>
bnd (fun  (C_22 : Cd) =>
J23 (-1) C_22) fun J22 =>
if w32 a1 < 0 then
J22 C
else
if isO C a0 4 then bnd (cR C 405 a0) fun (z1 : Option Nat) =>
drf z1 fun (p2 : Nat) =>
if isO C p2 100 then
if w32 (cn C p2 : Int) ≤ w32 a1 then
J22 C
else
if isO C a0 4 then bnd (cR C 405 a0) fun (z3 : Option Nat) =>
drf z3 fun (p4 : Nat) =>
if isO C p4 100 ∧ inR a1 (cn C p4) then
J23 (cE C p4 (ix a1)) C
else none
else none
else none
else none
def fX1_outOf (a0 : Nat) (a1 : Option Nat) (a2 : Option Nat) (C : Cd) : Option (Int × Cd) :=
bnd (lpn (fun (_ : Int) (_ : Int) (_ : Int) (_ : Cd) => (none : Option (Int × Cd))) (fun L8 (v3_8 : Int) (v4_8 : Int) (v5_8 : Int) (C_8 : Cd) =>
if w32 50 ≤ w32 v5_8 then
some (9004, C_8)
else
drf a1 fun (p1 : Nat) =>
if isO C_8 p1 10 then cal (fX7_instructionAt p1 v4_8 C_8) fun (r3 : Int) (C2 : Cd) =>
if isO C2 p1 10 then cal (fX7_valueAt p1 v4_8 C2) fun (r5 : Int) (C4 : Cd) =>
if isO C4 a0 4 then cal (fX1_takenBy a0 r3 C4) fun (r7 : Int) (C6 : Cd) =>
bnd (v3_8 - r7) fun (x9_46 : Int) =>
if isO C6 a0 4 then cal (fX1_stackAt a0 (v3_8 - 1) C6) fun (r9 : Int) (C8 : Cd) =>
bnd (fun  (C_68 : Cd) =>
some (9004, C_68)) fun J68 =>
if w32 r3 = w32 (-1) then
J68 C8
else
if 0 ≤ w32 x9_46 then
if ¬ w32 r3 = w32 8 then
bnd (fun (v4_105 : Int) (C_105 : Cd) =>
bnd (fun (v3_216 : Int) (C_216 : Cd) =>
L8 v3_216 v4_105 (v5_8 + 1) C_216) fun J216 =>
if w32 r3 = w32 6 then
J216 x9_46 C_105
else
if w32 r3 = w32 7 then
J216 x9_46 C_105
else
if isO C_105 a0 4 then bnd (cR C_105 405 a0) fun (z10 : Option Nat) =>
drf z10 fun (p11 : Nat) =>
if isO C_105 p11 100 then
if w32 x9_46 < w32 (cn C_105 p11 : Int) then
bnd (fun (t0_158 : Int) (C_158 : Cd) =>
bnd (fun (v11_205 : Int) (C_205 : Cd) =>
if isO C_205 a0 4 then bnd (cR C_205 405 a0) fun (z12 : Option Nat) =>
drf z12 fun (p13 : Nat) =>
if isO C_205 p13 100 ∧ inR x9_46 (cn C_205 p13) then bnd (cSetE C_205 p13 (ix x9_46) v11_205) fun (C14 : Cd) =>
J216 (x9_46 + 1) C14
else none
else none) fun J205 =>
if ¬ w32 r3 = w32 1 then
J205 t0_158 C_158
else
if isO C_158 a0 4 then cal (fX1_partOf a0 a2 (r5 + 2) C_158) fun (r16 : Option Nat) (C15 : Cd) =>
opt r16 (
some ((-2), C15)) (fun (p17 : Nat) =>
if isO C15 p17 8 then cal (fX5_number p17 C15) fun (r19 : Int) (C18 : Cd) =>
bnd (fun (t0_203 : Int) (C_203 : Cd) =>
J205 t0_203 C_203) fun J203 =>
if ¬ w32 r19 = w32 (-1) then
if isO C18 p17 8 then cal (fX5_number p17 C18) fun (r21 : Int) (C20 : Cd) =>
J203 r21 C20
else none
else
J203 0 C18
else none)
else none) fun J158 =>
if ¬ w32 r3 = 0 then
if isO C_105 a0 4 then cal (fX1_stackAt a0 x9_46 C_105) fun (r23 : Int) (C22 : Cd) =>
if isO C22 a0 4 then cal (fX1_combined a0 r3 r23 r9 C22) fun (r25 : Int) (C24 : Cd) =>
J158 r25 C24
else none
else none
else
J158 r5 C_105
else
some (9004, C_105)
else none
else none) fun J105 =>
bnd (fun  (C_101 : Cd) =>
J105 r5 C_101) fun J101 =>
if w32 r3 = w32 6 then
J101 C8
else
if ¬ w32 r3 = w32 7 then
J105 (v4_8 + 1) C8
else
if ¬ w32 r9 = 0 then
J105 (v4_8 + 1) C8
else
J101 C8
else
some (r9, C8)
else
J68 C8
else none
else none
else none
else none) FU) fun J8 =>
J8 0 0 0 C
def fX1_giveModule (a0 : Nat) (a1 : Option Nat) (a2 : Int) (C : Cd) : Option (Int × Cd) :=
bnd (fun (v3_47 : Int) (C_47 : Cd) =>
if ¬ w32 v3_47 = w32 (-2) then
drf a1 fun (p1 : Nat) =>
if isO C_47 p1 9 then bnd (cR C_47 901 p1) fun (z2 : Option Nat) =>
drf z2 fun (p3 : Nat) =>
if isO C_47 p3 8 then cal (fX5_add p3 v3_47 C_47) fun (r5 : Unit) (C4 : Cd) =>
some (1, C4)
else none
else none
else
some (0, C_47)) fun J47 =>
if w32 a2 < 0 then
J47 9004 C
else
if isO C a0 4 then bnd (cR C 401 a0) fun (z6 : Option Nat) =>
drf z6 fun (p7 : Nat) =>
if isO C p7 103 then
if w32 (cn C p7 : Int) ≤ w32 a2 then
J47 9004 C
else
if isO C a0 4 then bnd (cR C 407 a0) fun (z8 : Option Nat) =>
drf z8 fun (p9 : Nat) =>
if isO C p9 7 then
if isO C p9 7 then bnd (cSetI C 707 p9 (orI (cI C 707 p9) (shlI 1 a2))) fun (C10 : Cd) =>
if isO C10 a0 4 then bnd (cR C10 401 a0) fun (z11 : Option Nat) =>
drf z11 fun (p12 : Nat) =>
if isO C10 p12 103 ∧ inR a2 (cn C10 p12) then bnd (cP C10 p12 (ix a2)) fun (z13 : Option Nat) =>
drf a1 fun (p14 : Nat) =>
if isO C10 p14 9 then bnd (cR C10 900 p14) fun (z15 : Option Nat) =>
if isO C10 a0 4 then cal (fX1_outOf a0 z13 z15 C10) fun (r17 : Int) (C16 : Cd) =>
J47 r17 C16
else none
else none
else none
else none
else none
else none
else none
else none
else none
def fX1_giveFunction (a0 : Nat) (a1 : Option Nat) (a2 : Int) (C : Cd) : Option (Int × Cd) :=
if ¬ w32 a2 = w32 2 then
drf a1 fun (p1 : Nat) =>
if isO C p1 9 then bnd (cR C 900 p1) fun (z2 : Option Nat) =>
if isO C a0 4 then cal (fX1_partOf a0 z2 1 C) fun (r4 : Option Nat) (C3 : Cd) =>
opt r4 (
some (0, C3)) (fun (p5 : Nat) =>
bnd (fun  (C_190 : Cd) =>
some (1, C_190)) fun J190 =>
if w32 a2 = 0 then
if isO C3 p5 8 then cal (fX5_hasOtherThanZero p5 C3) fun (r7 : Int) (C6 : Cd) =>
bnd (fun (t0_86 : Int) (C_86 : Cd) =>
if isO C_86 a0 4 then cal (fX1_givePart a0 (some p1) t0_86 C_86) fun (r9 : Int) (C8 : Cd) =>
retZ r9 C8
else none) fun J86 =>
if w32 r7 = 0 then
J86 3 C6
else
J86 2 C6
else none
else
if w32 a2 = 1 then
if isO C3 p1 9 then bnd (cR C3 900 p1) fun (z10 : Option Nat) =>
if isO C3 a0 4 then cal (fX1_partOf a0 z10 2 C3) fun (r12 : Option Nat) (C11 : Cd) =>
bnd (fun (t0_133 : Int) (C_133 : Cd) =>
retZ t0_133 C_133) fun J133 =>
bnd (fun  (C_132 : Cd) =>
J133 0 C_132) fun J132 =>
opt r12 (
J132 C11) (fun (p13 : Nat) =>
if isO C11 p5 8 then cal (fX5_sameAs p5 (some p13) C11) fun (r15 : Int) (C14 : Cd) =>
bnd (fun (t0_122 : Int) (C_122 : Cd) =>
if isO C_122 a0 4 then cal (fX1_givePart a0 (some p1) t0_122 C_122) fun (r17 : Int) (C16 : Cd) =>
if w32 r17 = 0 then
J132 C16
else
J133 1 C16
else none) fun J122 =>
if w32 r15 = 0 then
J122 4 C14
else
J122 3 C14
else none)
else none
else none
else
if w32 a2 = 2 then
J190 C3
else
if w32 a2 = 3 then
if isO C3 p5 8 then cal (fX5_number p5 C3) fun (r19 : Int) (C18 : Cd) =>
if isO C18 a0 4 then cal (fX1_giveExists a0 (some p1) r19 C18) fun (r21 : Unit) (C20 : Cd) =>
some (1, C20)
else none
else none
else
if w32 a2 = 4 then
if isO C3 p1 9 then bnd (cR C3 901 p1) fun (z22 : Option Nat) =>
if isO C3 p5 8 then cal (fX5_number p5 C3) fun (r24 : Int) (C23 : Cd) =>
if isO C23 a0 4 then cal (fX1_countedMembers a0 r24 C23) fun (r26 : Int) (C25 : Cd) =>
cal (fbitCount r26 C25) fun (r28 : Int) (C27 : Cd) =>
drf z22 fun (p29 : Nat) =>
if isO C27 p29 8 then cal (fX5_add p29 r28 C27) fun (r31 : Unit) (C30 : Cd) =>
some (1, C30)
else none
else none
else none
else none
else
if w32 a2 = 5 then
if isO C3 p5 8 then cal (fX5_number p5 C3) fun (r33 : Int) (C32 : Cd) =>
if isO C32 a0 4 then cal (fX1_countedMembers a0 r33 C32) fun (r35 : Int) (C34 : Cd) =>
if isO C34 a0 4 then cal (fX1_giveList a0 (some p1) r35 C34) fun (r37 : Unit) (C36 : Cd) =>
some (1, C36)
else none
else none
else none
else
if w32 a2 = 6 then
if isO C3 p5 8 then cal (fX5_number p5 C3) fun (r39 : Int) (C38 : Cd) =>
if isO C38 a0 4 then cal (fX1_giveModule a0 (some p1) r39 C38) fun (r41 : Int) (C40 : Cd) =>
retZ r41 C40
else none
else none
else
J190 C3)
else none
else none
else
if isO C a0 4 then cal (fX1_giveSum a0 a1 C) fun (r43 : Int) (C42 : Cd) =>
retZ r43 C42
else none
def fX8_isRedirect (a0 : Nat) (C : Cd) : Option (Int × Cd) :=
if isO C a0 11 then cal (fX8_kindAt a0 0 C) fun (r2 : Int) (C1 : Cd) =>
bnd (fun (t0_15 : Int) (C_15 : Cd) =>
retZ t0_15 C_15) fun J15 =>
if ¬ w32 r2 = w32 12 then
J15 0 C1
else
J15 1 C1
else none
def fX1_goalOf (a0 : Nat) (a1 : Int) (a2 : Int) (C : Cd) : Option (Int × Cd) :=
if isO C a0 4 then bnd (cSetI C 412 a0 0) fun (C1 : Cd) =>
bnd (lpn (fun (_ : Int) (_ : Int) (_ : Cd) => (none : Option (Int × Cd))) (fun L10 (v3_10 : Int) (v4_10 : Int) (C_10 : Cd) =>
if w32 4 < w32 v4_10 then
some ((-1), C_10)
else
if isO C_10 a0 4 then
if isO C_10 a0 4 then bnd (cSetI C_10 412 a0 (orI (cI C_10 412 a0) (shlI 1 v3_10))) fun (C2 : Cd) =>
if isO C2 a0 4 then cal (fX1_textAt a0 v3_10 a2 C2) fun (r4 : Option Nat) (C3 : Cd) =>
opt r4 (
some ((-1), C3)) (fun (p5 : Nat) =>
if isO C3 p5 11 then cal (fX8_isRedirect p5 C3) fun (r7 : Int) (C6 : Cd) =>
if ¬ w32 r7 = 0 then
if isO C6 p5 11 then cal (fX8_valueAt p5 0 C6) fun (r9 : Int) (C8 : Cd) =>
L10 r9 (v4_10 + 1) C8
else none
else
some (v3_10, C6)
else none)
else none
else none
else none) FU) fun J10 =>
J10 a1 0 C1
else none
def fX2_comesFrom (a0 : Nat) (a1 : Int) (C : Cd) : Option (Int × Cd) :=
bnd (lpn (fun (_ : Option Nat) (_ : Cd) => (none : Option (Int × Cd))) (fun L2 (v2_2 : Option Nat) (C_2 : Cd) =>
opt v2_2 (
some (0, C_2)) (fun (p1 : Nat) =>
if isO C_2 p1 5 then
if ¬ w32 (cI C_2 505 p1) = w32 a1 then
if isO C_2 p1 5 then bnd (cR C_2 503 p1) fun (z2 : Option Nat) =>
L2 z2 C_2
else none
else
some (1, C_2)
else none)) FU) fun J2 =>
J2 (some a0) C
def fX2_takeArguments (a0 : Nat) (a1 : Option Nat) (a2 : Int) (C : Cd) : Option (Unit × Cd) :=
bnd (a2 + 1) fun (x4_5 : Int) =>
bnd (lpn (fun (_ : Int) (_ : Int) (_ : Int) (_ : Cd) => (none : Option (Unit × Cd))) (fun L10 (v3_10 : Int) (v4_10 : Int) (v5_10 : Int) (C_10 : Cd) =>
bnd (fun  (C_88 : Cd) =>
some ((), C_88)) fun J88 =>
if w32 30 ≤ w32 v5_10 then
J88 C_10
else
drf a1 fun (p1 : Nat) =>
if isO C_10 p1 11 then cal (fX8_startsPart p1 v4_10 C_10) fun (r3 : Int) (C2 : Cd) =>
if w32 r3 = 0 then
J88 C2
else
if isO C2 p1 11 then cal (fX8_valueAt p1 v4_10 C2) fun (r5 : Int) (C4 : Cd) =>
if isO C4 p1 11 then cal (fX8_kindAt p1 v4_10 C4) fun (r7 : Int) (C6 : Cd) =>
bnd (fun (v3_50 : Int) (v6_50 : Int) (C_50 : Cd) =>
bnd (fun  (C_74 : Cd) =>
if isO C_74 p1 11 then cal (fX8_endAt p1 v4_10 C_74) fun (r9 : Int) (C8 : Cd) =>
L10 v3_50 r9 (v5_10 + 1) C8
else none) fun J74 =>
if w32 v6_50 < 0 then
J74 C_50
else
if isO C_50 a0 5 then bnd (cR C_50 500 a0) fun (z10 : Option Nat) =>
drf z10 fun (p11 : Nat) =>
if isO C_50 p11 100 then
if w32 (cn C_50 p11 : Int) ≤ w32 v6_50 then
J74 C_50
else
if isO C_50 a0 5 then bnd (cR C_50 500 a0) fun (z12 : Option Nat) =>
drf z12 fun (p13 : Nat) =>
if isO C_50 p13 100 ∧ inR v6_50 (cn C_50 p13) then bnd (cSetE C_50 p13 (ix v6_50) v4_10) fun (C14 : Cd) =>
J74 C14
else none
else none
else none
else none) fun J50 =>
if ¬ w32 r7 = w32 5 then
J50 v3_10 r5 C6
else
bnd (v3_10 + 1) fun (x6_48 : Int) =>
J50 (v3_10 + 1) x6_48 C6
else none
else none
else none) FU) fun J10 =>
J10 0 x4_5 0 C
def fX1_giveCall (a0 : Nat) (a1 : Option Nat) (a2 : Int) (a3 : Int) (C : Cd) : Option (Unit × Cd) :=
if isO C a0 4 then
if w32 (cI C 410 a0) < w32 40 then
if isO C a0 4 then
if isO C a0 4 then bnd (cSetI C 410 a0 ((cI C 410 a0) + 1)) fun (C1 : Cd) =>
drf a1 fun (p2 : Nat) =>
if isO C1 p2 9 then bnd (cR C1 900 p2) fun (z3 : Option Nat) =>
if isO C1 a0 4 then
if isO C1 a0 4 then cal (fX1_goalOf a0 a3 (cI C1 411 a0) C1) fun (r5 : Int) (C4 : Cd) =>
if isO C4 a0 4 then bnd (cR C4 407 a0) fun (z6 : Option Nat) =>
drf z6 fun (p7 : Nat) =>
if isO C4 p7 7 then
if isO C4 a0 4 then
if isO C4 p7 7 then bnd (cSetI C4 705 p7 (orI (cI C4 705 p7) (cI C4 412 a0))) fun (C8 : Cd) =>
bnd (fun  (C_185 : Cd) =>
some ((), C_185)) fun J185 =>
if ¬ w32 r5 = w32 (-1) then
drf z3 fun (p9 : Nat) =>
if isO C8 p9 5 then cal (fX2_comesFrom p9 r5 C8) fun (r11 : Int) (C10 : Cd) =>
if w32 r11 = 0 then
if isO C10 p9 5 then
if w32 (cI C10 506 p9) < w32 6 then
if isO C10 a0 4 then
if isO C10 a0 4 then cal (fX1_textAt a0 r5 (cI C10 411 a0) C10) fun (r13 : Option Nat) (C12 : Cd) =>
if isO C12 p2 9 then bnd (cR C12 901 p2) fun (z14 : Option Nat) =>
if isO C12 a0 4 then cal (fX1_openFrame a0 r5 r13 (some p9) z14 C12) fun (r16 : Option Nat) (C15 : Cd) =>
opt r16 (
J185 C15) (fun (p17 : Nat) =>
if isO C15 p9 5 then bnd (cR C15 504 p9) fun (z18 : Option Nat) =>
if isO C15 p17 5 then cal (fX2_takeArguments p17 z18 a2 C15) fun (r20 : Unit) (C19 : Cd) =>
J185 C19
else none
else none)
else none
else none
else none
else none
else
if isO C10 p2 9 then bnd (cR C10 901 p2) fun (z21 : Option Nat) =>
drf z21 fun (p22 : Nat) =>
if isO C10 p22 8 then cal (fX5_add p22 9002 C10) fun (r24 : Unit) (C23 : Cd) =>
J185 C23
else none
else none
else none
else
if isO C10 p2 9 then bnd (cR C10 901 p2) fun (z25 : Option Nat) =>
drf z25 fun (p26 : Nat) =>
if isO C10 p26 8 then cal (fX5_add p26 9001 C10) fun (r28 : Unit) (C27 : Cd) =>
J185 C27
else none
else none
else none
else
if isO C8 a0 4 then bnd (cR C8 407 a0) fun (z29 : Option Nat) =>
drf z29 fun (p30 : Nat) =>
if isO C8 p30 7 then
if isO C8 p30 7 then bnd (cSetI C8 703 p30 (orI (cI C8 703 p30) (shlI 1 a3))) fun (C31 : Cd) =>
if isO C31 p2 9 then bnd (cR C31 901 p2) fun (z32 : Option Nat) =>
drf z32 fun (p33 : Nat) =>
if isO C31 p33 8 then cal (fX5_add p33 (2000 + a3) C31) fun (r35 : Unit) (C34 : Cd) =>
J185 C34
else none
else none
else none
else none
else none
else none
else none
else none
else none
else none
else none
else none
else none
else none
else
drf a1 fun (p36 : Nat) =>
if isO C p36 9 then bnd (cR C 901 p36) fun (z37 : Option Nat) =>
drf z37 fun (p38 : Nat) =>
if isO C p38 8 then cal (fX5_add p38 9003 C) fun (r40 : Unit) (C39 : Cd) =>
some ((), C39)
else none
else none
else none
def fX1_stepOn (a0 : Nat) (a1 : Option Nat) (C : Cd) : Option (Unit × Cd) :=
drf a1 fun (p1 : Nat) =>
if isO C p1 9 then bnd (cR C 900 p1) fun (z2 : Option Nat) =>
drf z2 fun (p3 : Nat) =>
if isO C p3 5 then bnd (cR C 504 p3) fun (z4 : Option Nat) =>
if isO C p1 9 then
bnd (cI C 902 p1) fun (x3_12 : Int) =>
drf z4 fun (p5 : Nat) =>
if isO C p5 11 then cal (fX8_valueAt p5 x3_12 C) fun (r7 : Int) (C6 : Cd) =>
if isO C6 p5 11 then cal (fX8_kindAt p5 x3_12 C6) fun (r9 : Int) (C8 : Cd) =>
bnd (fun  (C_279 : Cd) =>
if isO C_279 p1 9 then
if isO C_279 p1 9 then bnd (cSetI C_279 902 p1 ((cI C_279 902 p1) + 1)) fun (C10 : Cd) =>
some ((), C10)
else none
else none) fun J279 =>
bnd (fun  (C_104 : Cd) =>
if isO C_104 a0 4 then bnd (cR C_104 407 a0) fun (z11 : Option Nat) =>
drf z11 fun (p12 : Nat) =>
if isO C_104 p12 7 then
if isO C_104 p12 7 then bnd (cSetI C_104 703 p12 (orI (cI C_104 703 p12) (shlI 1 r7))) fun (C13 : Cd) =>
if isO C13 p1 9 then bnd (cR C13 901 p1) fun (z14 : Option Nat) =>
drf z14 fun (p15 : Nat) =>
if isO C13 p15 8 then cal (fX5_add p15 (1000 + r7) C13) fun (r17 : Unit) (C16 : Cd) =>
J279 C16
else none
else none
else none
else none
else none) fun J104 =>
if w32 r9 = 0 then
if isO C8 p1 9 then bnd (cR C8 901 p1) fun (z18 : Option Nat) =>
drf z18 fun (p19 : Nat) =>
if isO C8 p19 8 then cal (fX5_add p19 r7 C8) fun (r21 : Unit) (C20 : Cd) =>
J279 C20
else none
else none
else
if w32 r9 = 1 then
J104 C8
else
if w32 r9 = 2 then
if isO C8 p5 11 then cal (fX8_endAt p5 x3_12 C8) fun (r23 : Int) (C22 : Cd) =>
if isO C22 p1 9 then bnd (cSetI C22 902 p1 r23) fun (C24 : Cd) =>
if isO C24 a0 4 then cal (fX1_giveCall a0 (some p1) x3_12 r7 C24) fun (r26 : Unit) (C25 : Cd) =>
J279 C25
else none
else none
else none
else
if w32 r9 = 3 then
if isO C8 a0 4 then cal (fX1_giveArgument a0 (some p1) r7 C8) fun (r28 : Int) (C27 : Cd) =>
if ¬ w32 r28 = 0 then
J279 C27
else
some ((), C27)
else none
else
if w32 r9 = 4 then
if isO C8 a0 4 then cal (fX1_listParts a0 (some p5) x3_12 C8) fun (r30 : Unit) (C29 : Cd) =>
if isO C29 a0 4 then cal (fX1_giveFunction a0 (some p1) r7 C29) fun (r32 : Int) (C31 : Cd) =>
if ¬ w32 r32 = 0 then
if isO C31 p5 11 then cal (fX8_endAt p5 x3_12 C31) fun (r34 : Int) (C33 : Cd) =>
if isO C33 p1 9 then bnd (cSetI C33 902 p1 r34) fun (C35 : Cd) =>
J279 C35
else none
else none
else
if isO C31 p1 9 then bnd (cR C31 900 p1) fun (z36 : Option Nat) =>
if isO C31 a0 4 then
if isO C31 a0 4 then cal (fX1_openPart a0 z36 (cI C31 414 a0) C31) fun (r38 : Unit) (C37 : Cd) =>
some ((), C37)
else none
else none
else none
else none
else none
else
if w32 r9 = 5 then
J279 C8
else
if w32 r9 = 6 then
J279 C8
else
if w32 r9 = 7 then
J279 C8
else
if w32 r9 = 8 then
if isO C8 p1 9 then bnd (cR C8 900 p1) fun (z39 : Option Nat) =>
drf z39 fun (p40 : Nat) =>
if isO C8 p40 5 then
bnd (fun (t0_175 : Int) (C_175 : Cd) =>
if isO C_175 p1 9 then bnd (cSetI C_175 902 p1 t0_175) fun (C41 : Cd) =>
J279 C41
else none) fun J175 =>
if w32 (cI C8 506 p40) ≤ 0 then
if isO C8 p5 11 then cal (fX8_endAt p5 x3_12 C8) fun (r43 : Int) (C42 : Cd) =>
J175 r43 C42
else none
else
J175 x3_12 C8
else none
else none
else
if w32 r9 = 9 then
if isO C8 p1 9 then bnd (cR C8 900 p1) fun (z44 : Option Nat) =>
drf z44 fun (p45 : Nat) =>
if isO C8 p45 5 then
bnd (fun (t0_201 : Int) (C_201 : Cd) =>
if isO C_201 p1 9 then bnd (cSetI C_201 902 p1 t0_201) fun (C46 : Cd) =>
J279 C46
else none) fun J201 =>
if w32 (cI C8 506 p45) ≤ 0 then
J201 x3_12 C8
else
if isO C8 p5 11 then cal (fX8_endAt p5 x3_12 C8) fun (r48 : Int) (C47 : Cd) =>
J201 r48 C47
else none
else none
else none
else
if w32 r9 = 10 then
J279 C8
else
if w32 r9 = 11 then
if isO C8 a0 4 then bnd (cR C8 407 a0) fun (z49 : Option Nat) =>
drf z49 fun (p50 : Nat) =>
if isO C8 p50 7 then
if isO C8 p50 7 then bnd (cSetI C8 704 p50 (orI (cI C8 704 p50) (shlI 1 r7))) fun (C51 : Cd) =>
J279 C51
else none
else none
else none
else
if w32 r9 = 12 then
J104 C8
else
J279 C8
else none
else none
else none
else none
else none
def fX1_expand (a0 : Nat) (a1 : Int) (a2 : Option Nat) (a3 : Int) (C : Cd) : Option (Unit × Cd) :=
if isO C a0 4 then bnd (cR C 407 a0) fun (z1 : Option Nat) =>
drf z1 fun (p2 : Nat) =>
if isO C p2 7 then cal (fX4_clear p2 C) fun (r4 : Unit) (C3 : Cd) =>
if isO C3 a0 4 then bnd (cSetI C3 408 a0 0) fun (C5 : Cd) =>
if isO C5 a0 4 then bnd (cSetI C5 409 a0 0) fun (C6 : Cd) =>
if isO C6 a0 4 then bnd (cSetI C6 410 a0 0) fun (C7 : Cd) =>
if isO C7 a0 4 then bnd (cSetI C7 411 a0 a3) fun (C8 : Cd) =>
if isO C8 a0 4 then bnd (cR C8 407 a0) fun (z9 : Option Nat) =>
drf z9 fun (p10 : Nat) =>
if isO C8 p10 7 then bnd (cR C8 700 p10) fun (z11 : Option Nat) =>
if isO C8 a0 4 then cal (fX1_openFrame a0 a1 a2 none z11 C8) fun (r13 : Option Nat) (C12 : Cd) =>
bnd (lpn (fun (_ : Int) (_ : Cd) => (none : Option (Unit × Cd))) (fun L45 (v4_45 : Int) (C_45 : Cd) =>
bnd (fun  (C_110 : Cd) =>
some ((), C_110)) fun J110 =>
if w32 1000000 ≤ w32 v4_45 then
J110 C_45
else
if isO C_45 a0 4 then
if w32 (cI C_45 409 a0) ≤ 0 then
J110 C_45
else
if isO C_45 a0 4 then bnd (cR C_45 403 a0) fun (z14 : Option Nat) =>
if isO C_45 a0 4 then
drf z14 fun (p15 : Nat) =>
if isO C_45 p15 105 ∧ inR ((cI C_45 409 a0) - 1) (cn C_45 p15) then bnd (cP C_45 p15 (ix ((cI C_45 409 a0) - 1))) fun (z16 : Option Nat) =>
drf z16 fun (p17 : Nat) =>
if isO C_45 p17 9 then
if isO C_45 p17 9 then
bnd (fun  (C_104 : Cd) =>
L45 (v4_45 + 1) C_104) fun J104 =>
if w32 (cI C_45 902 p17) < w32 (cI C_45 903 p17) then
if isO C_45 a0 4 then cal (fX1_stepOn a0 (some p17) C_45) fun (r19 : Unit) (C18 : Cd) =>
J104 C18
else none
else
if isO C_45 a0 4 then
if isO C_45 a0 4 then bnd (cSetI C_45 409 a0 ((cI C_45 409 a0) - 1)) fun (C20 : Cd) =>
J104 C20
else none
else none
else none
else none
else none
else none
else none
else none) FU) fun J45 =>
J45 0 C12
else none
else none
else none
else none
else none
else none
else none
else none
else none
def fX4_init (a0 : Nat) (C : Cd) : Option (Unit × Cd) :=
bnd (cNew C 8) fun (C1 : Cd) =>
cal (fX5_init (csz C) C1) fun (r3 : Unit) (C2 : Cd) =>
if isO C2 a0 7 then bnd (cSetR C2 700 a0 (some (csz C))) fun (C4 : Cd) =>
if isO C4 a0 7 then bnd (cSetI C4 701 a0 0) fun (C5 : Cd) =>
if isO C5 a0 7 then bnd (cSetI C5 702 a0 0) fun (C6 : Cd) =>
if isO C6 a0 7 then bnd (cSetI C6 703 a0 0) fun (C7 : Cd) =>
if isO C7 a0 7 then bnd (cSetI C7 704 a0 0) fun (C8 : Cd) =>
if isO C8 a0 7 then bnd (cSetI C8 705 a0 0) fun (C9 : Cd) =>
if isO C9 a0 7 then bnd (cSetI C9 706 a0 0) fun (C10 : Cd) =>
if isO C10 a0 7 then bnd (cSetI C10 707 a0 0) fun (C11 : Cd) =>
some ((), C11)
else none
else none
else none
else none
else none
else none
else none
else none
def fX9_init (a0 : Nat) (C : Cd) : Option (Unit × Cd) :=
bnd (cNew C 7) fun (C1 : Cd) =>
cal (fX4_init (csz C) C1) fun (r3 : Unit) (C2 : Cd) =>
if isO C2 a0 12 then bnd (cSetR C2 1200 a0 (some (csz C))) fun (C4 : Cd) =>
if 0 ≤ w32 3 ∧ w32 3 < 1000000 then bnd (cNewA C4 100 (ix 3)) fun (C5 : Cd) =>
if isO C5 (csz C4) 100 ∧ inR 0 (cn C5 (csz C4)) then bnd (cSetE C5 (csz C4) (ix 0) (-1)) fun (C6 : Cd) =>
if isO C6 (csz C4) 100 ∧ inR 1 (cn C6 (csz C4)) then bnd (cSetE C6 (csz C4) (ix 1) (-1)) fun (C7 : Cd) =>
if isO C7 (csz C4) 100 ∧ inR 2 (cn C7 (csz C4)) then bnd (cSetE C7 (csz C4) (ix 2) (-1)) fun (C8 : Cd) =>
if isO C8 a0 12 then bnd (cSetR C8 1201 a0 (some (csz C4))) fun (C9 : Cd) =>
if 0 ≤ w32 3 ∧ w32 3 < 1000000 then bnd (cNewA C9 100 (ix 3)) fun (C10 : Cd) =>
if isO C10 (csz C9) 100 ∧ inR 0 (cn C10 (csz C9)) then bnd (cSetE C10 (csz C9) (ix 0) (-1)) fun (C11 : Cd) =>
if isO C11 (csz C9) 100 ∧ inR 1 (cn C11 (csz C9)) then bnd (cSetE C11 (csz C9) (ix 1) (-1)) fun (C12 : Cd) =>
if isO C12 (csz C9) 100 ∧ inR 2 (cn C12 (csz C9)) then bnd (cSetE C12 (csz C9) (ix 2) (-1)) fun (C13 : Cd) =>
if isO C13 a0 12 then bnd (cSetR C13 1202 a0 (some (csz C9))) fun (C14 : Cd) =>
if isO C14 a0 12 then bnd (cSetR C14 1203 a0 none) fun (C15 : Cd) =>
if isO C15 a0 12 then bnd (cSetI C15 1204 a0 0) fun (C16 : Cd) =>
if isO C16 a0 12 then bnd (cSetI C16 1205 a0 0) fun (C17 : Cd) =>
some ((), C17)
else none
else none
else none
else none
else none
else none
else none
else none
else none
else none
else none
else none
else none
else none
def fX7_init (a0 : Nat) (C : Cd) : Option (Unit × Cd) :=
if 0 ≤ w32 16 ∧ w32 16 < 1000000 then bnd (cNewA C 100 (ix 16)) fun (C1 : Cd) =>
if isO C1 a0 10 then bnd (cSetR C1 1000 a0 (some (csz C))) fun (C2 : Cd) =>
if 0 ≤ w32 16 ∧ w32 16 < 1000000 then bnd (cNewA C2 100 (ix 16)) fun (C3 : Cd) =>
if isO C3 a0 10 then bnd (cSetR C3 1001 a0 (some (csz C2))) fun (C4 : Cd) =>
if isO C4 a0 10 then bnd (cSetI C4 1002 a0 0) fun (C5 : Cd) =>
some ((), C5)
else none
else none
else none
else none
else none
def fX2_init (a0 : Nat) (C : Cd) : Option (Unit × Cd) :=
if 0 ≤ w32 10 ∧ w32 10 < 1000000 then bnd (cNewA C 100 (ix 10)) fun (C1 : Cd) =>
if isO C1 a0 5 then bnd (cSetR C1 500 a0 (some (csz C))) fun (C2 : Cd) =>
if 0 ≤ w32 30 ∧ w32 30 < 1000000 then bnd (cNewA C2 106 (ix 30)) fun (C3 : Cd) =>
if isO C3 a0 5 then bnd (cSetR C3 501 a0 (some (csz C2))) fun (C4 : Cd) =>
if 0 ≤ w32 30 ∧ w32 30 < 1000000 then bnd (cNewA C4 101 (ix 30)) fun (C5 : Cd) =>
if isO C5 a0 5 then bnd (cSetR C5 502 a0 (some (csz C4))) fun (C6 : Cd) =>
if isO C6 a0 5 then bnd (cSetR C6 503 a0 none) fun (C7 : Cd) =>
if isO C7 a0 5 then bnd (cSetR C7 504 a0 none) fun (C8 : Cd) =>
if isO C8 a0 5 then bnd (cSetI C8 505 a0 (-1)) fun (C9 : Cd) =>
if isO C9 a0 5 then bnd (cSetI C9 506 a0 0) fun (C10 : Cd) =>
some ((), C10)
else none
else none
else none
else none
else none
else none
else none
else none
else none
else none
def fX6_init (a0 : Nat) (C : Cd) : Option (Unit × Cd) :=
if isO C a0 9 then bnd (cSetR C 900 a0 none) fun (C1 : Cd) =>
if isO C1 a0 9 then bnd (cSetR C1 901 a0 none) fun (C2 : Cd) =>
if isO C2 a0 9 then bnd (cSetI C2 902 a0 0) fun (C3 : Cd) =>
if isO C3 a0 9 then bnd (cSetI C3 903 a0 0) fun (C4 : Cd) =>
some ((), C4)
else none
else none
else none
else none
def fX1_init (a0 : Nat) (C : Cd) : Option (Unit × Cd) :=
if 0 ≤ w32 24 ∧ w32 24 < 1000000 then bnd (cNewA C 102 (ix 24)) fun (C1 : Cd) =>
if isO C1 a0 4 then bnd (cSetR C1 400 a0 (some (csz C))) fun (C2 : Cd) =>
if 0 ≤ w32 4 ∧ w32 4 < 1000000 then bnd (cNewA C2 103 (ix 4)) fun (C3 : Cd) =>
if isO C3 a0 4 then bnd (cSetR C3 401 a0 (some (csz C2))) fun (C4 : Cd) =>
if 0 ≤ w32 41 ∧ w32 41 < 1000000 then bnd (cNewA C4 104 (ix 41)) fun (C5 : Cd) =>
if isO C5 a0 4 then bnd (cSetR C5 402 a0 (some (csz C4))) fun (C6 : Cd) =>
if 0 ≤ w32 512 ∧ w32 512 < 1000000 then bnd (cNewA C6 105 (ix 512)) fun (C7 : Cd) =>
if isO C7 a0 4 then bnd (cSetR C7 403 a0 (some (csz C6))) fun (C8 : Cd) =>
bnd (cNew C8 8) fun (C9 : Cd) =>
cal (fX5_init (csz C8) C9) fun (r11 : Unit) (C10 : Cd) =>
if isO C10 a0 4 then bnd (cSetR C10 404 a0 (some (csz C8))) fun (C12 : Cd) =>
if 0 ≤ w32 8 ∧ w32 8 < 1000000 then bnd (cNewA C12 100 (ix 8)) fun (C13 : Cd) =>
if isO C13 a0 4 then bnd (cSetR C13 405 a0 (some (csz C12))) fun (C14 : Cd) =>
if 0 ≤ w32 30 ∧ w32 30 < 1000000 then bnd (cNewA C14 100 (ix 30)) fun (C15 : Cd) =>
if isO C15 a0 4 then bnd (cSetR C15 406 a0 (some (csz C14))) fun (C16 : Cd) =>
bnd (cNew C16 7) fun (C17 : Cd) =>
cal (fX4_init (csz C16) C17) fun (r19 : Unit) (C18 : Cd) =>
if isO C18 a0 4 then bnd (cSetR C18 407 a0 (some (csz C16))) fun (C20 : Cd) =>
if isO C20 a0 4 then bnd (cSetI C20 408 a0 0) fun (C21 : Cd) =>
if isO C21 a0 4 then bnd (cSetI C21 409 a0 0) fun (C22 : Cd) =>
if isO C22 a0 4 then bnd (cSetI C22 410 a0 0) fun (C23 : Cd) =>
if isO C23 a0 4 then bnd (cSetI C23 411 a0 (-1)) fun (C24 : Cd) =>
if isO C24 a0 4 then bnd (cSetI C24 412 a0 0) fun (C25 : Cd) =>
if isO C25 a0 4 then bnd (cSetI C25 413 a0 0) fun (C26 : Cd) =>
if isO C26 a0 4 then bnd (cSetI C26 414 a0 (-1)) fun (C27 : Cd) =>
bnd (lpn (fun (_ : Int) (_ : Cd) => (none : Option (Unit × Cd))) (fun L115 (v1_115 : Int) (C_115 : Cd) =>
if isO C_115 a0 4 then bnd (cR C_115 400 a0) fun (z28 : Option Nat) =>
drf z28 fun (p29 : Nat) =>
if isO C_115 p29 102 then
if w32 (cn C_115 p29 : Int) ≤ w32 v1_115 then
bnd (lpn (fun (_ : Int) (_ : Cd) => (none : Option (Unit × Cd))) (fun L145 (v1_145 : Int) (C_145 : Cd) =>
if isO C_145 a0 4 then bnd (cR C_145 401 a0) fun (z30 : Option Nat) =>
drf z30 fun (p31 : Nat) =>
if isO C_145 p31 103 then
if w32 (cn C_145 p31 : Int) ≤ w32 v1_145 then
bnd (lpn (fun (_ : Int) (_ : Cd) => (none : Option (Unit × Cd))) (fun L175 (v1_175 : Int) (C_175 : Cd) =>
if isO C_175 a0 4 then bnd (cR C_175 402 a0) fun (z32 : Option Nat) =>
drf z32 fun (p33 : Nat) =>
if isO C_175 p33 104 then
if w32 (cn C_175 p33 : Int) ≤ w32 v1_175 then
bnd (lpn (fun (_ : Int) (_ : Cd) => (none : Option (Unit × Cd))) (fun L205 (v1_205 : Int) (C_205 : Cd) =>
if isO C_205 a0 4 then bnd (cR C_205 403 a0) fun (z34 : Option Nat) =>
drf z34 fun (p35 : Nat) =>
if isO C_205 p35 105 then
if w32 (cn C_205 p35 : Int) ≤ w32 v1_205 then
some ((), C_205)
else
if isO C_205 a0 4 then bnd (cR C_205 403 a0) fun (z36 : Option Nat) =>
bnd (cNew C_205 9) fun (C37 : Cd) =>
cal (fX6_init (csz C_205) C37) fun (r39 : Unit) (C38 : Cd) =>
drf z36 fun (p40 : Nat) =>
if (isO C38 p40 105 ∧ inR v1_205 (cn C38 p40)) ∧ isO C38 (csz C_205) 9 then bnd (cSetP C38 p40 (ix v1_205) (some (csz C_205))) fun (C41 : Cd) =>
L205 (v1_205 + 1) C41
else none
else none
else none
else none) FU) fun J205 =>
J205 0 C_175
else
if isO C_175 a0 4 then bnd (cR C_175 402 a0) fun (z42 : Option Nat) =>
bnd (cNew C_175 5) fun (C43 : Cd) =>
cal (fX2_init (csz C_175) C43) fun (r45 : Unit) (C44 : Cd) =>
drf z42 fun (p46 : Nat) =>
if (isO C44 p46 104 ∧ inR v1_175 (cn C44 p46)) ∧ isO C44 (csz C_175) 5 then bnd (cSetP C44 p46 (ix v1_175) (some (csz C_175))) fun (C47 : Cd) =>
L175 (v1_175 + 1) C47
else none
else none
else none
else none) FU) fun J175 =>
J175 0 C_145
else
if isO C_145 a0 4 then bnd (cR C_145 401 a0) fun (z48 : Option Nat) =>
bnd (cNew C_145 10) fun (C49 : Cd) =>
cal (fX7_init (csz C_145) C49) fun (r51 : Unit) (C50 : Cd) =>
drf z48 fun (p52 : Nat) =>
if (isO C50 p52 103 ∧ inR v1_145 (cn C50 p52)) ∧ isO C50 (csz C_145) 10 then bnd (cSetP C50 p52 (ix v1_145) (some (csz C_145))) fun (C53 : Cd) =>
L145 (v1_145 + 1) C53
else none
else none
else none
else none) FU) fun J145 =>
J145 0 C_115
else
if isO C_115 a0 4 then bnd (cR C_115 400 a0) fun (z54 : Option Nat) =>
bnd (cNew C_115 12) fun (C55 : Cd) =>
cal (fX9_init (csz C_115) C55) fun (r57 : Unit) (C56 : Cd) =>
drf z54 fun (p58 : Nat) =>
if (isO C56 p58 102 ∧ inR v1_115 (cn C56 p58)) ∧ isO C56 (csz C_115) 12 then bnd (cSetP C56 p58 (ix v1_115) (some (csz C_115))) fun (C59 : Cd) =>
L115 (v1_115 + 1) C59
else none
else none
else none
else none) FU) fun J115 =>
J115 0 C27
else none
else none
else none
else none
else none
else none
else none
else none
else none
else none
else none
else none
else none
else none
else none
else none
else none
else none
else none
else none
else none
def fX3_indexOf (a0 : Nat) (a1 : Int) (C : Cd) : Option (Int × Cd) :=
bnd (lpn (fun (_ : Int) (_ : Cd) => (none : Option (Int × Cd))) (fun L2 (v2_2 : Int) (C_2 : Cd) =>
if isO C_2 a0 6 then bnd (cR C_2 600 a0) fun (z1 : Option Nat) =>
drf z1 fun (p2 : Nat) =>
if isO C_2 p2 2 then cal (fAL_size p2 C_2) fun (r4 : Int) (C3 : Cd) =>
if w32 r4 ≤ w32 v2_2 then
some ((-1), C3)
else
if isO C3 a0 6 then bnd (cR C3 600 a0) fun (z5 : Option Nat) =>
drf z5 fun (p6 : Nat) =>
if isO C3 p6 2 then cal (fAL_get p6 v2_2 C3) fun (r8 : Option Nat) (C7 : Cd) =>
if okc C7 r8 13 = true then
drf r8 fun (p9 : Nat) =>
if isO C7 p9 13 then
if ¬ w32 (cI C7 1300 p9) = w32 a1 then
L2 (v2_2 + 1) C7
else
some (v2_2, C7)
else none
else none
else none
else none
else none
else none) FU) fun J2 =>
J2 0 C
def fX3_init (a0 : Nat) (a1 : Option Nat) (C : Cd) : Option (Unit × Cd) :=
bnd (cNew C 2) fun (C1 : Cd) =>
cal (fAL_init (csz C) C1) fun (r3 : Unit) (C2 : Cd) =>
if isO C2 a0 6 then bnd (cSetR C2 600 a0 (some (csz C))) fun (C4 : Cd) =>
if isO C4 a0 6 then bnd (cSetR C4 602 a0 none) fun (C5 : Cd) =>
if isO C5 a0 6 then bnd (cSetR C5 601 a0 a1) fun (C6 : Cd) =>
if isO C6 a0 6 then bnd (cR C6 600 a0) fun (z7 : Option Nat) =>
drf z7 fun (p8 : Nat) =>
if isO C6 p8 2 then cal (fAL_add p8 a1 C6) fun (r10 : Int) (C9 : Cd) =>
some ((), C9)
else none
else none
else none
else none
else none
def fX3_put (a0 : Nat) (a1 : Option Nat) (C : Cd) : Option (Unit × Cd) :=
if isO C a0 6 then bnd (cR C 600 a0) fun (z1 : Option Nat) =>
drf z1 fun (p2 : Nat) =>
if isO C p2 2 then cal (fAL_size p2 C) fun (r4 : Int) (C3 : Cd) =>
bnd (lpn (fun (_ : Int) (_ : Cd) => (none : Option (Unit × Cd))) (fun L8 (v2_8 : Int) (C_8 : Cd) =>
bnd (fun  (C_41 : Cd) =>
if isO C_41 a0 6 then bnd (cR C_41 600 a0) fun (z5 : Option Nat) =>
drf z5 fun (p6 : Nat) =>
if isO C_41 p6 2 then cal (fAL_size p6 C_41) fun (r8 : Int) (C7 : Cd) =>
bnd (fun  (C_57 : Cd) =>
if isO C_57 a0 6 then bnd (cR C_57 600 a0) fun (z9 : Option Nat) =>
drf z9 fun (p10 : Nat) =>
if isO C_57 p10 2 then cal (fAL_addAt p10 v2_8 a1 C_57) fun (r12 : Unit) (C11 : Cd) =>
some ((), C11)
else none
else none) fun J57 =>
if ¬ w32 v2_8 = w32 r8 then
J57 C7
else
if isO C7 a0 6 then bnd (cSetR C7 601 a0 a1) fun (C13 : Cd) =>
J57 C13
else none
else none
else none) fun J41 =>
if w32 v2_8 ≤ 0 then
J41 C_8
else
if isO C_8 a0 6 then bnd (cR C_8 600 a0) fun (z14 : Option Nat) =>
drf z14 fun (p15 : Nat) =>
if isO C_8 p15 2 then cal (fAL_get p15 (v2_8 - 1) C_8) fun (r17 : Option Nat) (C16 : Cd) =>
if okc C16 r17 13 = true then
drf r17 fun (p18 : Nat) =>
if isO C16 p18 13 then
drf a1 fun (p19 : Nat) =>
if isO C16 p19 13 then
if w32 (cI C16 1301 p18) ≤ w32 (cI C16 1301 p19) then
J41 C16
else
L8 (v2_8 + (-1)) C16
else none
else none
else none
else none
else none) FU) fun J8 =>
J8 r4 C3
else none
else none
def fX3_versionAtIndex (a0 : Nat) (a1 : Int) (C : Cd) : Option (Option Nat × Cd) :=
bnd (fun (t0_30 : Option Nat) (C_30 : Cd) =>
some (t0_30, C_30)) fun J30 =>
bnd (fun  (C_29 : Cd) =>
J30 none C_29) fun J29 =>
if w32 a1 < 0 then
J29 C
else
if isO C a0 6 then bnd (cR C 600 a0) fun (z1 : Option Nat) =>
drf z1 fun (p2 : Nat) =>
if isO C p2 2 then cal (fAL_size p2 C) fun (r4 : Int) (C3 : Cd) =>
if w32 r4 ≤ w32 a1 then
J29 C3
else
if isO C3 a0 6 then bnd (cR C3 600 a0) fun (z5 : Option Nat) =>
drf z5 fun (p6 : Nat) =>
if isO C3 p6 2 then cal (fAL_get p6 a1 C3) fun (r8 : Option Nat) (C7 : Cd) =>
if okc C7 r8 13 = true then
J30 r8 C7
else none
else none
else none
else none
else none
def fX4_take (a0 : Nat) (a1 : Option Nat) (C : Cd) : Option (Unit × Cd) :=
if isO C a0 7 then bnd (cR C 700 a0) fun (z1 : Option Nat) =>
drf z1 fun (p2 : Nat) =>
if isO C p2 8 then cal (fX5_clear p2 C) fun (r4 : Unit) (C3 : Cd) =>
if isO C3 a0 7 then bnd (cR C3 700 a0) fun (z5 : Option Nat) =>
drf a1 fun (p6 : Nat) =>
if isO C3 p6 7 then bnd (cR C3 700 p6) fun (z7 : Option Nat) =>
drf z5 fun (p8 : Nat) =>
if isO C3 p8 8 then cal (fX5_addAll p8 z7 C3) fun (r10 : Unit) (C9 : Cd) =>
if isO C9 a0 7 then bnd (cSetI C9 701 a0 1) fun (C11 : Cd) =>
if isO C11 a0 7 then bnd (cSetI C11 702 a0 0) fun (C12 : Cd) =>
if isO C12 p6 7 then
if isO C12 a0 7 then bnd (cSetI C12 703 a0 (cI C12 703 p6)) fun (C13 : Cd) =>
if isO C13 p6 7 then
if isO C13 a0 7 then bnd (cSetI C13 704 a0 (cI C13 704 p6)) fun (C14 : Cd) =>
if isO C14 p6 7 then
if isO C14 a0 7 then bnd (cSetI C14 705 a0 (cI C14 705 p6)) fun (C15 : Cd) =>
if isO C15 p6 7 then
if isO C15 a0 7 then bnd (cSetI C15 706 a0 (cI C15 706 p6)) fun (C16 : Cd) =>
if isO C16 p6 7 then
if isO C16 a0 7 then bnd (cSetI C16 707 a0 (cI C16 707 p6)) fun (C17 : Cd) =>
some ((), C17)
else none
else none
else none
else none
else none
else none
else none
else none
else none
else none
else none
else none
else none
else none
else none
else none
else none
def fX7_add (a0 : Nat) (a1 : Int) (a2 : Int) (C : Cd) : Option (Unit × Cd) :=
if isO C a0 10 then
bnd (fun  (C_39 : Cd) =>
some ((), C_39)) fun J39 =>
if w32 16 ≤ w32 (cI C 1002 a0) then
J39 C
else
if isO C a0 10 then bnd (cR C 1000 a0) fun (z1 : Option Nat) =>
if isO C a0 10 then
drf z1 fun (p2 : Nat) =>
if isO C p2 100 ∧ inR (cI C 1002 a0) (cn C p2) then bnd (cSetE C p2 (ix (cI C 1002 a0)) a1) fun (C3 : Cd) =>
if isO C3 a0 10 then bnd (cR C3 1001 a0) fun (z4 : Option Nat) =>
if isO C3 a0 10 then
drf z4 fun (p5 : Nat) =>
if isO C3 p5 100 ∧ inR (cI C3 1002 a0) (cn C3 p5) then bnd (cSetE C3 p5 (ix (cI C3 1002 a0)) a2) fun (C6 : Cd) =>
if isO C6 a0 10 then
if isO C6 a0 10 then bnd (cSetI C6 1002 a0 ((cI C6 1002 a0) + 1)) fun (C7 : Cd) =>
J39 C7
else none
else none
else none
else none
else none
else none
else none
else none
else none
def fX8_add (a0 : Nat) (a1 : Int) (C : Cd) : Option (Unit × Cd) :=
if isO C a0 11 then
if isO C a0 11 then bnd (cR C 1100 a0) fun (z1 : Option Nat) =>
drf z1 fun (p2 : Nat) =>
if isO C p2 100 then
bnd (fun  (C_32 : Cd) =>
some ((), C_32)) fun J32 =>
if w32 (cn C p2 : Int) ≤ w32 (cI C 1102 a0) then
J32 C
else
if isO C a0 11 then bnd (cR C 1100 a0) fun (z3 : Option Nat) =>
if isO C a0 11 then
drf z3 fun (p4 : Nat) =>
if isO C p4 100 ∧ inR (cI C 1102 a0) (cn C p4) then bnd (cSetE C p4 (ix (cI C 1102 a0)) a1) fun (C5 : Cd) =>
if isO C5 a0 11 then
if isO C5 a0 11 then bnd (cSetI C5 1102 a0 ((cI C5 1102 a0) + 1)) fun (C6 : Cd) =>
J32 C6
else none
else none
else none
else none
else none
else none
else none
else none
def fX8_sectionStart (a0 : Nat) (a1 : Int) (C : Cd) : Option (Int × Cd) :=
if 0 < w32 a1 then
bnd (lpn (fun (_ : Int) (_ : Int) (_ : Cd) => (none : Option (Int × Cd))) (fun L10 (v2_10 : Int) (v3_10 : Int) (C_10 : Cd) =>
if isO C_10 a0 11 then
if w32 (cI C_10 1102 a0) ≤ w32 v3_10 then
if isO C_10 a0 11 then
some (cI C_10 1102 a0, C_10)
else none
else
if isO C_10 a0 11 then cal (fX8_kindAt a0 v3_10 C_10) fun (r2 : Int) (C1 : Cd) =>
bnd (fun (v2_38 : Int) (C_38 : Cd) =>
L10 v2_38 (v3_10 + 1) C_38) fun J38 =>
if ¬ w32 r2 = w32 13 then
J38 v2_10 C1
else
if ¬ w32 (v2_10 + 1) = w32 a1 then
J38 (v2_10 + 1) C1
else
some (v3_10, C1)
else none
else none) FU) fun J10 =>
J10 0 0 C
else
some (0, C)
def fX8_codeAt (a0 : Nat) (a1 : Int) (C : Cd) : Option (Int × Cd) :=
bnd (fun (t0_22 : Int) (C_22 : Cd) =>
some (t0_22, C_22)) fun J22 =>
bnd (fun  (C_21 : Cd) =>
J22 (-1) C_21) fun J21 =>
if w32 a1 < 0 then
J21 C
else
if isO C a0 11 then
if w32 (cI C 1102 a0) ≤ w32 a1 then
J21 C
else
if isO C a0 11 then bnd (cR C 1100 a0) fun (z1 : Option Nat) =>
drf z1 fun (p2 : Nat) =>
if isO C p2 100 ∧ inR a1 (cn C p2) then
J22 (cE C p2 (ix a1)) C
else none
else none
else none
def fX8_addStretch (a0 : Nat) (a1 : Option Nat) (a2 : Int) (a3 : Int) (C : Cd) : Option (Unit × Cd) :=
bnd (lpn (fun (_ : Int) (_ : Cd) => (none : Option (Unit × Cd))) (fun L3 (v4_3 : Int) (C_3 : Cd) =>
if w32 a3 ≤ w32 v4_3 then
some ((), C_3)
else
drf a1 fun (p1 : Nat) =>
if isO C_3 p1 11 then cal (fX8_codeAt p1 v4_3 C_3) fun (r3 : Int) (C2 : Cd) =>
if isO C2 a0 11 then cal (fX8_add a0 r3 C2) fun (r5 : Unit) (C4 : Cd) =>
L3 (v4_3 + 1) C4
else none
else none) FU) fun J3 =>
J3 a2 C
def fX8_addSection (a0 : Nat) (a1 : Option Nat) (a2 : Int) (C : Cd) : Option (Unit × Cd) :=
drf a1 fun (p1 : Nat) =>
if isO C p1 11 then cal (fX8_sectionStart p1 a2 C) fun (r3 : Int) (C2 : Cd) =>
if isO C2 p1 11 then cal (fX8_sectionStart p1 (a2 + 1) C2) fun (r5 : Int) (C4 : Cd) =>
if isO C4 a0 11 then cal (fX8_addStretch a0 (some p1) r3 r5 C4) fun (r7 : Unit) (C6 : Cd) =>
some ((), C6)
else none
else none
else none
def fX8_clear (a0 : Nat) (C : Cd) : Option (Unit × Cd) :=
if isO C a0 11 then bnd (cSetI C 1102 a0 0) fun (C1 : Cd) =>
some ((), C1)
else none
def fX8_opens (a0 : Int) (C : Cd) : Option (Int × Cd) :=
bnd (fun (t0_38 : Int) (C_38 : Cd) =>
retZ t0_38 C_38) fun J38 =>
bnd (fun  (C_33 : Cd) =>
J38 1 C_33) fun J33 =>
if w32 a0 = w32 2 then
J33 C
else
if w32 a0 = w32 3 then
J33 C
else
if w32 a0 = w32 4 then
J33 C
else
if w32 a0 = w32 8 then
J33 C
else
if w32 a0 = w32 9 then
J33 C
else
if ¬ w32 a0 = w32 10 then
J38 0 C
else
J33 C
def fX8_findEnd (a0 : Nat) (a1 : Int) (C : Cd) : Option (Int × Cd) :=
if isO C a0 11 then cal (fX8_startsPart a0 a1 C) fun (r2 : Int) (C1 : Cd) =>
bnd (a1 + 1) fun (x4_11 : Int) =>
bnd (lpn (fun (_ : Int) (_ : Int) (_ : Cd) => (none : Option (Int × Cd))) (fun L13 (v3_13 : Int) (v4_13 : Int) (C_13 : Cd) =>
if isO C_13 a0 11 then
if w32 (cI C_13 1102 a0) ≤ w32 v4_13 then
if isO C_13 a0 11 then
some (cI C_13 1102 a0, C_13)
else none
else
if isO C_13 a0 11 then cal (fX8_kindAt a0 v4_13 C_13) fun (r4 : Int) (C3 : Cd) =>
bnd (fun  (C_57 : Cd) =>
cal (fX8_opens r4 C_57) fun (r6 : Int) (C5 : Cd) =>
bnd (fun (v3_81 : Int) (C_81 : Cd) =>
L13 v3_81 (v4_13 + 1) C_81) fun J81 =>
if w32 r6 = 0 then
if ¬ w32 r4 = w32 7 then
J81 v3_13 C5
else
J81 (v3_13 + (-1)) C5
else
J81 (v3_13 + 1) C5) fun J57 =>
if ¬ w32 v3_13 = 0 then
J57 C3
else
bnd (fun  (C_54 : Cd) =>
some (v4_13, C_54)) fun J54 =>
if w32 r4 = w32 7 then
J54 C3
else
if w32 r2 = 0 then
J57 C3
else
if isO C3 a0 11 then cal (fX8_startsPart a0 v4_13 C3) fun (r8 : Int) (C7 : Cd) =>
if w32 r8 = 0 then
J57 C7
else
J54 C7
else none
else none
else none) FU) fun J13 =>
J13 0 x4_11 C1
else none
def fX8_fits (a0 : Nat) (a1 : Int) (a2 : Int) (a3 : Int) (C : Cd) : Option (Int × Cd) :=
if ¬ w32 a2 = w32 10 then
bnd (fun (t0_37 : Int) (C_37 : Cd) =>
bnd (fun  (C_142 : Cd) =>
bnd (fun (t0_156 : Int) (C_156 : Cd) =>
retZ t0_156 C_156) fun J156 =>
bnd (fun  (C_151 : Cd) =>
J156 1 C_151) fun J151 =>
if w32 t0_37 = 0 then
J151 C_142
else
if ¬ w32 a3 = 0 then
J156 0 C_142
else
J151 C_142) fun J142 =>
if w32 a1 = 5 then
retZ t0_37 C_37
else
if w32 a1 = 6 then
bnd (fun (t0_105 : Int) (C_105 : Cd) =>
retZ t0_105 C_105) fun J105 =>
if ¬ w32 a2 = w32 2 then
J105 0 C_37
else
J105 1 C_37
else
if w32 a1 = 7 then
bnd (fun (t0_116 : Int) (C_116 : Cd) =>
retZ t0_116 C_116) fun J116 =>
if w32 a2 = w32 (-1) then
J116 0 C_37
else
J116 1 C_37
else
if w32 a1 = 8 then
J142 C_37
else
if w32 a1 = 9 then
J142 C_37
else
if w32 a1 = 10 then
J142 C_37
else
if w32 a1 = 11 then
J142 C_37
else
if w32 a1 = 12 then
if isO C_37 a0 11 then
bnd (fun (t0_141 : Int) (C_141 : Cd) =>
retZ t0_141 C_141) fun J141 =>
if ¬ w32 (cI C_37 1102 a0) = w32 1 then
J141 0 C_37
else
J141 1 C_37
else none
else
if w32 a1 = 13 then
bnd (fun (t0_127 : Int) (C_127 : Cd) =>
retZ t0_127 C_127) fun J127 =>
if ¬ w32 a2 = w32 (-1) then
J127 0 C_37
else
J127 1 C_37
else
J142 C_37) fun J37 =>
bnd (fun  (C_32 : Cd) =>
J37 1 C_32) fun J32 =>
if w32 a2 = w32 2 then
J32 C
else
if ¬ w32 a2 = w32 4 then
J37 0 C
else
J32 C
else
bnd (fun (t0_21 : Int) (C_21 : Cd) =>
retZ t0_21 C_21) fun J21 =>
bnd (fun  (C_16 : Cd) =>
J21 1 C_16) fun J16 =>
if w32 a1 = 0 then
J16 C
else
if ¬ w32 a1 = w32 7 then
J21 0 C
else
J16 C
def fX8_init (a0 : Nat) (a1 : Int) (C : Cd) : Option (Unit × Cd) :=
if isO C a0 11 then bnd (cSetI C 1102 a0 0) fun (C1 : Cd) =>
bnd (fun (t0_19 : Int) (C_19 : Cd) =>
if 0 ≤ w32 t0_19 ∧ w32 t0_19 < 1000000 then bnd (cNewA C_19 100 (ix t0_19)) fun (C2 : Cd) =>
if isO C2 a0 11 then bnd (cSetR C2 1100 a0 (some (csz C_19))) fun (C3 : Cd) =>
if isO C3 a0 11 then bnd (cR C3 1100 a0) fun (z4 : Option Nat) =>
drf z4 fun (p5 : Nat) =>
if isO C3 p5 100 then
if 0 ≤ w32 (cn C3 p5 : Int) ∧ w32 (cn C3 p5 : Int) < 1000000 then bnd (cNewA C3 100 (ix (cn C3 p5 : Int))) fun (C6 : Cd) =>
if isO C6 a0 11 then bnd (cSetR C6 1101 a0 (some (csz C3))) fun (C7 : Cd) =>
some ((), C7)
else none
else none
else none
else none
else none
else none) fun J19 =>
if 0 ≤ w32 a1 then
J19 a1 C1
else
J19 0 C1
else none
def fX8_isText (a0 : Nat) (C : Cd) : Option (Int × Cd) :=
if isO C a0 11 then
bnd (fun  (C_17 : Cd) =>
some (0, C_17)) fun J17 =>
if w32 (cI C 1102 a0) < w32 1 then
J17 C
else
if isO C a0 11 then
if w32 (cI C 1102 a0) ≤ w32 30 then
if 0 ≤ w32 31 ∧ w32 31 < 1000000 then bnd (cNewA C 100 (ix 31)) fun (C1 : Cd) =>
if isO C1 (csz C) 100 ∧ inR 0 (cn C1 (csz C)) then bnd (cSetE C1 (csz C) (ix 0) (-1)) fun (C2 : Cd) =>
bnd (lpn (fun (_ : Int) (_ : Int) (_ : Cd) => (none : Option (Int × Cd))) (fun L32 (v2_32 : Int) (v3_32 : Int) (C_32 : Cd) =>
if isO C_32 a0 11 then
if w32 (cI C_32 1102 a0) ≤ w32 v3_32 then
bnd (fun (t0_141 : Int) (C_141 : Cd) =>
retZ t0_141 C_141) fun J141 =>
if ¬ w32 v2_32 = 0 then
J141 0 C_32
else
J141 1 C_32
else
if isO C_32 a0 11 then cal (fX8_kindAt a0 v3_32 C_32) fun (r4 : Int) (C3 : Cd) =>
bnd (fun (t0_69 : Int) (C_69 : Cd) =>
if isO C_69 (csz C) 100 ∧ inR v2_32 (cn C_69 (csz C)) then
if isO C_69 a0 11 then cal (fX8_fits a0 r4 (cE C_69 (csz C) (ix v2_32)) t0_69 C_69) fun (r6 : Int) (C5 : Cd) =>
if ¬ w32 r6 = 0 then
cal (fX8_opens r4 C5) fun (r8 : Int) (C7 : Cd) =>
bnd (fun (v2_126 : Int) (C_126 : Cd) =>
L32 v2_126 (v3_32 + 1) C_126) fun J126 =>
bnd (fun  (C_112 : Cd) =>
if ¬ w32 r4 = w32 7 then
J126 v2_32 C_112
else
if w32 v2_32 ≤ 0 then
J126 v2_32 C_112
else
J126 (v2_32 + (-1)) C_112) fun J112 =>
if w32 r8 = 0 then
J112 C7
else
if w32 30 ≤ w32 v2_32 then
J112 C7
else
if isO C7 (csz C) 100 ∧ inR (v2_32 + 1) (cn C7 (csz C)) then bnd (cSetE C7 (csz C) (ix (v2_32 + 1)) r4) fun (C9 : Cd) =>
J126 (v2_32 + 1) C9
else none
else
some (0, C5)
else none
else none) fun J69 =>
bnd (fun  (C_68 : Cd) =>
J69 0 C_68) fun J68 =>
if w32 v3_32 ≤ 0 then
J68 C3
else
if isO C3 a0 11 then cal (fX8_kindAt a0 (v3_32 - 1) C3) fun (r11 : Int) (C10 : Cd) =>
cal (fX8_opens r11 C10) fun (r13 : Int) (C12 : Cd) =>
if w32 r13 = 0 then
J68 C12
else
J69 1 C12
else none
else none
else none) FU) fun J32 =>
J32 0 0 C2
else none
else none
else
J17 C
else none
else none
def fX8_leadsInto (a0 : Nat) (a1 : Int) (a2 : Int) (C : Cd) : Option (Int × Cd) :=
if isO C a0 11 then cal (fX8_kindAt a0 a1 C) fun (r2 : Int) (C1 : Cd) =>
bnd (fun (t0_39 : Int) (C_39 : Cd) =>
retZ t0_39 C_39) fun J39 =>
bnd (fun  (C_38 : Cd) =>
J39 0 C_38) fun J38 =>
bnd (fun  (C_22 : Cd) =>
if isO C_22 a0 11 then cal (fX8_valueAt a0 a1 C_22) fun (r4 : Int) (C3 : Cd) =>
cal (fX11_has a2 r4 C3) fun (r6 : Int) (C5 : Cd) =>
if w32 r6 = 0 then
J38 C5
else
J39 1 C5
else none) fun J22 =>
if w32 r2 = w32 1 then
J22 C1
else
if w32 r2 = w32 2 then
J22 C1
else
if ¬ w32 r2 = w32 12 then
J38 C1
else
J22 C1
else none
def fX8_leadsInto_ (a0 : Nat) (a1 : Int) (C : Cd) : Option (Int × Cd) :=
bnd (lpn (fun (_ : Int) (_ : Cd) => (none : Option (Int × Cd))) (fun L2 (v2_2 : Int) (C_2 : Cd) =>
if isO C_2 a0 11 then
if w32 (cI C_2 1102 a0) ≤ w32 v2_2 then
some (0, C_2)
else
if isO C_2 a0 11 then cal (fX8_leadsInto a0 v2_2 a1 C_2) fun (r2 : Int) (C1 : Cd) =>
if w32 r2 = 0 then
L2 (v2_2 + 1) C1
else
some (1, C1)
else none
else none) FU) fun J2 =>
J2 0 C
def fX8_sameAs (a0 : Nat) (a1 : Option Nat) (C : Cd) : Option (Int × Cd) :=
drf a1 fun (p1 : Nat) =>
if isO C p1 11 then
if isO C a0 11 then
if w32 (cI C 1102 p1) = w32 (cI C 1102 a0) then
bnd (lpn (fun (_ : Int) (_ : Cd) => (none : Option (Int × Cd))) (fun L15 (v2_15 : Int) (C_15 : Cd) =>
if isO C_15 a0 11 then
if w32 (cI C_15 1102 a0) ≤ w32 v2_15 then
some (1, C_15)
else
if isO C_15 a0 11 then cal (fX8_codeAt a0 v2_15 C_15) fun (r3 : Int) (C2 : Cd) =>
if isO C2 p1 11 then cal (fX8_codeAt p1 v2_15 C2) fun (r5 : Int) (C4 : Cd) =>
if w32 r3 = w32 r5 then
L15 (v2_15 + 1) C4
else
some (0, C4)
else none
else none
else none) FU) fun J15 =>
J15 0 C
else
some (0, C)
else none
else none
def fX8_sameSection (a0 : Nat) (a1 : Option Nat) (a2 : Int) (C : Cd) : Option (Int × Cd) :=
if isO C a0 11 then cal (fX8_sectionStart a0 a2 C) fun (r2 : Int) (C1 : Cd) =>
if isO C1 a0 11 then cal (fX8_sectionStart a0 (a2 + 1) C1) fun (r4 : Int) (C3 : Cd) =>
bnd (r4 - r2) fun (x4_15 : Int) =>
drf a1 fun (p5 : Nat) =>
if isO C3 p5 11 then cal (fX8_sectionStart p5 a2 C3) fun (r7 : Int) (C6 : Cd) =>
if isO C6 p5 11 then cal (fX8_sectionStart p5 (a2 + 1) C6) fun (r9 : Int) (C8 : Cd) =>
if w32 (r9 - r7) = w32 x4_15 then
bnd (lpn (fun (_ : Int) (_ : Cd) => (none : Option (Int × Cd))) (fun L44 (v6_44 : Int) (C_44 : Cd) =>
if w32 x4_15 ≤ w32 v6_44 then
some (1, C_44)
else
if isO C_44 a0 11 then cal (fX8_codeAt a0 (r2 + v6_44) C_44) fun (r11 : Int) (C10 : Cd) =>
if isO C10 p5 11 then cal (fX8_codeAt p5 (r7 + v6_44) C10) fun (r13 : Int) (C12 : Cd) =>
if w32 r11 = w32 r13 then
L44 (v6_44 + 1) C12
else
some (0, C12)
else none
else none) FU) fun J44 =>
J44 0 C8
else
some (0, C8)
else none
else none
else none
else none
def fX8_sections (a0 : Nat) (C : Cd) : Option (Int × Cd) :=
bnd (lpn (fun (_ : Int) (_ : Int) (_ : Cd) => (none : Option (Int × Cd))) (fun L4 (v1_4 : Int) (v2_4 : Int) (C_4 : Cd) =>
if isO C_4 a0 11 then
if w32 (cI C_4 1102 a0) ≤ w32 v2_4 then
some (v1_4, C_4)
else
if isO C_4 a0 11 then cal (fX8_kindAt a0 v2_4 C_4) fun (r2 : Int) (C1 : Cd) =>
bnd (fun (v1_25 : Int) (C_25 : Cd) =>
L4 v1_25 (v2_4 + 1) C_25) fun J25 =>
if ¬ w32 r2 = w32 13 then
J25 v1_4 C1
else
J25 (v1_4 + 1) C1
else none
else none) FU) fun J4 =>
J4 1 0 C
def fX8_settled (a0 : Nat) (C : Cd) : Option (Option Nat × Cd) :=
bnd (cNew C 11) fun (C1 : Cd) =>
if isO C1 a0 11 then
cal (fX8_init (csz C) (cI C1 1102 a0) C1) fun (r3 : Unit) (C2 : Cd) =>
if isO C2 a0 11 then
if isO C2 (csz C) 11 then cal (fX8_addStretch (csz C) (some a0) 0 (cI C2 1102 a0) C2) fun (r5 : Unit) (C4 : Cd) =>
bnd (lpn (fun (_ : Int) (_ : Cd) => (none : Option (Option Nat × Cd))) (fun L24 (v2_24 : Int) (C_24 : Cd) =>
if isO C_24 (csz C) 11 then bnd (cR C_24 1101 (csz C)) fun (z6 : Option Nat) =>
drf z6 fun (p7 : Nat) =>
if isO C_24 p7 100 then
if w32 (cn C_24 p7 : Int) ≤ w32 v2_24 then
some ((some (csz C)), C_24)
else
if isO C_24 (csz C) 11 then bnd (cR C_24 1101 (csz C)) fun (z8 : Option Nat) =>
if isO C_24 (csz C) 11 then cal (fX8_findEnd (csz C) v2_24 C_24) fun (r10 : Int) (C9 : Cd) =>
drf z8 fun (p11 : Nat) =>
if isO C9 p11 100 ∧ inR v2_24 (cn C9 p11) then bnd (cSetE C9 p11 (ix v2_24) r10) fun (C12 : Cd) =>
L24 (v2_24 + 1) C12
else none
else none
else none
else none
else none) FU) fun J24 =>
J24 0 C4
else none
else none
else none
def fX8_writeLeadingOn (a0 : Nat) (a1 : Int) (a2 : Int) (a3 : Option Nat) (C : Cd) : Option (Unit × Cd) :=
drf a3 fun (p1 : Nat) =>
if isO C p1 11 then cal (fX8_clear p1 C) fun (r3 : Unit) (C2 : Cd) =>
bnd (lpn (fun (_ : Int) (_ : Cd) => (none : Option (Unit × Cd))) (fun L7 (v4_7 : Int) (C_7 : Cd) =>
if isO C_7 a0 11 then
if w32 (cI C_7 1102 a0) ≤ w32 v4_7 then
some ((), C_7)
else
if isO C_7 a0 11 then cal (fX8_leadsInto a0 v4_7 a1 C_7) fun (r5 : Int) (C4 : Cd) =>
bnd (fun (t0_44 : Int) (C_44 : Cd) =>
if isO C_44 p1 11 then cal (fX8_add p1 t0_44 C_44) fun (r7 : Unit) (C6 : Cd) =>
L7 (v4_7 + 1) C6
else none) fun J44 =>
if w32 r5 = 0 then
if isO C4 a0 11 then cal (fX8_codeAt a0 v4_7 C4) fun (r9 : Int) (C8 : Cd) =>
J44 r9 C8
else none
else
if isO C4 a0 11 then cal (fX8_codeAt a0 v4_7 C4) fun (r11 : Int) (C10 : Cd) =>
J44 (r11 + a2) C10
else none
else none
else none) FU) fun J7 =>
J7 0 C2
else none
def fX9_waits (a0 : Nat) (C : Cd) : Option (Int × Cd) :=
if isO C a0 12 then bnd (cR C 1203 a0) fun (z1 : Option Nat) =>
bnd (fun (t0_32 : Int) (C_32 : Cd) =>
retZ t0_32 C_32) fun J32 =>
bnd (fun  (C_31 : Cd) =>
J32 0 C_31) fun J31 =>
opt z1 (
J31 C) (fun (p2 : Nat) =>
if isO C a0 12 then bnd (cR C 1200 a0) fun (z3 : Option Nat) =>
drf z3 fun (p4 : Nat) =>
if isO C p4 7 then
bnd (fun  (C_27 : Cd) =>
J32 1 C_27) fun J27 =>
if w32 (cI C 701 p4) = 0 then
J27 C
else
if isO C a0 12 then bnd (cR C 1200 a0) fun (z5 : Option Nat) =>
drf z5 fun (p6 : Nat) =>
if isO C p6 7 then
if w32 (cI C 702 p6) = 0 then
J31 C
else
J27 C
else none
else none
else none
else none)
else none
def fX10_init (a0 : Nat) (a1 : Int) (a2 : Int) (a3 : Option Nat) (C : Cd) : Option (Unit × Cd) :=
if isO C a0 13 then bnd (cSetI C 1300 a0 a1) fun (C1 : Cd) =>
if isO C1 a0 13 then bnd (cSetI C1 1301 a0 a2) fun (C2 : Cd) =>
if isO C2 a0 13 then bnd (cSetR C2 1302 a0 a3) fun (C3 : Cd) =>
some ((), C3)
else none
else none
else none
def fX11_act (a0 : Nat) (a1 : Int) (C : Cd) : Option ((Int ⊕ Nat) × Cd) :=
bnd (fun  (C_9 : Cd) =>
some (.inr 0, cBump C_9)) fun J9 =>
if w32 a1 < 0 then
J9 C
else
if w32 a1 ≤ w32 2 then
if isO C a0 14 then
bnd (cI C 1409 a0) fun (x2_23 : Int) =>
if isO C a0 14 then bnd (cSetI C 1409 a0 a1) fun (C1 : Cd) =>
some (.inl x2_23, C1)
else none
else none
else
J9 C
def fX11_makeVersion (a0 : Nat) (a1 : Option Nat) (a2 : Int) (C : Cd) : Option (Option Nat × Cd) :=
bnd (cNew C 13) fun (C1 : Cd) =>
if isO C1 a0 14 then
drf a1 fun (p2 : Nat) =>
if isO C1 p2 11 then cal (fX8_settled p2 C1) fun (r4 : Option Nat) (C3 : Cd) =>
cal (fX10_init (csz C) (cI C1 1407 a0) a2 r4 C3) fun (r6 : Unit) (C5 : Cd) =>
if isO C5 a0 14 then
if isO C5 a0 14 then bnd (cSetI C5 1407 a0 ((cI C5 1407 a0) + 1)) fun (C7 : Cd) =>
some ((some (csz C)), C7)
else none
else none
else none
else none
def fX11_noteTitleChange (a0 : Nat) (a1 : Int) (C : Cd) : Option (Unit × Cd) :=
if isO C a0 14 then bnd (cR C 1401 a0) fun (z1 : Option Nat) =>
drf z1 fun (p2 : Nat) =>
if isO C p2 102 ∧ inR a1 (cn C p2) then bnd (cP C p2 (ix a1)) fun (z3 : Option Nat) =>
drf z3 fun (p4 : Nat) =>
if isO C p4 12 then bnd (cR C 1200 p4) fun (z5 : Option Nat) =>
drf z5 fun (p6 : Nat) =>
if isO C p6 7 then bnd (cSetI C 702 p6 1) fun (C7 : Cd) =>
bnd (lpn (fun (_ : Int) (_ : Cd) => (none : Option (Unit × Cd))) (fun L15 (v2_15 : Int) (C_15 : Cd) =>
if isO C_15 a0 14 then bnd (cR C_15 1401 a0) fun (z8 : Option Nat) =>
drf z8 fun (p9 : Nat) =>
if isO C_15 p9 102 then
if w32 (cn C_15 p9 : Int) ≤ w32 v2_15 then
some ((), C_15)
else
if isO C_15 a0 14 then bnd (cR C_15 1401 a0) fun (z10 : Option Nat) =>
drf z10 fun (p11 : Nat) =>
if isO C_15 p11 102 ∧ inR v2_15 (cn C_15 p11) then bnd (cP C_15 p11 (ix v2_15)) fun (z12 : Option Nat) =>
drf z12 fun (p13 : Nat) =>
if isO C_15 p13 12 then bnd (cR C_15 1200 p13) fun (z14 : Option Nat) =>
drf z14 fun (p15 : Nat) =>
if isO C_15 p15 7 then
cal (fX11_has (cI C_15 705 p15) a1 C_15) fun (r17 : Int) (C16 : Cd) =>
bnd (fun  (C_56 : Cd) =>
L15 (v2_15 + 1) C_56) fun J56 =>
if w32 r17 = 0 then
J56 C16
else
if isO C16 a0 14 then bnd (cR C16 1401 a0) fun (z18 : Option Nat) =>
drf z18 fun (p19 : Nat) =>
if isO C16 p19 102 ∧ inR v2_15 (cn C16 p19) then bnd (cP C16 p19 (ix v2_15)) fun (z20 : Option Nat) =>
drf z20 fun (p21 : Nat) =>
if isO C16 p21 12 then bnd (cR C16 1200 p21) fun (z22 : Option Nat) =>
drf z22 fun (p23 : Nat) =>
if isO C16 p23 7 then bnd (cSetI C16 702 p23 1) fun (C24 : Cd) =>
J56 C24
else none
else none
else none
else none
else none
else none
else none
else none
else none
else none) FU) fun J15 =>
J15 0 C7
else none
else none
else none
else none
def fX11_addVersion (a0 : Nat) (a1 : Int) (a2 : Option Nat) (a3 : Option Nat) (a4 : Int) (C : Cd) : Option (Int × Cd) :=
if isO C a0 14 then cal (fX11_makeVersion a0 a3 a4 C) fun (r2 : Option Nat) (C1 : Cd) =>
drf a2 fun (p3 : Nat) =>
if isO C1 p3 6 then cal (fX3_put p3 r2 C1) fun (r5 : Unit) (C4 : Cd) =>
if isO C4 p3 6 then bnd (cR C4 601 p3) fun (z6 : Option Nat) =>
bnd (fun  (C_29 : Cd) =>
drf r2 fun (p7 : Nat) =>
if isO C_29 p7 13 then
some (cI C_29 1300 p7, C_29)
else none) fun J29 =>
if ¬ z6 = r2 then
J29 C4
else
if isO C4 a0 14 then cal (fX11_noteTitleChange a0 a1 C4) fun (r9 : Unit) (C8 : Cd) =>
J29 C8
else none
else none
else none
else none
def fX11_addNextVersion (a0 : Nat) (a1 : Int) (a2 : Option Nat) (a3 : Option Nat) (C : Cd) : Option (Int × Cd) :=
if isO C a0 14 then
if isO C a0 14 then bnd (cSetI C 1406 a0 ((cI C 1406 a0) + 1)) fun (C1 : Cd) =>
if isO C1 a0 14 then
if isO C1 a0 14 then cal (fX11_addVersion a0 a1 a2 a3 (cI C1 1406 a0) C1) fun (r3 : Int) (C2 : Cd) =>
some (r3, C2)
else none
else none
else none
else none
def fX11_titleOf (a0 : Nat) (a1 : Int) (C : Cd) : Option ((Option Nat ⊕ Nat) × Cd) :=
bnd (fun  (C_13 : Cd) =>
some (.inr 2, cBump C_13)) fun J13 =>
if w32 a1 < 0 then
J13 C
else
if isO C a0 14 then bnd (cR C 1401 a0) fun (z1 : Option Nat) =>
drf z1 fun (p2 : Nat) =>
if isO C p2 102 then
if w32 a1 < w32 (cn C p2 : Int) then
if isO C a0 14 then bnd (cR C 1401 a0) fun (z3 : Option Nat) =>
drf z3 fun (p4 : Nat) =>
if isO C p4 102 ∧ inR a1 (cn C p4) then bnd (cP C p4 (ix a1)) fun (z5 : Option Nat) =>
some (.inl z5, C)
else none
else none
else
J13 C
else none
else none
def fX11_pageOf (a0 : Nat) (a1 : Int) (C : Cd) : Option ((Option Nat ⊕ Nat) × Cd) :=
if isO C a0 14 then calx (fX11_titleOf a0 a1 C) fun (r2 : Option Nat) (C1 : Cd) =>
drf r2 fun (p3 : Nat) =>
if isO C1 p3 12 then bnd (cR C1 1203 p3) fun (z4 : Option Nat) =>
opt z4 (
some (.inr 2, cBump C1)) (fun (p5 : Nat) =>
some (.inl (some p5), C1))
else none
else none
def fX11_mayActAt (a0 : Nat) (a1 : Option Nat) (C : Cd) : Option (Int × Cd) :=
if isO C a0 14 then
drf a1 fun (p1 : Nat) =>
if isO C p1 12 then
bnd (fun (t0_16 : Int) (C_16 : Cd) =>
retZ t0_16 C_16) fun J16 =>
if w32 (cI C 1409 a0) < w32 (cI C 1204 p1) then
J16 0 C
else
J16 1 C
else none
else none
def fX11_approve (a0 : Nat) (a1 : Int) (C : Cd) : Option ((Int ⊕ Nat) × Cd) :=
if isO C a0 14 then calx (fX11_pageOf a0 a1 C) fun (r2 : Option Nat) (C1 : Cd) =>
if isO C1 a0 14 then bnd (cR C1 1401 a0) fun (z3 : Option Nat) =>
drf z3 fun (p4 : Nat) =>
if isO C1 p4 102 ∧ inR a1 (cn C1 p4) then bnd (cP C1 p4 (ix a1)) fun (z5 : Option Nat) =>
if isO C1 a0 14 then cal (fX11_mayActAt a0 z5 C1) fun (r7 : Int) (C6 : Cd) =>
if ¬ w32 r7 = 0 then
if isO C6 a0 14 then
if isO C6 a0 14 then bnd (cSetI C6 1406 a0 ((cI C6 1406 a0) + 1)) fun (C8 : Cd) =>
if isO C8 a0 14 then
bnd (fun  (C_85 : Cd) =>
if isO C_85 a0 14 then
some (.inl (cI C_85 1406 a0), C_85)
else none) fun J85 =>
if w32 512 ≤ w32 (cI C8 1408 a0) then
J85 C8
else
if isO C8 a0 14 then
if isO C8 a0 14 then bnd (cSetI C8 1408 a0 ((cI C8 1408 a0) + 1)) fun (C9 : Cd) =>
bnd (cNew C9 3) fun (C10 : Cd) =>
if isO C10 a0 14 then
drf r2 fun (p11 : Nat) =>
if isO C10 p11 6 then bnd (cR C10 601 p11) fun (z12 : Option Nat) =>
drf z12 fun (p13 : Nat) =>
if isO C10 p13 13 then bnd (cR C10 1302 p13) fun (z14 : Option Nat) =>
if isO C10 p11 6 then bnd (cR C10 602 p11) fun (z15 : Option Nat) =>
cal (fX0_init (csz C9) (cI C10 1406 a0) z14 z15 C10) fun (r17 : Unit) (C16 : Cd) =>
if isO C16 p11 6 then bnd (cSetR C16 602 p11 (some (csz C9))) fun (C18 : Cd) =>
J85 C18
else none
else none
else none
else none
else none
else none
else none
else none
else none
else none
else
some (.inr 1, cBump C6)
else none
else none
else none
else none
def fX11_refuseBelowZero (a0 : Nat) (a1 : Int) (C : Cd) : Option ((Unit ⊕ Nat) × Cd) :=
if 0 ≤ w32 a1 then
some (.inl (), C)
else
some (.inr 2, cBump C)
def fX11_approvedAt (a0 : Nat) (a1 : Int) (a2 : Int) (C : Cd) : Option ((Int ⊕ Nat) × Cd) :=
if isO C a0 14 then calx (fX11_pageOf a0 a1 C) fun (r2 : Option Nat) (C1 : Cd) =>
if isO C1 a0 14 then calx (fX11_refuseBelowZero a0 a2 C1) fun (r4 : Unit) (C3 : Cd) =>
drf r2 fun (p5 : Nat) =>
if isO C3 p5 6 then bnd (cR C3 602 p5) fun (z6 : Option Nat) =>
opt z6 (
some (.inl (-1), C3)) (fun (p7 : Nat) =>
if isO C3 a0 14 then bnd (cR C3 1400 a0) fun (z8 : Option Nat) =>
if isO C3 p7 3 then bnd (cR C3 301 p7) fun (z9 : Option Nat) =>
if isO C3 p7 3 then
drf z8 fun (p10 : Nat) =>
if isO C3 p10 4 then cal (fX1_expand p10 a1 z9 (cI C3 300 p7) C3) fun (r12 : Unit) (C11 : Cd) =>
if isO C11 a0 14 then bnd (cR C11 1400 a0) fun (z13 : Option Nat) =>
drf z13 fun (p14 : Nat) =>
if isO C11 p14 4 then bnd (cR C11 407 p14) fun (z15 : Option Nat) =>
drf z15 fun (p16 : Nat) =>
if isO C11 p16 7 then bnd (cR C11 700 p16) fun (z17 : Option Nat) =>
drf z17 fun (p18 : Nat) =>
if isO C11 p18 8 then cal (fX5_at p18 a2 C11) fun (r20 : Int) (C19 : Cd) =>
some (.inl r20, C19)
else none
else none
else none
else none
else none
else none
else none
else none)
else none
else none
else none
def fX11_bringIn (a0 : Nat) (a1 : Int) (a2 : Int) (C : Cd) : Option ((Int ⊕ Nat) × Cd) :=
if isO C a0 14 then calx (fX11_pageOf a0 a1 C) fun (r2 : Option Nat) (C1 : Cd) =>
bnd (fun  (C_19 : Cd) =>
some (.inr 0, cBump C_19)) fun J19 =>
if w32 a2 < w32 1 then
J19 C1
else
if isO C1 a0 14 then
if w32 a2 ≤ w32 (cI C1 1406 a0) then
if isO C1 a0 14 then bnd (cR C1 1401 a0) fun (z3 : Option Nat) =>
drf z3 fun (p4 : Nat) =>
if isO C1 p4 102 ∧ inR a1 (cn C1 p4) then bnd (cP C1 p4 (ix a1)) fun (z5 : Option Nat) =>
if isO C1 a0 14 then cal (fX11_mayActAt a0 z5 C1) fun (r7 : Int) (C6 : Cd) =>
bnd (fun  (C_61 : Cd) =>
some (.inr 1, cBump C_61)) fun J61 =>
if w32 r7 = 0 then
J61 C6
else
if isO C6 a0 14 then bnd (cR C6 1403 a0) fun (z8 : Option Nat) =>
drf z8 fun (p9 : Nat) =>
if isO C6 p9 11 then cal (fX8_isText p9 C6) fun (r11 : Int) (C10 : Cd) =>
if w32 r11 = 0 then
J61 C10
else
if isO C10 a0 14 then
if w32 (cI C10 1407 a0) < w32 120 then
if isO C10 a0 14 then bnd (cR C10 1403 a0) fun (z12 : Option Nat) =>
if isO C10 a0 14 then cal (fX11_addVersion a0 a1 r2 z12 a2 C10) fun (r14 : Int) (C13 : Cd) =>
if isO C13 a0 14 then bnd (cR C13 1403 a0) fun (z15 : Option Nat) =>
drf z15 fun (p16 : Nat) =>
if isO C13 p16 11 then cal (fX8_clear p16 C13) fun (r18 : Unit) (C17 : Cd) =>
some (.inl r14, C17)
else none
else none
else none
else none
else
J61 C10
else none
else none
else none
else none
else none
else none
else
J19 C1
else none
else none
def fX11_noteMemberChange (a0 : Nat) (a1 : Int) (C : Cd) : Option (Unit × Cd) :=
bnd (lpn (fun (_ : Int) (_ : Cd) => (none : Option (Unit × Cd))) (fun L2 (v2_2 : Int) (C_2 : Cd) =>
if isO C_2 a0 14 then bnd (cR C_2 1401 a0) fun (z1 : Option Nat) =>
drf z1 fun (p2 : Nat) =>
if isO C_2 p2 102 then
if w32 (cn C_2 p2 : Int) ≤ w32 v2_2 then
some ((), C_2)
else
if isO C_2 a0 14 then bnd (cR C_2 1401 a0) fun (z3 : Option Nat) =>
drf z3 fun (p4 : Nat) =>
if isO C_2 p4 102 ∧ inR v2_2 (cn C_2 p4) then bnd (cP C_2 p4 (ix v2_2)) fun (z5 : Option Nat) =>
drf z5 fun (p6 : Nat) =>
if isO C_2 p6 12 then bnd (cR C_2 1200 p6) fun (z7 : Option Nat) =>
drf z7 fun (p8 : Nat) =>
if isO C_2 p8 7 then
bnd (fun  (C_41 : Cd) =>
L2 (v2_2 + 1) C_41) fun J41 =>
if w32 (andI (cI C_2 706 p8) a1) = 0 then
J41 C_2
else
if isO C_2 a0 14 then bnd (cR C_2 1401 a0) fun (z9 : Option Nat) =>
drf z9 fun (p10 : Nat) =>
if isO C_2 p10 102 ∧ inR v2_2 (cn C_2 p10) then bnd (cP C_2 p10 (ix v2_2)) fun (z11 : Option Nat) =>
drf z11 fun (p12 : Nat) =>
if isO C_2 p12 12 then bnd (cR C_2 1200 p12) fun (z13 : Option Nat) =>
drf z13 fun (p14 : Nat) =>
if isO C_2 p14 7 then bnd (cSetI C_2 702 p14 1) fun (C15 : Cd) =>
J41 C15
else none
else none
else none
else none
else none
else none
else none
else none
else none
else none) FU) fun J2 =>
J2 0 C
def fX11_bringOver (a0 : Nat) (a1 : Int) (a2 : Int) (C : Cd) : Option ((Unit ⊕ Nat) × Cd) :=
if isO C a0 14 then calx (fX11_titleOf a0 a1 C) fun (r2 : Option Nat) (C1 : Cd) =>
if isO C1 a0 14 then calx (fX11_titleOf a0 a2 C1) fun (r4 : Option Nat) (C3 : Cd) =>
drf r2 fun (p5 : Nat) =>
if isO C3 p5 12 then bnd (cR C3 1203 p5) fun (z6 : Option Nat) =>
drf r4 fun (p7 : Nat) =>
if isO C3 p7 12 then bnd (cSetR C3 1203 p7 z6) fun (C8 : Cd) =>
if isO C8 p5 12 then bnd (cSetR C8 1203 p5 none) fun (C9 : Cd) =>
if isO C9 p5 12 then bnd (cR C9 1200 p5) fun (z10 : Option Nat) =>
drf z10 fun (p11 : Nat) =>
if isO C9 p11 7 then
bnd (cI C9 704 p11) fun (x5_34 : Int) =>
if isO C9 p5 12 then bnd (cR C9 1200 p5) fun (z12 : Option Nat) =>
drf z12 fun (p13 : Nat) =>
if isO C9 p13 7 then cal (fX4_clear p13 C9) fun (r15 : Unit) (C14 : Cd) =>
if isO C14 a0 14 then cal (fX11_noteMemberChange a0 x5_34 C14) fun (r17 : Unit) (C16 : Cd) =>
if isO C16 a0 14 then cal (fX11_noteTitleChange a0 a1 C16) fun (r19 : Unit) (C18 : Cd) =>
if isO C18 a0 14 then cal (fX11_noteTitleChange a0 a2 C18) fun (r21 : Unit) (C20 : Cd) =>
some (.inl (), C20)
else none
else none
else none
else none
else none
else none
else none
else none
else none
else none
else none
else none
def fX11_clock (a0 : Nat) (C : Cd) : Option (Int × Cd) :=
if isO C a0 14 then
some (cI C 1406 a0, C)
else none
def fX11_makePage (a0 : Nat) (a1 : Int) (a2 : Option Nat) (C : Cd) : Option (Int × Cd) :=
if isO C a0 14 then
if isO C a0 14 then bnd (cSetI C 1406 a0 ((cI C 1406 a0) + 1)) fun (C1 : Cd) =>
if isO C1 a0 14 then
if isO C1 a0 14 then cal (fX11_makeVersion a0 a2 (cI C1 1406 a0) C1) fun (r3 : Option Nat) (C2 : Cd) =>
if isO C2 a0 14 then bnd (cR C2 1401 a0) fun (z4 : Option Nat) =>
drf z4 fun (p5 : Nat) =>
if isO C2 p5 102 ∧ inR a1 (cn C2 p5) then bnd (cP C2 p5 (ix a1)) fun (z6 : Option Nat) =>
bnd (cNew C2 6) fun (C7 : Cd) =>
cal (fX3_init (csz C2) r3 C7) fun (r9 : Unit) (C8 : Cd) =>
drf z6 fun (p10 : Nat) =>
if isO C8 p10 12 then bnd (cSetR C8 1203 p10 (some (csz C2))) fun (C11 : Cd) =>
if isO C11 a0 14 then cal (fX11_noteTitleChange a0 a1 C11) fun (r13 : Unit) (C12 : Cd) =>
drf r3 fun (p14 : Nat) =>
if isO C12 p14 13 then
some (cI C12 1300 p14, C12)
else none
else none
else none
else none
else none
else none
else none
else none
else none
def fX11_create (a0 : Nat) (a1 : Int) (C : Cd) : Option ((Int ⊕ Nat) × Cd) :=
if isO C a0 14 then calx (fX11_titleOf a0 a1 C) fun (r2 : Option Nat) (C1 : Cd) =>
drf r2 fun (p3 : Nat) =>
if isO C1 p3 12 then bnd (cR C1 1203 p3) fun (z4 : Option Nat) =>
bnd (fun  (C_40 : Cd) =>
some (.inr 1, cBump C_40)) fun J40 =>
opt z4 (
if isO C1 a0 14 then cal (fX11_mayActAt a0 (some p3) C1) fun (r7 : Int) (C6 : Cd) =>
if w32 r7 = 0 then
J40 C6
else
if isO C6 a0 14 then bnd (cR C6 1403 a0) fun (z8 : Option Nat) =>
drf z8 fun (p9 : Nat) =>
if isO C6 p9 11 then cal (fX8_isText p9 C6) fun (r11 : Int) (C10 : Cd) =>
if w32 r11 = 0 then
J40 C10
else
if isO C10 a0 14 then
if w32 (cI C10 1407 a0) < w32 120 then
if isO C10 a0 14 then bnd (cR C10 1403 a0) fun (z12 : Option Nat) =>
if isO C10 a0 14 then cal (fX11_makePage a0 a1 z12 C10) fun (r14 : Int) (C13 : Cd) =>
if isO C13 a0 14 then bnd (cR C13 1403 a0) fun (z15 : Option Nat) =>
drf z15 fun (p16 : Nat) =>
if isO C13 p16 11 then cal (fX8_clear p16 C13) fun (r18 : Unit) (C17 : Cd) =>
some (.inl r14, C17)
else none
else none
else none
else none
else
J40 C10
else none
else none
else none
else none) (fun (p5 : Nat) =>
J40 C1)
else none
else none
def fX11_mean (a0 : Nat) (a1 : Option Nat) (a2 : Int) (C : Cd) : Option (Unit × Cd) :=
if isO C a0 14 then bnd (cR C 1404 a0) fun (z1 : Option Nat) =>
drf z1 fun (p2 : Nat) =>
if isO C p2 11 then cal (fX8_clear p2 C) fun (r4 : Unit) (C3 : Cd) =>
if ¬ w32 a2 = w32 (-1) then
drf a1 fun (p5 : Nat) =>
if isO C3 p5 11 then cal (fX8_sectionStart p5 a2 C3) fun (r7 : Int) (C6 : Cd) =>
if isO C6 p5 11 then cal (fX8_sectionStart p5 (a2 + 1) C6) fun (r9 : Int) (C8 : Cd) =>
if isO C8 a0 14 then bnd (cR C8 1404 a0) fun (z10 : Option Nat) =>
drf z10 fun (p11 : Nat) =>
if isO C8 p11 11 then cal (fX8_addStretch p11 (some p5) 0 r7 C8) fun (r13 : Unit) (C12 : Cd) =>
if isO C12 a0 14 then bnd (cR C12 1404 a0) fun (z14 : Option Nat) =>
if isO C12 a0 14 then bnd (cR C12 1403 a0) fun (z15 : Option Nat) =>
if isO C12 a0 14 then bnd (cR C12 1403 a0) fun (z16 : Option Nat) =>
drf z16 fun (p17 : Nat) =>
if isO C12 p17 11 then
drf z14 fun (p18 : Nat) =>
if isO C12 p18 11 then cal (fX8_addStretch p18 z15 0 (cI C12 1102 p17) C12) fun (r20 : Unit) (C19 : Cd) =>
if isO C19 a0 14 then bnd (cR C19 1404 a0) fun (z21 : Option Nat) =>
if isO C19 p5 11 then
drf z21 fun (p22 : Nat) =>
if isO C19 p22 11 then cal (fX8_addStretch p22 (some p5) r9 (cI C19 1102 p5) C19) fun (r24 : Unit) (C23 : Cd) =>
some ((), C23)
else none
else none
else none
else none
else none
else none
else none
else none
else none
else none
else none
else none
else
if isO C3 a0 14 then bnd (cR C3 1404 a0) fun (z25 : Option Nat) =>
if isO C3 a0 14 then bnd (cR C3 1403 a0) fun (z26 : Option Nat) =>
if isO C3 a0 14 then bnd (cR C3 1403 a0) fun (z27 : Option Nat) =>
drf z27 fun (p28 : Nat) =>
if isO C3 p28 11 then
drf z25 fun (p29 : Nat) =>
if isO C3 p29 11 then cal (fX8_addStretch p29 z26 0 (cI C3 1102 p28) C3) fun (r31 : Unit) (C30 : Cd) =>
some ((), C30)
else none
else none
else none
else none
else none
else none
else none
def fX11_merge (a0 : Nat) (a1 : Option Nat) (a2 : Option Nat) (a3 : Option Nat) (a4 : Int) (C : Cd) : Option (Int × Cd) :=
drf a1 fun (p1 : Nat) =>
if isO C p1 11 then cal (fX8_sections p1 C) fun (r3 : Int) (C2 : Cd) =>
drf a2 fun (p4 : Nat) =>
if isO C2 p4 11 then cal (fX8_sections p4 C2) fun (r6 : Int) (C5 : Cd) =>
bnd (fun  (C_24 : Cd) =>
some (0, C_24)) fun J24 =>
if ¬ w32 r6 = w32 r3 then
J24 C5
else
drf a3 fun (p7 : Nat) =>
if isO C5 p7 11 then cal (fX8_sections p7 C5) fun (r9 : Int) (C8 : Cd) =>
if w32 r9 = w32 r3 then
if isO C8 a0 14 then bnd (cR C8 1405 a0) fun (z10 : Option Nat) =>
drf z10 fun (p11 : Nat) =>
if isO C8 p11 11 then cal (fX8_clear p11 C8) fun (r13 : Unit) (C12 : Cd) =>
bnd (lpn (fun (_ : Int) (_ : Cd) => (none : Option (Int × Cd))) (fun L36 (v6_36 : Int) (C_36 : Cd) =>
if w32 r3 ≤ w32 v6_36 then
some (1, C_36)
else
if isO C_36 p4 11 then cal (fX8_sameSection p4 (some p1) v6_36 C_36) fun (r15 : Int) (C14 : Cd) =>
bnd (fun  (C_106 : Cd) =>
L36 (v6_36 + 1) C_106) fun J106 =>
if w32 r15 = 0 then
if isO C14 p7 11 then cal (fX8_sameSection p7 (some p1) v6_36 C14) fun (r17 : Int) (C16 : Cd) =>
bnd (fun  (C_91 : Cd) =>
if isO C_91 a0 14 then bnd (cR C_91 1405 a0) fun (z18 : Option Nat) =>
drf z18 fun (p19 : Nat) =>
if isO C_91 p19 11 then cal (fX8_addSection p19 (some p4) v6_36 C_91) fun (r21 : Unit) (C20 : Cd) =>
J106 C20
else none
else none) fun J91 =>
if ¬ w32 r17 = 0 then
J91 C16
else
bnd (fun  (C_104 : Cd) =>
some (0, C_104)) fun J104 =>
if w32 a4 = 0 then
J104 C16
else
if isO C16 p7 11 then cal (fX8_sameSection p7 (some p4) v6_36 C16) fun (r23 : Int) (C22 : Cd) =>
if w32 r23 = 0 then
J104 C22
else
J91 C22
else none
else none
else
if isO C14 a0 14 then bnd (cR C14 1405 a0) fun (z24 : Option Nat) =>
drf z24 fun (p25 : Nat) =>
if isO C14 p25 11 then cal (fX8_addSection p25 (some p7) v6_36 C14) fun (r27 : Unit) (C26 : Cd) =>
J106 C26
else none
else none
else none) FU) fun J36 =>
J36 0 C12
else none
else none
else
J24 C8
else none
else none
else none
def fX11_edit (a0 : Nat) (a1 : Int) (a2 : Int) (a3 : Int) (C : Cd) : Option ((Int ⊕ Nat) × Cd) :=
if isO C a0 14 then calx (fX11_pageOf a0 a1 C) fun (r2 : Option Nat) (C1 : Cd) =>
drf r2 fun (p3 : Nat) =>
if isO C1 p3 6 then cal (fX3_indexOf p3 a2 C1) fun (r5 : Int) (C4 : Cd) =>
if isO C4 p3 6 then cal (fX3_versionAtIndex p3 r5 C4) fun (r7 : Option Nat) (C6 : Cd) =>
bnd (fun  (C_46 : Cd) =>
some (.inr 2, cBump C_46)) fun J46 =>
opt r7 (
J46 C6) (fun (p8 : Nat) =>
if w32 a3 < w32 (-1) then
J46 C6
else
if isO C6 p8 13 then bnd (cR C6 1302 p8) fun (z9 : Option Nat) =>
drf z9 fun (p10 : Nat) =>
if isO C6 p10 11 then cal (fX8_sections p10 C6) fun (r12 : Int) (C11 : Cd) =>
if w32 a3 < w32 r12 then
if isO C11 a0 14 then bnd (cR C11 1404 a0) fun (z13 : Option Nat) =>
if isO C11 p8 13 then bnd (cR C11 1302 p8) fun (z14 : Option Nat) =>
if isO C11 a0 14 then cal (fX11_mean a0 z14 a3 C11) fun (r16 : Unit) (C15 : Cd) =>
if isO C15 a0 14 then bnd (cR C15 1401 a0) fun (z17 : Option Nat) =>
drf z17 fun (p18 : Nat) =>
if isO C15 p18 102 ∧ inR a1 (cn C15 p18) then bnd (cP C15 p18 (ix a1)) fun (z19 : Option Nat) =>
if isO C15 a0 14 then cal (fX11_mayActAt a0 z19 C15) fun (r21 : Int) (C20 : Cd) =>
bnd (fun (t0_99 : Int) (C_99 : Cd) =>
bnd (fun (v7_146 : Option Nat) (v8_146 : Int) (C_146 : Cd) =>
bnd (fun  (C_175 : Cd) =>
some (.inr 1, cBump C_175)) fun J175 =>
if w32 v8_146 = 0 then
J175 C_146
else
drf v7_146 fun (p22 : Nat) =>
if isO C_146 p22 11 then cal (fX8_isText p22 C_146) fun (r24 : Int) (C23 : Cd) =>
if w32 r24 = 0 then
J175 C23
else
if isO C23 p3 6 then bnd (cR C23 601 p3) fun (z25 : Option Nat) =>
drf z25 fun (p26 : Nat) =>
if isO C23 p26 13 then bnd (cR C23 1302 p26) fun (z27 : Option Nat) =>
if isO C23 p22 11 then cal (fX8_sameAs p22 z27 C23) fun (r29 : Int) (C28 : Cd) =>
if w32 r29 = 0 then
if isO C28 a0 14 then cal (fX11_addNextVersion a0 a1 (some p3) (some p22) C28) fun (r31 : Int) (C30 : Cd) =>
if isO C30 a0 14 then bnd (cR C30 1403 a0) fun (z32 : Option Nat) =>
drf z32 fun (p33 : Nat) =>
if isO C30 p33 11 then cal (fX8_clear p33 C30) fun (r35 : Unit) (C34 : Cd) =>
some (.inl r31, C34)
else none
else none
else none
else
J175 C28
else none
else none
else none
else none) fun J146 =>
if w32 t0_99 = 0 then
J146 z13 t0_99 C_99
else
if isO C_99 p3 6 then bnd (cR C_99 601 p3) fun (z36 : Option Nat) =>
if (some p8) = z36 then
J146 z13 t0_99 C_99
else
if isO C_99 a0 14 then bnd (cR C_99 1405 a0) fun (z37 : Option Nat) =>
if isO C_99 p8 13 then bnd (cR C_99 1302 p8) fun (z38 : Option Nat) =>
if isO C_99 a0 14 then bnd (cR C_99 1404 a0) fun (z39 : Option Nat) =>
if isO C_99 p3 6 then bnd (cR C_99 601 p3) fun (z40 : Option Nat) =>
drf z40 fun (p41 : Nat) =>
if isO C_99 p41 13 then bnd (cR C_99 1302 p41) fun (z42 : Option Nat) =>
if isO C_99 a0 14 then cal (fX11_merge a0 z38 z39 z42 1 C_99) fun (r44 : Int) (C43 : Cd) =>
J146 z37 r44 C43
else none
else none
else none
else none
else none
else none
else none) fun J99 =>
bnd (fun  (C_98 : Cd) =>
J99 0 C_98) fun J98 =>
if w32 r21 = 0 then
J98 C20
else
if isO C20 a0 14 then
if w32 120 ≤ w32 (cI C20 1407 a0) then
J98 C20
else
J99 1 C20
else none
else none
else none
else none
else none
else none
else none
else
J46 C11
else none
else none)
else none
else none
else none
def fX11_moduleOf (a0 : Nat) (a1 : Int) (C : Cd) : Option ((Option Nat ⊕ Nat) × Cd) :=
bnd (fun  (C_13 : Cd) =>
some (.inr 2, cBump C_13)) fun J13 =>
if w32 a1 < 0 then
J13 C
else
if isO C a0 14 then bnd (cR C 1402 a0) fun (z1 : Option Nat) =>
drf z1 fun (p2 : Nat) =>
if isO C p2 103 then
if w32 a1 < w32 (cn C p2 : Int) then
if isO C a0 14 then bnd (cR C 1402 a0) fun (z3 : Option Nat) =>
drf z3 fun (p4 : Nat) =>
if isO C p4 103 ∧ inR a1 (cn C p4) then bnd (cP C p4 (ix a1)) fun (z5 : Option Nat) =>
some (.inl z5, C)
else none
else none
else
J13 C
else none
else none
def fX11_noteModuleChange (a0 : Nat) (a1 : Int) (C : Cd) : Option (Unit × Cd) :=
bnd (lpn (fun (_ : Int) (_ : Cd) => (none : Option (Unit × Cd))) (fun L2 (v2_2 : Int) (C_2 : Cd) =>
if isO C_2 a0 14 then bnd (cR C_2 1401 a0) fun (z1 : Option Nat) =>
drf z1 fun (p2 : Nat) =>
if isO C_2 p2 102 then
if w32 (cn C_2 p2 : Int) ≤ w32 v2_2 then
some ((), C_2)
else
if isO C_2 a0 14 then bnd (cR C_2 1401 a0) fun (z3 : Option Nat) =>
drf z3 fun (p4 : Nat) =>
if isO C_2 p4 102 ∧ inR v2_2 (cn C_2 p4) then bnd (cP C_2 p4 (ix v2_2)) fun (z5 : Option Nat) =>
drf z5 fun (p6 : Nat) =>
if isO C_2 p6 12 then bnd (cR C_2 1200 p6) fun (z7 : Option Nat) =>
drf z7 fun (p8 : Nat) =>
if isO C_2 p8 7 then
cal (fX11_has (cI C_2 707 p8) a1 C_2) fun (r10 : Int) (C9 : Cd) =>
bnd (fun  (C_43 : Cd) =>
L2 (v2_2 + 1) C_43) fun J43 =>
if w32 r10 = 0 then
J43 C9
else
if isO C9 a0 14 then bnd (cR C9 1401 a0) fun (z11 : Option Nat) =>
drf z11 fun (p12 : Nat) =>
if isO C9 p12 102 ∧ inR v2_2 (cn C9 p12) then bnd (cP C9 p12 (ix v2_2)) fun (z13 : Option Nat) =>
drf z13 fun (p14 : Nat) =>
if isO C9 p14 12 then bnd (cR C9 1200 p14) fun (z15 : Option Nat) =>
drf z15 fun (p16 : Nat) =>
if isO C9 p16 7 then bnd (cSetI C9 702 p16 1) fun (C17 : Cd) =>
J43 C17
else none
else none
else none
else none
else none
else none
else none
else none
else none
else none) FU) fun J2 =>
J2 0 C
def fX11_empty (a0 : Nat) (a1 : Int) (C : Cd) : Option ((Int ⊕ Nat) × Cd) :=
if isO C a0 14 then calx (fX11_moduleOf a0 a1 C) fun (r2 : Option Nat) (C1 : Cd) =>
drf r2 fun (p3 : Nat) =>
if isO C1 p3 10 then
bnd (cI C1 1002 p3) fun (x3_10 : Int) =>
bnd (fun  (C_25 : Cd) =>
some (.inl x3_10, C_25)) fun J25 =>
if w32 x3_10 ≤ 0 then
J25 C1
else
if isO C1 p3 10 then bnd (cSetI C1 1002 p3 0) fun (C4 : Cd) =>
if isO C4 a0 14 then cal (fX11_noteModuleChange a0 a1 C4) fun (r6 : Unit) (C5 : Cd) =>
J25 C5
else none
else none
else none
else none
def fX11_firstInQueue (a0 : Nat) (C : Cd) : Option (Int × Cd) :=
bnd (lpn (fun (_ : Int) (_ : Int) (_ : Int) (_ : Cd) => (none : Option (Int × Cd))) (fun L6 (v1_6 : Int) (v2_6 : Int) (v3_6 : Int) (C_6 : Cd) =>
if isO C_6 a0 14 then bnd (cR C_6 1401 a0) fun (z1 : Option Nat) =>
drf z1 fun (p2 : Nat) =>
if isO C_6 p2 102 then
if w32 (cn C_6 p2 : Int) ≤ w32 v3_6 then
some (v1_6, C_6)
else
if isO C_6 a0 14 then bnd (cR C_6 1401 a0) fun (z3 : Option Nat) =>
drf z3 fun (p4 : Nat) =>
if isO C_6 p4 102 ∧ inR v3_6 (cn C_6 p4) then bnd (cP C_6 p4 (ix v3_6)) fun (z5 : Option Nat) =>
drf z5 fun (p6 : Nat) =>
if isO C_6 p6 12 then cal (fX9_waits p6 C_6) fun (r8 : Int) (C7 : Cd) =>
bnd (fun (v1_52 : Int) (v2_52 : Int) (C_52 : Cd) =>
L6 v1_52 v2_52 (v3_6 + 1) C_52) fun J52 =>
if w32 r8 = 0 then
J52 v1_6 v2_6 C7
else
if isO C7 a0 14 then bnd (cR C7 1401 a0) fun (z9 : Option Nat) =>
drf z9 fun (p10 : Nat) =>
if isO C7 p10 102 ∧ inR v3_6 (cn C7 p10) then bnd (cP C7 p10 (ix v3_6)) fun (z11 : Option Nat) =>
drf z11 fun (p12 : Nat) =>
if isO C7 p12 12 then
if w32 (cI C7 1205 p12) ≤ w32 v2_6 then
J52 v1_6 v2_6 C7
else
if isO C7 a0 14 then bnd (cR C7 1401 a0) fun (z13 : Option Nat) =>
drf z13 fun (p14 : Nat) =>
if isO C7 p14 102 ∧ inR v3_6 (cn C7 p14) then bnd (cP C7 p14 (ix v3_6)) fun (z15 : Option Nat) =>
drf z15 fun (p16 : Nat) =>
if isO C7 p16 12 then
bnd (cI C7 1205 p16) fun (x2_51 : Int) =>
J52 v3_6 x2_51 C7
else none
else none
else none
else none
else none
else none
else none
else none
else none
else none
else none) FU) fun J6 =>
J6 (-1) (-1) 0 C
def fX11_refuseOtherLanguages (a0 : Nat) (a1 : Int) (C : Cd) : Option ((Unit ⊕ Nat) × Cd) :=
bnd (fun  (C_10 : Cd) =>
some (.inr 0, cBump C_10)) fun J10 =>
if w32 a1 < w32 1 then
J10 C
else
if w32 a1 ≤ w32 2 then
some (.inl (), C)
else
J10 C
def fX11_inLanguage (a0 : Nat) (a1 : Int) (a2 : Int) (C : Cd) : Option ((Int ⊕ Nat) × Cd) :=
if isO C a0 14 then calx (fX11_titleOf a0 a1 C) fun (r2 : Option Nat) (C1 : Cd) =>
if isO C1 a0 14 then calx (fX11_refuseOtherLanguages a0 a2 C1) fun (r4 : Unit) (C3 : Cd) =>
bnd (lpn (fun (_ : Int) (_ : Cd) => (none : Option ((Int ⊕ Nat) × Cd))) (fun L14 (v4_14 : Int) (C_14 : Cd) =>
if w32 v4_14 < w32 1 then
some (.inl a1, C_14)
else
drf r2 fun (p5 : Nat) =>
if isO C_14 p5 12 then bnd (cR C_14 1201 p5) fun (z6 : Option Nat) =>
drf z6 fun (p7 : Nat) =>
if isO C_14 p7 100 ∧ inR v4_14 (cn C_14 p7) then
bnd (cE C_14 p7 (ix v4_14)) fun (x5_27 : Int) =>
bnd (fun  (C_51 : Cd) =>
L14 (v4_14 + (-1)) C_51) fun J51 =>
if w32 x5_27 = w32 (-1) then
J51 C_14
else
if isO C_14 a0 14 then bnd (cR C_14 1401 a0) fun (z8 : Option Nat) =>
drf z8 fun (p9 : Nat) =>
if isO C_14 p9 102 ∧ inR x5_27 (cn C_14 p9) then bnd (cP C_14 p9 (ix x5_27)) fun (z10 : Option Nat) =>
drf z10 fun (p11 : Nat) =>
if isO C_14 p11 12 then bnd (cR C_14 1203 p11) fun (z12 : Option Nat) =>
opt z12 (
J51 C_14) (fun (p13 : Nat) =>
some (.inl x5_27, C_14))
else none
else none
else none
else none
else none) FU) fun J14 =>
J14 a2 C3
else none
else none
def fX11_init (a0 : Nat) (C : Cd) : Option (Unit × Cd) :=
bnd (cNew C 4) fun (C1 : Cd) =>
cal (fX1_init (csz C) C1) fun (r3 : Unit) (C2 : Cd) =>
if isO C2 a0 14 then bnd (cSetR C2 1400 a0 (some (csz C))) fun (C4 : Cd) =>
if isO C4 a0 14 then bnd (cR C4 1400 a0) fun (z5 : Option Nat) =>
drf z5 fun (p6 : Nat) =>
if isO C4 p6 4 then bnd (cR C4 400 p6) fun (z7 : Option Nat) =>
if isO C4 a0 14 then bnd (cSetR C4 1401 a0 z7) fun (C8 : Cd) =>
if isO C8 a0 14 then bnd (cR C8 1400 a0) fun (z9 : Option Nat) =>
drf z9 fun (p10 : Nat) =>
if isO C8 p10 4 then bnd (cR C8 401 p10) fun (z11 : Option Nat) =>
if isO C8 a0 14 then bnd (cSetR C8 1402 a0 z11) fun (C12 : Cd) =>
bnd (cNew C12 11) fun (C13 : Cd) =>
cal (fX8_init (csz C12) 30 C13) fun (r15 : Unit) (C14 : Cd) =>
if isO C14 a0 14 then bnd (cSetR C14 1403 a0 (some (csz C12))) fun (C16 : Cd) =>
bnd (cNew C16 11) fun (C17 : Cd) =>
cal (fX8_init (csz C16) 60 C17) fun (r19 : Unit) (C18 : Cd) =>
if isO C18 a0 14 then bnd (cSetR C18 1404 a0 (some (csz C16))) fun (C20 : Cd) =>
bnd (cNew C20 11) fun (C21 : Cd) =>
cal (fX8_init (csz C20) 90 C21) fun (r23 : Unit) (C22 : Cd) =>
if isO C22 a0 14 then bnd (cSetR C22 1405 a0 (some (csz C20))) fun (C24 : Cd) =>
if isO C24 a0 14 then bnd (cSetI C24 1406 a0 0) fun (C25 : Cd) =>
if isO C25 a0 14 then bnd (cSetI C25 1407 a0 0) fun (C26 : Cd) =>
if isO C26 a0 14 then bnd (cSetI C26 1408 a0 0) fun (C27 : Cd) =>
if isO C27 a0 14 then bnd (cSetI C27 1409 a0 0) fun (C28 : Cd) =>
some ((), C28)
else none
else none
else none
else none
else none
else none
else none
else none
else none
else none
else none
else none
else none
else none
def fX11_isAmong (a0 : Nat) (a1 : Nat) (a2 : Int) (a3 : Int) (C : Cd) : Option (Int × Cd) :=
bnd (fun (t0_26 : Int) (C_26 : Cd) =>
retZ t0_26 C_26) fun J26 =>
bnd (fun  (C_25 : Cd) =>
J26 0 C_25) fun J25 =>
if w32 a2 < 0 then
J25 C
else
if w32 (sLen a1 : Int) ≤ w32 a2 then
J25 C
else
if w32 a3 < 0 then
J25 C
else
if inR a2 (sLen a1) then
if w32 (sAt a1 (ix a2)) < w32 a3 then
J25 C
else
J26 1 C
else none
def fX11_instruct (a0 : Nat) (a1 : Int) (a2 : Int) (a3 : Int) (C : Cd) : Option ((Int ⊕ Nat) × Cd) :=
if isO C a0 14 then calx (fX11_moduleOf a0 a1 C) fun (r2 : Option Nat) (C1 : Cd) =>
if isO C1 a0 14 then cal (fX11_isAmong a0 1 a2 a3 C1) fun (r4 : Int) (C3 : Cd) =>
if ¬ w32 r4 = 0 then
drf r2 fun (p5 : Nat) =>
if isO C3 p5 10 then
if w32 (cI C3 1002 p5) < w32 16 then
if isO C3 p5 10 then cal (fX7_add p5 a2 a3 C3) fun (r7 : Unit) (C6 : Cd) =>
if isO C6 a0 14 then cal (fX11_noteModuleChange a0 a1 C6) fun (r9 : Unit) (C8 : Cd) =>
if isO C8 p5 10 then
some (.inl (cI C8 1002 p5), C8)
else none
else none
else none
else
some (.inr 1, cBump C3)
else none
else
some (.inr 0, cBump C3)
else none
else none
def fX11_isOutdated (a0 : Nat) (a1 : Int) (a2 : Int) (C : Cd) : Option ((Int ⊕ Nat) × Cd) :=
if isO C a0 14 then calx (fX11_titleOf a0 a1 C) fun (r2 : Option Nat) (C1 : Cd) =>
if isO C1 a0 14 then calx (fX11_refuseOtherLanguages a0 a2 C1) fun (r4 : Unit) (C3 : Cd) =>
drf r2 fun (p5 : Nat) =>
if isO C3 p5 12 then bnd (cR C3 1201 p5) fun (z6 : Option Nat) =>
drf z6 fun (p7 : Nat) =>
if isO C3 p7 100 ∧ inR a2 (cn C3 p7) then
if ¬ w32 (cE C3 p7 (ix a2)) = w32 (-1) then
if isO C3 p5 12 then bnd (cR C3 1203 p5) fun (z8 : Option Nat) =>
bnd (fun (t0_54 : Int) (C_54 : Cd) =>
retZX t0_54 C_54) fun J54 =>
bnd (fun  (C_49 : Cd) =>
J54 1 C_49) fun J49 =>
opt z8 (
J49 C3) (fun (p9 : Nat) =>
if isO C3 p5 12 then bnd (cR C3 1203 p5) fun (z10 : Option Nat) =>
drf z10 fun (p11 : Nat) =>
if isO C3 p11 6 then bnd (cR C3 601 p11) fun (z12 : Option Nat) =>
drf z12 fun (p13 : Nat) =>
if isO C3 p13 13 then
if isO C3 p5 12 then bnd (cR C3 1202 p5) fun (z14 : Option Nat) =>
drf z14 fun (p15 : Nat) =>
if isO C3 p15 100 ∧ inR a2 (cn C3 p15) then
if w32 (cI C3 1300 p13) = w32 (cE C3 p15 (ix a2)) then
J54 0 C3
else
J49 C3
else none
else none
else none
else none
else none)
else none
else
some (.inl 0, C3)
else none
else none
else none
else none
def fX11_isStale (a0 : Nat) (a1 : Int) (C : Cd) : Option ((Int ⊕ Nat) × Cd) :=
if isO C a0 14 then calx (fX11_pageOf a0 a1 C) fun (r2 : Option Nat) (C1 : Cd) =>
if isO C1 a0 14 then bnd (cR C1 1401 a0) fun (z3 : Option Nat) =>
drf z3 fun (p4 : Nat) =>
if isO C1 p4 102 ∧ inR a1 (cn C1 p4) then bnd (cP C1 p4 (ix a1)) fun (z5 : Option Nat) =>
drf z5 fun (p6 : Nat) =>
if isO C1 p6 12 then cal (fX9_waits p6 C1) fun (r8 : Int) (C7 : Cd) =>
retZX r8 C7
else none
else none
else none
else none
def fX11_leads (a0 : Nat) (a1 : Int) (C : Cd) : Option ((Int ⊕ Nat) × Cd) :=
if isO C a0 14 then calx (fX11_titleOf a0 a1 C) fun (r2 : Option Nat) (C1 : Cd) =>
if isO C1 a0 14 then bnd (cR C1 1400 a0) fun (z3 : Option Nat) =>
drf z3 fun (p4 : Nat) =>
if isO C1 p4 4 then cal (fX1_goalOf p4 a1 (-1) C1) fun (r6 : Int) (C5 : Cd) =>
some (.inl r6, C5)
else none
else none
else none
def fX11_linkingTo (a0 : Nat) (a1 : Int) (C : Cd) : Option (Int × Cd) :=
bnd (lpn (fun (_ : Int) (_ : Int) (_ : Cd) => (none : Option (Int × Cd))) (fun L4 (v2_4 : Int) (v3_4 : Int) (C_4 : Cd) =>
if isO C_4 a0 14 then bnd (cR C_4 1401 a0) fun (z1 : Option Nat) =>
drf z1 fun (p2 : Nat) =>
if isO C_4 p2 102 then
if w32 (cn C_4 p2 : Int) ≤ w32 v3_4 then
some (v2_4, C_4)
else
if isO C_4 a0 14 then bnd (cR C_4 1401 a0) fun (z3 : Option Nat) =>
drf z3 fun (p4 : Nat) =>
if isO C_4 p4 102 ∧ inR v3_4 (cn C_4 p4) then bnd (cP C_4 p4 (ix v3_4)) fun (z5 : Option Nat) =>
drf z5 fun (p6 : Nat) =>
if isO C_4 p6 12 then bnd (cR C_4 1200 p6) fun (z7 : Option Nat) =>
drf z7 fun (p8 : Nat) =>
if isO C_4 p8 7 then
cal (fX11_has (cI C_4 703 p8) a1 C_4) fun (r10 : Int) (C9 : Cd) =>
bnd (fun (v2_38 : Int) (C_38 : Cd) =>
L4 v2_38 (v3_4 + 1) C_38) fun J38 =>
if w32 r10 = 0 then
J38 v2_4 C9
else
bnd (orI v2_4 (shlI 1 v3_4)) fun (x2_37 : Int) =>
J38 x2_37 C9
else none
else none
else none
else none
else none
else none) FU) fun J4 =>
J4 0 0 C
def fX11_linked (a0 : Nat) (a1 : Int) (a2 : Int) (C : Cd) : Option ((Int ⊕ Nat) × Cd) :=
if isO C a0 14 then calx (fX11_titleOf a0 a1 C) fun (r2 : Option Nat) (C1 : Cd) =>
if w32 a2 = 0 then
drf r2 fun (p3 : Nat) =>
if isO C1 p3 12 then bnd (cR C1 1200 p3) fun (z4 : Option Nat) =>
drf z4 fun (p5 : Nat) =>
if isO C1 p5 7 then
some (.inl (cI C1 703 p5), C1)
else none
else none
else
if w32 a2 = 1 then
if isO C1 a0 14 then cal (fX11_linkingTo a0 a1 C1) fun (r7 : Int) (C6 : Cd) =>
some (.inl r7, C6)
else none
else
if w32 a2 = 2 then
drf r2 fun (p8 : Nat) =>
if isO C1 p8 12 then bnd (cR C1 1200 p8) fun (z9 : Option Nat) =>
drf z9 fun (p10 : Nat) =>
if isO C1 p10 7 then
some (.inl (cI C1 705 p10), C1)
else none
else none
else
some (.inr 2, cBump C1)
else none
def fX11_lonelyTitles (a0 : Nat) (C : Cd) : Option (Int × Cd) :=
bnd (lpn (fun (_ : Int) (_ : Int) (_ : Cd) => (none : Option (Int × Cd))) (fun L4 (v1_4 : Int) (v2_4 : Int) (C_4 : Cd) =>
if isO C_4 a0 14 then bnd (cR C_4 1401 a0) fun (z1 : Option Nat) =>
drf z1 fun (p2 : Nat) =>
if isO C_4 p2 102 then
if w32 (cn C_4 p2 : Int) ≤ w32 v2_4 then
bnd (lpn (fun (_ : Int) (_ : Int) (_ : Cd) => (none : Option (Int × Cd))) (fun L60 (v1_60 : Int) (v2_60 : Int) (C_60 : Cd) =>
if isO C_60 a0 14 then bnd (cR C_60 1401 a0) fun (z3 : Option Nat) =>
drf z3 fun (p4 : Nat) =>
if isO C_60 p4 102 then
if w32 (cn C_60 p4 : Int) ≤ w32 v2_60 then
some (v1_60, C_60)
else
if isO C_60 a0 14 then bnd (cR C_60 1400 a0) fun (z5 : Option Nat) =>
drf z5 fun (p6 : Nat) =>
if isO C_60 p6 4 then cal (fX1_goalOf p6 v2_60 (-1) C_60) fun (r8 : Int) (C7 : Cd) =>
bnd (fun (v1_106 : Int) (C_106 : Cd) =>
L60 v1_106 (v2_60 + 1) C_106) fun J106 =>
if w32 r8 = w32 (-1) then
J106 v1_60 C7
else
if isO C7 a0 14 then cal (fX11_linkingTo a0 v2_60 C7) fun (r10 : Int) (C9 : Cd) =>
if w32 (andI r10 (xorI (shlI 1 r8) (-1))) = 0 then
J106 v1_60 C9
else
bnd (andI v1_60 (xorI (shlI 1 r8) (-1))) fun (x1_105 : Int) =>
J106 x1_105 C9
else none
else none
else none
else none
else none) FU) fun J60 =>
J60 v1_4 0 C_4
else
if isO C_4 a0 14 then bnd (cR C_4 1401 a0) fun (z11 : Option Nat) =>
drf z11 fun (p12 : Nat) =>
if isO C_4 p12 102 ∧ inR v2_4 (cn C_4 p12) then bnd (cP C_4 p12 (ix v2_4)) fun (z13 : Option Nat) =>
drf z13 fun (p14 : Nat) =>
if isO C_4 p14 12 then bnd (cR C_4 1203 p14) fun (z15 : Option Nat) =>
bnd (fun (v1_52 : Int) (C_52 : Cd) =>
L4 v1_52 (v2_4 + 1) C_52) fun J52 =>
opt z15 (
J52 v1_4 C_4) (fun (p16 : Nat) =>
if isO C_4 a0 14 then bnd (cR C_4 1401 a0) fun (z17 : Option Nat) =>
drf z17 fun (p18 : Nat) =>
if isO C_4 p18 102 ∧ inR v2_4 (cn C_4 p18) then bnd (cP C_4 p18 (ix v2_4)) fun (z19 : Option Nat) =>
drf z19 fun (p20 : Nat) =>
if isO C_4 p20 12 then bnd (cR C_4 1203 p20) fun (z21 : Option Nat) =>
drf z21 fun (p22 : Nat) =>
if isO C_4 p22 6 then bnd (cR C_4 601 p22) fun (z23 : Option Nat) =>
drf z23 fun (p24 : Nat) =>
if isO C_4 p24 13 then bnd (cR C_4 1302 p24) fun (z25 : Option Nat) =>
drf z25 fun (p26 : Nat) =>
if isO C_4 p26 11 then cal (fX8_isRedirect p26 C_4) fun (r28 : Int) (C27 : Cd) =>
if ¬ w32 r28 = 0 then
J52 v1_4 C27
else
bnd (orI v1_4 (shlI 1 v2_4)) fun (x1_51 : Int) =>
J52 x1_51 C27
else none
else none
else none
else none
else none
else none)
else none
else none
else none
else none
else none) FU) fun J4 =>
J4 0 0 C
def fX11_mayActInTree (a0 : Nat) (a1 : Int) (C : Cd) : Option (Int × Cd) :=
bnd (lpn (fun (_ : Int) (_ : Cd) => (none : Option (Int × Cd))) (fun L2 (v2_2 : Int) (C_2 : Cd) =>
if isO C_2 a0 14 then bnd (cR C_2 1401 a0) fun (z1 : Option Nat) =>
drf z1 fun (p2 : Nat) =>
if isO C_2 p2 102 then
if w32 (cn C_2 p2 : Int) ≤ w32 v2_2 then
some (1, C_2)
else
bnd (fun  (C_33 : Cd) =>
L2 (v2_2 + 1) C_33) fun J33 =>
if ¬ w32 (divI v2_2 4) = w32 a1 then
J33 C_2
else
if isO C_2 a0 14 then bnd (cR C_2 1401 a0) fun (z3 : Option Nat) =>
drf z3 fun (p4 : Nat) =>
if isO C_2 p4 102 ∧ inR v2_2 (cn C_2 p4) then bnd (cP C_2 p4 (ix v2_2)) fun (z5 : Option Nat) =>
if isO C_2 a0 14 then cal (fX11_mayActAt a0 z5 C_2) fun (r7 : Int) (C6 : Cd) =>
if ¬ w32 r7 = 0 then
J33 C6
else
some (0, C6)
else none
else none
else none
else none
else none) FU) fun J2 =>
J2 0 C
def fX11_members (a0 : Nat) (a1 : Int) (C : Cd) : Option ((Int ⊕ Nat) × Cd) :=
bnd (fun  (C_10 : Cd) =>
some (.inr 2, cBump C_10)) fun J10 =>
if w32 a1 < 0 then
J10 C
else
if w32 a1 < w32 8 then
if isO C a0 14 then bnd (cR C 1401 a0) fun (z1 : Option Nat) =>
cal (fX11_membersOf z1 a1 C) fun (r3 : Int) (C2 : Cd) =>
some (.inl r3, C2)
else none
else
J10 C
def fX11_move (a0 : Nat) (a1 : Int) (a2 : Int) (C : Cd) : Option ((Int ⊕ Nat) × Cd) :=
if isO C a0 14 then calx (fX11_titleOf a0 a1 C) fun (r2 : Option Nat) (C1 : Cd) =>
if isO C1 a0 14 then calx (fX11_titleOf a0 a2 C1) fun (r4 : Option Nat) (C3 : Cd) =>
drf r2 fun (p5 : Nat) =>
if isO C3 p5 12 then bnd (cR C3 1203 p5) fun (z6 : Option Nat) =>
opt z6 (
some (.inr 2, cBump C3)) (fun (p7 : Nat) =>
drf r4 fun (p8 : Nat) =>
if isO C3 p8 12 then bnd (cR C3 1203 p8) fun (z9 : Option Nat) =>
bnd (fun  (C_64 : Cd) =>
some (.inr 1, cBump C_64)) fun J64 =>
opt z9 (
if isO C3 a0 14 then cal (fX11_mayActAt a0 (some p5) C3) fun (r12 : Int) (C11 : Cd) =>
if w32 r12 = 0 then
J64 C11
else
if isO C11 a0 14 then cal (fX11_mayActAt a0 (some p8) C11) fun (r14 : Int) (C13 : Cd) =>
if w32 r14 = 0 then
J64 C13
else
if isO C13 a0 14 then
if w32 (cI C13 1407 a0) < w32 120 then
if isO C13 a0 14 then calx (fX11_bringOver a0 a1 a2 C13) fun (r16 : Unit) (C15 : Cd) =>
if isO C15 a0 14 then bnd (cR C15 1405 a0) fun (z17 : Option Nat) =>
drf z17 fun (p18 : Nat) =>
if isO C15 p18 11 then cal (fX8_clear p18 C15) fun (r20 : Unit) (C19 : Cd) =>
if isO C19 a0 14 then bnd (cR C19 1405 a0) fun (z21 : Option Nat) =>
drf z21 fun (p22 : Nat) =>
if isO C19 p22 11 then cal (fX8_add p22 (12000 + a2) C19) fun (r24 : Unit) (C23 : Cd) =>
if isO C23 a0 14 then bnd (cR C23 1405 a0) fun (z25 : Option Nat) =>
if isO C23 a0 14 then cal (fX11_makePage a0 a1 z25 C23) fun (r27 : Int) (C26 : Cd) =>
some (.inl r27, C26)
else none
else none
else none
else none
else none
else none
else none
else
J64 C13
else none
else none
else none) (fun (p10 : Nat) =>
J64 C3)
else none)
else none
else none
else none
def fX11_pagesOfTree (a0 : Nat) (a1 : Int) (C : Cd) : Option (Int × Cd) :=
bnd (lpn (fun (_ : Int) (_ : Int) (_ : Cd) => (none : Option (Int × Cd))) (fun L4 (v2_4 : Int) (v3_4 : Int) (C_4 : Cd) =>
if isO C_4 a0 14 then bnd (cR C_4 1401 a0) fun (z1 : Option Nat) =>
drf z1 fun (p2 : Nat) =>
if isO C_4 p2 102 then
if w32 (cn C_4 p2 : Int) ≤ w32 v3_4 then
some (v2_4, C_4)
else
bnd (fun (v2_38 : Int) (C_38 : Cd) =>
L4 v2_38 (v3_4 + 1) C_38) fun J38 =>
if ¬ w32 (divI v3_4 4) = w32 a1 then
J38 v2_4 C_4
else
if isO C_4 a0 14 then bnd (cR C_4 1401 a0) fun (z3 : Option Nat) =>
drf z3 fun (p4 : Nat) =>
if isO C_4 p4 102 ∧ inR v3_4 (cn C_4 p4) then bnd (cP C_4 p4 (ix v3_4)) fun (z5 : Option Nat) =>
drf z5 fun (p6 : Nat) =>
if isO C_4 p6 12 then bnd (cR C_4 1203 p6) fun (z7 : Option Nat) =>
opt z7 (
J38 v2_4 C_4) (fun (p8 : Nat) =>
bnd (orI v2_4 (shlI 1 v3_4)) fun (x2_37 : Int) =>
J38 x2_37 C_4)
else none
else none
else none
else none
else none) FU) fun J4 =>
J4 0 0 C
def fX11_pagesLeadingInto (a0 : Nat) (a1 : Int) (C : Cd) : Option (Int × Cd) :=
bnd (lpn (fun (_ : Int) (_ : Int) (_ : Cd) => (none : Option (Int × Cd))) (fun L4 (v2_4 : Int) (v3_4 : Int) (C_4 : Cd) =>
if isO C_4 a0 14 then bnd (cR C_4 1401 a0) fun (z1 : Option Nat) =>
drf z1 fun (p2 : Nat) =>
if isO C_4 p2 102 then
if w32 (cn C_4 p2 : Int) ≤ w32 v3_4 then
some (v2_4, C_4)
else
if isO C_4 a0 14 then bnd (cR C_4 1401 a0) fun (z3 : Option Nat) =>
drf z3 fun (p4 : Nat) =>
if isO C_4 p4 102 ∧ inR v3_4 (cn C_4 p4) then bnd (cP C_4 p4 (ix v3_4)) fun (z5 : Option Nat) =>
drf z5 fun (p6 : Nat) =>
if isO C_4 p6 12 then bnd (cR C_4 1203 p6) fun (z7 : Option Nat) =>
bnd (fun (v2_47 : Int) (C_47 : Cd) =>
L4 v2_47 (v3_4 + 1) C_47) fun J47 =>
opt z7 (
J47 v2_4 C_4) (fun (p8 : Nat) =>
if isO C_4 p8 6 then bnd (cR C_4 601 p8) fun (z9 : Option Nat) =>
drf z9 fun (p10 : Nat) =>
if isO C_4 p10 13 then bnd (cR C_4 1302 p10) fun (z11 : Option Nat) =>
drf z11 fun (p12 : Nat) =>
if isO C_4 p12 11 then cal (fX8_leadsInto_ p12 a1 C_4) fun (r14 : Int) (C13 : Cd) =>
if w32 r14 = 0 then
J47 v2_4 C13
else
J47 (v2_4 + 1) C13
else none
else none
else none)
else none
else none
else none
else none
else none) FU) fun J4 =>
J4 0 0 C
def fX11_moveTree (a0 : Nat) (a1 : Int) (a2 : Int) (C : Cd) : Option ((Int ⊕ Nat) × Cd) :=
bnd (fun  (C_20 : Cd) =>
some (.inr 2, cBump C_20)) fun J20 =>
if w32 a1 < 0 then
J20 C
else
if w32 6 ≤ w32 a1 then
J20 C
else
if w32 a2 < 0 then
J20 C
else
if w32 a2 < w32 6 then
if isO C a0 14 then cal (fX11_pagesOfTree a0 a1 C) fun (r2 : Int) (C1 : Cd) =>
if isO C1 a0 14 then cal (fX11_pagesLeadingInto a0 r2 C1) fun (r4 : Int) (C3 : Cd) =>
bnd (fun  (C_83 : Cd) =>
some (.inr 1, cBump C_83)) fun J83 =>
if w32 r2 = 0 then
J83 C3
else
if isO C3 a0 14 then cal (fX11_pagesOfTree a0 a2 C3) fun (r6 : Int) (C5 : Cd) =>
if ¬ w32 r6 = 0 then
J83 C5
else
if isO C5 a0 14 then cal (fX11_mayActInTree a0 a1 C5) fun (r8 : Int) (C7 : Cd) =>
if w32 r8 = 0 then
J83 C7
else
if isO C7 a0 14 then cal (fX11_mayActInTree a0 a2 C7) fun (r10 : Int) (C9 : Cd) =>
if w32 r10 = 0 then
J83 C9
else
if isO C9 a0 14 then
if w32 ((cI C9 1407 a0) + r4) ≤ w32 120 then
bnd ((a2 - a1) * 4) fun (x5_98 : Int) =>
bnd (lpn (fun (_ : Int) (_ : Cd) => (none : Option ((Int ⊕ Nat) × Cd))) (fun L103 (v6_103 : Int) (C_103 : Cd) =>
if isO C_103 a0 14 then bnd (cR C_103 1401 a0) fun (z11 : Option Nat) =>
drf z11 fun (p12 : Nat) =>
if isO C_103 p12 102 then
if w32 (cn C_103 p12 : Int) ≤ w32 v6_103 then
bnd (lpn (fun (_ : Int) (_ : Cd) => (none : Option ((Int ⊕ Nat) × Cd))) (fun L142 (v6_142 : Int) (C_142 : Cd) =>
if isO C_142 a0 14 then bnd (cR C_142 1401 a0) fun (z13 : Option Nat) =>
drf z13 fun (p14 : Nat) =>
if isO C_142 p14 102 then
if w32 (cn C_142 p14 : Int) ≤ w32 v6_142 then
some (.inl r4, C_142)
else
if isO C_142 a0 14 then bnd (cR C_142 1401 a0) fun (z15 : Option Nat) =>
drf z15 fun (p16 : Nat) =>
if isO C_142 p16 102 ∧ inR v6_142 (cn C_142 p16) then bnd (cP C_142 p16 (ix v6_142)) fun (z17 : Option Nat) =>
drf z17 fun (p18 : Nat) =>
if isO C_142 p18 12 then bnd (cR C_142 1203 p18) fun (z19 : Option Nat) =>
bnd (fun  (C_215 : Cd) =>
L142 (v6_142 + 1) C_215) fun J215 =>
opt z19 (
J215 C_142) (fun (p20 : Nat) =>
if isO C_142 p20 6 then bnd (cR C_142 601 p20) fun (z21 : Option Nat) =>
drf z21 fun (p22 : Nat) =>
if isO C_142 p22 13 then bnd (cR C_142 1302 p22) fun (z23 : Option Nat) =>
drf z23 fun (p24 : Nat) =>
if isO C_142 p24 11 then cal (fX8_leadsInto_ p24 r2 C_142) fun (r26 : Int) (C25 : Cd) =>
if w32 r26 = 0 then
J215 C25
else
if isO C25 p20 6 then bnd (cR C25 601 p20) fun (z27 : Option Nat) =>
drf z27 fun (p28 : Nat) =>
if isO C25 p28 13 then bnd (cR C25 1302 p28) fun (z29 : Option Nat) =>
if isO C25 a0 14 then bnd (cR C25 1405 a0) fun (z30 : Option Nat) =>
drf z29 fun (p31 : Nat) =>
if isO C25 p31 11 then cal (fX8_writeLeadingOn p31 r2 x5_98 z30 C25) fun (r33 : Unit) (C32 : Cd) =>
if isO C32 a0 14 then bnd (cR C32 1405 a0) fun (z34 : Option Nat) =>
if isO C32 a0 14 then cal (fX11_addNextVersion a0 v6_142 (some p20) z34 C32) fun (r36 : Int) (C35 : Cd) =>
J215 C35
else none
else none
else none
else none
else none
else none
else none
else none
else none)
else none
else none
else none
else none
else none) FU) fun J142 =>
J142 0 C_103
else
cal (fX11_has r2 v6_103 C_103) fun (r38 : Int) (C37 : Cd) =>
bnd (fun  (C_133 : Cd) =>
L103 (v6_103 + 1) C_133) fun J133 =>
if w32 r38 = 0 then
J133 C37
else
if isO C37 a0 14 then calx (fX11_bringOver a0 v6_103 (v6_103 + x5_98) C37) fun (r40 : Unit) (C39 : Cd) =>
J133 C39
else none
else none
else none) FU) fun J103 =>
J103 0 C9
else
J83 C9
else none
else none
else none
else none
else none
else none
else
J20 C
def fX11_wantedTitles (a0 : Nat) (C : Cd) : Option (Int × Cd) :=
bnd (lpn (fun (_ : Int) (_ : Int) (_ : Cd) => (none : Option (Int × Cd))) (fun L4 (v1_4 : Int) (v2_4 : Int) (C_4 : Cd) =>
if isO C_4 a0 14 then bnd (cR C_4 1401 a0) fun (z1 : Option Nat) =>
drf z1 fun (p2 : Nat) =>
if isO C_4 p2 102 then
if w32 (cn C_4 p2 : Int) ≤ w32 v2_4 then
some (v1_4, C_4)
else
if isO C_4 a0 14 then bnd (cR C_4 1401 a0) fun (z3 : Option Nat) =>
drf z3 fun (p4 : Nat) =>
if isO C_4 p4 102 ∧ inR v2_4 (cn C_4 p4) then bnd (cP C_4 p4 (ix v2_4)) fun (z5 : Option Nat) =>
drf z5 fun (p6 : Nat) =>
if isO C_4 p6 12 then bnd (cR C_4 1203 p6) fun (z7 : Option Nat) =>
bnd (fun (v1_39 : Int) (C_39 : Cd) =>
L4 v1_39 (v2_4 + 1) C_39) fun J39 =>
opt z7 (
if isO C_4 a0 14 then cal (fX11_linkingTo a0 v2_4 C_4) fun (r10 : Int) (C9 : Cd) =>
if w32 r10 = 0 then
J39 v1_4 C9
else
bnd (orI v1_4 (shlI 1 v2_4)) fun (x1_38 : Int) =>
J39 x1_38 C9
else none) (fun (p8 : Nat) =>
J39 v1_4 C_4)
else none
else none
else none
else none
else none) FU) fun J4 =>
J4 0 0 C
def fX11_odd (a0 : Nat) (a1 : Int) (C : Cd) : Option (Int × Cd) :=
bnd (fun (t0_15 : Int) (C_15 : Cd) =>
some (t0_15, C_15)) fun J15 =>
if w32 a1 = 0 then
if isO C a0 14 then cal (fX11_lonelyTitles a0 C) fun (r2 : Int) (C1 : Cd) =>
J15 r2 C1
else none
else
if isO C a0 14 then cal (fX11_wantedTitles a0 C) fun (r4 : Int) (C3 : Cd) =>
J15 r4 C3
else none
def fX11_protect (a0 : Nat) (a1 : Int) (a2 : Int) (C : Cd) : Option ((Int ⊕ Nat) × Cd) :=
if isO C a0 14 then calx (fX11_titleOf a0 a1 C) fun (r2 : Option Nat) (C1 : Cd) =>
bnd (fun  (C_15 : Cd) =>
some (.inr 0, cBump C_15)) fun J15 =>
if w32 a2 < 0 then
J15 C1
else
if w32 a2 ≤ w32 2 then
if isO C1 a0 14 then cal (fX11_mayActAt a0 r2 C1) fun (r4 : Int) (C3 : Cd) =>
bnd (fun  (C_41 : Cd) =>
some (.inr 1, cBump C_41)) fun J41 =>
if w32 r4 = 0 then
J41 C3
else
if isO C3 a0 14 then
if w32 a2 ≤ w32 (cI C3 1409 a0) then
drf r2 fun (p5 : Nat) =>
if isO C3 p5 12 then
bnd (cI C3 1204 p5) fun (x4_55 : Int) =>
if isO C3 p5 12 then bnd (cSetI C3 1204 p5 a2) fun (C6 : Cd) =>
some (.inl x4_55, C6)
else none
else none
else
J41 C3
else none
else none
else
J15 C1
else none
def fX11_queued (a0 : Nat) (C : Cd) : Option (Int × Cd) :=
bnd (lpn (fun (_ : Int) (_ : Int) (_ : Cd) => (none : Option (Int × Cd))) (fun L4 (v1_4 : Int) (v2_4 : Int) (C_4 : Cd) =>
if isO C_4 a0 14 then bnd (cR C_4 1401 a0) fun (z1 : Option Nat) =>
drf z1 fun (p2 : Nat) =>
if isO C_4 p2 102 then
if w32 (cn C_4 p2 : Int) ≤ w32 v2_4 then
some (v1_4, C_4)
else
if isO C_4 a0 14 then bnd (cR C_4 1401 a0) fun (z3 : Option Nat) =>
drf z3 fun (p4 : Nat) =>
if isO C_4 p4 102 ∧ inR v2_4 (cn C_4 p4) then bnd (cP C_4 p4 (ix v2_4)) fun (z5 : Option Nat) =>
drf z5 fun (p6 : Nat) =>
if isO C_4 p6 12 then cal (fX9_waits p6 C_4) fun (r8 : Int) (C7 : Cd) =>
bnd (fun (v1_28 : Int) (C_28 : Cd) =>
L4 v1_28 (v2_4 + 1) C_28) fun J28 =>
if w32 r8 = 0 then
J28 v1_4 C7
else
J28 (v1_4 + 1) C7
else none
else none
else none
else none
else none) FU) fun J4 =>
J4 0 0 C
def fX11_rank (a0 : Nat) (a1 : Int) (a2 : Int) (C : Cd) : Option ((Int ⊕ Nat) × Cd) :=
if isO C a0 14 then calx (fX11_titleOf a0 a1 C) fun (r2 : Option Nat) (C1 : Cd) =>
bnd (fun  (C_16 : Cd) =>
some (.inr 0, cBump C_16)) fun J16 =>
if w32 a2 < 0 then
J16 C1
else
if w32 a2 ≤ w32 99 then
drf r2 fun (p3 : Nat) =>
if isO C1 p3 12 then
bnd (cI C1 1205 p3) fun (x4_30 : Int) =>
if isO C1 p3 12 then bnd (cSetI C1 1205 p3 a2) fun (C4 : Cd) =>
some (.inl x4_30, C4)
else none
else none
else
J16 C1
else none
def fX11_render (a0 : Nat) (a1 : Int) (a2 : Option Nat) (C : Cd) : Option (Unit × Cd) :=
drf a2 fun (p1 : Nat) =>
if isO C p1 12 then bnd (cR C 1203 p1) fun (z2 : Option Nat) =>
opt z2 (
some ((), C)) (fun (p3 : Nat) =>
if isO C a0 14 then bnd (cR C 1400 a0) fun (z4 : Option Nat) =>
if isO C p1 12 then bnd (cR C 1203 p1) fun (z5 : Option Nat) =>
drf z5 fun (p6 : Nat) =>
if isO C p6 6 then bnd (cR C 601 p6) fun (z7 : Option Nat) =>
drf z7 fun (p8 : Nat) =>
if isO C p8 13 then bnd (cR C 1302 p8) fun (z9 : Option Nat) =>
drf z4 fun (p10 : Nat) =>
if isO C p10 4 then cal (fX1_expand p10 a1 z9 (-1) C) fun (r12 : Unit) (C11 : Cd) =>
if isO C11 p1 12 then bnd (cR C11 1200 p1) fun (z13 : Option Nat) =>
drf z13 fun (p14 : Nat) =>
if isO C11 p14 7 then
if isO C11 a0 14 then bnd (cR C11 1400 a0) fun (z15 : Option Nat) =>
drf z15 fun (p16 : Nat) =>
if isO C11 p16 4 then bnd (cR C11 407 p16) fun (z17 : Option Nat) =>
drf z17 fun (p18 : Nat) =>
if isO C11 p18 7 then
bnd (xorI (cI C11 704 p14) (cI C11 704 p18)) fun (x3_45 : Int) =>
if isO C11 p1 12 then bnd (cR C11 1200 p1) fun (z19 : Option Nat) =>
if isO C11 a0 14 then bnd (cR C11 1400 a0) fun (z20 : Option Nat) =>
drf z20 fun (p21 : Nat) =>
if isO C11 p21 4 then bnd (cR C11 407 p21) fun (z22 : Option Nat) =>
drf z19 fun (p23 : Nat) =>
if isO C11 p23 7 then cal (fX4_take p23 z22 C11) fun (r25 : Unit) (C24 : Cd) =>
if isO C24 a0 14 then cal (fX11_noteMemberChange a0 x3_45 C24) fun (r27 : Unit) (C26 : Cd) =>
some ((), C26)
else none
else none
else none
else none
else none
else none
else none
else none
else none
else none
else none
else none
else none
else none
else none)
else none
def fX11_read (a0 : Nat) (a1 : Int) (a2 : Int) (C : Cd) : Option ((Int ⊕ Nat) × Cd) :=
if isO C a0 14 then calx (fX11_pageOf a0 a1 C) fun (r2 : Option Nat) (C1 : Cd) =>
if isO C1 a0 14 then bnd (cR C1 1401 a0) fun (z3 : Option Nat) =>
drf z3 fun (p4 : Nat) =>
if isO C1 p4 102 ∧ inR a1 (cn C1 p4) then bnd (cP C1 p4 (ix a1)) fun (z5 : Option Nat) =>
drf z5 fun (p6 : Nat) =>
if isO C1 p6 12 then bnd (cR C1 1200 p6) fun (z7 : Option Nat) =>
drf z7 fun (p8 : Nat) =>
if isO C1 p8 7 then
bnd (fun  (C_43 : Cd) =>
if isO C_43 p6 12 then bnd (cR C_43 1200 p6) fun (z9 : Option Nat) =>
drf z9 fun (p10 : Nat) =>
if isO C_43 p10 7 then bnd (cR C_43 700 p10) fun (z11 : Option Nat) =>
drf z11 fun (p12 : Nat) =>
if isO C_43 p12 8 then
some (.inl (cI C_43 801 p12), C_43)
else none
else none
else none) fun J43 =>
bnd (fun  (C_37 : Cd) =>
if isO C_37 a0 14 then cal (fX11_render a0 a1 (some p6) C_37) fun (r14 : Unit) (C13 : Cd) =>
J43 C13
else none) fun J37 =>
if w32 (cI C1 701 p8) = 0 then
J37 C1
else
if isO C1 p6 12 then bnd (cR C1 1200 p6) fun (z15 : Option Nat) =>
drf z15 fun (p16 : Nat) =>
if isO C1 p16 7 then
if w32 (cI C1 702 p16) = 0 then
J43 C1
else
if ¬ w32 a2 = 0 then
J43 C1
else
J37 C1
else none
else none
else none
else none
else none
else none
else none
def fX11_shown (a0 : Nat) (a1 : Int) (a2 : Int) (C : Cd) : Option ((Int ⊕ Nat) × Cd) :=
if isO C a0 14 then calx (fX11_pageOf a0 a1 C) fun (r2 : Option Nat) (C1 : Cd) =>
if isO C1 a0 14 then calx (fX11_refuseBelowZero a0 a2 C1) fun (r4 : Unit) (C3 : Cd) =>
if isO C3 a0 14 then bnd (cR C3 1401 a0) fun (z5 : Option Nat) =>
drf z5 fun (p6 : Nat) =>
if isO C3 p6 102 ∧ inR a1 (cn C3 p6) then bnd (cP C3 p6 (ix a1)) fun (z7 : Option Nat) =>
drf z7 fun (p8 : Nat) =>
if isO C3 p8 12 then bnd (cR C3 1200 p8) fun (z9 : Option Nat) =>
drf z9 fun (p10 : Nat) =>
if isO C3 p10 7 then bnd (cR C3 700 p10) fun (z11 : Option Nat) =>
drf z11 fun (p12 : Nat) =>
if isO C3 p12 8 then cal (fX5_at p12 a2 C3) fun (r14 : Int) (C13 : Cd) =>
some (.inl r14, C13)
else none
else none
else none
else none
else none
else none
else none
def fX11_shownAnew (a0 : Nat) (a1 : Int) (a2 : Int) (C : Cd) : Option ((Int ⊕ Nat) × Cd) :=
if isO C a0 14 then calx (fX11_pageOf a0 a1 C) fun (r2 : Option Nat) (C1 : Cd) =>
if isO C1 a0 14 then calx (fX11_refuseBelowZero a0 a2 C1) fun (r4 : Unit) (C3 : Cd) =>
if isO C3 a0 14 then bnd (cR C3 1400 a0) fun (z5 : Option Nat) =>
drf r2 fun (p6 : Nat) =>
if isO C3 p6 6 then bnd (cR C3 601 p6) fun (z7 : Option Nat) =>
drf z7 fun (p8 : Nat) =>
if isO C3 p8 13 then bnd (cR C3 1302 p8) fun (z9 : Option Nat) =>
drf z5 fun (p10 : Nat) =>
if isO C3 p10 4 then cal (fX1_expand p10 a1 z9 (-1) C3) fun (r12 : Unit) (C11 : Cd) =>
if isO C11 a0 14 then bnd (cR C11 1400 a0) fun (z13 : Option Nat) =>
drf z13 fun (p14 : Nat) =>
if isO C11 p14 4 then bnd (cR C11 407 p14) fun (z15 : Option Nat) =>
drf z15 fun (p16 : Nat) =>
if isO C11 p16 7 then bnd (cR C11 700 p16) fun (z17 : Option Nat) =>
drf z17 fun (p18 : Nat) =>
if isO C11 p18 8 then cal (fX5_at p18 a2 C11) fun (r20 : Int) (C19 : Cd) =>
some (.inl r20, C19)
else none
else none
else none
else none
else none
else none
else none
else none
else none
else none
def fX11_token (a0 : Nat) (a1 : Int) (a2 : Int) (C : Cd) : Option ((Int ⊕ Nat) × Cd) :=
if isO C a0 14 then cal (fX11_isAmong a0 0 a1 a2 C) fun (r2 : Int) (C1 : Cd) =>
if ¬ w32 r2 = 0 then
if isO C1 a0 14 then bnd (cR C1 1403 a0) fun (z3 : Option Nat) =>
drf z3 fun (p4 : Nat) =>
if isO C1 p4 11 then
if w32 (cI C1 1102 p4) < w32 30 then
if isO C1 a0 14 then bnd (cR C1 1403 a0) fun (z5 : Option Nat) =>
drf z5 fun (p6 : Nat) =>
if isO C1 p6 11 then cal (fX8_add p6 ((a1 * 1000) + a2) C1) fun (r8 : Unit) (C7 : Cd) =>
if isO C7 a0 14 then bnd (cR C7 1403 a0) fun (z9 : Option Nat) =>
drf z9 fun (p10 : Nat) =>
if isO C7 p10 11 then
some (.inl (cI C7 1102 p10), C7)
else none
else none
else none
else none
else
some (.inr 1, cBump C1)
else none
else none
else
some (.inr 0, cBump C1)
else none
def fX11_tokenAt (a0 : Nat) (a1 : Int) (a2 : Int) (C : Cd) : Option ((Int ⊕ Nat) × Cd) :=
if isO C a0 14 then calx (fX11_pageOf a0 a1 C) fun (r2 : Option Nat) (C1 : Cd) =>
if isO C1 a0 14 then calx (fX11_refuseBelowZero a0 a2 C1) fun (r4 : Unit) (C3 : Cd) =>
drf r2 fun (p5 : Nat) =>
if isO C3 p5 6 then bnd (cR C3 601 p5) fun (z6 : Option Nat) =>
drf z6 fun (p7 : Nat) =>
if isO C3 p7 13 then bnd (cR C3 1302 p7) fun (z8 : Option Nat) =>
drf z8 fun (p9 : Nat) =>
if isO C3 p9 11 then cal (fX8_codeAt p9 a2 C3) fun (r11 : Int) (C10 : Cd) =>
some (.inl r11, C10)
else none
else none
else none
else none
else none
def fX11_translate (a0 : Nat) (a1 : Int) (a2 : Int) (a3 : Int) (C : Cd) : Option ((Int ⊕ Nat) × Cd) :=
if isO C a0 14 then calx (fX11_titleOf a0 a3 C) fun (r2 : Option Nat) (C1 : Cd) =>
if isO C1 a0 14 then calx (fX11_pageOf a0 a1 C1) fun (r4 : Option Nat) (C3 : Cd) =>
bnd (fun  (C_28 : Cd) =>
some (.inr 0, cBump C_28)) fun J28 =>
if w32 a2 < w32 1 then
J28 C3
else
if w32 2 < w32 a2 then
J28 C3
else
if ¬ w32 a1 = w32 a3 then
if isO C3 a0 14 then bnd (cR C3 1401 a0) fun (z5 : Option Nat) =>
drf z5 fun (p6 : Nat) =>
if isO C3 p6 102 ∧ inR a1 (cn C3 p6) then bnd (cP C3 p6 (ix a1)) fun (z7 : Option Nat) =>
drf z7 fun (p8 : Nat) =>
if isO C3 p8 12 then bnd (cR C3 1201 p8) fun (z9 : Option Nat) =>
drf z9 fun (p10 : Nat) =>
if isO C3 p10 100 ∧ inR a2 (cn C3 p10) then
bnd (cE C3 p10 (ix a2)) fun (x6_53 : Int) =>
if isO C3 p8 12 then bnd (cR C3 1201 p8) fun (z11 : Option Nat) =>
drf z11 fun (p12 : Nat) =>
if isO C3 p12 100 ∧ inR a2 (cn C3 p12) then bnd (cSetE C3 p12 (ix a2) a3) fun (C13 : Cd) =>
if isO C13 p8 12 then bnd (cR C13 1202 p8) fun (z14 : Option Nat) =>
drf r4 fun (p15 : Nat) =>
if isO C13 p15 6 then bnd (cR C13 601 p15) fun (z16 : Option Nat) =>
drf z16 fun (p17 : Nat) =>
if isO C13 p17 13 then
drf z14 fun (p18 : Nat) =>
if isO C13 p18 100 ∧ inR a2 (cn C13 p18) then bnd (cSetE C13 p18 (ix a2) (cI C13 1300 p17)) fun (C19 : Cd) =>
some (.inl x6_53, C19)
else none
else none
else none
else none
else none
else none
else none
else none
else none
else none
else
J28 C3
else none
else none
def fX11_undo (a0 : Nat) (a1 : Int) (a2 : Int) (C : Cd) : Option ((Int ⊕ Nat) × Cd) :=
if isO C a0 14 then calx (fX11_pageOf a0 a1 C) fun (r2 : Option Nat) (C1 : Cd) =>
drf r2 fun (p3 : Nat) =>
if isO C1 p3 6 then cal (fX3_indexOf p3 a2 C1) fun (r5 : Int) (C4 : Cd) =>
if isO C4 p3 6 then cal (fX3_versionAtIndex p3 r5 C4) fun (r7 : Option Nat) (C6 : Cd) =>
if isO C6 p3 6 then cal (fX3_versionAtIndex p3 (r5 - 1) C6) fun (r9 : Option Nat) (C8 : Cd) =>
bnd (fun  (C_41 : Cd) =>
some (.inr 2, cBump C_41)) fun J41 =>
opt r7 (
J41 C8) (fun (p10 : Nat) =>
opt r9 (
J41 C8) (fun (p11 : Nat) =>
if isO C8 a0 14 then bnd (cR C8 1401 a0) fun (z12 : Option Nat) =>
drf z12 fun (p13 : Nat) =>
if isO C8 p13 102 ∧ inR a1 (cn C8 p13) then bnd (cP C8 p13 (ix a1)) fun (z14 : Option Nat) =>
if isO C8 a0 14 then cal (fX11_mayActAt a0 z14 C8) fun (r16 : Int) (C15 : Cd) =>
bnd (fun (t0_103 : Int) (C_103 : Cd) =>
bnd (fun  (C_137 : Cd) =>
some (.inr 1, cBump C_137)) fun J137 =>
if w32 t0_103 = 0 then
J137 C_103
else
if isO C_103 a0 14 then bnd (cR C_103 1405 a0) fun (z17 : Option Nat) =>
drf z17 fun (p18 : Nat) =>
if isO C_103 p18 11 then cal (fX8_isText p18 C_103) fun (r20 : Int) (C19 : Cd) =>
if w32 r20 = 0 then
J137 C19
else
if isO C19 a0 14 then bnd (cR C19 1405 a0) fun (z21 : Option Nat) =>
if isO C19 p3 6 then bnd (cR C19 601 p3) fun (z22 : Option Nat) =>
drf z22 fun (p23 : Nat) =>
if isO C19 p23 13 then bnd (cR C19 1302 p23) fun (z24 : Option Nat) =>
drf z21 fun (p25 : Nat) =>
if isO C19 p25 11 then cal (fX8_sameAs p25 z24 C19) fun (r27 : Int) (C26 : Cd) =>
if w32 r27 = 0 then
if isO C26 a0 14 then bnd (cR C26 1405 a0) fun (z28 : Option Nat) =>
if isO C26 a0 14 then cal (fX11_addNextVersion a0 a1 (some p3) z28 C26) fun (r30 : Int) (C29 : Cd) =>
some (.inl r30, C29)
else none
else none
else
J137 C26
else none
else none
else none
else none
else none
else none) fun J103 =>
bnd (fun  (C_102 : Cd) =>
J103 0 C_102) fun J102 =>
if w32 r16 = 0 then
J102 C15
else
if isO C15 a0 14 then
if w32 120 ≤ w32 (cI C15 1407 a0) then
J102 C15
else
if isO C15 p10 13 then bnd (cR C15 1302 p10) fun (z31 : Option Nat) =>
if isO C15 p11 13 then bnd (cR C15 1302 p11) fun (z32 : Option Nat) =>
if isO C15 p3 6 then bnd (cR C15 601 p3) fun (z33 : Option Nat) =>
drf z33 fun (p34 : Nat) =>
if isO C15 p34 13 then bnd (cR C15 1302 p34) fun (z35 : Option Nat) =>
if isO C15 a0 14 then cal (fX11_merge a0 z31 z32 z35 0 C15) fun (r37 : Int) (C36 : Cd) =>
if w32 r37 = 0 then
J102 C36
else
J103 1 C36
else none
else none
else none
else none
else none
else none
else none
else none
else none))
else none
else none
else none
else none
def fX11_versionAt (a0 : Nat) (a1 : Int) (a2 : Int) (C : Cd) : Option ((Int ⊕ Nat) × Cd) :=
if isO C a0 14 then calx (fX11_titleOf a0 a1 C) fun (r2 : Option Nat) (C1 : Cd) =>
drf r2 fun (p3 : Nat) =>
if isO C1 p3 12 then bnd (cR C1 1203 p3) fun (z4 : Option Nat) =>
bnd (fun (t0_22 : Option Nat) (C_22 : Cd) =>
opt t0_22 (
some (.inr 2, cBump C_22)) (fun (p5 : Nat) =>
if isO C_22 p5 13 then
some (.inl (cI C_22 1300 p5), C_22)
else none)) fun J22 =>
opt z4 (
J22 none C1) (fun (p6 : Nat) =>
if isO C1 p6 6 then cal (fX3_versionAtIndex p6 a2 C1) fun (r8 : Option Nat) (C7 : Cd) =>
J22 r8 C7
else none)
else none
else none
def fX11_versions (a0 : Nat) (a1 : Int) (C : Cd) : Option ((Int ⊕ Nat) × Cd) :=
if isO C a0 14 then calx (fX11_titleOf a0 a1 C) fun (r2 : Option Nat) (C1 : Cd) =>
drf r2 fun (p3 : Nat) =>
if isO C1 p3 12 then bnd (cR C1 1203 p3) fun (z4 : Option Nat) =>
bnd (fun (t0_24 : Int) (C_24 : Cd) =>
some (.inl t0_24, C_24)) fun J24 =>
opt z4 (
J24 0 C1) (fun (p5 : Nat) =>
if isO C1 p5 6 then bnd (cR C1 600 p5) fun (z6 : Option Nat) =>
drf z6 fun (p7 : Nat) =>
if isO C1 p7 2 then cal (fAL_size p7 C1) fun (r9 : Int) (C8 : Cd) =>
J24 r9 C8
else none
else none)
else none
else none
def fX11_wipe (a0 : Nat) (C : Cd) : Option (Int × Cd) :=
if isO C a0 14 then bnd (cR C 1403 a0) fun (z1 : Option Nat) =>
drf z1 fun (p2 : Nat) =>
if isO C p2 11 then
bnd (cI C 1102 p2) fun (x1_7 : Int) =>
if isO C a0 14 then bnd (cR C 1403 a0) fun (z3 : Option Nat) =>
drf z3 fun (p4 : Nat) =>
if isO C p4 11 then cal (fX8_clear p4 C) fun (r6 : Unit) (C5 : Cd) =>
some (x1_7, C5)
else none
else none
else none
else none
def fX11_work (a0 : Nat) (a1 : Int) (C : Cd) : Option ((Int ⊕ Nat) × Cd) :=
bnd (fun  (C_10 : Cd) =>
some (.inr 0, cBump C_10)) fun J10 =>
if w32 a1 < w32 1 then
J10 C
else
if w32 a1 ≤ w32 4 then
bnd (lpn (fun (_ : Int) (_ : Int) (_ : Cd) => (none : Option ((Int ⊕ Nat) × Cd))) (fun L24 (v2_24 : Int) (v3_24 : Int) (C_24 : Cd) =>
bnd (fun  (C_66 : Cd) =>
some (.inl v2_24, C_66)) fun J66 =>
if w32 a1 ≤ w32 v3_24 then
J66 C_24
else
if isO C_24 a0 14 then cal (fX11_firstInQueue a0 C_24) fun (r2 : Int) (C1 : Cd) =>
if ¬ w32 r2 = w32 (-1) then
if isO C1 a0 14 then bnd (cR C1 1401 a0) fun (z3 : Option Nat) =>
drf z3 fun (p4 : Nat) =>
if isO C1 p4 102 ∧ inR r2 (cn C1 p4) then bnd (cP C1 p4 (ix r2)) fun (z5 : Option Nat) =>
if isO C1 a0 14 then cal (fX11_render a0 r2 z5 C1) fun (r7 : Unit) (C6 : Cd) =>
L24 (v2_24 + 1) (v3_24 + 1) C6
else none
else none
else none
else
J66 C1
else none) FU) fun J24 =>
J24 0 0 C
else
J10 C
