/-! THE JDK'S OWN: what its methods do to a list (contracts still open: sorry) -/
theorem hc_AL : vwCl[2]? = some ("java/util/ArrayList", TJx4a65c, 3) := rfl
/-- ArrayList(): its row is the empty old one, written 0 -/
def fAL_init (a : Nat) (C : Cd) : Option (Unit × Cd) := if isO C a 2 then some ((), cSetR C 201 a (some 0)) else none
def fAL_size (a : Nat) (C : Cd) : Option (Int × Cd) := if isO C a 2 then some (cI C 202 a, C) else none
def fAL_get (a : Nat) (i : Int) (C : Cd) : Option (Option Nat × Cd) := if isO C a 2 then drf (cR C 201 a) fun (e : Nat) => if (0 ≤ w32 i ∧ w32 i < w32 (cI C 202 a)) ∧ isO C e 107 ∧ inR i (cn C e) then some (cP C e (ix i), C) else none else none
/-- a copy of a list's row with room for n -/
def alCopy (C : Cd) (e n : Nat) : Cd := (cI C, cR C, fun a' i' => if a' = csz C then 0 else cE C a' i', fun a' i' => if a' = csz C then (if i' < cn C e then cP C e i' else none) else cP C a' i', fun a' => if a' = csz C then n else cn C a', fun a' => if a' = csz C then 107 else cty C a', cL C ++ [csz C], csz C + 1, csl C + n)
/-- a list's row with more room: the first one, or a longer copy -/
def alGrow (a : Nat) (C : Cd) : Option Cd :=
  if cR C 201 a = some 0 then some (cSetR (cNewA C 107 10) 201 a (some (csz C)))
  else drf (cR C 201 a) fun (e : Nat) => if isO C e 107 ∧ 2 ≤ cn C e ∧ cn C e ≤ 40000 then some (cSetR (alCopy C e (cn C e + cn C e / 2)) 201 a (some (csz C))) else none
/-- is there no room? -/
def alFull (a : Nat) (C : Cd) : Bool := match cR C 201 a with
  | none => true
  | some e => if e = 0 then true else decide (w32 (cI C 202 a) = (cn C e : Int))
/-- its row with one more at the place n -/
def alPut (a : Nat) (n : Nat) (v : Option Nat) (C : Cd) : Option Cd := drf (cR C 201 a) fun (e : Nat) => if isO C e 107 ∧ n < cn C e then
    some (cSetI (cSetP C e n v) 202 a (n + 1)) else none
def fAL_add (a : Nat) (v : Option Nat) (C : Cd) : Option (Int × Cd) :=
  if isO C a 2 ∧ 0 ≤ w32 (cI C 202 a) ∧ w32 (cI C 202 a) < 30000 then
    bnd (cSetI C 200 a (cI C 200 a + 1)) fun (C1 : Cd) =>
    (if alFull a C1 = true then alGrow a C1 else some C1).bind fun (C2 : Cd) => (alPut a (ix (cI C 202 a)) v C2).map fun C3 => (1, C3)
  else none
/-- the places from i on of a row, one further, and v at i -/
def alShift (C : Cd) (e i n : Nat) (v : Option Nat) : Cd := (cI C, cR C, cE C, fun a' j => if a' = e then (if j = i then v else if i < j ∧ j ≤ n then cP C e (j - 1) else cP C e j) else cP C a' j, C.2.2.2.2)
def fAL_addAt (a : Nat) (i : Int) (v : Option Nat) (C : Cd) : Option (Unit × Cd) :=
  if isO C a 2 ∧ (0 ≤ w32 (cI C 202 a) ∧ w32 (cI C 202 a) < 30000) ∧ 0 ≤ w32 i ∧ w32 i ≤ w32 (cI C 202 a) then
    bnd (cSetI C 200 a (cI C 200 a + 1)) fun (C1 : Cd) =>
    (if alFull a C1 = true then alGrow a C1 else some C1).bind fun (C2 : Cd) => drf (cR C2 201 a) fun (e : Nat) => if isO C2 e 107 ∧ ix (cI C 202 a) < cn C2 e then
      some ((), cSetI (alShift C2 e (ix i) (ix (cI C 202 a)) v) 202 a (ix (cI C 202 a) + 1)) else none
  else none
def nBits (n : Nat) : Nat → Nat
  | 0 => 0
  | k + 1 => nBits n k + (if n.testBit k then 1 else 0)
def fbitCount (x : Int) (C : Cd) : Option (Int × Cd) := if 0 ≤ w32 x then some ((nBits (w32 x).toNat 32 : Int), C) else none
def k_AL_init : Kd := (yJx4a65c_init_da8c8, cJx4a65c_init_da8c8, 1, none, [])
theorem kv_AL_init : KI k_AL_init 0 := ⟨uw_mem 780 (by decide +kernel) rfl, uw_mem 181 (by decide +kernel) rfl, uw_mem 779 (by decide +kernel) rfl, ⟨rfl, rfl⟩, ⟨by decide +kernel, by decide +kernel⟩, by decide +kernel, by decide +kernel⟩
def k_AL_size : Kd := (yJx4a65c_size_8abf5, cJx4a65c_size_8abf5, 1, some .int, [])
theorem kv_AL_size : KV k_AL_size 0 := ⟨uw_mem 904 (by decide +kernel) rfl, uw_mem 181 (by decide +kernel) rfl, uw_mem 902 (by decide +kernel) rfl, uw_mem 903 (by decide +kernel) rfl, ⟨by decide +kernel, by decide +kernel⟩, by decide +kernel, by decide +kernel⟩
def k_AL_get : Kd := (yJx4a65c_get_915e3, cJx4a65c_get_915e3, 2, some (.object "java/lang/Object"), [])
theorem kv_AL_get : KV k_AL_get 1 := ⟨uw_mem 908 (by decide +kernel) rfl, uw_mem 181 (by decide +kernel) rfl, uw_mem 906 (by decide +kernel) rfl, uw_mem 907 (by decide +kernel) rfl, ⟨by decide +kernel, by decide +kernel⟩, by decide +kernel, by decide +kernel⟩
def k_AL_add : Kd := (yJx4a65c_add_9ea2d, cJx4a65c_add_9ea2d, 2, some .boolean, [])
theorem kv_AL_add : KV k_AL_add 1 := ⟨uw_mem 805 (by decide +kernel) rfl, uw_mem 181 (by decide +kernel) rfl, uw_mem 803 (by decide +kernel) rfl, uw_mem 804 (by decide +kernel) rfl, ⟨by decide +kernel, by decide +kernel⟩, by decide +kernel, by decide +kernel⟩
def k_AL_addAt : Kd := (yJx4a65c_add_7a177, cJx4a65c_add_7a177, 5, none, [])
theorem kv_AL_addAt : KV k_AL_addAt 2 := ⟨uw_mem 971 (by decide +kernel) rfl, uw_mem 181 (by decide +kernel) rfl, uw_mem 969 (by decide +kernel) rfl, uw_mem 970 (by decide +kernel) rfl, ⟨by decide +kernel, by decide +kernel⟩, by decide +kernel, by decide +kernel⟩
def k_bitCount : Kd := (yJ6_bitCount_0f7a4, cJ6_bitCount_0f7a4, 1, some .int, [])
theorem kv_bitCount : KS k_bitCount 1 := ⟨uw_mem 1484 (by decide +kernel) rfl, uw_mem 194 (by decide +kernel) rfl, uw_mem 1483 (by decide +kernel) rfl, ⟨by decide +kernel, by decide +kernel⟩, by decide +kernel, by decide +kernel⟩
theorem c_AL_init {l : Launch} {Γ : Cx} {M0 : Md} (hG : GK Γ l) (a : Nat) (C : Cd) : Ct l Γ k_AL_init 4 encV (emC M0) [.ref a] C (fAL_init a C) := sorry
theorem c_AL_size {l : Launch} {Γ : Cx} {M0 : Md} (hG : GK Γ l) (a : Nat) (C : Cd) : Ct l Γ k_AL_size 1 encI (emC M0) [.ref a] C (fAL_size a C) := sorry
theorem c_AL_get {l : Launch} {Γ : Cx} {M0 : Md} (hG : GK Γ l) (a : Nat) (i : Int) (C : Cd) : Ct l Γ k_AL_get 4 encR (emC M0) [.ref a, wi i] C (fAL_get a i C) := sorry
theorem c_AL_add {l : Launch} {Γ : Cx} {M0 : Md} (hG : GK Γ l) (a : Nat) (v : Option Nat) (C : Cd) : Ct l Γ k_AL_add 8 encI (emC M0) [.ref a, va_rf v] C (fAL_add a v C) := sorry
theorem c_AL_addAt {l : Launch} {Γ : Cx} {M0 : Md} (hG : GK Γ l) (a : Nat) (i : Int) (v : Option Nat) (C : Cd) : Ct l Γ k_AL_addAt 8 encV (emC M0) [.ref a, wi i, va_rf v] C (fAL_addAt a i v C) := sorry
theorem c_bitCount {l : Launch} {Γ : Cx} {M0 : Md} (hG : GK Γ l) (x : Int) (C : Cd) : Ct l Γ k_bitCount 1 encI (emC M0) [wi x] C (fbitCount x C) := sorry
