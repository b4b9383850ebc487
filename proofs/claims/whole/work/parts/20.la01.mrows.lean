/-! THE REFERENCE MADE: its rows -/
section MIN
/-- rows laid one after another, each noted in the one who is made -/
def mkRows (a0 : Nat) (K : Cd → Option (Unit × Cd)) : List (Nat × Nat × Int) → Cd → Option (Unit × Cd)
  | [], C => K C
  | (k, t, n) :: L, C => if 0 ≤ w32 n ∧ w32 n < 1000000 then bnd (cNewA C t (ix n)) fun (C1 : Cd) => if isO C1 a0 15 then bnd (cSetR C1 k a0 (some (csz C))) fun (C2 : Cd) => mkRows a0 K L C2 else none else none
def mRows : List (Nat × Nat × Int) := [(1500, 100, 30), (1503, 100, 24), (1504, 100, 24), (1506, 100, 24), (1509, 100, 3600), (1510, 100, 120), (1511, 100, 120), (1512, 100, 120), (1514, 100, 2000), (1515, 100, 2000), (1516, 100, 2000), (1517, 100, 48), (1518, 100, 48), (1519, 100, 64), (1520, 100, 64), (1521, 100, 4), (1523, 100, 24), (1524, 100, 8), (1525, 100, 4), (1526, 100, 24), (1527, 101, 24), (1528, 100, 24), (1529, 100, 3600), (1530, 100, 24), (1531, 100, 24), (1532, 100, 24), (1533, 100, 24), (1534, 100, 24), (1535, 100, 24), (1537, 100, 61), (1538, 100, 61), (1541, 100, 41), (1542, 100, 41), (1543, 100, 41), (1544, 100, 41), (1545, 100, 410), (1546, 100, 410), (1547, 100, 410), (1549, 100, 1700), (1550, 100, 255000), (1552, 100, 700), (1553, 100, 700), (1554, 100, 700), (1555, 100, 700), (1556, 100, 22400), (1557, 100, 22400), (1558, 100, 22400), (1560, 100, 4000), (1561, 100, 4000), (1562, 100, 4000), (1563, 100, 4000), (1564, 100, 4000), (1572, 100, 9), (1574, 100, 60), (1576, 100, 200), (1578, 100, 1)]
set_option maxRecDepth 100000 in
theorem fX12_init_def (a0 : Nat) (C : Cd) : fX12_init a0 C = mkRows a0 (fun C1 =>
bnd (lpn (fun (_ : Int) (_ : Cd) => (none : Option (Unit × Cd))) (fun L473 (v1_473 : Int) (C_473 : Cd) =>
if w32 24 ≤ w32 v1_473 then
some ((), C_473)
else
if isO C_473 a0 15 then bnd (cR C_473 1506 a0) fun (z113 : Option Nat) =>
drf z113 fun (p114 : Nat) =>
if isO C_473 p114 100 ∧ inR v1_473 (cn C_473 p114) then bnd (cSetE C_473 p114 (ix v1_473) (-1)) fun (C115 : Cd) =>
if isO C115 a0 15 then bnd (cR C115 1526 a0) fun (z116 : Option Nat) =>
drf z116 fun (p117 : Nat) =>
if isO C115 p117 100 ∧ inR v1_473 (cn C115 p117) then bnd (cSetE C115 p117 (ix v1_473) (-1)) fun (C118 : Cd) =>
if isO C118 a0 15 then bnd (cR C118 1517 a0) fun (z119 : Option Nat) =>
drf z119 fun (p120 : Nat) =>
if isO C118 p120 100 ∧ inR v1_473 (cn C118 p120) then bnd (cSetE C118 p120 (ix v1_473) (-1)) fun (C121 : Cd) =>
if isO C121 a0 15 then bnd (cR C121 1517 a0) fun (z122 : Option Nat) =>
drf z122 fun (p123 : Nat) =>
if isO C121 p123 100 ∧ inR (24 + v1_473) (cn C121 p123) then bnd (cSetE C121 p123 (ix (24 + v1_473)) (-1)) fun (C124 : Cd) =>
L473 (v1_473 + 1) C124
else none
else none
else none
else none
else none
else none
else none
else none) FU) fun J473 =>
J473 0 C1) mRows C := by
  unfold fX12_init mRows
  iterate 56 (unfold mkRows)
  unfold mkRows
  rfl
end MIN
