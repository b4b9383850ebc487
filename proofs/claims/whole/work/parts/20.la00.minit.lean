set_option maxRecDepth 100000 in
def fX12_init (a0 : Nat) (C : Cd) : Option (Unit × Cd) :=
if 0 ≤ w32 30 ∧ w32 30 < 1000000 then bnd (cNewA C 100 (ix 30)) fun (C1 : Cd) =>
if isO C1 a0 15 then bnd (cSetR C1 1500 a0 (some (csz C))) fun (C2 : Cd) =>
if 0 ≤ w32 24 ∧ w32 24 < 1000000 then bnd (cNewA C2 100 (ix 24)) fun (C3 : Cd) =>
if isO C3 a0 15 then bnd (cSetR C3 1503 a0 (some (csz C2))) fun (C4 : Cd) =>
if 0 ≤ w32 24 ∧ w32 24 < 1000000 then bnd (cNewA C4 100 (ix 24)) fun (C5 : Cd) =>
if isO C5 a0 15 then bnd (cSetR C5 1504 a0 (some (csz C4))) fun (C6 : Cd) =>
if 0 ≤ w32 24 ∧ w32 24 < 1000000 then bnd (cNewA C6 100 (ix 24)) fun (C7 : Cd) =>
if isO C7 a0 15 then bnd (cSetR C7 1506 a0 (some (csz C6))) fun (C8 : Cd) =>
if 0 ≤ w32 3600 ∧ w32 3600 < 1000000 then bnd (cNewA C8 100 (ix 3600)) fun (C9 : Cd) =>
if isO C9 a0 15 then bnd (cSetR C9 1509 a0 (some (csz C8))) fun (C10 : Cd) =>
if 0 ≤ w32 120 ∧ w32 120 < 1000000 then bnd (cNewA C10 100 (ix 120)) fun (C11 : Cd) =>
if isO C11 a0 15 then bnd (cSetR C11 1510 a0 (some (csz C10))) fun (C12 : Cd) =>
if 0 ≤ w32 120 ∧ w32 120 < 1000000 then bnd (cNewA C12 100 (ix 120)) fun (C13 : Cd) =>
if isO C13 a0 15 then bnd (cSetR C13 1511 a0 (some (csz C12))) fun (C14 : Cd) =>
if 0 ≤ w32 120 ∧ w32 120 < 1000000 then bnd (cNewA C14 100 (ix 120)) fun (C15 : Cd) =>
if isO C15 a0 15 then bnd (cSetR C15 1512 a0 (some (csz C14))) fun (C16 : Cd) =>
if 0 ≤ w32 2000 ∧ w32 2000 < 1000000 then bnd (cNewA C16 100 (ix 2000)) fun (C17 : Cd) =>
if isO C17 a0 15 then bnd (cSetR C17 1514 a0 (some (csz C16))) fun (C18 : Cd) =>
if 0 ≤ w32 2000 ∧ w32 2000 < 1000000 then bnd (cNewA C18 100 (ix 2000)) fun (C19 : Cd) =>
if isO C19 a0 15 then bnd (cSetR C19 1515 a0 (some (csz C18))) fun (C20 : Cd) =>
if 0 ≤ w32 2000 ∧ w32 2000 < 1000000 then bnd (cNewA C20 100 (ix 2000)) fun (C21 : Cd) =>
if isO C21 a0 15 then bnd (cSetR C21 1516 a0 (some (csz C20))) fun (C22 : Cd) =>
if 0 ≤ w32 48 ∧ w32 48 < 1000000 then bnd (cNewA C22 100 (ix 48)) fun (C23 : Cd) =>
if isO C23 a0 15 then bnd (cSetR C23 1517 a0 (some (csz C22))) fun (C24 : Cd) =>
if 0 ≤ w32 48 ∧ w32 48 < 1000000 then bnd (cNewA C24 100 (ix 48)) fun (C25 : Cd) =>
if isO C25 a0 15 then bnd (cSetR C25 1518 a0 (some (csz C24))) fun (C26 : Cd) =>
if 0 ≤ w32 64 ∧ w32 64 < 1000000 then bnd (cNewA C26 100 (ix 64)) fun (C27 : Cd) =>
if isO C27 a0 15 then bnd (cSetR C27 1519 a0 (some (csz C26))) fun (C28 : Cd) =>
if 0 ≤ w32 64 ∧ w32 64 < 1000000 then bnd (cNewA C28 100 (ix 64)) fun (C29 : Cd) =>
if isO C29 a0 15 then bnd (cSetR C29 1520 a0 (some (csz C28))) fun (C30 : Cd) =>
if 0 ≤ w32 4 ∧ w32 4 < 1000000 then bnd (cNewA C30 100 (ix 4)) fun (C31 : Cd) =>
if isO C31 a0 15 then bnd (cSetR C31 1521 a0 (some (csz C30))) fun (C32 : Cd) =>
if 0 ≤ w32 24 ∧ w32 24 < 1000000 then bnd (cNewA C32 100 (ix 24)) fun (C33 : Cd) =>
if isO C33 a0 15 then bnd (cSetR C33 1523 a0 (some (csz C32))) fun (C34 : Cd) =>
if 0 ≤ w32 8 ∧ w32 8 < 1000000 then bnd (cNewA C34 100 (ix 8)) fun (C35 : Cd) =>
if isO C35 a0 15 then bnd (cSetR C35 1524 a0 (some (csz C34))) fun (C36 : Cd) =>
if 0 ≤ w32 4 ∧ w32 4 < 1000000 then bnd (cNewA C36 100 (ix 4)) fun (C37 : Cd) =>
if isO C37 a0 15 then bnd (cSetR C37 1525 a0 (some (csz C36))) fun (C38 : Cd) =>
if 0 ≤ w32 24 ∧ w32 24 < 1000000 then bnd (cNewA C38 100 (ix 24)) fun (C39 : Cd) =>
if isO C39 a0 15 then bnd (cSetR C39 1526 a0 (some (csz C38))) fun (C40 : Cd) =>
if 0 ≤ w32 24 ∧ w32 24 < 1000000 then bnd (cNewA C40 101 (ix 24)) fun (C41 : Cd) =>
if isO C41 a0 15 then bnd (cSetR C41 1527 a0 (some (csz C40))) fun (C42 : Cd) =>
if 0 ≤ w32 24 ∧ w32 24 < 1000000 then bnd (cNewA C42 100 (ix 24)) fun (C43 : Cd) =>
if isO C43 a0 15 then bnd (cSetR C43 1528 a0 (some (csz C42))) fun (C44 : Cd) =>
if 0 ≤ w32 3600 ∧ w32 3600 < 1000000 then bnd (cNewA C44 100 (ix 3600)) fun (C45 : Cd) =>
if isO C45 a0 15 then bnd (cSetR C45 1529 a0 (some (csz C44))) fun (C46 : Cd) =>
if 0 ≤ w32 24 ∧ w32 24 < 1000000 then bnd (cNewA C46 100 (ix 24)) fun (C47 : Cd) =>
if isO C47 a0 15 then bnd (cSetR C47 1530 a0 (some (csz C46))) fun (C48 : Cd) =>
if 0 ≤ w32 24 ∧ w32 24 < 1000000 then bnd (cNewA C48 100 (ix 24)) fun (C49 : Cd) =>
if isO C49 a0 15 then bnd (cSetR C49 1531 a0 (some (csz C48))) fun (C50 : Cd) =>
if 0 ≤ w32 24 ∧ w32 24 < 1000000 then bnd (cNewA C50 100 (ix 24)) fun (C51 : Cd) =>
if isO C51 a0 15 then bnd (cSetR C51 1532 a0 (some (csz C50))) fun (C52 : Cd) =>
if 0 ≤ w32 24 ∧ w32 24 < 1000000 then bnd (cNewA C52 100 (ix 24)) fun (C53 : Cd) =>
if isO C53 a0 15 then bnd (cSetR C53 1533 a0 (some (csz C52))) fun (C54 : Cd) =>
if 0 ≤ w32 24 ∧ w32 24 < 1000000 then bnd (cNewA C54 100 (ix 24)) fun (C55 : Cd) =>
if isO C55 a0 15 then bnd (cSetR C55 1534 a0 (some (csz C54))) fun (C56 : Cd) =>
if 0 ≤ w32 24 ∧ w32 24 < 1000000 then bnd (cNewA C56 100 (ix 24)) fun (C57 : Cd) =>
if isO C57 a0 15 then bnd (cSetR C57 1535 a0 (some (csz C56))) fun (C58 : Cd) =>
if 0 ≤ w32 61 ∧ w32 61 < 1000000 then bnd (cNewA C58 100 (ix 61)) fun (C59 : Cd) =>
if isO C59 a0 15 then bnd (cSetR C59 1537 a0 (some (csz C58))) fun (C60 : Cd) =>
if 0 ≤ w32 61 ∧ w32 61 < 1000000 then bnd (cNewA C60 100 (ix 61)) fun (C61 : Cd) =>
if isO C61 a0 15 then bnd (cSetR C61 1538 a0 (some (csz C60))) fun (C62 : Cd) =>
if 0 ≤ w32 41 ∧ w32 41 < 1000000 then bnd (cNewA C62 100 (ix 41)) fun (C63 : Cd) =>
if isO C63 a0 15 then bnd (cSetR C63 1541 a0 (some (csz C62))) fun (C64 : Cd) =>
if 0 ≤ w32 41 ∧ w32 41 < 1000000 then bnd (cNewA C64 100 (ix 41)) fun (C65 : Cd) =>
if isO C65 a0 15 then bnd (cSetR C65 1542 a0 (some (csz C64))) fun (C66 : Cd) =>
if 0 ≤ w32 41 ∧ w32 41 < 1000000 then bnd (cNewA C66 100 (ix 41)) fun (C67 : Cd) =>
if isO C67 a0 15 then bnd (cSetR C67 1543 a0 (some (csz C66))) fun (C68 : Cd) =>
if 0 ≤ w32 41 ∧ w32 41 < 1000000 then bnd (cNewA C68 100 (ix 41)) fun (C69 : Cd) =>
if isO C69 a0 15 then bnd (cSetR C69 1544 a0 (some (csz C68))) fun (C70 : Cd) =>
if 0 ≤ w32 410 ∧ w32 410 < 1000000 then bnd (cNewA C70 100 (ix 410)) fun (C71 : Cd) =>
if isO C71 a0 15 then bnd (cSetR C71 1545 a0 (some (csz C70))) fun (C72 : Cd) =>
if 0 ≤ w32 410 ∧ w32 410 < 1000000 then bnd (cNewA C72 100 (ix 410)) fun (C73 : Cd) =>
if isO C73 a0 15 then bnd (cSetR C73 1546 a0 (some (csz C72))) fun (C74 : Cd) =>
if 0 ≤ w32 410 ∧ w32 410 < 1000000 then bnd (cNewA C74 100 (ix 410)) fun (C75 : Cd) =>
if isO C75 a0 15 then bnd (cSetR C75 1547 a0 (some (csz C74))) fun (C76 : Cd) =>
if 0 ≤ w32 1700 ∧ w32 1700 < 1000000 then bnd (cNewA C76 100 (ix 1700)) fun (C77 : Cd) =>
if isO C77 a0 15 then bnd (cSetR C77 1549 a0 (some (csz C76))) fun (C78 : Cd) =>
if 0 ≤ w32 255000 ∧ w32 255000 < 1000000 then bnd (cNewA C78 100 (ix 255000)) fun (C79 : Cd) =>
if isO C79 a0 15 then bnd (cSetR C79 1550 a0 (some (csz C78))) fun (C80 : Cd) =>
if 0 ≤ w32 700 ∧ w32 700 < 1000000 then bnd (cNewA C80 100 (ix 700)) fun (C81 : Cd) =>
if isO C81 a0 15 then bnd (cSetR C81 1552 a0 (some (csz C80))) fun (C82 : Cd) =>
if 0 ≤ w32 700 ∧ w32 700 < 1000000 then bnd (cNewA C82 100 (ix 700)) fun (C83 : Cd) =>
if isO C83 a0 15 then bnd (cSetR C83 1553 a0 (some (csz C82))) fun (C84 : Cd) =>
if 0 ≤ w32 700 ∧ w32 700 < 1000000 then bnd (cNewA C84 100 (ix 700)) fun (C85 : Cd) =>
if isO C85 a0 15 then bnd (cSetR C85 1554 a0 (some (csz C84))) fun (C86 : Cd) =>
if 0 ≤ w32 700 ∧ w32 700 < 1000000 then bnd (cNewA C86 100 (ix 700)) fun (C87 : Cd) =>
if isO C87 a0 15 then bnd (cSetR C87 1555 a0 (some (csz C86))) fun (C88 : Cd) =>
if 0 ≤ w32 22400 ∧ w32 22400 < 1000000 then bnd (cNewA C88 100 (ix 22400)) fun (C89 : Cd) =>
if isO C89 a0 15 then bnd (cSetR C89 1556 a0 (some (csz C88))) fun (C90 : Cd) =>
if 0 ≤ w32 22400 ∧ w32 22400 < 1000000 then bnd (cNewA C90 100 (ix 22400)) fun (C91 : Cd) =>
if isO C91 a0 15 then bnd (cSetR C91 1557 a0 (some (csz C90))) fun (C92 : Cd) =>
if 0 ≤ w32 22400 ∧ w32 22400 < 1000000 then bnd (cNewA C92 100 (ix 22400)) fun (C93 : Cd) =>
if isO C93 a0 15 then bnd (cSetR C93 1558 a0 (some (csz C92))) fun (C94 : Cd) =>
if 0 ≤ w32 4000 ∧ w32 4000 < 1000000 then bnd (cNewA C94 100 (ix 4000)) fun (C95 : Cd) =>
if isO C95 a0 15 then bnd (cSetR C95 1560 a0 (some (csz C94))) fun (C96 : Cd) =>
if 0 ≤ w32 4000 ∧ w32 4000 < 1000000 then bnd (cNewA C96 100 (ix 4000)) fun (C97 : Cd) =>
if isO C97 a0 15 then bnd (cSetR C97 1561 a0 (some (csz C96))) fun (C98 : Cd) =>
if 0 ≤ w32 4000 ∧ w32 4000 < 1000000 then bnd (cNewA C98 100 (ix 4000)) fun (C99 : Cd) =>
if isO C99 a0 15 then bnd (cSetR C99 1562 a0 (some (csz C98))) fun (C100 : Cd) =>
if 0 ≤ w32 4000 ∧ w32 4000 < 1000000 then bnd (cNewA C100 100 (ix 4000)) fun (C101 : Cd) =>
if isO C101 a0 15 then bnd (cSetR C101 1563 a0 (some (csz C100))) fun (C102 : Cd) =>
if 0 ≤ w32 4000 ∧ w32 4000 < 1000000 then bnd (cNewA C102 100 (ix 4000)) fun (C103 : Cd) =>
if isO C103 a0 15 then bnd (cSetR C103 1564 a0 (some (csz C102))) fun (C104 : Cd) =>
if 0 ≤ w32 9 ∧ w32 9 < 1000000 then bnd (cNewA C104 100 (ix 9)) fun (C105 : Cd) =>
if isO C105 a0 15 then bnd (cSetR C105 1572 a0 (some (csz C104))) fun (C106 : Cd) =>
if 0 ≤ w32 60 ∧ w32 60 < 1000000 then bnd (cNewA C106 100 (ix 60)) fun (C107 : Cd) =>
if isO C107 a0 15 then bnd (cSetR C107 1574 a0 (some (csz C106))) fun (C108 : Cd) =>
if 0 ≤ w32 200 ∧ w32 200 < 1000000 then bnd (cNewA C108 100 (ix 200)) fun (C109 : Cd) =>
if isO C109 a0 15 then bnd (cSetR C109 1576 a0 (some (csz C108))) fun (C110 : Cd) =>
if 0 ≤ w32 1 ∧ w32 1 < 1000000 then bnd (cNewA C110 100 (ix 1)) fun (C111 : Cd) =>
if isO C111 a0 15 then bnd (cSetR C111 1578 a0 (some (csz C110))) fun (C112 : Cd) =>
bnd (lpn (fun (_ : Int) (_ : Cd) => (none : Option (Unit × Cd))) (fun L473 (v1_473 : Int) (C_473 : Cd) =>
if w32 24 ≤ w32 v1_473 then
some ((), C_473)
else
if isO C_473 a0 15 then bnd (cR C_473 1506 a0) fun (z113 : Option Nat) =>
drf z113 fun (p114 : Nat) =>
if isO C_473 p114 100 ∧ inR v1_473 (cn C_473 p114) then bnd (cSetE C_473 p114 (ix v1_473) (-1)) fun (C115 : Cd) =>
if isO C115 a0 15 then bnd (cR C115 1526 a0) fun (z116 : Option Nat) =>
drf z116 fun (p117 : Nat) =>
if isO C115 p117 100 ∧ inR v1_473 (cn C115 p117) then bnd (cSetE C115 p117 (ix v1_473) (-1)) fun (C118 : Cd) =>
if isO C118 a0 15 then bnd (cR C118 1517 a0) fun (z119 : Option Nat) =>
drf z119 fun (p120 : Nat) =>
if isO C118 p120 100 ∧ inR v1_473 (cn C118 p120) then bnd (cSetE C118 p120 (ix v1_473) (-1)) fun (C121 : Cd) =>
if isO C121 a0 15 then bnd (cR C121 1517 a0) fun (z122 : Option Nat) =>
drf z122 fun (p123 : Nat) =>
if isO C121 p123 100 ∧ inR (24 + v1_473) (cn C121 p123) then bnd (cSetE C121 p123 (ix (24 + v1_473)) (-1)) fun (C124 : Cd) =>
L473 (v1_473 + 1) C124
else none
else none
else none
else none
else none
else none
else none
else none) FU) fun J473 =>
J473 0 C112
else none
else none
else none
else none
else none
else none
else none
else none
else none
else none
else none
else none
else none
else none
else none
else none
else none
else none
else none
else none
else none
else none
else none
else none
else none
else none
else none
else none
else none
else none
else none
else none
else none
else none
else none
else none
else none
else none
else none
else none
else none
else none
else none
else none
else none
else none
else none
else none
else none
else none
else none
else none
else none
else none
else none
else none
else none
else none
else none
else none
else none
else none
else none
else none
else none
else none
else none
else none
else none
else none
else none
else none
else none
else none
else none
else none
else none
else none
else none
else none
else none
else none
else none
else none
else none
else none
else none
else none
else none
else none
else none
else none
else none
else none
else none
else none
else none
else none
else none
else none
else none
else none
else none
else none
else none
else none
else none
else none
else none
else none
else none
else none
