/-! EXPANDING, as a function, with its depths: r runs of the class, t tasks of the reference -/
/-- how many FUNCs were come to -/
def nFu (E : Env) (s : ASt) : Nat := cnt (fun k => decide (k / 30 < aNf s ∧ k % 30 < fn E s (k / 30) ∧ fg E s (k / 30) (k % 30) / 1000 = 4 ∧ aPs s (k / 30) (k % 30) ≠ 0)) 1230
def runX (E : Env) : Nat → Bool → Nat → Nat → Nat → Nat → Nat → List Int → ASt → Option (List Int × ASt)
  | 0, _, _, _, _, _, _, _, _ => none
  | m + 1, re, r, t, f, i, to, acc, s =>
    if 510 ≤ r ∨ 3990 ≤ t then none
    else if to ≤ i then some (acc, s)
    else if opB (fg E s f i / 1000) = true then
      if re = false ∧ unt s f i (fE (fg E s f) (fn E s f) i) = false then none
      else if re = false ∧ fg E s f i / 1000 = 4 ∧ 690 ≤ nFu E s then none
      else if re = true ∧ ¬ fg E s f i / 1000 = 4 then none
      else if fg E s f i / 1000 = 10 ∨ (fg E s f i / 1000 = 8 ∧ 0 < (aFr s f).2.2.1) ∨ (fg E s f i / 1000 = 9 ∧ (aFr s f).2.2.1 = 0) then
        (runX E m false r (t + 1) f (i + 1) (fE (fg E s f) (fn E s f) i) acc (uPs s f i 2)).bind fun q => runX E m false r t f (fE (fg E s f) (fn E s f) i + 1) to q.1 q.2
      else if fg E s f i / 1000 = 2 then
        if 40 ≤ aCa s then runX E m false r t f (fE (fg E s f) (fn E s f) i + 1) to (apl acc 9003) (uPs s f i 2)
        else if (wayF E 5 (fg E s f i % 1000).toNat 0).1 = -1 then runX E m false r t f (fE (fg E s f) (fn E s f) i + 1) to (apl acc (2000 + fg E s f i % 1000)) (uSe (uCa (uPs s f i 2)) (2 ^ (fg E s f i % 1000).toNat) 0 (wayF E 5 (fg E s f i % 1000).toNat 0).2 0 0)
        else if cmF s 41 f (wayF E 5 (fg E s f i % 1000).toNat 0).1 = true then runX E m false r t f (fE (fg E s f) (fn E s f) i + 1) to (apl acc 9001) (uSe (uCa (uPs s f i 2)) 0 0 (wayF E 5 (fg E s f i % 1000).toNat 0).2 0 0)
        else if 6 ≤ (aFr s f).2.2.1 then runX E m false r t f (fE (fg E s f) (fn E s f) i + 1) to (apl acc 9002) (uSe (uCa (uPs s f i 2)) 0 0 (wayF E 5 (fg E s f i % 1000).toNat 0).2 0 0)
        else (runX E m false (r + 1) (t + 1) (aNf s) 0 (eTl E (eSn E (wayF E 5 (fg E s f i % 1000).toNat 0).1.toNat).toNat) acc
            (uFr (uSe (uCa (uPs s f i 2)) 0 0 (wayF E 5 (fg E s f i % 1000).toNat 0).2 0 0) ((eSn E (wayF E 5 (fg E s f i % 1000).toNat 0).1.toNat).toNat, (wayF E 5 (fg E s f i % 1000).toNat 0).1.toNat, (aFr s f).2.2.1 + 1, (f : Int), i, agF (fg E s f) (prs_ (fg E s f) (fn E s f) 30 (i + 1)) 0 (fun _ => -1)))).bind
          fun q => runX E m false r t f (fE (fg E s f) (fn E s f) i + 1) to q.1 q.2
      else if fg E s f i / 1000 = 3 then
        if (aFr s f).2.2.2.2.2 (fg E s f i % 1000).toNat = -1 ∨ (aFr s f).2.2.2.1 = -1 then
          (runX E m false r (t + 1) f (i + 1) (fE (fg E s f) (fn E s f) i) acc (uPs s f i 2)).bind fun q => runX E m false r t f (fE (fg E s f) (fn E s f) i + 1) to q.1 q.2
        else if aPs s (aFr s f).2.2.2.1.toNat ((aFr s f).2.2.2.2.2 (fg E s f i % 1000).toNat).toNat = 2 then
          runX E m false r t f (fE (fg E s f) (fn E s f) i + 1) to (aal acc (aRw s (aFr s f).2.2.2.1.toNat ((aFr s f).2.2.2.2.2 (fg E s f i % 1000).toNat).toNat)) (uPs s f i 2)
        else if aPs s (aFr s f).2.2.2.1.toNat ((aFr s f).2.2.2.2.2 (fg E s f i % 1000).toNat).toNat = 0 then
          (runX E m false (r + 1) (t + 2) (aFr s f).2.2.2.1.toNat (((aFr s f).2.2.2.2.2 (fg E s f i % 1000).toNat).toNat + 1) (fE (fg E s (aFr s f).2.2.2.1.toNat) (fn E s (aFr s f).2.2.2.1.toNat) ((aFr s f).2.2.2.2.2 (fg E s f i % 1000).toNat).toNat) []
              (uPs (uPs s f i 2) (aFr s f).2.2.2.1.toNat ((aFr s f).2.2.2.2.2 (fg E s f i % 1000).toNat).toNat 1)).bind
            fun q => runX E m false r t f (fE (fg E s f) (fn E s f) i + 1) to (aal acc q.1) (uDn q.2 (aFr s f).2.2.2.1.toNat ((aFr s f).2.2.2.2.2 (fg E s f i % 1000).toNat).toNat q.1)
        else none
      else if fg E s f i / 1000 = 4 then
        match gv E (uPs s f i 2) f (prs_ (fg E s f) (fn E s f) 30 (i + 1)) (fg E s f i % 1000) acc with
        | none => none
        | some (0, acc', s') => runX E m false r t f (fE (fg E s f) (fn E s f) i + 1) to acc' s'
        | some (j + 1, _, s') =>
          (runX E m false (r + 1) (t + 2) f ((prs_ (fg E s f) (fn E s f) 30 (i + 1)).getD j 0 + 1) (fE (fg E s f) (fn E s f) ((prs_ (fg E s f) (fn E s f) 30 (i + 1)).getD j 0)) [] (uPs s' f ((prs_ (fg E s f) (fn E s f) 30 (i + 1)).getD j 0) 1)).bind
            fun q => runX E m true r t f i to acc (uDn q.2 f ((prs_ (fg E s f) (fn E s f) 30 (i + 1)).getD j 0) q.1)
      else runX E m false r t f (fE (fg E s f) (fn E s f) i + 1) to acc (uPs s f i 2)
    else if fg E s f i / 1000 = 0 then runX E m false r t f (i + 1) to (apl acc (fg E s f i % 1000)) s
    else if fg E s f i / 1000 = 1 ∨ fg E s f i / 1000 = 12 then runX E m false r t f (i + 1) to (apl acc (1000 + fg E s f i % 1000)) (uSe s (2 ^ (fg E s f i % 1000).toNat) 0 0 0 0)
    else if fg E s f i / 1000 = 11 then runX E m false r t f (i + 1) to acc (uSe s 0 (2 ^ (fg E s f i % 1000).toNat) 0 0 0)
    else runX E m false r t f (i + 1) to acc s
