/-! EXPANDING, as a function: the texts, what titles show, members, modules are given; frames, places, rows, sets change -/
abbrev Env : Type := (Nat → Nat → Int) × (Nat → Nat) × (Nat → Int) × (Nat → Nat) × (Nat → Nat → Int) × (Nat → Nat → Int) × (Nat → Nat)
abbrev eTx (E : Env) : Nat → Nat → Int := E.1
abbrev eTl (E : Env) : Nat → Nat := E.2.1
abbrev eSn (E : Env) : Nat → Int := E.2.2.1
abbrev eMb (E : Env) : Nat → Nat := E.2.2.2.1
abbrev eMi (E : Env) : Nat → Nat → Int := E.2.2.2.2.1
abbrev eMv (E : Env) : Nat → Nat → Int := E.2.2.2.2.2.1
abbrev eMl (E : Env) : Nat → Nat := E.2.2.2.2.2.2
/-- a frame: version, title, depth, caller, the place of its CALL, its arguments -/
abbrev AFr : Type := Nat × Nat × Nat × Int × Nat × (Nat → Int)
/-- frames, how places stand (0 untouched, 1 in work, 2 done), rows of parts, calls, links, categories, reads, counted, used -/
abbrev ASt : Type := Nat × (Nat → AFr) × (Nat → Nat → Nat) × (Nat → Nat → List Int) × Nat × Nat × Nat × Nat × Nat × Nat
abbrev aNf (s : ASt) : Nat := s.1
abbrev aFr (s : ASt) : Nat → AFr := s.2.1
abbrev aPs (s : ASt) : Nat → Nat → Nat := s.2.2.1
abbrev aRw (s : ASt) : Nat → Nat → List Int := s.2.2.2.1
abbrev aCa (s : ASt) : Nat := s.2.2.2.2.1
abbrev aLk (s : ASt) : Nat := s.2.2.2.2.2.1
abbrev aCt (s : ASt) : Nat := s.2.2.2.2.2.2.1
abbrev aRd (s : ASt) : Nat := s.2.2.2.2.2.2.2.1
abbrev aCd (s : ASt) : Nat := s.2.2.2.2.2.2.2.2.1
abbrev aUs (s : ASt) : Nat := s.2.2.2.2.2.2.2.2.2
def uFr (s : ASt) (F : AFr) : ASt := (aNf s + 1, fun f => if f = aNf s then F else aFr s f, s.2.2)
def uPs (s : ASt) (f p x : Nat) : ASt := (s.1, s.2.1, fun f' p' => if f' = f ∧ p' = p then x else aPs s f' p', s.2.2.2)
def uDn (s : ASt) (f p : Nat) (r : List Int) : ASt := (s.1, s.2.1, fun f' p' => if f' = f ∧ p' = p then 2 else aPs s f' p', fun f' p' => if f' = f ∧ p' = p then r else aRw s f' p', s.2.2.2.2)
def uCa (s : ASt) : ASt := (s.1, s.2.1, s.2.2.1, s.2.2.2.1, aCa s + 1, s.2.2.2.2.2)
def uSe (s : ASt) (l c r d u : Nat) : ASt := (s.1, s.2.1, s.2.2.1, s.2.2.2.1, aCa s, aLk s ||| l, aCt s ||| c, aRd s ||| r, aCd s ||| d, aUs s ||| u)
/-- the parts of a CALL or a FUNC, from the first one's place on -/
def prs_ (g : Nat → Int) (n : Nat) : Nat → Nat → List Nat
  | 0, _ => []
  | m + 1, p => if p < n ∧ mkB (g p / 1000) = true then p :: prs_ g n m (fE g n p) else []
def agF (g : Nat → Int) : List Nat → Nat → (Nat → Int) → (Nat → Int)
  | [], _, a => a
  | p :: l, c, a => agF g l (if g p / 1000 = 5 then c + 1 else c) (fun x => if x = (if g p / 1000 = 5 then c + 1 else (g p % 1000).toNat) then (p : Int) else a x)
/-- where a title leads, and the titles on the way -/
def wayF (E : Env) : Nat → Nat → Nat → Int × Nat
  | 0, _, S => (-1, S)
  | n + 1, t, S => if eSn E t = -1 then (-1, S ||| 2 ^ t) else if eTx E (eSn E t).toNat 0 / 1000 = 12 then wayF E n (eTx E (eSn E t).toNat 0 % 1000).toNat (S ||| 2 ^ t) else ((t : Int), S ||| 2 ^ t)
/-- whether a frame, or one it comes from, is of a title -/
def cmF (s : ASt) : Nat → Nat → Int → Bool
  | 0, _, _ => false
  | n + 1, f, t => decide (((aFr s f).2.1 : Int) = t) || (if (aFr s f).2.2.2.1 = -1 then false else cmF s n (aFr s f).2.2.2.1.toNat t)
/-- a part's row: none where it is in work, some none where it is untouched -/
def prt (s : ASt) (f : Nat) (pl : List Nat) (j : Nat) : Option (Option (List Int)) :=
  if j = 0 ∨ pl.length < j then some (some []) else if aPs s f (pl.getD (j - 1) 0) = 2 then some (some (aRw s f (pl.getD (j - 1) 0))) else if aPs s f (pl.getD (j - 1) 0) = 0 then some none else none
def gsm (s : ASt) (f : Nat) (pl : List Nat) : Nat → Nat → Int → Option (Nat × Int)
  | 0, _, a => some (0, a)
  | m + 1, j, a => match prt s f pl j with
    | none => none
    | some none => some (j, a)
    | some (some r) => gsm s f pl m (j + 1) (a + wsum r)
def op2 (k a b : Int) : Int := if k = 2 then (a + b) % 1000 else if k = 3 then (a - b + 1000) % 1000 else if k = 4 then a * b % 1000 else if a < b then 1 else 0
/-- what a module gives; -100 - j: the part j is wanted; -99: never -/
def mex (E : Env) (m : Nat) (arg : Nat → Int) : Nat → Nat → List Int → Int
  | 0, _, _ => 9004
  | d + 1, at_, st => if eMl E m ≤ at_ then 9004
    else if eMi E m at_ = 0 then (if 8 ≤ st.length then 9004 else mex E m arg d (at_ + 1) (eMv E m at_ :: st))
    else if eMi E m at_ = 1 then (if 8 ≤ st.length then 9004 else if arg (eMv E m at_).toNat ≤ -99 then arg (eMv E m at_).toNat else mex E m arg d (at_ + 1) (arg (eMv E m at_).toNat :: st))
    else if eMi E m at_ ≤ 5 then match st with
      | b :: a :: r => mex E m arg d (at_ + 1) (op2 (eMi E m at_) a b :: r)
      | _ => 9004
    else if eMi E m at_ = 6 then mex E m arg d (eMv E m at_).toNat st
    else match st with
      | [] => 9004
      | x :: r => if eMi E m at_ = 8 then x else mex E m arg d (if x = 0 then (eMv E m at_).toNat else at_ + 1) r
def argv (s : ASt) (f : Nat) (pl : List Nat) (a : Nat) : Int := match prt s f pl (a + 2) with
  | none => -99
  | some none => -100 - ((a + 2 : Nat) : Int)
  | some (some r) => if numL r = -1 then 0 else numL r
def lsA (S : Nat) : Nat → Nat → List Int → List Int
  | 0, _, acc => acc
  | m + 1, i, acc => lsA S m (i + 1) (if S.testBit i = true then apl acc (1000 + (i : Int)) else acc)
/-- what a function gives: (0, row, ..), or the part that is wanted -/
def gv (E : Env) (s : ASt) (f : Nat) (pl : List Nat) (k : Int) (acc : List Int) : Option (Nat × List Int × ASt) :=
  if k = 2 then match gsm s f pl pl.length 1 0 with
    | none => none
    | some (0, a) => some (0, apl acc (a % 1000), s)
    | some (j + 1, _) => some (j + 1, acc, s)
  else match prt s f pl 1 with
    | none => none
    | some none => some (1, acc, s)
    | some (some r1) =>
      if k = 0 then match prt s f pl (if anyO r1 = true then 2 else 3) with
        | none => none
        | some none => some (if anyO r1 = true then 2 else 3, acc, s)
        | some (some r) => some (0, aal acc r, s)
      else if k = 1 then match prt s f pl 2 with
        | none => none
        | some none => some (2, acc, s)
        | some (some r2) => match prt s f pl (if r1 = r2 then 3 else 4) with
          | none => none
          | some none => some (if r1 = r2 then 3 else 4, acc, s)
          | some (some r) => some (0, aal acc r, s)
      else if k = 3 then (if 0 ≤ numL r1 ∧ numL r1 < 24 then some (0, apl acc (if eSn E (numL r1).toNat = -1 then 0 else 1), uSe s 0 0 (2 ^ (numL r1).toNat) 0 0) else some (0, apl acc 0, s))
      else if k = 4 then (if 0 ≤ numL r1 ∧ numL r1 < 8 then some (0, apl acc (nBits (eMb E (numL r1).toNat) 32 : Int), uSe s 0 0 0 (2 ^ (numL r1).toNat) 0) else some (0, apl acc 0, s))
      else if k = 5 then (if 0 ≤ numL r1 ∧ numL r1 < 8 then some (0, lsA (eMb E (numL r1).toNat) 24 0 acc, uSe s (eMb E (numL r1).toNat) 0 0 (2 ^ (numL r1).toNat) 0) else some (0, acc, s))
      else if 0 ≤ numL r1 ∧ numL r1 < 4 then
        (if mex E (numL r1).toNat (argv s f pl) 50 0 [] = -99 then none
         else if mex E (numL r1).toNat (argv s f pl) 50 0 [] ≤ -100 then some ((-100 - mex E (numL r1).toNat (argv s f pl) 50 0 []).toNat, acc, uSe s 0 0 0 0 (2 ^ (numL r1).toNat))
         else some (0, apl acc (mex E (numL r1).toNat (argv s f pl) 50 0 []), uSe s 0 0 0 0 (2 ^ (numL r1).toNat)))
      else some (0, apl acc 9004, s)
def unt (s : ASt) (f i c : Nat) : Bool := (List.range (c - i)).all (fun d => aPs s f (i + d) == 0)
/-- the text of a frame -/
abbrev fg (E : Env) (s : ASt) (f : Nat) : Nat → Int := eTx E (aFr s f).1
abbrev fn (E : Env) (s : ASt) (f : Nat) : Nat := eTl E (aFr s f).1
def runT (E : Env) : Nat → Bool → Nat → Nat → Nat → List Int → ASt → Option (List Int × ASt)
  | 0, _, _, _, _, _, _ => none
  | m + 1, re, f, i, to, acc, s =>
    if to ≤ i then some (acc, s)
    else if opB (fg E s f i / 1000) = true then
      if re = false ∧ unt s f i (fE (fg E s f) (fn E s f) i) = false then none
      else if fg E s f i / 1000 = 10 ∨ (fg E s f i / 1000 = 8 ∧ 0 < (aFr s f).2.2.1) ∨ (fg E s f i / 1000 = 9 ∧ (aFr s f).2.2.1 = 0) then
        (runT E m false f (i + 1) (fE (fg E s f) (fn E s f) i) acc (uPs s f i 2)).bind fun q => runT E m false f (fE (fg E s f) (fn E s f) i + 1) to q.1 q.2
      else if fg E s f i / 1000 = 2 then
        if 40 ≤ aCa s then runT E m false f (fE (fg E s f) (fn E s f) i + 1) to (apl acc 9003) (uPs s f i 2)
        else if (wayF E 5 (fg E s f i % 1000).toNat 0).1 = -1 then runT E m false f (fE (fg E s f) (fn E s f) i + 1) to (apl acc (2000 + fg E s f i % 1000)) (uSe (uCa (uPs s f i 2)) (2 ^ (fg E s f i % 1000).toNat) 0 (wayF E 5 (fg E s f i % 1000).toNat 0).2 0 0)
        else if cmF s 41 f (wayF E 5 (fg E s f i % 1000).toNat 0).1 = true then runT E m false f (fE (fg E s f) (fn E s f) i + 1) to (apl acc 9001) (uSe (uCa (uPs s f i 2)) 0 0 (wayF E 5 (fg E s f i % 1000).toNat 0).2 0 0)
        else if 6 ≤ (aFr s f).2.2.1 then runT E m false f (fE (fg E s f) (fn E s f) i + 1) to (apl acc 9002) (uSe (uCa (uPs s f i 2)) 0 0 (wayF E 5 (fg E s f i % 1000).toNat 0).2 0 0)
        else (runT E m false (aNf s) 0 (eTl E (eSn E (wayF E 5 (fg E s f i % 1000).toNat 0).1.toNat).toNat) acc
            (uFr (uSe (uCa (uPs s f i 2)) 0 0 (wayF E 5 (fg E s f i % 1000).toNat 0).2 0 0) ((eSn E (wayF E 5 (fg E s f i % 1000).toNat 0).1.toNat).toNat, (wayF E 5 (fg E s f i % 1000).toNat 0).1.toNat, (aFr s f).2.2.1 + 1, (f : Int), i, agF (fg E s f) (prs_ (fg E s f) (fn E s f) 30 (i + 1)) 0 (fun _ => -1)))).bind
          fun q => runT E m false f (fE (fg E s f) (fn E s f) i + 1) to q.1 q.2
      else if fg E s f i / 1000 = 3 then
        if (aFr s f).2.2.2.2.2 (fg E s f i % 1000).toNat = -1 ∨ (aFr s f).2.2.2.1 = -1 then
          (runT E m false f (i + 1) (fE (fg E s f) (fn E s f) i) acc (uPs s f i 2)).bind fun q => runT E m false f (fE (fg E s f) (fn E s f) i + 1) to q.1 q.2
        else if aPs s (aFr s f).2.2.2.1.toNat ((aFr s f).2.2.2.2.2 (fg E s f i % 1000).toNat).toNat = 2 then
          runT E m false f (fE (fg E s f) (fn E s f) i + 1) to (aal acc (aRw s (aFr s f).2.2.2.1.toNat ((aFr s f).2.2.2.2.2 (fg E s f i % 1000).toNat).toNat)) (uPs s f i 2)
        else if aPs s (aFr s f).2.2.2.1.toNat ((aFr s f).2.2.2.2.2 (fg E s f i % 1000).toNat).toNat = 0 then
          (runT E m false (aFr s f).2.2.2.1.toNat (((aFr s f).2.2.2.2.2 (fg E s f i % 1000).toNat).toNat + 1) (fE (fg E s (aFr s f).2.2.2.1.toNat) (fn E s (aFr s f).2.2.2.1.toNat) ((aFr s f).2.2.2.2.2 (fg E s f i % 1000).toNat).toNat) []
              (uPs (uPs s f i 2) (aFr s f).2.2.2.1.toNat ((aFr s f).2.2.2.2.2 (fg E s f i % 1000).toNat).toNat 1)).bind
            fun q => runT E m false f (fE (fg E s f) (fn E s f) i + 1) to (aal acc q.1) (uDn q.2 (aFr s f).2.2.2.1.toNat ((aFr s f).2.2.2.2.2 (fg E s f i % 1000).toNat).toNat q.1)
        else none
      else if fg E s f i / 1000 = 4 then
        match gv E (uPs s f i 2) f (prs_ (fg E s f) (fn E s f) 30 (i + 1)) (fg E s f i % 1000) acc with
        | none => none
        | some (0, acc', s') => runT E m false f (fE (fg E s f) (fn E s f) i + 1) to acc' s'
        | some (j + 1, _, s') =>
          (runT E m false f ((prs_ (fg E s f) (fn E s f) 30 (i + 1)).getD j 0 + 1) (fE (fg E s f) (fn E s f) ((prs_ (fg E s f) (fn E s f) 30 (i + 1)).getD j 0)) [] (uPs s' f ((prs_ (fg E s f) (fn E s f) 30 (i + 1)).getD j 0) 1)).bind
            fun q => runT E m true f i to acc (uDn q.2 f ((prs_ (fg E s f) (fn E s f) 30 (i + 1)).getD j 0) q.1)
      else runT E m false f (fE (fg E s f) (fn E s f) i + 1) to acc (uPs s f i 2)
    else if fg E s f i / 1000 = 0 then runT E m false f (i + 1) to (apl acc (fg E s f i % 1000)) s
    else if fg E s f i / 1000 = 1 ∨ fg E s f i / 1000 = 12 then runT E m false f (i + 1) to (apl acc (1000 + fg E s f i % 1000)) (uSe s (2 ^ (fg E s f i % 1000).toNat) 0 0 0 0)
    else if fg E s f i / 1000 = 11 then runT E m false f (i + 1) to acc (uSe s 0 (2 ^ (fg E s f i % 1000).toNat) 0 0 0)
    else runT E m false f (i + 1) to acc s
