/-! MERGING, on both sides -/
section MRG
variable {b : Nat} {C C' C1 : Cd} {M M' M1 : Md} {fb fw fp : Nat → Int} {nb nw np : Nat} {A B : Nat → Bool}
/-- what is merged: A tells where the wish is the base, B where the wish may be taken -/
def mgL (A B : Nat → Bool) (fw fp : Nat → Int) (nw np : Nat) : Nat → Nat → (Nat → Int) → Nat → Option ((Nat → Int) × Nat)
  | _, 0, g, n => some (g, n)
  | i, m + 1, g, n => if A i = true then mgL A B fw fp nw np (i + 1) m (cat g n (fun k => fp (sst fp np i + k))) (n + (sst fp np (i + 1) - sst fp np i)) else if B i = true then mgL A B fw fp nw np (i + 1) m (cat g n (fun k => fw (sst fw nw i + k))) (n + (sst fw nw (i + 1) - sst fw nw i)) else none
def mgO (A B : Nat → Bool) (fb fw fp : Nat → Int) (nb nw np : Nat) : Option ((Nat → Int) × Nat) := if secs fw nw = secs fb nb ∧ secs fp np = secs fb nb then mgL A B fw fp nw np 0 (1 + secs fb nb) (fun _ => 0) 0 else none
theorem mgL_n : ∀ m i g n g' n', n ≤ sst fp np i + sst fw nw i → mgL A B fw fp nw np i m g n = some (g', n') → n' ≤ np + nw := by
  intro m
  induction m with
  | zero =>
    intro i g n g' n' h e
    have := Option.some.inj e
    have e2 : n = n' := congrArg Prod.snd this
    have := sst_le fp np i
    have := sst_le fw nw i
    omega
  | succ m ih =>
    intro i g n g' n' h e
    unfold mgL at e
    have a1 := sst_mono fp np (show i ≤ i + 1 by omega)
    have a2 := sst_mono fw nw (show i ≤ i + 1 by omega)
    by_cases c : A i = true
    · rw [if_pos c] at e
      exact ih (i + 1) _ _ g' n' (by omega) e
    · rw [if_neg c] at e
      by_cases d : B i = true
      · rw [if_pos d] at e
        exact ih (i + 1) _ _ g' n' (by omega) e
      · rw [if_neg d] at e
        exact absurd e (by intro z; cases z)
theorem sst_0 (g : Nat → Int) (n : Nat) : sst g n 0 = 0 := if_pos rfl
theorem mgO_n {g' : Nat → Int} {n' : Nat} (h : mgO A B fb fw fp nb nw np = some (g', n')) : n' ≤ np + nw := by
  unfold mgO at h
  by_cases c : secs fw nw = secs fb nb ∧ secs fp np = secs fb nb
  · rw [if_pos c] at h
    exact mgL_n _ 0 _ 0 g' n' (Nat.zero_le _) h
  · rw [if_neg c] at h
    exact absurd h (by intro z; cases z)
def isS {α : Type} (o : Option α) : Int := if o.isSome = true then 1 else 0
theorem txo_o {a t x : Nat} (h : TxOnly C C' a) (hx : isO C x t) : isO C' x t := (TxOnly.isO h).mpr hx
theorem X11_merge_ (hL : Lay b C) {Bt Wt Pt capb capw capp : Nat} (hb : TxV C Bt capb fb nb) (hw : TxV C Wt capw fw nw) (hp : TxV C Pt capp fp np) (hm : ∃ g n, TxV C (b + 851) 90 g n) (n1 : Bt ≠ b + 851) (n2 : Wt ≠ b + 851) (n3 : Pt ≠ b + 851) (hcap : np + nw ≤ 90) {ag : Bool}
   (hA : ∀ i, i < 900 → (A i = true ↔ SameS fw nw fb nb i)) (hB : ∀ i, i < 900 → (B i = true ↔ (SameS fp np fb nb i ∨ (ag = true ∧ SameS fp np fw nw i)))) :
   ∃ C', fX11_merge b (some Bt) (some Wt) (some Pt) (if ag = true then 1 else 0) C = some (isS (mgO A B fb fw fp nb nw np), C') ∧ TxOnly C C' (b + 851) ∧ (∃ g n, TxV C' (b + 851) 90 g n) ∧ ∀ g n, mgO A B fb fw fp nb nw np = some (g, n) → TxV C' (b + 851) 90 g n := by
  have ob := hb.isO_
  have ow := hw.isO_
  have op := hp.isO_
  have hnb := hb.n90
  have hnw := hw.n90
  have hnp := hp.n90
  have sb := secs_le fb nb
  have sw := secs_le fw nw
  have sp := secs_le fp np
  obtain ⟨gm, nm, tm⟩ := hm
  have e1 := X8_sections_ hb
  have e2 := X8_sections_ hw
  have e3 := X8_sections_ hp
  unfold fX11_merge
  rw [drf_some, if_pos ob, cal_of e1, drf_some, if_pos ow, cal_of e2, bnd_eq]
  by_cases c1 : secs fw nw = secs fb nb
  · rw [if_neg (fun z => z (by rw [c1])), drf_some, if_pos op, cal_of e3]
    by_cases c2 : secs fp np = secs fb nb
    · have em : mgO A B fb fw fp nb nw np = mgL A B fw fp nw np 0 (1 + secs fb nb) (fun _ => 0) 0 := if_pos ⟨c1, c2⟩
      rw [if_pos (by rw [c2]), if_pos hL.o, bnd_eq, hL.r5, drf_some, if_pos tm.isO_, em]
      obtain ⟨C2, e4, t4, o4⟩ := X8_clear_ tm.1 (fun _ => (0 : Int))
      rw [cal_of e4, bnd_eq]
      refine (lpn_rule (P := fun mm (L : Int → Cd → Option (Int × Cd)) => ∀ (i : Nat) (C1 : Cd) (g : Nat → Int) (n : Nat), i ≤ 1 + secs fb nb → 1 + secs fb nb - i < mm → TxOnly C C1 (b + 851) → TxV C1 Bt capb fb nb → TxV C1 Wt capw fw nw → TxV C1 Pt capp fp np → TxV C1 (b + 851) 90 g n → n ≤ sst fp np i + sst fw nw i →
         ∃ C', L (i : Int) C1 = some (isS (mgL A B fw fp nw np i (1 + secs fb nb - i) g n), C') ∧ TxOnly C C' (b + 851) ∧ (∃ g n, TxV C' (b + 851) 90 g n) ∧ ∀ g' n', mgL A B fw fp nw np i (1 + secs fb nb - i) g n = some (g', n') → TxV C' (b + 851) 90 g' n') (fun i _ _ _ _ h => absurd h (Nat.not_lt_zero _)) (fun mm L hLL i C1 g n hi hm o1 tb tw tp tg hn => ?_) FU) 0 C2 (fun _ => 0) 0 (Nat.zero_le _) (by unfold FU; omega) o4 (hb.keep o4 n1) (hw.keep o4 n2) (hp.keep o4 n3) t4 (Nat.zero_le _)
      · have oo : isO C1 b 14 := txo_o o1 hL.o
        have rr : cR C1 1405 b = some (b + 851) := by rw [o1.1]; exact hL.r5
        have mp := sst_mono fp np (show i ≤ i + 1 by omega)
        have mw := sst_mono fw nw (show i ≤ i + 1 by omega)
        have lp := sst_le fp np (i + 1)
        have lw := sst_le fw nw (i + 1)
        rcases Nat.lt_or_ge i (1 + secs fb nb) with hlt | hge
        · have es : 1 + secs fb nb - i = (1 + secs fb nb - (i + 1)) + 1 := by omega
          rw [if_neg (by rw [w32_n (by omega), w32_n (by omega)]; omega), if_pos tw.isO_, es]
          have q1 := X8_sameSection_ tw tb (s := i) (by omega)
          have hA1 := hA i (by omega)
          have hB1 := hB i (by omega)
          rcases q1 with ⟨q1, p1⟩ | ⟨q1, p1⟩
          · have eA : A i = true := hA1.mpr p1
            rw [cal_of q1, bnd_eq, if_neg (by decide), if_pos oo, bnd_eq, rr, drf_some, if_pos tg.isO_]
            obtain ⟨C3, e5, t5, o5⟩ := X8_addSection_ (Ne.symm (Ne.symm n3)) tg tp (s := i) (by omega) (by omega)
            rw [cal_of e5]
            obtain ⟨C', r1, r2, r3, r4⟩ := hLL (i + 1) C3 _ _ hlt (by omega) (o1.tr o5) (tb.keep o5 n1) (tw.keep o5 n2) (tp.keep o5 n3) t5 (by omega)
            refine ⟨C', ?_, r2, r3, fun g' n' h => ?_⟩
            · dsimp only
              rw [show (i : Int) + 1 = ((i + 1 : Nat) : Int) by omega, r1, mgL, if_pos eA]
            · rw [mgL, if_pos eA] at h
              exact r4 g' n' h
          · have eA : ¬ A i = true := fun z => p1 (hA1.mp z)
            rw [cal_of q1, bnd_eq, if_pos (by decide), if_pos tp.isO_]
            have q2 := X8_sameSection_ tp tb (s := i) (by omega)
            -- the wish is taken
            have take : B i = true → ∃ C', (if isO C1 b 14 then bnd (cR C1 1405 b) fun (z18 : Option Nat) =>
drf z18 fun (p19 : Nat) =>
if isO C1 p19 11 then cal (fX8_addSection p19 (some Wt) (i : Int) C1) fun (r21 : Unit) (C20 : Cd) =>
L ((i : Int) + 1) C20
else none
else none) = some (isS (mgL A B fw fp nw np i (1 + secs fb nb - (i + 1) + 1) g n), C') ∧ TxOnly C C' (b + 851) ∧ (∃ g n, TxV C' (b + 851) 90 g n) ∧ ∀ g' n', mgL A B fw fp nw np i (1 + secs fb nb - (i + 1) + 1) g n = some (g', n') → TxV C' (b + 851) 90 g' n' := by
              intro eB
              rw [if_pos oo, bnd_eq, rr, drf_some, if_pos tg.isO_]
              obtain ⟨C3, e5, t5, o5⟩ := X8_addSection_ (Ne.symm (Ne.symm n2)) tg tw (s := i) (by omega) (by omega)
              rw [cal_of e5]
              obtain ⟨C', r1, r2, r3, r4⟩ := hLL (i + 1) C3 _ _ hlt (by omega) (o1.tr o5) (tb.keep o5 n1) (tw.keep o5 n2) (tp.keep o5 n3) t5 (by omega)
              refine ⟨C', ?_, r2, r3, fun g' n' h => ?_⟩
              · rw [show (i : Int) + 1 = ((i + 1 : Nat) : Int) by omega, r1, mgL, if_neg eA, if_pos eB]
              · rw [mgL, if_neg eA, if_pos eB] at h
                exact r4 g' n' h
            rcases q2 with ⟨q2, p2⟩ | ⟨q2, p2⟩
            · rw [cal_of q2, bnd_eq, if_pos (by decide)]
              dsimp only
              exact take (hB1.mpr (Or.inl p2))
            · rw [cal_of q2, bnd_eq, if_neg (fun z => z (by decide)), bnd_eq]
              have stop : ¬ B i = true → ∃ C', some ((0 : Int), C1) = some (isS (mgL A B fw fp nw np i (1 + secs fb nb - (i + 1) + 1) g n), C') ∧ TxOnly C C' (b + 851) ∧ (∃ g n, TxV C' (b + 851) 90 g n) ∧ ∀ g' n', mgL A B fw fp nw np i (1 + secs fb nb - (i + 1) + 1) g n = some (g', n') → TxV C' (b + 851) 90 g' n' := by
                intro eB
                refine ⟨C1, ?_, o1, ⟨g, n, tg⟩, fun g' n' h => ?_⟩
                · rw [mgL, if_neg eA, if_neg eB]
                  rfl
                · rw [mgL, if_neg eA, if_neg eB] at h
                  exact absurd h (by intro z; cases z)
              by_cases ca : ag = true
              · rw [if_pos ca, if_neg (by decide), if_pos tp.isO_]
                have q3 := X8_sameSection_ tp tw (s := i) (by omega)
                rcases q3 with ⟨q3, p3⟩ | ⟨q3, p3⟩
                · rw [cal_of q3, if_neg (by decide)]
                  dsimp only
                  exact take (hB1.mpr (Or.inr ⟨ca, p3⟩))
                · rw [cal_of q3, if_pos (by decide)]
                  exact stop (fun z => (hB1.mp z).elim p2 (fun z => p3 z.2))
              · rw [if_neg ca, if_pos (by decide)]
                exact stop (fun z => (hB1.mp z).elim p2 (fun z => ca z.1))
        · have e : i = 1 + secs fb nb := by omega
          subst e
          rw [if_pos (Int.le_refl _), Nat.sub_self]
          exact ⟨C1, rfl, o1, ⟨g, n, tg⟩, fun g' n' h => by
            have := Option.some.inj h
            have e1 : g = g' := congrArg Prod.fst this
            have e2 : n = n' := congrArg Prod.snd this
            rw [← e1, ← e2]; exact tg⟩
    · rw [if_neg (by rw [w32_n (by omega), w32_n (by omega)]; omega)]
      have em : mgO A B fb fw fp nb nw np = none := if_neg (fun z => c2 z.2)
      rw [em]
      exact ⟨C, rfl, TxOnly.rfl _ _, ⟨gm, nm, tm⟩, fun g n h => absurd h (by intro z; cases z)⟩
  · rw [if_pos (by rw [w32_n (by omega), w32_n (by omega)]; omega)]
    have em : mgO A B fb fw fp nb nw np = none := if_neg (fun z => c1 z.1)
    rw [em]
    exact ⟨C, rfl, TxOnly.rfl _ _, ⟨gm, nm, tm⟩, fun g n h => absurd h (by intro z; cases z)⟩
/-- the reference merges -/
theorem X12_merges_ {v w nv : Nat} (hV : VI M nv) (hT : TI M nv) (hv : v < nv) (hw : w < nv) (hm : MV M 74 0 fw nw) (h75 : M.1 75 = (nw : Int)) (hnw : nw ≤ 60)
   (hA : ∀ i, i < 900 → (A i = true ↔ SameS fw nw (tx M v) (tl M v) i)) (hB : ∀ i, i < 900 → (B i = true ↔ (SameS (tx M w) (tl M w) (tx M v) (tl M v) i ∨ SameS (tx M w) (tl M w) fw nw i))) :
   ∃ M', fX12_merges (v : Int) (w : Int) M = some (isS (mgO A B (tx M v) fw (tx M w) (tl M v) nw (tl M w)), M') ∧ MO oRes rRes M M' ∧ ∀ g n, mgO A B (tx M v) fw (tx M w) (tl M v) nw (tl M w) = some (g, n) → RV M' g n := by
  have tv := tx_mv hV hT hv
  have tw := tx_mv hV hT hw
  have lv := hV.2.2.2.2 v hv
  have lw := hV.2.2.2.2 w hw
  have n120 := hV.2.1
  have lv' : tl M v ≤ 30 := by unfold tl; omega
  have lw' : tl M w ≤ 30 := by unfold tl; omega
  have sv := secs_le (tx M v) (tl M v)
  have sw := secs_le (tx M w) (tl M w)
  have sf := secs_le fw nw
  have e1 := X12_sectionMany_ hm
  have e2 := X12_sectionsOf_ hV hT hv
  have e3 := X12_sectionsOf_ hV hT hw
  have x4 : 30 * (v : Int) = ((30 * v : Nat) : Int) := by omega
  have x9 : 30 * (w : Int) = ((30 * w : Nat) : Int) := by omega
  have stop0 : ∀ {K : Int → Int → Md → Option (Int × Md)} (b0 : Int), True := fun _ => trivial
  have l10v := tl_eq hV hv
  have l10w := tl_eq hV hw
  have iv : inR (v : Int) (mLen 10) := inM (n := 120) rfl (by omega) (by decide)
  have iw : inR (w : Int) (mLen 10) := inM (n := 120) rfl (by omega) (by decide)
  generalize hfb : tx M v = fb at *
  generalize hnb : tl M v = nb at *
  generalize hfp : tx M w = fp at *
  generalize hnp : tl M w = np at *
  have key : ∀ (ok : Bool), (ok = true → secs fw nw = secs fb nb ∧ secs fp np = secs fb nb) → (ok = false → ¬ (secs fw nw = secs fb nb ∧ secs fp np = secs fb nb)) → ∃ M', (bnd (lpn (fun (_ : Int) (_ : Int) (_ : Md) => (none : Option (Int × Md))) (fun L60 (v6_60 : Int) (v7_60 : Int) (M_60 : Md) =>
bnd (fun  (M_209 : Md) =>
retZ v6_60 M_209) fun J209 =>
if w32 ((1 + secs fw nw : Nat) : Int) ≤ w32 v7_60 then
J209 M_60
else
if w32 v6_60 = 0 then
J209 M_60
else
if inR (v : Int) (mLen 10) then
cal (fX12_areAlike 74 0 (M_60.1 75) 9 ((30 * v : Nat) : Int) (M_60.2 10 (ix (v : Int))) v7_60 M_60) fun r7 M6 =>
bnd (fun (v6_203 : Int) (M_203 : Md) =>
L60 v6_203 (v7_60 + 1) M_203) fun J203 =>
if w32 r7 = 0 then
if inR (w : Int) (mLen 10) then
if inR (v : Int) (mLen 10) then
cal (fX12_areAlike 9 ((30 * w : Nat) : Int) (M6.2 10 (ix (w : Int))) 9 ((30 * v : Nat) : Int) (M6.2 10 (ix (v : Int))) v7_60 M6) fun r9 M8 =>
bnd (fun (t0_186 : Int) (M_186 : Md) =>
cal (fX12_putSection 74 0 (M_186.1 75) v7_60 M_186) fun r11 M10 =>
J203 t0_186 M10) fun J186 =>
bnd (fun  (M_181 : Md) =>
J186 1 M_181) fun J181 =>
if ¬ w32 r9 = 0 then
J181 M8
else
if inR (w : Int) (mLen 10) then
cal (fX12_areAlike 9 ((30 * w : Nat) : Int) (M8.2 10 (ix (w : Int))) 74 0 (M8.1 75) v7_60 M8) fun r13 M12 =>
if w32 r13 = 0 then
J186 0 M12
else
J181 M12
else none
else none
else none
else
if inR (w : Int) (mLen 10) then
cal (fX12_putSection 9 ((30 * w : Nat) : Int) (M6.2 10 (ix (w : Int))) v7_60 M6) fun r15 M14 =>
J203 v6_60 M14
else none
else none) FU) fun J60 =>
J60 (if ok = true then 1 else 0) 0 (mSet M 77 0)) = some (isS (mgO A B fb fw fp nb nw np), M') ∧ MO oRes rRes M M' ∧ ∀ g n, mgO A B fb fw fp nb nw np = some (g, n) → RV M' g n := by
    intro ok h1 h2
    rw [bnd_eq]
    have o0 : MO oRes rRes M (mSet M 77 0) := MO.set M 77 0 rfl
    have em : mgO A B fb fw fp nb nw np = if ok = true then mgL A B fw fp nw np 0 (1 + secs fw nw) (fun _ => 0) 0 else none := by
      cases ok with
      | false => exact if_neg (h2 rfl)
      | true => rw [if_pos rfl, (h1 rfl).1]; exact if_pos (h1 rfl)
    have conv : ∀ {X : Option (Int × Md)}, (∃ M', X = some (if ok = true then isS (mgL A B fw fp nw np 0 (1 + secs fw nw) (fun _ => 0) 0) else 0, M') ∧ MO oRes rRes M M' ∧ ∀ g' n', ok = true → mgL A B fw fp nw np 0 (1 + secs fw nw) (fun _ => 0) 0 = some (g', n') → RV M' g' n') → ∃ M', X = some (isS (mgO A B fb fw fp nb nw np), M') ∧ MO oRes rRes M M' ∧ ∀ g n, mgO A B fb fw fp nb nw np = some (g, n) → RV M' g n := by
      rintro X ⟨M', a1, a2, a3⟩
      refine ⟨M', ?_, a2, fun g n h => ?_⟩
      · rw [a1, em]
        cases ok <;> rfl
      · rw [em] at h
        cases ok with
        | false => exact absurd h (by intro z; cases z)
        | true => exact a3 g n rfl h
    refine conv ((lpn_rule (P := fun mm (L : Int → Int → Md → Option (Int × Md)) => ∀ (ok : Bool) (i : Nat) (M1 : Md) (g : Nat → Int) (n : Nat), i ≤ 1 + secs fw nw → 1 + secs fw nw - i < mm → MO oRes rRes M M1 → (ok = true → RV M1 g n) → n ≤ sst fp np i + sst fw nw i →
         ∃ M', L (if ok = true then 1 else 0) (i : Int) M1 = some (if ok = true then isS (mgL A B fw fp nw np i (1 + secs fw nw - i) g n) else 0, M') ∧ MO oRes rRes M M' ∧ ∀ g' n', ok = true → mgL A B fw fp nw np i (1 + secs fw nw - i) g n = some (g', n') → RV M' g' n') (fun _ i _ _ _ _ h => absurd h (Nat.not_lt_zero _)) (fun mm L hLL ok i M1 g n hi hm' o1 rg hn => ?_) FU) ok 0 (mSet M 77 0) (fun _ => 0) 0 (Nat.zero_le _) (by unfold FU; omega) o0 (fun _ => RV.nil M _) (Nat.zero_le _))
    rw [bnd_eq]
    cases ok with
    | false =>
      refine ⟨M1, ?_, o1, fun g' n' h => absurd h (by decide)⟩
      by_cases c : w32 ((1 + secs fw nw : Nat) : Int) ≤ w32 (i : Int)
      · rw [if_pos c]; rfl
      · rw [if_neg c, if_pos (by decide)]; rfl
    | true =>
      have rg := rg rfl
      have m75 : M1.1 75 = (nw : Int) := (o1.1 75 (by decide)).trans h75
      have m10v : M1.2 10 v = (nb : Int) := by rw [o1.2 10 (by decide)]; exact l10v
      have m10w : M1.2 10 w = (np : Int) := by rw [o1.2 10 (by decide)]; exact l10w
      have tf := hm.keep o1 (by decide)
      have tb := tv.keep o1 (by decide)
      have tp := tw.keep o1 (by decide)
      have mp := sst_mono fp np (show i ≤ i + 1 by omega)
      have mw := sst_mono fw nw (show i ≤ i + 1 by omega)
      have lp := sst_le fp np (i + 1)
      have lw2 := sst_le fw nw (i + 1)
      rw [if_pos rfl, if_pos rfl]
      rcases Nat.lt_or_ge i (1 + secs fw nw) with hlt | hge
      · have es : 1 + secs fw nw - i = (1 + secs fw nw - (i + 1)) + 1 := by omega
        rw [if_neg (by rw [w32_n (by omega), w32_n (by omega)]; omega), if_neg (by decide), if_pos iv, ix_n (n := v) (by omega), ix_n (n := w) (by omega), m75, m10v, es]
        have hA1 := hA i (by omega)
        have hB1 := hB i (by omega)
        have q1 := X12_areAlike_ tf tb (s := i) (by omega)
        rcases q1 with ⟨q1, p1⟩ | ⟨q1, p1⟩
        · have q1' : fX12_areAlike 74 0 (nw : Int) 9 ((30 * v : Nat) : Int) (nb : Int) (i : Int) M1 = some (1, M1) := q1
          have eA : A i = true := hA1.mpr p1
          rw [cal_of q1', bnd_eq, if_neg (by decide), if_pos iw, m10w]
          obtain ⟨M2, e5, t5, o5⟩ := X12_putSection_ (k := 9) (fr := 30 * w) (by decide) rg tp (s := i) (by omega) (by omega)
          rw [cal_of e5]
          obtain ⟨M', r1, r2, r3⟩ := hLL true (i + 1) M2 _ _ hlt (by omega) (o1.tr o5) (fun _ => t5) (by omega)
          rw [if_pos rfl, if_pos rfl] at r1
          refine ⟨M', ?_, r2, fun g' n' h0 h => ?_⟩
          · dsimp only
            rw [show (i : Int) + 1 = ((i + 1 : Nat) : Int) by omega, r1, mgL, if_pos eA]
          · rw [mgL, if_pos eA] at h
            exact r3 g' n' rfl h
        · have q1' : fX12_areAlike 74 0 (nw : Int) 9 ((30 * v : Nat) : Int) (nb : Int) (i : Int) M1 = some (0, M1) := q1
          have eA : ¬ A i = true := fun z => p1 (hA1.mp z)
          rw [cal_of q1', bnd_eq, if_pos (by decide), if_pos iw, if_pos iv, m10w, m10v]
          obtain ⟨M2, e5, t5, o5⟩ := X12_putSection_ (k := 74) (fr := 0) (by decide) rg tf (s := i) (by omega) (by omega)
          have e5' : fX12_putSection 74 0 (nw : Int) (i : Int) M1 = some ((), M2) := e5
          have take : B i = true → ∃ M', L 1 ((i : Int) + 1) M2 = some (isS (mgL A B fw fp nw np i (1 + secs fw nw - (i + 1) + 1) g n), M') ∧ MO oRes rRes M M' ∧ ∀ g' n', true = true → mgL A B fw fp nw np i (1 + secs fw nw - (i + 1) + 1) g n = some (g', n') → RV M' g' n' := by
            intro eB
            obtain ⟨M', r1, r2, r3⟩ := hLL true (i + 1) M2 _ _ hlt (by omega) (o1.tr o5) (fun _ => t5) (by omega)
            rw [if_pos rfl, if_pos rfl] at r1
            refine ⟨M', ?_, r2, fun g' n' h0 h => ?_⟩
            · rw [show (i : Int) + 1 = ((i + 1 : Nat) : Int) by omega, r1, mgL, if_neg eA, if_pos eB]
            · rw [mgL, if_neg eA, if_pos eB] at h
              exact r3 g' n' rfl h
          have stop : ¬ B i = true → ∃ M', L 0 ((i : Int) + 1) M2 = some (isS (mgL A B fw fp nw np i (1 + secs fw nw - (i + 1) + 1) g n), M') ∧ MO oRes rRes M M' ∧ ∀ g' n', true = true → mgL A B fw fp nw np i (1 + secs fw nw - (i + 1) + 1) g n = some (g', n') → RV M' g' n' := by
            intro eB
            obtain ⟨M', r1, r2, r3⟩ := hLL false (i + 1) M2 g 0 hlt (by omega) (o1.tr o5) (fun z => absurd z (by decide)) (Nat.zero_le _)
            refine ⟨M', ?_, r2, fun g' n' h0 h => ?_⟩
            · rw [mgL, if_neg eA, if_neg eB, show (i : Int) + 1 = ((i + 1 : Nat) : Int) by omega]
              exact r1
            · rw [mgL, if_neg eA, if_neg eB] at h
              exact absurd h (by intro z; cases z)
          have q2 := X12_areAlike_ tp tb (s := i) (by omega)
          rcases q2 with ⟨q2, p2⟩ | ⟨q2, p2⟩
          · rw [cal_of q2, bnd_eq, bnd_eq, if_pos (by decide)]
            dsimp only
            rw [m75, cal_of e5']
            exact take (hB1.mpr (Or.inl p2))
          · rw [cal_of q2, bnd_eq, bnd_eq, if_neg (fun z => z (by decide)), if_pos iw, m10w]
            have q3 := X12_areAlike_ tp tf (s := i) (by omega)
            rcases q3 with ⟨q3, p3⟩ | ⟨q3, p3⟩
            · have q3' : fX12_areAlike 9 ((30 * w : Nat) : Int) (np : Int) 74 0 (nw : Int) (i : Int) M1 = some (1, M1) := q3
              rw [m75, cal_of q3', if_neg (by decide)]
              dsimp only
              rw [m75, cal_of e5']
              exact take (hB1.mpr (Or.inr p3))
            · have q3' : fX12_areAlike 9 ((30 * w : Nat) : Int) (np : Int) 74 0 (nw : Int) (i : Int) M1 = some (0, M1) := q3
              rw [m75, cal_of q3', if_pos (by decide)]
              dsimp only
              rw [m75, cal_of e5']
              exact stop (fun z => (hB1.mp z).elim p2 p3)
      · have e : i = 1 + secs fw nw := by omega
        subst e
        rw [if_pos (Int.le_refl _), Nat.sub_self]
        refine ⟨M1, rfl, o1, fun g' n' h0 h => ?_⟩
        have := Option.some.inj h
        have e1 : g = g' := congrArg Prod.fst this
        have e2 : n = n' := congrArg Prod.snd this
        rw [← e1, ← e2]; exact rg
  unfold fX12_merges
  have e1' : fX12_sectionMany 74 0 (M.1 75) M = some (((1 + secs fw nw : Nat) : Int), M) := by rw [h75]; exact e1
  rw [bnd_eq, bnd_eq, cal_of e1', cal_of e2, bnd_eq, bnd_eq, x4, x9]
  by_cases c1 : secs fw nw = secs fb nb
  · rw [if_neg (fun z => z (by rw [c1])), cal_of e3]
    by_cases c2 : secs fp np = secs fb nb
    · rw [if_neg (fun z => z (by rw [c1, c2]))]
      dsimp only
      rw [bnd_eq]
      exact key true (fun _ => ⟨c1, c2⟩) (fun z => absurd z (by decide))
    · rw [if_pos (by rw [w32_n (by omega), w32_n (by omega)]; omega)]
      dsimp only
      rw [bnd_eq]
      exact key false (fun z => absurd z (by decide)) (fun _ z => c2 z.2)
  · rw [if_pos (by rw [w32_n (by omega), w32_n (by omega)]; omega)]
    dsimp only
    rw [bnd_eq]
    exact key false (fun z => absurd z (by decide)) (fun _ z => c1 z.1)
end MRG
