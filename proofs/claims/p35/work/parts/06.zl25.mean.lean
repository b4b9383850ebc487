/-! WHAT IS MEANT, WHAT IS UNDONE, WHETHER IT IS NEW -/
section MEA
variable {b : Nat} {C C' C1 : Cd} {M M' M1 : Md} {fb fw fp d f g : Nat → Int} {nb nw np nv n m dn : Nat} {A B : Nat → Bool}
/-- the reference undoes -/
theorem X12_undoes_ {u v w : Nat} (hV : VI M nv) (hT : TI M nv) (hu : u < nv) (hv : v < nv) (hw : w < nv)
   (hA : ∀ i, i < 900 → (A i = true ↔ SameS (tx M u) (tl M u) (tx M v) (tl M v) i)) (hB : ∀ i, i < 900 → (B i = true ↔ SameS (tx M w) (tl M w) (tx M v) (tl M v) i)) :
   ∃ M', fX12_undoes (u : Int) (v : Int) (w : Int) M = some (isS (mgO A B (tx M v) (tx M u) (tx M w) (tl M v) (tl M u) (tl M w)), M') ∧ MO oRes rRes M M' ∧ ∀ g n, mgO A B (tx M v) (tx M u) (tx M w) (tl M v) (tl M u) (tl M w) = some (g, n) → RV M' g n := by
  have tu := tx_mv hV hT hu
  have tv := tx_mv hV hT hv
  have tw := tx_mv hV hT hw
  have lu := hV.2.2.2.2 u hu
  have lv := hV.2.2.2.2 v hv
  have lw := hV.2.2.2.2 w hw
  have n120 := hV.2.1
  have lu' : tl M u ≤ 30 := by unfold tl; omega
  have lv' : tl M v ≤ 30 := by unfold tl; omega
  have lw' : tl M w ≤ 30 := by unfold tl; omega
  have su := secs_le (tx M u) (tl M u)
  have sv := secs_le (tx M v) (tl M v)
  have sw := secs_le (tx M w) (tl M w)
  have e1 := X12_sectionsOf_ hV hT hu
  have e2 := X12_sectionsOf_ hV hT hv
  have e3 := X12_sectionsOf_ hV hT hw
  have x6 : 30 * (u : Int) = ((30 * u : Nat) : Int) := by omega
  have x7 : 30 * (v : Int) = ((30 * v : Nat) : Int) := by omega
  have x8 : 30 * (w : Int) = ((30 * w : Nat) : Int) := by omega
  have l10u := tl_eq hV hu
  have l10v := tl_eq hV hv
  have l10w := tl_eq hV hw
  have iu : inR (u : Int) (mLen 10) := inM (n := 120) rfl (by omega) (by decide)
  have iv : inR (v : Int) (mLen 10) := inM (n := 120) rfl (by omega) (by decide)
  have iw : inR (w : Int) (mLen 10) := inM (n := 120) rfl (by omega) (by decide)
  generalize hfw : tx M u = fw at *
  generalize hnw : tl M u = nw at *
  generalize hfb : tx M v = fb at *
  generalize hnb : tl M v = nb at *
  generalize hfp : tx M w = fp at *
  generalize hnp : tl M w = np at *
  have key : ∀ (ok : Bool), (ok = true → secs fw nw = secs fb nb ∧ secs fp np = secs fb nb) → (ok = false → ¬ (secs fw nw = secs fb nb ∧ secs fp np = secs fb nb)) → ∃ M', (bnd (30 * (u : Int)) fun (x6_38 : Int) =>
bnd (30 * (v : Int)) fun (x7_44 : Int) =>
bnd (30 * (w : Int)) fun (x8_50 : Int) =>
bnd (mSet M 77 0) fun (M5 : Md) =>
bnd (lpn (fun (_ : Int) (_ : Int) (_ : Md) => (none : Option (Int × Md))) (fun L60 (v5_60 : Int) (v9_60 : Int) (M_60 : Md) =>
bnd (fun  (M_180 : Md) =>
retZ v5_60 M_180) fun J180 =>
if w32 ((1 + secs fb nb : Nat) : Int) ≤ w32 v9_60 then
J180 M_60
else
if w32 v5_60 = 0 then
J180 M_60
else
if inR (u : Int) (mLen 10) then
if inR (v : Int) (mLen 10) then
cal (fX12_areAlike 9 x6_38 (M_60.2 10 (ix (u : Int))) 9 x7_44 (M_60.2 10 (ix (v : Int))) v9_60 M_60) fun r7 M6 =>
bnd (fun (v5_174 : Int) (M_174 : Md) =>
L60 v5_174 (v9_60 + 1) M_174) fun J174 =>
if w32 r7 = 0 then
if inR (w : Int) (mLen 10) then
if inR (v : Int) (mLen 10) then
cal (fX12_areAlike 9 x8_50 (M6.2 10 (ix (w : Int))) 9 x7_44 (M6.2 10 (ix (v : Int))) v9_60 M6) fun r9 M8 =>
if inR (u : Int) (mLen 10) then
cal (fX12_putSection 9 x6_38 (M8.2 10 (ix (u : Int))) v9_60 M8) fun r11 M10 =>
J174 r9 M10
else none
else none
else none
else
if inR (w : Int) (mLen 10) then
cal (fX12_putSection 9 x8_50 (M6.2 10 (ix (w : Int))) v9_60 M6) fun r13 M12 =>
J174 v5_60 M12
else none
else none
else none) FU) fun J60 =>
J60 (if ok = true then 1 else 0) 0 M5) = some (isS (mgO A B fb fw fp nb nw np), M') ∧ MO oRes rRes M M' ∧ ∀ g n, mgO A B fb fw fp nb nw np = some (g, n) → RV M' g n := by
    intro ok h1 h2
    rw [bnd_eq, bnd_eq, bnd_eq, bnd_eq, bnd_eq, x6, x7, x8]
    have o0 : MO oRes rRes M (mSet M 77 0) := MO.set M 77 0 rfl
    have em : mgO A B fb fw fp nb nw np = if ok = true then mgL A B fw fp nw np 0 (1 + secs fb nb) (fun _ => 0) 0 else none := by
      cases ok with
      | false => exact if_neg (h2 rfl)
      | true => rw [if_pos rfl]; exact if_pos (h1 rfl)
    have conv : ∀ {X : Option (Int × Md)}, (∃ M', X = some (if ok = true then isS (mgL A B fw fp nw np 0 (1 + secs fb nb) (fun _ => 0) 0) else 0, M') ∧ MO oRes rRes M M' ∧ ∀ g' n', ok = true → mgL A B fw fp nw np 0 (1 + secs fb nb) (fun _ => 0) 0 = some (g', n') → RV M' g' n') → ∃ M', X = some (isS (mgO A B fb fw fp nb nw np), M') ∧ MO oRes rRes M M' ∧ ∀ g n, mgO A B fb fw fp nb nw np = some (g, n) → RV M' g n := by
      rintro X ⟨M', a1, a2, a3⟩
      refine ⟨M', ?_, a2, fun g n h => ?_⟩
      · rw [a1, em]
        cases ok <;> rfl
      · rw [em] at h
        cases ok with
        | false => exact absurd h (by intro z; cases z)
        | true => exact a3 g n rfl h
    refine conv ((lpn_rule (P := fun mm (L : Int → Int → Md → Option (Int × Md)) => ∀ (ok : Bool) (i : Nat) (M1 : Md) (g : Nat → Int) (n : Nat), i ≤ 1 + secs fb nb → 1 + secs fb nb - i < mm → MO oRes rRes M M1 → (ok = true → RV M1 g n) → n ≤ sst fp np i + sst fw nw i →
         ∃ M', L (if ok = true then 1 else 0) (i : Int) M1 = some (if ok = true then isS (mgL A B fw fp nw np i (1 + secs fb nb - i) g n) else 0, M') ∧ MO oRes rRes M M' ∧ ∀ g' n', ok = true → mgL A B fw fp nw np i (1 + secs fb nb - i) g n = some (g', n') → RV M' g' n') (fun _ i _ _ _ _ h => absurd h (Nat.not_lt_zero _)) (fun mm L hLL ok i M1 g n hi hm' o1 rg hn => ?_) FU) ok 0 (mSet M 77 0) (fun _ => 0) 0 (Nat.zero_le _) (by unfold FU; omega) o0 (fun _ => RV.nil M _) (Nat.zero_le _))
    rw [bnd_eq]
    cases ok with
    | false =>
      refine ⟨M1, ?_, o1, fun g' n' h => absurd h (by decide)⟩
      by_cases c : w32 ((1 + secs fb nb : Nat) : Int) ≤ w32 (i : Int)
      · rw [if_pos c]; rfl
      · rw [if_neg c, if_pos (by decide)]; rfl
    | true =>
      have rg := rg rfl
      have m10u : M1.2 10 u = (nw : Int) := by rw [o1.2 10 (by decide)]; exact l10u
      have m10v : M1.2 10 v = (nb : Int) := by rw [o1.2 10 (by decide)]; exact l10v
      have m10w : M1.2 10 w = (np : Int) := by rw [o1.2 10 (by decide)]; exact l10w
      have tf := tu.keep o1 (by decide)
      have tb := tv.keep o1 (by decide)
      have tp := tw.keep o1 (by decide)
      have mp := sst_mono fp np (show i ≤ i + 1 by omega)
      have mw := sst_mono fw nw (show i ≤ i + 1 by omega)
      have lp := sst_le fp np (i + 1)
      have lw2 := sst_le fw nw (i + 1)
      rw [if_pos rfl, if_pos rfl]
      rcases Nat.lt_or_ge i (1 + secs fb nb) with hlt | hge
      · have es : 1 + secs fb nb - i = (1 + secs fb nb - (i + 1)) + 1 := by omega
        rw [if_neg (by rw [w32_n (by omega), w32_n (by omega)]; omega), if_neg (by decide), if_pos iu, if_pos iv, ix_n (n := u) (by omega), ix_n (n := v) (by omega), ix_n (n := w) (by omega), m10u, m10v, es]
        have hA1 := hA i (by omega)
        have hB1 := hB i (by omega)
        have q1 := X12_areAlike_ tf tb (s := i) (by omega)
        rcases q1 with ⟨q1, p1⟩ | ⟨q1, p1⟩
        · have eA : A i = true := hA1.mpr p1
          rw [cal_of q1, bnd_eq, if_neg (by decide), if_pos iw, m10w]
          obtain ⟨M2, e5, t5, o5⟩ := X12_putSection_ (k := 9) (fr := 30 * w) (by decide) rg tp (s := i) (by omega) (by omega)
          rw [cal_of e5]
          obtain ⟨M', r1, r2, r3⟩ := hLL true (i + 1) M2 _ _ hlt (by omega) (o1.tr o5) (fun _ => t5) (by omega)
          rw [if_pos rfl, if_pos rfl] at r1
          refine ⟨M', ?_, r2, fun g' n' h0 h => ?_⟩
          · dsimp only
            rw [show (i : Int) + 1 = ((i + 1 : Nat) : Int) by omega, r1, mgL, if_pos eA]
          · rw [mgL, if_pos eA] at h
            exact r3 g' n' rfl h
        · have eA : ¬ A i = true := fun z => p1 (hA1.mp z)
          rw [cal_of q1, bnd_eq, if_pos (by decide), if_pos iw, if_pos iv, m10w, m10v]
          obtain ⟨M2, e5, t5, o5⟩ := X12_putSection_ (k := 9) (fr := 30 * u) (by decide) rg tf (s := i) (by omega) (by omega)
          have take : B i = true → ∃ M', L 1 ((i : Int) + 1) M2 = some (isS (mgL A B fw fp nw np i (1 + secs fb nb - (i + 1) + 1) g n), M') ∧ MO oRes rRes M M' ∧ ∀ g' n', true = true → mgL A B fw fp nw np i (1 + secs fb nb - (i + 1) + 1) g n = some (g', n') → RV M' g' n' := by
            intro eB
            obtain ⟨M', r1, r2, r3⟩ := hLL true (i + 1) M2 _ _ hlt (by omega) (o1.tr o5) (fun _ => t5) (by omega)
            rw [if_pos rfl, if_pos rfl] at r1
            refine ⟨M', ?_, r2, fun g' n' h0 h => ?_⟩
            · rw [show (i : Int) + 1 = ((i + 1 : Nat) : Int) by omega, r1, mgL, if_neg eA, if_pos eB]
            · rw [mgL, if_neg eA, if_pos eB] at h
              exact r3 g' n' rfl h
          have stop : ¬ B i = true → ∃ M', L 0 ((i : Int) + 1) M2 = some (isS (mgL A B fw fp nw np i (1 + secs fb nb - (i + 1) + 1) g n), M') ∧ MO oRes rRes M M' ∧ ∀ g' n', true = true → mgL A B fw fp nw np i (1 + secs fb nb - (i + 1) + 1) g n = some (g', n') → RV M' g' n' := by
            intro eB
            obtain ⟨M', r1, r2, r3⟩ := hLL false (i + 1) M2 g 0 hlt (by omega) (o1.tr o5) (fun z => absurd z (by decide)) (Nat.zero_le _)
            refine ⟨M', ?_, r2, fun g' n' h0 h => ?_⟩
            · rw [mgL, if_neg eA, if_neg eB, show (i : Int) + 1 = ((i + 1 : Nat) : Int) by omega]
              exact r1
            · rw [mgL, if_neg eA, if_neg eB] at h
              exact absurd h (by intro z; cases z)
          have q2 := X12_areAlike_ tp tb (s := i) (by omega)
          rcases q2 with ⟨q2, p2⟩ | ⟨q2, p2⟩
          · rw [cal_of q2, if_pos iu, m10u, cal_of e5]
            dsimp only
            exact take (hB1.mpr p2)
          · rw [cal_of q2, if_pos iu, m10u, cal_of e5]
            dsimp only
            exact stop (fun z => p2 (hB1.mp z))
      · have e : i = 1 + secs fb nb := by omega
        subst e
        rw [if_pos (Int.le_refl _), Nat.sub_self]
        refine ⟨M1, rfl, o1, fun g' n' h0 h => ?_⟩
        have := Option.some.inj h
        have e1 : g = g' := congrArg Prod.fst this
        have e2 : n = n' := congrArg Prod.snd this
        rw [← e1, ← e2]; exact rg
  unfold fX12_undoes
  rw [cal_of e2, cal_of e1, bnd_eq, bnd_eq]
  by_cases c1 : secs fw nw = secs fb nb
  · rw [if_neg (fun z => z (by rw [c1])), cal_of e3]
    by_cases c2 : secs fp np = secs fb nb
    · rw [if_neg (fun z => z (by rw [c2]))]
      exact key true (fun _ => ⟨c1, c2⟩) (fun z => absurd z (by decide))
    · rw [if_pos (by rw [w32_n (by omega), w32_n (by omega)]; omega)]
      exact key false (fun z => absurd z (by decide)) (fun _ z => c2 z.2)
  · rw [if_pos (by rw [w32_n (by omega), w32_n (by omega)]; omega)]
    exact key false (fun z => absurd z (by decide)) (fun _ z => c1 z.1)
/-- whether what is laid is new -/
def NewP (g : Nat → Int) (n : Nat) (f : Nat → Int) (m nv : Nat) : Prop := ¬ (n = m ∧ ∀ k, k < n → g k = f k) ∧ isTx g n = true ∧ nv < 120
def nwT (v2_21 : Int) (M_65 : Md) : Option (Int × Md) :=
bnd (fun (t0_99 : Int) (M_99 : Md) =>
retZ t0_99 M_99) fun J99 =>
bnd (fun  (M_98 : Md) =>
J99 0 M_98) fun J98 =>
if w32 v2_21 = 0 then
J98 M_65
else
cal (fX12_isText 76 0 (M_65.1 77) M_65) fun r2 M1 =>
if w32 r2 = 0 then
J98 M1
else
if w32 120 ≤ w32 (M1.1 8) then
J98 M1
else
J99 1 M1
def nwB (a1 : Int) (L21 : Int → Int → Md → Option (Int × Md)) (v2_21 : Int) (v3_21 : Int) (M_21 : Md) : Option (Int × Md) :=
bnd (fun  (M_65 : Md) =>
bnd (fun (t0_99 : Int) (M_99 : Md) =>
retZ t0_99 M_99) fun J99 =>
bnd (fun  (M_98 : Md) =>
J99 0 M_98) fun J98 =>
if w32 v2_21 = 0 then
J98 M_65
else
cal (fX12_isText 76 0 (M_65.1 77) M_65) fun r2 M1 =>
if w32 r2 = 0 then
J98 M1
else
if w32 120 ≤ w32 (M1.1 8) then
J98 M1
else
J99 1 M1) fun J65 =>
if w32 (M_21.1 77) ≤ w32 v3_21 then
J65 M_21
else
if ¬ w32 v2_21 = 0 then
J65 M_21
else
if inR v3_21 (mLen 76) then
if inR ((30 * a1) + v3_21) (mLen 9) then
bnd (fun (t0_58 : Int) (M_58 : Md) =>
L21 t0_58 (v3_21 + 1) M_58) fun J58 =>
if w32 (M_21.2 76 (ix v3_21)) = w32 (M_21.2 9 (ix ((30 * a1) + v3_21))) then
J58 0 M_21
else
J58 1 M_21
else none
else none
theorem isNew_def (a1 : Int) (M : Md) : fX12_isNew a1 M = (if inR a1 (mLen 10) then
bnd (fun (t0_18 : Int) (M_18 : Md) =>
bnd (lpn (fun (_ : Int) (_ : Int) (_ : Md) => (none : Option (Int × Md))) (nwB a1) FU) fun J21 =>
J21 t0_18 0 M_18) fun J18 =>
if w32 (M.1 77) = w32 (M.2 10 (ix a1)) then
J18 0 M
else
J18 1 M
else none) := rfl
theorem nwT_ (h8 : M.1 8 = (nv : Int)) (n120 : nv ≤ 120) (r1 : M.1 77 = (n : Int)) (e2 : fX12_isText 76 0 (n : Int) M = some (if isTx g n = true then 1 else 0, M1)) (o2 : MO noS rTx M M1) (o : Bool) (ho : o = true ↔ ¬ (n = m ∧ ∀ k, k < n → g k = f k)) :
   ∃ M', ((nwT (if o = true then 1 else 0) M = some (1, M') ∧ NewP g n f m nv) ∨ (nwT (if o = true then 1 else 0) M = some (0, M') ∧ ¬ NewP g n f m nv)) ∧ MO noS rTx M M' := by
  unfold nwT
  rw [bnd_eq, bnd_eq]
  cases o with
  | false =>
    exact ⟨M, Or.inr ⟨rfl, fun z => absurd (ho.mpr z.1) (by decide)⟩, MO.rf _ _ _⟩
  | true =>
    have hne := ho.mp rfl
    rw [if_pos rfl, if_neg (by decide), r1, cal_of e2]
    by_cases c : isTx g n = true
    · have m8 : M1.1 8 = (nv : Int) := (o2.1 8 (fun z => z)).trans h8
      rw [if_pos c, if_neg (by decide), m8]
      by_cases c2 : nv = 120
      · rw [if_pos (by rw [c2]; decide)]
        exact ⟨M1, Or.inr ⟨rfl, fun z => by have := z.2.2; omega⟩, o2⟩
      · rw [if_neg (by rw [w32_n (by omega), show w32 120 = 120 from rfl]; omega)]
        exact ⟨M1, Or.inl ⟨rfl, hne, c, by omega⟩, o2⟩
    · rw [if_neg c, if_pos (by decide)]
      exact ⟨M1, Or.inr ⟨rfl, fun z => c z.2.1⟩, o2⟩
theorem nwL_ {w : Nat} (hw : w < 120) (r1 : M.1 77 = (n : Int)) (hn : n ≤ 200) (hm : m ≤ 30) (r4 : ∀ i, i < n → M.2 76 i = g i) (r5 : Tks g n) (tw : MV M 9 (30 * w) f m)
   (fin : ∀ (o : Bool), (o = true ↔ ¬ (n = m ∧ ∀ k, k < n → g k = f k)) → ∃ M', ((nwT (if o = true then 1 else 0) M = some (1, M') ∧ NewP g n f m nv) ∨ (nwT (if o = true then 1 else 0) M = some (0, M') ∧ ¬ NewP g n f m nv)) ∧ MO noS rTx M M') (o : Bool) (ho1 : o = true → ¬ n = m) (ho2 : o = false → n = m) :
   ∃ M', ((lpn (fun (_ : Int) (_ : Int) (_ : Md) => (none : Option (Int × Md))) (nwB (w : Int)) FU (if o = true then 1 else 0) 0 M = some (1, M') ∧ NewP g n f m nv) ∨ (lpn (fun (_ : Int) (_ : Int) (_ : Md) => (none : Option (Int × Md))) (nwB (w : Int)) FU (if o = true then 1 else 0) 0 M = some (0, M') ∧ ¬ NewP g n f m nv)) ∧ MO noS rTx M M' := by
  refine (lpn_rule (P := fun mm (L : Int → Int → Md → Option (Int × Md)) => ∀ (o : Bool) (i : Nat), i ≤ n → n - i < mm → (o = true → ¬ (n = m ∧ ∀ k, k < n → g k = f k)) → (o = false → n = m ∧ ∀ k, k < i → g k = f k) → ∃ M', ((L (if o = true then 1 else 0) (i : Int) M = some (1, M') ∧ NewP g n f m nv) ∨ (L (if o = true then 1 else 0) (i : Int) M = some (0, M') ∧ ¬ NewP g n f m nv)) ∧ MO noS rTx M M') (fun _ _ _ h => absurd h (Nat.not_lt_zero _)) (fun mm L hLL o i hi hm' h1 h2 => ?_) FU) o 0 (Nat.zero_le _) (by unfold FU; omega) (fun z q => ho1 z q.1) (fun z => ⟨ho2 z, fun k hk => absurd hk (Nat.not_lt_zero _)⟩)
  cases o with
  | true =>
    have ff := fin true ⟨fun _ => h1 rfl, fun _ => rfl⟩
    have e : nwB (w : Int) L (if true = true then 1 else 0) (i : Int) M = nwT (if true = true then 1 else 0) M := by
      unfold nwB
      rw [bnd_eq]
      by_cases c : w32 (M.1 77) ≤ w32 (i : Int)
      · rw [if_pos c]; rfl
      · rw [if_neg c, if_pos (by decide)]; rfl
    rw [e]
    exact ff
  | false =>
    obtain ⟨c0, c1⟩ := h2 rfl
    rcases Nat.lt_or_ge i n with hlt | hge
    · have a2 := tw.2.2.1 i (by omega)
      have b1 := r5 i hlt
      have b2 := tw.2.2.2 i (by omega)
      have e : nwB (w : Int) L (if false = true then 1 else 0) (i : Int) M = L (if g i = f i then 0 else 1) ((i + 1 : Nat) : Int) M := by
        unfold nwB
        rw [bnd_eq, if_neg (show ¬ (false = true) by decide), r1, if_neg (by rw [w32_n (by omega), w32_n (by omega)]; omega), if_neg (fun z => z (by decide)), if_pos (inM (n := 200) rfl (by omega) (by decide)), show 30 * (w : Int) + (i : Int) = ((30 * w + i : Nat) : Int) by omega, if_pos (inM (n := 3600) rfl (by omega) (by decide)), bnd_eq, ix_n (n := i) (by omega), ix_n (n := 30 * w + i) (by omega), r4 i hlt, a2, w32_of (x := g i) (by omega) (by omega), w32_of (x := f i) (by omega) (by omega), show (i : Int) + 1 = ((i + 1 : Nat) : Int) by omega]
        by_cases c : g i = f i
        · rw [if_pos c, if_pos c]
        · rw [if_neg c, if_neg c]
      rw [e]
      by_cases c : g i = f i
      · rw [if_pos c]
        exact hLL false (i + 1) hlt (by omega) (fun z => absurd z (by decide)) (fun _ => ⟨c0, fun k hk => by
          rcases Nat.lt_or_ge k i with z | z
          · exact c1 k z
          · rw [show k = i by omega]; exact c⟩)
      · rw [if_neg c]
        exact hLL true (i + 1) hlt (by omega) (fun _ z => c (z.2 i hlt)) (fun z => absurd z (by decide))
    · have ei : i = n := by omega
      subst ei
      have ff := fin false ⟨fun z => absurd z (by decide), fun z => absurd ⟨c0, c1⟩ z⟩
      have e : nwB (w : Int) L (if false = true then 1 else 0) (i : Int) M = nwT (if false = true then 1 else 0) M := by
        unfold nwB
        rw [bnd_eq, if_pos (by rw [r1]; exact Int.le_refl _)]
        rfl
      rw [e]
      exact ff
theorem X12_isNew_ {w : Nat} (hV : VI M nv) (hT : TI M nv) (hw : w < nv) (hr : RV M g n) : ∃ M', ((fX12_isNew (w : Int) M = some (1, M') ∧ NewP g n (tx M w) (tl M w) nv) ∨ (fX12_isNew (w : Int) M = some (0, M') ∧ ¬ NewP g n (tx M w) (tl M w) nv)) ∧ MO noS rTx M M' := by
  have n120 := hV.2.1
  have lw := hV.2.2.2.2 w hw
  have tw := tx_mv hV hT hw
  have l10 := tl_eq hV hw
  have iw : inR (w : Int) (mLen 10) := inM (n := 120) rfl (by omega) (by decide)
  obtain ⟨r1, r2, r3, r4, r5⟩ := hr
  rw [ml_76] at r2
  have hm : tl M w ≤ 30 := by unfold tl; omega
  obtain ⟨M1, e2, o2⟩ := X12_isText_ (M := M) (k := 76) (fr := 0) (n := n) (g := g) (by decide) (by decide) ⟨by rw [ml_76]; omega, by decide, r4, r5⟩ (by omega)
  have e2' : fX12_isText 76 0 (n : Int) M = some (if isTx g n = true then 1 else 0, M1) := e2
  have fin := fun (o : Bool) ho => nwT_ (nv := nv) (m := tl M w) (f := tx M w) hV.1 n120 r1 e2' o2 o ho
  have lp := nwL_ (nv := nv) (w := w) (by omega) r1 (by omega) hm (fun i hi => by have := r4 i hi; rw [Nat.zero_add] at this; exact this) r5 tw fin
  rw [isNew_def, if_pos iw, bnd_eq, ix_n (by omega), r1, l10]
  by_cases c : n = tl M w
  · rw [if_pos (by rw [c])]
    dsimp only
    rw [bnd_eq]
    exact lp false (fun z => absurd z (by decide)) (fun _ => c)
  · rw [if_neg (by rw [w32_n (by omega), w32_n (by omega)]; omega)]
    dsimp only
    rw [bnd_eq]
    exact lp true (fun _ => c) (fun z => absurd z (by decide))
end MEA
