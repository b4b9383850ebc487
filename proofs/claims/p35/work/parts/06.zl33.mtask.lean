/-! THE CALL moveTree: the reference asks -/
section MTA
variable {b kc : Nat} {M M' M1 M2 : Md} {C C' C1 C2 : Cd} {P : Nat → Prop} {VA PA LE AA : Nat → Nat} {nv np na n : Nat} {g : Nat → Int}
theorem mtG_no {a1 a2 v3 v5 : Int} (M : Md) {n : Nat} (hn : 0 < n ∧ n < 10) : mtG a1 a2 v3 v5 (n : Int) M = some (0, mSet M 36 (n : Int)) := by
  unfold mtG
  rw [bnd_eq, mS1, if_neg (by rw [w32_n (by omega)]; omega)]
/-- the state is set to what it was asked with -/
theorem mtQ_yes {fr to had many nv : Nat} (h36 : M.1 36 = 0) (h8 : M.1 8 = (nv : Int)) (hs : nv + many ≤ 120) (hhad : had ≠ 0) (hh : had < 16) : mtQ (fr : Int) (to : Int) (had : Int) 1 (many : Int) M = mtG (fr : Int) (to : Int) (had : Int) (many : Int) 0 M := by
  unfold mtQ
  rw [bnd_eq, bnd_eq, h36, if_neg (fun z => z (by decide)), bnd_eq, if_neg (by decide), if_neg (by rw [w32_n (by omega)]; omega), h8, show (nv : Int) + (many : Int) = ((nv + many : Nat) : Int) by omega, if_pos (by rw [w32_n (by omega), show w32 120 = 120 from rfl]; omega)]
  dsimp only
  rw [h36]
theorem mtQ_no {fr to had many nv : Nat} {can : Int} (h36 : M.1 36 = 0) (h8 : M.1 8 = (nv : Int)) (hnv : nv ≤ 120) (hmany : many ≤ 24) (hh : had < 16) (hc : can = 0 ∨ can = 1) (ho : can = 0 ∨ had = 0 ∨ 120 < nv + many) : mtQ (fr : Int) (to : Int) (had : Int) can (many : Int) M = some (0, mSet M 36 2) := by
  have e2 := mtG_no (a1 := (fr : Int)) (a2 := (to : Int)) (v3 := (had : Int)) (v5 := (many : Int)) M (n := 2) (by decide)
  unfold mtQ
  rw [bnd_eq, bnd_eq, h36, if_neg (fun z => z (by decide)), bnd_eq]
  rcases hc with hc | hc
  · subst hc
    rw [if_pos (by decide)]
    exact e2
  · subst hc
    rw [if_neg (by decide)]
    by_cases c : had = 0
    · subst c
      rw [if_pos (by decide)]
      exact e2
    · rw [if_neg (by rw [w32_n (by omega)]; omega), h8, show (nv : Int) + (many : Int) = ((nv + many : Nat) : Int) by omega, if_neg (by rw [w32_n (by omega), show w32 120 = 120 from rfl]; omega)]
      exact e2
/-- how many pages would be written anew -/
theorem mtC_ {nv fr to had G : Nat} {can : Int} (hV : VI M nv) (hT : TI M nv) (h36 : M.1 36 = 0) (h6 : ∀ t, t < 24 → M.2 6 t = -1 ∨ ∃ p pv : Nat, M.2 6 t = (p : Int) ∧ p < 120 ∧ pv < nv ∧ prs M (p : Int) nv = (pv : Int)) (hfr : fr < 6) (hto : to < 6) (hhad : had < 16) (hG : ∀ v, v < 24 → G.testBit v = (decide (v / 4 = fr) && had.testBit (v % 4))) :
   ∃ M', MO oRes rRes M M' ∧ lpn (fun (_ : Int) (_ : Int) (_ : Md) => (none : Option (Int × Md))) (mtC (fr : Int) (to : Int) (had : Int) can) FU 0 0 M = mtQ (fr : Int) (to : Int) (had : Int) can (cnt (leF M nv G) 24 : Int) M' := by
  refine (lpn_rule (P := fun mm (L : Int → Int → Md → Option (Int × Md)) => ∀ (i : Nat) (M1 : Md), i ≤ 24 → 24 - i < mm → MO oRes rRes M M1 → ∃ M', MO oRes rRes M M' ∧ L (cnt (leF M nv G) i : Int) (i : Int) M1 = mtQ (fr : Int) (to : Int) (had : Int) can (cnt (leF M nv G) 24 : Int) M') (fun i _ _ h => absurd h (Nat.not_lt_zero _)) (fun mm L hL i M1 hi hm o1 => ?_) FU) 0 M (Nat.zero_le _) (by unfold FU; omega) (MO.rf _ _ _)
  have e36 : M1.1 36 = 0 := (o1.1 36 (by decide)).trans h36
  have e6 : M1.2 6 = M.2 6 := o1.2 6 (by decide)
  unfold mtC
  rw [bnd_eq]
  rcases Nat.lt_or_ge i 24 with hlt | hge
  · have vs : VSame M M1 := ⟨fun j hj => o1.1 j (by omega), fun k hk => o1.2 k (by omega)⟩
    have y := fun M2 (o2 : MO oRes rRes M M2) => hL (i + 1) M2 hlt (by omega) o2
    rw [cnt_succ] at y
    rw [if_neg (by rw [show w32 24 = 24 from rfl, w32_n (by omega)]; omega), e36, if_neg (fun z => z (by decide)), if_pos (inM (n := 24) rfl hlt (by decide)), bnd_eq, bnd_eq, ix_n (by omega), e6]
    rcases h6 i hlt with c | ⟨p, pv, c1, c2, c3, c4⟩
    · have hle : leF M nv G i = false := by unfold leF; rw [decide_eq_false (fun z => z c), Bool.false_and]
      rw [hle, ite_ff, Nat.add_zero] at y
      rw [c, if_pos rfl]
      obtain ⟨M', o', e'⟩ := y M1 o1
      refine ⟨M', o', ?_⟩
      dsimp only
      rw [bnd_eq, Int.add_zero, show (i : Int) + 1 = ((i + 1 : Nat) : Int) by omega]
      exact e'
    · rw [c1, if_neg (by rw [w32_n (by omega), show w32 (-1) = -1 from rfl]; omega)]
      have h6i : M1.2 6 i = (p : Int) := by rw [e6]; exact c1
      obtain ⟨M2, e2, o2, r2⟩ := X12_turns_ (hV.same vs) (hT.same vs) (t := i) (pv := pv) (fr := fr) (to := to) (had := had) (G := G) hlt (by rw [h6i]; exact ⟨by omega, by omega⟩) c3 (by unfold prAt; rw [h6i, if_neg (by omega), prs_same vs]; exact c4) hfr hto hhad hG
      rw [tx_same vs, tl_same vs] at e2
      have hle : leF M nv G i = anyN (liB (tx M pv) G) (tl M pv) := by
        unfold leF lpF
        rw [c1, decide_eq_true (by omega), Bool.true_and, c4, Int.toNat_natCast]
      rw [cal_of e2]
      obtain ⟨M', o', e'⟩ := y M2 (o1.tr o2)
      rw [hle] at e'
      refine ⟨M', o', ?_⟩
      by_cases d : anyN (liB (tx M pv) G) (tl M pv) = true
      · rw [if_pos d] at e' ⊢
        rw [if_neg (by decide)]
        dsimp only
        rw [bnd_eq, show (cnt (leF M nv G) i : Int) + 1 = ((cnt (leF M nv G) i + 1 : Nat) : Int) by omega, show (i : Int) + 1 = ((i + 1 : Nat) : Int) by omega]
        exact e'
      · rw [if_neg d] at e' ⊢
        rw [Nat.add_zero] at e'
        rw [if_pos (by decide)]
        dsimp only
        rw [bnd_eq, Int.add_zero, show (i : Int) + 1 = ((i + 1 : Nat) : Int) by omega]
        exact e'
  · have e : i = 24 := by omega
    subst e
    rw [if_pos (by decide)]
    exact ⟨M1, o1, rfl⟩
/-- what is asked of the two trees -/
def canF (M : Md) (fr to k : Nat) : Bool := decide (M.2 6 (4 * to + k) = -1) && (decide (M.2 3 (4 * fr + k) ≤ M.1 2) && decide (M.2 3 (4 * to + k) ≤ M.1 2))
def hadF (M : Md) (fr : Nat) : Nat := bitsN (fun k => decide (M.2 6 (4 * fr + k) ≠ -1)) 4
theorem hadF_lt (M : Md) (fr : Nat) : hadF M fr < 16 := bitsN_lt _ 4
theorem hadF_bit (M : Md) (fr : Nat) {k : Nat} (hk : k < 4) : (hadF M fr).testBit k = decide (M.2 6 (4 * fr + k) ≠ -1) := by
  unfold hadF
  rw [bitsN_bit, decide_eq_true hk, Bool.true_and]
theorem mtE_ {fr to : Nat} (hfr : fr < 6) (hto : to < 6) (h36 : M.1 36 = 0) (h2 : 0 ≤ M.1 2 ∧ M.1 2 ≤ 2) (h3 : ∀ t, t < 24 → 0 ≤ M.2 3 t ∧ M.2 3 t ≤ 2) (h6 : ∀ t, t < 24 → -1 ≤ M.2 6 t ∧ M.2 6 t < 200) :
   lpn (fun (_ : Int) (_ : Int) (_ : Int) (_ : Md) => (none : Option (Int × Md))) (mtE (fr : Int) (to : Int)) FU 0 1 0 M = lpn (fun (_ : Int) (_ : Int) (_ : Md) => (none : Option (Int × Md))) (mtC (fr : Int) (to : Int) (hadF M fr : Int) (if alN (canF M fr to) 4 = true then 1 else 0)) FU 0 0 M := by
  have key := lpn_rule (z := fun (_ : Int) (_ : Int) (_ : Int) (_ : Md) => (none : Option (Int × Md))) (body := mtE (fr : Int) (to : Int)) (P := fun mm (L : Int → Int → Int → Md → Option (Int × Md)) => ∀ k : Nat, k ≤ 4 → 4 - k < mm → L (bitsN (fun k => decide (M.2 6 (4 * fr + k) ≠ -1)) k : Int) (if alN (canF M fr to) k = true then 1 else 0) (k : Int) M = lpn (fun (_ : Int) (_ : Int) (_ : Md) => (none : Option (Int × Md))) (mtC (fr : Int) (to : Int) (hadF M fr : Int) (if alN (canF M fr to) 4 = true then 1 else 0)) FU 0 0 M) (fun i _ h => absurd h (Nat.not_lt_zero _)) (fun mm L hL k hk hm => ?_) FU
  · have y := key 0 (Nat.zero_le _) (by unfold FU; omega)
    have b0 : (bitsN (fun k => decide (M.2 6 (4 * fr + k) ≠ -1)) 0 : Int) = 0 := rfl
    have a0 : (if alN (canF M fr to) 0 = true then (1 : Int) else 0) = 1 := rfl
    rw [b0, a0] at y
    exact y
  unfold mtE
  rw [bnd_eq]
  rcases Nat.lt_or_ge k 4 with hlt | hge
  · have y := hL (k + 1) hlt (by omega)
    have lt16 : bitsN (fun k => decide (M.2 6 (4 * fr + k) ≠ -1)) k < 16777216 := bitsN_24 _ (by omega)
    have x1 : 4 * (fr : Int) + (k : Int) = ((4 * fr + k : Nat) : Int) := by omega
    have x2 : 4 * (to : Int) + (k : Int) = ((4 * to + k : Nat) : Int) := by omega
    have ru := h6 (4 * fr + k) (by omega)
    have rw_ := h6 (4 * to + k) (by omega)
    rw [if_neg (by rw [show w32 4 = 4 from rfl, w32_n (by omega)]; omega), h36, if_neg (fun z => z (by decide)), x1, x2, if_pos (inM (n := 24) rfl (by omega) (by decide)), bnd_eq, ix_n (by omega), ix_n (by omega)]
    have w1 : w32 (M.2 6 (4 * fr + k)) = M.2 6 (4 * fr + k) := w32_of (by omega) (by omega)
    have w2 : w32 (M.2 6 (4 * to + k)) = M.2 6 (4 * to + k) := w32_of (by omega) (by omega)
    have wm : w32 (-1) = -1 := rfl
    -- behind the set
    have tail : ∀ (s : Int), s = (bitsN (fun k => decide (M.2 6 (4 * fr + k) ≠ -1)) (k + 1) : Int) → (bnd s fun (x3_73 : Int) =>
bnd (fun (t0_125 : Int) (M_125 : Md) =>
L x3_73 t0_125 ((k : Int) + 1) M_125) fun J125 =>
bnd (fun  (M_124 : Md) =>
J125 0 M_124) fun J124 =>
if w32 (if alN (canF M fr to) k = true then 1 else 0) = 0 then
J124 M
else
if inR ((4 * to + k : Nat) : Int) (mLen 6) then
if ¬ w32 (M.2 6 (4 * to + k)) = w32 (-1) then
J124 M
else
cal (fX12_mayAt ((4 * fr + k : Nat) : Int) M) fun r20 M19 =>
if w32 r20 = 0 then
J124 M19
else
cal (fX12_mayAt ((4 * to + k : Nat) : Int) M19) fun r22 M21 =>
if w32 r22 = 0 then
J124 M21
else
J125 1 M21
else none) = lpn (fun (_ : Int) (_ : Int) (_ : Md) => (none : Option (Int × Md))) (mtC (fr : Int) (to : Int) (hadF M fr : Int) (if alN (canF M fr to) 4 = true then 1 else 0)) FU 0 0 M := by
      intro s hs
      rw [hs, bnd_eq, bnd_eq, bnd_eq, show (k : Int) + 1 = ((k + 1 : Nat) : Int) by omega]
      have ea : alN (canF M fr to) (k + 1) = (alN (canF M fr to) k && canF M fr to k) := rfl
      rw [ea] at y
      by_cases c : alN (canF M fr to) k = true
      · rw [c, Bool.true_and] at y
        rw [if_pos c, if_neg (by decide), if_pos (inM (n := 24) rfl (by omega) (by decide))]
        by_cases c1 : M.2 6 (4 * to + k) = -1
        · rw [if_neg (fun z => z (by rw [c1]))]
          rcases X12_mayAt_ (M := M) (t := 4 * fr + k) (by omega) h2 (h3 _ (by omega)) with ⟨e, q⟩ | ⟨e, q⟩
          · rw [cal_of e, if_neg (by decide)]
            rcases X12_mayAt_ (M := M) (t := 4 * to + k) (by omega) h2 (h3 _ (by omega)) with ⟨e', q'⟩ | ⟨e', q'⟩
            · rw [cal_of e', if_neg (by decide)]
              have hc : canF M fr to k = true := by unfold canF; rw [decide_eq_true c1, decide_eq_true q, decide_eq_true q']; rfl
              rw [hc, if_pos rfl] at y
              exact y
            · rw [cal_of e', if_pos (by decide)]
              have hc : canF M fr to k = false := by unfold canF; rw [decide_eq_false q', Bool.and_false, Bool.and_false]
              rw [hc, if_neg (by decide)] at y
              exact y
          · rw [cal_of e, if_pos (by decide)]
            have hc : canF M fr to k = false := by unfold canF; rw [decide_eq_false q, Bool.false_and, Bool.and_false]
            rw [hc, if_neg (by decide)] at y
            exact y
        · rw [if_pos (by rw [w2, wm]; exact c1)]
          have hc : canF M fr to k = false := by unfold canF; rw [decide_eq_false c1, Bool.false_and]
          rw [hc, if_neg (by decide)] at y
          exact y
      · rw [if_neg c, if_pos (by decide)]
        rw [eq_false_of_ne_true c, Bool.false_and, if_neg (by decide)] at y
        exact y
    by_cases c : M.2 6 (4 * fr + k) = -1
    · rw [if_neg (fun z => z (by rw [c]))]
      dsimp only
      refine tail _ ?_
      rw [bitsN, if_neg (by rw [decide_eq_false (fun z => z c)]; decide), Nat.or_zero]
      exact orI_0 (by omega)
    · rw [if_pos (by rw [w1, wm]; exact c)]
      dsimp only
      refine tail _ ?_
      rw [bitsN, if_pos (decide_eq_true c)]
      exact orI_set lt16 (by omega)
  · have e : k = 4 := by omega
    subst e
    rw [if_pos (by decide)]
    dsimp only
    rw [bnd_eq]
    unfold hadF
    rfl
end MTA
