/-! THE REFERENCE DOES A MODULE -/
section MMD
theorem inM {d n k : Nat} (hk : mLen k = n) (hd : d < n) (hn : n < 2147483648) : inR (d : Int) (mLen k) := by rw [hk]; exact inR_n hd hn
theorem StO.rf (M : Md) : StO M M := ⟨fun _ _ => rfl, fun _ _ => rfl⟩
theorem StO.tr {M M1 M2 : Md} (h : StO M M1) (h1 : StO M1 M2) : StO M M2 := ⟨fun j a => (h1.1 j a).trans (h.1 j a), fun k a => (h1.2 k a).trans (h.2 k a)⟩
theorem StO.set {M : Md} {x : Int} : StO M (mSet M 73 x) := ⟨fun j a => mS2 _ _ a, fun _ _ => rfl⟩
theorem StO.put {M : Md} {i : Nat} {x : Int} : StO M (mPut M 72 i x) := ⟨fun _ _ => rfl, fun k a => mPut_ne _ _ _ a⟩
theorem RowM.st {M M' : Md} {d : Nat} {r : List Int} (h : RowM M d r) (o : ∀ k, k ≠ 72 → M'.2 k = M.2 k) : RowM M' d r :=
  ⟨h.1, by rw [o 49 (by decide)]; exact h.2.1, h.2.2.1, fun k hk => by rw [o 50 (by decide)]; exact h.2.2.2 k hk⟩
theorem FnS.st {M M' : Md} {k f : Nat} {s : ASt} {pl : List Nat} (h : FnS M k s f pl) (o : ∀ k, k ≠ 72 → M'.2 k = M.2 k) (o1 : M'.1 71 = M.1 71) : FnS M' k s f pl := by
  obtain ⟨h1, h2, h3, h4, h5, h6⟩ := h
  refine ⟨h1, by rw [o 55 (by decide)]; exact h2, h3, h4.st o, by rw [o1]; exact h5, fun j hj => ?_⟩
  rw [o 58 (by decide)]
  rcases h6 j hj with y | ⟨y1, d, y2, y3, y4⟩
  · exact Or.inl y
  · exact Or.inr ⟨y1, d, y2, y3, fun z => (y4 z).st o⟩
/-- the modules, as the reference holds them -/
def MoM (M : Md) (E : Env) : Prop := ∀ j, j < 4 → M.2 21 j = (eMl E j : Int) ∧ ∀ i, i < eMl E j → M.2 19 (16 * j + i) = eMi E j i ∧ M.2 20 (16 * j + i) = eMv E j i
/-- what a module's run comes to -/
def MrG (M : Md) (pl : List Nat) (X : Option (Int × Md)) (v : Int) : Prop := (-99 < v → ∃ M', X = some (v, M') ∧ StO M M' ∧ 0 ≤ v ∧ v < 10000) ∧
  (v < -99 → ∃ M' x jn, v = -100 - ((jn + 1 : Nat) : Int) ∧ jn < pl.length ∧ X = some (x, M') ∧ StO (mSet M 71 ((jn + 1 : Nat) : Int)) M')
theorem MrG.fault {M M1 : Md} {pl : List Nat} {v : Int} (o : StO M M1) (hv : v = 9004) : MrG M pl (some (9004, M1)) v := by
  subst hv
  exact ⟨fun _ => ⟨M1, rfl, o, by decide, by decide⟩, fun z => absurd z (by decide)⟩
theorem op2_rng {k x y : Int} (rx : 0 ≤ x ∧ x < 1000) (ry : 0 ≤ y ∧ y < 1000) : 0 ≤ op2 k x y ∧ op2 k x y < 1000 := by
  unfold op2
  by_cases k2 : k = 2
  · rw [if_pos k2]; omega
  · rw [if_neg k2]
    by_cases k3 : k = 3
    · rw [if_pos k3]; omega
    · rw [if_neg k3]
      by_cases k4 : k = 4
      · rw [if_pos k4]
        exact ⟨Int.emod_nonneg _ (by decide), Int.emod_lt_of_pos _ (by decide)⟩
      · rw [if_neg k4]
        by_cases c : x < y
        · rw [if_pos c]; omega
        · rw [if_neg c]; omega
variable {M : Md} {E : Env} {k f : Nat} {s : ASt} {pl : List Nat}
set_option maxHeartbeats 4000000 in
theorem X12_moduleResult_ (h : FnS M k s f pl) (h71 : M.1 71 = 0) (hM : MoM M E) (hMo : MoP E) {j : Nat} (hj : j < 4) (hne : mex E j (argv s f pl) 50 0 [] ≠ -99) :
   MrG M pl (fX12_moduleResult (k : Int) (j : Int) M) (mex E j (argv s f pl) 50 0 []) := by
  unfold fX12_moduleResult
  rw [bnd_eq, bnd_eq]
  refine lpn_rule (P := fun mm (L : Int → Int → Md → Option (Int × Md)) => ∀ (d at_ : Nat) (st : List Int) (M1 : Md), d ≤ 50 → 50 - d < mm → st.length ≤ 8 → (∀ x ∈ st, 0 ≤ x ∧ x < 1000) → at_ ≤ 1000 → Arb (M1.2 72) st → M1.1 73 = (st.length : Int) → StO M M1 → mex E j (argv s f pl) (50 - d) at_ st ≠ -99 →
    MrG M pl (L (at_ : Int) (d : Int) M1) (mex E j (argv s f pl) (50 - d) at_ st))
    (fun d _ _ _ _ h => absurd h (Nat.not_lt_zero _)) (fun mm L hLL d at_ st M1 hd hm hst8 hst hat hA h73 o1 hne => ?_) FU 0 0 [] (mSet M 73 0) (Nat.zero_le _) (by unfold FU; omega) (by decide) (fun x hx => absurd hx List.not_mem_nil) (by decide) trivial (mS1 _ _ _) StO.set hne
  rcases Nat.lt_or_ge d 50 with hlt | hge
  · have e50 : 50 - d = (50 - (d + 1)) + 1 := by omega
    rw [e50] at hne ⊢
    obtain ⟨m1, m2⟩ := hM j hj
    have r21 : M1.2 21 j = (eMl E j : Int) := by rw [o1.2 21 (by decide)]; exact m1
    have h71' : M1.1 71 = 0 := by rw [o1.1 71 (by decide)]; exact h71
    have hF := h.st o1.2 (o1.1 71 (by decide))
    obtain ⟨hl16, hmm⟩ := hMo j hj
    rw [bnd_eq, if_neg (by rw [w32_n (by omega), show w32 50 = 50 from rfl]; omega), if_pos (inM (n := 4) rfl hj (by decide)), ix_n (by omega), r21]
    by_cases cat : at_ < eMl E j
    · have e16 : (16 * (j : Int)) + (at_ : Int) = ((16 * j + at_ : Nat) : Int) := by omega
      rw [if_neg (by rw [w32_n (by omega), w32_n (by omega)]; omega), e16, if_pos (inM (n := 64) rfl (by omega) (by decide)), bnd_eq, if_pos (inM (n := 64) rfl (by omega) (by decide)), bnd_eq, ix_n (by omega), o1.2 19 (by decide), o1.2 20 (by decide), (m2 at_ cat).1, (m2 at_ cat).2]
      obtain ⟨hmi, hmv⟩ := hmm at_ cat
      have hvn : eMv E j at_ = (((eMv E j at_).toNat : Nat) : Int) := by omega
      have em0 := mex_lt (m := j) (arg := argv s f pl) (d := 50 - (d + 1)) (at_ := at_) (st := st) (E := E) (by omega)
      have stp : ∀ (at2 : Nat) (st' : List Int) (M2 : Md), st'.length ≤ 8 → (∀ y ∈ st', 0 ≤ y ∧ y < 1000) → at2 ≤ 1000 → Arb (M2.2 72) st' → M2.1 73 = (st'.length : Int) → StO M M2 → mex E j (argv s f pl) (50 - (d + 1) + 1) at_ st = mex E j (argv s f pl) (50 - (d + 1)) at2 st' → ∀ X : Option (Int × Md), X = L (at2 : Int) ((d : Int) + 1) M2 →
         MrG M pl X (mex E j (argv s f pl) (50 - (d + 1) + 1) at_ st) := by
        intro at2 st' M2 hl hok hat2 hA' h73' o' em X hX
        rw [em] at hne ⊢
        rw [hX]
        exact hLL (d + 1) at2 st' M2 hlt (by omega) hl hok hat2 hA' h73' o' hne
      have pu : ∀ (x : Int), st.length < 8 → (0 ≤ x ∧ x < 1000) → mex E j (argv s f pl) (50 - (d + 1) + 1) at_ st = mex E j (argv s f pl) (50 - (d + 1)) (at_ + 1) (x :: st) → ∀ X : Option (Int × Md), X = L ((at_ : Int) + 1) ((d : Int) + 1) (mSet (mPut M1 72 st.length x) 73 ((st.length : Int) + 1)) →
         MrG M pl X (mex E j (argv s f pl) (50 - (d + 1) + 1) at_ st) := by
        intro x hl hx em X hX
        refine stp (at_ + 1) (x :: st) (mSet (mPut M1 72 st.length x) 73 ((st.length : Int) + 1)) hl (fun y hy => ?_) (by omega) ⟨p2_1 M1 72 st.length x, hA.keep (fun i hi => p2_2 (k := 72) (k' := 72) M1 x (Or.inr (Nat.ne_of_lt hi)))⟩ (mS1 _ _ _) ((o1.tr StO.put).tr StO.set) em X hX
        rcases List.mem_cons.mp hy with e | e
        · rw [e]; exact hx
        · exact hst y e
      have w73 : w32 (M1.1 73) = (st.length : Int) := by rw [h73]; exact w32_n (by omega)
      have h09 : eMi E j at_ = 0 ∨ eMi E j at_ = 1 ∨ (eMi E j at_ = 2 ∨ eMi E j at_ = 3 ∨ eMi E j at_ = 4 ∨ eMi E j at_ = 5) ∨ eMi E j at_ = 6 ∨ eMi E j at_ = 7 ∨ eMi E j at_ = 8 := by omega
      have c2f : ¬ w32 2 ≤ w32 0 := by decide
      have c2g : ¬ w32 2 ≤ w32 1 := by decide
      have z1 : ¬ (1 : Int) = 0 := by decide
      have tail1 : ∀ (x : Int) (J : Int → Int → Md → Option (Int × Md)), st.length < 8 → (0 ≤ x ∧ x < 1000) → mex E j (argv s f pl) (50 - (d + 1) + 1) at_ st = mex E j (argv s f pl) (50 - (d + 1)) (at_ + 1) (x :: st) → (∀ a M2, J a 1 M2 = L a ((d : Int) + 1) M2) →
         MrG M pl (if inR (M1.1 73) (mLen 72) then bnd (mPut M1 72 (ix (M1.1 73)) x) fun (M5 : Md) => bnd (mSet M5 73 ((M5.1 73) + 1)) fun (M6 : Md) => J ((at_ : Int) + 1) 1 M6 else none) (mex E j (argv s f pl) (50 - (d + 1) + 1) at_ st) := by
        intro x J hl hx em hJ
        refine pu x hl hx em _ ?_
        rw [h73, if_pos (in_9 (by omega)), bnd_eq, bnd_eq, hJ, ix_n (by omega)]
        show L _ _ (mSet (mPut M1 72 st.length x) 73 (M1.1 73 + 1)) = _
        rw [h73]
      rcases h09 with k0 | k1 | k2 | k6 | k7 | k8
      · -- PUSH
        rw [if_pos k0] at em0
        rw [k0, bnd_eq, if_neg c2f, w73]
        by_cases c8 : 8 ≤ st.length
        · rw [if_pos c8] at em0
          rw [if_neg (fun z => z (by rw [show w32 8 = 8 from rfl]; omega))]
          exact MrG.fault o1 em0
        · rw [if_neg c8] at em0
          rw [if_pos (by rw [show w32 8 = 8 from rfl]; omega)]
          dsimp only
          rw [bnd_eq, if_neg c2f, bnd_eq, if_neg (fun z => z rfl)]
          dsimp only
          rw [if_pos (by rw [h71']; decide), bnd_eq, if_pos (by rw [w32_of (by omega) (by omega), show w32 (-1) = -1 from rfl]; omega)]
          dsimp only
          exact tail1 _ (fun v3 v7 M2 => if ¬ w32 v7 = 0 then L v3 ((d : Int) + 1) M2 else some (9004, M2)) (by omega) hmv em0 (fun a M2 => if_pos (by decide))
      · -- ARG
        rw [if_neg (by omega), if_pos k1] at em0
        rw [k1, bnd_eq, if_neg c2g, w73]
        by_cases c8 : 8 ≤ st.length
        · rw [if_pos c8] at em0
          rw [if_neg (fun z => z (by rw [show w32 8 = 8 from rfl]; omega))]
          exact MrG.fault o1 em0
        · rw [if_neg c8] at em0
          rw [if_pos (by rw [show w32 8 = 8 from rfl]; omega)]
          dsimp only
          have ev2 : eMv E j at_ + 2 = (((eMv E j at_).toNat + 2 : Nat) : Int) := by omega
          obtain ⟨p1, p2⟩ := X12_partOf_ hF (j := (eMv E j at_).toNat + 2) ⟨by omega, by omega⟩
          rw [bnd_eq, if_neg c2g, bnd_eq, if_pos (by decide), ev2]
          cases hq : prt s f pl ((eMv E j at_).toNat + 2) with
          | none =>
            exfalso
            have ha : argv s f pl (eMv E j at_).toNat = -99 := by unfold argv; rw [hq]
            rw [ha] at em0
            exact hne (em0.trans (if_pos (by decide)))
          | some o =>
            cases o with
            | none =>
              have ha : argv s f pl (eMv E j at_).toNat = -100 - (((eMv E j at_).toNat + 2 : Nat) : Int) := by unfold argv; rw [hq]
              rw [ha] at em0
              have em1 := em0.trans (if_pos (by show (-100 - (((eMv E j at_).toNat + 2 : Nat) : Int)) ≤ -99; omega))
              obtain ⟨q1, q2⟩ := p2 hq
              have ew : wnt M1 ((eMv E j at_).toNat + 2) = mSet M1 71 (((eMv E j at_).toNat + 2 : Nat) : Int) := if_pos h71'
              have r1 : RowM (wnt M1 ((eMv E j at_).toNat + 2)) 1 [] := by rw [ew]; exact hF.2.2.2.1
              have n1 := X12_numberOf_ r1
              rw [show ((1 : Nat) : Int) = 1 from rfl] at n1
              rw [cal_of q2, cal_of n1, ew]
              dsimp only
              rw [if_neg (by rw [mS1, w32_n (by omega)]; omega), em1]
              refine ⟨fun z => by omega, fun _ => ⟨mSet M1 71 (((eMv E j at_).toNat + 2 : Nat) : Int), 0, (eMv E j at_).toNat + 1, rfl, by omega, rfl, ⟨fun i hi => ?_, o1.2⟩⟩⟩
              by_cases c : i = 71
              · subst c; rw [mS1, mS1]
              · rw [mS2 _ _ c, mS2 _ _ c]; exact o1.1 i hi
            | some rr =>
              have ha : argv s f pl (eMv E j at_).toNat = if numL rr = -1 then 0 else numL rr := by unfold argv; rw [hq]
              obtain ⟨dd, q1, q2, _⟩ := p1 rr hq
              have hnr := numL_rng q2.2.2.1
              rw [ha] at em0
              have em1 := em0.trans (if_neg (by split <;> omega))
              rw [cal_of q1, cal_of (X12_numberOf_ q2)]
              dsimp only
              rw [if_pos (by rw [h71']; decide), bnd_eq]
              by_cases cn : numL rr = -1
              · rw [if_pos cn] at em1
                rw [if_neg (fun z => z (by rw [cn]))]
                dsimp only
                exact tail1 0 (fun v3 v7 M2 => if ¬ w32 v7 = 0 then L v3 ((d : Int) + 1) M2 else some (9004, M2)) (by omega) (by decide) em1 (fun a M2 => if_pos (by decide))
              · rw [if_neg cn] at em1
                rw [if_pos (by rw [w32_of (by omega) (by omega), show w32 (-1) = -1 from rfl]; omega)]
                dsimp only
                exact tail1 (numL rr) (fun v3 v7 M2 => if ¬ w32 v7 = 0 then L v3 ((d : Int) + 1) M2 else some (9004, M2)) (by omega) (by omega) em1 (fun a M2 => if_pos (by decide))
      · -- two
        have w2 : w32 2 ≤ w32 (eMi E j at_) := by rw [w32_of (x := eMi E j at_) (by omega) (by omega), show w32 2 = 2 from rfl]; omega
        have w6 : ¬ w32 6 ≤ w32 (eMi E j at_) := by rw [w32_of (x := eMi E j at_) (by omega) (by omega), show w32 6 = 6 from rfl]; omega
        rw [if_neg (by omega), if_neg (by omega), if_pos (by omega)] at em0
        rw [bnd_eq, if_pos w2]
        dsimp only
        rw [bnd_eq, if_pos w2, if_neg w6]
        rcases st with _ | ⟨y, _ | ⟨x, r⟩⟩
        · rw [cal_of (X12_takesTwo_few (n := 0) h73 (by decide))]
          dsimp only
          rw [if_neg (fun z => z rfl)]
          exact MrG.fault o1 em0
        · rw [cal_of (X12_takesTwo_few (n := 1) h73 (by decide))]
          dsimp only
          rw [if_neg (fun z => z rfl)]
          exact MrG.fault o1 em0
        · have l8 : r.length + 2 ≤ 8 := hst8
          have ry := hst y List.mem_cons_self
          have rx := hst x (List.mem_cons_of_mem _ List.mem_cons_self)
          rw [cal_of (X12_takesTwo_ (n := r.length) (by omega) h73 l8 hA.1 hA.2.1 ry rx)]
          dsimp only
          rw [if_pos (by decide)]
          have hop := op2_rng (k := eMi E j at_) rx ry
          refine stp (at_ + 1) (op2 (eMi E j at_) x y :: r) (mPut (mSet M1 73 ((r.length + 1 : Nat) : Int)) 72 r.length (op2 (eMi E j at_) x y)) (by show r.length + 1 ≤ 8; omega) (fun z hz => ?_) (by omega) ⟨p2_1 (mSet M1 73 ((r.length + 1 : Nat) : Int)) 72 r.length _, hA.2.2.keep (fun i hi => p2_2 (mSet M1 73 ((r.length + 1 : Nat) : Int)) _ (Or.inr (Nat.ne_of_lt hi)))⟩ (mS1 M1 73 _) ((o1.tr StO.set).tr StO.put) em0 _ rfl
          rcases List.mem_cons.mp hz with e | e
          · rw [e]; exact hop
          · exact hst z (List.mem_cons_of_mem _ (List.mem_cons_of_mem _ e))
      · -- JUMP
        rw [if_neg (by omega), if_neg (by omega), if_neg (by omega), if_pos k6] at em0
        rw [k6, bnd_eq, if_pos (by decide)]
        dsimp only
        rw [bnd_eq, if_pos (by decide), if_pos (by decide), if_neg (fun z => z rfl)]
        dsimp only
        rw [if_pos (by decide)]
        exact stp (eMv E j at_).toNat st M1 hst8 hst (by omega) hA h73 o1 em0 _ (by rw [← hvn])
      · -- ZERO
        rw [if_neg (by omega), if_neg (by omega), if_neg (by omega), if_neg (by omega)] at em0
        rw [k7] at em0 ⊢
        rw [bnd_eq, if_pos (by decide)]
        dsimp only
        rw [bnd_eq, if_pos (by decide), if_pos (by decide), if_pos (by decide), bnd_eq]
        cases st with
        | nil =>
          rw [if_pos (by rw [w73]; decide)]
          dsimp only
          rw [bnd_eq, if_pos (by decide)]
          dsimp only
          rw [bnd_eq, bnd_eq, if_pos (by decide)]
          dsimp only
          rw [bnd_eq, bnd_eq, if_pos (by decide)]
          dsimp only
          rw [if_neg (fun z => z rfl)]
          exact MrG.fault (o1.tr StO.set) em0
        | cons x r =>
          have lr : r.length + 1 ≤ 8 := hst8
          have e73 : M1.1 73 - 1 = (r.length : Int) := by rw [h73]; show ((r.length + 1 : Nat) : Int) - 1 = _; omega
          rw [if_neg (by rw [w73]; show ¬ ((r.length + 1 : Nat) : Int) ≤ 0; omega)]
          dsimp only
          rw [bnd_eq, if_neg (by decide)]
          dsimp only
          rw [bnd_eq, bnd_eq, if_neg (by decide), if_pos (by decide)]
          dsimp only
          rw [bnd_eq, bnd_eq, if_neg (by decide), mS1, e73, if_pos (in_9 (by omega)), ix_n (by omega), show (mSet M1 73 (r.length : Int)).2 72 r.length = x from hA.1]
          have hx := hst x List.mem_cons_self
          have em1 := em0.trans (if_neg (by decide))
          by_cases c0 : x = 0
          · rw [if_pos c0] at em1
            rw [if_neg (fun z => z (by rw [c0]; rfl))]
            dsimp only
            rw [if_pos (by decide)]
            exact stp (eMv E j at_).toNat r (mSet M1 73 (r.length : Int)) (by omega) (fun y hy => hst y (List.mem_cons_of_mem _ hy)) (by omega) hA.2 (mS1 _ _ _) (o1.tr StO.set) em1 _ (by rw [← hvn])
          · rw [if_neg c0] at em1
            rw [if_pos (by rw [w32_of (by omega) (by omega)]; exact c0)]
            dsimp only
            rw [if_pos (by decide)]
            exact stp (at_ + 1) r (mSet M1 73 (r.length : Int)) (by omega) (fun y hy => hst y (List.mem_cons_of_mem _ hy)) (by omega) hA.2 (mS1 _ _ _) (o1.tr StO.set) em1 _ rfl
      · -- OUT
        rw [if_neg (by omega), if_neg (by omega), if_neg (by omega), if_neg (by omega)] at em0
        rw [k8] at em0 ⊢
        rw [bnd_eq, if_pos (by decide)]
        dsimp only
        rw [bnd_eq, if_pos (by decide), if_pos (by decide), if_pos (by decide), bnd_eq]
        cases st with
        | nil =>
          rw [if_pos (by rw [w73]; decide)]
          dsimp only
          rw [bnd_eq, if_pos (by decide)]
          dsimp only
          rw [bnd_eq, bnd_eq, if_pos (by decide)]
          dsimp only
          rw [bnd_eq, bnd_eq, if_pos (by decide)]
          dsimp only
          rw [if_neg (fun z => z rfl)]
          exact MrG.fault (o1.tr StO.set) em0
        | cons x r =>
          have lr : r.length + 1 ≤ 8 := hst8
          have e73 : M1.1 73 - 1 = (r.length : Int) := by rw [h73]; show ((r.length + 1 : Nat) : Int) - 1 = _; omega
          rw [if_neg (by rw [w73]; show ¬ ((r.length + 1 : Nat) : Int) ≤ 0; omega)]
          dsimp only
          rw [bnd_eq, if_neg (by decide)]
          dsimp only
          rw [bnd_eq, bnd_eq, if_neg (by decide), if_neg (fun z => z rfl), mS1, e73, if_pos (in_9 (by omega)), ix_n (by omega), show (mSet M1 73 (r.length : Int)).2 72 r.length = x from hA.1]
          have hx := hst x List.mem_cons_self
          have em1 := em0.trans (if_pos rfl)
          rw [em1]
          exact ⟨fun _ => ⟨_, rfl, o1.tr StO.set, by omega, by omega⟩, fun z => by omega⟩
    · rw [if_pos (by rw [w32_n (by omega), w32_n (by omega)]; omega)]
      exact MrG.fault o1 (mex_ge (by omega))
  · have e : d = 50 := by omega
    subst e
    rw [bnd_eq, if_pos (show w32 50 ≤ w32 ((50 : Nat) : Int) by decide)]
    exact MrG.fault o1 rfl
end MMD
