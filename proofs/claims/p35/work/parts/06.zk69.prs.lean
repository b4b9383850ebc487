/-! EXPANDING, as a function: parts, names, what is given -/
section PRS
variable {g : Nat → Int} {n : Nat}
theorem prs_ge : ∀ m p x, x ∈ prs_ g n m p → p ≤ x := by
  intro m
  induction m with
  | zero => intro p x h; exact absurd h List.not_mem_nil
  | succ m ih =>
    intro p x h
    rw [prs_] at h
    by_cases c : p < n ∧ mkB (g p / 1000) = true
    · rw [if_pos c] at h
      rcases List.mem_cons.mp h with e | e
      · omega
      · have := ih _ _ e
        have := fE_gt g n p
        omega
    · rw [if_neg c] at h
      exact absurd h List.not_mem_nil
theorem prs_nodup : ∀ m p, (prs_ g n m p).Nodup := by
  intro m
  induction m with
  | zero => intro p; exact List.nodup_nil
  | succ m ih =>
    intro p
    rw [prs_]
    by_cases c : p < n ∧ mkB (g p / 1000) = true
    · rw [if_pos c]
      refine List.nodup_cons.mpr ⟨fun z => ?_, ih _⟩
      have := prs_ge _ _ _ z
      have := fE_gt g n p
      omega
    · rw [if_neg c]
      exact List.nodup_nil
theorem prs_sub_ (hT : TxOK g n) {c : Nat} (hc : c < n) (ho : opB (g c / 1000) = true) : ∀ m p, c < p → p ≤ fE g n c → stk g p = g c / 1000 :: stk g c → ∀ x ∈ prs_ g n m p, c < x ∧ x < fE g n c ∧ mkB (g x / 1000) = true ∧ stk g x = g c / 1000 :: stk g c := by
  obtain ⟨a1, a2, a3, a4, a5, a6⟩ := cl_op hT hc ho
  intro m
  induction m with
  | zero => intro p _ _ _ x h; exact absurd h List.not_mem_nil
  | succ m ih =>
    intro p h1 h2 h3 x h
    rw [prs_] at h
    by_cases d : p < n ∧ mkB (g p / 1000) = true
    · rw [if_pos d] at h
      have hlt : p < fE g n c := by
        rcases Nat.lt_or_ge p (fE g n c) with z | z
        · exact z
        · exfalso
          have e : p = fE g n c := by omega
          have := d.2
          rw [e, a3] at this
          exact absurd this (by decide)
      rcases List.mem_cons.mp h with e | e
      · subst e; exact ⟨h1, hlt, d.2, h3⟩
      · obtain ⟨b1, b2, b3⟩ := part_end hT hc ho h1 hlt d.2 h3
        exact ih (fE g n p) (by have := fE_gt g n p; omega) b1 b3 x e
    · rw [if_neg d] at h
      exact absurd h List.not_mem_nil
theorem prs_sub (hT : TxOK g n) {c : Nat} (hc : c < n) (ho : opB (g c / 1000) = true) {x : Nat} (h : x ∈ prs_ g n 30 (c + 1)) : c < x ∧ x < fE g n c ∧ mkB (g x / 1000) = true ∧ stk g x = g c / 1000 :: stk g c ∧ fE g n x ≤ fE g n c := by
  obtain ⟨q1, q2, q3, q4⟩ := prs_sub_ hT hc ho 30 (c + 1) (Nat.lt_succ_self c) (fE_gt g n c) (by rw [stk_succ, aft_op ho]) x h
  exact ⟨q1, q2, q3, q4, (part_end hT hc ho q1 q2 q3 q4).1⟩
/-- a part is of one opener -/
theorem prs_inj_ (hT : TxOK g n) {c c' : Nat} (hc : c < n) (ho : opB (g c / 1000) = true) (hc' : c' < n) (ho' : opB (g c' / 1000) = true) {x : Nat} (h : x ∈ prs_ g n 30 (c + 1)) (h' : x ∈ prs_ g n 30 (c' + 1)) (hlt : c < c') : False := by
  obtain ⟨a1, a2, a3, a4, a5, a6⟩ := cl_op hT hc ho
  obtain ⟨q1, q2, q3, q4, _⟩ := prs_sub hT hc ho h
  obtain ⟨r1, r2, r3, r4, _⟩ := prs_sub hT hc' ho' h'
  obtain ⟨q, z1, z2⟩ := a6 c' hlt (by omega)
  have l1 := congrArg List.length z1
  have l2 := congrArg List.length q4
  have l3 := congrArg List.length r4
  rw [List.length_append, List.length_cons] at l1
  rw [List.length_cons] at l2 l3
  omega
theorem prs_inj (hT : TxOK g n) {c c' : Nat} (hc : c < n) (ho : opB (g c / 1000) = true) (hc' : c' < n) (ho' : opB (g c' / 1000) = true) {x : Nat} (h : x ∈ prs_ g n 30 (c + 1)) (h' : x ∈ prs_ g n 30 (c' + 1)) : c = c' := by
  rcases Nat.lt_trichotomy c c' with z | z | z
  · exact (prs_inj_ hT hc ho hc' ho' h h' z).elim
  · exact z
  · exact (prs_inj_ hT hc' ho' hc ho h' h z).elim
/-- a name has a part of its own -/
theorem agF_inj_ : ∀ (l : List Nat) (c : Nat) (a : Nat → Int), l.Nodup → (∀ x x', a x = a x' → a x = -1 ∨ x = x') → (∀ x, ∀ p ∈ l, a x ≠ (p : Int)) → ∀ x x', agF g l c a x = agF g l c a x' → agF g l c a x = -1 ∨ x = x' := by
  intro l
  induction l with
  | nil => intro c a _ h _ x x' e; exact h x x' e
  | cons p l ih =>
    intro c a hn h1 h2
    obtain ⟨n1, n2⟩ := List.nodup_cons.mp hn
    rw [agF]
    have h2p : ∀ x, a x ≠ (p : Int) := fun x => h2 x p List.mem_cons_self
    refine ih _ _ n2 (fun x x' e => ?_) (fun x q hq e => ?_)
    · by_cases b1 : x = (if g p / 1000 = 5 then c + 1 else (g p % 1000).toNat)
      · by_cases b2 : x' = (if g p / 1000 = 5 then c + 1 else (g p % 1000).toNat)
        · exact Or.inr (b1.trans b2.symm)
        · rw [if_pos b1, if_neg b2] at e
          exact absurd e.symm (h2p x')
      · by_cases b2 : x' = (if g p / 1000 = 5 then c + 1 else (g p % 1000).toNat)
        · rw [if_neg b1, if_pos b2] at e
          exact absurd e (h2p x)
        · rw [if_neg b1, if_neg b2] at e
          rw [if_neg b1]
          exact h1 x x' e
    · by_cases b1 : x = (if g p / 1000 = 5 then c + 1 else (g p % 1000).toNat)
      · rw [if_pos b1] at e
        have : p = q := by omega
        subst this
        exact n1 hq
      · rw [if_neg b1] at e
        exact h2 x q (List.mem_cons_of_mem _ hq) e
theorem agF_inj {l : List Nat} (hn : l.Nodup) {x x' : Nat} (e : agF g l 0 (fun _ => -1) x = agF g l 0 (fun _ => -1) x') : agF g l 0 (fun _ => -1) x = -1 ∨ x = x' :=
  agF_inj_ l 0 (fun _ => -1) hn (fun _ _ _ => Or.inl rfl) (fun _ p _ z => by have z' : (-1 : Int) = (p : Int) := z; omega) x x' e
end PRS
section GVO
variable {E : Env} {s : ASt} {f : Nat} {pl : List Nat} {acc : List Int}
theorem prt_need {j : Nat} (h : prt s f pl j = some none) : 1 ≤ j ∧ j ≤ pl.length ∧ aPs s f (pl.getD (j - 1) 0) = 0 := by
  unfold prt at h
  by_cases c : j = 0 ∨ pl.length < j
  · rw [if_pos c] at h
    injection h with h
    cases h
  · rw [if_neg c] at h
    by_cases c2 : aPs s f (pl.getD (j - 1) 0) = 2
    · rw [if_pos c2] at h
      injection h with h
      cases h
    · rw [if_neg c2] at h
      by_cases c0 : aPs s f (pl.getD (j - 1) 0) = 0
      · exact ⟨by omega, by omega, c0⟩
      · rw [if_neg c0] at h
        cases h
theorem prt_ok (hO : ∀ g p, okr (aRw s g p)) {j : Nat} {r : List Int} (h : prt s f pl j = some (some r)) : okr r := by
  unfold prt at h
  by_cases c : j = 0 ∨ pl.length < j
  · rw [if_pos c] at h
    injection h with h
    injection h with h
    subst h
    exact okr_nil
  · rw [if_neg c] at h
    by_cases c2 : aPs s f (pl.getD (j - 1) 0) = 2
    · rw [if_pos c2] at h
      injection h with h
      injection h with h
      subst h
      exact hO _ _
    · rw [if_neg c2] at h
      by_cases c0 : aPs s f (pl.getD (j - 1) 0) = 0
      · rw [if_pos c0] at h
        injection h with h
        cases h
      · rw [if_neg c0] at h
        cases h
theorem prt_none {j : Nat} (hW : ∀ p ∈ pl, aPs s f p ≠ 1 ∧ aPs s f p ≤ 2) : prt s f pl j ≠ none := by
  intro h
  unfold prt at h
  by_cases c : j = 0 ∨ pl.length < j
  · rw [if_pos c] at h; cases h
  · rw [if_neg c] at h
    have hw := hW _ (getDn_mem (l := pl) (k := j - 1) (by omega))
    by_cases c2 : aPs s f (pl.getD (j - 1) 0) = 2
    · rw [if_pos c2] at h; cases h
    · rw [if_neg c2] at h
      by_cases c0 : aPs s f (pl.getD (j - 1) 0) = 0
      · rw [if_pos c0] at h; cases h
      · omega
theorem gsm_need : ∀ m j a q a', gsm s f pl m j a = some (q, a') → q = 0 ∨ prt s f pl q = some none := by
  intro m
  induction m with
  | zero => intro j a q a' h; injection h with h; injection h with h _; exact Or.inl h.symm
  | succ m ih =>
    intro j a q a' h
    rw [gsm] at h
    cases hp : prt s f pl j with
    | none => rw [hp] at h; cases h
    | some z =>
      rw [hp] at h
      cases z with
      | none => injection h with h; injection h with h _; subst h; exact Or.inr hp
      | some r => exact ih _ _ _ _ h
theorem gsm_tot (hW : ∀ p ∈ pl, aPs s f p ≠ 1 ∧ aPs s f p ≤ 2) : ∀ m j a, ∃ q, gsm s f pl m j a = some q := by
  intro m
  induction m with
  | zero => intro j a; exact ⟨_, rfl⟩
  | succ m ih =>
    intro j a
    rw [gsm]
    cases hp : prt s f pl j with
    | none => exact absurd hp (prt_none hW)
    | some z =>
      cases z with
      | none => exact ⟨_, rfl⟩
      | some r => exact ih _ _
/-- what a module gives -/
theorem mex_rng {m : Nat} (hMo : eMl E m ≤ 16 ∧ ∀ k, k < eMl E m → (0 ≤ eMi E m k ∧ eMi E m k ≤ 8) ∧ 0 ≤ eMv E m k ∧ eMv E m k < 1000) {arg : Nat → Int} (ha : ∀ x, arg x ≤ -99 ∨ (0 ≤ arg x ∧ arg x < 1000)) : ∀ d at_ st, (∀ x ∈ st, 0 ≤ x ∧ x < 1000) →
   (∃ x, mex E m arg d at_ st = arg x ∧ arg x ≤ -99) ∨ (0 ≤ mex E m arg d at_ st ∧ mex E m arg d at_ st < 10000) := by
  intro d
  induction d with
  | zero => intro at_ st _; exact Or.inr ⟨by show (0 : Int) ≤ 9004; decide, by show (9004 : Int) < 10000; decide⟩
  | succ d ih =>
    intro at_ st hst
    have fault : ∀ x : Int, x = 9004 → (∃ y, x = arg y ∧ arg y ≤ -99) ∨ (0 ≤ x ∧ x < 10000) := fun x e => Or.inr (by omega)
    by_cases c : eMl E m ≤ at_
    · exact fault _ (mex_ge c)
    · rw [mex_lt c]
      obtain ⟨k1, k2⟩ := hMo.2 at_ (by omega)
      by_cases k0 : eMi E m at_ = 0
      · rw [if_pos k0]
        by_cases c8 : 8 ≤ st.length
        · rw [if_pos c8]; exact fault _ rfl
        · rw [if_neg c8]
          refine ih _ _ (fun x hx => ?_)
          rcases List.mem_cons.mp hx with e | e
          · subst e; exact k2
          · exact hst x e
      · rw [if_neg k0]
        by_cases k1' : eMi E m at_ = 1
        · rw [if_pos k1']
          by_cases c8 : 8 ≤ st.length
          · rw [if_pos c8]; exact fault _ rfl
          · rw [if_neg c8]
            by_cases c9 : arg (eMv E m at_).toNat ≤ -99
            · rw [if_pos c9]; exact Or.inl ⟨_, rfl, c9⟩
            · rw [if_neg c9]
              refine ih _ _ (fun x hx => ?_)
              rcases List.mem_cons.mp hx with e | e
              · subst e
                rcases ha (eMv E m at_).toNat with y | y
                · exact absurd y c9
                · exact y
              · exact hst x e
        · rw [if_neg k1']
          by_cases k5 : eMi E m at_ ≤ 5
          · rw [if_pos k5]
            rcases st with _ | ⟨y, _ | ⟨x, r⟩⟩
            · exact fault _ rfl
            · exact fault _ rfl
            · refine ih _ _ (fun z hz => ?_)
              rcases List.mem_cons.mp hz with e | e
              · subst e; exact op2_rng (hst x (List.mem_cons_of_mem _ List.mem_cons_self)) (hst y List.mem_cons_self)
              · exact hst z (List.mem_cons_of_mem _ (List.mem_cons_of_mem _ e))
          · rw [if_neg k5]
            by_cases k6 : eMi E m at_ = 6
            · rw [if_pos k6]; exact ih _ _ hst
            · rw [if_neg k6]
              cases st with
              | nil => exact fault _ rfl
              | cons x r =>
                have hx := hst x List.mem_cons_self
                dsimp only
                by_cases k8 : eMi E m at_ = 8
                · rw [if_pos k8]; exact Or.inr (by omega)
                · rw [if_neg k8]; exact ih _ _ (fun y hy => hst y (List.mem_cons_of_mem _ hy))
theorem argv_rng (hO : ∀ g p, okr (aRw s g p)) (a : Nat) : argv s f pl a ≤ -99 ∨ (0 ≤ argv s f pl a ∧ argv s f pl a < 1000) := by
  unfold argv
  cases hp : prt s f pl (a + 2) with
  | none => exact Or.inl (Int.le_refl _)
  | some z =>
    cases z with
    | none => exact Or.inl (by show (-100 - ((a + 2 : Nat) : Int)) ≤ -99; omega)
    | some r =>
      have := numL_rng (prt_ok hO hp)
      refine Or.inr ?_
      dsimp only
      by_cases c : numL r = -1
      · rw [if_pos c]; omega
      · rw [if_neg c]; omega
theorem lsA_ok {S : Nat} : ∀ m i acc, i + m ≤ 24 → okr acc → okr (lsA S m i acc) := by
  intro m
  induction m with
  | zero => intro i acc _ h; exact h
  | succ m ih =>
    intro i acc hi h
    rw [lsA]
    refine ih _ _ (by omega) ?_
    by_cases c : S.testBit i = true
    · rw [if_pos c]; exact apl_ok h (by omega) (by omega)
    · rw [if_neg c]; exact h
def GvO (s : ASt) (f : Nat) (pl : List Nat) (o : Nat × List Int × ASt) : Prop := (o.1 = 0 ∧ okr o.2.1) ∨ ∃ j, o.1 = j + 1 ∧ j < pl.length ∧ aPs s f (pl.getD j 0) = 0
theorem GvO.need {j : Nat} (h : prt s f pl j = some none) {a : List Int} {s' : ASt} : GvO s f pl (j, a, s') := by
  obtain ⟨h1, h2, h3⟩ := prt_need h
  exact Or.inr ⟨j - 1, by show j = j - 1 + 1; omega, by omega, h3⟩
theorem gv_out (hO : ∀ g p, okr (aRw s g p)) (ha : okr acc) (hMo : MoP E) {k : Int} {o : Nat × List Int × ASt} (h : gv E s f pl k acc = some o) : GvO s f pl o := by
  have ap : ∀ x : Int, 0 ≤ x → x < 10000 → okr (apl acc x) := fun x h0 h1 => apl_ok ha h0 h1
  unfold gv at h
  by_cases k2 : k = 2
  · rw [if_pos k2] at h
    cases hg : gsm s f pl pl.length 1 0 with
    | none => rw [hg] at h; cases h
    | some z =>
      rw [hg] at h
      obtain ⟨j, a⟩ := z
      cases j with
      | zero =>
        injection h with h
        subst h
        exact Or.inl ⟨rfl, ap _ (Int.emod_nonneg _ (by decide)) (by have := Int.emod_lt_of_pos a (show (0 : Int) < 1000 by decide); omega)⟩
      | succ j =>
        injection h with h
        subst h
        rcases gsm_need _ _ _ _ _ hg with e | e
        · omega
        · exact GvO.need e
  · rw [if_neg k2] at h
    cases hp : prt s f pl 1 with
    | none => rw [hp] at h; cases h
    | some z =>
      rw [hp] at h
      cases z with
      | none => injection h with h; subst h; exact GvO.need hp
      | some r1 =>
        dsimp only at h
        by_cases k0 : k = 0
        · rw [if_pos k0] at h
          cases hq : prt s f pl (if anyO r1 = true then 2 else 3) with
          | none => rw [hq] at h; cases h
          | some z =>
            rw [hq] at h
            cases z with
            | none => injection h with h; subst h; exact GvO.need hq
            | some q => injection h with h; subst h; exact Or.inl ⟨rfl, aal_ok ha (prt_ok hO hq).2⟩
        · rw [if_neg k0] at h
          by_cases k1 : k = 1
          · rw [if_pos k1] at h
            cases hq : prt s f pl 2 with
            | none => rw [hq] at h; cases h
            | some z =>
              rw [hq] at h
              cases z with
              | none => injection h with h; subst h; exact GvO.need hq
              | some r2 =>
                dsimp only at h
                cases hu : prt s f pl (if r1 = r2 then 3 else 4) with
                | none => rw [hu] at h; cases h
                | some z =>
                  rw [hu] at h
                  cases z with
                  | none => injection h with h; subst h; exact GvO.need hu
                  | some q => injection h with h; subst h; exact Or.inl ⟨rfl, aal_ok ha (prt_ok hO hu).2⟩
          · rw [if_neg k1] at h
            by_cases k3 : k = 3
            · rw [if_pos k3] at h
              by_cases c : 0 ≤ numL r1 ∧ numL r1 < 24
              · rw [if_pos c] at h
                injection h with h
                subst h
                refine Or.inl ⟨rfl, ?_⟩
                dsimp only
                by_cases d : eSn E (numL r1).toNat = -1
                · rw [if_pos d]; exact ap _ (by decide) (by decide)
                · rw [if_neg d]; exact ap _ (by decide) (by decide)
              · rw [if_neg c] at h; injection h with h; subst h; exact Or.inl ⟨rfl, ap _ (by decide) (by decide)⟩
            · rw [if_neg k3] at h
              by_cases k4 : k = 4
              · rw [if_pos k4] at h
                by_cases c : 0 ≤ numL r1 ∧ numL r1 < 8
                · rw [if_pos c] at h
                  injection h with h
                  subst h
                  have := nBits_rng (eMb E (numL r1).toNat)
                  exact Or.inl ⟨rfl, ap _ this.1 this.2⟩
                · rw [if_neg c] at h; injection h with h; subst h; exact Or.inl ⟨rfl, ap _ (by decide) (by decide)⟩
              · rw [if_neg k4] at h
                by_cases k5 : k = 5
                · rw [if_pos k5] at h
                  by_cases c : 0 ≤ numL r1 ∧ numL r1 < 8
                  · rw [if_pos c] at h; injection h with h; subst h; exact Or.inl ⟨rfl, lsA_ok _ _ _ (by decide) ha⟩
                  · rw [if_neg c] at h; injection h with h; subst h; exact Or.inl ⟨rfl, ha⟩
                · rw [if_neg k5] at h
                  by_cases c : 0 ≤ numL r1 ∧ numL r1 < 4
                  · rw [if_pos c] at h
                    have hm := mex_rng (hMo (numL r1).toNat (by omega)) (argv_rng (f := f) (pl := pl) hO) 50 0 [] (fun x hx => absurd hx List.not_mem_nil)
                    by_cases c9 : mex E (numL r1).toNat (argv s f pl) 50 0 [] = -99
                    · rw [if_pos c9] at h; cases h
                    · rw [if_neg c9] at h
                      by_cases c1 : mex E (numL r1).toNat (argv s f pl) 50 0 [] ≤ -100
                      · rw [if_pos c1] at h
                        injection h with h
                        subst h
                        rcases hm with ⟨a, y1, y2⟩ | y
                        · rw [y1]
                          rw [y1] at c1
                          unfold argv at c1 ⊢
                          cases hq : prt s f pl (a + 2) with
                          | none => rw [hq] at c1; dsimp only at c1; omega
                          | some z =>
                            cases z with
                            | none =>
                              dsimp only
                              rw [show (-100 - (-100 - ((a + 2 : Nat) : Int))).toNat = a + 2 by omega]
                              exact GvO.need hq
                            | some r =>
                              exfalso
                              rw [hq] at c1
                              have := numL_rng (prt_ok hO hq)
                              dsimp only at c1
                              by_cases c2 : numL r = -1
                              · rw [if_pos c2] at c1; omega
                              · rw [if_neg c2] at c1; omega
                        · omega
                      · rw [if_neg c1] at h
                        injection h with h
                        subst h
                        rcases hm with ⟨a, y1, y2⟩ | y
                        · omega
                        · exact Or.inl ⟨rfl, ap _ y.1 y.2⟩
                  · rw [if_neg c] at h; injection h with h; subst h; exact Or.inl ⟨rfl, ap _ (by decide) (by decide)⟩
theorem gv_tot (hO : ∀ g p, okr (aRw s g p)) (hMo : MoP E) (hW : ∀ p ∈ pl, aPs s f p ≠ 1 ∧ aPs s f p ≤ 2) (k : Int) (acc : List Int) : ∃ o, gv E s f pl k acc = some o := by
  unfold gv
  by_cases k2 : k = 2
  · rw [if_pos k2]
    obtain ⟨⟨j, a⟩, hq⟩ := gsm_tot (pl := pl) hW pl.length 1 0
    rw [hq]
    cases j with
    | zero => exact ⟨_, rfl⟩
    | succ j => exact ⟨_, rfl⟩
  · rw [if_neg k2]
    cases hp : prt s f pl 1 with
    | none => exact absurd hp (prt_none hW)
    | some z =>
      cases z with
      | none => exact ⟨_, rfl⟩
      | some r1 =>
        dsimp only
        by_cases k0 : k = 0
        · rw [if_pos k0]
          cases hq : prt s f pl (if anyO r1 = true then 2 else 3) with
          | none => exact absurd hq (prt_none hW)
          | some z =>
            cases z with
            | none => exact ⟨_, rfl⟩
            | some q => exact ⟨_, rfl⟩
        · rw [if_neg k0]
          by_cases k1 : k = 1
          · rw [if_pos k1]
            cases hq : prt s f pl 2 with
            | none => exact absurd hq (prt_none hW)
            | some z =>
              cases z with
              | none => exact ⟨_, rfl⟩
              | some r2 =>
                dsimp only
                cases hu : prt s f pl (if r1 = r2 then 3 else 4) with
                | none => exact absurd hu (prt_none hW)
                | some z =>
                  cases z with
                  | none => exact ⟨_, rfl⟩
                  | some q => exact ⟨_, rfl⟩
          · rw [if_neg k1]
            have two : ∀ (P : Prop) [Decidable P] (a b : Nat × List Int × ASt), ∃ o, (if P then some a else some b) = some o := fun P _ a b => by
              by_cases c : P
              · rw [if_pos c]; exact ⟨_, rfl⟩
              · rw [if_neg c]; exact ⟨_, rfl⟩
            by_cases k3 : k = 3
            · rw [if_pos k3]; exact two _ _ _
            · rw [if_neg k3]
              by_cases k4 : k = 4
              · rw [if_pos k4]; exact two _ _ _
              · rw [if_neg k4]
                by_cases k5 : k = 5
                · rw [if_pos k5]; exact two _ _ _
                · rw [if_neg k5]
                  by_cases c : 0 ≤ numL r1 ∧ numL r1 < 4
                  · rw [if_pos c]
                    have hm := mex_rng (hMo (numL r1).toNat (by omega)) (argv_rng (f := f) (pl := pl) hO) 50 0 [] (fun x hx => absurd hx List.not_mem_nil)
                    by_cases c9 : mex E (numL r1).toNat (argv s f pl) 50 0 [] = -99
                    · exfalso
                      rcases hm with ⟨a, y1, y2⟩ | y
                      · rw [y1] at c9
                        unfold argv at c9
                        cases hq : prt s f pl (a + 2) with
                        | none => exact prt_none hW hq
                        | some z =>
                          rw [hq] at c9
                          cases z with
                          | none => dsimp only at c9; omega
                          | some r =>
                            have := numL_rng (prt_ok hO hq)
                            dsimp only at c9
                            by_cases c2 : numL r = -1
                            · rw [if_pos c2] at c9; omega
                            · rw [if_neg c2] at c9; omega
                      · omega
                    · rw [if_neg c9]; exact two _ _ _
                  · rw [if_neg c]; exact ⟨_, rfl⟩
end GVO
