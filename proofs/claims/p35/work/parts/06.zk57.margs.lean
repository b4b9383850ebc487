/-! THE REFERENCE LAYS ARGUMENTS -/
section MAR
variable {M : Md} {fr v : Nat} {gg : Nat → Int} {n g : Nat}
def LaO (g : Nat) (M M' : Md) : Prop := M'.1 = M.1 ∧ (∀ k, k ≠ 45 → k ≠ 46 → M'.2 k = M.2 k) ∧ ∀ k i, (i < 10 * g ∨ 10 * g + 10 ≤ i) → M'.2 k i = M.2 k i
theorem LaO.rf (g : Nat) (M : Md) : LaO g M M := ⟨rfl, fun _ _ _ => rfl, fun _ _ _ => rfl⟩
theorem LaO.tr {M1 M2 : Md} (h : LaO g M M1) (h1 : LaO g M1 M2) : LaO g M M2 := ⟨h1.1.trans h.1, fun k a b => (h1.2.1 k a b).trans (h.2.1 k a b), fun k i a => (h1.2.2 k i a).trans (h.2.2 k i a)⟩
theorem LaO.put {k j : Nat} {x : Int} (hk : k = 45 ∨ k = 46) (hj : 10 * g ≤ j ∧ j < 10 * g + 10) : LaO g M (mPut M k j x) :=
  ⟨rfl, fun k' a b => mPut_ne _ _ _ (by omega), fun k' i a => p2_2 _ _ (Or.inr (by omega))⟩
theorem FrM.la {M' : Md} (h : FrM M fr v gg n) (o : LaO g M M') : FrM M' fr v gg n := by
  obtain ⟨h1, h2, h3, h4, h5⟩ := h
  exact ⟨h1, h2, by rw [o.2.1 41 (by decide) (by decide)]; exact h3, h4, fun k hk => by rw [o.2.1 9 (by decide) (by decide)]; exact h5 k hk⟩
/-- the arguments that are laid -/
def LaV (M : Md) (g : Nat) (gg : Nat → Int) (n : Nat) (A : Nat → Int) : Prop := ∀ x, x < 10 → (A x = -1 ∧ M.2 45 (10 * g + x) = -1) ∨ (0 ≤ A x ∧ M.2 45 (10 * g + x) = A x + 1 ∧ M.2 46 (10 * g + x) = (fE gg n (A x).toNat : Int))
theorem X12_layArguments_ (h : FrM M fr v gg n) (hT : TxOK gg n) (hkv : Tkv gg n) {c : Nat} (hc : c < n) (ho : gg c / 1000 = 2 ∨ gg c / 1000 = 4) (hg : g < 41) (h0 : LaV M g gg n (fun _ => -1)) :
   ∃ M', fX12_layArguments (g : Int) (fr : Int) ((c : Int) + 1) (fE gg n c : Int) M = some ((), M') ∧ LaO g M M' ∧ LaV M' g gg n (agF gg (prs_ gg n 30 (c + 1)) 0 (fun _ => -1)) := by
  have hn := h.2.2.2.1
  have hop : opB (gg c / 1000) = true := by rcases ho with e | e <;> rw [e] <;> rfl
  obtain ⟨a1, a2, a3, a4, a5, a6⟩ := cl_op hT hc hop
  unfold fX12_layArguments
  rw [bnd_eq]
  refine lpn_rule (P := fun mm (L : Int → Int → Md → Option (Unit × Md)) => ∀ (k p m : Nat) (A : Nat → Int) (M1 : Md), c < p → p ≤ fE gg n c → (p < fE gg n c → mkB (gg p / 1000) = true) → stk gg p = gg c / 1000 :: stk gg c → fE gg n c - p ≤ m → fE gg n c - p < mm → k ≤ p → FrM M1 fr v gg n → LaV M1 g gg n A → ∃ M', L (k : Int) (p : Int) M1 = some ((), M') ∧ LaO g M1 M' ∧ LaV M' g gg n (agF gg (prs_ gg n m p) k A)) (fun k p m A M1 _ _ _ _ _ h => absurd h (Nat.not_lt_zero _)) (fun mm L hLL k p m A M1 hp1 hp2 hmk hs hm hmm hkp hF hV => ?_) FU 0 (c + 1) 30 (fun _ => -1) M (Nat.lt_succ_self c) a1 (fun z => ?_) (by rw [stk_succ, aft_op hop]) (by omega) (by unfold FU; omega) (Nat.zero_le _) h h0
  · by_cases hlt : p < fE gg n c
    · have hpn : p < n := by omega
      have hmkp := hmk hlt
      obtain ⟨k1, k2, k3, k4⟩ := hF.k hpn
      have hcd := X12_codeAt_ hF hpn
      have hok := hkv p hpn
      unfold okt at hok
      obtain ⟨m', rfl⟩ : ∃ m', m = m' + 1 := ⟨m - 1, by omega⟩
      have el : prs_ gg n (m' + 1) p = p :: prs_ gg n m' (fE gg n p) := by rw [prs_, if_pos ⟨hpn, hmkp⟩]
      obtain ⟨pe1, pe2, pe3⟩ := part_end hT hc hop hp1 hlt hmkp hs
      have gt := fE_gt gg n p
      rw [if_neg (by rw [w32_n (by omega), w32_n (by omega)]; omega), cal_of hcd, k1, k2, k3, show w32 5 = 5 from rfl, bnd_eq, el]
      -- behind the kind: the number of NEXTs, the name
      have on : ∀ (k2 nm : Nat), k2 ≤ p + 1 → nm < 1000 → k2 = (if gg p / 1000 = 5 then k + 1 else k) → nm = (if gg p / 1000 = 5 then k + 1 else (gg p % 1000).toNat) →
        ∃ M', (bnd (fun  (M_111 : Md) =>
cal (fX12_markFrom (fr : Int) ((p : Int) + 1) (fE gg n c : Int) M_111) fun r4 M3 =>
L (k2 : Int) r4 M3) fun J111 =>
if w32 10 ≤ w32 (nm : Int) then
J111 M1
else
if inR ((10 * (g : Int)) + (nm : Int)) (mLen 45) then bnd (mPut M1 45 (ix ((10 * (g : Int)) + (nm : Int))) ((p : Int) + 1)) fun (M5 : Md) =>
cal (fX12_markFrom (fr : Int) ((p : Int) + 1) (fE gg n c : Int) M5) fun r7 M6 =>
if inR ((10 * (g : Int)) + (nm : Int)) (mLen 46) then bnd (mPut M6 46 (ix ((10 * (g : Int)) + (nm : Int))) r7) fun (M8 : Md) =>
J111 M8
else none
else none) = some ((), M') ∧ LaO g M1 M' ∧ LaV M' g gg n (agF gg (p :: prs_ gg n m' (fE gg n p)) k A) := by
        intro k2 nm hk2 hnm ek enm
        unfold agF
        rw [← ek, ← enm, bnd_eq]
        by_cases c10 : nm < 10
        · have e : (10 * (g : Int)) + (nm : Int) = ((10 * g + nm : Nat) : Int) := by omega
          have o1 : LaO g M1 (mPut M1 45 (10 * g + nm) ((p : Int) + 1)) := LaO.put (Or.inl rfl) (by omega)
          have F1 := hF.la o1
          have o2 : LaO g M1 (mPut (mPut M1 45 (10 * g + nm) ((p : Int) + 1)) 46 (10 * g + nm) (fE gg n p : Int)) := o1.tr (LaO.put (Or.inr rfl) (by omega))
          have F2 := hF.la o2
          have q := hLL k2 (fE gg n p) m' (fun x => if x = nm then (p : Int) else A x) _ (by omega) pe1 pe2 pe3 (by omega) (by omega) (by omega) F2 (fun x hx => by
            dsimp only
            by_cases cx : x = nm
            · subst cx
              refine Or.inr ⟨by rw [if_pos rfl]; omega, ?_, ?_⟩
              · rw [p2_2 _ _ (Or.inl (by decide)), p2_1, if_pos rfl]
              · rw [p2_1, if_pos rfl, Int.toNat_natCast]
            · rw [if_neg cx, p2_2 _ _ (Or.inl (by decide)), p2_2 _ _ (Or.inr (by omega)), p2_2 _ _ (Or.inr (by omega)), p2_2 _ _ (Or.inl (by decide))]
              exact hV x hx)
          obtain ⟨M', q1, q2, q3⟩ := q
          refine ⟨M', ?_, o2.tr q2, q3⟩
          rw [if_neg (by rw [show w32 10 = 10 from rfl, w32_n (by omega)]; omega), e, if_pos (in_410 (by omega) rfl), bnd_eq, ix_n (by omega), cal_of (X12_mark_ F1 hT hc hop hp1 hlt hmkp hs), if_pos (in_410 (by omega) rfl), bnd_eq]
          dsimp only
          rw [cal_of (X12_mark_ F2 hT hc hop hp1 hlt hmkp hs)]
          exact q1
        · have q := hLL k2 (fE gg n p) m' (fun x => if x = nm then (p : Int) else A x) M1 (by omega) pe1 pe2 pe3 (by omega) (by omega) (by omega) hF (fun x hx => by
            dsimp only
            rw [if_neg (show ¬ x = nm by omega)]
            exact hV x hx)
          obtain ⟨M', q1, q2, q3⟩ := q
          refine ⟨M', ?_, q2, q3⟩
          rw [if_pos (by rw [show w32 10 = 10 from rfl, w32_n (by omega)]; omega)]
          dsimp only
          rw [cal_of (X12_mark_ hF hT hc hop hp1 hlt hmkp hs)]
          exact q1
      by_cases c5 : gg p / 1000 = 5
      · rw [if_neg (fun z => z c5)]
        dsimp only
        rw [bnd_eq, bnd_eq, if_neg (fun z => z c5)]
        have q := on (k + 1) (k + 1) (by omega) (by omega) (by rw [if_pos c5]) (by rw [if_pos c5])
        rw [show ((k + 1 : Nat) : Int) = (k : Int) + 1 by omega] at q
        exact q
      · rw [if_pos c5]
        dsimp only
        rw [bnd_eq, bnd_eq, if_pos c5, Int.add_zero]
        have q := on k (gg p % 1000).toNat (by omega) (by omega) (by rw [if_neg c5]) (by rw [if_neg c5])
        rw [show (((gg p % 1000).toNat : Nat) : Int) = gg p % 1000 by omega] at q
        exact q
    · have e : p = fE gg n c := by omega
      subst e
      have el : prs_ gg n m (fE gg n c) = [] := by
        cases m with
        | zero => rfl
        | succ m => rw [prs_, if_neg (fun z => by have := z.2; rw [a3] at this; exact absurd this (by decide))]
      rw [if_pos (Int.le_refl _), el]
      exact ⟨M1, rfl, LaO.rf g M1, hV⟩
  · rcases first_mk hT hc ho with y | y
    · exfalso
      obtain ⟨q, q1, q2⟩ := a6 (c + 1) (Nat.lt_succ_self c) z
      have l := congrArg List.length q1
      rw [stk_succ, aft_op hop, List.length_append] at l
      exact q2 (List.length_eq_zero_iff.mp (by omega)) y
    · exact y
end MAR
