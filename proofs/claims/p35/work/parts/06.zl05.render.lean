/-! RENDERING, on both sides -/
section RND
variable {b kc : Nat} {M M' : Md} {C C' : Cd} {t : Nat}
theorem met {a x y : Nat} (ha : a < 256) : (a &&& (x ^^^ y)) ≠ 0 ↔ ∃ c, c < 8 ∧ a.testBit c = true ∧ x.testBit c ≠ y.testBit c := by
  constructor
  · intro h
    refine Classical.byContradiction fun hn => h (Nat.eq_of_testBit_eq fun i => ?_)
    rw [Nat.zero_testBit, Nat.testBit_and, Nat.testBit_xor]
    by_cases ca : a.testBit i = true
    · rw [ca, Bool.true_and]
      by_cases hi : i < 8
      · by_cases cx : x.testBit i = y.testBit i
        · rw [cx]; cases y.testBit i <;> rfl
        · exact absurd ⟨i, hi, ca, cx⟩ hn
      · have : a.testBit i = false := Nat.testBit_lt_two_pow (Nat.lt_of_lt_of_le ha (show 2 ^ 8 ≤ 2 ^ i from Nat.pow_le_pow_right (by decide) (by omega)))
        rw [this] at ca
        exact absurd ca (by decide)
    · rw [eq_false_of_ne_true ca, Bool.false_and]
  · intro ⟨c, hc, h1, h2⟩ h0
    have e : (a &&& (x ^^^ y)).testBit c = false := by rw [h0, Nat.zero_testBit]
    rw [Nat.testBit_and, Nat.testBit_xor, h1, Bool.true_and] at e
    cases h3 : x.testBit c <;> cases h4 : y.testBit c <;> rw [h3, h4] at e h2
    · exact h2 rfl
    · exact absurd e (by decide)
    · exact absurd e (by decide)
    · exact h2 rfl
/-- what rendering touches behind expanding, in the class -/
def sRn (b t q k a : Nat) : Prop := sTk b t q k a ∨ sSt b q k a
theorem RR.rendered (h : RR b kc M C) (ht : t < 24) (hne : M.2 6 t ≠ -1) {acc : List Int} {s : ASt} {ct : Nat} (f : Fp (sRn b t) C C') (hL' : Lay b C') (hct : cI C 704 (b + 13 + 6 * t + 1) = (ct : Int)) (hs : aLk s < 16777216 ∧ aCt s < 256 ∧ aRd s < 16777216 ∧ aCd s < 256 ∧ aUs s < 16) (hm : RdM M M' t (M.1 22) acc s ct)
   (g1 : RowV C' (b + 13 + 6 * t + 2) acc) (g2 : cI C' 701 (b + 13 + 6 * t + 1) = 1) (g3 : cI C' 702 (b + 13 + 6 * t + 1) = if aCd s &&& (ct ^^^ aCt s) ≠ 0 then 1 else 0) (g4 : cI C' 703 (b + 13 + 6 * t + 1) = (aLk s : Int) ∧ cI C' 704 (b + 13 + 6 * t + 1) = (aCt s : Int) ∧ cI C' 705 (b + 13 + 6 * t + 1) = (aRd s : Int) ∧ cI C' 706 (b + 13 + 6 * t + 1) = (aCd s : Int) ∧ cI C' 707 (b + 13 + 6 * t + 1) = (aUs s : Int))
   (g5 : ∀ u, u < 24 → u ≠ t → ∀ cd : Nat, cI C 706 (b + 13 + 6 * u + 1) = (cd : Int) → cI C' 702 (b + 13 + 6 * u + 1) = if cd &&& (ct ^^^ aCt s) ≠ 0 then 1 else cI C 702 (b + 13 + 6 * u + 1)) : RR b (kc + 1) M' C' := by
  have hL := h.1.1
  have W := hL.W
  have hz := hL.sz
  obtain ⟨⟨n1, n2, n3, n4⟩, r2, r3, r4, ⟨v27, v28, v30, v29⟩, v31, v32, v33, v34, v35⟩ := hm
  have m1 : ∀ j, ¬ (j = 22) → M'.1 j = M.1 j := fun j hj => n1 j hj
  have m2 : ∀ k, ¬ (k = 24 ∨ (27 ≤ k ∧ k ≤ 35)) → M'.2 k = M.2 k := fun k hk => r2 k (by omega)
  have kRL : RLy b C' := h.1.low f (fun q k a _ z => by unfold sRn sTk sSt sRow at z; unfold Mu; omega) (by unfold sRn sTk sSt sRow; omega) (by unfold sRn sTk sSt sRow; omega) (by unfold sRn sTk sSt sRow; omega) (by unfold sRn sTk sSt sRow; omega) (fun _ => by unfold sRn sTk sSt sRow; omega) (by unfold sRn sTk sSt sRow; omega) (by unfold sRn sTk sSt sRow; omega) (fun _ => by unfold sRn sTk sSt sRow; omega) (by unfold sRn sTk sSt sRow; omega) (by unfold sRn sTk sSt sRow; omega) (fun _ _ => by unfold sRn sTk sSt sRow; omega) (fun _ _ _ => by unfold sRn sTk sSt sRow; omega)
  have kRD : ∃ dn g, RD b M' C' dn g := by
    obtain ⟨dn, g, hd⟩ := h.2.1
    exact ⟨dn, g, hd.low W f (by unfold sRn sTk sSt sRow; omega) (by unfold sRn sTk sSt sRow; omega) (by unfold sRn sTk sSt sRow; omega) (by unfold sRn sTk sSt sRow; omega) (m1 1 (by omega)) (m2 0 (by omega))⟩
  have kRS : RS b M' C' := h.2.2.1.low hL f (by unfold sRn sTk sSt sRow; omega) (by unfold sRn sTk sSt sRow; omega) (by unfold sRn sTk sSt sRow; omega) (fun j hj => m1 j (by omega)) (Or.inl (m1 71 (by omega))) (Or.inl (m1 68 (by omega)))
  have kRT : ∀ t, t < 24 → RTi b M' C' t := fun t ht => (h.2.2.2.2.1 t ht).low hL ht f (by unfold sRn sTk sSt sRow; omega) (by unfold sRn sTk sSt sRow; omega) (by unfold sRn sTk sSt sRow; omega) (by unfold sRn sTk sSt sRow; omega) (fun k hk => m2 k (by omega))
  have kRM : ∀ j, j < 4 → RMo b M' C' j := fun j hj => (h.2.2.2.2.2.1 j hj).low hL hj f (by unfold sRn sTk sSt sRow; omega) (by unfold sRn sTk sSt sRow; omega) (by unfold sRn sTk sSt sRow; omega) (fun k hk => m2 k (by omega))
  have kVS : VSame M M' := ⟨fun j hj => m1 j (by omega), fun k hk => m2 k (by omega)⟩
  have kRB : RB (kc + 1) M' := by
    obtain ⟨⟨b1, b2⟩, b3, b4, b5⟩ := h.2.2.2.1
    unfold RB
    rw [m1 5 (by decide), m1 13 (by decide)]
    exact ⟨⟨b1, by omega⟩, by omega, by omega, by omega⟩
  have e24 : ∀ c, c < 8 → M.2 24 c ≤ M.1 22 → M'.2 24 c ≤ M'.1 22 := fun c hc hle => by
    have y := n4 c hc
    by_cases z : c < 8 ∧ ct.testBit c ≠ (aCt s).testBit c
    · rw [if_pos z] at y; exact y.2
    · rw [if_neg z] at y; omega
  have kRK : ∀ nv, RK M nv → RK M' nv := fun nv ⟨k1, k2, k3, k4, k5⟩ => by
    refine ⟨fun u hu => ?_, fun k hk => ?_, fun k hk => ⟨?_, e24 k hk (k3 k hk).2⟩, fun k hk => ?_, fun u hu => ?_⟩
    · rw [m2 26 (by omega), prAt_same kVS]; exact k1 u hu
    · rw [m2 23 (by omega)]; have := k2 k hk; omega
    · have y := n4 k hk
      have w := k3 k hk
      by_cases z : k < 8 ∧ ct.testBit k ≠ (aCt s).testBit k
      · rw [if_pos z] at y
        have b4 := h.2.2.2.1.2.2.1
        omega
      · rw [if_neg z] at y; omega
    · rw [m2 25 (by omega)]; have := k4 k hk; omega
    · by_cases e : u = t
      · subst e; rw [v28]
        have b4 := h.2.2.2.1.2.2.1
        omega
      · rw [r3 28 (by omega) u e]; have := k5 u hu; omega
  obtain ⟨VA, PA, LE, AA, nv, np, na, hH, k1, k2, k3, k4, k5⟩ := h.2.2.2.2.2.2.1
  have kRG : RGs b M' C' := by
    intro u hu
    by_cases e : u = t
    · subst e
      refine ⟨acc, aLk s, aCt s, aRd s, aCd s, aUs s, ⟨by rw [g2, v27], Or.inr v27⟩, ?_, g1, ⟨⟨g4.1, hs.1⟩, ⟨g4.2.1, hs.2.1⟩, ⟨g4.2.2.1, hs.2.2.1⟩, ⟨g4.2.2.2.1, hs.2.2.2.1⟩, ⟨g4.2.2.2.2, hs.2.2.2.2⟩⟩, v32, fun _ => ⟨⟨v30, v29⟩, ⟨v31, v33, v34, v35⟩, ?_, by rw [m2 6 (by omega)]; exact hne⟩, fun z => by rw [v27] at z; exact absurd z (by decide)⟩
      · rw [g3]
        by_cases z : aCd s &&& (ct ^^^ aCt s) ≠ 0
        · rw [if_pos z]; exact Or.inr rfl
        · rw [if_neg z]; exact Or.inl rfl
      · have iff1 : OldP M' u (aRd s) (aCd s) (aUs s) ↔ aCd s &&& (ct ^^^ aCt s) ≠ 0 := by
          rw [met hs.2.2.2.1]
          unfold OldP
          rw [v28, m2 23 (by omega), m2 25 (by omega)]
          constructor
          · rintro (z | ⟨k, z1, z2, z3⟩ | ⟨c, z1, z2, z3⟩ | ⟨k, z1, z2, z3⟩)
            · have := k2 u hu; omega
            · have := k2 k z1; omega
            · have y := n4 c z1
              have w := k3 c z1
              by_cases z : c < 8 ∧ ct.testBit c ≠ (aCt s).testBit c
              · exact ⟨c, z1, z2, z.2⟩
              · rw [if_neg z] at y; omega
            · have := k4 k z1; omega
          · intro ⟨c, z1, z2, z3⟩
            have y := n4 c z1
            rw [if_pos ⟨z1, z3⟩] at y
            exact Or.inr (Or.inr (Or.inl ⟨c, z1, z2, y.1⟩))
        rw [g3, iff1]
        by_cases z : aCd s &&& (ct ^^^ aCt s) ≠ 0
        · rw [if_pos z]; exact ⟨fun _ => z, fun _ => rfl⟩
        · rw [if_neg z]; exact ⟨fun y => absurd y (by decide), fun y => absurd y z⟩
    · obtain ⟨r, lk, cu, rd, cd, us, h1, h2, h3, ⟨h4a, h4b, h4c, h4d, h4e⟩, h5, h6, h7⟩ := h.2.2.2.2.2.2.2 u hu
      have fi : ∀ k, k ≠ 702 → cI C' k (b + 13 + 6 * u + 1) = cI C k (b + 13 + 6 * u + 1) := fun k hk => f.fI (by omega) (by unfold sRn sTk sSt sRow; omega)
      have q702 := g5 u hu e cd h4d.1
      have k27 := r3 27 (by omega) u e
      have k28 := r3 28 (by omega) u e
      have hr5 := k5 u hu
      refine ⟨r, lk, cu, rd, cd, us, ?_, ?_, h3.fp W f (by unfold sRn sTk sSt sRow; omega) (by unfold sRn sTk sSt sRow; omega) (by unfold sRn sTk sSt sRow; omega) (by unfold sRn sTk sSt sRow; omega), ⟨⟨(fi 703 (by decide)).trans h4a.1, h4a.2⟩, ⟨(fi 704 (by decide)).trans h4b.1, h4b.2⟩, ⟨(fi 705 (by decide)).trans h4c.1, h4c.2⟩, ⟨(fi 706 (by decide)).trans h4d.1, h4d.2⟩, ⟨(fi 707 (by decide)).trans h4e.1, h4e.2⟩⟩, ?_, fun z => ?_, fun z => ?_⟩
      · rw [fi 701 (by decide), k27]; exact h1
      · rw [q702]
        by_cases z : cd &&& (ct ^^^ aCt s) ≠ 0
        · rw [if_pos z]; exact Or.inr rfl
        · rw [if_neg z]; exact h2
      · rw [r3 32 (by omega) u e]; exact h5
      · rw [k27] at z
        obtain ⟨⟨y1, y1'⟩, ⟨y2, y3, y4, y5⟩, y6, y7⟩ := h6 z
        refine ⟨⟨by rw [r3 30 (by omega) u e]; exact y1, fun k hk => ?_⟩, ⟨by rw [r3 31 (by omega) u e]; exact y2, by rw [r3 33 (by omega) u e]; exact y3, by rw [r3 34 (by omega) u e]; exact y4, by rw [r3 35 (by omega) u e]; exact y5⟩, ?_, by rw [m2 6 (by omega)]; exact y7⟩
        · have hl := h3.2.2.2.1.1
          rw [r4 _ (by omega)]; exact y1' k hk
        · have iff1 : OldP M' u rd cd us ↔ OldP M u rd cd us ∨ cd &&& (ct ^^^ aCt s) ≠ 0 := by
            rw [met h4d.2]
            unfold OldP
            rw [k28, m2 23 (by omega), m2 25 (by omega)]
            constructor
            · rintro (z | z | ⟨c, z1, z2, z3⟩ | z)
              · exact Or.inl (Or.inl z)
              · exact Or.inl (Or.inr (Or.inl z))
              · have y := n4 c z1
                by_cases z : c < 8 ∧ ct.testBit c ≠ (aCt s).testBit c
                · exact Or.inr ⟨c, z1, z2, z.2⟩
                · rw [if_neg z] at y
                  exact Or.inl (Or.inr (Or.inr (Or.inl ⟨c, z1, z2, by omega⟩)))
              · exact Or.inl (Or.inr (Or.inr (Or.inr z)))
            · rintro ((z | z | ⟨c, z1, z2, z3⟩ | z) | ⟨c, z1, z2, z3⟩)
              · exact Or.inl z
              · exact Or.inr (Or.inl z)
              · have y := n4 c z1
                by_cases z : c < 8 ∧ ct.testBit c ≠ (aCt s).testBit c
                · rw [if_pos z] at y
                  exact Or.inr (Or.inr (Or.inl ⟨c, z1, z2, by omega⟩))
                · rw [if_neg z] at y
                  exact Or.inr (Or.inr (Or.inl ⟨c, z1, z2, by omega⟩))
              · exact Or.inr (Or.inr (Or.inr z))
              · have y := n4 c z1
                rw [if_pos ⟨z1, z3⟩] at y
                exact Or.inr (Or.inr (Or.inl ⟨c, z1, z2, by omega⟩))
          rw [q702, iff1]
          by_cases z2 : cd &&& (ct ^^^ aCt s) ≠ 0
          · rw [if_pos z2]; exact ⟨fun _ => Or.inr z2, fun _ => rfl⟩
          · rw [if_neg z2, y6]; exact ⟨Or.inl, fun y => y.elim id (fun y => absurd y z2)⟩
      · rw [k27] at z
        exact h7 z
  refine h.part f (fun q k a z => by unfold sRn sTk sSt sRow at z; omega) kRL kRD kRS kRB kRT kRM kVS (Int.le_of_eq (m1 5 (by decide)).symm) (by unfold sRn sTk sSt sRow; omega) (fun _ _ => by unfold sRn sTk sSt sRow; omega) kRK kRG
end RND
