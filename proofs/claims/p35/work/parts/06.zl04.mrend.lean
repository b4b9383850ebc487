/-! THE REFERENCE RENDERS -/
section MRE
variable {M M' : Md} {t : Nat}
/-- categories noted -/
def CtN (M M' : Md) (ct cu n : Nat) : Prop := (∀ j, j ≠ 22 → M'.1 j = M.1 j) ∧ M.1 22 ≤ M'.1 22 ∧ M'.1 22 ≤ M.1 22 + (n : Int) ∧ ∀ c, c < 8 → if c < n ∧ ct.testBit c ≠ cu.testBit c then M.1 22 < M'.2 24 c ∧ M'.2 24 c ≤ M'.1 22 else M'.2 24 c = M.2 24 c
theorem X12_setCategories_ (ht : t < 24) {ct cu : Nat} (h1 : ct < 256) (h2 : cu < 256) (h32 : M.2 32 t = (ct : Int)) :
   ∃ M', fX12_setCategories (t : Int) (cu : Int) M = some ((), M') ∧ CtN M M' ct cu 8 ∧ (∀ k, k ≠ 24 → k ≠ 32 → M'.2 k = M.2 k) ∧ M'.2 32 t = (cu : Int) ∧ ∀ s, s ≠ t → M'.2 32 s = M.2 32 s := by
  unfold fX12_setCategories
  rw [bnd_eq]
  refine lpn_rule (P := fun mm (L : Int → Md → Option (Unit × Md)) => ∀ (i : Nat) (M2 : Md), i ≤ 8 → 8 - i < mm → CtN M M2 ct cu i → (∀ k, k ≠ 24 → M2.2 k = M.2 k) → ∃ M', L (i : Int) M2 = some ((), M') ∧ CtN M M' ct cu 8 ∧ (∀ k, k ≠ 24 → k ≠ 32 → M'.2 k = M.2 k) ∧ M'.2 32 t = (cu : Int) ∧ ∀ s, s ≠ t → M'.2 32 s = M.2 32 s) (fun i _ _ h => absurd h (Nat.not_lt_zero _)) (fun mm L hLL i M2 hi hm hc hk => ?_) FU 0 M (by decide) (by unfold FU; omega) ⟨fun _ _ => rfl, Int.le_refl _, by omega, fun c _ => by rw [if_neg (fun z => absurd z.1 (Nat.not_lt_zero c))]⟩ (fun _ _ => rfl)
  obtain ⟨c1, c2, c3, c4⟩ := hc
  rcases Nat.lt_or_ge i 8 with hlt | hge
  · have e32 : M2.2 32 t = (ct : Int) := by rw [hk 32 (by decide)]; exact h32
    rw [if_neg (by rw [show w32 8 = 8 from rfl, w32_n (by omega)]; omega), if_pos (inM (n := 24) rfl ht (by decide)), bnd_eq, ix_n (by omega), e32, bitI_N (by omega) (by omega), bitI_N (by omega) (by omega), i01, i01]
    by_cases c : ct.testBit i = cu.testBit i
    · rw [if_pos (by rw [c])]
      refine hLL (i + 1) M2 (by omega) (by omega) ⟨c1, c2, by omega, fun x hx => ?_⟩ hk
      have y := c4 x hx
      by_cases z : x < i ∧ ct.testBit x ≠ cu.testBit x
      · rw [if_pos z] at y
        rw [if_pos ⟨by omega, z.2⟩]
        exact y
      · rw [if_neg z] at y
        rw [if_neg (fun u => z ⟨by
          rcases Nat.lt_or_ge x i with v | v
          · exact v
          · exact absurd (by have e : x = i := by omega
                             rw [e]; exact c) u.2, u.2⟩)]
        exact y
    · have cc : ¬ ((if ct.testBit i = true then 1 else 0 : Int) = (if cu.testBit i = true then 1 else 0 : Int)) := by
        cases h3 : ct.testBit i <;> cases h4 : cu.testBit i <;> rw [h3, h4] at c
        · exact absurd rfl c
        · decide
        · decide
        · exact absurd rfl c
      rw [if_neg cc, bnd_eq, if_pos (inM (n := 8) rfl hlt (by decide)), bnd_eq, ix_n (by omega), mS1]
      have q24 : ∀ x, (mPut (mSet M2 22 (M2.1 22 + 1)) 24 i (M2.1 22 + 1)).2 24 x = if x = i then M2.1 22 + 1 else M2.2 24 x := fun x => by
        by_cases e : x = i
        · rw [if_pos e, e]; exact p2_1 _ _ _ _
        · rw [if_neg e]; exact p2_2 (k := 24) (k' := 24) (mSet M2 22 (M2.1 22 + 1)) _ (Or.inr e)
      refine hLL (i + 1) _ (by omega) (by omega) ⟨fun j hj => (mS2 M2 _ hj).trans (c1 j hj), ?_, ?_, fun x hx => ?_⟩ (fun k hk' => (mPut_ne (mSet M2 22 (M2.1 22 + 1)) _ _ hk').trans (hk k hk'))
      · show M.1 22 ≤ (mSet M2 22 (M2.1 22 + 1)).1 22
        rw [mS1]; omega
      · show (mSet M2 22 (M2.1 22 + 1)).1 22 ≤ _
        rw [mS1]; omega
      · have y := c4 x hx
        rw [q24, show (mPut (mSet M2 22 (M2.1 22 + 1)) 24 i (M2.1 22 + 1)).1 22 = M2.1 22 + 1 from mS1 M2 22 _]
        by_cases e : x = i
        · subst e
          rw [if_pos ⟨by omega, c⟩, if_pos rfl]
          exact ⟨by omega, Int.le_refl _⟩
        · rw [if_neg e]
          by_cases z : x < i ∧ ct.testBit x ≠ cu.testBit x
          · rw [if_pos z] at y
            rw [if_pos ⟨by omega, z.2⟩]
            exact ⟨y.1, by omega⟩
          · rw [if_neg z] at y
            rw [if_neg (fun u => z ⟨by omega, u.2⟩)]
            exact y
  · have e : i = 8 := by omega
    subst e
    rw [if_pos (by decide), if_pos (inM (n := 24) rfl ht (by decide)), bnd_eq, ix_n (by omega)]
    refine ⟨_, rfl, ⟨c1, c2, c3, fun x hx => ?_⟩, fun k k1 k2 => (mPut_ne M2 _ _ k2).trans (hk k k1), p2_1 _ _ _ _, fun s hs => (p2_2 (k := 32) (k' := 32) M2 _ (Or.inr hs)).trans (by rw [hk 32 (by decide)])⟩
    have e24 : (mPut M2 32 t (cu : Int)).2 24 x = M2.2 24 x := by rw [mPut_ne M2 _ _ (by decide)]
    rw [e24]
    exact c4 x hx
/-- the row is copied -/
theorem mcopy_ {acc : List Int} (ht : t < 24) (hr : RowM M 0 acc) {K : Md → Option (Unit × Md)} :
   ∃ Mz : Md, Mz.1 = M.1 ∧ (∀ k, k ≠ 29 → Mz.2 k = M.2 k) ∧ (∀ i, i < acc.length → Mz.2 29 (150 * t + i) = acc.getD i 0) ∧ (∀ x, (x < 150 * t ∨ 150 * t + 150 ≤ x) → Mz.2 29 x = M.2 29 x) ∧ lpn (fun (_ : Int) (_ : Md) => (none : Option (Unit × Md))) (fun L48 (v3_48 : Int) (M_48 : Md) =>
if inR 0 (mLen 49) then
if w32 (M_48.2 49 (ix 0)) ≤ w32 v3_48 then K M_48
else
if inR v3_48 (mLen 50) then
if inR ((150 * (t : Int)) + v3_48) (mLen 29) then bnd (mPut M_48 29 (ix ((150 * (t : Int)) + v3_48)) (M_48.2 50 (ix v3_48))) fun (M15 : Md) =>
L48 (v3_48 + 1) M15
else none
else none
else none) FU 0 M = K Mz := by
  obtain ⟨r1, r2, r3, r4⟩ := hr
  have hl := r3.1
  refine lpn_rule (P := fun mm (L : Int → Md → Option (Unit × Md)) => ∀ (i : Nat) (M2 : Md), i ≤ acc.length → acc.length - i < mm → M2.1 = M.1 → (∀ k, k ≠ 29 → M2.2 k = M.2 k) → (∀ j, j < i → M2.2 29 (150 * t + j) = acc.getD j 0) → (∀ x, (x < 150 * t ∨ 150 * t + 150 ≤ x) → M2.2 29 x = M.2 29 x) → ∃ Mz : Md, Mz.1 = M.1 ∧ (∀ k, k ≠ 29 → Mz.2 k = M.2 k) ∧ (∀ i, i < acc.length → Mz.2 29 (150 * t + i) = acc.getD i 0) ∧ (∀ x, (x < 150 * t ∨ 150 * t + 150 ≤ x) → Mz.2 29 x = M.2 29 x) ∧ L (i : Int) M2 = K Mz) (fun i _ _ h => absurd h (Nat.not_lt_zero _)) (fun mm L hLL i M2 hi hm a1 a2 a3 a4 => ?_) FU 0 M (Nat.zero_le _) (by unfold FU; omega) rfl (fun _ _ => rfl) (fun j hj => absurd hj (Nat.not_lt_zero j)) (fun _ _ => rfl)
  have e49 : M2.2 49 0 = (acc.length : Int) := by rw [a2 49 (by decide)]; exact r2
  rw [if_pos (show inR 0 (mLen 49) from inM (d := 0) (n := 1700) rfl (by decide) (by decide)), show ix 0 = 0 from rfl, e49]
  rcases Nat.lt_or_ge i acc.length with hlt | hge
  · have e50 : M2.2 50 i = acc.getD i 0 := by
      have q := r4 i hlt
      rw [show 150 * 0 + i = i by omega] at q
      rw [a2 50 (by decide)]; exact q
    have eix : (150 * (t : Int)) + (i : Int) = ((150 * t + i : Nat) : Int) := by omega
    rw [if_neg (by rw [w32_n (by omega), w32_n (by omega)]; omega), if_pos (inM (n := 255000) rfl (by omega) (by decide)), eix, if_pos (inM (n := 3600) rfl (by omega) (by decide)), bnd_eq, ix_n (n := i) (by omega), ix_n (by omega), e50]
    refine hLL (i + 1) _ (by omega) (by omega) a1 (fun k hk => (mPut_ne M2 _ _ hk).trans (a2 k hk)) (fun j hj => ?_) (fun x hx => ?_)
    · by_cases e : j = i
      · subst e; exact p2_1 _ _ _ _
      · exact (p2_2 (k := 29) (k' := 29) M2 _ (Or.inr (by omega))).trans (a3 j (by omega))
    · exact (p2_2 (k := 29) (k' := 29) M2 _ (Or.inr (by omega))).trans (a4 x hx)
  · have e : i = acc.length := by omega
    subst e
    rw [if_pos (Int.le_refl _)]
    exact ⟨M2, a1, a2, a3, a4, rfl⟩
/-- what rendering does, in the reference -/
def RdM (M M' : Md) (t : Nat) (tk : Int) (acc : List Int) (s : ASt) (ct : Nat) : Prop := CtN M M' ct (aCt s) 8 ∧ (∀ k, (k < 24 ∨ k = 25 ∨ k = 26 ∨ 35 < k) → M'.2 k = M.2 k) ∧ (∀ k, (k = 27 ∨ k = 28 ∨ (30 ≤ k ∧ k ≤ 35)) → ∀ u, u ≠ t → M'.2 k u = M.2 k u) ∧ (∀ x, (x < 150 * t ∨ 150 * t + 150 ≤ x) → M'.2 29 x = M.2 29 x) ∧
  (M'.2 27 t = 1 ∧ M'.2 28 t = tk ∧ M'.2 30 t = (acc.length : Int) ∧ ∀ i, i < acc.length → M'.2 29 (150 * t + i) = acc.getD i 0) ∧ M'.2 31 t = (aLk s : Int) ∧ M'.2 32 t = (aCt s : Int) ∧ M'.2 33 t = (aRd s : Int) ∧ M'.2 34 t = (aCd s : Int) ∧ M'.2 35 t = (aUs s : Int)
theorem X12_render_ {v : Int} {M0 : Md} {acc : List Int} {s : ASt} {ct : Nat} (ht : t < 24) (hp : fX12_presentAt (t : Int) (mSet M0 39 (-1)) = some (v, mSet M0 39 (-1))) (he : fX12_expand (t : Int) v (mSet M0 39 (-1)) = some ((), M)) (hr : RowM M 0 acc) (hs : SeM M s) (h32 : M.2 32 t = (ct : Int)) (hct : ct < 256) :
   ∃ M', fX12_render (t : Int) M0 = some ((), M') ∧ RdM M M' t (M0.1 22) acc s ct := by
  have i24 : ∀ {k}, mLen k = 24 → inR (t : Int) (mLen k) := fun h => inM (n := 24) h ht (by decide)
  have e22 : (mSet M0 39 (-1)).1 22 = M0.1 22 := mS2 _ _ (by decide)
  unfold fX12_render
  rw [bnd_eq, bnd_eq, cal_of hp, cal_of he, if_pos (i24 rfl), bnd_eq, if_pos (i24 rfl), bnd_eq, if_pos (show inR 0 (mLen 49) from inM (d := 0) (n := 1700) rfl (by decide) (by decide)), if_pos (i24 rfl), bnd_eq, bnd_eq, ix_n (n := t) (by omega), e22]
  have hb : ∀ Mb, Mb = mPut (mPut (mPut M 28 t (M0.1 22)) 27 t 1) 30 t ((mPut (mPut M 28 t (M0.1 22)) 27 t 1).2 49 (ix 0)) → Mb.1 = M.1 ∧ (∀ k, k ≠ 27 → k ≠ 28 → k ≠ 30 → Mb.2 k = M.2 k) ∧ (∀ u, u ≠ t → Mb.2 27 u = M.2 27 u ∧ Mb.2 28 u = M.2 28 u ∧ Mb.2 30 u = M.2 30 u) ∧ Mb.2 27 t = 1 ∧ Mb.2 28 t = M0.1 22 ∧ Mb.2 30 t = (acc.length : Int) := by
    intro Mb e
    subst e
    refine ⟨rfl, fun k k1 k2 k3 => ?_, fun u hu => ⟨?_, ?_, ?_⟩, ?_, ?_, ?_⟩
    · rw [mPut_ne _ _ _ k3, mPut_ne _ _ _ k1, mPut_ne _ _ _ k2]
    · rw [mPut_ne _ _ _ (by decide)]; exact p2_2 (k := 27) (k' := 27) _ _ (Or.inr hu)
    · rw [mPut_ne _ _ _ (by decide), mPut_ne _ _ _ (by decide)]; exact p2_2 (k := 28) (k' := 28) _ _ (Or.inr hu)
    · have : (mPut (mPut (mPut M 28 t (M0.1 22)) 27 t 1) 30 t ((mPut (mPut M 28 t (M0.1 22)) 27 t 1).2 49 (ix 0))).2 30 u = (mPut (mPut M 28 t (M0.1 22)) 27 t 1).2 30 u := p2_2 (k := 30) (k' := 30) _ _ (Or.inr hu)
      rw [this, mPut_ne _ _ _ (by decide), mPut_ne _ _ _ (by decide)]
    · rw [mPut_ne _ _ _ (by decide)]; exact p2_1 _ _ _ _
    · rw [mPut_ne _ _ _ (by decide), mPut_ne _ _ _ (by decide)]; exact p2_1 _ _ _ _
    · have : (mPut (mPut (mPut M 28 t (M0.1 22)) 27 t 1) 30 t ((mPut (mPut M 28 t (M0.1 22)) 27 t 1).2 49 (ix 0))).2 30 t = (mPut (mPut M 28 t (M0.1 22)) 27 t 1).2 49 (ix 0) := p2_1 _ _ _ _
      rw [this, mPut_ne _ _ _ (by decide), mPut_ne _ _ _ (by decide)]
      exact hr.2.1
  have hb := hb _ rfl
  generalize mPut (mPut (mPut M 28 t (M0.1 22)) 27 t 1) 30 t ((mPut (mPut M 28 t (M0.1 22)) 27 t 1).2 49 (ix 0)) = Mb at *
  obtain ⟨b1, b2, b3, b4, b5, b6⟩ := hb
  have hrb : RowM Mb 0 acc := ⟨hr.1, by rw [b2 49 (by decide) (by decide) (by decide)]; exact hr.2.1, hr.2.2.1, fun k hk => by rw [b2 50 (by decide) (by decide) (by decide)]; exact hr.2.2.2 k hk⟩
  have st : ∀ M2 : Md, M2.1 = Mb.1 → (∀ k, k ≠ 29 → M2.2 k = Mb.2 k) → (∀ i, i < acc.length → M2.2 29 (150 * t + i) = acc.getD i 0) → (∀ x, (x < 150 * t ∨ 150 * t + 150 ≤ x) → M2.2 29 x = Mb.2 29 x) → ∃ M', (cal (fX12_setCategories (t : Int) (M2.1 67) (mPut (mPut (mPut (mPut M2 31 t (M2.1 66)) 33 t (M2.1 68)) 34 t (M2.1 69)) 35 t (M2.1 70))) fun (_ : Unit) (M13 : Md) => some ((), M13)) = some ((), M') ∧ RdM M M' t (M0.1 22) acc s ct := by
    intro M2 a1 a2 a3 a4
    obtain ⟨⟨s1, s1'⟩, ⟨s2, s2'⟩, ⟨s3, s3'⟩, ⟨s4, s4'⟩, ⟨s5, s5'⟩⟩ := hs
    have e1 : M2.1 = M.1 := a1.trans b1
    rw [e1, s1, s2, s3, s4, s5]
    have hd : ∀ Md', Md' = mPut (mPut (mPut (mPut M2 31 t (aLk s : Int)) 33 t (aRd s : Int)) 34 t (aCd s : Int)) 35 t (aUs s : Int) → Md'.1 = M.1 ∧ (∀ k, k ≠ 31 → k ≠ 33 → k ≠ 34 → k ≠ 35 → Md'.2 k = M2.2 k) ∧ (∀ u, u ≠ t → Md'.2 31 u = M2.2 31 u ∧ Md'.2 33 u = M2.2 33 u ∧ Md'.2 34 u = M2.2 34 u ∧ Md'.2 35 u = M2.2 35 u) ∧ Md'.2 31 t = (aLk s : Int) ∧ Md'.2 33 t = (aRd s : Int) ∧ Md'.2 34 t = (aCd s : Int) ∧ Md'.2 35 t = (aUs s : Int) := by
      intro Md' e
      subst e
      refine ⟨e1, fun k k1 k2 k3 k4 => ?_, fun u hu => ⟨?_, ?_, ?_, ?_⟩, ?_, ?_, ?_, ?_⟩
      · rw [mPut_ne _ _ _ k4, mPut_ne _ _ _ k3, mPut_ne _ _ _ k2, mPut_ne _ _ _ k1]
      · rw [mPut_ne _ _ _ (by decide), mPut_ne _ _ _ (by decide), mPut_ne _ _ _ (by decide)]; exact p2_2 (k := 31) (k' := 31) _ _ (Or.inr hu)
      · rw [mPut_ne _ _ _ (by decide), mPut_ne _ _ _ (by decide)]; exact (p2_2 (k := 33) (k' := 33) _ _ (Or.inr hu)).trans (by rw [mPut_ne _ _ _ (by decide)])
      · rw [mPut_ne _ _ _ (by decide)]; exact (p2_2 (k := 34) (k' := 34) _ _ (Or.inr hu)).trans (by rw [mPut_ne _ _ _ (by decide), mPut_ne _ _ _ (by decide)])
      · exact (p2_2 (k := 35) (k' := 35) _ _ (Or.inr hu)).trans (by rw [mPut_ne _ _ _ (by decide), mPut_ne _ _ _ (by decide), mPut_ne _ _ _ (by decide)])
      · rw [mPut_ne _ _ _ (by decide), mPut_ne _ _ _ (by decide), mPut_ne _ _ _ (by decide)]; exact p2_1 _ _ _ _
      · rw [mPut_ne _ _ _ (by decide), mPut_ne _ _ _ (by decide)]; exact p2_1 _ _ _ _
      · rw [mPut_ne _ _ _ (by decide)]; exact p2_1 _ _ _ _
      · exact p2_1 _ _ _ _
    have hd := hd _ rfl
    generalize mPut (mPut (mPut (mPut M2 31 t (aLk s : Int)) 33 t (aRd s : Int)) 34 t (aCd s : Int)) 35 t (aUs s : Int) = Mc at *
    obtain ⟨d1, d2, d3, d4, d5, d6, d7⟩ := hd
    have low : ∀ k, (k < 27 ∨ k = 32 ∨ 35 < k) → Mc.2 k = M.2 k := fun k hk => (d2 k (by omega) (by omega) (by omega) (by omega)).trans ((a2 k (by omega)).trans (b2 k (by omega) (by omega) (by omega)))
    obtain ⟨M', q1, ⟨q2, q3, q4, q5⟩, q6, q7, q8⟩ := X12_setCategories_ (M := Mc) ht hct s2' (by rw [low 32 (by decide)]; exact h32)
    have mid : ∀ k, (k = 27 ∨ k = 28 ∨ k = 30) → M'.2 k = Mb.2 k := fun k hk => (q6 k (by omega) (by omega)).trans ((d2 k (by omega) (by omega) (by omega) (by omega)).trans (a2 k (by omega)))
    have m29 : M'.2 29 = M2.2 29 := (q6 29 (by decide) (by decide)).trans (d2 29 (by decide) (by decide) (by decide) (by decide))
    refine ⟨M', by rw [cal_of q1], ⟨fun j hj => (q2 j hj).trans (by rw [d1]), by rw [← d1]; exact q3, by rw [← d1]; exact q4, fun c hc => by rw [← d1, ← low 24 (by decide)]; exact q5 c hc⟩, fun k hk => (q6 k (by omega) (by omega)).trans (low k (by omega)), fun k hk u hu => ?_, fun x hx => ?_, ⟨?_, ?_, ?_, fun i hi => ?_⟩, ?_, q7, ?_, ?_, ?_⟩
    · have hk' : k = 27 ∨ k = 28 ∨ k = 30 ∨ k = 31 ∨ k = 32 ∨ k = 33 ∨ k = 34 ∨ k = 35 := by omega
      have c3 : ∀ k, (31 ≤ k ∧ k ≠ 32 ∧ k ≤ 35) → M2.2 k = M.2 k := fun k hk => (a2 k (by omega)).trans (b2 k (by omega) (by omega) (by omega))
      rcases hk' with e | e | e | e | e | e | e | e <;> subst e
      · rw [mid 27 (by decide)]; exact (b3 u hu).1
      · rw [mid 28 (by decide)]; exact (b3 u hu).2.1
      · rw [mid 30 (by decide)]; exact (b3 u hu).2.2
      · rw [q6 31 (by decide) (by decide), (d3 u hu).1, c3 31 (by decide)]
      · rw [q8 u hu, low 32 (by decide)]
      · rw [q6 33 (by decide) (by decide), (d3 u hu).2.1, c3 33 (by decide)]
      · rw [q6 34 (by decide) (by decide), (d3 u hu).2.2.1, c3 34 (by decide)]
      · rw [q6 35 (by decide) (by decide), (d3 u hu).2.2.2, c3 35 (by decide)]
    · rw [m29, a4 x hx, b2 29 (by decide) (by decide) (by decide)]
    · rw [mid 27 (by decide)]; exact b4
    · rw [mid 28 (by decide)]; exact b5
    · rw [mid 30 (by decide)]; exact b6
    · rw [m29]; exact a3 i hi
    · rw [q6 31 (by decide) (by decide)]; exact d4
    · rw [q6 33 (by decide) (by decide)]; exact d5
    · rw [q6 34 (by decide) (by decide)]; exact d6
    · rw [q6 35 (by decide) (by decide)]; exact d7
  obtain ⟨M2, a1, a2, a3, a4, e⟩ := mcopy_ (M := Mb) (acc := acc) ht hrb (K := fun (M_48 : Md) =>
if inR (t : Int) (mLen 31) then bnd (mPut M_48 31 t (M_48.1 66)) fun (M9 : Md) =>
if inR (t : Int) (mLen 33) then bnd (mPut M9 33 t (M9.1 68)) fun (M10 : Md) =>
if inR (t : Int) (mLen 34) then bnd (mPut M10 34 t (M10.1 69)) fun (M11 : Md) =>
if inR (t : Int) (mLen 35) then bnd (mPut M11 35 t (M11.1 70)) fun (M12 : Md) =>
cal (fX12_setCategories (t : Int) (M12.1 67) M12) fun (r14 : Unit) (M13 : Md) =>
some ((), M13)
else none
else none
else none
else none)
  obtain ⟨M', q, r⟩ := st M2 a1 a2 a3 a4
  refine ⟨M', Eq.trans e ?_, r⟩
  rw [if_pos (i24 rfl), bnd_eq, if_pos (i24 rfl), bnd_eq, if_pos (i24 rfl), bnd_eq, if_pos (i24 rfl), bnd_eq]
  exact q
end MRE
