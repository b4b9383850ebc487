/-! THE REFERENCE GIVES BY A NUMBER -/
section MNU
/-- only what expanding changes is other -/
def ExO (M M' : Md) : Prop := (∀ j, (j < 40 ∨ 73 < j) → M'.1 j = M.1 j) ∧ ∀ k, (k < 41 ∨ 72 < k) → M'.2 k = M.2 k
theorem ExO.rf (M : Md) : ExO M M := ⟨fun _ _ => rfl, fun _ _ => rfl⟩
theorem ExO.tr {M M1 M2 : Md} (h : ExO M M1) (h1 : ExO M1 M2) : ExO M M2 := ⟨fun j a => (h1.1 j a).trans (h.1 j a), fun k a => (h1.2 k a).trans (h.2 k a)⟩
/-- what the reference reads while it expands -/
def EnM (M : Md) (E : Env) : Prop := ∀ M', ExO M M' → (∀ t : Nat, t < 24 → fX12_seenAt (t : Int) M' = some (eSn E t, M')) ∧ (∀ c : Nat, c < 8 → fX12_membersOf (c : Int) M' = some ((eMb E c : Int), M')) ∧ MoM M' E ∧
  ∀ t, t < 24 → eSn E t ≠ -1 → 0 ≤ eSn E t ∧ (eSn E t).toNat < 120 ∧ M'.2 10 (eSn E t).toNat = (eTl E (eSn E t).toNat : Int) ∧ ∀ k, k < eTl E (eSn E t).toNat → M'.2 9 (30 * (eSn E t).toNat + k) = eTx E (eSn E t).toNat k
theorem EnM.step {M M1 : Md} {E : Env} (h : EnM M E) (o : ExO M M1) : EnM M1 E := fun M' o' => h M' (o.tr o')
/-- giving: only this row, the sets, the wanted part, the stack are other -/
def GiO (d : Nat) (M M' : Md) : Prop := (∀ j, (j < 66 ∨ j = 72 ∨ 73 < j) → M'.1 j = M.1 j) ∧ (∀ k, k ≠ 49 → k ≠ 50 → k ≠ 72 → M'.2 k = M.2 k) ∧ (∀ i, i ≠ d → M'.2 49 i = M.2 49 i) ∧ (∀ i, (i < 150 * d ∨ 150 * d + 150 ≤ i) → M'.2 50 i = M.2 50 i)
theorem GiO.rf (d : Nat) (M : Md) : GiO d M M := ⟨fun _ _ => rfl, fun _ _ _ _ => rfl, fun _ _ => rfl, fun _ _ => rfl⟩
theorem GiO.tr {d : Nat} {M M1 M2 : Md} (h : GiO d M M1) (h1 : GiO d M1 M2) : GiO d M M2 :=
  ⟨fun j a => (h1.1 j a).trans (h.1 j a), fun k a b c => (h1.2.1 k a b c).trans (h.2.1 k a b c), fun i a => (h1.2.2.1 i a).trans (h.2.2.1 i a), fun i a => (h1.2.2.2 i a).trans (h.2.2.2 i a)⟩
theorem GiO.set {d j : Nat} {M : Md} {x : Int} (hj : 66 ≤ j ∧ j ≤ 73 ∧ j ≠ 72) : GiO d M (mSet M j x) := ⟨fun i a => mS2 _ _ (by omega), fun _ _ _ _ => rfl, fun _ _ => rfl, fun _ _ => rfl⟩
theorem RoO.gi {d : Nat} {M M' : Md} (h : RoO d M M') : GiO d M M' := ⟨fun j _ => congrFun h.1 j, fun k a b _ => h.2.1 k a b, h.2.2.1, h.2.2.2⟩
theorem RoS.gi {d : Nat} {M M' : Md} (h : RoS d M M') : GiO d M M' := ⟨fun j _ => h.1 j (by omega), fun k a b _ => h.2.1 k a b, h.2.2.1, h.2.2.2⟩
theorem StO.gi {d : Nat} {M M' : Md} (h : StO M M') : GiO d M M' := ⟨fun j _ => h.1 j (by omega), fun k _ _ c => h.2 k c, fun i _ => by rw [h.2 49 (by decide)], fun i _ => by rw [h.2 50 (by decide)]⟩
theorem GiO.ex {d : Nat} {M M' : Md} (h : GiO d M M') : ExO M M' := ⟨fun j a => h.1 j (by omega), fun k a => h.2.1 k (by omega) (by omega) (by omega)⟩
theorem GiO.row {d e : Nat} {M M' : Md} {r : List Int} (h : GiO d M M') (hr : RowM M e r) (hne : e ≠ d) : RowM M' e r :=
  ⟨hr.1, (h.2.2.1 e hne).trans hr.2.1, hr.2.2.1, fun k hk => (h.2.2.2 _ (by have := hr.2.2.1.1; omega)).trans (hr.2.2.2 k hk)⟩
/-- the sets -/
def SeM (M : Md) (s : ASt) : Prop := (M.1 66 = (aLk s : Int) ∧ aLk s < 16777216) ∧ (M.1 67 = (aCt s : Int) ∧ aCt s < 256) ∧ (M.1 68 = (aRd s : Int) ∧ aRd s < 16777216) ∧ (M.1 69 = (aCd s : Int) ∧ aCd s < 256) ∧ (M.1 70 = (aUs s : Int) ∧ aUs s < 16)
theorem SeM.keep {M M' : Md} {s : ASt} (h : SeM M s) (o : ∀ j, 66 ≤ j → j ≤ 70 → M'.1 j = M.1 j) : SeM M' s :=
  ⟨⟨(o 66 (by decide) (by decide)).trans h.1.1, h.1.2⟩, ⟨(o 67 (by decide) (by decide)).trans h.2.1.1, h.2.1.2⟩, ⟨(o 68 (by decide) (by decide)).trans h.2.2.1.1, h.2.2.1.2⟩, ⟨(o 69 (by decide) (by decide)).trans h.2.2.2.1.1, h.2.2.2.1.2⟩, ⟨(o 70 (by decide) (by decide)).trans h.2.2.2.2.1, h.2.2.2.2.2⟩⟩
theorem SeM.mk {M M' : Md} {s : ASt} {l c q d u : Nat} (h : SeM M s) (h1 : M'.1 66 = ((aLk s ||| l : Nat) : Int)) (h2 : M'.1 67 = ((aCt s ||| c : Nat) : Int)) (h3 : M'.1 68 = ((aRd s ||| q : Nat) : Int)) (h4 : M'.1 69 = ((aCd s ||| d : Nat) : Int)) (h5 : M'.1 70 = ((aUs s ||| u : Nat) : Int))
   (l1 : l < 16777216) (c1 : c < 256) (q1 : q < 16777216) (d1 : d < 256) (u1 : u < 16) : SeM M' (uSe s l c q d u) :=
  ⟨⟨h1, Nat.or_lt_two_pow (n := 24) h.1.2 l1⟩, ⟨h2, Nat.or_lt_two_pow (n := 8) h.2.1.2 c1⟩, ⟨h3, Nat.or_lt_two_pow (n := 24) h.2.2.1.2 q1⟩, ⟨h4, Nat.or_lt_two_pow (n := 8) h.2.2.2.1.2 d1⟩, ⟨h5, Nat.or_lt_two_pow (n := 4) h.2.2.2.2.2 u1⟩⟩
theorem orI_0 {a : Nat} (h : a < 2147483648) : orI (a : Int) 0 = (a : Int) := by
  have e := orI_N (a := a) (b := 0) h (by decide)
  rw [Nat.or_zero] at e
  exact e
theorem X12_isTitle_ {x : Int} (M : Md) (hx : I32 x) : BR (fX12_isTitle x M) M (0 ≤ x ∧ x ≤ 23) := by
  unfold fX12_isTitle
  rcases X12_in_ (lo := 0) (hi := 23) M hx (by decide) (by decide) with ⟨e, p⟩ | ⟨e, p⟩
  · rw [cal_of e]; exact Or.inl ⟨rfl, p⟩
  · rw [cal_of e]; exact Or.inr ⟨rfl, p⟩
theorem lsA_0 : ∀ m i acc, lsA 0 m i acc = acc := by
  intro m
  induction m with
  | zero => intro i acc; rfl
  | succ m ih =>
    intro i acc
    rw [lsA, if_neg (by rw [Nat.zero_testBit]; decide)]
    exact ih _ _
/-- the end of what a function gives, where its first part is a number -/
def gvB (E : Env) (s : ASt) (f : Nat) (pl : List Nat) (k : Int) (acc : List Int) (x : Int) : Option (Nat × List Int × ASt) :=
  if k = 3 then (if 0 ≤ x ∧ x < 24 then some (0, apl acc (if eSn E x.toNat = -1 then 0 else 1), uSe s 0 0 (2 ^ x.toNat) 0 0) else some (0, apl acc 0, s))
  else if k = 4 then (if 0 ≤ x ∧ x < 8 then some (0, apl acc (nBits (eMb E x.toNat) 32 : Int), uSe s 0 0 0 (2 ^ x.toNat) 0) else some (0, apl acc 0, s))
  else if k = 5 then (if 0 ≤ x ∧ x < 8 then some (0, lsA (eMb E x.toNat) 24 0 acc, uSe s (eMb E x.toNat) 0 0 (2 ^ x.toNat) 0) else some (0, acc, s))
  else if 0 ≤ x ∧ x < 4 then
    (if mex E x.toNat (argv s f pl) 50 0 [] = -99 then none
     else if mex E x.toNat (argv s f pl) 50 0 [] ≤ -100 then some ((-100 - mex E x.toNat (argv s f pl) 50 0 []).toNat, acc, uSe s 0 0 0 0 (2 ^ x.toNat))
     else some (0, apl acc (mex E x.toNat (argv s f pl) 50 0 []), uSe s 0 0 0 0 (2 ^ x.toNat)))
  else some (0, apl acc 9004, s)
/-- what giving comes to -/
def GvM (M : Md) (row : Nat) (acc : List Int) (pl : List Nat) (X : Option (Unit × Md)) (o : Nat × List Int × ASt) : Prop :=
  ∃ M', X = some ((), M') ∧ GiO row M M' ∧ SeM M' o.2.2 ∧ ((o.1 = 0 ∧ RowM M' row o.2.1 ∧ M'.1 71 = 0) ∨ (o.1 ≠ 0 ∧ o.1 ≤ pl.length ∧ RowM M' row acc ∧ M'.1 71 = (o.1 : Int)))
variable {M : Md} {E : Env} {k f fr row : Nat} {s : ASt} {pl : List Nat} {acc : List Int} {kd x : Int}
theorem giveBy_3 (hk : k < 700) (hH : FnH M k fr row 3) (hr : RowM M row acc) (hSe : SeM M s) (h71 : M.1 71 = 0) (hE : EnM M E) (hx : -1 ≤ x ∧ x < 1000) {o : Nat × List Int × ASt} (ho : gvB E s f pl 3 acc x = some o) :
   GvM M row acc pl (fX12_giveByNumber (k : Int) x M) o := by
  unfold gvB at ho
  rw [if_pos rfl] at ho
  unfold fX12_giveByNumber
  rw [if_pos (in_700 hk rfl), ix_n (by omega), hH.2.2, bnd_eq, if_pos (in_700 hk rfl), hH.1, bnd_eq, bnd_eq, if_neg (fun z => z rfl)]
  rcases X12_isTitle_ (x := x) M ⟨by omega, by omega⟩ with ⟨e, p⟩ | ⟨e, p⟩
  · obtain ⟨n, rfl⟩ : ∃ n : Nat, x = (n : Int) := ⟨x.toNat, by omega⟩
    rw [if_pos (by omega), Int.toNat_natCast] at ho
    rw [cal_of e, bnd_eq, if_neg (by decide)]
    dsimp only
    have s68 : orI (M.1 68) (shlI 1 (n : Int)) = ((aRd s ||| 2 ^ n : Nat) : Int) := by rw [hSe.2.2.1.1]; exact orI_set hSe.2.2.1.2 (by omega)
    have o1 : GiO row M (mSet M 68 ((aRd s ||| 2 ^ n : Nat) : Int)) := GiO.set (by decide)
    have hseen := (hE _ o1.ex).1 n (by omega)
    have hS1 : SeM (mSet M 68 ((aRd s ||| 2 ^ n : Nat) : Int)) (uSe s 0 0 (2 ^ n) 0 0) := hSe.mk (by rw [mS2 _ _ (by decide), Nat.or_zero]; exact hSe.1.1) (by rw [mS2 _ _ (by decide), Nat.or_zero]; exact hSe.2.1.1) (mS1 _ _ _) (by rw [mS2 _ _ (by decide), Nat.or_zero]; exact hSe.2.2.2.1.1) (by rw [mS2 _ _ (by decide), Nat.or_zero]; exact hSe.2.2.2.2.1) (by decide) (by decide) (Nat.pow_lt_pow_right (n := 24) (by decide) (by omega)) (by decide) (by decide)
    rw [s68, bnd_eq, bnd_eq, bnd_eq, if_neg (by decide), cal_of hseen]
    have r1 : RowM (mSet M 68 ((aRd s ||| 2 ^ n : Nat) : Int)) row acc := hr
    by_cases c : eSn E n = -1
    · rw [if_pos c] at ho
      injection ho with ho
      subst ho
      obtain ⟨M2, e2, r2, o2⟩ := X12_append_ (x := 0) r1 (by decide) (by decide)
      rw [if_pos (by rw [c])]
      dsimp only
      rw [cal_of e2]
      exact ⟨M2, rfl, o1.tr o2.gi, hS1.keep (fun j _ _ => congrFun o2.1 j), Or.inl ⟨rfl, r2, by rw [o2.1, mS2 _ _ (by decide)]; exact h71⟩⟩
    · rw [if_neg c] at ho
      injection ho with ho
      subst ho
      obtain ⟨M2, e2, r2, o2⟩ := X12_append_ (x := 1) r1 (by decide) (by decide)
      have hv := (hE _ o1.ex).2.2.2 n (by omega) c
      rw [if_neg (by rw [w32_of (by omega) (by omega), show w32 (-1) = -1 from rfl]; exact c)]
      dsimp only
      rw [cal_of e2]
      exact ⟨M2, rfl, o1.tr o2.gi, hS1.keep (fun j _ _ => congrFun o2.1 j), Or.inl ⟨rfl, r2, by rw [o2.1, mS2 _ _ (by decide)]; exact h71⟩⟩
  · rw [if_neg (by omega)] at ho
    injection ho with ho
    subst ho
    rw [cal_of e, bnd_eq, if_pos (show w32 0 = 0 by decide)]
    dsimp only
    have s68 : mSet M 68 (orI (M.1 68) 0) = M := by
      rw [show orI (M.1 68) 0 = M.1 68 by rw [hSe.2.2.1.1]; exact orI_0 (by have := hSe.2.2.1.2; omega)]
      exact mSet_self M 68
    obtain ⟨M2, e2, r2, o2⟩ := X12_append_ (x := 0) hr (by decide) (by decide)
    rw [s68, bnd_eq, bnd_eq, bnd_eq, if_pos (show w32 0 = 0 by decide)]
    dsimp only
    rw [cal_of e2]
    exact ⟨M2, rfl, o2.gi, hSe.keep (fun j _ _ => congrFun o2.1 j), Or.inl ⟨rfl, r2, by rw [o2.1]; exact h71⟩⟩
theorem giveBy_4 (hk : k < 700) (hH : FnH M k fr row 4) (hr : RowM M row acc) (hSe : SeM M s) (h71 : M.1 71 = 0) (hE : EnM M E) (hMb : ∀ c, c < 8 → eMb E c < 16777216) (hx : -1 ≤ x ∧ x < 1000) {o : Nat × List Int × ASt} (ho : gvB E s f pl 4 acc x = some o) :
   GvM M row acc pl (fX12_giveByNumber (k : Int) x M) o := by
  unfold gvB at ho
  rw [if_neg (by decide), if_pos rfl] at ho
  unfold fX12_giveByNumber
  rw [if_pos (in_700 hk rfl), ix_n (by omega), hH.2.2, bnd_eq, if_pos (in_700 hk rfl), hH.1, bnd_eq, bnd_eq, if_pos (by decide), bnd_eq, if_pos rfl]
  dsimp only
  rcases X12_in_ (x := x) (lo := 0) (hi := 7) M ⟨by omega, by omega⟩ (by decide) (by decide) with ⟨e, p⟩ | ⟨e, p⟩
  · obtain ⟨n, rfl⟩ : ∃ n : Nat, x = (n : Int) := ⟨x.toNat, by omega⟩
    rw [if_pos (by omega), Int.toNat_natCast] at ho
    injection ho with ho
    subst ho
    rw [cal_of e, bnd_eq, if_neg (by decide)]
    dsimp only
    have s69 : orI (M.1 69) (shlI 1 (n : Int)) = ((aCd s ||| 2 ^ n : Nat) : Int) := by rw [hSe.2.2.2.1.1]; exact orI_set (by have := hSe.2.2.2.1.2; omega) (by omega)
    have o1 : GiO row M (mSet M 69 ((aCd s ||| 2 ^ n : Nat) : Int)) := GiO.set (by decide)
    have hmb := (hE _ o1.ex).2.1 n (by omega)
    have hS1 : SeM (mSet M 69 ((aCd s ||| 2 ^ n : Nat) : Int)) (uSe s 0 0 0 (2 ^ n) 0) := hSe.mk (by rw [mS2 _ _ (by decide), Nat.or_zero]; exact hSe.1.1) (by rw [mS2 _ _ (by decide), Nat.or_zero]; exact hSe.2.1.1) (by rw [mS2 _ _ (by decide), Nat.or_zero]; exact hSe.2.2.1.1) (mS1 _ _ _) (by rw [mS2 _ _ (by decide), Nat.or_zero]; exact hSe.2.2.2.2.1) (by decide) (by decide) (by decide) (Nat.pow_lt_pow_right (n := 8) (by decide) (by omega)) (by decide)
    have r1 : RowM (mSet M 69 ((aCd s ||| 2 ^ n : Nat) : Int)) row acc := hr
    have hnb := nBits_rng (eMb E n)
    obtain ⟨M2, e2, r2, o2⟩ := X12_append_ (x := (nBits (eMb E n) 32 : Int)) r1 hnb.1 hnb.2
    rw [s69, bnd_eq, bnd_eq, if_neg (by decide), cal_of hmb]
    dsimp only
    rw [bnd_eq, if_neg (fun z => z rfl), cal_of (X12_countOf_ (hMb n (by omega))), cal_of e2]
    exact ⟨M2, rfl, o1.tr o2.gi, hS1.keep (fun j _ _ => congrFun o2.1 j), Or.inl ⟨rfl, r2, by rw [o2.1, mS2 _ _ (by decide)]; exact h71⟩⟩
  · rw [if_neg (by omega)] at ho
    injection ho with ho
    subst ho
    rw [cal_of e, bnd_eq, if_pos (show w32 0 = 0 by decide)]
    dsimp only
    have s69 : mSet M 69 (orI (M.1 69) 0) = M := by
      rw [show orI (M.1 69) 0 = M.1 69 by rw [hSe.2.2.2.1.1]; exact orI_0 (by have := hSe.2.2.2.1.2; omega)]
      exact mSet_self M 69
    obtain ⟨M2, e2, r2, o2⟩ := X12_append_ (x := 0) hr (by decide) (by decide)
    have hc0 : fX12_countOf 0 M = some (0, M) := by
      have q := X12_countOf_ (M := M) (S := 0) (by decide)
      rw [nBits_0] at q
      exact q
    rw [s69, bnd_eq, bnd_eq, if_pos (show w32 0 = 0 by decide)]
    dsimp only
    rw [bnd_eq, if_neg (fun z => z rfl), cal_of hc0, cal_of e2]
    exact ⟨M2, rfl, o2.gi, hSe.keep (fun j _ _ => congrFun o2.1 j), Or.inl ⟨rfl, r2, by rw [o2.1]; exact h71⟩⟩
theorem giveBy_5 (hk : k < 700) (hH : FnH M k fr row 5) (hr : RowM M row acc) (hSe : SeM M s) (h71 : M.1 71 = 0) (hE : EnM M E) (hMb : ∀ c, c < 8 → eMb E c < 16777216) (hx : -1 ≤ x ∧ x < 1000) {o : Nat × List Int × ASt} (ho : gvB E s f pl 5 acc x = some o) :
   GvM M row acc pl (fX12_giveByNumber (k : Int) x M) o := by
  unfold gvB at ho
  rw [if_neg (by decide), if_neg (by decide), if_pos rfl] at ho
  unfold fX12_giveByNumber
  rw [if_pos (in_700 hk rfl), ix_n (by omega), hH.2.2, bnd_eq, if_pos (in_700 hk rfl), hH.1, bnd_eq, bnd_eq, if_pos (by decide), bnd_eq, if_neg (by decide), if_neg (fun z => z rfl)]
  dsimp only
  rcases X12_in_ (x := x) (lo := 0) (hi := 7) M ⟨by omega, by omega⟩ (by decide) (by decide) with ⟨e, p⟩ | ⟨e, p⟩
  · obtain ⟨n, rfl⟩ : ∃ n : Nat, x = (n : Int) := ⟨x.toNat, by omega⟩
    rw [if_pos (by omega), Int.toNat_natCast] at ho
    injection ho with ho
    subst ho
    rw [cal_of e, bnd_eq, if_neg (by decide)]
    dsimp only
    have s69 : orI (M.1 69) (shlI 1 (n : Int)) = ((aCd s ||| 2 ^ n : Nat) : Int) := by rw [hSe.2.2.2.1.1]; exact orI_set (by have := hSe.2.2.2.1.2; omega) (by omega)
    have o1 : GiO row M (mSet M 69 ((aCd s ||| 2 ^ n : Nat) : Int)) := GiO.set (by decide)
    have hmb := (hE _ o1.ex).2.1 n (by omega)
    have r1 : RowM (mSet M 69 ((aCd s ||| 2 ^ n : Nat) : Int)) row acc := hr
    obtain ⟨M2, e2, r2, h66, o2⟩ := X12_listMembers_ (S := eMb E n) (lk := aLk s) r1 (hMb n (by omega)) ((mS2 _ _ (by decide)).trans hSe.1.1) hSe.1.2
    rw [s69, bnd_eq, bnd_eq, if_neg (by decide), cal_of hmb]
    dsimp only
    rw [bnd_eq, if_pos (by decide), cal_of e2]
    have q := fun j (hj : j ≠ 66) => o2.1 j hj
    exact ⟨M2, rfl, o1.tr o2.gi, hSe.mk h66 (by rw [q 67 (by decide), mS2 _ _ (by decide), Nat.or_zero]; exact hSe.2.1.1) (by rw [q 68 (by decide), mS2 _ _ (by decide), Nat.or_zero]; exact hSe.2.2.1.1) (by rw [q 69 (by decide)]; exact mS1 _ _ _) (by rw [q 70 (by decide), mS2 _ _ (by decide), Nat.or_zero]; exact hSe.2.2.2.2.1) (hMb n (by omega)) (by decide) (by decide) (Nat.pow_lt_pow_right (n := 8) (by decide) (by omega)) (by decide), Or.inl ⟨rfl, r2, by rw [q 71 (by decide), mS2 _ _ (by decide)]; exact h71⟩⟩
  · rw [if_neg (by omega)] at ho
    injection ho with ho
    subst ho
    rw [cal_of e, bnd_eq, if_pos (show w32 0 = 0 by decide)]
    dsimp only
    have s69 : mSet M 69 (orI (M.1 69) 0) = M := by
      rw [show orI (M.1 69) 0 = M.1 69 by rw [hSe.2.2.2.1.1]; exact orI_0 (by have := hSe.2.2.2.1.2; omega)]
      exact mSet_self M 69
    obtain ⟨M2, e2, r2, h66, o2⟩ := X12_listMembers_ (S := 0) (lk := aLk s) hr (by decide) hSe.1.1 hSe.1.2
    rw [lsA_0] at r2
    rw [Nat.or_zero] at h66
    rw [s69, bnd_eq, bnd_eq, if_pos (show w32 0 = 0 by decide)]
    dsimp only
    rw [bnd_eq, if_pos (by decide), show (0 : Int) = ((0 : Nat) : Int) from rfl, cal_of e2]
    refine ⟨M2, rfl, o2.gi, hSe.keep (fun j _ _ => ?_), Or.inl ⟨rfl, r2, by rw [o2.1 71 (by decide)]; exact h71⟩⟩
    by_cases c : j = 66
    · rw [c, h66, hSe.1.1]
    · exact o2.1 j c
theorem giveBy_6 (h : FnS M k s f pl) (hH : FnH M k fr row 6) (hr : RowM M row acc) (hSe : SeM M s) (h71 : M.1 71 = 0) (hE : EnM M E) (hMo : MoP E) (hx : -1 ≤ x ∧ x < 1000) {o : Nat × List Int × ASt} (ho : gvB E s f pl 6 acc x = some o) :
   GvM M row acc pl (fX12_giveByNumber (k : Int) x M) o := by
  have hk := h.1
  unfold gvB at ho
  rw [if_neg (by decide), if_neg (by decide), if_neg (by decide)] at ho
  unfold fX12_giveByNumber
  rw [if_pos (in_700 hk rfl), ix_n (by omega), hH.2.2, bnd_eq, if_pos (in_700 hk rfl), hH.1, bnd_eq, bnd_eq, if_pos (by decide), bnd_eq, if_neg (by decide), if_pos (by decide)]
  rcases X12_in_ (x := x) (lo := 0) (hi := 3) M ⟨by omega, by omega⟩ (by decide) (by decide) with ⟨e, p⟩ | ⟨e, p⟩
  · obtain ⟨n, rfl⟩ : ∃ n : Nat, x = (n : Int) := ⟨x.toNat, by omega⟩
    rw [if_pos (by omega), Int.toNat_natCast] at ho
    rw [cal_of e, bnd_eq, if_neg (by decide)]
    dsimp only
    have s70 : orI (M.1 70) (shlI 1 (n : Int)) = ((aUs s ||| 2 ^ n : Nat) : Int) := by rw [hSe.2.2.2.2.1]; exact orI_set (by have := hSe.2.2.2.2.2; omega) (by omega)
    have o1 : GiO row M (mSet M 70 ((aUs s ||| 2 ^ n : Nat) : Int)) := GiO.set (by decide)
    have hS1 : SeM (mSet M 70 ((aUs s ||| 2 ^ n : Nat) : Int)) (uSe s 0 0 0 0 (2 ^ n)) := hSe.mk (by rw [mS2 _ _ (by decide), Nat.or_zero]; exact hSe.1.1) (by rw [mS2 _ _ (by decide), Nat.or_zero]; exact hSe.2.1.1) (by rw [mS2 _ _ (by decide), Nat.or_zero]; exact hSe.2.2.1.1) (by rw [mS2 _ _ (by decide), Nat.or_zero]; exact hSe.2.2.2.1.1) (mS1 _ _ _) (by decide) (by decide) (by decide) (by decide) (Nat.pow_lt_pow_right (n := 4) (by decide) (by omega))
    have hF1 : FnS (mSet M 70 ((aUs s ||| 2 ^ n : Nat) : Int)) k s f pl := h.st (fun _ _ => rfl) (mS2 _ _ (by decide))
    have h711 : (mSet M 70 ((aUs s ||| 2 ^ n : Nat) : Int)).1 71 = 0 := (mS2 _ _ (by decide)).trans h71
    have r1 : RowM (mSet M 70 ((aUs s ||| 2 ^ n : Nat) : Int)) row acc := hr
    rw [s70, bnd_eq, bnd_eq, if_neg (by decide)]
    by_cases c99 : mex E n (argv s f pl) 50 0 [] = -99
    · rw [if_pos c99] at ho
      cases ho
    · rw [if_neg c99] at ho
      obtain ⟨q1, q2⟩ := X12_moduleResult_ hF1 h711 ((hE _ o1.ex).2.2.1) hMo (j := n) (by omega) c99
      by_cases c : mex E n (argv s f pl) 50 0 [] ≤ -100
      · rw [if_pos c] at ho
        injection ho with ho
        subst ho
        obtain ⟨M2, y, jn, v1, v2, v3, v4⟩ := q2 (by omega)
        have w : M2.1 71 = ((jn + 1 : Nat) : Int) := (v4.1 71 (by decide)).trans (mS1 _ _ _)
        rw [cal_of v3]
        dsimp only
        rw [if_pos (by rw [w, w32_n (by have := h.2.2.1; omega)]; omega)]
        have ee : (-100 - mex E n (argv s f pl) 50 0 []).toNat = jn + 1 := by omega
        exact ⟨M2, rfl, (o1.tr (GiO.set (by decide))).tr v4.gi, hS1.keep (fun j a b => (v4.1 j (by omega)).trans (mS2 _ _ (by omega))), Or.inr ⟨by show (-100 - mex E n (argv s f pl) 50 0 []).toNat ≠ 0; omega, by show (-100 - mex E n (argv s f pl) 50 0 []).toNat ≤ _; omega, r1.st (fun i hi => v4.2 i hi), by rw [w]; show _ = ((-100 - mex E n (argv s f pl) 50 0 []).toNat : Int); rw [ee]⟩⟩
      · rw [if_neg c] at ho
        injection ho with ho
        subst ho
        obtain ⟨M2, v1, v2, v3, v4⟩ := q1 (by omega)
        have w : M2.1 71 = 0 := (v2.1 71 (by decide)).trans h711
        have r2 : RowM M2 row acc := r1.st v2.2
        obtain ⟨M3, e3, r3, o3⟩ := X12_append_ r2 v3 v4
        rw [cal_of v1]
        dsimp only
        rw [if_neg (fun z => z (by rw [w]; rfl)), cal_of e3]
        exact ⟨M3, rfl, (o1.tr v2.gi).tr o3.gi, hS1.keep (fun j a b => (congrFun o3.1 j).trans (v2.1 j (by omega))), Or.inl ⟨rfl, r3, by rw [o3.1]; exact w⟩⟩
  · rw [if_neg (by omega)] at ho
    injection ho with ho
    subst ho
    rw [cal_of e, bnd_eq, if_pos (show w32 0 = 0 by decide)]
    dsimp only
    have s70 : mSet M 70 (orI (M.1 70) 0) = M := by
      rw [show orI (M.1 70) 0 = M.1 70 by rw [hSe.2.2.2.2.1]; exact orI_0 (by have := hSe.2.2.2.2.2; omega)]
      exact mSet_self M 70
    obtain ⟨M2, e2, r2, o2⟩ := X12_append_ (x := 9004) hr (by decide) (by decide)
    rw [s70, bnd_eq, bnd_eq, if_pos (show w32 0 = 0 by decide)]
    dsimp only
    rw [if_neg (fun z => z (by rw [h71]; rfl)), cal_of e2]
    exact ⟨M2, rfl, o2.gi, hSe.keep (fun j _ _ => congrFun o2.1 j), Or.inl ⟨rfl, r2, by rw [o2.1]; exact h71⟩⟩
end MNU
