/-! THE CLASS'S ARGUMENTS, PARTS, WAYS -/
section ARG
variable {b : Nat} {C : Cd} {g : Nat → Int} {n t : Nat}
theorem prs_mem {m p x : Nat} (h : x ∈ prs_ g n m p) : x < n ∧ mkB (g x / 1000) = true := by
  induction m generalizing p with
  | zero => exact absurd h List.not_mem_nil
  | succ m ih =>
    unfold prs_ at h
    by_cases c : p < n ∧ mkB (g p / 1000) = true
    · rw [if_pos c] at h
      rcases List.mem_cons.mp h with e | e
      · rw [e]; exact c
      · exact ih e
    · rw [if_neg c] at h
      exact absurd h List.not_mem_nil
theorem prs_len (m p : Nat) : (prs_ g n m p).length ≤ m := by
  induction m generalizing p with
  | zero => exact Nat.le_refl _
  | succ m ih =>
    unfold prs_
    by_cases c : p < n ∧ mkB (g p / 1000) = true
    · rw [if_pos c]
      exact Nat.succ_le_succ (ih _)
    · rw [if_neg c]; exact Nat.zero_le _
theorem starts_at (hT : Stl C t g n) (hn : n ≤ 30) {p : Nat} (hp : p ≤ n) : fX8_startsPart t (p : Int) C = some (if p < n ∧ mkB (g p / 1000) = true then 1 else 0, C) := by
  by_cases c : p < n
  · rw [hT.1.starts c]
    by_cases c2 : mkB (g p / 1000) = true
    · rw [if_pos c2, if_pos ⟨c, c2⟩]
    · rw [if_neg c2, if_neg (fun z => c2 z.2)]
  · rw [X8_startsPart_out hT.1.1 (Or.inr (by omega)) (by omega) (by omega), if_neg (fun z => c z.1)]
theorem Stl.end_ (hT : Stl C t g n) {p : Nat} (hp : p < n) : fX8_endAt t (p : Int) C = some ((fE g n p : Int), C) := by rw [X8_endAt_in hT.1.1 hp, hT.2 p hp]
def sLp (b q k a : Nat) : Prop := (q = 0 ∧ k = 413 ∧ a = b + 1) ∨ (q = 2 ∧ a = b + 9)
theorem sLp.mu {q k a : Nat} (h : sLp b q k a) : Mu b q k a := by
  rcases h with h | h
  · exact Or.inl h.1
  · exact Or.inr (Or.inr (Or.inl h.1))
theorem X1_listParts_ (hL : Lay b C) (hT : Stl C t g n) (hn : n ≤ 30) (ht9 : t + 1 ≠ b + 9) (ht9' : t + 2 ≠ b + 9) {i : Nat} (hi : i < n) :
   ∃ C', fX1_listParts (b + 1) (some t) (i : Int) C = some ((), C') ∧ Fp (sLp b) C C' ∧ csz C' = csz C ∧ csl C' = csl C ∧ cI C' 413 (b + 1) = ((prs_ g n 30 (i + 1)).length : Int) ∧ ∀ j, j < (prs_ g n 30 (i + 1)).length → cE C' (b + 9) j = ((prs_ g n 30 (i + 1)).getD j 0 : Int) := by
  have f0 : Fp (sLp b) C (cSetI C 413 (b + 1) 0) := (Fp.rf hL.W).sI (Or.inl ⟨rfl, rfl, rfl⟩)
  have hL0 := hL.keep (f0.mono (fun _ _ _ _ z => z.mu))
  have hT0 : Stl (cSetI C 413 (b + 1) 0) t g n := hT.fp hL.W f0 (by unfold sLp; omega) (by unfold sLp; omega) (by unfold sLp; omega) (by unfold sLp; omega) (by unfold sLp; omega)
  unfold fX1_listParts
  rw [if_pos hL.oe, bnd_eq, bnd_eq, bnd_eq]
  refine Exists.elim (lpn_rule (P := fun mm (L : Int → Int → Cd → Option (Unit × Cd)) => ∀ (j p : Nat) (C1 : Cd), j ≤ 30 → p ≤ n → 30 - j < mm → Lay b C1 → Stl C1 t g n → cI C1 413 (b + 1) = (j : Int) → ∃ C', L (p : Int) (j : Int) C1 = some ((), C') ∧ Fp (sLp b) C1 C' ∧ csz C' = csz C1 ∧ csl C' = csl C1 ∧ cI C' 413 (b + 1) = ((j + (prs_ g n (30 - j) p).length : Nat) : Int) ∧ (∀ x, x < j → cE C' (b + 9) x = cE C1 (b + 9) x) ∧ ∀ x, x < (prs_ g n (30 - j) p).length → cE C' (b + 9) (j + x) = ((prs_ g n (30 - j) p).getD x 0 : Int)) (fun j _ _ _ _ h => absurd h (Nat.not_lt_zero _)) (fun mm L hLL j p C1 hj hp hm h1 hT1 h413 => ?_) FU 0 (i + 1) (cSetI C 413 (b + 1) 0) (Nat.zero_le _) (by omega) (by unfold FU; omega) hL0 hT0 (cI_I1 _ _ _ _))
    (fun C' q => ⟨C', q.1, f0.tr q.2.1, q.2.2.1, q.2.2.2.1, by rw [q.2.2.2.2.1, Nat.zero_add], fun x hx => by have h := q.2.2.2.2.2.2 x hx; rw [Nat.zero_add] at h; exact h⟩)
  rw [if_pos h1.oe, bnd_eq, drf_eq h1.x6, if_pos h1.op, bnd_eq, h1.np]
  rcases Nat.lt_or_ge j 30 with hlt | hge
  · rw [if_neg (by rw [w32_n (by omega), w32_n (by omega)]; omega), drf_some, if_pos hT1.1.isO_, cal_of (starts_at hT1 hn hp)]
    have e30 : 30 - j = (30 - (j + 1)) + 1 := by omega
    by_cases c : p < n ∧ mkB (g p / 1000) = true
    · have el : prs_ g n (30 - j) p = p :: prs_ g n (30 - (j + 1)) (fE g n p) := by rw [e30, prs_, if_pos c]
      have f1 : Fp (sLp b) C1 (cSetI (cSetE C1 (b + 9) j (p : Int)) 413 (b + 1) ((j : Int) + 1)) := ((Fp.rf h1.W).sE (Or.inr ⟨rfl, rfl⟩)).sI (Or.inl ⟨rfl, rfl, rfl⟩)
      have h2 := h1.keep (f1.mono (fun _ _ _ _ z => z.mu))
      have hT2 : Stl (cSetI (cSetE C1 (b + 9) j (p : Int)) 413 (b + 1) ((j : Int) + 1)) t g n := hT1.fp h1.W f1 (by unfold sLp; omega) (by unfold sLp; omega) (by unfold sLp; omega) (by unfold sLp; omega) (by unfold sLp; omega)
      obtain ⟨C', e, f, s, l, v1, v2, v3⟩ := hLL (j + 1) (fE g n p) _ hlt (fE_le g c.1) (by omega) h2 hT2 ((cI_I1 _ _ _ _).trans (by omega))
      refine ⟨C', ?_, f1.tr f, s, l, ?_, fun x hx => (v2 x (by omega)).trans (cE_E2 _ _ (Or.inr (by omega))), fun x hx => ?_⟩
      · rw [if_pos c, if_neg (by decide), if_pos h1.oe, bnd_eq, drf_eq h1.x6, if_pos ⟨h1.op, by rw [h1.np]; exact inR_n (by omega) (by omega)⟩, bnd_eq, ix_n (by omega), if_pos (show isO (cSetE C1 (b + 9) j (p : Int)) (b + 1) 4 from h1.oe), if_pos (show isO (cSetE C1 (b + 9) j (p : Int)) (b + 1) 4 from h1.oe), bnd_eq, show cI (cSetE C1 (b + 9) j (p : Int)) 413 (b + 1) = (j : Int) from h413, if_pos hT2.1.isO_, cal_of (hT2.end_ c.1)]
        exact e
      · rw [v1, el]
        show _ = ((j + ((prs_ g n (30 - (j + 1)) (fE g n p)).length + 1) : Nat) : Int)
        omega
      · rw [el]
        cases x with
        | zero =>
          show cE C' (b + 9) j = (p : Int)
          rw [v2 j (by omega)]
          exact cE_E1 _ _ _ _
        | succ x =>
          rw [el] at hx
          have hx' : x + 1 < (prs_ g n (30 - (j + 1)) (fE g n p)).length + 1 := hx
          have h := v3 x (by omega)
          rw [show j + (x + 1) = j + 1 + x by omega, h]
          rfl
    · have el : prs_ g n (30 - j) p = [] := by rw [e30, prs_, if_neg c]
      rw [if_neg c, if_pos (by decide), el]
      exact ⟨C1, rfl, Fp.rf h1.W, rfl, rfl, h413, fun _ _ => rfl, fun x hx => absurd hx (Nat.not_lt_zero _)⟩
  · have e : j = 30 := by omega
    subst e
    rw [if_pos (Int.le_refl _)]
    exact ⟨C1, rfl, Fp.rf h1.W, rfl, rfl, h413, fun _ _ => rfl, fun x hx => absurd hx (Nat.not_lt_zero _)⟩
theorem agF_congr {l : List Nat} : ∀ {c : Nat} {a a' : Nat → Int}, (∀ x, x < 10 → a x = a' x) → ∀ x, x < 10 → agF g l c a x = agF g l c a' x := by
  induction l with
  | nil => intro c a a' h x hx; exact h x hx
  | cons p l ih =>
    intro c a a' h x hx
    unfold agF
    refine ih (fun y hy => ?_) x hx
    by_cases e : y = (if g p / 1000 = 5 then c + 1 else (g p % 1000).toNat)
    · rw [if_pos e, if_pos e]
    · rw [if_neg e, if_neg e]; exact h y hy
theorem X2_takeArguments_ (hL : Lay b C) {f : Nat} (hf : f < 41) (hT : Stl C t g n) (hn : n ≤ 30) (ht1 : t + 1 ≠ b + 169 + 4 * f + 1) (ht2 : t + 2 ≠ b + 169 + 4 * f + 1) {i : Nat} (hi : i < n) :
   ∃ C', fX2_takeArguments (b + 169 + 4 * f) (some t) (i : Int) C = some ((), C') ∧ Fp (fun q k a => q = 2 ∧ a = b + 169 + 4 * f + 1) C C' ∧ csz C' = csz C ∧ csl C' = csl C ∧ ∀ x, x < 10 → cE C' (b + 169 + 4 * f + 1) x = agF g (prs_ g n 30 (i + 1)) 0 (fun y => cE C (b + 169 + 4 * f + 1) y) x := by
  unfold fX2_takeArguments
  rw [bnd_eq, bnd_eq]
  refine Exists.elim (lpn_rule (P := fun mm (L : Int → Int → Int → Cd → Option (Unit × Cd)) => ∀ (c j p : Nat) (C1 : Cd), j ≤ 30 → c ≤ j → p ≤ n → 30 - j < mm → Lay b C1 → Stl C1 t g n → ∃ C', L (c : Int) (p : Int) (j : Int) C1 = some ((), C') ∧ Fp (fun q k a => q = 2 ∧ a = b + 169 + 4 * f + 1) C1 C' ∧ csz C' = csz C1 ∧ csl C' = csl C1 ∧ ∀ x, x < 10 → cE C' (b + 169 + 4 * f + 1) x = agF g (prs_ g n (30 - j) p) c (fun y => cE C1 (b + 169 + 4 * f + 1) y) x) (fun c j _ _ _ _ _ h => absurd h (Nat.not_lt_zero _)) (fun mm L hLL c j p C1 hj hcj hp hm h1 hT1 => ?_) FU 0 0 (i + 1) C (Nat.zero_le _) (Nat.le_refl _) (by omega) (by unfold FU; omega) hL hT) (fun C' q => ⟨C', q⟩)
  rw [bnd_eq]
  rcases Nat.lt_or_ge j 30 with hlt | hge
  · rw [if_neg (by rw [w32_n (by omega), show w32 30 = 30 from rfl]; omega), drf_some, if_pos hT1.1.isO_, cal_of (starts_at hT1 hn hp)]
    have e30 : 30 - j = (30 - (j + 1)) + 1 := by omega
    by_cases cc : p < n ∧ mkB (g p / 1000) = true
    · have el : prs_ g n (30 - j) p = p :: prs_ g n (30 - (j + 1)) (fE g n p) := by rw [e30, prs_, if_pos cc]
      have ht := hT1.1.tks p cc.1
      rw [if_pos cc, if_neg (by decide), if_pos hT1.1.isO_, cal_of (hT1.1.value cc.1), if_pos hT1.1.isO_, cal_of (hT1.1.kind cc.1), bnd_eq, el]
      -- what is done with the name
      have key : ∀ (c2 nm : Nat) (C2 : Cd), c2 ≤ j + 1 → c2 = (if g p / 1000 = 5 then c + 1 else c) → nm = (if g p / 1000 = 5 then c + 1 else (g p % 1000).toNat) → nm < 1000 → C2 = C1 →
        ∃ C', (bnd (fun  (C_74 : Cd) =>
if isO C_74 t 11 then cal (fX8_endAt t (p : Int) C_74) fun (r9 : Int) (C8 : Cd) =>
L (c2 : Int) r9 ((j : Int) + 1) C8
else none) fun J74 =>
if w32 (nm : Int) < 0 then
J74 C2
else
if isO C2 (b + 169 + 4 * f) 5 then bnd (cR C2 500 (b + 169 + 4 * f)) fun (z10 : Option Nat) =>
drf z10 fun (p11 : Nat) =>
if isO C2 p11 100 then
if w32 (cn C2 p11 : Int) ≤ w32 (nm : Int) then
J74 C2
else
if isO C2 (b + 169 + 4 * f) 5 then bnd (cR C2 500 (b + 169 + 4 * f)) fun (z12 : Option Nat) =>
drf z12 fun (p13 : Nat) =>
if isO C2 p13 100 ∧ inR (nm : Int) (cn C2 p13) then bnd (cSetE C2 p13 (ix (nm : Int)) (p : Int)) fun (C14 : Cd) =>
J74 C14
else none
else none
else none
else none) = some ((), C') ∧ Fp (fun q k a => q = 2 ∧ a = b + 169 + 4 * f + 1) C1 C' ∧ csz C' = csz C1 ∧ csl C' = csl C1 ∧ ∀ x, x < 10 → cE C' (b + 169 + 4 * f + 1) x = agF g (p :: prs_ g n (30 - (j + 1)) (fE g n p)) c (fun y => cE C1 (b + 169 + 4 * f + 1) y) x := by
        intro c2 nm C2 hc2 ec en hnm e12
        subst e12
        rw [bnd_eq, if_neg (by rw [w32_n (by omega)]; omega), if_pos (h1.fo hf), bnd_eq, drf_eq (h1.fa hf), if_pos (h1.fao hf), h1.fan hf]
        have tail : ∀ C3 : Cd, Lay b C3 → Stl C3 t g n → Fp (fun q k a => q = 2 ∧ a = b + 169 + 4 * f + 1) C2 C3 → csz C3 = csz C2 → csl C3 = csl C2 → (∀ x, x < 10 → cE C3 (b + 169 + 4 * f + 1) x = if x = nm then (p : Int) else cE C2 (b + 169 + 4 * f + 1) x) →
           ∃ C', (if isO C3 t 11 then cal (fX8_endAt t (p : Int) C3) fun (r9 : Int) (C8 : Cd) =>
L (c2 : Int) r9 ((j : Int) + 1) C8
else none) = some ((), C') ∧ Fp (fun q k a => q = 2 ∧ a = b + 169 + 4 * f + 1) C2 C' ∧ csz C' = csz C2 ∧ csl C' = csl C2 ∧ ∀ x, x < 10 → cE C' (b + 169 + 4 * f + 1) x = agF g (p :: prs_ g n (30 - (j + 1)) (fE g n p)) c (fun y => cE C2 (b + 169 + 4 * f + 1) y) x := by
          intro C3 h3 hT3 f3 s3 l3 v3
          obtain ⟨C', e, f4, s4, l4, v4⟩ := hLL c2 (j + 1) (fE g n p) C3 hlt hc2 (fE_le g cc.1) (by omega) h3 hT3
          refine ⟨C', ?_, f3.tr f4, s4.trans s3, l4.trans l3, fun x hx => ?_⟩
          · rw [if_pos hT3.1.isO_, cal_of (hT3.end_ cc.1)]
            exact e
          · rw [v4 x hx, agF, ← ec, ← en]
            exact agF_congr v3 x hx
        by_cases c10 : nm < 10
        · have f3 : Fp (fun q k a => q = 2 ∧ a = b + 169 + 4 * f + 1) C2 (cSetE C2 (b + 169 + 4 * f + 1) nm (p : Int)) := (Fp.rf h1.W).sE ⟨rfl, rfl⟩
          rw [if_neg (by rw [w32_n (by omega), w32_n (by omega)]; omega), if_pos (h1.fo hf), bnd_eq, drf_eq (h1.fa hf), if_pos ⟨h1.fao hf, by rw [h1.fan hf]; exact inR_n c10 (by omega)⟩, bnd_eq, ix_n (by omega)]
          refine tail _ (h1.keep (f3.mono (fun _ _ _ _ z => Or.inr (Or.inr (Or.inl z.1))))) (hT1.fp h1.W f3 (by omega) (by omega) (by omega) (by omega) (by omega)) f3 rfl rfl (fun x hx => ?_)
          by_cases e : x = nm
          · subst e; rw [if_pos rfl]; exact cE_E1 _ _ _ _
          · rw [if_neg e]; exact cE_E2 _ _ (Or.inr e)
        · rw [if_pos (by rw [w32_n (by omega), w32_n (by omega)]; omega)]
          exact tail C2 h1 hT1 (Fp.rf h1.W) rfl rfl (fun x hx => by rw [if_neg (by omega)])
      by_cases c5 : g p / 1000 = 5
      · rw [if_neg (fun z => z (by rw [c5])), bnd_eq]
        have h := key (c + 1) (c + 1) C1 (by omega) (by rw [if_pos c5]) (by rw [if_pos c5]) (by omega) rfl
        exact h
      · rw [if_pos (fun z => c5 (by rw [w32_of (by omega) (by omega)] at z; exact z))]
        have h := key c (g p % 1000).toNat C1 (by omega) (by rw [if_neg c5]) (by rw [if_neg c5]) (by omega) rfl
        rw [show (((g p % 1000).toNat : Nat) : Int) = g p % 1000 by omega] at h
        exact h
    · have el : prs_ g n (30 - j) p = [] := by rw [e30, prs_, if_neg cc]
      rw [if_neg cc, if_pos (by decide), el]
      exact ⟨C1, rfl, Fp.rf h1.W, rfl, rfl, fun x hx => rfl⟩
  · have e : j = 30 := by omega
    subst e
    rw [if_pos (show w32 30 ≤ w32 ((30 : Nat) : Int) from Int.le_refl _)]
    exact ⟨C1, rfl, Fp.rf h1.W, rfl, rfl, fun x hx => rfl⟩
end ARG
