/-! ROWS FOR LONGS, for the law's rows, for calls over a part of the state -/
theorem r_i2l {ρ S : Type} {l : Launch} {Γ : Cx} {k : Kd} {d : Nat} {enc : ρ → Out} {em : S → St} {pc : Nat} {lo : List (Nat × Value)} {rest : List Value} {σ : S} {X : Option (ρ × S)} {x : Int} (hd : decode k.2.1 pc = .ok (.i2l, 1)) (K : RunO l Γ k d enc em (pc + 1) lo (vl (w32 x) :: rest) σ X) : RunO l Γ k d enc em pc lo (wi x :: rest) σ X :=
  ro_step (fun p e R s m args below meth c H locs cells slots Q ls hm hl kk => lv_i2l hm.1 hm.2.1 hd (Int64.ofInt_int32ToInt _).symm (kk ls hl)) K
theorem r_lconst {ρ S : Type} {l : Launch} {Γ : Cx} {k : Kd} {d : Nat} {enc : ρ → Out} {em : S → St} {pc : Nat} {lo : List (Nat × Value)} {rest : List Value} {σ : S} {X : Option (ρ × S)} {x : Int} {n : Fin 2} (hd : decode k.2.1 pc = .ok (.lconst n, 1)) (hx : Int64.ofNat (n : Nat) = Int64.ofInt x) (K : RunO l Γ k d enc em (pc + 1) lo (vl x :: rest) σ X) : RunO l Γ k d enc em pc lo rest σ X :=
  ro_step (fun p e R s m args below meth c H locs cells slots Q ls hm hl kk => lv_lconst hm.1 hm.2.1 hd hx (kk ls hl)) K
def sto2 (i : Nat) (v : Value) (lo : List (Nat × Value)) : List (Nat × Value) := (i, v) :: lo.filter (fun q => !(q.1 == i) && (!(q.1 == i + 1) && !(q.1 + 1 == i && q.2.category == 2)))
def encJ (x : Int) : Out := .inl (some (vl x))
theorem lcmp_eq (x y : Int) : Int32.ofInt (lcmpI x y) = lg_cmp (Int64.ofInt x) (Int64.ofInt y) := by
  unfold lcmpI lg_cmp w64
  simp only [gt_iff_lt, Int64.lt_iff_toInt_lt, ← Int64.toInt_inj]
  split
  · rfl
  · split <;> rfl
section LONGS
variable {ρ S : Type} {l : Launch} {Γ : Cx} {k : Kd} {d : Nat} {enc : ρ → Out} {em : S → St} {pc : Nat} {lo : List (Nat × Value)} {st rest : List Value} {σ : S} {X : Option (ρ × S)}
theorem r_lload_n {j : Fin 4} {i : Nat} {x : Int} (hd : decode k.2.1 pc = .ok (.lload_n j, 1)) (hi : (j : Nat) = i) (hk : lk lo i = some (vl x)) (K : RunO l Γ k d enc em (pc + 1) lo (vl x :: rest) σ X) : RunO l Γ k d enc em pc lo rest σ X :=
  ro_step (fun p e R s m args below meth c H locs cells slots Q ls hm hl kk => lv_lload_n hm.1 hm.2.1 hd hi (lk_at hl hk) (kk ls hl)) K
theorem r_lload {i : Nat} {x : Int} (hd : decode k.2.1 pc = .ok (.lload i, 2)) (hk : lk lo i = some (vl x)) (K : RunO l Γ k d enc em (pc + 2) lo (vl x :: rest) σ X) : RunO l Γ k d enc em pc lo rest σ X :=
  ro_step (fun p e R s m args below meth c H locs cells slots Q ls hm hl kk => lv_lload hm.1 hm.2.1 hd (lk_at hl hk) (kk ls hl)) K
theorem r_lstore_n {j : Fin 4} {i : Nat} {x : Int} {lo2 : List (Nat × Value)} (hd : decode k.2.1 pc = .ok (.lstore_n j, 1)) (hi : (j : Nat) = i) (hn : i + 1 < k.2.2.1) (hs : sto2 i (vl x) lo = lo2) (K : RunO l Γ k d enc em (pc + 1) lo2 rest σ X) : RunO l Γ k d enc em pc lo (vl x :: rest) σ X :=
  ro_step (fun p e R s m args below meth c H locs cells slots Q ls hm hl kk => lv_lstore_n hm.1 hm.2.1 hd hi hl hn hs kk) K
theorem r_lstore {i : Nat} {x : Int} {lo2 : List (Nat × Value)} (hd : decode k.2.1 pc = .ok (.lstore i, 2)) (hn : i + 1 < k.2.2.1) (hs : sto2 i (vl x) lo = lo2) (K : RunO l Γ k d enc em (pc + 2) lo2 rest σ X) : RunO l Γ k d enc em pc lo (vl x :: rest) σ X :=
  ro_step (fun p e R s m args below meth c H locs cells slots Q ls hm hl kk => lv_lstore hm.1 hm.2.1 hd hl hn hs kk) K
theorem r_ladd {x y : Int} (hd : decode k.2.1 pc = .ok (.ladd, 1)) (K : RunO l Γ k d enc em (pc + 1) lo (vl (x + y) :: rest) σ X) : RunO l Γ k d enc em pc lo (vl y :: vl x :: rest) σ X :=
  ro_step (fun p e R s m args below meth c H locs cells slots Q ls hm hl kk => lv_ladd hm.1 hm.2.1 hd (by have h := kk ls hl; rw [vl, Int64.ofInt_add] at h; exact h)) K
theorem r_lmul {x y : Int} (hd : decode k.2.1 pc = .ok (.lmul, 1)) (K : RunO l Γ k d enc em (pc + 1) lo (vl (x * y) :: rest) σ X) : RunO l Γ k d enc em pc lo (vl y :: vl x :: rest) σ X :=
  ro_step (fun p e R s m args below meth c H locs cells slots Q ls hm hl kk => lv_lmul hm.1 hm.2.1 hd (by have h := kk ls hl; rw [vl, Int64.ofInt_mul] at h; exact h)) K
theorem r_land {x y : Int} (hd : decode k.2.1 pc = .ok (.land, 1)) (K : RunO l Γ k d enc em (pc + 1) lo (vl (landI x y) :: rest) σ X) : RunO l Γ k d enc em pc lo (vl y :: vl x :: rest) σ X :=
  ro_step (fun p e R s m args below meth c H locs cells slots Q ls hm hl kk => lv_land hm.1 hm.2.1 hd (by have h := kk ls hl; rw [vl, landI, Int64.ofInt_toInt] at h; exact h)) K
theorem r_lor {x y : Int} (hd : decode k.2.1 pc = .ok (.lor, 1)) (K : RunO l Γ k d enc em (pc + 1) lo (vl (lorI x y) :: rest) σ X) : RunO l Γ k d enc em pc lo (vl y :: vl x :: rest) σ X :=
  ro_step (fun p e R s m args below meth c H locs cells slots Q ls hm hl kk => lv_lor hm.1 hm.2.1 hd (by have h := kk ls hl; rw [vl, lorI, Int64.ofInt_toInt] at h; exact h)) K
theorem r_lshl {x y : Int} (hd : decode k.2.1 pc = .ok (.lshl, 1)) (K : RunO l Γ k d enc em (pc + 1) lo (vl (lshlI x y) :: rest) σ X) : RunO l Γ k d enc em pc lo (wi y :: vl x :: rest) σ X :=
  ro_step (fun p e R s m args below meth c H locs cells slots Q ls hm hl kk => lv_lshl hm.1 hm.2.1 hd (by unfold lshlI; rw [Int64.ofInt_toInt]) (kk ls hl)) K
theorem r_lshr {x y : Int} (hd : decode k.2.1 pc = .ok (.lshr, 1)) (K : RunO l Γ k d enc em (pc + 1) lo (vl (lshrI x y) :: rest) σ X) : RunO l Γ k d enc em pc lo (wi y :: vl x :: rest) σ X :=
  ro_step (fun p e R s m args below meth c H locs cells slots Q ls hm hl kk => lv_lshr hm.1 hm.2.1 hd (by unfold lshrI; rw [Int64.ofInt_toInt]) (kk ls hl)) K
theorem r_l2i {x : Int} (hd : decode k.2.1 pc = .ok (.l2i, 1)) (K : RunO l Γ k d enc em (pc + 1) lo (wi x :: rest) σ X) : RunO l Γ k d enc em pc lo (vl x :: rest) σ X :=
  ro_step (fun p e R s m args below meth c H locs cells slots Q ls hm hl kk => lv_l2i hm.1 hm.2.1 hd Int64.toInt32_ofInt (kk ls hl)) K
theorem r_lcmp {x y : Int} (hd : decode k.2.1 pc = .ok (.lcmp, 1)) (K : RunO l Γ k d enc em (pc + 1) lo (wi (lcmpI x y) :: rest) σ X) : RunO l Γ k d enc em pc lo (vl y :: vl x :: rest) σ X :=
  ro_step (fun p e R s m args below meth c H locs cells slots Q ls hm hl kk => W.lcmp hm.1 hm.2.1 hd (by have h := kk ls hl; rw [wi, lcmp_eq] at h; exact h)) K
theorem r_ldc2 {v : Int} {i : Nat} (u : Cond.constantLong k.1.cls i (Int64.ofInt v) ∈ uw) (hd : decode k.2.1 pc = .ok (.ldc2_w i, 3)) (K : RunO l Γ k d enc em (pc + 3) lo (vl v :: rest) σ X) : RunO l Γ k d enc em pc lo rest σ X :=
  ro_step (fun p e R s m args below meth c H locs cells slots Q ls hm hl kk => lv_ldc2 hm.1 hm.2.1 hm.2.2.2.2.1 (hm.2.2.2.2.2.1 _ u) hd (kk ls hl)) K
theorem r_nml {x : Int} {f : Int → Option (ρ × S)} (K : ∀ z : Int, RunO l Γ k d enc em pc lo (vl z :: rest) σ (f z)) : RunO l Γ k d enc em pc lo (vl x :: rest) σ (bnd x f) := K x
theorem r_lret {x : Int} (hr : k.2.2.2.1 = some .long) (hd : decode k.2.1 pc = .ok (.lreturn, 1)) : RunO l Γ k d encJ em pc lo [vl x] σ (some (x, σ)) := by
  intro r σ' hX
  cases hX
  refine ⟨Nat.le_refl _, Nat.le_refl _, fun p e R s m args below meth c hm z0 l0 H locs ls a1 a2 a3 a4 hR hS hl => ?_⟩
  exact vx_ret (W.lret hm.1 hm.2.1 (by rw [hm.2.2.1, hr]) (fun t ht hW => ⟨⟨_, rfl, rfl⟩, by rw [ht]; exact hR, va_S.F hS ht⟩) hS.2.2 hd hm.2.2.2.2.2.2.2.1)
/-- a divisor that is tested by the function -/
theorem r_idivT {x y : Int} (hd : decode k.2.1 pc = .ok (.idiv, 1)) (K : RunO l Γ k d enc em (pc + 1) lo (wi (divI x y) :: rest) σ X) : RunO l Γ k d enc em pc lo (wi y :: wi x :: rest) σ (if w32 y = 0 then none else X) := by
  by_cases h : w32 y = 0
  · rw [if_pos h]; exact ro_none
  · rw [if_neg h]
    exact r_idiv hd (fun z => h (w32_eq.mp (show Int32.ofInt y = Int32.ofInt 0 from z))) K
theorem r_iremT {x y : Int} (hd : decode k.2.1 pc = .ok (.irem, 1)) (K : RunO l Γ k d enc em (pc + 1) lo (wi (remI x y) :: rest) σ X) : RunO l Γ k d enc em pc lo (wi y :: wi x :: rest) σ (if w32 y = 0 then none else X) := by
  by_cases h : w32 y = 0
  · rw [if_pos h]; exact ro_none
  · rw [if_neg h]
    exact r_irem hd (fun z => h (w32_eq.mp (show Int32.ofInt y = Int32.ofInt 0 from z))) K
end LONGS
/-! the law's rows in the heap -/
abbrev emU (σ0 : St) : Unit → St := fun _ => σ0
abbrev emW (ad : Nat → Nat) (K0 : Cd) : Rw → St := fun E => ((fun k => (ad k : Int), E), K0)
def adq (ma : Nat → Nat) (q : Nat → Nat) : Nat → Nat := fun k => if k ≤ 10 then ma k else q k
abbrev em3 (ma : Nat → Nat) : S3 → St := fun s => ((fun k => (adq ma s.2.2 k : Int), s.1), s.2.1)
def wIs : List Nat := [0, 1, 2, 4, 5, 6, 8, 9, 10, 11, 12, 13, 14]
def wRow (cy : Nat → ClassId) (A : Md) (k : Nat) : Nat × va_E := ((A.1 k).toNat, if k = 3 ∨ k = 7 then .inl (cy 8, wLen k, .inr (.inl (fun j => Int64.ofInt (A.2 k j)))) else .inl (cy 0, wLen k, .inl (fun j => Int32.ofInt (A.2 k j))))
def wIx (A : Md) : List Nat := (List.range 15).filter (fun k => decide (A.1 k ≠ 0))
def fA (cy : Nat → ClassId) (A : Md) : va_W := (wIx A).map (wRow cy A)
def wOn (Γ : Cx) : Prop := Γ.2.2.2.1 = fA Γ.2.2.1 ∧ 0 < Γ.1
theorem wz_mem {kz : Nat} (h : kz = 10 ∨ kz = 11) : kz ∈ wIs := by rcases h with h | h <;> rw [h] <;> decide
theorem wIs_ok : ∀ k ∈ wIs, k < 15 ∧ ¬ (k = 3 ∨ k = 7) := by decide
theorem adq_hm {ma q : Nat → Nat} (hm : ∀ k, k ≤ 10 → ma k ≠ 0) : ∀ k, k ≤ 10 → adq ma q k ≠ 0 := fun k hk => by unfold adq; rw [if_pos hk]; exact hm k hk
theorem map_at {α β : Type} {L : List α} (hp : L.Pairwise (fun x y => x ≠ y)) {a : α} (ha : a ∈ L) (f : α → β) : ∃ q : Nat, (L.map f)[q]? = some (f a) ∧ ∀ g : α → β, (∀ x, x ∈ L → x ≠ a → g x = f x) → (L.map f).set q (g a) = L.map g := by
  obtain ⟨q, hq⟩ := List.mem_iff_getElem?.mp ha
  refine ⟨q, by rw [List.getElem?_map, hq]; rfl, fun g hg => ?_⟩
  obtain ⟨hq1, hq2⟩ := List.getElem?_eq_some_iff.mp hq
  apply List.ext_getElem?
  intro j
  rw [List.getElem?_set, List.getElem?_map, List.getElem?_map]
  by_cases hj : q = j
  · subst hj
    rw [if_pos rfl, if_pos (by rw [List.length_map]; exact hq1), hq]
    rfl
  · rw [if_neg hj]
    cases hx : L[j]? with
    | none => rfl
    | some x =>
      have hne : x ≠ a := by
        intro e
        subst e
        obtain ⟨hj1, hj2⟩ := List.getElem?_eq_some_iff.mp hx
        rw [List.pairwise_iff_getElem] at hp
        rcases Nat.lt_or_gt_of_ne hj with h | h
        · exact hp q j hq1 hj1 h (hq2.trans hj2.symm)
        · exact hp j q hj1 hq1 h (hj2.trans hq2.symm)
      show some (f x) = some (g x)
      rw [hg x (List.mem_of_getElem? hx) hne]
theorem wIx_pw (A : Md) : (wIx A).Pairwise (fun x y => x ≠ y) := (List.pairwise_lt_range (n := 15)).imp (fun h => Nat.ne_of_lt h) |>.sublist List.filter_sublist
theorem wIx_mem {A : Md} {k : Nat} : k ∈ wIx A ↔ k < 15 ∧ A.1 k ≠ 0 := by
  unfold wIx
  rw [List.mem_filter, List.mem_range]
  simp
theorem ww_at {Γ : Cx} (h : wOn Γ) {kk : Nat} (A : Md) (K0 : Cd) (hk : kk < 15) (hn : A.1 kk ≠ 0) : ∃ q : Nat, (wl Γ (A, K0))[q]? = some (wRow Γ.2.2.1 A kk) ∧ ∀ A' : Md, A'.1 = A.1 → (∀ j, j ≠ kk → A'.2 j = A.2 j) → (wl Γ (A, K0)).set q (wRow Γ.2.2.1 A' kk) = wl Γ (A', K0) := by
  obtain ⟨q, h1, h2⟩ := map_at (wIx_pw A) (wIx_mem.mpr ⟨hk, hn⟩) (wRow Γ.2.2.1 A)
  have hlt : q < ((wIx A).map (wRow Γ.2.2.1 A)).length := (List.getElem?_eq_some_iff.mp h1).1
  refine ⟨q, ?_, fun A' e hM => ?_⟩
  · unfold wl
    rw [h.1]
    show (((wIx A).map (wRow Γ.2.2.1 A)) ++ _)[q]? = _
    rw [List.getElem?_append_left hlt]
    exact h1
  · unfold wl
    rw [h.1]
    show (((wIx A).map (wRow Γ.2.2.1 A)) ++ _).set q _ = ((wIx A').map (wRow Γ.2.2.1 A')) ++ _
    rw [List.set_append_left _ _ hlt, h2 (wRow Γ.2.2.1 A') (fun x _ hx => by unfold wRow; rw [e, hM x hx])]
    have ei : wIx A' = wIx A := by unfold wIx; rw [e]
    rw [ei]
theorem wRow_i {cy : Nat → ClassId} {A : Md} {k : Nat} (h : ¬ (k = 3 ∨ k = 7)) : wRow cy A k = ((A.1 k).toNat, .inl (cy 0, wLen k, .inl (fun j => Int32.ofInt (A.2 k j)))) := by unfold wRow; rw [if_neg h]
theorem wRow_l {cy : Nat → ClassId} {A : Md} {k : Nat} (h : k = 3 ∨ k = 7) : wRow cy A k = ((A.1 k).toNat, .inl (cy 8, wLen k, .inr (.inl (fun j => Int64.ofInt (A.2 k j))))) := by unfold wRow; rw [if_pos h]
section WR
variable {ρ S : Type} {l : Launch} {Γ : Cx} {k : Kd} {d : Nat} {enc : ρ → Out} {em : S → St} {pc : Nat} {lo : List (Nat × Value)} {st rest : List Value} {σ : S} {X : Option (ρ × S)} {A : Md} {K0 : Cd} {kk a : Nat} {i x : Int}
theorem g_iald (he : em σ = (A, K0)) (h : wOn Γ) (hA : kk ∈ wIs) (hn : A.1 kk ≠ 0) (ha : (A.1 kk).toNat = a) (hd : decode k.2.1 pc = .ok (.iaload, 1))
    (K : RunO l Γ k d enc em (pc + 1) lo (wi (A.2 kk (ix i)) :: rest) σ X) : RunO l Γ k d enc em pc lo (wi i :: .ref a :: rest) σ (if inR i (wLen kk) then X else none) := by
  refine ro_if (fun hi => ?_) (fun _ => ro_none)
  obtain ⟨e1, e2⟩ := ix_in hi
  subst ha
  intro r σ' hX
  obtain ⟨h1, h2, h3⟩ := K r σ' hX
  refine ⟨h1, h2, fun p e R s m args below meth c hm z0 l0 H locs ls a1 a2 a3 a4 hR hS hl => ?_⟩
  have hK := hm.2.2.2.2.2.2.2.2.1
  obtain ⟨k1, k2⟩ := wIs_ok kk hA
  obtain ⟨q, hq, -⟩ := ww_at h A K0 k1 hn
  rw [wRow_i k2] at hq
  have hR' := hR
  rw [he] at hR'
  refine va_iald hm.1 hm.2.1 hK hR'.1 q 0 hq rfl e1 hd ?_
  rw [e2]
  exact h3 p e R s m args below meth c hm z0 l0 H locs ls a1 a2 a3 a4 hR hS hl
theorem g_lald (he : em σ = (A, K0)) (h : wOn Γ) (hA : kk = 3 ∨ kk = 7) (hn : A.1 kk ≠ 0) (ha : (A.1 kk).toNat = a) (hd : decode k.2.1 pc = .ok (.laload, 1))
    (K : RunO l Γ k d enc em (pc + 1) lo (vl (A.2 kk (ix i)) :: rest) σ X) : RunO l Γ k d enc em pc lo (wi i :: .ref a :: rest) σ (if inR i (wLen kk) then X else none) := by
  refine ro_if (fun hi => ?_) (fun _ => ro_none)
  obtain ⟨e1, e2⟩ := ix_in hi
  subst ha
  intro r σ' hX
  obtain ⟨h1, h2, h3⟩ := K r σ' hX
  refine ⟨h1, h2, fun p e R s m args below meth c hm z0 l0 H locs ls a1 a2 a3 a4 hR hS hl => ?_⟩
  have hK := hm.2.2.2.2.2.2.2.2.1
  obtain ⟨q, hq, -⟩ := ww_at h A K0 (by omega) hn
  rw [wRow_l hA] at hq
  have hR' := hR
  rw [he] at hR'
  refine va_lald hm.1 hm.2.1 hK hR'.1 q 8 hq rfl e1 hd ?_
  rw [e2]
  exact h3 p e R s m args below meth c hm z0 l0 H locs ls a1 a2 a3 a4 hR hS hl
theorem g_iast {mk : Rw → S} {f : Rw → Option (ρ × S)} (he : em σ = (A, K0)) (hmk : ∀ E, em (mk E) = ((A.1, E), K0)) (h : wOn Γ) (hA : kk ∈ wIs) (hn : A.1 kk ≠ 0) (ha : (A.1 kk).toNat = a) (hd : decode k.2.1 pc = .ok (.iastore, 1))
    (K : ∀ E : Rw, RunO l Γ k d enc em (pc + 1) lo rest (mk E) (f E)) : RunO l Γ k d enc em pc lo (wi x :: wi i :: .ref a :: rest) σ (if inR i (wLen kk) then bnd (wPut A.2 kk (ix i) x) f else none) := by
  refine ro_if (fun hi => ?_) (fun _ => ro_none)
  obtain ⟨e1, e2⟩ := ix_in hi
  subst ha
  intro r σ' hX
  obtain ⟨h1, h2, h3⟩ := K (wPut A.2 kk (ix i) x) r σ' hX
  rw [hmk] at h1 h2 h3
  refine ⟨by rw [he]; exact h1, by rw [he]; exact h2, fun p e R s m args below meth c hm z0 l0 H locs ls a1 a2 a3 a4 hR hS hl => ?_⟩
  have hK := hm.2.2.2.2.2.2.2.2.1
  obtain ⟨k1, k2⟩ := wIs_ok kk hA
  obtain ⟨q, hq, hs⟩ := ww_at h A K0 k1 hn
  rw [wRow_i k2] at hq
  rw [he] at hR a2
  have e5 := hs (A.1, wPut A.2 kk (ix i) x) rfl (fun j hj => by show wPut A.2 kk (ix i) x j = _; unfold wPut; rw [if_neg hj])
  rw [wRow_i k2] at e5
  rw [he]
  refine va_iast hm.1 hm.2.1 hK hR.1 hR.2.1 (H0 := H) (locs := locs) ⟨Nat.le_refl _, fun _ _ _ => rfl, hS.2.2⟩ q 0 hq rfl e1 hd (fun H1 locs1 hP hD hS1 => ?_)
  have e4 : upd (fun j => Int32.ofInt (A.2 kk j)) (Int32.ofInt i).toNatClampNeg (Int32.ofInt x) = fun j => Int32.ofInt ((A.1, wPut A.2 kk (ix i) x).2 kk j) := by
    funext j
    rw [e2]
    unfold upd wPut
    simp only [if_true]
    split <;> rfl
  have e6 : (A.1, wPut A.2 kk (ix i) x).1 kk = A.1 kk := rfl
  rw [e6] at e5
  rw [e4, e5] at hP hD
  exact w_bd (fun hb => h3 p e R s m args below meth c hm z0 l0 H1 locs1 ls a1 a2 a3 a4 ⟨hP, hD, m_sz hR.2.2 a1 hS.1 hS1.1 hb⟩ (vs_tr hS hS1) hl)
theorem g_last {mk : Rw → S} {f : Rw → Option (ρ × S)} (he : em σ = (A, K0)) (hmk : ∀ E, em (mk E) = ((A.1, E), K0)) (h : wOn Γ) (hA : kk = 3 ∨ kk = 7) (hn : A.1 kk ≠ 0) (ha : (A.1 kk).toNat = a) (hd : decode k.2.1 pc = .ok (.lastore, 1))
    (K : ∀ E : Rw, RunO l Γ k d enc em (pc + 1) lo rest (mk E) (f E)) : RunO l Γ k d enc em pc lo (vl x :: wi i :: .ref a :: rest) σ (if inR i (wLen kk) then bnd (wPut A.2 kk (ix i) x) f else none) := by
  refine ro_if (fun hi => ?_) (fun _ => ro_none)
  obtain ⟨e1, e2⟩ := ix_in hi
  subst ha
  intro r σ' hX
  obtain ⟨h1, h2, h3⟩ := K (wPut A.2 kk (ix i) x) r σ' hX
  rw [hmk] at h1 h2 h3
  refine ⟨by rw [he]; exact h1, by rw [he]; exact h2, fun p e R s m args below meth c hm z0 l0 H locs ls a1 a2 a3 a4 hR hS hl => ?_⟩
  have hK := hm.2.2.2.2.2.2.2.2.1
  obtain ⟨q, hq, hs⟩ := ww_at h A K0 (by omega) hn
  rw [wRow_l hA] at hq
  rw [he] at hR a2
  have e5 := hs (A.1, wPut A.2 kk (ix i) x) rfl (fun j hj => by show wPut A.2 kk (ix i) x j = _; unfold wPut; rw [if_neg hj])
  rw [wRow_l hA] at e5
  rw [he]
  refine va_last hm.1 hm.2.1 hK hR.1 hR.2.1 (H0 := H) (locs := locs) ⟨Nat.le_refl _, fun _ _ _ => rfl, hS.2.2⟩ q 8 hq rfl e1 hd (fun H1 locs1 hP hD hS1 => ?_)
  have e4 : vp_updL (fun j => Int64.ofInt (A.2 kk j)) (Int32.ofInt i).toNatClampNeg (Int64.ofInt x) = fun j => Int64.ofInt ((A.1, wPut A.2 kk (ix i) x).2 kk j) := by
    funext j
    rw [e2]
    unfold vp_updL wPut
    simp only [if_true]
    split <;> rfl
  have e6 : (A.1, wPut A.2 kk (ix i) x).1 kk = A.1 kk := rfl
  rw [e6] at e5
  rw [e4, e5] at hP hD
  exact w_bd (fun hb => h3 p e R s m args below meth c hm z0 l0 H1 locs1 ls a1 a2 a3 a4 ⟨hP, hD, m_sz hR.2.2 a1 hS.1 hS1.1 hb⟩ (vs_tr hS hS1) hl)
end WR
theorem nz_c {n : Nat} (h : n ≠ 0) : ((n : Nat) : Int) ≠ 0 := by omega
section WR1
variable {ρ : Type} {l : Launch} {Γ : Cx} {k : Kd} {d : Nat} {enc : ρ → Out} {pc : Nat} {lo : List (Nat × Value)} {st rest : List Value} {ad : Nat → Nat} {K0 : Cd} {E : Rw} {X : Option (ρ × Rw)} {kk : Nat} {i x : Int}
theorem r_wiald (h : wOn Γ) (hA : kk ∈ wIs) (hn : ad kk ≠ 0) (hd : decode k.2.1 pc = .ok (.iaload, 1)) (K : RunO l Γ k d enc (emW ad K0) (pc + 1) lo (wi (E kk (ix i)) :: rest) E X) : RunO l Γ k d enc (emW ad K0) pc lo (wi i :: .ref (ad kk) :: rest) E (if inR i (wLen kk) then X else none) :=
  g_iald (A := (fun k => (ad k : Int), E)) rfl h hA (nz_c hn) rfl hd K
theorem r_wlald (h : wOn Γ) (hA : kk = 3 ∨ kk = 7) (hn : ad kk ≠ 0) (hd : decode k.2.1 pc = .ok (.laload, 1)) (K : RunO l Γ k d enc (emW ad K0) (pc + 1) lo (vl (E kk (ix i)) :: rest) E X) : RunO l Γ k d enc (emW ad K0) pc lo (wi i :: .ref (ad kk) :: rest) E (if inR i (wLen kk) then X else none) :=
  g_lald (A := (fun k => (ad k : Int), E)) rfl h hA (nz_c hn) rfl hd K
theorem r_wiast {f : Rw → Option (ρ × Rw)} (h : wOn Γ) (hA : kk ∈ wIs) (hn : ad kk ≠ 0) (hd : decode k.2.1 pc = .ok (.iastore, 1)) (K : ∀ E : Rw, RunO l Γ k d enc (emW ad K0) (pc + 1) lo rest E (f E)) : RunO l Γ k d enc (emW ad K0) pc lo (wi x :: wi i :: .ref (ad kk) :: rest) E (if inR i (wLen kk) then bnd (wPut E kk (ix i) x) f else none) :=
  g_iast (A := (fun k => (ad k : Int), E)) (mk := fun E => E) rfl (fun _ => rfl) h hA (nz_c hn) rfl hd K
theorem r_wlast {f : Rw → Option (ρ × Rw)} (h : wOn Γ) (hA : kk = 3 ∨ kk = 7) (hn : ad kk ≠ 0) (hd : decode k.2.1 pc = .ok (.lastore, 1)) (K : ∀ E : Rw, RunO l Γ k d enc (emW ad K0) (pc + 1) lo rest E (f E)) : RunO l Γ k d enc (emW ad K0) pc lo (vl x :: wi i :: .ref (ad kk) :: rest) E (if inR i (wLen kk) then bnd (wPut E kk (ix i) x) f else none) :=
  g_last (A := (fun k => (ad k : Int), E)) (mk := fun E => E) rfl (fun _ => rfl) h hA (nz_c hn) rfl hd K
end WR1
section WR3
variable {ρ : Type} {l : Launch} {Γ : Cx} {k : Kd} {d : Nat} {enc : ρ → Out} {pc : Nat} {lo : List (Nat × Value)} {st rest : List Value} {ma : Nat → Nat} {E : Rw} {C : Cd} {q : Nat → Nat} {X : Option (ρ × S3)} {kk v : Nat} {i x : Int}
theorem adq_le (h : kk ≤ 10) : adq ma q kk = ma kk := if_pos h
theorem adq_nz (h : kk ≤ 10) (hn : ma kk ≠ 0) : ((adq ma q kk : Nat) : Int) ≠ 0 := by rw [adq_le h]; omega
theorem adq_ref (h : kk ≤ 10) : ((adq ma q kk : Nat) : Int).toNat = ma kk := by rw [adq_le h]; rfl
theorem r_wiald3 (h : wOn Γ) (hA : kk ∈ wIs) (hle : kk ≤ 10) (hn : ma kk ≠ 0) (hd : decode k.2.1 pc = .ok (.iaload, 1)) (K : RunO l Γ k d enc (em3 ma) (pc + 1) lo (wi (E kk (ix i)) :: rest) (E, C, q) X) : RunO l Γ k d enc (em3 ma) pc lo (wi i :: .ref (ma kk) :: rest) (E, C, q) (if inR i (wLen kk) then X else none) :=
  g_iald (A := (fun k => (adq ma q k : Int), E)) rfl h hA (adq_nz hle hn) (adq_ref hle) hd K
theorem r_wlald3 (h : wOn Γ) (hA : kk = 3 ∨ kk = 7) (hle : kk ≤ 10) (hn : ma kk ≠ 0) (hd : decode k.2.1 pc = .ok (.laload, 1)) (K : RunO l Γ k d enc (em3 ma) (pc + 1) lo (vl (E kk (ix i)) :: rest) (E, C, q) X) : RunO l Γ k d enc (em3 ma) pc lo (wi i :: .ref (ma kk) :: rest) (E, C, q) (if inR i (wLen kk) then X else none) :=
  g_lald (A := (fun k => (adq ma q k : Int), E)) rfl h hA (adq_nz hle hn) (adq_ref hle) hd K
theorem r_wiast3 {f : Rw → Option (ρ × S3)} (h : wOn Γ) (hA : kk ∈ wIs) (hle : kk ≤ 10) (hn : ma kk ≠ 0) (hd : decode k.2.1 pc = .ok (.iastore, 1)) (K : ∀ E : Rw, RunO l Γ k d enc (em3 ma) (pc + 1) lo rest (E, C, q) (f E)) : RunO l Γ k d enc (em3 ma) pc lo (wi x :: wi i :: .ref (ma kk) :: rest) (E, C, q) (if inR i (wLen kk) then bnd (wPut E kk (ix i) x) f else none) :=
  g_iast (A := (fun k => (adq ma q k : Int), E)) (mk := fun E => (E, C, q)) rfl (fun _ => rfl) h hA (adq_nz hle hn) (adq_ref hle) hd K
theorem r_wlast3 {f : Rw → Option (ρ × S3)} (h : wOn Γ) (hA : kk = 3 ∨ kk = 7) (hle : kk ≤ 10) (hn : ma kk ≠ 0) (hd : decode k.2.1 pc = .ok (.lastore, 1)) (K : ∀ E : Rw, RunO l Γ k d enc (em3 ma) (pc + 1) lo rest (E, C, q) (f E)) : RunO l Γ k d enc (em3 ma) pc lo (vl x :: wi i :: .ref (ma kk) :: rest) (E, C, q) (if inR i (wLen kk) then bnd (wPut E kk (ix i) x) f else none) :=
  g_last (A := (fun k => (adq ma q k : Int), E)) (mk := fun E => (E, C, q)) rfl (fun _ => rfl) h hA (adq_nz hle hn) (adq_ref hle) hd K
theorem r_yiald (h : wOn Γ) (hd : decode k.2.1 pc = .ok (.iaload, 1)) (K : RunO l Γ k d enc (em3 ma) (pc + 1) lo (wi (E 11 (ix i)) :: rest) (E, C, q) X) : RunO l Γ k d enc (em3 ma) pc lo (wi i :: .ref v :: rest) (E, C, q) (if (q 11 = v ∧ ¬ q 11 = 0) ∧ inR i (wLen 11) then X else none) := by
  by_cases hq : q 11 = v ∧ ¬ q 11 = 0
  · have e := g_iald (A := (fun k => (adq ma q k : Int), E)) (K0 := C) (a := v) (kk := 11) (em := em3 ma) (σ := (E, C, q)) rfl h (by decide) (show ((q 11 : Nat) : Int) ≠ 0 by omega) (show ((q 11 : Nat) : Int).toNat = v by omega) hd K
    by_cases hi : inR i (wLen 11)
    · rw [if_pos ⟨hq, hi⟩]; rw [if_pos hi] at e; exact e
    · rw [if_neg (fun z => hi z.2)]; exact ro_none
  · rw [if_neg (fun z => hq z.1)]; exact ro_none
theorem r_yiast {f : Rw → Option (ρ × S3)} (h : wOn Γ) (hd : decode k.2.1 pc = .ok (.iastore, 1)) (K : ∀ E : Rw, RunO l Γ k d enc (em3 ma) (pc + 1) lo rest (E, C, q) (f E)) : RunO l Γ k d enc (em3 ma) pc lo (wi x :: wi i :: .ref v :: rest) (E, C, q) (if (q 11 = v ∧ ¬ q 11 = 0) ∧ inR i (wLen 11) then bnd (wPut E 11 (ix i) x) f else none) := by
  by_cases hq : q 11 = v ∧ ¬ q 11 = 0
  · have e := g_iast (A := (fun k => (adq ma q k : Int), E)) (K0 := C) (a := v) (kk := 11) (em := em3 ma) (σ := (E, C, q)) (i := i) (x := x) (mk := fun E => (E, C, q)) rfl (fun _ => rfl) h (by decide) (show ((q 11 : Nat) : Int) ≠ 0 by omega) (show ((q 11 : Nat) : Int).toNat = v by omega) hd K
    by_cases hi : inR i (wLen 11)
    · rw [if_pos ⟨hq, hi⟩]; rw [if_pos hi] at e; exact e
    · rw [if_neg (fun z => hi z.2)]; exact ro_none
  · rw [if_neg (fun z => hq z.1)]; exact ro_none
end WR3
