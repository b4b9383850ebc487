/-! ROWS: an instruction, a row -/
def bnd {α β : Type} (a : α) (f : α → β) : β := f a
def cal {ρ2 ρ S : Type} (X2 : Option (ρ2 × S)) (f : ρ2 → S → Option (ρ × S)) : Option (ρ × S) := X2.bind (fun q => f q.1 q.2)
/-- a loop, as often as n at most -/
def lpn {α : Type} (z : α) (body : α → α) : Nat → α
  | 0 => z
  | n + 1 => body (lpn z body n)
def FU : Nat := 1000000
def lk (lo : List (Nat × Value)) (i : Nat) : Option Value := (lo.find? (fun q => q.1 == i)).map (fun q => q.2)
theorem lk_at {ls : Array Slot} {n : Nat} {lo : List (Nat × Value)} (h : lv_has ls n lo) {i : Nat} {v : Value} (hl : lk lo i = some v) : ls[i]? = some (.val v) := by
  unfold lk at hl
  obtain ⟨q, h1, h2⟩ := Option.map_eq_some_iff.mp hl
  have h3 := h.2.2 q (List.mem_of_find?_eq_some h1)
  have h4 := List.find?_some h1
  simp only [beq_iff_eq] at h4
  rw [h4, h2] at h3
  exact h3
def sto (i : Nat) (v : Value) (lo : List (Nat × Value)) : List (Nat × Value) := (i, v) :: lo.filter (fun q => !(q.1 == i) && !(q.1 + 1 == i && q.2.category == 2))
def encI (x : Int) : Out := .inl (some (wi x))
def encV (_ : Unit) : Out := .inl none
def retZ {S : Type} (x : Int) (σ : S) : Option (Int × S) := if w32 x = 0 ∨ w32 x = 1 then some (x, σ) else none
section PURE
variable {ρ S : Type} {l : Launch} {Γ : Cx} {k : Kd} {d : Nat} {enc : ρ → Out} {em : S → St} {pc : Nat} {lo : List (Nat × Value)} {st rest : List Value} {σ : S} {X X1 X2 : Option (ρ × S)}
theorem r_bipush {i v : Int} (hd : decode k.2.1 pc = .ok (.bipush i, 2)) (hv : (Int8.ofInt i).toInt32 = Int32.ofInt v) (K : RunO l Γ k d enc em (pc + 2) lo (wi v :: rest) σ X) : RunO l Γ k d enc em pc lo (rest) σ X := by
  exact ro_step (fun p e R s m args below meth c H locs cells slots Q ls hm hl kk => lv_bipush hm.1 hm.2.1 hd hv (kk ls hl)) K
theorem r_sipush {i v : Int} (hd : decode k.2.1 pc = .ok (.sipush i, 3)) (hv : (Int16.ofInt i).toInt32 = Int32.ofInt v) (K : RunO l Γ k d enc em (pc + 3) lo (wi v :: rest) σ X) : RunO l Γ k d enc em pc lo (rest) σ X := by
  exact ro_step (fun p e R s m args below meth c H locs cells slots Q ls hm hl kk => lv_sipush hm.1 hm.2.1 hd hv (kk ls hl)) K
theorem r_iload_n {j : Fin 4} {i : Nat} {x : Int} (hd : decode k.2.1 pc = .ok (.iload_n j, 1)) (hi : (j : Nat) = i) (hk : lk lo i = some (wi x)) (K : RunO l Γ k d enc em (pc + 1) lo (wi x :: rest) σ X) : RunO l Γ k d enc em pc lo (rest) σ X := by
  exact ro_step (fun p e R s m args below meth c H locs cells slots Q ls hm hl kk => lv_iload_n hm.1 hm.2.1 hd hi (lk_at hl hk) (kk ls hl)) K
theorem r_iload {i : Nat} {x : Int} (hd : decode k.2.1 pc = .ok (.iload i, 2)) (hk : lk lo i = some (wi x)) (K : RunO l Γ k d enc em (pc + 2) lo (wi x :: rest) σ X) : RunO l Γ k d enc em pc lo (rest) σ X := by
  exact ro_step (fun p e R s m args below meth c H locs cells slots Q ls hm hl kk => lv_iload hm.1 hm.2.1 hd (lk_at hl hk) (kk ls hl)) K
theorem r_aload_n {j : Fin 4} {i x : Nat} (hd : decode k.2.1 pc = .ok (.aload_n j, 1)) (hi : (j : Nat) = i) (hk : lk lo i = some (.ref x)) (K : RunO l Γ k d enc em (pc + 1) lo (.ref x :: rest) σ X) : RunO l Γ k d enc em pc lo (rest) σ X := by
  exact ro_step (fun p e R s m args below meth c H locs cells slots Q ls hm hl kk => lv_aload_n hm.1 hm.2.1 hd hi (lk_at hl hk) (kk ls hl)) K
theorem r_aload {i x : Nat} (hd : decode k.2.1 pc = .ok (.aload i, 2)) (hk : lk lo i = some (.ref x)) (K : RunO l Γ k d enc em (pc + 2) lo (.ref x :: rest) σ X) : RunO l Γ k d enc em pc lo (rest) σ X := by
  exact ro_step (fun p e R s m args below meth c H locs cells slots Q ls hm hl kk => lv_aload hm.1 hm.2.1 hd (lk_at hl hk) (kk ls hl)) K
theorem r_istore_n {j : Fin 4} {i : Nat} {x : Int} {lo2 : List (Nat × Value)} (hd : decode k.2.1 pc = .ok (.istore_n j, 1)) (hi : (j : Nat) = i) (hn : i < k.2.2.1) (hs : sto i (wi x) lo = lo2) (K : RunO l Γ k d enc em (pc + 1) lo2 (rest) σ X) : RunO l Γ k d enc em pc lo (wi x :: rest) σ X := by
  exact ro_step (fun p e R s m args below meth c H locs cells slots Q ls hm hl kk => lv_istore_n hm.1 hm.2.1 hd hi hl hn hs kk) K
theorem r_istore {i : Nat} {x : Int} {lo2 : List (Nat × Value)} (hd : decode k.2.1 pc = .ok (.istore i, 2)) (hn : i < k.2.2.1) (hs : sto i (wi x) lo = lo2) (K : RunO l Γ k d enc em (pc + 2) lo2 (rest) σ X) : RunO l Γ k d enc em pc lo (wi x :: rest) σ X := by
  exact ro_step (fun p e R s m args below meth c H locs cells slots Q ls hm hl kk => lv_istore hm.1 hm.2.1 hd hl hn hs kk) K
theorem r_astore_n {j : Fin 4} {i x : Nat} {lo2 : List (Nat × Value)} (hd : decode k.2.1 pc = .ok (.astore_n j, 1)) (hi : (j : Nat) = i) (hn : i < k.2.2.1) (hs : sto i (.ref x) lo = lo2) (K : RunO l Γ k d enc em (pc + 1) lo2 (rest) σ X) : RunO l Γ k d enc em pc lo (.ref x :: rest) σ X := by
  exact ro_step (fun p e R s m args below meth c H locs cells slots Q ls hm hl kk => lv_astore_n hm.1 hm.2.1 hd hi hl hn hs kk) K
theorem r_astore {i x : Nat} {lo2 : List (Nat × Value)} (hd : decode k.2.1 pc = .ok (.astore i, 2)) (hn : i < k.2.2.1) (hs : sto i (.ref x) lo = lo2) (K : RunO l Γ k d enc em (pc + 2) lo2 (rest) σ X) : RunO l Γ k d enc em pc lo (.ref x :: rest) σ X := by
  exact ro_step (fun p e R s m args below meth c H locs cells slots Q ls hm hl kk => lv_astore hm.1 hm.2.1 hd hl hn hs kk) K
theorem lk_place {lo : List (Nat × Value)} {i : Nat} {v : Value} (h : lk lo i = some v) : ∃ j : Nat, lo[j]? = some (i, v) := by
  unfold lk at h
  obtain ⟨q, h1, h2⟩ := Option.map_eq_some_iff.mp h
  have h4 := List.find?_some h1
  simp only [beq_iff_eq] at h4
  obtain ⟨j, hj⟩ := List.mem_iff_getElem?.mp (List.mem_of_find?_eq_some h1)
  refine ⟨j, ?_⟩
  rw [hj]
  obtain ⟨a, b⟩ := q
  cases h4; cases h2; rfl
theorem r_iinc {i : Nat} {x n : Int} {lo2 : List (Nat × Value)} (hd : decode k.2.1 pc = .ok (.iinc i n, 3)) (hk : lk lo i = some (wi x)) (hn : i < k.2.2.1) (hs : sto i (wi (x + n)) lo = lo2) (K : RunO l Γ k d enc em (pc + 3) lo2 rest σ X) : RunO l Γ k d enc em pc lo rest σ X := by
  obtain ⟨j, hj⟩ := lk_place hk
  exact ro_step (fun p e R s m args below meth c H locs cells slots Q ls hm hl kk => lv_iinc (v := Int32.ofInt (x + n)) hm.1 hm.2.1 hd hl hj (by rw [Int32.ofInt_add]) hn hs kk) K
theorem r_iadd {x y : Int} (hd : decode k.2.1 pc = .ok (.iadd, 1)) (K : RunO l Γ k d enc em (pc + 1) lo (wi (x + y) :: rest) σ X) : RunO l Γ k d enc em pc lo (wi y :: wi x :: rest) σ X := by
  exact ro_step (fun p e R s m args below meth c H locs cells slots Q ls hm hl kk => lv_iadd hm.1 hm.2.1 hd (by have h := kk ls hl; rw [wi, Int32.ofInt_add] at h; exact h)) K
theorem r_isub {x y : Int} (hd : decode k.2.1 pc = .ok (.isub, 1)) (K : RunO l Γ k d enc em (pc + 1) lo (wi (x - y) :: rest) σ X) : RunO l Γ k d enc em pc lo (wi y :: wi x :: rest) σ X := by
  exact ro_step (fun p e R s m args below meth c H locs cells slots Q ls hm hl kk => lv_isub hm.1 hm.2.1 hd (by have h := kk ls hl; rw [wi, Int32.ofInt_sub] at h; exact h)) K
theorem r_imul {x y : Int} (hd : decode k.2.1 pc = .ok (.imul, 1)) (K : RunO l Γ k d enc em (pc + 1) lo (wi (x * y) :: rest) σ X) : RunO l Γ k d enc em pc lo (wi y :: wi x :: rest) σ X := by
  exact ro_step (fun p e R s m args below meth c H locs cells slots Q ls hm hl kk => lv_imul hm.1 hm.2.1 hd (by have h := kk ls hl; rw [wi, Int32.ofInt_mul] at h; exact h)) K
theorem r_iand {x y : Int} (hd : decode k.2.1 pc = .ok (.iand, 1)) (K : RunO l Γ k d enc em (pc + 1) lo (wi (andI x y) :: rest) σ X) : RunO l Γ k d enc em pc lo (wi y :: wi x :: rest) σ X := by
  exact ro_step (fun p e R s m args below meth c H locs cells slots Q ls hm hl kk => lv_iand hm.1 hm.2.1 hd (by have h := kk ls hl; rw [wi, andI, Int32.ofInt_toInt] at h; exact h)) K
theorem r_ior {x y : Int} (hd : decode k.2.1 pc = .ok (.ior, 1)) (K : RunO l Γ k d enc em (pc + 1) lo (wi (orI x y) :: rest) σ X) : RunO l Γ k d enc em pc lo (wi y :: wi x :: rest) σ X := by
  exact ro_step (fun p e R s m args below meth c H locs cells slots Q ls hm hl kk => lv_ior hm.1 hm.2.1 hd (by have h := kk ls hl; rw [wi, orI, Int32.ofInt_toInt] at h; exact h)) K
theorem r_ixor {x y : Int} (hd : decode k.2.1 pc = .ok (.ixor, 1)) (K : RunO l Γ k d enc em (pc + 1) lo (wi (xorI x y) :: rest) σ X) : RunO l Γ k d enc em pc lo (wi y :: wi x :: rest) σ X := by
  exact ro_step (fun p e R s m args below meth c H locs cells slots Q ls hm hl kk => lv_ixor hm.1 hm.2.1 hd (by have h := kk ls hl; rw [wi, xorI, Int32.ofInt_toInt] at h; exact h)) K
theorem r_ishl {x y : Int} (hd : decode k.2.1 pc = .ok (.ishl, 1)) (K : RunO l Γ k d enc em (pc + 1) lo (wi (shlI x y) :: rest) σ X) : RunO l Γ k d enc em pc lo (wi y :: wi x :: rest) σ X := by
  exact ro_step (fun p e R s m args below meth c H locs cells slots Q ls hm hl kk => lv_ishl hm.1 hm.2.1 hd (by have h := kk ls hl; rw [wi, shlI, Int32.ofInt_toInt] at h; exact h)) K
theorem r_ishr {x y : Int} (hd : decode k.2.1 pc = .ok (.ishr, 1)) (K : RunO l Γ k d enc em (pc + 1) lo (wi (shrI x y) :: rest) σ X) : RunO l Γ k d enc em pc lo (wi y :: wi x :: rest) σ X := by
  exact ro_step (fun p e R s m args below meth c H locs cells slots Q ls hm hl kk => lv_ishr hm.1 hm.2.1 hd (by have h := kk ls hl; rw [wi, shrI, Int32.ofInt_toInt] at h; exact h)) K
theorem r_idiv {x y : Int} (hd : decode k.2.1 pc = .ok (.idiv, 1)) (hne : ¬ Int32.ofInt y = 0) (K : RunO l Γ k d enc em (pc + 1) lo (wi (divI x y) :: rest) σ X) : RunO l Γ k d enc em pc lo (wi y :: wi x :: rest) σ X := by
  exact ro_step (fun p e R s m args below meth c H locs cells slots Q ls hm hl kk => lv_idiv hm.1 hm.2.1 hd hne (by have h := kk ls hl; rw [wi, divI, Int32.ofInt_toInt] at h; exact h)) K
theorem r_irem {x y : Int} (hd : decode k.2.1 pc = .ok (.irem, 1)) (hne : ¬ Int32.ofInt y = 0) (K : RunO l Γ k d enc em (pc + 1) lo (wi (remI x y) :: rest) σ X) : RunO l Γ k d enc em pc lo (wi y :: wi x :: rest) σ X := by
  exact ro_step (fun p e R s m args below meth c H locs cells slots Q ls hm hl kk => lv_irem hm.1 hm.2.1 hd hne (by have h := kk ls hl; rw [wi, remI, Int32.ofInt_toInt] at h; exact h)) K
theorem r_goto {off : Int} {tgt : Nat} (hd : decode k.2.1 pc = .ok (.goto off, 3)) (ht : (pc : Int) + off = (tgt : Int)) (K : RunO l Γ k d enc em tgt lo rest σ X) : RunO l Γ k d enc em pc lo rest σ X :=
  ro_step (fun p e R s m args below meth c H locs cells slots Q ls hm hl kk => lv_goto hm.1 hm.2.1 hd ht (kk ls hl)) K
theorem r_dup {v : Value} (hd : decode k.2.1 pc = .ok (.dup, 1)) (hv : v.category = 1) (K : RunO l Γ k d enc em (pc + 1) lo (v :: v :: rest) σ X) : RunO l Γ k d enc em pc lo (v :: rest) σ X :=
  ro_step (fun p e R s m args below meth c H locs cells slots Q ls hm hl kk => lv_dup hm.1 hm.2.1 hd hv (kk ls hl)) K
theorem r_dup2 {v w : Value} (hd : decode k.2.1 pc = .ok (.dup2, 1)) (hv : v.category = 1) (hw : w.category = 1) (K : RunO l Γ k d enc em (pc + 1) lo (v :: w :: v :: w :: rest) σ X) : RunO l Γ k d enc em pc lo (v :: w :: rest) σ X :=
  ro_step (fun p e R s m args below meth c H locs cells slots Q ls hm hl kk => lv_dup2_11 hm.1 hm.2.1 hd hv hw (kk ls hl)) K
theorem r_pop {v : Value} (hd : decode k.2.1 pc = .ok (.pop, 1)) (hv : v.category = 1) (K : RunO l Γ k d enc em (pc + 1) lo rest σ X) : RunO l Γ k d enc em pc lo (v :: rest) σ X :=
  ro_step (fun p e R s m args below meth c H locs cells slots Q ls hm hl kk => lv_pop hm.1 hm.2.1 hd hv (kk ls hl)) K
/-- the top's value gets a name -/
theorem r_nm {x : Int} {f : Int → Option (ρ × S)} (K : ∀ z : Int, RunO l Γ k d enc em pc lo (wi z :: rest) σ (f z)) : RunO l Γ k d enc em pc lo (wi x :: rest) σ (bnd x f) := K x
/-- fewer locals, in another order -/
theorem r_lo {lo2 : List (Nat × Value)} (is : List Nat) (h : lv_pick lo is = lo2) (K : RunO l Γ k d enc em pc lo2 st σ X) : RunO l Γ k d enc em pc lo st σ X :=
  ro_step (fun p e R s m args below meth c H locs cells slots Q ls hm hl kk => kk ls (lv_sub hl is h)) K
/-- both ways of a test -/
theorem ro_br {c : Prop} [Decidable c] {pt pf : Nat} {st1 : List Value}
    (h : ∀ (p : Program) (e : Env) (R : Room) (s : State) (m : MethodId) (args : Array Value) (below : List Frame) (meth : Method) (c0 : Code) (H : Heap) (locs : List Loc) (cells slots : Nat) (Q : State → Prop) (ls : Array Slot), MC l Γ k d p R s m args meth c0 →
      (c → W p l e R s m args below meth c0 H locs cells slots Q (F0 m pt ls st1)) → (¬ c → W p l e R s m args below meth c0 H locs cells slots Q (F0 m pf ls st1)) → W p l e R s m args below meth c0 H locs cells slots Q (F0 m pc ls st))
    (K1 : RunO l Γ k d enc em pt lo st1 σ X1) (K2 : RunO l Γ k d enc em pf lo st1 σ X2) : RunO l Γ k d enc em pc lo st σ (if c then X1 else X2) := by
  by_cases hc : c
  · rw [if_pos hc]
    exact ro_step (fun p e R s m args below meth c0 H locs cells slots Q ls hm hl kk => h p e R s m args below meth c0 H locs cells slots Q ls hm (fun _ => kk ls hl) (fun q => absurd hc q)) K1
  · rw [if_neg hc]
    exact ro_step (fun p e R s m args below meth c0 H locs cells slots Q ls hm hl kk => h p e R s m args below meth c0 H locs cells slots Q ls hm (fun q => absurd q hc) (fun _ => kk ls hl)) K2
theorem r_icmp_eq {x y off : Int} {tgt : Nat} (hd : decode k.2.1 pc = .ok (.if_icmp .eq off, 3)) (ht : (pc : Int) + off = (tgt : Int)) (K1 : RunO l Γ k d enc em tgt lo rest σ X1) (K2 : RunO l Γ k d enc em (pc + 3) lo rest σ X2) : RunO l Γ k d enc em pc lo (wi y :: wi x :: rest) σ (if w32 x = w32 y then X1 else X2) := by
  refine ro_br (fun p e R s m args below meth c H locs cells slots Q ls hm kt kf => ?_) K1 K2
  refine lv_icmp_eq hm.1 hm.2.1 hd ht (fun q => kt ?_) (fun q => kf ?_)
  · simp only [w32_eq, w32_lt, w32_le, ge_iff_le, gt_iff_lt, ne_eq, Int.not_lt, Int.not_le, Decidable.not_not] at q ⊢; exact q
  · simp only [w32_eq, w32_lt, w32_le, ge_iff_le, gt_iff_lt, ne_eq, Int.not_lt, Int.not_le, Decidable.not_not] at q ⊢; exact q
theorem r_if_eq {x off : Int} {tgt : Nat} (hd : decode k.2.1 pc = .ok (.ifCond .eq off, 3)) (ht : (pc : Int) + off = (tgt : Int)) (K1 : RunO l Γ k d enc em tgt lo rest σ X1) (K2 : RunO l Γ k d enc em (pc + 3) lo rest σ X2) : RunO l Γ k d enc em pc lo (wi x :: rest) σ (if w32 x = 0 then X1 else X2) := by
  refine ro_br (fun p e R s m args below meth c H locs cells slots Q ls hm kt kf => ?_) K1 K2
  have z0 : (0 : Int32) = Int32.ofInt 0 := rfl
  have z1 : w32 0 = 0 := rfl
  refine lv_if_eq hm.1 hm.2.1 hd ht (fun q => kt ?_) (fun q => kf ?_)
  · rw [z0] at q; simp only [w32_eq, w32_lt, w32_le, ge_iff_le, gt_iff_lt, ne_eq, Int.not_lt, Int.not_le, Decidable.not_not, z1] at q ⊢; exact q
  · rw [z0] at q; simp only [w32_eq, w32_lt, w32_le, ge_iff_le, gt_iff_lt, ne_eq, Int.not_lt, Int.not_le, Decidable.not_not, z1] at q ⊢; exact q
theorem r_icmp_ne {x y off : Int} {tgt : Nat} (hd : decode k.2.1 pc = .ok (.if_icmp .ne off, 3)) (ht : (pc : Int) + off = (tgt : Int)) (K1 : RunO l Γ k d enc em tgt lo rest σ X1) (K2 : RunO l Γ k d enc em (pc + 3) lo rest σ X2) : RunO l Γ k d enc em pc lo (wi y :: wi x :: rest) σ (if ¬ w32 x = w32 y then X1 else X2) := by
  refine ro_br (fun p e R s m args below meth c H locs cells slots Q ls hm kt kf => ?_) K1 K2
  refine lv_icmp_ne hm.1 hm.2.1 hd ht (fun q => kt ?_) (fun q => kf ?_)
  · simp only [w32_eq, w32_lt, w32_le, ge_iff_le, gt_iff_lt, ne_eq, Int.not_lt, Int.not_le, Decidable.not_not] at q ⊢; exact q
  · simp only [w32_eq, w32_lt, w32_le, ge_iff_le, gt_iff_lt, ne_eq, Int.not_lt, Int.not_le, Decidable.not_not] at q ⊢; exact q
theorem r_if_ne {x off : Int} {tgt : Nat} (hd : decode k.2.1 pc = .ok (.ifCond .ne off, 3)) (ht : (pc : Int) + off = (tgt : Int)) (K1 : RunO l Γ k d enc em tgt lo rest σ X1) (K2 : RunO l Γ k d enc em (pc + 3) lo rest σ X2) : RunO l Γ k d enc em pc lo (wi x :: rest) σ (if ¬ w32 x = 0 then X1 else X2) := by
  refine ro_br (fun p e R s m args below meth c H locs cells slots Q ls hm kt kf => ?_) K1 K2
  have z0 : (0 : Int32) = Int32.ofInt 0 := rfl
  have z1 : w32 0 = 0 := rfl
  refine lv_if_ne hm.1 hm.2.1 hd ht (fun q => kt ?_) (fun q => kf ?_)
  · rw [z0] at q; simp only [w32_eq, w32_lt, w32_le, ge_iff_le, gt_iff_lt, ne_eq, Int.not_lt, Int.not_le, Decidable.not_not, z1] at q ⊢; exact q
  · rw [z0] at q; simp only [w32_eq, w32_lt, w32_le, ge_iff_le, gt_iff_lt, ne_eq, Int.not_lt, Int.not_le, Decidable.not_not, z1] at q ⊢; exact q
theorem r_icmp_lt {x y off : Int} {tgt : Nat} (hd : decode k.2.1 pc = .ok (.if_icmp .lt off, 3)) (ht : (pc : Int) + off = (tgt : Int)) (K1 : RunO l Γ k d enc em tgt lo rest σ X1) (K2 : RunO l Γ k d enc em (pc + 3) lo rest σ X2) : RunO l Γ k d enc em pc lo (wi y :: wi x :: rest) σ (if w32 x < w32 y then X1 else X2) := by
  refine ro_br (fun p e R s m args below meth c H locs cells slots Q ls hm kt kf => ?_) K1 K2
  refine lv_icmp_lt hm.1 hm.2.1 hd ht (fun q => kt ?_) (fun q => kf ?_)
  · simp only [w32_eq, w32_lt, w32_le, ge_iff_le, gt_iff_lt, ne_eq, Int.not_lt, Int.not_le, Decidable.not_not] at q ⊢; exact q
  · simp only [w32_eq, w32_lt, w32_le, ge_iff_le, gt_iff_lt, ne_eq, Int.not_lt, Int.not_le, Decidable.not_not] at q ⊢; exact q
theorem r_if_lt {x off : Int} {tgt : Nat} (hd : decode k.2.1 pc = .ok (.ifCond .lt off, 3)) (ht : (pc : Int) + off = (tgt : Int)) (K1 : RunO l Γ k d enc em tgt lo rest σ X1) (K2 : RunO l Γ k d enc em (pc + 3) lo rest σ X2) : RunO l Γ k d enc em pc lo (wi x :: rest) σ (if w32 x < 0 then X1 else X2) := by
  refine ro_br (fun p e R s m args below meth c H locs cells slots Q ls hm kt kf => ?_) K1 K2
  have z0 : (0 : Int32) = Int32.ofInt 0 := rfl
  have z1 : w32 0 = 0 := rfl
  refine lv_if_lt hm.1 hm.2.1 hd ht (fun q => kt ?_) (fun q => kf ?_)
  · rw [z0] at q; simp only [w32_eq, w32_lt, w32_le, ge_iff_le, gt_iff_lt, ne_eq, Int.not_lt, Int.not_le, Decidable.not_not, z1] at q ⊢; exact q
  · rw [z0] at q; simp only [w32_eq, w32_lt, w32_le, ge_iff_le, gt_iff_lt, ne_eq, Int.not_lt, Int.not_le, Decidable.not_not, z1] at q ⊢; exact q
theorem r_icmp_ge {x y off : Int} {tgt : Nat} (hd : decode k.2.1 pc = .ok (.if_icmp .ge off, 3)) (ht : (pc : Int) + off = (tgt : Int)) (K1 : RunO l Γ k d enc em tgt lo rest σ X1) (K2 : RunO l Γ k d enc em (pc + 3) lo rest σ X2) : RunO l Γ k d enc em pc lo (wi y :: wi x :: rest) σ (if w32 y ≤ w32 x then X1 else X2) := by
  refine ro_br (fun p e R s m args below meth c H locs cells slots Q ls hm kt kf => ?_) K1 K2
  refine lv_icmp_ge hm.1 hm.2.1 hd ht (fun q => kt ?_) (fun q => kf ?_)
  · simp only [w32_eq, w32_lt, w32_le, ge_iff_le, gt_iff_lt, ne_eq, Int.not_lt, Int.not_le, Decidable.not_not] at q ⊢; exact q
  · simp only [w32_eq, w32_lt, w32_le, ge_iff_le, gt_iff_lt, ne_eq, Int.not_lt, Int.not_le, Decidable.not_not] at q ⊢; exact q
theorem r_if_ge {x off : Int} {tgt : Nat} (hd : decode k.2.1 pc = .ok (.ifCond .ge off, 3)) (ht : (pc : Int) + off = (tgt : Int)) (K1 : RunO l Γ k d enc em tgt lo rest σ X1) (K2 : RunO l Γ k d enc em (pc + 3) lo rest σ X2) : RunO l Γ k d enc em pc lo (wi x :: rest) σ (if 0 ≤ w32 x then X1 else X2) := by
  refine ro_br (fun p e R s m args below meth c H locs cells slots Q ls hm kt kf => ?_) K1 K2
  have z0 : (0 : Int32) = Int32.ofInt 0 := rfl
  have z1 : w32 0 = 0 := rfl
  refine lv_if_ge hm.1 hm.2.1 hd ht (fun q => kt ?_) (fun q => kf ?_)
  · rw [z0] at q; simp only [w32_eq, w32_lt, w32_le, ge_iff_le, gt_iff_lt, ne_eq, Int.not_lt, Int.not_le, Decidable.not_not, z1] at q ⊢; exact q
  · rw [z0] at q; simp only [w32_eq, w32_lt, w32_le, ge_iff_le, gt_iff_lt, ne_eq, Int.not_lt, Int.not_le, Decidable.not_not, z1] at q ⊢; exact q
theorem r_icmp_gt {x y off : Int} {tgt : Nat} (hd : decode k.2.1 pc = .ok (.if_icmp .gt off, 3)) (ht : (pc : Int) + off = (tgt : Int)) (K1 : RunO l Γ k d enc em tgt lo rest σ X1) (K2 : RunO l Γ k d enc em (pc + 3) lo rest σ X2) : RunO l Γ k d enc em pc lo (wi y :: wi x :: rest) σ (if w32 y < w32 x then X1 else X2) := by
  refine ro_br (fun p e R s m args below meth c H locs cells slots Q ls hm kt kf => ?_) K1 K2
  refine lv_icmp_gt hm.1 hm.2.1 hd ht (fun q => kt ?_) (fun q => kf ?_)
  · simp only [w32_eq, w32_lt, w32_le, ge_iff_le, gt_iff_lt, ne_eq, Int.not_lt, Int.not_le, Decidable.not_not] at q ⊢; exact q
  · simp only [w32_eq, w32_lt, w32_le, ge_iff_le, gt_iff_lt, ne_eq, Int.not_lt, Int.not_le, Decidable.not_not] at q ⊢; exact q
theorem r_if_gt {x off : Int} {tgt : Nat} (hd : decode k.2.1 pc = .ok (.ifCond .gt off, 3)) (ht : (pc : Int) + off = (tgt : Int)) (K1 : RunO l Γ k d enc em tgt lo rest σ X1) (K2 : RunO l Γ k d enc em (pc + 3) lo rest σ X2) : RunO l Γ k d enc em pc lo (wi x :: rest) σ (if 0 < w32 x then X1 else X2) := by
  refine ro_br (fun p e R s m args below meth c H locs cells slots Q ls hm kt kf => ?_) K1 K2
  have z0 : (0 : Int32) = Int32.ofInt 0 := rfl
  have z1 : w32 0 = 0 := rfl
  refine lv_if_gt hm.1 hm.2.1 hd ht (fun q => kt ?_) (fun q => kf ?_)
  · rw [z0] at q; simp only [w32_eq, w32_lt, w32_le, ge_iff_le, gt_iff_lt, ne_eq, Int.not_lt, Int.not_le, Decidable.not_not, z1] at q ⊢; exact q
  · rw [z0] at q; simp only [w32_eq, w32_lt, w32_le, ge_iff_le, gt_iff_lt, ne_eq, Int.not_lt, Int.not_le, Decidable.not_not, z1] at q ⊢; exact q
theorem r_icmp_le {x y off : Int} {tgt : Nat} (hd : decode k.2.1 pc = .ok (.if_icmp .le off, 3)) (ht : (pc : Int) + off = (tgt : Int)) (K1 : RunO l Γ k d enc em tgt lo rest σ X1) (K2 : RunO l Γ k d enc em (pc + 3) lo rest σ X2) : RunO l Γ k d enc em pc lo (wi y :: wi x :: rest) σ (if w32 x ≤ w32 y then X1 else X2) := by
  refine ro_br (fun p e R s m args below meth c H locs cells slots Q ls hm kt kf => ?_) K1 K2
  refine lv_icmp_le hm.1 hm.2.1 hd ht (fun q => kt ?_) (fun q => kf ?_)
  · simp only [w32_eq, w32_lt, w32_le, ge_iff_le, gt_iff_lt, ne_eq, Int.not_lt, Int.not_le, Decidable.not_not] at q ⊢; exact q
  · simp only [w32_eq, w32_lt, w32_le, ge_iff_le, gt_iff_lt, ne_eq, Int.not_lt, Int.not_le, Decidable.not_not] at q ⊢; exact q
theorem r_if_le {x off : Int} {tgt : Nat} (hd : decode k.2.1 pc = .ok (.ifCond .le off, 3)) (ht : (pc : Int) + off = (tgt : Int)) (K1 : RunO l Γ k d enc em tgt lo rest σ X1) (K2 : RunO l Γ k d enc em (pc + 3) lo rest σ X2) : RunO l Γ k d enc em pc lo (wi x :: rest) σ (if w32 x ≤ 0 then X1 else X2) := by
  refine ro_br (fun p e R s m args below meth c H locs cells slots Q ls hm kt kf => ?_) K1 K2
  have z0 : (0 : Int32) = Int32.ofInt 0 := rfl
  have z1 : w32 0 = 0 := rfl
  refine lv_if_le hm.1 hm.2.1 hd ht (fun q => kt ?_) (fun q => kf ?_)
  · rw [z0] at q; simp only [w32_eq, w32_lt, w32_le, ge_iff_le, gt_iff_lt, ne_eq, Int.not_lt, Int.not_le, Decidable.not_not, z1] at q ⊢; exact q
  · rw [z0] at q; simp only [w32_eq, w32_lt, w32_le, ge_iff_le, gt_iff_lt, ne_eq, Int.not_lt, Int.not_le, Decidable.not_not, z1] at q ⊢; exact q
theorem r_iret {x : Int} {em : S → St} (hr : k.2.2.2.1 = some .int) (hd : decode k.2.1 pc = .ok (.ireturn, 1)) : RunO l Γ k d encI em pc lo [wi x] σ (some (x, σ)) := by
  intro r σ' hX
  cases hX
  refine ⟨Nat.le_refl _, Nat.le_refl _, fun p e R s m args below meth c hm z0 l0 H locs ls a1 a2 a3 a4 hR hS hl => ?_⟩
  exact vx_ret (W.iret hm.1 hm.2.1 (by rw [hm.2.2.1, hr]) (fun t ht hW => ⟨⟨_, rfl, rfl⟩, by rw [ht]; exact hR, va_S.F hS ht⟩) hS.2.2 hd hm.2.2.2.2.2.2.2.1)
theorem nar_z {x : Int} (h : w32 x = 0 ∨ w32 x = 1) : narrow .boolean (.int (Int32.ofInt x)) = .int (Int32.ofInt x) := by
  rcases h with h | h
  · have e : Int32.ofInt x = 0 := by rw [← of_w32 x, h]; rfl
    rw [e]; rfl
  · have e : Int32.ofInt x = 1 := by rw [← of_w32 x, h]; rfl
    rw [e]; rfl
theorem r_zret {x : Int} {em : S → St} (hr : k.2.2.2.1 = some .boolean) (hd : decode k.2.1 pc = .ok (.ireturn, 1)) : RunO l Γ k d encI em pc lo [wi x] σ (retZ x σ) := by
  intro r σ' hX
  unfold retZ at hX
  split at hX
  · rename_i hz
    cases hX
    refine ⟨Nat.le_refl _, Nat.le_refl _, fun p e R s m args below meth c hm z0 l0 H locs ls a1 a2 a3 a4 hR hS hl => ?_⟩
    exact vx_ret (W.zret hm.1 hm.2.1 (by rw [hm.2.2.1, hr]) (nar_z hz) (fun t ht hW => ⟨⟨_, rfl, rfl⟩, by rw [ht]; exact hR, va_S.F hS ht⟩) hS.2.2 hd hm.2.2.2.2.2.2.2.1)
  · cases hX
theorem r_zret0 {x : Int} {em : S → St} (hz : w32 x = 0 ∨ w32 x = 1) (hr : k.2.2.2.1 = some .boolean) (hd : decode k.2.1 pc = .ok (.ireturn, 1)) : RunO l Γ k d encI em pc lo [wi x] σ (some (x, σ)) := by
  have h := r_zret (l := l) (Γ := Γ) (d := d) (lo := lo) (σ := σ) (x := x) (em := em) hr hd
  unfold retZ at h
  rw [if_pos hz] at h
  exact h
theorem r_vret {em : S → St} (hr : k.2.2.2.1 = none) (hd : decode k.2.1 pc = .ok (.return_, 1)) : RunO l Γ k d encV em pc lo [] σ (some ((), σ)) := by
  intro r σ' hX
  cases hX
  refine ⟨Nat.le_refl _, Nat.le_refl _, fun p e R s m args below meth c hm z0 l0 H locs ls a1 a2 a3 a4 hR hS hl => ?_⟩
  exact vx_ret (W.vret hm.1 hm.2.1 (by rw [hm.2.2.1, hr]) (fun t ht hW => ⟨⟨_, rfl, rfl⟩, by rw [ht]; exact hR, va_S.F hS ht⟩) hS.2.2 hd hm.2.2.2.2.2.2.2.1)
end PURE
