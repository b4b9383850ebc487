/-! THE JUDGEMENT: a method's body from a place on, over a functional state, ends with what a Lean function says -/
def uw : List Cond := lw_tbl.filter goodWord
theorem uw_mem {w : Cond} (k : Nat) (h : lw_tbl[k]? = some w) (g : goodWord w = true) : w ∈ uw := List.mem_filter.mpr ⟨List.mem_of_getElem? h, g⟩
theorem uw_good : ∀ w ∈ uw, goodWord w = true := fun _ h => (List.mem_filter.mp h).2
theorem uw_all : GoodIn uw uw := fun w h => ⟨h, good_of_word (uw_good w h)⟩
theorem uw_in {c : Cond} (h : c ∈ uw) : GoodIn uw (c :: uw) := fun w hw => by
  have h1 : w ∈ uw := by
    rcases List.mem_cons.mp hw with e | e
    · exact e ▸ h
    · exact e
  exact ⟨h1, good_of_word (uw_good w h1)⟩
-- ints as whole numbers
abbrev wi (x : Int) : Value := .int (Int32.ofInt x)
def w32 (x : Int) : Int := (Int32.ofInt x).toInt
theorem w32_of {x : Int} (h1 : -2147483648 ≤ x) (h2 : x < 2147483648) : w32 x = x := by
  show (Int32.ofInt x).toInt = x
  have e : Int32.size = 4294967296 := rfl
  rw [Int32.toInt_ofInt, e]
  exact Int.bmod_eq_of_le (by omega) (by omega)
theorem w32_lo (x : Int) : -2147483648 ≤ w32 x := by
  have h := Int32.le_toInt (Int32.ofInt x)
  exact h
theorem w32_hi (x : Int) : w32 x < 2147483648 := by
  have h := Int32.toInt_lt (Int32.ofInt x)
  exact h
theorem of_w32 (x : Int) : Int32.ofInt (w32 x) = Int32.ofInt x := Int32.ofInt_toInt _
theorem w32_eq {x y : Int} : Int32.ofInt x = Int32.ofInt y ↔ w32 x = w32 y := by
  constructor
  · intro h
    show (Int32.ofInt x).toInt = (Int32.ofInt y).toInt
    rw [h]
  · intro h
    rw [← of_w32 x, ← of_w32 y, h]
theorem w32_lt {x y : Int} : Int32.ofInt x < Int32.ofInt y ↔ w32 x < w32 y := Int32.lt_iff_toInt_lt
theorem w32_le {x y : Int} : Int32.ofInt x ≤ Int32.ofInt y ↔ w32 x ≤ w32 y := Int32.le_iff_toInt_le
def andI (x y : Int) : Int := (Int32.ofInt x &&& Int32.ofInt y).toInt
def orI (x y : Int) : Int := (Int32.ofInt x ||| Int32.ofInt y).toInt
def xorI (x y : Int) : Int := (Int32.ofInt x ^^^ Int32.ofInt y).toInt
def shlI (x y : Int) : Int := (Int32.ofInt x <<< (Int32.ofInt y &&& 31)).toInt
def shrI (x y : Int) : Int := (Int32.ofInt x >>> (Int32.ofInt y &&& 31)).toInt
def divI (x y : Int) : Int := (Int32.ofInt x / Int32.ofInt y).toInt
def remI (x y : Int) : Int := (Int32.ofInt x - Int32.ofInt x / Int32.ofInt y * Int32.ofInt y).toInt
-- the state: the reference's numbers and rows; the class's objects
abbrev Md : Type := (Nat → Int) × (Nat → Nat → Int)
abbrev Cd : Type := (Nat → Nat → Int) × (Nat → Nat → Option Nat) × (Nat → Nat → Int) × (Nat → Nat → Option Nat) × (Nat → Nat) × (Nat → Nat) × List Nat × Nat × Nat
abbrev St : Type := Md × Cd
abbrev cI (C : Cd) : Nat → Nat → Int := C.1
abbrev cR (C : Cd) : Nat → Nat → Option Nat := C.2.1
abbrev cE (C : Cd) : Nat → Nat → Int := C.2.2.1
abbrev cP (C : Cd) : Nat → Nat → Option Nat := C.2.2.2.1
abbrev cn (C : Cd) : Nat → Nat := C.2.2.2.2.1
abbrev cty (C : Cd) : Nat → Nat := C.2.2.2.2.2.1
abbrev cL (C : Cd) : List Nat := C.2.2.2.2.2.2.1
abbrev csz (C : Cd) : Nat := C.2.2.2.2.2.2.2.1
abbrev csl (C : Cd) : Nat := C.2.2.2.2.2.2.2.2
-- what is fixed over a run: where the law's own world begins, the classes' numbers and slots, the array classes, the reference's cells, what is said of the old cells
abbrev Cx : Type := Nat × va_G × (Nat → ClassId) × (Md → va_W) × (State → Heap → Prop)
abbrev inA (Γ : Cx) : Nat → Prop := fun q => Γ.1 ≤ q
abbrev tysOf (cy : Nat → ClassId) : List (ClassId × FieldType) := [(cy 0, .int), (cy 1, .boolean), (cy 2, .object "Weaveword$Title"), (cy 3, .object "Weaveword$SmallModule"), (cy 4, .object "Weaveword$Frame"), (cy 5, .object "Weaveword$Run"), (cy 6, .object "Weaveword$Row"), (cy 7, .object "java/lang/Object"), (cy 8, .long)]
/-- how many fields the classes of vwCl have -/
def nF (c : Nat) : Nat := [4, 4, 3, 3, 15, 7, 3, 8, 3, 4, 3, 3, 6, 3, 10, 79].getD c 0
/-- the fields that hold references, by 100 * class + field -/
def rF : List Nat := [201, 301, 302, 400, 401, 402, 403, 404, 405, 406, 407, 500, 501, 502, 503, 504, 600, 601, 602, 700, 800, 900, 901, 1000, 1001, 1100, 1101, 1200, 1201, 1202, 1203, 1302, 1400, 1401, 1402, 1403, 1404, 1405, 1500, 1503, 1504, 1506, 1509, 1510, 1511, 1512, 1514, 1515, 1516, 1517, 1518, 1519, 1520, 1521, 1523, 1524, 1525, 1526, 1527, 1528, 1529, 1530, 1531, 1532, 1533, 1534, 1535, 1537, 1538, 1541, 1542, 1543, 1544, 1545, 1546, 1547, 1549, 1550, 1552, 1553, 1554, 1555, 1556, 1557, 1558, 1560, 1561, 1562, 1563, 1564, 1572, 1574, 1576, 1578]
def isR (k : Nat) : Bool := rF.contains k
/-- an empty list's row is an old cell: it is written 0 -/
def rN (Γ : Cx) (key : Nat) (r : Option Nat) : Option Nat := if key = 201 ∧ r = some 0 then some (Γ.2.2.1 60) else r
def fV (Γ : Cx) (C : Cd) (a c k : Nat) : Value := if isR (100 * c + k) then va_rf (rN Γ (100 * c + k) (cR C (100 * c + k) a)) else wi (cI C (100 * c + k) a)
def cfE (Γ : Cx) (C : Cd) (a : Nat) : va_E := if cty C a < 100 then .inr (cty C a, (List.range (nF (cty C a))).map (fun k => fV Γ C a (cty C a) k)) else .inl (Γ.2.2.1 (cty C a - 100), cn C a, if cty C a < 102 then .inl (fun j => Int32.ofInt (cE C a j)) else if cty C a = 108 then .inr (.inl (fun j => Int64.ofInt (cE C a j))) else .inr (.inr (.inr (.inr (cP C a)))))
def wl (Γ : Cx) (σ : St) : va_W := Γ.2.2.2.1 σ.1 ++ va_pl (cL σ.2) (cfE Γ σ.2)
/-- the state in the heap -/
def RelE (Γ : Cx) (σ : St) (H : Heap) : Prop := va_P Γ.2.1 vwCl (wl Γ σ) H ∧ va_D (inA Γ) (wl Γ σ) ∧ H.size = csz σ.2
def RelS (Γ : Cx) (σ : St) (U : State) : Prop := va_K Γ.2.1 vwCl (tysOf Γ.2.2.1) U ∧ RelE Γ σ U.heap ∧ Γ.1 ≤ U.heap.size ∧ Γ.2.2.2.2 U U.heap
/-- what is said of the old cells goes on holding -/
def OC (Γ : Cx) : Prop := ∀ (s s' : State) (H H' : Heap), s.WarmedH s'.vm → (∀ q : Nat, q < Γ.1 → H'[q]? = H[q]?) → Γ.2.2.2.2 s H → Γ.2.2.2.2 s' H'
abbrev Kd : Type := MethodName × ByteArray × Nat × Option FieldType × List ExceptionTableEntry
def MC (l : Launch) (Γ : Cx) (k : Kd) (d : Nat) (p : Program) (R : Room) (s : State) (m : MethodId) (args : Array Value) (meth : Method) (c : Code) : Prop :=
  p.tables.exec = Jvm.exec ∧ c.code = k.2.1 ∧ meth.sig.returnType = k.2.2.2.1 ∧ c.maxLocals = k.2.2.1 ∧ s.vm.findClass k.1.cls = some m.cls ∧ (∀ w ∈ uw, w.before args s = true) ∧ c.exceptionTable.toList = k.2.2.2.2 ∧ meth.locks = false ∧ va_K Γ.2.1 vwCl (tysOf Γ.2.2.1) s ∧ d ≤ R.frames ∧ 100 * d ≤ R.locals ∧ meth.name = k.1.name ∧ OC Γ ∧ Γ.1 ≤ s.heap.size ∧ Γ.2.2.2.2 s s.heap
abbrev Out : Type := Option Value ⊕ String
def qc {ρ S : Type} (Γ : Cx) (enc : ρ → Out) (em : S → St) (r : ρ) (σ : S) : Array Value → State → Outcome → State → Prop := fun _ st o t => (∃ v, enc r = .inl v ∧ o = .returned v) ∧ RelE Γ (em σ) t.heap ∧ va_F (inA Γ) st t
def xc {ρ S : Type} (Γ : Cx) (enc : ρ → Out) (em : S → St) (r : ρ) (σ : S) : String → State → State → Prop := fun E st t => enc r = .inr E ∧ RelE Γ (em σ) t.heap ∧ va_F (inA Γ) st t
/-- from the place pc on, with these locals, this operand stack, this state: X -/
def RunO {ρ S : Type} (l : Launch) (Γ : Cx) (k : Kd) (d : Nat) (enc : ρ → Out) (em : S → St) (pc : Nat) (lo : List (Nat × Value)) (st : List Value) (σ : S) (X : Option (ρ × S)) : Prop :=
  ∀ (r : ρ) (σ' : S), X = some (r, σ') → csz (em σ).2 ≤ csz (em σ').2 ∧ csl (em σ).2 ≤ csl (em σ').2 ∧
    ∀ (p : Program) (e : Env) (R : Room) (s : State) (m : MethodId) (args : Array Value) (below : List Frame) (meth : Method) (c : Code), MC l Γ k d p R s m args meth c →
    ∀ (z0 l0 : Nat) (H : Heap) (locs : List Loc) (ls : Array Slot), z0 = s.heap.size → l0 ≤ csl (em σ).2 → csz (em σ').2 - z0 ≤ R.cells → csl (em σ').2 - l0 ≤ R.slots →
      RelE Γ (em σ) H → va_S (inA Γ) s.heap H locs → lv_has ls k.2.2.1 lo →
      W p l e R s m args below meth c H locs (csz (em σ).2 - z0) (csl (em σ).2 - l0) (vx_MQ below (qc Γ enc em r σ') (xc Γ enc em r σ') args s (csz (em σ').2 - z0) (csl (em σ').2 - l0) (inA Γ)) (F0 m pc ls st)
abbrev rmOf (d mc ms : Nat) : Room := { frames := d, cells := mc, slots := ms, locals := 100 * d }
/-- a method's contract: called with these arguments in this state it ends as X says -/
def Ct {ρ S : Type} (l : Launch) (Γ : Cx) (k : Kd) (d : Nat) (enc : ρ → Out) (em : S → St) (av : List Value) (σ : S) (X : Option (ρ × S)) : Prop :=
  ∀ (r : ρ) (σ' : S), X = some (r, σ') → csz (em σ).2 ≤ csz (em σ').2 ∧ csl (em σ).2 ≤ csl (em σ').2 ∧ (OC Γ →
    vx_Met l k.1 (.code k.1 k.2.1 k.2.2.1 k.2.2.2.1 :: uw) (rmOf d (csz (em σ').2 - csz (em σ).2) (csl (em σ').2 - csl (em σ).2)) (va_Pc av (fun U => RelS Γ (em σ) U)) (qc Γ enc em r σ') (xc Γ enc em r σ') (csz (em σ').2 - csz (em σ).2) (csl (em σ').2 - csl (em σ).2) (inA Γ))
theorem w_bd {p : Program} {l : Launch} {e : Env} {R : Room} {s : State} {m : MethodId} {args : Array Value} {below : List Frame} {meth : Method} {c : Code} {H : Heap} {locs : List Loc} {cells slots : Nat} {Q : State → Prop} {g : JFrame} (kk : H.size ≤ s.heap.size + cells → W p l e R s m args below meth c H locs cells slots Q g) : W p l e R s m args below meth c H locs cells slots Q g := by
  intro T hT X
  have h := X.same.2.2.1
  exact kk (by rw [← hT]; exact h) T hT X
/-- the old heap, the one between, the new one -/
theorem vs_tr {A : Nat → Prop} {H0 H H1 : Heap} {locs locs1 : List Loc} (h : va_S A H0 H locs) (h1 : va_S A H H1 locs1) : va_S A H0 H1 locs1 :=
  ⟨Nat.le_trans h.1 h1.1, fun q a b => (h1.2.1 q (Nat.lt_of_lt_of_le a h.1) b).trans (h.2.1 q a b), h1.2.2⟩
section RO
variable {ρ S : Type} {l : Launch} {Γ : Cx} {k : Kd} {d : Nat} {enc : ρ → Out} {em : S → St} {pc : Nat} {lo : List (Nat × Value)} {st rest : List Value} {σ : S} {X : Option (ρ × S)}
/-- a step that leaves the heap -/
theorem ro_step {pc' : Nat} {lo' : List (Nat × Value)} {st' : List Value}
    (h : ∀ (p : Program) (e : Env) (R : Room) (s : State) (m : MethodId) (args : Array Value) (below : List Frame) (meth : Method) (c : Code) (H : Heap) (locs : List Loc) (cells slots : Nat) (Q : State → Prop) (ls : Array Slot), MC l Γ k d p R s m args meth c → lv_has ls k.2.2.1 lo →
      (∀ ls' : Array Slot, lv_has ls' k.2.2.1 lo' → W p l e R s m args below meth c H locs cells slots Q (F0 m pc' ls' st')) → W p l e R s m args below meth c H locs cells slots Q (F0 m pc ls st))
    (K : RunO l Γ k d enc em pc' lo' st' σ X) : RunO l Γ k d enc em pc lo st σ X := by
  intro r σ' hX
  obtain ⟨h1, h2, h3⟩ := K r σ' hX
  refine ⟨h1, h2, fun p e R s m args below meth c hm z0 l0 H locs ls a1 a2 a3 a4 hR hS hl => ?_⟩
  exact h p e R s m args below meth c H locs _ _ _ ls hm hl (fun ls' hl' => h3 p e R s m args below meth c hm z0 l0 H locs ls' a1 a2 a3 a4 hR hS hl')
theorem ro_none : RunO l Γ k d enc em pc lo st σ none := fun r σ' h => by cases h
/-- a test: by a condition of one's own -/
theorem ro_if {c : Prop} [Decidable c] {X1 X2 : Option (ρ × S)} (h1 : c → RunO l Γ k d enc em pc lo st σ X1) (h2 : ¬ c → RunO l Γ k d enc em pc lo st σ X2) : RunO l Γ k d enc em pc lo st σ (if c then X1 else X2) := by
  by_cases h : c
  · rw [if_pos h]; exact h1 h
  · rw [if_neg h]; exact h2 h
theorem ro_iconst {v : Int} {i : Int} (hd : decode k.2.1 pc = .ok (.iconst i, 1)) (hv : i = v) (K : RunO l Γ k d enc em (pc + 1) lo (wi v :: rest) σ X) : RunO l Γ k d enc em pc lo rest σ X := by
  subst hv
  exact ro_step (fun p e R s m args below meth c H locs cells slots Q ls hm hl kk => lv_iconst hm.1 hm.2.1 hd rfl (kk ls hl)) K
end RO

section GO
variable {p : Program} {l : Launch} {e : Env} {R : Room} {s : State} {m : MethodId} {args : Array Value} {below : List Frame} {meth : Method} {c : Code} {H : Heap} {locs : List Loc} {cells slots mc ms : Nat} {Q : State → Prop} {g : JFrame} {rest : List Value} {Qa : State → Outcome → State → Prop} {XC : String → State → State → Prop} {free : Addr → Prop}
theorem go_run (hr : vx_Run p l e R s m args below meth c H locs cells slots mc ms g rest Qa XC free)
    (kk : ∀ (v : Option Value) (st0 t : State) (L : List Loc) (H1 : Heap), st0.heap = H → H1 = t.heap → s.vm.Alike t.vm → Qa st0 (.returned v) t → (∀ q ∈ L, free q.base) → W p l e R s m args below meth c H1 (locs ++ L) (cells + mc) (slots + ms) Q { g with pc := g.pc + 3, stack := v.toList ++ rest })
    (kx : ∀ (q : Addr) (st0 t : State) (L : List Loc) (H1 : Heap) (E : String) (ce : Cell), st0.heap = H → H1 = t.heap → s.vm.Alike t.vm → XC E st0 t → (∀ z ∈ L, free z.base) → H1[q]? = some ce → ce.vm = .none → s.vm.findClass E = some ce.cls → vx_W p l e R s m args below meth c H1 (locs ++ L) (cells + mc) (slots + ms) Q { g with stack := rest } q) :
    W p l e R s m args below meth c H locs cells slots Q g := by
  intro T hT X
  rcases hr T hT X with ⟨v, st₀, t, T', L, h0, X', hL, e1, e2, hq, st⟩ | ⟨q, st₀, t, T', L, E, ce, h0, X', hL, e1, e2, hq, hce, hcv, hcl, st⟩
  · obtain ⟨t2, a1, b1⟩ := kk v st₀ t L T'.heap h0 e1 (by rw [← e2]; exact X'.warmed.alike) hq hL T' rfl X'
    exact ⟨t2, st t2 a1, b1⟩
  · obtain ⟨t2, a1, b1⟩ := kx q st₀ t L T'.heap E ce h0 e1 (by rw [← e2]; exact X'.warmed.alike) hq hL (by rw [e1]; exact hce) hcv hcl T' rfl X'
    exact ⟨t2, st.trans a1, b1⟩
end GO
section CT
variable {ρ S : Type} {l : Launch} {Γ : Cx} {k : Kd} {d : Nat} {enc : ρ → Out} {em : S → St} {pc : Nat} {lo : List (Nat × Value)} {st rest : List Value} {σ : S} {X : Option (ρ × S)}
theorem ct_of {av : List Value} (hy : plainName k.1.cls = true) (htb : k.2.2.2.2 = []) (hsl : (lg_sl av).length ≤ k.2.2.1)
    (body : RunO l Γ k d enc em 0 (lv_args 0 av) [] σ X) : Ct l Γ k d enc em av σ X := by
  intro r σ' hX
  obtain ⟨h1, h2, h3⟩ := body r σ' hX
  refine ⟨h1, h2, fun hOC => ?_⟩
  refine vx_ofW (cc := k.2.1) (maxL := k.2.2.1) (ret := k.2.2.2.1) hy rfl ?_
  intro p e s m args below meth c s₁ B hml ht hv
  obtain ⟨rfl, hK, hR, hbase, hO⟩ := hv
  have hts := atoms_spec B.pre
  have hmc : MC l Γ k d p (headSpec (.code k.1 k.2.1 k.2.2.1 k.2.2.2.1 :: uw) (rmOf d (csz (em σ').2 - csz (em σ).2) (csl (em σ').2 - csl (em σ).2))).room s m av.toArray meth c :=
    ⟨B.exec, B.bytes, B.returns, hml, findClass_of_methodNamed B.named, fun w hw => hts w (List.mem_cons_of_mem _ hw), by rw [htb]; exact List.eq_nil_iff_forall_not_mem.mpr (fun x hx => ht x hx), B.notSynchronized, hK, Nat.le_refl d, Nat.le_refl _, (name_of_methodNamed B.named B.method).1, hOC, hbase, hO⟩
  have hl := lv_entry av (n := k.2.2.1) hsl
  rw [lg_entry_eq]
  have h4 := h3 p e _ s m _ below meth c hmc (csz (em σ).2) (csl (em σ).2) s.heap [] _ hR.2.2.symm (Nat.le_refl _) (Nat.le_refl _) (Nat.le_refl _) hR va_S.rf hl
  rw [Nat.sub_self, Nat.sub_self] at h4
  exact h4
/-- what is owed behind a call -/
def AC (l : Launch) (Γ : Cx) (k : Kd) (d : Nat) (enc : ρ → Out) (em : S → St) (pc : Nat) (lo : List (Nat × Value)) (rest : List Value) (σ1 : S) (X1 : Option (ρ × S)) : Out → Prop
  | .inl v => RunO l Γ k d enc em pc lo (v.toList ++ rest) σ1 X1
  | .inr E => ∀ r σ', X1 = some (r, σ') → enc r = .inr E ∧ σ' = σ1
/-- the machine's side of a call, whatever its kind -/
def Inv (l : Launch) (Γ : Cx) (k : Kd) (d : Nat) (k2 : Kd) (d2 : Nat) (av : List Value) (em : S → St) (σ : S) (pc : Nat) (st rest : List Value) : Prop :=
  ∀ (p : Program) (e : Env) (R : Room) (s : State) (m : MethodId) (args : Array Value) (below : List Frame) (meth : Method) (c : Code), MC l Γ k d p R s m args meth c →
    ∀ (mc ms : Nat) (Qc : Array Value → State → Outcome → State → Prop) (XC : String → State → State → Prop) (H : Heap) (locs : List Loc) (cells slots : Nat) (ls : Array Slot),
      vx_Met l k2.1 (.code k2.1 k2.2.1 k2.2.2.1 k2.2.2.2.1 :: uw) (rmOf d2 mc ms) (va_Pc av (fun U => RelS Γ (em σ) U)) Qc XC mc ms (inA Γ) →
      RelE Γ (em σ) H → (∀ U : State, U.heap = H → s.WarmedH U.vm → RelS Γ (em σ) U) → ls.size = k.2.2.1 → cells + mc ≤ R.cells → slots + ms ≤ R.slots →
      vx_Run p l e R s m args below meth c H locs cells slots mc ms (F0 m pc ls st) rest (Qc av.toArray) XC (inA Γ)
theorem ro_call {ρ2 : Type} {enc2 : ρ2 → Out} {X2 : Option (ρ2 × S)} {f : ρ2 → S → Option (ρ × S)} {k2 : Kd} {d2 : Nat} {av : List Value} (htb : k.2.2.2.2 = [])
    (hct : Ct l Γ k2 d2 enc2 em av σ X2) (hin : Inv l Γ k d k2 d2 av em σ pc st rest)
    (K : ∀ r2 σ1, AC l Γ k d enc em (pc + 3) lo rest σ1 (f r2 σ1) (enc2 r2)) : RunO l Γ k d enc em pc lo st σ (X2.bind (fun q => f q.1 q.2)) := by
  intro r σ' hX
  obtain ⟨⟨r2, σ1⟩, hX2, hf⟩ := Option.bind_eq_some_iff.mp hX
  obtain ⟨c1, c2, hM⟩ := hct r2 σ1 hX2
  have hK := K r2 σ1
  have hmono : csz (em σ1).2 ≤ csz (em σ').2 ∧ csl (em σ1).2 ≤ csl (em σ').2 := by
    cases hE : enc2 r2 with
    | inl v =>
      rw [hE] at hK
      exact ⟨(hK r σ' hf).1, (hK r σ' hf).2.1⟩
    | inr E =>
      rw [hE] at hK
      rw [(hK r σ' hf).2]
      exact ⟨Nat.le_refl _, Nat.le_refl _⟩
  refine ⟨Nat.le_trans c1 hmono.1, Nat.le_trans c2 hmono.2, fun p e R s m args below meth c hm z0 l0 H locs ls a1 a2 a3 a4 hR hS hl => ?_⟩
  have hz0 : z0 ≤ csz (em σ).2 := by rw [a1, ← hR.2.2]; exact hS.1
  have hOC : OC Γ := hm.2.2.2.2.2.2.2.2.2.2.2.2.1
  have hKs := hm.2.2.2.2.2.2.2.2.1
  have hbase := hm.2.2.2.2.2.2.2.2.2.2.2.2.2.1
  have hO := hm.2.2.2.2.2.2.2.2.2.2.2.2.2.2
  have hrels : ∀ U : State, U.heap = H → s.WarmedH U.vm → RelS Γ (em σ) U := by
    intro U hU hW
    refine ⟨va_K.moved hW.alike hKs, by rw [hU]; exact hR, by rw [hU]; exact Nat.le_trans hbase hS.1, ?_⟩
    rw [hU]
    exact hOC s U s.heap H hW (fun q hq => hS.2.1 q (Nat.lt_of_lt_of_le hq hbase) (Nat.not_le.mpr hq)) hO
  have e1 : csz (em σ).2 - z0 + (csz (em σ1).2 - csz (em σ).2) = csz (em σ1).2 - z0 := by omega
  have e2 : csl (em σ).2 - l0 + (csl (em σ1).2 - csl (em σ).2) = csl (em σ1).2 - l0 := by omega
  refine go_run (hin p e R s m args below meth c hm _ _ _ _ H locs _ _ ls (hM hOC) hR hrels hl.1 (by omega) (by omega)) ?_ ?_
  · intro v st0 t L H1 h0 h1 hA hq hL
    obtain ⟨⟨v', hv1, hv2⟩, hRt, hF⟩ := hq
    cases hv2
    rw [hv1] at hK
    obtain ⟨k1, k2, k3⟩ := hK r σ' hf
    obtain ⟨f1, f2, f3⟩ := vx_keep (T' := t) h0 rfl hS (fun _ _ h => h) (fun _ h => h) hL hF
    rw [e1, e2]
    refine k3 p e R s m args below meth c hm z0 l0 H1 (locs ++ L) ls a1 (by omega) a3 a4 ?_ ?_ hl
    · rw [h1]; exact hRt
    · rw [h1]; exact f3
  · intro q st0 t L H1 E ce h0 h1 hA hq hL hce hcv hcl
    obtain ⟨hv1, hRt, hF⟩ := hq
    rw [hv1] at hK
    obtain ⟨k1, k2⟩ := hK r σ' hf
    subst k2
    obtain ⟨f1, f2, f3⟩ := vx_keep (T' := t) h0 rfl hS (fun _ _ h => h) (fun _ h => h) hL hF
    rw [e1, e2]
    refine vx_out (fun x hx => ?_) hm.2.2.2.2.2.2.2.1 hce hcv hcl (fun t9 ht9 _ => ⟨k1, ?_, ?_⟩) ?_ (Nat.le_refl _) (Nat.le_refl _)
    · rw [hm.2.2.2.2.2.2.1, htb] at hx
      cases hx
    · rw [ht9, h1]; exact hRt
    · exact va_S.F (by rw [h1]; exact f3) ht9
    · exact f3.2.2
end CT
