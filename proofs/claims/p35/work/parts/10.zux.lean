/-! WHAT IS THROWN; the words that go with the tables alone -/
def uxW : Cond → Bool
  | .fieldLinkNest .. => true
  | .methodLinkNest .. => true
  | .castable .. => true
  | .declares _ => true
  | .privateMethod _ => true
  | .arrayOver (.object _) => true
  | _ => false
theorem ux_warm {w : Cond} (h : uxW w = true) {s U : State} (hW : s.WarmedH U.vm) (hb : va_Nw w s) : va_Nw w U := by
  cases w with
  | fieldLinkNest => exact va_Nw.warmF hW hb
  | methodLinkNest => exact va_Nw.warmM hW hb
  | castable => exact va_Nw.warmC hW hb
  | declares => exact va_Nw.warmD hW hb
  | privateMethod x => exact va_tabs rfl (rfl : (s.setVm U.vm).vm = U.vm) (by rw [Cond.privateMethod_setVm hW.alike]; exact hb)
  | arrayOver t =>
    cases t with
    | object C => exact va_AO.moved hW.alike hb
    | _ => cases h
  | _ => cases h
theorem uxW_b {w : Cond} (h : uxW w = true) {s : State} {args : Array Value} (hb : va_Nw w s) : w.before args s = true := by
  cases w with
  | fieldLinkNest => exact va_Nw.use rfl hb
  | methodLinkNest => exact va_Nw.use rfl hb
  | castable => exact va_Nw.use rfl hb
  | declares => exact va_Nw.use rfl hb
  | privateMethod x => exact va_Nw.use rfl hb
  | arrayOver t =>
    cases t with
    | object C => exact hb
    | _ => cases h
  | _ => cases h
def ux : List Cond := lw_tbl.filter uxW
theorem ux_mem {w : Cond} (k : Nat) (h : lw_tbl[k]? = some w) (g : uxW w = true) : w ∈ ux := List.mem_filter.mpr ⟨List.mem_of_getElem? h, g⟩
/-- the texts that are thrown with -/
def strs : List (String × Nat × String) := [("Weaveword", 64, "no such token"), ("Weaveword", 74, "the draft is full"), ("Weaveword", 83, "no such rank"), ("Weaveword", 341, "no such title"), ("Weaveword", 95, "the rank is too low"), ("Weaveword", 110, "no page can be made"), ("Weaveword", 178, "no page there"), ("Weaveword", 141, "no such version or section"), ("Weaveword", 160, "no such edit is possible"), ("Weaveword", 166, "no such version"), ("Weaveword", 168, "it cannot be undone"), ("Weaveword", 170, "no such time"), ("Weaveword", 172, "nothing can be brought in"), ("Weaveword", 180, "it cannot be moved"), ("Weaveword", 186, "no such tree"), ("Weaveword", 218, "no such translation"), ("Weaveword", 251, "not so many"), ("Weaveword", 345, "below 0"), ("Weaveword", 324, "no such question"), ("Weaveword", 326, "no such category"), ("Weaveword", 347, "no such language")]
/-- what the old cells and the tables hold, of a context -/
def EK (Γ : Cx) : Prop := ∀ (s : State) (H : Heap), Γ.2.2.2.2 s H → va_Z "java/util/ArrayList" "DEFAULTCAPACITY_EMPTY_ELEMENTDATA" "[Ljava/lang/Object;" (.ref (Γ.2.2.1 60)) (inA Γ) s H ∧ va_T (.object "java/lang/Object") (Γ.2.2.1 60) 0 (fun _ => .null) (inA Γ) s H ∧ va_Mi "[Ljava/lang/Object;" (Γ.2.2.1 61) s
def GK (Γ : Cx) (l : Launch) : Prop := l.stackTraces = false ∧ (∀ (s : State) (H : Heap), Γ.2.2.2.2 s H → (∀ w ∈ ux, va_Nw w s) ∧ (∀ q ∈ strs, ∃ sa : Nat, vk_R q.1 q.2.1 q.2.2 sa s) ∧ vx_Zq Bundle.tN "UNASSIGNED_STACK" Bundle.steD (inA Γ) s H ∧ vx_Zq Bundle.tN "SUPPRESSED_SENTINEL" Bundle.listD (inA Γ) s H) ∧ EK Γ
theorem ux_at {Γ : Cx} {l : Launch} (hG : GK Γ l) {w : Cond} (h : w ∈ ux) {s : State} {args : Array Value} (ho : Γ.2.2.2.2 s s.heap) : w.before args s = true :=
  uxW_b (List.mem_filter.mp h).2 ((hG.2.1 s s.heap ho).1 _ h)
