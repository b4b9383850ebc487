/-! THE CLAIM OUT OF ONE WALK OF THE LAW'S BODY. Your part is whole_start (and what it stands on); all else here is the same for every law, but numbers. -/
def R_law : String := "WeavewordLaw"
def lw_P (b : Addr) (xs : List Int32) (args : Array Value) (s : State) : Prop := args = #[.ref b] ∧ s.IntsAt b xs ∧ xs.length ≤ 260 ∧ (Jvm.Cond.and given_1 narrow_1).before args s = true
def lw_Q (_ : Array Value) (s : State) (o : Outcome) (t : State) : Prop := o = .returned (some (.int 1)) ∧ Framed s o t [] 600130 7301080
def lw_Z (below : List Frame) (a : Array Value) (s : State) : State → Prop := fun t => ∃ o, t.status = .running ∧ Ended t below o ∧ lw_Q a s o t
/-- the law's own end, with 1 on the stack, nothing written that was there before, its room as the claim has it -/
theorem lw_ret {p : Program} {l : Launch} {e : Jvm.Env} {s : State} {m : MethodId} {below : List Frame} {meth : Method} {c : Code} {b : Nat} (hx : p.tables.exec = Jvm.exec) (hb : c.code = code) (hr : meth.sig.returnType = ret) (hlocks : meth.locks = false) {pc : Nat} {H : Heap} {ls : Array Slot} (hdg : decode code pc = .ok (.ireturn, 1)) : W p l e room_1 s m #[Value.ref b] below meth c H [] 600130 7301080 (lw_Z below #[Value.ref b] s) (F0 m pc ls [.int 1]) := by
  intro T hT X
  obtain ⟨fs, hret, hrun, hended, hW, hframe⟩ := X.leave (v := some (.int 1)) (hlocks := hlocks) (fun h => by rw [hr] at h; cases h)
  have hmeth' : T.vm.method? m = some meth := X.method'
  refine ⟨T.setFrames fs, ?_, .returned (some (.int 1)), hrun, hended, rfl, ⟨_, rfl⟩, hW, hframe⟩
  jvm_step X.here [X.here.top, hx, hb, hdg, hmeth', hr, ret, narrow_b1]
  (try refine ⟨rfl, ?_⟩); (try refine ⟨rfl, ?_⟩)
  first | (intro acts; rw [hret _ acts rfl rfl rfl]) | rw [hret _ _ rfl rfl rfl]
  exact Steps.refl _
/-- what holds at the law's entry: the machine, the code, the tables' words (any of lw_tbl by 'hts w (by decide +kernel)'), the script of L ints xs at the cell b, what the Statement gives of the start (any of its parts by flat_of_before) -/
def lw_At (p : Program) (s : State) (m : MethodId) (meth : Method) (c : Code) (b L : Nat) (xs : Nat → Int32) : Prop :=
  p.tables.exec = Jvm.exec ∧ c.code = code ∧ meth.sig.returnType = ret ∧ c.maxLocals = 35 ∧ s.vm.findClass R_law = some m.cls ∧ (∀ w ∈ lw_tbl, w.before #[Value.ref b] s = true) ∧ va_X b L xs s s.heap ∧ b < s.heap.size ∧ meth.locks = false ∧ (Jvm.Cond.and given_1 narrow_1).before #[Value.ref b] s = true
section START
variable {s : State} {args : Array Value}
theorem st_prim {ty : FieldType} (h : (Cond.arrayClass ty).before args s = true) : ∃ cA : ClassId, ArrOfT s cA ty ∧ s.vm.findClass ("[" ++ ty.toString) = some cA := by
  obtain ⟨c, k, comp, h1, h2, h3⟩ := Cond.arrayClass_spec h
  exact ⟨c, fun n z => ⟨(fun k h => by cases h), k, h2, comp, h3⟩, h1⟩
theorem st_obj {C : String} (h : (Cond.arrayOver (.object C)).before args s = true) : ∃ cA : ClassId, ArrOfT s cA (.object C) ∧ va_RA s cA (.object C) := by
  obtain ⟨comp, c, k, h1, h2, h3, h4, h5⟩ := Cond.arrayOver_spec h
  exact ⟨c, fun n z => ⟨(fun k h => by cases h), k, h3, comp, h4⟩, ⟨k, comp, h3, h4, h1, h5⟩⟩
theorem st_arr (hts : ∀ w ∈ lw_tbl, w.before args s = true) (e0 mi : Nat) : ∃ cy : Nat → ClassId, cy 60 = e0 ∧ cy 61 = mi ∧ ∀ (k : Nat) (q : ClassId × FieldType), (tysOf cy)[k]? = some q → ArrOfT s q.1 q.2 ∧ va_RA s q.1 q.2 := by
  obtain ⟨c0, p0, q0⟩ := st_prim (hts _ gy_int)
  obtain ⟨c1, p1, q1⟩ := st_prim (hts _ gy_boolean)
  obtain ⟨c2, p2, q2⟩ := st_obj (hts _ gy_2)
  obtain ⟨c3, p3, q3⟩ := st_obj (hts _ gy_3)
  obtain ⟨c4, p4, q4⟩ := st_obj (hts _ gy_4)
  obtain ⟨c5, p5, q5⟩ := st_obj (hts _ gy_5)
  obtain ⟨c6, p6, q6⟩ := st_obj (hts _ gy_6)
  obtain ⟨c7, p7, q7⟩ := st_obj (hts _ gy_7)
  obtain ⟨c8, p8, q8⟩ := st_prim (hts _ gy_long)
  refine ⟨fun k => if k = 0 then c0 else if k = 1 then c1 else if k = 2 then c2 else if k = 3 then c3 else if k = 4 then c4 else if k = 5 then c5 else if k = 6 then c6 else if k = 7 then c7 else if k = 8 then c8 else if k = 60 then e0 else mi, rfl, rfl, fun k q hq => ?_⟩
  match k, hq with
  | 0, hq => cases hq; exact ⟨p0, q0⟩
  | 1, hq => cases hq; exact ⟨p1, q1⟩
  | 2, hq => cases hq; exact ⟨p2, q2⟩
  | 3, hq => cases hq; exact ⟨p3, q3⟩
  | 4, hq => cases hq; exact ⟨p4, q4⟩
  | 5, hq => cases hq; exact ⟨p5, q5⟩
  | 6, hq => cases hq; exact ⟨p6, q6⟩
  | 7, hq => cases hq; exact ⟨p7, q7⟩
  | 8, hq => cases hq; exact ⟨p8, q8⟩
  | k + 9, hq => cases hq
theorem st_cls (hts : ∀ w ∈ lw_tbl, w.before args s = true) : ∃ bG : va_G, ∀ (c : Nat) (q : vw_C), vwCl[c]? = some q → u_Kn s q.1 q.2.1 q.2.2 (bG.1 c) (bG.2 c) := by
  have h : ∀ c : Nat, ∃ d : ClassId × (Nat → Nat), ∀ q : vw_C, vwCl[c]? = some q → u_Kn s q.1 q.2.1 q.2.2 d.1 d.2 := by
    have one : ∀ {C : String} {T : u_T} {N : Nat} {c : Nat}, vwCl[c]? = some (C, T, N) → (∀ w ∈ u_ws C T N, w ∈ lw_tbl) → Cond.instantiable C N ∈ lw_tbl → ∃ d : ClassId × (Nat → Nat), ∀ q : vw_C, vwCl[c]? = some q → u_Kn s q.1 q.2.1 q.2.2 d.1 d.2 := by
      intro C T N c h1 h2 h3
      obtain ⟨cC, iS, hk⟩ := u_known hts h2 (hts _ h3)
      refine ⟨(cC, iS), fun q hq => ?_⟩
      cases h1.symm.trans hq
      exact hk
    intro c
    match c with
    | 0 => exact one rfl gu_J0 gn_J0
    | 1 => exact one rfl gu_J4 gn_J4
    | 2 => exact one rfl gu_Jx4a65c gn_Jx4a65c
    | 3 => exact one rfl gu_X0 gn_X0
    | 4 => exact one rfl gu_X1 gn_X1
    | 5 => exact one rfl gu_X2 gn_X2
    | 6 => exact one rfl gu_X3 gn_X3
    | 7 => exact one rfl gu_X4 gn_X4
    | 8 => exact one rfl gu_X5 gn_X5
    | 9 => exact one rfl gu_X6 gn_X6
    | 10 => exact one rfl gu_X7 gn_X7
    | 11 => exact one rfl gu_X8 gn_X8
    | 12 => exact one rfl gu_X9 gn_X9
    | 13 => exact one rfl gu_X10 gn_X10
    | 14 => exact one rfl gu_X11 gn_X11
    | c + 15 => exact ⟨(0, fun _ => 0), fun q hq => by cases hq⟩
  obtain ⟨f, hf⟩ := Classical.axiomOfChoice h
  exact ⟨(fun c => (f c).1, fun c => (f c).2), fun c q hq => hf c q hq⟩
/-- what the old cells and the tables hold -/
def gP (A : Nat → Prop) (e0 mi : Nat) (sT : Nat → Nat) (sb L : Nat) (xs : Nat → Int32) : State → Heap → Prop := fun s H =>
  (∀ w ∈ ux, va_Nw w s) ∧ (∀ q ∈ strs, ∃ sa : Nat, vk_R q.1 q.2.1 q.2.2 sa s) ∧ vx_Zq Bundle.tN "UNASSIGNED_STACK" Bundle.steD A s H ∧ vx_Zq Bundle.tN "SUPPRESSED_SENTINEL" Bundle.listD A s H ∧
  (∀ w, w < 1 → va_Z RX11 (sNm w) "[I" (.ref (sT w)) A s H ∧ va_T .int (sT w) (sLen w) (fun j => wi (sAt w j)) A s H) ∧
  (va_Z "java/util/ArrayList" "DEFAULTCAPACITY_EMPTY_ELEMENTDATA" "[Ljava/lang/Object;" (.ref e0) A s H ∧ va_T (.object "java/lang/Object") e0 0 (fun _ => .null) A s H ∧ va_Mi "[Ljava/lang/Object;" mi s) ∧
  (∀ e e', e < 3 → e' < 3 → e ≠ e' → va_Nc (exN e) (exN e') s) ∧ va_T .int sb L (fun j => .int (xs j)) A s H
theorem gP_OC {b0 : Nat} {bG : va_G} {cy : Nat → ClassId} {F : Md → va_W} {e0 mi sb L : Nat} {sT : Nat → Nat} {xs : Nat → Int32} : OC (b0, bG, cy, F, gP (fun q => b0 ≤ q) e0 mi sT sb L xs) := by
  intro s s' H H' hW hq h
  obtain ⟨h1, h2, h3, h4, h5, ⟨h6, h7, h8⟩, h9, h10⟩ := h
  have hA : s.vm.Alike s'.vm := hW.alike
  have hk : ∀ a : Nat, a < H.size → ¬ (fun q : Nat => b0 ≤ q) a → H'[a]? = H[a]? := fun a _ h => hq a (Nat.not_le.mp h)
  refine ⟨fun w hw => ux_warm (List.mem_filter.mp hw).2 hW (h1 w hw), fun q hq => ?_, (h3.moved hA).kept hk, (h4.moved hA).kept hk, fun w hw => ⟨((h5 w hw).1.moved hA).kept hk, ((h5 w hw).2.moved hA).kept hk⟩, ⟨(h6.moved hA).kept hk, (h7.moved hA).kept hk, h8.moved hA⟩, fun e e' he he' hne => (h9 e e' he he' hne).moved hA, (h10.moved hA).kept hk⟩
  obtain ⟨sa, hsa⟩ := h2 q hq
  exact ⟨sa, vk_R.warm hW hsa⟩
theorem ux_of {w : Cond} (h : uxW w = true) (hb : w.before args s = true) : va_Nw w s := by
  cases w with
  | fieldLinkNest => exact va_Nw.of rfl hb
  | methodLinkNest => exact va_Nw.of rfl hb
  | castable => exact va_Nw.of rfl hb
  | declares => exact va_Nw.of rfl hb
  | privateMethod x => exact va_Nw.of rfl hb
  | arrayOver t =>
    cases t with
    | object C => exact hb
    | _ => cases h
  | _ => cases h
theorem st_T0 (hg : ∀ w ∈ gvL, w.before args s = true) {A : Nat → Prop} (hA : ∀ a : Nat, a < s.heap.size → ¬ A a) : ∃ t : Nat, (Term.static "Weaveword" "TOKEN_VALUES" "[I").eval args s none [] s = some (.ref t) ∧ va_T .int t (sLen 0) (fun j => wi (sAt 0 j)) A s s.heap := by
  refine va_Tof (N := 14) (by decide) (hg _ gv_a0) (va_eqt (hg _ gv_l0)) (fun j hj => ?_) hA
  match j, hj with
  | 0, _ => exact va_eqt (hg _ gv_e0_0)
  | 1, _ => exact va_eqt (hg _ gv_e0_1)
  | 2, _ => exact va_eqt (hg _ gv_e0_2)
  | 3, _ => exact va_eqt (hg _ gv_e0_3)
  | 4, _ => exact va_eqt (hg _ gv_e0_4)
  | 5, _ => exact va_eqt (hg _ gv_e0_5)
  | 6, _ => exact va_eqt (hg _ gv_e0_6)
  | 7, _ => exact va_eqt (hg _ gv_e0_7)
  | 8, _ => exact va_eqt (hg _ gv_e0_8)
  | 9, _ => exact va_eqt (hg _ gv_e0_9)
  | 10, _ => exact va_eqt (hg _ gv_e0_10)
  | 11, _ => exact va_eqt (hg _ gv_e0_11)
  | 12, _ => exact va_eqt (hg _ gv_e0_12)
  | 13, _ => exact va_eqt (hg _ gv_e0_13)
  | j + 14, hj => exact absurd hj (by omega)
theorem st_old (hts : ∀ w ∈ lw_tbl, w.before args s = true) (hg : ∀ w ∈ gvL, w.before args s = true) {A : Nat → Prop} (hA : ∀ a : Nat, a < s.heap.size → ¬ A a) {sb L : Nat} {xs : Nat → Int32} (hL : L ≤ 260) (hX : va_X sb L xs s s.heap) (hsb : sb < s.heap.size) :
    ∃ (e0 mi : Nat) (sT : Nat → Nat), gP A e0 mi sT sb L xs s s.heap := by
  obtain ⟨t0, v0, k0⟩ := st_T0 hg hA
  obtain ⟨e0, v2, k2⟩ := va_Tof (tm := .static "java/util/ArrayList" "DEFAULTCAPACITY_EMPTY_ELEMENTDATA" "[Ljava/lang/Object;") (ty := .object "java/lang/Object") (N := 0) (f := fun _ => .null) (by decide) (hg _ gv_da) (va_eqt (hg _ gv_dl)) (fun j hj => absurd hj (Nat.not_lt_zero _)) hA
  obtain ⟨mi, k3⟩ := va_Mi.of (hg _ gv_mi)
  obtain ⟨scr, x1, x2, x3, x4, x5⟩ := hX
  refine ⟨e0, mi, fun _ => t0, fun w hw => ux_of (List.mem_filter.mp hw).2 (hts _ (List.mem_filter.mp hw).1), fun q hq => ?_, vx_Zqof (hts _ gl_us) (hts _ gi_us) (hg _ gv_us) hA, vx_Zqof (hts _ gl_ss) (hts _ gi_ss) (hg _ gv_ss) hA, fun w hw => ?_, ⟨va_Zof (hts _ gl_dc) (hts _ gi_dc) v2 hA, k2, k3⟩, fun e e' he he' hne => ?_, scr, x1, x2, x3, by omega, by rw [x4], x5, hA _ hsb⟩
  · obtain ⟨w1, w2⟩ := gv_strs q hq
    obtain ⟨a, c, cell, k, h1, -⟩ := Cond.exactly_spec (hg _ w2)
    exact ⟨a, vk_R.of (hts _ w1) h1⟩
  · match w, hw with
    | 0, _ => exact ⟨va_Zof (hts _ gl_t0) (hts _ gi_t0) v0 hA, k0⟩
    | w + 1, hw => exact absurd hw (by omega)
  · match e, e', he, he', hne with
    | 0, 0, _, _, h => exact absurd rfl h
    | 0, 1, _, _, _ => exact va_Nc.of (hg _ gv_n01)
    | 0, 2, _, _, _ => exact va_Nc.of (hg _ gv_n02)
    | 1, 0, _, _, _ => exact va_Nc.of (hg _ gv_n10)
    | 1, 1, _, _, h => exact absurd rfl h
    | 1, 2, _, _, _ => exact va_Nc.of (hg _ gv_n12)
    | 2, 0, _, _, _ => exact va_Nc.of (hg _ gv_n20)
    | 2, 1, _, _, _ => exact va_Nc.of (hg _ gv_n21)
    | 2, 2, _, _, h => exact absurd rfl h
    | e + 3, _, h, _, _ => exact absurd h (by omega)
    | 0, e + 3, _, h, _ => exact absurd h (by omega)
    | 1, e + 3, _, h, _ => exact absurd h (by omega)
    | 2, e + 3, _, h, _ => exact absurd h (by omega)
end START
theorem same_nil {s t : State} {L : List Loc} {k n k2 n2 : Nat} (h : s.sameButNew t L k n) (hL : ∀ q ∈ L, s.heap.size ≤ q.base) (hk : k ≤ k2) (hn : n ≤ n2) : s.sameButNew t [] k2 n2 := by
  obtain ⟨h1, h2, h3, h4, h5, h6⟩ := h
  refine ⟨h1, h2, by omega, h4, by omega, fun a c hc => ?_⟩
  obtain ⟨c', g1, g2, g3, g4⟩ := h6 a c hc
  refine ⟨c', g1, g2, g3, fun i _ => g4 i (fun z => ?_)⟩
  have h7 := hL _ z
  have h8 := (Array.getElem?_eq_some_iff.mp hc).1
  exact absurd h7 (Nat.not_le.mpr h8)
/-- from the entry, for every script of at most 260 ints, the law comes to its end with true -/
theorem whole_start {p : Program} {e : Jvm.Env} {s : State} {m : MethodId} {below : List Frame} {meth : Method} {c : Code} (l : Launch) (hflags : l.flags = flags0) {b L : Nat} {xs : Nat → Int32} (hL : L ≤ 260) (hnm : meth.name = yL_law.name) (hT : c.exceptionTable.toList = []) (C0 : lw_At p s m meth c b L xs) : W p l e room_1 s m #[Value.ref b] below meth c s.heap [] 0 0 (lw_Z below #[Value.ref b] s) (entryFrame m ([Value.ref b] : List Value).toArray 35) := by
  obtain ⟨hx, hb, hr, hml, hown, hts, hX, hbl, hlocks, hgv⟩ := id C0
  have hA : ∀ a : Nat, a < s.heap.size → ¬ (fun q : Nat => s.heap.size ≤ q) a := fun a h => Nat.not_le.mpr h
  have hg : ∀ w ∈ gvL, w.before #[Value.ref b] s = true := flat_of_before _ hgv
  obtain ⟨e0, mi, sT, hold⟩ := st_old hts hg hA hL hX hbl
  obtain ⟨cy, y60, y61, hcy⟩ := st_arr hts e0 mi
  obtain ⟨bG, hbG⟩ := st_cls hts
  have hlt : l.stackTraces = false := by
    unfold Launch.stackTraces
    rw [hflags]
    decide
  have oG : GK (s.heap.size, bG, cy, fA cy, gP (fun q => s.heap.size ≤ q) e0 mi sT b L xs) l := by
    refine ⟨hlt, fun s' H h => ⟨h.1, h.2.1, h.2.2.1, h.2.2.2.1⟩, fun s' H h => ?_⟩
    show va_Z _ _ _ (.ref (cy 60)) _ _ _ ∧ va_T _ (cy 60) _ _ _ _ _ ∧ va_Mi _ (cy 61) _
    rw [y60, y61]
    exact h.2.2.2.2.2.1
  obtain ⟨σ', hrun, hc1, hc2⟩ := law_run (l := l) (b0 := s.heap.size) (bG := bG) (cy := cy) (g := gP (fun q => s.heap.size ≤ q) e0 mi sT b L xs) (sb := b) (b := s.heap.size) (Ls := L) (xs := xs) (T := c.exceptionTable.toList) (sT := sT) oG (fun s' H h => h.2.2.2.2.2.2.1) (fun s' H h => h.2.2.2.2.1) (fun s' H h => h.2.2.2.2.2.2.2) hL (by omega) hT
  obtain ⟨m1, m2, K⟩ := hrun 1 σ' rfl
  have hl := lv_entry ([.ref b]) (n := 35) (Nat.le_of_ble_eq_true rfl)
  rw [lg_entry_eq]
  generalize (lg_sl ([.ref b]) ++ List.replicate (35 - (lg_sl ([.ref b])).length) Slot.unset).toArray = ls at hl ⊢
  have hl : lv_has ls 35 [(0, .ref b)] := hl
  have hK : va_K bG vwCl (tysOf cy) s := ⟨hbG, hcy⟩
  have z1 : csz σ'.2 - s.heap.size ≤ 600130 := by omega
  have z2 : csl σ'.2 - 0 ≤ 7301080 := by omega
  have ew : wl (s.heap.size, bG, cy, fA cy, gP (fun q => s.heap.size ≤ q) e0 mi sT b L xs) (M00, C00 s.heap.size) = [] := by
    have e1 : wIx M00 = [] := by decide
    show (wIx M00).map (wRow cy M00) ++ _ = []
    rw [e1]
    rfl
  have hR0 : RelE (s.heap.size, bG, cy, fA cy, gP (fun q => s.heap.size ≤ q) e0 mi sT b L xs) (M00, C00 s.heap.size) s.heap := by
    unfold RelE
    rw [ew]
    exact ⟨fun k x h => (by cases h), ⟨fun i j p q h => (by cases h), fun k x h => (by cases h)⟩, rfl⟩
  have k := K p e room_1 s m #[Value.ref b] below meth c ⟨hx, hb, hr, hml, hown, fun w hw => hts w (List.mem_filter.mp hw).1, rfl, hlocks, hK, by decide, by decide, hnm, gP_OC, Nat.le_refl _, hold⟩ s.heap.size 0 s.heap [] ls rfl (Nat.le_refl _) z1 z2 hR0 va_S.rf hl
  have e1 : csz (emL (M00, C00 s.heap.size)).2 - s.heap.size = 0 := Nat.sub_self _
  have e2 : csl (emL (M00, C00 s.heap.size)).2 - 0 = 0 := rfl
  rw [e1, e2] at k
  intro T hT X
  obtain ⟨t, st, o, b1, b2, b3⟩ := k T hT X
  refine ⟨t, st, o, b1, b2, ?_⟩
  rcases b3 with ⟨⟨⟨v, v1, v2⟩, -⟩, Lc, ⟨f1, f2, f3⟩, hLc⟩ | ⟨q, -, E, ce, Lc, ⟨w1, -⟩, -⟩
  · cases v1
    subst v2
    exact ⟨rfl, ⟨_, rfl⟩, f2, same_nil f3 hLc z1 z2⟩
  · cases w1
set_option maxHeartbeats 4000000 in
theorem lw_walk (l : Launch) (hflags : l.flags = flags0) (b : Addr) (xs : List Int32) : MetFree l x (headSpec (Jvm.Cond.code x code maxLocals ret :: tables_1) room_1) (lw_P b xs) (fun _ _ _ _ _ => True) lw_Q := by
  refine MetFree.of_bodyS (code := code) (maxLocals := maxLocals) (ret := ret) (by decide) ?_ ?_
  · intro args s m h hn
    obtain ⟨meth, c, h1, h2, h3, h4, h5, h6, -, -⟩ := Cond.code_spec hn (atoms_spec (ws := Jvm.Cond.code x code maxLocals ret :: tables_1) h _ List.mem_cons_self)
    exact ⟨meth, c, h1, h2, h3, h4, h5, h6⟩
  · intro p e s m args below meth c s₁ B hml0 hP _
    obtain ⟨rfl, hx, hbd, hgv⟩ := hP
    obtain ⟨scr, harrAt, hlist, hof, hsmall⟩ := hx
    obtain ⟨hcb, hkn, -, -⟩ := State.arrayAt?_spec harrAt
    have hown : s.vm.findClass R_law = some m.cls := findClass_of_methodNamed B.named
    have hts0 : ∀ c ∈ (Jvm.Cond.code x code maxLocals ret :: tables_1), c.before #[Value.ref b] s = true := atoms_spec (ws := Jvm.Cond.code x code maxLocals ret :: tables_1) B.pre
    have hts : ∀ w ∈ lw_tbl, w.before #[Value.ref b] s = true := k2_hts_sels lw_privs (fun w hw => hts0 w (List.mem_cons_of_mem _ hw)) lw_privs_ok
    have hml : c.maxLocals = 35 := B.maxLocals_eq (hts0 _ List.mem_cons_self)
    have X₀ : Stand p l e room_1 s m #[Value.ref b] below meth c s₁ [] 0 0 := Stand.of_body B
    have hh0 : s₁.heap = s.heap := by rw [B.state]; rfl
    have hsz : scr.slots.size = xs.length := by rw [← Array.length_toList, hlist, List.length_map]
    have hval : ∀ j : Nat, j < xs.length → scr.slots[j]? = some (.int (xs.getD j 0)) := fun j hj => by
      rw [← Array.getElem?_toList, hlist]
      simp [hj]
    have hbl : b < s.heap.size := (Array.getElem?_eq_some_iff.mp hcb).1
    have hX : va_X b xs.length (fun j => xs.getD j 0) s s.heap := ⟨scr, hcb, hof, hkn, hsz, hval⟩
    have K : W p l e room_1 s m #[Value.ref b] below meth c s₁.heap [] 0 0 (lw_Z below #[Value.ref b] s) (entryFrame m ([Value.ref b] : List Value).toArray 35) := by
      rw [hh0]
      have hT : c.exceptionTable.toList = [] := by
        obtain ⟨meth9, c9, h1, h2, -, -, -, -, h7, -⟩ := Cond.code_spec B.named (hts0 _ List.mem_cons_self)
        cases Option.some.inj (h1.symm.trans B.method)
        cases Option.some.inj (h2.symm.trans X₀.code)
        rw [Array.isEmpty_iff.mp h7]
      exact whole_start l hflags hbd (name_of_methodNamed B.named B.method).1 hT ⟨B.exec, B.bytes, B.returns, hml, hown, hts, hX, hbl, B.notSynchronized, hgv⟩
    obtain ⟨t, a1, o, b1, b2, b3⟩ := K s₁ rfl X₀
    exact ⟨t, o, a1, b1, b2, b3⟩
theorem lw_pre_spec {args : Array Value} {s : State} (h : (Jvm.Cond.and given_1 narrow_1).before args s = true) (hr : rest_1_c.before args s = true) : ∃ (b : Addr) (xs : List Int32), lw_P b xs args s := by
  have hs := flat_of_before _ h
  have hq := flat_of_before _ hr
  have hc : (Cond.count 1).before args s = true := hs _ (by decide +kernel)
  have harr : (Cond.arrayOf (.arg 0) .int).before args s = true := hs _ (by decide +kernel)
  have hle : (Cond.le (.length (.arg 0)) (.int 260)).before args s = true := hs _ (by decide +kernel)
  have hlen : (Cond.isInt (.length (.arg 0))).before args s = true := hq _ (by decide +kernel)
  have hall : (Cond.all (.arg 0) (.isInt (.elem (.arg 0) (.index 0)))).before args s = true := hq _ (by decide +kernel)
  obtain ⟨b, xs, hb, hx⟩ := State.ints_of_pre rfl harr hlen hall
  have hsm : xs.length < 2 ^ 31 := hx.choose_spec.2.2.2
  have hev : (Term.length (.arg 0)).eval args s none [] s = some (.int xs.length.toInt32) := hx.length_eval hb
  have hv := Cond.le_ints hev (show (Term.int 260).eval args s none [] s = some (.int 260) from rfl)
  have hd : xs.length.toInt32 ≤ 260 := by
    simpa [Cond.before, Cond.holds, hv] using hle
  have hN : xs.length ≤ 260 := (Int32.ofNat_le_ofNat hsm (by decide)).mp (show Int32.ofNat xs.length ≤ Int32.ofNat 260 from hd)
  exact ⟨b, xs, Cond.one_arg hc (show args[0]? = some (.ref b) from hb), hx, hN, h⟩
theorem lw_comes (l : Launch) (hflags : l.flags = flags0) : Comes l x (Jvm.Cond.code x code maxLocals ret :: tables_1) room_1 (fun tb e args s => Calls_1 tb e args s ∧ rest_1 tb e args s ∧ Pre_1 tb e args s)
    (fun _ _ args s o t => lw_Q args s o t) := by
  intro p e ha hc hk s m args below hf hfit hheap happ hpre
  obtain ⟨b, xs, hP⟩ := lw_pre_spec hpre.2.2 hpre.2.1
  obtain ⟨k, o, h1, h2, h3, hQ⟩ := lw_walk l hflags b xs p e ha hc hk s m args below hf ((Spec.applies_iff_loose hf).mp happ).1 hP trivial
  exact ⟨k, o, h1, h2, h3, hQ⟩
theorem lw_frame {s t : State} {o : Outcome} {args : Array Value} (h : Framed s o t [] 600130 7301080) :
    Framed s o t (fieldLocs frame_1_writes args s ++ arrayLocs frame_1_arrays args s ++ staticLocs frame_1_statics s) 600130 7301080 := h
theorem lw_limb (L : Cond) (hL : ∀ (args : Array Value) (s t : State), L.after args s (.returned (some (.int 1))) t = true) :
    ArmFor flags0 classFile x code maxLocals ret World_1 tables_1 room_1 Calls_1 rest_1 Pre_1
      (fun tb e a s o t => postC L tb e a s o t ∧ Framed s o t (fieldLocs frame_1_writes a s ++ arrayLocs frame_1_arrays a s ++ staticLocs frame_1_statics s) 600130 7301080) := by
  intro l hflags _ _ p e ha hc hk s m args below hf hfit hheap happ hpre
  obtain ⟨k, o, h1, h2, h3, rfl, hF⟩ := lw_comes l hflags p e ha hc hk s m args below hf hfit hheap happ hpre
  exact ⟨k, _, h1, h2, h3, hL args s _, lw_frame hF⟩
theorem i_vc : Claimed_1_1 ∧ Claimed_1_2 := ⟨lw_limb limb_1_1 (fun args s t => by simp [limb_1_1, Cond.after, Cond.holds, Cond.value]), lw_limb limb_1_2 (fun args s t => Cond.after_iff.mpr (by
  first | (rw [show limb_1_2 = Cond.eq .result (.int 1) from rfl, Cond.eq_ints (x := 1) (y := 1) rfl rfl]; simp; done) | (simp [limb_1_2, Cond.value, Term.eval]; done)))⟩
