/-! WHAT IS THROWN -/
abbrev xNames : List String := ["java/lang/RuntimeException", "java/lang/Exception"]
def xIk (e : Nat) : Nat := if e = 0 then 62 else if e = 1 then 72 else 139
def xIc (e : Nat) : Nat := if e = 0 then 66 else if e = 1 then 76 else 143
theorem xw_0 : (vx_atS RX11 66 (exN 0) xNames).all (fun w => decide (w ∈ lw_tbl) && (goodWord w || uxW w)) = true := by decide +kernel
theorem xg_0 : (Cond.classLink RX11 (xIk 0) (exN 0) :: Cond.initialized (exN 0) :: vx_atS RX11 (xIc 0) (exN 0) xNames).all vx_ot = true := by decide +kernel
theorem xw_1 : (vx_atS RX11 76 (exN 1) xNames).all (fun w => decide (w ∈ lw_tbl) && (goodWord w || uxW w)) = true := by decide +kernel
theorem xg_1 : (Cond.classLink RX11 (xIk 1) (exN 1) :: Cond.initialized (exN 1) :: vx_atS RX11 (xIc 1) (exN 1) xNames).all vx_ot = true := by decide +kernel
theorem xw_2 : (vx_atS RX11 143 (exN 2) xNames).all (fun w => decide (w ∈ lw_tbl) && (goodWord w || uxW w)) = true := by decide +kernel
theorem xg_2 : (Cond.classLink RX11 (xIk 2) (exN 2) :: Cond.initialized (exN 2) :: vx_atS RX11 (xIc 2) (exN 2) xNames).all vx_ot = true := by decide +kernel
theorem xw_at {e : Nat} (he : e < 3) {s : State} {args : Array Value} (hu : ∀ w ∈ uw, w.before args s = true) (hx : ∀ w ∈ ux, va_Nw w s) : ∀ w ∈ vx_atS RX11 (xIc e) (exN e) xNames, w.before args s = true := by
  intro w hw
  have h : (vx_atS RX11 (xIc e) (exN e) xNames).all (fun w => decide (w ∈ lw_tbl) && (goodWord w || uxW w)) = true := by
    rcases (show e = 0 ∨ e = 1 ∨ e = 2 by omega) with rfl | rfl | rfl
    · exact xw_0
    · exact xw_1
    · exact xw_2
  have h2 := List.all_eq_true.mp h w hw
  simp only [Bool.and_eq_true, decide_eq_true_eq, Bool.or_eq_true] at h2
  rcases h2.2 with g | g
  · exact hu w (List.mem_filter.mpr ⟨h2.1, g⟩)
  · exact uxW_b g (hx w (List.mem_filter.mpr ⟨h2.1, g⟩))
theorem xg_at {e : Nat} (he : e < 3) : ∀ w ∈ Cond.classLink RX11 (xIk e) (exN e) :: Cond.initialized (exN e) :: vx_atS RX11 (xIc e) (exN e) xNames, vx_ot w = true := by
  intro w hw
  rcases (show e = 0 ∨ e = 1 ∨ e = 2 by omega) with rfl | rfl | rfl
  · exact List.all_eq_true.mp xg_0 w hw
  · exact List.all_eq_true.mp xg_1 w hw
  · exact List.all_eq_true.mp xg_2 w hw
theorem xk_at {e : Nat} (he : e < 3) : Cond.classLink RX11 (xIk e) (exN e) ∈ uw ∧ Cond.initialized (exN e) ∈ uw := by
  rcases (show e = 0 ∨ e = 1 ∨ e = 2 by omega) with rfl | rfl | rfl
  · exact ⟨uw_mem 496 (by decide +kernel) rfl, uw_mem 126 (by decide +kernel) rfl⟩
  · exact ⟨uw_mem 805 (by decide +kernel) rfl, uw_mem 109 (by decide +kernel) rfl⟩
  · exact ⟨uw_mem 428 (by decide +kernel) rfl, uw_mem 106 (by decide +kernel) rfl⟩
theorem xf_at {e : Nat} (he : e < 3) : Bundle.fit (exN e) = true := by
  rcases (show e = 0 ∨ e = 1 ∨ e = 2 by omega) with rfl | rfl | rfl <;> decide +kernel
section THROW
variable {ρ : Type} {l : Launch} {Γ : Cx} {k : Kd} {d : Nat} {g : ρ → Option Value} {M0 : Md} {pc : Nat} {lo : List (Nat × Value)} {st rest : List Value} {C : Cd}
theorem r_throw {e is : Nat} {text : String} (hG : GK Γ l) (hown : k.1.cls = RX11) (htb : k.2.2.2.2 = []) (he : e < 3) (hd6 : 6 ≤ d) (hst : (RX11, is, text) ∈ strs) (hW : (rest.map fun v => v.category).sum ≤ 8)
    (d0 : decode k.2.1 pc = .ok (.new (xIk e), 3)) (d3 : decode k.2.1 (pc + 3) = .ok (.dup, 1)) (d4 : decode k.2.1 (pc + 4) = .ok (.ldc is, 2)) (d6 : decode k.2.1 (pc + 6) = .ok (.invokespecial (xIc e), 3)) (d9 : decode k.2.1 (pc + 9) = .ok (.athrow, 1)) :
    RunO l Γ k d (encX g) (emC M0) pc lo rest C (some (.inr e, cBump C)) := by
  intro r σ' hX
  cases hX
  refine ⟨Nat.le_succ _, Nat.le_add_right _ _, fun p ee R s m args below meth c0 hm z0 l0 H locs ls a1 a2 a3 a4 hR hS hl => ?_⟩
  obtain ⟨x1, x2, x3, x4⟩ := hG.2.1 s s.heap hm.2.2.2.2.2.2.2.2.2.2.2.2.2.2
  obtain ⟨sa, hsa⟩ := x2 _ hst
  have hts := hm.2.2.2.2.2.1
  have hdf := hm.2.2.2.2.2.2.2.2.2.1
  have hdl := hm.2.2.2.2.2.2.2.2.2.2.1
  have hz : H.size = csz C := hR.2.2
  have hz0 : z0 ≤ csz C := by rw [a1, ← hz]; exact hS.1
  have a3' : csz C + 1 - z0 ≤ R.cells := a3
  have a4' : csl C + 6 - l0 ≤ R.slots := a4
  have a2' : l0 ≤ csl C := a2
  have hlen : xNames.length = 2 := rfl
  refine cx_throwS (own := RX11) (cls := exN e) (text := text) (names := xNames) (sa := sa) (A := inA Γ) hm.1 hm.2.1 hG.1 (by rw [← hown]; exact hm.2.2.2.2.1) (xf_at he) (by decide +kernel) (hts _ (xk_at he).1) (hts _ (xk_at he).2) hsa (xw_at he hts x1) (xg_at he) x3 x4 hS (hl.1.trans hm.2.2.2.1.symm) d0 d3 d4 d6 d9 (fun x hx => ?_) (by rw [hlen]; omega) (by rw [hlen]; omega) (by show csz C - z0 + 1 ≤ R.cells; omega) (by show csl C - l0 + 6 ≤ R.slots; omega) hm.2.2.2.2.2.2.2.1 (fun t hA h1 h2 => ?_) hS.2.2 (by show csz C - z0 + 1 ≤ csz C + 1 - z0; omega) (by show csl C - l0 + 6 ≤ csl C + 6 - l0; omega)
  · rw [hm.2.2.2.2.2.2.1, htb] at hx
    cases hx
  · obtain ⟨hP, hD, -⟩ := hR
    refine ⟨rfl, ⟨hP.kept (fun k x hx => h2 x.1 ((hP k x hx).lt)), hD, ?_⟩, ?_, fun q q1 q2 => ?_⟩
    · show t.heap.size = csz C + 1
      rw [h1, hz]
    · rw [h1]
      exact Nat.le_succ_of_le hS.1
    · rw [h2 q (Nat.lt_of_lt_of_le q1 hS.1)]
      exact hS.2.1 q q1 q2
theorem r_throwW {e is : Nat} {text : String} (hG : GK Γ l) (hown : k.1.cls = RX11) (htb : k.2.2.2.2 = []) (he : e < 3) (hd6 : 6 ≤ d) (hst : (RX11, is, text) ∈ strs) (hW : (rest.map fun v => v.category).sum ≤ 8)
    (d0 : decode k.2.1 pc = .ok (.new (xIk e), 3)) (d3 : decode k.2.1 (pc + 3) = .ok (.dup, 1)) (d4 : decode k.2.1 (pc + 4) = .ok (.ldc_w is, 3)) (d7 : decode k.2.1 (pc + 7) = .ok (.invokespecial (xIc e), 3)) (d10 : decode k.2.1 (pc + 10) = .ok (.athrow, 1)) :
    RunO l Γ k d (encX g) (emC M0) pc lo rest C (some (.inr e, cBump C)) := by
  intro r σ' hX
  cases hX
  refine ⟨Nat.le_succ _, Nat.le_add_right _ _, fun p ee R s m args below meth c0 hm z0 l0 H locs ls a1 a2 a3 a4 hR hS hl => ?_⟩
  obtain ⟨x1, x2, x3, x4⟩ := hG.2.1 s s.heap hm.2.2.2.2.2.2.2.2.2.2.2.2.2.2
  obtain ⟨sa, hsa⟩ := x2 _ hst
  have hts := hm.2.2.2.2.2.1
  have hdf := hm.2.2.2.2.2.2.2.2.2.1
  have hdl := hm.2.2.2.2.2.2.2.2.2.2.1
  have hz : H.size = csz C := hR.2.2
  have hz0 : z0 ≤ csz C := by rw [a1, ← hz]; exact hS.1
  have a3' : csz C + 1 - z0 ≤ R.cells := a3
  have a4' : csl C + 6 - l0 ≤ R.slots := a4
  have a2' : l0 ≤ csl C := a2
  have hlen : xNames.length = 2 := rfl
  refine cx_throwSW (own := RX11) (cls := exN e) (text := text) (names := xNames) (sa := sa) (A := inA Γ) hm.1 hm.2.1 hG.1 (by rw [← hown]; exact hm.2.2.2.2.1) (xf_at he) (by decide +kernel) (hts _ (xk_at he).1) (hts _ (xk_at he).2) hsa (xw_at he hts x1) (xg_at he) x3 x4 hS (hl.1.trans hm.2.2.2.1.symm) d0 d3 d4 d7 d10 (fun x hx => ?_) (by rw [hlen]; omega) (by rw [hlen]; omega) (by show csz C - z0 + 1 ≤ R.cells; omega) (by show csl C - l0 + 6 ≤ R.slots; omega) hm.2.2.2.2.2.2.2.1 (fun t hA h1 h2 => ?_) hS.2.2 (by show csz C - z0 + 1 ≤ csz C + 1 - z0; omega) (by show csl C - l0 + 6 ≤ csl C + 6 - l0; omega)
  · rw [hm.2.2.2.2.2.2.1, htb] at hx
    cases hx
  · obtain ⟨hP, hD, -⟩ := hR
    refine ⟨rfl, ⟨hP.kept (fun k x hx => h2 x.1 ((hP k x hx).lt)), hD, ?_⟩, ?_, fun q q1 q2 => ?_⟩
    · show t.heap.size = csz C + 1
      rw [h1, hz]
    · rw [h1]
      exact Nat.le_succ_of_le hS.1
    · rw [h2 q (Nat.lt_of_lt_of_le q1 hS.1)]
      exact hS.2.1 q q1 q2
end THROW
