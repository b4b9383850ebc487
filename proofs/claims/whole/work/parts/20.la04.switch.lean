/-! FROM THE CLASS'S CELLS TO THE REFERENCE'S -/
section MSW
variable {C C' : Cd} {mo : Nat} {Γ : Cx}
theorem vaD_pw {A : Nat → Prop} {ws : va_W} (h : va_D A ws) : ws.Pairwise (fun p q => p.1 ≠ q.1) := by
  rw [List.pairwise_iff_getElem]
  intro i j hi hj hij e
  have := h.1 i j _ _ (List.getElem?_eq_getElem hi) (List.getElem?_eq_getElem hj) e
  omega
theorem vaD_of {A : Nat → Prop} {ws : va_W} (h : ws.Pairwise (fun p q => p.1 ≠ q.1)) (ha : ∀ q ∈ ws, A q.1) : va_D A ws := by
  rw [List.pairwise_iff_getElem] at h
  refine ⟨fun i j p q hp hq e => ?_, fun k q hq => ha q (List.mem_of_getElem? hq)⟩
  obtain ⟨hi, ei⟩ := List.getElem?_eq_some_iff.mp hp
  obtain ⟨hj, ej⟩ := List.getElem?_eq_some_iff.mp hq
  rcases Nat.lt_trichotomy i j with g | g | g
  · exact absurd (by rw [ei, ej]; exact e) (h i j hi hj g)
  · exact g
  · exact absurd (by rw [ei, ej]; exact e.symm) (h j i hj hi g)
theorem vaP_mem {D : va_G} {cl : List vw_C} {ws : va_W} {H : Heap} (h : va_P D cl ws H) {q : Nat × va_E} (hq : q ∈ ws) : va_at D cl q H := by
  obtain ⟨k, hk⟩ := List.getElem?_of_mem hq
  exact h k q hk
theorem vaP_of {D : va_G} {cl : List vw_C} {ws : va_W} {H : Heap} (h : ∀ q ∈ ws, va_at D cl q H) : va_P D cl ws H := fun k q hq => h q (List.mem_of_getElem? hq)
theorem vaD_mem {A : Nat → Prop} {ws : va_W} (h : va_D A ws) {q : Nat × va_E} (hq : q ∈ ws) : A q.1 := by
  obtain ⟨k, hk⟩ := List.getElem?_of_mem hq
  exact h.2 k q hk
/-- the class's cells below a place -/
def cut (mo : Nat) (C : Cd) : Cd := (C.1, C.2.1, C.2.2.1, C.2.2.2.1, C.2.2.2.2.1, C.2.2.2.2.2.1, (cL C).filter (fun a => decide (a < mo)), csz C, csl C)
/-- the reference as its rows lie there -/
def mI0 (mo : Nat) (C : Cd) : Md := (fun _ => 0, fun k j => if k ∈ mKs then cE C (maA mo k) j else 0)
theorem mKs_isR : ∀ k, k < 79 → mIs.contains k = !isR (100 * 15 + k) ∧ (mIs.contains k = false → k ∈ mKs) := by decide +kernel
theorem mKs_pw : mKs.Pairwise (fun k k' => maI k ≠ maI k') := by decide +kernel
theorem mI0_z (h : MaO mo C) : Mz (mI0 mo C) := by
  obtain ⟨h1, h2, h3, h4, h5⟩ := h
  refine ⟨fun _ => rfl, fun k i a b c => ?_, fun t ht => ?_, fun k hk => ?_⟩
  · show (if k ∈ mKs then cE C (maA mo k) i else 0) = 0
    split
    · exact (h3 k (by assumption)).2.2.2 a b c i
    · rfl
  · exact h4 t ht
  · exact h5 k hk
theorem mObj_eq (h : MaO mo C) (M : Md) (hM : ∀ k, M.1 k = 0 ∨ 79 ≤ k) : mObj (maA mo) M = (List.range (nF 15)).map (fun k => fV Γ C mo 15 k) := by
  unfold mObj
  show List.map _ (List.range 79) = List.map _ (List.range 79)
  refine List.map_congr_left (fun k hk => ?_)
  have hk := List.mem_range.mp hk
  obtain ⟨h1, h2⟩ := mKs_isR k hk
  unfold fV
  cases hc : mIs.contains k with
  | true =>
    rw [hc] at h1
    rw [if_pos rfl, if_neg (by rw [show isR (100 * 15 + k) = false by cases hh : isR (100 * 15 + k) with | true => rw [hh] at h1; exact absurd h1 (by decide) | false => rfl]; decide), h.2.1]
    rcases hM k with e | e
    · rw [e]
    · omega
  | false =>
    rw [hc] at h1
    rw [if_neg (by decide), if_pos (by cases hh : isR (100 * 15 + k) with | true => rfl | false => rw [hh] at h1; exact absurd h1 (by decide))]
    have h3 := (h.2.2.1 k (h2 hc)).2.2.1
    unfold rN
    rw [if_neg (fun y => by have := y.1; omega), show 100 * 15 + k = 1500 + k from rfl, h3]
    rfl
theorem mSwitch {M0 M2 : Md} (h0 : Γ.2.2.2.1 M0 = []) (h2 : Γ.2.2.2.1 M2 = mCells Γ.2.2.1 mo (maA mo) (mI0 mo C)) (hb : Γ.1 ≤ mo) (h : MaO mo C) {H : Heap} (hR : RelE Γ (M0, C) H) : RelE Γ (M2, cut mo C) H := by
  obtain ⟨hP, hD, hz⟩ := hR
  have e1 : wl Γ (M0, C) = va_pl (cL C) (cfE Γ C) := by unfold wl; rw [h0]; rfl
  have e2 : wl Γ (M2, cut mo C) = mCells Γ.2.2.1 mo (maA mo) (mI0 mo C) ++ va_pl ((cL C).filter (fun a => decide (a < mo))) (cfE Γ C) := by unfold wl; rw [h2]; rfl
  rw [e1] at hP hD
  have hmem : ∀ {a t : Nat}, isO C a t → (a, cfE Γ C a) ∈ va_pl (cL C) (cfE Γ C) := fun ha => List.mem_map.mpr ⟨_, ha.1, rfl⟩
  have c15 : cfE Γ C mo = .inr (15, mObj (maA mo) (mI0 mo C)) := by
    unfold cfE
    rw [h.1.2, if_pos (by decide), mObj_eq (Γ := Γ) h _ (fun _ => Or.inl rfl)]
  have c27 : cfE Γ C (maA mo 27) = .inl (Γ.2.2.1 1, mLen 27, .inl (fun j => Int32.ofInt ((mI0 mo C).2 27 j))) := by
    have g := h.2.2.1 27 (by decide)
    unfold cfE
    rw [g.1.2, g.2.1, if_neg (by decide)]
    rfl
  have ck : ∀ k ∈ mAs, cfE Γ C (maA mo k) = .inl (Γ.2.2.1 0, mLen k, .inl (fun j => Int32.ofInt ((mI0 mo C).2 k j))) := fun k hk => by
    have hk2 : k ∈ mKs := List.mem_cons_of_mem _ hk
    have h27 : k ≠ 27 := fun e => by rw [e] at hk; exact absurd hk (by decide)
    have g := h.2.2.1 k hk2
    rw [if_neg h27] at g
    unfold cfE
    rw [g.1.2, g.2.1, if_neg (by decide)]
    have ef : (fun j => Int32.ofInt ((mI0 mo C).2 k j)) = fun j => Int32.ofInt (cE C (maA mo k) j) := funext (fun j => congrArg Int32.ofInt (if_pos hk2))
    rw [ef]
    rfl
  have hsub : ∀ q, q ∈ mCells Γ.2.2.1 mo (maA mo) (mI0 mo C) → q ∈ va_pl (cL C) (cfE Γ C) ∧ mo ≤ q.1 := by
    intro q hq
    unfold mCells at hq
    rcases List.mem_cons.mp hq with e | hq
    · rw [e, ← c15]; exact ⟨hmem h.1, Nat.le_refl _⟩
    · rcases List.mem_cons.mp hq with e | hq
      · rw [e, ← c27]; exact ⟨hmem (h.2.2.1 27 (by decide)).1, by show mo ≤ mo + 1 + _; omega⟩
      · obtain ⟨k, hk, e⟩ := List.mem_map.mp hq
        rw [← e]
        unfold mRow
        rw [← ck k hk]
        exact ⟨hmem (h.2.2.1 k (List.mem_cons_of_mem _ hk)).1, by show mo ≤ mo + 1 + _; omega⟩
  have hsub2 : ∀ q, q ∈ va_pl ((cL C).filter (fun a => decide (a < mo))) (cfE Γ C) → q ∈ va_pl (cL C) (cfE Γ C) ∧ q.1 < mo := by
    intro q hq
    obtain ⟨a, ha, e⟩ := List.mem_map.mp hq
    obtain ⟨a1, a2⟩ := List.mem_filter.mp ha
    rw [← e]
    exact ⟨List.mem_map.mpr ⟨a, a1, rfl⟩, of_decide_eq_true a2⟩
  refine ⟨?_, ?_, hz⟩
  · rw [e2]
    refine vaP_of (fun q hq => ?_)
    rcases List.mem_append.mp hq with g | g
    · exact vaP_mem hP (hsub q g).1
    · exact vaP_mem hP (hsub2 q g).1
  · rw [e2]
    refine vaD_of ?_ (fun q hq => ?_)
    · rw [List.pairwise_append]
      refine ⟨?_, ?_, fun p hp q hq e => ?_⟩
      · have pw := List.pairwise_cons.mp mKs_pw
        unfold mCells
        refine List.pairwise_cons.mpr ⟨fun q hq e => ?_, List.pairwise_cons.mpr ⟨fun q hq e => ?_, List.pairwise_map.mpr (pw.2.imp (fun {k k'} g e => g ?_))⟩⟩
        · rcases List.mem_cons.mp hq with g | g
          · rw [g] at e
            have e : mo = mo + 1 + _ := e
            omega
          · obtain ⟨k, hk, e3⟩ := List.mem_map.mp g
            rw [← e3] at e
            have e : mo = mo + 1 + _ := e
            omega
        · obtain ⟨k, hk, e3⟩ := List.mem_map.mp hq
          rw [← e3] at e
          have e : mo + 1 + maI 27 = mo + 1 + maI k := e
          exact pw.1 k hk (by omega)
        · have e : mo + 1 + maI k = mo + 1 + maI k' := e
          omega
      · have := vaD_pw hD
        unfold va_pl at this ⊢
        rw [List.pairwise_map] at this ⊢
        exact this.sublist List.filter_sublist
      · have h1 := (hsub p hp).2
        have h2 := (hsub2 q hq).2
        omega
    · rcases List.mem_append.mp hq with g | g
      · exact vaD_mem hD (hsub q g).1
      · exact vaD_mem hD (hsub2 q g).1
end MSW
