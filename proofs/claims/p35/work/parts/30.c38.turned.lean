/-! A MACRO TURNED, and its tokens -/
section TND
def tnB (fr had m : Nat) : Bool := decide (m % 16 = 1 ∨ m % 16 = 2 ∨ m % 16 = 10) && (decide (m / 64 = fr) && had.testBit (m / 16 % 4))
def tnM (fr had m : Nat) : Nat := if tnB fr had m = true then m + 64 - 128 * fr else m
def wl1 (G : Nat) (by_ x : Int) : Int := if (ldk (x / 1000) && G.testBit (x % 1000).toNat) = true then x + by_ else x
variable {fr to had G : Nat} {by_ : Int}
theorem tnB_iff {m : Nat} : tnB fr had m = true ↔ ((m % 16 = 1 ∨ m % 16 = 2 ∨ m % 16 = 10) ∧ m / 64 = fr ∧ had.testBit (m / 16 % 4) = true) := by
  unfold tnB
  rw [Bool.and_eq_true, Bool.and_eq_true, decide_eq_true_iff, decide_eq_true_iff]
theorem tnM_kv (hf : fr ≤ 1) {m : Nat} (h : tnB fr had m = true) : tnM fr had m % 16 = m % 16 ∧ tnM fr had m / 16 = m / 16 + 4 - 8 * fr := by
  have e : tnM fr had m = m + 64 - 128 * fr := by unfold tnM; rw [if_pos h]
  have h2 := (tnB_iff.mp h).2.1
  rw [e]
  rcases (show fr = 0 ∨ fr = 1 by omega) with z | z <;> subst z <;> omega
theorem tnM_ok (hf : fr ≤ 1) {m : Nat} (ok : okM m) : okM (tnM fr had m) ∧ tnM fr had m % 16 = m % 16 := by
  by_cases h : tnB fr had m = true
  · obtain ⟨k1, k2⟩ := tnM_kv hf h
    obtain ⟨h1, h2, h3⟩ := tnB_iff.mp h
    refine ⟨?_, k1⟩
    unfold okM
    rw [k1, k2]
    refine ⟨by omega, fun z => by omega, fun z => by omega, fun _ _ _ => ?_⟩
    rcases (show fr = 0 ∨ fr = 1 by omega) with z | z <;> subst z <;> omega
  · have e : tnM fr had m = m := by unfold tnM; rw [if_neg h]
    rw [e]
    exact ⟨ok, rfl⟩
theorem wl1_yes {x : Int} (k : Int) (v : Nat) (hx : x = 1000 * k + (v : Int)) (hk : k = 1 ∨ k = 2 ∨ k = 12) (hv : v < 1000) (gb : G.testBit v = true) : wl1 G by_ x = x + by_ := by
  have e1 : x / 1000 = k := by omega
  have e2 : (x % 1000).toNat = v := by omega
  unfold wl1
  rw [e1, e2, gb, show ldk k = true from decide_eq_true hk]
  rfl
theorem wl1_off {x : Int} (v : Nat) (hx : x % 1000 = (v : Int)) (gb : G.testBit v = false) : wl1 G by_ x = x := by
  have e2 : (x % 1000).toNat = v := by omega
  unfold wl1
  rw [e2, gb, Bool.and_false, if_neg (by decide)]
theorem wl1_no {x : Int} (h : ¬ (x / 1000 = 1 ∨ x / 1000 = 2 ∨ x / 1000 = 12)) : wl1 G by_ x = x := by
  unfold wl1
  rw [show ldk (x / 1000) = false from decide_eq_false h, Bool.false_and, if_neg (by decide)]
theorem cdL_tn (hf : fr + to = 1) (hG : ∀ v, v < 24 → G.testBit v = (decide (v / 4 = fr) && had.testBit (v % 4))) {m : Nat} (ok : okM m) : cdL (tnM fr had m) = (cdL m).map (wl1 G (4 * ((to : Int) - (fr : Int)))) := by
  by_cases h : tnB fr had m = true
  · obtain ⟨k1, k2⟩ := tnM_kv (by omega) h
    obtain ⟨h1, h2, h3⟩ := tnB_iff.mp h
    have hv : m / 16 < 8 := ok.2.2.2 (by omega) (by omega) (by omega)
    have gb : G.testBit (m / 16) = true := by rw [hG _ (by omega), decide_eq_true (by omega), Bool.true_and]; exact h3
    have ec : ((m / 16 + 4 - 8 * fr : Nat) : Int) = ((m / 16 : Nat) : Int) + 4 * ((to : Int) - (fr : Int)) := by
      rcases (show fr = 0 ∨ fr = 1 by omega) with z | z <;> subst z <;> omega
    unfold cdL
    rw [k1, k2]
    generalize hm : m / 16 = v at *
    rcases h1 with z | z | z
    · rw [z]
      show [1000 + ((v + 4 - 8 * fr : Nat) : Int)] = [wl1 G (4 * ((to : Int) - (fr : Int))) (1000 + (v : Int))]
      rw [wl1_yes 1 v (by omega) (by decide) (by omega) gb, ec, Int.add_assoc]
    · rw [z]
      show [2000 + ((v + 4 - 8 * fr : Nat) : Int), 7000] = [wl1 G (4 * ((to : Int) - (fr : Int))) (2000 + (v : Int)), wl1 G (4 * ((to : Int) - (fr : Int))) 7000]
      rw [wl1_yes 2 v (by omega) (by decide) (by omega) gb, wl1_no (x := 7000) (by decide), ec, Int.add_assoc]
    · rw [z]
      show [12000 + ((v + 4 - 8 * fr : Nat) : Int)] = [wl1 G (4 * ((to : Int) - (fr : Int))) (12000 + (v : Int))]
      rw [wl1_yes 12 v (by omega) (by decide) (by omega) gb, ec, Int.add_assoc]
  · have e : tnM fr had m = m := by unfold tnM; rw [if_neg h]
    rw [e]
    have off : m / 16 < 8 → (m % 16 = 1 ∨ m % 16 = 2 ∨ m % 16 = 10) → G.testBit (m / 16) = false := fun hv hk => by
      rw [hG _ (by omega)]
      by_cases c : m / 16 / 4 = fr
      · have b0 : had.testBit (m / 16 % 4) = false := by
          cases hb : had.testBit (m / 16 % 4)
          · rfl
          · exact absurd (tnB_iff.mpr ⟨hk, by omega, hb⟩) h
        rw [b0, Bool.and_false]
      · rw [decide_eq_false c, Bool.false_and]
    have v60 := ok.v60
    have o3 := ok.2.2.2
    have same : ∀ x ∈ cdL m, wl1 G (4 * ((to : Int) - (fr : Int))) x = id x := by
      intro x hx
      have hk := ok.1
      unfold cdL at hx
      generalize hv : m / 16 = v at *
      rcases (show m % 16 = 0 ∨ m % 16 = 1 ∨ m % 16 = 2 ∨ m % 16 = 3 ∨ m % 16 = 4 ∨ m % 16 = 5 ∨ m % 16 = 6 ∨ m % 16 = 7 ∨ m % 16 = 8 ∨ m % 16 = 9 ∨ m % 16 = 10 by omega) with a | a | a | a | a | a | a | a | a | a | a <;> rw [a] at hx <;> simp only [cdM, Nat.reduceEqDiff, ↓reduceIte, List.mem_cons, List.not_mem_nil, or_false] at hx
      · exact wl1_no (by omega)
      · exact wl1_off v (by omega) (off (o3 (by omega) (by omega) (by omega)) (by omega))
      · rcases hx with z | z
        · exact wl1_off v (by omega) (off (o3 (by omega) (by omega) (by omega)) (by omega))
        · exact wl1_no (by omega)
      · exact wl1_no (by omega)
      · exact wl1_no (by omega)
      · exact wl1_no (by omega)
      · exact wl1_no (by omega)
      · exact wl1_no (by omega)
      · exact wl1_no (by omega)
      · exact wl1_no (by omega)
      · exact wl1_off v (by omega) (off (o3 (by omega) (by omega) (by omega)) (by omega))
    exact ((List.map_congr_left same).trans (List.map_id _)).symm
variable {T : List Nat}
theorem tks_tn (hf : fr + to = 1) (hG : ∀ v, v < 24 → G.testBit v = (decide (v / 4 = fr) && had.testBit (v % 4))) : ∀ T : List Nat, (∀ m ∈ T, okM m) → tks (T.map (tnM fr had)) = (tks T).map (wl1 G (4 * ((to : Int) - (fr : Int)))) := by
  intro T
  induction T with
  | nil => intro _; rfl
  | cons m T ih =>
    intro ok
    rw [List.map_cons, tks_cons, tks_cons, List.map_append, cdL_tn hf hG (ok m List.mem_cons_self), ih (fun x hx => ok x (List.mem_cons_of_mem _ hx))]
theorem wlo_wl1 (g : Nat → Int) (k : Nat) : wlo g G by_ k = wl1 G by_ (g k) := rfl
theorem getD_map_ {f : Int → Int} {L : List Int} {k : Nat} (h : k < L.length) : (L.map f).getD k 0 = f (L.getD k 0) := by
  rw [List.getD_eq_getElem?_getD, List.getD_eq_getElem?_getD, List.getElem?_map, List.getElem?_eq_getElem h]
  rfl
/-- the text turned stands for the macros turned -/
theorem tn_rep (hf : fr + to = 1) (hG : ∀ v, v < 24 → G.testBit v = (decide (v / 4 = fr) && had.testBit (v % 4))) (ok : ∀ m ∈ T, okM m) {g : Nat → Int} {n : Nat} (h : Rep g n T) : Rep (wlo g G (4 * ((to : Int) - (fr : Int)))) n (T.map (tnM fr had)) := by
  obtain ⟨h1, h2⟩ := h
  have e := tks_tn hf hG T ok
  refine ⟨by rw [e, List.length_map, h1], fun k hk => ?_⟩
  rw [wlo_wl1, e, getD_map_ (by omega), h2 k hk]
theorem tn_any (hf : fr + to = 1) (hG : ∀ v, v < 24 → G.testBit v = (decide (v / 4 = fr) && had.testBit (v % 4))) (ok : ∀ m ∈ T, okM m) {g : Nat → Int} {n : Nat} (h : Rep g n T) : anyN (liB g G) n = true ↔ T.map (tnM fr had) ≠ T := by
  obtain ⟨h1, h2⟩ := h
  have e := tks_tn hf hG T ok
  rw [anyN_iff]
  constructor
  · rintro ⟨k, hk, hb⟩ q
    rw [q] at e
    have a : (tks T).getD k 0 = wl1 G (4 * ((to : Int) - (fr : Int))) ((tks T).getD k 0) := by
      have z := getD_map_ (f := wl1 G (4 * ((to : Int) - (fr : Int)))) (L := tks T) (k := k) (by omega)
      rw [← e] at z
      exact z
    unfold liB at hb
    rw [h2 k hk] at hb
    unfold wl1 at a
    rw [if_pos hb] at a
    omega
  · intro q
    refine Classical.byContradiction (fun no => q ?_)
    refine tks_inj _ _ (fun m hm => ?_) ok ?_
    · obtain ⟨x, hx, rfl⟩ := List.mem_map.mp hm
      exact (tnM_ok (by omega) (ok x hx)).1
    · rw [e]
      refine List.ext_getElem (by rw [List.length_map]) (fun i hi hj => ?_)
      have c : ¬ (liB g G i = true) := fun z => no ⟨i, by omega, z⟩
      unfold liB at c
      rw [h2 i (by omega), List.getD_eq_getElem?_getD, List.getElem?_eq_getElem hj] at c
      rw [List.getElem_map]
      exact if_neg c
theorem tn_okT (hf : fr ≤ 1) (ok : okT T) : okT (T.map (tnM fr had)) := by
  refine ⟨fun m hm => ?_, fun h2 m hm => ?_⟩
  · obtain ⟨x, hx, rfl⟩ := List.mem_map.mp hm
    exact (tnM_ok hf (ok.1 x hx)).1
  · rw [List.length_map] at h2
    obtain ⟨x, hx, rfl⟩ := List.mem_map.mp hm
    rw [(tnM_ok hf (ok.1 x hx)).2]
    exact ok.2 h2 x hx
end TND
