/-! NEW ROWS OF THE LAW; CALLS OVER A PART OF THE STATE -/
theorem vaD_pw {A : Nat → Prop} {ws : va_W} (h : va_D A ws) : ws.Pairwise (fun p q => p.1 ≠ q.1) := by
  rw [List.pairwise_iff_getElem]
  intro i j hi hj hij e
  have := h.1 i j _ _ (List.getElem?_eq_getElem hi) (List.getElem?_eq_getElem hj) e
  omega
theorem vaD_of {A : Nat → Prop} {ws : va_W} (h : ws.Pairwise (fun p q => p.1 ≠ q.1)) (ha : ∀ q ∈ ws, A q.1) : va_D A ws := by
  rw [List.pairwise_iff_getElem] at h
  refine ⟨fun i j p q hp hq e => ?_, fun k q hq => ha q (List.mem_of_getElem? hq)⟩
  obtain ⟨hi, ei⟩ := List.getElem?_eq_some_iff.mp hp
  obtain ⟨hj, ej⟩ := List.getElem?_eq_some_iff.mp hq
  rcases Nat.lt_trichotomy i j with g | g | g
  · exact absurd (by rw [ei, ej]; exact e) (h i j hi hj g)
  · exact g
  · exact absurd (by rw [ei, ej]; exact e.symm) (h j i hj hi g)
theorem vaP_mem {D : va_G} {cl : List vw_C} {ws : va_W} {H : Heap} (h : va_P D cl ws H) {q : Nat × va_E} (hq : q ∈ ws) : va_at D cl q H := by
  obtain ⟨k, hk⟩ := List.getElem?_of_mem hq
  exact h k q hk
theorem vaP_of {D : va_G} {cl : List vw_C} {ws : va_W} {H : Heap} (h : ∀ q ∈ ws, va_at D cl q H) : va_P D cl ws H := fun k q hq => h q (List.mem_of_getElem? hq)
theorem vaD_mem {A : Nat → Prop} {ws : va_W} (h : va_D A ws) {q : Nat × va_E} (hq : q ∈ ws) : A q.1 := by
  obtain ⟨k, hk⟩ := List.getElem?_of_mem hq
  exact h.2 k q hk
section WGROW
variable {Γ : Cx}
theorem wRow_same {cy : Nat → ClassId} {A A' : Md} {k : Nat} (h1 : A'.1 k = A.1 k) (h2 : A'.2 k = A.2 k) : wRow cy A' k = wRow cy A k := by unfold wRow; rw [h1, h2]
theorem w_grow (h : wOn Γ) {A A' : Md} {C : Cd} {n kk : Nat} {s : State} {H H1 : Heap} {locs : List Loc} (hR : RelE Γ (A, C) H) (hS : va_S (inA Γ) s.heap H locs) (hb : Γ.1 ≤ s.heap.size) (hk : kk < 15) (h1 : ∀ j, A'.1 j = if j = kk then (csz C : Int) else A.1 j) (h2 : ∀ j, A'.2 j = if j = kk then (fun _ => 0) else A.2 j)
    (z1 : H1.size = H.size + 1) (o1 : ∀ q : Nat, q < H.size → H1[q]? = H[q]?) (hat : va_at Γ.2.1 vwCl (wRow Γ.2.2.1 A' kk) H1) : RelE Γ (A', cBumpA C n) H1 ∧ va_S (inA Γ) s.heap H1 locs := by
  obtain ⟨hP, hD, hz⟩ := hR
  have hz : H.size = csz C := hz
  have hpos : 0 < csz C := by
    have := h.2
    have := hS.1
    omega
  have hP1 := hP.kept (fun k x hx => o1 x.1 ((hP k x hx).lt))
  have e0 : wl Γ (A, C) = (wIx A).map (wRow Γ.2.2.1 A) ++ va_pl (cL C) (cfE Γ C) := by unfold wl; rw [h.1]; rfl
  have e1 : wl Γ (A', cBumpA C n) = (wIx A').map (wRow Γ.2.2.1 A') ++ va_pl (cL C) (cfE Γ C) := by unfold wl; rw [h.1]; rfl
  rw [e0] at hP hD hP1
  have na : (wRow Γ.2.2.1 A' kk).1 = csz C := by
    show (A'.1 kk).toNat = csz C
    rw [h1 kk, if_pos rfl]
    rfl
  have old : ∀ k, k ∈ wIx A' → k ≠ kk → k ∈ wIx A ∧ wRow Γ.2.2.1 A' k = wRow Γ.2.2.1 A k := by
    intro k hk' hne
    obtain ⟨a1, a2⟩ := wIx_mem.mp hk'
    have b1 : A'.1 k = A.1 k := by rw [h1 k, if_neg hne]
    have b2 : A'.2 k = A.2 k := by rw [h2 k, if_neg hne]
    exact ⟨wIx_mem.mpr ⟨a1, by rw [← b1]; exact a2⟩, wRow_same b1 b2⟩
  have key : ∀ q, q ∈ wl Γ (A', cBumpA C n) → q = wRow Γ.2.2.1 A' kk ∨ q ∈ (wIx A).map (wRow Γ.2.2.1 A) ++ va_pl (cL C) (cfE Γ C) := by
    intro q hq
    rw [e1] at hq
    rcases List.mem_append.mp hq with g | g
    · obtain ⟨k, hk', e⟩ := List.mem_map.mp g
      by_cases hne : k = kk
      · subst hne; exact Or.inl e.symm
      · obtain ⟨b1, b2⟩ := old k hk' hne
        exact Or.inr (List.mem_append_left _ (List.mem_map.mpr ⟨k, b1, by rw [← b2]; exact e⟩))
    · exact Or.inr (List.mem_append_right _ g)
  have lt : ∀ q, q ∈ (wIx A).map (wRow Γ.2.2.1 A) ++ va_pl (cL C) (cfE Γ C) → q.1 < csz C := fun q hq => by rw [← hz]; exact (vaP_mem hP hq).lt
  have pw := vaD_pw hD
  rw [List.pairwise_append] at pw
  obtain ⟨pw1, pw2, pw3⟩ := pw
  refine ⟨⟨vaP_of (fun q hq => ?_), vaD_of ?_ (fun q hq => ?_), ?_⟩, Nat.le_trans hS.1 (by omega), fun x g1 g2 => (o1 x (Nat.lt_of_lt_of_le g1 hS.1)).trans (hS.2.1 x g1 g2), hS.2.2⟩
  · rcases key q hq with e | g
    · rw [e]; exact hat
    · exact vaP_mem hP1 g
  · rw [e1, List.pairwise_append]
    refine ⟨?_, pw2, fun p hp q hq => ?_⟩
    · rw [List.pairwise_map] at pw1 ⊢
      unfold wIx at pw1 ⊢
      rw [List.pairwise_filter, List.pairwise_iff_getElem] at pw1 ⊢
      intro i j hi hj hij
      have hi' : i < 15 := by rw [List.length_range] at hi; exact hi
      have hj' : j < 15 := by rw [List.length_range] at hj; exact hj
      have hp := pw1 i j hi hj hij
      rw [List.getElem_range, List.getElem_range] at hp ⊢
      simp only [decide_eq_true_eq] at hp ⊢
      intro p1 p2
      show (A'.1 i).toNat ≠ (A'.1 j).toNat
      have hp' : A.1 i ≠ 0 → A.1 j ≠ 0 → (A.1 i).toNat ≠ (A.1 j).toNat := hp
      have g : ∀ k, k < 15 → k ≠ kk → A'.1 k ≠ 0 → A'.1 k = A.1 k ∧ (A.1 k).toNat < csz C := by
        intro k k1 k2 k3
        have b1 : A'.1 k = A.1 k := by rw [h1 k, if_neg k2]
        refine ⟨b1, lt (wRow Γ.2.2.1 A k) (List.mem_append_left _ (List.mem_map.mpr ⟨k, wIx_mem.mpr ⟨k1, by rw [← b1]; exact k3⟩, rfl⟩))⟩
      by_cases ei : i = kk
      · subst ei
        obtain ⟨b1, b2⟩ := g j hj' (by omega) p2
        rw [b1, h1 i, if_pos rfl]
        have : ((csz C : Nat) : Int).toNat = csz C := rfl
        omega
      · obtain ⟨b1, b2⟩ := g i hi' ei p1
        by_cases ej : j = kk
        · subst ej
          rw [b1, h1 j, if_pos rfl]
          have : ((csz C : Nat) : Int).toNat = csz C := rfl
          omega
        · obtain ⟨c1, c2⟩ := g j hj' ej p2
          rw [b1, c1]
          rw [b1] at p1
          rw [c1] at p2
          exact hp' p1 p2
    · obtain ⟨k, hk', e⟩ := List.mem_map.mp hp
      by_cases hne : k = kk
      · subst hne
        have b := lt q (List.mem_append_right _ hq)
        rw [← e, na]
        omega
      · obtain ⟨b1, b2⟩ := old k hk' hne
        exact pw3 p (by rw [← e, b2]; exact List.mem_map.mpr ⟨k, b1, rfl⟩) q hq
  · rcases key q hq with e | g
    · rw [e, na]
      show Γ.1 ≤ csz C
      have := hS.1
      omega
    · exact vaD_mem hD g
  · show H1.size = csz C + 1
    rw [z1, hz]
end WGROW
section WNEW
variable {ρ S : Type} {l : Launch} {Γ : Cx} {k : Kd} {d : Nat} {enc : ρ → Out} {em : S → St} {pc : Nat} {lo : List (Nat × Value)} {rest : List Value} {σ σ' : S} {X : Option (ρ × S)} {A A' : Md} {C : Cd} {kk n : Nat} {x : Int}
theorem g_newI (he : em σ = (A, C)) (he' : em σ' = (A', cBumpA C n)) (h : wOn Γ) (hA : kk ∈ wIs) (hlen : wLen kk = n) (h1 : ∀ j, A'.1 j = if j = kk then (csz C : Int) else A.1 j) (h2 : ∀ j, A'.2 j = if j = kk then (fun _ => 0) else A.2 j) (hn : n < 1000000) (hx : x = (n : Int)) (u1 : Cond.arrayClass (newarray.typeOf .int) ∈ uw) (hd : decode k.2.1 pc = .ok (.newarray .int, 2))
    (K : RunO l Γ k d enc em (pc + 2) lo (.ref (csz C) :: rest) σ' X) : RunO l Γ k d enc em pc lo (wi x :: rest) σ X := by
  subst hx
  obtain ⟨k1, k2⟩ := wIs_ok kk hA
  intro r σ2 hX
  obtain ⟨g1, g2, g3⟩ := K r σ2 hX
  rw [he'] at g1 g2 g3
  have g1' : csz C + 1 ≤ csz (em σ2).2 := g1
  have g2' : csl C + n ≤ csl (em σ2).2 := g2
  refine ⟨by rw [he]; show csz C ≤ _; omega, by rw [he]; show csl C ≤ _; omega, fun p e R s m args below meth c0 hm z0 l0 H locs ls a1 a2 a3 a4 hR hS hl => ?_⟩
  rw [he] at hR a2
  have hK := hm.2.2.2.2.2.2.2.2.1
  have hbase := hm.2.2.2.2.2.2.2.2.2.2.2.2.2.1
  have hts := hm.2.2.2.2.2.1
  have hz : H.size = csz C := hR.2.2
  have hz0 : z0 ≤ csz C := by rw [a1, ← hz]; exact hS.1
  have a2' : l0 ≤ csl C := a2
  have ei : w32 (n : Int) = n := w32_of (by omega) (by omega)
  have hix : ix (n : Int) = n := by unfold ix; rw [ei]; rfl
  rw [he]
  refine va_newaK (g := F0 m pc ls (wi n :: rest)) (N := n) (rest := rest) (h := csz C) hm.1 hm.2.1 (hts _ u1) rfl hd rfl ?_ hix ?_ (by show csz C - z0 + 1 ≤ R.cells; omega) (by show csl C - l0 + n ≤ R.slots; omega) hz fun H1 cA e1 z1 o1 hAr hNm => ?_
  · show ¬ Int32.ofInt n < 0
    have z3 : (0 : Int32) = Int32.ofInt 0 := rfl
    have z4 : w32 0 = 0 := rfl
    rw [z3, w32_lt, z4]
    omega
  · show n * componentBytes .int ≤ 536870912
    have : componentBytes .int ≤ 8 := by decide
    have h7 : n * componentBytes .int ≤ 1000000 * 8 := Nat.mul_le_mul (by omega) this
    omega
  · have hcA : cA = Γ.2.2.1 0 := by
      have h6 := (hK.2 0 _ rfl).2
      exact Option.some.inj (hNm.symm.trans h6)
    subst hcA
    have hat : va_at Γ.2.1 vwCl (wRow Γ.2.2.1 A' kk) H1 := by
      rw [wRow_i k2, h1 kk, h2 kk, if_pos rfl, if_pos rfl, hlen]
      exact e1
    obtain ⟨q1, q2⟩ := w_grow (n := n) h hR hS hbase k1 h1 h2 (by rw [z1, hz]) (fun q hq => o1 q (by rw [← hz]; exact hq)) hat
    have h9 := g3 p e R s m args below meth c0 hm z0 l0 H1 locs ls a1 (by show l0 ≤ csl C + n; omega) a3 a4 q1 q2 hl
    have w1 : csz (A', cBumpA C n).2 - z0 = csz C - z0 + 1 := by show csz C + 1 - z0 = _; omega
    have w2 : csl (A', cBumpA C n).2 - l0 = csl C - l0 + n := by show csl C + n - l0 = _; omega
    rw [w1, w2] at h9
    exact h9
theorem g_newJ (he : em σ = (A, C)) (he' : em σ' = (A', cBumpA C n)) (h : wOn Γ) (hA : kk = 3 ∨ kk = 7) (hlen : wLen kk = n) (h1 : ∀ j, A'.1 j = if j = kk then (csz C : Int) else A.1 j) (h2 : ∀ j, A'.2 j = if j = kk then (fun _ => 0) else A.2 j) (hn : n < 1000000) (hx : x = (n : Int)) (u1 : Cond.arrayClass (newarray.typeOf .long) ∈ uw) (hd : decode k.2.1 pc = .ok (.newarray .long, 2))
    (K : RunO l Γ k d enc em (pc + 2) lo (.ref (csz C) :: rest) σ' X) : RunO l Γ k d enc em pc lo (wi x :: rest) σ X := by
  subst hx
  intro r σ2 hX
  obtain ⟨g1, g2, g3⟩ := K r σ2 hX
  rw [he'] at g1 g2 g3
  have g1' : csz C + 1 ≤ csz (em σ2).2 := g1
  have g2' : csl C + n ≤ csl (em σ2).2 := g2
  refine ⟨by rw [he]; show csz C ≤ _; omega, by rw [he]; show csl C ≤ _; omega, fun p e R s m args below meth c0 hm z0 l0 H locs ls a1 a2 a3 a4 hR hS hl => ?_⟩
  rw [he] at hR a2
  have hK := hm.2.2.2.2.2.2.2.2.1
  have hbase := hm.2.2.2.2.2.2.2.2.2.2.2.2.2.1
  have hts := hm.2.2.2.2.2.1
  have hz : H.size = csz C := hR.2.2
  have hz0 : z0 ≤ csz C := by rw [a1, ← hz]; exact hS.1
  have a2' : l0 ≤ csl C := a2
  have ei : w32 (n : Int) = n := w32_of (by omega) (by omega)
  have hix : ix (n : Int) = n := by unfold ix; rw [ei]; rfl
  rw [he]
  refine va_newaK (g := F0 m pc ls (wi n :: rest)) (N := n) (rest := rest) (h := csz C) hm.1 hm.2.1 (hts _ u1) rfl hd rfl ?_ hix ?_ (by show csz C - z0 + 1 ≤ R.cells; omega) (by show csl C - l0 + n ≤ R.slots; omega) hz fun H1 cA e1 z1 o1 hAr hNm => ?_
  · show ¬ Int32.ofInt n < 0
    have z3 : (0 : Int32) = Int32.ofInt 0 := rfl
    have z4 : w32 0 = 0 := rfl
    rw [z3, w32_lt, z4]
    omega
  · show n * componentBytes .long ≤ 536870912
    have : componentBytes .long ≤ 8 := by decide
    have h7 : n * componentBytes .long ≤ 1000000 * 8 := Nat.mul_le_mul (by omega) this
    omega
  · have hcA : cA = Γ.2.2.1 8 := by
      have h6 := (hK.2 8 _ rfl).2
      exact Option.some.inj (hNm.symm.trans h6)
    subst hcA
    have hat : va_at Γ.2.1 vwCl (wRow Γ.2.2.1 A' kk) H1 := by
      rw [wRow_l hA, h1 kk, h2 kk, if_pos rfl, if_pos rfl, hlen]
      exact e1
    obtain ⟨q1, q2⟩ := w_grow (n := n) h hR hS hbase (by omega) h1 h2 (by rw [z1, hz]) (fun q hq => o1 q (by rw [← hz]; exact hq)) hat
    have h9 := g3 p e R s m args below meth c0 hm z0 l0 H1 locs ls a1 (by show l0 ≤ csl C + n; omega) a3 a4 q1 q2 hl
    have w1 : csz (A', cBumpA C n).2 - z0 = csz C - z0 + 1 := by show csz C + 1 - z0 = _; omega
    have w2 : csl (A', cBumpA C n).2 - l0 = csl C - l0 + n := by show csl C + n - l0 = _; omega
    rw [w1, w2] at h9
    exact h9
end WNEW
section WNEW3
variable {ρ : Type} {l : Launch} {Γ : Cx} {k : Kd} {d : Nat} {enc : ρ → Out} {pc : Nat} {lo : List (Nat × Value)} {rest : List Value} {ma : Nat → Nat} {E : Rw} {C : Cd} {q : Nat → Nat} {X : Option (ρ × S3)} {kk n : Nat} {x : Int}
theorem adq_set {kk a : Nat} (hk : 11 ≤ kk) (j : Nat) : ((adq ma (setq q kk a) j : Nat) : Int) = if j = kk then (a : Int) else ((adq ma q j : Nat) : Int) := by
  unfold adq setq
  by_cases h : j = kk
  · subst h
    rw [if_neg (by omega), if_pos rfl, if_pos rfl]
  · rw [if_neg h, if_neg h]
theorem r_new3 (h : wOn Γ) (hA : kk ∈ wIs) (hk : 11 ≤ kk) (hlen : wLen kk = n) (hn : n < 1000000) (hx : x = (n : Int)) (u1 : Cond.arrayClass (newarray.typeOf .int) ∈ uw) (hd : decode k.2.1 pc = .ok (.newarray .int, 2))
    (K : RunO l Γ k d enc (em3 ma) (pc + 2) lo (.ref (csz C) :: rest) (zRow E kk, cBumpA C n, setq q kk (csz C)) X) : RunO l Γ k d enc (em3 ma) pc lo (wi x :: rest) (E, C, q) X :=
  g_newI (A := (fun k => (adq ma q k : Int), E)) (A' := (fun k => (adq ma (setq q kk (csz C)) k : Int), zRow E kk)) rfl rfl h hA hlen (adq_set hk) (fun j => rfl) hn hx u1 hd K
theorem r_nm4 {y : Nat} {f : Rw → Cd → (Nat → Nat) → Nat → Option (ρ × S3)} (K : ∀ (E : Rw) (C : Cd) (q : Nat → Nat) (y : Nat), RunO l Γ k d enc (em3 ma) pc lo (.ref y :: rest) (E, C, q) (f E C q y)) : RunO l Γ k d enc (em3 ma) pc lo (.ref y :: rest) (E, C, q) (bnd4 E C q y f) := K E C q y
end WNEW3
section CJ
variable {ρ ρ2 S S2 : Type} {l : Launch} {Γ : Cx} {k : Kd} {d : Nat} {enc : ρ → Out} {em : S → St} {pc : Nat} {lo : List (Nat × Value)} {st rest : List Value} {enc2 : ρ2 → Out} {em2 : S2 → St} {J : S2 → S} {s2 : S2} {X2 : Option (ρ2 × S2)} {f : ρ2 → S2 → Option (ρ × S)} {k2 : Kd} {d2 n i b : Nat} {As av : List Value}
theorem ro_callJ (hJ : ∀ s, em (J s) = em2 s) (htb : k.2.2.2.2 = []) (hct : Ct l Γ k2 d2 enc2 em2 av s2 X2) (hin : Inv l Γ k d k2 d2 av em2 s2 pc st rest)
    (K : ∀ r2 s1, AC l Γ k d enc em (pc + 3) lo rest (J s1) (f r2 s1) (enc2 r2)) : RunO l Γ k d enc em pc lo st (J s2) (X2.bind (fun q => f q.1 q.2)) := by
  intro r σ' hX
  obtain ⟨⟨r2, σ1⟩, hX2, hf⟩ := Option.bind_eq_some_iff.mp hX
  obtain ⟨c1, c2, hM⟩ := hct r2 σ1 hX2
  have hK := K r2 σ1
  have hmono : csz (em2 σ1).2 ≤ csz (em σ').2 ∧ csl (em2 σ1).2 ≤ csl (em σ').2 := by
    rw [← hJ σ1]
    cases hE : enc2 r2 with
    | inl v =>
      rw [hE] at hK
      exact ⟨(hK r σ' hf).1, (hK r σ' hf).2.1⟩
    | inr E =>
      rw [hE] at hK
      rw [(hK r σ' hf).2]
      exact ⟨Nat.le_refl _, Nat.le_refl _⟩
  refine ⟨by rw [hJ]; exact Nat.le_trans c1 hmono.1, by rw [hJ]; exact Nat.le_trans c2 hmono.2, fun p e R s m args below meth c hm z0 l0 H locs ls a1 a2 a3 a4 hR hS hl => ?_⟩
  rw [hJ] at hR a2 ⊢
  have hz0 : z0 ≤ csz (em2 s2).2 := by rw [a1, ← hR.2.2]; exact hS.1
  have hOC : OC Γ := hm.2.2.2.2.2.2.2.2.2.2.2.2.1
  have hKs := hm.2.2.2.2.2.2.2.2.1
  have hbase := hm.2.2.2.2.2.2.2.2.2.2.2.2.2.1
  have hO := hm.2.2.2.2.2.2.2.2.2.2.2.2.2.2
  have hrels : ∀ U : State, U.heap = H → s.WarmedH U.vm → RelS Γ (em2 s2) U := by
    intro U hU hW
    refine ⟨va_K.moved hW.alike hKs, by rw [hU]; exact hR, by rw [hU]; exact Nat.le_trans hbase hS.1, ?_⟩
    rw [hU]
    exact hOC s U s.heap H hW (fun q hq => hS.2.1 q (Nat.lt_of_lt_of_le hq hbase) (Nat.not_le.mpr hq)) hO
  have e1 : csz (em2 s2).2 - z0 + (csz (em2 σ1).2 - csz (em2 s2).2) = csz (em2 σ1).2 - z0 := by omega
  have e2 : csl (em2 s2).2 - l0 + (csl (em2 σ1).2 - csl (em2 s2).2) = csl (em2 σ1).2 - l0 := by omega
  refine go_run (hin p e R s m args below meth c hm _ _ _ _ H locs _ _ ls (hM hOC) hR hrels hl.1 (by omega) (by omega)) ?_ ?_
  · intro v st0 t L H1 h0 h1 hA hq hL
    obtain ⟨⟨v', hv1, hv2⟩, hRt, hF⟩ := hq
    cases hv2
    rw [hv1] at hK
    obtain ⟨k1, k2, k3⟩ := hK r σ' hf
    rw [hJ] at k3
    obtain ⟨f1, f2, f3⟩ := vx_keep (T' := t) h0 rfl hS (fun _ _ h => h) (fun _ h => h) hL hF
    rw [e1, e2]
    refine k3 p e R s m args below meth c hm z0 l0 H1 (locs ++ L) ls a1 (by omega) a3 a4 ?_ ?_ hl
    · rw [h1]; exact hRt
    · rw [h1]; exact f3
  · intro q st0 t L H1 E ce h0 h1 hA hq hL hce hcv hcl
    obtain ⟨hv1, hRt, hF⟩ := hq
    rw [hv1] at hK
    obtain ⟨k1, k2⟩ := hK r σ' hf
    subst k2
    obtain ⟨f1, f2, f3⟩ := vx_keep (T' := t) h0 rfl hS (fun _ _ h => h) (fun _ h => h) hL hF
    rw [e1, e2, hJ]
    refine vx_out (fun x hx => ?_) hm.2.2.2.2.2.2.2.1 hce hcv hcl (fun t9 ht9 _ => ⟨k1, ?_, ?_⟩) ?_ (Nat.le_refl _) (Nat.le_refl _)
    · rw [hm.2.2.2.2.2.2.1, htb] at hx
      cases hx
    · rw [ht9, h1, hJ]; exact hRt
    · exact va_S.F (by rw [h1]; exact f3) ht9
    · exact f3.2.2
end CJ
section CJ2
variable {ρ S S2 : Type} {l : Launch} {Γ : Cx} {k : Kd} {d : Nat} {enc : ρ → Out} {em : S → St} {pc : Nat} {lo : List (Nat × Value)} {st rest : List Value} {em2 : S2 → St} {J : S2 → S} {s2 : S2} {k2 : Kd} {d2 n i b c N : Nat} {As : List Value} {Cn : String} {T : u_T}
theorem r_csi {X2 : Option (Int × S2)} {f : Int → S2 → Option (ρ × S)} (hJ : ∀ s, em (J s) = em2 s) (htb : k.2.2.2.2 = []) (hk : KS k2 n) (hct : Ct l Γ k2 d2 encI em2 As s2 X2) (hd2 : d2 + 1 ≤ d) (ul : Cond.methodLink k.1.cls i k2.1 ∈ uw) (hn : As.length = n) (hW : (rest.map fun v => v.category).sum ≤ 8) (hd : decode k.2.1 pc = .ok (.invokestatic i, 3)) (hst : As.reverse ++ rest = st)
    (K : ∀ x s1, RunO l Γ k d enc em (pc + 3) lo (wi x :: rest) (J s1) (f x s1)) : RunO l Γ k d enc em pc lo st (J s2) (cal1 X2 f) := by
  subst hst
  exact ro_callJ hJ htb hct (inv_S hk hd2 ul hn hW hd) (fun r2 s1 => K r2 s1)
theorem r_csj {X2 : Option (Int × S2)} {f : Int → S2 → Option (ρ × S)} (hJ : ∀ s, em (J s) = em2 s) (htb : k.2.2.2.2 = []) (hk : KS k2 n) (hct : Ct l Γ k2 d2 encJ em2 As s2 X2) (hd2 : d2 + 1 ≤ d) (ul : Cond.methodLink k.1.cls i k2.1 ∈ uw) (hn : As.length = n) (hW : (rest.map fun v => v.category).sum ≤ 8) (hd : decode k.2.1 pc = .ok (.invokestatic i, 3)) (hst : As.reverse ++ rest = st)
    (K : ∀ x s1, RunO l Γ k d enc em (pc + 3) lo (vl x :: rest) (J s1) (f x s1)) : RunO l Γ k d enc em pc lo st (J s2) (cal1 X2 f) := by
  subst hst
  exact ro_callJ hJ htb hct (inv_S hk hd2 ul hn hW hd) (fun r2 s1 => K r2 s1)
theorem r_csv {X2 : Option (Unit × S2)} {f : Unit → S2 → Option (ρ × S)} (hJ : ∀ s, em (J s) = em2 s) (htb : k.2.2.2.2 = []) (hk : KS k2 n) (hct : Ct l Γ k2 d2 encV em2 As s2 X2) (hd2 : d2 + 1 ≤ d) (ul : Cond.methodLink k.1.cls i k2.1 ∈ uw) (hn : As.length = n) (hW : (rest.map fun v => v.category).sum ≤ 8) (hd : decode k.2.1 pc = .ok (.invokestatic i, 3)) (hst : As.reverse ++ rest = st)
    (K : ∀ x s1, RunO l Γ k d enc em (pc + 3) lo rest (J s1) (f x s1)) : RunO l Γ k d enc em pc lo st (J s2) (cal1 X2 f) := by
  subst hst
  exact ro_callJ hJ htb hct (inv_S hk hd2 ul hn hW hd) (fun r2 s1 => K r2 s1)
theorem r_cc1 {M0 : Md} {J : Cd → S} {C : Cd} {X2 : Option (Int × Cd)} {f : Int → Cd → Option (ρ × S)} (hJ : ∀ s, em (J s) = emC M0 s) (htb : k.2.2.2.2 = []) (ul : Cond.methodLink k.1.cls i k2.1 ∈ uw) (hk : KV k2 n) (hc : vwCl[c]? = some (k2.1.cls, T, N)) (hc2 : c < 100) (hct : Ct l Γ k2 d2 encI (emC M0) (.ref b :: As) C X2) (hd2 : d2 + 1 ≤ d) (hn : As.length = n) (hW : (rest.map fun v => v.category).sum ≤ 8) (hd : decode k.2.1 pc = .ok (.invokevirtual i, 3)) (hst : As.reverse ++ .ref b :: rest = st)
    (K : ∀ x C', RunO l Γ k d enc em (pc + 3) lo (wi x :: rest) (J C') (f x C')) : RunO l Γ k d enc em pc lo st (J C) (if isO C b c then cal1 X2 f else none) := by
  subst hst
  refine ro_if (fun ho => ?_) (fun _ => ro_none)
  exact ro_callJ hJ htb hct (inv_V hk hd2 ul hn hW hd (c_rec ho hc hc2)) (fun r2 s1 => K r2 s1)
theorem r_cx1 {M0 : Md} {J : Cd → S} {C : Cd} {X2 : Option ((Int ⊕ Nat) × Cd)} {f : Int → Cd → Option (ρ × S)} (hJ : ∀ s, em (J s) = emC M0 s) (htb : k.2.2.2.2 = []) (ul : Cond.methodLink k.1.cls i k2.1 ∈ uw) (hk : KV k2 n) (hc : vwCl[c]? = some (k2.1.cls, T, N)) (hc2 : c < 100) (hct : Ct l Γ k2 d2 (encX gI) (emC M0) (.ref b :: As) C X2) (hd2 : d2 + 1 ≤ d) (hn : As.length = n) (hW : (rest.map fun v => v.category).sum ≤ 8) (hd : decode k.2.1 pc = .ok (.invokevirtual i, 3)) (hst : As.reverse ++ .ref b :: rest = st)
    (K : ∀ x C', RunO l Γ k d enc em (pc + 3) lo (wi x :: rest) (J C') (f x C')) : RunO l Γ k d enc em pc lo st (J C) (if isO C b c then calt X2 f else none) := by
  subst hst
  refine ro_if (fun ho => ?_) (fun _ => ro_none)
  refine ro_callJ (f := fun (r2 : Int ⊕ Nat) (s1 : Cd) => match r2 with | .inl v => f v s1 | .inr _ => none) hJ htb hct (inv_V hk hd2 ul hn hW hd (c_rec ho hc hc2)) (fun r2 s1 => ?_)
  cases r2 with
  | inl v => exact K v s1
  | inr e => intro r σ' h; cases h
end CJ2
section CJ3
variable {ρ : Type} {l : Launch} {Γ : Cx} {k : Kd} {d : Nat} {enc : ρ → Out} {ma : Nat → Nat} {pc : Nat} {lo : List (Nat × Value)} {st rest : List Value} {E : Rw} {C : Cd} {q : Nat → Nat} {k2 : Kd} {d2 n i : Nat} {As : List Value}
theorem r_cs3i {X2 : Option (Int × S3)} {f : Int → Rw → Cd → (Nat → Nat) → Option (ρ × S3)} (htb : k.2.2.2.2 = []) (hk : KS k2 n) (hct : Ct l Γ k2 d2 encI (em3 ma) As (E, C, q) X2) (hd2 : d2 + 1 ≤ d) (ul : Cond.methodLink k.1.cls i k2.1 ∈ uw) (hn : As.length = n) (hW : (rest.map fun v => v.category).sum ≤ 8) (hd : decode k.2.1 pc = .ok (.invokestatic i, 3)) (hst : As.reverse ++ rest = st)
    (K : ∀ x E C q, RunO l Γ k d enc (em3 ma) (pc + 3) lo (wi x :: rest) (E, C, q) (f x E C q)) : RunO l Γ k d enc (em3 ma) pc lo st (E, C, q) (cal3 X2 f) := by
  subst hst
  exact ro_callJ (J := fun s => s) (f := fun x s => f x s.1 s.2.1 s.2.2) (fun _ => rfl) htb hct (inv_S hk hd2 ul hn hW hd) (fun r2 s1 => K r2 s1.1 s1.2.1 s1.2.2)
theorem r_cs3j {X2 : Option (Int × S3)} {f : Int → Rw → Cd → (Nat → Nat) → Option (ρ × S3)} (htb : k.2.2.2.2 = []) (hk : KS k2 n) (hct : Ct l Γ k2 d2 encJ (em3 ma) As (E, C, q) X2) (hd2 : d2 + 1 ≤ d) (ul : Cond.methodLink k.1.cls i k2.1 ∈ uw) (hn : As.length = n) (hW : (rest.map fun v => v.category).sum ≤ 8) (hd : decode k.2.1 pc = .ok (.invokestatic i, 3)) (hst : As.reverse ++ rest = st)
    (K : ∀ x E C q, RunO l Γ k d enc (em3 ma) (pc + 3) lo (vl x :: rest) (E, C, q) (f x E C q)) : RunO l Γ k d enc (em3 ma) pc lo st (E, C, q) (cal3 X2 f) := by
  subst hst
  exact ro_callJ (J := fun s => s) (f := fun x s => f x s.1 s.2.1 s.2.2) (fun _ => rfl) htb hct (inv_S hk hd2 ul hn hW hd) (fun r2 s1 => K r2 s1.1 s1.2.1 s1.2.2)
theorem r_cs3v {X2 : Option (Unit × S3)} {f : Unit → Rw → Cd → (Nat → Nat) → Option (ρ × S3)} (htb : k.2.2.2.2 = []) (hk : KS k2 n) (hct : Ct l Γ k2 d2 encV (em3 ma) As (E, C, q) X2) (hd2 : d2 + 1 ≤ d) (ul : Cond.methodLink k.1.cls i k2.1 ∈ uw) (hn : As.length = n) (hW : (rest.map fun v => v.category).sum ≤ 8) (hd : decode k.2.1 pc = .ok (.invokestatic i, 3)) (hst : As.reverse ++ rest = st)
    (K : ∀ x E C q, RunO l Γ k d enc (em3 ma) (pc + 3) lo rest (E, C, q) (f x E C q)) : RunO l Γ k d enc (em3 ma) pc lo st (E, C, q) (cal3 X2 f) := by
  subst hst
  exact ro_callJ (J := fun s => s) (f := fun x s => f x s.1 s.2.1 s.2.2) (fun _ => rfl) htb hct (inv_S hk hd2 ul hn hW hd) (fun r2 s1 => K r2 s1.1 s1.2.1 s1.2.2)
end CJ3
