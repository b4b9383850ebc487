/-! THE LAW'S TURN: by its number -/
section NUM
variable {b kc N np t s : Nat} {E : Rw} {G : Md} {C : Cd} {T : Nat → List Nat} {q : Nat → Nat}
/-- work, at any number that comes to it -/
theorem D_work2 {k x17 : Nat} {tt t03 r9 x23 : Int} (h : RR b kc G C) (hkc : kc ≤ 800) (hL : LW N np T E G) (h3 : E 0 3 + 40 < 100000) (hk : k ≠ 15 ∧ k < 19) (hx : x17 < 2147483648) (J : Int → Rw → Cd → (Nat → Nat) → Option (Int × S3)) : DeedO b kc E C (fW_law_1273 b (k : Int) (x17 : Int) tt t03 r9 x23 J E C q) J := by
  have ed : 1 + remI (x17 : Int) 4 = ((1 + x17 % 4 : Nat) : Int) := by
    rw [show (4 : Int) = ((4 : Nat) : Int) from rfl, remI_N (by omega) (by omega) (by omega)]; omega
  have hn : 1 ≤ 1 + x17 % 4 ∧ 1 + x17 % 4 ≤ 4 := by have := Nat.mod_lt x17 (show 0 < 4 by decide); omega
  generalize 1 + x17 % 4 = n at *
  obtain ⟨C2, G2, E', q', m, nx, a1, a2, a3, a4, a5, a6, a7, a8⟩ := R_work (J := J) hn h hkc hL (by omega) q
  obtain ⟨E2, s1, s2, s3, s4⟩ := a6.rest a3 (by omega)
  have c1 : ¬ w32 (k : Int) = w32 15 := by rw [w32_n (by omega), show w32 15 = 15 from rfl]; omega
  have c2 : ¬ w32 19 ≤ w32 (k : Int) := by rw [w32_n (by omega), show w32 19 = 19 from rfl]; omega
  refine ⟨E', C2, q', G2, E2, N, np, T, ?_, a3, s1, s2, (((IsR.bn m C).tr (IsR.rml a5)).mono (by omega) (by omega)), by omega, by omega⟩
  unfold fW_law_1273
  rw [if_pos c1, if_neg c2, ed, bnd_eq, cal1_of a1, bnd_eq]
  exact a2
theorem D_1273 {k x17 : Nat} {t03 : Int} (h : RR b kc G C) (hkc : kc < 512) (hL : LW N np T E G) (ht : t < 8) (hs : s < 8) (h3 : E 0 3 + 100 < 100000) (hk : k < 26) (hx : x17 < 2147483648) (hn : (G.2 6 t = -1 ∧ t03 = 0) ∨ (G.2 6 t ≠ -1 ∧ t03 = 1)) (J : Int → Rw → Cd → (Nat → Nat) → Option (Int × S3)) : DeedO b kc E C (fW_law_1273 b (k : Int) (x17 : Int) (t : Int) t03 (prAt G N t) (s : Int) J E C q) J := by
  by_cases k15 : k = 15
  · subst k15
    exact D_approve h hkc hL ht (by omega) hn J
  · by_cases k19 : k < 19
    · exact D_work2 h (by omega) hL (by omega) ⟨k15, k19⟩ hx J
    · by_cases k22 : k < 22
      · have c1 : ¬ w32 (k : Int) = w32 15 := by rw [w32_n (by omega), show w32 15 = 15 from rfl]; omega
        have c2 : w32 19 ≤ w32 (k : Int) := by rw [w32_n (by omega), show w32 19 = 19 from rfl]; omega
        have c3 : ¬ w32 22 ≤ w32 (k : Int) := by rw [w32_n (by omega), show w32 22 = 22 from rfl]; omega
        unfold fW_law_1273
        rw [if_pos c1, if_pos c2, if_neg c3, bnd_eq]
        by_cases c : w32 (remI (divI (x17 : Int) 8) 2) = 0
        · rw [if_neg (fun z => z c)]
          exact D_read (w := 1) h (by omega) hL ht (by decide) (by omega) hn J
        · rw [if_pos c]
          exact D_read (w := 0) h (by omega) hL ht (by decide) (by omega) hn J
      · by_cases k24 : k < 24
        · exact D_rank h hL ht (by omega) (by omega) hx J
        · exact D_trans h hL ht hs (by omega) (by omega) hx hn J
theorem D_1231 {k x17 : Nat} {t03 : Int} (h : RR b kc G C) (hkc : kc < 512) (hL : LW N np T E G) (ht : t < 8) (hs : s < 8) (h3 : E 0 3 + 100 < 100000) (hk : k < 26) (hx : x17 < 2147483648) (hn : (G.2 6 t = -1 ∧ t03 = 0) ∨ (G.2 6 t ≠ -1 ∧ t03 = 1)) (J : Int → Rw → Cd → (Nat → Nat) → Option (Int × S3)) : DeedO b kc E C (fW_law_1231 b (k : Int) (x17 : Int) (t : Int) t03 (prAt G N t) (s : Int) J E C q) J := by
  have i0 : inR 0 (wLen 0) := inW 4 wl_0 (by decide) (by decide) (by decide)
  have e00 : E 0 0 = (N : Int) := hL.1.1.1
  have n32 := hL.1.1.2.1
  by_cases c : k = 14 ∧ N < 24
  · obtain ⟨c1, c2⟩ := c
    subst c1
    exact D_tree h (by omega) hL c2 (by omega) hx J
  · have e : fW_law_1231 b (k : Int) (x17 : Int) (t : Int) t03 (prAt G N t) (s : Int) J E C q = fW_law_1273 b (k : Int) (x17 : Int) (t : Int) t03 (prAt G N t) (s : Int) J E C q := by
      unfold fW_law_1231
      rw [bnd_eq]
      by_cases d : k = 14
      · subst d
        rw [if_neg (fun z => z rfl), if_pos i0, show ix 0 = 0 from rfl, e00, if_pos (by rw [w32_n (by omega), show w32 24 = 24 from rfl]; omega)]
      · rw [if_pos (by rw [w32_n (by omega), show w32 14 = 14 from rfl]; omega)]
    rw [e]
    exact D_1273 h hkc hL ht hs h3 hk hx hn J
theorem D_1066 {k x17 : Nat} {t03 : Int} (h : RR b kc G C) (hkc : kc < 512) (hL : LW N np T E G) (ht : t < 8) (hs : s < 8) (h3 : E 0 3 + 100 < 100000) (hk : k < 26) (hx : x17 < 2147483648) (hn : (G.2 6 t = -1 ∧ t03 = 0) ∨ (G.2 6 t ≠ -1 ∧ t03 = 1)) (J : Int → Rw → Cd → (Nat → Nat) → Option (Int × S3)) : DeedO b kc E C (fW_law_1066 b (k : Int) (x17 : Int) (t : Int) t03 (prAt G N t) (s : Int) J E C q) J := by
  have i0 : inR 0 (wLen 0) := inW 4 wl_0 (by decide) (by decide) (by decide)
  have e00 : E 0 0 = (N : Int) := hL.1.1.1
  have n32 := hL.1.1.2.1
  by_cases c : k < 14 ∧ N < 32
  · exact D_move h (by omega) hL ht hs c.2 (by omega) c.1 hn J
  · have e : fW_law_1066 b (k : Int) (x17 : Int) (t : Int) t03 (prAt G N t) (s : Int) J E C q = fW_law_1231 b (k : Int) (x17 : Int) (t : Int) t03 (prAt G N t) (s : Int) J E C q := by
      unfold fW_law_1066
      rw [bnd_eq]
      by_cases d : k < 14
      · rw [if_neg (by rw [w32_n (by omega), show w32 14 = 14 from rfl]; omega), if_pos i0, show ix 0 = 0 from rfl, e00, if_pos (by rw [w32_n (by omega), show w32 32 = 32 from rfl]; omega)]
      · rw [if_pos (by rw [w32_n (by omega), show w32 14 = 14 from rfl]; omega)]
    rw [e]
    exact D_1231 h hkc hL ht hs h3 hk hx hn J
theorem D_933 {k x17 : Nat} {t03 : Int} {Tn : List Nat} (ok : okT Tn) (hl : 1 ≤ Tn.length ∧ Tn.length ≤ 5) (h : RR b kc G C) (hkc : kc < 512) (hL : LW N np T E G) (ht : t < 8) (hs : s < 8) (h3 : E 0 3 + 100 < 100000) (hk : k < 26) (hx : x17 < 2147483648) (hn : (G.2 6 t = -1 ∧ t03 = 0) ∨ (G.2 6 t ≠ -1 ∧ t03 = 1)) (J : Int → Rw → Cd → (Nat → Nat) → Option (Int × S3)) : DeedO b kc E C (fW_law_933 b (k : Int) (x17 : Int) (t : Int) t03 (prAt G N t) (encT Tn) (s : Int) J E C q) J := by
  have i0 : inR 0 (wLen 0) := inW 4 wl_0 (by decide) (by decide) (by decide)
  have e00 : E 0 0 = (N : Int) := hL.1.1.1
  have n32 := hL.1.1.2.1
  by_cases c : k = 11 ∧ N < 32
  · obtain ⟨c1, c2⟩ := c
    subst c1
    exact D_bring h (by omega) hL ht ok hl c2 (by omega) hx hn J
  · have e : fW_law_933 b (k : Int) (x17 : Int) (t : Int) t03 (prAt G N t) (encT Tn) (s : Int) J E C q = fW_law_1066 b (k : Int) (x17 : Int) (t : Int) t03 (prAt G N t) (s : Int) J E C q := by
      unfold fW_law_933
      rw [bnd_eq]
      by_cases d : k = 11
      · subst d
        rw [if_neg (fun z => z rfl), if_pos i0, show ix 0 = 0 from rfl, e00, if_pos (by rw [w32_n (by omega), show w32 32 = 32 from rfl]; omega)]
      · rw [if_pos (by rw [w32_n (by omega), show w32 11 = 11 from rfl]; omega)]
    rw [e]
    exact D_1066 h hkc hL ht hs h3 hk hx hn J
theorem D_696 {k x17 : Nat} {t03 : Int} {Tn : List Nat} (ok : okT Tn) (hl : 1 ≤ Tn.length ∧ Tn.length ≤ 5) (h : RR b kc G C) (hkc : kc < 512) (hL : LW N np T E G) (ht : t < 8) (hs : s < 8) (h3 : E 0 3 + 100 < 100000) (hk : k < 26) (hx : x17 < 2147483648) (hn : (G.2 6 t = -1 ∧ t03 = 0) ∨ (G.2 6 t ≠ -1 ∧ t03 = 1)) (J : Int → Rw → Cd → (Nat → Nat) → Option (Int × S3)) : DeedO b kc E C (fW_law_696 b 1 (k : Int) (x17 : Int) (t : Int) t03 (prAt G N t) (encT Tn) (s : Int) J E C q) J := by
  have i0 : inR 0 (wLen 0) := inW 4 wl_0 (by decide) (by decide) (by decide)
  have e00 : E 0 0 = (N : Int) := hL.1.1.1
  have n32 := hL.1.1.2.1
  by_cases c : k = 10 ∧ N < 32
  · obtain ⟨c1, c2⟩ := c
    subst c1
    exact D_undo h (by omega) hL ht c2 (by omega) hx J
  · have e : fW_law_696 b 1 (k : Int) (x17 : Int) (t : Int) t03 (prAt G N t) (encT Tn) (s : Int) J E C q = fW_law_933 b (k : Int) (x17 : Int) (t : Int) t03 (prAt G N t) (encT Tn) (s : Int) J E C q := by
      unfold fW_law_696
      rw [bnd_eq]
      by_cases d : k = 10
      · subst d
        rw [if_neg (fun z => z rfl), if_pos i0, show ix 0 = 0 from rfl, e00, if_pos (by rw [w32_n (by omega), show w32 32 = 32 from rfl]; omega)]
      · rw [if_pos (by rw [w32_n (by omega), show w32 10 = 10 from rfl]; omega)]
    rw [e]
    exact D_933 ok hl h hkc hL ht hs h3 hk hx hn J
theorem D_352 {k x17 : Nat} {t03 : Int} {Tn : List Nat} (ok : okT Tn) (hl : 1 ≤ Tn.length ∧ Tn.length ≤ 5) (h : RR b kc G C) (hkc : kc < 512) (hL : LW N np T E G) (ht : t < 8) (hs : s < 8) (h3 : E 0 3 + 100 < 100000) (hk : k < 26) (hx : x17 < 2147483648) (hn : (G.2 6 t = -1 ∧ t03 = 0) ∨ (G.2 6 t ≠ -1 ∧ t03 = 1)) (J : Int → Rw → Cd → (Nat → Nat) → Option (Int × S3)) : DeedO b kc E C (fW_law_352 b 1 (k : Int) (x17 : Int) (t : Int) t03 (prAt G N t) (encT Tn) (s : Int) J E C q) J := by
  have i0 : inR 0 (wLen 0) := inW 4 wl_0 (by decide) (by decide) (by decide)
  have e00 : E 0 0 = (N : Int) := hL.1.1.1
  have n32 := hL.1.1.2.1
  by_cases c : k < 10 ∧ N < 32
  · exact D_edit h (by omega) hL ht ok hl.2 c.2 (by omega) hx c.1 hn J
  · have e : fW_law_352 b 1 (k : Int) (x17 : Int) (t : Int) t03 (prAt G N t) (encT Tn) (s : Int) J E C q = fW_law_696 b 1 (k : Int) (x17 : Int) (t : Int) t03 (prAt G N t) (encT Tn) (s : Int) J E C q := by
      unfold fW_law_352
      rw [bnd_eq]
      by_cases d : k < 10
      · rw [if_neg (by rw [w32_n (by omega), show w32 10 = 10 from rfl]; omega), if_pos i0, show ix 0 = 0 from rfl, e00, if_pos (by rw [w32_n (by omega), show w32 32 = 32 from rfl]; omega)]
      · rw [if_pos (by rw [w32_n (by omega), show w32 10 = 10 from rfl]; omega)]
    rw [e]
    exact D_696 ok hl h hkc hL ht hs h3 hk hx hn J
theorem D_203 {k x17 : Nat} {t03 v14 : Int} {L : Int → Int → Rw → Cd → (Nat → Nat) → Option (Int × S3)} (h : RR b kc G C) (hkc : kc < 512) (hL : LW N np T E G) (ht : t < 8) (h3 : E 0 3 + 100 < 100000) (hk : k < 26) (hx : x17 < 100000000) (hn : (G.2 6 t = -1 ∧ t03 = 0) ∨ (G.2 6 t ≠ -1 ∧ t03 = 1)) : TurnO b kc E C (fW_law_203 b L 1 v14 (k : Int) (x17 : Int) (t : Int) t03 E C q) L v14 := by
  refine T_1788 (x17 := (x17 : Int)) (by omega) ⟨by omega, by omega⟩ ?_
  have i0 : inR 0 (wLen 0) := inW 4 wl_0 (by decide) (by decide) (by decide)
  have e00 : E 0 0 = (N : Int) := hL.1.1.1
  have n32 := hL.1.1.2.1
  have d8 : divI (x17 : Int) 8 = ((x17 / 8 : Nat) : Int) := by rw [show (8 : Int) = ((8 : Nat) : Int) from rfl, divI_N (by omega) (by decide) (by decide)]
  have r8 : remI ((x17 / 8 : Nat) : Int) 8 = ((x17 / 8 % 8 : Nat) : Int) := by rw [show (8 : Int) = ((8 : Nat) : Int) from rfl, remI_N (by omega) (by decide) (by decide)]
  have l8 : x17 / 8 % 8 < 8 := Nat.mod_lt _ (by decide)
  obtain ⟨Tn, w1, w2, w3, w4⟩ := W_drawn (y := x17 / 8) (by omega)
  unfold fW_law_203
  rw [cal1_of (W_present hL.1.1 hL.1.2.1 ht), d8, cal1_of w1, r8, bnd_eq, bnd_eq, bnd_eq]
  have rest := D_352 (q := q) w2 ⟨w3, w4⟩ h hkc hL ht l8 h3 hk (show x17 < 2147483648 by omega) hn (fun v E C q => fW_law_1788 b L v14 (x17 : Int) v E C q)
  by_cases c5 : k < 5
  · rw [if_neg (by rw [w32_n (by omega), show w32 5 = 5 from rfl]; omega), if_pos i0, show ix 0 = 0 from rfl, e00]
    by_cases c32 : N < 32
    · rw [if_neg (by rw [w32_n (by omega), show w32 32 = 32 from rfl]; omega), bnd_eq]
      have cr := D_create (q := q) h (by omega) hL ht w2 ⟨w3, w4⟩ c32 (by omega) (fun v E C q => fW_law_1788 b L v14 (x17 : Int) v E C q)
      rcases hn with ⟨z1, z2⟩ | ⟨z1, z2⟩
      · rw [if_pos z1] at cr
        rw [z2, if_neg (fun z => z (by decide))]
        exact cr
      · rw [if_neg z1] at cr
        rw [z2, if_pos (by decide)]
        exact cr
    · rw [if_pos (by rw [w32_n (by omega), show w32 32 = 32 from rfl]; omega)]
      exact rest
  · rw [if_pos (by rw [w32_n (by omega), show w32 5 = 5 from rfl]; omega)]
    exact rest
end NUM
