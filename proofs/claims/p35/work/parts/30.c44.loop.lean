/-! THE LAW'S LOOP -/
section LOP
variable {b kc N np t : Nat} {E : Rw} {G : Md} {C : Cd} {T : Nat → List Nat} {q : Nat → Nat} {L : Int → Int → Rw → Cd → (Nat → Nat) → Option (Int × S3)} {xs : Nat → Int32} {Ls : Nat}
theorem and31 (x : Int) : ∃ n : Nat, n < 2147483648 ∧ andI x 2147483647 = (n : Int) := by
  have e : Int32.ofInt x = nI (Int32.ofInt x).toBitVec.toNat := by
    apply Int32.toBitVec_inj.1
    show (Int32.ofInt x).toBitVec = BitVec.ofNat 32 (Int32.ofInt x).toBitVec.toNat
    exact BitVec.eq_of_toNat_eq (by rw [BitVec.toNat_ofNat]; exact (Nat.mod_eq_of_lt (Int32.ofInt x).toBitVec.isLt).symm)
  have le : (Int32.ofInt x).toBitVec.toNat &&& 2147483647 ≤ 2147483647 := Nat.and_le_right
  refine ⟨(Int32.ofInt x).toBitVec.toNat &&& 2147483647, by omega, ?_⟩
  have a : andI x 2147483647 = (Int32.ofInt x &&& nI 2147483647).toInt := by
    unfold andI
    rw [show (2147483647 : Int) = ((2147483647 : Nat) : Int) from rfl, oN]
  rw [a]
  generalize (Int32.ofInt x).toBitVec.toNat = n at *
  rw [e, za_and]
  exact nI_T (by omega)
theorem T_189 {k x17 : Nat} {v14 : Int} (h : RR b kc G C) (hkc : kc < 512) (hL : LW N np T E G) (ht : t < 8) (h3 : E 0 3 + 100 < 100000) (hk : k < 26) (hx : x17 < 100000000) : TurnO b kc E C (fW_law_189 b L 1 v14 (k : Int) (x17 : Int) (t : Int) E C q) L v14 := by
  have it : inR (t : Int) (wLen 1) := inWn 8 wl_1 ht (by decide)
  obtain ⟨p1, p2, p3⟩ := hL.1.2.1 t ht
  unfold fW_law_189
  rw [if_pos it, bnd_eq, ix_n (n := t) (by omega), p1]
  by_cases c : G.2 6 t = -1
  · rw [c, if_pos (by decide)]
    exact D_203 h hkc hL ht h3 hk hx (Or.inl ⟨c, rfl⟩)
  · rw [if_neg (by rw [w32_of (by omega) (by omega)]; omega)]
    exact D_203 h hkc hL ht h3 hk hx (Or.inr ⟨c, rfl⟩)
theorem T_147 {j qn : Nat} (hj : j < 100) (hq : qn < 2147483648) (h : RR b kc G C) (hkc : kc < 512) (hL : LW N np T E G) (h3 : E 0 3 + 100 < 100000) : TurnO b kc E C (fW_law_147 b L 1 (j : Int) (qn : Int) E C q) L (j : Int) := by
  have r26 : remI (qn : Int) 26 = ((qn % 26 : Nat) : Int) := by rw [show (26 : Int) = ((26 : Nat) : Int) from rfl, remI_N (by omega) (by decide) (by decide)]
  have d26 : divI (qn : Int) 26 = ((qn / 26 : Nat) : Int) := by rw [show (26 : Int) = ((26 : Nat) : Int) from rfl, divI_N (by omega) (by decide) (by decide)]
  have r8 : remI ((qn / 26 : Nat) : Int) 8 = ((qn / 26 % 8 : Nat) : Int) := by rw [show (8 : Int) = ((8 : Nat) : Int) from rfl, remI_N (by omega) (by decide) (by decide)]
  have l26 : qn % 26 < 26 := Nat.mod_lt _ (by decide)
  have l8 : qn / 26 % 8 < 8 := Nat.mod_lt _ (by decide)
  unfold fW_law_147 fW_law_164
  by_cases c : 3 ≤ j
  · have c3 : w32 3 ≤ w32 (j : Int) := by rw [w32_n (by omega), show w32 3 = 3 from rfl]; omega
    rw [bnd_eq, if_pos c3, r26]; (try dsimp only); rw [d26, bnd_eq, bnd_eq, if_pos c3, r8]
    exact T_189 h hkc hL l8 h3 l26 (by omega)
  · have c3 : ¬ w32 3 ≤ w32 (j : Int) := by rw [w32_n (by omega), show w32 3 = 3 from rfl]; omega
    rw [bnd_eq, if_neg c3]; (try dsimp only); rw [d26, bnd_eq, bnd_eq, if_neg c3]
    exact T_189 (k := 0) h hkc hL (by omega) h3 (by decide) (by omega)
theorem T_97 {j : Nat} (hLs : Ls < 2147483648) (hj : j < 100) (h : RR b kc G C) (hkc : kc < 512) (hL : LW N np T E G) (h3 : E 0 3 + 100 < 100000) : TurnO b kc E C (fW_law_97 xs Ls b L 1 (j : Int) E C q) L (j : Int) := by
  unfold fW_law_97
  rw [bnd_eq, if_neg (by rw [w32_n (by omega), show w32 100 = 100 from rfl]; omega), if_neg (by decide), bnd_eq]
  by_cases c : Ls ≤ j
  · obtain ⟨n, n1, n2⟩ := and31 ((((42019 * (j : Int)) * (j : Int)) + (8017 * (j : Int))) + 71)
    rw [if_pos (by rw [w32_n (by omega), w32_n (by omega)]; omega), n2]
    exact T_147 hj n1 h hkc hL h3
  · obtain ⟨n, n1, n2⟩ := and31 (xs (ix (j : Int))).toInt
    rw [if_neg (by rw [w32_n (by omega), w32_n (by omega)]; omega), if_pos ⟨by rw [w32_n (by omega)]; omega, by rw [w32_n (by omega)]; omega⟩, n2]
    exact T_147 hj n1 h hkc hL h3
/-- what n turns more may take, and the end -/
def rmC : Nat → Nat
  | 0 => 8057
  | n + 1 => rmC n + (if (99 - n) % 5 < 4 then 600 else 8657)
def rmS : Nat → Nat
  | 0 => 160440
  | n + 1 => rmS n + (if (99 - n) % 5 < 4 then 11000 else 171440)
theorem rmC_100 : rmC 100 = 229197 := by decide
theorem rmS_100 : rmS 100 = 4469240 := by decide
theorem T_loop (hLs : Ls < 2147483648) (h : RR b 0 G C) (hL : LW N np T E G) (h3 : E 0 3 ≤ 1000) : ∃ E' C' q', lpn (fun (_ : Int) (_ : Int) (_ : Rw) (_ : Cd) (_ : (Nat → Nat)) => (none : Option (Int × S3))) (fun L97 (v13_97 : Int) (v14_97 : Int) (E_97 : Rw) (C_97 : Cd) (q_97 : (Nat → Nat)) =>
fW_law_97 xs Ls b L97 v13_97 v14_97 E_97 C_97 q_97) FU 1 0 E C q = some (1, (E', C', q')) ∧ IsR b C C' (rmC 100) (rmS 100) := by
  have key := lpn_rule (z := fun (_ : Int) (_ : Int) (_ : Rw) (_ : Cd) (_ : (Nat → Nat)) => (none : Option (Int × S3))) (body := fun L97 (v13_97 : Int) (v14_97 : Int) (E_97 : Rw) (C_97 : Cd) (q_97 : (Nat → Nat)) =>
fW_law_97 xs Ls b L97 v13_97 v14_97 E_97 C_97 q_97) (P := fun mm (L : Int → Int → Rw → Cd → (Nat → Nat) → Option (Int × S3)) => ∀ (n : Nat) (E1 : Rw) (C1 : Cd) (q1 : Nat → Nat) (G1 : Md) (N1 np1 : Nat) (T1 : Nat → List Nat), n ≤ 100 → n < mm → RR b (100 - n) G1 C1 → LW N1 np1 T1 E1 G1 → E1 0 3 ≤ 1000 + 100 * ((100 - n : Nat) : Int) → ∃ E' C' q', L 1 ((100 - n : Nat) : Int) E1 C1 q1 = some (1, (E', C', q')) ∧ IsR b C1 C' (rmC n) (rmS n)) (fun n _ _ _ _ _ _ _ _ h => absurd h (Nat.not_lt_zero _)) (fun mm L hLL n E1 C1 q1 G1 N1 np1 T1 hn hm hR hW hE => ?_) FU
  · exact key 100 E C q G N np T (Nat.le_refl _) (by unfold FU; omega) h hL (by omega)
  · show ∃ E' C' q', fW_law_97 xs Ls b L 1 ((100 - n : Nat) : Int) E1 C1 q1 = some (1, (E', C', q')) ∧ IsR b C1 C' (rmC n) (rmS n)
    rcases n with _ | n
    · obtain ⟨E', C', q', e1, e2⟩ := T_end (q := q1) hR hW (by omega)
      refine ⟨E', C', q', ?_, e2⟩
      unfold fW_law_97
      rw [bnd_eq, if_pos (by decide)]
      exact e1
    · obtain ⟨E2, C2, q2, G2, N2, np2, T2, a1, a2, a3, a4, a5, a6⟩ := T_97 (L := L) (xs := xs) (q := q1) (j := 100 - (n + 1)) hLs (by omega) hR (by omega) hW (by omega)
      have ej : 100 - (n + 1) + 1 = 100 - n := by omega
      rw [ej] at a2
      obtain ⟨E', C', q', e1, e2⟩ := hLL n E2 C2 q2 G2 N2 np2 T2 (by omega) (by omega) a2 a3 (by omega)
      have ej2 : ((100 - (n + 1) : Nat) : Int) + 1 = ((100 - n : Nat) : Int) := by omega
      rw [ej2] at a1
      refine ⟨E', C', q', a1.trans e1, ?_⟩
      have r5 : remI ((100 - (n + 1) : Nat) : Int) 5 = (((100 - (n + 1)) % 5 : Nat) : Int) := by rw [show (5 : Int) = ((5 : Nat) : Int) from rfl, remI_N (by omega) (by decide) (by decide)]
      have l5 : (100 - (n + 1)) % 5 < 5 := Nat.mod_lt _ (by decide)
      have z := a4.tr e2
      have c1 : rmC (n + 1) = rmC n + (if (99 - n) % 5 < 4 then 600 else 8657) := rfl
      have c2 : rmS (n + 1) = rmS n + (if (99 - n) % 5 < 4 then 11000 else 171440) := rfl
      rw [c1, c2, Nat.add_comm (rmC n), Nat.add_comm (rmS n)]
      have e99 : 100 - (n + 1) = 99 - n := by omega
      rw [r5, e99] at z
      by_cases c : (99 - n) % 5 < 4
      · rw [if_pos (show w32 (((99 - n) % 5 : Nat) : Int) < w32 4 by rw [w32_n (by omega), show w32 4 = 4 from rfl]; omega), if_pos (show w32 (((99 - n) % 5 : Nat) : Int) < w32 4 by rw [w32_n (by omega), show w32 4 = 4 from rfl]; omega)] at z
        rw [if_pos c, if_pos c]
        exact z
      · rw [if_neg (show ¬ w32 (((99 - n) % 5 : Nat) : Int) < w32 4 by rw [w32_n (by omega), show w32 4 = 4 from rfl]; omega), if_neg (show ¬ w32 (((99 - n) % 5 : Nat) : Int) < w32 4 by rw [w32_n (by omega), show w32 4 = 4 from rfl]; omega)] at z
        rw [if_neg c, if_neg c]
        exact z
/-- the law, as a function: it gives 1, and what it takes -/
theorem law_1 (hLs : Ls < 2147483648) (h : RR b 0 G C) (hL : LW N np T E G) (h3 : E 0 3 ≤ 1000) : ∃ E' C' q', fW_law xs Ls b E C q = some (1, (E', C', q')) ∧ IsR b C C' 237254 4629680 := by
  obtain ⟨E1, C1, q1, G1, w1, w2, w3, w4, w5, w6⟩ := W_isWiki (q := q) (a10 := 0) h hL (by decide) ⟨by decide, by decide⟩
  obtain ⟨E', C', q', e1, e2⟩ := T_loop (xs := xs) (q := q1) hLs w2 w3 (by rw [w6 0 (by decide)]; exact h3)
  rw [rmC_100, rmS_100] at e2
  refine ⟨E', C', q', ?_, (w5.tr e2).mono (by omega) (by omega)⟩
  unfold fW_law
  rw [cal3_of w1, bnd_eq]
  exact e1
end LOP
