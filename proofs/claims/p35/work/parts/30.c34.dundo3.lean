/-! THE LAW'S DEEDS: undo, whether it may be -/
section DU3
variable {b kc N np t pv : Nat} {E : Rw} {G : Md} {C : Cd} {T : Nat → List Nat} {q : Nat → Nat} {r67 : Int}
theorem take_5 {R : List Nat} (h : R.length ≤ 5) : R.take 6 = R := List.take_of_length_le (by omega)
theorem lcmp_1 {R : List Nat} (h : TM R) : (w32 (lcmpI (encT R) 1) ≤ 0) ↔ encT R ≤ 1 := by
  have := encT_b h
  exact lcmp_le ⟨by omega, by omega⟩ ⟨by decide, by decide⟩
theorem enc_gt {R : List Nat} (h : TM R) (h1 : 1 ≤ R.length) : 1 < encT R := by
  have a := (encT_rng R.length R rfl h.2).1
  have p : (1024 : Int) ^ 1 ≤ (1024 : Int) ^ R.length := by
    obtain ⟨n, hn⟩ : ∃ n, R.length = n + 1 := ⟨R.length - 1, by omega⟩
    have q : (0 : Int) < (1024 : Int) ^ n := Int.pow_pos (by decide)
    rw [hn, Int.pow_succ, Int.pow_succ, Int.pow_zero]
    omega
  rw [Int.pow_succ, Int.pow_zero] at p
  omega
theorem un_788n (J : Int → Rw → Cd → (Nat → Nat) → Option (Int × S3)) : fW_law_788 b 1 (t : Int) (pv : Int) J r67 1 0 E C q = fW_law_843 b (t : Int) r67 1 0 0 (fun v E C q => fW_law_930 J v E C q) E C q := by
  unfold fW_law_788 fW_law_825
  rw [bnd_eq, bnd_eq, if_neg (by decide), if_pos (by decide)]
  exact un_826n J
theorem un_788k {R : List Nat} (hL : LW N np T E G) (hpv : pv < N) (ok : ∀ m ∈ R, okM m) (h5 : R.length ≤ 5) (hno : ¬ (isTL R = true ∧ R ≠ T pv)) (J : Int → Rw → Cd → (Nat → Nat) → Option (Int × S3)) : fW_law_788 b 1 (t : Int) (pv : Int) J r67 1 (encT R) E C q = fW_law_843 b (t : Int) r67 1 (encT R) 0 (fun v E C q => fW_law_930 J v E C q) E C q := by
  have tm : TM R := ⟨by omega, fun m hm => (ok m hm).lt⟩
  obtain ⟨c1, c2, c3, _⟩ := hL.1.2.2.1 pv hpv
  have n32 := hL.1.1.2.1
  have i3 : inR (pv : Int) (wLen 3) := inWn 32 wl_3 (by omega) (by decide)
  have K := un_826k (b := b) (t := t) (r67 := r67) (f := 0) (E := E) (C := C) (q := q) ok h5 J
  unfold fW_law_788 fW_law_825
  rw [bnd_eq, bnd_eq, if_neg (by decide)]
  by_cases c : w32 (lcmpI (encT R) 1) ≤ 0
  · rw [if_pos c]
    exact K
  · rw [if_neg c, cal1_of (W_isText tm)]
    by_cases d : isTL R = true
    · have e : R = T pv := Decidable.byContradiction (fun z => hno ⟨d, z⟩)
      rw [if_pos d, if_neg (by decide), if_pos i3, ix_n (n := pv) (by omega), c1, if_pos ((enc_ne tm (c2.tm (by omega))).mpr e)]
      exact K
    · rw [if_neg d, if_pos (by decide)]
      exact K
theorem un_788y {R : List Nat} (hL : LW N np T E G) (hpv : pv < N) (ok : ∀ m ∈ R, okM m) (h5 : R.length ≤ 5) (hy : isTL R = true) (hne : R ≠ T pv) (J : Int → Rw → Cd → (Nat → Nat) → Option (Int × S3)) : fW_law_788 b 1 (t : Int) (pv : Int) J r67 1 (encT R) E C q = fW_law_843 b (t : Int) r67 1 (encT R) 1 (fun v E C q => fW_law_930 J v E C q) E C q := by
  have tm : TM R := ⟨by omega, fun m hm => (ok m hm).lt⟩
  obtain ⟨c1, c2, c3, _⟩ := hL.1.2.2.1 pv hpv
  have n32 := hL.1.1.2.1
  have i3 : inR (pv : Int) (wLen 3) := inWn 32 wl_3 (by omega) (by decide)
  have l1 : 1 ≤ R.length := by
    unfold isTL at hy
    rw [Bool.and_eq_true, decide_eq_true_iff] at hy
    exact hy.1.1
  have gt := enc_gt tm l1
  have K := un_826k (b := b) (t := t) (r67 := r67) (f := 1) (E := E) (C := C) (q := q) ok h5 J
  unfold fW_law_788 fW_law_825
  rw [bnd_eq, bnd_eq, if_neg (by decide), if_neg (fun z => by have := (lcmp_1 tm).mp z; omega), cal1_of (W_isText tm), if_pos hy, if_neg (by decide), if_pos i3, ix_n (n := pv) (by omega), c1, if_neg (fun z => hne ((enc_ne tm (c2.tm (by omega))).mp z))]
  exact K
theorem un_788s {R : List Nat} (hL : LW N np T E G) (hpv : pv < N) (ok : ∀ m ∈ R, okM m) (h5 : 5 < R.length) (J : Int → Rw → Cd → (Nat → Nat) → Option (Int × S3)) : fW_law_788 b 1 (t : Int) (pv : Int) J r67 1 (encO (some R)) E C q = J 1 E C q := by
  have tm := take_tm ok
  obtain ⟨c1, c2, c3, _⟩ := hL.1.2.2.1 pv hpv
  have n32 := hL.1.1.2.1
  have i3 : inR (pv : Int) (wLen 3) := inWn 32 wl_3 (by omega) (by decide)
  have K := fun f => un_826s (b := b) (t := t) (r67 := r67) (f := f) (E := E) (C := C) (q := q) ok h5 J
  have K0 := K 0
  have K1 := K 1
  rw [show encO (some R) = encT (R.take 6) from rfl] at *
  unfold fW_law_788 fW_law_825
  rw [bnd_eq, bnd_eq, if_neg (by decide)]
  by_cases c : w32 (lcmpI (encT (R.take 6)) 1) ≤ 0
  · rw [if_pos c]
    exact K0
  · rw [if_neg c, cal1_of (W_isText tm)]
    by_cases d : isTL (R.take 6) = true
    · rw [if_pos d, if_neg (by decide), if_pos i3]
      by_cases e : w32 (lcmpI (encT (R.take 6)) (E 3 (ix (pv : Int)))) = 0
      · rw [if_pos e]
        exact K0
      · rw [if_neg e]
        exact K1
    · rw [if_neg d, if_pos (by decide)]
      exact K0
end DU3
