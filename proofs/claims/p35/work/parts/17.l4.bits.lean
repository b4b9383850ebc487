/-! how many bits are set: by halves of halves -/
theorem and_split (A B M m : Nat) (hB : B < 256) (hm : m < 256) : (256 * A + B) &&& (256 * M + m) = 256 * (A &&& M) + (B &&& m) := by
  have e1 : ((256 * A + B) &&& (256 * M + m)) / 2 ^ 8 = A &&& M := by
    rw [Nat.and_div_two_pow]
    have h1 : (256 * A + B) / 2 ^ 8 = A := by omega
    have h2 : (256 * M + m) / 2 ^ 8 = M := by omega
    rw [h1, h2]
  have e2 : ((256 * A + B) &&& (256 * M + m)) % 2 ^ 8 = B &&& m := by
    rw [Nat.and_mod_two_pow]
    have h1 : (256 * A + B) % 2 ^ 8 = B := by omega
    have h2 : (256 * M + m) % 2 ^ 8 = m := by omega
    rw [h1, h2]
  have h3 := Nat.div_add_mod ((256 * A + B) &&& (256 * M + m)) (2 ^ 8)
  rw [e1, e2] at h3
  omega
def by1 (l : Nat) : Nat := l - ((l / 2) &&& 0x55)
def by2 (l : Nat) : Nat := (l &&& 0x33) + ((l / 4) &&& 0x33)
theorem by_c1 : ∀ c, c < 2 → ∀ l, l < 256 → (128 * c + l / 2) &&& 0x55 = (l / 2) &&& 0x55 := by decide +kernel
theorem by_c2 : ∀ c, c < 4 → ∀ l, l < 256 → (64 * c + l / 4) &&& 0x33 = (l / 4) &&& 0x33 := by decide +kernel
theorem by_c3 : ∀ l, l < 256 → by1 l < 256 ∧ by2 (by1 l) / 16 ≤ 4 ∧ by2 (by1 l) % 16 ≤ 4 ∧ by2 (by1 l) / 16 + by2 (by1 l) % 16 = nBits l 8 := by decide +kernel
theorem by_c4 : ∀ s, s < 256 → s &&& 0x0f = s % 16 := by decide +kernel
theorem by_s1 (M h l : Nat) (hl : l < 256) : (256 * h + l) - (((256 * h + l) / 2) &&& (256 * M + 0x55)) = 256 * (h - ((h / 2) &&& M)) + by1 l := by
  have e : (256 * h + l) / 2 = 256 * (h / 2) + (128 * (h % 2) + l / 2) := by omega
  rw [e, and_split _ _ _ _ (by omega) (by omega), by_c1 _ (Nat.mod_lt _ (by omega)) _ hl]
  have h1 : (h / 2) &&& M ≤ h / 2 := Nat.and_le_left
  have h2 : (l / 2) &&& 0x55 ≤ l / 2 := Nat.and_le_left
  unfold by1
  generalize (h / 2) &&& M = X at *
  generalize (l / 2) &&& 0x55 = Y at *
  omega
theorem by_s2 (M h l : Nat) (hl : l < 256) : ((256 * h + l) &&& (256 * M + 0x33)) + (((256 * h + l) / 4) &&& (256 * M + 0x33)) = 256 * ((h &&& M) + ((h / 4) &&& M)) + by2 l := by
  have e : (256 * h + l) / 4 = 256 * (h / 4) + (64 * (h % 4) + l / 4) := by omega
  rw [e, and_split h l M 0x33 hl (by omega), and_split (h / 4) (64 * (h % 4) + l / 4) M 0x33 (by omega) (by omega), by_c2 _ (Nat.mod_lt _ (by omega)) _ hl]
  unfold by2
  omega
theorem nBits_split (n k : Nat) : ∀ j, nBits n (k + j) = nBits n k + nBits (n / 2 ^ k) j := by
  intro j
  induction j with
  | zero => rfl
  | succ j ih =>
    show nBits n (k + j) + (if n.testBit (k + j) then 1 else 0) = nBits n k + (nBits (n / 2 ^ k) j + (if (n / 2 ^ k).testBit j then 1 else 0))
    rw [ih, Nat.testBit_div_two_pow, Nat.add_comm j k]
    omega
theorem nBits_mod (n k : Nat) : ∀ j, j ≤ k → nBits n j = nBits (n % 2 ^ k) j := by
  intro j
  induction j with
  | zero => intro _; rfl
  | succ j ih =>
    intro h
    show nBits n j + (if n.testBit j then 1 else 0) = nBits (n % 2 ^ k) j + (if (n % 2 ^ k).testBit j then 1 else 0)
    rw [ih (by omega), Nat.testBit_mod_two_pow, decide_eq_true (show j < k by omega), Bool.true_and]
theorem nBits_bytes (n : Nat) : nBits n 32 = nBits (n % 256) 8 + nBits (n / 256 % 256) 8 + nBits (n / 65536 % 256) 8 + nBits (n / 16777216 % 256) 8 := by
  have h1 := nBits_split n 8 24
  have h2 := nBits_split (n / 2 ^ 8) 8 16
  have h3 := nBits_split (n / 2 ^ 8 / 2 ^ 8) 8 8
  rw [show (32 : Nat) = 8 + 24 from rfl, h1, show (24 : Nat) = 8 + 16 from rfl, h2, show (16 : Nat) = 8 + 8 from rfl, h3, nBits_mod n 8 8 (Nat.le_refl _), nBits_mod (n / 2 ^ 8) 8 8 (Nat.le_refl _), nBits_mod (n / 2 ^ 8 / 2 ^ 8) 8 8 (Nat.le_refl _), nBits_mod (n / 2 ^ 8 / 2 ^ 8 / 2 ^ 8) 8 8 (Nat.le_refl _)]
  have e1 : n / 2 ^ 8 / 2 ^ 8 = n / 65536 := by omega
  have e2 : n / 2 ^ 8 / 2 ^ 8 / 2 ^ 8 = n / 16777216 := by omega
  rw [e2, e1, show (2 : Nat) ^ 8 = 256 from rfl]
  omega
def sw1 (n : Nat) : Nat := n - ((n / 2) &&& 1431655765)
def sw2 (n : Nat) : Nat := (n &&& 858993459) + ((n / 4) &&& 858993459)
def sw3 (n : Nat) : Nat := (n + n / 16) &&& 252645135
def sw4 (n : Nat) : Nat := n + n / 256
def sw5 (n : Nat) : Nat := n + n / 65536
theorem sw_all (n : Nat) (hn : n < 4294967296) : sw5 (sw4 (sw3 (sw2 (sw1 n)))) &&& 63 = nBits n 32 ∧ sw1 n ≤ n ∧ sw2 (sw1 n) ≤ 1717986918 ∧ sw3 (sw2 (sw1 n)) ≤ 134744072 ∧ sw4 (sw3 (sw2 (sw1 n))) ≤ 200000000 := by
  obtain ⟨b0, b1, b2, b3, h0, h1, h2, h3, e⟩ : ∃ b0 b1 b2 b3, b0 < 256 ∧ b1 < 256 ∧ b2 < 256 ∧ b3 < 256 ∧ n = 256 * (256 * (256 * b3 + b2) + b1) + b0 := ⟨n % 256, n / 256 % 256, n / 65536 % 256, n / 16777216, by omega, by omega, by omega, by omega, by omega⟩
  obtain ⟨p0, q0, r0, t0⟩ := by_c3 b0 h0
  obtain ⟨p1, q1, r1, t1⟩ := by_c3 b1 h1
  obtain ⟨p2, q2, r2, t2⟩ := by_c3 b2 h2
  obtain ⟨p3, q3, r3, t3⟩ := by_c3 b3 h3
  have hb : nBits n 32 = nBits b0 8 + nBits b1 8 + nBits b2 8 + nBits b3 8 := by
    rw [nBits_bytes, show n % 256 = b0 by omega, show n / 256 % 256 = b1 by omega, show n / 65536 % 256 = b2 by omega, show n / 16777216 % 256 = b3 by omega]
  have s1 : sw1 n = 256 * (256 * (256 * by1 b3 + by1 b2) + by1 b1) + by1 b0 := by
    unfold sw1
    rw [e, show (1431655765 : Nat) = 256 * (256 * (256 * (256 * 0 + 0x55) + 0x55) + 0x55) + 0x55 from rfl, by_s1 _ _ _ h0, by_s1 _ _ _ h1, by_s1 _ _ _ h2]
    have h9 := by_s1 0 0 b3 h3
    rw [show 256 * 0 + b3 = b3 by omega, show 0 - (0 / 2 &&& 0) = 0 from rfl, show 256 * 0 + by1 b3 = by1 b3 by omega] at h9
    rw [h9]
  have s2 : sw2 (sw1 n) = 256 * (256 * (256 * by2 (by1 b3) + by2 (by1 b2)) + by2 (by1 b1)) + by2 (by1 b0) := by
    unfold sw2
    rw [s1, show (858993459 : Nat) = 256 * (256 * (256 * (256 * 0 + 0x33) + 0x33) + 0x33) + 0x33 from rfl, by_s2 _ _ _ p0, by_s2 _ _ _ p1, by_s2 _ _ _ p2]
    have h9 := by_s2 0 0 (by1 b3) p3
    rw [show 256 * 0 + by1 b3 = by1 b3 by omega, show (0 &&& 0) + (0 / 4 &&& 0) = 0 from rfl, show 256 * 0 + by2 (by1 b3) = by2 (by1 b3) by omega] at h9
    rw [h9]
  have i1 : sw1 n ≤ n := Nat.sub_le _ _
  generalize sw2 (sw1 n) = u2 at *
  generalize by2 (by1 b0) = v0 at *
  generalize by2 (by1 b1) = v1 at *
  generalize by2 (by1 b2) = v2 at *
  generalize by2 (by1 b3) = v3 at *
  have s3 : sw3 u2 = 256 * (256 * (256 * (v3 / 16 + v3 % 16) + (v2 / 16 + v2 % 16)) + (v1 / 16 + v1 % 16)) + (v0 / 16 + v0 % 16) := by
    unfold sw3
    have e3 : u2 + u2 / 16 = 256 * (256 * (256 * (v3 + v3 / 16) + (v2 + v2 / 16 + 16 * (v3 % 16))) + (v1 + v1 / 16 + 16 * (v2 % 16))) + (v0 + v0 / 16 + 16 * (v1 % 16)) := by omega
    rw [e3, show (252645135 : Nat) = 256 * (256 * (256 * 0x0f + 0x0f) + 0x0f) + 0x0f from rfl, and_split _ _ _ _ (by omega) (by omega), and_split _ _ _ _ (by omega) (by omega), and_split _ _ _ _ (by omega) (by omega), by_c4 _ (by omega), by_c4 _ (by omega), by_c4 _ (by omega), by_c4 _ (by omega), show (v3 + v3 / 16) % 16 = v3 / 16 + v3 % 16 by omega, show (v2 + v2 / 16 + 16 * (v3 % 16)) % 16 = v2 / 16 + v2 % 16 by omega, show (v1 + v1 / 16 + 16 * (v2 % 16)) % 16 = v1 / 16 + v1 % 16 by omega, show (v0 + v0 / 16 + 16 * (v1 % 16)) % 16 = v0 / 16 + v0 % 16 by omega]
  generalize sw3 u2 = u3 at *
  rw [← t0, ← t1, ← t2, ← t3] at hb
  have i2 : u2 ≤ 1717986918 := by omega
  have k0 : v0 / 16 + v0 % 16 ≤ 8 := by omega
  have k1 : v1 / 16 + v1 % 16 ≤ 8 := by omega
  have k2 : v2 / 16 + v2 % 16 ≤ 8 := by omega
  have k3 : v3 / 16 + v3 % 16 ≤ 8 := by omega
  clear s1 s2 e q0 q1 q2 q3 r0 r1 r2 r3 t0 t1 t2 t3
  generalize v0 / 16 + v0 % 16 = w0 at *
  generalize v1 / 16 + v1 % 16 = w1 at *
  generalize v2 / 16 + v2 % 16 = w2 at *
  generalize v3 / 16 + v3 % 16 = w3 at *
  have d1 : u3 / 256 = 256 * (256 * w3 + w2) + w1 := by omega
  have d2 : sw4 u3 = 65536 * (256 * w3 + w2 + w3) + (256 * (w1 + w2) + (w0 + w1)) := by
    unfold sw4
    rw [d1]
    omega
  have d3 : sw4 u3 / 65536 = 256 * w3 + w2 + w3 := by omega
  refine ⟨?_, i1, i2, by omega, by omega⟩
  rw [show (63 : Nat) = 2 ^ 6 - 1 from rfl, Nat.and_two_pow_sub_one_eq_mod, hb]
  unfold sw5
  rw [d3]
  omega
theorem us_k : ∀ j : Fin 32, (UInt32.ofNat j.val &&& Int32.toUInt32 31).toNat % 32 = j.val := by decide +kernel
theorem ushr_N {n k : Nat} (hk : k < 32) (h : n < 2147483648) : ushr (n : Int) (k : Int) = ((n / 2 ^ k : Nat) : Int) := by
  have hd : n / 2 ^ k ≤ n := Nat.div_le_self _ _
  have e1 : (Int32.ofInt (n : Int)).toUInt32 = UInt32.ofNat n := by
    rw [oN]
    rfl
  have e2 : (Int32.ofInt (k : Int)).toUInt32 = UInt32.ofNat k := by
    rw [oN]
    rfl
  have e3 : (UInt32.ofNat n >>> (UInt32.ofNat k &&& Int32.toUInt32 31)).toNat = n / 2 ^ k := by
    rw [UInt32.toNat_shiftRight, us_k ⟨k, hk⟩, UInt32.toNat_ofNat', Nat.mod_eq_of_lt (by omega), Nat.shiftRight_eq_div_pow]
  unfold ushr
  rw [e1, e2]
  have e4 : UInt32.ofNat n >>> (UInt32.ofNat k &&& Int32.toUInt32 31) = UInt32.ofNat (n / 2 ^ k) := by
    apply UInt32.toNat_inj.mp
    rw [e3, UInt32.toNat_ofNat', Nat.mod_eq_of_lt (by omega)]
  rw [e4]
  have e5 : (UInt32.ofNat (n / 2 ^ k)).toInt32 = Int32.ofInt ((n / 2 ^ k : Nat) : Int) := by
    rw [oN]
    rfl
  rw [e5]
  exact w32_n (by omega)
theorem ushr_N1 {n : Nat} (h : n < 2147483648) : ushr (n : Int) 1 = ((n / 2 : Nat) : Int) := ushr_N (k := 1) (by decide) h
theorem ushr_N2 {n : Nat} (h : n < 2147483648) : ushr (n : Int) 2 = ((n / 4 : Nat) : Int) := ushr_N (k := 2) (by decide) h
theorem ushr_N4 {n : Nat} (h : n < 2147483648) : ushr (n : Int) 4 = ((n / 16 : Nat) : Int) := ushr_N (k := 4) (by decide) h
theorem ushr_N8 {n : Nat} (h : n < 2147483648) : ushr (n : Int) 8 = ((n / 256 : Nat) : Int) := ushr_N (k := 8) (by decide) h
theorem ushr_N16 {n : Nat} (h : n < 2147483648) : ushr (n : Int) 16 = ((n / 65536 : Nat) : Int) := ushr_N (k := 16) (by decide) h
section BITC
variable {l : Launch} {Γ : Cx} {M0 : Md}
theorem c_bitN (n : Nat) (C : Cd) (hn : n < 2147483648) : Ct l Γ k_bitCount 1 encI (emC M0) [wi (n : Int)] C (some ((nBits n 32 : Int), C)) := by
  obtain ⟨s0, s1, s2, s3, s4⟩ := sw_all n (by omega)
  refine ct_of (by decide +kernel) rfl (Nat.le_of_ble_eq_true rfl) ?_
  refine r_lo [0] (lo2 := [(0, wi (n : Int))]) rfl ?_
  refine r_iload_n (x := (n : Int)) d_bitCount_0 rfl rfl ?_
  refine r_iload_n (x := (n : Int)) d_bitCount_1 rfl rfl ?_
  refine ro_iconst (v := 1) d_bitCount_2 rfl ?_
  refine r_iushr d_bitCount_3 ?_
  rw [ushr_N1 hn]
  refine r_ldcw (v := ((1431655765 : Nat) : Int)) ul_RJ6_265 d_bitCount_4 ?_
  refine r_iand d_bitCount_7 ?_
  rw [andI_N (by omega)]
  refine r_isub d_bitCount_8 ?_
  have h1 : (n : Int) - ((n / 2 &&& 1431655765 : Nat) : Int) = ((sw1 n : Nat) : Int) := by
    have h : n / 2 &&& 1431655765 ≤ n / 2 := Nat.and_le_left
    unfold sw1
    omega
  rw [h1]
  refine r_istore_n (lo2 := [(0, wi ((sw1 n : Nat) : Int))]) d_bitCount_9 rfl (by decide) rfl ?_
  generalize sw1 n = u1 at *
  refine r_iload_n (x := (u1 : Int)) d_bitCount_10 rfl rfl ?_
  refine r_ldcw (v := ((858993459 : Nat) : Int)) ul_RJ6_266 d_bitCount_11 ?_
  refine r_iand d_bitCount_14 ?_
  rw [andI_N (by omega)]
  refine r_iload_n (x := (u1 : Int)) d_bitCount_15 rfl rfl ?_
  refine ro_iconst (v := 2) d_bitCount_16 rfl ?_
  refine r_iushr d_bitCount_17 ?_
  rw [ushr_N2 (by omega)]
  refine r_ldcw (v := ((858993459 : Nat) : Int)) ul_RJ6_266 d_bitCount_18 ?_
  refine r_iand d_bitCount_21 ?_
  rw [andI_N (by omega)]
  refine r_iadd d_bitCount_22 ?_
  rw [show ((u1 &&& 858993459 : Nat) : Int) + ((u1 / 4 &&& 858993459 : Nat) : Int) = ((sw2 u1 : Nat) : Int) by unfold sw2; omega]
  refine r_istore_n (lo2 := [(0, wi ((sw2 u1 : Nat) : Int))]) d_bitCount_23 rfl (by decide) rfl ?_
  generalize sw2 u1 = u2 at *
  refine r_iload_n (x := (u2 : Int)) d_bitCount_24 rfl rfl ?_
  refine r_iload_n (x := (u2 : Int)) d_bitCount_25 rfl rfl ?_
  refine ro_iconst (v := 4) d_bitCount_26 rfl ?_
  refine r_iushr d_bitCount_27 ?_
  rw [ushr_N4 (by omega)]
  refine r_iadd d_bitCount_28 ?_
  rw [show (u2 : Int) + ((u2 / 16 : Nat) : Int) = ((u2 + u2 / 16 : Nat) : Int) by omega]
  refine r_ldcw (v := ((252645135 : Nat) : Int)) ul_RJ6_267 d_bitCount_29 ?_
  refine r_iand d_bitCount_32 ?_
  rw [andI_N (by omega)]
  show RunO l Γ k_bitCount 1 encI (emC M0) 33 _ [wi ((sw3 u2 : Nat) : Int)] C _
  refine r_istore_n (lo2 := [(0, wi ((sw3 u2 : Nat) : Int))]) d_bitCount_33 rfl (by decide) rfl ?_
  generalize sw3 u2 = u3 at *
  refine r_iload_n (x := (u3 : Int)) d_bitCount_34 rfl rfl ?_
  refine r_iload_n (x := (u3 : Int)) d_bitCount_35 rfl rfl ?_
  refine r_bipush (v := 8) d_bitCount_36 rfl ?_
  refine r_iushr d_bitCount_38 ?_
  rw [ushr_N8 (by omega)]
  refine r_iadd d_bitCount_39 ?_
  rw [show (u3 : Int) + ((u3 / 256 : Nat) : Int) = ((sw4 u3 : Nat) : Int) by unfold sw4; omega]
  refine r_istore_n (lo2 := [(0, wi ((sw4 u3 : Nat) : Int))]) d_bitCount_40 rfl (by decide) rfl ?_
  generalize sw4 u3 = u4 at *
  refine r_iload_n (x := (u4 : Int)) d_bitCount_41 rfl rfl ?_
  refine r_iload_n (x := (u4 : Int)) d_bitCount_42 rfl rfl ?_
  refine r_bipush (v := 16) d_bitCount_43 rfl ?_
  refine r_iushr d_bitCount_45 ?_
  rw [ushr_N16 (by omega)]
  refine r_iadd d_bitCount_46 ?_
  rw [show (u4 : Int) + ((u4 / 65536 : Nat) : Int) = ((sw5 u4 : Nat) : Int) by unfold sw5; omega]
  refine r_istore_n (lo2 := [(0, wi ((sw5 u4 : Nat) : Int))]) d_bitCount_47 rfl (by decide) rfl ?_
  refine r_iload_n (x := ((sw5 u4 : Nat) : Int)) d_bitCount_48 rfl rfl ?_
  refine r_bipush (v := ((63 : Nat) : Int)) d_bitCount_49 rfl ?_
  refine r_iand d_bitCount_51 ?_
  rw [andI_N (show sw5 u4 < 2147483648 by unfold sw5; omega), s0]
  exact r_iret rfl d_bitCount_52
theorem c_bitCount (hG : GK Γ l) (x : Int) (C : Cd) : Ct l Γ k_bitCount 1 encI (emC M0) [wi x] C (fbitCount x C) := by
  unfold fbitCount
  by_cases c : 0 ≤ w32 x
  · rw [if_pos c]
    have h1 := w32_hi x
    have h2 : wi x = wi ((w32 x).toNat : Int) := by
      rw [show ((w32 x).toNat : Int) = w32 x by omega]
      show Value.int (Int32.ofInt x) = Value.int (Int32.ofInt (w32 x))
      rw [of_w32]
    rw [h2]
    exact c_bitN _ C (by omega)
  · rw [if_neg c]
    exact fun r σ' h => by cases h
end BITC
