/-! THE JDK'S OWN: what its methods do to a list (contracts still open: sorry) -/
theorem hc_AL : vwCl[2]? = some ("java/util/ArrayList", TJx4a65c, 3) := rfl
def k_AL_init : Kd := (yJx4a65c_init_da8c8, cJx4a65c_init_da8c8, 1, none, [])
theorem kv_AL_init : KI k_AL_init 0 := ⟨uw_mem 780 (by decide +kernel) rfl, uw_mem 181 (by decide +kernel) rfl, uw_mem 779 (by decide +kernel) rfl, ⟨rfl, rfl⟩, ⟨by decide +kernel, by decide +kernel⟩, by decide +kernel, by decide +kernel⟩
def k_AL_size : Kd := (yJx4a65c_size_8abf5, cJx4a65c_size_8abf5, 1, some .int, [])
theorem kv_AL_size : KV k_AL_size 0 := ⟨uw_mem 904 (by decide +kernel) rfl, uw_mem 181 (by decide +kernel) rfl, uw_mem 902 (by decide +kernel) rfl, uw_mem 903 (by decide +kernel) rfl, ⟨by decide +kernel, by decide +kernel⟩, by decide +kernel, by decide +kernel⟩
def k_AL_get : Kd := (yJx4a65c_get_915e3, cJx4a65c_get_915e3, 2, some (.object "java/lang/Object"), [])
theorem kv_AL_get : KV k_AL_get 1 := ⟨uw_mem 908 (by decide +kernel) rfl, uw_mem 181 (by decide +kernel) rfl, uw_mem 906 (by decide +kernel) rfl, uw_mem 907 (by decide +kernel) rfl, ⟨by decide +kernel, by decide +kernel⟩, by decide +kernel, by decide +kernel⟩
def k_AL_add : Kd := (yJx4a65c_add_9ea2d, cJx4a65c_add_9ea2d, 2, some .boolean, [])
theorem kv_AL_add : KV k_AL_add 1 := ⟨uw_mem 805 (by decide +kernel) rfl, uw_mem 181 (by decide +kernel) rfl, uw_mem 803 (by decide +kernel) rfl, uw_mem 804 (by decide +kernel) rfl, ⟨by decide +kernel, by decide +kernel⟩, by decide +kernel, by decide +kernel⟩
def k_AL_addAt : Kd := (yJx4a65c_add_7a177, cJx4a65c_add_7a177, 5, none, [])
theorem kv_AL_addAt : KV k_AL_addAt 2 := ⟨uw_mem 971 (by decide +kernel) rfl, uw_mem 181 (by decide +kernel) rfl, uw_mem 969 (by decide +kernel) rfl, uw_mem 970 (by decide +kernel) rfl, ⟨by decide +kernel, by decide +kernel⟩, by decide +kernel, by decide +kernel⟩
def k_bitCount : Kd := (yJ6_bitCount_0f7a4, cJ6_bitCount_0f7a4, 1, some .int, [])
theorem kv_bitCount : KS k_bitCount 1 := ⟨uw_mem 1484 (by decide +kernel) rfl, uw_mem 194 (by decide +kernel) rfl, uw_mem 1483 (by decide +kernel) rfl, ⟨by decide +kernel, by decide +kernel⟩, by decide +kernel, by decide +kernel⟩
theorem c_AL_init {l : Launch} {Γ : Cx} {M0 : Md} (hG : GK Γ l) (a : Nat) (C : Cd) : Ct l Γ k_AL_init 4 encV (emC M0) [.ref a] C (fAL_init a C) := sorry
theorem c_AL_size {l : Launch} {Γ : Cx} {M0 : Md} (hG : GK Γ l) (a : Nat) (C : Cd) : Ct l Γ k_AL_size 1 encI (emC M0) [.ref a] C (fAL_size a C) := sorry
theorem c_AL_get {l : Launch} {Γ : Cx} {M0 : Md} (hG : GK Γ l) (a : Nat) (i : Int) (C : Cd) : Ct l Γ k_AL_get 4 encR (emC M0) [.ref a, wi i] C (fAL_get a i C) := sorry
theorem c_AL_add {l : Launch} {Γ : Cx} {M0 : Md} (hG : GK Γ l) (a : Nat) (v : Option Nat) (C : Cd) : Ct l Γ k_AL_add 8 encI (emC M0) [.ref a, va_rf v] C (fAL_add a v C) := sorry
theorem c_AL_addAt {l : Launch} {Γ : Cx} {M0 : Md} (hG : GK Γ l) (a : Nat) (i : Int) (v : Option Nat) (C : Cd) : Ct l Γ k_AL_addAt 8 encV (emC M0) [.ref a, wi i, va_rf v] C (fAL_addAt a i v C) := sorry
theorem c_bitCount {l : Launch} {Γ : Cx} {M0 : Md} (hG : GK Γ l) (x : Int) (C : Cd) : Ct l Γ k_bitCount 1 encI (emC M0) [wi x] C (fbitCount x C) := sorry
