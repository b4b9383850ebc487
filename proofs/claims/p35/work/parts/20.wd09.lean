set_option maxHeartbeats 8000000 in
set_option maxRecDepth 100000 in
theorem b_L_law_1063 {l : Launch} {Γ : Cx} {ma : Nat → Nat} (h : wOn Γ) (hm : ∀ k, k ≤ 10 → ma k ≠ 0) (hG : GK Γ l) {sT : Nat → Nat} (hS : STs Γ sT) (hX : XN Γ) {T : List ExceptionTableEntry} (htb : T = []) {sb : Nat} (Ls : Nat) (xs : Nat → Int32) (a1 : Nat) (v14_97 : Int) (x17_171 : Int) (t0_1036 : Int) (hxs : XScr Γ sb Ls xs) (J1788 : Int → Rw → Cd → (Nat → Nat) → Option (Int × S3)) (hJ1788 : ∀ (v13_1788 : Int) (E_1788 : Rw) (C_1788 : Cd) (q_1788 : (Nat → Nat)), RunO l Γ (kL T) 16 encI (em3 ma) 1788 [(0, .ref sb), (1, .ref a1), (2, .ref (ma 0)), (3, .ref (ma 1)), (4, .ref (ma 2)), (5, .ref (ma 3)), (6, .ref (ma 4)), (7, .ref (ma 5)), (8, .ref (ma 6)), (9, .ref (ma 7)), (10, .ref (ma 8)), (11, .ref (ma 9)), (12, .ref (ma 10)), (13, wi v13_1788), (14, wi v14_97), (17, wi x17_171)] [] (E_1788, C_1788, q_1788) (J1788 v13_1788 E_1788 C_1788 q_1788)) : ∀ (E_1063 : Rw) (C_1063 : Cd) (q_1063 : (Nat → Nat)), RunO l Γ (kL T) 16 encI (em3 ma) 1063 [(0, .ref sb), (1, .ref a1), (2, .ref (ma 0)), (3, .ref (ma 1)), (4, .ref (ma 2)), (5, .ref (ma 3)), (6, .ref (ma 4)), (7, .ref (ma 5)), (8, .ref (ma 6)), (9, .ref (ma 7)), (10, .ref (ma 8)), (11, .ref (ma 9)), (12, .ref (ma 10)), (13, wi t0_1036), (14, wi v14_97), (17, wi x17_171)] [] (E_1063, C_1063, q_1063) (fW_law_1063 J1788 t0_1036 E_1063 C_1063 q_1063) := by
  intro E_1063 C_1063 q_1063
  unfold fW_law_1063
  refine r_goto (tgt := 1788) dL_law_1063 (by decide) ?_
  exact hJ1788 t0_1036 E_1063 C_1063 q_1063
set_option maxHeartbeats 8000000 in
set_option maxRecDepth 100000 in
theorem b_L_law_1036 {l : Launch} {Γ : Cx} {ma : Nat → Nat} (h : wOn Γ) (hm : ∀ k, k ≤ 10 → ma k ≠ 0) (hG : GK Γ l) {sT : Nat → Nat} (hS : STs Γ sT) (hX : XN Γ) {T : List ExceptionTableEntry} (htb : T = []) {sb : Nat} (Ls : Nat) (xs : Nat → Int32) (a1 : Nat) (v14_97 : Int) (x17_171 : Int) (t0_189 : Int) (r11 : Int) (x24_959 : Int) (t0_984 : Int) (hxs : XScr Γ sb Ls xs) (J1788 : Int → Rw → Cd → (Nat → Nat) → Option (Int × S3)) (hJ1788 : ∀ (v13_1788 : Int) (E_1788 : Rw) (C_1788 : Cd) (q_1788 : (Nat → Nat)), RunO l Γ (kL T) 16 encI (em3 ma) 1788 [(0, .ref sb), (1, .ref a1), (2, .ref (ma 0)), (3, .ref (ma 1)), (4, .ref (ma 2)), (5, .ref (ma 3)), (6, .ref (ma 4)), (7, .ref (ma 5)), (8, .ref (ma 6)), (9, .ref (ma 7)), (10, .ref (ma 8)), (11, .ref (ma 9)), (12, .ref (ma 10)), (13, wi v13_1788), (14, wi v14_97), (17, wi x17_171)] [] (E_1788, C_1788, q_1788) (J1788 v13_1788 E_1788 C_1788 q_1788)) : ∀ (t0_1036 : Int) (E_1036 : Rw) (C_1036 : Cd) (q_1036 : (Nat → Nat)), RunO l Γ (kL T) 16 encI (em3 ma) 1036 [(0, .ref sb), (1, .ref a1), (2, .ref (ma 0)), (3, .ref (ma 1)), (4, .ref (ma 2)), (5, .ref (ma 3)), (6, .ref (ma 4)), (7, .ref (ma 5)), (8, .ref (ma 6)), (9, .ref (ma 7)), (10, .ref (ma 8)), (11, .ref (ma 9)), (12, .ref (ma 10)), (14, wi v14_97), (17, wi x17_171), (18, wi t0_189), (21, vl r11), (24, wi x24_959), (25, wi t0_984)] [wi t0_1036] (E_1036, C_1036, q_1036) (fW_law_1036 t0_189 r11 J1788 x24_959 t0_984 t0_1036 E_1036 C_1036 q_1036) := by
  intro t0_1036 E_1036 C_1036 q_1036
  unfold fW_law_1036
  refine r_istore (lo2 := [(13, wi t0_1036), (0, .ref sb), (1, .ref a1), (2, .ref (ma 0)), (3, .ref (ma 1)), (4, .ref (ma 2)), (5, .ref (ma 3)), (6, .ref (ma 4)), (7, .ref (ma 5)), (8, .ref (ma 6)), (9, .ref (ma 7)), (10, .ref (ma 8)), (11, .ref (ma 9)), (12, .ref (ma 10)), (14, wi v14_97), (17, wi x17_171), (18, wi t0_189), (21, vl r11), (24, wi x24_959), (25, wi t0_984)]) dL_law_1036 (show 13 < 35 by decide) rfl ?_
  refine r_iload (x := t0_984) dL_law_1038 rfl ?_
  refine r_join (P := fun (J : Rw → Cd → (Nat → Nat) → Option (Int × S3)) => ∀ (E_1063 : Rw) (C_1063 : Cd) (q_1063 : (Nat → Nat)), RunO l Γ (kL T) 16 encI (em3 ma) 1063 [(0, .ref sb), (1, .ref a1), (2, .ref (ma 0)), (3, .ref (ma 1)), (4, .ref (ma 2)), (5, .ref (ma 3)), (6, .ref (ma 4)), (7, .ref (ma 5)), (8, .ref (ma 6)), (9, .ref (ma 7)), (10, .ref (ma 8)), (11, .ref (ma 9)), (12, .ref (ma 10)), (13, wi t0_1036), (14, wi v14_97), (17, wi x17_171)] [] (E_1063, C_1063, q_1063) (J E_1063 C_1063 q_1063)) ?_ (fun J1063 hJ1063 => ?_)
  · exact b_L_law_1063 h hm hG hS hX htb Ls xs a1 v14_97 x17_171 t0_1036 hxs J1788 hJ1788
  refine r_if_eq (tgt := 1063) dL_law_1040 (by decide) ?_ ?_
  · refine r_lo [1, 2, 3, 4, 5, 6, 7, 8, 9, 10, 11, 12, 13, 0, 14, 15] (lo2 := [(0, .ref sb), (1, .ref a1), (2, .ref (ma 0)), (3, .ref (ma 1)), (4, .ref (ma 2)), (5, .ref (ma 3)), (6, .ref (ma 4)), (7, .ref (ma 5)), (8, .ref (ma 6)), (9, .ref (ma 7)), (10, .ref (ma 8)), (11, .ref (ma 9)), (12, .ref (ma 10)), (13, wi t0_1036), (14, wi v14_97), (17, wi x17_171)]) rfl ?_
    exact hJ1063 E_1036 C_1036 q_1036
  · refine r_aload_n (x := ma 0) dL_law_1043 rfl rfl ?_
    refine r_aload (x := ma 2) dL_law_1044 rfl ?_
    refine r_aload (x := ma 3) dL_law_1046 rfl ?_
    refine r_aload_n (x := ma 1) dL_law_1048 rfl rfl ?_
    refine r_iload (x := t0_189) dL_law_1049 rfl ?_
    refine r_wiald3 h (by decide) (by decide) (hm 1 (by decide)) dL_law_1051 ?_
    refine ro_iconst (v := 1) dL_law_1052 rfl ?_
    refine r_isub dL_law_1053 ?_
    refine r_iload (x := x24_959) dL_law_1054 rfl ?_
    refine r_lload (x := r11) dL_law_1056 rfl ?_
    refine r_csi (J := fun (E_ : Rw) => (E_, C_1036, q_1036)) (k2 := k_L_adds) (n := 6) (rest := []) (fun _ => rfl) htb kv_L_adds (c_L_adds (ad := adq ma q_1036) (K0 := C_1036) h (adq_hm hm) ((E_1036 1 (ix t0_189)) - 1) x24_959 r11 _) (by decide) um_L_194 rfl (Nat.le_of_ble_eq_true rfl) dL_law_1058 rfl (fun r63 E64 => ?_)
    show RunO l Γ (kL T) 16 encI (em3 ma) 1061 [(13, wi t0_1036), (0, .ref sb), (1, .ref a1), (2, .ref (ma 0)), (3, .ref (ma 1)), (4, .ref (ma 2)), (5, .ref (ma 3)), (6, .ref (ma 4)), (7, .ref (ma 5)), (8, .ref (ma 6)), (9, .ref (ma 7)), (10, .ref (ma 8)), (11, .ref (ma 9)), (12, .ref (ma 10)), (14, wi v14_97), (17, wi x17_171), (18, wi t0_189), (21, vl r11), (24, wi x24_959), (25, wi t0_984)] [wi r63] (E64, C_1036, q_1036) _
    refine r_istore (lo2 := [(26, wi r63), (13, wi t0_1036), (0, .ref sb), (1, .ref a1), (2, .ref (ma 0)), (3, .ref (ma 1)), (4, .ref (ma 2)), (5, .ref (ma 3)), (6, .ref (ma 4)), (7, .ref (ma 5)), (8, .ref (ma 6)), (9, .ref (ma 7)), (10, .ref (ma 8)), (11, .ref (ma 9)), (12, .ref (ma 10)), (14, wi v14_97), (17, wi x17_171), (18, wi t0_189), (21, vl r11), (24, wi x24_959), (25, wi t0_984)]) dL_law_1061 (show 26 < 35 by decide) rfl ?_
    refine r_lo [2, 3, 4, 5, 6, 7, 8, 9, 10, 11, 12, 13, 14, 1, 15, 16] (lo2 := [(0, .ref sb), (1, .ref a1), (2, .ref (ma 0)), (3, .ref (ma 1)), (4, .ref (ma 2)), (5, .ref (ma 3)), (6, .ref (ma 4)), (7, .ref (ma 5)), (8, .ref (ma 6)), (9, .ref (ma 7)), (10, .ref (ma 8)), (11, .ref (ma 9)), (12, .ref (ma 10)), (13, wi t0_1036), (14, wi v14_97), (17, wi x17_171)]) rfl ?_
    exact hJ1063 E64 C_1036 q_1036
set_option maxHeartbeats 8000000 in
set_option maxRecDepth 100000 in
theorem b_L_law_1035 {l : Launch} {Γ : Cx} {ma : Nat → Nat} (h : wOn Γ) (hm : ∀ k, k ≤ 10 → ma k ≠ 0) (hG : GK Γ l) {sT : Nat → Nat} (hS : STs Γ sT) (hX : XN Γ) {T : List ExceptionTableEntry} (htb : T = []) {sb : Nat} (Ls : Nat) (xs : Nat → Int32) (a1 : Nat) (v14_97 : Int) (x17_171 : Int) (t0_189 : Int) (r11 : Int) (x24_959 : Int) (t0_984 : Int) (hxs : XScr Γ sb Ls xs) (J1036 : Int → Rw → Cd → (Nat → Nat) → Option (Int × S3)) (hJ1036 : ∀ (t0_1036 : Int) (E_1036 : Rw) (C_1036 : Cd) (q_1036 : (Nat → Nat)), RunO l Γ (kL T) 16 encI (em3 ma) 1036 [(0, .ref sb), (1, .ref a1), (2, .ref (ma 0)), (3, .ref (ma 1)), (4, .ref (ma 2)), (5, .ref (ma 3)), (6, .ref (ma 4)), (7, .ref (ma 5)), (8, .ref (ma 6)), (9, .ref (ma 7)), (10, .ref (ma 8)), (11, .ref (ma 9)), (12, .ref (ma 10)), (14, wi v14_97), (17, wi x17_171), (18, wi t0_189), (21, vl r11), (24, wi x24_959), (25, wi t0_984)] [wi t0_1036] (E_1036, C_1036, q_1036) (J1036 t0_1036 E_1036 C_1036 q_1036)) : ∀ (E_1035 : Rw) (C_1035 : Cd) (q_1035 : (Nat → Nat)), RunO l Γ (kL T) 16 encI (em3 ma) 1035 [(0, .ref sb), (1, .ref a1), (2, .ref (ma 0)), (3, .ref (ma 1)), (4, .ref (ma 2)), (5, .ref (ma 3)), (6, .ref (ma 4)), (7, .ref (ma 5)), (8, .ref (ma 6)), (9, .ref (ma 7)), (10, .ref (ma 8)), (11, .ref (ma 9)), (12, .ref (ma 10)), (14, wi v14_97), (17, wi x17_171), (18, wi t0_189), (21, vl r11), (24, wi x24_959), (25, wi t0_984)] [] (E_1035, C_1035, q_1035) (fW_law_1035 J1036 E_1035 C_1035 q_1035) := by
  intro E_1035 C_1035 q_1035
  unfold fW_law_1035
  refine ro_iconst (v := 0) dL_law_1035 rfl ?_
  exact hJ1036 0 E_1035 C_1035 q_1035
set_option maxHeartbeats 8000000 in
set_option maxRecDepth 100000 in
theorem b_L_law_1028 {l : Launch} {Γ : Cx} {ma : Nat → Nat} (h : wOn Γ) (hm : ∀ k, k ≤ 10 → ma k ≠ 0) (hG : GK Γ l) {sT : Nat → Nat} (hS : STs Γ sT) (hX : XN Γ) {T : List ExceptionTableEntry} (htb : T = []) {sb : Nat} (Ls : Nat) (xs : Nat → Int32) (a1 : Nat) (v14_97 : Int) (x17_171 : Int) (t0_189 : Int) (r11 : Int) (x24_959 : Int) (t0_984 : Int) (r65 : Int) (hxs : XScr Γ sb Ls xs) (J1036 : Int → Rw → Cd → (Nat → Nat) → Option (Int × S3)) (hJ1036 : ∀ (t0_1036 : Int) (E_1036 : Rw) (C_1036 : Cd) (q_1036 : (Nat → Nat)), RunO l Γ (kL T) 16 encI (em3 ma) 1036 [(0, .ref sb), (1, .ref a1), (2, .ref (ma 0)), (3, .ref (ma 1)), (4, .ref (ma 2)), (5, .ref (ma 3)), (6, .ref (ma 4)), (7, .ref (ma 5)), (8, .ref (ma 6)), (9, .ref (ma 7)), (10, .ref (ma 8)), (11, .ref (ma 9)), (12, .ref (ma 10)), (14, wi v14_97), (17, wi x17_171), (18, wi t0_189), (21, vl r11), (24, wi x24_959), (25, wi t0_984)] [wi t0_1036] (E_1036, C_1036, q_1036) (J1036 t0_1036 E_1036 C_1036 q_1036)) (J1035 : Rw → Cd → (Nat → Nat) → Option (Int × S3)) (hJ1035 : ∀ (E_1035 : Rw) (C_1035 : Cd) (q_1035 : (Nat → Nat)), RunO l Γ (kL T) 16 encI (em3 ma) 1035 [(0, .ref sb), (1, .ref a1), (2, .ref (ma 0)), (3, .ref (ma 1)), (4, .ref (ma 2)), (5, .ref (ma 3)), (6, .ref (ma 4)), (7, .ref (ma 5)), (8, .ref (ma 6)), (9, .ref (ma 7)), (10, .ref (ma 8)), (11, .ref (ma 9)), (12, .ref (ma 10)), (14, wi v14_97), (17, wi x17_171), (18, wi t0_189), (21, vl r11), (24, wi x24_959), (25, wi t0_984)] [] (E_1035, C_1035, q_1035) (J1035 E_1035 C_1035 q_1035)) : ∀ (t0_1028 : Int) (E_1028 : Rw) (C_1028 : Cd) (q_1028 : (Nat → Nat)), RunO l Γ (kL T) 16 encI (em3 ma) 1028 [(0, .ref sb), (1, .ref a1), (2, .ref (ma 0)), (3, .ref (ma 1)), (4, .ref (ma 2)), (5, .ref (ma 3)), (6, .ref (ma 4)), (7, .ref (ma 5)), (8, .ref (ma 6)), (9, .ref (ma 7)), (10, .ref (ma 8)), (11, .ref (ma 9)), (12, .ref (ma 10)), (14, wi v14_97), (17, wi x17_171), (18, wi t0_189), (21, vl r11), (24, wi x24_959), (25, wi t0_984)] [wi t0_1028, wi r65] (E_1028, C_1028, q_1028) (fW_law_1028 J1036 J1035 r65 t0_1028 E_1028 C_1028 q_1028) := by
  intro t0_1028 E_1028 C_1028 q_1028
  unfold fW_law_1028
  refine r_icmp_ne (tgt := 1035) dL_law_1028 (by decide) ?_ ?_
  · exact hJ1035 E_1028 C_1028 q_1028
  · refine ro_iconst (v := 1) dL_law_1031 rfl ?_
    refine r_goto (tgt := 1036) dL_law_1032 (by decide) ?_
    exact hJ1036 1 E_1028 C_1028 q_1028
set_option maxHeartbeats 8000000 in
set_option maxRecDepth 100000 in
theorem b_L_law_984 {l : Launch} {Γ : Cx} {ma : Nat → Nat} (h : wOn Γ) (hm : ∀ k, k ≤ 10 → ma k ≠ 0) (hG : GK Γ l) {sT : Nat → Nat} (hS : STs Γ sT) (hX : XN Γ) {T : List ExceptionTableEntry} (htb : T = []) {sb : Nat} (Ls : Nat) (xs : Nat → Int32) (a1 : Nat) (v14_97 : Int) (x17_171 : Int) (t0_189 : Int) (t0_203 : Int) (r11 : Int) (x24_959 : Int) (hxs : XScr Γ sb Ls xs) (J1788 : Int → Rw → Cd → (Nat → Nat) → Option (Int × S3)) (hJ1788 : ∀ (v13_1788 : Int) (E_1788 : Rw) (C_1788 : Cd) (q_1788 : (Nat → Nat)), RunO l Γ (kL T) 16 encI (em3 ma) 1788 [(0, .ref sb), (1, .ref a1), (2, .ref (ma 0)), (3, .ref (ma 1)), (4, .ref (ma 2)), (5, .ref (ma 3)), (6, .ref (ma 4)), (7, .ref (ma 5)), (8, .ref (ma 6)), (9, .ref (ma 7)), (10, .ref (ma 8)), (11, .ref (ma 9)), (12, .ref (ma 10)), (13, wi v13_1788), (14, wi v14_97), (17, wi x17_171)] [] (E_1788, C_1788, q_1788) (J1788 v13_1788 E_1788 C_1788 q_1788)) : ∀ (t0_984 : Int) (E_984 : Rw) (C_984 : Cd) (q_984 : (Nat → Nat)), RunO l Γ (kL T) 16 encI (em3 ma) 984 [(0, .ref sb), (1, .ref a1), (2, .ref (ma 0)), (3, .ref (ma 1)), (4, .ref (ma 2)), (5, .ref (ma 3)), (6, .ref (ma 4)), (7, .ref (ma 5)), (8, .ref (ma 6)), (9, .ref (ma 7)), (10, .ref (ma 8)), (11, .ref (ma 9)), (12, .ref (ma 10)), (14, wi v14_97), (17, wi x17_171), (18, wi t0_189), (19, wi t0_203), (21, vl r11), (24, wi x24_959)] [wi t0_984] (E_984, C_984, q_984) (fW_law_984 a1 t0_189 t0_203 r11 J1788 x24_959 t0_984 E_984 C_984 q_984) := by
  intro t0_984 E_984 C_984 q_984
  unfold fW_law_984
  refine r_istore (lo2 := [(25, wi t0_984), (0, .ref sb), (1, .ref a1), (2, .ref (ma 0)), (3, .ref (ma 1)), (4, .ref (ma 2)), (5, .ref (ma 3)), (6, .ref (ma 4)), (7, .ref (ma 5)), (8, .ref (ma 6)), (9, .ref (ma 7)), (10, .ref (ma 8)), (11, .ref (ma 9)), (12, .ref (ma 10)), (14, wi v14_97), (17, wi x17_171), (18, wi t0_189), (19, wi t0_203), (21, vl r11), (24, wi x24_959)]) dL_law_984 (show 25 < 35 by decide) rfl ?_
  refine r_aload_n (x := a1) dL_law_986 rfl rfl ?_
  refine r_lload (x := r11) dL_law_987 rfl ?_
  refine r_csi (J := fun (C_ : Cd) => (E_984, C_, q_984)) (k2 := k_L_drafts) (n := 2) (rest := []) (fun _ => rfl) htb kv_L_drafts (c_L_drafts (M0 := (fun k => (adq ma q_984 k : Int), E_984)) hG hS a1 r11 _) (by decide) um_L_190 rfl (Nat.le_of_ble_eq_true rfl) dL_law_989 rfl (fun r61 C62 => ?_)
  show RunO l Γ (kL T) 16 encI (em3 ma) 992 [(25, wi t0_984), (0, .ref sb), (1, .ref a1), (2, .ref (ma 0)), (3, .ref (ma 1)), (4, .ref (ma 2)), (5, .ref (ma 3)), (6, .ref (ma 4)), (7, .ref (ma 5)), (8, .ref (ma 6)), (9, .ref (ma 7)), (10, .ref (ma 8)), (11, .ref (ma 9)), (12, .ref (ma 10)), (14, wi v14_97), (17, wi x17_171), (18, wi t0_189), (19, wi t0_203), (21, vl r11), (24, wi x24_959)] [wi r61] (E_984, C62, q_984) _
  refine r_join (P := fun (J : Int → Rw → Cd → (Nat → Nat) → Option (Int × S3)) => ∀ (t0_1036 : Int) (E_1036 : Rw) (C_1036 : Cd) (q_1036 : (Nat → Nat)), RunO l Γ (kL T) 16 encI (em3 ma) 1036 [(0, .ref sb), (1, .ref a1), (2, .ref (ma 0)), (3, .ref (ma 1)), (4, .ref (ma 2)), (5, .ref (ma 3)), (6, .ref (ma 4)), (7, .ref (ma 5)), (8, .ref (ma 6)), (9, .ref (ma 7)), (10, .ref (ma 8)), (11, .ref (ma 9)), (12, .ref (ma 10)), (14, wi v14_97), (17, wi x17_171), (18, wi t0_189), (21, vl r11), (24, wi x24_959), (25, wi t0_984)] [wi t0_1036] (E_1036, C_1036, q_1036) (J t0_1036 E_1036 C_1036 q_1036)) ?_ (fun J1036 hJ1036 => ?_)
  · exact b_L_law_1036 h hm hG hS hX htb Ls xs a1 v14_97 x17_171 t0_189 r11 x24_959 t0_984 hxs J1788 hJ1788
  refine r_join (P := fun (J : Rw → Cd → (Nat → Nat) → Option (Int × S3)) => ∀ (E_1035 : Rw) (C_1035 : Cd) (q_1035 : (Nat → Nat)), RunO l Γ (kL T) 16 encI (em3 ma) 1035 [(0, .ref sb), (1, .ref a1), (2, .ref (ma 0)), (3, .ref (ma 1)), (4, .ref (ma 2)), (5, .ref (ma 3)), (6, .ref (ma 4)), (7, .ref (ma 5)), (8, .ref (ma 6)), (9, .ref (ma 7)), (10, .ref (ma 8)), (11, .ref (ma 9)), (12, .ref (ma 10)), (14, wi v14_97), (17, wi x17_171), (18, wi t0_189), (21, vl r11), (24, wi x24_959), (25, wi t0_984)] [] (E_1035, C_1035, q_1035) (J E_1035 C_1035 q_1035)) ?_ (fun J1035 hJ1035 => ?_)
  · exact b_L_law_1035 h hm hG hS hX htb Ls xs a1 v14_97 x17_171 t0_189 r11 x24_959 t0_984 hxs J1036 hJ1036
  refine r_if_eq (tgt := 1035) dL_law_992 (by decide) ?_ ?_
  · refine r_lo [1, 2, 3, 4, 5, 6, 7, 8, 9, 10, 11, 12, 13, 14, 15, 16, 18, 19, 0] (lo2 := [(0, .ref sb), (1, .ref a1), (2, .ref (ma 0)), (3, .ref (ma 1)), (4, .ref (ma 2)), (5, .ref (ma 3)), (6, .ref (ma 4)), (7, .ref (ma 5)), (8, .ref (ma 6)), (9, .ref (ma 7)), (10, .ref (ma 8)), (11, .ref (ma 9)), (12, .ref (ma 10)), (14, wi v14_97), (17, wi x17_171), (18, wi t0_189), (21, vl r11), (24, wi x24_959), (25, wi t0_984)]) rfl ?_
    exact hJ1035 E_984 C62 q_984
  · refine r_aload_n (x := a1) dL_law_995 rfl rfl ?_
    refine ro_iconst (v := 3) dL_law_996 rfl ?_
    refine r_iload (x := t0_189) dL_law_997 rfl ?_
    refine r_iload (x := x24_959) dL_law_999 rfl ?_
    refine ro_iconst (v := 0) dL_law_1001 rfl ?_
    refine r_csHi (J := fun (C_ : Cd) => (E_984, C_, q_984)) (k2 := k_L_does) (n := 5) (rest := []) (fun _ => rfl) kv_L_does (c_L_does (M0 := (fun k => (adq ma q_984 k : Int), E_984)) hG hX a1 3 t0_189 x24_959 0 _) (by decide) um_L_132 rfl (Nat.le_of_ble_eq_true rfl) dL_law_1002 rfl (fun r65 C66 => ?_)
    show RunO l Γ (kL T) 16 encI (em3 ma) 1005 [(25, wi t0_984), (0, .ref sb), (1, .ref a1), (2, .ref (ma 0)), (3, .ref (ma 1)), (4, .ref (ma 2)), (5, .ref (ma 3)), (6, .ref (ma 4)), (7, .ref (ma 5)), (8, .ref (ma 6)), (9, .ref (ma 7)), (10, .ref (ma 8)), (11, .ref (ma 9)), (12, .ref (ma 10)), (14, wi v14_97), (17, wi x17_171), (18, wi t0_189), (19, wi t0_203), (21, vl r11), (24, wi x24_959)] [wi r65] (E_984, C66, q_984) _
    refine r_iload (x := t0_203) dL_law_1005 rfl ?_
    refine r_join (P := fun (J : Int → Rw → Cd → (Nat → Nat) → Option (Int × S3)) => ∀ (t0_1028 : Int) (E_1028 : Rw) (C_1028 : Cd) (q_1028 : (Nat → Nat)), RunO l Γ (kL T) 16 encI (em3 ma) 1028 [(0, .ref sb), (1, .ref a1), (2, .ref (ma 0)), (3, .ref (ma 1)), (4, .ref (ma 2)), (5, .ref (ma 3)), (6, .ref (ma 4)), (7, .ref (ma 5)), (8, .ref (ma 6)), (9, .ref (ma 7)), (10, .ref (ma 8)), (11, .ref (ma 9)), (12, .ref (ma 10)), (14, wi v14_97), (17, wi x17_171), (18, wi t0_189), (21, vl r11), (24, wi x24_959), (25, wi t0_984)] [wi t0_1028, wi r65] (E_1028, C_1028, q_1028) (J t0_1028 E_1028 C_1028 q_1028)) ?_ (fun J1028 hJ1028 => ?_)
    · exact b_L_law_1028 h hm hG hS hX htb Ls xs a1 v14_97 x17_171 t0_189 r11 x24_959 t0_984 r65 hxs J1036 hJ1036 J1035 hJ1035
    refine r_if_ne (tgt := 1015) dL_law_1007 (by decide) ?_ ?_
    · refine r_iload (x := t0_984) dL_law_1015 rfl ?_
      refine r_if_eq (tgt := 1026) dL_law_1017 (by decide) ?_ ?_
      · refine r_bipush (v := (-12)) dL_law_1026 rfl ?_
        refine r_lo [1, 2, 3, 4, 5, 6, 7, 8, 9, 10, 11, 12, 13, 14, 15, 16, 18, 19, 0] (lo2 := [(0, .ref sb), (1, .ref a1), (2, .ref (ma 0)), (3, .ref (ma 1)), (4, .ref (ma 2)), (5, .ref (ma 3)), (6, .ref (ma 4)), (7, .ref (ma 5)), (8, .ref (ma 6)), (9, .ref (ma 7)), (10, .ref (ma 8)), (11, .ref (ma 9)), (12, .ref (ma 10)), (14, wi v14_97), (17, wi x17_171), (18, wi t0_189), (21, vl r11), (24, wi x24_959), (25, wi t0_984)]) rfl ?_
        exact hJ1028 (-12) E_984 C66 q_984
      · refine r_aload_n (x := ma 0) dL_law_1020 rfl rfl ?_
        refine ro_iconst (v := 0) dL_law_1021 rfl ?_
        refine r_wiald3 h (by decide) (by decide) (hm 0 (by decide)) dL_law_1022 ?_
        refine r_goto (tgt := 1028) dL_law_1023 (by decide) ?_
        refine r_lo [1, 2, 3, 4, 5, 6, 7, 8, 9, 10, 11, 12, 13, 14, 15, 16, 18, 19, 0] (lo2 := [(0, .ref sb), (1, .ref a1), (2, .ref (ma 0)), (3, .ref (ma 1)), (4, .ref (ma 2)), (5, .ref (ma 3)), (6, .ref (ma 4)), (7, .ref (ma 5)), (8, .ref (ma 6)), (9, .ref (ma 7)), (10, .ref (ma 8)), (11, .ref (ma 9)), (12, .ref (ma 10)), (14, wi v14_97), (17, wi x17_171), (18, wi t0_189), (21, vl r11), (24, wi x24_959), (25, wi t0_984)]) rfl ?_
        exact hJ1028 (E_984 0 (ix 0)) E_984 C66 q_984
    · refine r_bipush (v := (-11)) dL_law_1010 rfl ?_
      refine r_goto (tgt := 1028) dL_law_1012 (by decide) ?_
      refine r_lo [1, 2, 3, 4, 5, 6, 7, 8, 9, 10, 11, 12, 13, 14, 15, 16, 18, 19, 0] (lo2 := [(0, .ref sb), (1, .ref a1), (2, .ref (ma 0)), (3, .ref (ma 1)), (4, .ref (ma 2)), (5, .ref (ma 3)), (6, .ref (ma 4)), (7, .ref (ma 5)), (8, .ref (ma 6)), (9, .ref (ma 7)), (10, .ref (ma 8)), (11, .ref (ma 9)), (12, .ref (ma 10)), (14, wi v14_97), (17, wi x17_171), (18, wi t0_189), (21, vl r11), (24, wi x24_959), (25, wi t0_984)]) rfl ?_
      exact hJ1028 (-11) E_984 C66 q_984
set_option maxHeartbeats 8000000 in
set_option maxRecDepth 100000 in
theorem b_L_law_983 {l : Launch} {Γ : Cx} {ma : Nat → Nat} (h : wOn Γ) (hm : ∀ k, k ≤ 10 → ma k ≠ 0) (hG : GK Γ l) {sT : Nat → Nat} (hS : STs Γ sT) (hX : XN Γ) {T : List ExceptionTableEntry} (htb : T = []) {sb : Nat} (Ls : Nat) (xs : Nat → Int32) (a1 : Nat) (v14_97 : Int) (x17_171 : Int) (t0_189 : Int) (t0_203 : Int) (r11 : Int) (x24_959 : Int) (hxs : XScr Γ sb Ls xs) (J984 : Int → Rw → Cd → (Nat → Nat) → Option (Int × S3)) (hJ984 : ∀ (t0_984 : Int) (E_984 : Rw) (C_984 : Cd) (q_984 : (Nat → Nat)), RunO l Γ (kL T) 16 encI (em3 ma) 984 [(0, .ref sb), (1, .ref a1), (2, .ref (ma 0)), (3, .ref (ma 1)), (4, .ref (ma 2)), (5, .ref (ma 3)), (6, .ref (ma 4)), (7, .ref (ma 5)), (8, .ref (ma 6)), (9, .ref (ma 7)), (10, .ref (ma 8)), (11, .ref (ma 9)), (12, .ref (ma 10)), (14, wi v14_97), (17, wi x17_171), (18, wi t0_189), (19, wi t0_203), (21, vl r11), (24, wi x24_959)] [wi t0_984] (E_984, C_984, q_984) (J984 t0_984 E_984 C_984 q_984)) : ∀ (E_983 : Rw) (C_983 : Cd) (q_983 : (Nat → Nat)), RunO l Γ (kL T) 16 encI (em3 ma) 983 [(0, .ref sb), (1, .ref a1), (2, .ref (ma 0)), (3, .ref (ma 1)), (4, .ref (ma 2)), (5, .ref (ma 3)), (6, .ref (ma 4)), (7, .ref (ma 5)), (8, .ref (ma 6)), (9, .ref (ma 7)), (10, .ref (ma 8)), (11, .ref (ma 9)), (12, .ref (ma 10)), (14, wi v14_97), (17, wi x17_171), (18, wi t0_189), (19, wi t0_203), (21, vl r11), (24, wi x24_959)] [] (E_983, C_983, q_983) (fW_law_983 J984 E_983 C_983 q_983) := by
  intro E_983 C_983 q_983
  unfold fW_law_983
  refine ro_iconst (v := 0) dL_law_983 rfl ?_
  exact hJ984 0 E_983 C_983 q_983
set_option maxHeartbeats 8000000 in
set_option maxRecDepth 100000 in
theorem b_L_law_933 {l : Launch} {Γ : Cx} {ma : Nat → Nat} (h : wOn Γ) (hm : ∀ k, k ≤ 10 → ma k ≠ 0) (hG : GK Γ l) {sT : Nat → Nat} (hS : STs Γ sT) (hX : XN Γ) {T : List ExceptionTableEntry} (htb : T = []) {sb : Nat} (Ls : Nat) (xs : Nat → Int32) (a1 : Nat) (v14_97 : Int) (t0_164 : Int) (x17_171 : Int) (t0_189 : Int) (t0_203 : Int) (r9 : Int) (r11 : Int) (x23_234 : Int) (hxs : XScr Γ sb Ls xs) (J1788 : Int → Rw → Cd → (Nat → Nat) → Option (Int × S3)) (hJ1788 : ∀ (v13_1788 : Int) (E_1788 : Rw) (C_1788 : Cd) (q_1788 : (Nat → Nat)), RunO l Γ (kL T) 16 encI (em3 ma) 1788 [(0, .ref sb), (1, .ref a1), (2, .ref (ma 0)), (3, .ref (ma 1)), (4, .ref (ma 2)), (5, .ref (ma 3)), (6, .ref (ma 4)), (7, .ref (ma 5)), (8, .ref (ma 6)), (9, .ref (ma 7)), (10, .ref (ma 8)), (11, .ref (ma 9)), (12, .ref (ma 10)), (13, wi v13_1788), (14, wi v14_97), (17, wi x17_171)] [] (E_1788, C_1788, q_1788) (J1788 v13_1788 E_1788 C_1788 q_1788)) : ∀ (E_933 : Rw) (C_933 : Cd) (q_933 : (Nat → Nat)), RunO l Γ (kL T) 16 encI (em3 ma) 933 [(0, .ref sb), (1, .ref a1), (2, .ref (ma 0)), (3, .ref (ma 1)), (4, .ref (ma 2)), (5, .ref (ma 3)), (6, .ref (ma 4)), (7, .ref (ma 5)), (8, .ref (ma 6)), (9, .ref (ma 7)), (10, .ref (ma 8)), (11, .ref (ma 9)), (12, .ref (ma 10)), (14, wi v14_97), (16, wi t0_164), (17, wi x17_171), (18, wi t0_189), (19, wi t0_203), (20, wi r9), (21, vl r11), (23, wi x23_234)] [] (E_933, C_933, q_933) (fW_law_933 a1 t0_164 x17_171 t0_189 t0_203 r9 r11 x23_234 J1788 E_933 C_933 q_933) := by
  intro E_933 C_933 q_933
  unfold fW_law_933
  refine r_iload (x := t0_164) dL_law_933 rfl ?_
  refine r_bipush (v := 11) dL_law_935 rfl ?_
  refine r_join (P := fun (J : Rw → Cd → (Nat → Nat) → Option (Int × S3)) => ∀ (E_1066 : Rw) (C_1066 : Cd) (q_1066 : (Nat → Nat)), RunO l Γ (kL T) 16 encI (em3 ma) 1066 [(0, .ref sb), (1, .ref a1), (2, .ref (ma 0)), (3, .ref (ma 1)), (4, .ref (ma 2)), (5, .ref (ma 3)), (6, .ref (ma 4)), (7, .ref (ma 5)), (8, .ref (ma 6)), (9, .ref (ma 7)), (10, .ref (ma 8)), (11, .ref (ma 9)), (12, .ref (ma 10)), (14, wi v14_97), (16, wi t0_164), (17, wi x17_171), (18, wi t0_189), (19, wi t0_203), (20, wi r9), (23, wi x23_234)] [] (E_1066, C_1066, q_1066) (J E_1066 C_1066 q_1066)) ?_ (fun J1066 hJ1066 => ?_)
  · exact b_L_law_1066 h hm hG hS hX htb Ls xs a1 v14_97 t0_164 x17_171 t0_189 t0_203 r9 x23_234 hxs J1788 hJ1788
  refine r_icmp_ne (tgt := 1066) dL_law_937 (by decide) ?_ ?_
  · refine r_lo [0, 1, 2, 3, 4, 5, 6, 7, 8, 9, 10, 11, 12, 13, 14, 15, 16, 17, 18, 20] (lo2 := [(0, .ref sb), (1, .ref a1), (2, .ref (ma 0)), (3, .ref (ma 1)), (4, .ref (ma 2)), (5, .ref (ma 3)), (6, .ref (ma 4)), (7, .ref (ma 5)), (8, .ref (ma 6)), (9, .ref (ma 7)), (10, .ref (ma 8)), (11, .ref (ma 9)), (12, .ref (ma 10)), (14, wi v14_97), (16, wi t0_164), (17, wi x17_171), (18, wi t0_189), (19, wi t0_203), (20, wi r9), (23, wi x23_234)]) rfl ?_
    exact hJ1066 E_933 C_933 q_933
  · refine r_aload_n (x := ma 0) dL_law_940 rfl rfl ?_
    refine ro_iconst (v := 0) dL_law_941 rfl ?_
    refine r_wiald3 h (by decide) (by decide) (hm 0 (by decide)) dL_law_942 ?_
    refine r_bipush (v := 32) dL_law_943 rfl ?_
    refine r_icmp_ge (tgt := 1066) dL_law_945 (by decide) ?_ ?_
    · refine r_lo [0, 1, 2, 3, 4, 5, 6, 7, 8, 9, 10, 11, 12, 13, 14, 15, 16, 17, 18, 20] (lo2 := [(0, .ref sb), (1, .ref a1), (2, .ref (ma 0)), (3, .ref (ma 1)), (4, .ref (ma 2)), (5, .ref (ma 3)), (6, .ref (ma 4)), (7, .ref (ma 5)), (8, .ref (ma 6)), (9, .ref (ma 7)), (10, .ref (ma 8)), (11, .ref (ma 9)), (12, .ref (ma 10)), (14, wi v14_97), (16, wi t0_164), (17, wi x17_171), (18, wi t0_189), (19, wi t0_203), (20, wi r9), (23, wi x23_234)]) rfl ?_
      exact hJ1066 E_933 C_933 q_933
    · refine r_iload (x := x17_171) dL_law_948 rfl ?_
      refine r_bipush (v := 9) dL_law_950 rfl ?_
      refine r_idiv dL_law_952 (by decide) ?_
      refine r_aload_n (x := ma 0) dL_law_953 rfl rfl ?_
      refine ro_iconst (v := 2) dL_law_954 rfl ?_
      refine r_wiald3 h (by decide) (by decide) (hm 0 (by decide)) dL_law_955 ?_
      refine ro_iconst (v := 2) dL_law_956 rfl ?_
      refine r_iadd dL_law_957 ?_
      refine r_iremT dL_law_958 ?_
      refine r_nm (fun x24_959 => ?_)
      refine r_istore (lo2 := [(24, wi x24_959), (0, .ref sb), (1, .ref a1), (2, .ref (ma 0)), (3, .ref (ma 1)), (4, .ref (ma 2)), (5, .ref (ma 3)), (6, .ref (ma 4)), (7, .ref (ma 5)), (8, .ref (ma 6)), (9, .ref (ma 7)), (10, .ref (ma 8)), (11, .ref (ma 9)), (12, .ref (ma 10)), (14, wi v14_97), (16, wi t0_164), (17, wi x17_171), (18, wi t0_189), (19, wi t0_203), (20, wi r9), (21, vl r11), (23, wi x23_234)]) dL_law_959 (show 24 < 35 by decide) rfl ?_
      refine r_iload (x := t0_203) dL_law_961 rfl ?_
      refine r_join (P := fun (J : Int → Rw → Cd → (Nat → Nat) → Option (Int × S3)) => ∀ (t0_984 : Int) (E_984 : Rw) (C_984 : Cd) (q_984 : (Nat → Nat)), RunO l Γ (kL T) 16 encI (em3 ma) 984 [(0, .ref sb), (1, .ref a1), (2, .ref (ma 0)), (3, .ref (ma 1)), (4, .ref (ma 2)), (5, .ref (ma 3)), (6, .ref (ma 4)), (7, .ref (ma 5)), (8, .ref (ma 6)), (9, .ref (ma 7)), (10, .ref (ma 8)), (11, .ref (ma 9)), (12, .ref (ma 10)), (14, wi v14_97), (17, wi x17_171), (18, wi t0_189), (19, wi t0_203), (21, vl r11), (24, wi x24_959)] [wi t0_984] (E_984, C_984, q_984) (J t0_984 E_984 C_984 q_984)) ?_ (fun J984 hJ984 => ?_)
      · exact b_L_law_984 h hm hG hS hX htb Ls xs a1 v14_97 x17_171 t0_189 t0_203 r11 x24_959 hxs J1788 hJ1788
      refine r_join (P := fun (J : Rw → Cd → (Nat → Nat) → Option (Int × S3)) => ∀ (E_983 : Rw) (C_983 : Cd) (q_983 : (Nat → Nat)), RunO l Γ (kL T) 16 encI (em3 ma) 983 [(0, .ref sb), (1, .ref a1), (2, .ref (ma 0)), (3, .ref (ma 1)), (4, .ref (ma 2)), (5, .ref (ma 3)), (6, .ref (ma 4)), (7, .ref (ma 5)), (8, .ref (ma 6)), (9, .ref (ma 7)), (10, .ref (ma 8)), (11, .ref (ma 9)), (12, .ref (ma 10)), (14, wi v14_97), (17, wi x17_171), (18, wi t0_189), (19, wi t0_203), (21, vl r11), (24, wi x24_959)] [] (E_983, C_983, q_983) (J E_983 C_983 q_983)) ?_ (fun J983 hJ983 => ?_)
      · exact b_L_law_983 h hm hG hS hX htb Ls xs a1 v14_97 x17_171 t0_189 t0_203 r11 x24_959 hxs J984 hJ984
      refine r_if_eq (tgt := 983) dL_law_963 (by decide) ?_ ?_
      · refine r_lo [1, 2, 3, 4, 5, 6, 7, 8, 9, 10, 11, 12, 13, 14, 16, 17, 18, 20, 0] (lo2 := [(0, .ref sb), (1, .ref a1), (2, .ref (ma 0)), (3, .ref (ma 1)), (4, .ref (ma 2)), (5, .ref (ma 3)), (6, .ref (ma 4)), (7, .ref (ma 5)), (8, .ref (ma 6)), (9, .ref (ma 7)), (10, .ref (ma 8)), (11, .ref (ma 9)), (12, .ref (ma 10)), (14, wi v14_97), (17, wi x17_171), (18, wi t0_189), (19, wi t0_203), (21, vl r11), (24, wi x24_959)]) rfl ?_
        exact hJ983 E_933 C_933 q_933
      · refine r_iload (x := x24_959) dL_law_966 rfl ?_
        refine r_if_le (tgt := 983) dL_law_968 (by decide) ?_ ?_
        · refine r_lo [1, 2, 3, 4, 5, 6, 7, 8, 9, 10, 11, 12, 13, 14, 16, 17, 18, 20, 0] (lo2 := [(0, .ref sb), (1, .ref a1), (2, .ref (ma 0)), (3, .ref (ma 1)), (4, .ref (ma 2)), (5, .ref (ma 3)), (6, .ref (ma 4)), (7, .ref (ma 5)), (8, .ref (ma 6)), (9, .ref (ma 7)), (10, .ref (ma 8)), (11, .ref (ma 9)), (12, .ref (ma 10)), (14, wi v14_97), (17, wi x17_171), (18, wi t0_189), (19, wi t0_203), (21, vl r11), (24, wi x24_959)]) rfl ?_
          exact hJ983 E_933 C_933 q_933
        · refine r_iload (x := x24_959) dL_law_971 rfl ?_
          refine r_aload_n (x := ma 0) dL_law_973 rfl rfl ?_
          refine ro_iconst (v := 2) dL_law_974 rfl ?_
          refine r_wiald3 h (by decide) (by decide) (hm 0 (by decide)) dL_law_975 ?_
          refine r_icmp_gt (tgt := 983) dL_law_976 (by decide) ?_ ?_
          · refine r_lo [1, 2, 3, 4, 5, 6, 7, 8, 9, 10, 11, 12, 13, 14, 16, 17, 18, 20, 0] (lo2 := [(0, .ref sb), (1, .ref a1), (2, .ref (ma 0)), (3, .ref (ma 1)), (4, .ref (ma 2)), (5, .ref (ma 3)), (6, .ref (ma 4)), (7, .ref (ma 5)), (8, .ref (ma 6)), (9, .ref (ma 7)), (10, .ref (ma 8)), (11, .ref (ma 9)), (12, .ref (ma 10)), (14, wi v14_97), (17, wi x17_171), (18, wi t0_189), (19, wi t0_203), (21, vl r11), (24, wi x24_959)]) rfl ?_
            exact hJ983 E_933 C_933 q_933
          · refine ro_iconst (v := 1) dL_law_979 rfl ?_
            refine r_goto (tgt := 984) dL_law_980 (by decide) ?_
            refine r_lo [1, 2, 3, 4, 5, 6, 7, 8, 9, 10, 11, 12, 13, 14, 16, 17, 18, 20, 0] (lo2 := [(0, .ref sb), (1, .ref a1), (2, .ref (ma 0)), (3, .ref (ma 1)), (4, .ref (ma 2)), (5, .ref (ma 3)), (6, .ref (ma 4)), (7, .ref (ma 5)), (8, .ref (ma 6)), (9, .ref (ma 7)), (10, .ref (ma 8)), (11, .ref (ma 9)), (12, .ref (ma 10)), (14, wi v14_97), (17, wi x17_171), (18, wi t0_189), (19, wi t0_203), (21, vl r11), (24, wi x24_959)]) rfl ?_
            exact hJ984 1 E_933 C_933 q_933
set_option maxHeartbeats 8000000 in
set_option maxRecDepth 100000 in
theorem b_L_law_930 {l : Launch} {Γ : Cx} {ma : Nat → Nat} (h : wOn Γ) (hm : ∀ k, k ≤ 10 → ma k ≠ 0) (hG : GK Γ l) {sT : Nat → Nat} (hS : STs Γ sT) (hX : XN Γ) {T : List ExceptionTableEntry} (htb : T = []) {sb : Nat} (Ls : Nat) (xs : Nat → Int32) (a1 : Nat) (v14_97 : Int) (x17_171 : Int) (hxs : XScr Γ sb Ls xs) (J1788 : Int → Rw → Cd → (Nat → Nat) → Option (Int × S3)) (hJ1788 : ∀ (v13_1788 : Int) (E_1788 : Rw) (C_1788 : Cd) (q_1788 : (Nat → Nat)), RunO l Γ (kL T) 16 encI (em3 ma) 1788 [(0, .ref sb), (1, .ref a1), (2, .ref (ma 0)), (3, .ref (ma 1)), (4, .ref (ma 2)), (5, .ref (ma 3)), (6, .ref (ma 4)), (7, .ref (ma 5)), (8, .ref (ma 6)), (9, .ref (ma 7)), (10, .ref (ma 8)), (11, .ref (ma 9)), (12, .ref (ma 10)), (13, wi v13_1788), (14, wi v14_97), (17, wi x17_171)] [] (E_1788, C_1788, q_1788) (J1788 v13_1788 E_1788 C_1788 q_1788)) : ∀ (v13_930 : Int) (E_930 : Rw) (C_930 : Cd) (q_930 : (Nat → Nat)), RunO l Γ (kL T) 16 encI (em3 ma) 930 [(0, .ref sb), (1, .ref a1), (2, .ref (ma 0)), (3, .ref (ma 1)), (4, .ref (ma 2)), (5, .ref (ma 3)), (6, .ref (ma 4)), (7, .ref (ma 5)), (8, .ref (ma 6)), (9, .ref (ma 7)), (10, .ref (ma 8)), (11, .ref (ma 9)), (12, .ref (ma 10)), (13, wi v13_930), (14, wi v14_97), (17, wi x17_171)] [] (E_930, C_930, q_930) (fW_law_930 J1788 v13_930 E_930 C_930 q_930) := by
  intro v13_930 E_930 C_930 q_930
  unfold fW_law_930
  refine r_goto (tgt := 1788) dL_law_930 (by decide) ?_
  exact hJ1788 v13_930 E_930 C_930 q_930
set_option maxHeartbeats 8000000 in
set_option maxRecDepth 100000 in
theorem b_L_law_895 {l : Launch} {Γ : Cx} {ma : Nat → Nat} (h : wOn Γ) (hm : ∀ k, k ≤ 10 → ma k ≠ 0) (hG : GK Γ l) {sT : Nat → Nat} (hS : STs Γ sT) (hX : XN Γ) {T : List ExceptionTableEntry} (htb : T = []) {sb : Nat} (Ls : Nat) (xs : Nat → Int32) (a1 : Nat) (v14_97 : Int) (x17_171 : Int) (t0_189 : Int) (t0_788 : Int) (t0_826 : Int) (hxs : XScr Γ sb Ls xs) (J930 : Int → Rw → Cd → (Nat → Nat) → Option (Int × S3)) (hJ930 : ∀ (v13_930 : Int) (E_930 : Rw) (C_930 : Cd) (q_930 : (Nat → Nat)), RunO l Γ (kL T) 16 encI (em3 ma) 930 [(0, .ref sb), (1, .ref a1), (2, .ref (ma 0)), (3, .ref (ma 1)), (4, .ref (ma 2)), (5, .ref (ma 3)), (6, .ref (ma 4)), (7, .ref (ma 5)), (8, .ref (ma 6)), (9, .ref (ma 7)), (10, .ref (ma 8)), (11, .ref (ma 9)), (12, .ref (ma 10)), (13, wi v13_930), (14, wi v14_97), (17, wi x17_171)] [] (E_930, C_930, q_930) (J930 v13_930 E_930 C_930 q_930)) : ∀ (t0_895 : Int) (E_895 : Rw) (C_895 : Cd) (q_895 : (Nat → Nat)), RunO l Γ (kL T) 16 encI (em3 ma) 895 [(0, .ref sb), (1, .ref a1), (2, .ref (ma 0)), (3, .ref (ma 1)), (4, .ref (ma 2)), (5, .ref (ma 3)), (6, .ref (ma 4)), (7, .ref (ma 5)), (8, .ref (ma 6)), (9, .ref (ma 7)), (10, .ref (ma 8)), (11, .ref (ma 9)), (12, .ref (ma 10)), (14, wi v14_97), (17, wi x17_171), (18, wi t0_189), (27, vl t0_788), (29, wi t0_826)] [wi t0_895] (E_895, C_895, q_895) (fW_law_895 t0_189 t0_788 t0_826 J930 t0_895 E_895 C_895 q_895) := by
  intro t0_895 E_895 C_895 q_895
  unfold fW_law_895
  refine r_istore (lo2 := [(13, wi t0_895), (0, .ref sb), (1, .ref a1), (2, .ref (ma 0)), (3, .ref (ma 1)), (4, .ref (ma 2)), (5, .ref (ma 3)), (6, .ref (ma 4)), (7, .ref (ma 5)), (8, .ref (ma 6)), (9, .ref (ma 7)), (10, .ref (ma 8)), (11, .ref (ma 9)), (12, .ref (ma 10)), (14, wi v14_97), (17, wi x17_171), (18, wi t0_189), (27, vl t0_788), (29, wi t0_826)]) dL_law_895 (show 13 < 35 by decide) rfl ?_
  refine r_iload (x := t0_826) dL_law_897 rfl ?_
  refine r_if_eq (tgt := 930) dL_law_899 (by decide) ?_ ?_
  · refine r_lo [1, 2, 3, 4, 5, 6, 7, 8, 9, 10, 11, 12, 13, 0, 14, 15] (lo2 := [(0, .ref sb), (1, .ref a1), (2, .ref (ma 0)), (3, .ref (ma 1)), (4, .ref (ma 2)), (5, .ref (ma 3)), (6, .ref (ma 4)), (7, .ref (ma 5)), (8, .ref (ma 6)), (9, .ref (ma 7)), (10, .ref (ma 8)), (11, .ref (ma 9)), (12, .ref (ma 10)), (13, wi t0_895), (14, wi v14_97), (17, wi x17_171)]) rfl ?_
    exact hJ930 t0_895 E_895 C_895 q_895
  · refine r_aload_n (x := ma 0) dL_law_902 rfl rfl ?_
    refine ro_iconst (v := 2) dL_law_903 rfl ?_
    refine r_dup2 dL_law_904 rfl rfl ?_
    refine r_wiald3 h (by decide) (by decide) (hm 0 (by decide)) dL_law_905 ?_
    refine ro_iconst (v := 1) dL_law_906 rfl ?_
    refine r_iadd dL_law_907 ?_
    refine r_wiast3 h (by decide) (by decide) (hm 0 (by decide)) dL_law_908 (fun E71 => ?_)
    refine r_aload_n (x := ma 0) dL_law_909 rfl rfl ?_
    refine r_aload (x := ma 2) dL_law_910 rfl ?_
    refine r_aload (x := ma 3) dL_law_912 rfl ?_
    refine r_aload_n (x := ma 1) dL_law_914 rfl rfl ?_
    refine r_iload (x := t0_189) dL_law_915 rfl ?_
    refine r_wiald3 h (by decide) (by decide) (hm 1 (by decide)) dL_law_917 ?_
    refine ro_iconst (v := 1) dL_law_918 rfl ?_
    refine r_isub dL_law_919 ?_
    refine r_aload_n (x := ma 0) dL_law_920 rfl rfl ?_
    refine ro_iconst (v := 2) dL_law_921 rfl ?_
    refine r_wiald3 h (by decide) (by decide) (hm 0 (by decide)) dL_law_922 ?_
    refine r_lload (x := t0_788) dL_law_923 rfl ?_
    refine r_csi (J := fun (E_ : Rw) => (E_, C_895, q_895)) (k2 := k_L_adds) (n := 6) (rest := []) (fun _ => rfl) htb kv_L_adds (c_L_adds (ad := adq ma q_895) (K0 := C_895) h (adq_hm hm) ((E71 1 (ix t0_189)) - 1) (E71 0 (ix 2)) t0_788 _) (by decide) um_L_194 rfl (Nat.le_of_ble_eq_true rfl) dL_law_925 rfl (fun r72 E73 => ?_)
    show RunO l Γ (kL T) 16 encI (em3 ma) 928 [(13, wi t0_895), (0, .ref sb), (1, .ref a1), (2, .ref (ma 0)), (3, .ref (ma 1)), (4, .ref (ma 2)), (5, .ref (ma 3)), (6, .ref (ma 4)), (7, .ref (ma 5)), (8, .ref (ma 6)), (9, .ref (ma 7)), (10, .ref (ma 8)), (11, .ref (ma 9)), (12, .ref (ma 10)), (14, wi v14_97), (17, wi x17_171), (18, wi t0_189), (27, vl t0_788), (29, wi t0_826)] [wi r72] (E73, C_895, q_895) _
    refine r_istore (lo2 := [(30, wi r72), (13, wi t0_895), (0, .ref sb), (1, .ref a1), (2, .ref (ma 0)), (3, .ref (ma 1)), (4, .ref (ma 2)), (5, .ref (ma 3)), (6, .ref (ma 4)), (7, .ref (ma 5)), (8, .ref (ma 6)), (9, .ref (ma 7)), (10, .ref (ma 8)), (11, .ref (ma 9)), (12, .ref (ma 10)), (14, wi v14_97), (17, wi x17_171), (18, wi t0_189), (27, vl t0_788), (29, wi t0_826)]) dL_law_928 (show 30 < 35 by decide) rfl ?_
    refine r_lo [2, 3, 4, 5, 6, 7, 8, 9, 10, 11, 12, 13, 14, 1, 15, 16] (lo2 := [(0, .ref sb), (1, .ref a1), (2, .ref (ma 0)), (3, .ref (ma 1)), (4, .ref (ma 2)), (5, .ref (ma 3)), (6, .ref (ma 4)), (7, .ref (ma 5)), (8, .ref (ma 6)), (9, .ref (ma 7)), (10, .ref (ma 8)), (11, .ref (ma 9)), (12, .ref (ma 10)), (13, wi t0_895), (14, wi v14_97), (17, wi x17_171)]) rfl ?_
    exact hJ930 t0_895 E73 C_895 q_895
set_option maxHeartbeats 8000000 in
set_option maxRecDepth 100000 in
theorem b_L_law_887 {l : Launch} {Γ : Cx} {ma : Nat → Nat} (h : wOn Γ) (hm : ∀ k, k ≤ 10 → ma k ≠ 0) (hG : GK Γ l) {sT : Nat → Nat} (hS : STs Γ sT) (hX : XN Γ) {T : List ExceptionTableEntry} (htb : T = []) {sb : Nat} (Ls : Nat) (xs : Nat → Int32) (a1 : Nat) (v14_97 : Int) (x17_171 : Int) (t0_189 : Int) (t0_788 : Int) (t0_826 : Int) (r69 : Int) (hxs : XScr Γ sb Ls xs) (J930 : Int → Rw → Cd → (Nat → Nat) → Option (Int × S3)) (hJ930 : ∀ (v13_930 : Int) (E_930 : Rw) (C_930 : Cd) (q_930 : (Nat → Nat)), RunO l Γ (kL T) 16 encI (em3 ma) 930 [(0, .ref sb), (1, .ref a1), (2, .ref (ma 0)), (3, .ref (ma 1)), (4, .ref (ma 2)), (5, .ref (ma 3)), (6, .ref (ma 4)), (7, .ref (ma 5)), (8, .ref (ma 6)), (9, .ref (ma 7)), (10, .ref (ma 8)), (11, .ref (ma 9)), (12, .ref (ma 10)), (13, wi v13_930), (14, wi v14_97), (17, wi x17_171)] [] (E_930, C_930, q_930) (J930 v13_930 E_930 C_930 q_930)) : ∀ (t0_887 : Int) (E_887 : Rw) (C_887 : Cd) (q_887 : (Nat → Nat)), RunO l Γ (kL T) 16 encI (em3 ma) 887 [(0, .ref sb), (1, .ref a1), (2, .ref (ma 0)), (3, .ref (ma 1)), (4, .ref (ma 2)), (5, .ref (ma 3)), (6, .ref (ma 4)), (7, .ref (ma 5)), (8, .ref (ma 6)), (9, .ref (ma 7)), (10, .ref (ma 8)), (11, .ref (ma 9)), (12, .ref (ma 10)), (14, wi v14_97), (17, wi x17_171), (18, wi t0_189), (27, vl t0_788), (29, wi t0_826)] [wi t0_887, wi r69] (E_887, C_887, q_887) (fW_law_887 t0_189 t0_788 t0_826 J930 r69 t0_887 E_887 C_887 q_887) := by
  intro t0_887 E_887 C_887 q_887
  unfold fW_law_887
  refine r_join (P := fun (J : Int → Rw → Cd → (Nat → Nat) → Option (Int × S3)) => ∀ (t0_895 : Int) (E_895 : Rw) (C_895 : Cd) (q_895 : (Nat → Nat)), RunO l Γ (kL T) 16 encI (em3 ma) 895 [(0, .ref sb), (1, .ref a1), (2, .ref (ma 0)), (3, .ref (ma 1)), (4, .ref (ma 2)), (5, .ref (ma 3)), (6, .ref (ma 4)), (7, .ref (ma 5)), (8, .ref (ma 6)), (9, .ref (ma 7)), (10, .ref (ma 8)), (11, .ref (ma 9)), (12, .ref (ma 10)), (14, wi v14_97), (17, wi x17_171), (18, wi t0_189), (27, vl t0_788), (29, wi t0_826)] [wi t0_895] (E_895, C_895, q_895) (J t0_895 E_895 C_895 q_895)) ?_ (fun J895 hJ895 => ?_)
  · exact b_L_law_895 h hm hG hS hX htb Ls xs a1 v14_97 x17_171 t0_189 t0_788 t0_826 hxs J930 hJ930
  refine r_icmp_ne (tgt := 894) dL_law_887 (by decide) ?_ ?_
  · refine ro_iconst (v := 0) dL_law_894 rfl ?_
    exact hJ895 0 E_887 C_887 q_887
  · refine ro_iconst (v := 1) dL_law_890 rfl ?_
    refine r_goto (tgt := 895) dL_law_891 (by decide) ?_
    exact hJ895 1 E_887 C_887 q_887
set_option maxHeartbeats 8000000 in
set_option maxRecDepth 100000 in
theorem b_L_law_860 {l : Launch} {Γ : Cx} {ma : Nat → Nat} (h : wOn Γ) (hm : ∀ k, k ≤ 10 → ma k ≠ 0) (hG : GK Γ l) {sT : Nat → Nat} (hS : STs Γ sT) (hX : XN Γ) {T : List ExceptionTableEntry} (htb : T = []) {sb : Nat} (Ls : Nat) (xs : Nat → Int32) (a1 : Nat) (v14_97 : Int) (x17_171 : Int) (t0_189 : Int) (t0_748 : Int) (t0_788 : Int) (t0_826 : Int) (hxs : XScr Γ sb Ls xs) (J930 : Int → Rw → Cd → (Nat → Nat) → Option (Int × S3)) (hJ930 : ∀ (v13_930 : Int) (E_930 : Rw) (C_930 : Cd) (q_930 : (Nat → Nat)), RunO l Γ (kL T) 16 encI (em3 ma) 930 [(0, .ref sb), (1, .ref a1), (2, .ref (ma 0)), (3, .ref (ma 1)), (4, .ref (ma 2)), (5, .ref (ma 3)), (6, .ref (ma 4)), (7, .ref (ma 5)), (8, .ref (ma 6)), (9, .ref (ma 7)), (10, .ref (ma 8)), (11, .ref (ma 9)), (12, .ref (ma 10)), (13, wi v13_930), (14, wi v14_97), (17, wi x17_171)] [] (E_930, C_930, q_930) (J930 v13_930 E_930 C_930 q_930)) : ∀ (t0_860 : Int) (E_860 : Rw) (C_860 : Cd) (q_860 : (Nat → Nat)), RunO l Γ (kL T) 16 encI (em3 ma) 860 [(0, .ref sb), (1, .ref a1), (2, .ref (ma 0)), (3, .ref (ma 1)), (4, .ref (ma 2)), (5, .ref (ma 3)), (6, .ref (ma 4)), (7, .ref (ma 5)), (8, .ref (ma 6)), (9, .ref (ma 7)), (10, .ref (ma 8)), (11, .ref (ma 9)), (12, .ref (ma 10)), (14, wi v14_97), (17, wi x17_171), (18, wi t0_189), (26, wi t0_748), (27, vl t0_788), (29, wi t0_826)] [wi t0_860, wi t0_189, wi 2, .ref a1] (E_860, C_860, q_860) (fW_law_860 a1 t0_189 t0_748 t0_788 t0_826 J930 t0_860 E_860 C_860 q_860) := by
  intro t0_860 E_860 C_860 q_860
  unfold fW_law_860
  refine ro_iconst (v := 0) dL_law_860 rfl ?_
  refine r_csHi (J := fun (C_ : Cd) => (E_860, C_, q_860)) (k2 := k_L_does) (n := 5) (rest := []) (fun _ => rfl) kv_L_does (c_L_does (M0 := (fun k => (adq ma q_860 k : Int), E_860)) hG hX a1 2 t0_189 t0_860 0 _) (by decide) um_L_132 rfl (Nat.le_of_ble_eq_true rfl) dL_law_861 rfl (fun r69 C70 => ?_)
  show RunO l Γ (kL T) 16 encI (em3 ma) 864 [(0, .ref sb), (1, .ref a1), (2, .ref (ma 0)), (3, .ref (ma 1)), (4, .ref (ma 2)), (5, .ref (ma 3)), (6, .ref (ma 4)), (7, .ref (ma 5)), (8, .ref (ma 6)), (9, .ref (ma 7)), (10, .ref (ma 8)), (11, .ref (ma 9)), (12, .ref (ma 10)), (14, wi v14_97), (17, wi x17_171), (18, wi t0_189), (26, wi t0_748), (27, vl t0_788), (29, wi t0_826)] [wi r69] (E_860, C70, q_860) _
  refine r_iload (x := t0_748) dL_law_864 rfl ?_
  refine r_join (P := fun (J : Int → Rw → Cd → (Nat → Nat) → Option (Int × S3)) => ∀ (t0_887 : Int) (E_887 : Rw) (C_887 : Cd) (q_887 : (Nat → Nat)), RunO l Γ (kL T) 16 encI (em3 ma) 887 [(0, .ref sb), (1, .ref a1), (2, .ref (ma 0)), (3, .ref (ma 1)), (4, .ref (ma 2)), (5, .ref (ma 3)), (6, .ref (ma 4)), (7, .ref (ma 5)), (8, .ref (ma 6)), (9, .ref (ma 7)), (10, .ref (ma 8)), (11, .ref (ma 9)), (12, .ref (ma 10)), (14, wi v14_97), (17, wi x17_171), (18, wi t0_189), (27, vl t0_788), (29, wi t0_826)] [wi t0_887, wi r69] (E_887, C_887, q_887) (J t0_887 E_887 C_887 q_887)) ?_ (fun J887 hJ887 => ?_)
  · exact b_L_law_887 h hm hG hS hX htb Ls xs a1 v14_97 x17_171 t0_189 t0_788 t0_826 r69 hxs J930 hJ930
  refine r_if_ne (tgt := 874) dL_law_866 (by decide) ?_ ?_
  · refine r_iload (x := t0_826) dL_law_874 rfl ?_
    refine r_if_eq (tgt := 885) dL_law_876 (by decide) ?_ ?_
    · refine r_bipush (v := (-13)) dL_law_885 rfl ?_
      refine r_lo [0, 1, 2, 3, 4, 5, 6, 7, 8, 9, 10, 11, 12, 13, 14, 15, 17, 18] (lo2 := [(0, .ref sb), (1, .ref a1), (2, .ref (ma 0)), (3, .ref (ma 1)), (4, .ref (ma 2)), (5, .ref (ma 3)), (6, .ref (ma 4)), (7, .ref (ma 5)), (8, .ref (ma 6)), (9, .ref (ma 7)), (10, .ref (ma 8)), (11, .ref (ma 9)), (12, .ref (ma 10)), (14, wi v14_97), (17, wi x17_171), (18, wi t0_189), (27, vl t0_788), (29, wi t0_826)]) rfl ?_
      exact hJ887 (-13) E_860 C70 q_860
    · refine r_aload_n (x := ma 0) dL_law_879 rfl rfl ?_
      refine ro_iconst (v := 0) dL_law_880 rfl ?_
      refine r_wiald3 h (by decide) (by decide) (hm 0 (by decide)) dL_law_881 ?_
      refine r_goto (tgt := 887) dL_law_882 (by decide) ?_
      refine r_lo [0, 1, 2, 3, 4, 5, 6, 7, 8, 9, 10, 11, 12, 13, 14, 15, 17, 18] (lo2 := [(0, .ref sb), (1, .ref a1), (2, .ref (ma 0)), (3, .ref (ma 1)), (4, .ref (ma 2)), (5, .ref (ma 3)), (6, .ref (ma 4)), (7, .ref (ma 5)), (8, .ref (ma 6)), (9, .ref (ma 7)), (10, .ref (ma 8)), (11, .ref (ma 9)), (12, .ref (ma 10)), (14, wi v14_97), (17, wi x17_171), (18, wi t0_189), (27, vl t0_788), (29, wi t0_826)]) rfl ?_
      exact hJ887 (E_860 0 (ix 0)) E_860 C70 q_860
  · refine r_bipush (v := (-11)) dL_law_869 rfl ?_
    refine r_goto (tgt := 887) dL_law_871 (by decide) ?_
    refine r_lo [0, 1, 2, 3, 4, 5, 6, 7, 8, 9, 10, 11, 12, 13, 14, 15, 17, 18] (lo2 := [(0, .ref sb), (1, .ref a1), (2, .ref (ma 0)), (3, .ref (ma 1)), (4, .ref (ma 2)), (5, .ref (ma 3)), (6, .ref (ma 4)), (7, .ref (ma 5)), (8, .ref (ma 6)), (9, .ref (ma 7)), (10, .ref (ma 8)), (11, .ref (ma 9)), (12, .ref (ma 10)), (14, wi v14_97), (17, wi x17_171), (18, wi t0_189), (27, vl t0_788), (29, wi t0_826)]) rfl ?_
    exact hJ887 (-11) E_860 C70 q_860
set_option maxHeartbeats 8000000 in
set_option maxRecDepth 100000 in
theorem b_L_law_843 {l : Launch} {Γ : Cx} {ma : Nat → Nat} (h : wOn Γ) (hm : ∀ k, k ≤ 10 → ma k ≠ 0) (hG : GK Γ l) {sT : Nat → Nat} (hS : STs Γ sT) (hX : XN Γ) {T : List ExceptionTableEntry} (htb : T = []) {sb : Nat} (Ls : Nat) (xs : Nat → Int32) (a1 : Nat) (v14_97 : Int) (x17_171 : Int) (t0_189 : Int) (r67 : Int) (t0_748 : Int) (t0_788 : Int) (t0_826 : Int) (hxs : XScr Γ sb Ls xs) (J930 : Int → Rw → Cd → (Nat → Nat) → Option (Int × S3)) (hJ930 : ∀ (v13_930 : Int) (E_930 : Rw) (C_930 : Cd) (q_930 : (Nat → Nat)), RunO l Γ (kL T) 16 encI (em3 ma) 930 [(0, .ref sb), (1, .ref a1), (2, .ref (ma 0)), (3, .ref (ma 1)), (4, .ref (ma 2)), (5, .ref (ma 3)), (6, .ref (ma 4)), (7, .ref (ma 5)), (8, .ref (ma 6)), (9, .ref (ma 7)), (10, .ref (ma 8)), (11, .ref (ma 9)), (12, .ref (ma 10)), (13, wi v13_930), (14, wi v14_97), (17, wi x17_171)] [] (E_930, C_930, q_930) (J930 v13_930 E_930 C_930 q_930)) : ∀ (E_843 : Rw) (C_843 : Cd) (q_843 : (Nat → Nat)), RunO l Γ (kL T) 16 encI (em3 ma) 843 [(0, .ref sb), (1, .ref a1), (2, .ref (ma 0)), (3, .ref (ma 1)), (4, .ref (ma 2)), (5, .ref (ma 3)), (6, .ref (ma 4)), (7, .ref (ma 5)), (8, .ref (ma 6)), (9, .ref (ma 7)), (10, .ref (ma 8)), (11, .ref (ma 9)), (12, .ref (ma 10)), (14, wi v14_97), (17, wi x17_171), (18, wi t0_189), (25, wi r67), (26, wi t0_748), (27, vl t0_788), (29, wi t0_826)] [] (E_843, C_843, q_843) (fW_law_843 a1 t0_189 r67 t0_748 t0_788 t0_826 J930 E_843 C_843 q_843) := by
  intro E_843 C_843 q_843
  unfold fW_law_843
  refine r_aload_n (x := a1) dL_law_843 rfl rfl ?_
  refine ro_iconst (v := 2) dL_law_844 rfl ?_
  refine r_iload (x := t0_189) dL_law_845 rfl ?_
  refine r_iload (x := r67) dL_law_847 rfl ?_
  refine r_join (P := fun (J : Int → Rw → Cd → (Nat → Nat) → Option (Int × S3)) => ∀ (t0_860 : Int) (E_860 : Rw) (C_860 : Cd) (q_860 : (Nat → Nat)), RunO l Γ (kL T) 16 encI (em3 ma) 860 [(0, .ref sb), (1, .ref a1), (2, .ref (ma 0)), (3, .ref (ma 1)), (4, .ref (ma 2)), (5, .ref (ma 3)), (6, .ref (ma 4)), (7, .ref (ma 5)), (8, .ref (ma 6)), (9, .ref (ma 7)), (10, .ref (ma 8)), (11, .ref (ma 9)), (12, .ref (ma 10)), (14, wi v14_97), (17, wi x17_171), (18, wi t0_189), (26, wi t0_748), (27, vl t0_788), (29, wi t0_826)] [wi t0_860, wi t0_189, wi 2, .ref a1] (E_860, C_860, q_860) (J t0_860 E_860 C_860 q_860)) ?_ (fun J860 hJ860 => ?_)
  · exact b_L_law_860 h hm hG hS hX htb Ls xs a1 v14_97 x17_171 t0_189 t0_748 t0_788 t0_826 hxs J930 hJ930
  refine r_if_ge (tgt := 858) dL_law_849 (by decide) ?_ ?_
  · refine r_iload (x := r67) dL_law_858 rfl ?_
    refine r_lo [0, 1, 2, 3, 4, 5, 6, 7, 8, 9, 10, 11, 12, 13, 14, 15, 17, 18, 19] (lo2 := [(0, .ref sb), (1, .ref a1), (2, .ref (ma 0)), (3, .ref (ma 1)), (4, .ref (ma 2)), (5, .ref (ma 3)), (6, .ref (ma 4)), (7, .ref (ma 5)), (8, .ref (ma 6)), (9, .ref (ma 7)), (10, .ref (ma 8)), (11, .ref (ma 9)), (12, .ref (ma 10)), (14, wi v14_97), (17, wi x17_171), (18, wi t0_189), (26, wi t0_748), (27, vl t0_788), (29, wi t0_826)]) rfl ?_
    exact hJ860 r67 E_843 C_843 q_843
  · refine r_aload_n (x := ma 0) dL_law_852 rfl rfl ?_
    refine ro_iconst (v := 0) dL_law_853 rfl ?_
    refine r_wiald3 h (by decide) (by decide) (hm 0 (by decide)) dL_law_854 ?_
    refine r_goto (tgt := 860) dL_law_855 (by decide) ?_
    refine r_lo [0, 1, 2, 3, 4, 5, 6, 7, 8, 9, 10, 11, 12, 13, 14, 15, 17, 18, 19] (lo2 := [(0, .ref sb), (1, .ref a1), (2, .ref (ma 0)), (3, .ref (ma 1)), (4, .ref (ma 2)), (5, .ref (ma 3)), (6, .ref (ma 4)), (7, .ref (ma 5)), (8, .ref (ma 6)), (9, .ref (ma 7)), (10, .ref (ma 8)), (11, .ref (ma 9)), (12, .ref (ma 10)), (14, wi v14_97), (17, wi x17_171), (18, wi t0_189), (26, wi t0_748), (27, vl t0_788), (29, wi t0_826)]) rfl ?_
    exact hJ860 (E_843 0 (ix 0)) E_843 C_843 q_843
set_option maxHeartbeats 8000000 in
set_option maxRecDepth 100000 in
theorem b_L_law_826 {l : Launch} {Γ : Cx} {ma : Nat → Nat} (h : wOn Γ) (hm : ∀ k, k ≤ 10 → ma k ≠ 0) (hG : GK Γ l) {sT : Nat → Nat} (hS : STs Γ sT) (hX : XN Γ) {T : List ExceptionTableEntry} (htb : T = []) {sb : Nat} (Ls : Nat) (xs : Nat → Int32) (a1 : Nat) (v13_97 : Int) (v14_97 : Int) (x17_171 : Int) (t0_189 : Int) (r67 : Int) (t0_748 : Int) (t0_788 : Int) (hxs : XScr Γ sb Ls xs) (J1788 : Int → Rw → Cd → (Nat → Nat) → Option (Int × S3)) (hJ1788 : ∀ (v13_1788 : Int) (E_1788 : Rw) (C_1788 : Cd) (q_1788 : (Nat → Nat)), RunO l Γ (kL T) 16 encI (em3 ma) 1788 [(0, .ref sb), (1, .ref a1), (2, .ref (ma 0)), (3, .ref (ma 1)), (4, .ref (ma 2)), (5, .ref (ma 3)), (6, .ref (ma 4)), (7, .ref (ma 5)), (8, .ref (ma 6)), (9, .ref (ma 7)), (10, .ref (ma 8)), (11, .ref (ma 9)), (12, .ref (ma 10)), (13, wi v13_1788), (14, wi v14_97), (17, wi x17_171)] [] (E_1788, C_1788, q_1788) (J1788 v13_1788 E_1788 C_1788 q_1788)) : ∀ (t0_826 : Int) (E_826 : Rw) (C_826 : Cd) (q_826 : (Nat → Nat)), RunO l Γ (kL T) 16 encI (em3 ma) 826 [(0, .ref sb), (1, .ref a1), (2, .ref (ma 0)), (3, .ref (ma 1)), (4, .ref (ma 2)), (5, .ref (ma 3)), (6, .ref (ma 4)), (7, .ref (ma 5)), (8, .ref (ma 6)), (9, .ref (ma 7)), (10, .ref (ma 8)), (11, .ref (ma 9)), (12, .ref (ma 10)), (13, wi v13_97), (14, wi v14_97), (17, wi x17_171), (18, wi t0_189), (25, wi r67), (26, wi t0_748), (27, vl t0_788)] [wi t0_826] (E_826, C_826, q_826) (fW_law_826 a1 v13_97 t0_189 J1788 r67 t0_748 t0_788 t0_826 E_826 C_826 q_826) := by
  intro t0_826 E_826 C_826 q_826
  unfold fW_law_826
  refine r_istore (lo2 := [(29, wi t0_826), (0, .ref sb), (1, .ref a1), (2, .ref (ma 0)), (3, .ref (ma 1)), (4, .ref (ma 2)), (5, .ref (ma 3)), (6, .ref (ma 4)), (7, .ref (ma 5)), (8, .ref (ma 6)), (9, .ref (ma 7)), (10, .ref (ma 8)), (11, .ref (ma 9)), (12, .ref (ma 10)), (13, wi v13_97), (14, wi v14_97), (17, wi x17_171), (18, wi t0_189), (25, wi r67), (26, wi t0_748), (27, vl t0_788)]) dL_law_826 (show 29 < 35 by decide) rfl ?_
  refine r_iload (x := t0_748) dL_law_828 rfl ?_
  refine r_join (P := fun (J : Int → Rw → Cd → (Nat → Nat) → Option (Int × S3)) => ∀ (v13_930 : Int) (E_930 : Rw) (C_930 : Cd) (q_930 : (Nat → Nat)), RunO l Γ (kL T) 16 encI (em3 ma) 930 [(0, .ref sb), (1, .ref a1), (2, .ref (ma 0)), (3, .ref (ma 1)), (4, .ref (ma 2)), (5, .ref (ma 3)), (6, .ref (ma 4)), (7, .ref (ma 5)), (8, .ref (ma 6)), (9, .ref (ma 7)), (10, .ref (ma 8)), (11, .ref (ma 9)), (12, .ref (ma 10)), (13, wi v13_930), (14, wi v14_97), (17, wi x17_171)] [] (E_930, C_930, q_930) (J v13_930 E_930 C_930 q_930)) ?_ (fun J930 hJ930 => ?_)
  · exact b_L_law_930 h hm hG hS hX htb Ls xs a1 v14_97 x17_171 hxs J1788 hJ1788
  refine r_join (P := fun (J : Rw → Cd → (Nat → Nat) → Option (Int × S3)) => ∀ (E_843 : Rw) (C_843 : Cd) (q_843 : (Nat → Nat)), RunO l Γ (kL T) 16 encI (em3 ma) 843 [(0, .ref sb), (1, .ref a1), (2, .ref (ma 0)), (3, .ref (ma 1)), (4, .ref (ma 2)), (5, .ref (ma 3)), (6, .ref (ma 4)), (7, .ref (ma 5)), (8, .ref (ma 6)), (9, .ref (ma 7)), (10, .ref (ma 8)), (11, .ref (ma 9)), (12, .ref (ma 10)), (14, wi v14_97), (17, wi x17_171), (18, wi t0_189), (25, wi r67), (26, wi t0_748), (27, vl t0_788), (29, wi t0_826)] [] (E_843, C_843, q_843) (J E_843 C_843 q_843)) ?_ (fun J843 hJ843 => ?_)
  · exact b_L_law_843 h hm hG hS hX htb Ls xs a1 v14_97 x17_171 t0_189 r67 t0_748 t0_788 t0_826 hxs J930 hJ930
  refine r_if_eq (tgt := 843) dL_law_830 (by decide) ?_ ?_
  · refine r_lo [1, 2, 3, 4, 5, 6, 7, 8, 9, 10, 11, 12, 13, 15, 16, 17, 18, 19, 20, 0] (lo2 := [(0, .ref sb), (1, .ref a1), (2, .ref (ma 0)), (3, .ref (ma 1)), (4, .ref (ma 2)), (5, .ref (ma 3)), (6, .ref (ma 4)), (7, .ref (ma 5)), (8, .ref (ma 6)), (9, .ref (ma 7)), (10, .ref (ma 8)), (11, .ref (ma 9)), (12, .ref (ma 10)), (14, wi v14_97), (17, wi x17_171), (18, wi t0_189), (25, wi r67), (26, wi t0_748), (27, vl t0_788), (29, wi t0_826)]) rfl ?_
    exact hJ843 E_826 C_826 q_826
  · refine r_lload (x := t0_788) dL_law_833 rfl ?_
    refine r_csi (J := fun (_ : Unit) => (E_826, C_826, q_826)) (k2 := k_L_macros) (n := 1) (rest := []) (fun _ => rfl) htb kv_L_macros (c_L_macros (σ0 := _) t0_788) (by decide) um_L_7 rfl (Nat.le_of_ble_eq_true rfl) dL_law_835 rfl (fun r74 _ => ?_)
    show RunO l Γ (kL T) 16 encI (em3 ma) 838 [(29, wi t0_826), (0, .ref sb), (1, .ref a1), (2, .ref (ma 0)), (3, .ref (ma 1)), (4, .ref (ma 2)), (5, .ref (ma 3)), (6, .ref (ma 4)), (7, .ref (ma 5)), (8, .ref (ma 6)), (9, .ref (ma 7)), (10, .ref (ma 8)), (11, .ref (ma 9)), (12, .ref (ma 10)), (13, wi v13_97), (14, wi v14_97), (17, wi x17_171), (18, wi t0_189), (25, wi r67), (26, wi t0_748), (27, vl t0_788)] [wi r74] (E_826, C_826, q_826) _
    refine r_bipush (v := 6) dL_law_838 rfl ?_
    refine r_icmp_ge (tgt := 930) dL_law_840 (by decide) ?_ ?_
    · refine r_lo [1, 2, 3, 4, 5, 6, 7, 8, 9, 10, 11, 12, 13, 14, 15, 16] (lo2 := [(0, .ref sb), (1, .ref a1), (2, .ref (ma 0)), (3, .ref (ma 1)), (4, .ref (ma 2)), (5, .ref (ma 3)), (6, .ref (ma 4)), (7, .ref (ma 5)), (8, .ref (ma 6)), (9, .ref (ma 7)), (10, .ref (ma 8)), (11, .ref (ma 9)), (12, .ref (ma 10)), (13, wi v13_97), (14, wi v14_97), (17, wi x17_171)]) rfl ?_
      exact hJ930 v13_97 E_826 C_826 q_826
    · refine r_lo [1, 2, 3, 4, 5, 6, 7, 8, 9, 10, 11, 12, 13, 15, 16, 17, 18, 19, 20, 0] (lo2 := [(0, .ref sb), (1, .ref a1), (2, .ref (ma 0)), (3, .ref (ma 1)), (4, .ref (ma 2)), (5, .ref (ma 3)), (6, .ref (ma 4)), (7, .ref (ma 5)), (8, .ref (ma 6)), (9, .ref (ma 7)), (10, .ref (ma 8)), (11, .ref (ma 9)), (12, .ref (ma 10)), (14, wi v14_97), (17, wi x17_171), (18, wi t0_189), (25, wi r67), (26, wi t0_748), (27, vl t0_788), (29, wi t0_826)]) rfl ?_
      exact hJ843 E_826 C_826 q_826
set_option maxHeartbeats 8000000 in
set_option maxRecDepth 100000 in
theorem b_L_law_825 {l : Launch} {Γ : Cx} {ma : Nat → Nat} (h : wOn Γ) (hm : ∀ k, k ≤ 10 → ma k ≠ 0) (hG : GK Γ l) {sT : Nat → Nat} (hS : STs Γ sT) (hX : XN Γ) {T : List ExceptionTableEntry} (htb : T = []) {sb : Nat} (Ls : Nat) (xs : Nat → Int32) (a1 : Nat) (v13_97 : Int) (v14_97 : Int) (x17_171 : Int) (t0_189 : Int) (r67 : Int) (t0_748 : Int) (t0_788 : Int) (hxs : XScr Γ sb Ls xs) (J826 : Int → Rw → Cd → (Nat → Nat) → Option (Int × S3)) (hJ826 : ∀ (t0_826 : Int) (E_826 : Rw) (C_826 : Cd) (q_826 : (Nat → Nat)), RunO l Γ (kL T) 16 encI (em3 ma) 826 [(0, .ref sb), (1, .ref a1), (2, .ref (ma 0)), (3, .ref (ma 1)), (4, .ref (ma 2)), (5, .ref (ma 3)), (6, .ref (ma 4)), (7, .ref (ma 5)), (8, .ref (ma 6)), (9, .ref (ma 7)), (10, .ref (ma 8)), (11, .ref (ma 9)), (12, .ref (ma 10)), (13, wi v13_97), (14, wi v14_97), (17, wi x17_171), (18, wi t0_189), (25, wi r67), (26, wi t0_748), (27, vl t0_788)] [wi t0_826] (E_826, C_826, q_826) (J826 t0_826 E_826 C_826 q_826)) : ∀ (E_825 : Rw) (C_825 : Cd) (q_825 : (Nat → Nat)), RunO l Γ (kL T) 16 encI (em3 ma) 825 [(0, .ref sb), (1, .ref a1), (2, .ref (ma 0)), (3, .ref (ma 1)), (4, .ref (ma 2)), (5, .ref (ma 3)), (6, .ref (ma 4)), (7, .ref (ma 5)), (8, .ref (ma 6)), (9, .ref (ma 7)), (10, .ref (ma 8)), (11, .ref (ma 9)), (12, .ref (ma 10)), (13, wi v13_97), (14, wi v14_97), (17, wi x17_171), (18, wi t0_189), (25, wi r67), (26, wi t0_748), (27, vl t0_788)] [] (E_825, C_825, q_825) (fW_law_825 J826 E_825 C_825 q_825) := by
  intro E_825 C_825 q_825
  unfold fW_law_825
  refine ro_iconst (v := 0) dL_law_825 rfl ?_
  exact hJ826 0 E_825 C_825 q_825
set_option maxHeartbeats 8000000 in
set_option maxRecDepth 100000 in
theorem b_L_law_788 {l : Launch} {Γ : Cx} {ma : Nat → Nat} (h : wOn Γ) (hm : ∀ k, k ≤ 10 → ma k ≠ 0) (hG : GK Γ l) {sT : Nat → Nat} (hS : STs Γ sT) (hX : XN Γ) {T : List ExceptionTableEntry} (htb : T = []) {sb : Nat} (Ls : Nat) (xs : Nat → Int32) (a1 : Nat) (v13_97 : Int) (v14_97 : Int) (x17_171 : Int) (t0_189 : Int) (r9 : Int) (r67 : Int) (t0_748 : Int) (hxs : XScr Γ sb Ls xs) (J1788 : Int → Rw → Cd → (Nat → Nat) → Option (Int × S3)) (hJ1788 : ∀ (v13_1788 : Int) (E_1788 : Rw) (C_1788 : Cd) (q_1788 : (Nat → Nat)), RunO l Γ (kL T) 16 encI (em3 ma) 1788 [(0, .ref sb), (1, .ref a1), (2, .ref (ma 0)), (3, .ref (ma 1)), (4, .ref (ma 2)), (5, .ref (ma 3)), (6, .ref (ma 4)), (7, .ref (ma 5)), (8, .ref (ma 6)), (9, .ref (ma 7)), (10, .ref (ma 8)), (11, .ref (ma 9)), (12, .ref (ma 10)), (13, wi v13_1788), (14, wi v14_97), (17, wi x17_171)] [] (E_1788, C_1788, q_1788) (J1788 v13_1788 E_1788 C_1788 q_1788)) : ∀ (t0_788 : Int) (E_788 : Rw) (C_788 : Cd) (q_788 : (Nat → Nat)), RunO l Γ (kL T) 16 encI (em3 ma) 788 [(0, .ref sb), (1, .ref a1), (2, .ref (ma 0)), (3, .ref (ma 1)), (4, .ref (ma 2)), (5, .ref (ma 3)), (6, .ref (ma 4)), (7, .ref (ma 5)), (8, .ref (ma 6)), (9, .ref (ma 7)), (10, .ref (ma 8)), (11, .ref (ma 9)), (12, .ref (ma 10)), (13, wi v13_97), (14, wi v14_97), (17, wi x17_171), (18, wi t0_189), (20, wi r9), (25, wi r67), (26, wi t0_748)] [vl t0_788] (E_788, C_788, q_788) (fW_law_788 a1 v13_97 t0_189 r9 J1788 r67 t0_748 t0_788 E_788 C_788 q_788) := by
  intro t0_788 E_788 C_788 q_788
  unfold fW_law_788
  refine r_lstore (lo2 := [(27, vl t0_788), (0, .ref sb), (1, .ref a1), (2, .ref (ma 0)), (3, .ref (ma 1)), (4, .ref (ma 2)), (5, .ref (ma 3)), (6, .ref (ma 4)), (7, .ref (ma 5)), (8, .ref (ma 6)), (9, .ref (ma 7)), (10, .ref (ma 8)), (11, .ref (ma 9)), (12, .ref (ma 10)), (13, wi v13_97), (14, wi v14_97), (17, wi x17_171), (18, wi t0_189), (20, wi r9), (25, wi r67), (26, wi t0_748)]) dL_law_788 (show 27 + 1 < 35 by decide) rfl ?_
  refine r_iload (x := t0_748) dL_law_790 rfl ?_
  refine r_join (P := fun (J : Int → Rw → Cd → (Nat → Nat) → Option (Int × S3)) => ∀ (t0_826 : Int) (E_826 : Rw) (C_826 : Cd) (q_826 : (Nat → Nat)), RunO l Γ (kL T) 16 encI (em3 ma) 826 [(0, .ref sb), (1, .ref a1), (2, .ref (ma 0)), (3, .ref (ma 1)), (4, .ref (ma 2)), (5, .ref (ma 3)), (6, .ref (ma 4)), (7, .ref (ma 5)), (8, .ref (ma 6)), (9, .ref (ma 7)), (10, .ref (ma 8)), (11, .ref (ma 9)), (12, .ref (ma 10)), (13, wi v13_97), (14, wi v14_97), (17, wi x17_171), (18, wi t0_189), (25, wi r67), (26, wi t0_748), (27, vl t0_788)] [wi t0_826] (E_826, C_826, q_826) (J t0_826 E_826 C_826 q_826)) ?_ (fun J826 hJ826 => ?_)
  · exact b_L_law_826 h hm hG hS hX htb Ls xs a1 v13_97 v14_97 x17_171 t0_189 r67 t0_748 t0_788 hxs J1788 hJ1788
  refine r_join (P := fun (J : Rw → Cd → (Nat → Nat) → Option (Int × S3)) => ∀ (E_825 : Rw) (C_825 : Cd) (q_825 : (Nat → Nat)), RunO l Γ (kL T) 16 encI (em3 ma) 825 [(0, .ref sb), (1, .ref a1), (2, .ref (ma 0)), (3, .ref (ma 1)), (4, .ref (ma 2)), (5, .ref (ma 3)), (6, .ref (ma 4)), (7, .ref (ma 5)), (8, .ref (ma 6)), (9, .ref (ma 7)), (10, .ref (ma 8)), (11, .ref (ma 9)), (12, .ref (ma 10)), (13, wi v13_97), (14, wi v14_97), (17, wi x17_171), (18, wi t0_189), (25, wi r67), (26, wi t0_748), (27, vl t0_788)] [] (E_825, C_825, q_825) (J E_825 C_825 q_825)) ?_ (fun J825 hJ825 => ?_)
  · exact b_L_law_825 h hm hG hS hX htb Ls xs a1 v13_97 v14_97 x17_171 t0_189 r67 t0_748 t0_788 hxs J826 hJ826
  refine r_if_eq (tgt := 825) dL_law_792 (by decide) ?_ ?_
  · refine r_lo [1, 2, 3, 4, 5, 6, 7, 8, 9, 10, 11, 12, 13, 14, 15, 16, 17, 19, 20, 0] (lo2 := [(0, .ref sb), (1, .ref a1), (2, .ref (ma 0)), (3, .ref (ma 1)), (4, .ref (ma 2)), (5, .ref (ma 3)), (6, .ref (ma 4)), (7, .ref (ma 5)), (8, .ref (ma 6)), (9, .ref (ma 7)), (10, .ref (ma 8)), (11, .ref (ma 9)), (12, .ref (ma 10)), (13, wi v13_97), (14, wi v14_97), (17, wi x17_171), (18, wi t0_189), (25, wi r67), (26, wi t0_748), (27, vl t0_788)]) rfl ?_
    exact hJ825 E_788 C_788 q_788
  · refine r_lload (x := t0_788) dL_law_795 rfl ?_
    refine r_lconst (x := 1) dL_law_797 rfl ?_
    refine r_lcmp dL_law_798 ?_
    refine r_if_le (tgt := 825) dL_law_799 (by decide) ?_ ?_
    · refine r_lo [1, 2, 3, 4, 5, 6, 7, 8, 9, 10, 11, 12, 13, 14, 15, 16, 17, 19, 20, 0] (lo2 := [(0, .ref sb), (1, .ref a1), (2, .ref (ma 0)), (3, .ref (ma 1)), (4, .ref (ma 2)), (5, .ref (ma 3)), (6, .ref (ma 4)), (7, .ref (ma 5)), (8, .ref (ma 6)), (9, .ref (ma 7)), (10, .ref (ma 8)), (11, .ref (ma 9)), (12, .ref (ma 10)), (13, wi v13_97), (14, wi v14_97), (17, wi x17_171), (18, wi t0_189), (25, wi r67), (26, wi t0_748), (27, vl t0_788)]) rfl ?_
      exact hJ825 E_788 C_788 q_788
    · refine r_lload (x := t0_788) dL_law_802 rfl ?_
      refine r_csi (J := fun (_ : Unit) => (E_788, C_788, q_788)) (k2 := k_L_isText) (n := 1) (rest := []) (fun _ => rfl) htb kv_L_isText (c_L_isText (σ0 := _) t0_788) (by decide) um_L_206 rfl (Nat.le_of_ble_eq_true rfl) dL_law_804 rfl (fun r75 _ => ?_)
      show RunO l Γ (kL T) 16 encI (em3 ma) 807 [(27, vl t0_788), (0, .ref sb), (1, .ref a1), (2, .ref (ma 0)), (3, .ref (ma 1)), (4, .ref (ma 2)), (5, .ref (ma 3)), (6, .ref (ma 4)), (7, .ref (ma 5)), (8, .ref (ma 6)), (9, .ref (ma 7)), (10, .ref (ma 8)), (11, .ref (ma 9)), (12, .ref (ma 10)), (13, wi v13_97), (14, wi v14_97), (17, wi x17_171), (18, wi t0_189), (20, wi r9), (25, wi r67), (26, wi t0_748)] [wi r75] (E_788, C_788, q_788) _
      refine r_if_eq (tgt := 825) dL_law_807 (by decide) ?_ ?_
      · refine r_lo [1, 2, 3, 4, 5, 6, 7, 8, 9, 10, 11, 12, 13, 14, 15, 16, 17, 19, 20, 0] (lo2 := [(0, .ref sb), (1, .ref a1), (2, .ref (ma 0)), (3, .ref (ma 1)), (4, .ref (ma 2)), (5, .ref (ma 3)), (6, .ref (ma 4)), (7, .ref (ma 5)), (8, .ref (ma 6)), (9, .ref (ma 7)), (10, .ref (ma 8)), (11, .ref (ma 9)), (12, .ref (ma 10)), (13, wi v13_97), (14, wi v14_97), (17, wi x17_171), (18, wi t0_189), (25, wi r67), (26, wi t0_748), (27, vl t0_788)]) rfl ?_
        exact hJ825 E_788 C_788 q_788
      · refine r_lload (x := t0_788) dL_law_810 rfl ?_
        refine r_aload (x := ma 3) dL_law_812 rfl ?_
        refine r_iload (x := r9) dL_law_814 rfl ?_
        refine r_wlald3 h (by decide) (by decide) (hm 3 (by decide)) dL_law_816 ?_
        refine r_lcmp dL_law_817 ?_
        refine r_if_eq (tgt := 825) dL_law_818 (by decide) ?_ ?_
        · refine r_lo [1, 2, 3, 4, 5, 6, 7, 8, 9, 10, 11, 12, 13, 14, 15, 16, 17, 19, 20, 0] (lo2 := [(0, .ref sb), (1, .ref a1), (2, .ref (ma 0)), (3, .ref (ma 1)), (4, .ref (ma 2)), (5, .ref (ma 3)), (6, .ref (ma 4)), (7, .ref (ma 5)), (8, .ref (ma 6)), (9, .ref (ma 7)), (10, .ref (ma 8)), (11, .ref (ma 9)), (12, .ref (ma 10)), (13, wi v13_97), (14, wi v14_97), (17, wi x17_171), (18, wi t0_189), (25, wi r67), (26, wi t0_748), (27, vl t0_788)]) rfl ?_
          exact hJ825 E_788 C_788 q_788
        · refine ro_iconst (v := 1) dL_law_821 rfl ?_
          refine r_goto (tgt := 826) dL_law_822 (by decide) ?_
          refine r_lo [1, 2, 3, 4, 5, 6, 7, 8, 9, 10, 11, 12, 13, 14, 15, 16, 17, 19, 20, 0] (lo2 := [(0, .ref sb), (1, .ref a1), (2, .ref (ma 0)), (3, .ref (ma 1)), (4, .ref (ma 2)), (5, .ref (ma 3)), (6, .ref (ma 4)), (7, .ref (ma 5)), (8, .ref (ma 6)), (9, .ref (ma 7)), (10, .ref (ma 8)), (11, .ref (ma 9)), (12, .ref (ma 10)), (13, wi v13_97), (14, wi v14_97), (17, wi x17_171), (18, wi t0_189), (25, wi r67), (26, wi t0_748), (27, vl t0_788)]) rfl ?_
          exact hJ826 1 E_788 C_788 q_788
set_option maxHeartbeats 8000000 in
set_option maxRecDepth 100000 in
theorem b_L_law_748 {l : Launch} {Γ : Cx} {ma : Nat → Nat} (h : wOn Γ) (hm : ∀ k, k ≤ 10 → ma k ≠ 0) (hG : GK Γ l) {sT : Nat → Nat} (hS : STs Γ sT) (hX : XN Γ) {T : List ExceptionTableEntry} (htb : T = []) {sb : Nat} (Ls : Nat) (xs : Nat → Int32) (a1 : Nat) (v13_97 : Int) (v14_97 : Int) (x17_171 : Int) (t0_189 : Int) (r9 : Int) (x24_718 : Int) (r67 : Int) (hxs : XScr Γ sb Ls xs) (J1788 : Int → Rw → Cd → (Nat → Nat) → Option (Int × S3)) (hJ1788 : ∀ (v13_1788 : Int) (E_1788 : Rw) (C_1788 : Cd) (q_1788 : (Nat → Nat)), RunO l Γ (kL T) 16 encI (em3 ma) 1788 [(0, .ref sb), (1, .ref a1), (2, .ref (ma 0)), (3, .ref (ma 1)), (4, .ref (ma 2)), (5, .ref (ma 3)), (6, .ref (ma 4)), (7, .ref (ma 5)), (8, .ref (ma 6)), (9, .ref (ma 7)), (10, .ref (ma 8)), (11, .ref (ma 9)), (12, .ref (ma 10)), (13, wi v13_1788), (14, wi v14_97), (17, wi x17_171)] [] (E_1788, C_1788, q_1788) (J1788 v13_1788 E_1788 C_1788 q_1788)) : ∀ (t0_748 : Int) (E_748 : Rw) (C_748 : Cd) (q_748 : (Nat → Nat)), RunO l Γ (kL T) 16 encI (em3 ma) 748 [(0, .ref sb), (1, .ref a1), (2, .ref (ma 0)), (3, .ref (ma 1)), (4, .ref (ma 2)), (5, .ref (ma 3)), (6, .ref (ma 4)), (7, .ref (ma 5)), (8, .ref (ma 6)), (9, .ref (ma 7)), (10, .ref (ma 8)), (11, .ref (ma 9)), (12, .ref (ma 10)), (13, wi v13_97), (14, wi v14_97), (17, wi x17_171), (18, wi t0_189), (20, wi r9), (24, wi x24_718), (25, wi r67)] [wi t0_748] (E_748, C_748, q_748) (fW_law_748 a1 v13_97 t0_189 r9 J1788 x24_718 r67 t0_748 E_748 C_748 q_748) := by
  intro t0_748 E_748 C_748 q_748
  unfold fW_law_748
  refine r_istore (lo2 := [(26, wi t0_748), (0, .ref sb), (1, .ref a1), (2, .ref (ma 0)), (3, .ref (ma 1)), (4, .ref (ma 2)), (5, .ref (ma 3)), (6, .ref (ma 4)), (7, .ref (ma 5)), (8, .ref (ma 6)), (9, .ref (ma 7)), (10, .ref (ma 8)), (11, .ref (ma 9)), (12, .ref (ma 10)), (13, wi v13_97), (14, wi v14_97), (17, wi x17_171), (18, wi t0_189), (20, wi r9), (24, wi x24_718), (25, wi r67)]) dL_law_748 (show 26 < 35 by decide) rfl ?_
  refine r_iload (x := t0_748) dL_law_750 rfl ?_
  refine r_join (P := fun (J : Int → Rw → Cd → (Nat → Nat) → Option (Int × S3)) => ∀ (t0_788 : Int) (E_788 : Rw) (C_788 : Cd) (q_788 : (Nat → Nat)), RunO l Γ (kL T) 16 encI (em3 ma) 788 [(0, .ref sb), (1, .ref a1), (2, .ref (ma 0)), (3, .ref (ma 1)), (4, .ref (ma 2)), (5, .ref (ma 3)), (6, .ref (ma 4)), (7, .ref (ma 5)), (8, .ref (ma 6)), (9, .ref (ma 7)), (10, .ref (ma 8)), (11, .ref (ma 9)), (12, .ref (ma 10)), (13, wi v13_97), (14, wi v14_97), (17, wi x17_171), (18, wi t0_189), (20, wi r9), (25, wi r67), (26, wi t0_748)] [vl t0_788] (E_788, C_788, q_788) (J t0_788 E_788 C_788 q_788)) ?_ (fun J788 hJ788 => ?_)
  · exact b_L_law_788 h hm hG hS hX htb Ls xs a1 v13_97 v14_97 x17_171 t0_189 r9 r67 t0_748 hxs J1788 hJ1788
  refine r_if_eq (tgt := 787) dL_law_752 (by decide) ?_ ?_
  · refine r_lconst (x := 0) dL_law_787 rfl ?_
    refine r_lo [1, 2, 3, 4, 5, 6, 7, 8, 9, 10, 11, 12, 13, 14, 15, 16, 17, 18, 20, 0] (lo2 := [(0, .ref sb), (1, .ref a1), (2, .ref (ma 0)), (3, .ref (ma 1)), (4, .ref (ma 2)), (5, .ref (ma 3)), (6, .ref (ma 4)), (7, .ref (ma 5)), (8, .ref (ma 6)), (9, .ref (ma 7)), (10, .ref (ma 8)), (11, .ref (ma 9)), (12, .ref (ma 10)), (13, wi v13_97), (14, wi v14_97), (17, wi x17_171), (18, wi t0_189), (20, wi r9), (25, wi r67), (26, wi t0_748)]) rfl ?_
    exact hJ788 0 E_748 C_748 q_748
  · refine r_aload (x := ma 3) dL_law_755 rfl ?_
    refine r_aload_n (x := ma 0) dL_law_757 rfl rfl ?_
    refine r_aload_n (x := ma 1) dL_law_758 rfl rfl ?_
    refine r_aload (x := ma 2) dL_law_759 rfl ?_
    refine r_iload (x := t0_189) dL_law_761 rfl ?_
    refine r_iload (x := x24_718) dL_law_763 rfl ?_
    refine ro_iconst (v := 1) dL_law_765 rfl ?_
    refine r_isub dL_law_766 ?_
    refine r_csi (J := fun (E_ : Rw) => (E_, C_748, q_748)) (k2 := k_L_versionOf) (n := 5) (rest := [.ref (ma 3)]) (fun _ => rfl) htb kv_L_versionOf (c_L_versionOf (ad := adq ma q_748) (K0 := C_748) h (adq_hm hm) t0_189 (x24_718 - 1) _) (by decide) um_L_139 rfl (Nat.le_of_ble_eq_true rfl) dL_law_767 rfl (fun r76 E77 => ?_)
    show RunO l Γ (kL T) 16 encI (em3 ma) 770 [(26, wi t0_748), (0, .ref sb), (1, .ref a1), (2, .ref (ma 0)), (3, .ref (ma 1)), (4, .ref (ma 2)), (5, .ref (ma 3)), (6, .ref (ma 4)), (7, .ref (ma 5)), (8, .ref (ma 6)), (9, .ref (ma 7)), (10, .ref (ma 8)), (11, .ref (ma 9)), (12, .ref (ma 10)), (13, wi v13_97), (14, wi v14_97), (17, wi x17_171), (18, wi t0_189), (20, wi r9), (24, wi x24_718), (25, wi r67)] [wi r76, .ref (ma 3)] (E77, C_748, q_748) _
    refine r_wlald3 h (by decide) (by decide) (hm 3 (by decide)) dL_law_770 ?_
    refine r_aload (x := ma 3) dL_law_771 rfl ?_
    refine r_iload (x := r67) dL_law_773 rfl ?_
    refine r_wlald3 h (by decide) (by decide) (hm 3 (by decide)) dL_law_775 ?_
    refine r_aload (x := ma 3) dL_law_776 rfl ?_
    refine r_iload (x := r9) dL_law_778 rfl ?_
    refine r_wlald3 h (by decide) (by decide) (hm 3 (by decide)) dL_law_780 ?_
    refine r_csj (J := fun (_ : Unit) => (E77, C_748, q_748)) (k2 := k_L_undone) (n := 3) (rest := []) (fun _ => rfl) htb kv_L_undone (c_L_undone (σ0 := _) (E77 3 (ix r76)) (E77 3 (ix r67)) (E77 3 (ix r9))) (by decide) um_L_210 rfl (Nat.le_of_ble_eq_true rfl) dL_law_781 rfl (fun r78 _ => ?_)
    show RunO l Γ (kL T) 16 encI (em3 ma) 784 [(26, wi t0_748), (0, .ref sb), (1, .ref a1), (2, .ref (ma 0)), (3, .ref (ma 1)), (4, .ref (ma 2)), (5, .ref (ma 3)), (6, .ref (ma 4)), (7, .ref (ma 5)), (8, .ref (ma 6)), (9, .ref (ma 7)), (10, .ref (ma 8)), (11, .ref (ma 9)), (12, .ref (ma 10)), (13, wi v13_97), (14, wi v14_97), (17, wi x17_171), (18, wi t0_189), (20, wi r9), (24, wi x24_718), (25, wi r67)] [vl r78] (E77, C_748, q_748) _
    refine r_goto (tgt := 788) dL_law_784 (by decide) ?_
    refine r_lo [1, 2, 3, 4, 5, 6, 7, 8, 9, 10, 11, 12, 13, 14, 15, 16, 17, 18, 20, 0] (lo2 := [(0, .ref sb), (1, .ref a1), (2, .ref (ma 0)), (3, .ref (ma 1)), (4, .ref (ma 2)), (5, .ref (ma 3)), (6, .ref (ma 4)), (7, .ref (ma 5)), (8, .ref (ma 6)), (9, .ref (ma 7)), (10, .ref (ma 8)), (11, .ref (ma 9)), (12, .ref (ma 10)), (13, wi v13_97), (14, wi v14_97), (17, wi x17_171), (18, wi t0_189), (20, wi r9), (25, wi r67), (26, wi t0_748)]) rfl ?_
    exact hJ788 r78 E77 C_748 q_748
set_option maxHeartbeats 8000000 in
set_option maxRecDepth 100000 in
theorem b_L_law_747 {l : Launch} {Γ : Cx} {ma : Nat → Nat} (h : wOn Γ) (hm : ∀ k, k ≤ 10 → ma k ≠ 0) (hG : GK Γ l) {sT : Nat → Nat} (hS : STs Γ sT) (hX : XN Γ) {T : List ExceptionTableEntry} (htb : T = []) {sb : Nat} (Ls : Nat) (xs : Nat → Int32) (a1 : Nat) (v13_97 : Int) (v14_97 : Int) (x17_171 : Int) (t0_189 : Int) (r9 : Int) (x24_718 : Int) (r67 : Int) (hxs : XScr Γ sb Ls xs) (J748 : Int → Rw → Cd → (Nat → Nat) → Option (Int × S3)) (hJ748 : ∀ (t0_748 : Int) (E_748 : Rw) (C_748 : Cd) (q_748 : (Nat → Nat)), RunO l Γ (kL T) 16 encI (em3 ma) 748 [(0, .ref sb), (1, .ref a1), (2, .ref (ma 0)), (3, .ref (ma 1)), (4, .ref (ma 2)), (5, .ref (ma 3)), (6, .ref (ma 4)), (7, .ref (ma 5)), (8, .ref (ma 6)), (9, .ref (ma 7)), (10, .ref (ma 8)), (11, .ref (ma 9)), (12, .ref (ma 10)), (13, wi v13_97), (14, wi v14_97), (17, wi x17_171), (18, wi t0_189), (20, wi r9), (24, wi x24_718), (25, wi r67)] [wi t0_748] (E_748, C_748, q_748) (J748 t0_748 E_748 C_748 q_748)) : ∀ (E_747 : Rw) (C_747 : Cd) (q_747 : (Nat → Nat)), RunO l Γ (kL T) 16 encI (em3 ma) 747 [(0, .ref sb), (1, .ref a1), (2, .ref (ma 0)), (3, .ref (ma 1)), (4, .ref (ma 2)), (5, .ref (ma 3)), (6, .ref (ma 4)), (7, .ref (ma 5)), (8, .ref (ma 6)), (9, .ref (ma 7)), (10, .ref (ma 8)), (11, .ref (ma 9)), (12, .ref (ma 10)), (13, wi v13_97), (14, wi v14_97), (17, wi x17_171), (18, wi t0_189), (20, wi r9), (24, wi x24_718), (25, wi r67)] [] (E_747, C_747, q_747) (fW_law_747 J748 E_747 C_747 q_747) := by
  intro E_747 C_747 q_747
  unfold fW_law_747
  refine ro_iconst (v := 0) dL_law_747 rfl ?_
  exact hJ748 0 E_747 C_747 q_747
set_option maxHeartbeats 8000000 in
set_option maxRecDepth 100000 in
theorem b_L_law_696 {l : Launch} {Γ : Cx} {ma : Nat → Nat} (h : wOn Γ) (hm : ∀ k, k ≤ 10 → ma k ≠ 0) (hG : GK Γ l) {sT : Nat → Nat} (hS : STs Γ sT) (hX : XN Γ) {T : List ExceptionTableEntry} (htb : T = []) {sb : Nat} (Ls : Nat) (xs : Nat → Int32) (a1 : Nat) (v13_97 : Int) (v14_97 : Int) (t0_164 : Int) (x17_171 : Int) (t0_189 : Int) (t0_203 : Int) (r9 : Int) (r11 : Int) (x23_234 : Int) (hxs : XScr Γ sb Ls xs) (J1788 : Int → Rw → Cd → (Nat → Nat) → Option (Int × S3)) (hJ1788 : ∀ (v13_1788 : Int) (E_1788 : Rw) (C_1788 : Cd) (q_1788 : (Nat → Nat)), RunO l Γ (kL T) 16 encI (em3 ma) 1788 [(0, .ref sb), (1, .ref a1), (2, .ref (ma 0)), (3, .ref (ma 1)), (4, .ref (ma 2)), (5, .ref (ma 3)), (6, .ref (ma 4)), (7, .ref (ma 5)), (8, .ref (ma 6)), (9, .ref (ma 7)), (10, .ref (ma 8)), (11, .ref (ma 9)), (12, .ref (ma 10)), (13, wi v13_1788), (14, wi v14_97), (17, wi x17_171)] [] (E_1788, C_1788, q_1788) (J1788 v13_1788 E_1788 C_1788 q_1788)) : ∀ (E_696 : Rw) (C_696 : Cd) (q_696 : (Nat → Nat)), RunO l Γ (kL T) 16 encI (em3 ma) 696 [(0, .ref sb), (1, .ref a1), (2, .ref (ma 0)), (3, .ref (ma 1)), (4, .ref (ma 2)), (5, .ref (ma 3)), (6, .ref (ma 4)), (7, .ref (ma 5)), (8, .ref (ma 6)), (9, .ref (ma 7)), (10, .ref (ma 8)), (11, .ref (ma 9)), (12, .ref (ma 10)), (13, wi v13_97), (14, wi v14_97), (16, wi t0_164), (17, wi x17_171), (18, wi t0_189), (19, wi t0_203), (20, wi r9), (21, vl r11), (23, wi x23_234)] [] (E_696, C_696, q_696) (fW_law_696 a1 v13_97 t0_164 x17_171 t0_189 t0_203 r9 r11 x23_234 J1788 E_696 C_696 q_696) := by
  intro E_696 C_696 q_696
  unfold fW_law_696
  refine r_iload (x := t0_164) dL_law_696 rfl ?_
  refine r_bipush (v := 10) dL_law_698 rfl ?_
  refine r_join (P := fun (J : Rw → Cd → (Nat → Nat) → Option (Int × S3)) => ∀ (E_933 : Rw) (C_933 : Cd) (q_933 : (Nat → Nat)), RunO l Γ (kL T) 16 encI (em3 ma) 933 [(0, .ref sb), (1, .ref a1), (2, .ref (ma 0)), (3, .ref (ma 1)), (4, .ref (ma 2)), (5, .ref (ma 3)), (6, .ref (ma 4)), (7, .ref (ma 5)), (8, .ref (ma 6)), (9, .ref (ma 7)), (10, .ref (ma 8)), (11, .ref (ma 9)), (12, .ref (ma 10)), (14, wi v14_97), (16, wi t0_164), (17, wi x17_171), (18, wi t0_189), (19, wi t0_203), (20, wi r9), (21, vl r11), (23, wi x23_234)] [] (E_933, C_933, q_933) (J E_933 C_933 q_933)) ?_ (fun J933 hJ933 => ?_)
  · exact b_L_law_933 h hm hG hS hX htb Ls xs a1 v14_97 t0_164 x17_171 t0_189 t0_203 r9 r11 x23_234 hxs J1788 hJ1788
  refine r_icmp_ne (tgt := 933) dL_law_700 (by decide) ?_ ?_
  · refine r_lo [0, 1, 2, 3, 4, 5, 6, 7, 8, 9, 10, 11, 12, 14, 15, 16, 17, 18, 19, 20, 21] (lo2 := [(0, .ref sb), (1, .ref a1), (2, .ref (ma 0)), (3, .ref (ma 1)), (4, .ref (ma 2)), (5, .ref (ma 3)), (6, .ref (ma 4)), (7, .ref (ma 5)), (8, .ref (ma 6)), (9, .ref (ma 7)), (10, .ref (ma 8)), (11, .ref (ma 9)), (12, .ref (ma 10)), (14, wi v14_97), (16, wi t0_164), (17, wi x17_171), (18, wi t0_189), (19, wi t0_203), (20, wi r9), (21, vl r11), (23, wi x23_234)]) rfl ?_
    exact hJ933 E_696 C_696 q_696
  · refine r_aload_n (x := ma 0) dL_law_703 rfl rfl ?_
    refine ro_iconst (v := 0) dL_law_704 rfl ?_
    refine r_wiald3 h (by decide) (by decide) (hm 0 (by decide)) dL_law_705 ?_
    refine r_bipush (v := 32) dL_law_706 rfl ?_
    refine r_icmp_ge (tgt := 933) dL_law_708 (by decide) ?_ ?_
    · refine r_lo [0, 1, 2, 3, 4, 5, 6, 7, 8, 9, 10, 11, 12, 14, 15, 16, 17, 18, 19, 20, 21] (lo2 := [(0, .ref sb), (1, .ref a1), (2, .ref (ma 0)), (3, .ref (ma 1)), (4, .ref (ma 2)), (5, .ref (ma 3)), (6, .ref (ma 4)), (7, .ref (ma 5)), (8, .ref (ma 6)), (9, .ref (ma 7)), (10, .ref (ma 8)), (11, .ref (ma 9)), (12, .ref (ma 10)), (14, wi v14_97), (16, wi t0_164), (17, wi x17_171), (18, wi t0_189), (19, wi t0_203), (20, wi r9), (21, vl r11), (23, wi x23_234)]) rfl ?_
      exact hJ933 E_696 C_696 q_696
    · refine r_iload (x := x17_171) dL_law_711 rfl ?_
      refine r_bipush (v := 9) dL_law_713 rfl ?_
      refine r_idiv dL_law_715 (by decide) ?_
      refine ro_iconst (v := 3) dL_law_716 rfl ?_
      refine r_irem dL_law_717 (by decide) ?_
      refine r_nm (fun x24_718 => ?_)
      refine r_istore (lo2 := [(24, wi x24_718), (0, .ref sb), (1, .ref a1), (2, .ref (ma 0)), (3, .ref (ma 1)), (4, .ref (ma 2)), (5, .ref (ma 3)), (6, .ref (ma 4)), (7, .ref (ma 5)), (8, .ref (ma 6)), (9, .ref (ma 7)), (10, .ref (ma 8)), (11, .ref (ma 9)), (12, .ref (ma 10)), (13, wi v13_97), (14, wi v14_97), (16, wi t0_164), (17, wi x17_171), (18, wi t0_189), (19, wi t0_203), (20, wi r9), (21, vl r11), (23, wi x23_234)]) dL_law_718 (show 24 < 35 by decide) rfl ?_
      refine r_aload_n (x := ma 0) dL_law_720 rfl rfl ?_
      refine r_aload_n (x := ma 1) dL_law_721 rfl rfl ?_
      refine r_aload (x := ma 2) dL_law_722 rfl ?_
      refine r_iload (x := t0_189) dL_law_724 rfl ?_
      refine r_iload (x := x24_718) dL_law_726 rfl ?_
      refine r_csi (J := fun (E_ : Rw) => (E_, C_696, q_696)) (k2 := k_L_versionOf) (n := 5) (rest := []) (fun _ => rfl) htb kv_L_versionOf (c_L_versionOf (ad := adq ma q_696) (K0 := C_696) h (adq_hm hm) t0_189 x24_718 _) (by decide) um_L_139 rfl (Nat.le_of_ble_eq_true rfl) dL_law_728 rfl (fun r67 E68 => ?_)
      show RunO l Γ (kL T) 16 encI (em3 ma) 731 [(24, wi x24_718), (0, .ref sb), (1, .ref a1), (2, .ref (ma 0)), (3, .ref (ma 1)), (4, .ref (ma 2)), (5, .ref (ma 3)), (6, .ref (ma 4)), (7, .ref (ma 5)), (8, .ref (ma 6)), (9, .ref (ma 7)), (10, .ref (ma 8)), (11, .ref (ma 9)), (12, .ref (ma 10)), (13, wi v13_97), (14, wi v14_97), (16, wi t0_164), (17, wi x17_171), (18, wi t0_189), (19, wi t0_203), (20, wi r9), (21, vl r11), (23, wi x23_234)] [wi r67] (E68, C_696, q_696) _
      refine r_istore (lo2 := [(25, wi r67), (24, wi x24_718), (0, .ref sb), (1, .ref a1), (2, .ref (ma 0)), (3, .ref (ma 1)), (4, .ref (ma 2)), (5, .ref (ma 3)), (6, .ref (ma 4)), (7, .ref (ma 5)), (8, .ref (ma 6)), (9, .ref (ma 7)), (10, .ref (ma 8)), (11, .ref (ma 9)), (12, .ref (ma 10)), (13, wi v13_97), (14, wi v14_97), (16, wi t0_164), (17, wi x17_171), (18, wi t0_189), (19, wi t0_203), (20, wi r9), (21, vl r11), (23, wi x23_234)]) dL_law_731 (show 25 < 35 by decide) rfl ?_
      refine r_iload (x := r67) dL_law_733 rfl ?_
      refine r_join (P := fun (J : Int → Rw → Cd → (Nat → Nat) → Option (Int × S3)) => ∀ (t0_748 : Int) (E_748 : Rw) (C_748 : Cd) (q_748 : (Nat → Nat)), RunO l Γ (kL T) 16 encI (em3 ma) 748 [(0, .ref sb), (1, .ref a1), (2, .ref (ma 0)), (3, .ref (ma 1)), (4, .ref (ma 2)), (5, .ref (ma 3)), (6, .ref (ma 4)), (7, .ref (ma 5)), (8, .ref (ma 6)), (9, .ref (ma 7)), (10, .ref (ma 8)), (11, .ref (ma 9)), (12, .ref (ma 10)), (13, wi v13_97), (14, wi v14_97), (17, wi x17_171), (18, wi t0_189), (20, wi r9), (24, wi x24_718), (25, wi r67)] [wi t0_748] (E_748, C_748, q_748) (J t0_748 E_748 C_748 q_748)) ?_ (fun J748 hJ748 => ?_)
      · exact b_L_law_748 h hm hG hS hX htb Ls xs a1 v13_97 v14_97 x17_171 t0_189 r9 x24_718 r67 hxs J1788 hJ1788
      refine r_join (P := fun (J : Rw → Cd → (Nat → Nat) → Option (Int × S3)) => ∀ (E_747 : Rw) (C_747 : Cd) (q_747 : (Nat → Nat)), RunO l Γ (kL T) 16 encI (em3 ma) 747 [(0, .ref sb), (1, .ref a1), (2, .ref (ma 0)), (3, .ref (ma 1)), (4, .ref (ma 2)), (5, .ref (ma 3)), (6, .ref (ma 4)), (7, .ref (ma 5)), (8, .ref (ma 6)), (9, .ref (ma 7)), (10, .ref (ma 8)), (11, .ref (ma 9)), (12, .ref (ma 10)), (13, wi v13_97), (14, wi v14_97), (17, wi x17_171), (18, wi t0_189), (20, wi r9), (24, wi x24_718), (25, wi r67)] [] (E_747, C_747, q_747) (J E_747 C_747 q_747)) ?_ (fun J747 hJ747 => ?_)
      · exact b_L_law_747 h hm hG hS hX htb Ls xs a1 v13_97 v14_97 x17_171 t0_189 r9 x24_718 r67 hxs J748 hJ748
      refine r_if_lt (tgt := 747) dL_law_735 (by decide) ?_ ?_
      · refine r_lo [2, 3, 4, 5, 6, 7, 8, 9, 10, 11, 12, 13, 14, 15, 16, 18, 19, 21, 1, 0] (lo2 := [(0, .ref sb), (1, .ref a1), (2, .ref (ma 0)), (3, .ref (ma 1)), (4, .ref (ma 2)), (5, .ref (ma 3)), (6, .ref (ma 4)), (7, .ref (ma 5)), (8, .ref (ma 6)), (9, .ref (ma 7)), (10, .ref (ma 8)), (11, .ref (ma 9)), (12, .ref (ma 10)), (13, wi v13_97), (14, wi v14_97), (17, wi x17_171), (18, wi t0_189), (20, wi r9), (24, wi x24_718), (25, wi r67)]) rfl ?_
        exact hJ747 E68 C_696 q_696
      · refine r_iload (x := x24_718) dL_law_738 rfl ?_
        refine r_if_le (tgt := 747) dL_law_740 (by decide) ?_ ?_
        · refine r_lo [2, 3, 4, 5, 6, 7, 8, 9, 10, 11, 12, 13, 14, 15, 16, 18, 19, 21, 1, 0] (lo2 := [(0, .ref sb), (1, .ref a1), (2, .ref (ma 0)), (3, .ref (ma 1)), (4, .ref (ma 2)), (5, .ref (ma 3)), (6, .ref (ma 4)), (7, .ref (ma 5)), (8, .ref (ma 6)), (9, .ref (ma 7)), (10, .ref (ma 8)), (11, .ref (ma 9)), (12, .ref (ma 10)), (13, wi v13_97), (14, wi v14_97), (17, wi x17_171), (18, wi t0_189), (20, wi r9), (24, wi x24_718), (25, wi r67)]) rfl ?_
          exact hJ747 E68 C_696 q_696
        · refine ro_iconst (v := 1) dL_law_743 rfl ?_
          refine r_goto (tgt := 748) dL_law_744 (by decide) ?_
          refine r_lo [2, 3, 4, 5, 6, 7, 8, 9, 10, 11, 12, 13, 14, 15, 16, 18, 19, 21, 1, 0] (lo2 := [(0, .ref sb), (1, .ref a1), (2, .ref (ma 0)), (3, .ref (ma 1)), (4, .ref (ma 2)), (5, .ref (ma 3)), (6, .ref (ma 4)), (7, .ref (ma 5)), (8, .ref (ma 6)), (9, .ref (ma 7)), (10, .ref (ma 8)), (11, .ref (ma 9)), (12, .ref (ma 10)), (13, wi v13_97), (14, wi v14_97), (17, wi x17_171), (18, wi t0_189), (20, wi r9), (24, wi x24_718), (25, wi r67)]) rfl ?_
          exact hJ748 1 E68 C_696 q_696
set_option maxHeartbeats 8000000 in
set_option maxRecDepth 100000 in
theorem b_L_law_693 {l : Launch} {Γ : Cx} {ma : Nat → Nat} (h : wOn Γ) (hm : ∀ k, k ≤ 10 → ma k ≠ 0) (hG : GK Γ l) {sT : Nat → Nat} (hS : STs Γ sT) (hX : XN Γ) {T : List ExceptionTableEntry} (htb : T = []) {sb : Nat} (Ls : Nat) (xs : Nat → Int32) (a1 : Nat) (v14_97 : Int) (x17_171 : Int) (hxs : XScr Γ sb Ls xs) (J1788 : Int → Rw → Cd → (Nat → Nat) → Option (Int × S3)) (hJ1788 : ∀ (v13_1788 : Int) (E_1788 : Rw) (C_1788 : Cd) (q_1788 : (Nat → Nat)), RunO l Γ (kL T) 16 encI (em3 ma) 1788 [(0, .ref sb), (1, .ref a1), (2, .ref (ma 0)), (3, .ref (ma 1)), (4, .ref (ma 2)), (5, .ref (ma 3)), (6, .ref (ma 4)), (7, .ref (ma 5)), (8, .ref (ma 6)), (9, .ref (ma 7)), (10, .ref (ma 8)), (11, .ref (ma 9)), (12, .ref (ma 10)), (13, wi v13_1788), (14, wi v14_97), (17, wi x17_171)] [] (E_1788, C_1788, q_1788) (J1788 v13_1788 E_1788 C_1788 q_1788)) : ∀ (v13_693 : Int) (E_693 : Rw) (C_693 : Cd) (q_693 : (Nat → Nat)), RunO l Γ (kL T) 16 encI (em3 ma) 693 [(0, .ref sb), (1, .ref a1), (2, .ref (ma 0)), (3, .ref (ma 1)), (4, .ref (ma 2)), (5, .ref (ma 3)), (6, .ref (ma 4)), (7, .ref (ma 5)), (8, .ref (ma 6)), (9, .ref (ma 7)), (10, .ref (ma 8)), (11, .ref (ma 9)), (12, .ref (ma 10)), (13, wi v13_693), (14, wi v14_97), (17, wi x17_171)] [] (E_693, C_693, q_693) (fW_law_693 J1788 v13_693 E_693 C_693 q_693) := by
  intro v13_693 E_693 C_693 q_693
  unfold fW_law_693
  refine r_goto (tgt := 1788) dL_law_693 (by decide) ?_
  exact hJ1788 v13_693 E_693 C_693 q_693
set_option maxHeartbeats 8000000 in
set_option maxRecDepth 100000 in
theorem b_L_law_658 {l : Launch} {Γ : Cx} {ma : Nat → Nat} (h : wOn Γ) (hm : ∀ k, k ≤ 10 → ma k ≠ 0) (hG : GK Γ l) {sT : Nat → Nat} (hS : STs Γ sT) (hX : XN Γ) {T : List ExceptionTableEntry} (htb : T = []) {sb : Nat} (Ls : Nat) (xs : Nat → Int32) (a1 : Nat) (v14_97 : Int) (x17_171 : Int) (t0_189 : Int) (t0_542 : Int) (t0_580 : Int) (hxs : XScr Γ sb Ls xs) (J693 : Int → Rw → Cd → (Nat → Nat) → Option (Int × S3)) (hJ693 : ∀ (v13_693 : Int) (E_693 : Rw) (C_693 : Cd) (q_693 : (Nat → Nat)), RunO l Γ (kL T) 16 encI (em3 ma) 693 [(0, .ref sb), (1, .ref a1), (2, .ref (ma 0)), (3, .ref (ma 1)), (4, .ref (ma 2)), (5, .ref (ma 3)), (6, .ref (ma 4)), (7, .ref (ma 5)), (8, .ref (ma 6)), (9, .ref (ma 7)), (10, .ref (ma 8)), (11, .ref (ma 9)), (12, .ref (ma 10)), (13, wi v13_693), (14, wi v14_97), (17, wi x17_171)] [] (E_693, C_693, q_693) (J693 v13_693 E_693 C_693 q_693)) : ∀ (t0_658 : Int) (E_658 : Rw) (C_658 : Cd) (q_658 : (Nat → Nat)), RunO l Γ (kL T) 16 encI (em3 ma) 658 [(0, .ref sb), (1, .ref a1), (2, .ref (ma 0)), (3, .ref (ma 1)), (4, .ref (ma 2)), (5, .ref (ma 3)), (6, .ref (ma 4)), (7, .ref (ma 5)), (8, .ref (ma 6)), (9, .ref (ma 7)), (10, .ref (ma 8)), (11, .ref (ma 9)), (12, .ref (ma 10)), (14, wi v14_97), (17, wi x17_171), (18, wi t0_189), (31, vl t0_542), (33, wi t0_580)] [wi t0_658] (E_658, C_658, q_658) (fW_law_658 t0_189 t0_542 t0_580 J693 t0_658 E_658 C_658 q_658) := by
  intro t0_658 E_658 C_658 q_658
  unfold fW_law_658
  refine r_istore (lo2 := [(13, wi t0_658), (0, .ref sb), (1, .ref a1), (2, .ref (ma 0)), (3, .ref (ma 1)), (4, .ref (ma 2)), (5, .ref (ma 3)), (6, .ref (ma 4)), (7, .ref (ma 5)), (8, .ref (ma 6)), (9, .ref (ma 7)), (10, .ref (ma 8)), (11, .ref (ma 9)), (12, .ref (ma 10)), (14, wi v14_97), (17, wi x17_171), (18, wi t0_189), (31, vl t0_542), (33, wi t0_580)]) dL_law_658 (show 13 < 35 by decide) rfl ?_
  refine r_iload (x := t0_580) dL_law_660 rfl ?_
  refine r_if_eq (tgt := 693) dL_law_662 (by decide) ?_ ?_
  · refine r_lo [1, 2, 3, 4, 5, 6, 7, 8, 9, 10, 11, 12, 13, 0, 14, 15] (lo2 := [(0, .ref sb), (1, .ref a1), (2, .ref (ma 0)), (3, .ref (ma 1)), (4, .ref (ma 2)), (5, .ref (ma 3)), (6, .ref (ma 4)), (7, .ref (ma 5)), (8, .ref (ma 6)), (9, .ref (ma 7)), (10, .ref (ma 8)), (11, .ref (ma 9)), (12, .ref (ma 10)), (13, wi t0_658), (14, wi v14_97), (17, wi x17_171)]) rfl ?_
    exact hJ693 t0_658 E_658 C_658 q_658
  · refine r_aload_n (x := ma 0) dL_law_665 rfl rfl ?_
    refine ro_iconst (v := 2) dL_law_666 rfl ?_
    refine r_dup2 dL_law_667 rfl rfl ?_
    refine r_wiald3 h (by decide) (by decide) (hm 0 (by decide)) dL_law_668 ?_
    refine ro_iconst (v := 1) dL_law_669 rfl ?_
    refine r_iadd dL_law_670 ?_
    refine r_wiast3 h (by decide) (by decide) (hm 0 (by decide)) dL_law_671 (fun E81 => ?_)
    refine r_aload_n (x := ma 0) dL_law_672 rfl rfl ?_
    refine r_aload (x := ma 2) dL_law_673 rfl ?_
    refine r_aload (x := ma 3) dL_law_675 rfl ?_
    refine r_aload_n (x := ma 1) dL_law_677 rfl rfl ?_
    refine r_iload (x := t0_189) dL_law_678 rfl ?_
    refine r_wiald3 h (by decide) (by decide) (hm 1 (by decide)) dL_law_680 ?_
    refine ro_iconst (v := 1) dL_law_681 rfl ?_
    refine r_isub dL_law_682 ?_
    refine r_aload_n (x := ma 0) dL_law_683 rfl rfl ?_
    refine ro_iconst (v := 2) dL_law_684 rfl ?_
    refine r_wiald3 h (by decide) (by decide) (hm 0 (by decide)) dL_law_685 ?_
    refine r_lload (x := t0_542) dL_law_686 rfl ?_
    refine r_csi (J := fun (E_ : Rw) => (E_, C_658, q_658)) (k2 := k_L_adds) (n := 6) (rest := []) (fun _ => rfl) htb kv_L_adds (c_L_adds (ad := adq ma q_658) (K0 := C_658) h (adq_hm hm) ((E81 1 (ix t0_189)) - 1) (E81 0 (ix 2)) t0_542 _) (by decide) um_L_194 rfl (Nat.le_of_ble_eq_true rfl) dL_law_688 rfl (fun r82 E83 => ?_)
    show RunO l Γ (kL T) 16 encI (em3 ma) 691 [(13, wi t0_658), (0, .ref sb), (1, .ref a1), (2, .ref (ma 0)), (3, .ref (ma 1)), (4, .ref (ma 2)), (5, .ref (ma 3)), (6, .ref (ma 4)), (7, .ref (ma 5)), (8, .ref (ma 6)), (9, .ref (ma 7)), (10, .ref (ma 8)), (11, .ref (ma 9)), (12, .ref (ma 10)), (14, wi v14_97), (17, wi x17_171), (18, wi t0_189), (31, vl t0_542), (33, wi t0_580)] [wi r82] (E83, C_658, q_658) _
    refine r_istore (lo2 := [(34, wi r82), (13, wi t0_658), (0, .ref sb), (1, .ref a1), (2, .ref (ma 0)), (3, .ref (ma 1)), (4, .ref (ma 2)), (5, .ref (ma 3)), (6, .ref (ma 4)), (7, .ref (ma 5)), (8, .ref (ma 6)), (9, .ref (ma 7)), (10, .ref (ma 8)), (11, .ref (ma 9)), (12, .ref (ma 10)), (14, wi v14_97), (17, wi x17_171), (18, wi t0_189), (31, vl t0_542), (33, wi t0_580)]) dL_law_691 (show 34 < 35 by decide) rfl ?_
    refine r_lo [2, 3, 4, 5, 6, 7, 8, 9, 10, 11, 12, 13, 14, 1, 15, 16] (lo2 := [(0, .ref sb), (1, .ref a1), (2, .ref (ma 0)), (3, .ref (ma 1)), (4, .ref (ma 2)), (5, .ref (ma 3)), (6, .ref (ma 4)), (7, .ref (ma 5)), (8, .ref (ma 6)), (9, .ref (ma 7)), (10, .ref (ma 8)), (11, .ref (ma 9)), (12, .ref (ma 10)), (13, wi t0_658), (14, wi v14_97), (17, wi x17_171)]) rfl ?_
    exact hJ693 t0_658 E83 C_658 q_658
set_option maxHeartbeats 8000000 in
set_option maxRecDepth 100000 in
theorem b_L_law_657 {l : Launch} {Γ : Cx} {ma : Nat → Nat} (h : wOn Γ) (hm : ∀ k, k ≤ 10 → ma k ≠ 0) (hG : GK Γ l) {sT : Nat → Nat} (hS : STs Γ sT) (hX : XN Γ) {T : List ExceptionTableEntry} (htb : T = []) {sb : Nat} (Ls : Nat) (xs : Nat → Int32) (a1 : Nat) (v14_97 : Int) (x17_171 : Int) (t0_189 : Int) (t0_542 : Int) (t0_580 : Int) (hxs : XScr Γ sb Ls xs) (J658 : Int → Rw → Cd → (Nat → Nat) → Option (Int × S3)) (hJ658 : ∀ (t0_658 : Int) (E_658 : Rw) (C_658 : Cd) (q_658 : (Nat → Nat)), RunO l Γ (kL T) 16 encI (em3 ma) 658 [(0, .ref sb), (1, .ref a1), (2, .ref (ma 0)), (3, .ref (ma 1)), (4, .ref (ma 2)), (5, .ref (ma 3)), (6, .ref (ma 4)), (7, .ref (ma 5)), (8, .ref (ma 6)), (9, .ref (ma 7)), (10, .ref (ma 8)), (11, .ref (ma 9)), (12, .ref (ma 10)), (14, wi v14_97), (17, wi x17_171), (18, wi t0_189), (31, vl t0_542), (33, wi t0_580)] [wi t0_658] (E_658, C_658, q_658) (J658 t0_658 E_658 C_658 q_658)) : ∀ (E_657 : Rw) (C_657 : Cd) (q_657 : (Nat → Nat)), RunO l Γ (kL T) 16 encI (em3 ma) 657 [(0, .ref sb), (1, .ref a1), (2, .ref (ma 0)), (3, .ref (ma 1)), (4, .ref (ma 2)), (5, .ref (ma 3)), (6, .ref (ma 4)), (7, .ref (ma 5)), (8, .ref (ma 6)), (9, .ref (ma 7)), (10, .ref (ma 8)), (11, .ref (ma 9)), (12, .ref (ma 10)), (14, wi v14_97), (17, wi x17_171), (18, wi t0_189), (31, vl t0_542), (33, wi t0_580)] [] (E_657, C_657, q_657) (fW_law_657 J658 E_657 C_657 q_657) := by
  intro E_657 C_657 q_657
  unfold fW_law_657
  refine ro_iconst (v := 0) dL_law_657 rfl ?_
  exact hJ658 0 E_657 C_657 q_657
set_option maxHeartbeats 8000000 in
set_option maxRecDepth 100000 in
theorem b_L_law_650 {l : Launch} {Γ : Cx} {ma : Nat → Nat} (h : wOn Γ) (hm : ∀ k, k ≤ 10 → ma k ≠ 0) (hG : GK Γ l) {sT : Nat → Nat} (hS : STs Γ sT) (hX : XN Γ) {T : List ExceptionTableEntry} (htb : T = []) {sb : Nat} (Ls : Nat) (xs : Nat → Int32) (a1 : Nat) (v14_97 : Int) (x17_171 : Int) (t0_189 : Int) (t0_542 : Int) (t0_580 : Int) (r84 : Int) (hxs : XScr Γ sb Ls xs) (J658 : Int → Rw → Cd → (Nat → Nat) → Option (Int × S3)) (hJ658 : ∀ (t0_658 : Int) (E_658 : Rw) (C_658 : Cd) (q_658 : (Nat → Nat)), RunO l Γ (kL T) 16 encI (em3 ma) 658 [(0, .ref sb), (1, .ref a1), (2, .ref (ma 0)), (3, .ref (ma 1)), (4, .ref (ma 2)), (5, .ref (ma 3)), (6, .ref (ma 4)), (7, .ref (ma 5)), (8, .ref (ma 6)), (9, .ref (ma 7)), (10, .ref (ma 8)), (11, .ref (ma 9)), (12, .ref (ma 10)), (14, wi v14_97), (17, wi x17_171), (18, wi t0_189), (31, vl t0_542), (33, wi t0_580)] [wi t0_658] (E_658, C_658, q_658) (J658 t0_658 E_658 C_658 q_658)) (J657 : Rw → Cd → (Nat → Nat) → Option (Int × S3)) (hJ657 : ∀ (E_657 : Rw) (C_657 : Cd) (q_657 : (Nat → Nat)), RunO l Γ (kL T) 16 encI (em3 ma) 657 [(0, .ref sb), (1, .ref a1), (2, .ref (ma 0)), (3, .ref (ma 1)), (4, .ref (ma 2)), (5, .ref (ma 3)), (6, .ref (ma 4)), (7, .ref (ma 5)), (8, .ref (ma 6)), (9, .ref (ma 7)), (10, .ref (ma 8)), (11, .ref (ma 9)), (12, .ref (ma 10)), (14, wi v14_97), (17, wi x17_171), (18, wi t0_189), (31, vl t0_542), (33, wi t0_580)] [] (E_657, C_657, q_657) (J657 E_657 C_657 q_657)) : ∀ (t0_650 : Int) (E_650 : Rw) (C_650 : Cd) (q_650 : (Nat → Nat)), RunO l Γ (kL T) 16 encI (em3 ma) 650 [(0, .ref sb), (1, .ref a1), (2, .ref (ma 0)), (3, .ref (ma 1)), (4, .ref (ma 2)), (5, .ref (ma 3)), (6, .ref (ma 4)), (7, .ref (ma 5)), (8, .ref (ma 6)), (9, .ref (ma 7)), (10, .ref (ma 8)), (11, .ref (ma 9)), (12, .ref (ma 10)), (14, wi v14_97), (17, wi x17_171), (18, wi t0_189), (31, vl t0_542), (33, wi t0_580)] [wi t0_650, wi r84] (E_650, C_650, q_650) (fW_law_650 J658 J657 r84 t0_650 E_650 C_650 q_650) := by
  intro t0_650 E_650 C_650 q_650
  unfold fW_law_650
  refine r_icmp_ne (tgt := 657) dL_law_650 (by decide) ?_ ?_
  · exact hJ657 E_650 C_650 q_650
  · refine ro_iconst (v := 1) dL_law_653 rfl ?_
    refine r_goto (tgt := 658) dL_law_654 (by decide) ?_
    exact hJ658 1 E_650 C_650 q_650
set_option maxHeartbeats 8000000 in
set_option maxRecDepth 100000 in
theorem b_L_law_607 {l : Launch} {Γ : Cx} {ma : Nat → Nat} (h : wOn Γ) (hm : ∀ k, k ≤ 10 → ma k ≠ 0) (hG : GK Γ l) {sT : Nat → Nat} (hS : STs Γ sT) (hX : XN Γ) {T : List ExceptionTableEntry} (htb : T = []) {sb : Nat} (Ls : Nat) (xs : Nat → Int32) (a1 : Nat) (v14_97 : Int) (x17_171 : Int) (t0_189 : Int) (t0_420 : Int) (x25_430 : Int) (t0_450 : Int) (t0_475 : Int) (t0_542 : Int) (t0_580 : Int) (hxs : XScr Γ sb Ls xs) (J693 : Int → Rw → Cd → (Nat → Nat) → Option (Int × S3)) (hJ693 : ∀ (v13_693 : Int) (E_693 : Rw) (C_693 : Cd) (q_693 : (Nat → Nat)), RunO l Γ (kL T) 16 encI (em3 ma) 693 [(0, .ref sb), (1, .ref a1), (2, .ref (ma 0)), (3, .ref (ma 1)), (4, .ref (ma 2)), (5, .ref (ma 3)), (6, .ref (ma 4)), (7, .ref (ma 5)), (8, .ref (ma 6)), (9, .ref (ma 7)), (10, .ref (ma 8)), (11, .ref (ma 9)), (12, .ref (ma 10)), (13, wi v13_693), (14, wi v14_97), (17, wi x17_171)] [] (E_693, C_693, q_693) (J693 v13_693 E_693 C_693 q_693)) : ∀ (E_607 : Rw) (C_607 : Cd) (q_607 : (Nat → Nat)), RunO l Γ (kL T) 16 encI (em3 ma) 607 [(0, .ref sb), (1, .ref a1), (2, .ref (ma 0)), (3, .ref (ma 1)), (4, .ref (ma 2)), (5, .ref (ma 3)), (6, .ref (ma 4)), (7, .ref (ma 5)), (8, .ref (ma 6)), (9, .ref (ma 7)), (10, .ref (ma 8)), (11, .ref (ma 9)), (12, .ref (ma 10)), (14, wi v14_97), (17, wi x17_171), (18, wi t0_189), (24, wi t0_420), (25, wi x25_430), (26, vl t0_450), (28, wi t0_475), (31, vl t0_542), (33, wi t0_580)] [] (E_607, C_607, q_607) (fW_law_607 a1 t0_189 t0_420 x25_430 t0_450 t0_475 t0_542 t0_580 J693 E_607 C_607 q_607) := by
  intro E_607 C_607 q_607
  unfold fW_law_607
  refine r_aload_n (x := a1) dL_law_607 rfl rfl ?_
  refine r_lload (x := t0_450) dL_law_608 rfl ?_
  refine r_csi (J := fun (C_ : Cd) => (E_607, C_, q_607)) (k2 := k_L_drafts) (n := 2) (rest := []) (fun _ => rfl) htb kv_L_drafts (c_L_drafts (M0 := (fun k => (adq ma q_607 k : Int), E_607)) hG hS a1 t0_450 _) (by decide) um_L_190 rfl (Nat.le_of_ble_eq_true rfl) dL_law_610 rfl (fun r79 C80 => ?_)
  show RunO l Γ (kL T) 16 encI (em3 ma) 613 [(0, .ref sb), (1, .ref a1), (2, .ref (ma 0)), (3, .ref (ma 1)), (4, .ref (ma 2)), (5, .ref (ma 3)), (6, .ref (ma 4)), (7, .ref (ma 5)), (8, .ref (ma 6)), (9, .ref (ma 7)), (10, .ref (ma 8)), (11, .ref (ma 9)), (12, .ref (ma 10)), (14, wi v14_97), (17, wi x17_171), (18, wi t0_189), (24, wi t0_420), (25, wi x25_430), (26, vl t0_450), (28, wi t0_475), (31, vl t0_542), (33, wi t0_580)] [wi r79] (E_607, C80, q_607) _
  refine r_join (P := fun (J : Int → Rw → Cd → (Nat → Nat) → Option (Int × S3)) => ∀ (t0_658 : Int) (E_658 : Rw) (C_658 : Cd) (q_658 : (Nat → Nat)), RunO l Γ (kL T) 16 encI (em3 ma) 658 [(0, .ref sb), (1, .ref a1), (2, .ref (ma 0)), (3, .ref (ma 1)), (4, .ref (ma 2)), (5, .ref (ma 3)), (6, .ref (ma 4)), (7, .ref (ma 5)), (8, .ref (ma 6)), (9, .ref (ma 7)), (10, .ref (ma 8)), (11, .ref (ma 9)), (12, .ref (ma 10)), (14, wi v14_97), (17, wi x17_171), (18, wi t0_189), (31, vl t0_542), (33, wi t0_580)] [wi t0_658] (E_658, C_658, q_658) (J t0_658 E_658 C_658 q_658)) ?_ (fun J658 hJ658 => ?_)
  · exact b_L_law_658 h hm hG hS hX htb Ls xs a1 v14_97 x17_171 t0_189 t0_542 t0_580 hxs J693 hJ693
  refine r_join (P := fun (J : Rw → Cd → (Nat → Nat) → Option (Int × S3)) => ∀ (E_657 : Rw) (C_657 : Cd) (q_657 : (Nat → Nat)), RunO l Γ (kL T) 16 encI (em3 ma) 657 [(0, .ref sb), (1, .ref a1), (2, .ref (ma 0)), (3, .ref (ma 1)), (4, .ref (ma 2)), (5, .ref (ma 3)), (6, .ref (ma 4)), (7, .ref (ma 5)), (8, .ref (ma 6)), (9, .ref (ma 7)), (10, .ref (ma 8)), (11, .ref (ma 9)), (12, .ref (ma 10)), (14, wi v14_97), (17, wi x17_171), (18, wi t0_189), (31, vl t0_542), (33, wi t0_580)] [] (E_657, C_657, q_657) (J E_657 C_657 q_657)) ?_ (fun J657 hJ657 => ?_)
  · exact b_L_law_657 h hm hG hS hX htb Ls xs a1 v14_97 x17_171 t0_189 t0_542 t0_580 hxs J658 hJ658
  refine r_if_eq (tgt := 657) dL_law_613 (by decide) ?_ ?_
  · refine r_lo [0, 1, 2, 3, 4, 5, 6, 7, 8, 9, 10, 11, 12, 13, 14, 15, 20, 21] (lo2 := [(0, .ref sb), (1, .ref a1), (2, .ref (ma 0)), (3, .ref (ma 1)), (4, .ref (ma 2)), (5, .ref (ma 3)), (6, .ref (ma 4)), (7, .ref (ma 5)), (8, .ref (ma 6)), (9, .ref (ma 7)), (10, .ref (ma 8)), (11, .ref (ma 9)), (12, .ref (ma 10)), (14, wi v14_97), (17, wi x17_171), (18, wi t0_189), (31, vl t0_542), (33, wi t0_580)]) rfl ?_
    exact hJ657 E_607 C80 q_607
  · refine r_aload_n (x := a1) dL_law_616 rfl rfl ?_
    refine ro_iconst (v := 1) dL_law_617 rfl ?_
    refine r_iload (x := t0_189) dL_law_618 rfl ?_
    refine r_iload (x := t0_420) dL_law_620 rfl ?_
    refine r_iload (x := x25_430) dL_law_622 rfl ?_
    refine r_csHi (J := fun (C_ : Cd) => (E_607, C_, q_607)) (k2 := k_L_does) (n := 5) (rest := []) (fun _ => rfl) kv_L_does (c_L_does (M0 := (fun k => (adq ma q_607 k : Int), E_607)) hG hX a1 1 t0_189 t0_420 x25_430 _) (by decide) um_L_132 rfl (Nat.le_of_ble_eq_true rfl) dL_law_624 rfl (fun r84 C85 => ?_)
    show RunO l Γ (kL T) 16 encI (em3 ma) 627 [(0, .ref sb), (1, .ref a1), (2, .ref (ma 0)), (3, .ref (ma 1)), (4, .ref (ma 2)), (5, .ref (ma 3)), (6, .ref (ma 4)), (7, .ref (ma 5)), (8, .ref (ma 6)), (9, .ref (ma 7)), (10, .ref (ma 8)), (11, .ref (ma 9)), (12, .ref (ma 10)), (14, wi v14_97), (17, wi x17_171), (18, wi t0_189), (24, wi t0_420), (25, wi x25_430), (26, vl t0_450), (28, wi t0_475), (31, vl t0_542), (33, wi t0_580)] [wi r84] (E_607, C85, q_607) _
    refine r_iload (x := t0_475) dL_law_627 rfl ?_
    refine r_join (P := fun (J : Int → Rw → Cd → (Nat → Nat) → Option (Int × S3)) => ∀ (t0_650 : Int) (E_650 : Rw) (C_650 : Cd) (q_650 : (Nat → Nat)), RunO l Γ (kL T) 16 encI (em3 ma) 650 [(0, .ref sb), (1, .ref a1), (2, .ref (ma 0)), (3, .ref (ma 1)), (4, .ref (ma 2)), (5, .ref (ma 3)), (6, .ref (ma 4)), (7, .ref (ma 5)), (8, .ref (ma 6)), (9, .ref (ma 7)), (10, .ref (ma 8)), (11, .ref (ma 9)), (12, .ref (ma 10)), (14, wi v14_97), (17, wi x17_171), (18, wi t0_189), (31, vl t0_542), (33, wi t0_580)] [wi t0_650, wi r84] (E_650, C_650, q_650) (J t0_650 E_650 C_650 q_650)) ?_ (fun J650 hJ650 => ?_)
    · exact b_L_law_650 h hm hG hS hX htb Ls xs a1 v14_97 x17_171 t0_189 t0_542 t0_580 r84 hxs J658 hJ658 J657 hJ657
    refine r_if_ne (tgt := 637) dL_law_629 (by decide) ?_ ?_
    · refine r_iload (x := t0_580) dL_law_637 rfl ?_
      refine r_if_eq (tgt := 648) dL_law_639 (by decide) ?_ ?_
      · refine r_bipush (v := (-13)) dL_law_648 rfl ?_
        refine r_lo [0, 1, 2, 3, 4, 5, 6, 7, 8, 9, 10, 11, 12, 13, 14, 15, 20, 21] (lo2 := [(0, .ref sb), (1, .ref a1), (2, .ref (ma 0)), (3, .ref (ma 1)), (4, .ref (ma 2)), (5, .ref (ma 3)), (6, .ref (ma 4)), (7, .ref (ma 5)), (8, .ref (ma 6)), (9, .ref (ma 7)), (10, .ref (ma 8)), (11, .ref (ma 9)), (12, .ref (ma 10)), (14, wi v14_97), (17, wi x17_171), (18, wi t0_189), (31, vl t0_542), (33, wi t0_580)]) rfl ?_
        exact hJ650 (-13) E_607 C85 q_607
      · refine r_aload_n (x := ma 0) dL_law_642 rfl rfl ?_
        refine ro_iconst (v := 0) dL_law_643 rfl ?_
        refine r_wiald3 h (by decide) (by decide) (hm 0 (by decide)) dL_law_644 ?_
        refine r_goto (tgt := 650) dL_law_645 (by decide) ?_
        refine r_lo [0, 1, 2, 3, 4, 5, 6, 7, 8, 9, 10, 11, 12, 13, 14, 15, 20, 21] (lo2 := [(0, .ref sb), (1, .ref a1), (2, .ref (ma 0)), (3, .ref (ma 1)), (4, .ref (ma 2)), (5, .ref (ma 3)), (6, .ref (ma 4)), (7, .ref (ma 5)), (8, .ref (ma 6)), (9, .ref (ma 7)), (10, .ref (ma 8)), (11, .ref (ma 9)), (12, .ref (ma 10)), (14, wi v14_97), (17, wi x17_171), (18, wi t0_189), (31, vl t0_542), (33, wi t0_580)]) rfl ?_
        exact hJ650 (E_607 0 (ix 0)) E_607 C85 q_607
    · refine r_bipush (v := (-11)) dL_law_632 rfl ?_
      refine r_goto (tgt := 650) dL_law_634 (by decide) ?_
      refine r_lo [0, 1, 2, 3, 4, 5, 6, 7, 8, 9, 10, 11, 12, 13, 14, 15, 20, 21] (lo2 := [(0, .ref sb), (1, .ref a1), (2, .ref (ma 0)), (3, .ref (ma 1)), (4, .ref (ma 2)), (5, .ref (ma 3)), (6, .ref (ma 4)), (7, .ref (ma 5)), (8, .ref (ma 6)), (9, .ref (ma 7)), (10, .ref (ma 8)), (11, .ref (ma 9)), (12, .ref (ma 10)), (14, wi v14_97), (17, wi x17_171), (18, wi t0_189), (31, vl t0_542), (33, wi t0_580)]) rfl ?_
      exact hJ650 (-11) E_607 C85 q_607
set_option maxHeartbeats 8000000 in
set_option maxRecDepth 100000 in
theorem b_L_law_580 {l : Launch} {Γ : Cx} {ma : Nat → Nat} (h : wOn Γ) (hm : ∀ k, k ≤ 10 → ma k ≠ 0) (hG : GK Γ l) {sT : Nat → Nat} (hS : STs Γ sT) (hX : XN Γ) {T : List ExceptionTableEntry} (htb : T = []) {sb : Nat} (Ls : Nat) (xs : Nat → Int32) (a1 : Nat) (v13_97 : Int) (v14_97 : Int) (x17_171 : Int) (t0_189 : Int) (t0_420 : Int) (x25_430 : Int) (t0_450 : Int) (t0_475 : Int) (t0_508 : Int) (t0_542 : Int) (hxs : XScr Γ sb Ls xs) (J1788 : Int → Rw → Cd → (Nat → Nat) → Option (Int × S3)) (hJ1788 : ∀ (v13_1788 : Int) (E_1788 : Rw) (C_1788 : Cd) (q_1788 : (Nat → Nat)), RunO l Γ (kL T) 16 encI (em3 ma) 1788 [(0, .ref sb), (1, .ref a1), (2, .ref (ma 0)), (3, .ref (ma 1)), (4, .ref (ma 2)), (5, .ref (ma 3)), (6, .ref (ma 4)), (7, .ref (ma 5)), (8, .ref (ma 6)), (9, .ref (ma 7)), (10, .ref (ma 8)), (11, .ref (ma 9)), (12, .ref (ma 10)), (13, wi v13_1788), (14, wi v14_97), (17, wi x17_171)] [] (E_1788, C_1788, q_1788) (J1788 v13_1788 E_1788 C_1788 q_1788)) : ∀ (t0_580 : Int) (E_580 : Rw) (C_580 : Cd) (q_580 : (Nat → Nat)), RunO l Γ (kL T) 16 encI (em3 ma) 580 [(0, .ref sb), (1, .ref a1), (2, .ref (ma 0)), (3, .ref (ma 1)), (4, .ref (ma 2)), (5, .ref (ma 3)), (6, .ref (ma 4)), (7, .ref (ma 5)), (8, .ref (ma 6)), (9, .ref (ma 7)), (10, .ref (ma 8)), (11, .ref (ma 9)), (12, .ref (ma 10)), (13, wi v13_97), (14, wi v14_97), (17, wi x17_171), (18, wi t0_189), (24, wi t0_420), (25, wi x25_430), (26, vl t0_450), (28, wi t0_475), (29, vl t0_508), (31, vl t0_542)] [wi t0_580] (E_580, C_580, q_580) (fW_law_580 a1 v13_97 t0_189 J1788 t0_420 x25_430 t0_450 t0_475 t0_508 t0_542 t0_580 E_580 C_580 q_580) := by
  intro t0_580 E_580 C_580 q_580
  unfold fW_law_580
  refine r_istore (lo2 := [(33, wi t0_580), (0, .ref sb), (1, .ref a1), (2, .ref (ma 0)), (3, .ref (ma 1)), (4, .ref (ma 2)), (5, .ref (ma 3)), (6, .ref (ma 4)), (7, .ref (ma 5)), (8, .ref (ma 6)), (9, .ref (ma 7)), (10, .ref (ma 8)), (11, .ref (ma 9)), (12, .ref (ma 10)), (13, wi v13_97), (14, wi v14_97), (17, wi x17_171), (18, wi t0_189), (24, wi t0_420), (25, wi x25_430), (26, vl t0_450), (28, wi t0_475), (29, vl t0_508), (31, vl t0_542)]) dL_law_580 (show 33 < 35 by decide) rfl ?_
  refine r_iload (x := t0_475) dL_law_582 rfl ?_
  refine r_join (P := fun (J : Int → Rw → Cd → (Nat → Nat) → Option (Int × S3)) => ∀ (v13_693 : Int) (E_693 : Rw) (C_693 : Cd) (q_693 : (Nat → Nat)), RunO l Γ (kL T) 16 encI (em3 ma) 693 [(0, .ref sb), (1, .ref a1), (2, .ref (ma 0)), (3, .ref (ma 1)), (4, .ref (ma 2)), (5, .ref (ma 3)), (6, .ref (ma 4)), (7, .ref (ma 5)), (8, .ref (ma 6)), (9, .ref (ma 7)), (10, .ref (ma 8)), (11, .ref (ma 9)), (12, .ref (ma 10)), (13, wi v13_693), (14, wi v14_97), (17, wi x17_171)] [] (E_693, C_693, q_693) (J v13_693 E_693 C_693 q_693)) ?_ (fun J693 hJ693 => ?_)
  · exact b_L_law_693 h hm hG hS hX htb Ls xs a1 v14_97 x17_171 hxs J1788 hJ1788
  refine r_join (P := fun (J : Rw → Cd → (Nat → Nat) → Option (Int × S3)) => ∀ (E_607 : Rw) (C_607 : Cd) (q_607 : (Nat → Nat)), RunO l Γ (kL T) 16 encI (em3 ma) 607 [(0, .ref sb), (1, .ref a1), (2, .ref (ma 0)), (3, .ref (ma 1)), (4, .ref (ma 2)), (5, .ref (ma 3)), (6, .ref (ma 4)), (7, .ref (ma 5)), (8, .ref (ma 6)), (9, .ref (ma 7)), (10, .ref (ma 8)), (11, .ref (ma 9)), (12, .ref (ma 10)), (14, wi v14_97), (17, wi x17_171), (18, wi t0_189), (24, wi t0_420), (25, wi x25_430), (26, vl t0_450), (28, wi t0_475), (31, vl t0_542), (33, wi t0_580)] [] (E_607, C_607, q_607) (J E_607 C_607 q_607)) ?_ (fun J607 hJ607 => ?_)
  · exact b_L_law_607 h hm hG hS hX htb Ls xs a1 v14_97 x17_171 t0_189 t0_420 x25_430 t0_450 t0_475 t0_542 t0_580 hxs J693 hJ693
  refine r_if_eq (tgt := 607) dL_law_584 (by decide) ?_ ?_
  · refine r_lo [1, 2, 3, 4, 5, 6, 7, 8, 9, 10, 11, 12, 13, 15, 16, 17, 18, 19, 20, 21, 23, 0] (lo2 := [(0, .ref sb), (1, .ref a1), (2, .ref (ma 0)), (3, .ref (ma 1)), (4, .ref (ma 2)), (5, .ref (ma 3)), (6, .ref (ma 4)), (7, .ref (ma 5)), (8, .ref (ma 6)), (9, .ref (ma 7)), (10, .ref (ma 8)), (11, .ref (ma 9)), (12, .ref (ma 10)), (14, wi v14_97), (17, wi x17_171), (18, wi t0_189), (24, wi t0_420), (25, wi x25_430), (26, vl t0_450), (28, wi t0_475), (31, vl t0_542), (33, wi t0_580)]) rfl ?_
    exact hJ607 E_580 C_580 q_580
  · refine r_lload (x := t0_508) dL_law_587 rfl ?_
    refine r_csi (J := fun (_ : Unit) => (E_580, C_580, q_580)) (k2 := k_L_macros) (n := 1) (rest := []) (fun _ => rfl) htb kv_L_macros (c_L_macros (σ0 := _) t0_508) (by decide) um_L_7 rfl (Nat.le_of_ble_eq_true rfl) dL_law_589 rfl (fun r86 _ => ?_)
    show RunO l Γ (kL T) 16 encI (em3 ma) 592 [(33, wi t0_580), (0, .ref sb), (1, .ref a1), (2, .ref (ma 0)), (3, .ref (ma 1)), (4, .ref (ma 2)), (5, .ref (ma 3)), (6, .ref (ma 4)), (7, .ref (ma 5)), (8, .ref (ma 6)), (9, .ref (ma 7)), (10, .ref (ma 8)), (11, .ref (ma 9)), (12, .ref (ma 10)), (13, wi v13_97), (14, wi v14_97), (17, wi x17_171), (18, wi t0_189), (24, wi t0_420), (25, wi x25_430), (26, vl t0_450), (28, wi t0_475), (29, vl t0_508), (31, vl t0_542)] [wi r86] (E_580, C_580, q_580) _
    refine r_bipush (v := 6) dL_law_592 rfl ?_
    refine r_icmp_ge (tgt := 693) dL_law_594 (by decide) ?_ ?_
    · refine r_lo [1, 2, 3, 4, 5, 6, 7, 8, 9, 10, 11, 12, 13, 14, 15, 16] (lo2 := [(0, .ref sb), (1, .ref a1), (2, .ref (ma 0)), (3, .ref (ma 1)), (4, .ref (ma 2)), (5, .ref (ma 3)), (6, .ref (ma 4)), (7, .ref (ma 5)), (8, .ref (ma 6)), (9, .ref (ma 7)), (10, .ref (ma 8)), (11, .ref (ma 9)), (12, .ref (ma 10)), (13, wi v13_97), (14, wi v14_97), (17, wi x17_171)]) rfl ?_
      exact hJ693 v13_97 E_580 C_580 q_580
    · refine r_lload (x := t0_542) dL_law_597 rfl ?_
      refine r_csi (J := fun (_ : Unit) => (E_580, C_580, q_580)) (k2 := k_L_macros) (n := 1) (rest := []) (fun _ => rfl) htb kv_L_macros (c_L_macros (σ0 := _) t0_542) (by decide) um_L_7 rfl (Nat.le_of_ble_eq_true rfl) dL_law_599 rfl (fun r87 _ => ?_)
      show RunO l Γ (kL T) 16 encI (em3 ma) 602 [(33, wi t0_580), (0, .ref sb), (1, .ref a1), (2, .ref (ma 0)), (3, .ref (ma 1)), (4, .ref (ma 2)), (5, .ref (ma 3)), (6, .ref (ma 4)), (7, .ref (ma 5)), (8, .ref (ma 6)), (9, .ref (ma 7)), (10, .ref (ma 8)), (11, .ref (ma 9)), (12, .ref (ma 10)), (13, wi v13_97), (14, wi v14_97), (17, wi x17_171), (18, wi t0_189), (24, wi t0_420), (25, wi x25_430), (26, vl t0_450), (28, wi t0_475), (29, vl t0_508), (31, vl t0_542)] [wi r87] (E_580, C_580, q_580) _
      refine r_bipush (v := 6) dL_law_602 rfl ?_
      refine r_icmp_ge (tgt := 693) dL_law_604 (by decide) ?_ ?_
      · refine r_lo [1, 2, 3, 4, 5, 6, 7, 8, 9, 10, 11, 12, 13, 14, 15, 16] (lo2 := [(0, .ref sb), (1, .ref a1), (2, .ref (ma 0)), (3, .ref (ma 1)), (4, .ref (ma 2)), (5, .ref (ma 3)), (6, .ref (ma 4)), (7, .ref (ma 5)), (8, .ref (ma 6)), (9, .ref (ma 7)), (10, .ref (ma 8)), (11, .ref (ma 9)), (12, .ref (ma 10)), (13, wi v13_97), (14, wi v14_97), (17, wi x17_171)]) rfl ?_
        exact hJ693 v13_97 E_580 C_580 q_580
      · refine r_lo [1, 2, 3, 4, 5, 6, 7, 8, 9, 10, 11, 12, 13, 15, 16, 17, 18, 19, 20, 21, 23, 0] (lo2 := [(0, .ref sb), (1, .ref a1), (2, .ref (ma 0)), (3, .ref (ma 1)), (4, .ref (ma 2)), (5, .ref (ma 3)), (6, .ref (ma 4)), (7, .ref (ma 5)), (8, .ref (ma 6)), (9, .ref (ma 7)), (10, .ref (ma 8)), (11, .ref (ma 9)), (12, .ref (ma 10)), (14, wi v14_97), (17, wi x17_171), (18, wi t0_189), (24, wi t0_420), (25, wi x25_430), (26, vl t0_450), (28, wi t0_475), (31, vl t0_542), (33, wi t0_580)]) rfl ?_
        exact hJ607 E_580 C_580 q_580
set_option maxHeartbeats 8000000 in
set_option maxRecDepth 100000 in
theorem b_L_law_579 {l : Launch} {Γ : Cx} {ma : Nat → Nat} (h : wOn Γ) (hm : ∀ k, k ≤ 10 → ma k ≠ 0) (hG : GK Γ l) {sT : Nat → Nat} (hS : STs Γ sT) (hX : XN Γ) {T : List ExceptionTableEntry} (htb : T = []) {sb : Nat} (Ls : Nat) (xs : Nat → Int32) (a1 : Nat) (v13_97 : Int) (v14_97 : Int) (x17_171 : Int) (t0_189 : Int) (t0_420 : Int) (x25_430 : Int) (t0_450 : Int) (t0_475 : Int) (t0_508 : Int) (t0_542 : Int) (hxs : XScr Γ sb Ls xs) (J580 : Int → Rw → Cd → (Nat → Nat) → Option (Int × S3)) (hJ580 : ∀ (t0_580 : Int) (E_580 : Rw) (C_580 : Cd) (q_580 : (Nat → Nat)), RunO l Γ (kL T) 16 encI (em3 ma) 580 [(0, .ref sb), (1, .ref a1), (2, .ref (ma 0)), (3, .ref (ma 1)), (4, .ref (ma 2)), (5, .ref (ma 3)), (6, .ref (ma 4)), (7, .ref (ma 5)), (8, .ref (ma 6)), (9, .ref (ma 7)), (10, .ref (ma 8)), (11, .ref (ma 9)), (12, .ref (ma 10)), (13, wi v13_97), (14, wi v14_97), (17, wi x17_171), (18, wi t0_189), (24, wi t0_420), (25, wi x25_430), (26, vl t0_450), (28, wi t0_475), (29, vl t0_508), (31, vl t0_542)] [wi t0_580] (E_580, C_580, q_580) (J580 t0_580 E_580 C_580 q_580)) : ∀ (E_579 : Rw) (C_579 : Cd) (q_579 : (Nat → Nat)), RunO l Γ (kL T) 16 encI (em3 ma) 579 [(0, .ref sb), (1, .ref a1), (2, .ref (ma 0)), (3, .ref (ma 1)), (4, .ref (ma 2)), (5, .ref (ma 3)), (6, .ref (ma 4)), (7, .ref (ma 5)), (8, .ref (ma 6)), (9, .ref (ma 7)), (10, .ref (ma 8)), (11, .ref (ma 9)), (12, .ref (ma 10)), (13, wi v13_97), (14, wi v14_97), (17, wi x17_171), (18, wi t0_189), (24, wi t0_420), (25, wi x25_430), (26, vl t0_450), (28, wi t0_475), (29, vl t0_508), (31, vl t0_542)] [] (E_579, C_579, q_579) (fW_law_579 J580 E_579 C_579 q_579) := by
  intro E_579 C_579 q_579
  unfold fW_law_579
  refine ro_iconst (v := 0) dL_law_579 rfl ?_
  exact hJ580 0 E_579 C_579 q_579
