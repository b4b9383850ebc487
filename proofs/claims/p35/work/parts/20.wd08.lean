set_option maxHeartbeats 8000000 in
set_option maxRecDepth 100000 in
theorem b_L_law_1552 {l : Launch} {Γ : Cx} {ma : Nat → Nat} (h : wOn Γ) (hm : ∀ k, k ≤ 10 → ma k ≠ 0) (hG : GK Γ l) {sT : Nat → Nat} (hS : STs Γ sT) (hX : XN Γ) {T : List ExceptionTableEntry} (htb : T = []) {sb : Nat} (Ls : Nat) (xs : Nat → Int32) (a1 : Nat) (v14_97 : Int) (x17_171 : Int) (r25 : Int) (hxs : XScr Γ sb Ls xs) (J1788 : Int → Rw → Cd → (Nat → Nat) → Option (Int × S3)) (hJ1788 : ∀ (v13_1788 : Int) (E_1788 : Rw) (C_1788 : Cd) (q_1788 : (Nat → Nat)), RunO l Γ (kL T) 16 encI (em3 ma) 1788 [(0, .ref sb), (1, .ref a1), (2, .ref (ma 0)), (3, .ref (ma 1)), (4, .ref (ma 2)), (5, .ref (ma 3)), (6, .ref (ma 4)), (7, .ref (ma 5)), (8, .ref (ma 6)), (9, .ref (ma 7)), (10, .ref (ma 8)), (11, .ref (ma 9)), (12, .ref (ma 10)), (13, wi v13_1788), (14, wi v14_97), (17, wi x17_171)] [] (E_1788, C_1788, q_1788) (J1788 v13_1788 E_1788 C_1788 q_1788)) : ∀ (t0_1552 : Int) (E_1552 : Rw) (C_1552 : Cd) (q_1552 : (Nat → Nat)), RunO l Γ (kL T) 16 encI (em3 ma) 1552 [(0, .ref sb), (1, .ref a1), (2, .ref (ma 0)), (3, .ref (ma 1)), (4, .ref (ma 2)), (5, .ref (ma 3)), (6, .ref (ma 4)), (7, .ref (ma 5)), (8, .ref (ma 6)), (9, .ref (ma 7)), (10, .ref (ma 8)), (11, .ref (ma 9)), (12, .ref (ma 10)), (14, wi v14_97), (17, wi x17_171)] [wi t0_1552, wi r25] (E_1552, C_1552, q_1552) (fW_law_1552 J1788 r25 t0_1552 E_1552 C_1552 q_1552) := by
  intro t0_1552 E_1552 C_1552 q_1552
  unfold fW_law_1552
  refine r_join (P := fun (J : Int → Rw → Cd → (Nat → Nat) → Option (Int × S3)) => ∀ (t0_1560 : Int) (E_1560 : Rw) (C_1560 : Cd) (q_1560 : (Nat → Nat)), RunO l Γ (kL T) 16 encI (em3 ma) 1560 [(0, .ref sb), (1, .ref a1), (2, .ref (ma 0)), (3, .ref (ma 1)), (4, .ref (ma 2)), (5, .ref (ma 3)), (6, .ref (ma 4)), (7, .ref (ma 5)), (8, .ref (ma 6)), (9, .ref (ma 7)), (10, .ref (ma 8)), (11, .ref (ma 9)), (12, .ref (ma 10)), (14, wi v14_97), (17, wi x17_171)] [wi t0_1560] (E_1560, C_1560, q_1560) (J t0_1560 E_1560 C_1560 q_1560)) ?_ (fun J1560 hJ1560 => ?_)
  · exact b_L_law_1560 h hm hG hS hX htb Ls xs a1 v14_97 x17_171 hxs J1788 hJ1788
  refine r_icmp_ne (tgt := 1559) dL_law_1552 (by decide) ?_ ?_
  · refine ro_iconst (v := 0) dL_law_1559 rfl ?_
    exact hJ1560 0 E_1552 C_1552 q_1552
  · refine ro_iconst (v := 1) dL_law_1555 rfl ?_
    refine r_goto (tgt := 1560) dL_law_1556 (by decide) ?_
    exact hJ1560 1 E_1552 C_1552 q_1552
set_option maxHeartbeats 8000000 in
set_option maxRecDepth 100000 in
theorem b_L_law_1528 {l : Launch} {Γ : Cx} {ma : Nat → Nat} (h : wOn Γ) (hm : ∀ k, k ≤ 10 → ma k ≠ 0) (hG : GK Γ l) {sT : Nat → Nat} (hS : STs Γ sT) (hX : XN Γ) {T : List ExceptionTableEntry} (htb : T = []) {sb : Nat} (Ls : Nat) (xs : Nat → Int32) (a1 : Nat) (v14_97 : Int) (x17_171 : Int) (t0_189 : Int) (t0_203 : Int) (hxs : XScr Γ sb Ls xs) (J1788 : Int → Rw → Cd → (Nat → Nat) → Option (Int × S3)) (hJ1788 : ∀ (v13_1788 : Int) (E_1788 : Rw) (C_1788 : Cd) (q_1788 : (Nat → Nat)), RunO l Γ (kL T) 16 encI (em3 ma) 1788 [(0, .ref sb), (1, .ref a1), (2, .ref (ma 0)), (3, .ref (ma 1)), (4, .ref (ma 2)), (5, .ref (ma 3)), (6, .ref (ma 4)), (7, .ref (ma 5)), (8, .ref (ma 6)), (9, .ref (ma 7)), (10, .ref (ma 8)), (11, .ref (ma 9)), (12, .ref (ma 10)), (13, wi v13_1788), (14, wi v14_97), (17, wi x17_171)] [] (E_1788, C_1788, q_1788) (J1788 v13_1788 E_1788 C_1788 q_1788)) : ∀ (t0_1528 : Int) (E_1528 : Rw) (C_1528 : Cd) (q_1528 : (Nat → Nat)), RunO l Γ (kL T) 16 encI (em3 ma) 1528 [(0, .ref sb), (1, .ref a1), (2, .ref (ma 0)), (3, .ref (ma 1)), (4, .ref (ma 2)), (5, .ref (ma 3)), (6, .ref (ma 4)), (7, .ref (ma 5)), (8, .ref (ma 6)), (9, .ref (ma 7)), (10, .ref (ma 8)), (11, .ref (ma 9)), (12, .ref (ma 10)), (14, wi v14_97), (17, wi x17_171), (18, wi t0_189), (19, wi t0_203)] [wi t0_1528, wi t0_189, wi 7, .ref a1] (E_1528, C_1528, q_1528) (fW_law_1528 a1 t0_189 t0_203 J1788 t0_1528 E_1528 C_1528 q_1528) := by
  intro t0_1528 E_1528 C_1528 q_1528
  unfold fW_law_1528
  refine ro_iconst (v := 0) dL_law_1528 rfl ?_
  refine r_csHi (J := fun (C_ : Cd) => (E_1528, C_, q_1528)) (k2 := k_L_does) (n := 5) (rest := []) (fun _ => rfl) kv_L_does (c_L_does (M0 := (fun k => (adq ma q_1528 k : Int), E_1528)) hG hX a1 7 t0_189 t0_1528 0 _) (by decide) um_L_132 rfl (Nat.le_of_ble_eq_true rfl) dL_law_1529 rfl (fun r25 C26 => ?_)
  show RunO l Γ (kL T) 16 encI (em3 ma) 1532 [(0, .ref sb), (1, .ref a1), (2, .ref (ma 0)), (3, .ref (ma 1)), (4, .ref (ma 2)), (5, .ref (ma 3)), (6, .ref (ma 4)), (7, .ref (ma 5)), (8, .ref (ma 6)), (9, .ref (ma 7)), (10, .ref (ma 8)), (11, .ref (ma 9)), (12, .ref (ma 10)), (14, wi v14_97), (17, wi x17_171), (18, wi t0_189), (19, wi t0_203)] [wi r25] (E_1528, C26, q_1528) _
  refine r_iload (x := t0_203) dL_law_1532 rfl ?_
  refine r_join (P := fun (J : Int → Rw → Cd → (Nat → Nat) → Option (Int × S3)) => ∀ (t0_1552 : Int) (E_1552 : Rw) (C_1552 : Cd) (q_1552 : (Nat → Nat)), RunO l Γ (kL T) 16 encI (em3 ma) 1552 [(0, .ref sb), (1, .ref a1), (2, .ref (ma 0)), (3, .ref (ma 1)), (4, .ref (ma 2)), (5, .ref (ma 3)), (6, .ref (ma 4)), (7, .ref (ma 5)), (8, .ref (ma 6)), (9, .ref (ma 7)), (10, .ref (ma 8)), (11, .ref (ma 9)), (12, .ref (ma 10)), (14, wi v14_97), (17, wi x17_171)] [wi t0_1552, wi r25] (E_1552, C_1552, q_1552) (J t0_1552 E_1552 C_1552 q_1552)) ?_ (fun J1552 hJ1552 => ?_)
  · exact b_L_law_1552 h hm hG hS hX htb Ls xs a1 v14_97 x17_171 r25 hxs J1788 hJ1788
  refine r_if_eq (tgt := 1550) dL_law_1534 (by decide) ?_ ?_
  · refine r_bipush (v := (-11)) dL_law_1550 rfl ?_
    refine r_lo [0, 1, 2, 3, 4, 5, 6, 7, 8, 9, 10, 11, 12, 13, 14] (lo2 := [(0, .ref sb), (1, .ref a1), (2, .ref (ma 0)), (3, .ref (ma 1)), (4, .ref (ma 2)), (5, .ref (ma 3)), (6, .ref (ma 4)), (7, .ref (ma 5)), (8, .ref (ma 6)), (9, .ref (ma 7)), (10, .ref (ma 8)), (11, .ref (ma 9)), (12, .ref (ma 10)), (14, wi v14_97), (17, wi x17_171)]) rfl ?_
    exact hJ1552 (-11) E_1528 C26 q_1528
  · refine r_aload (x := ma 6) dL_law_1537 rfl ?_
    refine r_bipush (v := 7) dL_law_1539 rfl ?_
    refine r_iload (x := t0_189) dL_law_1541 rfl ?_
    refine r_imul dL_law_1543 ?_
    refine ro_iconst (v := 1) dL_law_1544 rfl ?_
    refine r_iadd dL_law_1545 ?_
    refine r_wiald3 h (by decide) (by decide) (hm 6 (by decide)) dL_law_1546 ?_
    refine r_goto (tgt := 1552) dL_law_1547 (by decide) ?_
    refine r_lo [0, 1, 2, 3, 4, 5, 6, 7, 8, 9, 10, 11, 12, 13, 14] (lo2 := [(0, .ref sb), (1, .ref a1), (2, .ref (ma 0)), (3, .ref (ma 1)), (4, .ref (ma 2)), (5, .ref (ma 3)), (6, .ref (ma 4)), (7, .ref (ma 5)), (8, .ref (ma 6)), (9, .ref (ma 7)), (10, .ref (ma 8)), (11, .ref (ma 9)), (12, .ref (ma 10)), (14, wi v14_97), (17, wi x17_171)]) rfl ?_
    exact hJ1552 (E_1528 6 (ix ((7 * t0_189) + 1))) E_1528 C26 q_1528
set_option maxHeartbeats 8000000 in
set_option maxRecDepth 100000 in
theorem b_L_law_1513 {l : Launch} {Γ : Cx} {ma : Nat → Nat} (h : wOn Γ) (hm : ∀ k, k ≤ 10 → ma k ≠ 0) (hG : GK Γ l) {sT : Nat → Nat} (hS : STs Γ sT) (hX : XN Γ) {T : List ExceptionTableEntry} (htb : T = []) {sb : Nat} (Ls : Nat) (xs : Nat → Int32) (a1 : Nat) (v14_97 : Int) (x17_171 : Int) (t0_189 : Int) (t0_203 : Int) (t0_1456 : Int) (hxs : XScr Γ sb Ls xs) (J1788 : Int → Rw → Cd → (Nat → Nat) → Option (Int × S3)) (hJ1788 : ∀ (v13_1788 : Int) (E_1788 : Rw) (C_1788 : Cd) (q_1788 : (Nat → Nat)), RunO l Γ (kL T) 16 encI (em3 ma) 1788 [(0, .ref sb), (1, .ref a1), (2, .ref (ma 0)), (3, .ref (ma 1)), (4, .ref (ma 2)), (5, .ref (ma 3)), (6, .ref (ma 4)), (7, .ref (ma 5)), (8, .ref (ma 6)), (9, .ref (ma 7)), (10, .ref (ma 8)), (11, .ref (ma 9)), (12, .ref (ma 10)), (13, wi v13_1788), (14, wi v14_97), (17, wi x17_171)] [] (E_1788, C_1788, q_1788) (J1788 v13_1788 E_1788 C_1788 q_1788)) : ∀ (E_1513 : Rw) (C_1513 : Cd) (q_1513 : (Nat → Nat)), RunO l Γ (kL T) 16 encI (em3 ma) 1513 [(0, .ref sb), (1, .ref a1), (2, .ref (ma 0)), (3, .ref (ma 1)), (4, .ref (ma 2)), (5, .ref (ma 3)), (6, .ref (ma 4)), (7, .ref (ma 5)), (8, .ref (ma 6)), (9, .ref (ma 7)), (10, .ref (ma 8)), (11, .ref (ma 9)), (12, .ref (ma 10)), (14, wi v14_97), (17, wi x17_171), (18, wi t0_189), (19, wi t0_203), (24, wi t0_1456)] [] (E_1513, C_1513, q_1513) (fW_law_1513 a1 t0_189 t0_203 J1788 t0_1456 E_1513 C_1513 q_1513) := by
  intro E_1513 C_1513 q_1513
  unfold fW_law_1513
  refine r_aload_n (x := a1) dL_law_1513 rfl rfl ?_
  refine r_bipush (v := 7) dL_law_1514 rfl ?_
  refine r_iload (x := t0_189) dL_law_1516 rfl ?_
  refine r_iload (x := t0_1456) dL_law_1518 rfl ?_
  refine r_join (P := fun (J : Int → Rw → Cd → (Nat → Nat) → Option (Int × S3)) => ∀ (t0_1528 : Int) (E_1528 : Rw) (C_1528 : Cd) (q_1528 : (Nat → Nat)), RunO l Γ (kL T) 16 encI (em3 ma) 1528 [(0, .ref sb), (1, .ref a1), (2, .ref (ma 0)), (3, .ref (ma 1)), (4, .ref (ma 2)), (5, .ref (ma 3)), (6, .ref (ma 4)), (7, .ref (ma 5)), (8, .ref (ma 6)), (9, .ref (ma 7)), (10, .ref (ma 8)), (11, .ref (ma 9)), (12, .ref (ma 10)), (14, wi v14_97), (17, wi x17_171), (18, wi t0_189), (19, wi t0_203)] [wi t0_1528, wi t0_189, wi 7, .ref a1] (E_1528, C_1528, q_1528) (J t0_1528 E_1528 C_1528 q_1528)) ?_ (fun J1528 hJ1528 => ?_)
  · exact b_L_law_1528 h hm hG hS hX htb Ls xs a1 v14_97 x17_171 t0_189 t0_203 hxs J1788 hJ1788
  refine r_if_eq (tgt := 1527) dL_law_1520 (by decide) ?_ ?_
  · refine ro_iconst (v := 0) dL_law_1527 rfl ?_
    refine r_lo [0, 1, 2, 3, 4, 5, 6, 7, 8, 9, 10, 11, 12, 13, 14, 15, 16] (lo2 := [(0, .ref sb), (1, .ref a1), (2, .ref (ma 0)), (3, .ref (ma 1)), (4, .ref (ma 2)), (5, .ref (ma 3)), (6, .ref (ma 4)), (7, .ref (ma 5)), (8, .ref (ma 6)), (9, .ref (ma 7)), (10, .ref (ma 8)), (11, .ref (ma 9)), (12, .ref (ma 10)), (14, wi v14_97), (17, wi x17_171), (18, wi t0_189), (19, wi t0_203)]) rfl ?_
    exact hJ1528 0 E_1513 C_1513 q_1513
  · refine ro_iconst (v := 1) dL_law_1523 rfl ?_
    refine r_goto (tgt := 1528) dL_law_1524 (by decide) ?_
    refine r_lo [0, 1, 2, 3, 4, 5, 6, 7, 8, 9, 10, 11, 12, 13, 14, 15, 16] (lo2 := [(0, .ref sb), (1, .ref a1), (2, .ref (ma 0)), (3, .ref (ma 1)), (4, .ref (ma 2)), (5, .ref (ma 3)), (6, .ref (ma 4)), (7, .ref (ma 5)), (8, .ref (ma 6)), (9, .ref (ma 7)), (10, .ref (ma 8)), (11, .ref (ma 9)), (12, .ref (ma 10)), (14, wi v14_97), (17, wi x17_171), (18, wi t0_189), (19, wi t0_203)]) rfl ?_
    exact hJ1528 1 E_1513 C_1513 q_1513
set_option maxHeartbeats 8000000 in
set_option maxRecDepth 100000 in
theorem b_L_law_1494 {l : Launch} {Γ : Cx} {ma : Nat → Nat} (h : wOn Γ) (hm : ∀ k, k ≤ 10 → ma k ≠ 0) (hG : GK Γ l) {sT : Nat → Nat} (hS : STs Γ sT) (hX : XN Γ) {T : List ExceptionTableEntry} (htb : T = []) {sb : Nat} (Ls : Nat) (xs : Nat → Int32) (a1 : Nat) (v14_97 : Int) (x17_171 : Int) (t0_189 : Int) (t0_203 : Int) (t0_1456 : Int) (hxs : XScr Γ sb Ls xs) (J1513 : Rw → Cd → (Nat → Nat) → Option (Int × S3)) (hJ1513 : ∀ (E_1513 : Rw) (C_1513 : Cd) (q_1513 : (Nat → Nat)), RunO l Γ (kL T) 16 encI (em3 ma) 1513 [(0, .ref sb), (1, .ref a1), (2, .ref (ma 0)), (3, .ref (ma 1)), (4, .ref (ma 2)), (5, .ref (ma 3)), (6, .ref (ma 4)), (7, .ref (ma 5)), (8, .ref (ma 6)), (9, .ref (ma 7)), (10, .ref (ma 8)), (11, .ref (ma 9)), (12, .ref (ma 10)), (14, wi v14_97), (17, wi x17_171), (18, wi t0_189), (19, wi t0_203), (24, wi t0_1456)] [] (E_1513, C_1513, q_1513) (J1513 E_1513 C_1513 q_1513)) : ∀ (E_1494 : Rw) (C_1494 : Cd) (q_1494 : (Nat → Nat)), RunO l Γ (kL T) 16 encI (em3 ma) 1494 [(0, .ref sb), (1, .ref a1), (2, .ref (ma 0)), (3, .ref (ma 1)), (4, .ref (ma 2)), (5, .ref (ma 3)), (6, .ref (ma 4)), (7, .ref (ma 5)), (8, .ref (ma 6)), (9, .ref (ma 7)), (10, .ref (ma 8)), (11, .ref (ma 9)), (12, .ref (ma 10)), (14, wi v14_97), (17, wi x17_171), (18, wi t0_189), (19, wi t0_203), (24, wi t0_1456)] [] (E_1494, C_1494, q_1494) (fW_law_1494 t0_189 J1513 E_1494 C_1494 q_1494) := by
  intro E_1494 C_1494 q_1494
  unfold fW_law_1494
  refine r_aload_n (x := ma 0) dL_law_1494 rfl rfl ?_
  refine r_aload_n (x := ma 1) dL_law_1495 rfl rfl ?_
  refine r_aload (x := ma 2) dL_law_1496 rfl ?_
  refine r_aload (x := ma 3) dL_law_1498 rfl ?_
  refine r_aload (x := ma 6) dL_law_1500 rfl ?_
  refine r_aload (x := ma 7) dL_law_1502 rfl ?_
  refine r_aload (x := ma 8) dL_law_1504 rfl ?_
  refine r_aload (x := ma 10) dL_law_1506 rfl ?_
  refine r_iload (x := t0_189) dL_law_1508 rfl ?_
  refine r_cs3v (k2 := k_L_rendered) (n := 9) (rest := []) htb kv_L_rendered (c_L_rendered h hm t0_189 _ _ _) (by decide) um_L_221 rfl (Nat.le_of_ble_eq_true rfl) dL_law_1510 rfl (fun r27 E28 C29 q30 => ?_)
  exact hJ1513 E28 C29 q30
set_option maxHeartbeats 8000000 in
set_option maxRecDepth 100000 in
theorem b_L_law_1456 {l : Launch} {Γ : Cx} {ma : Nat → Nat} (h : wOn Γ) (hm : ∀ k, k ≤ 10 → ma k ≠ 0) (hG : GK Γ l) {sT : Nat → Nat} (hS : STs Γ sT) (hX : XN Γ) {T : List ExceptionTableEntry} (htb : T = []) {sb : Nat} (Ls : Nat) (xs : Nat → Int32) (a1 : Nat) (v14_97 : Int) (x17_171 : Int) (t0_189 : Int) (t0_203 : Int) (hxs : XScr Γ sb Ls xs) (J1788 : Int → Rw → Cd → (Nat → Nat) → Option (Int × S3)) (hJ1788 : ∀ (v13_1788 : Int) (E_1788 : Rw) (C_1788 : Cd) (q_1788 : (Nat → Nat)), RunO l Γ (kL T) 16 encI (em3 ma) 1788 [(0, .ref sb), (1, .ref a1), (2, .ref (ma 0)), (3, .ref (ma 1)), (4, .ref (ma 2)), (5, .ref (ma 3)), (6, .ref (ma 4)), (7, .ref (ma 5)), (8, .ref (ma 6)), (9, .ref (ma 7)), (10, .ref (ma 8)), (11, .ref (ma 9)), (12, .ref (ma 10)), (13, wi v13_1788), (14, wi v14_97), (17, wi x17_171)] [] (E_1788, C_1788, q_1788) (J1788 v13_1788 E_1788 C_1788 q_1788)) : ∀ (t0_1456 : Int) (E_1456 : Rw) (C_1456 : Cd) (q_1456 : (Nat → Nat)), RunO l Γ (kL T) 16 encI (em3 ma) 1456 [(0, .ref sb), (1, .ref a1), (2, .ref (ma 0)), (3, .ref (ma 1)), (4, .ref (ma 2)), (5, .ref (ma 3)), (6, .ref (ma 4)), (7, .ref (ma 5)), (8, .ref (ma 6)), (9, .ref (ma 7)), (10, .ref (ma 8)), (11, .ref (ma 9)), (12, .ref (ma 10)), (14, wi v14_97), (17, wi x17_171), (18, wi t0_189), (19, wi t0_203)] [wi t0_1456] (E_1456, C_1456, q_1456) (fW_law_1456 a1 t0_189 t0_203 J1788 t0_1456 E_1456 C_1456 q_1456) := by
  intro t0_1456 E_1456 C_1456 q_1456
  unfold fW_law_1456
  refine r_istore (lo2 := [(24, wi t0_1456), (0, .ref sb), (1, .ref a1), (2, .ref (ma 0)), (3, .ref (ma 1)), (4, .ref (ma 2)), (5, .ref (ma 3)), (6, .ref (ma 4)), (7, .ref (ma 5)), (8, .ref (ma 6)), (9, .ref (ma 7)), (10, .ref (ma 8)), (11, .ref (ma 9)), (12, .ref (ma 10)), (14, wi v14_97), (17, wi x17_171), (18, wi t0_189), (19, wi t0_203)]) dL_law_1456 (show 24 < 35 by decide) rfl ?_
  refine r_iload (x := t0_203) dL_law_1458 rfl ?_
  refine r_join (P := fun (J : Rw → Cd → (Nat → Nat) → Option (Int × S3)) => ∀ (E_1513 : Rw) (C_1513 : Cd) (q_1513 : (Nat → Nat)), RunO l Γ (kL T) 16 encI (em3 ma) 1513 [(0, .ref sb), (1, .ref a1), (2, .ref (ma 0)), (3, .ref (ma 1)), (4, .ref (ma 2)), (5, .ref (ma 3)), (6, .ref (ma 4)), (7, .ref (ma 5)), (8, .ref (ma 6)), (9, .ref (ma 7)), (10, .ref (ma 8)), (11, .ref (ma 9)), (12, .ref (ma 10)), (14, wi v14_97), (17, wi x17_171), (18, wi t0_189), (19, wi t0_203), (24, wi t0_1456)] [] (E_1513, C_1513, q_1513) (J E_1513 C_1513 q_1513)) ?_ (fun J1513 hJ1513 => ?_)
  · exact b_L_law_1513 h hm hG hS hX htb Ls xs a1 v14_97 x17_171 t0_189 t0_203 t0_1456 hxs J1788 hJ1788
  refine r_if_eq (tgt := 1513) dL_law_1460 (by decide) ?_ ?_
  · refine r_lo [1, 2, 3, 4, 5, 6, 7, 8, 9, 10, 11, 12, 13, 14, 15, 16, 17, 0] (lo2 := [(0, .ref sb), (1, .ref a1), (2, .ref (ma 0)), (3, .ref (ma 1)), (4, .ref (ma 2)), (5, .ref (ma 3)), (6, .ref (ma 4)), (7, .ref (ma 5)), (8, .ref (ma 6)), (9, .ref (ma 7)), (10, .ref (ma 8)), (11, .ref (ma 9)), (12, .ref (ma 10)), (14, wi v14_97), (17, wi x17_171), (18, wi t0_189), (19, wi t0_203), (24, wi t0_1456)]) rfl ?_
    exact hJ1513 E_1456 C_1456 q_1456
  · refine r_aload (x := ma 6) dL_law_1463 rfl ?_
    refine r_bipush (v := 7) dL_law_1465 rfl ?_
    refine r_iload (x := t0_189) dL_law_1467 rfl ?_
    refine r_imul dL_law_1469 ?_
    refine r_wiald3 h (by decide) (by decide) (hm 6 (by decide)) dL_law_1470 ?_
    refine r_join (P := fun (J : Rw → Cd → (Nat → Nat) → Option (Int × S3)) => ∀ (E_1494 : Rw) (C_1494 : Cd) (q_1494 : (Nat → Nat)), RunO l Γ (kL T) 16 encI (em3 ma) 1494 [(0, .ref sb), (1, .ref a1), (2, .ref (ma 0)), (3, .ref (ma 1)), (4, .ref (ma 2)), (5, .ref (ma 3)), (6, .ref (ma 4)), (7, .ref (ma 5)), (8, .ref (ma 6)), (9, .ref (ma 7)), (10, .ref (ma 8)), (11, .ref (ma 9)), (12, .ref (ma 10)), (14, wi v14_97), (17, wi x17_171), (18, wi t0_189), (19, wi t0_203), (24, wi t0_1456)] [] (E_1494, C_1494, q_1494) (J E_1494 C_1494 q_1494)) ?_ (fun J1494 hJ1494 => ?_)
    · exact b_L_law_1494 h hm hG hS hX htb Ls xs a1 v14_97 x17_171 t0_189 t0_203 t0_1456 hxs J1513 hJ1513
    refine r_if_eq (tgt := 1494) dL_law_1471 (by decide) ?_ ?_
    · refine r_lo [1, 2, 3, 4, 5, 6, 7, 8, 9, 10, 11, 12, 13, 14, 15, 16, 17, 0] (lo2 := [(0, .ref sb), (1, .ref a1), (2, .ref (ma 0)), (3, .ref (ma 1)), (4, .ref (ma 2)), (5, .ref (ma 3)), (6, .ref (ma 4)), (7, .ref (ma 5)), (8, .ref (ma 6)), (9, .ref (ma 7)), (10, .ref (ma 8)), (11, .ref (ma 9)), (12, .ref (ma 10)), (14, wi v14_97), (17, wi x17_171), (18, wi t0_189), (19, wi t0_203), (24, wi t0_1456)]) rfl ?_
      exact hJ1494 E_1456 C_1456 q_1456
    · refine r_iload (x := t0_1456) dL_law_1474 rfl ?_
      refine r_if_ne (tgt := 1513) dL_law_1476 (by decide) ?_ ?_
      · refine r_lo [1, 2, 3, 4, 5, 6, 7, 8, 9, 10, 11, 12, 13, 14, 15, 16, 17, 0] (lo2 := [(0, .ref sb), (1, .ref a1), (2, .ref (ma 0)), (3, .ref (ma 1)), (4, .ref (ma 2)), (5, .ref (ma 3)), (6, .ref (ma 4)), (7, .ref (ma 5)), (8, .ref (ma 6)), (9, .ref (ma 7)), (10, .ref (ma 8)), (11, .ref (ma 9)), (12, .ref (ma 10)), (14, wi v14_97), (17, wi x17_171), (18, wi t0_189), (19, wi t0_203), (24, wi t0_1456)]) rfl ?_
        exact hJ1513 E_1456 C_1456 q_1456
      · refine r_aload_n (x := ma 1) dL_law_1479 rfl rfl ?_
        refine r_aload (x := ma 4) dL_law_1480 rfl ?_
        refine r_aload (x := ma 6) dL_law_1482 rfl ?_
        refine r_aload (x := ma 8) dL_law_1484 rfl ?_
        refine r_iload (x := t0_189) dL_law_1486 rfl ?_
        refine r_csi (J := fun (E_ : Rw) => (E_, C_1456, q_1456)) (k2 := k_L_isStale) (n := 5) (rest := []) (fun _ => rfl) htb kv_L_isStale (c_L_isStale (ad := adq ma q_1456) (K0 := C_1456) h (adq_hm hm) t0_189 _) (by decide) um_L_55 rfl (Nat.le_of_ble_eq_true rfl) dL_law_1488 rfl (fun r31 E32 => ?_)
        show RunO l Γ (kL T) 16 encI (em3 ma) 1491 [(24, wi t0_1456), (0, .ref sb), (1, .ref a1), (2, .ref (ma 0)), (3, .ref (ma 1)), (4, .ref (ma 2)), (5, .ref (ma 3)), (6, .ref (ma 4)), (7, .ref (ma 5)), (8, .ref (ma 6)), (9, .ref (ma 7)), (10, .ref (ma 8)), (11, .ref (ma 9)), (12, .ref (ma 10)), (14, wi v14_97), (17, wi x17_171), (18, wi t0_189), (19, wi t0_203)] [wi r31] (E32, C_1456, q_1456) _
        refine r_if_eq (tgt := 1513) dL_law_1491 (by decide) ?_ ?_
        · refine r_lo [1, 2, 3, 4, 5, 6, 7, 8, 9, 10, 11, 12, 13, 14, 15, 16, 17, 0] (lo2 := [(0, .ref sb), (1, .ref a1), (2, .ref (ma 0)), (3, .ref (ma 1)), (4, .ref (ma 2)), (5, .ref (ma 3)), (6, .ref (ma 4)), (7, .ref (ma 5)), (8, .ref (ma 6)), (9, .ref (ma 7)), (10, .ref (ma 8)), (11, .ref (ma 9)), (12, .ref (ma 10)), (14, wi v14_97), (17, wi x17_171), (18, wi t0_189), (19, wi t0_203), (24, wi t0_1456)]) rfl ?_
          exact hJ1513 E32 C_1456 q_1456
        · refine r_lo [1, 2, 3, 4, 5, 6, 7, 8, 9, 10, 11, 12, 13, 14, 15, 16, 17, 0] (lo2 := [(0, .ref sb), (1, .ref a1), (2, .ref (ma 0)), (3, .ref (ma 1)), (4, .ref (ma 2)), (5, .ref (ma 3)), (6, .ref (ma 4)), (7, .ref (ma 5)), (8, .ref (ma 6)), (9, .ref (ma 7)), (10, .ref (ma 8)), (11, .ref (ma 9)), (12, .ref (ma 10)), (14, wi v14_97), (17, wi x17_171), (18, wi t0_189), (19, wi t0_203), (24, wi t0_1456)]) rfl ?_
          exact hJ1494 E32 C_1456 q_1456
set_option maxHeartbeats 8000000 in
set_option maxRecDepth 100000 in
theorem b_L_law_1429 {l : Launch} {Γ : Cx} {ma : Nat → Nat} (h : wOn Γ) (hm : ∀ k, k ≤ 10 → ma k ≠ 0) (hG : GK Γ l) {sT : Nat → Nat} (hS : STs Γ sT) (hX : XN Γ) {T : List ExceptionTableEntry} (htb : T = []) {sb : Nat} (Ls : Nat) (xs : Nat → Int32) (a1 : Nat) (v14_97 : Int) (x17_171 : Int) (hxs : XScr Γ sb Ls xs) (J1788 : Int → Rw → Cd → (Nat → Nat) → Option (Int × S3)) (hJ1788 : ∀ (v13_1788 : Int) (E_1788 : Rw) (C_1788 : Cd) (q_1788 : (Nat → Nat)), RunO l Γ (kL T) 16 encI (em3 ma) 1788 [(0, .ref sb), (1, .ref a1), (2, .ref (ma 0)), (3, .ref (ma 1)), (4, .ref (ma 2)), (5, .ref (ma 3)), (6, .ref (ma 4)), (7, .ref (ma 5)), (8, .ref (ma 6)), (9, .ref (ma 7)), (10, .ref (ma 8)), (11, .ref (ma 9)), (12, .ref (ma 10)), (13, wi v13_1788), (14, wi v14_97), (17, wi x17_171)] [] (E_1788, C_1788, q_1788) (J1788 v13_1788 E_1788 C_1788 q_1788)) : ∀ (t0_1429 : Int) (E_1429 : Rw) (C_1429 : Cd) (q_1429 : (Nat → Nat)), RunO l Γ (kL T) 16 encI (em3 ma) 1429 [(0, .ref sb), (1, .ref a1), (2, .ref (ma 0)), (3, .ref (ma 1)), (4, .ref (ma 2)), (5, .ref (ma 3)), (6, .ref (ma 4)), (7, .ref (ma 5)), (8, .ref (ma 6)), (9, .ref (ma 7)), (10, .ref (ma 8)), (11, .ref (ma 9)), (12, .ref (ma 10)), (14, wi v14_97), (17, wi x17_171)] [wi t0_1429] (E_1429, C_1429, q_1429) (fW_law_1429 J1788 t0_1429 E_1429 C_1429 q_1429) := by
  intro t0_1429 E_1429 C_1429 q_1429
  unfold fW_law_1429
  refine r_istore (lo2 := [(13, wi t0_1429), (0, .ref sb), (1, .ref a1), (2, .ref (ma 0)), (3, .ref (ma 1)), (4, .ref (ma 2)), (5, .ref (ma 3)), (6, .ref (ma 4)), (7, .ref (ma 5)), (8, .ref (ma 6)), (9, .ref (ma 7)), (10, .ref (ma 8)), (11, .ref (ma 9)), (12, .ref (ma 10)), (14, wi v14_97), (17, wi x17_171)]) dL_law_1429 (show 13 < 35 by decide) rfl ?_
  refine r_goto (tgt := 1788) dL_law_1431 (by decide) ?_
  refine r_lo [1, 2, 3, 4, 5, 6, 7, 8, 9, 10, 11, 12, 13, 0, 14, 15] (lo2 := [(0, .ref sb), (1, .ref a1), (2, .ref (ma 0)), (3, .ref (ma 1)), (4, .ref (ma 2)), (5, .ref (ma 3)), (6, .ref (ma 4)), (7, .ref (ma 5)), (8, .ref (ma 6)), (9, .ref (ma 7)), (10, .ref (ma 8)), (11, .ref (ma 9)), (12, .ref (ma 10)), (13, wi t0_1429), (14, wi v14_97), (17, wi x17_171)]) rfl ?_
  exact hJ1788 t0_1429 E_1429 C_1429 q_1429
set_option maxHeartbeats 8000000 in
set_option maxRecDepth 100000 in
theorem b_L_law_1413 {l : Launch} {Γ : Cx} {ma : Nat → Nat} (h : wOn Γ) (hm : ∀ k, k ≤ 10 → ma k ≠ 0) (hG : GK Γ l) {sT : Nat → Nat} (hS : STs Γ sT) (hX : XN Γ) {T : List ExceptionTableEntry} (htb : T = []) {sb : Nat} (Ls : Nat) (xs : Nat → Int32) (a1 : Nat) (v14_97 : Int) (x17_171 : Int) (x24_1347 : Int) (v25_1364 : Int) (hxs : XScr Γ sb Ls xs) (J1788 : Int → Rw → Cd → (Nat → Nat) → Option (Int × S3)) (hJ1788 : ∀ (v13_1788 : Int) (E_1788 : Rw) (C_1788 : Cd) (q_1788 : (Nat → Nat)), RunO l Γ (kL T) 16 encI (em3 ma) 1788 [(0, .ref sb), (1, .ref a1), (2, .ref (ma 0)), (3, .ref (ma 1)), (4, .ref (ma 2)), (5, .ref (ma 3)), (6, .ref (ma 4)), (7, .ref (ma 5)), (8, .ref (ma 6)), (9, .ref (ma 7)), (10, .ref (ma 8)), (11, .ref (ma 9)), (12, .ref (ma 10)), (13, wi v13_1788), (14, wi v14_97), (17, wi x17_171)] [] (E_1788, C_1788, q_1788) (J1788 v13_1788 E_1788 C_1788 q_1788)) : ∀ (E_1413 : Rw) (C_1413 : Cd) (q_1413 : (Nat → Nat)), RunO l Γ (kL T) 16 encI (em3 ma) 1413 [(0, .ref sb), (1, .ref a1), (2, .ref (ma 0)), (3, .ref (ma 1)), (4, .ref (ma 2)), (5, .ref (ma 3)), (6, .ref (ma 4)), (7, .ref (ma 5)), (8, .ref (ma 6)), (9, .ref (ma 7)), (10, .ref (ma 8)), (11, .ref (ma 9)), (12, .ref (ma 10)), (14, wi v14_97), (17, wi x17_171), (24, wi x24_1347), (25, wi v25_1364)] [] (E_1413, C_1413, q_1413) (fW_law_1413 a1 J1788 x24_1347 v25_1364 E_1413 C_1413 q_1413) := by
  intro E_1413 C_1413 q_1413
  unfold fW_law_1413
  refine r_aload_n (x := a1) dL_law_1413 rfl rfl ?_
  refine r_iload (x := x24_1347) dL_law_1414 rfl ?_
  refine r_cx1 (M0 := (fun k => (adq ma q_1413 k : Int), E_1413)) (J := fun (C_ : Cd) => (E_1413, C_, q_1413)) (k2 := k_X11_work) (c := 14) (T := TX11) (N := 10) (n := 1) (rest := []) (fun _ => rfl) htb um_L_225 kv_X11_work hc_X11 (by decide) (c_X11_work hG _ _ _) (by decide) rfl (Nat.le_of_ble_eq_true rfl) dL_law_1416 rfl (fun r35 C36 => ?_)
  show RunO l Γ (kL T) 16 encI (em3 ma) 1419 [(0, .ref sb), (1, .ref a1), (2, .ref (ma 0)), (3, .ref (ma 1)), (4, .ref (ma 2)), (5, .ref (ma 3)), (6, .ref (ma 4)), (7, .ref (ma 5)), (8, .ref (ma 6)), (9, .ref (ma 7)), (10, .ref (ma 8)), (11, .ref (ma 9)), (12, .ref (ma 10)), (14, wi v14_97), (17, wi x17_171), (24, wi x24_1347), (25, wi v25_1364)] [wi r35] (E_1413, C36, q_1413) _
  refine r_iload (x := v25_1364) dL_law_1419 rfl ?_
  refine r_join (P := fun (J : Int → Rw → Cd → (Nat → Nat) → Option (Int × S3)) => ∀ (t0_1429 : Int) (E_1429 : Rw) (C_1429 : Cd) (q_1429 : (Nat → Nat)), RunO l Γ (kL T) 16 encI (em3 ma) 1429 [(0, .ref sb), (1, .ref a1), (2, .ref (ma 0)), (3, .ref (ma 1)), (4, .ref (ma 2)), (5, .ref (ma 3)), (6, .ref (ma 4)), (7, .ref (ma 5)), (8, .ref (ma 6)), (9, .ref (ma 7)), (10, .ref (ma 8)), (11, .ref (ma 9)), (12, .ref (ma 10)), (14, wi v14_97), (17, wi x17_171)] [wi t0_1429] (E_1429, C_1429, q_1429) (J t0_1429 E_1429 C_1429 q_1429)) ?_ (fun J1429 hJ1429 => ?_)
  · exact b_L_law_1429 h hm hG hS hX htb Ls xs a1 v14_97 x17_171 hxs J1788 hJ1788
  refine r_icmp_ne (tgt := 1428) dL_law_1421 (by decide) ?_ ?_
  · refine ro_iconst (v := 0) dL_law_1428 rfl ?_
    refine r_lo [0, 1, 2, 3, 4, 5, 6, 7, 8, 9, 10, 11, 12, 13, 14] (lo2 := [(0, .ref sb), (1, .ref a1), (2, .ref (ma 0)), (3, .ref (ma 1)), (4, .ref (ma 2)), (5, .ref (ma 3)), (6, .ref (ma 4)), (7, .ref (ma 5)), (8, .ref (ma 6)), (9, .ref (ma 7)), (10, .ref (ma 8)), (11, .ref (ma 9)), (12, .ref (ma 10)), (14, wi v14_97), (17, wi x17_171)]) rfl ?_
    exact hJ1429 0 E_1413 C36 q_1413
  · refine ro_iconst (v := 1) dL_law_1424 rfl ?_
    refine r_goto (tgt := 1429) dL_law_1425 (by decide) ?_
    refine r_lo [0, 1, 2, 3, 4, 5, 6, 7, 8, 9, 10, 11, 12, 13, 14] (lo2 := [(0, .ref sb), (1, .ref a1), (2, .ref (ma 0)), (3, .ref (ma 1)), (4, .ref (ma 2)), (5, .ref (ma 3)), (6, .ref (ma 4)), (7, .ref (ma 5)), (8, .ref (ma 6)), (9, .ref (ma 7)), (10, .ref (ma 8)), (11, .ref (ma 9)), (12, .ref (ma 10)), (14, wi v14_97), (17, wi x17_171)]) rfl ?_
    exact hJ1429 1 E_1413 C36 q_1413
set_option maxHeartbeats 8000000 in
set_option maxRecDepth 100000 in
theorem b_L_law_1364 {l : Launch} {Γ : Cx} {ma : Nat → Nat} (h : wOn Γ) (hm : ∀ k, k ≤ 10 → ma k ≠ 0) (hG : GK Γ l) {sT : Nat → Nat} (hS : STs Γ sT) (hX : XN Γ) {T : List ExceptionTableEntry} (htb : T = []) {sb : Nat} (Ls : Nat) (xs : Nat → Int32) (a1 : Nat) (v14_97 : Int) (x17_171 : Int) (x24_1347 : Int) (hxs : XScr Γ sb Ls xs) (J1788 : Int → Rw → Cd → (Nat → Nat) → Option (Int × S3)) (hJ1788 : ∀ (v13_1788 : Int) (E_1788 : Rw) (C_1788 : Cd) (q_1788 : (Nat → Nat)), RunO l Γ (kL T) 16 encI (em3 ma) 1788 [(0, .ref sb), (1, .ref a1), (2, .ref (ma 0)), (3, .ref (ma 1)), (4, .ref (ma 2)), (5, .ref (ma 3)), (6, .ref (ma 4)), (7, .ref (ma 5)), (8, .ref (ma 6)), (9, .ref (ma 7)), (10, .ref (ma 8)), (11, .ref (ma 9)), (12, .ref (ma 10)), (13, wi v13_1788), (14, wi v14_97), (17, wi x17_171)] [] (E_1788, C_1788, q_1788) (J1788 v13_1788 E_1788 C_1788 q_1788)) (L1364 : Int → Int → Rw → Cd → (Nat → Nat) → Option (Int × S3)) (hL1364 : ∀ (v25_1364 : Int) (v26_1364 : Int) (E_1364 : Rw) (C_1364 : Cd) (q_1364 : (Nat → Nat)), RunO l Γ (kL T) 16 encI (em3 ma) 1364 [(0, .ref sb), (1, .ref a1), (2, .ref (ma 0)), (3, .ref (ma 1)), (4, .ref (ma 2)), (5, .ref (ma 3)), (6, .ref (ma 4)), (7, .ref (ma 5)), (8, .ref (ma 6)), (9, .ref (ma 7)), (10, .ref (ma 8)), (11, .ref (ma 9)), (12, .ref (ma 10)), (14, wi v14_97), (17, wi x17_171), (24, wi x24_1347), (25, wi v25_1364), (26, wi v26_1364)] [] (E_1364, C_1364, q_1364) (L1364 v25_1364 v26_1364 E_1364 C_1364 q_1364)) : ∀ (v25_1364 : Int) (v26_1364 : Int) (E_1364 : Rw) (C_1364 : Cd) (q_1364 : (Nat → Nat)), RunO l Γ (kL T) 16 encI (em3 ma) 1364 [(0, .ref sb), (1, .ref a1), (2, .ref (ma 0)), (3, .ref (ma 1)), (4, .ref (ma 2)), (5, .ref (ma 3)), (6, .ref (ma 4)), (7, .ref (ma 5)), (8, .ref (ma 6)), (9, .ref (ma 7)), (10, .ref (ma 8)), (11, .ref (ma 9)), (12, .ref (ma 10)), (14, wi v14_97), (17, wi x17_171), (24, wi x24_1347), (25, wi v25_1364), (26, wi v26_1364)] [] (E_1364, C_1364, q_1364) (fW_law_1364 a1 J1788 x24_1347 L1364 v25_1364 v26_1364 E_1364 C_1364 q_1364) := by
  intro v25_1364 v26_1364 E_1364 C_1364 q_1364
  unfold fW_law_1364
  refine r_iload (x := v26_1364) dL_law_1364 rfl ?_
  refine r_join (P := fun (J : Rw → Cd → (Nat → Nat) → Option (Int × S3)) => ∀ (E_1413 : Rw) (C_1413 : Cd) (q_1413 : (Nat → Nat)), RunO l Γ (kL T) 16 encI (em3 ma) 1413 [(0, .ref sb), (1, .ref a1), (2, .ref (ma 0)), (3, .ref (ma 1)), (4, .ref (ma 2)), (5, .ref (ma 3)), (6, .ref (ma 4)), (7, .ref (ma 5)), (8, .ref (ma 6)), (9, .ref (ma 7)), (10, .ref (ma 8)), (11, .ref (ma 9)), (12, .ref (ma 10)), (14, wi v14_97), (17, wi x17_171), (24, wi x24_1347), (25, wi v25_1364)] [] (E_1413, C_1413, q_1413) (J E_1413 C_1413 q_1413)) ?_ (fun J1413 hJ1413 => ?_)
  · exact b_L_law_1413 h hm hG hS hX htb Ls xs a1 v14_97 x17_171 x24_1347 v25_1364 hxs J1788 hJ1788
  refine r_if_lt (tgt := 1413) dL_law_1366 (by decide) ?_ ?_
  · refine r_lo [0, 1, 2, 3, 4, 5, 6, 7, 8, 9, 10, 11, 12, 13, 14, 15, 16] (lo2 := [(0, .ref sb), (1, .ref a1), (2, .ref (ma 0)), (3, .ref (ma 1)), (4, .ref (ma 2)), (5, .ref (ma 3)), (6, .ref (ma 4)), (7, .ref (ma 5)), (8, .ref (ma 6)), (9, .ref (ma 7)), (10, .ref (ma 8)), (11, .ref (ma 9)), (12, .ref (ma 10)), (14, wi v14_97), (17, wi x17_171), (24, wi x24_1347), (25, wi v25_1364)]) rfl ?_
    exact hJ1413 E_1364 C_1364 q_1364
  · refine r_iload (x := v25_1364) dL_law_1369 rfl ?_
    refine r_iload (x := x24_1347) dL_law_1371 rfl ?_
    refine r_icmp_ge (tgt := 1413) dL_law_1373 (by decide) ?_ ?_
    · refine r_lo [0, 1, 2, 3, 4, 5, 6, 7, 8, 9, 10, 11, 12, 13, 14, 15, 16] (lo2 := [(0, .ref sb), (1, .ref a1), (2, .ref (ma 0)), (3, .ref (ma 1)), (4, .ref (ma 2)), (5, .ref (ma 3)), (6, .ref (ma 4)), (7, .ref (ma 5)), (8, .ref (ma 6)), (9, .ref (ma 7)), (10, .ref (ma 8)), (11, .ref (ma 9)), (12, .ref (ma 10)), (14, wi v14_97), (17, wi x17_171), (24, wi x24_1347), (25, wi v25_1364)]) rfl ?_
      exact hJ1413 E_1364 C_1364 q_1364
    · refine r_aload_n (x := ma 0) dL_law_1376 rfl rfl ?_
      refine r_aload_n (x := ma 1) dL_law_1377 rfl rfl ?_
      refine r_aload (x := ma 2) dL_law_1378 rfl ?_
      refine r_aload (x := ma 3) dL_law_1380 rfl ?_
      refine r_aload (x := ma 6) dL_law_1382 rfl ?_
      refine r_aload (x := ma 7) dL_law_1384 rfl ?_
      refine r_aload (x := ma 8) dL_law_1386 rfl ?_
      refine r_aload (x := ma 10) dL_law_1388 rfl ?_
      refine r_iload (x := v26_1364) dL_law_1390 rfl ?_
      refine r_cs3v (k2 := k_L_rendered) (n := 9) (rest := []) htb kv_L_rendered (c_L_rendered h hm v26_1364 _ _ _) (by decide) um_L_221 rfl (Nat.le_of_ble_eq_true rfl) dL_law_1392 rfl (fun r37 E38 C39 q40 => ?_)
      refine r_iinc (x := v25_1364) (lo2 := [(25, wi (v25_1364 + 1)), (0, .ref sb), (1, .ref a1), (2, .ref (ma 0)), (3, .ref (ma 1)), (4, .ref (ma 2)), (5, .ref (ma 3)), (6, .ref (ma 4)), (7, .ref (ma 5)), (8, .ref (ma 6)), (9, .ref (ma 7)), (10, .ref (ma 8)), (11, .ref (ma 9)), (12, .ref (ma 10)), (14, wi v14_97), (17, wi x17_171), (24, wi x24_1347), (26, wi v26_1364)]) dL_law_1395 rfl (show 25 < 35 by decide) rfl ?_
      refine r_aload_n (x := ma 1) dL_law_1398 rfl rfl ?_
      refine r_aload (x := ma 4) dL_law_1399 rfl ?_
      refine r_aload (x := ma 6) dL_law_1401 rfl ?_
      refine r_aload (x := ma 8) dL_law_1403 rfl ?_
      refine r_csi (J := fun (E_ : Rw) => (E_, C39, q40)) (k2 := k_L_next) (n := 4) (rest := []) (fun _ => rfl) htb kv_L_next (c_L_next (ad := adq ma q40) (K0 := C39) h (adq_hm hm)  _) (by decide) um_L_217 rfl (Nat.le_of_ble_eq_true rfl) dL_law_1405 rfl (fun r41 E42 => ?_)
      show RunO l Γ (kL T) 16 encI (em3 ma) 1408 [(25, wi (v25_1364 + 1)), (0, .ref sb), (1, .ref a1), (2, .ref (ma 0)), (3, .ref (ma 1)), (4, .ref (ma 2)), (5, .ref (ma 3)), (6, .ref (ma 4)), (7, .ref (ma 5)), (8, .ref (ma 6)), (9, .ref (ma 7)), (10, .ref (ma 8)), (11, .ref (ma 9)), (12, .ref (ma 10)), (14, wi v14_97), (17, wi x17_171), (24, wi x24_1347), (26, wi v26_1364)] [wi r41] (E42, C39, q40) _
      refine r_istore (lo2 := [(26, wi r41), (25, wi (v25_1364 + 1)), (0, .ref sb), (1, .ref a1), (2, .ref (ma 0)), (3, .ref (ma 1)), (4, .ref (ma 2)), (5, .ref (ma 3)), (6, .ref (ma 4)), (7, .ref (ma 5)), (8, .ref (ma 6)), (9, .ref (ma 7)), (10, .ref (ma 8)), (11, .ref (ma 9)), (12, .ref (ma 10)), (14, wi v14_97), (17, wi x17_171), (24, wi x24_1347)]) dL_law_1408 (show 26 < 35 by decide) rfl ?_
      refine r_goto (tgt := 1364) dL_law_1410 (by decide) ?_
      refine r_lo [2, 3, 4, 5, 6, 7, 8, 9, 10, 11, 12, 13, 14, 15, 16, 17, 1, 0] (lo2 := [(0, .ref sb), (1, .ref a1), (2, .ref (ma 0)), (3, .ref (ma 1)), (4, .ref (ma 2)), (5, .ref (ma 3)), (6, .ref (ma 4)), (7, .ref (ma 5)), (8, .ref (ma 6)), (9, .ref (ma 7)), (10, .ref (ma 8)), (11, .ref (ma 9)), (12, .ref (ma 10)), (14, wi v14_97), (17, wi x17_171), (24, wi x24_1347), (25, wi (v25_1364 + 1)), (26, wi r41)]) rfl ?_
      exact hL1364 (v25_1364 + 1) r41 E42 C39 q40
set_option maxHeartbeats 8000000 in
set_option maxRecDepth 100000 in
theorem b_L_law_1329 {l : Launch} {Γ : Cx} {ma : Nat → Nat} (h : wOn Γ) (hm : ∀ k, k ≤ 10 → ma k ≠ 0) (hG : GK Γ l) {sT : Nat → Nat} (hS : STs Γ sT) (hX : XN Γ) {T : List ExceptionTableEntry} (htb : T = []) {sb : Nat} (Ls : Nat) (xs : Nat → Int32) (a1 : Nat) (v14_97 : Int) (x17_171 : Int) (t0_1313 : Int) (E_1313 : Rw) (hxs : XScr Γ sb Ls xs) (J1788 : Int → Rw → Cd → (Nat → Nat) → Option (Int × S3)) (hJ1788 : ∀ (v13_1788 : Int) (E_1788 : Rw) (C_1788 : Cd) (q_1788 : (Nat → Nat)), RunO l Γ (kL T) 16 encI (em3 ma) 1788 [(0, .ref sb), (1, .ref a1), (2, .ref (ma 0)), (3, .ref (ma 1)), (4, .ref (ma 2)), (5, .ref (ma 3)), (6, .ref (ma 4)), (7, .ref (ma 5)), (8, .ref (ma 6)), (9, .ref (ma 7)), (10, .ref (ma 8)), (11, .ref (ma 9)), (12, .ref (ma 10)), (13, wi v13_1788), (14, wi v14_97), (17, wi x17_171)] [] (E_1788, C_1788, q_1788) (J1788 v13_1788 E_1788 C_1788 q_1788)) : ∀ (t0_1329 : Int) (E_1329 : Rw) (C_1329 : Cd) (q_1329 : (Nat → Nat)), RunO l Γ (kL T) 16 encI (em3 ma) 1329 [(0, .ref sb), (1, .ref a1), (2, .ref (ma 0)), (3, .ref (ma 1)), (4, .ref (ma 2)), (5, .ref (ma 3)), (6, .ref (ma 4)), (7, .ref (ma 5)), (8, .ref (ma 6)), (9, .ref (ma 7)), (10, .ref (ma 8)), (11, .ref (ma 9)), (12, .ref (ma 10)), (13, wi t0_1313), (14, wi v14_97), (17, wi x17_171)] [wi t0_1329, wi (E_1313 0 (ix 2)), wi 2, .ref (ma 0)] (E_1329, C_1329, q_1329) (fW_law_1329 J1788 t0_1313 E_1313 t0_1329 E_1329 C_1329 q_1329) := by
  intro t0_1329 E_1329 C_1329 q_1329
  unfold fW_law_1329
  refine r_iadd dL_law_1329 ?_
  refine r_wiast3 h (by decide) (by decide) (hm 0 (by decide)) dL_law_1330 (fun E45 => ?_)
  refine r_goto (tgt := 1788) dL_law_1331 (by decide) ?_
  exact hJ1788 t0_1313 E45 C_1329 q_1329
set_option maxHeartbeats 8000000 in
set_option maxRecDepth 100000 in
theorem b_L_law_1313 {l : Launch} {Γ : Cx} {ma : Nat → Nat} (h : wOn Γ) (hm : ∀ k, k ≤ 10 → ma k ≠ 0) (hG : GK Γ l) {sT : Nat → Nat} (hS : STs Γ sT) (hX : XN Γ) {T : List ExceptionTableEntry} (htb : T = []) {sb : Nat} (Ls : Nat) (xs : Nat → Int32) (a1 : Nat) (v14_97 : Int) (x17_171 : Int) (t0_203 : Int) (hxs : XScr Γ sb Ls xs) (J1788 : Int → Rw → Cd → (Nat → Nat) → Option (Int × S3)) (hJ1788 : ∀ (v13_1788 : Int) (E_1788 : Rw) (C_1788 : Cd) (q_1788 : (Nat → Nat)), RunO l Γ (kL T) 16 encI (em3 ma) 1788 [(0, .ref sb), (1, .ref a1), (2, .ref (ma 0)), (3, .ref (ma 1)), (4, .ref (ma 2)), (5, .ref (ma 3)), (6, .ref (ma 4)), (7, .ref (ma 5)), (8, .ref (ma 6)), (9, .ref (ma 7)), (10, .ref (ma 8)), (11, .ref (ma 9)), (12, .ref (ma 10)), (13, wi v13_1788), (14, wi v14_97), (17, wi x17_171)] [] (E_1788, C_1788, q_1788) (J1788 v13_1788 E_1788 C_1788 q_1788)) : ∀ (t0_1313 : Int) (E_1313 : Rw) (C_1313 : Cd) (q_1313 : (Nat → Nat)), RunO l Γ (kL T) 16 encI (em3 ma) 1313 [(0, .ref sb), (1, .ref a1), (2, .ref (ma 0)), (3, .ref (ma 1)), (4, .ref (ma 2)), (5, .ref (ma 3)), (6, .ref (ma 4)), (7, .ref (ma 5)), (8, .ref (ma 6)), (9, .ref (ma 7)), (10, .ref (ma 8)), (11, .ref (ma 9)), (12, .ref (ma 10)), (14, wi v14_97), (17, wi x17_171), (19, wi t0_203)] [wi t0_1313] (E_1313, C_1313, q_1313) (fW_law_1313 t0_203 J1788 t0_1313 E_1313 C_1313 q_1313) := by
  intro t0_1313 E_1313 C_1313 q_1313
  unfold fW_law_1313
  refine r_istore (lo2 := [(13, wi t0_1313), (0, .ref sb), (1, .ref a1), (2, .ref (ma 0)), (3, .ref (ma 1)), (4, .ref (ma 2)), (5, .ref (ma 3)), (6, .ref (ma 4)), (7, .ref (ma 5)), (8, .ref (ma 6)), (9, .ref (ma 7)), (10, .ref (ma 8)), (11, .ref (ma 9)), (12, .ref (ma 10)), (14, wi v14_97), (17, wi x17_171), (19, wi t0_203)]) dL_law_1313 (show 13 < 35 by decide) rfl ?_
  refine r_aload_n (x := ma 0) dL_law_1315 rfl rfl ?_
  refine ro_iconst (v := 2) dL_law_1316 rfl ?_
  refine r_dup2 dL_law_1317 rfl rfl ?_
  refine r_wiald3 h (by decide) (by decide) (hm 0 (by decide)) dL_law_1318 ?_
  refine r_iload (x := t0_203) dL_law_1319 rfl ?_
  refine r_join (P := fun (J : Int → Rw → Cd → (Nat → Nat) → Option (Int × S3)) => ∀ (t0_1329 : Int) (E_1329 : Rw) (C_1329 : Cd) (q_1329 : (Nat → Nat)), RunO l Γ (kL T) 16 encI (em3 ma) 1329 [(0, .ref sb), (1, .ref a1), (2, .ref (ma 0)), (3, .ref (ma 1)), (4, .ref (ma 2)), (5, .ref (ma 3)), (6, .ref (ma 4)), (7, .ref (ma 5)), (8, .ref (ma 6)), (9, .ref (ma 7)), (10, .ref (ma 8)), (11, .ref (ma 9)), (12, .ref (ma 10)), (13, wi t0_1313), (14, wi v14_97), (17, wi x17_171)] [wi t0_1329, wi (E_1313 0 (ix 2)), wi 2, .ref (ma 0)] (E_1329, C_1329, q_1329) (J t0_1329 E_1329 C_1329 q_1329)) ?_ (fun J1329 hJ1329 => ?_)
  · exact b_L_law_1329 h hm hG hS hX htb Ls xs a1 v14_97 x17_171 t0_1313 E_1313 hxs J1788 hJ1788
  refine r_if_eq (tgt := 1328) dL_law_1321 (by decide) ?_ ?_
  · refine ro_iconst (v := 0) dL_law_1328 rfl ?_
    refine r_lo [1, 2, 3, 4, 5, 6, 7, 8, 9, 10, 11, 12, 13, 0, 14, 15] (lo2 := [(0, .ref sb), (1, .ref a1), (2, .ref (ma 0)), (3, .ref (ma 1)), (4, .ref (ma 2)), (5, .ref (ma 3)), (6, .ref (ma 4)), (7, .ref (ma 5)), (8, .ref (ma 6)), (9, .ref (ma 7)), (10, .ref (ma 8)), (11, .ref (ma 9)), (12, .ref (ma 10)), (13, wi t0_1313), (14, wi v14_97), (17, wi x17_171)]) rfl ?_
    exact hJ1329 0 E_1313 C_1313 q_1313
  · refine ro_iconst (v := 1) dL_law_1324 rfl ?_
    refine r_goto (tgt := 1329) dL_law_1325 (by decide) ?_
    refine r_lo [1, 2, 3, 4, 5, 6, 7, 8, 9, 10, 11, 12, 13, 0, 14, 15] (lo2 := [(0, .ref sb), (1, .ref a1), (2, .ref (ma 0)), (3, .ref (ma 1)), (4, .ref (ma 2)), (5, .ref (ma 3)), (6, .ref (ma 4)), (7, .ref (ma 5)), (8, .ref (ma 6)), (9, .ref (ma 7)), (10, .ref (ma 8)), (11, .ref (ma 9)), (12, .ref (ma 10)), (13, wi t0_1313), (14, wi v14_97), (17, wi x17_171)]) rfl ?_
    exact hJ1329 1 E_1313 C_1313 q_1313
set_option maxHeartbeats 8000000 in
set_option maxRecDepth 100000 in
theorem b_L_law_1305 {l : Launch} {Γ : Cx} {ma : Nat → Nat} (h : wOn Γ) (hm : ∀ k, k ≤ 10 → ma k ≠ 0) (hG : GK Γ l) {sT : Nat → Nat} (hS : STs Γ sT) (hX : XN Γ) {T : List ExceptionTableEntry} (htb : T = []) {sb : Nat} (Ls : Nat) (xs : Nat → Int32) (a1 : Nat) (v14_97 : Int) (x17_171 : Int) (t0_203 : Int) (r43 : Int) (hxs : XScr Γ sb Ls xs) (J1788 : Int → Rw → Cd → (Nat → Nat) → Option (Int × S3)) (hJ1788 : ∀ (v13_1788 : Int) (E_1788 : Rw) (C_1788 : Cd) (q_1788 : (Nat → Nat)), RunO l Γ (kL T) 16 encI (em3 ma) 1788 [(0, .ref sb), (1, .ref a1), (2, .ref (ma 0)), (3, .ref (ma 1)), (4, .ref (ma 2)), (5, .ref (ma 3)), (6, .ref (ma 4)), (7, .ref (ma 5)), (8, .ref (ma 6)), (9, .ref (ma 7)), (10, .ref (ma 8)), (11, .ref (ma 9)), (12, .ref (ma 10)), (13, wi v13_1788), (14, wi v14_97), (17, wi x17_171)] [] (E_1788, C_1788, q_1788) (J1788 v13_1788 E_1788 C_1788 q_1788)) : ∀ (t0_1305 : Int) (E_1305 : Rw) (C_1305 : Cd) (q_1305 : (Nat → Nat)), RunO l Γ (kL T) 16 encI (em3 ma) 1305 [(0, .ref sb), (1, .ref a1), (2, .ref (ma 0)), (3, .ref (ma 1)), (4, .ref (ma 2)), (5, .ref (ma 3)), (6, .ref (ma 4)), (7, .ref (ma 5)), (8, .ref (ma 6)), (9, .ref (ma 7)), (10, .ref (ma 8)), (11, .ref (ma 9)), (12, .ref (ma 10)), (14, wi v14_97), (17, wi x17_171), (19, wi t0_203)] [wi t0_1305, wi r43] (E_1305, C_1305, q_1305) (fW_law_1305 t0_203 J1788 r43 t0_1305 E_1305 C_1305 q_1305) := by
  intro t0_1305 E_1305 C_1305 q_1305
  unfold fW_law_1305
  refine r_join (P := fun (J : Int → Rw → Cd → (Nat → Nat) → Option (Int × S3)) => ∀ (t0_1313 : Int) (E_1313 : Rw) (C_1313 : Cd) (q_1313 : (Nat → Nat)), RunO l Γ (kL T) 16 encI (em3 ma) 1313 [(0, .ref sb), (1, .ref a1), (2, .ref (ma 0)), (3, .ref (ma 1)), (4, .ref (ma 2)), (5, .ref (ma 3)), (6, .ref (ma 4)), (7, .ref (ma 5)), (8, .ref (ma 6)), (9, .ref (ma 7)), (10, .ref (ma 8)), (11, .ref (ma 9)), (12, .ref (ma 10)), (14, wi v14_97), (17, wi x17_171), (19, wi t0_203)] [wi t0_1313] (E_1313, C_1313, q_1313) (J t0_1313 E_1313 C_1313 q_1313)) ?_ (fun J1313 hJ1313 => ?_)
  · exact b_L_law_1313 h hm hG hS hX htb Ls xs a1 v14_97 x17_171 t0_203 hxs J1788 hJ1788
  refine r_icmp_ne (tgt := 1312) dL_law_1305 (by decide) ?_ ?_
  · refine ro_iconst (v := 0) dL_law_1312 rfl ?_
    exact hJ1313 0 E_1305 C_1305 q_1305
  · refine ro_iconst (v := 1) dL_law_1308 rfl ?_
    refine r_goto (tgt := 1313) dL_law_1309 (by decide) ?_
    exact hJ1313 1 E_1305 C_1305 q_1305
set_option maxHeartbeats 8000000 in
set_option maxRecDepth 100000 in
theorem b_L_law_1273 {l : Launch} {Γ : Cx} {ma : Nat → Nat} (h : wOn Γ) (hm : ∀ k, k ≤ 10 → ma k ≠ 0) (hG : GK Γ l) {sT : Nat → Nat} (hS : STs Γ sT) (hX : XN Γ) {T : List ExceptionTableEntry} (htb : T = []) {sb : Nat} (Ls : Nat) (xs : Nat → Int32) (a1 : Nat) (v14_97 : Int) (t0_164 : Int) (x17_171 : Int) (t0_189 : Int) (t0_203 : Int) (r9 : Int) (x23_234 : Int) (hxs : XScr Γ sb Ls xs) (J1788 : Int → Rw → Cd → (Nat → Nat) → Option (Int × S3)) (hJ1788 : ∀ (v13_1788 : Int) (E_1788 : Rw) (C_1788 : Cd) (q_1788 : (Nat → Nat)), RunO l Γ (kL T) 16 encI (em3 ma) 1788 [(0, .ref sb), (1, .ref a1), (2, .ref (ma 0)), (3, .ref (ma 1)), (4, .ref (ma 2)), (5, .ref (ma 3)), (6, .ref (ma 4)), (7, .ref (ma 5)), (8, .ref (ma 6)), (9, .ref (ma 7)), (10, .ref (ma 8)), (11, .ref (ma 9)), (12, .ref (ma 10)), (13, wi v13_1788), (14, wi v14_97), (17, wi x17_171)] [] (E_1788, C_1788, q_1788) (J1788 v13_1788 E_1788 C_1788 q_1788)) : ∀ (E_1273 : Rw) (C_1273 : Cd) (q_1273 : (Nat → Nat)), RunO l Γ (kL T) 16 encI (em3 ma) 1273 [(0, .ref sb), (1, .ref a1), (2, .ref (ma 0)), (3, .ref (ma 1)), (4, .ref (ma 2)), (5, .ref (ma 3)), (6, .ref (ma 4)), (7, .ref (ma 5)), (8, .ref (ma 6)), (9, .ref (ma 7)), (10, .ref (ma 8)), (11, .ref (ma 9)), (12, .ref (ma 10)), (14, wi v14_97), (16, wi t0_164), (17, wi x17_171), (18, wi t0_189), (19, wi t0_203), (20, wi r9), (23, wi x23_234)] [] (E_1273, C_1273, q_1273) (fW_law_1273 a1 t0_164 x17_171 t0_189 t0_203 r9 x23_234 J1788 E_1273 C_1273 q_1273) := by
  intro E_1273 C_1273 q_1273
  unfold fW_law_1273
  refine r_iload (x := t0_164) dL_law_1273 rfl ?_
  refine r_bipush (v := 15) dL_law_1275 rfl ?_
  refine r_icmp_ne (tgt := 1334) dL_law_1277 (by decide) ?_ ?_
  · refine r_iload (x := t0_164) dL_law_1334 rfl ?_
    refine r_bipush (v := 19) dL_law_1336 rfl ?_
    refine r_icmp_ge (tgt := 1434) dL_law_1338 (by decide) ?_ ?_
    · refine r_iload (x := t0_164) dL_law_1434 rfl ?_
      refine r_bipush (v := 22) dL_law_1436 rfl ?_
      refine r_icmp_ge (tgt := 1565) dL_law_1438 (by decide) ?_ ?_
      · refine r_iload (x := t0_164) dL_law_1565 rfl ?_
        refine r_bipush (v := 24) dL_law_1567 rfl ?_
        refine r_icmp_ge (tgt := 1627) dL_law_1569 (by decide) ?_ ?_
        · refine r_iload (x := x17_171) dL_law_1627 rfl ?_
          refine r_bipush (v := 64) dL_law_1629 rfl ?_
          refine r_idiv dL_law_1631 (by decide) ?_
          refine ro_iconst (v := 2) dL_law_1632 rfl ?_
          refine r_irem dL_law_1633 (by decide) ?_
          refine r_nm (fun x24_1634 => ?_)
          refine r_istore (lo2 := [(24, wi x24_1634), (0, .ref sb), (1, .ref a1), (2, .ref (ma 0)), (3, .ref (ma 1)), (4, .ref (ma 2)), (5, .ref (ma 3)), (6, .ref (ma 4)), (7, .ref (ma 5)), (8, .ref (ma 6)), (9, .ref (ma 7)), (10, .ref (ma 8)), (11, .ref (ma 9)), (12, .ref (ma 10)), (14, wi v14_97), (16, wi t0_164), (17, wi x17_171), (18, wi t0_189), (19, wi t0_203), (20, wi r9), (23, wi x23_234)]) dL_law_1634 (show 24 < 35 by decide) rfl ?_
          refine r_iload (x := t0_203) dL_law_1636 rfl ?_
          refine r_join (P := fun (J : Int → Rw → Cd → (Nat → Nat) → Option (Int × S3)) => ∀ (t0_1653 : Int) (E_1653 : Rw) (C_1653 : Cd) (q_1653 : (Nat → Nat)), RunO l Γ (kL T) 16 encI (em3 ma) 1653 [(0, .ref sb), (1, .ref a1), (2, .ref (ma 0)), (3, .ref (ma 1)), (4, .ref (ma 2)), (5, .ref (ma 3)), (6, .ref (ma 4)), (7, .ref (ma 5)), (8, .ref (ma 6)), (9, .ref (ma 7)), (10, .ref (ma 8)), (11, .ref (ma 9)), (12, .ref (ma 10)), (14, wi v14_97), (17, wi x17_171), (18, wi t0_189), (19, wi t0_203), (20, wi r9), (23, wi x23_234), (24, wi x24_1634)] [wi t0_1653] (E_1653, C_1653, q_1653) (J t0_1653 E_1653 C_1653 q_1653)) ?_ (fun J1653 hJ1653 => ?_)
          · exact b_L_law_1653 h hm hG hS hX htb Ls xs a1 v14_97 x17_171 t0_189 t0_203 r9 x23_234 x24_1634 hxs J1788 hJ1788
          refine r_join (P := fun (J : Rw → Cd → (Nat → Nat) → Option (Int × S3)) => ∀ (E_1652 : Rw) (C_1652 : Cd) (q_1652 : (Nat → Nat)), RunO l Γ (kL T) 16 encI (em3 ma) 1652 [(0, .ref sb), (1, .ref a1), (2, .ref (ma 0)), (3, .ref (ma 1)), (4, .ref (ma 2)), (5, .ref (ma 3)), (6, .ref (ma 4)), (7, .ref (ma 5)), (8, .ref (ma 6)), (9, .ref (ma 7)), (10, .ref (ma 8)), (11, .ref (ma 9)), (12, .ref (ma 10)), (14, wi v14_97), (17, wi x17_171), (18, wi t0_189), (19, wi t0_203), (20, wi r9), (23, wi x23_234), (24, wi x24_1634)] [] (E_1652, C_1652, q_1652) (J E_1652 C_1652 q_1652)) ?_ (fun J1652 hJ1652 => ?_)
          · exact b_L_law_1652 h hm hG hS hX htb Ls xs a1 v14_97 x17_171 t0_189 t0_203 r9 x23_234 x24_1634 hxs J1653 hJ1653
          refine r_if_eq (tgt := 1652) dL_law_1638 (by decide) ?_ ?_
          · refine r_lo [1, 2, 3, 4, 5, 6, 7, 8, 9, 10, 11, 12, 13, 14, 16, 17, 18, 19, 20, 0] (lo2 := [(0, .ref sb), (1, .ref a1), (2, .ref (ma 0)), (3, .ref (ma 1)), (4, .ref (ma 2)), (5, .ref (ma 3)), (6, .ref (ma 4)), (7, .ref (ma 5)), (8, .ref (ma 6)), (9, .ref (ma 7)), (10, .ref (ma 8)), (11, .ref (ma 9)), (12, .ref (ma 10)), (14, wi v14_97), (17, wi x17_171), (18, wi t0_189), (19, wi t0_203), (20, wi r9), (23, wi x23_234), (24, wi x24_1634)]) rfl ?_
            exact hJ1652 E_1273 C_1273 q_1273
          · refine r_iload (x := x23_234) dL_law_1641 rfl ?_
            refine r_iload (x := t0_189) dL_law_1643 rfl ?_
            refine r_icmp_eq (tgt := 1652) dL_law_1645 (by decide) ?_ ?_
            · refine r_lo [1, 2, 3, 4, 5, 6, 7, 8, 9, 10, 11, 12, 13, 14, 16, 17, 18, 19, 20, 0] (lo2 := [(0, .ref sb), (1, .ref a1), (2, .ref (ma 0)), (3, .ref (ma 1)), (4, .ref (ma 2)), (5, .ref (ma 3)), (6, .ref (ma 4)), (7, .ref (ma 5)), (8, .ref (ma 6)), (9, .ref (ma 7)), (10, .ref (ma 8)), (11, .ref (ma 9)), (12, .ref (ma 10)), (14, wi v14_97), (17, wi x17_171), (18, wi t0_189), (19, wi t0_203), (20, wi r9), (23, wi x23_234), (24, wi x24_1634)]) rfl ?_
              exact hJ1652 E_1273 C_1273 q_1273
            · refine ro_iconst (v := 1) dL_law_1648 rfl ?_
              refine r_goto (tgt := 1653) dL_law_1649 (by decide) ?_
              refine r_lo [1, 2, 3, 4, 5, 6, 7, 8, 9, 10, 11, 12, 13, 14, 16, 17, 18, 19, 20, 0] (lo2 := [(0, .ref sb), (1, .ref a1), (2, .ref (ma 0)), (3, .ref (ma 1)), (4, .ref (ma 2)), (5, .ref (ma 3)), (6, .ref (ma 4)), (7, .ref (ma 5)), (8, .ref (ma 6)), (9, .ref (ma 7)), (10, .ref (ma 8)), (11, .ref (ma 9)), (12, .ref (ma 10)), (14, wi v14_97), (17, wi x17_171), (18, wi t0_189), (19, wi t0_203), (20, wi r9), (23, wi x23_234), (24, wi x24_1634)]) rfl ?_
              exact hJ1653 1 E_1273 C_1273 q_1273
        · refine r_iload (x := x17_171) dL_law_1572 rfl ?_
          refine r_bipush (v := 8) dL_law_1574 rfl ?_
          refine r_idiv dL_law_1576 (by decide) ?_
          refine r_bipush (v := 100) dL_law_1577 rfl ?_
          refine r_irem dL_law_1579 (by decide) ?_
          refine r_nm (fun x24_1580 => ?_)
          refine r_istore (lo2 := [(24, wi x24_1580), (0, .ref sb), (1, .ref a1), (2, .ref (ma 0)), (3, .ref (ma 1)), (4, .ref (ma 2)), (5, .ref (ma 3)), (6, .ref (ma 4)), (7, .ref (ma 5)), (8, .ref (ma 6)), (9, .ref (ma 7)), (10, .ref (ma 8)), (11, .ref (ma 9)), (12, .ref (ma 10)), (14, wi v14_97), (16, wi t0_164), (17, wi x17_171), (18, wi t0_189), (19, wi t0_203), (20, wi r9), (23, wi x23_234)]) dL_law_1580 (show 24 < 35 by decide) rfl ?_
          refine r_aload_n (x := a1) dL_law_1582 rfl rfl ?_
          refine r_iload (x := t0_189) dL_law_1583 rfl ?_
          refine r_iload (x := x24_1580) dL_law_1585 rfl ?_
          refine r_cx1 (M0 := (fun k => (adq ma q_1273 k : Int), E_1273)) (J := fun (C_ : Cd) => (E_1273, C_, q_1273)) (k2 := k_X11_rank) (c := 14) (T := TX11) (N := 10) (n := 2) (rest := []) (fun _ => rfl) htb um_L_228 kv_X11_rank hc_X11 (by decide) (c_X11_rank hG _ _ _ _) (by decide) rfl (Nat.le_of_ble_eq_true rfl) dL_law_1587 rfl (fun r22 C23 => ?_)
          show RunO l Γ (kL T) 16 encI (em3 ma) 1590 [(24, wi x24_1580), (0, .ref sb), (1, .ref a1), (2, .ref (ma 0)), (3, .ref (ma 1)), (4, .ref (ma 2)), (5, .ref (ma 3)), (6, .ref (ma 4)), (7, .ref (ma 5)), (8, .ref (ma 6)), (9, .ref (ma 7)), (10, .ref (ma 8)), (11, .ref (ma 9)), (12, .ref (ma 10)), (14, wi v14_97), (16, wi t0_164), (17, wi x17_171), (18, wi t0_189), (19, wi t0_203), (20, wi r9), (23, wi x23_234)] [wi r22] (E_1273, C23, q_1273) _
          refine r_aload (x := ma 6) dL_law_1590 rfl ?_
          refine r_bipush (v := 7) dL_law_1592 rfl ?_
          refine r_iload (x := t0_189) dL_law_1594 rfl ?_
          refine r_imul dL_law_1596 ?_
          refine r_bipush (v := 6) dL_law_1597 rfl ?_
          refine r_iadd dL_law_1599 ?_
          refine r_wiald3 h (by decide) (by decide) (hm 6 (by decide)) dL_law_1600 ?_
          refine r_join (P := fun (J : Int → Rw → Cd → (Nat → Nat) → Option (Int × S3)) => ∀ (t0_1609 : Int) (E_1609 : Rw) (C_1609 : Cd) (q_1609 : (Nat → Nat)), RunO l Γ (kL T) 16 encI (em3 ma) 1609 [(0, .ref sb), (1, .ref a1), (2, .ref (ma 0)), (3, .ref (ma 1)), (4, .ref (ma 2)), (5, .ref (ma 3)), (6, .ref (ma 4)), (7, .ref (ma 5)), (8, .ref (ma 6)), (9, .ref (ma 7)), (10, .ref (ma 8)), (11, .ref (ma 9)), (12, .ref (ma 10)), (14, wi v14_97), (17, wi x17_171), (18, wi t0_189), (24, wi x24_1580)] [wi t0_1609] (E_1609, C_1609, q_1609) (J t0_1609 E_1609 C_1609 q_1609)) ?_ (fun J1609 hJ1609 => ?_)
          · exact b_L_law_1609 h hm hG hS hX htb Ls xs a1 v14_97 x17_171 t0_189 x24_1580 hxs J1788 hJ1788
          refine r_icmp_ne (tgt := 1608) dL_law_1601 (by decide) ?_ ?_
          · refine ro_iconst (v := 0) dL_law_1608 rfl ?_
            refine r_lo [1, 2, 3, 4, 5, 6, 7, 8, 9, 10, 11, 12, 13, 14, 16, 17, 0] (lo2 := [(0, .ref sb), (1, .ref a1), (2, .ref (ma 0)), (3, .ref (ma 1)), (4, .ref (ma 2)), (5, .ref (ma 3)), (6, .ref (ma 4)), (7, .ref (ma 5)), (8, .ref (ma 6)), (9, .ref (ma 7)), (10, .ref (ma 8)), (11, .ref (ma 9)), (12, .ref (ma 10)), (14, wi v14_97), (17, wi x17_171), (18, wi t0_189), (24, wi x24_1580)]) rfl ?_
            exact hJ1609 0 E_1273 C23 q_1273
          · refine ro_iconst (v := 1) dL_law_1604 rfl ?_
            refine r_goto (tgt := 1609) dL_law_1605 (by decide) ?_
            refine r_lo [1, 2, 3, 4, 5, 6, 7, 8, 9, 10, 11, 12, 13, 14, 16, 17, 0] (lo2 := [(0, .ref sb), (1, .ref a1), (2, .ref (ma 0)), (3, .ref (ma 1)), (4, .ref (ma 2)), (5, .ref (ma 3)), (6, .ref (ma 4)), (7, .ref (ma 5)), (8, .ref (ma 6)), (9, .ref (ma 7)), (10, .ref (ma 8)), (11, .ref (ma 9)), (12, .ref (ma 10)), (14, wi v14_97), (17, wi x17_171), (18, wi t0_189), (24, wi x24_1580)]) rfl ?_
            exact hJ1609 1 E_1273 C23 q_1273
      · refine r_iload (x := x17_171) dL_law_1441 rfl ?_
        refine r_bipush (v := 8) dL_law_1443 rfl ?_
        refine r_idiv dL_law_1445 (by decide) ?_
        refine ro_iconst (v := 2) dL_law_1446 rfl ?_
        refine r_irem dL_law_1447 (by decide) ?_
        refine r_join (P := fun (J : Int → Rw → Cd → (Nat → Nat) → Option (Int × S3)) => ∀ (t0_1456 : Int) (E_1456 : Rw) (C_1456 : Cd) (q_1456 : (Nat → Nat)), RunO l Γ (kL T) 16 encI (em3 ma) 1456 [(0, .ref sb), (1, .ref a1), (2, .ref (ma 0)), (3, .ref (ma 1)), (4, .ref (ma 2)), (5, .ref (ma 3)), (6, .ref (ma 4)), (7, .ref (ma 5)), (8, .ref (ma 6)), (9, .ref (ma 7)), (10, .ref (ma 8)), (11, .ref (ma 9)), (12, .ref (ma 10)), (14, wi v14_97), (17, wi x17_171), (18, wi t0_189), (19, wi t0_203)] [wi t0_1456] (E_1456, C_1456, q_1456) (J t0_1456 E_1456 C_1456 q_1456)) ?_ (fun J1456 hJ1456 => ?_)
        · exact b_L_law_1456 h hm hG hS hX htb Ls xs a1 v14_97 x17_171 t0_189 t0_203 hxs J1788 hJ1788
        refine r_if_ne (tgt := 1455) dL_law_1448 (by decide) ?_ ?_
        · refine ro_iconst (v := 0) dL_law_1455 rfl ?_
          refine r_lo [0, 1, 2, 3, 4, 5, 6, 7, 8, 9, 10, 11, 12, 13, 15, 16, 17] (lo2 := [(0, .ref sb), (1, .ref a1), (2, .ref (ma 0)), (3, .ref (ma 1)), (4, .ref (ma 2)), (5, .ref (ma 3)), (6, .ref (ma 4)), (7, .ref (ma 5)), (8, .ref (ma 6)), (9, .ref (ma 7)), (10, .ref (ma 8)), (11, .ref (ma 9)), (12, .ref (ma 10)), (14, wi v14_97), (17, wi x17_171), (18, wi t0_189), (19, wi t0_203)]) rfl ?_
          exact hJ1456 0 E_1273 C_1273 q_1273
        · refine ro_iconst (v := 1) dL_law_1451 rfl ?_
          refine r_goto (tgt := 1456) dL_law_1452 (by decide) ?_
          refine r_lo [0, 1, 2, 3, 4, 5, 6, 7, 8, 9, 10, 11, 12, 13, 15, 16, 17] (lo2 := [(0, .ref sb), (1, .ref a1), (2, .ref (ma 0)), (3, .ref (ma 1)), (4, .ref (ma 2)), (5, .ref (ma 3)), (6, .ref (ma 4)), (7, .ref (ma 5)), (8, .ref (ma 6)), (9, .ref (ma 7)), (10, .ref (ma 8)), (11, .ref (ma 9)), (12, .ref (ma 10)), (14, wi v14_97), (17, wi x17_171), (18, wi t0_189), (19, wi t0_203)]) rfl ?_
          exact hJ1456 1 E_1273 C_1273 q_1273
    · refine ro_iconst (v := 1) dL_law_1341 rfl ?_
      refine r_iload (x := x17_171) dL_law_1342 rfl ?_
      refine ro_iconst (v := 4) dL_law_1344 rfl ?_
      refine r_irem dL_law_1345 (by decide) ?_
      refine r_iadd dL_law_1346 ?_
      refine r_nm (fun x24_1347 => ?_)
      refine r_istore (lo2 := [(24, wi x24_1347), (0, .ref sb), (1, .ref a1), (2, .ref (ma 0)), (3, .ref (ma 1)), (4, .ref (ma 2)), (5, .ref (ma 3)), (6, .ref (ma 4)), (7, .ref (ma 5)), (8, .ref (ma 6)), (9, .ref (ma 7)), (10, .ref (ma 8)), (11, .ref (ma 9)), (12, .ref (ma 10)), (14, wi v14_97), (16, wi t0_164), (17, wi x17_171), (18, wi t0_189), (19, wi t0_203), (20, wi r9), (23, wi x23_234)]) dL_law_1347 (show 24 < 35 by decide) rfl ?_
      refine ro_iconst (v := 0) dL_law_1349 rfl ?_
      refine r_istore (lo2 := [(25, wi 0), (24, wi x24_1347), (0, .ref sb), (1, .ref a1), (2, .ref (ma 0)), (3, .ref (ma 1)), (4, .ref (ma 2)), (5, .ref (ma 3)), (6, .ref (ma 4)), (7, .ref (ma 5)), (8, .ref (ma 6)), (9, .ref (ma 7)), (10, .ref (ma 8)), (11, .ref (ma 9)), (12, .ref (ma 10)), (14, wi v14_97), (16, wi t0_164), (17, wi x17_171), (18, wi t0_189), (19, wi t0_203), (20, wi r9), (23, wi x23_234)]) dL_law_1350 (show 25 < 35 by decide) rfl ?_
      refine r_aload_n (x := ma 1) dL_law_1352 rfl rfl ?_
      refine r_aload (x := ma 4) dL_law_1353 rfl ?_
      refine r_aload (x := ma 6) dL_law_1355 rfl ?_
      refine r_aload (x := ma 8) dL_law_1357 rfl ?_
      refine r_csi (J := fun (E_ : Rw) => (E_, C_1273, q_1273)) (k2 := k_L_next) (n := 4) (rest := []) (fun _ => rfl) htb kv_L_next (c_L_next (ad := adq ma q_1273) (K0 := C_1273) h (adq_hm hm)  _) (by decide) um_L_217 rfl (Nat.le_of_ble_eq_true rfl) dL_law_1359 rfl (fun r33 E34 => ?_)
      show RunO l Γ (kL T) 16 encI (em3 ma) 1362 [(25, wi 0), (24, wi x24_1347), (0, .ref sb), (1, .ref a1), (2, .ref (ma 0)), (3, .ref (ma 1)), (4, .ref (ma 2)), (5, .ref (ma 3)), (6, .ref (ma 4)), (7, .ref (ma 5)), (8, .ref (ma 6)), (9, .ref (ma 7)), (10, .ref (ma 8)), (11, .ref (ma 9)), (12, .ref (ma 10)), (14, wi v14_97), (16, wi t0_164), (17, wi x17_171), (18, wi t0_189), (19, wi t0_203), (20, wi r9), (23, wi x23_234)] [wi r33] (E34, C_1273, q_1273) _
      refine r_istore (lo2 := [(26, wi r33), (25, wi 0), (24, wi x24_1347), (0, .ref sb), (1, .ref a1), (2, .ref (ma 0)), (3, .ref (ma 1)), (4, .ref (ma 2)), (5, .ref (ma 3)), (6, .ref (ma 4)), (7, .ref (ma 5)), (8, .ref (ma 6)), (9, .ref (ma 7)), (10, .ref (ma 8)), (11, .ref (ma 9)), (12, .ref (ma 10)), (14, wi v14_97), (16, wi t0_164), (17, wi x17_171), (18, wi t0_189), (19, wi t0_203), (20, wi r9), (23, wi x23_234)]) dL_law_1362 (show 26 < 35 by decide) rfl ?_
      refine r_loop (P := fun (J : Int → Int → Rw → Cd → (Nat → Nat) → Option (Int × S3)) => ∀ (v25_1364 : Int) (v26_1364 : Int) (E_1364 : Rw) (C_1364 : Cd) (q_1364 : (Nat → Nat)), RunO l Γ (kL T) 16 encI (em3 ma) 1364 [(0, .ref sb), (1, .ref a1), (2, .ref (ma 0)), (3, .ref (ma 1)), (4, .ref (ma 2)), (5, .ref (ma 3)), (6, .ref (ma 4)), (7, .ref (ma 5)), (8, .ref (ma 6)), (9, .ref (ma 7)), (10, .ref (ma 8)), (11, .ref (ma 9)), (12, .ref (ma 10)), (14, wi v14_97), (17, wi x17_171), (24, wi x24_1347), (25, wi v25_1364), (26, wi v26_1364)] [] (E_1364, C_1364, q_1364) (J v25_1364 v26_1364 E_1364 C_1364 q_1364)) ?_ (fun L1364 hL1364 => ?_) (fun J1364 hJ1364 => ?_)
      · intros; exact ro_none
      · exact b_L_law_1364 h hm hG hS hX htb Ls xs a1 v14_97 x17_171 x24_1347 hxs J1788 hJ1788 L1364 hL1364
      refine r_lo [3, 4, 5, 6, 7, 8, 9, 10, 11, 12, 13, 14, 15, 16, 18, 2, 1, 0] (lo2 := [(0, .ref sb), (1, .ref a1), (2, .ref (ma 0)), (3, .ref (ma 1)), (4, .ref (ma 2)), (5, .ref (ma 3)), (6, .ref (ma 4)), (7, .ref (ma 5)), (8, .ref (ma 6)), (9, .ref (ma 7)), (10, .ref (ma 8)), (11, .ref (ma 9)), (12, .ref (ma 10)), (14, wi v14_97), (17, wi x17_171), (24, wi x24_1347), (25, wi 0), (26, wi r33)]) rfl ?_
      exact hJ1364 0 r33 E34 C_1273 q_1273
  · refine r_aload_n (x := a1) dL_law_1280 rfl rfl ?_
    refine r_bipush (v := 6) dL_law_1281 rfl ?_
    refine r_iload (x := t0_189) dL_law_1283 rfl ?_
    refine ro_iconst (v := 0) dL_law_1285 rfl ?_
    refine ro_iconst (v := 0) dL_law_1286 rfl ?_
    refine r_csHi (J := fun (C_ : Cd) => (E_1273, C_, q_1273)) (k2 := k_L_does) (n := 5) (rest := []) (fun _ => rfl) kv_L_does (c_L_does (M0 := (fun k => (adq ma q_1273 k : Int), E_1273)) hG hX a1 6 t0_189 0 0 _) (by decide) um_L_132 rfl (Nat.le_of_ble_eq_true rfl) dL_law_1287 rfl (fun r43 C44 => ?_)
    show RunO l Γ (kL T) 16 encI (em3 ma) 1290 [(0, .ref sb), (1, .ref a1), (2, .ref (ma 0)), (3, .ref (ma 1)), (4, .ref (ma 2)), (5, .ref (ma 3)), (6, .ref (ma 4)), (7, .ref (ma 5)), (8, .ref (ma 6)), (9, .ref (ma 7)), (10, .ref (ma 8)), (11, .ref (ma 9)), (12, .ref (ma 10)), (14, wi v14_97), (16, wi t0_164), (17, wi x17_171), (18, wi t0_189), (19, wi t0_203), (20, wi r9), (23, wi x23_234)] [wi r43] (E_1273, C44, q_1273) _
    refine r_iload (x := t0_203) dL_law_1290 rfl ?_
    refine r_join (P := fun (J : Int → Rw → Cd → (Nat → Nat) → Option (Int × S3)) => ∀ (t0_1305 : Int) (E_1305 : Rw) (C_1305 : Cd) (q_1305 : (Nat → Nat)), RunO l Γ (kL T) 16 encI (em3 ma) 1305 [(0, .ref sb), (1, .ref a1), (2, .ref (ma 0)), (3, .ref (ma 1)), (4, .ref (ma 2)), (5, .ref (ma 3)), (6, .ref (ma 4)), (7, .ref (ma 5)), (8, .ref (ma 6)), (9, .ref (ma 7)), (10, .ref (ma 8)), (11, .ref (ma 9)), (12, .ref (ma 10)), (14, wi v14_97), (17, wi x17_171), (19, wi t0_203)] [wi t0_1305, wi r43] (E_1305, C_1305, q_1305) (J t0_1305 E_1305 C_1305 q_1305)) ?_ (fun J1305 hJ1305 => ?_)
    · exact b_L_law_1305 h hm hG hS hX htb Ls xs a1 v14_97 x17_171 t0_203 r43 hxs J1788 hJ1788
    refine r_if_eq (tgt := 1303) dL_law_1292 (by decide) ?_ ?_
    · refine r_bipush (v := (-11)) dL_law_1303 rfl ?_
      refine r_lo [0, 1, 2, 3, 4, 5, 6, 7, 8, 9, 10, 11, 12, 13, 15, 17] (lo2 := [(0, .ref sb), (1, .ref a1), (2, .ref (ma 0)), (3, .ref (ma 1)), (4, .ref (ma 2)), (5, .ref (ma 3)), (6, .ref (ma 4)), (7, .ref (ma 5)), (8, .ref (ma 6)), (9, .ref (ma 7)), (10, .ref (ma 8)), (11, .ref (ma 9)), (12, .ref (ma 10)), (14, wi v14_97), (17, wi x17_171), (19, wi t0_203)]) rfl ?_
      exact hJ1305 (-11) E_1273 C44 q_1273
    · refine r_aload_n (x := ma 0) dL_law_1295 rfl rfl ?_
      refine ro_iconst (v := 2) dL_law_1296 rfl ?_
      refine r_wiald3 h (by decide) (by decide) (hm 0 (by decide)) dL_law_1297 ?_
      refine ro_iconst (v := 1) dL_law_1298 rfl ?_
      refine r_iadd dL_law_1299 ?_
      refine r_goto (tgt := 1305) dL_law_1300 (by decide) ?_
      refine r_lo [0, 1, 2, 3, 4, 5, 6, 7, 8, 9, 10, 11, 12, 13, 15, 17] (lo2 := [(0, .ref sb), (1, .ref a1), (2, .ref (ma 0)), (3, .ref (ma 1)), (4, .ref (ma 2)), (5, .ref (ma 3)), (6, .ref (ma 4)), (7, .ref (ma 5)), (8, .ref (ma 6)), (9, .ref (ma 7)), (10, .ref (ma 8)), (11, .ref (ma 9)), (12, .ref (ma 10)), (14, wi v14_97), (17, wi x17_171), (19, wi t0_203)]) rfl ?_
      exact hJ1305 ((E_1273 0 (ix 2)) + 1) E_1273 C44 q_1273
set_option maxHeartbeats 8000000 in
set_option maxRecDepth 100000 in
theorem b_L_law_1231 {l : Launch} {Γ : Cx} {ma : Nat → Nat} (h : wOn Γ) (hm : ∀ k, k ≤ 10 → ma k ≠ 0) (hG : GK Γ l) {sT : Nat → Nat} (hS : STs Γ sT) (hX : XN Γ) {T : List ExceptionTableEntry} (htb : T = []) {sb : Nat} (Ls : Nat) (xs : Nat → Int32) (a1 : Nat) (v14_97 : Int) (t0_164 : Int) (x17_171 : Int) (t0_189 : Int) (t0_203 : Int) (r9 : Int) (x23_234 : Int) (hxs : XScr Γ sb Ls xs) (J1788 : Int → Rw → Cd → (Nat → Nat) → Option (Int × S3)) (hJ1788 : ∀ (v13_1788 : Int) (E_1788 : Rw) (C_1788 : Cd) (q_1788 : (Nat → Nat)), RunO l Γ (kL T) 16 encI (em3 ma) 1788 [(0, .ref sb), (1, .ref a1), (2, .ref (ma 0)), (3, .ref (ma 1)), (4, .ref (ma 2)), (5, .ref (ma 3)), (6, .ref (ma 4)), (7, .ref (ma 5)), (8, .ref (ma 6)), (9, .ref (ma 7)), (10, .ref (ma 8)), (11, .ref (ma 9)), (12, .ref (ma 10)), (13, wi v13_1788), (14, wi v14_97), (17, wi x17_171)] [] (E_1788, C_1788, q_1788) (J1788 v13_1788 E_1788 C_1788 q_1788)) : ∀ (E_1231 : Rw) (C_1231 : Cd) (q_1231 : (Nat → Nat)), RunO l Γ (kL T) 16 encI (em3 ma) 1231 [(0, .ref sb), (1, .ref a1), (2, .ref (ma 0)), (3, .ref (ma 1)), (4, .ref (ma 2)), (5, .ref (ma 3)), (6, .ref (ma 4)), (7, .ref (ma 5)), (8, .ref (ma 6)), (9, .ref (ma 7)), (10, .ref (ma 8)), (11, .ref (ma 9)), (12, .ref (ma 10)), (14, wi v14_97), (16, wi t0_164), (17, wi x17_171), (18, wi t0_189), (19, wi t0_203), (20, wi r9), (23, wi x23_234)] [] (E_1231, C_1231, q_1231) (fW_law_1231 a1 t0_164 x17_171 t0_189 t0_203 r9 x23_234 J1788 E_1231 C_1231 q_1231) := by
  intro E_1231 C_1231 q_1231
  unfold fW_law_1231
  refine r_iload (x := t0_164) dL_law_1231 rfl ?_
  refine r_bipush (v := 14) dL_law_1233 rfl ?_
  refine r_join (P := fun (J : Rw → Cd → (Nat → Nat) → Option (Int × S3)) => ∀ (E_1273 : Rw) (C_1273 : Cd) (q_1273 : (Nat → Nat)), RunO l Γ (kL T) 16 encI (em3 ma) 1273 [(0, .ref sb), (1, .ref a1), (2, .ref (ma 0)), (3, .ref (ma 1)), (4, .ref (ma 2)), (5, .ref (ma 3)), (6, .ref (ma 4)), (7, .ref (ma 5)), (8, .ref (ma 6)), (9, .ref (ma 7)), (10, .ref (ma 8)), (11, .ref (ma 9)), (12, .ref (ma 10)), (14, wi v14_97), (16, wi t0_164), (17, wi x17_171), (18, wi t0_189), (19, wi t0_203), (20, wi r9), (23, wi x23_234)] [] (E_1273, C_1273, q_1273) (J E_1273 C_1273 q_1273)) ?_ (fun J1273 hJ1273 => ?_)
  · exact b_L_law_1273 h hm hG hS hX htb Ls xs a1 v14_97 t0_164 x17_171 t0_189 t0_203 r9 x23_234 hxs J1788 hJ1788
  refine r_icmp_ne (tgt := 1273) dL_law_1235 (by decide) ?_ ?_
  · exact hJ1273 E_1231 C_1231 q_1231
  · refine r_aload_n (x := ma 0) dL_law_1238 rfl rfl ?_
    refine ro_iconst (v := 0) dL_law_1239 rfl ?_
    refine r_wiald3 h (by decide) (by decide) (hm 0 (by decide)) dL_law_1240 ?_
    refine r_bipush (v := 24) dL_law_1241 rfl ?_
    refine r_icmp_ge (tgt := 1273) dL_law_1243 (by decide) ?_ ?_
    · exact hJ1273 E_1231 C_1231 q_1231
    · refine r_aload_n (x := a1) dL_law_1246 rfl rfl ?_
      refine r_aload_n (x := ma 0) dL_law_1247 rfl rfl ?_
      refine r_aload_n (x := ma 1) dL_law_1248 rfl rfl ?_
      refine r_aload (x := ma 2) dL_law_1249 rfl ?_
      refine r_aload (x := ma 3) dL_law_1251 rfl ?_
      refine r_aload (x := ma 4) dL_law_1253 rfl ?_
      refine r_aload (x := ma 5) dL_law_1255 rfl ?_
      refine r_aload (x := ma 6) dL_law_1257 rfl ?_
      refine r_aload (x := ma 8) dL_law_1259 rfl ?_
      refine r_iload (x := x17_171) dL_law_1261 rfl ?_
      refine ro_iconst (v := 2) dL_law_1263 rfl ?_
      refine r_irem dL_law_1264 (by decide) ?_
      refine r_cs3i (k2 := k_L_isMoved) (n := 10) (rest := []) htb kv_L_isMoved (c_L_isMoved h hm hG hX a1 (remI x17_171 2) _ _ _) (by decide) um_L_213 rfl (Nat.le_of_ble_eq_true rfl) dL_law_1265 rfl (fun r46 E47 C48 q49 => ?_)
      refine r_istore (lo2 := [(13, wi r46), (0, .ref sb), (1, .ref a1), (2, .ref (ma 0)), (3, .ref (ma 1)), (4, .ref (ma 2)), (5, .ref (ma 3)), (6, .ref (ma 4)), (7, .ref (ma 5)), (8, .ref (ma 6)), (9, .ref (ma 7)), (10, .ref (ma 8)), (11, .ref (ma 9)), (12, .ref (ma 10)), (14, wi v14_97), (16, wi t0_164), (17, wi x17_171), (18, wi t0_189), (19, wi t0_203), (20, wi r9), (23, wi x23_234)]) dL_law_1268 (show 13 < 35 by decide) rfl ?_
      refine r_goto (tgt := 1788) dL_law_1270 (by decide) ?_
      refine r_lo [1, 2, 3, 4, 5, 6, 7, 8, 9, 10, 11, 12, 13, 0, 14, 16] (lo2 := [(0, .ref sb), (1, .ref a1), (2, .ref (ma 0)), (3, .ref (ma 1)), (4, .ref (ma 2)), (5, .ref (ma 3)), (6, .ref (ma 4)), (7, .ref (ma 5)), (8, .ref (ma 6)), (9, .ref (ma 7)), (10, .ref (ma 8)), (11, .ref (ma 9)), (12, .ref (ma 10)), (13, wi r46), (14, wi v14_97), (17, wi x17_171)]) rfl ?_
      exact hJ1788 r46 E47 C48 q49
set_option maxHeartbeats 8000000 in
set_option maxRecDepth 100000 in
theorem b_L_law_1228 {l : Launch} {Γ : Cx} {ma : Nat → Nat} (h : wOn Γ) (hm : ∀ k, k ≤ 10 → ma k ≠ 0) (hG : GK Γ l) {sT : Nat → Nat} (hS : STs Γ sT) (hX : XN Γ) {T : List ExceptionTableEntry} (htb : T = []) {sb : Nat} (Ls : Nat) (xs : Nat → Int32) (a1 : Nat) (v14_97 : Int) (x17_171 : Int) (t0_1141 : Int) (hxs : XScr Γ sb Ls xs) (J1788 : Int → Rw → Cd → (Nat → Nat) → Option (Int × S3)) (hJ1788 : ∀ (v13_1788 : Int) (E_1788 : Rw) (C_1788 : Cd) (q_1788 : (Nat → Nat)), RunO l Γ (kL T) 16 encI (em3 ma) 1788 [(0, .ref sb), (1, .ref a1), (2, .ref (ma 0)), (3, .ref (ma 1)), (4, .ref (ma 2)), (5, .ref (ma 3)), (6, .ref (ma 4)), (7, .ref (ma 5)), (8, .ref (ma 6)), (9, .ref (ma 7)), (10, .ref (ma 8)), (11, .ref (ma 9)), (12, .ref (ma 10)), (13, wi v13_1788), (14, wi v14_97), (17, wi x17_171)] [] (E_1788, C_1788, q_1788) (J1788 v13_1788 E_1788 C_1788 q_1788)) : ∀ (E_1228 : Rw) (C_1228 : Cd) (q_1228 : (Nat → Nat)), RunO l Γ (kL T) 16 encI (em3 ma) 1228 [(0, .ref sb), (1, .ref a1), (2, .ref (ma 0)), (3, .ref (ma 1)), (4, .ref (ma 2)), (5, .ref (ma 3)), (6, .ref (ma 4)), (7, .ref (ma 5)), (8, .ref (ma 6)), (9, .ref (ma 7)), (10, .ref (ma 8)), (11, .ref (ma 9)), (12, .ref (ma 10)), (13, wi t0_1141), (14, wi v14_97), (17, wi x17_171)] [] (E_1228, C_1228, q_1228) (fW_law_1228 J1788 t0_1141 E_1228 C_1228 q_1228) := by
  intro E_1228 C_1228 q_1228
  unfold fW_law_1228
  refine r_goto (tgt := 1788) dL_law_1228 (by decide) ?_
  exact hJ1788 t0_1141 E_1228 C_1228 q_1228
set_option maxHeartbeats 8000000 in
set_option maxRecDepth 100000 in
theorem b_L_law_1141 {l : Launch} {Γ : Cx} {ma : Nat → Nat} (h : wOn Γ) (hm : ∀ k, k ≤ 10 → ma k ≠ 0) (hG : GK Γ l) {sT : Nat → Nat} (hS : STs Γ sT) (hX : XN Γ) {T : List ExceptionTableEntry} (htb : T = []) {sb : Nat} (Ls : Nat) (xs : Nat → Int32) (a1 : Nat) (v14_97 : Int) (x17_171 : Int) (t0_189 : Int) (x23_234 : Int) (t0_1098 : Int) (hxs : XScr Γ sb Ls xs) (J1788 : Int → Rw → Cd → (Nat → Nat) → Option (Int × S3)) (hJ1788 : ∀ (v13_1788 : Int) (E_1788 : Rw) (C_1788 : Cd) (q_1788 : (Nat → Nat)), RunO l Γ (kL T) 16 encI (em3 ma) 1788 [(0, .ref sb), (1, .ref a1), (2, .ref (ma 0)), (3, .ref (ma 1)), (4, .ref (ma 2)), (5, .ref (ma 3)), (6, .ref (ma 4)), (7, .ref (ma 5)), (8, .ref (ma 6)), (9, .ref (ma 7)), (10, .ref (ma 8)), (11, .ref (ma 9)), (12, .ref (ma 10)), (13, wi v13_1788), (14, wi v14_97), (17, wi x17_171)] [] (E_1788, C_1788, q_1788) (J1788 v13_1788 E_1788 C_1788 q_1788)) : ∀ (t0_1141 : Int) (E_1141 : Rw) (C_1141 : Cd) (q_1141 : (Nat → Nat)), RunO l Γ (kL T) 16 encI (em3 ma) 1141 [(0, .ref sb), (1, .ref a1), (2, .ref (ma 0)), (3, .ref (ma 1)), (4, .ref (ma 2)), (5, .ref (ma 3)), (6, .ref (ma 4)), (7, .ref (ma 5)), (8, .ref (ma 6)), (9, .ref (ma 7)), (10, .ref (ma 8)), (11, .ref (ma 9)), (12, .ref (ma 10)), (14, wi v14_97), (17, wi x17_171), (18, wi t0_189), (23, wi x23_234), (24, wi t0_1098)] [wi t0_1141] (E_1141, C_1141, q_1141) (fW_law_1141 t0_189 x23_234 J1788 t0_1098 t0_1141 E_1141 C_1141 q_1141) := by
  intro t0_1141 E_1141 C_1141 q_1141
  unfold fW_law_1141
  refine r_istore (lo2 := [(13, wi t0_1141), (0, .ref sb), (1, .ref a1), (2, .ref (ma 0)), (3, .ref (ma 1)), (4, .ref (ma 2)), (5, .ref (ma 3)), (6, .ref (ma 4)), (7, .ref (ma 5)), (8, .ref (ma 6)), (9, .ref (ma 7)), (10, .ref (ma 8)), (11, .ref (ma 9)), (12, .ref (ma 10)), (14, wi v14_97), (17, wi x17_171), (18, wi t0_189), (23, wi x23_234), (24, wi t0_1098)]) dL_law_1141 (show 13 < 35 by decide) rfl ?_
  refine r_iload (x := t0_1098) dL_law_1143 rfl ?_
  refine r_join (P := fun (J : Rw → Cd → (Nat → Nat) → Option (Int × S3)) => ∀ (E_1228 : Rw) (C_1228 : Cd) (q_1228 : (Nat → Nat)), RunO l Γ (kL T) 16 encI (em3 ma) 1228 [(0, .ref sb), (1, .ref a1), (2, .ref (ma 0)), (3, .ref (ma 1)), (4, .ref (ma 2)), (5, .ref (ma 3)), (6, .ref (ma 4)), (7, .ref (ma 5)), (8, .ref (ma 6)), (9, .ref (ma 7)), (10, .ref (ma 8)), (11, .ref (ma 9)), (12, .ref (ma 10)), (13, wi t0_1141), (14, wi v14_97), (17, wi x17_171)] [] (E_1228, C_1228, q_1228) (J E_1228 C_1228 q_1228)) ?_ (fun J1228 hJ1228 => ?_)
  · exact b_L_law_1228 h hm hG hS hX htb Ls xs a1 v14_97 x17_171 t0_1141 hxs J1788 hJ1788
  refine r_if_eq (tgt := 1228) dL_law_1145 (by decide) ?_ ?_
  · refine r_lo [1, 2, 3, 4, 5, 6, 7, 8, 9, 10, 11, 12, 13, 0, 14, 15] (lo2 := [(0, .ref sb), (1, .ref a1), (2, .ref (ma 0)), (3, .ref (ma 1)), (4, .ref (ma 2)), (5, .ref (ma 3)), (6, .ref (ma 4)), (7, .ref (ma 5)), (8, .ref (ma 6)), (9, .ref (ma 7)), (10, .ref (ma 8)), (11, .ref (ma 9)), (12, .ref (ma 10)), (13, wi t0_1141), (14, wi v14_97), (17, wi x17_171)]) rfl ?_
    exact hJ1228 E_1141 C_1141 q_1141
  · refine r_aload_n (x := ma 0) dL_law_1148 rfl rfl ?_
    refine r_aload (x := ma 6) dL_law_1149 rfl ?_
    refine r_aload (x := ma 8) dL_law_1151 rfl ?_
    refine r_iload (x := t0_189) dL_law_1153 rfl ?_
    refine ro_iconst (v := 0) dL_law_1155 rfl ?_
    refine r_csv (J := fun (E_ : Rw) => (E_, C_1141, q_1141)) (k2 := k_L_sets) (n := 5) (rest := []) (fun _ => rfl) htb kv_L_sets (c_L_sets (ad := adq ma q_1141) (K0 := C_1141) h (adq_hm hm) t0_189 0 _) (by decide) um_L_51 rfl (Nat.le_of_ble_eq_true rfl) dL_law_1156 rfl (fun r52 E53 => ?_)
    show RunO l Γ (kL T) 16 encI (em3 ma) 1159 [(13, wi t0_1141), (0, .ref sb), (1, .ref a1), (2, .ref (ma 0)), (3, .ref (ma 1)), (4, .ref (ma 2)), (5, .ref (ma 3)), (6, .ref (ma 4)), (7, .ref (ma 5)), (8, .ref (ma 6)), (9, .ref (ma 7)), (10, .ref (ma 8)), (11, .ref (ma 9)), (12, .ref (ma 10)), (14, wi v14_97), (17, wi x17_171), (18, wi t0_189), (23, wi x23_234), (24, wi t0_1098)] [] (E53, C_1141, q_1141) _
    refine r_aload (x := ma 6) dL_law_1159 rfl ?_
    refine r_bipush (v := 7) dL_law_1161 rfl ?_
    refine r_iload (x := t0_189) dL_law_1163 rfl ?_
    refine r_imul dL_law_1165 ?_
    refine ro_iconst (v := 0) dL_law_1166 rfl ?_
    refine r_wiast3 h (by decide) (by decide) (hm 6 (by decide)) dL_law_1167 (fun E54 => ?_)
    refine r_aload_n (x := ma 1) dL_law_1168 rfl rfl ?_
    refine r_iload (x := x23_234) dL_law_1169 rfl ?_
    refine r_aload_n (x := ma 1) dL_law_1171 rfl rfl ?_
    refine r_iload (x := t0_189) dL_law_1172 rfl ?_
    refine r_wiald3 h (by decide) (by decide) (hm 1 (by decide)) dL_law_1174 ?_
    refine r_wiast3 h (by decide) (by decide) (hm 1 (by decide)) dL_law_1175 (fun E55 => ?_)
    refine r_aload_n (x := ma 1) dL_law_1176 rfl rfl ?_
    refine r_iload (x := t0_189) dL_law_1177 rfl ?_
    refine r_aload_n (x := ma 0) dL_law_1179 rfl rfl ?_
    refine ro_iconst (v := 1) dL_law_1180 rfl ?_
    refine r_wiald3 h (by decide) (by decide) (hm 0 (by decide)) dL_law_1181 ?_
    refine ro_iconst (v := 1) dL_law_1182 rfl ?_
    refine r_iadd dL_law_1183 ?_
    refine r_wiast3 h (by decide) (by decide) (hm 1 (by decide)) dL_law_1184 (fun E56 => ?_)
    refine r_aload_n (x := ma 0) dL_law_1185 rfl rfl ?_
    refine ro_iconst (v := 2) dL_law_1186 rfl ?_
    refine r_dup2 dL_law_1187 rfl rfl ?_
    refine r_wiald3 h (by decide) (by decide) (hm 0 (by decide)) dL_law_1188 ?_
    refine ro_iconst (v := 1) dL_law_1189 rfl ?_
    refine r_iadd dL_law_1190 ?_
    refine r_wiast3 h (by decide) (by decide) (hm 0 (by decide)) dL_law_1191 (fun E57 => ?_)
    refine r_aload_n (x := ma 0) dL_law_1192 rfl rfl ?_
    refine r_aload (x := ma 2) dL_law_1193 rfl ?_
    refine r_aload (x := ma 3) dL_law_1195 rfl ?_
    refine r_aload_n (x := ma 0) dL_law_1197 rfl rfl ?_
    refine ro_iconst (v := 1) dL_law_1198 rfl ?_
    refine r_wiald3 h (by decide) (by decide) (hm 0 (by decide)) dL_law_1199 ?_
    refine r_aload_n (x := ma 0) dL_law_1200 rfl rfl ?_
    refine ro_iconst (v := 2) dL_law_1201 rfl ?_
    refine r_wiald3 h (by decide) (by decide) (hm 0 (by decide)) dL_law_1202 ?_
    refine r_ldc2 (v := 1024) uc_L_130 dL_law_1203 ?_
    refine r_bipush (v := 10) dL_law_1206 rfl ?_
    refine r_bipush (v := 16) dL_law_1208 rfl ?_
    refine r_iload (x := x23_234) dL_law_1210 rfl ?_
    refine r_imul dL_law_1212 ?_
    refine r_iadd dL_law_1213 ?_
    refine r_i2l dL_law_1214 ?_
    refine r_lor dL_law_1215 ?_
    refine r_csi (J := fun (E_ : Rw) => (E_, C_1141, q_1141)) (k2 := k_L_adds) (n := 6) (rest := []) (fun _ => rfl) htb kv_L_adds (c_L_adds (ad := adq ma q_1141) (K0 := C_1141) h (adq_hm hm) (E57 0 (ix 1)) (E57 0 (ix 2)) (lorI 1024 (w32 (10 + (16 * x23_234)))) _) (by decide) um_L_194 rfl (Nat.le_of_ble_eq_true rfl) dL_law_1216 rfl (fun r58 E59 => ?_)
    show RunO l Γ (kL T) 16 encI (em3 ma) 1219 [(13, wi t0_1141), (0, .ref sb), (1, .ref a1), (2, .ref (ma 0)), (3, .ref (ma 1)), (4, .ref (ma 2)), (5, .ref (ma 3)), (6, .ref (ma 4)), (7, .ref (ma 5)), (8, .ref (ma 6)), (9, .ref (ma 7)), (10, .ref (ma 8)), (11, .ref (ma 9)), (12, .ref (ma 10)), (14, wi v14_97), (17, wi x17_171), (18, wi t0_189), (23, wi x23_234), (24, wi t0_1098)] [wi r58] (E59, C_1141, q_1141) _
    refine r_istore (lo2 := [(25, wi r58), (13, wi t0_1141), (0, .ref sb), (1, .ref a1), (2, .ref (ma 0)), (3, .ref (ma 1)), (4, .ref (ma 2)), (5, .ref (ma 3)), (6, .ref (ma 4)), (7, .ref (ma 5)), (8, .ref (ma 6)), (9, .ref (ma 7)), (10, .ref (ma 8)), (11, .ref (ma 9)), (12, .ref (ma 10)), (14, wi v14_97), (17, wi x17_171), (18, wi t0_189), (23, wi x23_234), (24, wi t0_1098)]) dL_law_1219 (show 25 < 35 by decide) rfl ?_
    refine r_aload_n (x := ma 0) dL_law_1221 rfl rfl ?_
    refine ro_iconst (v := 1) dL_law_1222 rfl ?_
    refine r_dup2 dL_law_1223 rfl rfl ?_
    refine r_wiald3 h (by decide) (by decide) (hm 0 (by decide)) dL_law_1224 ?_
    refine ro_iconst (v := 1) dL_law_1225 rfl ?_
    refine r_iadd dL_law_1226 ?_
    refine r_wiast3 h (by decide) (by decide) (hm 0 (by decide)) dL_law_1227 (fun E60 => ?_)
    refine r_lo [2, 3, 4, 5, 6, 7, 8, 9, 10, 11, 12, 13, 14, 1, 15, 16] (lo2 := [(0, .ref sb), (1, .ref a1), (2, .ref (ma 0)), (3, .ref (ma 1)), (4, .ref (ma 2)), (5, .ref (ma 3)), (6, .ref (ma 4)), (7, .ref (ma 5)), (8, .ref (ma 6)), (9, .ref (ma 7)), (10, .ref (ma 8)), (11, .ref (ma 9)), (12, .ref (ma 10)), (13, wi t0_1141), (14, wi v14_97), (17, wi x17_171)]) rfl ?_
    exact hJ1228 E60 C_1141 q_1141
set_option maxHeartbeats 8000000 in
set_option maxRecDepth 100000 in
theorem b_L_law_1133 {l : Launch} {Γ : Cx} {ma : Nat → Nat} (h : wOn Γ) (hm : ∀ k, k ≤ 10 → ma k ≠ 0) (hG : GK Γ l) {sT : Nat → Nat} (hS : STs Γ sT) (hX : XN Γ) {T : List ExceptionTableEntry} (htb : T = []) {sb : Nat} (Ls : Nat) (xs : Nat → Int32) (a1 : Nat) (v14_97 : Int) (x17_171 : Int) (t0_189 : Int) (x23_234 : Int) (t0_1098 : Int) (r50 : Int) (hxs : XScr Γ sb Ls xs) (J1788 : Int → Rw → Cd → (Nat → Nat) → Option (Int × S3)) (hJ1788 : ∀ (v13_1788 : Int) (E_1788 : Rw) (C_1788 : Cd) (q_1788 : (Nat → Nat)), RunO l Γ (kL T) 16 encI (em3 ma) 1788 [(0, .ref sb), (1, .ref a1), (2, .ref (ma 0)), (3, .ref (ma 1)), (4, .ref (ma 2)), (5, .ref (ma 3)), (6, .ref (ma 4)), (7, .ref (ma 5)), (8, .ref (ma 6)), (9, .ref (ma 7)), (10, .ref (ma 8)), (11, .ref (ma 9)), (12, .ref (ma 10)), (13, wi v13_1788), (14, wi v14_97), (17, wi x17_171)] [] (E_1788, C_1788, q_1788) (J1788 v13_1788 E_1788 C_1788 q_1788)) : ∀ (t0_1133 : Int) (E_1133 : Rw) (C_1133 : Cd) (q_1133 : (Nat → Nat)), RunO l Γ (kL T) 16 encI (em3 ma) 1133 [(0, .ref sb), (1, .ref a1), (2, .ref (ma 0)), (3, .ref (ma 1)), (4, .ref (ma 2)), (5, .ref (ma 3)), (6, .ref (ma 4)), (7, .ref (ma 5)), (8, .ref (ma 6)), (9, .ref (ma 7)), (10, .ref (ma 8)), (11, .ref (ma 9)), (12, .ref (ma 10)), (14, wi v14_97), (17, wi x17_171), (18, wi t0_189), (23, wi x23_234), (24, wi t0_1098)] [wi t0_1133, wi r50] (E_1133, C_1133, q_1133) (fW_law_1133 t0_189 x23_234 J1788 t0_1098 r50 t0_1133 E_1133 C_1133 q_1133) := by
  intro t0_1133 E_1133 C_1133 q_1133
  unfold fW_law_1133
  refine r_join (P := fun (J : Int → Rw → Cd → (Nat → Nat) → Option (Int × S3)) => ∀ (t0_1141 : Int) (E_1141 : Rw) (C_1141 : Cd) (q_1141 : (Nat → Nat)), RunO l Γ (kL T) 16 encI (em3 ma) 1141 [(0, .ref sb), (1, .ref a1), (2, .ref (ma 0)), (3, .ref (ma 1)), (4, .ref (ma 2)), (5, .ref (ma 3)), (6, .ref (ma 4)), (7, .ref (ma 5)), (8, .ref (ma 6)), (9, .ref (ma 7)), (10, .ref (ma 8)), (11, .ref (ma 9)), (12, .ref (ma 10)), (14, wi v14_97), (17, wi x17_171), (18, wi t0_189), (23, wi x23_234), (24, wi t0_1098)] [wi t0_1141] (E_1141, C_1141, q_1141) (J t0_1141 E_1141 C_1141 q_1141)) ?_ (fun J1141 hJ1141 => ?_)
  · exact b_L_law_1141 h hm hG hS hX htb Ls xs a1 v14_97 x17_171 t0_189 x23_234 t0_1098 hxs J1788 hJ1788
  refine r_icmp_ne (tgt := 1140) dL_law_1133 (by decide) ?_ ?_
  · refine ro_iconst (v := 0) dL_law_1140 rfl ?_
    exact hJ1141 0 E_1133 C_1133 q_1133
  · refine ro_iconst (v := 1) dL_law_1136 rfl ?_
    refine r_goto (tgt := 1141) dL_law_1137 (by decide) ?_
    exact hJ1141 1 E_1133 C_1133 q_1133
set_option maxHeartbeats 8000000 in
set_option maxRecDepth 100000 in
theorem b_L_law_1098 {l : Launch} {Γ : Cx} {ma : Nat → Nat} (h : wOn Γ) (hm : ∀ k, k ≤ 10 → ma k ≠ 0) (hG : GK Γ l) {sT : Nat → Nat} (hS : STs Γ sT) (hX : XN Γ) {T : List ExceptionTableEntry} (htb : T = []) {sb : Nat} (Ls : Nat) (xs : Nat → Int32) (a1 : Nat) (v14_97 : Int) (x17_171 : Int) (t0_189 : Int) (t0_203 : Int) (x23_234 : Int) (hxs : XScr Γ sb Ls xs) (J1788 : Int → Rw → Cd → (Nat → Nat) → Option (Int × S3)) (hJ1788 : ∀ (v13_1788 : Int) (E_1788 : Rw) (C_1788 : Cd) (q_1788 : (Nat → Nat)), RunO l Γ (kL T) 16 encI (em3 ma) 1788 [(0, .ref sb), (1, .ref a1), (2, .ref (ma 0)), (3, .ref (ma 1)), (4, .ref (ma 2)), (5, .ref (ma 3)), (6, .ref (ma 4)), (7, .ref (ma 5)), (8, .ref (ma 6)), (9, .ref (ma 7)), (10, .ref (ma 8)), (11, .ref (ma 9)), (12, .ref (ma 10)), (13, wi v13_1788), (14, wi v14_97), (17, wi x17_171)] [] (E_1788, C_1788, q_1788) (J1788 v13_1788 E_1788 C_1788 q_1788)) : ∀ (t0_1098 : Int) (E_1098 : Rw) (C_1098 : Cd) (q_1098 : (Nat → Nat)), RunO l Γ (kL T) 16 encI (em3 ma) 1098 [(0, .ref sb), (1, .ref a1), (2, .ref (ma 0)), (3, .ref (ma 1)), (4, .ref (ma 2)), (5, .ref (ma 3)), (6, .ref (ma 4)), (7, .ref (ma 5)), (8, .ref (ma 6)), (9, .ref (ma 7)), (10, .ref (ma 8)), (11, .ref (ma 9)), (12, .ref (ma 10)), (14, wi v14_97), (17, wi x17_171), (18, wi t0_189), (19, wi t0_203), (23, wi x23_234)] [wi t0_1098] (E_1098, C_1098, q_1098) (fW_law_1098 a1 t0_189 t0_203 x23_234 J1788 t0_1098 E_1098 C_1098 q_1098) := by
  intro t0_1098 E_1098 C_1098 q_1098
  unfold fW_law_1098
  refine r_istore (lo2 := [(24, wi t0_1098), (0, .ref sb), (1, .ref a1), (2, .ref (ma 0)), (3, .ref (ma 1)), (4, .ref (ma 2)), (5, .ref (ma 3)), (6, .ref (ma 4)), (7, .ref (ma 5)), (8, .ref (ma 6)), (9, .ref (ma 7)), (10, .ref (ma 8)), (11, .ref (ma 9)), (12, .ref (ma 10)), (14, wi v14_97), (17, wi x17_171), (18, wi t0_189), (19, wi t0_203), (23, wi x23_234)]) dL_law_1098 (show 24 < 35 by decide) rfl ?_
  refine r_aload_n (x := a1) dL_law_1100 rfl rfl ?_
  refine ro_iconst (v := 4) dL_law_1101 rfl ?_
  refine r_iload (x := t0_189) dL_law_1102 rfl ?_
  refine r_iload (x := x23_234) dL_law_1104 rfl ?_
  refine ro_iconst (v := 0) dL_law_1106 rfl ?_
  refine r_csHi (J := fun (C_ : Cd) => (E_1098, C_, q_1098)) (k2 := k_L_does) (n := 5) (rest := []) (fun _ => rfl) kv_L_does (c_L_does (M0 := (fun k => (adq ma q_1098 k : Int), E_1098)) hG hX a1 4 t0_189 x23_234 0 _) (by decide) um_L_132 rfl (Nat.le_of_ble_eq_true rfl) dL_law_1107 rfl (fun r50 C51 => ?_)
  show RunO l Γ (kL T) 16 encI (em3 ma) 1110 [(24, wi t0_1098), (0, .ref sb), (1, .ref a1), (2, .ref (ma 0)), (3, .ref (ma 1)), (4, .ref (ma 2)), (5, .ref (ma 3)), (6, .ref (ma 4)), (7, .ref (ma 5)), (8, .ref (ma 6)), (9, .ref (ma 7)), (10, .ref (ma 8)), (11, .ref (ma 9)), (12, .ref (ma 10)), (14, wi v14_97), (17, wi x17_171), (18, wi t0_189), (19, wi t0_203), (23, wi x23_234)] [wi r50] (E_1098, C51, q_1098) _
  refine r_iload (x := t0_203) dL_law_1110 rfl ?_
  refine r_join (P := fun (J : Int → Rw → Cd → (Nat → Nat) → Option (Int × S3)) => ∀ (t0_1133 : Int) (E_1133 : Rw) (C_1133 : Cd) (q_1133 : (Nat → Nat)), RunO l Γ (kL T) 16 encI (em3 ma) 1133 [(0, .ref sb), (1, .ref a1), (2, .ref (ma 0)), (3, .ref (ma 1)), (4, .ref (ma 2)), (5, .ref (ma 3)), (6, .ref (ma 4)), (7, .ref (ma 5)), (8, .ref (ma 6)), (9, .ref (ma 7)), (10, .ref (ma 8)), (11, .ref (ma 9)), (12, .ref (ma 10)), (14, wi v14_97), (17, wi x17_171), (18, wi t0_189), (23, wi x23_234), (24, wi t0_1098)] [wi t0_1133, wi r50] (E_1133, C_1133, q_1133) (J t0_1133 E_1133 C_1133 q_1133)) ?_ (fun J1133 hJ1133 => ?_)
  · exact b_L_law_1133 h hm hG hS hX htb Ls xs a1 v14_97 x17_171 t0_189 x23_234 t0_1098 r50 hxs J1788 hJ1788
  refine r_if_ne (tgt := 1120) dL_law_1112 (by decide) ?_ ?_
  · refine r_iload (x := t0_1098) dL_law_1120 rfl ?_
    refine r_if_eq (tgt := 1131) dL_law_1122 (by decide) ?_ ?_
    · refine r_bipush (v := (-13)) dL_law_1131 rfl ?_
      refine r_lo [1, 2, 3, 4, 5, 6, 7, 8, 9, 10, 11, 12, 13, 14, 15, 16, 18, 0] (lo2 := [(0, .ref sb), (1, .ref a1), (2, .ref (ma 0)), (3, .ref (ma 1)), (4, .ref (ma 2)), (5, .ref (ma 3)), (6, .ref (ma 4)), (7, .ref (ma 5)), (8, .ref (ma 6)), (9, .ref (ma 7)), (10, .ref (ma 8)), (11, .ref (ma 9)), (12, .ref (ma 10)), (14, wi v14_97), (17, wi x17_171), (18, wi t0_189), (23, wi x23_234), (24, wi t0_1098)]) rfl ?_
      exact hJ1133 (-13) E_1098 C51 q_1098
    · refine r_aload_n (x := ma 0) dL_law_1125 rfl rfl ?_
      refine ro_iconst (v := 0) dL_law_1126 rfl ?_
      refine r_wiald3 h (by decide) (by decide) (hm 0 (by decide)) dL_law_1127 ?_
      refine r_goto (tgt := 1133) dL_law_1128 (by decide) ?_
      refine r_lo [1, 2, 3, 4, 5, 6, 7, 8, 9, 10, 11, 12, 13, 14, 15, 16, 18, 0] (lo2 := [(0, .ref sb), (1, .ref a1), (2, .ref (ma 0)), (3, .ref (ma 1)), (4, .ref (ma 2)), (5, .ref (ma 3)), (6, .ref (ma 4)), (7, .ref (ma 5)), (8, .ref (ma 6)), (9, .ref (ma 7)), (10, .ref (ma 8)), (11, .ref (ma 9)), (12, .ref (ma 10)), (14, wi v14_97), (17, wi x17_171), (18, wi t0_189), (23, wi x23_234), (24, wi t0_1098)]) rfl ?_
      exact hJ1133 (E_1098 0 (ix 0)) E_1098 C51 q_1098
  · refine r_bipush (v := (-11)) dL_law_1115 rfl ?_
    refine r_goto (tgt := 1133) dL_law_1117 (by decide) ?_
    refine r_lo [1, 2, 3, 4, 5, 6, 7, 8, 9, 10, 11, 12, 13, 14, 15, 16, 18, 0] (lo2 := [(0, .ref sb), (1, .ref a1), (2, .ref (ma 0)), (3, .ref (ma 1)), (4, .ref (ma 2)), (5, .ref (ma 3)), (6, .ref (ma 4)), (7, .ref (ma 5)), (8, .ref (ma 6)), (9, .ref (ma 7)), (10, .ref (ma 8)), (11, .ref (ma 9)), (12, .ref (ma 10)), (14, wi v14_97), (17, wi x17_171), (18, wi t0_189), (23, wi x23_234), (24, wi t0_1098)]) rfl ?_
    exact hJ1133 (-11) E_1098 C51 q_1098
set_option maxHeartbeats 8000000 in
set_option maxRecDepth 100000 in
theorem b_L_law_1097 {l : Launch} {Γ : Cx} {ma : Nat → Nat} (h : wOn Γ) (hm : ∀ k, k ≤ 10 → ma k ≠ 0) (hG : GK Γ l) {sT : Nat → Nat} (hS : STs Γ sT) (hX : XN Γ) {T : List ExceptionTableEntry} (htb : T = []) {sb : Nat} (Ls : Nat) (xs : Nat → Int32) (a1 : Nat) (v14_97 : Int) (x17_171 : Int) (t0_189 : Int) (t0_203 : Int) (x23_234 : Int) (hxs : XScr Γ sb Ls xs) (J1098 : Int → Rw → Cd → (Nat → Nat) → Option (Int × S3)) (hJ1098 : ∀ (t0_1098 : Int) (E_1098 : Rw) (C_1098 : Cd) (q_1098 : (Nat → Nat)), RunO l Γ (kL T) 16 encI (em3 ma) 1098 [(0, .ref sb), (1, .ref a1), (2, .ref (ma 0)), (3, .ref (ma 1)), (4, .ref (ma 2)), (5, .ref (ma 3)), (6, .ref (ma 4)), (7, .ref (ma 5)), (8, .ref (ma 6)), (9, .ref (ma 7)), (10, .ref (ma 8)), (11, .ref (ma 9)), (12, .ref (ma 10)), (14, wi v14_97), (17, wi x17_171), (18, wi t0_189), (19, wi t0_203), (23, wi x23_234)] [wi t0_1098] (E_1098, C_1098, q_1098) (J1098 t0_1098 E_1098 C_1098 q_1098)) : ∀ (E_1097 : Rw) (C_1097 : Cd) (q_1097 : (Nat → Nat)), RunO l Γ (kL T) 16 encI (em3 ma) 1097 [(0, .ref sb), (1, .ref a1), (2, .ref (ma 0)), (3, .ref (ma 1)), (4, .ref (ma 2)), (5, .ref (ma 3)), (6, .ref (ma 4)), (7, .ref (ma 5)), (8, .ref (ma 6)), (9, .ref (ma 7)), (10, .ref (ma 8)), (11, .ref (ma 9)), (12, .ref (ma 10)), (14, wi v14_97), (17, wi x17_171), (18, wi t0_189), (19, wi t0_203), (23, wi x23_234)] [] (E_1097, C_1097, q_1097) (fW_law_1097 J1098 E_1097 C_1097 q_1097) := by
  intro E_1097 C_1097 q_1097
  unfold fW_law_1097
  refine ro_iconst (v := 0) dL_law_1097 rfl ?_
  exact hJ1098 0 E_1097 C_1097 q_1097
set_option maxHeartbeats 8000000 in
set_option maxRecDepth 100000 in
theorem b_L_law_1066 {l : Launch} {Γ : Cx} {ma : Nat → Nat} (h : wOn Γ) (hm : ∀ k, k ≤ 10 → ma k ≠ 0) (hG : GK Γ l) {sT : Nat → Nat} (hS : STs Γ sT) (hX : XN Γ) {T : List ExceptionTableEntry} (htb : T = []) {sb : Nat} (Ls : Nat) (xs : Nat → Int32) (a1 : Nat) (v14_97 : Int) (t0_164 : Int) (x17_171 : Int) (t0_189 : Int) (t0_203 : Int) (r9 : Int) (x23_234 : Int) (hxs : XScr Γ sb Ls xs) (J1788 : Int → Rw → Cd → (Nat → Nat) → Option (Int × S3)) (hJ1788 : ∀ (v13_1788 : Int) (E_1788 : Rw) (C_1788 : Cd) (q_1788 : (Nat → Nat)), RunO l Γ (kL T) 16 encI (em3 ma) 1788 [(0, .ref sb), (1, .ref a1), (2, .ref (ma 0)), (3, .ref (ma 1)), (4, .ref (ma 2)), (5, .ref (ma 3)), (6, .ref (ma 4)), (7, .ref (ma 5)), (8, .ref (ma 6)), (9, .ref (ma 7)), (10, .ref (ma 8)), (11, .ref (ma 9)), (12, .ref (ma 10)), (13, wi v13_1788), (14, wi v14_97), (17, wi x17_171)] [] (E_1788, C_1788, q_1788) (J1788 v13_1788 E_1788 C_1788 q_1788)) : ∀ (E_1066 : Rw) (C_1066 : Cd) (q_1066 : (Nat → Nat)), RunO l Γ (kL T) 16 encI (em3 ma) 1066 [(0, .ref sb), (1, .ref a1), (2, .ref (ma 0)), (3, .ref (ma 1)), (4, .ref (ma 2)), (5, .ref (ma 3)), (6, .ref (ma 4)), (7, .ref (ma 5)), (8, .ref (ma 6)), (9, .ref (ma 7)), (10, .ref (ma 8)), (11, .ref (ma 9)), (12, .ref (ma 10)), (14, wi v14_97), (16, wi t0_164), (17, wi x17_171), (18, wi t0_189), (19, wi t0_203), (20, wi r9), (23, wi x23_234)] [] (E_1066, C_1066, q_1066) (fW_law_1066 a1 t0_164 x17_171 t0_189 t0_203 r9 x23_234 J1788 E_1066 C_1066 q_1066) := by
  intro E_1066 C_1066 q_1066
  unfold fW_law_1066
  refine r_iload (x := t0_164) dL_law_1066 rfl ?_
  refine r_bipush (v := 14) dL_law_1068 rfl ?_
  refine r_join (P := fun (J : Rw → Cd → (Nat → Nat) → Option (Int × S3)) => ∀ (E_1231 : Rw) (C_1231 : Cd) (q_1231 : (Nat → Nat)), RunO l Γ (kL T) 16 encI (em3 ma) 1231 [(0, .ref sb), (1, .ref a1), (2, .ref (ma 0)), (3, .ref (ma 1)), (4, .ref (ma 2)), (5, .ref (ma 3)), (6, .ref (ma 4)), (7, .ref (ma 5)), (8, .ref (ma 6)), (9, .ref (ma 7)), (10, .ref (ma 8)), (11, .ref (ma 9)), (12, .ref (ma 10)), (14, wi v14_97), (16, wi t0_164), (17, wi x17_171), (18, wi t0_189), (19, wi t0_203), (20, wi r9), (23, wi x23_234)] [] (E_1231, C_1231, q_1231) (J E_1231 C_1231 q_1231)) ?_ (fun J1231 hJ1231 => ?_)
  · exact b_L_law_1231 h hm hG hS hX htb Ls xs a1 v14_97 t0_164 x17_171 t0_189 t0_203 r9 x23_234 hxs J1788 hJ1788
  refine r_icmp_ge (tgt := 1231) dL_law_1070 (by decide) ?_ ?_
  · exact hJ1231 E_1066 C_1066 q_1066
  · refine r_aload_n (x := ma 0) dL_law_1073 rfl rfl ?_
    refine ro_iconst (v := 0) dL_law_1074 rfl ?_
    refine r_wiald3 h (by decide) (by decide) (hm 0 (by decide)) dL_law_1075 ?_
    refine r_bipush (v := 32) dL_law_1076 rfl ?_
    refine r_icmp_ge (tgt := 1231) dL_law_1078 (by decide) ?_ ?_
    · exact hJ1231 E_1066 C_1066 q_1066
    · refine r_iload (x := t0_203) dL_law_1081 rfl ?_
      refine r_join (P := fun (J : Int → Rw → Cd → (Nat → Nat) → Option (Int × S3)) => ∀ (t0_1098 : Int) (E_1098 : Rw) (C_1098 : Cd) (q_1098 : (Nat → Nat)), RunO l Γ (kL T) 16 encI (em3 ma) 1098 [(0, .ref sb), (1, .ref a1), (2, .ref (ma 0)), (3, .ref (ma 1)), (4, .ref (ma 2)), (5, .ref (ma 3)), (6, .ref (ma 4)), (7, .ref (ma 5)), (8, .ref (ma 6)), (9, .ref (ma 7)), (10, .ref (ma 8)), (11, .ref (ma 9)), (12, .ref (ma 10)), (14, wi v14_97), (17, wi x17_171), (18, wi t0_189), (19, wi t0_203), (23, wi x23_234)] [wi t0_1098] (E_1098, C_1098, q_1098) (J t0_1098 E_1098 C_1098 q_1098)) ?_ (fun J1098 hJ1098 => ?_)
      · exact b_L_law_1098 h hm hG hS hX htb Ls xs a1 v14_97 x17_171 t0_189 t0_203 x23_234 hxs J1788 hJ1788
      refine r_join (P := fun (J : Rw → Cd → (Nat → Nat) → Option (Int × S3)) => ∀ (E_1097 : Rw) (C_1097 : Cd) (q_1097 : (Nat → Nat)), RunO l Γ (kL T) 16 encI (em3 ma) 1097 [(0, .ref sb), (1, .ref a1), (2, .ref (ma 0)), (3, .ref (ma 1)), (4, .ref (ma 2)), (5, .ref (ma 3)), (6, .ref (ma 4)), (7, .ref (ma 5)), (8, .ref (ma 6)), (9, .ref (ma 7)), (10, .ref (ma 8)), (11, .ref (ma 9)), (12, .ref (ma 10)), (14, wi v14_97), (17, wi x17_171), (18, wi t0_189), (19, wi t0_203), (23, wi x23_234)] [] (E_1097, C_1097, q_1097) (J E_1097 C_1097 q_1097)) ?_ (fun J1097 hJ1097 => ?_)
      · exact b_L_law_1097 h hm hG hS hX htb Ls xs a1 v14_97 x17_171 t0_189 t0_203 x23_234 hxs J1098 hJ1098
      refine r_if_eq (tgt := 1097) dL_law_1083 (by decide) ?_ ?_
      · refine r_lo [0, 1, 2, 3, 4, 5, 6, 7, 8, 9, 10, 11, 12, 13, 15, 16, 17, 19] (lo2 := [(0, .ref sb), (1, .ref a1), (2, .ref (ma 0)), (3, .ref (ma 1)), (4, .ref (ma 2)), (5, .ref (ma 3)), (6, .ref (ma 4)), (7, .ref (ma 5)), (8, .ref (ma 6)), (9, .ref (ma 7)), (10, .ref (ma 8)), (11, .ref (ma 9)), (12, .ref (ma 10)), (14, wi v14_97), (17, wi x17_171), (18, wi t0_189), (19, wi t0_203), (23, wi x23_234)]) rfl ?_
        exact hJ1097 E_1066 C_1066 q_1066
      · refine r_aload_n (x := ma 1) dL_law_1086 rfl rfl ?_
        refine r_iload (x := x23_234) dL_law_1087 rfl ?_
        refine r_wiald3 h (by decide) (by decide) (hm 1 (by decide)) dL_law_1089 ?_
        refine r_if_ne (tgt := 1097) dL_law_1090 (by decide) ?_ ?_
        · refine r_lo [0, 1, 2, 3, 4, 5, 6, 7, 8, 9, 10, 11, 12, 13, 15, 16, 17, 19] (lo2 := [(0, .ref sb), (1, .ref a1), (2, .ref (ma 0)), (3, .ref (ma 1)), (4, .ref (ma 2)), (5, .ref (ma 3)), (6, .ref (ma 4)), (7, .ref (ma 5)), (8, .ref (ma 6)), (9, .ref (ma 7)), (10, .ref (ma 8)), (11, .ref (ma 9)), (12, .ref (ma 10)), (14, wi v14_97), (17, wi x17_171), (18, wi t0_189), (19, wi t0_203), (23, wi x23_234)]) rfl ?_
          exact hJ1097 E_1066 C_1066 q_1066
        · refine ro_iconst (v := 1) dL_law_1093 rfl ?_
          refine r_goto (tgt := 1098) dL_law_1094 (by decide) ?_
          refine r_lo [0, 1, 2, 3, 4, 5, 6, 7, 8, 9, 10, 11, 12, 13, 15, 16, 17, 19] (lo2 := [(0, .ref sb), (1, .ref a1), (2, .ref (ma 0)), (3, .ref (ma 1)), (4, .ref (ma 2)), (5, .ref (ma 3)), (6, .ref (ma 4)), (7, .ref (ma 5)), (8, .ref (ma 6)), (9, .ref (ma 7)), (10, .ref (ma 8)), (11, .ref (ma 9)), (12, .ref (ma 10)), (14, wi v14_97), (17, wi x17_171), (18, wi t0_189), (19, wi t0_203), (23, wi x23_234)]) rfl ?_
          exact hJ1098 1 E_1066 C_1066 q_1066
