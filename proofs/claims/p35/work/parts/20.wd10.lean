set_option maxHeartbeats 8000000 in
set_option maxRecDepth 100000 in
theorem b_L_law_542 {l : Launch} {Γ : Cx} {ma : Nat → Nat} (h : wOn Γ) (hm : ∀ k, k ≤ 10 → ma k ≠ 0) (hG : GK Γ l) {sT : Nat → Nat} (hS : STs Γ sT) (hX : XN Γ) {T : List ExceptionTableEntry} (htb : T = []) {sb : Nat} (Ls : Nat) (xs : Nat → Int32) (a1 : Nat) (v13_97 : Int) (v14_97 : Int) (x17_171 : Int) (t0_189 : Int) (r9 : Int) (t0_420 : Int) (x25_430 : Int) (t0_450 : Int) (t0_475 : Int) (t0_508 : Int) (hxs : XScr Γ sb Ls xs) (J1788 : Int → Rw → Cd → (Nat → Nat) → Option (Int × S3)) (hJ1788 : ∀ (v13_1788 : Int) (E_1788 : Rw) (C_1788 : Cd) (q_1788 : (Nat → Nat)), RunO l Γ (kL T) 16 encI (em3 ma) 1788 [(0, .ref sb), (1, .ref a1), (2, .ref (ma 0)), (3, .ref (ma 1)), (4, .ref (ma 2)), (5, .ref (ma 3)), (6, .ref (ma 4)), (7, .ref (ma 5)), (8, .ref (ma 6)), (9, .ref (ma 7)), (10, .ref (ma 8)), (11, .ref (ma 9)), (12, .ref (ma 10)), (13, wi v13_1788), (14, wi v14_97), (17, wi x17_171)] [] (E_1788, C_1788, q_1788) (J1788 v13_1788 E_1788 C_1788 q_1788)) : ∀ (t0_542 : Int) (E_542 : Rw) (C_542 : Cd) (q_542 : (Nat → Nat)), RunO l Γ (kL T) 16 encI (em3 ma) 542 [(0, .ref sb), (1, .ref a1), (2, .ref (ma 0)), (3, .ref (ma 1)), (4, .ref (ma 2)), (5, .ref (ma 3)), (6, .ref (ma 4)), (7, .ref (ma 5)), (8, .ref (ma 6)), (9, .ref (ma 7)), (10, .ref (ma 8)), (11, .ref (ma 9)), (12, .ref (ma 10)), (13, wi v13_97), (14, wi v14_97), (17, wi x17_171), (18, wi t0_189), (20, wi r9), (24, wi t0_420), (25, wi x25_430), (26, vl t0_450), (28, wi t0_475), (29, vl t0_508)] [vl t0_542] (E_542, C_542, q_542) (fW_law_542 a1 v13_97 t0_189 r9 J1788 t0_420 x25_430 t0_450 t0_475 t0_508 t0_542 E_542 C_542 q_542) := by
  intro t0_542 E_542 C_542 q_542
  unfold fW_law_542
  refine r_lstore (lo2 := [(31, vl t0_542), (0, .ref sb), (1, .ref a1), (2, .ref (ma 0)), (3, .ref (ma 1)), (4, .ref (ma 2)), (5, .ref (ma 3)), (6, .ref (ma 4)), (7, .ref (ma 5)), (8, .ref (ma 6)), (9, .ref (ma 7)), (10, .ref (ma 8)), (11, .ref (ma 9)), (12, .ref (ma 10)), (13, wi v13_97), (14, wi v14_97), (17, wi x17_171), (18, wi t0_189), (20, wi r9), (24, wi t0_420), (25, wi x25_430), (26, vl t0_450), (28, wi t0_475), (29, vl t0_508)]) dL_law_542 (show 31 + 1 < 35 by decide) rfl ?_
  refine r_iload (x := t0_475) dL_law_544 rfl ?_
  refine r_join (P := fun (J : Int → Rw → Cd → (Nat → Nat) → Option (Int × S3)) => ∀ (t0_580 : Int) (E_580 : Rw) (C_580 : Cd) (q_580 : (Nat → Nat)), RunO l Γ (kL T) 16 encI (em3 ma) 580 [(0, .ref sb), (1, .ref a1), (2, .ref (ma 0)), (3, .ref (ma 1)), (4, .ref (ma 2)), (5, .ref (ma 3)), (6, .ref (ma 4)), (7, .ref (ma 5)), (8, .ref (ma 6)), (9, .ref (ma 7)), (10, .ref (ma 8)), (11, .ref (ma 9)), (12, .ref (ma 10)), (13, wi v13_97), (14, wi v14_97), (17, wi x17_171), (18, wi t0_189), (24, wi t0_420), (25, wi x25_430), (26, vl t0_450), (28, wi t0_475), (29, vl t0_508), (31, vl t0_542)] [wi t0_580] (E_580, C_580, q_580) (J t0_580 E_580 C_580 q_580)) ?_ (fun J580 hJ580 => ?_)
  · exact b_L_law_580 h hm hG hS hX htb Ls xs a1 v13_97 v14_97 x17_171 t0_189 t0_420 x25_430 t0_450 t0_475 t0_508 t0_542 hxs J1788 hJ1788
  refine r_join (P := fun (J : Rw → Cd → (Nat → Nat) → Option (Int × S3)) => ∀ (E_579 : Rw) (C_579 : Cd) (q_579 : (Nat → Nat)), RunO l Γ (kL T) 16 encI (em3 ma) 579 [(0, .ref sb), (1, .ref a1), (2, .ref (ma 0)), (3, .ref (ma 1)), (4, .ref (ma 2)), (5, .ref (ma 3)), (6, .ref (ma 4)), (7, .ref (ma 5)), (8, .ref (ma 6)), (9, .ref (ma 7)), (10, .ref (ma 8)), (11, .ref (ma 9)), (12, .ref (ma 10)), (13, wi v13_97), (14, wi v14_97), (17, wi x17_171), (18, wi t0_189), (24, wi t0_420), (25, wi x25_430), (26, vl t0_450), (28, wi t0_475), (29, vl t0_508), (31, vl t0_542)] [] (E_579, C_579, q_579) (J E_579 C_579 q_579)) ?_ (fun J579 hJ579 => ?_)
  · exact b_L_law_579 h hm hG hS hX htb Ls xs a1 v13_97 v14_97 x17_171 t0_189 t0_420 x25_430 t0_450 t0_475 t0_508 t0_542 hxs J580 hJ580
  refine r_if_eq (tgt := 579) dL_law_546 (by decide) ?_ ?_
  · refine r_lo [1, 2, 3, 4, 5, 6, 7, 8, 9, 10, 11, 12, 13, 14, 15, 16, 17, 19, 20, 21, 22, 23, 0] (lo2 := [(0, .ref sb), (1, .ref a1), (2, .ref (ma 0)), (3, .ref (ma 1)), (4, .ref (ma 2)), (5, .ref (ma 3)), (6, .ref (ma 4)), (7, .ref (ma 5)), (8, .ref (ma 6)), (9, .ref (ma 7)), (10, .ref (ma 8)), (11, .ref (ma 9)), (12, .ref (ma 10)), (13, wi v13_97), (14, wi v14_97), (17, wi x17_171), (18, wi t0_189), (24, wi t0_420), (25, wi x25_430), (26, vl t0_450), (28, wi t0_475), (29, vl t0_508), (31, vl t0_542)]) rfl ?_
    exact hJ579 E_542 C_542 q_542
  · refine r_lload (x := t0_542) dL_law_549 rfl ?_
    refine r_lconst (x := 1) dL_law_551 rfl ?_
    refine r_lcmp dL_law_552 ?_
    refine r_if_le (tgt := 579) dL_law_553 (by decide) ?_ ?_
    · refine r_lo [1, 2, 3, 4, 5, 6, 7, 8, 9, 10, 11, 12, 13, 14, 15, 16, 17, 19, 20, 21, 22, 23, 0] (lo2 := [(0, .ref sb), (1, .ref a1), (2, .ref (ma 0)), (3, .ref (ma 1)), (4, .ref (ma 2)), (5, .ref (ma 3)), (6, .ref (ma 4)), (7, .ref (ma 5)), (8, .ref (ma 6)), (9, .ref (ma 7)), (10, .ref (ma 8)), (11, .ref (ma 9)), (12, .ref (ma 10)), (13, wi v13_97), (14, wi v14_97), (17, wi x17_171), (18, wi t0_189), (24, wi t0_420), (25, wi x25_430), (26, vl t0_450), (28, wi t0_475), (29, vl t0_508), (31, vl t0_542)]) rfl ?_
      exact hJ579 E_542 C_542 q_542
    · refine r_lload (x := t0_542) dL_law_556 rfl ?_
      refine r_csi (J := fun (_ : Unit) => (E_542, C_542, q_542)) (k2 := k_L_isText) (n := 1) (rest := []) (fun _ => rfl) htb kv_L_isText (c_L_isText (σ0 := _) t0_542) (by decide) um_L_206 rfl (Nat.le_of_ble_eq_true rfl) dL_law_558 rfl (fun r88 _ => ?_)
      show RunO l Γ (kL T) 16 encI (em3 ma) 561 [(31, vl t0_542), (0, .ref sb), (1, .ref a1), (2, .ref (ma 0)), (3, .ref (ma 1)), (4, .ref (ma 2)), (5, .ref (ma 3)), (6, .ref (ma 4)), (7, .ref (ma 5)), (8, .ref (ma 6)), (9, .ref (ma 7)), (10, .ref (ma 8)), (11, .ref (ma 9)), (12, .ref (ma 10)), (13, wi v13_97), (14, wi v14_97), (17, wi x17_171), (18, wi t0_189), (20, wi r9), (24, wi t0_420), (25, wi x25_430), (26, vl t0_450), (28, wi t0_475), (29, vl t0_508)] [wi r88] (E_542, C_542, q_542) _
      refine r_if_eq (tgt := 579) dL_law_561 (by decide) ?_ ?_
      · refine r_lo [1, 2, 3, 4, 5, 6, 7, 8, 9, 10, 11, 12, 13, 14, 15, 16, 17, 19, 20, 21, 22, 23, 0] (lo2 := [(0, .ref sb), (1, .ref a1), (2, .ref (ma 0)), (3, .ref (ma 1)), (4, .ref (ma 2)), (5, .ref (ma 3)), (6, .ref (ma 4)), (7, .ref (ma 5)), (8, .ref (ma 6)), (9, .ref (ma 7)), (10, .ref (ma 8)), (11, .ref (ma 9)), (12, .ref (ma 10)), (13, wi v13_97), (14, wi v14_97), (17, wi x17_171), (18, wi t0_189), (24, wi t0_420), (25, wi x25_430), (26, vl t0_450), (28, wi t0_475), (29, vl t0_508), (31, vl t0_542)]) rfl ?_
        exact hJ579 E_542 C_542 q_542
      · refine r_lload (x := t0_542) dL_law_564 rfl ?_
        refine r_aload (x := ma 3) dL_law_566 rfl ?_
        refine r_iload (x := r9) dL_law_568 rfl ?_
        refine r_wlald3 h (by decide) (by decide) (hm 3 (by decide)) dL_law_570 ?_
        refine r_lcmp dL_law_571 ?_
        refine r_if_eq (tgt := 579) dL_law_572 (by decide) ?_ ?_
        · refine r_lo [1, 2, 3, 4, 5, 6, 7, 8, 9, 10, 11, 12, 13, 14, 15, 16, 17, 19, 20, 21, 22, 23, 0] (lo2 := [(0, .ref sb), (1, .ref a1), (2, .ref (ma 0)), (3, .ref (ma 1)), (4, .ref (ma 2)), (5, .ref (ma 3)), (6, .ref (ma 4)), (7, .ref (ma 5)), (8, .ref (ma 6)), (9, .ref (ma 7)), (10, .ref (ma 8)), (11, .ref (ma 9)), (12, .ref (ma 10)), (13, wi v13_97), (14, wi v14_97), (17, wi x17_171), (18, wi t0_189), (24, wi t0_420), (25, wi x25_430), (26, vl t0_450), (28, wi t0_475), (29, vl t0_508), (31, vl t0_542)]) rfl ?_
          exact hJ579 E_542 C_542 q_542
        · refine ro_iconst (v := 1) dL_law_575 rfl ?_
          refine r_goto (tgt := 580) dL_law_576 (by decide) ?_
          refine r_lo [1, 2, 3, 4, 5, 6, 7, 8, 9, 10, 11, 12, 13, 14, 15, 16, 17, 19, 20, 21, 22, 23, 0] (lo2 := [(0, .ref sb), (1, .ref a1), (2, .ref (ma 0)), (3, .ref (ma 1)), (4, .ref (ma 2)), (5, .ref (ma 3)), (6, .ref (ma 4)), (7, .ref (ma 5)), (8, .ref (ma 6)), (9, .ref (ma 7)), (10, .ref (ma 8)), (11, .ref (ma 9)), (12, .ref (ma 10)), (13, wi v13_97), (14, wi v14_97), (17, wi x17_171), (18, wi t0_189), (24, wi t0_420), (25, wi x25_430), (26, vl t0_450), (28, wi t0_475), (29, vl t0_508), (31, vl t0_542)]) rfl ?_
          exact hJ580 1 E_542 C_542 q_542
set_option maxHeartbeats 8000000 in
set_option maxRecDepth 100000 in
theorem b_L_law_522 {l : Launch} {Γ : Cx} {ma : Nat → Nat} (h : wOn Γ) (hm : ∀ k, k ≤ 10 → ma k ≠ 0) (hG : GK Γ l) {sT : Nat → Nat} (hS : STs Γ sT) (hX : XN Γ) {T : List ExceptionTableEntry} (htb : T = []) {sb : Nat} (Ls : Nat) (xs : Nat → Int32) (a1 : Nat) (v13_97 : Int) (v14_97 : Int) (x17_171 : Int) (t0_189 : Int) (r9 : Int) (t0_420 : Int) (x25_430 : Int) (t0_450 : Int) (t0_475 : Int) (t0_508 : Int) (hxs : XScr Γ sb Ls xs) (J542 : Int → Rw → Cd → (Nat → Nat) → Option (Int × S3)) (hJ542 : ∀ (t0_542 : Int) (E_542 : Rw) (C_542 : Cd) (q_542 : (Nat → Nat)), RunO l Γ (kL T) 16 encI (em3 ma) 542 [(0, .ref sb), (1, .ref a1), (2, .ref (ma 0)), (3, .ref (ma 1)), (4, .ref (ma 2)), (5, .ref (ma 3)), (6, .ref (ma 4)), (7, .ref (ma 5)), (8, .ref (ma 6)), (9, .ref (ma 7)), (10, .ref (ma 8)), (11, .ref (ma 9)), (12, .ref (ma 10)), (13, wi v13_97), (14, wi v14_97), (17, wi x17_171), (18, wi t0_189), (20, wi r9), (24, wi t0_420), (25, wi x25_430), (26, vl t0_450), (28, wi t0_475), (29, vl t0_508)] [vl t0_542] (E_542, C_542, q_542) (J542 t0_542 E_542 C_542 q_542)) : ∀ (E_522 : Rw) (C_522 : Cd) (q_522 : (Nat → Nat)), RunO l Γ (kL T) 16 encI (em3 ma) 522 [(0, .ref sb), (1, .ref a1), (2, .ref (ma 0)), (3, .ref (ma 1)), (4, .ref (ma 2)), (5, .ref (ma 3)), (6, .ref (ma 4)), (7, .ref (ma 5)), (8, .ref (ma 6)), (9, .ref (ma 7)), (10, .ref (ma 8)), (11, .ref (ma 9)), (12, .ref (ma 10)), (13, wi v13_97), (14, wi v14_97), (17, wi x17_171), (18, wi t0_189), (20, wi r9), (24, wi t0_420), (25, wi x25_430), (26, vl t0_450), (28, wi t0_475), (29, vl t0_508)] [] (E_522, C_522, q_522) (fW_law_522 t0_508 J542 E_522 C_522 q_522) := by
  intro E_522 C_522 q_522
  unfold fW_law_522
  refine r_lload (x := t0_508) dL_law_522 rfl ?_
  refine r_goto (tgt := 542) dL_law_524 (by decide) ?_
  exact hJ542 t0_508 E_522 C_522 q_522
set_option maxHeartbeats 8000000 in
set_option maxRecDepth 100000 in
theorem b_L_law_508 {l : Launch} {Γ : Cx} {ma : Nat → Nat} (h : wOn Γ) (hm : ∀ k, k ≤ 10 → ma k ≠ 0) (hG : GK Γ l) {sT : Nat → Nat} (hS : STs Γ sT) (hX : XN Γ) {T : List ExceptionTableEntry} (htb : T = []) {sb : Nat} (Ls : Nat) (xs : Nat → Int32) (a1 : Nat) (v13_97 : Int) (v14_97 : Int) (x17_171 : Int) (t0_189 : Int) (r9 : Int) (t0_420 : Int) (x25_430 : Int) (t0_450 : Int) (t0_475 : Int) (hxs : XScr Γ sb Ls xs) (J1788 : Int → Rw → Cd → (Nat → Nat) → Option (Int × S3)) (hJ1788 : ∀ (v13_1788 : Int) (E_1788 : Rw) (C_1788 : Cd) (q_1788 : (Nat → Nat)), RunO l Γ (kL T) 16 encI (em3 ma) 1788 [(0, .ref sb), (1, .ref a1), (2, .ref (ma 0)), (3, .ref (ma 1)), (4, .ref (ma 2)), (5, .ref (ma 3)), (6, .ref (ma 4)), (7, .ref (ma 5)), (8, .ref (ma 6)), (9, .ref (ma 7)), (10, .ref (ma 8)), (11, .ref (ma 9)), (12, .ref (ma 10)), (13, wi v13_1788), (14, wi v14_97), (17, wi x17_171)] [] (E_1788, C_1788, q_1788) (J1788 v13_1788 E_1788 C_1788 q_1788)) : ∀ (t0_508 : Int) (E_508 : Rw) (C_508 : Cd) (q_508 : (Nat → Nat)), RunO l Γ (kL T) 16 encI (em3 ma) 508 [(0, .ref sb), (1, .ref a1), (2, .ref (ma 0)), (3, .ref (ma 1)), (4, .ref (ma 2)), (5, .ref (ma 3)), (6, .ref (ma 4)), (7, .ref (ma 5)), (8, .ref (ma 6)), (9, .ref (ma 7)), (10, .ref (ma 8)), (11, .ref (ma 9)), (12, .ref (ma 10)), (13, wi v13_97), (14, wi v14_97), (17, wi x17_171), (18, wi t0_189), (20, wi r9), (24, wi t0_420), (25, wi x25_430), (26, vl t0_450), (28, wi t0_475)] [vl t0_508] (E_508, C_508, q_508) (fW_law_508 a1 v13_97 t0_189 r9 J1788 t0_420 x25_430 t0_450 t0_475 t0_508 E_508 C_508 q_508) := by
  intro t0_508 E_508 C_508 q_508
  unfold fW_law_508
  refine r_lstore (lo2 := [(29, vl t0_508), (0, .ref sb), (1, .ref a1), (2, .ref (ma 0)), (3, .ref (ma 1)), (4, .ref (ma 2)), (5, .ref (ma 3)), (6, .ref (ma 4)), (7, .ref (ma 5)), (8, .ref (ma 6)), (9, .ref (ma 7)), (10, .ref (ma 8)), (11, .ref (ma 9)), (12, .ref (ma 10)), (13, wi v13_97), (14, wi v14_97), (17, wi x17_171), (18, wi t0_189), (20, wi r9), (24, wi t0_420), (25, wi x25_430), (26, vl t0_450), (28, wi t0_475)]) dL_law_508 (show 29 + 1 < 35 by decide) rfl ?_
  refine r_iload (x := t0_475) dL_law_510 rfl ?_
  refine r_join (P := fun (J : Int → Rw → Cd → (Nat → Nat) → Option (Int × S3)) => ∀ (t0_542 : Int) (E_542 : Rw) (C_542 : Cd) (q_542 : (Nat → Nat)), RunO l Γ (kL T) 16 encI (em3 ma) 542 [(0, .ref sb), (1, .ref a1), (2, .ref (ma 0)), (3, .ref (ma 1)), (4, .ref (ma 2)), (5, .ref (ma 3)), (6, .ref (ma 4)), (7, .ref (ma 5)), (8, .ref (ma 6)), (9, .ref (ma 7)), (10, .ref (ma 8)), (11, .ref (ma 9)), (12, .ref (ma 10)), (13, wi v13_97), (14, wi v14_97), (17, wi x17_171), (18, wi t0_189), (20, wi r9), (24, wi t0_420), (25, wi x25_430), (26, vl t0_450), (28, wi t0_475), (29, vl t0_508)] [vl t0_542] (E_542, C_542, q_542) (J t0_542 E_542 C_542 q_542)) ?_ (fun J542 hJ542 => ?_)
  · exact b_L_law_542 h hm hG hS hX htb Ls xs a1 v13_97 v14_97 x17_171 t0_189 r9 t0_420 x25_430 t0_450 t0_475 t0_508 hxs J1788 hJ1788
  refine r_join (P := fun (J : Rw → Cd → (Nat → Nat) → Option (Int × S3)) => ∀ (E_522 : Rw) (C_522 : Cd) (q_522 : (Nat → Nat)), RunO l Γ (kL T) 16 encI (em3 ma) 522 [(0, .ref sb), (1, .ref a1), (2, .ref (ma 0)), (3, .ref (ma 1)), (4, .ref (ma 2)), (5, .ref (ma 3)), (6, .ref (ma 4)), (7, .ref (ma 5)), (8, .ref (ma 6)), (9, .ref (ma 7)), (10, .ref (ma 8)), (11, .ref (ma 9)), (12, .ref (ma 10)), (13, wi v13_97), (14, wi v14_97), (17, wi x17_171), (18, wi t0_189), (20, wi r9), (24, wi t0_420), (25, wi x25_430), (26, vl t0_450), (28, wi t0_475), (29, vl t0_508)] [] (E_522, C_522, q_522) (J E_522 C_522 q_522)) ?_ (fun J522 hJ522 => ?_)
  · exact b_L_law_522 h hm hG hS hX htb Ls xs a1 v13_97 v14_97 x17_171 t0_189 r9 t0_420 x25_430 t0_450 t0_475 t0_508 hxs J542 hJ542
  refine r_if_eq (tgt := 522) dL_law_512 (by decide) ?_ ?_
  · refine r_lo [1, 2, 3, 4, 5, 6, 7, 8, 9, 10, 11, 12, 13, 14, 15, 16, 17, 18, 19, 20, 21, 22, 0] (lo2 := [(0, .ref sb), (1, .ref a1), (2, .ref (ma 0)), (3, .ref (ma 1)), (4, .ref (ma 2)), (5, .ref (ma 3)), (6, .ref (ma 4)), (7, .ref (ma 5)), (8, .ref (ma 6)), (9, .ref (ma 7)), (10, .ref (ma 8)), (11, .ref (ma 9)), (12, .ref (ma 10)), (13, wi v13_97), (14, wi v14_97), (17, wi x17_171), (18, wi t0_189), (20, wi r9), (24, wi t0_420), (25, wi x25_430), (26, vl t0_450), (28, wi t0_475), (29, vl t0_508)]) rfl ?_
    exact hJ522 E_508 C_508 q_508
  · refine r_iload (x := t0_420) dL_law_515 rfl ?_
    refine r_iload (x := r9) dL_law_517 rfl ?_
    refine r_icmp_ne (tgt := 527) dL_law_519 (by decide) ?_ ?_
    · refine r_lload (x := t0_508) dL_law_527 rfl ?_
      refine r_aload (x := ma 3) dL_law_529 rfl ?_
      refine r_iload (x := t0_420) dL_law_531 rfl ?_
      refine r_wlald3 h (by decide) (by decide) (hm 3 (by decide)) dL_law_533 ?_
      refine r_aload (x := ma 3) dL_law_534 rfl ?_
      refine r_iload (x := r9) dL_law_536 rfl ?_
      refine r_wlald3 h (by decide) (by decide) (hm 3 (by decide)) dL_law_538 ?_
      refine r_csj (J := fun (_ : Unit) => (E_508, C_508, q_508)) (k2 := k_L_merged) (n := 3) (rest := []) (fun _ => rfl) htb kv_L_merged (c_L_merged (σ0 := _) t0_508 (E_508 3 (ix t0_420)) (E_508 3 (ix r9))) (by decide) um_L_202 rfl (Nat.le_of_ble_eq_true rfl) dL_law_539 rfl (fun r89 _ => ?_)
      show RunO l Γ (kL T) 16 encI (em3 ma) 542 [(29, vl t0_508), (0, .ref sb), (1, .ref a1), (2, .ref (ma 0)), (3, .ref (ma 1)), (4, .ref (ma 2)), (5, .ref (ma 3)), (6, .ref (ma 4)), (7, .ref (ma 5)), (8, .ref (ma 6)), (9, .ref (ma 7)), (10, .ref (ma 8)), (11, .ref (ma 9)), (12, .ref (ma 10)), (13, wi v13_97), (14, wi v14_97), (17, wi x17_171), (18, wi t0_189), (20, wi r9), (24, wi t0_420), (25, wi x25_430), (26, vl t0_450), (28, wi t0_475)] [vl r89] (E_508, C_508, q_508) _
      refine r_lo [1, 2, 3, 4, 5, 6, 7, 8, 9, 10, 11, 12, 13, 14, 15, 16, 17, 18, 19, 20, 21, 22, 0] (lo2 := [(0, .ref sb), (1, .ref a1), (2, .ref (ma 0)), (3, .ref (ma 1)), (4, .ref (ma 2)), (5, .ref (ma 3)), (6, .ref (ma 4)), (7, .ref (ma 5)), (8, .ref (ma 6)), (9, .ref (ma 7)), (10, .ref (ma 8)), (11, .ref (ma 9)), (12, .ref (ma 10)), (13, wi v13_97), (14, wi v14_97), (17, wi x17_171), (18, wi t0_189), (20, wi r9), (24, wi t0_420), (25, wi x25_430), (26, vl t0_450), (28, wi t0_475), (29, vl t0_508)]) rfl ?_
      exact hJ542 r89 E_508 C_508 q_508
    · refine r_lo [1, 2, 3, 4, 5, 6, 7, 8, 9, 10, 11, 12, 13, 14, 15, 16, 17, 18, 19, 20, 21, 22, 0] (lo2 := [(0, .ref sb), (1, .ref a1), (2, .ref (ma 0)), (3, .ref (ma 1)), (4, .ref (ma 2)), (5, .ref (ma 3)), (6, .ref (ma 4)), (7, .ref (ma 5)), (8, .ref (ma 6)), (9, .ref (ma 7)), (10, .ref (ma 8)), (11, .ref (ma 9)), (12, .ref (ma 10)), (13, wi v13_97), (14, wi v14_97), (17, wi x17_171), (18, wi t0_189), (20, wi r9), (24, wi t0_420), (25, wi x25_430), (26, vl t0_450), (28, wi t0_475), (29, vl t0_508)]) rfl ?_
      exact hJ522 E_508 C_508 q_508
set_option maxHeartbeats 8000000 in
set_option maxRecDepth 100000 in
theorem b_L_law_475 {l : Launch} {Γ : Cx} {ma : Nat → Nat} (h : wOn Γ) (hm : ∀ k, k ≤ 10 → ma k ≠ 0) (hG : GK Γ l) {sT : Nat → Nat} (hS : STs Γ sT) (hX : XN Γ) {T : List ExceptionTableEntry} (htb : T = []) {sb : Nat} (Ls : Nat) (xs : Nat → Int32) (a1 : Nat) (v13_97 : Int) (v14_97 : Int) (x17_171 : Int) (t0_189 : Int) (r9 : Int) (t0_420 : Int) (x25_430 : Int) (t0_450 : Int) (hxs : XScr Γ sb Ls xs) (J1788 : Int → Rw → Cd → (Nat → Nat) → Option (Int × S3)) (hJ1788 : ∀ (v13_1788 : Int) (E_1788 : Rw) (C_1788 : Cd) (q_1788 : (Nat → Nat)), RunO l Γ (kL T) 16 encI (em3 ma) 1788 [(0, .ref sb), (1, .ref a1), (2, .ref (ma 0)), (3, .ref (ma 1)), (4, .ref (ma 2)), (5, .ref (ma 3)), (6, .ref (ma 4)), (7, .ref (ma 5)), (8, .ref (ma 6)), (9, .ref (ma 7)), (10, .ref (ma 8)), (11, .ref (ma 9)), (12, .ref (ma 10)), (13, wi v13_1788), (14, wi v14_97), (17, wi x17_171)] [] (E_1788, C_1788, q_1788) (J1788 v13_1788 E_1788 C_1788 q_1788)) : ∀ (t0_475 : Int) (E_475 : Rw) (C_475 : Cd) (q_475 : (Nat → Nat)), RunO l Γ (kL T) 16 encI (em3 ma) 475 [(0, .ref sb), (1, .ref a1), (2, .ref (ma 0)), (3, .ref (ma 1)), (4, .ref (ma 2)), (5, .ref (ma 3)), (6, .ref (ma 4)), (7, .ref (ma 5)), (8, .ref (ma 6)), (9, .ref (ma 7)), (10, .ref (ma 8)), (11, .ref (ma 9)), (12, .ref (ma 10)), (13, wi v13_97), (14, wi v14_97), (17, wi x17_171), (18, wi t0_189), (20, wi r9), (24, wi t0_420), (25, wi x25_430), (26, vl t0_450)] [wi t0_475] (E_475, C_475, q_475) (fW_law_475 a1 v13_97 t0_189 r9 J1788 t0_420 x25_430 t0_450 t0_475 E_475 C_475 q_475) := by
  intro t0_475 E_475 C_475 q_475
  unfold fW_law_475
  refine r_istore (lo2 := [(28, wi t0_475), (0, .ref sb), (1, .ref a1), (2, .ref (ma 0)), (3, .ref (ma 1)), (4, .ref (ma 2)), (5, .ref (ma 3)), (6, .ref (ma 4)), (7, .ref (ma 5)), (8, .ref (ma 6)), (9, .ref (ma 7)), (10, .ref (ma 8)), (11, .ref (ma 9)), (12, .ref (ma 10)), (13, wi v13_97), (14, wi v14_97), (17, wi x17_171), (18, wi t0_189), (20, wi r9), (24, wi t0_420), (25, wi x25_430), (26, vl t0_450)]) dL_law_475 (show 28 < 35 by decide) rfl ?_
  refine r_iload (x := t0_475) dL_law_477 rfl ?_
  refine r_join (P := fun (J : Int → Rw → Cd → (Nat → Nat) → Option (Int × S3)) => ∀ (t0_508 : Int) (E_508 : Rw) (C_508 : Cd) (q_508 : (Nat → Nat)), RunO l Γ (kL T) 16 encI (em3 ma) 508 [(0, .ref sb), (1, .ref a1), (2, .ref (ma 0)), (3, .ref (ma 1)), (4, .ref (ma 2)), (5, .ref (ma 3)), (6, .ref (ma 4)), (7, .ref (ma 5)), (8, .ref (ma 6)), (9, .ref (ma 7)), (10, .ref (ma 8)), (11, .ref (ma 9)), (12, .ref (ma 10)), (13, wi v13_97), (14, wi v14_97), (17, wi x17_171), (18, wi t0_189), (20, wi r9), (24, wi t0_420), (25, wi x25_430), (26, vl t0_450), (28, wi t0_475)] [vl t0_508] (E_508, C_508, q_508) (J t0_508 E_508 C_508 q_508)) ?_ (fun J508 hJ508 => ?_)
  · exact b_L_law_508 h hm hG hS hX htb Ls xs a1 v13_97 v14_97 x17_171 t0_189 r9 t0_420 x25_430 t0_450 t0_475 hxs J1788 hJ1788
  refine r_if_ne (tgt := 486) dL_law_479 (by decide) ?_ ?_
  · refine r_iload (x := x25_430) dL_law_486 rfl ?_
    refine r_if_ge (tgt := 496) dL_law_488 (by decide) ?_ ?_
    · refine r_aload (x := ma 3) dL_law_496 rfl ?_
      refine r_iload (x := t0_420) dL_law_498 rfl ?_
      refine r_wlald3 h (by decide) (by decide) (hm 3 (by decide)) dL_law_500 ?_
      refine r_iload (x := x25_430) dL_law_501 rfl ?_
      refine r_lload (x := t0_450) dL_law_503 rfl ?_
      refine r_csj (J := fun (_ : Unit) => (E_475, C_475, q_475)) (k2 := k_L_with) (n := 3) (rest := []) (fun _ => rfl) htb kv_L_with (c_L_with (σ0 := _) (E_475 3 (ix t0_420)) x25_430 t0_450) (by decide) um_L_198 rfl (Nat.le_of_ble_eq_true rfl) dL_law_505 rfl (fun r90 _ => ?_)
      show RunO l Γ (kL T) 16 encI (em3 ma) 508 [(28, wi t0_475), (0, .ref sb), (1, .ref a1), (2, .ref (ma 0)), (3, .ref (ma 1)), (4, .ref (ma 2)), (5, .ref (ma 3)), (6, .ref (ma 4)), (7, .ref (ma 5)), (8, .ref (ma 6)), (9, .ref (ma 7)), (10, .ref (ma 8)), (11, .ref (ma 9)), (12, .ref (ma 10)), (13, wi v13_97), (14, wi v14_97), (17, wi x17_171), (18, wi t0_189), (20, wi r9), (24, wi t0_420), (25, wi x25_430), (26, vl t0_450)] [vl r90] (E_475, C_475, q_475) _
      refine r_lo [1, 2, 3, 4, 5, 6, 7, 8, 9, 10, 11, 12, 13, 14, 15, 16, 17, 18, 19, 20, 21, 0] (lo2 := [(0, .ref sb), (1, .ref a1), (2, .ref (ma 0)), (3, .ref (ma 1)), (4, .ref (ma 2)), (5, .ref (ma 3)), (6, .ref (ma 4)), (7, .ref (ma 5)), (8, .ref (ma 6)), (9, .ref (ma 7)), (10, .ref (ma 8)), (11, .ref (ma 9)), (12, .ref (ma 10)), (13, wi v13_97), (14, wi v14_97), (17, wi x17_171), (18, wi t0_189), (20, wi r9), (24, wi t0_420), (25, wi x25_430), (26, vl t0_450), (28, wi t0_475)]) rfl ?_
      exact hJ508 r90 E_475 C_475 q_475
    · refine r_lload (x := t0_450) dL_law_491 rfl ?_
      refine r_goto (tgt := 508) dL_law_493 (by decide) ?_
      refine r_lo [1, 2, 3, 4, 5, 6, 7, 8, 9, 10, 11, 12, 13, 14, 15, 16, 17, 18, 19, 20, 21, 0] (lo2 := [(0, .ref sb), (1, .ref a1), (2, .ref (ma 0)), (3, .ref (ma 1)), (4, .ref (ma 2)), (5, .ref (ma 3)), (6, .ref (ma 4)), (7, .ref (ma 5)), (8, .ref (ma 6)), (9, .ref (ma 7)), (10, .ref (ma 8)), (11, .ref (ma 9)), (12, .ref (ma 10)), (13, wi v13_97), (14, wi v14_97), (17, wi x17_171), (18, wi t0_189), (20, wi r9), (24, wi t0_420), (25, wi x25_430), (26, vl t0_450), (28, wi t0_475)]) rfl ?_
      exact hJ508 t0_450 E_475 C_475 q_475
  · refine r_lconst (x := 1) dL_law_482 rfl ?_
    refine r_goto (tgt := 508) dL_law_483 (by decide) ?_
    refine r_lo [1, 2, 3, 4, 5, 6, 7, 8, 9, 10, 11, 12, 13, 14, 15, 16, 17, 18, 19, 20, 21, 0] (lo2 := [(0, .ref sb), (1, .ref a1), (2, .ref (ma 0)), (3, .ref (ma 1)), (4, .ref (ma 2)), (5, .ref (ma 3)), (6, .ref (ma 4)), (7, .ref (ma 5)), (8, .ref (ma 6)), (9, .ref (ma 7)), (10, .ref (ma 8)), (11, .ref (ma 9)), (12, .ref (ma 10)), (13, wi v13_97), (14, wi v14_97), (17, wi x17_171), (18, wi t0_189), (20, wi r9), (24, wi t0_420), (25, wi x25_430), (26, vl t0_450), (28, wi t0_475)]) rfl ?_
    exact hJ508 1 E_475 C_475 q_475
set_option maxHeartbeats 8000000 in
set_option maxRecDepth 100000 in
theorem b_L_law_474 {l : Launch} {Γ : Cx} {ma : Nat → Nat} (h : wOn Γ) (hm : ∀ k, k ≤ 10 → ma k ≠ 0) (hG : GK Γ l) {sT : Nat → Nat} (hS : STs Γ sT) (hX : XN Γ) {T : List ExceptionTableEntry} (htb : T = []) {sb : Nat} (Ls : Nat) (xs : Nat → Int32) (a1 : Nat) (v13_97 : Int) (v14_97 : Int) (x17_171 : Int) (t0_189 : Int) (r9 : Int) (t0_420 : Int) (x25_430 : Int) (t0_450 : Int) (hxs : XScr Γ sb Ls xs) (J475 : Int → Rw → Cd → (Nat → Nat) → Option (Int × S3)) (hJ475 : ∀ (t0_475 : Int) (E_475 : Rw) (C_475 : Cd) (q_475 : (Nat → Nat)), RunO l Γ (kL T) 16 encI (em3 ma) 475 [(0, .ref sb), (1, .ref a1), (2, .ref (ma 0)), (3, .ref (ma 1)), (4, .ref (ma 2)), (5, .ref (ma 3)), (6, .ref (ma 4)), (7, .ref (ma 5)), (8, .ref (ma 6)), (9, .ref (ma 7)), (10, .ref (ma 8)), (11, .ref (ma 9)), (12, .ref (ma 10)), (13, wi v13_97), (14, wi v14_97), (17, wi x17_171), (18, wi t0_189), (20, wi r9), (24, wi t0_420), (25, wi x25_430), (26, vl t0_450)] [wi t0_475] (E_475, C_475, q_475) (J475 t0_475 E_475 C_475 q_475)) : ∀ (E_474 : Rw) (C_474 : Cd) (q_474 : (Nat → Nat)), RunO l Γ (kL T) 16 encI (em3 ma) 474 [(0, .ref sb), (1, .ref a1), (2, .ref (ma 0)), (3, .ref (ma 1)), (4, .ref (ma 2)), (5, .ref (ma 3)), (6, .ref (ma 4)), (7, .ref (ma 5)), (8, .ref (ma 6)), (9, .ref (ma 7)), (10, .ref (ma 8)), (11, .ref (ma 9)), (12, .ref (ma 10)), (13, wi v13_97), (14, wi v14_97), (17, wi x17_171), (18, wi t0_189), (20, wi r9), (24, wi t0_420), (25, wi x25_430), (26, vl t0_450)] [] (E_474, C_474, q_474) (fW_law_474 J475 E_474 C_474 q_474) := by
  intro E_474 C_474 q_474
  unfold fW_law_474
  refine ro_iconst (v := 0) dL_law_474 rfl ?_
  exact hJ475 0 E_474 C_474 q_474
set_option maxHeartbeats 8000000 in
set_option maxRecDepth 100000 in
theorem b_L_law_450 {l : Launch} {Γ : Cx} {ma : Nat → Nat} (h : wOn Γ) (hm : ∀ k, k ≤ 10 → ma k ≠ 0) (hG : GK Γ l) {sT : Nat → Nat} (hS : STs Γ sT) (hX : XN Γ) {T : List ExceptionTableEntry} (htb : T = []) {sb : Nat} (Ls : Nat) (xs : Nat → Int32) (a1 : Nat) (v13_97 : Int) (v14_97 : Int) (x17_171 : Int) (t0_189 : Int) (t0_203 : Int) (r9 : Int) (t0_420 : Int) (x25_430 : Int) (hxs : XScr Γ sb Ls xs) (J1788 : Int → Rw → Cd → (Nat → Nat) → Option (Int × S3)) (hJ1788 : ∀ (v13_1788 : Int) (E_1788 : Rw) (C_1788 : Cd) (q_1788 : (Nat → Nat)), RunO l Γ (kL T) 16 encI (em3 ma) 1788 [(0, .ref sb), (1, .ref a1), (2, .ref (ma 0)), (3, .ref (ma 1)), (4, .ref (ma 2)), (5, .ref (ma 3)), (6, .ref (ma 4)), (7, .ref (ma 5)), (8, .ref (ma 6)), (9, .ref (ma 7)), (10, .ref (ma 8)), (11, .ref (ma 9)), (12, .ref (ma 10)), (13, wi v13_1788), (14, wi v14_97), (17, wi x17_171)] [] (E_1788, C_1788, q_1788) (J1788 v13_1788 E_1788 C_1788 q_1788)) : ∀ (t0_450 : Int) (E_450 : Rw) (C_450 : Cd) (q_450 : (Nat → Nat)), RunO l Γ (kL T) 16 encI (em3 ma) 450 [(0, .ref sb), (1, .ref a1), (2, .ref (ma 0)), (3, .ref (ma 1)), (4, .ref (ma 2)), (5, .ref (ma 3)), (6, .ref (ma 4)), (7, .ref (ma 5)), (8, .ref (ma 6)), (9, .ref (ma 7)), (10, .ref (ma 8)), (11, .ref (ma 9)), (12, .ref (ma 10)), (13, wi v13_97), (14, wi v14_97), (17, wi x17_171), (18, wi t0_189), (19, wi t0_203), (20, wi r9), (24, wi t0_420), (25, wi x25_430)] [vl t0_450] (E_450, C_450, q_450) (fW_law_450 a1 v13_97 t0_189 t0_203 r9 J1788 t0_420 x25_430 t0_450 E_450 C_450 q_450) := by
  intro t0_450 E_450 C_450 q_450
  unfold fW_law_450
  refine r_lstore (lo2 := [(26, vl t0_450), (0, .ref sb), (1, .ref a1), (2, .ref (ma 0)), (3, .ref (ma 1)), (4, .ref (ma 2)), (5, .ref (ma 3)), (6, .ref (ma 4)), (7, .ref (ma 5)), (8, .ref (ma 6)), (9, .ref (ma 7)), (10, .ref (ma 8)), (11, .ref (ma 9)), (12, .ref (ma 10)), (13, wi v13_97), (14, wi v14_97), (17, wi x17_171), (18, wi t0_189), (19, wi t0_203), (20, wi r9), (24, wi t0_420), (25, wi x25_430)]) dL_law_450 (show 26 + 1 < 35 by decide) rfl ?_
  refine r_iload (x := t0_203) dL_law_452 rfl ?_
  refine r_join (P := fun (J : Int → Rw → Cd → (Nat → Nat) → Option (Int × S3)) => ∀ (t0_475 : Int) (E_475 : Rw) (C_475 : Cd) (q_475 : (Nat → Nat)), RunO l Γ (kL T) 16 encI (em3 ma) 475 [(0, .ref sb), (1, .ref a1), (2, .ref (ma 0)), (3, .ref (ma 1)), (4, .ref (ma 2)), (5, .ref (ma 3)), (6, .ref (ma 4)), (7, .ref (ma 5)), (8, .ref (ma 6)), (9, .ref (ma 7)), (10, .ref (ma 8)), (11, .ref (ma 9)), (12, .ref (ma 10)), (13, wi v13_97), (14, wi v14_97), (17, wi x17_171), (18, wi t0_189), (20, wi r9), (24, wi t0_420), (25, wi x25_430), (26, vl t0_450)] [wi t0_475] (E_475, C_475, q_475) (J t0_475 E_475 C_475 q_475)) ?_ (fun J475 hJ475 => ?_)
  · exact b_L_law_475 h hm hG hS hX htb Ls xs a1 v13_97 v14_97 x17_171 t0_189 r9 t0_420 x25_430 t0_450 hxs J1788 hJ1788
  refine r_join (P := fun (J : Rw → Cd → (Nat → Nat) → Option (Int × S3)) => ∀ (E_474 : Rw) (C_474 : Cd) (q_474 : (Nat → Nat)), RunO l Γ (kL T) 16 encI (em3 ma) 474 [(0, .ref sb), (1, .ref a1), (2, .ref (ma 0)), (3, .ref (ma 1)), (4, .ref (ma 2)), (5, .ref (ma 3)), (6, .ref (ma 4)), (7, .ref (ma 5)), (8, .ref (ma 6)), (9, .ref (ma 7)), (10, .ref (ma 8)), (11, .ref (ma 9)), (12, .ref (ma 10)), (13, wi v13_97), (14, wi v14_97), (17, wi x17_171), (18, wi t0_189), (20, wi r9), (24, wi t0_420), (25, wi x25_430), (26, vl t0_450)] [] (E_474, C_474, q_474) (J E_474 C_474 q_474)) ?_ (fun J474 hJ474 => ?_)
  · exact b_L_law_474 h hm hG hS hX htb Ls xs a1 v13_97 v14_97 x17_171 t0_189 r9 t0_420 x25_430 t0_450 hxs J475 hJ475
  refine r_if_eq (tgt := 474) dL_law_454 (by decide) ?_ ?_
  · refine r_lo [1, 2, 3, 4, 5, 6, 7, 8, 9, 10, 11, 12, 13, 14, 15, 16, 17, 19, 20, 21, 0] (lo2 := [(0, .ref sb), (1, .ref a1), (2, .ref (ma 0)), (3, .ref (ma 1)), (4, .ref (ma 2)), (5, .ref (ma 3)), (6, .ref (ma 4)), (7, .ref (ma 5)), (8, .ref (ma 6)), (9, .ref (ma 7)), (10, .ref (ma 8)), (11, .ref (ma 9)), (12, .ref (ma 10)), (13, wi v13_97), (14, wi v14_97), (17, wi x17_171), (18, wi t0_189), (20, wi r9), (24, wi t0_420), (25, wi x25_430), (26, vl t0_450)]) rfl ?_
    exact hJ474 E_450 C_450 q_450
  · refine r_iload (x := x25_430) dL_law_457 rfl ?_
    refine r_aload (x := ma 3) dL_law_459 rfl ?_
    refine r_iload (x := t0_420) dL_law_461 rfl ?_
    refine r_wlald3 h (by decide) (by decide) (hm 3 (by decide)) dL_law_463 ?_
    refine r_csi (J := fun (_ : Unit) => (E_450, C_450, q_450)) (k2 := k_L_sections) (n := 1) (rest := [wi x25_430]) (fun _ => rfl) htb kv_L_sections (c_L_sections (σ0 := _) (E_450 3 (ix t0_420))) (by decide) um_L_119 rfl (Nat.le_of_ble_eq_true rfl) dL_law_464 rfl (fun r91 _ => ?_)
    show RunO l Γ (kL T) 16 encI (em3 ma) 467 [(26, vl t0_450), (0, .ref sb), (1, .ref a1), (2, .ref (ma 0)), (3, .ref (ma 1)), (4, .ref (ma 2)), (5, .ref (ma 3)), (6, .ref (ma 4)), (7, .ref (ma 5)), (8, .ref (ma 6)), (9, .ref (ma 7)), (10, .ref (ma 8)), (11, .ref (ma 9)), (12, .ref (ma 10)), (13, wi v13_97), (14, wi v14_97), (17, wi x17_171), (18, wi t0_189), (19, wi t0_203), (20, wi r9), (24, wi t0_420), (25, wi x25_430)] [wi r91, wi x25_430] (E_450, C_450, q_450) _
    refine r_icmp_ge (tgt := 474) dL_law_467 (by decide) ?_ ?_
    · refine r_lo [1, 2, 3, 4, 5, 6, 7, 8, 9, 10, 11, 12, 13, 14, 15, 16, 17, 19, 20, 21, 0] (lo2 := [(0, .ref sb), (1, .ref a1), (2, .ref (ma 0)), (3, .ref (ma 1)), (4, .ref (ma 2)), (5, .ref (ma 3)), (6, .ref (ma 4)), (7, .ref (ma 5)), (8, .ref (ma 6)), (9, .ref (ma 7)), (10, .ref (ma 8)), (11, .ref (ma 9)), (12, .ref (ma 10)), (13, wi v13_97), (14, wi v14_97), (17, wi x17_171), (18, wi t0_189), (20, wi r9), (24, wi t0_420), (25, wi x25_430), (26, vl t0_450)]) rfl ?_
      exact hJ474 E_450 C_450 q_450
    · refine ro_iconst (v := 1) dL_law_470 rfl ?_
      refine r_goto (tgt := 475) dL_law_471 (by decide) ?_
      refine r_lo [1, 2, 3, 4, 5, 6, 7, 8, 9, 10, 11, 12, 13, 14, 15, 16, 17, 19, 20, 21, 0] (lo2 := [(0, .ref sb), (1, .ref a1), (2, .ref (ma 0)), (3, .ref (ma 1)), (4, .ref (ma 2)), (5, .ref (ma 3)), (6, .ref (ma 4)), (7, .ref (ma 5)), (8, .ref (ma 6)), (9, .ref (ma 7)), (10, .ref (ma 8)), (11, .ref (ma 9)), (12, .ref (ma 10)), (13, wi v13_97), (14, wi v14_97), (17, wi x17_171), (18, wi t0_189), (20, wi r9), (24, wi t0_420), (25, wi x25_430), (26, vl t0_450)]) rfl ?_
      exact hJ475 1 E_450 C_450 q_450
set_option maxHeartbeats 8000000 in
set_option maxRecDepth 100000 in
theorem b_L_law_444 {l : Launch} {Γ : Cx} {ma : Nat → Nat} (h : wOn Γ) (hm : ∀ k, k ≤ 10 → ma k ≠ 0) (hG : GK Γ l) {sT : Nat → Nat} (hS : STs Γ sT) (hX : XN Γ) {T : List ExceptionTableEntry} (htb : T = []) {sb : Nat} (Ls : Nat) (xs : Nat → Int32) (a1 : Nat) (v13_97 : Int) (v14_97 : Int) (x17_171 : Int) (t0_189 : Int) (t0_203 : Int) (r9 : Int) (r11 : Int) (t0_420 : Int) (x25_430 : Int) (hxs : XScr Γ sb Ls xs) (J450 : Int → Rw → Cd → (Nat → Nat) → Option (Int × S3)) (hJ450 : ∀ (t0_450 : Int) (E_450 : Rw) (C_450 : Cd) (q_450 : (Nat → Nat)), RunO l Γ (kL T) 16 encI (em3 ma) 450 [(0, .ref sb), (1, .ref a1), (2, .ref (ma 0)), (3, .ref (ma 1)), (4, .ref (ma 2)), (5, .ref (ma 3)), (6, .ref (ma 4)), (7, .ref (ma 5)), (8, .ref (ma 6)), (9, .ref (ma 7)), (10, .ref (ma 8)), (11, .ref (ma 9)), (12, .ref (ma 10)), (13, wi v13_97), (14, wi v14_97), (17, wi x17_171), (18, wi t0_189), (19, wi t0_203), (20, wi r9), (24, wi t0_420), (25, wi x25_430)] [vl t0_450] (E_450, C_450, q_450) (J450 t0_450 E_450 C_450 q_450)) : ∀ (E_444 : Rw) (C_444 : Cd) (q_444 : (Nat → Nat)), RunO l Γ (kL T) 16 encI (em3 ma) 444 [(0, .ref sb), (1, .ref a1), (2, .ref (ma 0)), (3, .ref (ma 1)), (4, .ref (ma 2)), (5, .ref (ma 3)), (6, .ref (ma 4)), (7, .ref (ma 5)), (8, .ref (ma 6)), (9, .ref (ma 7)), (10, .ref (ma 8)), (11, .ref (ma 9)), (12, .ref (ma 10)), (13, wi v13_97), (14, wi v14_97), (17, wi x17_171), (18, wi t0_189), (19, wi t0_203), (20, wi r9), (21, vl r11), (24, wi t0_420), (25, wi x25_430)] [] (E_444, C_444, q_444) (fW_law_444 r11 J450 E_444 C_444 q_444) := by
  intro E_444 C_444 q_444
  unfold fW_law_444
  refine r_lload (x := r11) dL_law_444 rfl ?_
  refine r_goto (tgt := 450) dL_law_446 (by decide) ?_
  refine r_lo [0, 1, 2, 3, 4, 5, 6, 7, 8, 9, 10, 11, 12, 13, 14, 15, 16, 17, 18, 20, 21] (lo2 := [(0, .ref sb), (1, .ref a1), (2, .ref (ma 0)), (3, .ref (ma 1)), (4, .ref (ma 2)), (5, .ref (ma 3)), (6, .ref (ma 4)), (7, .ref (ma 5)), (8, .ref (ma 6)), (9, .ref (ma 7)), (10, .ref (ma 8)), (11, .ref (ma 9)), (12, .ref (ma 10)), (13, wi v13_97), (14, wi v14_97), (17, wi x17_171), (18, wi t0_189), (19, wi t0_203), (20, wi r9), (24, wi t0_420), (25, wi x25_430)]) rfl ?_
  exact hJ450 r11 E_444 C_444 q_444
set_option maxHeartbeats 8000000 in
set_option maxRecDepth 100000 in
theorem b_L_law_420 {l : Launch} {Γ : Cx} {ma : Nat → Nat} (h : wOn Γ) (hm : ∀ k, k ≤ 10 → ma k ≠ 0) (hG : GK Γ l) {sT : Nat → Nat} (hS : STs Γ sT) (hX : XN Γ) {T : List ExceptionTableEntry} (htb : T = []) {sb : Nat} (Ls : Nat) (xs : Nat → Int32) (a1 : Nat) (v13_97 : Int) (v14_97 : Int) (x17_171 : Int) (t0_189 : Int) (t0_203 : Int) (r9 : Int) (r11 : Int) (hxs : XScr Γ sb Ls xs) (J1788 : Int → Rw → Cd → (Nat → Nat) → Option (Int × S3)) (hJ1788 : ∀ (v13_1788 : Int) (E_1788 : Rw) (C_1788 : Cd) (q_1788 : (Nat → Nat)), RunO l Γ (kL T) 16 encI (em3 ma) 1788 [(0, .ref sb), (1, .ref a1), (2, .ref (ma 0)), (3, .ref (ma 1)), (4, .ref (ma 2)), (5, .ref (ma 3)), (6, .ref (ma 4)), (7, .ref (ma 5)), (8, .ref (ma 6)), (9, .ref (ma 7)), (10, .ref (ma 8)), (11, .ref (ma 9)), (12, .ref (ma 10)), (13, wi v13_1788), (14, wi v14_97), (17, wi x17_171)] [] (E_1788, C_1788, q_1788) (J1788 v13_1788 E_1788 C_1788 q_1788)) : ∀ (t0_420 : Int) (E_420 : Rw) (C_420 : Cd) (q_420 : (Nat → Nat)), RunO l Γ (kL T) 16 encI (em3 ma) 420 [(0, .ref sb), (1, .ref a1), (2, .ref (ma 0)), (3, .ref (ma 1)), (4, .ref (ma 2)), (5, .ref (ma 3)), (6, .ref (ma 4)), (7, .ref (ma 5)), (8, .ref (ma 6)), (9, .ref (ma 7)), (10, .ref (ma 8)), (11, .ref (ma 9)), (12, .ref (ma 10)), (13, wi v13_97), (14, wi v14_97), (17, wi x17_171), (18, wi t0_189), (19, wi t0_203), (20, wi r9), (21, vl r11)] [wi t0_420] (E_420, C_420, q_420) (fW_law_420 a1 v13_97 x17_171 t0_189 t0_203 r9 r11 J1788 t0_420 E_420 C_420 q_420) := by
  intro t0_420 E_420 C_420 q_420
  unfold fW_law_420
  refine r_istore (lo2 := [(24, wi t0_420), (0, .ref sb), (1, .ref a1), (2, .ref (ma 0)), (3, .ref (ma 1)), (4, .ref (ma 2)), (5, .ref (ma 3)), (6, .ref (ma 4)), (7, .ref (ma 5)), (8, .ref (ma 6)), (9, .ref (ma 7)), (10, .ref (ma 8)), (11, .ref (ma 9)), (12, .ref (ma 10)), (13, wi v13_97), (14, wi v14_97), (17, wi x17_171), (18, wi t0_189), (19, wi t0_203), (20, wi r9), (21, vl r11)]) dL_law_420 (show 24 < 35 by decide) rfl ?_
  refine r_iload (x := x17_171) dL_law_422 rfl ?_
  refine ro_iconst (v := 5) dL_law_424 rfl ?_
  refine r_idiv dL_law_425 (by decide) ?_
  refine ro_iconst (v := 3) dL_law_426 rfl ?_
  refine r_irem dL_law_427 (by decide) ?_
  refine ro_iconst (v := 1) dL_law_428 rfl ?_
  refine r_isub dL_law_429 ?_
  refine r_nm (fun x25_430 => ?_)
  refine r_istore (lo2 := [(25, wi x25_430), (24, wi t0_420), (0, .ref sb), (1, .ref a1), (2, .ref (ma 0)), (3, .ref (ma 1)), (4, .ref (ma 2)), (5, .ref (ma 3)), (6, .ref (ma 4)), (7, .ref (ma 5)), (8, .ref (ma 6)), (9, .ref (ma 7)), (10, .ref (ma 8)), (11, .ref (ma 9)), (12, .ref (ma 10)), (13, wi v13_97), (14, wi v14_97), (17, wi x17_171), (18, wi t0_189), (19, wi t0_203), (20, wi r9), (21, vl r11)]) dL_law_430 (show 25 < 35 by decide) rfl ?_
  refine r_iload (x := x25_430) dL_law_432 rfl ?_
  refine r_join (P := fun (J : Int → Rw → Cd → (Nat → Nat) → Option (Int × S3)) => ∀ (t0_450 : Int) (E_450 : Rw) (C_450 : Cd) (q_450 : (Nat → Nat)), RunO l Γ (kL T) 16 encI (em3 ma) 450 [(0, .ref sb), (1, .ref a1), (2, .ref (ma 0)), (3, .ref (ma 1)), (4, .ref (ma 2)), (5, .ref (ma 3)), (6, .ref (ma 4)), (7, .ref (ma 5)), (8, .ref (ma 6)), (9, .ref (ma 7)), (10, .ref (ma 8)), (11, .ref (ma 9)), (12, .ref (ma 10)), (13, wi v13_97), (14, wi v14_97), (17, wi x17_171), (18, wi t0_189), (19, wi t0_203), (20, wi r9), (24, wi t0_420), (25, wi x25_430)] [vl t0_450] (E_450, C_450, q_450) (J t0_450 E_450 C_450 q_450)) ?_ (fun J450 hJ450 => ?_)
  · exact b_L_law_450 h hm hG hS hX htb Ls xs a1 v13_97 v14_97 x17_171 t0_189 t0_203 r9 t0_420 x25_430 hxs J1788 hJ1788
  refine r_join (P := fun (J : Rw → Cd → (Nat → Nat) → Option (Int × S3)) => ∀ (E_444 : Rw) (C_444 : Cd) (q_444 : (Nat → Nat)), RunO l Γ (kL T) 16 encI (em3 ma) 444 [(0, .ref sb), (1, .ref a1), (2, .ref (ma 0)), (3, .ref (ma 1)), (4, .ref (ma 2)), (5, .ref (ma 3)), (6, .ref (ma 4)), (7, .ref (ma 5)), (8, .ref (ma 6)), (9, .ref (ma 7)), (10, .ref (ma 8)), (11, .ref (ma 9)), (12, .ref (ma 10)), (13, wi v13_97), (14, wi v14_97), (17, wi x17_171), (18, wi t0_189), (19, wi t0_203), (20, wi r9), (21, vl r11), (24, wi t0_420), (25, wi x25_430)] [] (E_444, C_444, q_444) (J E_444 C_444 q_444)) ?_ (fun J444 hJ444 => ?_)
  · exact b_L_law_444 h hm hG hS hX htb Ls xs a1 v13_97 v14_97 x17_171 t0_189 t0_203 r9 r11 t0_420 x25_430 hxs J450 hJ450
  refine r_if_lt (tgt := 444) dL_law_434 (by decide) ?_ ?_
  · refine r_lo [2, 3, 4, 5, 6, 7, 8, 9, 10, 11, 12, 13, 14, 15, 16, 17, 18, 19, 20, 21, 1, 0] (lo2 := [(0, .ref sb), (1, .ref a1), (2, .ref (ma 0)), (3, .ref (ma 1)), (4, .ref (ma 2)), (5, .ref (ma 3)), (6, .ref (ma 4)), (7, .ref (ma 5)), (8, .ref (ma 6)), (9, .ref (ma 7)), (10, .ref (ma 8)), (11, .ref (ma 9)), (12, .ref (ma 10)), (13, wi v13_97), (14, wi v14_97), (17, wi x17_171), (18, wi t0_189), (19, wi t0_203), (20, wi r9), (21, vl r11), (24, wi t0_420), (25, wi x25_430)]) rfl ?_
    exact hJ444 E_420 C_420 q_420
  · refine r_iload (x := x17_171) dL_law_437 rfl ?_
    refine ro_iconst (v := 4) dL_law_439 rfl ?_
    refine r_irem dL_law_440 (by decide) ?_
    refine r_if_le (tgt := 449) dL_law_441 (by decide) ?_ ?_
    · refine r_lconst (x := 1) dL_law_449 rfl ?_
      refine r_lo [2, 3, 4, 5, 6, 7, 8, 9, 10, 11, 12, 13, 14, 15, 16, 17, 18, 19, 20, 1, 0] (lo2 := [(0, .ref sb), (1, .ref a1), (2, .ref (ma 0)), (3, .ref (ma 1)), (4, .ref (ma 2)), (5, .ref (ma 3)), (6, .ref (ma 4)), (7, .ref (ma 5)), (8, .ref (ma 6)), (9, .ref (ma 7)), (10, .ref (ma 8)), (11, .ref (ma 9)), (12, .ref (ma 10)), (13, wi v13_97), (14, wi v14_97), (17, wi x17_171), (18, wi t0_189), (19, wi t0_203), (20, wi r9), (24, wi t0_420), (25, wi x25_430)]) rfl ?_
      exact hJ450 1 E_420 C_420 q_420
    · refine r_lo [2, 3, 4, 5, 6, 7, 8, 9, 10, 11, 12, 13, 14, 15, 16, 17, 18, 19, 20, 21, 1, 0] (lo2 := [(0, .ref sb), (1, .ref a1), (2, .ref (ma 0)), (3, .ref (ma 1)), (4, .ref (ma 2)), (5, .ref (ma 3)), (6, .ref (ma 4)), (7, .ref (ma 5)), (8, .ref (ma 6)), (9, .ref (ma 7)), (10, .ref (ma 8)), (11, .ref (ma 9)), (12, .ref (ma 10)), (13, wi v13_97), (14, wi v14_97), (17, wi x17_171), (18, wi t0_189), (19, wi t0_203), (20, wi r9), (21, vl r11), (24, wi t0_420), (25, wi x25_430)]) rfl ?_
      exact hJ444 E_420 C_420 q_420
set_option maxHeartbeats 8000000 in
set_option maxRecDepth 100000 in
theorem b_L_law_406 {l : Launch} {Γ : Cx} {ma : Nat → Nat} (h : wOn Γ) (hm : ∀ k, k ≤ 10 → ma k ≠ 0) (hG : GK Γ l) {sT : Nat → Nat} (hS : STs Γ sT) (hX : XN Γ) {T : List ExceptionTableEntry} (htb : T = []) {sb : Nat} (Ls : Nat) (xs : Nat → Int32) (a1 : Nat) (v13_97 : Int) (v14_97 : Int) (x17_171 : Int) (t0_189 : Int) (t0_203 : Int) (r9 : Int) (r11 : Int) (hxs : XScr Γ sb Ls xs) (J1788 : Int → Rw → Cd → (Nat → Nat) → Option (Int × S3)) (hJ1788 : ∀ (v13_1788 : Int) (E_1788 : Rw) (C_1788 : Cd) (q_1788 : (Nat → Nat)), RunO l Γ (kL T) 16 encI (em3 ma) 1788 [(0, .ref sb), (1, .ref a1), (2, .ref (ma 0)), (3, .ref (ma 1)), (4, .ref (ma 2)), (5, .ref (ma 3)), (6, .ref (ma 4)), (7, .ref (ma 5)), (8, .ref (ma 6)), (9, .ref (ma 7)), (10, .ref (ma 8)), (11, .ref (ma 9)), (12, .ref (ma 10)), (13, wi v13_1788), (14, wi v14_97), (17, wi x17_171)] [] (E_1788, C_1788, q_1788) (J1788 v13_1788 E_1788 C_1788 q_1788)) : ∀ (t0_406 : Int) (E_406 : Rw) (C_406 : Cd) (q_406 : (Nat → Nat)), RunO l Γ (kL T) 16 encI (em3 ma) 406 [(0, .ref sb), (1, .ref a1), (2, .ref (ma 0)), (3, .ref (ma 1)), (4, .ref (ma 2)), (5, .ref (ma 3)), (6, .ref (ma 4)), (7, .ref (ma 5)), (8, .ref (ma 6)), (9, .ref (ma 7)), (10, .ref (ma 8)), (11, .ref (ma 9)), (12, .ref (ma 10)), (13, wi v13_97), (14, wi v14_97), (17, wi x17_171), (18, wi t0_189), (19, wi t0_203), (20, wi r9), (21, vl r11)] [wi t0_406] (E_406, C_406, q_406) (fW_law_406 a1 v13_97 x17_171 t0_189 t0_203 r9 r11 J1788 t0_406 E_406 C_406 q_406) := by
  intro t0_406 E_406 C_406 q_406
  unfold fW_law_406
  refine r_istore (lo2 := [(24, wi t0_406), (0, .ref sb), (1, .ref a1), (2, .ref (ma 0)), (3, .ref (ma 1)), (4, .ref (ma 2)), (5, .ref (ma 3)), (6, .ref (ma 4)), (7, .ref (ma 5)), (8, .ref (ma 6)), (9, .ref (ma 7)), (10, .ref (ma 8)), (11, .ref (ma 9)), (12, .ref (ma 10)), (13, wi v13_97), (14, wi v14_97), (17, wi x17_171), (18, wi t0_189), (19, wi t0_203), (20, wi r9), (21, vl r11)]) dL_law_406 (show 24 < 35 by decide) rfl ?_
  refine r_iload (x := t0_406) dL_law_408 rfl ?_
  refine r_join (P := fun (J : Int → Rw → Cd → (Nat → Nat) → Option (Int × S3)) => ∀ (t0_420 : Int) (E_420 : Rw) (C_420 : Cd) (q_420 : (Nat → Nat)), RunO l Γ (kL T) 16 encI (em3 ma) 420 [(0, .ref sb), (1, .ref a1), (2, .ref (ma 0)), (3, .ref (ma 1)), (4, .ref (ma 2)), (5, .ref (ma 3)), (6, .ref (ma 4)), (7, .ref (ma 5)), (8, .ref (ma 6)), (9, .ref (ma 7)), (10, .ref (ma 8)), (11, .ref (ma 9)), (12, .ref (ma 10)), (13, wi v13_97), (14, wi v14_97), (17, wi x17_171), (18, wi t0_189), (19, wi t0_203), (20, wi r9), (21, vl r11)] [wi t0_420] (E_420, C_420, q_420) (J t0_420 E_420 C_420 q_420)) ?_ (fun J420 hJ420 => ?_)
  · exact b_L_law_420 h hm hG hS hX htb Ls xs a1 v13_97 v14_97 x17_171 t0_189 t0_203 r9 r11 hxs J1788 hJ1788
  refine r_if_ge (tgt := 418) dL_law_410 (by decide) ?_ ?_
  · refine r_iload (x := t0_406) dL_law_418 rfl ?_
    refine r_lo [1, 2, 3, 4, 5, 6, 7, 8, 9, 10, 11, 12, 13, 14, 15, 16, 17, 18, 19, 20] (lo2 := [(0, .ref sb), (1, .ref a1), (2, .ref (ma 0)), (3, .ref (ma 1)), (4, .ref (ma 2)), (5, .ref (ma 3)), (6, .ref (ma 4)), (7, .ref (ma 5)), (8, .ref (ma 6)), (9, .ref (ma 7)), (10, .ref (ma 8)), (11, .ref (ma 9)), (12, .ref (ma 10)), (13, wi v13_97), (14, wi v14_97), (17, wi x17_171), (18, wi t0_189), (19, wi t0_203), (20, wi r9), (21, vl r11)]) rfl ?_
    exact hJ420 t0_406 E_406 C_406 q_406
  · refine r_iload (x := r9) dL_law_413 rfl ?_
    refine r_goto (tgt := 420) dL_law_415 (by decide) ?_
    refine r_lo [1, 2, 3, 4, 5, 6, 7, 8, 9, 10, 11, 12, 13, 14, 15, 16, 17, 18, 19, 20] (lo2 := [(0, .ref sb), (1, .ref a1), (2, .ref (ma 0)), (3, .ref (ma 1)), (4, .ref (ma 2)), (5, .ref (ma 3)), (6, .ref (ma 4)), (7, .ref (ma 5)), (8, .ref (ma 6)), (9, .ref (ma 7)), (10, .ref (ma 8)), (11, .ref (ma 9)), (12, .ref (ma 10)), (13, wi v13_97), (14, wi v14_97), (17, wi x17_171), (18, wi t0_189), (19, wi t0_203), (20, wi r9), (21, vl r11)]) rfl ?_
    exact hJ420 r9 E_406 C_406 q_406
set_option maxHeartbeats 8000000 in
set_option maxRecDepth 100000 in
theorem b_L_law_399 {l : Launch} {Γ : Cx} {ma : Nat → Nat} (h : wOn Γ) (hm : ∀ k, k ≤ 10 → ma k ≠ 0) (hG : GK Γ l) {sT : Nat → Nat} (hS : STs Γ sT) (hX : XN Γ) {T : List ExceptionTableEntry} (htb : T = []) {sb : Nat} (Ls : Nat) (xs : Nat → Int32) (a1 : Nat) (v13_97 : Int) (v14_97 : Int) (x17_171 : Int) (t0_189 : Int) (t0_203 : Int) (r9 : Int) (r11 : Int) (hxs : XScr Γ sb Ls xs) (J406 : Int → Rw → Cd → (Nat → Nat) → Option (Int × S3)) (hJ406 : ∀ (t0_406 : Int) (E_406 : Rw) (C_406 : Cd) (q_406 : (Nat → Nat)), RunO l Γ (kL T) 16 encI (em3 ma) 406 [(0, .ref sb), (1, .ref a1), (2, .ref (ma 0)), (3, .ref (ma 1)), (4, .ref (ma 2)), (5, .ref (ma 3)), (6, .ref (ma 4)), (7, .ref (ma 5)), (8, .ref (ma 6)), (9, .ref (ma 7)), (10, .ref (ma 8)), (11, .ref (ma 9)), (12, .ref (ma 10)), (13, wi v13_97), (14, wi v14_97), (17, wi x17_171), (18, wi t0_189), (19, wi t0_203), (20, wi r9), (21, vl r11)] [wi t0_406] (E_406, C_406, q_406) (J406 t0_406 E_406 C_406 q_406)) : ∀ (t0_399 : Int) (E_399 : Rw) (C_399 : Cd) (q_399 : (Nat → Nat)), RunO l Γ (kL T) 16 encI (em3 ma) 399 [(0, .ref sb), (1, .ref a1), (2, .ref (ma 0)), (3, .ref (ma 1)), (4, .ref (ma 2)), (5, .ref (ma 3)), (6, .ref (ma 4)), (7, .ref (ma 5)), (8, .ref (ma 6)), (9, .ref (ma 7)), (10, .ref (ma 8)), (11, .ref (ma 9)), (12, .ref (ma 10)), (13, wi v13_97), (14, wi v14_97), (17, wi x17_171), (18, wi t0_189), (19, wi t0_203), (20, wi r9), (21, vl r11)] [wi t0_399, wi t0_189, .ref (ma 2), .ref (ma 1), .ref (ma 0)] (E_399, C_399, q_399) (fW_law_399 t0_189 J406 t0_399 E_399 C_399 q_399) := by
  intro t0_399 E_399 C_399 q_399
  unfold fW_law_399
  refine r_csi (J := fun (E_ : Rw) => (E_, C_399, q_399)) (k2 := k_L_versionOf) (n := 5) (rest := []) (fun _ => rfl) htb kv_L_versionOf (c_L_versionOf (ad := adq ma q_399) (K0 := C_399) h (adq_hm hm) t0_189 t0_399 _) (by decide) um_L_139 rfl (Nat.le_of_ble_eq_true rfl) dL_law_399 rfl (fun r92 E93 => ?_)
  show RunO l Γ (kL T) 16 encI (em3 ma) 402 [(0, .ref sb), (1, .ref a1), (2, .ref (ma 0)), (3, .ref (ma 1)), (4, .ref (ma 2)), (5, .ref (ma 3)), (6, .ref (ma 4)), (7, .ref (ma 5)), (8, .ref (ma 6)), (9, .ref (ma 7)), (10, .ref (ma 8)), (11, .ref (ma 9)), (12, .ref (ma 10)), (13, wi v13_97), (14, wi v14_97), (17, wi x17_171), (18, wi t0_189), (19, wi t0_203), (20, wi r9), (21, vl r11)] [wi r92] (E93, C_399, q_399) _
  refine r_goto (tgt := 406) dL_law_402 (by decide) ?_
  exact hJ406 r92 E93 C_399 q_399
set_option maxHeartbeats 8000000 in
set_option maxRecDepth 100000 in
theorem b_L_law_352 {l : Launch} {Γ : Cx} {ma : Nat → Nat} (h : wOn Γ) (hm : ∀ k, k ≤ 10 → ma k ≠ 0) (hG : GK Γ l) {sT : Nat → Nat} (hS : STs Γ sT) (hX : XN Γ) {T : List ExceptionTableEntry} (htb : T = []) {sb : Nat} (Ls : Nat) (xs : Nat → Int32) (a1 : Nat) (v13_97 : Int) (v14_97 : Int) (t0_164 : Int) (x17_171 : Int) (t0_189 : Int) (t0_203 : Int) (r9 : Int) (r11 : Int) (x23_234 : Int) (hxs : XScr Γ sb Ls xs) (J1788 : Int → Rw → Cd → (Nat → Nat) → Option (Int × S3)) (hJ1788 : ∀ (v13_1788 : Int) (E_1788 : Rw) (C_1788 : Cd) (q_1788 : (Nat → Nat)), RunO l Γ (kL T) 16 encI (em3 ma) 1788 [(0, .ref sb), (1, .ref a1), (2, .ref (ma 0)), (3, .ref (ma 1)), (4, .ref (ma 2)), (5, .ref (ma 3)), (6, .ref (ma 4)), (7, .ref (ma 5)), (8, .ref (ma 6)), (9, .ref (ma 7)), (10, .ref (ma 8)), (11, .ref (ma 9)), (12, .ref (ma 10)), (13, wi v13_1788), (14, wi v14_97), (17, wi x17_171)] [] (E_1788, C_1788, q_1788) (J1788 v13_1788 E_1788 C_1788 q_1788)) : ∀ (E_352 : Rw) (C_352 : Cd) (q_352 : (Nat → Nat)), RunO l Γ (kL T) 16 encI (em3 ma) 352 [(0, .ref sb), (1, .ref a1), (2, .ref (ma 0)), (3, .ref (ma 1)), (4, .ref (ma 2)), (5, .ref (ma 3)), (6, .ref (ma 4)), (7, .ref (ma 5)), (8, .ref (ma 6)), (9, .ref (ma 7)), (10, .ref (ma 8)), (11, .ref (ma 9)), (12, .ref (ma 10)), (13, wi v13_97), (14, wi v14_97), (16, wi t0_164), (17, wi x17_171), (18, wi t0_189), (19, wi t0_203), (20, wi r9), (21, vl r11), (23, wi x23_234)] [] (E_352, C_352, q_352) (fW_law_352 a1 v13_97 t0_164 x17_171 t0_189 t0_203 r9 r11 x23_234 J1788 E_352 C_352 q_352) := by
  intro E_352 C_352 q_352
  unfold fW_law_352
  refine r_iload (x := t0_164) dL_law_352 rfl ?_
  refine r_bipush (v := 10) dL_law_354 rfl ?_
  refine r_join (P := fun (J : Rw → Cd → (Nat → Nat) → Option (Int × S3)) => ∀ (E_696 : Rw) (C_696 : Cd) (q_696 : (Nat → Nat)), RunO l Γ (kL T) 16 encI (em3 ma) 696 [(0, .ref sb), (1, .ref a1), (2, .ref (ma 0)), (3, .ref (ma 1)), (4, .ref (ma 2)), (5, .ref (ma 3)), (6, .ref (ma 4)), (7, .ref (ma 5)), (8, .ref (ma 6)), (9, .ref (ma 7)), (10, .ref (ma 8)), (11, .ref (ma 9)), (12, .ref (ma 10)), (13, wi v13_97), (14, wi v14_97), (16, wi t0_164), (17, wi x17_171), (18, wi t0_189), (19, wi t0_203), (20, wi r9), (21, vl r11), (23, wi x23_234)] [] (E_696, C_696, q_696) (J E_696 C_696 q_696)) ?_ (fun J696 hJ696 => ?_)
  · exact b_L_law_696 h hm hG hS hX htb Ls xs a1 v13_97 v14_97 t0_164 x17_171 t0_189 t0_203 r9 r11 x23_234 hxs J1788 hJ1788
  refine r_icmp_ge (tgt := 696) dL_law_356 (by decide) ?_ ?_
  · exact hJ696 E_352 C_352 q_352
  · refine r_aload_n (x := ma 0) dL_law_359 rfl rfl ?_
    refine ro_iconst (v := 0) dL_law_360 rfl ?_
    refine r_wiald3 h (by decide) (by decide) (hm 0 (by decide)) dL_law_361 ?_
    refine r_bipush (v := 32) dL_law_362 rfl ?_
    refine r_icmp_ge (tgt := 696) dL_law_364 (by decide) ?_ ?_
    · exact hJ696 E_352 C_352 q_352
    · refine r_iload (x := t0_203) dL_law_367 rfl ?_
      refine r_join (P := fun (J : Int → Rw → Cd → (Nat → Nat) → Option (Int × S3)) => ∀ (t0_406 : Int) (E_406 : Rw) (C_406 : Cd) (q_406 : (Nat → Nat)), RunO l Γ (kL T) 16 encI (em3 ma) 406 [(0, .ref sb), (1, .ref a1), (2, .ref (ma 0)), (3, .ref (ma 1)), (4, .ref (ma 2)), (5, .ref (ma 3)), (6, .ref (ma 4)), (7, .ref (ma 5)), (8, .ref (ma 6)), (9, .ref (ma 7)), (10, .ref (ma 8)), (11, .ref (ma 9)), (12, .ref (ma 10)), (13, wi v13_97), (14, wi v14_97), (17, wi x17_171), (18, wi t0_189), (19, wi t0_203), (20, wi r9), (21, vl r11)] [wi t0_406] (E_406, C_406, q_406) (J t0_406 E_406 C_406 q_406)) ?_ (fun J406 hJ406 => ?_)
      · exact b_L_law_406 h hm hG hS hX htb Ls xs a1 v13_97 v14_97 x17_171 t0_189 t0_203 r9 r11 hxs J1788 hJ1788
      refine r_if_eq (tgt := 405) dL_law_369 (by decide) ?_ ?_
      · refine ro_iconst (v := 0) dL_law_405 rfl ?_
        refine r_lo [0, 1, 2, 3, 4, 5, 6, 7, 8, 9, 10, 11, 12, 13, 14, 16, 17, 18, 19, 20] (lo2 := [(0, .ref sb), (1, .ref a1), (2, .ref (ma 0)), (3, .ref (ma 1)), (4, .ref (ma 2)), (5, .ref (ma 3)), (6, .ref (ma 4)), (7, .ref (ma 5)), (8, .ref (ma 6)), (9, .ref (ma 7)), (10, .ref (ma 8)), (11, .ref (ma 9)), (12, .ref (ma 10)), (13, wi v13_97), (14, wi v14_97), (17, wi x17_171), (18, wi t0_189), (19, wi t0_203), (20, wi r9), (21, vl r11)]) rfl ?_
        exact hJ406 0 E_352 C_352 q_352
      · refine r_aload_n (x := ma 0) dL_law_372 rfl rfl ?_
        refine r_aload_n (x := ma 1) dL_law_373 rfl rfl ?_
        refine r_aload (x := ma 2) dL_law_374 rfl ?_
        refine r_iload (x := t0_189) dL_law_376 rfl ?_
        refine r_iload (x := x17_171) dL_law_378 rfl ?_
        refine r_bipush (v := 9) dL_law_380 rfl ?_
        refine r_idiv dL_law_382 (by decide) ?_
        refine ro_iconst (v := 3) dL_law_383 rfl ?_
        refine r_irem dL_law_384 (by decide) ?_
        refine r_join (P := fun (J : Int → Rw → Cd → (Nat → Nat) → Option (Int × S3)) => ∀ (t0_399 : Int) (E_399 : Rw) (C_399 : Cd) (q_399 : (Nat → Nat)), RunO l Γ (kL T) 16 encI (em3 ma) 399 [(0, .ref sb), (1, .ref a1), (2, .ref (ma 0)), (3, .ref (ma 1)), (4, .ref (ma 2)), (5, .ref (ma 3)), (6, .ref (ma 4)), (7, .ref (ma 5)), (8, .ref (ma 6)), (9, .ref (ma 7)), (10, .ref (ma 8)), (11, .ref (ma 9)), (12, .ref (ma 10)), (13, wi v13_97), (14, wi v14_97), (17, wi x17_171), (18, wi t0_189), (19, wi t0_203), (20, wi r9), (21, vl r11)] [wi t0_399, wi t0_189, .ref (ma 2), .ref (ma 1), .ref (ma 0)] (E_399, C_399, q_399) (J t0_399 E_399 C_399 q_399)) ?_ (fun J399 hJ399 => ?_)
        · exact b_L_law_399 h hm hG hS hX htb Ls xs a1 v13_97 v14_97 x17_171 t0_189 t0_203 r9 r11 hxs J406 hJ406
        refine r_if_le (tgt := 392) dL_law_385 (by decide) ?_ ?_
        · refine r_iload (x := x17_171) dL_law_392 rfl ?_
          refine r_bipush (v := 27) dL_law_394 rfl ?_
          refine r_idiv dL_law_396 (by decide) ?_
          refine ro_iconst (v := 4) dL_law_397 rfl ?_
          refine r_irem dL_law_398 (by decide) ?_
          refine r_lo [0, 1, 2, 3, 4, 5, 6, 7, 8, 9, 10, 11, 12, 13, 14, 16, 17, 18, 19, 20] (lo2 := [(0, .ref sb), (1, .ref a1), (2, .ref (ma 0)), (3, .ref (ma 1)), (4, .ref (ma 2)), (5, .ref (ma 3)), (6, .ref (ma 4)), (7, .ref (ma 5)), (8, .ref (ma 6)), (9, .ref (ma 7)), (10, .ref (ma 8)), (11, .ref (ma 9)), (12, .ref (ma 10)), (13, wi v13_97), (14, wi v14_97), (17, wi x17_171), (18, wi t0_189), (19, wi t0_203), (20, wi r9), (21, vl r11)]) rfl ?_
          exact hJ399 (remI (divI x17_171 27) 4) E_352 C_352 q_352
        · refine ro_iconst (v := 0) dL_law_388 rfl ?_
          refine r_goto (tgt := 399) dL_law_389 (by decide) ?_
          refine r_lo [0, 1, 2, 3, 4, 5, 6, 7, 8, 9, 10, 11, 12, 13, 14, 16, 17, 18, 19, 20] (lo2 := [(0, .ref sb), (1, .ref a1), (2, .ref (ma 0)), (3, .ref (ma 1)), (4, .ref (ma 2)), (5, .ref (ma 3)), (6, .ref (ma 4)), (7, .ref (ma 5)), (8, .ref (ma 6)), (9, .ref (ma 7)), (10, .ref (ma 8)), (11, .ref (ma 9)), (12, .ref (ma 10)), (13, wi v13_97), (14, wi v14_97), (17, wi x17_171), (18, wi t0_189), (19, wi t0_203), (20, wi r9), (21, vl r11)]) rfl ?_
          exact hJ399 0 E_352 C_352 q_352
set_option maxHeartbeats 8000000 in
set_option maxRecDepth 100000 in
theorem b_L_law_349 {l : Launch} {Γ : Cx} {ma : Nat → Nat} (h : wOn Γ) (hm : ∀ k, k ≤ 10 → ma k ≠ 0) (hG : GK Γ l) {sT : Nat → Nat} (hS : STs Γ sT) (hX : XN Γ) {T : List ExceptionTableEntry} (htb : T = []) {sb : Nat} (Ls : Nat) (xs : Nat → Int32) (a1 : Nat) (v14_97 : Int) (x17_171 : Int) (t0_301 : Int) (hxs : XScr Γ sb Ls xs) (J1788 : Int → Rw → Cd → (Nat → Nat) → Option (Int × S3)) (hJ1788 : ∀ (v13_1788 : Int) (E_1788 : Rw) (C_1788 : Cd) (q_1788 : (Nat → Nat)), RunO l Γ (kL T) 16 encI (em3 ma) 1788 [(0, .ref sb), (1, .ref a1), (2, .ref (ma 0)), (3, .ref (ma 1)), (4, .ref (ma 2)), (5, .ref (ma 3)), (6, .ref (ma 4)), (7, .ref (ma 5)), (8, .ref (ma 6)), (9, .ref (ma 7)), (10, .ref (ma 8)), (11, .ref (ma 9)), (12, .ref (ma 10)), (13, wi v13_1788), (14, wi v14_97), (17, wi x17_171)] [] (E_1788, C_1788, q_1788) (J1788 v13_1788 E_1788 C_1788 q_1788)) : ∀ (E_349 : Rw) (C_349 : Cd) (q_349 : (Nat → Nat)), RunO l Γ (kL T) 16 encI (em3 ma) 349 [(0, .ref sb), (1, .ref a1), (2, .ref (ma 0)), (3, .ref (ma 1)), (4, .ref (ma 2)), (5, .ref (ma 3)), (6, .ref (ma 4)), (7, .ref (ma 5)), (8, .ref (ma 6)), (9, .ref (ma 7)), (10, .ref (ma 8)), (11, .ref (ma 9)), (12, .ref (ma 10)), (13, wi t0_301), (14, wi v14_97), (17, wi x17_171)] [] (E_349, C_349, q_349) (fW_law_349 J1788 t0_301 E_349 C_349 q_349) := by
  intro E_349 C_349 q_349
  unfold fW_law_349
  refine r_goto (tgt := 1788) dL_law_349 (by decide) ?_
  exact hJ1788 t0_301 E_349 C_349 q_349
set_option maxHeartbeats 8000000 in
set_option maxRecDepth 100000 in
theorem b_L_law_301 {l : Launch} {Γ : Cx} {ma : Nat → Nat} (h : wOn Γ) (hm : ∀ k, k ≤ 10 → ma k ≠ 0) (hG : GK Γ l) {sT : Nat → Nat} (hS : STs Γ sT) (hX : XN Γ) {T : List ExceptionTableEntry} (htb : T = []) {sb : Nat} (Ls : Nat) (xs : Nat → Int32) (a1 : Nat) (v14_97 : Int) (x17_171 : Int) (t0_189 : Int) (r11 : Int) (t0_260 : Int) (hxs : XScr Γ sb Ls xs) (J1788 : Int → Rw → Cd → (Nat → Nat) → Option (Int × S3)) (hJ1788 : ∀ (v13_1788 : Int) (E_1788 : Rw) (C_1788 : Cd) (q_1788 : (Nat → Nat)), RunO l Γ (kL T) 16 encI (em3 ma) 1788 [(0, .ref sb), (1, .ref a1), (2, .ref (ma 0)), (3, .ref (ma 1)), (4, .ref (ma 2)), (5, .ref (ma 3)), (6, .ref (ma 4)), (7, .ref (ma 5)), (8, .ref (ma 6)), (9, .ref (ma 7)), (10, .ref (ma 8)), (11, .ref (ma 9)), (12, .ref (ma 10)), (13, wi v13_1788), (14, wi v14_97), (17, wi x17_171)] [] (E_1788, C_1788, q_1788) (J1788 v13_1788 E_1788 C_1788 q_1788)) : ∀ (t0_301 : Int) (E_301 : Rw) (C_301 : Cd) (q_301 : (Nat → Nat)), RunO l Γ (kL T) 16 encI (em3 ma) 301 [(0, .ref sb), (1, .ref a1), (2, .ref (ma 0)), (3, .ref (ma 1)), (4, .ref (ma 2)), (5, .ref (ma 3)), (6, .ref (ma 4)), (7, .ref (ma 5)), (8, .ref (ma 6)), (9, .ref (ma 7)), (10, .ref (ma 8)), (11, .ref (ma 9)), (12, .ref (ma 10)), (14, wi v14_97), (17, wi x17_171), (18, wi t0_189), (21, vl r11), (24, wi t0_260)] [wi t0_301] (E_301, C_301, q_301) (fW_law_301 t0_189 r11 J1788 t0_260 t0_301 E_301 C_301 q_301) := by
  intro t0_301 E_301 C_301 q_301
  unfold fW_law_301
  refine r_istore (lo2 := [(13, wi t0_301), (0, .ref sb), (1, .ref a1), (2, .ref (ma 0)), (3, .ref (ma 1)), (4, .ref (ma 2)), (5, .ref (ma 3)), (6, .ref (ma 4)), (7, .ref (ma 5)), (8, .ref (ma 6)), (9, .ref (ma 7)), (10, .ref (ma 8)), (11, .ref (ma 9)), (12, .ref (ma 10)), (14, wi v14_97), (17, wi x17_171), (18, wi t0_189), (21, vl r11), (24, wi t0_260)]) dL_law_301 (show 13 < 35 by decide) rfl ?_
  refine r_iload (x := t0_260) dL_law_303 rfl ?_
  refine r_join (P := fun (J : Rw → Cd → (Nat → Nat) → Option (Int × S3)) => ∀ (E_349 : Rw) (C_349 : Cd) (q_349 : (Nat → Nat)), RunO l Γ (kL T) 16 encI (em3 ma) 349 [(0, .ref sb), (1, .ref a1), (2, .ref (ma 0)), (3, .ref (ma 1)), (4, .ref (ma 2)), (5, .ref (ma 3)), (6, .ref (ma 4)), (7, .ref (ma 5)), (8, .ref (ma 6)), (9, .ref (ma 7)), (10, .ref (ma 8)), (11, .ref (ma 9)), (12, .ref (ma 10)), (13, wi t0_301), (14, wi v14_97), (17, wi x17_171)] [] (E_349, C_349, q_349) (J E_349 C_349 q_349)) ?_ (fun J349 hJ349 => ?_)
  · exact b_L_law_349 h hm hG hS hX htb Ls xs a1 v14_97 x17_171 t0_301 hxs J1788 hJ1788
  refine r_if_eq (tgt := 349) dL_law_305 (by decide) ?_ ?_
  · refine r_lo [1, 2, 3, 4, 5, 6, 7, 8, 9, 10, 11, 12, 13, 0, 14, 15] (lo2 := [(0, .ref sb), (1, .ref a1), (2, .ref (ma 0)), (3, .ref (ma 1)), (4, .ref (ma 2)), (5, .ref (ma 3)), (6, .ref (ma 4)), (7, .ref (ma 5)), (8, .ref (ma 6)), (9, .ref (ma 7)), (10, .ref (ma 8)), (11, .ref (ma 9)), (12, .ref (ma 10)), (13, wi t0_301), (14, wi v14_97), (17, wi x17_171)]) rfl ?_
    exact hJ349 E_301 C_301 q_301
  · refine r_aload_n (x := ma 1) dL_law_308 rfl rfl ?_
    refine r_iload (x := t0_189) dL_law_309 rfl ?_
    refine r_aload_n (x := ma 0) dL_law_311 rfl rfl ?_
    refine ro_iconst (v := 1) dL_law_312 rfl ?_
    refine r_wiald3 h (by decide) (by decide) (hm 0 (by decide)) dL_law_313 ?_
    refine ro_iconst (v := 1) dL_law_314 rfl ?_
    refine r_iadd dL_law_315 ?_
    refine r_wiast3 h (by decide) (by decide) (hm 1 (by decide)) dL_law_316 (fun E96 => ?_)
    refine r_aload_n (x := ma 0) dL_law_317 rfl rfl ?_
    refine ro_iconst (v := 2) dL_law_318 rfl ?_
    refine r_dup2 dL_law_319 rfl rfl ?_
    refine r_wiald3 h (by decide) (by decide) (hm 0 (by decide)) dL_law_320 ?_
    refine ro_iconst (v := 1) dL_law_321 rfl ?_
    refine r_iadd dL_law_322 ?_
    refine r_wiast3 h (by decide) (by decide) (hm 0 (by decide)) dL_law_323 (fun E97 => ?_)
    refine r_aload_n (x := ma 0) dL_law_324 rfl rfl ?_
    refine r_aload (x := ma 2) dL_law_325 rfl ?_
    refine r_aload (x := ma 3) dL_law_327 rfl ?_
    refine r_aload_n (x := ma 0) dL_law_329 rfl rfl ?_
    refine ro_iconst (v := 1) dL_law_330 rfl ?_
    refine r_wiald3 h (by decide) (by decide) (hm 0 (by decide)) dL_law_331 ?_
    refine r_aload_n (x := ma 0) dL_law_332 rfl rfl ?_
    refine ro_iconst (v := 2) dL_law_333 rfl ?_
    refine r_wiald3 h (by decide) (by decide) (hm 0 (by decide)) dL_law_334 ?_
    refine r_lload (x := r11) dL_law_335 rfl ?_
    refine r_csi (J := fun (E_ : Rw) => (E_, C_301, q_301)) (k2 := k_L_adds) (n := 6) (rest := []) (fun _ => rfl) htb kv_L_adds (c_L_adds (ad := adq ma q_301) (K0 := C_301) h (adq_hm hm) (E97 0 (ix 1)) (E97 0 (ix 2)) r11 _) (by decide) um_L_194 rfl (Nat.le_of_ble_eq_true rfl) dL_law_337 rfl (fun r98 E99 => ?_)
    show RunO l Γ (kL T) 16 encI (em3 ma) 340 [(13, wi t0_301), (0, .ref sb), (1, .ref a1), (2, .ref (ma 0)), (3, .ref (ma 1)), (4, .ref (ma 2)), (5, .ref (ma 3)), (6, .ref (ma 4)), (7, .ref (ma 5)), (8, .ref (ma 6)), (9, .ref (ma 7)), (10, .ref (ma 8)), (11, .ref (ma 9)), (12, .ref (ma 10)), (14, wi v14_97), (17, wi x17_171), (18, wi t0_189), (21, vl r11), (24, wi t0_260)] [wi r98] (E99, C_301, q_301) _
    refine r_istore (lo2 := [(25, wi r98), (13, wi t0_301), (0, .ref sb), (1, .ref a1), (2, .ref (ma 0)), (3, .ref (ma 1)), (4, .ref (ma 2)), (5, .ref (ma 3)), (6, .ref (ma 4)), (7, .ref (ma 5)), (8, .ref (ma 6)), (9, .ref (ma 7)), (10, .ref (ma 8)), (11, .ref (ma 9)), (12, .ref (ma 10)), (14, wi v14_97), (17, wi x17_171), (18, wi t0_189), (21, vl r11), (24, wi t0_260)]) dL_law_340 (show 25 < 35 by decide) rfl ?_
    refine r_aload_n (x := ma 0) dL_law_342 rfl rfl ?_
    refine ro_iconst (v := 1) dL_law_343 rfl ?_
    refine r_dup2 dL_law_344 rfl rfl ?_
    refine r_wiald3 h (by decide) (by decide) (hm 0 (by decide)) dL_law_345 ?_
    refine ro_iconst (v := 1) dL_law_346 rfl ?_
    refine r_iadd dL_law_347 ?_
    refine r_wiast3 h (by decide) (by decide) (hm 0 (by decide)) dL_law_348 (fun E100 => ?_)
    refine r_lo [2, 3, 4, 5, 6, 7, 8, 9, 10, 11, 12, 13, 14, 1, 15, 16] (lo2 := [(0, .ref sb), (1, .ref a1), (2, .ref (ma 0)), (3, .ref (ma 1)), (4, .ref (ma 2)), (5, .ref (ma 3)), (6, .ref (ma 4)), (7, .ref (ma 5)), (8, .ref (ma 6)), (9, .ref (ma 7)), (10, .ref (ma 8)), (11, .ref (ma 9)), (12, .ref (ma 10)), (13, wi t0_301), (14, wi v14_97), (17, wi x17_171)]) rfl ?_
    exact hJ349 E100 C_301 q_301
set_option maxHeartbeats 8000000 in
set_option maxRecDepth 100000 in
theorem b_L_law_300 {l : Launch} {Γ : Cx} {ma : Nat → Nat} (h : wOn Γ) (hm : ∀ k, k ≤ 10 → ma k ≠ 0) (hG : GK Γ l) {sT : Nat → Nat} (hS : STs Γ sT) (hX : XN Γ) {T : List ExceptionTableEntry} (htb : T = []) {sb : Nat} (Ls : Nat) (xs : Nat → Int32) (a1 : Nat) (v14_97 : Int) (x17_171 : Int) (t0_189 : Int) (r11 : Int) (t0_260 : Int) (hxs : XScr Γ sb Ls xs) (J301 : Int → Rw → Cd → (Nat → Nat) → Option (Int × S3)) (hJ301 : ∀ (t0_301 : Int) (E_301 : Rw) (C_301 : Cd) (q_301 : (Nat → Nat)), RunO l Γ (kL T) 16 encI (em3 ma) 301 [(0, .ref sb), (1, .ref a1), (2, .ref (ma 0)), (3, .ref (ma 1)), (4, .ref (ma 2)), (5, .ref (ma 3)), (6, .ref (ma 4)), (7, .ref (ma 5)), (8, .ref (ma 6)), (9, .ref (ma 7)), (10, .ref (ma 8)), (11, .ref (ma 9)), (12, .ref (ma 10)), (14, wi v14_97), (17, wi x17_171), (18, wi t0_189), (21, vl r11), (24, wi t0_260)] [wi t0_301] (E_301, C_301, q_301) (J301 t0_301 E_301 C_301 q_301)) : ∀ (E_300 : Rw) (C_300 : Cd) (q_300 : (Nat → Nat)), RunO l Γ (kL T) 16 encI (em3 ma) 300 [(0, .ref sb), (1, .ref a1), (2, .ref (ma 0)), (3, .ref (ma 1)), (4, .ref (ma 2)), (5, .ref (ma 3)), (6, .ref (ma 4)), (7, .ref (ma 5)), (8, .ref (ma 6)), (9, .ref (ma 7)), (10, .ref (ma 8)), (11, .ref (ma 9)), (12, .ref (ma 10)), (14, wi v14_97), (17, wi x17_171), (18, wi t0_189), (21, vl r11), (24, wi t0_260)] [] (E_300, C_300, q_300) (fW_law_300 J301 E_300 C_300 q_300) := by
  intro E_300 C_300 q_300
  unfold fW_law_300
  refine ro_iconst (v := 0) dL_law_300 rfl ?_
  exact hJ301 0 E_300 C_300 q_300
set_option maxHeartbeats 8000000 in
set_option maxRecDepth 100000 in
theorem b_L_law_293 {l : Launch} {Γ : Cx} {ma : Nat → Nat} (h : wOn Γ) (hm : ∀ k, k ≤ 10 → ma k ≠ 0) (hG : GK Γ l) {sT : Nat → Nat} (hS : STs Γ sT) (hX : XN Γ) {T : List ExceptionTableEntry} (htb : T = []) {sb : Nat} (Ls : Nat) (xs : Nat → Int32) (a1 : Nat) (v14_97 : Int) (x17_171 : Int) (t0_189 : Int) (r11 : Int) (t0_260 : Int) (r101 : Int) (hxs : XScr Γ sb Ls xs) (J301 : Int → Rw → Cd → (Nat → Nat) → Option (Int × S3)) (hJ301 : ∀ (t0_301 : Int) (E_301 : Rw) (C_301 : Cd) (q_301 : (Nat → Nat)), RunO l Γ (kL T) 16 encI (em3 ma) 301 [(0, .ref sb), (1, .ref a1), (2, .ref (ma 0)), (3, .ref (ma 1)), (4, .ref (ma 2)), (5, .ref (ma 3)), (6, .ref (ma 4)), (7, .ref (ma 5)), (8, .ref (ma 6)), (9, .ref (ma 7)), (10, .ref (ma 8)), (11, .ref (ma 9)), (12, .ref (ma 10)), (14, wi v14_97), (17, wi x17_171), (18, wi t0_189), (21, vl r11), (24, wi t0_260)] [wi t0_301] (E_301, C_301, q_301) (J301 t0_301 E_301 C_301 q_301)) (J300 : Rw → Cd → (Nat → Nat) → Option (Int × S3)) (hJ300 : ∀ (E_300 : Rw) (C_300 : Cd) (q_300 : (Nat → Nat)), RunO l Γ (kL T) 16 encI (em3 ma) 300 [(0, .ref sb), (1, .ref a1), (2, .ref (ma 0)), (3, .ref (ma 1)), (4, .ref (ma 2)), (5, .ref (ma 3)), (6, .ref (ma 4)), (7, .ref (ma 5)), (8, .ref (ma 6)), (9, .ref (ma 7)), (10, .ref (ma 8)), (11, .ref (ma 9)), (12, .ref (ma 10)), (14, wi v14_97), (17, wi x17_171), (18, wi t0_189), (21, vl r11), (24, wi t0_260)] [] (E_300, C_300, q_300) (J300 E_300 C_300 q_300)) : ∀ (t0_293 : Int) (E_293 : Rw) (C_293 : Cd) (q_293 : (Nat → Nat)), RunO l Γ (kL T) 16 encI (em3 ma) 293 [(0, .ref sb), (1, .ref a1), (2, .ref (ma 0)), (3, .ref (ma 1)), (4, .ref (ma 2)), (5, .ref (ma 3)), (6, .ref (ma 4)), (7, .ref (ma 5)), (8, .ref (ma 6)), (9, .ref (ma 7)), (10, .ref (ma 8)), (11, .ref (ma 9)), (12, .ref (ma 10)), (14, wi v14_97), (17, wi x17_171), (18, wi t0_189), (21, vl r11), (24, wi t0_260)] [wi t0_293, wi r101] (E_293, C_293, q_293) (fW_law_293 J301 J300 r101 t0_293 E_293 C_293 q_293) := by
  intro t0_293 E_293 C_293 q_293
  unfold fW_law_293
  refine r_icmp_ne (tgt := 300) dL_law_293 (by decide) ?_ ?_
  · exact hJ300 E_293 C_293 q_293
  · refine ro_iconst (v := 1) dL_law_296 rfl ?_
    refine r_goto (tgt := 301) dL_law_297 (by decide) ?_
    exact hJ301 1 E_293 C_293 q_293
set_option maxHeartbeats 8000000 in
set_option maxRecDepth 100000 in
theorem b_L_law_260 {l : Launch} {Γ : Cx} {ma : Nat → Nat} (h : wOn Γ) (hm : ∀ k, k ≤ 10 → ma k ≠ 0) (hG : GK Γ l) {sT : Nat → Nat} (hS : STs Γ sT) (hX : XN Γ) {T : List ExceptionTableEntry} (htb : T = []) {sb : Nat} (Ls : Nat) (xs : Nat → Int32) (a1 : Nat) (v14_97 : Int) (x17_171 : Int) (t0_189 : Int) (r11 : Int) (hxs : XScr Γ sb Ls xs) (J1788 : Int → Rw → Cd → (Nat → Nat) → Option (Int × S3)) (hJ1788 : ∀ (v13_1788 : Int) (E_1788 : Rw) (C_1788 : Cd) (q_1788 : (Nat → Nat)), RunO l Γ (kL T) 16 encI (em3 ma) 1788 [(0, .ref sb), (1, .ref a1), (2, .ref (ma 0)), (3, .ref (ma 1)), (4, .ref (ma 2)), (5, .ref (ma 3)), (6, .ref (ma 4)), (7, .ref (ma 5)), (8, .ref (ma 6)), (9, .ref (ma 7)), (10, .ref (ma 8)), (11, .ref (ma 9)), (12, .ref (ma 10)), (13, wi v13_1788), (14, wi v14_97), (17, wi x17_171)] [] (E_1788, C_1788, q_1788) (J1788 v13_1788 E_1788 C_1788 q_1788)) : ∀ (t0_260 : Int) (E_260 : Rw) (C_260 : Cd) (q_260 : (Nat → Nat)), RunO l Γ (kL T) 16 encI (em3 ma) 260 [(0, .ref sb), (1, .ref a1), (2, .ref (ma 0)), (3, .ref (ma 1)), (4, .ref (ma 2)), (5, .ref (ma 3)), (6, .ref (ma 4)), (7, .ref (ma 5)), (8, .ref (ma 6)), (9, .ref (ma 7)), (10, .ref (ma 8)), (11, .ref (ma 9)), (12, .ref (ma 10)), (14, wi v14_97), (17, wi x17_171), (18, wi t0_189), (21, vl r11)] [wi t0_260] (E_260, C_260, q_260) (fW_law_260 a1 t0_189 r11 J1788 t0_260 E_260 C_260 q_260) := by
  intro t0_260 E_260 C_260 q_260
  unfold fW_law_260
  refine r_istore (lo2 := [(24, wi t0_260), (0, .ref sb), (1, .ref a1), (2, .ref (ma 0)), (3, .ref (ma 1)), (4, .ref (ma 2)), (5, .ref (ma 3)), (6, .ref (ma 4)), (7, .ref (ma 5)), (8, .ref (ma 6)), (9, .ref (ma 7)), (10, .ref (ma 8)), (11, .ref (ma 9)), (12, .ref (ma 10)), (14, wi v14_97), (17, wi x17_171), (18, wi t0_189), (21, vl r11)]) dL_law_260 (show 24 < 35 by decide) rfl ?_
  refine r_aload_n (x := a1) dL_law_262 rfl rfl ?_
  refine r_lload (x := r11) dL_law_263 rfl ?_
  refine r_csi (J := fun (C_ : Cd) => (E_260, C_, q_260)) (k2 := k_L_drafts) (n := 2) (rest := []) (fun _ => rfl) htb kv_L_drafts (c_L_drafts (M0 := (fun k => (adq ma q_260 k : Int), E_260)) hG hS a1 r11 _) (by decide) um_L_190 rfl (Nat.le_of_ble_eq_true rfl) dL_law_265 rfl (fun r94 C95 => ?_)
  show RunO l Γ (kL T) 16 encI (em3 ma) 268 [(24, wi t0_260), (0, .ref sb), (1, .ref a1), (2, .ref (ma 0)), (3, .ref (ma 1)), (4, .ref (ma 2)), (5, .ref (ma 3)), (6, .ref (ma 4)), (7, .ref (ma 5)), (8, .ref (ma 6)), (9, .ref (ma 7)), (10, .ref (ma 8)), (11, .ref (ma 9)), (12, .ref (ma 10)), (14, wi v14_97), (17, wi x17_171), (18, wi t0_189), (21, vl r11)] [wi r94] (E_260, C95, q_260) _
  refine r_join (P := fun (J : Int → Rw → Cd → (Nat → Nat) → Option (Int × S3)) => ∀ (t0_301 : Int) (E_301 : Rw) (C_301 : Cd) (q_301 : (Nat → Nat)), RunO l Γ (kL T) 16 encI (em3 ma) 301 [(0, .ref sb), (1, .ref a1), (2, .ref (ma 0)), (3, .ref (ma 1)), (4, .ref (ma 2)), (5, .ref (ma 3)), (6, .ref (ma 4)), (7, .ref (ma 5)), (8, .ref (ma 6)), (9, .ref (ma 7)), (10, .ref (ma 8)), (11, .ref (ma 9)), (12, .ref (ma 10)), (14, wi v14_97), (17, wi x17_171), (18, wi t0_189), (21, vl r11), (24, wi t0_260)] [wi t0_301] (E_301, C_301, q_301) (J t0_301 E_301 C_301 q_301)) ?_ (fun J301 hJ301 => ?_)
  · exact b_L_law_301 h hm hG hS hX htb Ls xs a1 v14_97 x17_171 t0_189 r11 t0_260 hxs J1788 hJ1788
  refine r_join (P := fun (J : Rw → Cd → (Nat → Nat) → Option (Int × S3)) => ∀ (E_300 : Rw) (C_300 : Cd) (q_300 : (Nat → Nat)), RunO l Γ (kL T) 16 encI (em3 ma) 300 [(0, .ref sb), (1, .ref a1), (2, .ref (ma 0)), (3, .ref (ma 1)), (4, .ref (ma 2)), (5, .ref (ma 3)), (6, .ref (ma 4)), (7, .ref (ma 5)), (8, .ref (ma 6)), (9, .ref (ma 7)), (10, .ref (ma 8)), (11, .ref (ma 9)), (12, .ref (ma 10)), (14, wi v14_97), (17, wi x17_171), (18, wi t0_189), (21, vl r11), (24, wi t0_260)] [] (E_300, C_300, q_300) (J E_300 C_300 q_300)) ?_ (fun J300 hJ300 => ?_)
  · exact b_L_law_300 h hm hG hS hX htb Ls xs a1 v14_97 x17_171 t0_189 r11 t0_260 hxs J301 hJ301
  refine r_if_eq (tgt := 300) dL_law_268 (by decide) ?_ ?_
  · refine r_lo [1, 2, 3, 4, 5, 6, 7, 8, 9, 10, 11, 12, 13, 14, 15, 16, 17, 0] (lo2 := [(0, .ref sb), (1, .ref a1), (2, .ref (ma 0)), (3, .ref (ma 1)), (4, .ref (ma 2)), (5, .ref (ma 3)), (6, .ref (ma 4)), (7, .ref (ma 5)), (8, .ref (ma 6)), (9, .ref (ma 7)), (10, .ref (ma 8)), (11, .ref (ma 9)), (12, .ref (ma 10)), (14, wi v14_97), (17, wi x17_171), (18, wi t0_189), (21, vl r11), (24, wi t0_260)]) rfl ?_
    exact hJ300 E_260 C95 q_260
  · refine r_aload_n (x := a1) dL_law_271 rfl rfl ?_
    refine ro_iconst (v := 0) dL_law_272 rfl ?_
    refine r_iload (x := t0_189) dL_law_273 rfl ?_
    refine ro_iconst (v := 0) dL_law_275 rfl ?_
    refine ro_iconst (v := 0) dL_law_276 rfl ?_
    refine r_csHi (J := fun (C_ : Cd) => (E_260, C_, q_260)) (k2 := k_L_does) (n := 5) (rest := []) (fun _ => rfl) kv_L_does (c_L_does (M0 := (fun k => (adq ma q_260 k : Int), E_260)) hG hX a1 0 t0_189 0 0 _) (by decide) um_L_132 rfl (Nat.le_of_ble_eq_true rfl) dL_law_277 rfl (fun r101 C102 => ?_)
    show RunO l Γ (kL T) 16 encI (em3 ma) 280 [(24, wi t0_260), (0, .ref sb), (1, .ref a1), (2, .ref (ma 0)), (3, .ref (ma 1)), (4, .ref (ma 2)), (5, .ref (ma 3)), (6, .ref (ma 4)), (7, .ref (ma 5)), (8, .ref (ma 6)), (9, .ref (ma 7)), (10, .ref (ma 8)), (11, .ref (ma 9)), (12, .ref (ma 10)), (14, wi v14_97), (17, wi x17_171), (18, wi t0_189), (21, vl r11)] [wi r101] (E_260, C102, q_260) _
    refine r_iload (x := t0_260) dL_law_280 rfl ?_
    refine r_join (P := fun (J : Int → Rw → Cd → (Nat → Nat) → Option (Int × S3)) => ∀ (t0_293 : Int) (E_293 : Rw) (C_293 : Cd) (q_293 : (Nat → Nat)), RunO l Γ (kL T) 16 encI (em3 ma) 293 [(0, .ref sb), (1, .ref a1), (2, .ref (ma 0)), (3, .ref (ma 1)), (4, .ref (ma 2)), (5, .ref (ma 3)), (6, .ref (ma 4)), (7, .ref (ma 5)), (8, .ref (ma 6)), (9, .ref (ma 7)), (10, .ref (ma 8)), (11, .ref (ma 9)), (12, .ref (ma 10)), (14, wi v14_97), (17, wi x17_171), (18, wi t0_189), (21, vl r11), (24, wi t0_260)] [wi t0_293, wi r101] (E_293, C_293, q_293) (J t0_293 E_293 C_293 q_293)) ?_ (fun J293 hJ293 => ?_)
    · exact b_L_law_293 h hm hG hS hX htb Ls xs a1 v14_97 x17_171 t0_189 r11 t0_260 r101 hxs J301 hJ301 J300 hJ300
    refine r_if_eq (tgt := 291) dL_law_282 (by decide) ?_ ?_
    · refine r_bipush (v := (-13)) dL_law_291 rfl ?_
      refine r_lo [1, 2, 3, 4, 5, 6, 7, 8, 9, 10, 11, 12, 13, 14, 15, 16, 17, 0] (lo2 := [(0, .ref sb), (1, .ref a1), (2, .ref (ma 0)), (3, .ref (ma 1)), (4, .ref (ma 2)), (5, .ref (ma 3)), (6, .ref (ma 4)), (7, .ref (ma 5)), (8, .ref (ma 6)), (9, .ref (ma 7)), (10, .ref (ma 8)), (11, .ref (ma 9)), (12, .ref (ma 10)), (14, wi v14_97), (17, wi x17_171), (18, wi t0_189), (21, vl r11), (24, wi t0_260)]) rfl ?_
      exact hJ293 (-13) E_260 C102 q_260
    · refine r_aload_n (x := ma 0) dL_law_285 rfl rfl ?_
      refine ro_iconst (v := 0) dL_law_286 rfl ?_
      refine r_wiald3 h (by decide) (by decide) (hm 0 (by decide)) dL_law_287 ?_
      refine r_goto (tgt := 293) dL_law_288 (by decide) ?_
      refine r_lo [1, 2, 3, 4, 5, 6, 7, 8, 9, 10, 11, 12, 13, 14, 15, 16, 17, 0] (lo2 := [(0, .ref sb), (1, .ref a1), (2, .ref (ma 0)), (3, .ref (ma 1)), (4, .ref (ma 2)), (5, .ref (ma 3)), (6, .ref (ma 4)), (7, .ref (ma 5)), (8, .ref (ma 6)), (9, .ref (ma 7)), (10, .ref (ma 8)), (11, .ref (ma 9)), (12, .ref (ma 10)), (14, wi v14_97), (17, wi x17_171), (18, wi t0_189), (21, vl r11), (24, wi t0_260)]) rfl ?_
      exact hJ293 (E_260 0 (ix 0)) E_260 C102 q_260
set_option maxHeartbeats 8000000 in
set_option maxRecDepth 100000 in
theorem b_L_law_203 {l : Launch} {Γ : Cx} {ma : Nat → Nat} (h : wOn Γ) (hm : ∀ k, k ≤ 10 → ma k ≠ 0) (hG : GK Γ l) {sT : Nat → Nat} (hS : STs Γ sT) (hX : XN Γ) {T : List ExceptionTableEntry} (htb : T = []) {sb : Nat} (Ls : Nat) (xs : Nat → Int32) (a1 : Nat) (v13_97 : Int) (v14_97 : Int) (t0_164 : Int) (x17_171 : Int) (t0_189 : Int) (hxs : XScr Γ sb Ls xs) (L97 : Int → Int → Rw → Cd → (Nat → Nat) → Option (Int × S3)) (hL97 : ∀ (v13_97 : Int) (v14_97 : Int) (E_97 : Rw) (C_97 : Cd) (q_97 : (Nat → Nat)), RunO l Γ (kL T) 16 encI (em3 ma) 97 [(0, .ref sb), (1, .ref a1), (2, .ref (ma 0)), (3, .ref (ma 1)), (4, .ref (ma 2)), (5, .ref (ma 3)), (6, .ref (ma 4)), (7, .ref (ma 5)), (8, .ref (ma 6)), (9, .ref (ma 7)), (10, .ref (ma 8)), (11, .ref (ma 9)), (12, .ref (ma 10)), (13, wi v13_97), (14, wi v14_97)] [] (E_97, C_97, q_97) (L97 v13_97 v14_97 E_97 C_97 q_97)) : ∀ (t0_203 : Int) (E_203 : Rw) (C_203 : Cd) (q_203 : (Nat → Nat)), RunO l Γ (kL T) 16 encI (em3 ma) 203 [(0, .ref sb), (1, .ref a1), (2, .ref (ma 0)), (3, .ref (ma 1)), (4, .ref (ma 2)), (5, .ref (ma 3)), (6, .ref (ma 4)), (7, .ref (ma 5)), (8, .ref (ma 6)), (9, .ref (ma 7)), (10, .ref (ma 8)), (11, .ref (ma 9)), (12, .ref (ma 10)), (13, wi v13_97), (14, wi v14_97), (16, wi t0_164), (17, wi x17_171), (18, wi t0_189)] [wi t0_203] (E_203, C_203, q_203) (fW_law_203 a1 L97 v13_97 v14_97 t0_164 x17_171 t0_189 t0_203 E_203 C_203 q_203) := by
  intro t0_203 E_203 C_203 q_203
  unfold fW_law_203
  refine r_istore (lo2 := [(19, wi t0_203), (0, .ref sb), (1, .ref a1), (2, .ref (ma 0)), (3, .ref (ma 1)), (4, .ref (ma 2)), (5, .ref (ma 3)), (6, .ref (ma 4)), (7, .ref (ma 5)), (8, .ref (ma 6)), (9, .ref (ma 7)), (10, .ref (ma 8)), (11, .ref (ma 9)), (12, .ref (ma 10)), (13, wi v13_97), (14, wi v14_97), (16, wi t0_164), (17, wi x17_171), (18, wi t0_189)]) dL_law_203 (show 19 < 35 by decide) rfl ?_
  refine r_aload_n (x := ma 0) dL_law_205 rfl rfl ?_
  refine r_aload_n (x := ma 1) dL_law_206 rfl rfl ?_
  refine r_aload (x := ma 2) dL_law_207 rfl ?_
  refine r_iload (x := t0_189) dL_law_209 rfl ?_
  refine r_csi (J := fun (E_ : Rw) => (E_, C_203, q_203)) (k2 := k_L_present) (n := 4) (rest := []) (fun _ => rfl) htb kv_L_present (c_L_present (ad := adq ma q_203) (K0 := C_203) h (adq_hm hm) t0_189 _) (by decide) um_L_15 rfl (Nat.le_of_ble_eq_true rfl) dL_law_211 rfl (fun r9 E10 => ?_)
  show RunO l Γ (kL T) 16 encI (em3 ma) 214 [(19, wi t0_203), (0, .ref sb), (1, .ref a1), (2, .ref (ma 0)), (3, .ref (ma 1)), (4, .ref (ma 2)), (5, .ref (ma 3)), (6, .ref (ma 4)), (7, .ref (ma 5)), (8, .ref (ma 6)), (9, .ref (ma 7)), (10, .ref (ma 8)), (11, .ref (ma 9)), (12, .ref (ma 10)), (13, wi v13_97), (14, wi v14_97), (16, wi t0_164), (17, wi x17_171), (18, wi t0_189)] [wi r9] (E10, C_203, q_203) _
  refine r_istore (lo2 := [(20, wi r9), (19, wi t0_203), (0, .ref sb), (1, .ref a1), (2, .ref (ma 0)), (3, .ref (ma 1)), (4, .ref (ma 2)), (5, .ref (ma 3)), (6, .ref (ma 4)), (7, .ref (ma 5)), (8, .ref (ma 6)), (9, .ref (ma 7)), (10, .ref (ma 8)), (11, .ref (ma 9)), (12, .ref (ma 10)), (13, wi v13_97), (14, wi v14_97), (16, wi t0_164), (17, wi x17_171), (18, wi t0_189)]) dL_law_214 (show 20 < 35 by decide) rfl ?_
  refine r_iload (x := x17_171) dL_law_216 rfl ?_
  refine r_bipush (v := 8) dL_law_218 rfl ?_
  refine r_idiv dL_law_220 (by decide) ?_
  refine r_csj (J := fun (_ : Unit) => (E10, C_203, q_203)) (k2 := k_L_drawn) (n := 1) (rest := []) (fun _ => rfl) htb kv_L_drawn (c_L_drawn (σ0 := _) (divI x17_171 8)) (by decide) um_L_186 rfl (Nat.le_of_ble_eq_true rfl) dL_law_221 rfl (fun r11 _ => ?_)
  show RunO l Γ (kL T) 16 encI (em3 ma) 224 [(20, wi r9), (19, wi t0_203), (0, .ref sb), (1, .ref a1), (2, .ref (ma 0)), (3, .ref (ma 1)), (4, .ref (ma 2)), (5, .ref (ma 3)), (6, .ref (ma 4)), (7, .ref (ma 5)), (8, .ref (ma 6)), (9, .ref (ma 7)), (10, .ref (ma 8)), (11, .ref (ma 9)), (12, .ref (ma 10)), (13, wi v13_97), (14, wi v14_97), (16, wi t0_164), (17, wi x17_171), (18, wi t0_189)] [vl r11] (E10, C_203, q_203) _
  refine r_lstore (lo2 := [(21, vl r11), (20, wi r9), (19, wi t0_203), (0, .ref sb), (1, .ref a1), (2, .ref (ma 0)), (3, .ref (ma 1)), (4, .ref (ma 2)), (5, .ref (ma 3)), (6, .ref (ma 4)), (7, .ref (ma 5)), (8, .ref (ma 6)), (9, .ref (ma 7)), (10, .ref (ma 8)), (11, .ref (ma 9)), (12, .ref (ma 10)), (13, wi v13_97), (14, wi v14_97), (16, wi t0_164), (17, wi x17_171), (18, wi t0_189)]) dL_law_224 (show 21 + 1 < 35 by decide) rfl ?_
  refine r_iload (x := x17_171) dL_law_226 rfl ?_
  refine r_bipush (v := 8) dL_law_228 rfl ?_
  refine r_idiv dL_law_230 (by decide) ?_
  refine r_bipush (v := 8) dL_law_231 rfl ?_
  refine r_irem dL_law_233 (by decide) ?_
  refine r_nm (fun x23_234 => ?_)
  refine r_istore (lo2 := [(23, wi x23_234), (21, vl r11), (20, wi r9), (19, wi t0_203), (0, .ref sb), (1, .ref a1), (2, .ref (ma 0)), (3, .ref (ma 1)), (4, .ref (ma 2)), (5, .ref (ma 3)), (6, .ref (ma 4)), (7, .ref (ma 5)), (8, .ref (ma 6)), (9, .ref (ma 7)), (10, .ref (ma 8)), (11, .ref (ma 9)), (12, .ref (ma 10)), (13, wi v13_97), (14, wi v14_97), (16, wi t0_164), (17, wi x17_171), (18, wi t0_189)]) dL_law_234 (show 23 < 35 by decide) rfl ?_
  refine r_iload (x := t0_164) dL_law_236 rfl ?_
  refine ro_iconst (v := 5) dL_law_238 rfl ?_
  refine r_join (P := fun (J : Int → Rw → Cd → (Nat → Nat) → Option (Int × S3)) => ∀ (v13_1788 : Int) (E_1788 : Rw) (C_1788 : Cd) (q_1788 : (Nat → Nat)), RunO l Γ (kL T) 16 encI (em3 ma) 1788 [(0, .ref sb), (1, .ref a1), (2, .ref (ma 0)), (3, .ref (ma 1)), (4, .ref (ma 2)), (5, .ref (ma 3)), (6, .ref (ma 4)), (7, .ref (ma 5)), (8, .ref (ma 6)), (9, .ref (ma 7)), (10, .ref (ma 8)), (11, .ref (ma 9)), (12, .ref (ma 10)), (13, wi v13_1788), (14, wi v14_97), (17, wi x17_171)] [] (E_1788, C_1788, q_1788) (J v13_1788 E_1788 C_1788 q_1788)) ?_ (fun J1788 hJ1788 => ?_)
  · exact b_L_law_1788 h hm hG hS hX htb Ls xs a1 v14_97 x17_171 hxs L97 hL97
  refine r_join (P := fun (J : Rw → Cd → (Nat → Nat) → Option (Int × S3)) => ∀ (E_352 : Rw) (C_352 : Cd) (q_352 : (Nat → Nat)), RunO l Γ (kL T) 16 encI (em3 ma) 352 [(0, .ref sb), (1, .ref a1), (2, .ref (ma 0)), (3, .ref (ma 1)), (4, .ref (ma 2)), (5, .ref (ma 3)), (6, .ref (ma 4)), (7, .ref (ma 5)), (8, .ref (ma 6)), (9, .ref (ma 7)), (10, .ref (ma 8)), (11, .ref (ma 9)), (12, .ref (ma 10)), (13, wi v13_97), (14, wi v14_97), (16, wi t0_164), (17, wi x17_171), (18, wi t0_189), (19, wi t0_203), (20, wi r9), (21, vl r11), (23, wi x23_234)] [] (E_352, C_352, q_352) (J E_352 C_352 q_352)) ?_ (fun J352 hJ352 => ?_)
  · exact b_L_law_352 h hm hG hS hX htb Ls xs a1 v13_97 v14_97 t0_164 x17_171 t0_189 t0_203 r9 r11 x23_234 hxs J1788 hJ1788
  refine r_icmp_ge (tgt := 352) dL_law_239 (by decide) ?_ ?_
  · refine r_lo [4, 5, 6, 7, 8, 9, 10, 11, 12, 13, 14, 15, 16, 17, 18, 19, 20, 21, 3, 2, 1, 0] (lo2 := [(0, .ref sb), (1, .ref a1), (2, .ref (ma 0)), (3, .ref (ma 1)), (4, .ref (ma 2)), (5, .ref (ma 3)), (6, .ref (ma 4)), (7, .ref (ma 5)), (8, .ref (ma 6)), (9, .ref (ma 7)), (10, .ref (ma 8)), (11, .ref (ma 9)), (12, .ref (ma 10)), (13, wi v13_97), (14, wi v14_97), (16, wi t0_164), (17, wi x17_171), (18, wi t0_189), (19, wi t0_203), (20, wi r9), (21, vl r11), (23, wi x23_234)]) rfl ?_
    exact hJ352 E10 C_203 q_203
  · refine r_aload_n (x := ma 0) dL_law_242 rfl rfl ?_
    refine ro_iconst (v := 0) dL_law_243 rfl ?_
    refine r_wiald3 h (by decide) (by decide) (hm 0 (by decide)) dL_law_244 ?_
    refine r_bipush (v := 32) dL_law_245 rfl ?_
    refine r_icmp_ge (tgt := 352) dL_law_247 (by decide) ?_ ?_
    · refine r_lo [4, 5, 6, 7, 8, 9, 10, 11, 12, 13, 14, 15, 16, 17, 18, 19, 20, 21, 3, 2, 1, 0] (lo2 := [(0, .ref sb), (1, .ref a1), (2, .ref (ma 0)), (3, .ref (ma 1)), (4, .ref (ma 2)), (5, .ref (ma 3)), (6, .ref (ma 4)), (7, .ref (ma 5)), (8, .ref (ma 6)), (9, .ref (ma 7)), (10, .ref (ma 8)), (11, .ref (ma 9)), (12, .ref (ma 10)), (13, wi v13_97), (14, wi v14_97), (16, wi t0_164), (17, wi x17_171), (18, wi t0_189), (19, wi t0_203), (20, wi r9), (21, vl r11), (23, wi x23_234)]) rfl ?_
      exact hJ352 E10 C_203 q_203
    · refine r_iload (x := t0_203) dL_law_250 rfl ?_
      refine r_join (P := fun (J : Int → Rw → Cd → (Nat → Nat) → Option (Int × S3)) => ∀ (t0_260 : Int) (E_260 : Rw) (C_260 : Cd) (q_260 : (Nat → Nat)), RunO l Γ (kL T) 16 encI (em3 ma) 260 [(0, .ref sb), (1, .ref a1), (2, .ref (ma 0)), (3, .ref (ma 1)), (4, .ref (ma 2)), (5, .ref (ma 3)), (6, .ref (ma 4)), (7, .ref (ma 5)), (8, .ref (ma 6)), (9, .ref (ma 7)), (10, .ref (ma 8)), (11, .ref (ma 9)), (12, .ref (ma 10)), (14, wi v14_97), (17, wi x17_171), (18, wi t0_189), (21, vl r11)] [wi t0_260] (E_260, C_260, q_260) (J t0_260 E_260 C_260 q_260)) ?_ (fun J260 hJ260 => ?_)
      · exact b_L_law_260 h hm hG hS hX htb Ls xs a1 v14_97 x17_171 t0_189 r11 hxs J1788 hJ1788
      refine r_if_ne (tgt := 259) dL_law_252 (by decide) ?_ ?_
      · refine ro_iconst (v := 0) dL_law_259 rfl ?_
        refine r_lo [4, 5, 6, 7, 8, 9, 10, 11, 12, 13, 14, 15, 16, 18, 20, 21, 1] (lo2 := [(0, .ref sb), (1, .ref a1), (2, .ref (ma 0)), (3, .ref (ma 1)), (4, .ref (ma 2)), (5, .ref (ma 3)), (6, .ref (ma 4)), (7, .ref (ma 5)), (8, .ref (ma 6)), (9, .ref (ma 7)), (10, .ref (ma 8)), (11, .ref (ma 9)), (12, .ref (ma 10)), (14, wi v14_97), (17, wi x17_171), (18, wi t0_189), (21, vl r11)]) rfl ?_
        exact hJ260 0 E10 C_203 q_203
      · refine ro_iconst (v := 1) dL_law_255 rfl ?_
        refine r_goto (tgt := 260) dL_law_256 (by decide) ?_
        refine r_lo [4, 5, 6, 7, 8, 9, 10, 11, 12, 13, 14, 15, 16, 18, 20, 21, 1] (lo2 := [(0, .ref sb), (1, .ref a1), (2, .ref (ma 0)), (3, .ref (ma 1)), (4, .ref (ma 2)), (5, .ref (ma 3)), (6, .ref (ma 4)), (7, .ref (ma 5)), (8, .ref (ma 6)), (9, .ref (ma 7)), (10, .ref (ma 8)), (11, .ref (ma 9)), (12, .ref (ma 10)), (14, wi v14_97), (17, wi x17_171), (18, wi t0_189), (21, vl r11)]) rfl ?_
        exact hJ260 1 E10 C_203 q_203
set_option maxHeartbeats 8000000 in
set_option maxRecDepth 100000 in
theorem b_L_law_189 {l : Launch} {Γ : Cx} {ma : Nat → Nat} (h : wOn Γ) (hm : ∀ k, k ≤ 10 → ma k ≠ 0) (hG : GK Γ l) {sT : Nat → Nat} (hS : STs Γ sT) (hX : XN Γ) {T : List ExceptionTableEntry} (htb : T = []) {sb : Nat} (Ls : Nat) (xs : Nat → Int32) (a1 : Nat) (v13_97 : Int) (v14_97 : Int) (t0_164 : Int) (x17_171 : Int) (hxs : XScr Γ sb Ls xs) (L97 : Int → Int → Rw → Cd → (Nat → Nat) → Option (Int × S3)) (hL97 : ∀ (v13_97 : Int) (v14_97 : Int) (E_97 : Rw) (C_97 : Cd) (q_97 : (Nat → Nat)), RunO l Γ (kL T) 16 encI (em3 ma) 97 [(0, .ref sb), (1, .ref a1), (2, .ref (ma 0)), (3, .ref (ma 1)), (4, .ref (ma 2)), (5, .ref (ma 3)), (6, .ref (ma 4)), (7, .ref (ma 5)), (8, .ref (ma 6)), (9, .ref (ma 7)), (10, .ref (ma 8)), (11, .ref (ma 9)), (12, .ref (ma 10)), (13, wi v13_97), (14, wi v14_97)] [] (E_97, C_97, q_97) (L97 v13_97 v14_97 E_97 C_97 q_97)) : ∀ (t0_189 : Int) (E_189 : Rw) (C_189 : Cd) (q_189 : (Nat → Nat)), RunO l Γ (kL T) 16 encI (em3 ma) 189 [(0, .ref sb), (1, .ref a1), (2, .ref (ma 0)), (3, .ref (ma 1)), (4, .ref (ma 2)), (5, .ref (ma 3)), (6, .ref (ma 4)), (7, .ref (ma 5)), (8, .ref (ma 6)), (9, .ref (ma 7)), (10, .ref (ma 8)), (11, .ref (ma 9)), (12, .ref (ma 10)), (13, wi v13_97), (14, wi v14_97), (16, wi t0_164), (17, wi x17_171)] [wi t0_189] (E_189, C_189, q_189) (fW_law_189 a1 L97 v13_97 v14_97 t0_164 x17_171 t0_189 E_189 C_189 q_189) := by
  intro t0_189 E_189 C_189 q_189
  unfold fW_law_189
  refine r_istore (lo2 := [(18, wi t0_189), (0, .ref sb), (1, .ref a1), (2, .ref (ma 0)), (3, .ref (ma 1)), (4, .ref (ma 2)), (5, .ref (ma 3)), (6, .ref (ma 4)), (7, .ref (ma 5)), (8, .ref (ma 6)), (9, .ref (ma 7)), (10, .ref (ma 8)), (11, .ref (ma 9)), (12, .ref (ma 10)), (13, wi v13_97), (14, wi v14_97), (16, wi t0_164), (17, wi x17_171)]) dL_law_189 (show 18 < 35 by decide) rfl ?_
  refine r_aload_n (x := ma 1) dL_law_191 rfl rfl ?_
  refine r_iload (x := t0_189) dL_law_192 rfl ?_
  refine r_wiald3 h (by decide) (by decide) (hm 1 (by decide)) dL_law_194 ?_
  refine r_join (P := fun (J : Int → Rw → Cd → (Nat → Nat) → Option (Int × S3)) => ∀ (t0_203 : Int) (E_203 : Rw) (C_203 : Cd) (q_203 : (Nat → Nat)), RunO l Γ (kL T) 16 encI (em3 ma) 203 [(0, .ref sb), (1, .ref a1), (2, .ref (ma 0)), (3, .ref (ma 1)), (4, .ref (ma 2)), (5, .ref (ma 3)), (6, .ref (ma 4)), (7, .ref (ma 5)), (8, .ref (ma 6)), (9, .ref (ma 7)), (10, .ref (ma 8)), (11, .ref (ma 9)), (12, .ref (ma 10)), (13, wi v13_97), (14, wi v14_97), (16, wi t0_164), (17, wi x17_171), (18, wi t0_189)] [wi t0_203] (E_203, C_203, q_203) (J t0_203 E_203 C_203 q_203)) ?_ (fun J203 hJ203 => ?_)
  · exact b_L_law_203 h hm hG hS hX htb Ls xs a1 v13_97 v14_97 t0_164 x17_171 t0_189 hxs L97 hL97
  refine r_if_le (tgt := 202) dL_law_195 (by decide) ?_ ?_
  · refine ro_iconst (v := 0) dL_law_202 rfl ?_
    refine r_lo [1, 2, 3, 4, 5, 6, 7, 8, 9, 10, 11, 12, 13, 14, 15, 16, 17, 0] (lo2 := [(0, .ref sb), (1, .ref a1), (2, .ref (ma 0)), (3, .ref (ma 1)), (4, .ref (ma 2)), (5, .ref (ma 3)), (6, .ref (ma 4)), (7, .ref (ma 5)), (8, .ref (ma 6)), (9, .ref (ma 7)), (10, .ref (ma 8)), (11, .ref (ma 9)), (12, .ref (ma 10)), (13, wi v13_97), (14, wi v14_97), (16, wi t0_164), (17, wi x17_171), (18, wi t0_189)]) rfl ?_
    exact hJ203 0 E_189 C_189 q_189
  · refine ro_iconst (v := 1) dL_law_198 rfl ?_
    refine r_goto (tgt := 203) dL_law_199 (by decide) ?_
    refine r_lo [1, 2, 3, 4, 5, 6, 7, 8, 9, 10, 11, 12, 13, 14, 15, 16, 17, 0] (lo2 := [(0, .ref sb), (1, .ref a1), (2, .ref (ma 0)), (3, .ref (ma 1)), (4, .ref (ma 2)), (5, .ref (ma 3)), (6, .ref (ma 4)), (7, .ref (ma 5)), (8, .ref (ma 6)), (9, .ref (ma 7)), (10, .ref (ma 8)), (11, .ref (ma 9)), (12, .ref (ma 10)), (13, wi v13_97), (14, wi v14_97), (16, wi t0_164), (17, wi x17_171), (18, wi t0_189)]) rfl ?_
    exact hJ203 1 E_189 C_189 q_189
set_option maxHeartbeats 8000000 in
set_option maxRecDepth 100000 in
theorem b_L_law_164 {l : Launch} {Γ : Cx} {ma : Nat → Nat} (h : wOn Γ) (hm : ∀ k, k ≤ 10 → ma k ≠ 0) (hG : GK Γ l) {sT : Nat → Nat} (hS : STs Γ sT) (hX : XN Γ) {T : List ExceptionTableEntry} (htb : T = []) {sb : Nat} (Ls : Nat) (xs : Nat → Int32) (a1 : Nat) (v13_97 : Int) (v14_97 : Int) (t0_147 : Int) (hxs : XScr Γ sb Ls xs) (L97 : Int → Int → Rw → Cd → (Nat → Nat) → Option (Int × S3)) (hL97 : ∀ (v13_97 : Int) (v14_97 : Int) (E_97 : Rw) (C_97 : Cd) (q_97 : (Nat → Nat)), RunO l Γ (kL T) 16 encI (em3 ma) 97 [(0, .ref sb), (1, .ref a1), (2, .ref (ma 0)), (3, .ref (ma 1)), (4, .ref (ma 2)), (5, .ref (ma 3)), (6, .ref (ma 4)), (7, .ref (ma 5)), (8, .ref (ma 6)), (9, .ref (ma 7)), (10, .ref (ma 8)), (11, .ref (ma 9)), (12, .ref (ma 10)), (13, wi v13_97), (14, wi v14_97)] [] (E_97, C_97, q_97) (L97 v13_97 v14_97 E_97 C_97 q_97)) : ∀ (t0_164 : Int) (E_164 : Rw) (C_164 : Cd) (q_164 : (Nat → Nat)), RunO l Γ (kL T) 16 encI (em3 ma) 164 [(0, .ref sb), (1, .ref a1), (2, .ref (ma 0)), (3, .ref (ma 1)), (4, .ref (ma 2)), (5, .ref (ma 3)), (6, .ref (ma 4)), (7, .ref (ma 5)), (8, .ref (ma 6)), (9, .ref (ma 7)), (10, .ref (ma 8)), (11, .ref (ma 9)), (12, .ref (ma 10)), (13, wi v13_97), (14, wi v14_97), (15, wi t0_147)] [wi t0_164] (E_164, C_164, q_164) (fW_law_164 a1 L97 v13_97 v14_97 t0_147 t0_164 E_164 C_164 q_164) := by
  intro t0_164 E_164 C_164 q_164
  unfold fW_law_164
  refine r_istore (lo2 := [(16, wi t0_164), (0, .ref sb), (1, .ref a1), (2, .ref (ma 0)), (3, .ref (ma 1)), (4, .ref (ma 2)), (5, .ref (ma 3)), (6, .ref (ma 4)), (7, .ref (ma 5)), (8, .ref (ma 6)), (9, .ref (ma 7)), (10, .ref (ma 8)), (11, .ref (ma 9)), (12, .ref (ma 10)), (13, wi v13_97), (14, wi v14_97), (15, wi t0_147)]) dL_law_164 (show 16 < 35 by decide) rfl ?_
  refine r_iload (x := t0_147) dL_law_166 rfl ?_
  refine r_bipush (v := 26) dL_law_168 rfl ?_
  refine r_idiv dL_law_170 (by decide) ?_
  refine r_nm (fun x17_171 => ?_)
  refine r_istore (lo2 := [(17, wi x17_171), (16, wi t0_164), (0, .ref sb), (1, .ref a1), (2, .ref (ma 0)), (3, .ref (ma 1)), (4, .ref (ma 2)), (5, .ref (ma 3)), (6, .ref (ma 4)), (7, .ref (ma 5)), (8, .ref (ma 6)), (9, .ref (ma 7)), (10, .ref (ma 8)), (11, .ref (ma 9)), (12, .ref (ma 10)), (13, wi v13_97), (14, wi v14_97), (15, wi t0_147)]) dL_law_171 (show 17 < 35 by decide) rfl ?_
  refine r_iload (x := v14_97) dL_law_173 rfl ?_
  refine ro_iconst (v := 3) dL_law_175 rfl ?_
  refine r_join (P := fun (J : Int → Rw → Cd → (Nat → Nat) → Option (Int × S3)) => ∀ (t0_189 : Int) (E_189 : Rw) (C_189 : Cd) (q_189 : (Nat → Nat)), RunO l Γ (kL T) 16 encI (em3 ma) 189 [(0, .ref sb), (1, .ref a1), (2, .ref (ma 0)), (3, .ref (ma 1)), (4, .ref (ma 2)), (5, .ref (ma 3)), (6, .ref (ma 4)), (7, .ref (ma 5)), (8, .ref (ma 6)), (9, .ref (ma 7)), (10, .ref (ma 8)), (11, .ref (ma 9)), (12, .ref (ma 10)), (13, wi v13_97), (14, wi v14_97), (16, wi t0_164), (17, wi x17_171)] [wi t0_189] (E_189, C_189, q_189) (J t0_189 E_189 C_189 q_189)) ?_ (fun J189 hJ189 => ?_)
  · exact b_L_law_189 h hm hG hS hX htb Ls xs a1 v13_97 v14_97 t0_164 x17_171 hxs L97 hL97
  refine r_icmp_ge (tgt := 184) dL_law_176 (by decide) ?_ ?_
  · refine r_iload (x := x17_171) dL_law_184 rfl ?_
    refine r_bipush (v := 8) dL_law_186 rfl ?_
    refine r_irem dL_law_188 (by decide) ?_
    refine r_lo [2, 3, 4, 5, 6, 7, 8, 9, 10, 11, 12, 13, 14, 15, 16, 1, 0] (lo2 := [(0, .ref sb), (1, .ref a1), (2, .ref (ma 0)), (3, .ref (ma 1)), (4, .ref (ma 2)), (5, .ref (ma 3)), (6, .ref (ma 4)), (7, .ref (ma 5)), (8, .ref (ma 6)), (9, .ref (ma 7)), (10, .ref (ma 8)), (11, .ref (ma 9)), (12, .ref (ma 10)), (13, wi v13_97), (14, wi v14_97), (16, wi t0_164), (17, wi x17_171)]) rfl ?_
    exact hJ189 (remI x17_171 8) E_164 C_164 q_164
  · refine r_iload (x := v14_97) dL_law_179 rfl ?_
    refine r_goto (tgt := 189) dL_law_181 (by decide) ?_
    refine r_lo [2, 3, 4, 5, 6, 7, 8, 9, 10, 11, 12, 13, 14, 15, 16, 1, 0] (lo2 := [(0, .ref sb), (1, .ref a1), (2, .ref (ma 0)), (3, .ref (ma 1)), (4, .ref (ma 2)), (5, .ref (ma 3)), (6, .ref (ma 4)), (7, .ref (ma 5)), (8, .ref (ma 6)), (9, .ref (ma 7)), (10, .ref (ma 8)), (11, .ref (ma 9)), (12, .ref (ma 10)), (13, wi v13_97), (14, wi v14_97), (16, wi t0_164), (17, wi x17_171)]) rfl ?_
    exact hJ189 v14_97 E_164 C_164 q_164
set_option maxHeartbeats 8000000 in
set_option maxRecDepth 100000 in
theorem b_L_law_147 {l : Launch} {Γ : Cx} {ma : Nat → Nat} (h : wOn Γ) (hm : ∀ k, k ≤ 10 → ma k ≠ 0) (hG : GK Γ l) {sT : Nat → Nat} (hS : STs Γ sT) (hX : XN Γ) {T : List ExceptionTableEntry} (htb : T = []) {sb : Nat} (Ls : Nat) (xs : Nat → Int32) (a1 : Nat) (v13_97 : Int) (v14_97 : Int) (hxs : XScr Γ sb Ls xs) (L97 : Int → Int → Rw → Cd → (Nat → Nat) → Option (Int × S3)) (hL97 : ∀ (v13_97 : Int) (v14_97 : Int) (E_97 : Rw) (C_97 : Cd) (q_97 : (Nat → Nat)), RunO l Γ (kL T) 16 encI (em3 ma) 97 [(0, .ref sb), (1, .ref a1), (2, .ref (ma 0)), (3, .ref (ma 1)), (4, .ref (ma 2)), (5, .ref (ma 3)), (6, .ref (ma 4)), (7, .ref (ma 5)), (8, .ref (ma 6)), (9, .ref (ma 7)), (10, .ref (ma 8)), (11, .ref (ma 9)), (12, .ref (ma 10)), (13, wi v13_97), (14, wi v14_97)] [] (E_97, C_97, q_97) (L97 v13_97 v14_97 E_97 C_97 q_97)) : ∀ (t0_147 : Int) (E_147 : Rw) (C_147 : Cd) (q_147 : (Nat → Nat)), RunO l Γ (kL T) 16 encI (em3 ma) 147 [(0, .ref sb), (1, .ref a1), (2, .ref (ma 0)), (3, .ref (ma 1)), (4, .ref (ma 2)), (5, .ref (ma 3)), (6, .ref (ma 4)), (7, .ref (ma 5)), (8, .ref (ma 6)), (9, .ref (ma 7)), (10, .ref (ma 8)), (11, .ref (ma 9)), (12, .ref (ma 10)), (13, wi v13_97), (14, wi v14_97)] [wi t0_147] (E_147, C_147, q_147) (fW_law_147 a1 L97 v13_97 v14_97 t0_147 E_147 C_147 q_147) := by
  intro t0_147 E_147 C_147 q_147
  unfold fW_law_147
  refine r_istore (lo2 := [(15, wi t0_147), (0, .ref sb), (1, .ref a1), (2, .ref (ma 0)), (3, .ref (ma 1)), (4, .ref (ma 2)), (5, .ref (ma 3)), (6, .ref (ma 4)), (7, .ref (ma 5)), (8, .ref (ma 6)), (9, .ref (ma 7)), (10, .ref (ma 8)), (11, .ref (ma 9)), (12, .ref (ma 10)), (13, wi v13_97), (14, wi v14_97)]) dL_law_147 (show 15 < 35 by decide) rfl ?_
  refine r_iload (x := v14_97) dL_law_149 rfl ?_
  refine ro_iconst (v := 3) dL_law_151 rfl ?_
  refine r_join (P := fun (J : Int → Rw → Cd → (Nat → Nat) → Option (Int × S3)) => ∀ (t0_164 : Int) (E_164 : Rw) (C_164 : Cd) (q_164 : (Nat → Nat)), RunO l Γ (kL T) 16 encI (em3 ma) 164 [(0, .ref sb), (1, .ref a1), (2, .ref (ma 0)), (3, .ref (ma 1)), (4, .ref (ma 2)), (5, .ref (ma 3)), (6, .ref (ma 4)), (7, .ref (ma 5)), (8, .ref (ma 6)), (9, .ref (ma 7)), (10, .ref (ma 8)), (11, .ref (ma 9)), (12, .ref (ma 10)), (13, wi v13_97), (14, wi v14_97), (15, wi t0_147)] [wi t0_164] (E_164, C_164, q_164) (J t0_164 E_164 C_164 q_164)) ?_ (fun J164 hJ164 => ?_)
  · exact b_L_law_164 h hm hG hS hX htb Ls xs a1 v13_97 v14_97 t0_147 hxs L97 hL97
  refine r_icmp_ge (tgt := 159) dL_law_152 (by decide) ?_ ?_
  · refine r_iload (x := t0_147) dL_law_159 rfl ?_
    refine r_bipush (v := 26) dL_law_161 rfl ?_
    refine r_irem dL_law_163 (by decide) ?_
    refine r_lo [1, 2, 3, 4, 5, 6, 7, 8, 9, 10, 11, 12, 13, 14, 15, 0] (lo2 := [(0, .ref sb), (1, .ref a1), (2, .ref (ma 0)), (3, .ref (ma 1)), (4, .ref (ma 2)), (5, .ref (ma 3)), (6, .ref (ma 4)), (7, .ref (ma 5)), (8, .ref (ma 6)), (9, .ref (ma 7)), (10, .ref (ma 8)), (11, .ref (ma 9)), (12, .ref (ma 10)), (13, wi v13_97), (14, wi v14_97), (15, wi t0_147)]) rfl ?_
    exact hJ164 (remI t0_147 26) E_147 C_147 q_147
  · refine ro_iconst (v := 0) dL_law_155 rfl ?_
    refine r_goto (tgt := 164) dL_law_156 (by decide) ?_
    refine r_lo [1, 2, 3, 4, 5, 6, 7, 8, 9, 10, 11, 12, 13, 14, 15, 0] (lo2 := [(0, .ref sb), (1, .ref a1), (2, .ref (ma 0)), (3, .ref (ma 1)), (4, .ref (ma 2)), (5, .ref (ma 3)), (6, .ref (ma 4)), (7, .ref (ma 5)), (8, .ref (ma 6)), (9, .ref (ma 7)), (10, .ref (ma 8)), (11, .ref (ma 9)), (12, .ref (ma 10)), (13, wi v13_97), (14, wi v14_97), (15, wi t0_147)]) rfl ?_
    exact hJ164 0 E_147 C_147 q_147
set_option maxHeartbeats 8000000 in
set_option maxRecDepth 100000 in
theorem b_L_law_97 {l : Launch} {Γ : Cx} {ma : Nat → Nat} (h : wOn Γ) (hm : ∀ k, k ≤ 10 → ma k ≠ 0) (hG : GK Γ l) {sT : Nat → Nat} (hS : STs Γ sT) (hX : XN Γ) {T : List ExceptionTableEntry} (htb : T = []) {sb : Nat} (xs : Nat → Int32) (Ls : Nat) (a1 : Nat) (hxs : XScr Γ sb Ls xs) (L97 : Int → Int → Rw → Cd → (Nat → Nat) → Option (Int × S3)) (hL97 : ∀ (v13_97 : Int) (v14_97 : Int) (E_97 : Rw) (C_97 : Cd) (q_97 : (Nat → Nat)), RunO l Γ (kL T) 16 encI (em3 ma) 97 [(0, .ref sb), (1, .ref a1), (2, .ref (ma 0)), (3, .ref (ma 1)), (4, .ref (ma 2)), (5, .ref (ma 3)), (6, .ref (ma 4)), (7, .ref (ma 5)), (8, .ref (ma 6)), (9, .ref (ma 7)), (10, .ref (ma 8)), (11, .ref (ma 9)), (12, .ref (ma 10)), (13, wi v13_97), (14, wi v14_97)] [] (E_97, C_97, q_97) (L97 v13_97 v14_97 E_97 C_97 q_97)) : ∀ (v13_97 : Int) (v14_97 : Int) (E_97 : Rw) (C_97 : Cd) (q_97 : (Nat → Nat)), RunO l Γ (kL T) 16 encI (em3 ma) 97 [(0, .ref sb), (1, .ref a1), (2, .ref (ma 0)), (3, .ref (ma 1)), (4, .ref (ma 2)), (5, .ref (ma 3)), (6, .ref (ma 4)), (7, .ref (ma 5)), (8, .ref (ma 6)), (9, .ref (ma 7)), (10, .ref (ma 8)), (11, .ref (ma 9)), (12, .ref (ma 10)), (13, wi v13_97), (14, wi v14_97)] [] (E_97, C_97, q_97) (fW_law_97 xs Ls a1 L97 v13_97 v14_97 E_97 C_97 q_97) := by
  intro v13_97 v14_97 E_97 C_97 q_97
  unfold fW_law_97
  refine r_iload (x := v14_97) dL_law_97 rfl ?_
  refine r_bipush (v := 100) dL_law_99 rfl ?_
  refine r_join (P := fun (J : Rw → Cd → (Nat → Nat) → Option (Int × S3)) => ∀ (E_1850 : Rw) (C_1850 : Cd) (q_1850 : (Nat → Nat)), RunO l Γ (kL T) 16 encI (em3 ma) 1850 [(1, .ref a1), (2, .ref (ma 0)), (3, .ref (ma 1)), (4, .ref (ma 2)), (5, .ref (ma 3)), (6, .ref (ma 4)), (8, .ref (ma 6)), (9, .ref (ma 7)), (10, .ref (ma 8)), (11, .ref (ma 9)), (13, wi v13_97)] [] (E_1850, C_1850, q_1850) (J E_1850 C_1850 q_1850)) ?_ (fun J1850 hJ1850 => ?_)
  · exact b_L_law_1850 h hm hG hS hX htb Ls xs a1 v13_97 hxs
  refine r_icmp_ge (tgt := 1850) dL_law_101 (by decide) ?_ ?_
  · refine r_lo [1, 2, 3, 4, 5, 6, 8, 9, 10, 11, 13] (lo2 := [(1, .ref a1), (2, .ref (ma 0)), (3, .ref (ma 1)), (4, .ref (ma 2)), (5, .ref (ma 3)), (6, .ref (ma 4)), (8, .ref (ma 6)), (9, .ref (ma 7)), (10, .ref (ma 8)), (11, .ref (ma 9)), (13, wi v13_97)]) rfl ?_
    exact hJ1850 E_97 C_97 q_97
  · refine r_iload (x := v13_97) dL_law_104 rfl ?_
    refine r_if_eq (tgt := 1850) dL_law_106 (by decide) ?_ ?_
    · refine r_lo [1, 2, 3, 4, 5, 6, 8, 9, 10, 11, 13] (lo2 := [(1, .ref a1), (2, .ref (ma 0)), (3, .ref (ma 1)), (4, .ref (ma 2)), (5, .ref (ma 3)), (6, .ref (ma 4)), (8, .ref (ma 6)), (9, .ref (ma 7)), (10, .ref (ma 8)), (11, .ref (ma 9)), (13, wi v13_97)]) rfl ?_
      exact hJ1850 E_97 C_97 q_97
    · refine r_iload (x := v14_97) dL_law_109 rfl ?_
      refine r_aload_n (x := sb) dL_law_111 rfl rfl ?_
      refine r_xlen hxs dL_law_112 ?_
      refine r_join (P := fun (J : Int → Rw → Cd → (Nat → Nat) → Option (Int × S3)) => ∀ (t0_147 : Int) (E_147 : Rw) (C_147 : Cd) (q_147 : (Nat → Nat)), RunO l Γ (kL T) 16 encI (em3 ma) 147 [(0, .ref sb), (1, .ref a1), (2, .ref (ma 0)), (3, .ref (ma 1)), (4, .ref (ma 2)), (5, .ref (ma 3)), (6, .ref (ma 4)), (7, .ref (ma 5)), (8, .ref (ma 6)), (9, .ref (ma 7)), (10, .ref (ma 8)), (11, .ref (ma 9)), (12, .ref (ma 10)), (13, wi v13_97), (14, wi v14_97)] [wi t0_147] (E_147, C_147, q_147) (J t0_147 E_147 C_147 q_147)) ?_ (fun J147 hJ147 => ?_)
      · exact b_L_law_147 h hm hG hS hX htb Ls xs a1 v13_97 v14_97 hxs L97 hL97
      refine r_icmp_ge (tgt := 126) dL_law_113 (by decide) ?_ ?_
      · refine r_ldc (v := 42019) uc_L_185 dL_law_126 ?_
        refine r_iload (x := v14_97) dL_law_128 rfl ?_
        refine r_imul dL_law_130 ?_
        refine r_iload (x := v14_97) dL_law_131 rfl ?_
        refine r_imul dL_law_133 ?_
        refine r_sipush (v := 8017) dL_law_134 rfl ?_
        refine r_iload (x := v14_97) dL_law_137 rfl ?_
        refine r_imul dL_law_139 ?_
        refine r_iadd dL_law_140 ?_
        refine r_bipush (v := 71) dL_law_141 rfl ?_
        refine r_iadd dL_law_143 ?_
        refine r_ldc (v := 2147483647) uc_L_184 dL_law_144 ?_
        refine r_iand dL_law_146 ?_
        exact hJ147 (andI ((((42019 * v14_97) * v14_97) + (8017 * v14_97)) + 71) 2147483647) E_97 C_97 q_97
      · refine r_aload_n (x := sb) dL_law_116 rfl rfl ?_
        refine r_iload (x := v14_97) dL_law_117 rfl ?_
        refine ro_if (fun hx103 => ?_) (fun _ => ro_none)
        refine r_xld hxs hx103 dL_law_119 ?_
        refine r_ldc (v := 2147483647) uc_L_184 dL_law_120 ?_
        refine r_iand dL_law_122 ?_
        refine r_goto (tgt := 147) dL_law_123 (by decide) ?_
        exact hJ147 (andI ((xs (ix v14_97)).toInt) 2147483647) E_97 C_97 q_97
set_option maxHeartbeats 8000000 in
set_option maxRecDepth 100000 in
theorem b_L_law {l : Launch} {Γ : Cx} {ma : Nat → Nat} (h : wOn Γ) (hm : ∀ k, k ≤ 10 → ma k ≠ 0) (hG : GK Γ l) {sT : Nat → Nat} (hS : STs Γ sT) (hX : XN Γ) {T : List ExceptionTableEntry} (htb : T = []) {sb : Nat} (xs : Nat → Int32) (Ls : Nat) (a1 : Nat) (hxs : XScr Γ sb Ls xs) (E : Rw) (C : Cd) (q : (Nat → Nat)) : RunO l Γ (kL T) 16 encI (em3 ma) 71 [(0, .ref sb), (1, .ref a1), (2, .ref (ma 0)), (3, .ref (ma 1)), (4, .ref (ma 2)), (5, .ref (ma 3)), (6, .ref (ma 4)), (7, .ref (ma 5)), (8, .ref (ma 6)), (9, .ref (ma 7)), (10, .ref (ma 8)), (11, .ref (ma 9)), (12, .ref (ma 10))] [] (E, C, q) (fW_law xs Ls a1 E C q) := by
  unfold fW_law
  refine r_aload_n (x := a1) dL_law_71 rfl rfl ?_
  refine r_aload_n (x := ma 0) dL_law_72 rfl rfl ?_
  refine r_aload_n (x := ma 1) dL_law_73 rfl rfl ?_
  refine r_aload (x := ma 2) dL_law_74 rfl ?_
  refine r_aload (x := ma 3) dL_law_76 rfl ?_
  refine r_aload (x := ma 4) dL_law_78 rfl ?_
  refine r_aload (x := ma 6) dL_law_80 rfl ?_
  refine r_aload (x := ma 7) dL_law_82 rfl ?_
  refine r_aload (x := ma 8) dL_law_84 rfl ?_
  refine r_aload (x := ma 9) dL_law_86 rfl ?_
  refine ro_iconst (v := 0) dL_law_88 rfl ?_
  refine r_cs3i (k2 := k_L_isWiki) (n := 11) (rest := []) htb kv_L_isWiki (c_L_isWiki h hm hG hX a1 0 _ _ _) (by decide) um_L_180 rfl (Nat.le_of_ble_eq_true rfl) dL_law_89 rfl (fun r1 E2 C3 q4 => ?_)
  refine r_istore (lo2 := [(13, wi r1), (0, .ref sb), (1, .ref a1), (2, .ref (ma 0)), (3, .ref (ma 1)), (4, .ref (ma 2)), (5, .ref (ma 3)), (6, .ref (ma 4)), (7, .ref (ma 5)), (8, .ref (ma 6)), (9, .ref (ma 7)), (10, .ref (ma 8)), (11, .ref (ma 9)), (12, .ref (ma 10))]) dL_law_92 (show 13 < 35 by decide) rfl ?_
  refine ro_iconst (v := 0) dL_law_94 rfl ?_
  refine r_istore (lo2 := [(14, wi 0), (13, wi r1), (0, .ref sb), (1, .ref a1), (2, .ref (ma 0)), (3, .ref (ma 1)), (4, .ref (ma 2)), (5, .ref (ma 3)), (6, .ref (ma 4)), (7, .ref (ma 5)), (8, .ref (ma 6)), (9, .ref (ma 7)), (10, .ref (ma 8)), (11, .ref (ma 9)), (12, .ref (ma 10))]) dL_law_95 (show 14 < 35 by decide) rfl ?_
  refine r_loop (P := fun (J : Int → Int → Rw → Cd → (Nat → Nat) → Option (Int × S3)) => ∀ (v13_97 : Int) (v14_97 : Int) (E_97 : Rw) (C_97 : Cd) (q_97 : (Nat → Nat)), RunO l Γ (kL T) 16 encI (em3 ma) 97 [(0, .ref sb), (1, .ref a1), (2, .ref (ma 0)), (3, .ref (ma 1)), (4, .ref (ma 2)), (5, .ref (ma 3)), (6, .ref (ma 4)), (7, .ref (ma 5)), (8, .ref (ma 6)), (9, .ref (ma 7)), (10, .ref (ma 8)), (11, .ref (ma 9)), (12, .ref (ma 10)), (13, wi v13_97), (14, wi v14_97)] [] (E_97, C_97, q_97) (J v13_97 v14_97 E_97 C_97 q_97)) ?_ (fun L97 hL97 => ?_) (fun J97 hJ97 => ?_)
  · intros; exact ro_none
  · exact b_L_law_97 h hm hG hS hX htb xs Ls a1 hxs L97 hL97
  refine r_lo [2, 3, 4, 5, 6, 7, 8, 9, 10, 11, 12, 13, 14, 1, 0] (lo2 := [(0, .ref sb), (1, .ref a1), (2, .ref (ma 0)), (3, .ref (ma 1)), (4, .ref (ma 2)), (5, .ref (ma 3)), (6, .ref (ma 4)), (7, .ref (ma 5)), (8, .ref (ma 6)), (9, .ref (ma 7)), (10, .ref (ma 8)), (11, .ref (ma 9)), (12, .ref (ma 10)), (13, wi r1), (14, wi 0)]) rfl ?_
  exact hJ97 r1 0 E2 C3 q4
