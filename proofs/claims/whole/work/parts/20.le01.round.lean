/-! ONE ROUND OF THE LAW'S LOOP -/
theorem and31 (x : Int) : 0 ≤ w32 (andI x 31) ∧ w32 (andI x 31) ≤ 31 := by
  unfold andI w32
  rw [Int32.ofInt_toInt]
  have h : (Int32.ofInt x &&& Int32.ofInt 31).toInt = ((Int32.ofInt x).toBitVec &&& 31#32).toInt := rfl
  rw [h]
  have h2 : ((Int32.ofInt x).toBitVec &&& 31#32).toNat ≤ 31 := by
    rw [BitVec.toNat_and]
    exact Nat.and_le_right
  rw [BitVec.toInt_eq_toNat_of_lt (by omega)]
  omega
section ROUND
variable {l : Launch} {b0 : Nat} {bG : va_G} {cy : Nat → ClassId} {g : State → Heap → Prop} {sb b mo out Ls kc j : Nat} {xs : Nat → Int32} {T : List ExceptionTableEntry} {M : Md} {C : Cd} {sT : Nat → Nat}
theorem sw_in {v off : Int} {tgt : Nat} {σ : St} {X : Option (Int × St)} (hxs : XScr (b0, bG, cy, fS cy mo, g) sb Ls xs) (hj : 4 * j + 4 ≤ Ls) (hLs : Ls ≤ 2048) (hv : w32 (andI (xs (ix ((4 * j : Nat) : Int))).toInt 31) = v) (h1 : 0 ≤ v) (h2 : v ≤ 31) (ho : (#[141, 209, 222, 278, 346, 402, 482, 550, 618, 686, 754, 810, 890, 970, 1026, 1094, 1150, 1234, 1247, 1303, 1371, 1439, 1495, 1558, 1571, 1639, 1707, 1775, 1843, 1899, 1940, 2008] : Array Int)[(v - 0).toNat]? = some off) (ht : ((39 : Nat) : Int) + off = (tgt : Int))
    (K : RunO l (b0, bG, cy, fS cy mo, g) (kL T) 16 encI emL tgt (loM sb b mo out (4 * j : Nat)) [] σ X) : RunO l (b0, bG, cy, fS cy mo, g) (kL T) 16 encI emL 23 (loM sb b mo out (4 * j : Nat)) [] σ X := by
  refine r_iload (x := (4 * j : Nat)) dL_law_23 rfl ?_
  refine r_aload_n (x := sb) dL_law_25 rfl rfl ?_
  refine r_xlen hxs dL_law_26 ?_
  refine ro_iconst (v := 4) dL_law_27 rfl ?_
  refine r_isub dL_law_28 ?_
  refine ro_f (c := w32 ((Ls : Int) - 4) < w32 ((4 * j : Nat) : Int)) (by rw [w32_of (by omega) (by omega), w32_of (by omega) (by omega)]; omega) ?_
  refine r_icmp_gt (tgt := 2128) dL_law_29 (by decide) ro_none ?_
  refine r_aload_n (x := sb) dL_law_32 rfl rfl ?_
  refine r_iload (x := (4 * j : Nat)) dL_law_33 rfl ?_
  refine r_xld hxs (inR_n (by omega) (by omega)) dL_law_35 ?_
  refine r_bipush (v := 31) dL_law_36 rfl ?_
  refine r_iand dL_law_38 ?_
  refine ro_t (c := w32 (andI (xs (ix ((4 * j : Nat) : Int))).toInt 31) = v) hv ?_
  exact r_tswC (v := v) (off := off) (tgt := tgt) dL_law_39 h1 h2 ho ht K (fun _ => ro_none)
theorem sw_out {σ : St} {X : Option (Int × St)} (K : RunO l (b0, bG, cy, fS cy mo, g) (kL T) 16 encI emL 23 (loM sb b mo out (4 * (j + 1) : Nat)) [] σ X) : RunO l (b0, bG, cy, fS cy mo, g) (kL T) 16 encI emL 2122 (loM sb b mo out (4 * j : Nat)) [] σ X := by
  refine r_iinc (x := (4 * j : Nat)) (lo2 := [(4, wi ((4 * j : Nat) + 4)), (0, .ref sb), (1, .ref b), (2, .ref mo), (3, .ref out)]) dL_law_2122 rfl (show 4 < 7 by decide) rfl ?_
  refine r_goto (tgt := 23) dL_law_2125 (by decide) ?_
  exact r_lo [1, 2, 3, 4, 0] (lo2 := loM sb b mo out (4 * (j + 1) : Nat)) rfl K
set_option maxHeartbeats 4000000 in
theorem law_round (hG : GK (b0, bG, cy, fS cy mo, g) l) (hXN : XN (b0, bG, cy, fS cy mo, g)) (hS : STs (b0, bG, cy, fS cy mo, g) sT) (hxs : XScr (b0, bG, cy, fS cy mo, g) sb Ls xs) (hj : 4 * j + 4 ≤ Ls) (hLs : Ls ≤ 2048) (hR : RR b kc M C) (hk : kc < 512) (ho : isO C out 108 ∧ cn C out = 1) (hbo : b + 854 ≤ out) :
    ∃ M' C', RR b (kc + 1) M' C' ∧ RmL b C C' ∧ (isO C' out 108 ∧ cn C' out = 1) ∧ ∀ X : Option (Int × St), RunO l (b0, bG, cy, fS cy mo, g) (kL T) 16 encI emL 23 (loM sb b mo out (4 * (j + 1) : Nat)) [] (mk1 M', C') X → RunO l (b0, bG, cy, fS cy mo, g) (kL T) 16 encI emL 23 (loM sb b mo out (4 * j : Nat)) [] (mk1 M, C) X := by
  have ha := and31 (xs (ix ((4 * j : Nat) : Int))).toInt
  have hd : w32 (andI (xs (ix ((4 * j : Nat) : Int))).toInt 31) = 0 ∨ w32 (andI (xs (ix ((4 * j : Nat) : Int))).toInt 31) = 1 ∨ w32 (andI (xs (ix ((4 * j : Nat) : Int))).toInt 31) = 2 ∨ w32 (andI (xs (ix ((4 * j : Nat) : Int))).toInt 31) = 3 ∨ w32 (andI (xs (ix ((4 * j : Nat) : Int))).toInt 31) = 4 ∨ w32 (andI (xs (ix ((4 * j : Nat) : Int))).toInt 31) = 5 ∨ w32 (andI (xs (ix ((4 * j : Nat) : Int))).toInt 31) = 6 ∨ w32 (andI (xs (ix ((4 * j : Nat) : Int))).toInt 31) = 7 ∨ w32 (andI (xs (ix ((4 * j : Nat) : Int))).toInt 31) = 8 ∨ w32 (andI (xs (ix ((4 * j : Nat) : Int))).toInt 31) = 9 ∨ w32 (andI (xs (ix ((4 * j : Nat) : Int))).toInt 31) = 10 ∨ w32 (andI (xs (ix ((4 * j : Nat) : Int))).toInt 31) = 11 ∨ w32 (andI (xs (ix ((4 * j : Nat) : Int))).toInt 31) = 12 ∨ w32 (andI (xs (ix ((4 * j : Nat) : Int))).toInt 31) = 13 ∨ w32 (andI (xs (ix ((4 * j : Nat) : Int))).toInt 31) = 14 ∨ w32 (andI (xs (ix ((4 * j : Nat) : Int))).toInt 31) = 15 ∨ w32 (andI (xs (ix ((4 * j : Nat) : Int))).toInt 31) = 16 ∨ w32 (andI (xs (ix ((4 * j : Nat) : Int))).toInt 31) = 17 ∨ w32 (andI (xs (ix ((4 * j : Nat) : Int))).toInt 31) = 18 ∨ w32 (andI (xs (ix ((4 * j : Nat) : Int))).toInt 31) = 19 ∨ w32 (andI (xs (ix ((4 * j : Nat) : Int))).toInt 31) = 20 ∨ w32 (andI (xs (ix ((4 * j : Nat) : Int))).toInt 31) = 21 ∨ w32 (andI (xs (ix ((4 * j : Nat) : Int))).toInt 31) = 22 ∨ w32 (andI (xs (ix ((4 * j : Nat) : Int))).toInt 31) = 23 ∨ w32 (andI (xs (ix ((4 * j : Nat) : Int))).toInt 31) = 24 ∨ w32 (andI (xs (ix ((4 * j : Nat) : Int))).toInt 31) = 25 ∨ w32 (andI (xs (ix ((4 * j : Nat) : Int))).toInt 31) = 26 ∨ w32 (andI (xs (ix ((4 * j : Nat) : Int))).toInt 31) = 27 ∨ w32 (andI (xs (ix ((4 * j : Nat) : Int))).toInt 31) = 28 ∨ w32 (andI (xs (ix ((4 * j : Nat) : Int))).toInt 31) = 29 ∨ w32 (andI (xs (ix ((4 * j : Nat) : Int))).toInt 31) = 30 ∨ w32 (andI (xs (ix ((4 * j : Nat) : Int))).toInt 31) = 31 := by omega
  rcases hd with hv | hv | hv | hv | hv | hv | hv | hv | hv | hv | hv | hv | hv | hv | hv | hv | hv | hv | hv | hv | hv | hv | hv | hv | hv | hv | hv | hv | hv | hv | hv | hv
  · obtain ⟨M', C', h1, h2, h3, K⟩ := case_token hG hXN hS hxs hj hLs hR hk ho hbo
    exact ⟨M', C', h1, h2, h3, fun X KX => sw_in (v := 0) (off := 141) (tgt := 180) hxs hj hLs hv (by decide) (by decide) rfl (by decide) (K X (sw_out KX))⟩
  · obtain ⟨M', C', h1, h2, h3, K⟩ := case_wipe hG hXN hS hxs hj hLs hR hk ho hbo
    exact ⟨M', C', h1, h2, h3, fun X KX => sw_in (v := 1) (off := 209) (tgt := 248) hxs hj hLs hv (by decide) (by decide) rfl (by decide) (K X (sw_out KX))⟩
  · obtain ⟨M', C', h1, h2, h3, K⟩ := case_act hG hXN hS hxs hj hLs hR hk ho hbo
    exact ⟨M', C', h1, h2, h3, fun X KX => sw_in (v := 2) (off := 222) (tgt := 261) hxs hj hLs hv (by decide) (by decide) rfl (by decide) (K X (sw_out KX))⟩
  · obtain ⟨M', C', h1, h2, h3, K⟩ := case_protect hG hXN hS hxs hj hLs hR hk ho hbo
    exact ⟨M', C', h1, h2, h3, fun X KX => sw_in (v := 3) (off := 278) (tgt := 317) hxs hj hLs hv (by decide) (by decide) rfl (by decide) (K X (sw_out KX))⟩
  · obtain ⟨M', C', h1, h2, h3, K⟩ := case_create hG hXN hS hxs hj hLs hR hk ho hbo
    exact ⟨M', C', h1, h2, h3, fun X KX => sw_in (v := 4) (off := 346) (tgt := 385) hxs hj hLs hv (by decide) (by decide) rfl (by decide) (K X (sw_out KX))⟩
  · obtain ⟨M', C', h1, h2, h3, K⟩ := case_edit hG hXN hS hxs hj hLs hR hk ho hbo
    exact ⟨M', C', h1, h2, h3, fun X KX => sw_in (v := 5) (off := 402) (tgt := 441) hxs hj hLs hv (by decide) (by decide) rfl (by decide) (K X (sw_out KX))⟩
  · obtain ⟨M', C', h1, h2, h3, K⟩ := case_undo hG hXN hS hxs hj hLs hR hk ho hbo
    exact ⟨M', C', h1, h2, h3, fun X KX => sw_in (v := 6) (off := 482) (tgt := 521) hxs hj hLs hv (by decide) (by decide) rfl (by decide) (K X (sw_out KX))⟩
  · obtain ⟨M', C', h1, h2, h3, K⟩ := case_bringIn hG hXN hS hxs hj hLs hR hk ho hbo
    exact ⟨M', C', h1, h2, h3, fun X KX => sw_in (v := 7) (off := 550) (tgt := 589) hxs hj hLs hv (by decide) (by decide) rfl (by decide) (K X (sw_out KX))⟩
  · obtain ⟨M', C', h1, h2, h3, K⟩ := case_move hG hXN hS hxs hj hLs hR hk ho hbo
    exact ⟨M', C', h1, h2, h3, fun X KX => sw_in (v := 8) (off := 618) (tgt := 657) hxs hj hLs hv (by decide) (by decide) rfl (by decide) (K X (sw_out KX))⟩
  · obtain ⟨M', C', h1, h2, h3, K⟩ := case_moveTree hG hXN hS hxs hj hLs hR hk ho hbo
    exact ⟨M', C', h1, h2, h3, fun X KX => sw_in (v := 9) (off := 686) (tgt := 725) hxs hj hLs hv (by decide) (by decide) rfl (by decide) (K X (sw_out KX))⟩
  · obtain ⟨M', C', h1, h2, h3, K⟩ := case_approve hG hXN hS hxs hj hLs hR hk ho hbo
    exact ⟨M', C', h1, h2, h3, fun X KX => sw_in (v := 10) (off := 754) (tgt := 793) hxs hj hLs hv (by decide) (by decide) rfl (by decide) (K X (sw_out KX))⟩
  · obtain ⟨M', C', h1, h2, h3, K⟩ := case_translate hG hXN hS hxs hj hLs hR hk ho hbo
    exact ⟨M', C', h1, h2, h3, fun X KX => sw_in (v := 11) (off := 810) (tgt := 849) hxs hj hLs hv (by decide) (by decide) rfl (by decide) (K X (sw_out KX))⟩
  · obtain ⟨M', C', h1, h2, h3, K⟩ := case_instruct hG hXN hS hxs hj hLs hR hk ho hbo
    exact ⟨M', C', h1, h2, h3, fun X KX => sw_in (v := 12) (off := 890) (tgt := 929) hxs hj hLs hv (by decide) (by decide) rfl (by decide) (K X (sw_out KX))⟩
  · obtain ⟨M', C', h1, h2, h3, K⟩ := case_empty hG hXN hS hxs hj hLs hR hk ho hbo
    exact ⟨M', C', h1, h2, h3, fun X KX => sw_in (v := 13) (off := 970) (tgt := 1009) hxs hj hLs hv (by decide) (by decide) rfl (by decide) (K X (sw_out KX))⟩
  · obtain ⟨M', C', h1, h2, h3, K⟩ := case_rank hG hXN hS hxs hj hLs hR hk ho hbo
    exact ⟨M', C', h1, h2, h3, fun X KX => sw_in (v := 14) (off := 1026) (tgt := 1065) hxs hj hLs hv (by decide) (by decide) rfl (by decide) (K X (sw_out KX))⟩
  · obtain ⟨M', C', h1, h2, h3, K⟩ := case_work hG hXN hS hxs hj hLs hR hk ho hbo
    exact ⟨M', C', h1, h2, h3, fun X KX => sw_in (v := 15) (off := 1094) (tgt := 1133) hxs hj hLs hv (by decide) (by decide) rfl (by decide) (K X (sw_out KX))⟩
  · obtain ⟨M', C', h1, h2, h3, K⟩ := case_read hG hXN hS hxs hj hLs hR hk ho hbo
    exact ⟨M', C', h1, h2, h3, fun X KX => sw_in (v := 16) (off := 1150) (tgt := 1189) hxs hj hLs hv (by decide) (by decide) rfl (by decide) (K X (sw_out KX))⟩
  · obtain ⟨M', C', h1, h2, h3, K⟩ := case_clock hG hXN hS hxs hj hLs hR hk ho hbo
    exact ⟨M', C', h1, h2, h3, fun X KX => sw_in (v := 17) (off := 1234) (tgt := 1273) hxs hj hLs hv (by decide) (by decide) rfl (by decide) (K X (sw_out KX))⟩
  · obtain ⟨M', C', h1, h2, h3, K⟩ := case_versions hG hXN hS hxs hj hLs hR hk ho hbo
    exact ⟨M', C', h1, h2, h3, fun X KX => sw_in (v := 18) (off := 1247) (tgt := 1286) hxs hj hLs hv (by decide) (by decide) rfl (by decide) (K X (sw_out KX))⟩
  · obtain ⟨M', C', h1, h2, h3, K⟩ := case_versionAt hG hXN hS hxs hj hLs hR hk ho hbo
    exact ⟨M', C', h1, h2, h3, fun X KX => sw_in (v := 19) (off := 1303) (tgt := 1342) hxs hj hLs hv (by decide) (by decide) rfl (by decide) (K X (sw_out KX))⟩
  · obtain ⟨M', C', h1, h2, h3, K⟩ := case_tokenAt hG hXN hS hxs hj hLs hR hk ho hbo
    exact ⟨M', C', h1, h2, h3, fun X KX => sw_in (v := 20) (off := 1371) (tgt := 1410) hxs hj hLs hv (by decide) (by decide) rfl (by decide) (K X (sw_out KX))⟩
  · obtain ⟨M', C', h1, h2, h3, K⟩ := case_leads hG hXN hS hxs hj hLs hR hk ho hbo
    exact ⟨M', C', h1, h2, h3, fun X KX => sw_in (v := 21) (off := 1439) (tgt := 1478) hxs hj hLs hv (by decide) (by decide) rfl (by decide) (K X (sw_out KX))⟩
  · obtain ⟨M', C', h1, h2, h3, K⟩ := case_isStale hG hXN hS hxs hj hLs hR hk ho hbo
    exact ⟨M', C', h1, h2, h3, fun X KX => sw_in (v := 22) (off := 1495) (tgt := 1534) hxs hj hLs hv (by decide) (by decide) rfl (by decide) (K X (sw_out KX))⟩
  · obtain ⟨M', C', h1, h2, h3, K⟩ := case_queued hG hXN hS hxs hj hLs hR hk ho hbo
    exact ⟨M', C', h1, h2, h3, fun X KX => sw_in (v := 23) (off := 1558) (tgt := 1597) hxs hj hLs hv (by decide) (by decide) rfl (by decide) (K X (sw_out KX))⟩
  · obtain ⟨M', C', h1, h2, h3, K⟩ := case_shown hG hXN hS hxs hj hLs hR hk ho hbo
    exact ⟨M', C', h1, h2, h3, fun X KX => sw_in (v := 24) (off := 1571) (tgt := 1610) hxs hj hLs hv (by decide) (by decide) rfl (by decide) (K X (sw_out KX))⟩
  · obtain ⟨M', C', h1, h2, h3, K⟩ := case_shownAnew hG hXN hS hxs hj hLs hR hk ho hbo
    exact ⟨M', C', h1, h2, h3, fun X KX => sw_in (v := 25) (off := 1639) (tgt := 1678) hxs hj hLs hv (by decide) (by decide) rfl (by decide) (K X (sw_out KX))⟩
  · obtain ⟨M', C', h1, h2, h3, K⟩ := case_approvedAt hG hXN hS hxs hj hLs hR hk ho hbo
    exact ⟨M', C', h1, h2, h3, fun X KX => sw_in (v := 26) (off := 1707) (tgt := 1746) hxs hj hLs hv (by decide) (by decide) rfl (by decide) (K X (sw_out KX))⟩
  · obtain ⟨M', C', h1, h2, h3, K⟩ := case_linked hG hXN hS hxs hj hLs hR hk ho hbo
    exact ⟨M', C', h1, h2, h3, fun X KX => sw_in (v := 27) (off := 1775) (tgt := 1814) hxs hj hLs hv (by decide) (by decide) rfl (by decide) (K X (sw_out KX))⟩
  · obtain ⟨M', C', h1, h2, h3, K⟩ := case_members hG hXN hS hxs hj hLs hR hk ho hbo
    exact ⟨M', C', h1, h2, h3, fun X KX => sw_in (v := 28) (off := 1843) (tgt := 1882) hxs hj hLs hv (by decide) (by decide) rfl (by decide) (K X (sw_out KX))⟩
  · obtain ⟨M', C', h1, h2, h3, K⟩ := case_odd hG hXN hS hxs hj hLs hR hk ho hbo
    exact ⟨M', C', h1, h2, h3, fun X KX => sw_in (v := 29) (off := 1899) (tgt := 1938) hxs hj hLs hv (by decide) (by decide) rfl (by decide) (K X (sw_out KX))⟩
  · obtain ⟨M', C', h1, h2, h3, K⟩ := case_inLanguage hG hXN hS hxs hj hLs hR hk ho hbo
    exact ⟨M', C', h1, h2, h3, fun X KX => sw_in (v := 30) (off := 1940) (tgt := 1979) hxs hj hLs hv (by decide) (by decide) rfl (by decide) (K X (sw_out KX))⟩
  · obtain ⟨M', C', h1, h2, h3, K⟩ := case_isOutdated hG hXN hS hxs hj hLs hR hk ho hbo
    exact ⟨M', C', h1, h2, h3, fun X KX => sw_in (v := 31) (off := 2008) (tgt := 2047) hxs hj hLs hv (by decide) (by decide) rfl (by decide) (K X (sw_out KX))⟩
end ROUND
