/-! the reference's constructor -/
theorem hc_X12 : vwCl[15]? = some (RX12, TX12, 79) := rfl
theorem hfs_X12 : ∀ j, j < 79 → defaultValue (tyX12 j) = vp_V ((List.range (nF 15)).map (fun k => if isR (100 * 15 + k) then Value.null else wi 0)) j := by decide +kernel
theorem inU_X12 : ∀ w ∈ u_ws RX12 TX12 79, w ∈ uw := inU12
theorem uc_X12_128 : Cond.constant RX12 128 (Int32.ofInt 255000) ∈ uw := uw_mem 1656 (by decide +kernel) rfl
theorem uf_X12_101 : Cond.fieldLink RX12 101 RX12 (TX12 38).2.1 (TX12 38).2.2.1 ∈ uw := uw_mem 1695 (by decide +kernel) rfl
theorem uf_X12_104 : Cond.fieldLink RX12 104 RX12 (TX12 41).2.1 (TX12 41).2.2.1 ∈ uw := uw_mem 1698 (by decide +kernel) rfl
theorem uf_X12_107 : Cond.fieldLink RX12 107 RX12 (TX12 42).2.1 (TX12 42).2.2.1 ∈ uw := uw_mem 1699 (by decide +kernel) rfl
theorem uf_X12_110 : Cond.fieldLink RX12 110 RX12 (TX12 43).2.1 (TX12 43).2.2.1 ∈ uw := uw_mem 1700 (by decide +kernel) rfl
theorem uf_X12_113 : Cond.fieldLink RX12 113 RX12 (TX12 44).2.1 (TX12 44).2.2.1 ∈ uw := uw_mem 1701 (by decide +kernel) rfl
theorem uf_X12_116 : Cond.fieldLink RX12 116 RX12 (TX12 45).2.1 (TX12 45).2.2.1 ∈ uw := uw_mem 1702 (by decide +kernel) rfl
theorem uf_X12_119 : Cond.fieldLink RX12 119 RX12 (TX12 46).2.1 (TX12 46).2.2.1 ∈ uw := uw_mem 1703 (by decide +kernel) rfl
theorem uf_X12_122 : Cond.fieldLink RX12 122 RX12 (TX12 47).2.1 (TX12 47).2.2.1 ∈ uw := uw_mem 1704 (by decide +kernel) rfl
theorem uf_X12_125 : Cond.fieldLink RX12 125 RX12 (TX12 49).2.1 (TX12 49).2.2.1 ∈ uw := uw_mem 1706 (by decide +kernel) rfl
theorem uf_X12_129 : Cond.fieldLink RX12 129 RX12 (TX12 50).2.1 (TX12 50).2.2.1 ∈ uw := uw_mem 1707 (by decide +kernel) rfl
theorem uf_X12_13 : Cond.fieldLink RX12 13 RX12 (TX12 3).2.1 (TX12 3).2.2.1 ∈ uw := uw_mem 1660 (by decide +kernel) rfl
theorem uf_X12_132 : Cond.fieldLink RX12 132 RX12 (TX12 52).2.1 (TX12 52).2.2.1 ∈ uw := uw_mem 1709 (by decide +kernel) rfl
theorem uf_X12_135 : Cond.fieldLink RX12 135 RX12 (TX12 53).2.1 (TX12 53).2.2.1 ∈ uw := uw_mem 1710 (by decide +kernel) rfl
theorem uf_X12_138 : Cond.fieldLink RX12 138 RX12 (TX12 54).2.1 (TX12 54).2.2.1 ∈ uw := uw_mem 1711 (by decide +kernel) rfl
theorem uf_X12_141 : Cond.fieldLink RX12 141 RX12 (TX12 55).2.1 (TX12 55).2.2.1 ∈ uw := uw_mem 1712 (by decide +kernel) rfl
theorem uf_X12_144 : Cond.fieldLink RX12 144 RX12 (TX12 56).2.1 (TX12 56).2.2.1 ∈ uw := uw_mem 1713 (by decide +kernel) rfl
theorem uf_X12_147 : Cond.fieldLink RX12 147 RX12 (TX12 57).2.1 (TX12 57).2.2.1 ∈ uw := uw_mem 1714 (by decide +kernel) rfl
theorem uf_X12_150 : Cond.fieldLink RX12 150 RX12 (TX12 58).2.1 (TX12 58).2.2.1 ∈ uw := uw_mem 1715 (by decide +kernel) rfl
theorem uf_X12_153 : Cond.fieldLink RX12 153 RX12 (TX12 60).2.1 (TX12 60).2.2.1 ∈ uw := uw_mem 1717 (by decide +kernel) rfl
theorem uf_X12_156 : Cond.fieldLink RX12 156 RX12 (TX12 61).2.1 (TX12 61).2.2.1 ∈ uw := uw_mem 1718 (by decide +kernel) rfl
theorem uf_X12_159 : Cond.fieldLink RX12 159 RX12 (TX12 62).2.1 (TX12 62).2.2.1 ∈ uw := uw_mem 1719 (by decide +kernel) rfl
theorem uf_X12_16 : Cond.fieldLink RX12 16 RX12 (TX12 4).2.1 (TX12 4).2.2.1 ∈ uw := uw_mem 1661 (by decide +kernel) rfl
theorem uf_X12_162 : Cond.fieldLink RX12 162 RX12 (TX12 63).2.1 (TX12 63).2.2.1 ∈ uw := uw_mem 1720 (by decide +kernel) rfl
theorem uf_X12_165 : Cond.fieldLink RX12 165 RX12 (TX12 64).2.1 (TX12 64).2.2.1 ∈ uw := uw_mem 1721 (by decide +kernel) rfl
theorem uf_X12_168 : Cond.fieldLink RX12 168 RX12 (TX12 72).2.1 (TX12 72).2.2.1 ∈ uw := uw_mem 1729 (by decide +kernel) rfl
theorem uf_X12_171 : Cond.fieldLink RX12 171 RX12 (TX12 74).2.1 (TX12 74).2.2.1 ∈ uw := uw_mem 1731 (by decide +kernel) rfl
theorem uf_X12_174 : Cond.fieldLink RX12 174 RX12 (TX12 76).2.1 (TX12 76).2.2.1 ∈ uw := uw_mem 1733 (by decide +kernel) rfl
theorem uf_X12_177 : Cond.fieldLink RX12 177 RX12 (TX12 78).2.1 (TX12 78).2.2.1 ∈ uw := uw_mem 1735 (by decide +kernel) rfl
theorem uf_X12_19 : Cond.fieldLink RX12 19 RX12 (TX12 6).2.1 (TX12 6).2.2.1 ∈ uw := uw_mem 1663 (by decide +kernel) rfl
theorem uf_X12_22 : Cond.fieldLink RX12 22 RX12 (TX12 9).2.1 (TX12 9).2.2.1 ∈ uw := uw_mem 1666 (by decide +kernel) rfl
theorem uf_X12_25 : Cond.fieldLink RX12 25 RX12 (TX12 10).2.1 (TX12 10).2.2.1 ∈ uw := uw_mem 1667 (by decide +kernel) rfl
theorem uf_X12_28 : Cond.fieldLink RX12 28 RX12 (TX12 11).2.1 (TX12 11).2.2.1 ∈ uw := uw_mem 1668 (by decide +kernel) rfl
theorem uf_X12_31 : Cond.fieldLink RX12 31 RX12 (TX12 12).2.1 (TX12 12).2.2.1 ∈ uw := uw_mem 1669 (by decide +kernel) rfl
theorem uf_X12_34 : Cond.fieldLink RX12 34 RX12 (TX12 14).2.1 (TX12 14).2.2.1 ∈ uw := uw_mem 1671 (by decide +kernel) rfl
theorem uf_X12_37 : Cond.fieldLink RX12 37 RX12 (TX12 15).2.1 (TX12 15).2.2.1 ∈ uw := uw_mem 1672 (by decide +kernel) rfl
theorem uf_X12_40 : Cond.fieldLink RX12 40 RX12 (TX12 16).2.1 (TX12 16).2.2.1 ∈ uw := uw_mem 1673 (by decide +kernel) rfl
theorem uf_X12_43 : Cond.fieldLink RX12 43 RX12 (TX12 17).2.1 (TX12 17).2.2.1 ∈ uw := uw_mem 1674 (by decide +kernel) rfl
theorem uf_X12_46 : Cond.fieldLink RX12 46 RX12 (TX12 18).2.1 (TX12 18).2.2.1 ∈ uw := uw_mem 1675 (by decide +kernel) rfl
theorem uf_X12_49 : Cond.fieldLink RX12 49 RX12 (TX12 19).2.1 (TX12 19).2.2.1 ∈ uw := uw_mem 1676 (by decide +kernel) rfl
theorem uf_X12_52 : Cond.fieldLink RX12 52 RX12 (TX12 20).2.1 (TX12 20).2.2.1 ∈ uw := uw_mem 1677 (by decide +kernel) rfl
theorem uf_X12_55 : Cond.fieldLink RX12 55 RX12 (TX12 21).2.1 (TX12 21).2.2.1 ∈ uw := uw_mem 1678 (by decide +kernel) rfl
theorem uf_X12_58 : Cond.fieldLink RX12 58 RX12 (TX12 23).2.1 (TX12 23).2.2.1 ∈ uw := uw_mem 1680 (by decide +kernel) rfl
theorem uf_X12_61 : Cond.fieldLink RX12 61 RX12 (TX12 24).2.1 (TX12 24).2.2.1 ∈ uw := uw_mem 1681 (by decide +kernel) rfl
theorem uf_X12_64 : Cond.fieldLink RX12 64 RX12 (TX12 25).2.1 (TX12 25).2.2.1 ∈ uw := uw_mem 1682 (by decide +kernel) rfl
theorem uf_X12_67 : Cond.fieldLink RX12 67 RX12 (TX12 26).2.1 (TX12 26).2.2.1 ∈ uw := uw_mem 1683 (by decide +kernel) rfl
theorem uf_X12_7 : Cond.fieldLink RX12 7 RX12 (TX12 0).2.1 (TX12 0).2.2.1 ∈ uw := uw_mem 1657 (by decide +kernel) rfl
theorem uf_X12_70 : Cond.fieldLink RX12 70 RX12 (TX12 27).2.1 (TX12 27).2.2.1 ∈ uw := uw_mem 1684 (by decide +kernel) rfl
theorem uf_X12_74 : Cond.fieldLink RX12 74 RX12 (TX12 28).2.1 (TX12 28).2.2.1 ∈ uw := uw_mem 1685 (by decide +kernel) rfl
theorem uf_X12_77 : Cond.fieldLink RX12 77 RX12 (TX12 29).2.1 (TX12 29).2.2.1 ∈ uw := uw_mem 1686 (by decide +kernel) rfl
theorem uf_X12_80 : Cond.fieldLink RX12 80 RX12 (TX12 30).2.1 (TX12 30).2.2.1 ∈ uw := uw_mem 1687 (by decide +kernel) rfl
theorem uf_X12_83 : Cond.fieldLink RX12 83 RX12 (TX12 31).2.1 (TX12 31).2.2.1 ∈ uw := uw_mem 1688 (by decide +kernel) rfl
theorem uf_X12_86 : Cond.fieldLink RX12 86 RX12 (TX12 32).2.1 (TX12 32).2.2.1 ∈ uw := uw_mem 1689 (by decide +kernel) rfl
theorem uf_X12_89 : Cond.fieldLink RX12 89 RX12 (TX12 33).2.1 (TX12 33).2.2.1 ∈ uw := uw_mem 1690 (by decide +kernel) rfl
theorem uf_X12_92 : Cond.fieldLink RX12 92 RX12 (TX12 34).2.1 (TX12 34).2.2.1 ∈ uw := uw_mem 1691 (by decide +kernel) rfl
theorem uf_X12_95 : Cond.fieldLink RX12 95 RX12 (TX12 35).2.1 (TX12 35).2.2.1 ∈ uw := uw_mem 1692 (by decide +kernel) rfl
theorem uf_X12_98 : Cond.fieldLink RX12 98 RX12 (TX12 37).2.1 (TX12 37).2.2.1 ∈ uw := uw_mem 1694 (by decide +kernel) rfl
theorem uo_X12_1 : Cond.methodLink RX12 1 Lib.objectInit ∈ uw := uw_mem 1655 (by decide +kernel) rfl
def k_X12_init : Kd := (yX12_init, cX12_init, 2, none, [])
theorem kv_X12_init : KI k_X12_init 0 := ⟨uw_mem 1654 (by decide +kernel) rfl, uw_mem 170 (by decide +kernel) rfl, uw_mem 1653 (by decide +kernel) rfl, ⟨rfl, rfl⟩, ⟨by decide +kernel, by decide +kernel⟩, by decide +kernel, by decide +kernel⟩
set_option maxHeartbeats 8000000 in
set_option maxRecDepth 100000 in
theorem c_X12_init {l : Launch} {Γ : Cx} {M0 : Md} (hG : GK Γ l) (a0 : Nat) (C : Cd) : Ct l Γ k_X12_init 1 encV (emC M0) [.ref a0] C (fX12_init a0 C) := by
  refine ct_of (by decide +kernel) rfl (Nat.le_of_ble_eq_true rfl) ?_
  refine r_lo [0] (lo2 := [(0, .ref a0)]) rfl ?_
  unfold fX12_init
  refine r_aload_n (x := a0) dX12_init_0 rfl rfl ?_
  refine r_objInit (by decide) uo_X12_1 uoi uoc (Nat.le_of_ble_eq_true rfl) dX12_init_1 ?_
  refine r_aload_n (x := a0) dX12_init_4 rfl rfl ?_
  refine r_bipush (v := 30) dX12_init_5 rfl ?_
  refine r_cnewAI ua_I dX12_init_7 (fun C1 _ => ?_)
  refine r_cputRF (c := 15) (kk := 0) hc_X12 rfl (by decide) inU_X12 (by decide) uf_X12_7 rfl tyX12 tyX12_ok nmX12 (x := (some (csz C))) (fty := tyX12 0) (by decide) rfl rfl rfl (by decide +kernel) ⟨"", Or.inr ⟨_, rfl⟩⟩ dX12_init_9 (fun C2 _ _ => ?_)
  refine r_aload_n (x := a0) dX12_init_12 rfl rfl ?_
  refine r_bipush (v := 24) dX12_init_13 rfl ?_
  refine r_cnewAI ua_I dX12_init_15 (fun C3 _ => ?_)
  refine r_cputRF (c := 15) (kk := 3) hc_X12 rfl (by decide) inU_X12 (by decide) uf_X12_13 rfl tyX12 tyX12_ok nmX12 (x := (some (csz C2))) (fty := tyX12 3) (by decide) rfl rfl rfl (by decide +kernel) ⟨"", Or.inr ⟨_, rfl⟩⟩ dX12_init_17 (fun C4 _ _ => ?_)
  refine r_aload_n (x := a0) dX12_init_20 rfl rfl ?_
  refine r_bipush (v := 24) dX12_init_21 rfl ?_
  refine r_cnewAI ua_I dX12_init_23 (fun C5 _ => ?_)
  refine r_cputRF (c := 15) (kk := 4) hc_X12 rfl (by decide) inU_X12 (by decide) uf_X12_16 rfl tyX12 tyX12_ok nmX12 (x := (some (csz C4))) (fty := tyX12 4) (by decide) rfl rfl rfl (by decide +kernel) ⟨"", Or.inr ⟨_, rfl⟩⟩ dX12_init_25 (fun C6 _ _ => ?_)
  refine r_aload_n (x := a0) dX12_init_28 rfl rfl ?_
  refine r_bipush (v := 24) dX12_init_29 rfl ?_
  refine r_cnewAI ua_I dX12_init_31 (fun C7 _ => ?_)
  refine r_cputRF (c := 15) (kk := 6) hc_X12 rfl (by decide) inU_X12 (by decide) uf_X12_19 rfl tyX12 tyX12_ok nmX12 (x := (some (csz C6))) (fty := tyX12 6) (by decide) rfl rfl rfl (by decide +kernel) ⟨"", Or.inr ⟨_, rfl⟩⟩ dX12_init_33 (fun C8 _ _ => ?_)
  refine r_aload_n (x := a0) dX12_init_36 rfl rfl ?_
  refine r_sipush (v := 3600) dX12_init_37 rfl ?_
  refine r_cnewAI ua_I dX12_init_40 (fun C9 _ => ?_)
  refine r_cputRF (c := 15) (kk := 9) hc_X12 rfl (by decide) inU_X12 (by decide) uf_X12_22 rfl tyX12 tyX12_ok nmX12 (x := (some (csz C8))) (fty := tyX12 9) (by decide) rfl rfl rfl (by decide +kernel) ⟨"", Or.inr ⟨_, rfl⟩⟩ dX12_init_42 (fun C10 _ _ => ?_)
  refine r_aload_n (x := a0) dX12_init_45 rfl rfl ?_
  refine r_bipush (v := 120) dX12_init_46 rfl ?_
  refine r_cnewAI ua_I dX12_init_48 (fun C11 _ => ?_)
  refine r_cputRF (c := 15) (kk := 10) hc_X12 rfl (by decide) inU_X12 (by decide) uf_X12_25 rfl tyX12 tyX12_ok nmX12 (x := (some (csz C10))) (fty := tyX12 10) (by decide) rfl rfl rfl (by decide +kernel) ⟨"", Or.inr ⟨_, rfl⟩⟩ dX12_init_50 (fun C12 _ _ => ?_)
  refine r_aload_n (x := a0) dX12_init_53 rfl rfl ?_
  refine r_bipush (v := 120) dX12_init_54 rfl ?_
  refine r_cnewAI ua_I dX12_init_56 (fun C13 _ => ?_)
  refine r_cputRF (c := 15) (kk := 11) hc_X12 rfl (by decide) inU_X12 (by decide) uf_X12_28 rfl tyX12 tyX12_ok nmX12 (x := (some (csz C12))) (fty := tyX12 11) (by decide) rfl rfl rfl (by decide +kernel) ⟨"", Or.inr ⟨_, rfl⟩⟩ dX12_init_58 (fun C14 _ _ => ?_)
  refine r_aload_n (x := a0) dX12_init_61 rfl rfl ?_
  refine r_bipush (v := 120) dX12_init_62 rfl ?_
  refine r_cnewAI ua_I dX12_init_64 (fun C15 _ => ?_)
  refine r_cputRF (c := 15) (kk := 12) hc_X12 rfl (by decide) inU_X12 (by decide) uf_X12_31 rfl tyX12 tyX12_ok nmX12 (x := (some (csz C14))) (fty := tyX12 12) (by decide) rfl rfl rfl (by decide +kernel) ⟨"", Or.inr ⟨_, rfl⟩⟩ dX12_init_66 (fun C16 _ _ => ?_)
  refine r_aload_n (x := a0) dX12_init_69 rfl rfl ?_
  refine r_sipush (v := 2000) dX12_init_70 rfl ?_
  refine r_cnewAI ua_I dX12_init_73 (fun C17 _ => ?_)
  refine r_cputRF (c := 15) (kk := 14) hc_X12 rfl (by decide) inU_X12 (by decide) uf_X12_34 rfl tyX12 tyX12_ok nmX12 (x := (some (csz C16))) (fty := tyX12 14) (by decide) rfl rfl rfl (by decide +kernel) ⟨"", Or.inr ⟨_, rfl⟩⟩ dX12_init_75 (fun C18 _ _ => ?_)
  refine r_aload_n (x := a0) dX12_init_78 rfl rfl ?_
  refine r_sipush (v := 2000) dX12_init_79 rfl ?_
  refine r_cnewAI ua_I dX12_init_82 (fun C19 _ => ?_)
  refine r_cputRF (c := 15) (kk := 15) hc_X12 rfl (by decide) inU_X12 (by decide) uf_X12_37 rfl tyX12 tyX12_ok nmX12 (x := (some (csz C18))) (fty := tyX12 15) (by decide) rfl rfl rfl (by decide +kernel) ⟨"", Or.inr ⟨_, rfl⟩⟩ dX12_init_84 (fun C20 _ _ => ?_)
  refine r_aload_n (x := a0) dX12_init_87 rfl rfl ?_
  refine r_sipush (v := 2000) dX12_init_88 rfl ?_
  refine r_cnewAI ua_I dX12_init_91 (fun C21 _ => ?_)
  refine r_cputRF (c := 15) (kk := 16) hc_X12 rfl (by decide) inU_X12 (by decide) uf_X12_40 rfl tyX12 tyX12_ok nmX12 (x := (some (csz C20))) (fty := tyX12 16) (by decide) rfl rfl rfl (by decide +kernel) ⟨"", Or.inr ⟨_, rfl⟩⟩ dX12_init_93 (fun C22 _ _ => ?_)
  refine r_aload_n (x := a0) dX12_init_96 rfl rfl ?_
  refine r_bipush (v := 48) dX12_init_97 rfl ?_
  refine r_cnewAI ua_I dX12_init_99 (fun C23 _ => ?_)
  refine r_cputRF (c := 15) (kk := 17) hc_X12 rfl (by decide) inU_X12 (by decide) uf_X12_43 rfl tyX12 tyX12_ok nmX12 (x := (some (csz C22))) (fty := tyX12 17) (by decide) rfl rfl rfl (by decide +kernel) ⟨"", Or.inr ⟨_, rfl⟩⟩ dX12_init_101 (fun C24 _ _ => ?_)
  refine r_aload_n (x := a0) dX12_init_104 rfl rfl ?_
  refine r_bipush (v := 48) dX12_init_105 rfl ?_
  refine r_cnewAI ua_I dX12_init_107 (fun C25 _ => ?_)
  refine r_cputRF (c := 15) (kk := 18) hc_X12 rfl (by decide) inU_X12 (by decide) uf_X12_46 rfl tyX12 tyX12_ok nmX12 (x := (some (csz C24))) (fty := tyX12 18) (by decide) rfl rfl rfl (by decide +kernel) ⟨"", Or.inr ⟨_, rfl⟩⟩ dX12_init_109 (fun C26 _ _ => ?_)
  refine r_aload_n (x := a0) dX12_init_112 rfl rfl ?_
  refine r_bipush (v := 64) dX12_init_113 rfl ?_
  refine r_cnewAI ua_I dX12_init_115 (fun C27 _ => ?_)
  refine r_cputRF (c := 15) (kk := 19) hc_X12 rfl (by decide) inU_X12 (by decide) uf_X12_49 rfl tyX12 tyX12_ok nmX12 (x := (some (csz C26))) (fty := tyX12 19) (by decide) rfl rfl rfl (by decide +kernel) ⟨"", Or.inr ⟨_, rfl⟩⟩ dX12_init_117 (fun C28 _ _ => ?_)
  refine r_aload_n (x := a0) dX12_init_120 rfl rfl ?_
  refine r_bipush (v := 64) dX12_init_121 rfl ?_
  refine r_cnewAI ua_I dX12_init_123 (fun C29 _ => ?_)
  refine r_cputRF (c := 15) (kk := 20) hc_X12 rfl (by decide) inU_X12 (by decide) uf_X12_52 rfl tyX12 tyX12_ok nmX12 (x := (some (csz C28))) (fty := tyX12 20) (by decide) rfl rfl rfl (by decide +kernel) ⟨"", Or.inr ⟨_, rfl⟩⟩ dX12_init_125 (fun C30 _ _ => ?_)
  refine r_aload_n (x := a0) dX12_init_128 rfl rfl ?_
  refine ro_iconst (v := 4) dX12_init_129 rfl ?_
  refine r_cnewAI ua_I dX12_init_130 (fun C31 _ => ?_)
  refine r_cputRF (c := 15) (kk := 21) hc_X12 rfl (by decide) inU_X12 (by decide) uf_X12_55 rfl tyX12 tyX12_ok nmX12 (x := (some (csz C30))) (fty := tyX12 21) (by decide) rfl rfl rfl (by decide +kernel) ⟨"", Or.inr ⟨_, rfl⟩⟩ dX12_init_132 (fun C32 _ _ => ?_)
  refine r_aload_n (x := a0) dX12_init_135 rfl rfl ?_
  refine r_bipush (v := 24) dX12_init_136 rfl ?_
  refine r_cnewAI ua_I dX12_init_138 (fun C33 _ => ?_)
  refine r_cputRF (c := 15) (kk := 23) hc_X12 rfl (by decide) inU_X12 (by decide) uf_X12_58 rfl tyX12 tyX12_ok nmX12 (x := (some (csz C32))) (fty := tyX12 23) (by decide) rfl rfl rfl (by decide +kernel) ⟨"", Or.inr ⟨_, rfl⟩⟩ dX12_init_140 (fun C34 _ _ => ?_)
  refine r_aload_n (x := a0) dX12_init_143 rfl rfl ?_
  refine r_bipush (v := 8) dX12_init_144 rfl ?_
  refine r_cnewAI ua_I dX12_init_146 (fun C35 _ => ?_)
  refine r_cputRF (c := 15) (kk := 24) hc_X12 rfl (by decide) inU_X12 (by decide) uf_X12_61 rfl tyX12 tyX12_ok nmX12 (x := (some (csz C34))) (fty := tyX12 24) (by decide) rfl rfl rfl (by decide +kernel) ⟨"", Or.inr ⟨_, rfl⟩⟩ dX12_init_148 (fun C36 _ _ => ?_)
  refine r_aload_n (x := a0) dX12_init_151 rfl rfl ?_
  refine ro_iconst (v := 4) dX12_init_152 rfl ?_
  refine r_cnewAI ua_I dX12_init_153 (fun C37 _ => ?_)
  refine r_cputRF (c := 15) (kk := 25) hc_X12 rfl (by decide) inU_X12 (by decide) uf_X12_64 rfl tyX12 tyX12_ok nmX12 (x := (some (csz C36))) (fty := tyX12 25) (by decide) rfl rfl rfl (by decide +kernel) ⟨"", Or.inr ⟨_, rfl⟩⟩ dX12_init_155 (fun C38 _ _ => ?_)
  refine r_aload_n (x := a0) dX12_init_158 rfl rfl ?_
  refine r_bipush (v := 24) dX12_init_159 rfl ?_
  refine r_cnewAI ua_I dX12_init_161 (fun C39 _ => ?_)
  refine r_cputRF (c := 15) (kk := 26) hc_X12 rfl (by decide) inU_X12 (by decide) uf_X12_67 rfl tyX12 tyX12_ok nmX12 (x := (some (csz C38))) (fty := tyX12 26) (by decide) rfl rfl rfl (by decide +kernel) ⟨"", Or.inr ⟨_, rfl⟩⟩ dX12_init_163 (fun C40 _ _ => ?_)
  refine r_aload_n (x := a0) dX12_init_166 rfl rfl ?_
  refine r_bipush (v := 24) dX12_init_167 rfl ?_
  refine r_cnewAZ ua_Z dX12_init_169 (fun C41 _ => ?_)
  refine r_cputRF (c := 15) (kk := 27) hc_X12 rfl (by decide) inU_X12 (by decide) uf_X12_70 rfl tyX12 tyX12_ok nmX12 (x := (some (csz C40))) (fty := tyX12 27) (by decide) rfl rfl rfl (by decide +kernel) ⟨"", Or.inr ⟨_, rfl⟩⟩ dX12_init_171 (fun C42 _ _ => ?_)
  refine r_aload_n (x := a0) dX12_init_174 rfl rfl ?_
  refine r_bipush (v := 24) dX12_init_175 rfl ?_
  refine r_cnewAI ua_I dX12_init_177 (fun C43 _ => ?_)
  refine r_cputRF (c := 15) (kk := 28) hc_X12 rfl (by decide) inU_X12 (by decide) uf_X12_74 rfl tyX12 tyX12_ok nmX12 (x := (some (csz C42))) (fty := tyX12 28) (by decide) rfl rfl rfl (by decide +kernel) ⟨"", Or.inr ⟨_, rfl⟩⟩ dX12_init_179 (fun C44 _ _ => ?_)
  refine r_aload_n (x := a0) dX12_init_182 rfl rfl ?_
  refine r_sipush (v := 3600) dX12_init_183 rfl ?_
  refine r_cnewAI ua_I dX12_init_186 (fun C45 _ => ?_)
  refine r_cputRF (c := 15) (kk := 29) hc_X12 rfl (by decide) inU_X12 (by decide) uf_X12_77 rfl tyX12 tyX12_ok nmX12 (x := (some (csz C44))) (fty := tyX12 29) (by decide) rfl rfl rfl (by decide +kernel) ⟨"", Or.inr ⟨_, rfl⟩⟩ dX12_init_188 (fun C46 _ _ => ?_)
  refine r_aload_n (x := a0) dX12_init_191 rfl rfl ?_
  refine r_bipush (v := 24) dX12_init_192 rfl ?_
  refine r_cnewAI ua_I dX12_init_194 (fun C47 _ => ?_)
  refine r_cputRF (c := 15) (kk := 30) hc_X12 rfl (by decide) inU_X12 (by decide) uf_X12_80 rfl tyX12 tyX12_ok nmX12 (x := (some (csz C46))) (fty := tyX12 30) (by decide) rfl rfl rfl (by decide +kernel) ⟨"", Or.inr ⟨_, rfl⟩⟩ dX12_init_196 (fun C48 _ _ => ?_)
  refine r_aload_n (x := a0) dX12_init_199 rfl rfl ?_
  refine r_bipush (v := 24) dX12_init_200 rfl ?_
  refine r_cnewAI ua_I dX12_init_202 (fun C49 _ => ?_)
  refine r_cputRF (c := 15) (kk := 31) hc_X12 rfl (by decide) inU_X12 (by decide) uf_X12_83 rfl tyX12 tyX12_ok nmX12 (x := (some (csz C48))) (fty := tyX12 31) (by decide) rfl rfl rfl (by decide +kernel) ⟨"", Or.inr ⟨_, rfl⟩⟩ dX12_init_204 (fun C50 _ _ => ?_)
  refine r_aload_n (x := a0) dX12_init_207 rfl rfl ?_
  refine r_bipush (v := 24) dX12_init_208 rfl ?_
  refine r_cnewAI ua_I dX12_init_210 (fun C51 _ => ?_)
  refine r_cputRF (c := 15) (kk := 32) hc_X12 rfl (by decide) inU_X12 (by decide) uf_X12_86 rfl tyX12 tyX12_ok nmX12 (x := (some (csz C50))) (fty := tyX12 32) (by decide) rfl rfl rfl (by decide +kernel) ⟨"", Or.inr ⟨_, rfl⟩⟩ dX12_init_212 (fun C52 _ _ => ?_)
  refine r_aload_n (x := a0) dX12_init_215 rfl rfl ?_
  refine r_bipush (v := 24) dX12_init_216 rfl ?_
  refine r_cnewAI ua_I dX12_init_218 (fun C53 _ => ?_)
  refine r_cputRF (c := 15) (kk := 33) hc_X12 rfl (by decide) inU_X12 (by decide) uf_X12_89 rfl tyX12 tyX12_ok nmX12 (x := (some (csz C52))) (fty := tyX12 33) (by decide) rfl rfl rfl (by decide +kernel) ⟨"", Or.inr ⟨_, rfl⟩⟩ dX12_init_220 (fun C54 _ _ => ?_)
  refine r_aload_n (x := a0) dX12_init_223 rfl rfl ?_
  refine r_bipush (v := 24) dX12_init_224 rfl ?_
  refine r_cnewAI ua_I dX12_init_226 (fun C55 _ => ?_)
  refine r_cputRF (c := 15) (kk := 34) hc_X12 rfl (by decide) inU_X12 (by decide) uf_X12_92 rfl tyX12 tyX12_ok nmX12 (x := (some (csz C54))) (fty := tyX12 34) (by decide) rfl rfl rfl (by decide +kernel) ⟨"", Or.inr ⟨_, rfl⟩⟩ dX12_init_228 (fun C56 _ _ => ?_)
  refine r_aload_n (x := a0) dX12_init_231 rfl rfl ?_
  refine r_bipush (v := 24) dX12_init_232 rfl ?_
  refine r_cnewAI ua_I dX12_init_234 (fun C57 _ => ?_)
  refine r_cputRF (c := 15) (kk := 35) hc_X12 rfl (by decide) inU_X12 (by decide) uf_X12_95 rfl tyX12 tyX12_ok nmX12 (x := (some (csz C56))) (fty := tyX12 35) (by decide) rfl rfl rfl (by decide +kernel) ⟨"", Or.inr ⟨_, rfl⟩⟩ dX12_init_236 (fun C58 _ _ => ?_)
  refine r_aload_n (x := a0) dX12_init_239 rfl rfl ?_
  refine r_bipush (v := 61) dX12_init_240 rfl ?_
  refine r_cnewAI ua_I dX12_init_242 (fun C59 _ => ?_)
  refine r_cputRF (c := 15) (kk := 37) hc_X12 rfl (by decide) inU_X12 (by decide) uf_X12_98 rfl tyX12 tyX12_ok nmX12 (x := (some (csz C58))) (fty := tyX12 37) (by decide) rfl rfl rfl (by decide +kernel) ⟨"", Or.inr ⟨_, rfl⟩⟩ dX12_init_244 (fun C60 _ _ => ?_)
  refine r_aload_n (x := a0) dX12_init_247 rfl rfl ?_
  refine r_bipush (v := 61) dX12_init_248 rfl ?_
  refine r_cnewAI ua_I dX12_init_250 (fun C61 _ => ?_)
  refine r_cputRF (c := 15) (kk := 38) hc_X12 rfl (by decide) inU_X12 (by decide) uf_X12_101 rfl tyX12 tyX12_ok nmX12 (x := (some (csz C60))) (fty := tyX12 38) (by decide) rfl rfl rfl (by decide +kernel) ⟨"", Or.inr ⟨_, rfl⟩⟩ dX12_init_252 (fun C62 _ _ => ?_)
  refine r_aload_n (x := a0) dX12_init_255 rfl rfl ?_
  refine r_bipush (v := 41) dX12_init_256 rfl ?_
  refine r_cnewAI ua_I dX12_init_258 (fun C63 _ => ?_)
  refine r_cputRF (c := 15) (kk := 41) hc_X12 rfl (by decide) inU_X12 (by decide) uf_X12_104 rfl tyX12 tyX12_ok nmX12 (x := (some (csz C62))) (fty := tyX12 41) (by decide) rfl rfl rfl (by decide +kernel) ⟨"", Or.inr ⟨_, rfl⟩⟩ dX12_init_260 (fun C64 _ _ => ?_)
  refine r_aload_n (x := a0) dX12_init_263 rfl rfl ?_
  refine r_bipush (v := 41) dX12_init_264 rfl ?_
  refine r_cnewAI ua_I dX12_init_266 (fun C65 _ => ?_)
  refine r_cputRF (c := 15) (kk := 42) hc_X12 rfl (by decide) inU_X12 (by decide) uf_X12_107 rfl tyX12 tyX12_ok nmX12 (x := (some (csz C64))) (fty := tyX12 42) (by decide) rfl rfl rfl (by decide +kernel) ⟨"", Or.inr ⟨_, rfl⟩⟩ dX12_init_268 (fun C66 _ _ => ?_)
  refine r_aload_n (x := a0) dX12_init_271 rfl rfl ?_
  refine r_bipush (v := 41) dX12_init_272 rfl ?_
  refine r_cnewAI ua_I dX12_init_274 (fun C67 _ => ?_)
  refine r_cputRF (c := 15) (kk := 43) hc_X12 rfl (by decide) inU_X12 (by decide) uf_X12_110 rfl tyX12 tyX12_ok nmX12 (x := (some (csz C66))) (fty := tyX12 43) (by decide) rfl rfl rfl (by decide +kernel) ⟨"", Or.inr ⟨_, rfl⟩⟩ dX12_init_276 (fun C68 _ _ => ?_)
  refine r_aload_n (x := a0) dX12_init_279 rfl rfl ?_
  refine r_bipush (v := 41) dX12_init_280 rfl ?_
  refine r_cnewAI ua_I dX12_init_282 (fun C69 _ => ?_)
  refine r_cputRF (c := 15) (kk := 44) hc_X12 rfl (by decide) inU_X12 (by decide) uf_X12_113 rfl tyX12 tyX12_ok nmX12 (x := (some (csz C68))) (fty := tyX12 44) (by decide) rfl rfl rfl (by decide +kernel) ⟨"", Or.inr ⟨_, rfl⟩⟩ dX12_init_284 (fun C70 _ _ => ?_)
  refine r_aload_n (x := a0) dX12_init_287 rfl rfl ?_
  refine r_sipush (v := 410) dX12_init_288 rfl ?_
  refine r_cnewAI ua_I dX12_init_291 (fun C71 _ => ?_)
  refine r_cputRF (c := 15) (kk := 45) hc_X12 rfl (by decide) inU_X12 (by decide) uf_X12_116 rfl tyX12 tyX12_ok nmX12 (x := (some (csz C70))) (fty := tyX12 45) (by decide) rfl rfl rfl (by decide +kernel) ⟨"", Or.inr ⟨_, rfl⟩⟩ dX12_init_293 (fun C72 _ _ => ?_)
  refine r_aload_n (x := a0) dX12_init_296 rfl rfl ?_
  refine r_sipush (v := 410) dX12_init_297 rfl ?_
  refine r_cnewAI ua_I dX12_init_300 (fun C73 _ => ?_)
  refine r_cputRF (c := 15) (kk := 46) hc_X12 rfl (by decide) inU_X12 (by decide) uf_X12_119 rfl tyX12 tyX12_ok nmX12 (x := (some (csz C72))) (fty := tyX12 46) (by decide) rfl rfl rfl (by decide +kernel) ⟨"", Or.inr ⟨_, rfl⟩⟩ dX12_init_302 (fun C74 _ _ => ?_)
  refine r_aload_n (x := a0) dX12_init_305 rfl rfl ?_
  refine r_sipush (v := 410) dX12_init_306 rfl ?_
  refine r_cnewAI ua_I dX12_init_309 (fun C75 _ => ?_)
  refine r_cputRF (c := 15) (kk := 47) hc_X12 rfl (by decide) inU_X12 (by decide) uf_X12_122 rfl tyX12 tyX12_ok nmX12 (x := (some (csz C74))) (fty := tyX12 47) (by decide) rfl rfl rfl (by decide +kernel) ⟨"", Or.inr ⟨_, rfl⟩⟩ dX12_init_311 (fun C76 _ _ => ?_)
  refine r_aload_n (x := a0) dX12_init_314 rfl rfl ?_
  refine r_sipush (v := 1700) dX12_init_315 rfl ?_
  refine r_cnewAI ua_I dX12_init_318 (fun C77 _ => ?_)
  refine r_cputRF (c := 15) (kk := 49) hc_X12 rfl (by decide) inU_X12 (by decide) uf_X12_125 rfl tyX12 tyX12_ok nmX12 (x := (some (csz C76))) (fty := tyX12 49) (by decide) rfl rfl rfl (by decide +kernel) ⟨"", Or.inr ⟨_, rfl⟩⟩ dX12_init_320 (fun C78 _ _ => ?_)
  refine r_aload_n (x := a0) dX12_init_323 rfl rfl ?_
  refine r_ldc (v := 255000) uc_X12_128 dX12_init_324 ?_
  refine r_cnewAI ua_I dX12_init_326 (fun C79 _ => ?_)
  refine r_cputRF (c := 15) (kk := 50) hc_X12 rfl (by decide) inU_X12 (by decide) uf_X12_129 rfl tyX12 tyX12_ok nmX12 (x := (some (csz C78))) (fty := tyX12 50) (by decide) rfl rfl rfl (by decide +kernel) ⟨"", Or.inr ⟨_, rfl⟩⟩ dX12_init_328 (fun C80 _ _ => ?_)
  refine r_aload_n (x := a0) dX12_init_331 rfl rfl ?_
  refine r_sipush (v := 700) dX12_init_332 rfl ?_
  refine r_cnewAI ua_I dX12_init_335 (fun C81 _ => ?_)
  refine r_cputRF (c := 15) (kk := 52) hc_X12 rfl (by decide) inU_X12 (by decide) uf_X12_132 rfl tyX12 tyX12_ok nmX12 (x := (some (csz C80))) (fty := tyX12 52) (by decide) rfl rfl rfl (by decide +kernel) ⟨"", Or.inr ⟨_, rfl⟩⟩ dX12_init_337 (fun C82 _ _ => ?_)
  refine r_aload_n (x := a0) dX12_init_340 rfl rfl ?_
  refine r_sipush (v := 700) dX12_init_341 rfl ?_
  refine r_cnewAI ua_I dX12_init_344 (fun C83 _ => ?_)
  refine r_cputRF (c := 15) (kk := 53) hc_X12 rfl (by decide) inU_X12 (by decide) uf_X12_135 rfl tyX12 tyX12_ok nmX12 (x := (some (csz C82))) (fty := tyX12 53) (by decide) rfl rfl rfl (by decide +kernel) ⟨"", Or.inr ⟨_, rfl⟩⟩ dX12_init_346 (fun C84 _ _ => ?_)
  refine r_aload_n (x := a0) dX12_init_349 rfl rfl ?_
  refine r_sipush (v := 700) dX12_init_350 rfl ?_
  refine r_cnewAI ua_I dX12_init_353 (fun C85 _ => ?_)
  refine r_cputRF (c := 15) (kk := 54) hc_X12 rfl (by decide) inU_X12 (by decide) uf_X12_138 rfl tyX12 tyX12_ok nmX12 (x := (some (csz C84))) (fty := tyX12 54) (by decide) rfl rfl rfl (by decide +kernel) ⟨"", Or.inr ⟨_, rfl⟩⟩ dX12_init_355 (fun C86 _ _ => ?_)
  refine r_aload_n (x := a0) dX12_init_358 rfl rfl ?_
  refine r_sipush (v := 700) dX12_init_359 rfl ?_
  refine r_cnewAI ua_I dX12_init_362 (fun C87 _ => ?_)
  refine r_cputRF (c := 15) (kk := 55) hc_X12 rfl (by decide) inU_X12 (by decide) uf_X12_141 rfl tyX12 tyX12_ok nmX12 (x := (some (csz C86))) (fty := tyX12 55) (by decide) rfl rfl rfl (by decide +kernel) ⟨"", Or.inr ⟨_, rfl⟩⟩ dX12_init_364 (fun C88 _ _ => ?_)
  refine r_aload_n (x := a0) dX12_init_367 rfl rfl ?_
  refine r_sipush (v := 22400) dX12_init_368 rfl ?_
  refine r_cnewAI ua_I dX12_init_371 (fun C89 _ => ?_)
  refine r_cputRF (c := 15) (kk := 56) hc_X12 rfl (by decide) inU_X12 (by decide) uf_X12_144 rfl tyX12 tyX12_ok nmX12 (x := (some (csz C88))) (fty := tyX12 56) (by decide) rfl rfl rfl (by decide +kernel) ⟨"", Or.inr ⟨_, rfl⟩⟩ dX12_init_373 (fun C90 _ _ => ?_)
  refine r_aload_n (x := a0) dX12_init_376 rfl rfl ?_
  refine r_sipush (v := 22400) dX12_init_377 rfl ?_
  refine r_cnewAI ua_I dX12_init_380 (fun C91 _ => ?_)
  refine r_cputRF (c := 15) (kk := 57) hc_X12 rfl (by decide) inU_X12 (by decide) uf_X12_147 rfl tyX12 tyX12_ok nmX12 (x := (some (csz C90))) (fty := tyX12 57) (by decide) rfl rfl rfl (by decide +kernel) ⟨"", Or.inr ⟨_, rfl⟩⟩ dX12_init_382 (fun C92 _ _ => ?_)
  refine r_aload_n (x := a0) dX12_init_385 rfl rfl ?_
  refine r_sipush (v := 22400) dX12_init_386 rfl ?_
  refine r_cnewAI ua_I dX12_init_389 (fun C93 _ => ?_)
  refine r_cputRF (c := 15) (kk := 58) hc_X12 rfl (by decide) inU_X12 (by decide) uf_X12_150 rfl tyX12 tyX12_ok nmX12 (x := (some (csz C92))) (fty := tyX12 58) (by decide) rfl rfl rfl (by decide +kernel) ⟨"", Or.inr ⟨_, rfl⟩⟩ dX12_init_391 (fun C94 _ _ => ?_)
  refine r_aload_n (x := a0) dX12_init_394 rfl rfl ?_
  refine r_sipush (v := 4000) dX12_init_395 rfl ?_
  refine r_cnewAI ua_I dX12_init_398 (fun C95 _ => ?_)
  refine r_cputRF (c := 15) (kk := 60) hc_X12 rfl (by decide) inU_X12 (by decide) uf_X12_153 rfl tyX12 tyX12_ok nmX12 (x := (some (csz C94))) (fty := tyX12 60) (by decide) rfl rfl rfl (by decide +kernel) ⟨"", Or.inr ⟨_, rfl⟩⟩ dX12_init_400 (fun C96 _ _ => ?_)
  refine r_aload_n (x := a0) dX12_init_403 rfl rfl ?_
  refine r_sipush (v := 4000) dX12_init_404 rfl ?_
  refine r_cnewAI ua_I dX12_init_407 (fun C97 _ => ?_)
  refine r_cputRF (c := 15) (kk := 61) hc_X12 rfl (by decide) inU_X12 (by decide) uf_X12_156 rfl tyX12 tyX12_ok nmX12 (x := (some (csz C96))) (fty := tyX12 61) (by decide) rfl rfl rfl (by decide +kernel) ⟨"", Or.inr ⟨_, rfl⟩⟩ dX12_init_409 (fun C98 _ _ => ?_)
  refine r_aload_n (x := a0) dX12_init_412 rfl rfl ?_
  refine r_sipush (v := 4000) dX12_init_413 rfl ?_
  refine r_cnewAI ua_I dX12_init_416 (fun C99 _ => ?_)
  refine r_cputRF (c := 15) (kk := 62) hc_X12 rfl (by decide) inU_X12 (by decide) uf_X12_159 rfl tyX12 tyX12_ok nmX12 (x := (some (csz C98))) (fty := tyX12 62) (by decide) rfl rfl rfl (by decide +kernel) ⟨"", Or.inr ⟨_, rfl⟩⟩ dX12_init_418 (fun C100 _ _ => ?_)
  refine r_aload_n (x := a0) dX12_init_421 rfl rfl ?_
  refine r_sipush (v := 4000) dX12_init_422 rfl ?_
  refine r_cnewAI ua_I dX12_init_425 (fun C101 _ => ?_)
  refine r_cputRF (c := 15) (kk := 63) hc_X12 rfl (by decide) inU_X12 (by decide) uf_X12_162 rfl tyX12 tyX12_ok nmX12 (x := (some (csz C100))) (fty := tyX12 63) (by decide) rfl rfl rfl (by decide +kernel) ⟨"", Or.inr ⟨_, rfl⟩⟩ dX12_init_427 (fun C102 _ _ => ?_)
  refine r_aload_n (x := a0) dX12_init_430 rfl rfl ?_
  refine r_sipush (v := 4000) dX12_init_431 rfl ?_
  refine r_cnewAI ua_I dX12_init_434 (fun C103 _ => ?_)
  refine r_cputRF (c := 15) (kk := 64) hc_X12 rfl (by decide) inU_X12 (by decide) uf_X12_165 rfl tyX12 tyX12_ok nmX12 (x := (some (csz C102))) (fty := tyX12 64) (by decide) rfl rfl rfl (by decide +kernel) ⟨"", Or.inr ⟨_, rfl⟩⟩ dX12_init_436 (fun C104 _ _ => ?_)
  refine r_aload_n (x := a0) dX12_init_439 rfl rfl ?_
  refine r_bipush (v := 9) dX12_init_440 rfl ?_
  refine r_cnewAI ua_I dX12_init_442 (fun C105 _ => ?_)
  refine r_cputRF (c := 15) (kk := 72) hc_X12 rfl (by decide) inU_X12 (by decide) uf_X12_168 rfl tyX12 tyX12_ok nmX12 (x := (some (csz C104))) (fty := tyX12 72) (by decide) rfl rfl rfl (by decide +kernel) ⟨"", Or.inr ⟨_, rfl⟩⟩ dX12_init_444 (fun C106 _ _ => ?_)
  refine r_aload_n (x := a0) dX12_init_447 rfl rfl ?_
  refine r_bipush (v := 60) dX12_init_448 rfl ?_
  refine r_cnewAI ua_I dX12_init_450 (fun C107 _ => ?_)
  refine r_cputRF (c := 15) (kk := 74) hc_X12 rfl (by decide) inU_X12 (by decide) uf_X12_171 rfl tyX12 tyX12_ok nmX12 (x := (some (csz C106))) (fty := tyX12 74) (by decide) rfl rfl rfl (by decide +kernel) ⟨"", Or.inr ⟨_, rfl⟩⟩ dX12_init_452 (fun C108 _ _ => ?_)
  refine r_aload_n (x := a0) dX12_init_455 rfl rfl ?_
  refine r_sipush (v := 200) dX12_init_456 rfl ?_
  refine r_cnewAI ua_I dX12_init_459 (fun C109 _ => ?_)
  refine r_cputRF (c := 15) (kk := 76) hc_X12 rfl (by decide) inU_X12 (by decide) uf_X12_174 rfl tyX12 tyX12_ok nmX12 (x := (some (csz C108))) (fty := tyX12 76) (by decide) rfl rfl rfl (by decide +kernel) ⟨"", Or.inr ⟨_, rfl⟩⟩ dX12_init_461 (fun C110 _ _ => ?_)
  refine r_aload_n (x := a0) dX12_init_464 rfl rfl ?_
  refine ro_iconst (v := 1) dX12_init_465 rfl ?_
  refine r_cnewAI ua_I dX12_init_466 (fun C111 _ => ?_)
  refine r_cputRF (c := 15) (kk := 78) hc_X12 rfl (by decide) inU_X12 (by decide) uf_X12_177 rfl tyX12 tyX12_ok nmX12 (x := (some (csz C110))) (fty := tyX12 78) (by decide) rfl rfl rfl (by decide +kernel) ⟨"", Or.inr ⟨_, rfl⟩⟩ dX12_init_468 (fun C112 _ _ => ?_)
  refine ro_iconst (v := 0) dX12_init_471 rfl ?_
  refine r_istore_n (lo2 := [(1, wi 0), (0, .ref a0)]) dX12_init_472 rfl (by decide) rfl ?_
  refine r_loop (P := fun (J : Int → Cd → Option (Unit × Cd)) => ∀ (v1_473 : Int) (C_473 : Cd), RunO l Γ k_X12_init 1 encV (emC M0) 473 [(0, .ref a0), (1, wi v1_473)] [] C_473 (J v1_473 C_473)) ?_ (fun L473 hL473 => ?_) (fun J473 hJ473 => ?_)
  · intros; exact ro_none
  · intro v1_473 C_473
    refine r_iload_n (x := v1_473) dX12_init_473 rfl rfl ?_
    refine r_bipush (v := 24) dX12_init_474 rfl ?_
    refine r_icmp_ge (tgt := 516) dX12_init_476 (by decide) ?_ ?_
    · exact r_vret rfl dX12_init_516
    · refine r_aload_n (x := a0) dX12_init_479 rfl rfl ?_
      refine r_cgetR (c := 15) (kk := 6) hc_X12 rfl (by decide) inU_X12 (by decide) uf_X12_19 rfl (by decide) dX12_init_480 (fun z113 => ?_)
      refine r_iload_n (x := v1_473) dX12_init_483 rfl rfl ?_
      refine ro_iconst (v := (-1)) dX12_init_484 rfl ?_
      refine r_dref (fun p114 hp114 => ?_)
      subst hp114
      refine r_ciast dX12_init_485 (fun C115 _ _ => ?_)
      refine r_aload_n (x := a0) dX12_init_486 rfl rfl ?_
      refine r_cgetR (c := 15) (kk := 26) hc_X12 rfl (by decide) inU_X12 (by decide) uf_X12_67 rfl (by decide) dX12_init_487 (fun z116 => ?_)
      refine r_iload_n (x := v1_473) dX12_init_490 rfl rfl ?_
      refine ro_iconst (v := (-1)) dX12_init_491 rfl ?_
      refine r_dref (fun p117 hp117 => ?_)
      subst hp117
      refine r_ciast dX12_init_492 (fun C118 _ _ => ?_)
      refine r_aload_n (x := a0) dX12_init_493 rfl rfl ?_
      refine r_cgetR (c := 15) (kk := 17) hc_X12 rfl (by decide) inU_X12 (by decide) uf_X12_43 rfl (by decide) dX12_init_494 (fun z119 => ?_)
      refine r_iload_n (x := v1_473) dX12_init_497 rfl rfl ?_
      refine ro_iconst (v := (-1)) dX12_init_498 rfl ?_
      refine r_dref (fun p120 hp120 => ?_)
      subst hp120
      refine r_ciast dX12_init_499 (fun C121 _ _ => ?_)
      refine r_aload_n (x := a0) dX12_init_500 rfl rfl ?_
      refine r_cgetR (c := 15) (kk := 17) hc_X12 rfl (by decide) inU_X12 (by decide) uf_X12_43 rfl (by decide) dX12_init_501 (fun z122 => ?_)
      refine r_bipush (v := 24) dX12_init_504 rfl ?_
      refine r_iload_n (x := v1_473) dX12_init_506 rfl rfl ?_
      refine r_iadd dX12_init_507 ?_
      refine ro_iconst (v := (-1)) dX12_init_508 rfl ?_
      refine r_dref (fun p123 hp123 => ?_)
      subst hp123
      refine r_ciast dX12_init_509 (fun C124 _ _ => ?_)
      refine r_iinc (x := v1_473) (lo2 := [(1, wi (v1_473 + 1)), (0, .ref a0)]) dX12_init_510 rfl (by decide) rfl ?_
      refine r_goto (tgt := 473) dX12_init_513 (by decide) ?_
      refine r_lo [1, 0] (lo2 := [(0, .ref a0), (1, wi (v1_473 + 1))]) rfl ?_
      exact hL473 (v1_473 + 1) C124
  refine r_lo [1, 0] (lo2 := [(0, .ref a0), (1, wi 0)]) rfl ?_
  exact hJ473 0 C112
