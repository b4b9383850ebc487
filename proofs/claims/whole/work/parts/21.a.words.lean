/-! WHAT IS KNOWN AT THE ENTRY: the places of its words -/
def gvL : List Cond := flatC (Jvm.Cond.and given_1 narrow_1)
theorem gv_a0 : Cond.arrayOf (.static "Weaveword" "TOKEN_VALUES" "[I") .int ∈ gvL := List.mem_of_getElem? (i := 5) (by decide +kernel)
theorem gv_l0 : Cond.eq (.length (.static "Weaveword" "TOKEN_VALUES" "[I")) (.int 14) ∈ gvL := List.mem_of_getElem? (i := 6) (by decide +kernel)
theorem gv_e0_0 : Cond.eq (.elem (.static "Weaveword" "TOKEN_VALUES" "[I") (.int (Int32.ofNat 0))) (.int (Int32.ofInt 999)) ∈ gvL := List.mem_of_getElem? (i := 7) (by decide +kernel)
theorem gv_e0_1 : Cond.eq (.elem (.static "Weaveword" "TOKEN_VALUES" "[I") (.int (Int32.ofNat 1))) (.int (Int32.ofInt 23)) ∈ gvL := List.mem_of_getElem? (i := 8) (by decide +kernel)
theorem gv_e0_2 : Cond.eq (.elem (.static "Weaveword" "TOKEN_VALUES" "[I") (.int (Int32.ofNat 2))) (.int (Int32.ofInt 23)) ∈ gvL := List.mem_of_getElem? (i := 9) (by decide +kernel)
theorem gv_e0_3 : Cond.eq (.elem (.static "Weaveword" "TOKEN_VALUES" "[I") (.int (Int32.ofNat 3))) (.int (Int32.ofInt 9)) ∈ gvL := List.mem_of_getElem? (i := 10) (by decide +kernel)
theorem gv_e0_4 : Cond.eq (.elem (.static "Weaveword" "TOKEN_VALUES" "[I") (.int (Int32.ofNat 4))) (.int (Int32.ofInt 6)) ∈ gvL := List.mem_of_getElem? (i := 11) (by decide +kernel)
theorem gv_e0_5 : Cond.eq (.elem (.static "Weaveword" "TOKEN_VALUES" "[I") (.int (Int32.ofNat 5))) (.int (Int32.ofInt 0)) ∈ gvL := List.mem_of_getElem? (i := 12) (by decide +kernel)
theorem gv_e0_6 : Cond.eq (.elem (.static "Weaveword" "TOKEN_VALUES" "[I") (.int (Int32.ofNat 6))) (.int (Int32.ofInt 9)) ∈ gvL := List.mem_of_getElem? (i := 13) (by decide +kernel)
theorem gv_e0_7 : Cond.eq (.elem (.static "Weaveword" "TOKEN_VALUES" "[I") (.int (Int32.ofNat 7))) (.int (Int32.ofInt 0)) ∈ gvL := List.mem_of_getElem? (i := 14) (by decide +kernel)
theorem gv_e0_8 : Cond.eq (.elem (.static "Weaveword" "TOKEN_VALUES" "[I") (.int (Int32.ofNat 8))) (.int (Int32.ofInt 0)) ∈ gvL := List.mem_of_getElem? (i := 15) (by decide +kernel)
theorem gv_e0_9 : Cond.eq (.elem (.static "Weaveword" "TOKEN_VALUES" "[I") (.int (Int32.ofNat 9))) (.int (Int32.ofInt 0)) ∈ gvL := List.mem_of_getElem? (i := 16) (by decide +kernel)
theorem gv_e0_10 : Cond.eq (.elem (.static "Weaveword" "TOKEN_VALUES" "[I") (.int (Int32.ofNat 10))) (.int (Int32.ofInt 0)) ∈ gvL := List.mem_of_getElem? (i := 17) (by decide +kernel)
theorem gv_e0_11 : Cond.eq (.elem (.static "Weaveword" "TOKEN_VALUES" "[I") (.int (Int32.ofNat 11))) (.int (Int32.ofInt 7)) ∈ gvL := List.mem_of_getElem? (i := 18) (by decide +kernel)
theorem gv_e0_12 : Cond.eq (.elem (.static "Weaveword" "TOKEN_VALUES" "[I") (.int (Int32.ofNat 12))) (.int (Int32.ofInt 23)) ∈ gvL := List.mem_of_getElem? (i := 19) (by decide +kernel)
theorem gv_e0_13 : Cond.eq (.elem (.static "Weaveword" "TOKEN_VALUES" "[I") (.int (Int32.ofNat 13))) (.int (Int32.ofInt 0)) ∈ gvL := List.mem_of_getElem? (i := 20) (by decide +kernel)
theorem gv_a1 : Cond.arrayOf (.static "Weaveword" "INSTRUCTION_VALUES" "[I") .int ∈ gvL := List.mem_of_getElem? (i := 239) (by decide +kernel)
theorem gv_l1 : Cond.eq (.length (.static "Weaveword" "INSTRUCTION_VALUES" "[I")) (.int 9) ∈ gvL := List.mem_of_getElem? (i := 240) (by decide +kernel)
theorem gv_e1_0 : Cond.eq (.elem (.static "Weaveword" "INSTRUCTION_VALUES" "[I") (.int (Int32.ofNat 0))) (.int (Int32.ofInt 999)) ∈ gvL := List.mem_of_getElem? (i := 241) (by decide +kernel)
theorem gv_e1_1 : Cond.eq (.elem (.static "Weaveword" "INSTRUCTION_VALUES" "[I") (.int (Int32.ofNat 1))) (.int (Int32.ofInt 8)) ∈ gvL := List.mem_of_getElem? (i := 242) (by decide +kernel)
theorem gv_e1_2 : Cond.eq (.elem (.static "Weaveword" "INSTRUCTION_VALUES" "[I") (.int (Int32.ofNat 2))) (.int (Int32.ofInt 0)) ∈ gvL := List.mem_of_getElem? (i := 243) (by decide +kernel)
theorem gv_e1_3 : Cond.eq (.elem (.static "Weaveword" "INSTRUCTION_VALUES" "[I") (.int (Int32.ofNat 3))) (.int (Int32.ofInt 0)) ∈ gvL := List.mem_of_getElem? (i := 244) (by decide +kernel)
theorem gv_e1_4 : Cond.eq (.elem (.static "Weaveword" "INSTRUCTION_VALUES" "[I") (.int (Int32.ofNat 4))) (.int (Int32.ofInt 0)) ∈ gvL := List.mem_of_getElem? (i := 245) (by decide +kernel)
theorem gv_e1_5 : Cond.eq (.elem (.static "Weaveword" "INSTRUCTION_VALUES" "[I") (.int (Int32.ofNat 5))) (.int (Int32.ofInt 0)) ∈ gvL := List.mem_of_getElem? (i := 246) (by decide +kernel)
theorem gv_e1_6 : Cond.eq (.elem (.static "Weaveword" "INSTRUCTION_VALUES" "[I") (.int (Int32.ofNat 6))) (.int (Int32.ofInt 15)) ∈ gvL := List.mem_of_getElem? (i := 247) (by decide +kernel)
theorem gv_e1_7 : Cond.eq (.elem (.static "Weaveword" "INSTRUCTION_VALUES" "[I") (.int (Int32.ofNat 7))) (.int (Int32.ofInt 15)) ∈ gvL := List.mem_of_getElem? (i := 248) (by decide +kernel)
theorem gv_e1_8 : Cond.eq (.elem (.static "Weaveword" "INSTRUCTION_VALUES" "[I") (.int (Int32.ofNat 8))) (.int (Int32.ofInt 0)) ∈ gvL := List.mem_of_getElem? (i := 249) (by decide +kernel)
theorem gv_us : Cond.isRef (.static "java/lang/Throwable" "UNASSIGNED_STACK" "[Ljava/lang/StackTraceElement;") ∈ gvL := List.mem_of_getElem? (i := 21) (by decide +kernel)
theorem gv_ss : Cond.isRef (.static "java/lang/Throwable" "SUPPRESSED_SENTINEL" "Ljava/util/List;") ∈ gvL := List.mem_of_getElem? (i := 22) (by decide +kernel)
theorem gv_da : Cond.arrayOf (.static "java/util/ArrayList" "DEFAULTCAPACITY_EMPTY_ELEMENTDATA" "[Ljava/lang/Object;") (.object "java/lang/Object") ∈ gvL := List.mem_of_getElem? (i := 24) (by decide +kernel)
theorem gv_dl : Cond.eq (.length (.static "java/util/ArrayList" "DEFAULTCAPACITY_EMPTY_ELEMENTDATA" "[Ljava/lang/Object;")) (.int 0) ∈ gvL := List.mem_of_getElem? (i := 26) (by decide +kernel)
theorem gv_mi : Cond.isRef (.mirror "[Ljava/lang/Object;") ∈ gvL := List.mem_of_getElem? (i := 399) (by decide +kernel)
theorem gv_n01 : Cond.not (.castable "java/lang/IllegalArgumentException" "java/lang/IllegalStateException") ∈ gvL := List.mem_of_getElem? (i := 278) (by decide +kernel)
theorem gv_n02 : Cond.not (.castable "java/lang/IllegalArgumentException" "java/lang/IndexOutOfBoundsException") ∈ gvL := List.mem_of_getElem? (i := 296) (by decide +kernel)
theorem gv_n10 : Cond.not (.castable "java/lang/IllegalStateException" "java/lang/IllegalArgumentException") ∈ gvL := List.mem_of_getElem? (i := 260) (by decide +kernel)
theorem gv_n12 : Cond.not (.castable "java/lang/IllegalStateException" "java/lang/IndexOutOfBoundsException") ∈ gvL := List.mem_of_getElem? (i := 297) (by decide +kernel)
theorem gv_n20 : Cond.not (.castable "java/lang/IndexOutOfBoundsException" "java/lang/IllegalArgumentException") ∈ gvL := List.mem_of_getElem? (i := 261) (by decide +kernel)
theorem gv_n21 : Cond.not (.castable "java/lang/IndexOutOfBoundsException" "java/lang/IllegalStateException") ∈ gvL := List.mem_of_getElem? (i := 279) (by decide +kernel)
theorem gv_strs : ∀ q ∈ strs, Cond.stringRef q.1 q.2.1 q.2.2 ∈ lw_tbl ∧ Cond.exactly (.string q.1 q.2.1) "java/lang/String" ∈ gvL := by
  exact List.forall_mem_cons.mpr ⟨⟨List.mem_of_getElem? (i := 611) (by decide +kernel), List.mem_of_getElem? (i := 400) (by decide +kernel)⟩, List.forall_mem_cons.mpr ⟨⟨List.mem_of_getElem? (i := 647) (by decide +kernel), List.mem_of_getElem? (i := 417) (by decide +kernel)⟩, List.forall_mem_cons.mpr ⟨⟨List.mem_of_getElem? (i := 665) (by decide +kernel), List.mem_of_getElem? (i := 438) (by decide +kernel)⟩, List.forall_mem_cons.mpr ⟨⟨List.mem_of_getElem? (i := 687) (by decide +kernel), List.mem_of_getElem? (i := 454) (by decide +kernel)⟩, List.forall_mem_cons.mpr ⟨⟨List.mem_of_getElem? (i := 694) (by decide +kernel), List.mem_of_getElem? (i := 471) (by decide +kernel)⟩, List.forall_mem_cons.mpr ⟨⟨List.mem_of_getElem? (i := 699) (by decide +kernel), List.mem_of_getElem? (i := 493) (by decide +kernel)⟩, List.forall_mem_cons.mpr ⟨⟨List.mem_of_getElem? (i := 718) (by decide +kernel), List.mem_of_getElem? (i := 516) (by decide +kernel)⟩, List.forall_mem_cons.mpr ⟨⟨List.mem_of_getElem? (i := 896) (by decide +kernel), List.mem_of_getElem? (i := 539) (by decide +kernel)⟩, List.forall_mem_cons.mpr ⟨⟨List.mem_of_getElem? (i := 928) (by decide +kernel), List.mem_of_getElem? (i := 556) (by decide +kernel)⟩, List.forall_mem_cons.mpr ⟨⟨List.mem_of_getElem? (i := 955) (by decide +kernel), List.mem_of_getElem? (i := 586) (by decide +kernel)⟩, List.forall_mem_cons.mpr ⟨⟨List.mem_of_getElem? (i := 1221) (by decide +kernel), List.mem_of_getElem? (i := 644) (by decide +kernel)⟩, List.forall_mem_cons.mpr ⟨⟨List.mem_of_getElem? (i := 1222) (by decide +kernel), List.mem_of_getElem? (i := 663) (by decide +kernel)⟩, List.forall_mem_cons.mpr ⟨⟨List.mem_of_getElem? (i := 1230) (by decide +kernel), List.mem_of_getElem? (i := 686) (by decide +kernel)⟩, List.forall_mem_cons.mpr ⟨⟨List.mem_of_getElem? (i := 1231) (by decide +kernel), List.mem_of_getElem? (i := 702) (by decide +kernel)⟩, List.forall_mem_cons.mpr ⟨⟨List.mem_of_getElem? (i := 1239) (by decide +kernel), List.mem_of_getElem? (i := 731) (by decide +kernel)⟩, List.forall_mem_cons.mpr ⟨⟨List.mem_of_getElem? (i := 1263) (by decide +kernel), List.mem_of_getElem? (i := 753) (by decide +kernel)⟩, List.forall_mem_cons.mpr ⟨⟨List.mem_of_getElem? (i := 1326) (by decide +kernel), List.mem_of_getElem? (i := 769) (by decide +kernel)⟩, List.forall_mem_cons.mpr ⟨⟨List.mem_of_getElem? (i := 1338) (by decide +kernel), List.mem_of_getElem? (i := 792) (by decide +kernel)⟩, List.forall_mem_cons.mpr ⟨⟨List.mem_of_getElem? (i := 1341) (by decide +kernel), List.mem_of_getElem? (i := 810) (by decide +kernel)⟩, List.forall_mem_cons.mpr ⟨⟨List.mem_of_getElem? (i := 1342) (by decide +kernel), List.mem_of_getElem? (i := 833) (by decide +kernel)⟩, List.forall_mem_cons.mpr ⟨⟨List.mem_of_getElem? (i := 1372) (by decide +kernel), List.mem_of_getElem? (i := 855) (by decide +kernel)⟩, List.forall_mem_cons.mpr ⟨⟨List.mem_of_getElem? (i := 1576) (by decide +kernel), List.mem_of_getElem? (i := 870) (by decide +kernel)⟩, List.forall_mem_cons.mpr ⟨⟨List.mem_of_getElem? (i := 1621) (by decide +kernel), List.mem_of_getElem? (i := 881) (by decide +kernel)⟩, List.forall_mem_cons.mpr ⟨⟨List.mem_of_getElem? (i := 1629) (by decide +kernel), List.mem_of_getElem? (i := 901) (by decide +kernel)⟩, List.forall_mem_cons.mpr ⟨⟨List.mem_of_getElem? (i := 1642) (by decide +kernel), List.mem_of_getElem? (i := 921) (by decide +kernel)⟩, fun _ h => absurd h List.not_mem_nil⟩⟩⟩⟩⟩⟩⟩⟩⟩⟩⟩⟩⟩⟩⟩⟩⟩⟩⟩⟩⟩⟩⟩⟩⟩
theorem gl_t0 : Cond.laysStatic "Weaveword" "TOKEN_VALUES" "[I" ∈ lw_tbl := List.mem_of_getElem? (i := 565) (by decide +kernel)
theorem gi_t0 : Cond.initialized "Weaveword" ∈ lw_tbl := List.mem_of_getElem? (i := 161) (by decide +kernel)
theorem gl_t1 : Cond.laysStatic "Weaveword" "INSTRUCTION_VALUES" "[I" ∈ lw_tbl := List.mem_of_getElem? (i := 1340) (by decide +kernel)
theorem gi_t1 : Cond.initialized "Weaveword" ∈ lw_tbl := List.mem_of_getElem? (i := 161) (by decide +kernel)
theorem gl_us : Cond.laysStatic "java/lang/Throwable" "UNASSIGNED_STACK" "[Ljava/lang/StackTraceElement;" ∈ lw_tbl := List.mem_of_getElem? (i := 597) (by decide +kernel)
theorem gi_us : Cond.initialized "java/lang/Throwable" ∈ lw_tbl := List.mem_of_getElem? (i := 171) (by decide +kernel)
theorem gl_ss : Cond.laysStatic "java/lang/Throwable" "SUPPRESSED_SENTINEL" "Ljava/util/List;" ∈ lw_tbl := List.mem_of_getElem? (i := 599) (by decide +kernel)
theorem gi_ss : Cond.initialized "java/lang/Throwable" ∈ lw_tbl := List.mem_of_getElem? (i := 171) (by decide +kernel)
theorem gl_dc : Cond.laysStatic "java/util/ArrayList" "DEFAULTCAPACITY_EMPTY_ELEMENTDATA" "[Ljava/lang/Object;" ∈ lw_tbl := List.mem_of_getElem? (i := 789) (by decide +kernel)
theorem gi_dc : Cond.initialized "java/util/ArrayList" ∈ lw_tbl := List.mem_of_getElem? (i := 181) (by decide +kernel)
theorem gn_J0 : Cond.instantiable RJ0 4 ∈ lw_tbl := List.mem_of_getElem? (i := 1149) (by decide +kernel)
theorem gu_J0 : ∀ w ∈ u_ws RJ0 TJ0 4, w ∈ lw_tbl := fun w hw => (goodIn_r (big := lw_tbl) (u_ws RJ0 TJ0 4) [1203, 1205, 1207, 1209] (by decide +kernel) (by decide +kernel) w hw).1
theorem gn_J4 : Cond.instantiable RJ4 4 ∈ lw_tbl := List.mem_of_getElem? (i := 982) (by decide +kernel)
theorem gu_J4 : ∀ w ∈ u_ws RJ4 TJ4 4, w ∈ lw_tbl := fun w hw => (goodIn_r (big := lw_tbl) (u_ws RJ4 TJ4 4) [1003, 1005, 1007, 1009] (by decide +kernel) (by decide +kernel) w hw).1
theorem gn_Jx4a65c : Cond.instantiable RJx4a65c 3 ∈ lw_tbl := List.mem_of_getElem? (i := 777) (by decide +kernel)
theorem gu_Jx4a65c : ∀ w ∈ u_ws RJx4a65c TJx4a65c 3, w ∈ lw_tbl := fun w hw => (goodIn_r (big := lw_tbl) (u_ws RJx4a65c TJx4a65c 3) [799, 795, 797] (by decide +kernel) (by decide +kernel) w hw).1
theorem gn_X0 : Cond.instantiable RX0 3 ∈ lw_tbl := List.mem_of_getElem? (i := 1299) (by decide +kernel)
theorem gu_X0 : ∀ w ∈ u_ws RX0 TX0 3, w ∈ lw_tbl := fun w hw => (goodIn_r (big := lw_tbl) (u_ws RX0 TX0 3) [1312, 1314, 1316] (by decide +kernel) (by decide +kernel) w hw).1
theorem gn_X1 : Cond.instantiable RX1 15 ∈ lw_tbl := List.mem_of_getElem? (i := 205) (by decide +kernel)
theorem gu_X1 : ∀ w ∈ u_ws RX1 TX1 15, w ∈ lw_tbl := fun w hw => (goodIn_r (big := lw_tbl) (u_ws RX1 TX1 15) [410, 412, 414, 416, 418, 420, 422, 424, 426, 428, 430, 432, 434, 436, 438] (by decide +kernel) (by decide +kernel) w hw).1
theorem gn_X2 : Cond.instantiable RX2 7 ∈ lw_tbl := List.mem_of_getElem? (i := 335) (by decide +kernel)
theorem gu_X2 : ∀ w ∈ u_ws RX2 TX2 7, w ∈ lw_tbl := fun w hw => (goodIn_r (big := lw_tbl) (u_ws RX2 TX2 7) [354, 356, 358, 360, 362, 364, 366] (by decide +kernel) (by decide +kernel) w hw).1
theorem gn_X3 : Cond.instantiable RX3 3 ∈ lw_tbl := List.mem_of_getElem? (i := 548) (by decide +kernel)
theorem gu_X3 : ∀ w ∈ u_ws RX3 TX3 3, w ∈ lw_tbl := fun w hw => (goodIn_r (big := lw_tbl) (u_ws RX3 TX3 3) [874, 876, 878] (by decide +kernel) (by decide +kernel) w hw).1
theorem gn_X4 : Cond.instantiable RX4 8 ∈ lw_tbl := List.mem_of_getElem? (i := 238) (by decide +kernel)
theorem gu_X4 : ∀ w ∈ u_ws RX4 TX4 8, w ∈ lw_tbl := fun w hw => (goodIn_r (big := lw_tbl) (u_ws RX4 TX4 8) [269, 271, 273, 275, 277, 279, 281, 283] (by decide +kernel) (by decide +kernel) w hw).1
theorem gn_X5 : Cond.instantiable RX5 3 ∈ lw_tbl := List.mem_of_getElem? (i := 219) (by decide +kernel)
theorem gu_X5 : ∀ w ∈ u_ws RX5 TX5 3, w ∈ lw_tbl := fun w hw => (goodIn_r (big := lw_tbl) (u_ws RX5 TX5 3) [229, 231, 233] (by decide +kernel) (by decide +kernel) w hw).1
theorem gn_X6 : Cond.instantiable RX6 4 ∈ lw_tbl := List.mem_of_getElem? (i := 370) (by decide +kernel)
theorem gu_X6 : ∀ w ∈ u_ws RX6 TX6 4, w ∈ lw_tbl := fun w hw => (goodIn_r (big := lw_tbl) (u_ws RX6 TX6 4) [383, 385, 387, 389] (by decide +kernel) (by decide +kernel) w hw).1
theorem gn_X7 : Cond.instantiable RX7 3 ∈ lw_tbl := List.mem_of_getElem? (i := 319) (by decide +kernel)
theorem gu_X7 : ∀ w ∈ u_ws RX7 TX7 3, w ∈ lw_tbl := fun w hw => (goodIn_r (big := lw_tbl) (u_ws RX7 TX7 3) [328, 330, 332] (by decide +kernel) (by decide +kernel) w hw).1
theorem gn_X8 : Cond.instantiable RX8 3 ∈ lw_tbl := List.mem_of_getElem? (i := 442) (by decide +kernel)
theorem gu_X8 : ∀ w ∈ u_ws RX8 TX8 3, w ∈ lw_tbl := fun w hw => (goodIn_r (big := lw_tbl) (u_ws RX8 TX8 3) [452, 454, 456] (by decide +kernel) (by decide +kernel) w hw).1
theorem gn_X9 : Cond.instantiable RX9 6 ∈ lw_tbl := List.mem_of_getElem? (i := 286) (by decide +kernel)
theorem gu_X9 : ∀ w ∈ u_ws RX9 TX9 6, w ∈ lw_tbl := fun w hw => (goodIn_r (big := lw_tbl) (u_ws RX9 TX9 6) [306, 308, 310, 312, 314, 316] (by decide +kernel) (by decide +kernel) w hw).1
theorem gn_X10 : Cond.instantiable RX10 3 ∈ lw_tbl := List.mem_of_getElem? (i := 728) (by decide +kernel)
theorem gu_X10 : ∀ w ∈ u_ws RX10 TX10 3, w ∈ lw_tbl := fun w hw => (goodIn_r (big := lw_tbl) (u_ws RX10 TX10 3) [764, 766, 768] (by decide +kernel) (by decide +kernel) w hw).1
theorem gn_X11 : Cond.instantiable RX11 10 ∈ lw_tbl := List.mem_of_getElem? (i := 197) (by decide +kernel)
theorem gu_X11 : ∀ w ∈ u_ws RX11 TX11 10, w ∈ lw_tbl := fun w hw => (goodIn_r (big := lw_tbl) (u_ws RX11 TX11 10) [469, 471, 473, 475, 477, 479, 481, 483, 485, 487] (by decide +kernel) (by decide +kernel) w hw).1
theorem gn_X12 : Cond.instantiable RX12 79 ∈ lw_tbl := List.mem_of_getElem? (i := 1651) (by decide +kernel)
theorem gu_X12 : ∀ w ∈ u_ws RX12 TX12 79, w ∈ lw_tbl := fun w hw => (goodIn_r (big := lw_tbl) (u_ws RX12 TX12 79) [1736, 1738, 1740, 1742, 1744, 1746, 1748, 1750, 1752, 1754, 1756, 1758, 1760, 1762, 1764, 1766, 1768, 1770, 1772, 1774, 1776, 1778, 1780, 1782, 1784, 1786, 1788, 1790, 1792, 1794, 1796, 1798, 1800, 1802, 1804, 1806, 1808, 1810, 1812, 1814, 1816, 1818, 1820, 1822, 1824, 1826, 1828, 1830, 1832, 1834, 1836, 1838, 1840, 1842, 1844, 1846, 1848, 1850, 1852, 1854, 1856, 1858, 1860, 1862, 1864, 1866, 1868, 1870, 1872, 1874, 1876, 1878, 1880, 1882, 1884, 1886, 1888, 1890, 1892] (by decide +kernel) (by decide +kernel) w hw).1
theorem gy_int : Cond.arrayClass .int ∈ lw_tbl := List.mem_of_getElem? (i := 236) (by decide +kernel)
theorem gy_boolean : Cond.arrayClass .boolean ∈ lw_tbl := List.mem_of_getElem? (i := 369) (by decide +kernel)
theorem gy_long : Cond.arrayClass .long ∈ lw_tbl := List.mem_of_getElem? (i := 2310) (by decide +kernel)
theorem gy_2 : Cond.arrayOver (.object "Weaveword$Title") ∈ lw_tbl := List.mem_of_getElem? (i := 211) (by decide +kernel)
theorem gy_3 : Cond.arrayOver (.object "Weaveword$SmallModule") ∈ lw_tbl := List.mem_of_getElem? (i := 213) (by decide +kernel)
theorem gy_4 : Cond.arrayOver (.object "Weaveword$Frame") ∈ lw_tbl := List.mem_of_getElem? (i := 215) (by decide +kernel)
theorem gy_5 : Cond.arrayOver (.object "Weaveword$Run") ∈ lw_tbl := List.mem_of_getElem? (i := 217) (by decide +kernel)
theorem gy_6 : Cond.arrayOver (.object "Weaveword$Row") ∈ lw_tbl := List.mem_of_getElem? (i := 341) (by decide +kernel)
theorem gy_7 : Cond.arrayOver (.object "java/lang/Object") ∈ lw_tbl := List.mem_of_getElem? (i := 858) (by decide +kernel)
