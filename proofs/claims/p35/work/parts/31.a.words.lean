/-! WHAT IS KNOWN AT THE ENTRY: the places of its words -/
def gvL : List Cond := flatC (Jvm.Cond.and given_1 narrow_1)
theorem gv_a0 : Cond.arrayOf (.static "Weaveword" "TOKEN_VALUES" "[I") .int ∈ gvL := List.mem_of_getElem? (i := 222) (by decide +kernel)
theorem gv_l0 : Cond.eq (.length (.static "Weaveword" "TOKEN_VALUES" "[I")) (.int 14) ∈ gvL := List.mem_of_getElem? (i := 223) (by decide +kernel)
theorem gv_e0_0 : Cond.eq (.elem (.static "Weaveword" "TOKEN_VALUES" "[I") (.int (Int32.ofNat 0))) (.int (Int32.ofInt 999)) ∈ gvL := List.mem_of_getElem? (i := 224) (by decide +kernel)
theorem gv_e0_1 : Cond.eq (.elem (.static "Weaveword" "TOKEN_VALUES" "[I") (.int (Int32.ofNat 1))) (.int (Int32.ofInt 23)) ∈ gvL := List.mem_of_getElem? (i := 225) (by decide +kernel)
theorem gv_e0_2 : Cond.eq (.elem (.static "Weaveword" "TOKEN_VALUES" "[I") (.int (Int32.ofNat 2))) (.int (Int32.ofInt 23)) ∈ gvL := List.mem_of_getElem? (i := 226) (by decide +kernel)
theorem gv_e0_3 : Cond.eq (.elem (.static "Weaveword" "TOKEN_VALUES" "[I") (.int (Int32.ofNat 3))) (.int (Int32.ofInt 9)) ∈ gvL := List.mem_of_getElem? (i := 227) (by decide +kernel)
theorem gv_e0_4 : Cond.eq (.elem (.static "Weaveword" "TOKEN_VALUES" "[I") (.int (Int32.ofNat 4))) (.int (Int32.ofInt 6)) ∈ gvL := List.mem_of_getElem? (i := 228) (by decide +kernel)
theorem gv_e0_5 : Cond.eq (.elem (.static "Weaveword" "TOKEN_VALUES" "[I") (.int (Int32.ofNat 5))) (.int (Int32.ofInt 0)) ∈ gvL := List.mem_of_getElem? (i := 229) (by decide +kernel)
theorem gv_e0_6 : Cond.eq (.elem (.static "Weaveword" "TOKEN_VALUES" "[I") (.int (Int32.ofNat 6))) (.int (Int32.ofInt 9)) ∈ gvL := List.mem_of_getElem? (i := 230) (by decide +kernel)
theorem gv_e0_7 : Cond.eq (.elem (.static "Weaveword" "TOKEN_VALUES" "[I") (.int (Int32.ofNat 7))) (.int (Int32.ofInt 0)) ∈ gvL := List.mem_of_getElem? (i := 231) (by decide +kernel)
theorem gv_e0_8 : Cond.eq (.elem (.static "Weaveword" "TOKEN_VALUES" "[I") (.int (Int32.ofNat 8))) (.int (Int32.ofInt 0)) ∈ gvL := List.mem_of_getElem? (i := 232) (by decide +kernel)
theorem gv_e0_9 : Cond.eq (.elem (.static "Weaveword" "TOKEN_VALUES" "[I") (.int (Int32.ofNat 9))) (.int (Int32.ofInt 0)) ∈ gvL := List.mem_of_getElem? (i := 233) (by decide +kernel)
theorem gv_e0_10 : Cond.eq (.elem (.static "Weaveword" "TOKEN_VALUES" "[I") (.int (Int32.ofNat 10))) (.int (Int32.ofInt 0)) ∈ gvL := List.mem_of_getElem? (i := 234) (by decide +kernel)
theorem gv_e0_11 : Cond.eq (.elem (.static "Weaveword" "TOKEN_VALUES" "[I") (.int (Int32.ofNat 11))) (.int (Int32.ofInt 7)) ∈ gvL := List.mem_of_getElem? (i := 235) (by decide +kernel)
theorem gv_e0_12 : Cond.eq (.elem (.static "Weaveword" "TOKEN_VALUES" "[I") (.int (Int32.ofNat 12))) (.int (Int32.ofInt 23)) ∈ gvL := List.mem_of_getElem? (i := 236) (by decide +kernel)
theorem gv_e0_13 : Cond.eq (.elem (.static "Weaveword" "TOKEN_VALUES" "[I") (.int (Int32.ofNat 13))) (.int (Int32.ofInt 0)) ∈ gvL := List.mem_of_getElem? (i := 237) (by decide +kernel)
theorem gv_us : Cond.isRef (.static "java/lang/Throwable" "UNASSIGNED_STACK" "[Ljava/lang/StackTraceElement;") ∈ gvL := List.mem_of_getElem? (i := 4) (by decide +kernel)
theorem gv_ss : Cond.isRef (.static "java/lang/Throwable" "SUPPRESSED_SENTINEL" "Ljava/util/List;") ∈ gvL := List.mem_of_getElem? (i := 5) (by decide +kernel)
theorem gv_da : Cond.arrayOf (.static "java/util/ArrayList" "DEFAULTCAPACITY_EMPTY_ELEMENTDATA" "[Ljava/lang/Object;") (.object "java/lang/Object") ∈ gvL := List.mem_of_getElem? (i := 7) (by decide +kernel)
theorem gv_dl : Cond.eq (.length (.static "java/util/ArrayList" "DEFAULTCAPACITY_EMPTY_ELEMENTDATA" "[Ljava/lang/Object;")) (.int 0) ∈ gvL := List.mem_of_getElem? (i := 9) (by decide +kernel)
theorem gv_mi : Cond.isRef (.mirror "[Ljava/lang/Object;") ∈ gvL := List.mem_of_getElem? (i := 379) (by decide +kernel)
theorem gv_n01 : Cond.not (.castable "java/lang/IllegalArgumentException" "java/lang/IllegalStateException") ∈ gvL := List.mem_of_getElem? (i := 287) (by decide +kernel)
theorem gv_n02 : Cond.not (.castable "java/lang/IllegalArgumentException" "java/lang/IndexOutOfBoundsException") ∈ gvL := List.mem_of_getElem? (i := 253) (by decide +kernel)
theorem gv_n10 : Cond.not (.castable "java/lang/IllegalStateException" "java/lang/IllegalArgumentException") ∈ gvL := List.mem_of_getElem? (i := 265) (by decide +kernel)
theorem gv_n12 : Cond.not (.castable "java/lang/IllegalStateException" "java/lang/IndexOutOfBoundsException") ∈ gvL := List.mem_of_getElem? (i := 247) (by decide +kernel)
theorem gv_n20 : Cond.not (.castable "java/lang/IndexOutOfBoundsException" "java/lang/IllegalArgumentException") ∈ gvL := List.mem_of_getElem? (i := 264) (by decide +kernel)
theorem gv_n21 : Cond.not (.castable "java/lang/IndexOutOfBoundsException" "java/lang/IllegalStateException") ∈ gvL := List.mem_of_getElem? (i := 281) (by decide +kernel)
theorem gv_strs : ∀ q ∈ strs, Cond.stringRef q.1 q.2.1 q.2.2 ∈ lw_tbl ∧ Cond.exactly (.string q.1 q.2.1) "java/lang/String" ∈ gvL := by
  exact List.forall_mem_cons.mpr ⟨⟨List.mem_of_getElem? (i := 1447) (by decide +kernel), List.mem_of_getElem? (i := 909) (by decide +kernel)⟩, List.forall_mem_cons.mpr ⟨⟨List.mem_of_getElem? (i := 1448) (by decide +kernel), List.mem_of_getElem? (i := 945) (by decide +kernel)⟩, List.forall_mem_cons.mpr ⟨⟨List.mem_of_getElem? (i := 505) (by decide +kernel), List.mem_of_getElem? (i := 397) (by decide +kernel)⟩, List.forall_mem_cons.mpr ⟨⟨List.mem_of_getElem? (i := 469) (by decide +kernel), List.mem_of_getElem? (i := 380) (by decide +kernel)⟩, List.forall_mem_cons.mpr ⟨⟨List.mem_of_getElem? (i := 1375) (by decide +kernel), List.mem_of_getElem? (i := 801) (by decide +kernel)⟩, List.forall_mem_cons.mpr ⟨⟨List.mem_of_getElem? (i := 814) (by decide +kernel), List.mem_of_getElem? (i := 431) (by decide +kernel)⟩, List.forall_mem_cons.mpr ⟨⟨List.mem_of_getElem? (i := 998) (by decide +kernel), List.mem_of_getElem? (i := 457) (by decide +kernel)⟩, List.forall_mem_cons.mpr ⟨⟨List.mem_of_getElem? (i := 1030) (by decide +kernel), List.mem_of_getElem? (i := 478) (by decide +kernel)⟩, List.forall_mem_cons.mpr ⟨⟨List.mem_of_getElem? (i := 1057) (by decide +kernel), List.mem_of_getElem? (i := 513) (by decide +kernel)⟩, List.forall_mem_cons.mpr ⟨⟨List.mem_of_getElem? (i := 1320) (by decide +kernel), List.mem_of_getElem? (i := 601) (by decide +kernel)⟩, List.forall_mem_cons.mpr ⟨⟨List.mem_of_getElem? (i := 1321) (by decide +kernel), List.mem_of_getElem? (i := 630) (by decide +kernel)⟩, List.forall_mem_cons.mpr ⟨⟨List.mem_of_getElem? (i := 1326) (by decide +kernel), List.mem_of_getElem? (i := 664) (by decide +kernel)⟩, List.forall_mem_cons.mpr ⟨⟨List.mem_of_getElem? (i := 1327) (by decide +kernel), List.mem_of_getElem? (i := 692) (by decide +kernel)⟩, List.forall_mem_cons.mpr ⟨⟨List.mem_of_getElem? (i := 1332) (by decide +kernel), List.mem_of_getElem? (i := 734) (by decide +kernel)⟩, List.forall_mem_cons.mpr ⟨⟨List.mem_of_getElem? (i := 1343) (by decide +kernel), List.mem_of_getElem? (i := 770) (by decide +kernel)⟩, List.forall_mem_cons.mpr ⟨⟨List.mem_of_getElem? (i := 1403) (by decide +kernel), List.mem_of_getElem? (i := 840) (by decide +kernel)⟩, List.forall_mem_cons.mpr ⟨⟨List.mem_of_getElem? (i := 516) (by decide +kernel), List.mem_of_getElem? (i := 414) (by decide +kernel)⟩, List.forall_mem_cons.mpr ⟨⟨List.mem_of_getElem? (i := 1412) (by decide +kernel), List.mem_of_getElem? (i := 880) (by decide +kernel)⟩, List.forall_mem_cons.mpr ⟨⟨List.mem_of_getElem? (i := 1502) (by decide +kernel), List.mem_of_getElem? (i := 986) (by decide +kernel)⟩, List.forall_mem_cons.mpr ⟨⟨List.mem_of_getElem? (i := 1530) (by decide +kernel), List.mem_of_getElem? (i := 1069) (by decide +kernel)⟩, List.forall_mem_cons.mpr ⟨⟨List.mem_of_getElem? (i := 1521) (by decide +kernel), List.mem_of_getElem? (i := 1027) (by decide +kernel)⟩, fun _ h => absurd h List.not_mem_nil⟩⟩⟩⟩⟩⟩⟩⟩⟩⟩⟩⟩⟩⟩⟩⟩⟩⟩⟩⟩⟩
theorem gl_t0 : Cond.laysStatic "Weaveword" "TOKEN_VALUES" "[I" ∈ lw_tbl := List.mem_of_getElem? (i := 1442) (by decide +kernel)
theorem gi_t0 : Cond.initialized "Weaveword" ∈ lw_tbl := List.mem_of_getElem? (i := 94) (by decide +kernel)
theorem gl_us : Cond.laysStatic "java/lang/Throwable" "UNASSIGNED_STACK" "[Ljava/lang/StackTraceElement;" ∈ lw_tbl := List.mem_of_getElem? (i := 455) (by decide +kernel)
theorem gi_us : Cond.initialized "java/lang/Throwable" ∈ lw_tbl := List.mem_of_getElem? (i := 103) (by decide +kernel)
theorem gl_ss : Cond.laysStatic "java/lang/Throwable" "SUPPRESSED_SENTINEL" "Ljava/util/List;" ∈ lw_tbl := List.mem_of_getElem? (i := 457) (by decide +kernel)
theorem gi_ss : Cond.initialized "java/lang/Throwable" ∈ lw_tbl := List.mem_of_getElem? (i := 103) (by decide +kernel)
theorem gl_dc : Cond.laysStatic "java/util/ArrayList" "DEFAULTCAPACITY_EMPTY_ELEMENTDATA" "[Ljava/lang/Object;" ∈ lw_tbl := List.mem_of_getElem? (i := 891) (by decide +kernel)
theorem gi_dc : Cond.initialized "java/util/ArrayList" ∈ lw_tbl := List.mem_of_getElem? (i := 114) (by decide +kernel)
theorem gn_J0 : Cond.instantiable RJ0 4 ∈ lw_tbl := List.mem_of_getElem? (i := 1251) (by decide +kernel)
theorem gu_J0 : ∀ w ∈ u_ws RJ0 TJ0 4, w ∈ lw_tbl := fun w hw => (goodIn_r (big := lw_tbl) (u_ws RJ0 TJ0 4) [1305, 1307, 1309, 1311] (by decide +kernel) (by decide +kernel) w hw).1
theorem gn_J4 : Cond.instantiable RJ4 4 ∈ lw_tbl := List.mem_of_getElem? (i := 1084) (by decide +kernel)
theorem gu_J4 : ∀ w ∈ u_ws RJ4 TJ4 4, w ∈ lw_tbl := fun w hw => (goodIn_r (big := lw_tbl) (u_ws RJ4 TJ4 4) [1105, 1107, 1109, 1111] (by decide +kernel) (by decide +kernel) w hw).1
theorem gn_Jx4a65c : Cond.instantiable RJx4a65c 3 ∈ lw_tbl := List.mem_of_getElem? (i := 879) (by decide +kernel)
theorem gu_Jx4a65c : ∀ w ∈ u_ws RJx4a65c TJx4a65c 3, w ∈ lw_tbl := fun w hw => (goodIn_r (big := lw_tbl) (u_ws RJx4a65c TJx4a65c 3) [901, 897, 899] (by decide +kernel) (by decide +kernel) w hw).1
theorem gn_X0 : Cond.instantiable RX0 3 ∈ lw_tbl := List.mem_of_getElem? (i := 1377) (by decide +kernel)
theorem gu_X0 : ∀ w ∈ u_ws RX0 TX0 3, w ∈ lw_tbl := fun w hw => (goodIn_r (big := lw_tbl) (u_ws RX0 TX0 3) [1388, 1390, 1392] (by decide +kernel) (by decide +kernel) w hw).1
theorem gn_X1 : Cond.instantiable RX1 15 ∈ lw_tbl := List.mem_of_getElem? (i := 137) (by decide +kernel)
theorem gu_X1 : ∀ w ∈ u_ws RX1 TX1 15, w ∈ lw_tbl := fun w hw => (goodIn_r (big := lw_tbl) (u_ws RX1 TX1 15) [340, 342, 344, 346, 348, 350, 352, 354, 356, 358, 360, 362, 364, 366, 368] (by decide +kernel) (by decide +kernel) w hw).1
theorem gn_X2 : Cond.instantiable RX2 7 ∈ lw_tbl := List.mem_of_getElem? (i := 265) (by decide +kernel)
theorem gu_X2 : ∀ w ∈ u_ws RX2 TX2 7, w ∈ lw_tbl := fun w hw => (goodIn_r (big := lw_tbl) (u_ws RX2 TX2 7) [284, 286, 288, 290, 292, 294, 296] (by decide +kernel) (by decide +kernel) w hw).1
theorem gn_X3 : Cond.instantiable RX3 3 ∈ lw_tbl := List.mem_of_getElem? (i := 648) (by decide +kernel)
theorem gu_X3 : ∀ w ∈ u_ws RX3 TX3 3, w ∈ lw_tbl := fun w hw => (goodIn_r (big := lw_tbl) (u_ws RX3 TX3 3) [975, 977, 979] (by decide +kernel) (by decide +kernel) w hw).1
theorem gn_X4 : Cond.instantiable RX4 8 ∈ lw_tbl := List.mem_of_getElem? (i := 170) (by decide +kernel)
theorem gu_X4 : ∀ w ∈ u_ws RX4 TX4 8, w ∈ lw_tbl := fun w hw => (goodIn_r (big := lw_tbl) (u_ws RX4 TX4 8) [200, 202, 204, 206, 208, 210, 212, 214] (by decide +kernel) (by decide +kernel) w hw).1
theorem gn_X5 : Cond.instantiable RX5 3 ∈ lw_tbl := List.mem_of_getElem? (i := 151) (by decide +kernel)
theorem gu_X5 : ∀ w ∈ u_ws RX5 TX5 3, w ∈ lw_tbl := fun w hw => (goodIn_r (big := lw_tbl) (u_ws RX5 TX5 3) [161, 163, 165] (by decide +kernel) (by decide +kernel) w hw).1
theorem gn_X6 : Cond.instantiable RX6 4 ∈ lw_tbl := List.mem_of_getElem? (i := 300) (by decide +kernel)
theorem gu_X6 : ∀ w ∈ u_ws RX6 TX6 4, w ∈ lw_tbl := fun w hw => (goodIn_r (big := lw_tbl) (u_ws RX6 TX6 4) [313, 315, 317, 319] (by decide +kernel) (by decide +kernel) w hw).1
theorem gn_X7 : Cond.instantiable RX7 3 ∈ lw_tbl := List.mem_of_getElem? (i := 250) (by decide +kernel)
theorem gu_X7 : ∀ w ∈ u_ws RX7 TX7 3, w ∈ lw_tbl := fun w hw => (goodIn_r (big := lw_tbl) (u_ws RX7 TX7 3) [258, 260, 262] (by decide +kernel) (by decide +kernel) w hw).1
theorem gn_X8 : Cond.instantiable RX8 3 ∈ lw_tbl := List.mem_of_getElem? (i := 372) (by decide +kernel)
theorem gu_X8 : ∀ w ∈ u_ws RX8 TX8 3, w ∈ lw_tbl := fun w hw => (goodIn_r (big := lw_tbl) (u_ws RX8 TX8 3) [382, 384, 386] (by decide +kernel) (by decide +kernel) w hw).1
theorem gn_X9 : Cond.instantiable RX9 6 ∈ lw_tbl := List.mem_of_getElem? (i := 217) (by decide +kernel)
theorem gu_X9 : ∀ w ∈ u_ws RX9 TX9 6, w ∈ lw_tbl := fun w hw => (goodIn_r (big := lw_tbl) (u_ws RX9 TX9 6) [237, 239, 241, 243, 245, 247] (by decide +kernel) (by decide +kernel) w hw).1
theorem gn_X10 : Cond.instantiable RX10 3 ∈ lw_tbl := List.mem_of_getElem? (i := 830) (by decide +kernel)
theorem gu_X10 : ∀ w ∈ u_ws RX10 TX10 3, w ∈ lw_tbl := fun w hw => (goodIn_r (big := lw_tbl) (u_ws RX10 TX10 3) [866, 868, 870] (by decide +kernel) (by decide +kernel) w hw).1
theorem gn_X11 : Cond.instantiable RX11 10 ∈ lw_tbl := List.mem_of_getElem? (i := 129) (by decide +kernel)
theorem gu_X11 : ∀ w ∈ u_ws RX11 TX11 10, w ∈ lw_tbl := fun w hw => (goodIn_r (big := lw_tbl) (u_ws RX11 TX11 10) [399, 401, 403, 405, 407, 409, 411, 413, 415, 417] (by decide +kernel) (by decide +kernel) w hw).1
theorem gy_int : Cond.arrayClass .int ∈ lw_tbl := List.mem_of_getElem? (i := 168) (by decide +kernel)
theorem gy_boolean : Cond.arrayClass .boolean ∈ lw_tbl := List.mem_of_getElem? (i := 299) (by decide +kernel)
theorem gy_long : Cond.arrayClass .long ∈ lw_tbl := List.mem_of_getElem? (i := 1554) (by decide +kernel)
theorem gy_2 : Cond.arrayOver (.object "Weaveword$Title") ∈ lw_tbl := List.mem_of_getElem? (i := 143) (by decide +kernel)
theorem gy_3 : Cond.arrayOver (.object "Weaveword$SmallModule") ∈ lw_tbl := List.mem_of_getElem? (i := 145) (by decide +kernel)
theorem gy_4 : Cond.arrayOver (.object "Weaveword$Frame") ∈ lw_tbl := List.mem_of_getElem? (i := 147) (by decide +kernel)
theorem gy_5 : Cond.arrayOver (.object "Weaveword$Run") ∈ lw_tbl := List.mem_of_getElem? (i := 149) (by decide +kernel)
theorem gy_6 : Cond.arrayOver (.object "Weaveword$Row") ∈ lw_tbl := List.mem_of_getElem? (i := 271) (by decide +kernel)
theorem gy_7 : Cond.arrayOver (.object "java/lang/Object") ∈ lw_tbl := List.mem_of_getElem? (i := 959) (by decide +kernel)
