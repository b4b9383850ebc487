/-! the class's words -/
theorem hc_X0 : vwCl[3]? = some (RX0, TX0, 3) := rfl
theorem inU_X0 : ∀ w ∈ u_ws RX0 TX0 3, w ∈ uw := fun w hw => List.mem_filter.mpr ⟨(goodIn_r (big := lw_tbl) (u_ws RX0 TX0 3) [1312, 1314, 1316] (by decide +kernel) (by decide +kernel) w hw).1, List.all_eq_true.mp (by decide +kernel : (u_ws RX0 TX0 3).all goodWord = true) w hw⟩
theorem hfs_X0 : ∀ j, j < 3 → defaultValue (tyX0 j) = vp_V ((List.range (nF 3)).map (fun k => if isR (100 * 3 + k) then Value.null else wi 0)) j := by decide +kernel
theorem hc_X1 : vwCl[4]? = some (RX1, TX1, 15) := rfl
theorem inU_X1 : ∀ w ∈ u_ws RX1 TX1 15, w ∈ uw := fun w hw => List.mem_filter.mpr ⟨(goodIn_r (big := lw_tbl) (u_ws RX1 TX1 15) [410, 412, 414, 416, 418, 420, 422, 424, 426, 428, 430, 432, 434, 436, 438] (by decide +kernel) (by decide +kernel) w hw).1, List.all_eq_true.mp (by decide +kernel : (u_ws RX1 TX1 15).all goodWord = true) w hw⟩
theorem hfs_X1 : ∀ j, j < 15 → defaultValue (tyX1 j) = vp_V ((List.range (nF 4)).map (fun k => if isR (100 * 4 + k) then Value.null else wi 0)) j := by decide +kernel
theorem hc_X2 : vwCl[5]? = some (RX2, TX2, 7) := rfl
theorem inU_X2 : ∀ w ∈ u_ws RX2 TX2 7, w ∈ uw := fun w hw => List.mem_filter.mpr ⟨(goodIn_r (big := lw_tbl) (u_ws RX2 TX2 7) [354, 356, 358, 360, 362, 364, 366] (by decide +kernel) (by decide +kernel) w hw).1, List.all_eq_true.mp (by decide +kernel : (u_ws RX2 TX2 7).all goodWord = true) w hw⟩
theorem hfs_X2 : ∀ j, j < 7 → defaultValue (tyX2 j) = vp_V ((List.range (nF 5)).map (fun k => if isR (100 * 5 + k) then Value.null else wi 0)) j := by decide +kernel
theorem hc_X3 : vwCl[6]? = some (RX3, TX3, 3) := rfl
theorem inU_X3 : ∀ w ∈ u_ws RX3 TX3 3, w ∈ uw := fun w hw => List.mem_filter.mpr ⟨(goodIn_r (big := lw_tbl) (u_ws RX3 TX3 3) [874, 876, 878] (by decide +kernel) (by decide +kernel) w hw).1, List.all_eq_true.mp (by decide +kernel : (u_ws RX3 TX3 3).all goodWord = true) w hw⟩
theorem hfs_X3 : ∀ j, j < 3 → defaultValue (tyX3 j) = vp_V ((List.range (nF 6)).map (fun k => if isR (100 * 6 + k) then Value.null else wi 0)) j := by decide +kernel
theorem hc_X4 : vwCl[7]? = some (RX4, TX4, 8) := rfl
theorem inU_X4 : ∀ w ∈ u_ws RX4 TX4 8, w ∈ uw := fun w hw => List.mem_filter.mpr ⟨(goodIn_r (big := lw_tbl) (u_ws RX4 TX4 8) [269, 271, 273, 275, 277, 279, 281, 283] (by decide +kernel) (by decide +kernel) w hw).1, List.all_eq_true.mp (by decide +kernel : (u_ws RX4 TX4 8).all goodWord = true) w hw⟩
theorem hfs_X4 : ∀ j, j < 8 → defaultValue (tyX4 j) = vp_V ((List.range (nF 7)).map (fun k => if isR (100 * 7 + k) then Value.null else wi 0)) j := by decide +kernel
theorem hc_X5 : vwCl[8]? = some (RX5, TX5, 3) := rfl
theorem inU_X5 : ∀ w ∈ u_ws RX5 TX5 3, w ∈ uw := fun w hw => List.mem_filter.mpr ⟨(goodIn_r (big := lw_tbl) (u_ws RX5 TX5 3) [229, 231, 233] (by decide +kernel) (by decide +kernel) w hw).1, List.all_eq_true.mp (by decide +kernel : (u_ws RX5 TX5 3).all goodWord = true) w hw⟩
theorem hfs_X5 : ∀ j, j < 3 → defaultValue (tyX5 j) = vp_V ((List.range (nF 8)).map (fun k => if isR (100 * 8 + k) then Value.null else wi 0)) j := by decide +kernel
theorem hc_X6 : vwCl[9]? = some (RX6, TX6, 4) := rfl
theorem inU_X6 : ∀ w ∈ u_ws RX6 TX6 4, w ∈ uw := fun w hw => List.mem_filter.mpr ⟨(goodIn_r (big := lw_tbl) (u_ws RX6 TX6 4) [383, 385, 387, 389] (by decide +kernel) (by decide +kernel) w hw).1, List.all_eq_true.mp (by decide +kernel : (u_ws RX6 TX6 4).all goodWord = true) w hw⟩
theorem hfs_X6 : ∀ j, j < 4 → defaultValue (tyX6 j) = vp_V ((List.range (nF 9)).map (fun k => if isR (100 * 9 + k) then Value.null else wi 0)) j := by decide +kernel
theorem hc_X7 : vwCl[10]? = some (RX7, TX7, 3) := rfl
theorem inU_X7 : ∀ w ∈ u_ws RX7 TX7 3, w ∈ uw := fun w hw => List.mem_filter.mpr ⟨(goodIn_r (big := lw_tbl) (u_ws RX7 TX7 3) [328, 330, 332] (by decide +kernel) (by decide +kernel) w hw).1, List.all_eq_true.mp (by decide +kernel : (u_ws RX7 TX7 3).all goodWord = true) w hw⟩
theorem hfs_X7 : ∀ j, j < 3 → defaultValue (tyX7 j) = vp_V ((List.range (nF 10)).map (fun k => if isR (100 * 10 + k) then Value.null else wi 0)) j := by decide +kernel
theorem hc_X8 : vwCl[11]? = some (RX8, TX8, 3) := rfl
theorem inU_X8 : ∀ w ∈ u_ws RX8 TX8 3, w ∈ uw := fun w hw => List.mem_filter.mpr ⟨(goodIn_r (big := lw_tbl) (u_ws RX8 TX8 3) [452, 454, 456] (by decide +kernel) (by decide +kernel) w hw).1, List.all_eq_true.mp (by decide +kernel : (u_ws RX8 TX8 3).all goodWord = true) w hw⟩
theorem hfs_X8 : ∀ j, j < 3 → defaultValue (tyX8 j) = vp_V ((List.range (nF 11)).map (fun k => if isR (100 * 11 + k) then Value.null else wi 0)) j := by decide +kernel
theorem hc_X9 : vwCl[12]? = some (RX9, TX9, 6) := rfl
theorem inU_X9 : ∀ w ∈ u_ws RX9 TX9 6, w ∈ uw := fun w hw => List.mem_filter.mpr ⟨(goodIn_r (big := lw_tbl) (u_ws RX9 TX9 6) [306, 308, 310, 312, 314, 316] (by decide +kernel) (by decide +kernel) w hw).1, List.all_eq_true.mp (by decide +kernel : (u_ws RX9 TX9 6).all goodWord = true) w hw⟩
theorem hfs_X9 : ∀ j, j < 6 → defaultValue (tyX9 j) = vp_V ((List.range (nF 12)).map (fun k => if isR (100 * 12 + k) then Value.null else wi 0)) j := by decide +kernel
theorem hc_X10 : vwCl[13]? = some (RX10, TX10, 3) := rfl
theorem inU_X10 : ∀ w ∈ u_ws RX10 TX10 3, w ∈ uw := fun w hw => List.mem_filter.mpr ⟨(goodIn_r (big := lw_tbl) (u_ws RX10 TX10 3) [764, 766, 768] (by decide +kernel) (by decide +kernel) w hw).1, List.all_eq_true.mp (by decide +kernel : (u_ws RX10 TX10 3).all goodWord = true) w hw⟩
theorem hfs_X10 : ∀ j, j < 3 → defaultValue (tyX10 j) = vp_V ((List.range (nF 13)).map (fun k => if isR (100 * 13 + k) then Value.null else wi 0)) j := by decide +kernel
theorem hc_X11 : vwCl[14]? = some (RX11, TX11, 10) := rfl
theorem inU_X11 : ∀ w ∈ u_ws RX11 TX11 10, w ∈ uw := fun w hw => List.mem_filter.mpr ⟨(goodIn_r (big := lw_tbl) (u_ws RX11 TX11 10) [469, 471, 473, 475, 477, 479, 481, 483, 485, 487] (by decide +kernel) (by decide +kernel) w hw).1, List.all_eq_true.mp (by decide +kernel : (u_ws RX11 TX11 10).all goodWord = true) w hw⟩
theorem hfs_X11 : ∀ j, j < 10 → defaultValue (tyX11 j) = vp_V ((List.range (nF 14)).map (fun k => if isR (100 * 14 + k) then Value.null else wi 0)) j := by decide +kernel
theorem hc_Jx4a65c : vwCl[2]? = some (RJx4a65c, TJx4a65c, 3) := rfl
theorem inU_Jx4a65c : ∀ w ∈ u_ws RJx4a65c TJx4a65c 3, w ∈ uw := fun w hw => List.mem_filter.mpr ⟨(goodIn_r (big := lw_tbl) (u_ws RJx4a65c TJx4a65c 3) [799, 795, 797] (by decide +kernel) (by decide +kernel) w hw).1, List.all_eq_true.mp (by decide +kernel : (u_ws RJx4a65c TJx4a65c 3).all goodWord = true) w hw⟩
theorem hfs_Jx4a65c : ∀ j, j < 3 → defaultValue (tyJx4a65c j) = vp_V ((List.range (nF 2)).map (fun k => if isR (100 * 2 + k) then Value.null else wi 0)) j := by decide +kernel
theorem ua_I : Cond.arrayClass (newarray.typeOf .int) ∈ uw := uw_mem 236 (by decide +kernel) rfl
theorem ua_Z : Cond.arrayClass (newarray.typeOf .boolean) ∈ uw := uw_mem 369 (by decide +kernel) rfl
theorem uc_X1_92 : Cond.constant RX1 92 (Int32.ofInt 1000000) ∈ uw := uw_mem 1398 (by decide +kernel) rfl
theorem uf_X0_13 : Cond.fieldLink RX0 13 RX0 (TX0 1).2.1 (TX0 1).2.2.1 ∈ uw := uw_mem 1307 (by decide +kernel) rfl
theorem uf_X0_17 : Cond.fieldLink RX0 17 RX0 (TX0 2).2.1 (TX0 2).2.2.1 ∈ uw := uw_mem 1310 (by decide +kernel) rfl
theorem uf_X0_7 : Cond.fieldLink RX0 7 RX0 (TX0 0).2.1 (TX0 0).2.2.1 ∈ uw := uw_mem 1304 (by decide +kernel) rfl
theorem uf_X1_107 : Cond.fieldLinkNest RX1 107 RX8 (TX8 2).2.1 (TX8 2).2.2.1 "Weaveword" ∈ ux := ux_mem 451 (by decide +kernel) rfl
theorem uf_X1_11 : Cond.fieldLink RX1 11 RX1 (TX1 0).2.1 (TX1 0).2.2.1 ∈ uw := uw_mem 392 (by decide +kernel) rfl
theorem uf_X1_116 : Cond.fieldLinkNest RX1 116 RX6 (TX6 0).2.1 (TX6 0).2.2.1 "Weaveword" ∈ ux := ux_mem 376 (by decide +kernel) rfl
theorem uf_X1_120 : Cond.fieldLinkNest RX1 120 RX6 (TX6 1).2.1 (TX6 1).2.2.1 "Weaveword" ∈ ux := ux_mem 378 (by decide +kernel) rfl
theorem uf_X1_121 : Cond.fieldLinkNest RX1 121 RX2 (TX2 4).2.1 (TX2 4).2.2.1 "Weaveword" ∈ ux := ux_mem 350 (by decide +kernel) rfl
theorem uf_X1_136 : Cond.fieldLinkNest RX1 136 RX4 (TX4 3).2.1 (TX4 3).2.2.1 "Weaveword" ∈ ux := ux_mem 255 (by decide +kernel) rfl
theorem uf_X1_139 : Cond.fieldLinkNest RX1 139 RX4 (TX4 4).2.1 (TX4 4).2.2.1 "Weaveword" ∈ ux := ux_mem 258 (by decide +kernel) rfl
theorem uf_X1_142 : Cond.fieldLinkNest RX1 142 RX2 (TX2 6).2.1 (TX2 6).2.2.1 "Weaveword" ∈ ux := ux_mem 353 (by decide +kernel) rfl
theorem uf_X1_171 : Cond.fieldLinkNest RX1 171 RX4 (TX4 5).2.1 (TX4 5).2.2.1 "Weaveword" ∈ ux := ux_mem 261 (by decide +kernel) rfl
theorem uf_X1_185 : Cond.fieldLinkNest RX1 185 RX9 (TX9 3).2.1 (TX9 3).2.2.1 "Weaveword" ∈ ux := ux_mem 301 (by decide +kernel) rfl
theorem uf_X1_19 : Cond.fieldLink RX1 19 RX1 (TX1 1).2.1 (TX1 1).2.2.1 ∈ uw := uw_mem 394 (by decide +kernel) rfl
theorem uf_X1_202 : Cond.fieldLinkNest RX1 202 RX2 (TX2 3).2.1 (TX2 3).2.2.1 "Weaveword" ∈ ux := ux_mem 348 (by decide +kernel) rfl
theorem uf_X1_213 : Cond.fieldLinkNest RX1 213 RX2 (TX2 1).2.1 (TX2 1).2.2.1 "Weaveword" ∈ ux := ux_mem 344 (by decide +kernel) rfl
theorem uf_X1_218 : Cond.fieldLinkNest RX1 218 RX2 (TX2 2).2.1 (TX2 2).2.2.1 "Weaveword" ∈ ux := ux_mem 346 (by decide +kernel) rfl
theorem uf_X1_25 : Cond.fieldLink RX1 25 RX1 (TX1 2).2.1 (TX1 2).2.2.1 ∈ uw := uw_mem 396 (by decide +kernel) rfl
theorem uf_X1_265 : Cond.fieldLinkNest RX1 265 RX5 (TX5 2).2.1 (TX5 2).2.2.1 "Weaveword" ∈ ux := ux_mem 228 (by decide +kernel) rfl
theorem uf_X1_268 : Cond.fieldLinkNest RX1 268 RX4 (TX4 6).2.1 (TX4 6).2.2.1 "Weaveword" ∈ ux := ux_mem 264 (by decide +kernel) rfl
theorem uf_X1_279 : Cond.fieldLinkNest RX1 279 RX4 (TX4 7).2.1 (TX4 7).2.2.1 "Weaveword" ∈ ux := ux_mem 267 (by decide +kernel) rfl
theorem uf_X1_31 : Cond.fieldLink RX1 31 RX1 (TX1 3).2.1 (TX1 3).2.2.1 ∈ uw := uw_mem 397 (by decide +kernel) rfl
theorem uf_X1_38 : Cond.fieldLink RX1 38 RX1 (TX1 4).2.1 (TX1 4).2.2.1 ∈ uw := uw_mem 398 (by decide +kernel) rfl
theorem uf_X1_42 : Cond.fieldLink RX1 42 RX1 (TX1 5).2.1 (TX1 5).2.2.1 ∈ uw := uw_mem 399 (by decide +kernel) rfl
theorem uf_X1_46 : Cond.fieldLink RX1 46 RX1 (TX1 6).2.1 (TX1 6).2.2.1 ∈ uw := uw_mem 400 (by decide +kernel) rfl
theorem uf_X1_52 : Cond.fieldLink RX1 52 RX1 (TX1 7).2.1 (TX1 7).2.2.1 ∈ uw := uw_mem 401 (by decide +kernel) rfl
theorem uf_X1_56 : Cond.fieldLink RX1 56 RX1 (TX1 8).2.1 (TX1 8).2.2.1 ∈ uw := uw_mem 403 (by decide +kernel) rfl
theorem uf_X1_60 : Cond.fieldLink RX1 60 RX1 (TX1 9).2.1 (TX1 9).2.2.1 ∈ uw := uw_mem 404 (by decide +kernel) rfl
theorem uf_X1_63 : Cond.fieldLink RX1 63 RX1 (TX1 10).2.1 (TX1 10).2.2.1 ∈ uw := uw_mem 405 (by decide +kernel) rfl
theorem uf_X1_66 : Cond.fieldLink RX1 66 RX1 (TX1 11).2.1 (TX1 11).2.2.1 ∈ uw := uw_mem 406 (by decide +kernel) rfl
theorem uf_X1_69 : Cond.fieldLink RX1 69 RX1 (TX1 12).2.1 (TX1 12).2.2.1 ∈ uw := uw_mem 407 (by decide +kernel) rfl
theorem uf_X1_72 : Cond.fieldLink RX1 72 RX1 (TX1 13).2.1 (TX1 13).2.2.1 ∈ uw := uw_mem 408 (by decide +kernel) rfl
theorem uf_X1_75 : Cond.fieldLink RX1 75 RX1 (TX1 14).2.1 (TX1 14).2.2.1 ∈ uw := uw_mem 409 (by decide +kernel) rfl
theorem uf_X1_85 : Cond.fieldLinkNest RX1 85 RX4 (TX4 0).2.1 (TX4 0).2.2.1 "Weaveword" ∈ ux := ux_mem 246 (by decide +kernel) rfl
theorem uf_X1_93 : Cond.fieldLinkNest RX1 93 RX6 (TX6 2).2.1 (TX6 2).2.2.1 "Weaveword" ∈ ux := ux_mem 380 (by decide +kernel) rfl
theorem uf_X1_96 : Cond.fieldLinkNest RX1 96 RX6 (TX6 3).2.1 (TX6 3).2.2.1 "Weaveword" ∈ ux := ux_mem 382 (by decide +kernel) rfl
theorem uf_X10_13 : Cond.fieldLink RX10 13 RX10 (TX10 1).2.1 (TX10 1).2.2.1 ∈ uw := uw_mem 759 (by decide +kernel) rfl
theorem uf_X10_16 : Cond.fieldLink RX10 16 RX10 (TX10 2).2.1 (TX10 2).2.2.1 ∈ uw := uw_mem 761 (by decide +kernel) rfl
theorem uf_X10_7 : Cond.fieldLink RX10 7 RX10 (TX10 0).2.1 (TX10 0).2.2.1 ∈ uw := uw_mem 756 (by decide +kernel) rfl
theorem uf_X11_10 : Cond.fieldLink RX11 10 RX11 (TX11 0).2.1 (TX11 0).2.2.1 ∈ uw := uw_mem 459 (by decide +kernel) rfl
theorem uf_X11_102 : Cond.fieldLinkNest RX11 102 RX9 (TX9 3).2.1 (TX9 3).2.2.1 "Weaveword" ∈ ux := ux_mem 300 (by decide +kernel) rfl
theorem uf_X11_130 : Cond.fieldLinkNest RX11 130 RX10 (TX10 2).2.1 (TX10 2).2.2.1 "Weaveword" ∈ ux := ux_mem 763 (by decide +kernel) rfl
theorem uf_X11_148 : Cond.fieldLinkNest RX11 148 RX3 (TX3 1).2.1 (TX3 1).2.2.1 "Weaveword" ∈ ux := ux_mem 871 (by decide +kernel) rfl
theorem uf_X11_16 : Cond.fieldLinkNest RX11 16 RX1 (TX1 0).2.1 (TX1 0).2.2.1 "Weaveword" ∈ ux := ux_mem 393 (by decide +kernel) rfl
theorem uf_X11_20 : Cond.fieldLink RX11 20 RX11 (TX11 1).2.1 (TX11 1).2.2.1 ∈ uw := uw_mem 460 (by decide +kernel) rfl
theorem uf_X11_21 : Cond.fieldLinkNest RX11 21 RX1 (TX1 1).2.1 (TX1 1).2.2.1 "Weaveword" ∈ ux := ux_mem 395 (by decide +kernel) rfl
theorem uf_X11_211 : Cond.fieldLinkNest RX11 211 RX3 (TX3 2).2.1 (TX3 2).2.2.1 "Weaveword" ∈ ux := ux_mem 873 (by decide +kernel) rfl
theorem uf_X11_220 : Cond.fieldLinkNest RX11 220 RX9 (TX9 1).2.1 (TX9 1).2.2.1 "Weaveword" ∈ ux := ux_mem 296 (by decide +kernel) rfl
theorem uf_X11_223 : Cond.fieldLinkNest RX11 223 RX9 (TX9 2).2.1 (TX9 2).2.2.1 "Weaveword" ∈ ux := ux_mem 298 (by decide +kernel) rfl
theorem uf_X11_226 : Cond.fieldLinkNest RX11 226 RX10 (TX10 0).2.1 (TX10 0).2.2.1 "Weaveword" ∈ ux := ux_mem 758 (by decide +kernel) rfl
theorem uf_X11_238 : Cond.fieldLinkNest RX11 238 RX7 (TX7 2).2.1 (TX7 2).2.2.1 "Weaveword" ∈ ux := ux_mem 327 (by decide +kernel) rfl
theorem uf_X11_248 : Cond.fieldLinkNest RX11 248 RX9 (TX9 5).2.1 (TX9 5).2.2.1 "Weaveword" ∈ ux := ux_mem 305 (by decide +kernel) rfl
theorem uf_X11_25 : Cond.fieldLink RX11 25 RX11 (TX11 2).2.1 (TX11 2).2.2.1 ∈ uw := uw_mem 461 (by decide +kernel) rfl
theorem uf_X11_260 : Cond.fieldLinkNest RX11 260 RX9 (TX9 0).2.1 (TX9 0).2.2.1 "Weaveword" ∈ ux := ux_mem 294 (by decide +kernel) rfl
theorem uf_X11_264 : Cond.fieldLinkNest RX11 264 RX4 (TX4 1).2.1 (TX4 1).2.2.1 "Weaveword" ∈ ux := ux_mem 250 (by decide +kernel) rfl
theorem uf_X11_270 : Cond.fieldLinkNest RX11 270 RX4 (TX4 2).2.1 (TX4 2).2.2.1 "Weaveword" ∈ ux := ux_mem 253 (by decide +kernel) rfl
theorem uf_X11_273 : Cond.fieldLinkNest RX11 273 RX4 (TX4 0).2.1 (TX4 0).2.2.1 "Weaveword" ∈ ux := ux_mem 247 (by decide +kernel) rfl
theorem uf_X11_277 : Cond.fieldLinkNest RX11 277 RX5 (TX5 1).2.1 (TX5 1).2.2.1 "Weaveword" ∈ ux := ux_mem 226 (by decide +kernel) rfl
theorem uf_X11_280 : Cond.fieldLinkNest RX11 280 RX3 (TX3 0).2.1 (TX3 0).2.2.1 "Weaveword" ∈ ux := ux_mem 869 (by decide +kernel) rfl
theorem uf_X11_308 : Cond.fieldLinkNest RX11 308 RX1 (TX1 7).2.1 (TX1 7).2.2.1 "Weaveword" ∈ ux := ux_mem 402 (by decide +kernel) rfl
theorem uf_X11_31 : Cond.fieldLink RX11 31 RX11 (TX11 3).2.1 (TX11 3).2.2.1 ∈ uw := uw_mem 462 (by decide +kernel) rfl
theorem uf_X11_311 : Cond.fieldLinkNest RX11 311 RX0 (TX0 1).2.1 (TX0 1).2.2.1 "Weaveword" ∈ ux := ux_mem 1309 (by decide +kernel) rfl
theorem uf_X11_312 : Cond.fieldLinkNest RX11 312 RX0 (TX0 0).2.1 (TX0 0).2.2.1 "Weaveword" ∈ ux := ux_mem 1306 (by decide +kernel) rfl
theorem uf_X11_315 : Cond.fieldLinkNest RX11 315 RX4 (TX4 3).2.1 (TX4 3).2.2.1 "Weaveword" ∈ ux := ux_mem 256 (by decide +kernel) rfl
theorem uf_X11_321 : Cond.fieldLinkNest RX11 321 RX4 (TX4 5).2.1 (TX4 5).2.2.1 "Weaveword" ∈ ux := ux_mem 262 (by decide +kernel) rfl
theorem uf_X11_35 : Cond.fieldLink RX11 35 RX11 (TX11 4).2.1 (TX11 4).2.2.1 ∈ uw := uw_mem 463 (by decide +kernel) rfl
theorem uf_X11_38 : Cond.fieldLink RX11 38 RX11 (TX11 5).2.1 (TX11 5).2.2.1 ∈ uw := uw_mem 464 (by decide +kernel) rfl
theorem uf_X11_382 : Cond.fieldLinkNest RX11 382 RX4 (TX4 4).2.1 (TX4 4).2.2.1 "Weaveword" ∈ ux := ux_mem 259 (by decide +kernel) rfl
theorem uf_X11_389 : Cond.fieldLinkNest RX11 389 RX4 (TX4 6).2.1 (TX4 6).2.2.1 "Weaveword" ∈ ux := ux_mem 265 (by decide +kernel) rfl
theorem uf_X11_392 : Cond.fieldLinkNest RX11 392 RX4 (TX4 7).2.1 (TX4 7).2.2.1 "Weaveword" ∈ ux := ux_mem 268 (by decide +kernel) rfl
theorem uf_X11_41 : Cond.fieldLink RX11 41 RX11 (TX11 6).2.1 (TX11 6).2.2.1 ∈ uw := uw_mem 465 (by decide +kernel) rfl
theorem uf_X11_45 : Cond.fieldLink RX11 45 RX11 (TX11 7).2.1 (TX11 7).2.2.1 ∈ uw := uw_mem 466 (by decide +kernel) rfl
theorem uf_X11_48 : Cond.fieldLink RX11 48 RX11 (TX11 8).2.1 (TX11 8).2.2.1 ∈ uw := uw_mem 467 (by decide +kernel) rfl
theorem uf_X11_51 : Cond.fieldLink RX11 51 RX11 (TX11 9).2.1 (TX11 9).2.2.1 ∈ uw := uw_mem 468 (by decide +kernel) rfl
theorem uf_X11_69 : Cond.fieldLinkNest RX11 69 RX8 (TX8 2).2.1 (TX8 2).2.2.1 "Weaveword" ∈ ux := ux_mem 450 (by decide +kernel) rfl
theorem uf_X11_97 : Cond.fieldLinkNest RX11 97 RX9 (TX9 4).2.1 (TX9 4).2.2.1 "Weaveword" ∈ ux := ux_mem 303 (by decide +kernel) rfl
theorem uf_X2_17 : Cond.fieldLink RX2 17 RX2 (TX2 1).2.1 (TX2 1).2.2.1 ∈ uw := uw_mem 343 (by decide +kernel) rfl
theorem uf_X2_21 : Cond.fieldLink RX2 21 RX2 (TX2 2).2.1 (TX2 2).2.2.1 ∈ uw := uw_mem 345 (by decide +kernel) rfl
theorem uf_X2_25 : Cond.fieldLink RX2 25 RX2 (TX2 3).2.1 (TX2 3).2.2.1 ∈ uw := uw_mem 347 (by decide +kernel) rfl
theorem uf_X2_29 : Cond.fieldLink RX2 29 RX2 (TX2 4).2.1 (TX2 4).2.2.1 ∈ uw := uw_mem 349 (by decide +kernel) rfl
theorem uf_X2_33 : Cond.fieldLink RX2 33 RX2 (TX2 5).2.1 (TX2 5).2.2.1 ∈ uw := uw_mem 351 (by decide +kernel) rfl
theorem uf_X2_37 : Cond.fieldLink RX2 37 RX2 (TX2 6).2.1 (TX2 6).2.2.1 ∈ uw := uw_mem 352 (by decide +kernel) rfl
theorem uf_X2_9 : Cond.fieldLink RX2 9 RX2 (TX2 0).2.1 (TX2 0).2.2.1 ∈ uw := uw_mem 342 (by decide +kernel) rfl
theorem uf_X3_12 : Cond.fieldLink RX3 12 RX3 (TX3 0).2.1 (TX3 0).2.2.1 ∈ uw := uw_mem 868 (by decide +kernel) rfl
theorem uf_X3_18 : Cond.fieldLink RX3 18 RX3 (TX3 2).2.1 (TX3 2).2.2.1 ∈ uw := uw_mem 872 (by decide +kernel) rfl
theorem uf_X3_22 : Cond.fieldLink RX3 22 RX3 (TX3 1).2.1 (TX3 1).2.2.1 ∈ uw := uw_mem 870 (by decide +kernel) rfl
theorem uf_X3_40 : Cond.fieldLinkNest RX3 40 RX10 (TX10 1).2.1 (TX10 1).2.2.1 "Weaveword" ∈ ux := ux_mem 760 (by decide +kernel) rfl
theorem uf_X3_47 : Cond.fieldLinkNest RX3 47 RX10 (TX10 0).2.1 (TX10 0).2.2.1 "Weaveword" ∈ ux := ux_mem 757 (by decide +kernel) rfl
theorem uf_X3_50 : Cond.fieldLinkNest RX3 50 RX10 (TX10 2).2.1 (TX10 2).2.2.1 "Weaveword" ∈ ux := ux_mem 762 (by decide +kernel) rfl
theorem uf_X3_54 : Cond.fieldLinkNest RX3 54 RX0 (TX0 0).2.1 (TX0 0).2.2.1 "Weaveword" ∈ ux := ux_mem 1305 (by decide +kernel) rfl
theorem uf_X3_57 : Cond.fieldLinkNest RX3 57 RX0 (TX0 1).2.1 (TX0 1).2.2.1 "Weaveword" ∈ ux := ux_mem 1308 (by decide +kernel) rfl
theorem uf_X3_58 : Cond.fieldLinkNest RX3 58 RX0 (TX0 2).2.1 (TX0 2).2.2.1 "Weaveword" ∈ ux := ux_mem 1311 (by decide +kernel) rfl
theorem uf_X4_10 : Cond.fieldLink RX4 10 RX4 (TX4 0).2.1 (TX4 0).2.2.1 ∈ uw := uw_mem 245 (by decide +kernel) rfl
theorem uf_X4_16 : Cond.fieldLink RX4 16 RX4 (TX4 1).2.1 (TX4 1).2.2.1 ∈ uw := uw_mem 248 (by decide +kernel) rfl
theorem uf_X4_20 : Cond.fieldLink RX4 20 RX4 (TX4 2).2.1 (TX4 2).2.2.1 ∈ uw := uw_mem 251 (by decide +kernel) rfl
theorem uf_X4_23 : Cond.fieldLink RX4 23 RX4 (TX4 3).2.1 (TX4 3).2.2.1 ∈ uw := uw_mem 254 (by decide +kernel) rfl
theorem uf_X4_27 : Cond.fieldLink RX4 27 RX4 (TX4 4).2.1 (TX4 4).2.2.1 ∈ uw := uw_mem 257 (by decide +kernel) rfl
theorem uf_X4_30 : Cond.fieldLink RX4 30 RX4 (TX4 5).2.1 (TX4 5).2.2.1 ∈ uw := uw_mem 260 (by decide +kernel) rfl
theorem uf_X4_33 : Cond.fieldLink RX4 33 RX4 (TX4 6).2.1 (TX4 6).2.2.1 ∈ uw := uw_mem 263 (by decide +kernel) rfl
theorem uf_X4_36 : Cond.fieldLink RX4 36 RX4 (TX4 7).2.1 (TX4 7).2.2.1 ∈ uw := uw_mem 266 (by decide +kernel) rfl
theorem uf_X5_15 : Cond.fieldLink RX5 15 RX5 (TX5 1).2.1 (TX5 1).2.2.1 ∈ uw := uw_mem 225 (by decide +kernel) rfl
theorem uf_X5_19 : Cond.fieldLink RX5 19 RX5 (TX5 2).2.1 (TX5 2).2.2.1 ∈ uw := uw_mem 227 (by decide +kernel) rfl
theorem uf_X5_9 : Cond.fieldLink RX5 9 RX5 (TX5 0).2.1 (TX5 0).2.2.1 ∈ uw := uw_mem 224 (by decide +kernel) rfl
theorem uf_X6_13 : Cond.fieldLink RX6 13 RX6 (TX6 1).2.1 (TX6 1).2.2.1 ∈ uw := uw_mem 377 (by decide +kernel) rfl
theorem uf_X6_17 : Cond.fieldLink RX6 17 RX6 (TX6 2).2.1 (TX6 2).2.2.1 ∈ uw := uw_mem 379 (by decide +kernel) rfl
theorem uf_X6_21 : Cond.fieldLink RX6 21 RX6 (TX6 3).2.1 (TX6 3).2.2.1 ∈ uw := uw_mem 381 (by decide +kernel) rfl
theorem uf_X6_7 : Cond.fieldLink RX6 7 RX6 (TX6 0).2.1 (TX6 0).2.2.1 ∈ uw := uw_mem 375 (by decide +kernel) rfl
theorem uf_X7_15 : Cond.fieldLink RX7 15 RX7 (TX7 1).2.1 (TX7 1).2.2.1 ∈ uw := uw_mem 325 (by decide +kernel) rfl
theorem uf_X7_18 : Cond.fieldLink RX7 18 RX7 (TX7 2).2.1 (TX7 2).2.2.1 ∈ uw := uw_mem 326 (by decide +kernel) rfl
theorem uf_X7_9 : Cond.fieldLink RX7 9 RX7 (TX7 0).2.1 (TX7 0).2.2.1 ∈ uw := uw_mem 324 (by decide +kernel) rfl
theorem uf_X8_15 : Cond.fieldLink RX8 15 RX8 (TX8 0).2.1 (TX8 0).2.2.1 ∈ uw := uw_mem 447 (by decide +kernel) rfl
theorem uf_X8_19 : Cond.fieldLink RX8 19 RX8 (TX8 1).2.1 (TX8 1).2.2.1 ∈ uw := uw_mem 448 (by decide +kernel) rfl
theorem uf_X8_9 : Cond.fieldLink RX8 9 RX8 (TX8 2).2.1 (TX8 2).2.2.1 ∈ uw := uw_mem 449 (by decide +kernel) rfl
theorem uf_X9_12 : Cond.fieldLink RX9 12 RX9 (TX9 0).2.1 (TX9 0).2.2.1 ∈ uw := uw_mem 293 (by decide +kernel) rfl
theorem uf_X9_18 : Cond.fieldLink RX9 18 RX9 (TX9 1).2.1 (TX9 1).2.2.1 ∈ uw := uw_mem 295 (by decide +kernel) rfl
theorem uf_X9_22 : Cond.fieldLink RX9 22 RX9 (TX9 2).2.1 (TX9 2).2.2.1 ∈ uw := uw_mem 297 (by decide +kernel) rfl
theorem uf_X9_25 : Cond.fieldLink RX9 25 RX9 (TX9 3).2.1 (TX9 3).2.2.1 ∈ uw := uw_mem 299 (by decide +kernel) rfl
theorem uf_X9_29 : Cond.fieldLink RX9 29 RX9 (TX9 4).2.1 (TX9 4).2.2.1 ∈ uw := uw_mem 302 (by decide +kernel) rfl
theorem uf_X9_33 : Cond.fieldLink RX9 33 RX9 (TX9 5).2.1 (TX9 5).2.2.1 ∈ uw := uw_mem 304 (by decide +kernel) rfl
theorem uf_X9_36 : Cond.fieldLinkNest RX9 36 RX4 (TX4 1).2.1 (TX4 1).2.2.1 "Weaveword" ∈ ux := ux_mem 249 (by decide +kernel) rfl
theorem uf_X9_40 : Cond.fieldLinkNest RX9 40 RX4 (TX4 2).2.1 (TX4 2).2.2.1 "Weaveword" ∈ ux := ux_mem 252 (by decide +kernel) rfl
theorem uk_X3_38 : Cond.classLink RX3 38 RX10 ∈ uw := uw_mem 919 (by decide +kernel) rfl
theorem um_X1_103 : Cond.methodLinkNest RX1 103 yX2_begin "Weaveword" ∈ ux := ux_mem 1390 (by decide +kernel) rfl
theorem um_X1_112 : Cond.methodLink RX1 112 yX1_openRun ∈ uw := uw_mem 1394 (by decide +kernel) rfl
theorem um_X1_125 : Cond.methodLinkNest RX1 125 yX8_valueAt "Weaveword" ∈ ux := ux_mem 551 (by decide +kernel) rfl
theorem um_X1_129 : Cond.methodLinkNest RX1 129 yX8_kindAt "Weaveword" ∈ ux := ux_mem 1403 (by decide +kernel) rfl
theorem um_X1_132 : Cond.methodLinkNest RX1 132 yX5_add "Weaveword" ∈ ux := ux_mem 1404 (by decide +kernel) rfl
theorem um_X1_145 : Cond.methodLinkNest RX1 145 yX8_endAt "Weaveword" ∈ ux := ux_mem 1408 (by decide +kernel) rfl
theorem um_X1_148 : Cond.methodLink RX1 148 yX1_giveArgument ∈ uw := uw_mem 1412 (by decide +kernel) rfl
theorem um_X1_152 : Cond.methodLink RX1 152 yX1_listParts ∈ uw := uw_mem 1438 (by decide +kernel) rfl
theorem um_X1_156 : Cond.methodLink RX1 156 yX1_giveFunction ∈ uw := uw_mem 1443 (by decide +kernel) rfl
theorem um_X1_159 : Cond.methodLink RX1 159 yX1_openPart ∈ uw := uw_mem 1424 (by decide +kernel) rfl
theorem um_X1_163 : Cond.methodLink RX1 163 yX1_giveCall ∈ uw := uw_mem 1521 (by decide +kernel) rfl
theorem um_X1_167 : Cond.methodLink RX1 167 yX1_goalOf ∈ uw := uw_mem 1525 (by decide +kernel) rfl
theorem um_X1_174 : Cond.methodLinkNest RX1 174 yX2_comesFrom "Weaveword" ∈ ux := ux_mem 1526 (by decide +kernel) rfl
theorem um_X1_178 : Cond.methodLink RX1 178 yX1_textAt ∈ uw := uw_mem 541 (by decide +kernel) rfl
theorem um_X1_182 : Cond.methodLinkNest RX1 182 yX2_takeArguments "Weaveword" ∈ ux := ux_mem 1530 (by decide +kernel) rfl
theorem um_X1_189 : Cond.methodLinkNest RX1 189 yX3_textUpTo "Weaveword" ∈ ux := ux_mem 545 (by decide +kernel) rfl
theorem um_X1_195 : Cond.methodLinkNest RX1 195 yX8_isRedirect "Weaveword" ∈ ux := ux_mem 550 (by decide +kernel) rfl
theorem um_X1_199 : Cond.methodLinkNest RX1 199 yX2_argumentAt "Weaveword" ∈ ux := ux_mem 1416 (by decide +kernel) rfl
theorem um_X1_205 : Cond.methodLinkNest RX1 205 yX2_rowAt "Weaveword" ∈ ux := ux_mem 1420 (by decide +kernel) rfl
theorem um_X1_209 : Cond.methodLinkNest RX1 209 yX5_addAll "Weaveword" ∈ ux := ux_mem 1429 (by decide +kernel) rfl
theorem um_X1_217 : Cond.methodLinkNest RX1 217 yX5_clear "Weaveword" ∈ ux := ux_mem 1428 (by decide +kernel) rfl
theorem um_X1_222 : Cond.methodLinkNest RX1 222 yX8_startsPart "Weaveword" ∈ ux := ux_mem 1442 (by decide +kernel) rfl
theorem um_X1_225 : Cond.methodLink RX1 225 yX1_giveSum ∈ uw := uw_mem 1447 (by decide +kernel) rfl
theorem um_X1_229 : Cond.methodLink RX1 229 yX1_partOf ∈ uw := uw_mem 1451 (by decide +kernel) rfl
theorem um_X1_233 : Cond.methodLinkNest RX1 233 yX5_hasOtherThanZero "Weaveword" ∈ ux := ux_mem 1455 (by decide +kernel) rfl
theorem um_X1_236 : Cond.methodLink RX1 236 yX1_givePart ∈ uw := uw_mem 1459 (by decide +kernel) rfl
theorem um_X1_239 : Cond.methodLinkNest RX1 239 yX5_sameAs "Weaveword" ∈ ux := ux_mem 1463 (by decide +kernel) rfl
theorem um_X1_243 : Cond.methodLinkNest RX1 243 yX5_number "Weaveword" ∈ ux := ux_mem 1467 (by decide +kernel) rfl
theorem um_X1_247 : Cond.methodLink RX1 247 yX1_giveExists ∈ uw := uw_mem 1471 (by decide +kernel) rfl
theorem um_X1_251 : Cond.methodLink RX1 251 yX1_countedMembers ∈ uw := uw_mem 1475 (by decide +kernel) rfl
theorem um_X1_254 : Cond.methodLink RX1 254 yJ6_bitCount_0f7a4 ∈ uw := uw_mem 1482 (by decide +kernel) rfl
theorem um_X1_259 : Cond.methodLink RX1 259 yX1_giveList ∈ uw := uw_mem 1488 (by decide +kernel) rfl
theorem um_X1_262 : Cond.methodLink RX1 262 yX1_giveModule ∈ uw := uw_mem 1493 (by decide +kernel) rfl
theorem um_X1_271 : Cond.methodLinkNest RX1 271 yX11_membersOf "Weaveword" ∈ ux := ux_mem 1479 (by decide +kernel) rfl
theorem um_X1_275 : Cond.methodLinkNest RX1 275 yX11_has "Weaveword" ∈ ux := ux_mem 1492 (by decide +kernel) rfl
theorem um_X1_282 : Cond.methodLink RX1 282 yX1_outOf ∈ uw := uw_mem 1497 (by decide +kernel) rfl
theorem um_X1_286 : Cond.methodLinkNest RX1 286 yX7_instructionAt "Weaveword" ∈ ux := ux_mem 1501 (by decide +kernel) rfl
theorem um_X1_289 : Cond.methodLinkNest RX1 289 yX7_valueAt "Weaveword" ∈ ux := ux_mem 1505 (by decide +kernel) rfl
theorem um_X1_290 : Cond.methodLink RX1 290 yX1_takenBy ∈ uw := uw_mem 1509 (by decide +kernel) rfl
theorem um_X1_293 : Cond.methodLink RX1 293 yX1_stackAt ∈ uw := uw_mem 1513 (by decide +kernel) rfl
theorem um_X1_296 : Cond.methodLink RX1 296 yX1_combined ∈ uw := uw_mem 1517 (by decide +kernel) rfl
theorem um_X1_37 : Cond.methodLinkNest RX1 37 yX5_init "Weaveword" ∈ ux := ux_mem 220 (by decide +kernel) rfl
theorem um_X1_51 : Cond.methodLinkNest RX1 51 yX4_init "Weaveword" ∈ ux := ux_mem 239 (by decide +kernel) rfl
theorem um_X1_78 : Cond.methodLinkNest RX1 78 yX9_init "Weaveword" ∈ ux := ux_mem 287 (by decide +kernel) rfl
theorem um_X1_79 : Cond.methodLinkNest RX1 79 yX7_init "Weaveword" ∈ ux := ux_mem 320 (by decide +kernel) rfl
theorem um_X1_80 : Cond.methodLinkNest RX1 80 yX2_init "Weaveword" ∈ ux := ux_mem 336 (by decide +kernel) rfl
theorem um_X1_81 : Cond.methodLinkNest RX1 81 yX6_init "Weaveword" ∈ ux := ux_mem 371 (by decide +kernel) rfl
theorem um_X1_82 : Cond.methodLinkNest RX1 82 yX4_clear "Weaveword" ∈ ux := ux_mem 1385 (by decide +kernel) rfl
theorem um_X1_88 : Cond.methodLink RX1 88 yX1_openFrame ∈ uw := uw_mem 1386 (by decide +kernel) rfl
theorem um_X1_99 : Cond.methodLink RX1 99 yX1_stepOn ∈ uw := uw_mem 1399 (by decide +kernel) rfl
theorem um_X11_106 : Cond.methodLinkNest RX11 106 yX8_isText "Weaveword" ∈ ux := ux_mem 707 (by decide +kernel) rfl
theorem um_X11_112 : Cond.methodLink RX11 112 yX11_makePage ∈ uw := uw_mem 719 (by decide +kernel) rfl
theorem um_X11_116 : Cond.methodLink RX11 116 yX11_pageOf ∈ uw := uw_mem 892 (by decide +kernel) rfl
theorem um_X11_120 : Cond.methodLinkNest RX11 120 yX3_indexOf "Weaveword" ∈ ux := ux_mem 897 (by decide +kernel) rfl
theorem um_X11_126 : Cond.methodLinkNest RX11 126 yX3_versionAtIndex "Weaveword" ∈ ux := ux_mem 920 (by decide +kernel) rfl
theorem um_X11_135 : Cond.methodLinkNest RX11 135 yX8_sections "Weaveword" ∈ ux := ux_mem 924 (by decide +kernel) rfl
theorem um_X11_144 : Cond.methodLink RX11 144 yX11_mean ∈ uw := uw_mem 929 (by decide +kernel) rfl
theorem um_X11_152 : Cond.methodLink RX11 152 yX11_merge ∈ uw := uw_mem 938 (by decide +kernel) rfl
theorem um_X11_156 : Cond.methodLinkNest RX11 156 yX8_sameAs "Weaveword" ∈ ux := ux_mem 951 (by decide +kernel) rfl
theorem um_X11_162 : Cond.methodLink RX11 162 yX11_addNextVersion ∈ uw := uw_mem 956 (by decide +kernel) rfl
theorem um_X11_174 : Cond.methodLink RX11 174 yX11_addVersion ∈ uw := uw_mem 960 (by decide +kernel) rfl
theorem um_X11_182 : Cond.methodLink RX11 182 yX11_bringOver ∈ uw := uw_mem 1240 (by decide +kernel) rfl
theorem um_X11_188 : Cond.methodLink RX11 188 yX11_pagesOfTree ∈ uw := uw_mem 1264 (by decide +kernel) rfl
theorem um_X11_191 : Cond.methodLink RX11 191 yX11_pagesLeadingInto ∈ uw := uw_mem 1268 (by decide +kernel) rfl
theorem um_X11_194 : Cond.methodLink RX11 194 yX11_mayActInTree ∈ uw := uw_mem 1282 (by decide +kernel) rfl
theorem um_X11_198 : Cond.methodLink RX11 198 yX11_has ∈ uw := uw_mem 522 (by decide +kernel) rfl
theorem um_X11_202 : Cond.methodLinkNest RX11 202 yX8_leadsInto_ "Weaveword" ∈ ux := ux_mem 1272 (by decide +kernel) rfl
theorem um_X11_205 : Cond.methodLinkNest RX11 205 yX8_writeLeadingOn "Weaveword" ∈ ux := ux_mem 1286 (by decide +kernel) rfl
theorem um_X11_215 : Cond.methodLinkNest RX11 215 yX0_init "Weaveword" ∈ ux := ux_mem 1300 (by decide +kernel) rfl
theorem um_X11_229 : Cond.methodLink RX11 229 yX11_moduleOf ∈ uw := uw_mem 1334 (by decide +kernel) rfl
theorem um_X11_243 : Cond.methodLinkNest RX11 243 yX7_add "Weaveword" ∈ ux := ux_mem 1343 (by decide +kernel) rfl
theorem um_X11_245 : Cond.methodLink RX11 245 yX11_noteModuleChange ∈ uw := uw_mem 1347 (by decide +kernel) rfl
theorem um_X11_253 : Cond.methodLink RX11 253 yX11_firstInQueue ∈ uw := uw_mem 1373 (by decide +kernel) rfl
theorem um_X11_256 : Cond.methodLink RX11 256 yX11_render ∈ uw := uw_mem 1377 (by decide +kernel) rfl
theorem um_X11_28 : Cond.methodLinkNest RX11 28 yX8_init "Weaveword" ∈ ux := ux_mem 443 (by decide +kernel) rfl
theorem um_X11_284 : Cond.methodLink RX11 284 yJx4a65c_size_8abf5 ∈ uw := uw_mem 1557 (by decide +kernel) rfl
theorem um_X11_288 : Cond.methodLink RX11 288 yX11_refuseBelowZero ∈ uw := uw_mem 1572 (by decide +kernel) rfl
theorem um_X11_291 : Cond.methodLinkNest RX11 291 yX8_codeAt "Weaveword" ∈ ux := ux_mem 1577 (by decide +kernel) rfl
theorem um_X11_294 : Cond.methodLinkNest RX11 294 yX1_goalOf "Weaveword" ∈ ux := ux_mem 537 (by decide +kernel) rfl
theorem um_X11_298 : Cond.methodLinkNest RX11 298 yX9_waits "Weaveword" ∈ ux := ux_mem 506 (by decide +kernel) rfl
theorem um_X11_301 : Cond.methodLinkNest RX11 301 yX5_at "Weaveword" ∈ ux := ux_mem 1599 (by decide +kernel) rfl
theorem um_X11_304 : Cond.methodLinkNest RX11 304 yX1_expand "Weaveword" ∈ ux := ux_mem 1381 (by decide +kernel) rfl
theorem um_X11_318 : Cond.methodLink RX11 318 yX11_linkingTo ∈ uw := uw_mem 518 (by decide +kernel) rfl
theorem um_X11_328 : Cond.methodLink RX11 328 yX11_membersOf ∈ uw := uw_mem 1630 (by decide +kernel) rfl
theorem um_X11_332 : Cond.methodLink RX11 332 yX11_wantedTitles ∈ uw := uw_mem 514 (by decide +kernel) rfl
theorem um_X11_335 : Cond.methodLink RX11 335 yX11_lonelyTitles ∈ uw := uw_mem 525 (by decide +kernel) rfl
theorem um_X11_338 : Cond.methodLink RX11 338 yX11_refuseOtherLanguages ∈ uw := uw_mem 1638 (by decide +kernel) rfl
theorem um_X11_349 : Cond.methodLinkNest RX11 349 yX8_addStretch "Weaveword" ∈ ux := ux_mem 933 (by decide +kernel) rfl
theorem um_X11_353 : Cond.methodLinkNest RX11 353 yX8_sectionStart "Weaveword" ∈ ux := ux_mem 934 (by decide +kernel) rfl
theorem um_X11_356 : Cond.methodLinkNest RX11 356 yX8_sameSection "Weaveword" ∈ ux := ux_mem 942 (by decide +kernel) rfl
theorem um_X11_360 : Cond.methodLinkNest RX11 360 yX8_addSection "Weaveword" ∈ ux := ux_mem 947 (by decide +kernel) rfl
theorem um_X11_363 : Cond.methodLinkNest RX11 363 yX8_settled "Weaveword" ∈ ux := ux_mem 729 (by decide +kernel) rfl
theorem um_X11_367 : Cond.methodLinkNest RX11 367 yX10_init "Weaveword" ∈ ux := ux_mem 752 (by decide +kernel) rfl
theorem um_X11_369 : Cond.methodLink RX11 369 yX11_makeVersion ∈ uw := uw_mem 723 (by decide +kernel) rfl
theorem um_X11_373 : Cond.methodLinkNest RX11 373 yX3_init "Weaveword" ∈ ux := ux_mem 772 (by decide +kernel) rfl
theorem um_X11_376 : Cond.methodLink RX11 376 yX11_noteTitleChange ∈ uw := uw_mem 881 (by decide +kernel) rfl
theorem um_X11_379 : Cond.methodLinkNest RX11 379 yX3_put "Weaveword" ∈ ux := ux_mem 964 (by decide +kernel) rfl
theorem um_X11_385 : Cond.methodLinkNest RX11 385 yX4_clear "Weaveword" ∈ ux := ux_mem 1244 (by decide +kernel) rfl
theorem um_X11_386 : Cond.methodLink RX11 386 yX11_noteMemberChange ∈ uw := uw_mem 1252 (by decide +kernel) rfl
theorem um_X11_395 : Cond.methodLinkNest RX11 395 yX4_take "Weaveword" ∈ ux := ux_mem 1538 (by decide +kernel) rfl
theorem um_X11_399 : Cond.methodLinkNest RX11 399 yX8_isRedirect "Weaveword" ∈ ux := ux_mem 529 (by decide +kernel) rfl
theorem um_X11_58 : Cond.methodLink RX11 58 yX11_isAmong ∈ uw := uw_mem 566 (by decide +kernel) rfl
theorem um_X11_77 : Cond.methodLinkNest RX11 77 yX8_add "Weaveword" ∈ ux := ux_mem 654 (by decide +kernel) rfl
theorem um_X11_80 : Cond.methodLinkNest RX11 80 yX8_clear "Weaveword" ∈ ux := ux_mem 494 (by decide +kernel) rfl
theorem um_X11_85 : Cond.methodLink RX11 85 yX11_titleOf ∈ uw := uw_mem 674 (by decide +kernel) rfl
theorem um_X11_9 : Cond.methodLinkNest RX11 9 yX1_init "Weaveword" ∈ ux := ux_mem 206 (by decide +kernel) rfl
theorem um_X11_91 : Cond.methodLink RX11 91 yX11_mayActAt ∈ uw := uw_mem 695 (by decide +kernel) rfl
theorem um_X2_40 : Cond.methodLinkNest RX2 40 yX8_startsPart "Weaveword" ∈ ux := ux_mem 1534 (by decide +kernel) rfl
theorem um_X2_46 : Cond.methodLinkNest RX2 46 yX8_valueAt "Weaveword" ∈ ux := ux_mem 1535 (by decide +kernel) rfl
theorem um_X2_50 : Cond.methodLinkNest RX2 50 yX8_kindAt "Weaveword" ∈ ux := ux_mem 1536 (by decide +kernel) rfl
theorem um_X2_53 : Cond.methodLinkNest RX2 53 yX8_endAt "Weaveword" ∈ ux := ux_mem 1537 (by decide +kernel) rfl
theorem um_X3_11 : Cond.methodLink RX3 11 yJx4a65c_init_da8c8 ∈ uw := uw_mem 778 (by decide +kernel) rfl
theorem um_X3_26 : Cond.methodLink RX3 26 yJx4a65c_add_9ea2d ∈ uw := uw_mem 802 (by decide +kernel) rfl
theorem um_X3_30 : Cond.methodLink RX3 30 yJx4a65c_size_8abf5 ∈ uw := uw_mem 901 (by decide +kernel) rfl
theorem um_X3_34 : Cond.methodLink RX3 34 yJx4a65c_get_915e3 ∈ uw := uw_mem 905 (by decide +kernel) rfl
theorem um_X3_44 : Cond.methodLink RX3 44 yJx4a65c_add_7a177 ∈ uw := uw_mem 968 (by decide +kernel) rfl
theorem um_X4_39 : Cond.methodLinkNest RX4 39 yX5_clear "Weaveword" ∈ ux := ux_mem 1248 (by decide +kernel) rfl
theorem um_X4_42 : Cond.methodLinkNest RX4 42 yX5_addAll "Weaveword" ∈ ux := ux_mem 1542 (by decide +kernel) rfl
theorem um_X4_9 : Cond.methodLinkNest RX4 9 yX5_init "Weaveword" ∈ ux := ux_mem 244 (by decide +kernel) rfl
theorem um_X5_22 : Cond.methodLink RX5 22 yX5_at ∈ uw := uw_mem 1433 (by decide +kernel) rfl
theorem um_X5_26 : Cond.methodLink RX5 26 yX5_add ∈ uw := uw_mem 1437 (by decide +kernel) rfl
theorem um_X8_22 : Cond.methodLink RX8 22 yX8_kindAt ∈ uw := uw_mem 533 (by decide +kernel) rfl
theorem um_X8_26 : Cond.methodLink RX8 26 yX8_codeAt ∈ uw := uw_mem 739 (by decide +kernel) rfl
theorem um_X8_29 : Cond.methodLink RX8 29 yX8_add ∈ uw := uw_mem 743 (by decide +kernel) rfl
theorem um_X8_33 : Cond.methodLink RX8 33 yX8_sectionStart ∈ uw := uw_mem 946 (by decide +kernel) rfl
theorem um_X8_36 : Cond.methodLink RX8 36 yX8_addStretch ∈ uw := uw_mem 735 (by decide +kernel) rfl
theorem um_X8_40 : Cond.methodLink RX8 40 yX8_opens ∈ uw := uw_mem 711 (by decide +kernel) rfl
theorem um_X8_44 : Cond.methodLink RX8 44 yX8_fits ∈ uw := uw_mem 714 (by decide +kernel) rfl
theorem um_X8_48 : Cond.methodLink RX8 48 yX8_init ∈ uw := uw_mem 734 (by decide +kernel) rfl
theorem um_X8_50 : Cond.methodLink RX8 50 yX8_findEnd ∈ uw := uw_mem 744 (by decide +kernel) rfl
theorem um_X8_53 : Cond.methodLink RX8 53 yX8_startsPart ∈ uw := uw_mem 748 (by decide +kernel) rfl
theorem um_X8_56 : Cond.methodLink RX8 56 yX8_valueAt ∈ uw := uw_mem 1280 (by decide +kernel) rfl
theorem um_X8_59 : Cond.methodLinkNest RX8 59 yX11_has "Weaveword" ∈ ux := ux_mem 1281 (by decide +kernel) rfl
theorem um_X8_63 : Cond.methodLink RX8 63 yX8_leadsInto ∈ uw := uw_mem 1276 (by decide +kernel) rfl
theorem um_X8_66 : Cond.methodLink RX8 66 yX8_clear ∈ uw := uw_mem 1290 (by decide +kernel) rfl
theorem um_X9_11 : Cond.methodLinkNest RX9 11 yX4_init "Weaveword" ∈ ux := ux_mem 292 (by decide +kernel) rfl
theorem un_X1_17 : Cond.classLink RX1 17 RX7 ∈ uw ∧ Cond.instantiable RX7 3 ∈ uw ∧ Cond.initialized RX7 ∈ uw := ⟨uw_mem 212 (by decide +kernel) rfl, uw_mem 319 (by decide +kernel) rfl, uw_mem 166 (by decide +kernel) rfl⟩
theorem un_X1_23 : Cond.classLink RX1 23 RX2 ∈ uw ∧ Cond.instantiable RX2 7 ∈ uw ∧ Cond.initialized RX2 ∈ uw := ⟨uw_mem 214 (by decide +kernel) rfl, uw_mem 335 (by decide +kernel) rfl, uw_mem 167 (by decide +kernel) rfl⟩
theorem un_X1_29 : Cond.classLink RX1 29 RX6 ∈ uw ∧ Cond.instantiable RX6 4 ∈ uw ∧ Cond.initialized RX6 ∈ uw := ⟨uw_mem 216 (by decide +kernel) rfl, uw_mem 370 (by decide +kernel) rfl, uw_mem 168 (by decide +kernel) rfl⟩
theorem un_X1_35 : Cond.classLink RX1 35 RX5 ∈ uw ∧ Cond.instantiable RX5 3 ∈ uw ∧ Cond.initialized RX5 ∈ uw := ⟨uw_mem 218 (by decide +kernel) rfl, uw_mem 219 (by decide +kernel) rfl, uw_mem 163 (by decide +kernel) rfl⟩
theorem un_X1_49 : Cond.classLink RX1 49 RX4 ∈ uw ∧ Cond.instantiable RX4 8 ∈ uw ∧ Cond.initialized RX4 ∈ uw := ⟨uw_mem 237 (by decide +kernel) rfl, uw_mem 238 (by decide +kernel) rfl, uw_mem 164 (by decide +kernel) rfl⟩
theorem un_X1_9 : Cond.classLink RX1 9 RX9 ∈ uw ∧ Cond.instantiable RX9 6 ∈ uw ∧ Cond.initialized RX9 ∈ uw := ⟨uw_mem 210 (by decide +kernel) rfl, uw_mem 286 (by decide +kernel) rfl, uw_mem 165 (by decide +kernel) rfl⟩
theorem un_X11_121 : Cond.classLink RX11 121 RX3 ∈ uw ∧ Cond.instantiable RX3 3 ∈ uw ∧ Cond.initialized RX3 ∈ uw := ⟨uw_mem 771 (by decide +kernel) rfl, uw_mem 548 (by decide +kernel) rfl, uw_mem 178 (by decide +kernel) rfl⟩
theorem un_X11_131 : Cond.classLink RX11 131 RX10 ∈ uw ∧ Cond.instantiable RX10 3 ∈ uw ∧ Cond.initialized RX10 ∈ uw := ⟨uw_mem 727 (by decide +kernel) rfl, uw_mem 728 (by decide +kernel) rfl, uw_mem 177 (by decide +kernel) rfl⟩
theorem un_X11_209 : Cond.classLink RX11 209 RX0 ∈ uw ∧ Cond.instantiable RX0 3 ∈ uw ∧ Cond.initialized RX0 ∈ uw := ⟨uw_mem 1298 (by decide +kernel) rfl, uw_mem 1299 (by decide +kernel) rfl, uw_mem 195 (by decide +kernel) rfl⟩
theorem un_X11_26 : Cond.classLink RX11 26 RX8 ∈ uw ∧ Cond.instantiable RX8 3 ∈ uw ∧ Cond.initialized RX8 ∈ uw := ⟨uw_mem 441 (by decide +kernel) rfl, uw_mem 442 (by decide +kernel) rfl, uw_mem 169 (by decide +kernel) rfl⟩
theorem un_X11_7 : Cond.classLink RX11 7 RX1 ∈ uw ∧ Cond.instantiable RX1 15 ∈ uw ∧ Cond.initialized RX1 ∈ uw := ⟨uw_mem 204 (by decide +kernel) rfl, uw_mem 205 (by decide +kernel) rfl, uw_mem 162 (by decide +kernel) rfl⟩
theorem un_X3_9 : Cond.classLink RX3 9 RJx4a65c ∈ uw ∧ Cond.instantiable RJx4a65c 3 ∈ uw ∧ Cond.initialized RJx4a65c ∈ uw := ⟨uw_mem 776 (by decide +kernel) rfl, uw_mem 777 (by decide +kernel) rfl, uw_mem 181 (by decide +kernel) rfl⟩
theorem un_X4_7 : Cond.classLink RX4 7 RX5 ∈ uw ∧ Cond.instantiable RX5 3 ∈ uw ∧ Cond.initialized RX5 ∈ uw := ⟨uw_mem 243 (by decide +kernel) rfl, uw_mem 219 (by decide +kernel) rfl, uw_mem 163 (by decide +kernel) rfl⟩
theorem un_X8_10 : Cond.classLink RX8 10 RX8 ∈ uw ∧ Cond.instantiable RX8 3 ∈ uw ∧ Cond.initialized RX8 ∈ uw := ⟨uw_mem 733 (by decide +kernel) rfl, uw_mem 442 (by decide +kernel) rfl, uw_mem 169 (by decide +kernel) rfl⟩
theorem un_X9_9 : Cond.classLink RX9 9 RX4 ∈ uw ∧ Cond.instantiable RX4 8 ∈ uw ∧ Cond.initialized RX4 ∈ uw := ⟨uw_mem 291 (by decide +kernel) rfl, uw_mem 238 (by decide +kernel) rfl, uw_mem 164 (by decide +kernel) rfl⟩
theorem uo_X0_1 : Cond.methodLink RX0 1 Lib.objectInit ∈ uw := uw_mem 1303 (by decide +kernel) rfl
theorem uo_X1_3 : Cond.methodLink RX1 3 Lib.objectInit ∈ uw := uw_mem 209 (by decide +kernel) rfl
theorem uo_X10_1 : Cond.methodLink RX10 1 Lib.objectInit ∈ uw := uw_mem 755 (by decide +kernel) rfl
theorem uo_X11_1 : Cond.methodLink RX11 1 Lib.objectInit ∈ uw := uw_mem 201 (by decide +kernel) rfl
theorem uo_X2_3 : Cond.methodLink RX2 3 Lib.objectInit ∈ uw := uw_mem 339 (by decide +kernel) rfl
theorem uo_X3_3 : Cond.methodLink RX3 3 Lib.objectInit ∈ uw := uw_mem 775 (by decide +kernel) rfl
theorem uo_X4_1 : Cond.methodLink RX4 1 Lib.objectInit ∈ uw := uw_mem 242 (by decide +kernel) rfl
theorem uo_X5_3 : Cond.methodLink RX5 3 Lib.objectInit ∈ uw := uw_mem 223 (by decide +kernel) rfl
theorem uo_X6_1 : Cond.methodLink RX6 1 Lib.objectInit ∈ uw := uw_mem 374 (by decide +kernel) rfl
theorem uo_X7_3 : Cond.methodLink RX7 3 Lib.objectInit ∈ uw := uw_mem 323 (by decide +kernel) rfl
theorem uo_X8_3 : Cond.methodLink RX8 3 Lib.objectInit ∈ uw := uw_mem 446 (by decide +kernel) rfl
theorem uo_X9_3 : Cond.methodLink RX9 3 Lib.objectInit ∈ uw := uw_mem 290 (by decide +kernel) rfl
theorem uq_X1_17 : Cond.classLink RX1 17 "Weaveword$SmallModule" ∈ uw ∧ Cond.arrayOver (.object "Weaveword$SmallModule") ∈ ux := ⟨uw_mem 212 (by decide +kernel) rfl, ux_mem 213 (by decide +kernel) rfl⟩
theorem uq_X1_23 : Cond.classLink RX1 23 "Weaveword$Frame" ∈ uw ∧ Cond.arrayOver (.object "Weaveword$Frame") ∈ ux := ⟨uw_mem 214 (by decide +kernel) rfl, ux_mem 215 (by decide +kernel) rfl⟩
theorem uq_X1_29 : Cond.classLink RX1 29 "Weaveword$Run" ∈ uw ∧ Cond.arrayOver (.object "Weaveword$Run") ∈ ux := ⟨uw_mem 216 (by decide +kernel) rfl, ux_mem 217 (by decide +kernel) rfl⟩
theorem uq_X1_9 : Cond.classLink RX1 9 "Weaveword$Title" ∈ uw ∧ Cond.arrayOver (.object "Weaveword$Title") ∈ ux := ⟨uw_mem 210 (by decide +kernel) rfl, ux_mem 211 (by decide +kernel) rfl⟩
theorem uq_X2_15 : Cond.classLink RX2 15 "Weaveword$Row" ∈ uw ∧ Cond.arrayOver (.object "Weaveword$Row") ∈ ux := ⟨uw_mem 340 (by decide +kernel) rfl, ux_mem 341 (by decide +kernel) rfl⟩
theorem us_X11_233 : Cond.fieldLink RX11 233 "Weaveword" "INSTRUCTION_VALUES" "[I" ∈ uw := uw_mem 1339 (by decide +kernel) rfl
theorem us_X11_54 : Cond.fieldLink RX11 54 "Weaveword" "TOKEN_VALUES" "[I" ∈ uw := uw_mem 564 (by decide +kernel) rfl
theorem uoi : Cond.instanceMethod Lib.objectInit ∈ uw := uw_mem 202 (by decide +kernel) rfl
theorem uoc : Cond.code Lib.objectInit ⟨#[0xb1]⟩ 1 none ∈ uw := uw_mem 203 (by decide +kernel) rfl
