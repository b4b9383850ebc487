/-! the class's words -/
theorem hc_X0 : vwCl[3]? = some (RX0, TX0, 3) := rfl
theorem inU_X0 : ∀ w ∈ u_ws RX0 TX0 3, w ∈ uw := fun w hw => List.mem_filter.mpr ⟨(goodIn_r (big := lw_tbl) (u_ws RX0 TX0 3) [1388, 1390, 1392] (by decide +kernel) (by decide +kernel) w hw).1, List.all_eq_true.mp (by decide +kernel : (u_ws RX0 TX0 3).all goodWord = true) w hw⟩
theorem hfs_X0 : ∀ j, j < 3 → defaultValue (tyX0 j) = vp_V ((List.range (nF 3)).map (fun k => if isR (100 * 3 + k) then Value.null else wi 0)) j := by decide +kernel
theorem hc_X1 : vwCl[4]? = some (RX1, TX1, 15) := rfl
theorem inU_X1 : ∀ w ∈ u_ws RX1 TX1 15, w ∈ uw := fun w hw => List.mem_filter.mpr ⟨(goodIn_r (big := lw_tbl) (u_ws RX1 TX1 15) [340, 342, 344, 346, 348, 350, 352, 354, 356, 358, 360, 362, 364, 366, 368] (by decide +kernel) (by decide +kernel) w hw).1, List.all_eq_true.mp (by decide +kernel : (u_ws RX1 TX1 15).all goodWord = true) w hw⟩
theorem hfs_X1 : ∀ j, j < 15 → defaultValue (tyX1 j) = vp_V ((List.range (nF 4)).map (fun k => if isR (100 * 4 + k) then Value.null else wi 0)) j := by decide +kernel
theorem hc_X2 : vwCl[5]? = some (RX2, TX2, 7) := rfl
theorem inU_X2 : ∀ w ∈ u_ws RX2 TX2 7, w ∈ uw := fun w hw => List.mem_filter.mpr ⟨(goodIn_r (big := lw_tbl) (u_ws RX2 TX2 7) [284, 286, 288, 290, 292, 294, 296] (by decide +kernel) (by decide +kernel) w hw).1, List.all_eq_true.mp (by decide +kernel : (u_ws RX2 TX2 7).all goodWord = true) w hw⟩
theorem hfs_X2 : ∀ j, j < 7 → defaultValue (tyX2 j) = vp_V ((List.range (nF 5)).map (fun k => if isR (100 * 5 + k) then Value.null else wi 0)) j := by decide +kernel
theorem hc_X3 : vwCl[6]? = some (RX3, TX3, 3) := rfl
theorem inU_X3 : ∀ w ∈ u_ws RX3 TX3 3, w ∈ uw := fun w hw => List.mem_filter.mpr ⟨(goodIn_r (big := lw_tbl) (u_ws RX3 TX3 3) [975, 977, 979] (by decide +kernel) (by decide +kernel) w hw).1, List.all_eq_true.mp (by decide +kernel : (u_ws RX3 TX3 3).all goodWord = true) w hw⟩
theorem hfs_X3 : ∀ j, j < 3 → defaultValue (tyX3 j) = vp_V ((List.range (nF 6)).map (fun k => if isR (100 * 6 + k) then Value.null else wi 0)) j := by decide +kernel
theorem hc_X4 : vwCl[7]? = some (RX4, TX4, 8) := rfl
theorem inU_X4 : ∀ w ∈ u_ws RX4 TX4 8, w ∈ uw := fun w hw => List.mem_filter.mpr ⟨(goodIn_r (big := lw_tbl) (u_ws RX4 TX4 8) [200, 202, 204, 206, 208, 210, 212, 214] (by decide +kernel) (by decide +kernel) w hw).1, List.all_eq_true.mp (by decide +kernel : (u_ws RX4 TX4 8).all goodWord = true) w hw⟩
theorem hfs_X4 : ∀ j, j < 8 → defaultValue (tyX4 j) = vp_V ((List.range (nF 7)).map (fun k => if isR (100 * 7 + k) then Value.null else wi 0)) j := by decide +kernel
theorem hc_X5 : vwCl[8]? = some (RX5, TX5, 3) := rfl
theorem inU_X5 : ∀ w ∈ u_ws RX5 TX5 3, w ∈ uw := fun w hw => List.mem_filter.mpr ⟨(goodIn_r (big := lw_tbl) (u_ws RX5 TX5 3) [161, 163, 165] (by decide +kernel) (by decide +kernel) w hw).1, List.all_eq_true.mp (by decide +kernel : (u_ws RX5 TX5 3).all goodWord = true) w hw⟩
theorem hfs_X5 : ∀ j, j < 3 → defaultValue (tyX5 j) = vp_V ((List.range (nF 8)).map (fun k => if isR (100 * 8 + k) then Value.null else wi 0)) j := by decide +kernel
theorem hc_X6 : vwCl[9]? = some (RX6, TX6, 4) := rfl
theorem inU_X6 : ∀ w ∈ u_ws RX6 TX6 4, w ∈ uw := fun w hw => List.mem_filter.mpr ⟨(goodIn_r (big := lw_tbl) (u_ws RX6 TX6 4) [313, 315, 317, 319] (by decide +kernel) (by decide +kernel) w hw).1, List.all_eq_true.mp (by decide +kernel : (u_ws RX6 TX6 4).all goodWord = true) w hw⟩
theorem hfs_X6 : ∀ j, j < 4 → defaultValue (tyX6 j) = vp_V ((List.range (nF 9)).map (fun k => if isR (100 * 9 + k) then Value.null else wi 0)) j := by decide +kernel
theorem hc_X7 : vwCl[10]? = some (RX7, TX7, 3) := rfl
theorem inU_X7 : ∀ w ∈ u_ws RX7 TX7 3, w ∈ uw := fun w hw => List.mem_filter.mpr ⟨(goodIn_r (big := lw_tbl) (u_ws RX7 TX7 3) [258, 260, 262] (by decide +kernel) (by decide +kernel) w hw).1, List.all_eq_true.mp (by decide +kernel : (u_ws RX7 TX7 3).all goodWord = true) w hw⟩
theorem hfs_X7 : ∀ j, j < 3 → defaultValue (tyX7 j) = vp_V ((List.range (nF 10)).map (fun k => if isR (100 * 10 + k) then Value.null else wi 0)) j := by decide +kernel
theorem hc_X8 : vwCl[11]? = some (RX8, TX8, 3) := rfl
theorem inU_X8 : ∀ w ∈ u_ws RX8 TX8 3, w ∈ uw := fun w hw => List.mem_filter.mpr ⟨(goodIn_r (big := lw_tbl) (u_ws RX8 TX8 3) [382, 384, 386] (by decide +kernel) (by decide +kernel) w hw).1, List.all_eq_true.mp (by decide +kernel : (u_ws RX8 TX8 3).all goodWord = true) w hw⟩
theorem hfs_X8 : ∀ j, j < 3 → defaultValue (tyX8 j) = vp_V ((List.range (nF 11)).map (fun k => if isR (100 * 11 + k) then Value.null else wi 0)) j := by decide +kernel
theorem hc_X9 : vwCl[12]? = some (RX9, TX9, 6) := rfl
theorem inU_X9 : ∀ w ∈ u_ws RX9 TX9 6, w ∈ uw := fun w hw => List.mem_filter.mpr ⟨(goodIn_r (big := lw_tbl) (u_ws RX9 TX9 6) [237, 239, 241, 243, 245, 247] (by decide +kernel) (by decide +kernel) w hw).1, List.all_eq_true.mp (by decide +kernel : (u_ws RX9 TX9 6).all goodWord = true) w hw⟩
theorem hfs_X9 : ∀ j, j < 6 → defaultValue (tyX9 j) = vp_V ((List.range (nF 12)).map (fun k => if isR (100 * 12 + k) then Value.null else wi 0)) j := by decide +kernel
theorem hc_X10 : vwCl[13]? = some (RX10, TX10, 3) := rfl
theorem inU_X10 : ∀ w ∈ u_ws RX10 TX10 3, w ∈ uw := fun w hw => List.mem_filter.mpr ⟨(goodIn_r (big := lw_tbl) (u_ws RX10 TX10 3) [866, 868, 870] (by decide +kernel) (by decide +kernel) w hw).1, List.all_eq_true.mp (by decide +kernel : (u_ws RX10 TX10 3).all goodWord = true) w hw⟩
theorem hfs_X10 : ∀ j, j < 3 → defaultValue (tyX10 j) = vp_V ((List.range (nF 13)).map (fun k => if isR (100 * 13 + k) then Value.null else wi 0)) j := by decide +kernel
theorem hc_X11 : vwCl[14]? = some (RX11, TX11, 10) := rfl
theorem inU_X11 : ∀ w ∈ u_ws RX11 TX11 10, w ∈ uw := fun w hw => List.mem_filter.mpr ⟨(goodIn_r (big := lw_tbl) (u_ws RX11 TX11 10) [399, 401, 403, 405, 407, 409, 411, 413, 415, 417] (by decide +kernel) (by decide +kernel) w hw).1, List.all_eq_true.mp (by decide +kernel : (u_ws RX11 TX11 10).all goodWord = true) w hw⟩
theorem hfs_X11 : ∀ j, j < 10 → defaultValue (tyX11 j) = vp_V ((List.range (nF 14)).map (fun k => if isR (100 * 14 + k) then Value.null else wi 0)) j := by decide +kernel
theorem hc_Jx4a65c : vwCl[2]? = some (RJx4a65c, TJx4a65c, 3) := rfl
theorem inU_Jx4a65c : ∀ w ∈ u_ws RJx4a65c TJx4a65c 3, w ∈ uw := fun w hw => List.mem_filter.mpr ⟨(goodIn_r (big := lw_tbl) (u_ws RJx4a65c TJx4a65c 3) [901, 897, 899] (by decide +kernel) (by decide +kernel) w hw).1, List.all_eq_true.mp (by decide +kernel : (u_ws RJx4a65c TJx4a65c 3).all goodWord = true) w hw⟩
theorem hfs_Jx4a65c : ∀ j, j < 3 → defaultValue (tyJx4a65c j) = vp_V ((List.range (nF 2)).map (fun k => if isR (100 * 2 + k) then Value.null else wi 0)) j := by decide +kernel
theorem ua_I : Cond.arrayClass (newarray.typeOf .int) ∈ uw := uw_mem 168 (by decide +kernel) rfl
theorem ua_Z : Cond.arrayClass (newarray.typeOf .boolean) ∈ uw := uw_mem 299 (by decide +kernel) rfl
theorem uc_X1_92 : Cond.constant RX1 92 (Int32.ofInt 1000000) ∈ uw := uw_mem 553 (by decide +kernel) rfl
theorem uf_X0_13 : Cond.fieldLink RX0 13 RX0 (TX0 1).2.1 (TX0 1).2.2.1 ∈ uw := uw_mem 1384 (by decide +kernel) rfl
theorem uf_X0_17 : Cond.fieldLink RX0 17 RX0 (TX0 2).2.1 (TX0 2).2.2.1 ∈ uw := uw_mem 1386 (by decide +kernel) rfl
theorem uf_X0_7 : Cond.fieldLink RX0 7 RX0 (TX0 0).2.1 (TX0 0).2.2.1 ∈ uw := uw_mem 1382 (by decide +kernel) rfl
theorem uf_X1_107 : Cond.fieldLinkNest RX1 107 RX8 (TX8 2).2.1 (TX8 2).2.2.1 "Weaveword" ∈ ux := ux_mem 381 (by decide +kernel) rfl
theorem uf_X1_11 : Cond.fieldLink RX1 11 RX1 (TX1 0).2.1 (TX1 0).2.2.1 ∈ uw := uw_mem 322 (by decide +kernel) rfl
theorem uf_X1_116 : Cond.fieldLinkNest RX1 116 RX6 (TX6 0).2.1 (TX6 0).2.2.1 "Weaveword" ∈ ux := ux_mem 306 (by decide +kernel) rfl
theorem uf_X1_120 : Cond.fieldLinkNest RX1 120 RX6 (TX6 1).2.1 (TX6 1).2.2.1 "Weaveword" ∈ ux := ux_mem 308 (by decide +kernel) rfl
theorem uf_X1_121 : Cond.fieldLinkNest RX1 121 RX2 (TX2 4).2.1 (TX2 4).2.2.1 "Weaveword" ∈ ux := ux_mem 280 (by decide +kernel) rfl
theorem uf_X1_136 : Cond.fieldLinkNest RX1 136 RX4 (TX4 3).2.1 (TX4 3).2.2.1 "Weaveword" ∈ ux := ux_mem 187 (by decide +kernel) rfl
theorem uf_X1_139 : Cond.fieldLinkNest RX1 139 RX4 (TX4 4).2.1 (TX4 4).2.2.1 "Weaveword" ∈ ux := ux_mem 190 (by decide +kernel) rfl
theorem uf_X1_142 : Cond.fieldLinkNest RX1 142 RX2 (TX2 6).2.1 (TX2 6).2.2.1 "Weaveword" ∈ ux := ux_mem 283 (by decide +kernel) rfl
theorem uf_X1_171 : Cond.fieldLinkNest RX1 171 RX4 (TX4 5).2.1 (TX4 5).2.2.1 "Weaveword" ∈ ux := ux_mem 193 (by decide +kernel) rfl
theorem uf_X1_185 : Cond.fieldLinkNest RX1 185 RX9 (TX9 3).2.1 (TX9 3).2.2.1 "Weaveword" ∈ ux := ux_mem 232 (by decide +kernel) rfl
theorem uf_X1_19 : Cond.fieldLink RX1 19 RX1 (TX1 1).2.1 (TX1 1).2.2.1 ∈ uw := uw_mem 324 (by decide +kernel) rfl
theorem uf_X1_202 : Cond.fieldLinkNest RX1 202 RX2 (TX2 3).2.1 (TX2 3).2.2.1 "Weaveword" ∈ ux := ux_mem 278 (by decide +kernel) rfl
theorem uf_X1_213 : Cond.fieldLinkNest RX1 213 RX2 (TX2 1).2.1 (TX2 1).2.2.1 "Weaveword" ∈ ux := ux_mem 274 (by decide +kernel) rfl
theorem uf_X1_218 : Cond.fieldLinkNest RX1 218 RX2 (TX2 2).2.1 (TX2 2).2.2.1 "Weaveword" ∈ ux := ux_mem 276 (by decide +kernel) rfl
theorem uf_X1_25 : Cond.fieldLink RX1 25 RX1 (TX1 2).2.1 (TX1 2).2.2.1 ∈ uw := uw_mem 326 (by decide +kernel) rfl
theorem uf_X1_265 : Cond.fieldLinkNest RX1 265 RX5 (TX5 2).2.1 (TX5 2).2.2.1 "Weaveword" ∈ ux := ux_mem 160 (by decide +kernel) rfl
theorem uf_X1_268 : Cond.fieldLinkNest RX1 268 RX4 (TX4 6).2.1 (TX4 6).2.2.1 "Weaveword" ∈ ux := ux_mem 196 (by decide +kernel) rfl
theorem uf_X1_279 : Cond.fieldLinkNest RX1 279 RX4 (TX4 7).2.1 (TX4 7).2.2.1 "Weaveword" ∈ ux := ux_mem 199 (by decide +kernel) rfl
theorem uf_X1_31 : Cond.fieldLink RX1 31 RX1 (TX1 3).2.1 (TX1 3).2.2.1 ∈ uw := uw_mem 327 (by decide +kernel) rfl
theorem uf_X1_38 : Cond.fieldLink RX1 38 RX1 (TX1 4).2.1 (TX1 4).2.2.1 ∈ uw := uw_mem 328 (by decide +kernel) rfl
theorem uf_X1_42 : Cond.fieldLink RX1 42 RX1 (TX1 5).2.1 (TX1 5).2.2.1 ∈ uw := uw_mem 329 (by decide +kernel) rfl
theorem uf_X1_46 : Cond.fieldLink RX1 46 RX1 (TX1 6).2.1 (TX1 6).2.2.1 ∈ uw := uw_mem 330 (by decide +kernel) rfl
theorem uf_X1_52 : Cond.fieldLink RX1 52 RX1 (TX1 7).2.1 (TX1 7).2.2.1 ∈ uw := uw_mem 331 (by decide +kernel) rfl
theorem uf_X1_56 : Cond.fieldLink RX1 56 RX1 (TX1 8).2.1 (TX1 8).2.2.1 ∈ uw := uw_mem 333 (by decide +kernel) rfl
theorem uf_X1_60 : Cond.fieldLink RX1 60 RX1 (TX1 9).2.1 (TX1 9).2.2.1 ∈ uw := uw_mem 334 (by decide +kernel) rfl
theorem uf_X1_63 : Cond.fieldLink RX1 63 RX1 (TX1 10).2.1 (TX1 10).2.2.1 ∈ uw := uw_mem 335 (by decide +kernel) rfl
theorem uf_X1_66 : Cond.fieldLink RX1 66 RX1 (TX1 11).2.1 (TX1 11).2.2.1 ∈ uw := uw_mem 336 (by decide +kernel) rfl
theorem uf_X1_69 : Cond.fieldLink RX1 69 RX1 (TX1 12).2.1 (TX1 12).2.2.1 ∈ uw := uw_mem 337 (by decide +kernel) rfl
theorem uf_X1_72 : Cond.fieldLink RX1 72 RX1 (TX1 13).2.1 (TX1 13).2.2.1 ∈ uw := uw_mem 338 (by decide +kernel) rfl
theorem uf_X1_75 : Cond.fieldLink RX1 75 RX1 (TX1 14).2.1 (TX1 14).2.2.1 ∈ uw := uw_mem 339 (by decide +kernel) rfl
theorem uf_X1_85 : Cond.fieldLinkNest RX1 85 RX4 (TX4 0).2.1 (TX4 0).2.2.1 "Weaveword" ∈ ux := ux_mem 178 (by decide +kernel) rfl
theorem uf_X1_93 : Cond.fieldLinkNest RX1 93 RX6 (TX6 2).2.1 (TX6 2).2.2.1 "Weaveword" ∈ ux := ux_mem 310 (by decide +kernel) rfl
theorem uf_X1_96 : Cond.fieldLinkNest RX1 96 RX6 (TX6 3).2.1 (TX6 3).2.2.1 "Weaveword" ∈ ux := ux_mem 312 (by decide +kernel) rfl
theorem uf_X10_13 : Cond.fieldLink RX10 13 RX10 (TX10 1).2.1 (TX10 1).2.2.1 ∈ uw := uw_mem 861 (by decide +kernel) rfl
theorem uf_X10_16 : Cond.fieldLink RX10 16 RX10 (TX10 2).2.1 (TX10 2).2.2.1 ∈ uw := uw_mem 863 (by decide +kernel) rfl
theorem uf_X10_7 : Cond.fieldLink RX10 7 RX10 (TX10 0).2.1 (TX10 0).2.2.1 ∈ uw := uw_mem 858 (by decide +kernel) rfl
theorem uf_X11_10 : Cond.fieldLink RX11 10 RX11 (TX11 0).2.1 (TX11 0).2.2.1 ∈ uw := uw_mem 389 (by decide +kernel) rfl
theorem uf_X11_102 : Cond.fieldLinkNest RX11 102 RX9 (TX9 3).2.1 (TX9 3).2.2.1 "Weaveword" ∈ ux := ux_mem 231 (by decide +kernel) rfl
theorem uf_X11_130 : Cond.fieldLinkNest RX11 130 RX10 (TX10 2).2.1 (TX10 2).2.2.1 "Weaveword" ∈ ux := ux_mem 865 (by decide +kernel) rfl
theorem uf_X11_148 : Cond.fieldLinkNest RX11 148 RX3 (TX3 1).2.1 (TX3 1).2.2.1 "Weaveword" ∈ ux := ux_mem 972 (by decide +kernel) rfl
theorem uf_X11_16 : Cond.fieldLinkNest RX11 16 RX1 (TX1 0).2.1 (TX1 0).2.2.1 "Weaveword" ∈ ux := ux_mem 323 (by decide +kernel) rfl
theorem uf_X11_20 : Cond.fieldLink RX11 20 RX11 (TX11 1).2.1 (TX11 1).2.2.1 ∈ uw := uw_mem 390 (by decide +kernel) rfl
theorem uf_X11_21 : Cond.fieldLinkNest RX11 21 RX1 (TX1 1).2.1 (TX1 1).2.2.1 "Weaveword" ∈ ux := ux_mem 325 (by decide +kernel) rfl
theorem uf_X11_211 : Cond.fieldLinkNest RX11 211 RX3 (TX3 2).2.1 (TX3 2).2.2.1 "Weaveword" ∈ ux := ux_mem 974 (by decide +kernel) rfl
theorem uf_X11_220 : Cond.fieldLinkNest RX11 220 RX9 (TX9 1).2.1 (TX9 1).2.2.1 "Weaveword" ∈ ux := ux_mem 227 (by decide +kernel) rfl
theorem uf_X11_223 : Cond.fieldLinkNest RX11 223 RX9 (TX9 2).2.1 (TX9 2).2.2.1 "Weaveword" ∈ ux := ux_mem 229 (by decide +kernel) rfl
theorem uf_X11_226 : Cond.fieldLinkNest RX11 226 RX10 (TX10 0).2.1 (TX10 0).2.2.1 "Weaveword" ∈ ux := ux_mem 860 (by decide +kernel) rfl
theorem uf_X11_248 : Cond.fieldLinkNest RX11 248 RX9 (TX9 5).2.1 (TX9 5).2.2.1 "Weaveword" ∈ ux := ux_mem 236 (by decide +kernel) rfl
theorem uf_X11_25 : Cond.fieldLink RX11 25 RX11 (TX11 2).2.1 (TX11 2).2.2.1 ∈ uw := uw_mem 391 (by decide +kernel) rfl
theorem uf_X11_260 : Cond.fieldLinkNest RX11 260 RX9 (TX9 0).2.1 (TX9 0).2.2.1 "Weaveword" ∈ ux := ux_mem 225 (by decide +kernel) rfl
theorem uf_X11_264 : Cond.fieldLinkNest RX11 264 RX4 (TX4 1).2.1 (TX4 1).2.2.1 "Weaveword" ∈ ux := ux_mem 182 (by decide +kernel) rfl
theorem uf_X11_270 : Cond.fieldLinkNest RX11 270 RX4 (TX4 2).2.1 (TX4 2).2.2.1 "Weaveword" ∈ ux := ux_mem 185 (by decide +kernel) rfl
theorem uf_X11_273 : Cond.fieldLinkNest RX11 273 RX4 (TX4 0).2.1 (TX4 0).2.2.1 "Weaveword" ∈ ux := ux_mem 179 (by decide +kernel) rfl
theorem uf_X11_277 : Cond.fieldLinkNest RX11 277 RX5 (TX5 1).2.1 (TX5 1).2.2.1 "Weaveword" ∈ ux := ux_mem 158 (by decide +kernel) rfl
theorem uf_X11_280 : Cond.fieldLinkNest RX11 280 RX3 (TX3 0).2.1 (TX3 0).2.2.1 "Weaveword" ∈ ux := ux_mem 970 (by decide +kernel) rfl
theorem uf_X11_308 : Cond.fieldLinkNest RX11 308 RX1 (TX1 7).2.1 (TX1 7).2.2.1 "Weaveword" ∈ ux := ux_mem 332 (by decide +kernel) rfl
theorem uf_X11_31 : Cond.fieldLink RX11 31 RX11 (TX11 3).2.1 (TX11 3).2.2.1 ∈ uw := uw_mem 392 (by decide +kernel) rfl
theorem uf_X11_315 : Cond.fieldLinkNest RX11 315 RX4 (TX4 3).2.1 (TX4 3).2.2.1 "Weaveword" ∈ ux := ux_mem 188 (by decide +kernel) rfl
theorem uf_X11_321 : Cond.fieldLinkNest RX11 321 RX4 (TX4 5).2.1 (TX4 5).2.2.1 "Weaveword" ∈ ux := ux_mem 194 (by decide +kernel) rfl
theorem uf_X11_35 : Cond.fieldLink RX11 35 RX11 (TX11 4).2.1 (TX11 4).2.2.1 ∈ uw := uw_mem 393 (by decide +kernel) rfl
theorem uf_X11_38 : Cond.fieldLink RX11 38 RX11 (TX11 5).2.1 (TX11 5).2.2.1 ∈ uw := uw_mem 394 (by decide +kernel) rfl
theorem uf_X11_382 : Cond.fieldLinkNest RX11 382 RX4 (TX4 4).2.1 (TX4 4).2.2.1 "Weaveword" ∈ ux := ux_mem 191 (by decide +kernel) rfl
theorem uf_X11_389 : Cond.fieldLinkNest RX11 389 RX4 (TX4 6).2.1 (TX4 6).2.2.1 "Weaveword" ∈ ux := ux_mem 197 (by decide +kernel) rfl
theorem uf_X11_41 : Cond.fieldLink RX11 41 RX11 (TX11 6).2.1 (TX11 6).2.2.1 ∈ uw := uw_mem 395 (by decide +kernel) rfl
theorem uf_X11_45 : Cond.fieldLink RX11 45 RX11 (TX11 7).2.1 (TX11 7).2.2.1 ∈ uw := uw_mem 396 (by decide +kernel) rfl
theorem uf_X11_48 : Cond.fieldLink RX11 48 RX11 (TX11 8).2.1 (TX11 8).2.2.1 ∈ uw := uw_mem 397 (by decide +kernel) rfl
theorem uf_X11_51 : Cond.fieldLink RX11 51 RX11 (TX11 9).2.1 (TX11 9).2.2.1 ∈ uw := uw_mem 398 (by decide +kernel) rfl
theorem uf_X11_69 : Cond.fieldLinkNest RX11 69 RX8 (TX8 2).2.1 (TX8 2).2.2.1 "Weaveword" ∈ ux := ux_mem 380 (by decide +kernel) rfl
theorem uf_X11_97 : Cond.fieldLinkNest RX11 97 RX9 (TX9 4).2.1 (TX9 4).2.2.1 "Weaveword" ∈ ux := ux_mem 234 (by decide +kernel) rfl
theorem uf_X2_17 : Cond.fieldLink RX2 17 RX2 (TX2 1).2.1 (TX2 1).2.2.1 ∈ uw := uw_mem 273 (by decide +kernel) rfl
theorem uf_X2_21 : Cond.fieldLink RX2 21 RX2 (TX2 2).2.1 (TX2 2).2.2.1 ∈ uw := uw_mem 275 (by decide +kernel) rfl
theorem uf_X2_25 : Cond.fieldLink RX2 25 RX2 (TX2 3).2.1 (TX2 3).2.2.1 ∈ uw := uw_mem 277 (by decide +kernel) rfl
theorem uf_X2_29 : Cond.fieldLink RX2 29 RX2 (TX2 4).2.1 (TX2 4).2.2.1 ∈ uw := uw_mem 279 (by decide +kernel) rfl
theorem uf_X2_33 : Cond.fieldLink RX2 33 RX2 (TX2 5).2.1 (TX2 5).2.2.1 ∈ uw := uw_mem 281 (by decide +kernel) rfl
theorem uf_X2_37 : Cond.fieldLink RX2 37 RX2 (TX2 6).2.1 (TX2 6).2.2.1 ∈ uw := uw_mem 282 (by decide +kernel) rfl
theorem uf_X2_9 : Cond.fieldLink RX2 9 RX2 (TX2 0).2.1 (TX2 0).2.2.1 ∈ uw := uw_mem 272 (by decide +kernel) rfl
theorem uf_X3_12 : Cond.fieldLink RX3 12 RX3 (TX3 0).2.1 (TX3 0).2.2.1 ∈ uw := uw_mem 969 (by decide +kernel) rfl
theorem uf_X3_18 : Cond.fieldLink RX3 18 RX3 (TX3 2).2.1 (TX3 2).2.2.1 ∈ uw := uw_mem 973 (by decide +kernel) rfl
theorem uf_X3_22 : Cond.fieldLink RX3 22 RX3 (TX3 1).2.1 (TX3 1).2.2.1 ∈ uw := uw_mem 971 (by decide +kernel) rfl
theorem uf_X3_40 : Cond.fieldLinkNest RX3 40 RX10 (TX10 1).2.1 (TX10 1).2.2.1 "Weaveword" ∈ ux := ux_mem 862 (by decide +kernel) rfl
theorem uf_X3_47 : Cond.fieldLinkNest RX3 47 RX10 (TX10 0).2.1 (TX10 0).2.2.1 "Weaveword" ∈ ux := ux_mem 859 (by decide +kernel) rfl
theorem uf_X3_50 : Cond.fieldLinkNest RX3 50 RX10 (TX10 2).2.1 (TX10 2).2.2.1 "Weaveword" ∈ ux := ux_mem 864 (by decide +kernel) rfl
theorem uf_X3_54 : Cond.fieldLinkNest RX3 54 RX0 (TX0 0).2.1 (TX0 0).2.2.1 "Weaveword" ∈ ux := ux_mem 1383 (by decide +kernel) rfl
theorem uf_X3_57 : Cond.fieldLinkNest RX3 57 RX0 (TX0 1).2.1 (TX0 1).2.2.1 "Weaveword" ∈ ux := ux_mem 1385 (by decide +kernel) rfl
theorem uf_X3_58 : Cond.fieldLinkNest RX3 58 RX0 (TX0 2).2.1 (TX0 2).2.2.1 "Weaveword" ∈ ux := ux_mem 1387 (by decide +kernel) rfl
theorem uf_X4_10 : Cond.fieldLink RX4 10 RX4 (TX4 0).2.1 (TX4 0).2.2.1 ∈ uw := uw_mem 177 (by decide +kernel) rfl
theorem uf_X4_16 : Cond.fieldLink RX4 16 RX4 (TX4 1).2.1 (TX4 1).2.2.1 ∈ uw := uw_mem 180 (by decide +kernel) rfl
theorem uf_X4_20 : Cond.fieldLink RX4 20 RX4 (TX4 2).2.1 (TX4 2).2.2.1 ∈ uw := uw_mem 183 (by decide +kernel) rfl
theorem uf_X4_23 : Cond.fieldLink RX4 23 RX4 (TX4 3).2.1 (TX4 3).2.2.1 ∈ uw := uw_mem 186 (by decide +kernel) rfl
theorem uf_X4_27 : Cond.fieldLink RX4 27 RX4 (TX4 4).2.1 (TX4 4).2.2.1 ∈ uw := uw_mem 189 (by decide +kernel) rfl
theorem uf_X4_30 : Cond.fieldLink RX4 30 RX4 (TX4 5).2.1 (TX4 5).2.2.1 ∈ uw := uw_mem 192 (by decide +kernel) rfl
theorem uf_X4_33 : Cond.fieldLink RX4 33 RX4 (TX4 6).2.1 (TX4 6).2.2.1 ∈ uw := uw_mem 195 (by decide +kernel) rfl
theorem uf_X4_36 : Cond.fieldLink RX4 36 RX4 (TX4 7).2.1 (TX4 7).2.2.1 ∈ uw := uw_mem 198 (by decide +kernel) rfl
theorem uf_X5_15 : Cond.fieldLink RX5 15 RX5 (TX5 1).2.1 (TX5 1).2.2.1 ∈ uw := uw_mem 157 (by decide +kernel) rfl
theorem uf_X5_19 : Cond.fieldLink RX5 19 RX5 (TX5 2).2.1 (TX5 2).2.2.1 ∈ uw := uw_mem 159 (by decide +kernel) rfl
theorem uf_X5_9 : Cond.fieldLink RX5 9 RX5 (TX5 0).2.1 (TX5 0).2.2.1 ∈ uw := uw_mem 156 (by decide +kernel) rfl
theorem uf_X6_13 : Cond.fieldLink RX6 13 RX6 (TX6 1).2.1 (TX6 1).2.2.1 ∈ uw := uw_mem 307 (by decide +kernel) rfl
theorem uf_X6_17 : Cond.fieldLink RX6 17 RX6 (TX6 2).2.1 (TX6 2).2.2.1 ∈ uw := uw_mem 309 (by decide +kernel) rfl
theorem uf_X6_21 : Cond.fieldLink RX6 21 RX6 (TX6 3).2.1 (TX6 3).2.2.1 ∈ uw := uw_mem 311 (by decide +kernel) rfl
theorem uf_X6_7 : Cond.fieldLink RX6 7 RX6 (TX6 0).2.1 (TX6 0).2.2.1 ∈ uw := uw_mem 305 (by decide +kernel) rfl
theorem uf_X7_15 : Cond.fieldLink RX7 15 RX7 (TX7 1).2.1 (TX7 1).2.2.1 ∈ uw := uw_mem 256 (by decide +kernel) rfl
theorem uf_X7_18 : Cond.fieldLink RX7 18 RX7 (TX7 2).2.1 (TX7 2).2.2.1 ∈ uw := uw_mem 257 (by decide +kernel) rfl
theorem uf_X7_9 : Cond.fieldLink RX7 9 RX7 (TX7 0).2.1 (TX7 0).2.2.1 ∈ uw := uw_mem 255 (by decide +kernel) rfl
theorem uf_X8_15 : Cond.fieldLink RX8 15 RX8 (TX8 0).2.1 (TX8 0).2.2.1 ∈ uw := uw_mem 377 (by decide +kernel) rfl
theorem uf_X8_19 : Cond.fieldLink RX8 19 RX8 (TX8 1).2.1 (TX8 1).2.2.1 ∈ uw := uw_mem 378 (by decide +kernel) rfl
theorem uf_X8_9 : Cond.fieldLink RX8 9 RX8 (TX8 2).2.1 (TX8 2).2.2.1 ∈ uw := uw_mem 379 (by decide +kernel) rfl
theorem uf_X9_12 : Cond.fieldLink RX9 12 RX9 (TX9 0).2.1 (TX9 0).2.2.1 ∈ uw := uw_mem 224 (by decide +kernel) rfl
theorem uf_X9_18 : Cond.fieldLink RX9 18 RX9 (TX9 1).2.1 (TX9 1).2.2.1 ∈ uw := uw_mem 226 (by decide +kernel) rfl
theorem uf_X9_22 : Cond.fieldLink RX9 22 RX9 (TX9 2).2.1 (TX9 2).2.2.1 ∈ uw := uw_mem 228 (by decide +kernel) rfl
theorem uf_X9_25 : Cond.fieldLink RX9 25 RX9 (TX9 3).2.1 (TX9 3).2.2.1 ∈ uw := uw_mem 230 (by decide +kernel) rfl
theorem uf_X9_29 : Cond.fieldLink RX9 29 RX9 (TX9 4).2.1 (TX9 4).2.2.1 ∈ uw := uw_mem 233 (by decide +kernel) rfl
theorem uf_X9_33 : Cond.fieldLink RX9 33 RX9 (TX9 5).2.1 (TX9 5).2.2.1 ∈ uw := uw_mem 235 (by decide +kernel) rfl
theorem uf_X9_36 : Cond.fieldLinkNest RX9 36 RX4 (TX4 1).2.1 (TX4 1).2.2.1 "Weaveword" ∈ ux := ux_mem 181 (by decide +kernel) rfl
theorem uf_X9_40 : Cond.fieldLinkNest RX9 40 RX4 (TX4 2).2.1 (TX4 2).2.2.1 "Weaveword" ∈ ux := ux_mem 184 (by decide +kernel) rfl
theorem uk_X3_38 : Cond.classLink RX3 38 RX10 ∈ uw := uw_mem 1021 (by decide +kernel) rfl
theorem um_X1_103 : Cond.methodLinkNest RX1 103 yX2_begin "Weaveword" ∈ ux := ux_mem 545 (by decide +kernel) rfl
theorem um_X1_112 : Cond.methodLink RX1 112 yX1_openRun ∈ uw := uw_mem 549 (by decide +kernel) rfl
theorem um_X1_125 : Cond.methodLinkNest RX1 125 yX8_valueAt "Weaveword" ∈ ux := ux_mem 558 (by decide +kernel) rfl
theorem um_X1_129 : Cond.methodLinkNest RX1 129 yX8_kindAt "Weaveword" ∈ ux := ux_mem 562 (by decide +kernel) rfl
theorem um_X1_132 : Cond.methodLinkNest RX1 132 yX5_add "Weaveword" ∈ ux := ux_mem 566 (by decide +kernel) rfl
theorem um_X1_145 : Cond.methodLinkNest RX1 145 yX8_endAt "Weaveword" ∈ ux := ux_mem 570 (by decide +kernel) rfl
theorem um_X1_148 : Cond.methodLink RX1 148 yX1_giveArgument ∈ uw := uw_mem 574 (by decide +kernel) rfl
theorem um_X1_152 : Cond.methodLink RX1 152 yX1_listParts ∈ uw := uw_mem 600 (by decide +kernel) rfl
theorem um_X1_156 : Cond.methodLink RX1 156 yX1_giveFunction ∈ uw := uw_mem 609 (by decide +kernel) rfl
theorem um_X1_159 : Cond.methodLink RX1 159 yX1_openPart ∈ uw := uw_mem 586 (by decide +kernel) rfl
theorem um_X1_163 : Cond.methodLink RX1 163 yX1_giveCall ∈ uw := uw_mem 699 (by decide +kernel) rfl
theorem um_X1_167 : Cond.methodLink RX1 167 yX1_goalOf ∈ uw := uw_mem 703 (by decide +kernel) rfl
theorem um_X1_174 : Cond.methodLinkNest RX1 174 yX2_comesFrom "Weaveword" ∈ ux := ux_mem 711 (by decide +kernel) rfl
theorem um_X1_178 : Cond.methodLink RX1 178 yX1_textAt ∈ uw := uw_mem 641 (by decide +kernel) rfl
theorem um_X1_182 : Cond.methodLinkNest RX1 182 yX2_takeArguments "Weaveword" ∈ ux := ux_mem 715 (by decide +kernel) rfl
theorem um_X1_189 : Cond.methodLinkNest RX1 189 yX3_textUpTo "Weaveword" ∈ ux := ux_mem 645 (by decide +kernel) rfl
theorem um_X1_195 : Cond.methodLinkNest RX1 195 yX8_isRedirect "Weaveword" ∈ ux := ux_mem 707 (by decide +kernel) rfl
theorem um_X1_199 : Cond.methodLinkNest RX1 199 yX2_argumentAt "Weaveword" ∈ ux := ux_mem 578 (by decide +kernel) rfl
theorem um_X1_205 : Cond.methodLinkNest RX1 205 yX2_rowAt "Weaveword" ∈ ux := ux_mem 582 (by decide +kernel) rfl
theorem um_X1_209 : Cond.methodLinkNest RX1 209 yX5_addAll "Weaveword" ∈ ux := ux_mem 591 (by decide +kernel) rfl
theorem um_X1_217 : Cond.methodLinkNest RX1 217 yX5_clear "Weaveword" ∈ ux := ux_mem 590 (by decide +kernel) rfl
theorem um_X1_222 : Cond.methodLinkNest RX1 222 yX8_startsPart "Weaveword" ∈ ux := ux_mem 604 (by decide +kernel) rfl
theorem um_X1_225 : Cond.methodLink RX1 225 yX1_giveSum ∈ uw := uw_mem 613 (by decide +kernel) rfl
theorem um_X1_229 : Cond.methodLink RX1 229 yX1_partOf ∈ uw := uw_mem 617 (by decide +kernel) rfl
theorem um_X1_233 : Cond.methodLinkNest RX1 233 yX5_hasOtherThanZero "Weaveword" ∈ ux := ux_mem 621 (by decide +kernel) rfl
theorem um_X1_236 : Cond.methodLink RX1 236 yX1_givePart ∈ uw := uw_mem 625 (by decide +kernel) rfl
theorem um_X1_239 : Cond.methodLinkNest RX1 239 yX5_sameAs "Weaveword" ∈ ux := ux_mem 629 (by decide +kernel) rfl
theorem um_X1_243 : Cond.methodLinkNest RX1 243 yX5_number "Weaveword" ∈ ux := ux_mem 633 (by decide +kernel) rfl
theorem um_X1_247 : Cond.methodLink RX1 247 yX1_giveExists ∈ uw := uw_mem 637 (by decide +kernel) rfl
theorem um_X1_251 : Cond.methodLink RX1 251 yX1_countedMembers ∈ uw := uw_mem 650 (by decide +kernel) rfl
theorem um_X1_254 : Cond.methodLink RX1 254 yJ6_bitCount_0f7a4 ∈ uw := uw_mem 660 (by decide +kernel) rfl
theorem um_X1_259 : Cond.methodLink RX1 259 yX1_giveList ∈ uw := uw_mem 666 (by decide +kernel) rfl
theorem um_X1_262 : Cond.methodLink RX1 262 yX1_giveModule ∈ uw := uw_mem 671 (by decide +kernel) rfl
theorem um_X1_271 : Cond.methodLinkNest RX1 271 yX11_membersOf "Weaveword" ∈ ux := ux_mem 654 (by decide +kernel) rfl
theorem um_X1_275 : Cond.methodLinkNest RX1 275 yX11_has "Weaveword" ∈ ux := ux_mem 670 (by decide +kernel) rfl
theorem um_X1_282 : Cond.methodLink RX1 282 yX1_outOf ∈ uw := uw_mem 675 (by decide +kernel) rfl
theorem um_X1_286 : Cond.methodLinkNest RX1 286 yX7_instructionAt "Weaveword" ∈ ux := ux_mem 679 (by decide +kernel) rfl
theorem um_X1_289 : Cond.methodLinkNest RX1 289 yX7_valueAt "Weaveword" ∈ ux := ux_mem 683 (by decide +kernel) rfl
theorem um_X1_290 : Cond.methodLink RX1 290 yX1_takenBy ∈ uw := uw_mem 687 (by decide +kernel) rfl
theorem um_X1_293 : Cond.methodLink RX1 293 yX1_stackAt ∈ uw := uw_mem 691 (by decide +kernel) rfl
theorem um_X1_296 : Cond.methodLink RX1 296 yX1_combined ∈ uw := uw_mem 695 (by decide +kernel) rfl
theorem um_X1_37 : Cond.methodLinkNest RX1 37 yX5_init "Weaveword" ∈ ux := ux_mem 152 (by decide +kernel) rfl
theorem um_X1_51 : Cond.methodLinkNest RX1 51 yX4_init "Weaveword" ∈ ux := ux_mem 171 (by decide +kernel) rfl
theorem um_X1_78 : Cond.methodLinkNest RX1 78 yX9_init "Weaveword" ∈ ux := ux_mem 218 (by decide +kernel) rfl
theorem um_X1_79 : Cond.methodLinkNest RX1 79 yX7_init "Weaveword" ∈ ux := ux_mem 251 (by decide +kernel) rfl
theorem um_X1_80 : Cond.methodLinkNest RX1 80 yX2_init "Weaveword" ∈ ux := ux_mem 266 (by decide +kernel) rfl
theorem um_X1_81 : Cond.methodLinkNest RX1 81 yX6_init "Weaveword" ∈ ux := ux_mem 301 (by decide +kernel) rfl
theorem um_X1_82 : Cond.methodLinkNest RX1 82 yX4_clear "Weaveword" ∈ ux := ux_mem 533 (by decide +kernel) rfl
theorem um_X1_88 : Cond.methodLink RX1 88 yX1_openFrame ∈ uw := uw_mem 541 (by decide +kernel) rfl
theorem um_X1_99 : Cond.methodLink RX1 99 yX1_stepOn ∈ uw := uw_mem 554 (by decide +kernel) rfl
theorem um_X11_106 : Cond.methodLinkNest RX11 106 yX8_isText "Weaveword" ∈ ux := ux_mem 794 (by decide +kernel) rfl
theorem um_X11_112 : Cond.methodLink RX11 112 yX11_makePage ∈ uw := uw_mem 821 (by decide +kernel) rfl
theorem um_X11_116 : Cond.methodLink RX11 116 yX11_pageOf ∈ uw := uw_mem 994 (by decide +kernel) rfl
theorem um_X11_120 : Cond.methodLinkNest RX11 120 yX3_indexOf "Weaveword" ∈ ux := ux_mem 999 (by decide +kernel) rfl
theorem um_X11_126 : Cond.methodLinkNest RX11 126 yX3_versionAtIndex "Weaveword" ∈ ux := ux_mem 1022 (by decide +kernel) rfl
theorem um_X11_135 : Cond.methodLinkNest RX11 135 yX8_sections "Weaveword" ∈ ux := ux_mem 1026 (by decide +kernel) rfl
theorem um_X11_144 : Cond.methodLink RX11 144 yX11_mean ∈ uw := uw_mem 1031 (by decide +kernel) rfl
theorem um_X11_152 : Cond.methodLink RX11 152 yX11_merge ∈ uw := uw_mem 1040 (by decide +kernel) rfl
theorem um_X11_156 : Cond.methodLinkNest RX11 156 yX8_sameAs "Weaveword" ∈ ux := ux_mem 1053 (by decide +kernel) rfl
theorem um_X11_162 : Cond.methodLink RX11 162 yX11_addNextVersion ∈ uw := uw_mem 1058 (by decide +kernel) rfl
theorem um_X11_174 : Cond.methodLink RX11 174 yX11_addVersion ∈ uw := uw_mem 1062 (by decide +kernel) rfl
theorem um_X11_182 : Cond.methodLink RX11 182 yX11_bringOver ∈ uw := uw_mem 1333 (by decide +kernel) rfl
theorem um_X11_188 : Cond.methodLink RX11 188 yX11_pagesOfTree ∈ uw := uw_mem 1344 (by decide +kernel) rfl
theorem um_X11_191 : Cond.methodLink RX11 191 yX11_pagesLeadingInto ∈ uw := uw_mem 1348 (by decide +kernel) rfl
theorem um_X11_194 : Cond.methodLink RX11 194 yX11_mayActInTree ∈ uw := uw_mem 1362 (by decide +kernel) rfl
theorem um_X11_198 : Cond.methodLink RX11 198 yX11_has ∈ uw := uw_mem 657 (by decide +kernel) rfl
theorem um_X11_202 : Cond.methodLinkNest RX11 202 yX8_leadsInto_ "Weaveword" ∈ ux := ux_mem 1352 (by decide +kernel) rfl
theorem um_X11_205 : Cond.methodLinkNest RX11 205 yX8_writeLeadingOn "Weaveword" ∈ ux := ux_mem 1366 (by decide +kernel) rfl
theorem um_X11_215 : Cond.methodLinkNest RX11 215 yX0_init "Weaveword" ∈ ux := ux_mem 1378 (by decide +kernel) rfl
theorem um_X11_253 : Cond.methodLink RX11 253 yX11_firstInQueue ∈ uw := uw_mem 517 (by decide +kernel) rfl
theorem um_X11_256 : Cond.methodLink RX11 256 yX11_render ∈ uw := uw_mem 525 (by decide +kernel) rfl
theorem um_X11_28 : Cond.methodLinkNest RX11 28 yX8_init "Weaveword" ∈ ux := ux_mem 373 (by decide +kernel) rfl
theorem um_X11_284 : Cond.methodLink RX11 284 yJx4a65c_size_8abf5 ∈ uw := uw_mem 1488 (by decide +kernel) rfl
theorem um_X11_288 : Cond.methodLink RX11 288 yX11_refuseBelowZero ∈ uw := uw_mem 1408 (by decide +kernel) rfl
theorem um_X11_291 : Cond.methodLinkNest RX11 291 yX8_codeAt "Weaveword" ∈ ux := ux_mem 1422 (by decide +kernel) rfl
theorem um_X11_294 : Cond.methodLinkNest RX11 294 yX1_goalOf "Weaveword" ∈ ux := ux_mem 1493 (by decide +kernel) rfl
theorem um_X11_298 : Cond.methodLinkNest RX11 298 yX9_waits "Weaveword" ∈ ux := ux_mem 521 (by decide +kernel) rfl
theorem um_X11_301 : Cond.methodLinkNest RX11 301 yX5_at "Weaveword" ∈ ux := ux_mem 1413 (by decide +kernel) rfl
theorem um_X11_304 : Cond.methodLinkNest RX11 304 yX1_expand "Weaveword" ∈ ux := ux_mem 529 (by decide +kernel) rfl
theorem um_X11_318 : Cond.methodLink RX11 318 yX11_linkingTo ∈ uw := uw_mem 1498 (by decide +kernel) rfl
theorem um_X11_328 : Cond.methodLink RX11 328 yX11_membersOf ∈ uw := uw_mem 1531 (by decide +kernel) rfl
theorem um_X11_332 : Cond.methodLink RX11 332 yX11_wantedTitles ∈ uw := uw_mem 1540 (by decide +kernel) rfl
theorem um_X11_335 : Cond.methodLink RX11 335 yX11_lonelyTitles ∈ uw := uw_mem 1544 (by decide +kernel) rfl
theorem um_X11_338 : Cond.methodLink RX11 338 yX11_refuseOtherLanguages ∈ uw := uw_mem 1517 (by decide +kernel) rfl
theorem um_X11_349 : Cond.methodLinkNest RX11 349 yX8_addStretch "Weaveword" ∈ ux := ux_mem 1035 (by decide +kernel) rfl
theorem um_X11_353 : Cond.methodLinkNest RX11 353 yX8_sectionStart "Weaveword" ∈ ux := ux_mem 1036 (by decide +kernel) rfl
theorem um_X11_356 : Cond.methodLinkNest RX11 356 yX8_sameSection "Weaveword" ∈ ux := ux_mem 1044 (by decide +kernel) rfl
theorem um_X11_360 : Cond.methodLinkNest RX11 360 yX8_addSection "Weaveword" ∈ ux := ux_mem 1049 (by decide +kernel) rfl
theorem um_X11_363 : Cond.methodLinkNest RX11 363 yX8_settled "Weaveword" ∈ ux := ux_mem 831 (by decide +kernel) rfl
theorem um_X11_367 : Cond.methodLinkNest RX11 367 yX10_init "Weaveword" ∈ ux := ux_mem 854 (by decide +kernel) rfl
theorem um_X11_369 : Cond.methodLink RX11 369 yX11_makeVersion ∈ uw := uw_mem 825 (by decide +kernel) rfl
theorem um_X11_373 : Cond.methodLinkNest RX11 373 yX3_init "Weaveword" ∈ ux := ux_mem 874 (by decide +kernel) rfl
theorem um_X11_376 : Cond.methodLink RX11 376 yX11_noteTitleChange ∈ uw := uw_mem 982 (by decide +kernel) rfl
theorem um_X11_379 : Cond.methodLinkNest RX11 379 yX3_put "Weaveword" ∈ ux := ux_mem 1066 (by decide +kernel) rfl
theorem um_X11_385 : Cond.methodLinkNest RX11 385 yX4_clear "Weaveword" ∈ ux := ux_mem 1337 (by decide +kernel) rfl
theorem um_X11_386 : Cond.methodLink RX11 386 yX11_noteMemberChange ∈ uw := uw_mem 728 (by decide +kernel) rfl
theorem um_X11_395 : Cond.methodLinkNest RX11 395 yX4_take "Weaveword" ∈ ux := ux_mem 723 (by decide +kernel) rfl
theorem um_X11_399 : Cond.methodLinkNest RX11 399 yX8_isRedirect "Weaveword" ∈ ux := ux_mem 1548 (by decide +kernel) rfl
theorem um_X11_58 : Cond.methodLink RX11 58 yX11_isAmong ∈ uw := uw_mem 1443 (by decide +kernel) rfl
theorem um_X11_77 : Cond.methodLinkNest RX11 77 yX8_add "Weaveword" ∈ ux := ux_mem 1338 (by decide +kernel) rfl
theorem um_X11_80 : Cond.methodLinkNest RX11 80 yX8_clear "Weaveword" ∈ ux := ux_mem 986 (by decide +kernel) rfl
theorem um_X11_85 : Cond.methodLink RX11 85 yX11_titleOf ∈ uw := uw_mem 424 (by decide +kernel) rfl
theorem um_X11_9 : Cond.methodLinkNest RX11 9 yX1_init "Weaveword" ∈ ux := ux_mem 138 (by decide +kernel) rfl
theorem um_X11_91 : Cond.methodLink RX11 91 yX11_mayActAt ∈ uw := uw_mem 790 (by decide +kernel) rfl
theorem um_X2_40 : Cond.methodLinkNest RX2 40 yX8_startsPart "Weaveword" ∈ ux := ux_mem 719 (by decide +kernel) rfl
theorem um_X2_46 : Cond.methodLinkNest RX2 46 yX8_valueAt "Weaveword" ∈ ux := ux_mem 720 (by decide +kernel) rfl
theorem um_X2_50 : Cond.methodLinkNest RX2 50 yX8_kindAt "Weaveword" ∈ ux := ux_mem 721 (by decide +kernel) rfl
theorem um_X2_53 : Cond.methodLinkNest RX2 53 yX8_endAt "Weaveword" ∈ ux := ux_mem 722 (by decide +kernel) rfl
theorem um_X3_11 : Cond.methodLink RX3 11 yJx4a65c_init_da8c8 ∈ uw := uw_mem 880 (by decide +kernel) rfl
theorem um_X3_26 : Cond.methodLink RX3 26 yJx4a65c_add_9ea2d ∈ uw := uw_mem 904 (by decide +kernel) rfl
theorem um_X3_30 : Cond.methodLink RX3 30 yJx4a65c_size_8abf5 ∈ uw := uw_mem 1003 (by decide +kernel) rfl
theorem um_X3_34 : Cond.methodLink RX3 34 yJx4a65c_get_915e3 ∈ uw := uw_mem 1007 (by decide +kernel) rfl
theorem um_X3_44 : Cond.methodLink RX3 44 yJx4a65c_add_7a177 ∈ uw := uw_mem 1070 (by decide +kernel) rfl
theorem um_X4_39 : Cond.methodLinkNest RX4 39 yX5_clear "Weaveword" ∈ ux := ux_mem 537 (by decide +kernel) rfl
theorem um_X4_42 : Cond.methodLinkNest RX4 42 yX5_addAll "Weaveword" ∈ ux := ux_mem 727 (by decide +kernel) rfl
theorem um_X4_9 : Cond.methodLinkNest RX4 9 yX5_init "Weaveword" ∈ ux := ux_mem 176 (by decide +kernel) rfl
theorem um_X5_22 : Cond.methodLink RX5 22 yX5_at ∈ uw := uw_mem 595 (by decide +kernel) rfl
theorem um_X5_26 : Cond.methodLink RX5 26 yX5_add ∈ uw := uw_mem 599 (by decide +kernel) rfl
theorem um_X8_22 : Cond.methodLink RX8 22 yX8_kindAt ∈ uw := uw_mem 608 (by decide +kernel) rfl
theorem um_X8_26 : Cond.methodLink RX8 26 yX8_codeAt ∈ uw := uw_mem 841 (by decide +kernel) rfl
theorem um_X8_29 : Cond.methodLink RX8 29 yX8_add ∈ uw := uw_mem 845 (by decide +kernel) rfl
theorem um_X8_33 : Cond.methodLink RX8 33 yX8_sectionStart ∈ uw := uw_mem 1048 (by decide +kernel) rfl
theorem um_X8_36 : Cond.methodLink RX8 36 yX8_addStretch ∈ uw := uw_mem 837 (by decide +kernel) rfl
theorem um_X8_40 : Cond.methodLink RX8 40 yX8_opens ∈ uw := uw_mem 798 (by decide +kernel) rfl
theorem um_X8_44 : Cond.methodLink RX8 44 yX8_fits ∈ uw := uw_mem 801 (by decide +kernel) rfl
theorem um_X8_48 : Cond.methodLink RX8 48 yX8_init ∈ uw := uw_mem 836 (by decide +kernel) rfl
theorem um_X8_50 : Cond.methodLink RX8 50 yX8_findEnd ∈ uw := uw_mem 849 (by decide +kernel) rfl
theorem um_X8_53 : Cond.methodLink RX8 53 yX8_startsPart ∈ uw := uw_mem 853 (by decide +kernel) rfl
theorem um_X8_56 : Cond.methodLink RX8 56 yX8_valueAt ∈ uw := uw_mem 1360 (by decide +kernel) rfl
theorem um_X8_59 : Cond.methodLinkNest RX8 59 yX11_has "Weaveword" ∈ ux := ux_mem 1361 (by decide +kernel) rfl
theorem um_X8_63 : Cond.methodLink RX8 63 yX8_leadsInto ∈ uw := uw_mem 1356 (by decide +kernel) rfl
theorem um_X8_66 : Cond.methodLink RX8 66 yX8_clear ∈ uw := uw_mem 1370 (by decide +kernel) rfl
theorem um_X9_11 : Cond.methodLinkNest RX9 11 yX4_init "Weaveword" ∈ ux := ux_mem 223 (by decide +kernel) rfl
theorem un_X1_17 : Cond.classLink RX1 17 RX7 ∈ uw ∧ Cond.instantiable RX7 3 ∈ uw ∧ Cond.initialized RX7 ∈ uw := ⟨uw_mem 144 (by decide +kernel) rfl, uw_mem 250 (by decide +kernel) rfl, uw_mem 99 (by decide +kernel) rfl⟩
theorem un_X1_23 : Cond.classLink RX1 23 RX2 ∈ uw ∧ Cond.instantiable RX2 7 ∈ uw ∧ Cond.initialized RX2 ∈ uw := ⟨uw_mem 146 (by decide +kernel) rfl, uw_mem 265 (by decide +kernel) rfl, uw_mem 100 (by decide +kernel) rfl⟩
theorem un_X1_29 : Cond.classLink RX1 29 RX6 ∈ uw ∧ Cond.instantiable RX6 4 ∈ uw ∧ Cond.initialized RX6 ∈ uw := ⟨uw_mem 148 (by decide +kernel) rfl, uw_mem 300 (by decide +kernel) rfl, uw_mem 101 (by decide +kernel) rfl⟩
theorem un_X1_35 : Cond.classLink RX1 35 RX5 ∈ uw ∧ Cond.instantiable RX5 3 ∈ uw ∧ Cond.initialized RX5 ∈ uw := ⟨uw_mem 150 (by decide +kernel) rfl, uw_mem 151 (by decide +kernel) rfl, uw_mem 96 (by decide +kernel) rfl⟩
theorem un_X1_49 : Cond.classLink RX1 49 RX4 ∈ uw ∧ Cond.instantiable RX4 8 ∈ uw ∧ Cond.initialized RX4 ∈ uw := ⟨uw_mem 169 (by decide +kernel) rfl, uw_mem 170 (by decide +kernel) rfl, uw_mem 97 (by decide +kernel) rfl⟩
theorem un_X1_9 : Cond.classLink RX1 9 RX9 ∈ uw ∧ Cond.instantiable RX9 6 ∈ uw ∧ Cond.initialized RX9 ∈ uw := ⟨uw_mem 142 (by decide +kernel) rfl, uw_mem 217 (by decide +kernel) rfl, uw_mem 98 (by decide +kernel) rfl⟩
theorem un_X11_121 : Cond.classLink RX11 121 RX3 ∈ uw ∧ Cond.instantiable RX3 3 ∈ uw ∧ Cond.initialized RX3 ∈ uw := ⟨uw_mem 873 (by decide +kernel) rfl, uw_mem 648 (by decide +kernel) rfl, uw_mem 111 (by decide +kernel) rfl⟩
theorem un_X11_131 : Cond.classLink RX11 131 RX10 ∈ uw ∧ Cond.instantiable RX10 3 ∈ uw ∧ Cond.initialized RX10 ∈ uw := ⟨uw_mem 829 (by decide +kernel) rfl, uw_mem 830 (by decide +kernel) rfl, uw_mem 110 (by decide +kernel) rfl⟩
theorem un_X11_209 : Cond.classLink RX11 209 RX0 ∈ uw ∧ Cond.instantiable RX0 3 ∈ uw ∧ Cond.initialized RX0 ∈ uw := ⟨uw_mem 1376 (by decide +kernel) rfl, uw_mem 1377 (by decide +kernel) rfl, uw_mem 127 (by decide +kernel) rfl⟩
theorem un_X11_26 : Cond.classLink RX11 26 RX8 ∈ uw ∧ Cond.instantiable RX8 3 ∈ uw ∧ Cond.initialized RX8 ∈ uw := ⟨uw_mem 371 (by decide +kernel) rfl, uw_mem 372 (by decide +kernel) rfl, uw_mem 102 (by decide +kernel) rfl⟩
theorem un_X11_7 : Cond.classLink RX11 7 RX1 ∈ uw ∧ Cond.instantiable RX1 15 ∈ uw ∧ Cond.initialized RX1 ∈ uw := ⟨uw_mem 136 (by decide +kernel) rfl, uw_mem 137 (by decide +kernel) rfl, uw_mem 95 (by decide +kernel) rfl⟩
theorem un_X3_9 : Cond.classLink RX3 9 RJx4a65c ∈ uw ∧ Cond.instantiable RJx4a65c 3 ∈ uw ∧ Cond.initialized RJx4a65c ∈ uw := ⟨uw_mem 878 (by decide +kernel) rfl, uw_mem 879 (by decide +kernel) rfl, uw_mem 114 (by decide +kernel) rfl⟩
theorem un_X4_7 : Cond.classLink RX4 7 RX5 ∈ uw ∧ Cond.instantiable RX5 3 ∈ uw ∧ Cond.initialized RX5 ∈ uw := ⟨uw_mem 175 (by decide +kernel) rfl, uw_mem 151 (by decide +kernel) rfl, uw_mem 96 (by decide +kernel) rfl⟩
theorem un_X8_10 : Cond.classLink RX8 10 RX8 ∈ uw ∧ Cond.instantiable RX8 3 ∈ uw ∧ Cond.initialized RX8 ∈ uw := ⟨uw_mem 835 (by decide +kernel) rfl, uw_mem 372 (by decide +kernel) rfl, uw_mem 102 (by decide +kernel) rfl⟩
theorem un_X9_9 : Cond.classLink RX9 9 RX4 ∈ uw ∧ Cond.instantiable RX4 8 ∈ uw ∧ Cond.initialized RX4 ∈ uw := ⟨uw_mem 222 (by decide +kernel) rfl, uw_mem 170 (by decide +kernel) rfl, uw_mem 97 (by decide +kernel) rfl⟩
theorem uo_X0_1 : Cond.methodLink RX0 1 Lib.objectInit ∈ uw := uw_mem 1381 (by decide +kernel) rfl
theorem uo_X1_3 : Cond.methodLink RX1 3 Lib.objectInit ∈ uw := uw_mem 141 (by decide +kernel) rfl
theorem uo_X10_1 : Cond.methodLink RX10 1 Lib.objectInit ∈ uw := uw_mem 857 (by decide +kernel) rfl
theorem uo_X11_1 : Cond.methodLink RX11 1 Lib.objectInit ∈ uw := uw_mem 133 (by decide +kernel) rfl
theorem uo_X2_3 : Cond.methodLink RX2 3 Lib.objectInit ∈ uw := uw_mem 269 (by decide +kernel) rfl
theorem uo_X3_3 : Cond.methodLink RX3 3 Lib.objectInit ∈ uw := uw_mem 877 (by decide +kernel) rfl
theorem uo_X4_1 : Cond.methodLink RX4 1 Lib.objectInit ∈ uw := uw_mem 174 (by decide +kernel) rfl
theorem uo_X5_3 : Cond.methodLink RX5 3 Lib.objectInit ∈ uw := uw_mem 155 (by decide +kernel) rfl
theorem uo_X6_1 : Cond.methodLink RX6 1 Lib.objectInit ∈ uw := uw_mem 304 (by decide +kernel) rfl
theorem uo_X7_3 : Cond.methodLink RX7 3 Lib.objectInit ∈ uw := uw_mem 254 (by decide +kernel) rfl
theorem uo_X8_3 : Cond.methodLink RX8 3 Lib.objectInit ∈ uw := uw_mem 376 (by decide +kernel) rfl
theorem uo_X9_3 : Cond.methodLink RX9 3 Lib.objectInit ∈ uw := uw_mem 221 (by decide +kernel) rfl
theorem uq_X1_17 : Cond.classLink RX1 17 "Weaveword$SmallModule" ∈ uw ∧ Cond.arrayOver (.object "Weaveword$SmallModule") ∈ ux := ⟨uw_mem 144 (by decide +kernel) rfl, ux_mem 145 (by decide +kernel) rfl⟩
theorem uq_X1_23 : Cond.classLink RX1 23 "Weaveword$Frame" ∈ uw ∧ Cond.arrayOver (.object "Weaveword$Frame") ∈ ux := ⟨uw_mem 146 (by decide +kernel) rfl, ux_mem 147 (by decide +kernel) rfl⟩
theorem uq_X1_29 : Cond.classLink RX1 29 "Weaveword$Run" ∈ uw ∧ Cond.arrayOver (.object "Weaveword$Run") ∈ ux := ⟨uw_mem 148 (by decide +kernel) rfl, ux_mem 149 (by decide +kernel) rfl⟩
theorem uq_X1_9 : Cond.classLink RX1 9 "Weaveword$Title" ∈ uw ∧ Cond.arrayOver (.object "Weaveword$Title") ∈ ux := ⟨uw_mem 142 (by decide +kernel) rfl, ux_mem 143 (by decide +kernel) rfl⟩
theorem uq_X2_15 : Cond.classLink RX2 15 "Weaveword$Row" ∈ uw ∧ Cond.arrayOver (.object "Weaveword$Row") ∈ ux := ⟨uw_mem 270 (by decide +kernel) rfl, ux_mem 271 (by decide +kernel) rfl⟩
theorem us_X11_54 : Cond.fieldLink RX11 54 "Weaveword" "TOKEN_VALUES" "[I" ∈ uw := uw_mem 1441 (by decide +kernel) rfl
theorem uoi : Cond.instanceMethod Lib.objectInit ∈ uw := uw_mem 134 (by decide +kernel) rfl
theorem uoc : Cond.code Lib.objectInit ⟨#[0xb1]⟩ 1 none ∈ uw := uw_mem 135 (by decide +kernel) rfl
