def zfT : List (String × Nat × Nat × Nat) := [("SkinLands$Family", 13, 0, 0), ("SkinLands$Family", 16, 0, 1), ("SkinLands$Family", 30, 0, 2), ("SkinLands$Family", 33, 0, 3), ("SkinLands$Family", 20, 0, 4), ("SkinLands$Sheets", 11, 1, 0), ("SkinLands$Sheets", 14, 1, 1), ("SkinLands$Sheets", 18, 1, 2), ("SkinLands$Tape", 11, 2, 0), ("SkinLands$Tape", 15, 2, 1), ("SkinLands$Tape", 45, 2, 2), ("SkinLands$Tape", 42, 2, 3), ("SkinLands$Tape", 23, 2, 4), ("SkinLands$Tape", 87, 2, 5), ("SkinLands", 10, 3, 0), ("SkinLands", 16, 3, 1), ("SkinLands", 19, 3, 2), ("SkinLands", 25, 3, 3), ("SkinLands", 32, 3, 4), ("SkinLands", 36, 3, 5), ("SkinLands", 40, 3, 6), ("SkinLandsModel", 7, 4, 0), ("SkinLandsModel", 13, 4, 1), ("SkinLandsModel", 16, 4, 2), ("SkinLandsModel", 19, 4, 3), ("SkinLandsModel", 287, 4, 4), ("SkinLandsModel", 22, 4, 5), ("SkinLandsModel", 25, 4, 6), ("SkinLandsModel", 200, 4, 7), ("SkinLandsModel", 28, 4, 8), ("SkinLandsModel", 31, 4, 9), ("SkinLandsModel", 34, 4, 10), ("SkinLandsModel", 37, 4, 11), ("SkinLandsModel", 219, 4, 12), ("SkinLandsModel", 207, 4, 13), ("SkinLandsModel", 204, 4, 14), ("SkinLandsModel", 222, 4, 15), ("SkinLandsModel", 225, 4, 16)]
theorem zf_F_13 : zF "SkinLands$Family" 13 0 0 := ⟨(N_F, T_F, 5), rfl, by decide, List.mem_of_getElem? (i := 97) (by decide +kernel), lay_F⟩
theorem zf_F_16 : zF "SkinLands$Family" 16 0 1 := ⟨(N_F, T_F, 5), rfl, by decide, List.mem_of_getElem? (i := 98) (by decide +kernel), lay_F⟩
theorem zf_F_30 : zF "SkinLands$Family" 30 0 2 := ⟨(N_F, T_F, 5), rfl, by decide, List.mem_of_getElem? (i := 99) (by decide +kernel), lay_F⟩
theorem zf_F_33 : zF "SkinLands$Family" 33 0 3 := ⟨(N_F, T_F, 5), rfl, by decide, List.mem_of_getElem? (i := 100) (by decide +kernel), lay_F⟩
theorem zf_F_20 : zF "SkinLands$Family" 20 0 4 := ⟨(N_F, T_F, 5), rfl, by decide, List.mem_of_getElem? (i := 101) (by decide +kernel), lay_F⟩
theorem zf_S_11 : zF "SkinLands$Sheets" 11 1 0 := ⟨(N_S, T_S, 3), rfl, by decide, List.mem_of_getElem? (i := 121) (by decide +kernel), lay_S⟩
theorem zf_S_14 : zF "SkinLands$Sheets" 14 1 1 := ⟨(N_S, T_S, 3), rfl, by decide, List.mem_of_getElem? (i := 122) (by decide +kernel), lay_S⟩
theorem zf_S_18 : zF "SkinLands$Sheets" 18 1 2 := ⟨(N_S, T_S, 3), rfl, by decide, List.mem_of_getElem? (i := 123) (by decide +kernel), lay_S⟩
theorem zf_T_11 : zF "SkinLands$Tape" 11 2 0 := ⟨(N_T, T_T, 6), rfl, by decide, List.mem_of_getElem? (i := 137) (by decide +kernel), lay_T⟩
theorem zf_T_15 : zF "SkinLands$Tape" 15 2 1 := ⟨(N_T, T_T, 6), rfl, by decide, List.mem_of_getElem? (i := 138) (by decide +kernel), lay_T⟩
theorem zf_T_45 : zF "SkinLands$Tape" 45 2 2 := ⟨(N_T, T_T, 6), rfl, by decide, List.mem_of_getElem? (i := 139) (by decide +kernel), lay_T⟩
theorem zf_T_42 : zF "SkinLands$Tape" 42 2 3 := ⟨(N_T, T_T, 6), rfl, by decide, List.mem_of_getElem? (i := 140) (by decide +kernel), lay_T⟩
theorem zf_T_23 : zF "SkinLands$Tape" 23 2 4 := ⟨(N_T, T_T, 6), rfl, by decide, List.mem_of_getElem? (i := 141) (by decide +kernel), lay_T⟩
theorem zf_T_87 : zF "SkinLands$Tape" 87 2 5 := ⟨(N_T, T_T, 6), rfl, by decide, List.mem_of_getElem? (i := 142) (by decide +kernel), lay_T⟩
theorem zf_K_10 : zF "SkinLands" 10 3 0 := ⟨(N_K, T_K, 7), rfl, by decide, List.mem_of_getElem? (i := 156) (by decide +kernel), lay_K⟩
theorem zf_K_16 : zF "SkinLands" 16 3 1 := ⟨(N_K, T_K, 7), rfl, by decide, List.mem_of_getElem? (i := 157) (by decide +kernel), lay_K⟩
theorem zf_K_19 : zF "SkinLands" 19 3 2 := ⟨(N_K, T_K, 7), rfl, by decide, List.mem_of_getElem? (i := 158) (by decide +kernel), lay_K⟩
theorem zf_K_25 : zF "SkinLands" 25 3 3 := ⟨(N_K, T_K, 7), rfl, by decide, List.mem_of_getElem? (i := 159) (by decide +kernel), lay_K⟩
theorem zf_K_32 : zF "SkinLands" 32 3 4 := ⟨(N_K, T_K, 7), rfl, by decide, List.mem_of_getElem? (i := 160) (by decide +kernel), lay_K⟩
theorem zf_K_36 : zF "SkinLands" 36 3 5 := ⟨(N_K, T_K, 7), rfl, by decide, List.mem_of_getElem? (i := 161) (by decide +kernel), lay_K⟩
theorem zf_K_40 : zF "SkinLands" 40 3 6 := ⟨(N_K, T_K, 7), rfl, by decide, List.mem_of_getElem? (i := 162) (by decide +kernel), lay_K⟩
theorem zf_M_7 : zF "SkinLandsModel" 7 4 0 := ⟨(N_M, T_M, 17), rfl, by decide, List.mem_of_getElem? (i := 788) (by decide +kernel), lay_M⟩
theorem zf_M_13 : zF "SkinLandsModel" 13 4 1 := ⟨(N_M, T_M, 17), rfl, by decide, List.mem_of_getElem? (i := 789) (by decide +kernel), lay_M⟩
theorem zf_M_16 : zF "SkinLandsModel" 16 4 2 := ⟨(N_M, T_M, 17), rfl, by decide, List.mem_of_getElem? (i := 790) (by decide +kernel), lay_M⟩
theorem zf_M_19 : zF "SkinLandsModel" 19 4 3 := ⟨(N_M, T_M, 17), rfl, by decide, List.mem_of_getElem? (i := 791) (by decide +kernel), lay_M⟩
theorem zf_M_287 : zF "SkinLandsModel" 287 4 4 := ⟨(N_M, T_M, 17), rfl, by decide, List.mem_of_getElem? (i := 792) (by decide +kernel), lay_M⟩
theorem zf_M_22 : zF "SkinLandsModel" 22 4 5 := ⟨(N_M, T_M, 17), rfl, by decide, List.mem_of_getElem? (i := 793) (by decide +kernel), lay_M⟩
theorem zf_M_25 : zF "SkinLandsModel" 25 4 6 := ⟨(N_M, T_M, 17), rfl, by decide, List.mem_of_getElem? (i := 794) (by decide +kernel), lay_M⟩
theorem zf_M_200 : zF "SkinLandsModel" 200 4 7 := ⟨(N_M, T_M, 17), rfl, by decide, List.mem_of_getElem? (i := 795) (by decide +kernel), lay_M⟩
theorem zf_M_28 : zF "SkinLandsModel" 28 4 8 := ⟨(N_M, T_M, 17), rfl, by decide, List.mem_of_getElem? (i := 796) (by decide +kernel), lay_M⟩
theorem zf_M_31 : zF "SkinLandsModel" 31 4 9 := ⟨(N_M, T_M, 17), rfl, by decide, List.mem_of_getElem? (i := 797) (by decide +kernel), lay_M⟩
theorem zf_M_34 : zF "SkinLandsModel" 34 4 10 := ⟨(N_M, T_M, 17), rfl, by decide, List.mem_of_getElem? (i := 798) (by decide +kernel), lay_M⟩
theorem zf_M_37 : zF "SkinLandsModel" 37 4 11 := ⟨(N_M, T_M, 17), rfl, by decide, List.mem_of_getElem? (i := 799) (by decide +kernel), lay_M⟩
theorem zf_M_219 : zF "SkinLandsModel" 219 4 12 := ⟨(N_M, T_M, 17), rfl, by decide, List.mem_of_getElem? (i := 800) (by decide +kernel), lay_M⟩
theorem zf_M_207 : zF "SkinLandsModel" 207 4 13 := ⟨(N_M, T_M, 17), rfl, by decide, List.mem_of_getElem? (i := 801) (by decide +kernel), lay_M⟩
theorem zf_M_204 : zF "SkinLandsModel" 204 4 14 := ⟨(N_M, T_M, 17), rfl, by decide, List.mem_of_getElem? (i := 802) (by decide +kernel), lay_M⟩
theorem zf_M_222 : zF "SkinLandsModel" 222 4 15 := ⟨(N_M, T_M, 17), rfl, by decide, List.mem_of_getElem? (i := 803) (by decide +kernel), lay_M⟩
theorem zf_M_225 : zF "SkinLandsModel" 225 4 16 := ⟨(N_M, T_M, 17), rfl, by decide, List.mem_of_getElem? (i := 804) (by decide +kernel), lay_M⟩
theorem zfT_ok : ∀ q ∈ zfT, zF q.1 q.2.1 q.2.2.1 q.2.2.2 := List.forall_mem_cons.mpr ⟨zf_F_13, List.forall_mem_cons.mpr ⟨zf_F_16, List.forall_mem_cons.mpr ⟨zf_F_30, List.forall_mem_cons.mpr ⟨zf_F_33, List.forall_mem_cons.mpr ⟨zf_F_20, List.forall_mem_cons.mpr ⟨zf_S_11, List.forall_mem_cons.mpr ⟨zf_S_14, List.forall_mem_cons.mpr ⟨zf_S_18, List.forall_mem_cons.mpr ⟨zf_T_11, List.forall_mem_cons.mpr ⟨zf_T_15, List.forall_mem_cons.mpr ⟨zf_T_45, List.forall_mem_cons.mpr ⟨zf_T_42, List.forall_mem_cons.mpr ⟨zf_T_23, List.forall_mem_cons.mpr ⟨zf_T_87, List.forall_mem_cons.mpr ⟨zf_K_10, List.forall_mem_cons.mpr ⟨zf_K_16, List.forall_mem_cons.mpr ⟨zf_K_19, List.forall_mem_cons.mpr ⟨zf_K_25, List.forall_mem_cons.mpr ⟨zf_K_32, List.forall_mem_cons.mpr ⟨zf_K_36, List.forall_mem_cons.mpr ⟨zf_K_40, List.forall_mem_cons.mpr ⟨zf_M_7, List.forall_mem_cons.mpr ⟨zf_M_13, List.forall_mem_cons.mpr ⟨zf_M_16, List.forall_mem_cons.mpr ⟨zf_M_19, List.forall_mem_cons.mpr ⟨zf_M_287, List.forall_mem_cons.mpr ⟨zf_M_22, List.forall_mem_cons.mpr ⟨zf_M_25, List.forall_mem_cons.mpr ⟨zf_M_200, List.forall_mem_cons.mpr ⟨zf_M_28, List.forall_mem_cons.mpr ⟨zf_M_31, List.forall_mem_cons.mpr ⟨zf_M_34, List.forall_mem_cons.mpr ⟨zf_M_37, List.forall_mem_cons.mpr ⟨zf_M_219, List.forall_mem_cons.mpr ⟨zf_M_207, List.forall_mem_cons.mpr ⟨zf_M_204, List.forall_mem_cons.mpr ⟨zf_M_222, List.forall_mem_cons.mpr ⟨zf_M_225, fun _ h => absurd h List.not_mem_nil⟩⟩⟩⟩⟩⟩⟩⟩⟩⟩⟩⟩⟩⟩⟩⟩⟩⟩⟩⟩⟩⟩⟩⟩⟩⟩⟩⟩⟩⟩⟩⟩⟩⟩⟩⟩⟩⟩
theorem zpz_K_6 : zP 3 6 .boolean := ⟨(N_K, T_K, 7), ty_K, rfl, tyok_K, nm_K, rfl, by decide +kernel⟩
theorem zpz_M_4 : zP 4 4 .boolean := ⟨(N_M, T_M, 17), ty_M, rfl, tyok_M, nm_M, rfl, by decide +kernel⟩
theorem zp_F_2 : zP 0 2 .int := ⟨(N_F, T_F, 5), ty_F, rfl, tyok_F, nm_F, rfl, by decide +kernel⟩
theorem zp_F_3 : zP 0 3 .int := ⟨(N_F, T_F, 5), ty_F, rfl, tyok_F, nm_F, rfl, by decide +kernel⟩
theorem zp_F_4 : zP 0 4 .int := ⟨(N_F, T_F, 5), ty_F, rfl, tyok_F, nm_F, rfl, by decide +kernel⟩
theorem zp_T_1 : zP 2 1 .int := ⟨(N_T, T_T, 6), ty_T, rfl, tyok_T, nm_T, rfl, by decide +kernel⟩
theorem zp_T_2 : zP 2 2 .int := ⟨(N_T, T_T, 6), ty_T, rfl, tyok_T, nm_T, rfl, by decide +kernel⟩
theorem zp_T_3 : zP 2 3 .int := ⟨(N_T, T_T, 6), ty_T, rfl, tyok_T, nm_T, rfl, by decide +kernel⟩
theorem zp_T_4 : zP 2 4 .int := ⟨(N_T, T_T, 6), ty_T, rfl, tyok_T, nm_T, rfl, by decide +kernel⟩
theorem zp_T_5 : zP 2 5 .int := ⟨(N_T, T_T, 6), ty_T, rfl, tyok_T, nm_T, rfl, by decide +kernel⟩
theorem zp_M_7 : zP 4 7 .int := ⟨(N_M, T_M, 17), ty_M, rfl, tyok_M, nm_M, rfl, by decide +kernel⟩
theorem zp_M_12 : zP 4 12 .int := ⟨(N_M, T_M, 17), ty_M, rfl, tyok_M, nm_M, rfl, by decide +kernel⟩
theorem zp_M_13 : zP 4 13 .int := ⟨(N_M, T_M, 17), ty_M, rfl, tyok_M, nm_M, rfl, by decide +kernel⟩
theorem zp_M_14 : zP 4 14 .int := ⟨(N_M, T_M, 17), ty_M, rfl, tyok_M, nm_M, rfl, by decide +kernel⟩
theorem zp_M_15 : zP 4 15 .int := ⟨(N_M, T_M, 17), ty_M, rfl, tyok_M, nm_M, rfl, by decide +kernel⟩
theorem zp_M_16 : zP 4 16 .int := ⟨(N_M, T_M, 17), ty_M, rfl, tyok_M, nm_M, rfl, by decide +kernel⟩
def zpT : List (Nat × Nat) := [(0, 2), (0, 3), (0, 4), (2, 1), (2, 2), (2, 3), (2, 4), (2, 5), (4, 7), (4, 12), (4, 13), (4, 14), (4, 15), (4, 16)]
theorem zpT_ok : ∀ q ∈ zpT, zP q.1 q.2 .int := List.forall_mem_cons.mpr ⟨zp_F_2, List.forall_mem_cons.mpr ⟨zp_F_3, List.forall_mem_cons.mpr ⟨zp_F_4, List.forall_mem_cons.mpr ⟨zp_T_1, List.forall_mem_cons.mpr ⟨zp_T_2, List.forall_mem_cons.mpr ⟨zp_T_3, List.forall_mem_cons.mpr ⟨zp_T_4, List.forall_mem_cons.mpr ⟨zp_T_5, List.forall_mem_cons.mpr ⟨zp_M_7, List.forall_mem_cons.mpr ⟨zp_M_12, List.forall_mem_cons.mpr ⟨zp_M_13, List.forall_mem_cons.mpr ⟨zp_M_14, List.forall_mem_cons.mpr ⟨zp_M_15, List.forall_mem_cons.mpr ⟨zp_M_16, fun _ h => absurd h List.not_mem_nil⟩⟩⟩⟩⟩⟩⟩⟩⟩⟩⟩⟩⟩⟩
def zcT : List (String × Nat × Int32) := [("SkinLands$Cells", 9, 65535), ("SkinLands", 261, (-1000001)), ("SkinLands$Cells", 17, 33825), ("SkinLands$Cells", 16, 34952), ("SkinLands$Family", 73, 65535), ("SkinLands", 260, 99999), ("SkinLands$Cells", 24, (-34953)), ("SkinLands$Cells", 25, 65536), ("SkinLands$Family", 78, 99999), ("SkinLands", 119, 65535), ("java/lang/Integer", 265, 1431655765), ("java/lang/Integer", 266, 858993459), ("java/lang/Integer", 267, 252645135), ("SkinLands$Family", 105, 1103515245), ("SkinLands$Tape", 126, 100000), ("SkinLands$Tape", 72, 65535), ("SkinLandsModel", 40, (-1000001)), ("SkinLandsModel", 61, (-1000002)), ("SkinLandsModel", 75, 65535), ("SkinLandsModel", 118, 99999), ("SkinLandsModel", 124, (-1000005)), ("SkinLandsModel", 41, (-1000004)), ("SkinLandsModel", 278, (-1000006)), ("SkinLandsModel", 188, 1103515245), ("SkinLandsModel", 282, (-1000003)), ("SkinLandsModel", 286, (-1000007))]
theorem zc_C_9 : Cond.constant "SkinLands$Cells" 9 65535 ∈ lw_tbl := List.mem_of_getElem? (i := 191) (by decide +kernel)
theorem zc_K_261 : Cond.constant "SkinLands" 261 (-1000001) ∈ lw_tbl := List.mem_of_getElem? (i := 196) (by decide +kernel)
theorem zc_C_17 : Cond.constant "SkinLands$Cells" 17 33825 ∈ lw_tbl := List.mem_of_getElem? (i := 233) (by decide +kernel)
theorem zc_C_16 : Cond.constant "SkinLands$Cells" 16 34952 ∈ lw_tbl := List.mem_of_getElem? (i := 237) (by decide +kernel)
theorem zc_F_73 : Cond.constant "SkinLands$Family" 73 65535 ∈ lw_tbl := List.mem_of_getElem? (i := 243) (by decide +kernel)
theorem zc_K_260 : Cond.constant "SkinLands" 260 99999 ∈ lw_tbl := List.mem_of_getElem? (i := 311) (by decide +kernel)
theorem zc_C_24 : Cond.constant "SkinLands$Cells" 24 (-34953) ∈ lw_tbl := List.mem_of_getElem? (i := 327) (by decide +kernel)
theorem zc_C_25 : Cond.constant "SkinLands$Cells" 25 65536 ∈ lw_tbl := List.mem_of_getElem? (i := 338) (by decide +kernel)
theorem zc_F_78 : Cond.constant "SkinLands$Family" 78 99999 ∈ lw_tbl := List.mem_of_getElem? (i := 342) (by decide +kernel)
theorem zc_K_119 : Cond.constant "SkinLands" 119 65535 ∈ lw_tbl := List.mem_of_getElem? (i := 351) (by decide +kernel)
theorem zc_I_265 : Cond.constant "java/lang/Integer" 265 1431655765 ∈ lw_tbl := List.mem_of_getElem? (i := 366) (by decide +kernel)
theorem zc_I_266 : Cond.constant "java/lang/Integer" 266 858993459 ∈ lw_tbl := List.mem_of_getElem? (i := 367) (by decide +kernel)
theorem zc_I_267 : Cond.constant "java/lang/Integer" 267 252645135 ∈ lw_tbl := List.mem_of_getElem? (i := 368) (by decide +kernel)
theorem zc_F_105 : Cond.constant "SkinLands$Family" 105 1103515245 ∈ lw_tbl := List.mem_of_getElem? (i := 515) (by decide +kernel)
theorem zc_T_126 : Cond.constant "SkinLands$Tape" 126 100000 ∈ lw_tbl := List.mem_of_getElem? (i := 582) (by decide +kernel)
theorem zc_T_72 : Cond.constant "SkinLands$Tape" 72 65535 ∈ lw_tbl := List.mem_of_getElem? (i := 670) (by decide +kernel)
theorem zc_M_40 : Cond.constant "SkinLandsModel" 40 (-1000001) ∈ lw_tbl := List.mem_of_getElem? (i := 849) (by decide +kernel)
theorem zc_M_61 : Cond.constant "SkinLandsModel" 61 (-1000002) ∈ lw_tbl := List.mem_of_getElem? (i := 854) (by decide +kernel)
theorem zc_M_75 : Cond.constant "SkinLandsModel" 75 65535 ∈ lw_tbl := List.mem_of_getElem? (i := 888) (by decide +kernel)
theorem zc_M_118 : Cond.constant "SkinLandsModel" 118 99999 ∈ lw_tbl := List.mem_of_getElem? (i := 935) (by decide +kernel)
theorem zc_M_124 : Cond.constant "SkinLandsModel" 124 (-1000005) ∈ lw_tbl := List.mem_of_getElem? (i := 936) (by decide +kernel)
theorem zc_M_41 : Cond.constant "SkinLandsModel" 41 (-1000004) ∈ lw_tbl := List.mem_of_getElem? (i := 1006) (by decide +kernel)
theorem zc_M_278 : Cond.constant "SkinLandsModel" 278 (-1000006) ∈ lw_tbl := List.mem_of_getElem? (i := 1079) (by decide +kernel)
theorem zc_M_188 : Cond.constant "SkinLandsModel" 188 1103515245 ∈ lw_tbl := List.mem_of_getElem? (i := 1101) (by decide +kernel)
theorem zc_M_282 : Cond.constant "SkinLandsModel" 282 (-1000003) ∈ lw_tbl := List.mem_of_getElem? (i := 1203) (by decide +kernel)
theorem zc_M_286 : Cond.constant "SkinLandsModel" 286 (-1000007) ∈ lw_tbl := List.mem_of_getElem? (i := 1208) (by decide +kernel)
theorem zcT_ok : ∀ q ∈ zcT, Cond.constant q.1 q.2.1 q.2.2 ∈ lw_tbl := List.forall_mem_cons.mpr ⟨zc_C_9, List.forall_mem_cons.mpr ⟨zc_K_261, List.forall_mem_cons.mpr ⟨zc_C_17, List.forall_mem_cons.mpr ⟨zc_C_16, List.forall_mem_cons.mpr ⟨zc_F_73, List.forall_mem_cons.mpr ⟨zc_K_260, List.forall_mem_cons.mpr ⟨zc_C_24, List.forall_mem_cons.mpr ⟨zc_C_25, List.forall_mem_cons.mpr ⟨zc_F_78, List.forall_mem_cons.mpr ⟨zc_K_119, List.forall_mem_cons.mpr ⟨zc_I_265, List.forall_mem_cons.mpr ⟨zc_I_266, List.forall_mem_cons.mpr ⟨zc_I_267, List.forall_mem_cons.mpr ⟨zc_F_105, List.forall_mem_cons.mpr ⟨zc_T_126, List.forall_mem_cons.mpr ⟨zc_T_72, List.forall_mem_cons.mpr ⟨zc_M_40, List.forall_mem_cons.mpr ⟨zc_M_61, List.forall_mem_cons.mpr ⟨zc_M_75, List.forall_mem_cons.mpr ⟨zc_M_118, List.forall_mem_cons.mpr ⟨zc_M_124, List.forall_mem_cons.mpr ⟨zc_M_41, List.forall_mem_cons.mpr ⟨zc_M_278, List.forall_mem_cons.mpr ⟨zc_M_188, List.forall_mem_cons.mpr ⟨zc_M_282, List.forall_mem_cons.mpr ⟨zc_M_286, fun _ h => absurd h List.not_mem_nil⟩⟩⟩⟩⟩⟩⟩⟩⟩⟩⟩⟩⟩⟩⟩⟩⟩⟩⟩⟩⟩⟩⟩⟩⟩⟩
def zdT : List (String × Nat × Int64) := [("SkinLandsModel", 53, 6), ("SkinLandsModel", 59, 65535), ("SkinLandsModel", 80, 8), ("SkinLandsModel", 91, 3), ("SkinLandsModel", 93, 999), ("SkinLandsModel", 122, 60), ("SkinLandsModel", 147, 100), ("SkinLandsModel", 156, 16), ("SkinLandsModel", 161, 40), ("SkinLandsModel", 189, 20), ("SkinLandsModel", 194, 15), ("SkinLandsModel", 196, 2), ("SkinLandsModel", 198, 4), ("SkinLandsModel", 276, 9), ("SkinLandsModel", 291, (-1))]
theorem zd_M_53 : Cond.constantLong "SkinLandsModel" 53 6 ∈ lw_tbl := List.mem_of_getElem? (i := 844) (by decide +kernel)
theorem zd_M_59 : Cond.constantLong "SkinLandsModel" 59 65535 ∈ lw_tbl := List.mem_of_getElem? (i := 848) (by decide +kernel)
theorem zd_M_80 : Cond.constantLong "SkinLandsModel" 80 8 ∈ lw_tbl := List.mem_of_getElem? (i := 870) (by decide +kernel)
theorem zd_M_91 : Cond.constantLong "SkinLandsModel" 91 3 ∈ lw_tbl := List.mem_of_getElem? (i := 905) (by decide +kernel)
theorem zd_M_93 : Cond.constantLong "SkinLandsModel" 93 999 ∈ lw_tbl := List.mem_of_getElem? (i := 906) (by decide +kernel)
theorem zd_M_122 : Cond.constantLong "SkinLandsModel" 122 60 ∈ lw_tbl := List.mem_of_getElem? (i := 934) (by decide +kernel)
theorem zd_M_147 : Cond.constantLong "SkinLandsModel" 147 100 ∈ lw_tbl := List.mem_of_getElem? (i := 990) (by decide +kernel)
theorem zd_M_156 : Cond.constantLong "SkinLandsModel" 156 16 ∈ lw_tbl := List.mem_of_getElem? (i := 1011) (by decide +kernel)
theorem zd_M_161 : Cond.constantLong "SkinLandsModel" 161 40 ∈ lw_tbl := List.mem_of_getElem? (i := 1020) (by decide +kernel)
theorem zd_M_189 : Cond.constantLong "SkinLandsModel" 189 20 ∈ lw_tbl := List.mem_of_getElem? (i := 1096) (by decide +kernel)
theorem zd_M_194 : Cond.constantLong "SkinLandsModel" 194 15 ∈ lw_tbl := List.mem_of_getElem? (i := 1106) (by decide +kernel)
theorem zd_M_196 : Cond.constantLong "SkinLandsModel" 196 2 ∈ lw_tbl := List.mem_of_getElem? (i := 1107) (by decide +kernel)
theorem zd_M_198 : Cond.constantLong "SkinLandsModel" 198 4 ∈ lw_tbl := List.mem_of_getElem? (i := 1116) (by decide +kernel)
theorem zd_M_276 : Cond.constantLong "SkinLandsModel" 276 9 ∈ lw_tbl := List.mem_of_getElem? (i := 1195) (by decide +kernel)
theorem zd_M_291 : Cond.constantLong "SkinLandsModel" 291 (-1) ∈ lw_tbl := List.mem_of_getElem? (i := 1245) (by decide +kernel)
theorem zdT_ok : ∀ q ∈ zdT, Cond.constantLong q.1 q.2.1 q.2.2 ∈ lw_tbl := List.forall_mem_cons.mpr ⟨zd_M_53, List.forall_mem_cons.mpr ⟨zd_M_59, List.forall_mem_cons.mpr ⟨zd_M_80, List.forall_mem_cons.mpr ⟨zd_M_91, List.forall_mem_cons.mpr ⟨zd_M_93, List.forall_mem_cons.mpr ⟨zd_M_122, List.forall_mem_cons.mpr ⟨zd_M_147, List.forall_mem_cons.mpr ⟨zd_M_156, List.forall_mem_cons.mpr ⟨zd_M_161, List.forall_mem_cons.mpr ⟨zd_M_189, List.forall_mem_cons.mpr ⟨zd_M_194, List.forall_mem_cons.mpr ⟨zd_M_196, List.forall_mem_cons.mpr ⟨zd_M_198, List.forall_mem_cons.mpr ⟨zd_M_276, List.forall_mem_cons.mpr ⟨zd_M_291, fun _ h => absurd h List.not_mem_nil⟩⟩⟩⟩⟩⟩⟩⟩⟩⟩⟩⟩⟩⟩⟩
/-- a straight piece of code: instruction, two numbers, a constant, a long constant -/
abbrev bI : Type := Instr × Nat × Nat × Int32 × Int64
def zst (i : bI) (L S : List Value) (h : List sE) (K : List Value → List Value → List sE → Prop) : Prop := match i.1 with
  | .iconst _ => K L (.int i.2.2.2.1 :: S) h
  | .bipush _ => K L (.int i.2.2.2.1 :: S) h
  | .sipush _ => K L (.int i.2.2.2.1 :: S) h
  | .ldc _ => K L (.int i.2.2.2.1 :: S) h
  | .ldc_w _ => K L (.int i.2.2.2.1 :: S) h
  | .lconst _ => K L (.long i.2.2.2.2 :: S) h
  | .ldc2_w _ => K L (.long i.2.2.2.2 :: S) h
  | .iload_n _ => match L[i.2.1]? with
    | some (.int x) => K L (.int x :: S) h
    | _ => False
  | .iload _ => match L[i.2.1]? with
    | some (.int x) => K L (.int x :: S) h
    | _ => False
  | .lload_n _ => match L[i.2.1]? with
    | some (.long x) => K L (.long x :: S) h
    | _ => False
  | .lload _ => match L[i.2.1]? with
    | some (.long x) => K L (.long x :: S) h
    | _ => False
  | .aload_n _ => match L[i.2.1]? with
    | some (.ref x) => K L (.ref x :: S) h
    | _ => False
  | .istore_n _ => match S with
    | .int x :: S => match zok i.2.1 L with
      | true => K (L.set i.2.1 (.int x)) S h
      | false => False
    | _ => False
  | .istore _ => match S with
    | .int x :: S => match zok i.2.1 L with
      | true => K (L.set i.2.1 (.int x)) S h
      | false => False
    | _ => False
  | .lstore_n _ => match S with
    | .long x :: S => match zok i.2.1 L with
      | true => K ((L.set i.2.1 (.long x)).set (i.2.1 + 1) .null) S h
      | false => False
    | _ => False
  | .lstore _ => match S with
    | .long x :: S => match zok i.2.1 L with
      | true => K ((L.set i.2.1 (.long x)).set (i.2.1 + 1) .null) S h
      | false => False
    | _ => False
  | .iinc _ _ => match L[i.2.1]? with
    | some (.int x) => match zok i.2.1 L with
      | true => K (L.set i.2.1 (.int (x + i.2.2.2.1))) S h
      | false => False
    | _ => False
  | .iadd => match S with
    | .int y :: .int x :: S => K L (.int (x + y) :: S) h
    | _ => False
  | .isub => match S with
    | .int y :: .int x :: S => K L (.int (x - y) :: S) h
    | _ => False
  | .imul => match S with
    | .int y :: .int x :: S => K L (.int (x * y) :: S) h
    | _ => False
  | .iand => match S with
    | .int y :: .int x :: S => K L (.int (x &&& y) :: S) h
    | _ => False
  | .ior => match S with
    | .int y :: .int x :: S => K L (.int (x ||| y) :: S) h
    | _ => False
  | .ixor => match S with
    | .int y :: .int x :: S => K L (.int (x ^^^ y) :: S) h
    | _ => False
  | .ishl => match S with
    | .int y :: .int x :: S => K L (.int (zshl x y) :: S) h
    | _ => False
  | .ishr => match S with
    | .int y :: .int x :: S => K L (.int (zshr x y) :: S) h
    | _ => False
  | .iushr => match S with
    | .int y :: .int x :: S => K L (.int (zushr x y) :: S) h
    | _ => False
  | .idiv => match S with
    | .int y :: .int x :: S => ¬ y = 0 ∧ K L (.int (x / y) :: S) h
    | _ => False
  | .irem => match S with
    | .int y :: .int x :: S => ¬ y = 0 ∧ K L (.int (zrem x y) :: S) h
    | _ => False
  | .ineg => match S with
    | .int x :: S => K L (.int (-x) :: S) h
    | _ => False
  | .lmul => match S with
    | .long y :: .long x :: S => K L (.long (x * y) :: S) h
    | _ => False
  | .ldiv => match S with
    | .long y :: .long x :: S => ¬ y = 0 ∧ K L (.long (x / y) :: S) h
    | _ => False
  | .lrem => match S with
    | .long y :: .long x :: S => ¬ y = 0 ∧ K L (.long (zremL x y) :: S) h
    | _ => False
  | .lcmp => match S with
    | .long y :: .long x :: S => K L (.int (lg_cmp x y) :: S) h
    | _ => False
  | .i2l => match S with
    | .int x :: S => K L (.long x.toInt64 :: S) h
    | _ => False
  | .i2b => match S with
    | .int x :: S => K L (.int x.toInt8.toInt32 :: S) h
    | _ => False
  | .i2s => match S with
    | .int x :: S => K L (.int x.toInt16.toInt32 :: S) h
    | _ => False
  | .i2c => match S with
    | .int x :: S => K L (.int (x.toUInt32 % 65536).toInt32 :: S) h
    | _ => False
  | .dup => match S with
    | .int x :: S => K L (.int x :: .int x :: S) h
    | .ref x :: S => K L (.ref x :: .ref x :: S) h
    | _ => False
  | .dup2 => match S with
    | .int x :: .ref y :: S => K L (.int x :: .ref y :: .int x :: .ref y :: S) h
    | _ => False
  | .pop => match S with
    | .int _ :: S => K L S h
    | _ => False
  | .getfield _ => match S with
    | .ref a :: S => match h[a]? with
      | some (.inr (.inr o)) => match Nat.beq o.1 i.2.1 with
        | true => match o.2[i.2.2.1]? with
          | some w => K L (w :: S) h
          | none => False
        | false => False
      | _ => False
    | _ => False
  | .putfield _ => match S with
    | .int x :: .ref a :: S => match h[a]? with
      | some (.inr (.inr o)) => match Nat.beq o.1 i.2.1 with
        | true => match Nat.blt i.2.2.1 o.2.length with
          | true => K L S (h.set a (.inr (.inr (o.1, o.2.set i.2.2.1 (.int x)))))
          | false => False
        | false => False
      | _ => False
    | _ => False
  | .iaload => match S with
    | .int x :: .ref a :: S => match h[a]? with
      | some (.inl o) => vp_in x o.1 ∧ K L (.int (o.2 x.toNatClampNeg) :: S) h
      | _ => False
    | _ => False
  | .iastore => match S with
    | .int y :: .int x :: .ref a :: S => match h[a]? with
      | some (.inl o) => vp_in x o.1 ∧ K L S (h.set a (.inl (o.1, upd o.2 x.toNatClampNeg y)))
      | _ => False
    | _ => False
  | .aaload => match S with
    | .int x :: .ref a :: S => match h[a]? with
      | some (.inr (.inl g)) => vp_in x g.length ∧ match g[x.toNatClampNeg]? with
        | some b => K L (.ref b :: S) h
        | none => False
      | _ => False
    | _ => False
  | _ => False
def zwp : List bI → List Value → List Value → List sE → (List Value → List Value → List sE → Prop) → Prop
  | [], L, S, h, K => K L S h
  | i :: is, L, S, h, K => zst i L S h (fun L S h => zwp is L S h K)
/-- the numbers beside an instruction are right -/
def zsd (own : String) (nL : Nat) (i : bI) : Bool := match i.1 with
  | .iconst n => decide (Int32.ofInt n = i.2.2.2.1)
  | .bipush n => decide ((Int8.ofInt n).toInt32 = i.2.2.2.1)
  | .sipush n => decide ((Int16.ofInt n).toInt32 = i.2.2.2.1)
  | .lconst n => decide (Int64.ofNat (n : Nat) = i.2.2.2.2)
  | .ldc n => zcT.any (fun q => q.1 == own && (q.2.1 == n && q.2.2 == i.2.2.2.1))
  | .ldc_w n => zcT.any (fun q => q.1 == own && (q.2.1 == n && q.2.2 == i.2.2.2.1))
  | .ldc2_w n => zdT.any (fun q => q.1 == own && (q.2.1 == n && q.2.2 == i.2.2.2.2))
  | .iload_n k => (k : Nat) == i.2.1
  | .iload k => k == i.2.1
  | .lload_n k => (k : Nat) == i.2.1
  | .lload k => k == i.2.1
  | .aload_n k => (k : Nat) == i.2.1
  | .istore_n k => (k : Nat) == i.2.1 && decide (i.2.1 < nL)
  | .istore k => k == i.2.1 && decide (i.2.1 < nL)
  | .lstore_n k => (k : Nat) == i.2.1 && decide (i.2.1 + 1 < nL)
  | .lstore k => k == i.2.1 && decide (i.2.1 + 1 < nL)
  | .iinc k n => k == i.2.1 && (decide (i.2.1 < nL) && decide (Int32.ofInt n = i.2.2.2.1))
  | .getfield n => zfT.any (fun q => q.1 == own && (q.2.1 == n && (q.2.2.1 == i.2.1 && q.2.2.2 == i.2.2.1)))
  | .putfield n => zfT.any (fun q => q.1 == own && (q.2.1 == n && (q.2.2.1 == i.2.1 && q.2.2.2 == i.2.2.1))) && zpT.any (fun q => q.1 == i.2.1 && q.2 == i.2.2.1)
  | _ => true
/-- how long an instruction is -/
def zln : Instr → Nat
  | .bipush _ => 2
  | .sipush _ => 3
  | .ldc _ => 2
  | .ldc_w _ => 3
  | .ldc2_w _ => 3
  | .iload _ => 2
  | .lload _ => 2
  | .istore _ => 2
  | .lstore _ => 2
  | .iinc _ _ => 3
  | .getfield _ => 3
  | .putfield _ => 3
  | _ => 1
def zck (own : String) (nL : Nat) (cc : ByteArray) : Nat → List bI → Option Nat
  | pc, [] => some pc
  | pc, i :: is => match decode cc pc with
    | .ok (j, n) => if j = i.1 ∧ n = zln i.1 ∧ zsd own nL i = true then zck own nL cc (pc + n) is else none
    | .error _ => none
set_option maxHeartbeats 2000000 in
theorem V.one {M : MI} {pc : Nat} {L S : List Value} {h : List sE} {Q : Option Value → List sE → Prop} {i : bI} (hd : decode M.2.1 pc = .ok (i.1, zln i.1)) (hz : zsd M.1.cls M.2.2.1 i = true) {K : List Value → List Value → List sE → Prop} (hK : ∀ L S h, K L S h → V M (pc + zln i.1) L S h Q) (k : zst i L S h K) : V M pc L S h Q := by
  obtain ⟨ins, a, b, z, w⟩ := i
  cases ins
  case iconst n =>
    have e : Int32.ofInt n = z := of_decide_eq_true hz
    subst e
    exact V.iconst hd (hK _ _ _ k)
  case bipush n =>
    have e : (Int8.ofInt n).toInt32 = z := of_decide_eq_true hz
    subst e
    exact V.bipush hd (hK _ _ _ k)
  case sipush n =>
    have e : (Int16.ofInt n).toInt32 = z := of_decide_eq_true hz
    subst e
    exact V.sipush hd (hK _ _ _ k)
  case lconst n =>
    have e : Int64.ofNat (n : Nat) = w := of_decide_eq_true hz
    subst e
    exact V.lconst hd (hK _ _ _ k)
  case ldc n =>
    obtain ⟨q, hq, hz⟩ := List.any_eq_true.mp (show zcT.any (fun q => q.1 == M.1.cls && (q.2.1 == n && q.2.2 == z)) = true from hz)
    simp only [Bool.and_eq_true, beq_iff_eq] at hz
    obtain ⟨e1, e2, e3⟩ := hz
    have h1 := zcT_ok q hq
    rw [e1, e2, e3] at h1
    exact V.ldc hd h1 (hK _ _ _ k)
  case ldc_w n =>
    obtain ⟨q, hq, hz⟩ := List.any_eq_true.mp (show zcT.any (fun q => q.1 == M.1.cls && (q.2.1 == n && q.2.2 == z)) = true from hz)
    simp only [Bool.and_eq_true, beq_iff_eq] at hz
    obtain ⟨e1, e2, e3⟩ := hz
    have h1 := zcT_ok q hq
    rw [e1, e2, e3] at h1
    exact V.ldcw hd h1 (hK _ _ _ k)
  case ldc2_w n =>
    obtain ⟨q, hq, hz⟩ := List.any_eq_true.mp (show zdT.any (fun q => q.1 == M.1.cls && (q.2.1 == n && q.2.2 == w)) = true from hz)
    simp only [Bool.and_eq_true, beq_iff_eq] at hz
    obtain ⟨e1, e2, e3⟩ := hz
    have h1 := zdT_ok q hq
    rw [e1, e2, e3] at h1
    exact V.ldc2 hd h1 (hK _ _ _ k)
  case iload_n n =>
    have e : (n : Nat) = a := beq_iff_eq.mp hz
    subst e
    cases hl : L[(n : Nat)]? with
    | none => exact False.elim (by unfold zst at k; dsimp only at k; rw [hl] at k; exact k)
    | some v =>
      unfold zst at k
      dsimp only at k
      rw [hl] at k
      cases v <;> first | exact False.elim k | exact V.iload_n hd hl (hK _ _ _ k)
  case iload n =>
    have e : n = a := beq_iff_eq.mp hz
    subst e
    cases hl : L[n]? with
    | none => exact False.elim (by unfold zst at k; dsimp only at k; rw [hl] at k; exact k)
    | some v =>
      unfold zst at k
      dsimp only at k
      rw [hl] at k
      cases v <;> first | exact False.elim k | exact V.iload hd hl (hK _ _ _ k)
  case lload_n n =>
    have e : (n : Nat) = a := beq_iff_eq.mp hz
    subst e
    cases hl : L[(n : Nat)]? with
    | none => exact False.elim (by unfold zst at k; dsimp only at k; rw [hl] at k; exact k)
    | some v =>
      unfold zst at k
      dsimp only at k
      rw [hl] at k
      cases v <;> first | exact False.elim k | exact V.lload_n hd hl (hK _ _ _ k)
  case lload n =>
    have e : n = a := beq_iff_eq.mp hz
    subst e
    cases hl : L[n]? with
    | none => exact False.elim (by unfold zst at k; dsimp only at k; rw [hl] at k; exact k)
    | some v =>
      unfold zst at k
      dsimp only at k
      rw [hl] at k
      cases v <;> first | exact False.elim k | exact V.lload hd hl (hK _ _ _ k)
  case aload_n n =>
    have e : (n : Nat) = a := beq_iff_eq.mp hz
    subst e
    cases hl : L[(n : Nat)]? with
    | none => exact False.elim (by unfold zst at k; dsimp only at k; rw [hl] at k; exact k)
    | some v =>
      unfold zst at k
      dsimp only at k
      rw [hl] at k
      cases v <;> first | exact False.elim k | exact V.aload_n hd hl (hK _ _ _ k)
  case istore_n n =>
    have hz : ((n : Nat) == a && decide (a < M.2.2.1)) = true := hz
    rw [Bool.and_eq_true] at hz
    have e : (n : Nat) = a := beq_iff_eq.mp hz.1
    have e2 : a < M.2.2.1 := of_decide_eq_true hz.2
    subst e
    rcases S with _ | ⟨v, S⟩
    · exact False.elim k
    · cases v <;> first | exact False.elim k | skip
      cases ho : zok (n : Nat) L with
      | false => exact False.elim (by unfold zst at k; dsimp only at k; rw [ho] at k; exact k)
      | true =>
        unfold zst at k
        dsimp only at k
        rw [ho] at k
        exact V.istore_n hd e2 ho (hK _ _ _ k)
  case istore n =>
    have hz : (n == a && decide (a < M.2.2.1)) = true := hz
    rw [Bool.and_eq_true] at hz
    have e : n = a := beq_iff_eq.mp hz.1
    have e2 : a < M.2.2.1 := of_decide_eq_true hz.2
    subst e
    rcases S with _ | ⟨v, S⟩
    · exact False.elim k
    · cases v <;> first | exact False.elim k | skip
      cases ho : zok n L with
      | false => exact False.elim (by unfold zst at k; dsimp only at k; rw [ho] at k; exact k)
      | true =>
        unfold zst at k
        dsimp only at k
        rw [ho] at k
        exact V.istore hd e2 ho (hK _ _ _ k)
  case lstore_n n =>
    have hz : ((n : Nat) == a && decide (a + 1 < M.2.2.1)) = true := hz
    rw [Bool.and_eq_true] at hz
    have e : (n : Nat) = a := beq_iff_eq.mp hz.1
    have e2 : a + 1 < M.2.2.1 := of_decide_eq_true hz.2
    subst e
    rcases S with _ | ⟨v, S⟩
    · exact False.elim k
    · cases v <;> first | exact False.elim k | skip
      cases ho : zok (n : Nat) L with
      | false => exact False.elim (by unfold zst at k; dsimp only at k; rw [ho] at k; exact k)
      | true =>
        unfold zst at k
        dsimp only at k
        rw [ho] at k
        exact V.lstore_n hd e2 ho (hK _ _ _ k)
  case lstore n =>
    have hz : (n == a && decide (a + 1 < M.2.2.1)) = true := hz
    rw [Bool.and_eq_true] at hz
    have e : n = a := beq_iff_eq.mp hz.1
    have e2 : a + 1 < M.2.2.1 := of_decide_eq_true hz.2
    subst e
    rcases S with _ | ⟨v, S⟩
    · exact False.elim k
    · cases v <;> first | exact False.elim k | skip
      cases ho : zok n L with
      | false => exact False.elim (by unfold zst at k; dsimp only at k; rw [ho] at k; exact k)
      | true =>
        unfold zst at k
        dsimp only at k
        rw [ho] at k
        exact V.lstore hd e2 ho (hK _ _ _ k)
  case iinc n m =>
    have hz : (n == a && (decide (a < M.2.2.1) && decide (Int32.ofInt m = z))) = true := hz
    rw [Bool.and_eq_true, Bool.and_eq_true] at hz
    have e : n = a := beq_iff_eq.mp hz.1
    have e2 : a < M.2.2.1 := of_decide_eq_true hz.2.1
    have e3 : Int32.ofInt m = z := of_decide_eq_true hz.2.2
    subst e
    subst e3
    cases hl : L[n]? with
    | none => exact False.elim (by unfold zst at k; dsimp only at k; rw [hl] at k; exact k)
    | some v =>
      unfold zst at k
      dsimp only at k
      rw [hl] at k
      cases v <;> first | exact False.elim k | skip
      dsimp only at k
      cases ho : zok n L with
      | false => exact False.elim (by rw [ho] at k; exact k)
      | true =>
        rw [ho] at k
        exact V.iinc hd e2 ho hl (hK _ _ _ k)
  case iadd =>
    rcases S with _ | ⟨v1, _ | ⟨v2, S⟩⟩
    · exact False.elim k
    · cases v1 <;> exact False.elim k
    · cases v1 <;> cases v2 <;> first | exact False.elim k | exact V.iadd hd (hK _ _ _ k)
  case isub =>
    rcases S with _ | ⟨v1, _ | ⟨v2, S⟩⟩
    · exact False.elim k
    · cases v1 <;> exact False.elim k
    · cases v1 <;> cases v2 <;> first | exact False.elim k | exact V.isub hd (hK _ _ _ k)
  case imul =>
    rcases S with _ | ⟨v1, _ | ⟨v2, S⟩⟩
    · exact False.elim k
    · cases v1 <;> exact False.elim k
    · cases v1 <;> cases v2 <;> first | exact False.elim k | exact V.imul hd (hK _ _ _ k)
  case iand =>
    rcases S with _ | ⟨v1, _ | ⟨v2, S⟩⟩
    · exact False.elim k
    · cases v1 <;> exact False.elim k
    · cases v1 <;> cases v2 <;> first | exact False.elim k | exact V.iand hd (hK _ _ _ k)
  case ior =>
    rcases S with _ | ⟨v1, _ | ⟨v2, S⟩⟩
    · exact False.elim k
    · cases v1 <;> exact False.elim k
    · cases v1 <;> cases v2 <;> first | exact False.elim k | exact V.ior hd (hK _ _ _ k)
  case ixor =>
    rcases S with _ | ⟨v1, _ | ⟨v2, S⟩⟩
    · exact False.elim k
    · cases v1 <;> exact False.elim k
    · cases v1 <;> cases v2 <;> first | exact False.elim k | exact V.ixor hd (hK _ _ _ k)
  case ishl =>
    rcases S with _ | ⟨v1, _ | ⟨v2, S⟩⟩
    · exact False.elim k
    · cases v1 <;> exact False.elim k
    · cases v1 <;> cases v2 <;> first | exact False.elim k | exact V.ishl hd (hK _ _ _ k)
  case ishr =>
    rcases S with _ | ⟨v1, _ | ⟨v2, S⟩⟩
    · exact False.elim k
    · cases v1 <;> exact False.elim k
    · cases v1 <;> cases v2 <;> first | exact False.elim k | exact V.ishr hd (hK _ _ _ k)
  case iushr =>
    rcases S with _ | ⟨v1, _ | ⟨v2, S⟩⟩
    · exact False.elim k
    · cases v1 <;> exact False.elim k
    · cases v1 <;> cases v2 <;> first | exact False.elim k | exact V.iushr hd (hK _ _ _ k)
  case idiv =>
    rcases S with _ | ⟨v1, _ | ⟨v2, S⟩⟩
    · exact False.elim k
    · cases v1 <;> exact False.elim k
    · cases v1 <;> cases v2 <;> first | exact False.elim k | exact V.idiv hd k.1 (hK _ _ _ k.2)
  case irem =>
    rcases S with _ | ⟨v1, _ | ⟨v2, S⟩⟩
    · exact False.elim k
    · cases v1 <;> exact False.elim k
    · cases v1 <;> cases v2 <;> first | exact False.elim k | exact V.irem hd k.1 (hK _ _ _ k.2)
  case ldiv =>
    rcases S with _ | ⟨v1, _ | ⟨v2, S⟩⟩
    · exact False.elim k
    · cases v1 <;> exact False.elim k
    · cases v1 <;> cases v2 <;> first | exact False.elim k | exact V.ldiv hd k.1 (hK _ _ _ k.2)
  case lrem =>
    rcases S with _ | ⟨v1, _ | ⟨v2, S⟩⟩
    · exact False.elim k
    · cases v1 <;> exact False.elim k
    · cases v1 <;> cases v2 <;> first | exact False.elim k | exact V.lrem hd k.1 (hK _ _ _ k.2)
  case lmul =>
    rcases S with _ | ⟨v1, _ | ⟨v2, S⟩⟩
    · exact False.elim k
    · cases v1 <;> exact False.elim k
    · cases v1 <;> cases v2 <;> first | exact False.elim k | exact V.lmul hd (hK _ _ _ k)
  case lcmp =>
    rcases S with _ | ⟨v1, _ | ⟨v2, S⟩⟩
    · exact False.elim k
    · cases v1 <;> exact False.elim k
    · cases v1 <;> cases v2 <;> first | exact False.elim k | exact V.lcmp hd (hK _ _ _ k)
  case ineg =>
    rcases S with _ | ⟨v1, S⟩
    · exact False.elim k
    · cases v1 <;> first | exact False.elim k | exact V.ineg hd (hK _ _ _ k)
  case i2l =>
    rcases S with _ | ⟨v1, S⟩
    · exact False.elim k
    · cases v1 <;> first | exact False.elim k | exact V.i2l hd (hK _ _ _ k)
  case i2b =>
    rcases S with _ | ⟨v1, S⟩
    · exact False.elim k
    · cases v1 <;> first | exact False.elim k | exact V.i2b hd (hK _ _ _ k)
  case i2s =>
    rcases S with _ | ⟨v1, S⟩
    · exact False.elim k
    · cases v1 <;> first | exact False.elim k | exact V.i2s hd (hK _ _ _ k)
  case i2c =>
    rcases S with _ | ⟨v1, S⟩
    · exact False.elim k
    · cases v1 <;> first | exact False.elim k | exact V.i2c hd (hK _ _ _ k)
  case dup =>
    rcases S with _ | ⟨v1, S⟩
    · exact False.elim k
    · cases v1 <;> first | exact False.elim k | exact V.dup hd rfl (hK _ _ _ k)
  case pop =>
    rcases S with _ | ⟨v1, S⟩
    · exact False.elim k
    · cases v1 <;> first | exact False.elim k | exact V.pop hd rfl (hK _ _ _ k)
  case dup2 =>
    rcases S with _ | ⟨v1, _ | ⟨v2, S⟩⟩
    · exact False.elim k
    · cases v1 <;> exact False.elim k
    · cases v1 <;> cases v2 <;> first | exact False.elim k | exact V.dup2 hd rfl rfl (hK _ _ _ k)
  case getfield n =>
    obtain ⟨q, hq, hz⟩ := List.any_eq_true.mp (show zfT.any (fun q => q.1 == M.1.cls && (q.2.1 == n && (q.2.2.1 == a && q.2.2.2 == b))) = true from hz)
    simp only [Bool.and_eq_true, beq_iff_eq] at hz
    obtain ⟨e1, e2, e3, e4⟩ := hz
    have h1 := zfT_ok q hq
    rw [e1, e2, e3, e4] at h1
    rcases S with _ | ⟨v1, S⟩
    · exact False.elim k
    · cases v1 <;> first | exact False.elim k | skip
      rename_i a1
      cases hl : h[a1]? with
      | none => exact False.elim (by unfold zst at k; dsimp only at k; rw [hl] at k; exact k)
      | some v =>
        unfold zst at k
        dsimp only at k
        rw [hl] at k
        rcases v with x | x | ⟨ci, fs⟩
        · exact False.elim k
        · exact False.elim k
        · dsimp only at k
          cases hb : Nat.beq ci a with
          | false => exact False.elim (by rw [hb] at k; exact k)
          | true =>
            rw [hb] at k
            have e5 := Nat.eq_of_beq_eq_true hb
            subst e5
            dsimp only at k
            cases hw : fs[b]? with
            | none => exact False.elim (by rw [hw] at k; exact k)
            | some w2 =>
              rw [hw] at k
              exact V.getfield hd h1 hl hw (hK _ _ _ k)
  case putfield n =>
    have hz : (zfT.any (fun q => q.1 == M.1.cls && (q.2.1 == n && (q.2.2.1 == a && q.2.2.2 == b))) && zpT.any (fun q => q.1 == a && q.2 == b)) = true := hz
    rw [Bool.and_eq_true] at hz
    obtain ⟨hz, hz2⟩ := hz
    obtain ⟨q, hq, hz⟩ := List.any_eq_true.mp hz
    simp only [Bool.and_eq_true, beq_iff_eq] at hz
    obtain ⟨e1, e2, e3, e4⟩ := hz
    have h1 := zfT_ok q hq
    rw [e1, e2, e3, e4] at h1
    obtain ⟨q2, hq2, hz2⟩ := List.any_eq_true.mp hz2
    simp only [Bool.and_eq_true, beq_iff_eq] at hz2
    have h2 := zpT_ok q2 hq2
    rw [hz2.1, hz2.2] at h2
    rcases S with _ | ⟨v1, _ | ⟨v2, S⟩⟩
    · exact False.elim k
    · cases v1 <;> exact False.elim k
    · cases v1 <;> cases v2 <;> first | exact False.elim k | skip
      rename_i x a1
      cases hl : h[a1]? with
      | none => exact False.elim (by unfold zst at k; dsimp only at k; rw [hl] at k; exact k)
      | some v =>
        unfold zst at k
        dsimp only at k
        rw [hl] at k
        rcases v with x | x | ⟨ci, fs⟩
        · exact False.elim k
        · exact False.elim k
        · dsimp only at k
          cases hb : Nat.beq ci a with
          | false => exact False.elim (by rw [hb] at k; exact k)
          | true =>
            rw [hb] at k
            have e5 := Nat.eq_of_beq_eq_true hb
            subst e5
            dsimp only at k
            cases hw : Nat.blt b fs.length with
            | false => exact False.elim (by rw [hw] at k; exact k)
            | true =>
              rw [hw] at k
              exact V.putfield hd h1 h2 hl (Nat.blt_eq.mp hw) rfl rfl (hK _ _ _ k)
  case iaload =>
    rcases S with _ | ⟨v1, _ | ⟨v2, S⟩⟩
    · exact False.elim k
    · cases v1 <;> exact False.elim k
    · cases v1 <;> cases v2 <;> first | exact False.elim k | skip
      rename_i x a1
      cases hl : h[a1]? with
      | none => exact False.elim (by unfold zst at k; dsimp only at k; rw [hl] at k; exact k)
      | some v =>
        unfold zst at k
        dsimp only at k
        rw [hl] at k
        rcases v with ⟨n, f⟩ | x | x
        · exact V.iaload hd hl k.1 (hK _ _ _ k.2)
        · exact False.elim k
        · exact False.elim k
  case iastore =>
    rcases S with _ | ⟨v1, _ | ⟨v2, _ | ⟨v3, S⟩⟩⟩
    · exact False.elim k
    · cases v1 <;> exact False.elim k
    · cases v1 <;> cases v2 <;> exact False.elim k
    · cases v1 <;> cases v2 <;> first | exact False.elim k | skip
      cases v3 <;> first | exact False.elim k | skip
      rename_i y x a1
      cases hl : h[a1]? with
      | none => exact False.elim (by unfold zst at k; dsimp only at k; rw [hl] at k; exact k)
      | some v =>
        unfold zst at k
        dsimp only at k
        rw [hl] at k
        rcases v with ⟨n, f⟩ | x | x
        · exact V.iastore hd hl k.1 (hK _ _ _ k.2)
        · exact False.elim k
        · exact False.elim k
  case aaload =>
    rcases S with _ | ⟨v1, _ | ⟨v2, S⟩⟩
    · exact False.elim k
    · cases v1 <;> exact False.elim k
    · cases v1 <;> cases v2 <;> first | exact False.elim k | skip
      rename_i x a1
      cases hl : h[a1]? with
      | none => exact False.elim (by unfold zst at k; dsimp only at k; rw [hl] at k; exact k)
      | some v =>
        unfold zst at k
        dsimp only at k
        rw [hl] at k
        rcases v with x2 | g | x2
        · exact False.elim k
        · dsimp only at k
          obtain ⟨k1, k2⟩ := k
          cases hw : g[x.toNatClampNeg]? with
          | none => exact False.elim (by rw [hw] at k2; exact k2)
          | some b2 =>
            rw [hw] at k2
            exact V.aaload hd hl k1 hw (hK _ _ _ k2)
        · exact False.elim k
  all_goals exact False.elim k
theorem V.blk {M : MI} {Q : Option Value → List sE → Prop} {K : List Value → List Value → List sE → Prop} {pc' : Nat} : ∀ (is : List bI) {pc : Nat} {L S : List Value} {h : List sE}, zck M.1.cls M.2.2.1 M.2.1 pc is = some pc' → (∀ L S h, K L S h → V M pc' L S h Q) → zwp is L S h K → V M pc L S h Q
  | [], pc, L, S, h, hk, hK, k => by
    cases hk
    exact hK _ _ _ k
  | i :: is, pc, L, S, h, hk, hK, k => by
    unfold zck at hk
    cases hd : decode M.2.1 pc with
    | error x => rw [hd] at hk; cases hk
    | ok q =>
      obtain ⟨j, n⟩ := q
      rw [hd] at hk
      dsimp only at hk
      split at hk
      · rename_i hc
        obtain ⟨h1, h2, h3⟩ := hc
        subst h1
        subst h2
        exact V.one hd h3 (fun L S h hh => V.blk is hk hK hh) k
      · cases hk
