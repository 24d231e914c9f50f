theorem fl_ReturnDesk_11 : FL "ReturnDesk" 11 10 0 := ⟨by decide, by decide +kernel, List.mem_of_getElem? (i := 169) (by decide +kernel)⟩
theorem fl_ReturnDesk_17 : FL "ReturnDesk" 17 10 1 := ⟨by decide, by decide +kernel, List.mem_of_getElem? (i := 170) (by decide +kernel)⟩
theorem fl_ReturnDesk_23 : FL "ReturnDesk" 23 10 2 := ⟨by decide, by decide +kernel, List.mem_of_getElem? (i := 171) (by decide +kernel)⟩
theorem fl_ReturnDesk_29 : FL "ReturnDesk" 29 10 3 := ⟨by decide, by decide +kernel, List.mem_of_getElem? (i := 172) (by decide +kernel)⟩
theorem fl_ReturnDesk_35 : FL "ReturnDesk" 35 10 4 := ⟨by decide, by decide +kernel, List.mem_of_getElem? (i := 173) (by decide +kernel)⟩
theorem fl_Purse_9 : FL "ReturnDesk$Purse" 9 5 0 := ⟨by decide, by decide +kernel, List.mem_of_getElem? (i := 44) (by decide +kernel)⟩
theorem fl_ReturnDesk_42 : FL "ReturnDesk" 42 10 5 := ⟨by decide, by decide +kernel, List.mem_of_getElem? (i := 174) (by decide +kernel)⟩
theorem fl_Tape_9 : FL "ReturnDesk$Tape" 9 8 0 := ⟨by decide, by decide +kernel, List.mem_of_getElem? (i := 78) (by decide +kernel)⟩
theorem fl_Tape_15 : FL "ReturnDesk$Tape" 15 8 2 := ⟨by decide, by decide +kernel, List.mem_of_getElem? (i := 82) (by decide +kernel)⟩
theorem fl_Tape_18 : FL "ReturnDesk$Tape" 18 8 3 := ⟨by decide, by decide +kernel, List.mem_of_getElem? (i := 84) (by decide +kernel)⟩
theorem fl_Tape_21 : FL "ReturnDesk$Tape" 21 8 4 := ⟨by decide, by decide +kernel, List.mem_of_getElem? (i := 86) (by decide +kernel)⟩
theorem fl_Reader_12 : FL "ReturnDesk$Reader" 12 6 0 := ⟨by decide, by decide +kernel, List.mem_of_getElem? (i := 103) (by decide +kernel)⟩
theorem fl_Reader_18 : FL "ReturnDesk$Reader" 18 6 1 := ⟨by decide, by decide +kernel, List.mem_of_getElem? (i := 105) (by decide +kernel)⟩
theorem fl_Reader_22 : FL "ReturnDesk$Reader" 22 6 4 := ⟨by decide, by decide +kernel, List.mem_of_getElem? (i := 108) (by decide +kernel)⟩
theorem fl_ReturnDesk_49 : FL "ReturnDesk" 49 10 6 := ⟨by decide, by decide +kernel, List.mem_of_getElem? (i := 175) (by decide +kernel)⟩
theorem fl_ReturnDesk_53 : FL "ReturnDesk" 53 6 0 := ⟨by decide, by decide +kernel, List.mem_of_getElem? (i := 104) (by decide +kernel)⟩
theorem fl_ReturnDesk_57 : FL "ReturnDesk" 57 10 7 := ⟨by decide, by decide +kernel, List.mem_of_getElem? (i := 176) (by decide +kernel)⟩
theorem fl_Machine_9 : FL "ReturnDesk$Machine" 9 3 0 := ⟨by decide, by decide +kernel, List.mem_of_getElem? (i := 126) (by decide +kernel)⟩
theorem fl_Machine_15 : FL "ReturnDesk$Machine" 15 3 1 := ⟨by decide, by decide +kernel, List.mem_of_getElem? (i := 127) (by decide +kernel)⟩
theorem fl_ReturnDesk_61 : FL "ReturnDesk" 61 10 8 := ⟨by decide, by decide +kernel, List.mem_of_getElem? (i := 177) (by decide +kernel)⟩
theorem fl_ReturnDesk_68 : FL "ReturnDesk" 68 10 9 := ⟨by decide, by decide +kernel, List.mem_of_getElem? (i := 178) (by decide +kernel)⟩
theorem fl_ReturnDesk_72 : FL "ReturnDesk" 72 10 10 := ⟨by decide, by decide +kernel, List.mem_of_getElem? (i := 179) (by decide +kernel)⟩
theorem fl_ReturnDeskModel_7 : FL "ReturnDeskModel" 7 11 4 := ⟨by decide, by decide +kernel, List.mem_of_getElem? (i := 1180) (by decide +kernel)⟩
theorem fl_ReturnDeskModel_13 : FL "ReturnDeskModel" 13 11 5 := ⟨by decide, by decide +kernel, List.mem_of_getElem? (i := 1181) (by decide +kernel)⟩
theorem fl_ReturnDeskModel_16 : FL "ReturnDeskModel" 16 11 6 := ⟨by decide, by decide +kernel, List.mem_of_getElem? (i := 1182) (by decide +kernel)⟩
theorem fl_ReturnDeskModel_19 : FL "ReturnDeskModel" 19 11 7 := ⟨by decide, by decide +kernel, List.mem_of_getElem? (i := 1183) (by decide +kernel)⟩
theorem fl_ReturnDeskModel_22 : FL "ReturnDeskModel" 22 11 8 := ⟨by decide, by decide +kernel, List.mem_of_getElem? (i := 1184) (by decide +kernel)⟩
theorem fl_ReturnDeskModel_25 : FL "ReturnDeskModel" 25 11 9 := ⟨by decide, by decide +kernel, List.mem_of_getElem? (i := 1185) (by decide +kernel)⟩
theorem fl_ReturnDeskModel_28 : FL "ReturnDeskModel" 28 11 10 := ⟨by decide, by decide +kernel, List.mem_of_getElem? (i := 1186) (by decide +kernel)⟩
theorem fl_ReturnDeskModel_31 : FL "ReturnDeskModel" 31 11 11 := ⟨by decide, by decide +kernel, List.mem_of_getElem? (i := 1187) (by decide +kernel)⟩
theorem fl_ReturnDeskModel_34 : FL "ReturnDeskModel" 34 11 12 := ⟨by decide, by decide +kernel, List.mem_of_getElem? (i := 1188) (by decide +kernel)⟩
theorem fl_ReturnDeskModel_37 : FL "ReturnDeskModel" 37 11 13 := ⟨by decide, by decide +kernel, List.mem_of_getElem? (i := 1189) (by decide +kernel)⟩
theorem fl_ReturnDeskModel_40 : FL "ReturnDeskModel" 40 11 15 := ⟨by decide, by decide +kernel, List.mem_of_getElem? (i := 1191) (by decide +kernel)⟩
theorem fl_ReturnDeskModel_43 : FL "ReturnDeskModel" 43 11 16 := ⟨by decide, by decide +kernel, List.mem_of_getElem? (i := 1192) (by decide +kernel)⟩
theorem fl_ReturnDeskModel_46 : FL "ReturnDeskModel" 46 11 17 := ⟨by decide, by decide +kernel, List.mem_of_getElem? (i := 1193) (by decide +kernel)⟩
theorem fl_ReturnDeskModel_50 : FL "ReturnDeskModel" 50 11 19 := ⟨by decide, by decide +kernel, List.mem_of_getElem? (i := 1195) (by decide +kernel)⟩
theorem fl_ReturnDeskModel_53 : FL "ReturnDeskModel" 53 11 20 := ⟨by decide, by decide +kernel, List.mem_of_getElem? (i := 1196) (by decide +kernel)⟩
theorem fl_ReturnDeskModel_56 : FL "ReturnDeskModel" 56 11 21 := ⟨by decide, by decide +kernel, List.mem_of_getElem? (i := 1197) (by decide +kernel)⟩
theorem fl_ReturnDeskModel_59 : FL "ReturnDeskModel" 59 11 23 := ⟨by decide, by decide +kernel, List.mem_of_getElem? (i := 1199) (by decide +kernel)⟩
theorem fl_ReturnDeskModel_62 : FL "ReturnDeskModel" 62 11 24 := ⟨by decide, by decide +kernel, List.mem_of_getElem? (i := 1200) (by decide +kernel)⟩
theorem fl_ReturnDeskModel_65 : FL "ReturnDeskModel" 65 11 25 := ⟨by decide, by decide +kernel, List.mem_of_getElem? (i := 1201) (by decide +kernel)⟩
theorem fl_ReturnDeskModel_68 : FL "ReturnDeskModel" 68 11 26 := ⟨by decide, by decide +kernel, List.mem_of_getElem? (i := 1202) (by decide +kernel)⟩
theorem fl_ReturnDeskModel_71 : FL "ReturnDeskModel" 71 11 27 := ⟨by decide, by decide +kernel, List.mem_of_getElem? (i := 1203) (by decide +kernel)⟩
theorem fl_ReturnDeskModel_74 : FL "ReturnDeskModel" 74 11 28 := ⟨by decide, by decide +kernel, List.mem_of_getElem? (i := 1204) (by decide +kernel)⟩
theorem fl_ReturnDeskModel_77 : FL "ReturnDeskModel" 77 11 29 := ⟨by decide, by decide +kernel, List.mem_of_getElem? (i := 1205) (by decide +kernel)⟩
theorem fl_ReturnDeskModel_80 : FL "ReturnDeskModel" 80 11 30 := ⟨by decide, by decide +kernel, List.mem_of_getElem? (i := 1206) (by decide +kernel)⟩
theorem fl_ReturnDeskModel_83 : FL "ReturnDeskModel" 83 11 31 := ⟨by decide, by decide +kernel, List.mem_of_getElem? (i := 1207) (by decide +kernel)⟩
theorem fl_ReturnDeskModel_86 : FL "ReturnDeskModel" 86 11 32 := ⟨by decide, by decide +kernel, List.mem_of_getElem? (i := 1208) (by decide +kernel)⟩
theorem fl_ReturnDeskModel_89 : FL "ReturnDeskModel" 89 11 33 := ⟨by decide, by decide +kernel, List.mem_of_getElem? (i := 1209) (by decide +kernel)⟩
theorem fl_ReturnDeskModel_92 : FL "ReturnDeskModel" 92 11 34 := ⟨by decide, by decide +kernel, List.mem_of_getElem? (i := 1210) (by decide +kernel)⟩
theorem fl_ReturnDeskModel_95 : FL "ReturnDeskModel" 95 11 35 := ⟨by decide, by decide +kernel, List.mem_of_getElem? (i := 1211) (by decide +kernel)⟩
theorem fl_ReturnDeskModel_98 : FL "ReturnDeskModel" 98 11 36 := ⟨by decide, by decide +kernel, List.mem_of_getElem? (i := 1212) (by decide +kernel)⟩
theorem fl_ReturnDeskModel_101 : FL "ReturnDeskModel" 101 11 37 := ⟨by decide, by decide +kernel, List.mem_of_getElem? (i := 1213) (by decide +kernel)⟩
theorem fl_ReturnDeskModel_104 : FL "ReturnDeskModel" 104 11 38 := ⟨by decide, by decide +kernel, List.mem_of_getElem? (i := 1214) (by decide +kernel)⟩
theorem fl_ReturnDeskModel_107 : FL "ReturnDeskModel" 107 11 39 := ⟨by decide, by decide +kernel, List.mem_of_getElem? (i := 1215) (by decide +kernel)⟩
theorem fl_ReturnDeskModel_110 : FL "ReturnDeskModel" 110 11 40 := ⟨by decide, by decide +kernel, List.mem_of_getElem? (i := 1216) (by decide +kernel)⟩
theorem fl_ReturnDeskModel_114 : FL "ReturnDeskModel" 114 11 43 := ⟨by decide, by decide +kernel, List.mem_of_getElem? (i := 1219) (by decide +kernel)⟩
theorem fl_ReturnDeskModel_117 : FL "ReturnDeskModel" 117 11 44 := ⟨by decide, by decide +kernel, List.mem_of_getElem? (i := 1220) (by decide +kernel)⟩
theorem fl_ReturnDeskModel_120 : FL "ReturnDeskModel" 120 11 45 := ⟨by decide, by decide +kernel, List.mem_of_getElem? (i := 1221) (by decide +kernel)⟩
theorem fl_ReturnDeskModel_123 : FL "ReturnDeskModel" 123 11 46 := ⟨by decide, by decide +kernel, List.mem_of_getElem? (i := 1222) (by decide +kernel)⟩
theorem fl_ReturnDeskModel_126 : FL "ReturnDeskModel" 126 11 47 := ⟨by decide, by decide +kernel, List.mem_of_getElem? (i := 1223) (by decide +kernel)⟩
theorem fl_ReturnDeskModel_129 : FL "ReturnDeskModel" 129 11 48 := ⟨by decide, by decide +kernel, List.mem_of_getElem? (i := 1224) (by decide +kernel)⟩
theorem fl_ReturnDeskModel_132 : FL "ReturnDeskModel" 132 11 58 := ⟨by decide, by decide +kernel, List.mem_of_getElem? (i := 1234) (by decide +kernel)⟩
theorem fl_ReturnDeskModel_135 : FL "ReturnDeskModel" 135 11 59 := ⟨by decide, by decide +kernel, List.mem_of_getElem? (i := 1235) (by decide +kernel)⟩
theorem fl_ReturnDeskModel_138 : FL "ReturnDeskModel" 138 11 61 := ⟨by decide, by decide +kernel, List.mem_of_getElem? (i := 1237) (by decide +kernel)⟩
theorem fl_ReturnDeskModel_141 : FL "ReturnDeskModel" 141 11 62 := ⟨by decide, by decide +kernel, List.mem_of_getElem? (i := 1238) (by decide +kernel)⟩
theorem fl_ReturnDeskModel_144 : FL "ReturnDeskModel" 144 11 63 := ⟨by decide, by decide +kernel, List.mem_of_getElem? (i := 1239) (by decide +kernel)⟩
theorem fl_ReturnDeskModel_147 : FL "ReturnDeskModel" 147 11 64 := ⟨by decide, by decide +kernel, List.mem_of_getElem? (i := 1240) (by decide +kernel)⟩
theorem fl_ReturnDeskModel_150 : FL "ReturnDeskModel" 150 11 65 := ⟨by decide, by decide +kernel, List.mem_of_getElem? (i := 1241) (by decide +kernel)⟩
theorem fl_ReturnDeskModel_153 : FL "ReturnDeskModel" 153 11 66 := ⟨by decide, by decide +kernel, List.mem_of_getElem? (i := 1242) (by decide +kernel)⟩
theorem fl_ReturnDeskModel_156 : FL "ReturnDeskModel" 156 11 67 := ⟨by decide, by decide +kernel, List.mem_of_getElem? (i := 1243) (by decide +kernel)⟩
theorem fl_ReturnDeskModel_159 : FL "ReturnDeskModel" 159 11 68 := ⟨by decide, by decide +kernel, List.mem_of_getElem? (i := 1244) (by decide +kernel)⟩
theorem fl_ReturnDeskModel_162 : FL "ReturnDeskModel" 162 11 69 := ⟨by decide, by decide +kernel, List.mem_of_getElem? (i := 1245) (by decide +kernel)⟩
theorem fl_ReturnDeskModel_165 : FL "ReturnDeskModel" 165 11 70 := ⟨by decide, by decide +kernel, List.mem_of_getElem? (i := 1246) (by decide +kernel)⟩
theorem fl_ReturnDeskModel_168 : FL "ReturnDeskModel" 168 11 71 := ⟨by decide, by decide +kernel, List.mem_of_getElem? (i := 1247) (by decide +kernel)⟩
theorem fl_ReturnDeskModel_171 : FL "ReturnDeskModel" 171 11 75 := ⟨by decide, by decide +kernel, List.mem_of_getElem? (i := 1251) (by decide +kernel)⟩
theorem fl_ReturnDeskModel_174 : FL "ReturnDeskModel" 174 11 79 := ⟨by decide, by decide +kernel, List.mem_of_getElem? (i := 1255) (by decide +kernel)⟩
theorem fl_ReturnDeskModel_178 : FL "ReturnDeskModel" 178 11 80 := ⟨by decide, by decide +kernel, List.mem_of_getElem? (i := 1256) (by decide +kernel)⟩
theorem dt_X11_priceAt : zDecs mX11_priceAt.2.1 [(0, .iconst (-1), 1), (1, .istore_n 3, 1), (2, .bipush 20, 2), (4, .iload_n 1, 1), (5, .imul, 1), (6, .istore 4, 2), (8, .iload 4, 2), (10, .bipush 20, 2), (12, .iload_n 1, 1), (13, .imul, 1), (14, .aload_n 0, 1), (15, .getfield 19, 3), (18, .iload_n 1, 1), (19, .iaload, 1), (20, .iadd, 1), (21, .if_icmp .ge 43, 3), (24, .aload_n 0, 1), (25, .getfield 22, 3), (28, .iload 4, 2), (30, .iaload, 1), (31, .iload_n 2, 1), (32, .if_icmp .gt 26, 3), (35, .iload_n 3, 1), (36, .ifCond .lt 19, 3), (39, .aload_n 0, 1), (40, .getfield 22, 3), (43, .iload 4, 2), (45, .iaload, 1), (46, .aload_n 0, 1), (47, .getfield 22, 3), (50, .iload_n 3, 1), (51, .iaload, 1), (52, .if_icmp .lt 6, 3), (55, .iload 4, 2), (57, .istore_n 3, 1), (58, .iinc 4 1, 3), (61, .goto (-53), 3), (64, .iload_n 3, 1), (65, .ifCond .ge 7, 3), (68, .iconst 0, 1), (69, .goto 9, 3), (72, .aload_n 0, 1), (73, .getfield 25, 3), (76, .iload_n 3, 1), (77, .iaload, 1), (78, .ireturn, 1)] := zDecs_of (by decide +kernel)
theorem dt_X11_price : zDecs mX11_price.2.1 [(0, .aload_n 0, 1), (1, .iload_n 1, 1), (2, .invokevirtual 199, 3), (5, .ifCond .eq 20, 3), (8, .iload_n 2, 1), (9, .invokestatic 203, 3), (12, .ifCond .eq 13, 3), (15, .iload_n 3, 1), (16, .iconst 0, 1), (17, .ldc 198, 2), (19, .invokestatic 185, 3), (22, .ifCond .ne 5, 3), (25, .iconst (-1), 1), (26, .ireturn, 1), (27, .aload_n 0, 1), (28, .getfield 19, 3), (31, .iload_n 1, 1), (32, .iaload, 1), (33, .bipush 20, 2), (35, .if_icmp .ne 6, 3), (38, .bipush (-3), 2), (40, .ireturn, 1), (41, .aload_n 0, 1), (42, .getfield 22, 3), (45, .bipush 20, 2), (47, .iload_n 1, 1), (48, .imul, 1), (49, .aload_n 0, 1), (50, .getfield 19, 3), (53, .iload_n 1, 1), (54, .iaload, 1), (55, .iadd, 1), (56, .iload_n 2, 1), (57, .iastore, 1), (58, .aload_n 0, 1), (59, .getfield 25, 3), (62, .bipush 20, 2), (64, .iload_n 1, 1), (65, .imul, 1), (66, .aload_n 0, 1), (67, .getfield 19, 3), (70, .iload_n 1, 1), (71, .iaload, 1), (72, .iadd, 1), (73, .iload_n 3, 1), (74, .iastore, 1), (75, .aload_n 0, 1), (76, .getfield 19, 3), (79, .iload_n 1, 1), (80, .dup2, 1), (81, .iaload, 1), (82, .iconst 1, 1), (83, .iadd, 1), (84, .iastore, 1), (85, .aload_n 0, 1), (86, .getfield 19, 3), (89, .iload_n 1, 1), (90, .iaload, 1), (91, .ireturn, 1)] := zDecs_of (by decide +kernel)
theorem ok_X11_isModel : zMok mX11_isModel := ⟨by decide +kernel, List.mem_of_getElem? (i := 1437) (by decide +kernel), List.mem_of_getElem? (i := 7) (by decide +kernel), by decide +kernel, by decide +kernel, by decide +kernel⟩
theorem ln_ReturnDeskModel_199 : Cond.methodLink "ReturnDeskModel" 199 mX11_isModel.1 ∈ tables_1 := List.mem_of_getElem? (i := 1434) (by decide +kernel)
theorem im_X11_isModel : Cond.instanceMethod mX11_isModel.1 ∈ tables_1 := List.mem_of_getElem? (i := 1436) (by decide +kernel)
theorem se_X11_isModel : Cond.selects mX11_isModel.1.cls mX11_isModel.1 mX11_isModel.1 ∈ lw_tbl := List.mem_of_getElem? (i := 56) (by decide +kernel)
theorem pr_X11_isModel : (parseMethodDescriptor mX11_isModel.1.desc).map (fun d => d.parameters.length) = some 1 := by decide +kernel
theorem dt_X11_isModel : zDecs mX11_isModel.2.1 [(0, .iload_n 1, 1), (1, .iconst 0, 1), (2, .aload_n 0, 1), (3, .getfield 192, 3), (6, .iconst 1, 1), (7, .isub, 1), (8, .invokestatic 185, 3), (11, .ireturn, 1)] := zDecs_of (by decide +kernel)
theorem fl_ReturnDeskModel_192 : FL "ReturnDeskModel" 192 11 3 := ⟨by decide, by decide +kernel, List.mem_of_getElem? (i := 1179) (by decide +kernel)⟩
theorem ok_X11_in : zMok mX11_in := ⟨by decide +kernel, List.mem_of_getElem? (i := 1428) (by decide +kernel), List.mem_of_getElem? (i := 7) (by decide +kernel), by decide +kernel, by decide +kernel, by decide +kernel⟩
theorem ln_ReturnDeskModel_185 : Cond.methodLink "ReturnDeskModel" 185 mX11_in.1 ∈ tables_1 := List.mem_of_getElem? (i := 1426) (by decide +kernel)
theorem sm_X11_in : Cond.static mX11_in.1 ∈ tables_1 := List.mem_of_getElem? (i := 1427) (by decide +kernel)
theorem pr_X11_in : (parseMethodDescriptor mX11_in.1.desc).map (fun d => d.parameters.length) = some 3 := by decide +kernel
theorem dt_X11_in : zDecs mX11_in.2.1 [(0, .iload_n 0, 1), (1, .iload_n 1, 1), (2, .if_icmp .lt 12, 3), (5, .iload_n 0, 1), (6, .iload_n 2, 1), (7, .if_icmp .gt 7, 3), (10, .iconst 1, 1), (11, .goto 4, 3), (14, .iconst 0, 1), (15, .ireturn, 1)] := zDecs_of (by decide +kernel)
theorem ok_X11_isDay : zMok mX11_isDay := ⟨by decide +kernel, List.mem_of_getElem? (i := 1440) (by decide +kernel), List.mem_of_getElem? (i := 7) (by decide +kernel), by decide +kernel, by decide +kernel, by decide +kernel⟩
theorem ln_ReturnDeskModel_203 : Cond.methodLink "ReturnDeskModel" 203 mX11_isDay.1 ∈ tables_1 := List.mem_of_getElem? (i := 1438) (by decide +kernel)
theorem sm_X11_isDay : Cond.static mX11_isDay.1 ∈ tables_1 := List.mem_of_getElem? (i := 1439) (by decide +kernel)
theorem pr_X11_isDay : (parseMethodDescriptor mX11_isDay.1.desc).map (fun d => d.parameters.length) = some 1 := by decide +kernel
theorem dt_X11_isDay : zDecs mX11_isDay.2.1 [(0, .iload_n 0, 1), (1, .iconst 0, 1), (2, .sipush 2999, 3), (5, .invokestatic 185, 3), (8, .ireturn, 1)] := zDecs_of (by decide +kernel)
theorem ct_ReturnDeskModel_198 : Cond.constant "ReturnDeskModel" 198 99999 ∈ tables_1 := List.mem_of_getElem? (i := 1429) (by decide +kernel)
theorem dt_X11_priceOn : zDecs mX11_priceOn.2.1 [(0, .aload_n 0, 1), (1, .iload_n 1, 1), (2, .invokevirtual 199, 3), (5, .ifCond .eq 19, 3), (8, .iload_n 2, 1), (9, .invokestatic 203, 3), (12, .ifCond .eq 12, 3), (15, .aload_n 0, 1), (16, .iload_n 1, 1), (17, .iload_n 2, 1), (18, .invokevirtual 206, 3), (21, .goto 4, 3), (24, .iconst (-1), 1), (25, .ireturn, 1)] := zDecs_of (by decide +kernel)
theorem ok_X11_priceAt : zMok mX11_priceAt := ⟨by decide +kernel, List.mem_of_getElem? (i := 1448) (by decide +kernel), List.mem_of_getElem? (i := 7) (by decide +kernel), by decide +kernel, by decide +kernel, by decide +kernel⟩
theorem ln_ReturnDeskModel_206 : Cond.methodLink "ReturnDeskModel" 206 mX11_priceAt.1 ∈ tables_1 := List.mem_of_getElem? (i := 1445) (by decide +kernel)
theorem im_X11_priceAt : Cond.instanceMethod mX11_priceAt.1 ∈ tables_1 := List.mem_of_getElem? (i := 1447) (by decide +kernel)
theorem se_X11_priceAt : Cond.selects mX11_priceAt.1.cls mX11_priceAt.1 mX11_priceAt.1 ∈ lw_tbl := List.mem_of_getElem? (i := 57) (by decide +kernel)
theorem pr_X11_priceAt : (parseMethodDescriptor mX11_priceAt.1.desc).map (fun d => d.parameters.length) = some 2 := by decide +kernel
theorem dt_X4_priceFor : zDecs mX4_priceFor.2.1 [(0, .iconst (-1), 1), (1, .istore_n 2, 1), (2, .iconst 0, 1), (3, .istore_n 3, 1), (4, .iconst 0, 1), (5, .istore 4, 2), (7, .iload 4, 2), (9, .aload_n 0, 1), (10, .getfield 31, 3), (13, .if_icmp .ge 47, 3), (16, .aload_n 0, 1), (17, .getfield 9, 3), (20, .iload 4, 2), (22, .iaload, 1), (23, .iload_n 1, 1), (24, .if_icmp .gt 30, 3), (27, .aload_n 0, 1), (28, .getfield 9, 3), (31, .iload 4, 2), (33, .iaload, 1), (34, .iload_n 2, 1), (35, .if_icmp .lt 19, 3), (38, .aload_n 0, 1), (39, .getfield 9, 3), (42, .iload 4, 2), (44, .iaload, 1), (45, .istore_n 2, 1), (46, .aload_n 0, 1), (47, .getfield 15, 3), (50, .iload 4, 2), (52, .iaload, 1), (53, .istore_n 3, 1), (54, .iinc 4 1, 3), (57, .goto (-50), 3), (60, .iload_n 3, 1), (61, .ireturn, 1)] := zDecs_of (by decide +kernel)
theorem fl_Model_31 : FL "ReturnDesk$Model" 31 4 6 := ⟨by decide, by decide +kernel, List.mem_of_getElem? (i := 247) (by decide +kernel)⟩
theorem fl_Model_9 : FL "ReturnDesk$Model" 9 4 4 := ⟨by decide, by decide +kernel, List.mem_of_getElem? (i := 245) (by decide +kernel)⟩
theorem fl_Model_15 : FL "ReturnDesk$Model" 15 4 5 := ⟨by decide, by decide +kernel, List.mem_of_getElem? (i := 246) (by decide +kernel)⟩
theorem dt_X10_threesOf : zDecs mX10_threesOf.2.1 [(0, .aload_n 1, 1), (1, .getfield 182, 3), (4, .ifCond .ne 5, 3), (7, .iconst 1, 1), (8, .ireturn, 1), (9, .iconst 0, 1), (10, .istore_n 2, 1), (11, .iconst 0, 1), (12, .istore_n 3, 1), (13, .iload_n 3, 1), (14, .aload_n 0, 1), (15, .getfield 131, 3), (18, .if_icmp .ge 25, 3), (21, .aload_n 0, 1), (22, .getfield 23, 3), (25, .iload_n 3, 1), (26, .aaload, 1), (27, .aload_n 1, 1), (28, .invokevirtual 432, 3), (31, .ifCond .eq 6, 3), (34, .iinc 2 1, 3), (37, .iinc 3 1, 3), (40, .goto (-27), 3), (43, .iload_n 2, 1), (44, .ireturn, 1)] := zDecs_of (by decide +kernel)
theorem fl_ReturnDesk_131 : FL "ReturnDesk" 131 10 14 := ⟨by decide, by decide +kernel, List.mem_of_getElem? (i := 183) (by decide +kernel)⟩
theorem ok_X7_isTogetherWith : zMok mX7_isTogetherWith := ⟨by decide +kernel, List.mem_of_getElem? (i := 470) (by decide +kernel), List.mem_of_getElem? (i := 10) (by decide +kernel), by decide +kernel, by decide +kernel, by decide +kernel⟩
theorem ln_ReturnDesk_432 : Cond.methodLink "ReturnDesk" 432 mX7_isTogetherWith.1 ∈ tables_1 := List.mem_of_getElem? (i := 467) (by decide +kernel)
theorem im_X7_isTogetherWith : Cond.instanceMethod mX7_isTogetherWith.1 ∈ tables_1 := List.mem_of_getElem? (i := 468) (by decide +kernel)
theorem se_X7_isTogetherWith : Cond.selects mX7_isTogetherWith.1.cls mX7_isTogetherWith.1 mX7_isTogetherWith.1 ∈ lw_tbl := List.mem_of_getElem? (i := 568) (by decide +kernel)
theorem pr_X7_isTogetherWith : (parseMethodDescriptor mX7_isTogetherWith.1.desc).map (fun d => d.parameters.length) = some 1 := by decide +kernel
theorem dt_X7_isTogetherWith : zDecs mX7_isTogetherWith.2.1 [(0, .aload_n 0, 1), (1, .getfield 47, 3), (4, .ifCond .eq 29, 3), (7, .aload_n 0, 1), (8, .getfield 47, 3), (11, .aload_n 1, 1), (12, .getfield 47, 3), (15, .if_icmp .ne 18, 3), (18, .aload_n 0, 1), (19, .getfield 36, 3), (22, .aload_n 1, 1), (23, .getfield 36, 3), (26, .if_acmp .ne 7, 3), (29, .iconst 1, 1), (30, .goto 4, 3), (33, .iconst 0, 1), (34, .ireturn, 1)] := zDecs_of (by decide +kernel)
theorem fl_Sale_47 : FL "ReturnDesk$Sale" 47 7 5 := ⟨by decide, by decide +kernel, List.mem_of_getElem? (i := 375) (by decide +kernel)⟩
theorem fl_Sale_36 : FL "ReturnDesk$Sale" 36 7 1 := ⟨by decide, by decide +kernel, List.mem_of_getElem? (i := 365) (by decide +kernel)⟩
theorem dt_X11_threes : zDecs mX11_threes.2.1 [(0, .aload_n 0, 1), (1, .getfield 77, 3), (4, .iload_n 1, 1), (5, .iaload, 1), (6, .ifCond .ne 5, 3), (9, .iconst 1, 1), (10, .ireturn, 1), (11, .iconst 0, 1), (12, .istore_n 2, 1), (13, .iconst 0, 1), (14, .istore_n 3, 1), (15, .iload_n 3, 1), (16, .aload_n 0, 1), (17, .getfield 215, 3), (20, .if_icmp .ge 45, 3), (23, .iload_n 2, 1), (24, .aload_n 0, 1), (25, .getfield 77, 3), (28, .iload_n 3, 1), (29, .iaload, 1), (30, .aload_n 0, 1), (31, .getfield 77, 3), (34, .iload_n 1, 1), (35, .iaload, 1), (36, .if_icmp .ne 20, 3), (39, .aload_n 0, 1), (40, .iload_n 3, 1), (41, .invokevirtual 231, 3), (44, .aload_n 0, 1), (45, .iload_n 1, 1), (46, .invokevirtual 231, 3), (49, .if_icmp .ne 7, 3), (52, .iconst 1, 1), (53, .goto 4, 3), (56, .iconst 0, 1), (57, .iadd, 1), (58, .istore_n 2, 1), (59, .iinc 3 1, 3), (62, .goto (-47), 3), (65, .iload_n 2, 1), (66, .ireturn, 1)] := zDecs_of (by decide +kernel)
theorem fl_ReturnDeskModel_215 : FL "ReturnDeskModel" 215 11 22 := ⟨by decide, by decide +kernel, List.mem_of_getElem? (i := 1198) (by decide +kernel)⟩
theorem ok_X11_modelOf : zMok mX11_modelOf := ⟨by decide +kernel, List.mem_of_getElem? (i := 1491) (by decide +kernel), List.mem_of_getElem? (i := 7) (by decide +kernel), by decide +kernel, by decide +kernel, by decide +kernel⟩
theorem ln_ReturnDeskModel_231 : Cond.methodLink "ReturnDeskModel" 231 mX11_modelOf.1 ∈ tables_1 := List.mem_of_getElem? (i := 1488) (by decide +kernel)
theorem im_X11_modelOf : Cond.instanceMethod mX11_modelOf.1 ∈ tables_1 := List.mem_of_getElem? (i := 1490) (by decide +kernel)
theorem se_X11_modelOf : Cond.selects mX11_modelOf.1.cls mX11_modelOf.1 mX11_modelOf.1 ∈ lw_tbl := List.mem_of_getElem? (i := 61) (by decide +kernel)
theorem pr_X11_modelOf : (parseMethodDescriptor mX11_modelOf.1.desc).map (fun d => d.parameters.length) = some 1 := by decide +kernel
theorem dt_X11_modelOf : zDecs mX11_modelOf.2.1 [(0, .aload_n 0, 1), (1, .getfield 50, 3), (4, .aload_n 0, 1), (5, .getfield 62, 3), (8, .iload_n 1, 1), (9, .iaload, 1), (10, .iaload, 1), (11, .ireturn, 1)] := zDecs_of (by decide +kernel)
