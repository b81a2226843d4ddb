theorem fd_X12_41 : FD RX12 41 13 17 true := ⟨_, _, _, cls_13, by decide, gwm 1189 (by decide +kernel) rfl, rfl, fun _ => by first | rfl | contradiction⟩
theorem fd_X12_44 : FD RX12 44 13 18 true := ⟨_, _, _, cls_13, by decide, gwm 1190 (by decide +kernel) rfl, rfl, fun _ => by first | rfl | contradiction⟩
theorem fd_X12_47 : FD RX12 47 13 19 true := ⟨_, _, _, cls_13, by decide, gwm 1191 (by decide +kernel) rfl, rfl, fun _ => by first | rfl | contradiction⟩
theorem ml_X12_190 : Cond.methodLink RX12 190 yX12_laid ∈ gw := gwm 1436 (by decide +kernel) rfl
theorem cal_X12_laid : Cal yX12_laid cX12_laid 7 (some .int) 3 := ⟨gwm 1439 (by decide +kernel) rfl, gwm 76 (by decide +kernel) rfl, ⟨by decide, by decide, by decide +kernel⟩, by decide⟩
theorem im_X12_laid : Cond.instanceMethod yX12_laid ∈ gw := gwm 1438 (by decide +kernel) rfl
theorem se_X12_laid : Cond.selects RX12 yX12_laid yX12_laid ∈ gw := gwm 51 (by decide +kernel) rfl
theorem fd_X12_50 : FD RX12 50 13 20 true := ⟨_, _, _, cls_13, by decide, gwm 1192 (by decide +kernel) rfl, rfl, fun _ => by first | rfl | contradiction⟩
theorem fd_X12_198 : FD RX12 198 13 22 false := ⟨_, _, _, cls_13, by decide, gwm 1194 (by decide +kernel) rfl, rfl, fun _ => by first | rfl | contradiction⟩
theorem fd_X12_201 : FD RX12 201 13 23 false := ⟨_, _, _, cls_13, by decide, gwm 1195 (by decide +kernel) rfl, rfl, fun _ => by first | rfl | contradiction⟩
theorem fd_X12_204 : FD RX12 204 13 24 false := ⟨_, _, _, cls_13, by decide, gwm 1196 (by decide +kernel) rfl, rfl, fun _ => by first | rfl | contradiction⟩
theorem fd_X12_53 : FD RX12 53 13 21 true := ⟨_, _, _, cls_13, by decide, gwm 1193 (by decide +kernel) rfl, rfl, fun _ => by first | rfl | contradiction⟩
theorem ml_X12_194 : Cond.methodLink RX12 194 yX12_isThere ∈ gw := gwm 1440 (by decide +kernel) rfl
theorem cal_X12_isThere : Cal yX12_isThere cX12_isThere 12 (some .boolean) 6 := ⟨gwm 1443 (by decide +kernel) rfl, gwm 76 (by decide +kernel) rfl, ⟨by decide, by decide, by decide +kernel⟩, by decide⟩
theorem im_X12_isThere : Cond.instanceMethod yX12_isThere ∈ gw := gwm 1442 (by decide +kernel) rfl
theorem se_X12_isThere : Cond.selects RX12 yX12_isThere yX12_isThere ∈ gw := gwm 52 (by decide +kernel) rfl
theorem ml_X12_207 : Cond.methodLink RX12 207 yX12_isModel ∈ gw := gwm 1424 (by decide +kernel) rfl
theorem cal_X12_isModel : Cal yX12_isModel cX12_isModel 2 (some .boolean) 1 := ⟨gwm 1427 (by decide +kernel) rfl, gwm 76 (by decide +kernel) rfl, ⟨by decide, by decide, by decide +kernel⟩, by decide⟩
theorem im_X12_isModel : Cond.instanceMethod yX12_isModel ∈ gw := gwm 1426 (by decide +kernel) rfl
theorem se_X12_isModel : Cond.selects RX12 yX12_isModel yX12_isModel ∈ gw := gwm 48 (by decide +kernel) rfl
theorem ml_X12_210 : Cond.methodLink RX12 210 yX12_setPart ∈ gw := gwm 1428 (by decide +kernel) rfl
theorem cal_X12_setPart : Cal yX12_setPart cX12_setPart 10 none 4 := ⟨gwm 1431 (by decide +kernel) rfl, gwm 76 (by decide +kernel) rfl, ⟨by decide, by decide, by decide +kernel⟩, by decide⟩
theorem im_X12_setPart : Cond.instanceMethod yX12_setPart ∈ gw := gwm 1430 (by decide +kernel) rfl
theorem se_X12_setPart : Cond.selects RX12 yX12_setPart yX12_setPart ∈ gw := gwm 49 (by decide +kernel) rfl
theorem ml_X12_214 : Cond.methodLink RX12 214 yX12_isFitting ∈ gw := gwm 1432 (by decide +kernel) rfl
theorem cal_X12_isFitting : Cal yX12_isFitting cX12_isFitting 7 (some .boolean) 3 := ⟨gwm 1435 (by decide +kernel) rfl, gwm 76 (by decide +kernel) rfl, ⟨by decide, by decide, by decide +kernel⟩, by decide⟩
theorem im_X12_isFitting : Cond.instanceMethod yX12_isFitting ∈ gw := gwm 1434 (by decide +kernel) rfl
theorem se_X12_isFitting : Cond.selects RX12 yX12_isFitting yX12_isFitting ∈ gw := gwm 50 (by decide +kernel) rfl
theorem fd_X12_56 : FD RX12 56 13 25 true := ⟨_, _, _, cls_13, by decide, gwm 1197 (by decide +kernel) rfl, rfl, fun _ => by first | rfl | contradiction⟩
theorem fd_X12_217 : FD RX12 217 13 30 false := ⟨_, _, _, cls_13, by decide, gwm 1202 (by decide +kernel) rfl, rfl, fun _ => by first | rfl | contradiction⟩
theorem fd_X12_62 : FD RX12 62 13 27 true := ⟨_, _, _, cls_13, by decide, gwm 1199 (by decide +kernel) rfl, rfl, fun _ => by first | rfl | contradiction⟩
theorem ml_X12_220 : Cond.methodLink RX12 220 yX12_findCut ∈ gw := gwm 1452 (by decide +kernel) rfl
theorem cal_X12_findCut : Cal yX12_findCut cX12_findCut 6 (some .int) 0 := ⟨gwm 1455 (by decide +kernel) rfl, gwm 76 (by decide +kernel) rfl, ⟨by decide, by decide, by decide +kernel⟩, by decide⟩
theorem im_X12_findCut : Cond.instanceMethod yX12_findCut ∈ gw := gwm 1454 (by decide +kernel) rfl
theorem se_X12_findCut : Cond.selects RX12 yX12_findCut yX12_findCut ∈ gw := gwm 54 (by decide +kernel) rfl
theorem fd_X12_223 : FD RX12 223 13 31 false := ⟨_, _, _, cls_13, by decide, gwm 1203 (by decide +kernel) rfl, rfl, fun _ => by first | rfl | contradiction⟩
theorem fd_X12_226 : FD RX12 226 13 28 false := ⟨_, _, _, cls_13, by decide, gwm 1200 (by decide +kernel) rfl, rfl, fun _ => by first | rfl | contradiction⟩
theorem fd_X12_229 : FD RX12 229 13 29 false := ⟨_, _, _, cls_13, by decide, gwm 1201 (by decide +kernel) rfl, rfl, fun _ => by first | rfl | contradiction⟩
theorem ml_X12_232 : Cond.methodLink RX12 232 yX12_keepCut ∈ gw := gwm 1456 (by decide +kernel) rfl
theorem cal_X12_keepCut : Cal yX12_keepCut cX12_keepCut 3 none 1 := ⟨gwm 1459 (by decide +kernel) rfl, gwm 76 (by decide +kernel) rfl, ⟨by decide, by decide, by decide +kernel⟩, by decide⟩
theorem im_X12_keepCut : Cond.instanceMethod yX12_keepCut ∈ gw := gwm 1458 (by decide +kernel) rfl
theorem se_X12_keepCut : Cond.selects RX12 yX12_keepCut yX12_keepCut ∈ gw := gwm 55 (by decide +kernel) rfl
theorem fd_X12_59 : FD RX12 59 13 26 true := ⟨_, _, _, cls_13, by decide, gwm 1198 (by decide +kernel) rfl, rfl, fun _ => by first | rfl | contradiction⟩
theorem ml_X12_236 : Cond.methodLink RX12 236 yX12_findBest ∈ gw := gwm 1448 (by decide +kernel) rfl
theorem cal_X12_findBest : Cal yX12_findBest cX12_findBest 6 none 1 := ⟨gwm 1451 (by decide +kernel) rfl, gwm 76 (by decide +kernel) rfl, ⟨by decide, by decide, by decide +kernel⟩, by decide⟩
theorem im_X12_findBest : Cond.instanceMethod yX12_findBest ∈ gw := gwm 1450 (by decide +kernel) rfl
theorem se_X12_findBest : Cond.selects RX12 yX12_findBest yX12_findBest ∈ gw := gwm 53 (by decide +kernel) rfl
theorem fd_X12_239 : FD RX12 239 13 32 false := ⟨_, _, _, cls_13, by decide, gwm 1204 (by decide +kernel) rfl, rfl, fun _ => by first | rfl | contradiction⟩
theorem fd_X12_65 : FD RX12 65 13 33 true := ⟨_, _, _, cls_13, by decide, gwm 1205 (by decide +kernel) rfl, rfl, fun _ => by first | rfl | contradiction⟩
theorem fd_X12_68 : FD RX12 68 13 34 true := ⟨_, _, _, cls_13, by decide, gwm 1206 (by decide +kernel) rfl, rfl, fun _ => by first | rfl | contradiction⟩
theorem fd_X12_71 : FD RX12 71 13 35 true := ⟨_, _, _, cls_13, by decide, gwm 1207 (by decide +kernel) rfl, rfl, fun _ => by first | rfl | contradiction⟩
theorem fd_X12_74 : FD RX12 74 13 36 true := ⟨_, _, _, cls_13, by decide, gwm 1208 (by decide +kernel) rfl, rfl, fun _ => by first | rfl | contradiction⟩
theorem fd_X12_83 : FD RX12 83 13 39 true := ⟨_, _, _, cls_13, by decide, gwm 1211 (by decide +kernel) rfl, rfl, fun _ => by first | rfl | contradiction⟩
theorem fd_X12_86 : FD RX12 86 13 40 true := ⟨_, _, _, cls_13, by decide, gwm 1212 (by decide +kernel) rfl, rfl, fun _ => by first | rfl | contradiction⟩
theorem fd_X12_89 : FD RX12 89 13 41 true := ⟨_, _, _, cls_13, by decide, gwm 1213 (by decide +kernel) rfl, rfl, fun _ => by first | rfl | contradiction⟩
theorem fd_X12_92 : FD RX12 92 13 42 true := ⟨_, _, _, cls_13, by decide, gwm 1214 (by decide +kernel) rfl, rfl, fun _ => by first | rfl | contradiction⟩
theorem dX12_setPart_0 : decode cX12_setPart 0 = .ok (.iconst 0, 1) := by decide +kernel
theorem dX12_setPart_1 : decode cX12_setPart 1 = .ok (.istore 5, 2) := by decide +kernel
theorem dX12_setPart_3 : decode cX12_setPart 3 = .ok (.iload 5, 2) := by decide +kernel
theorem dX12_setPart_5 : decode cX12_setPart 5 = .ok (.iconst 3, 1) := by decide +kernel
theorem dX12_setPart_6 : decode cX12_setPart 6 = .ok (.if_icmp .ge 46, 3) := by decide +kernel
theorem dX12_setPart_9 : decode cX12_setPart 9 = .ok (.aload_n 0, 1) := by decide +kernel
theorem dX12_setPart_10 : decode cX12_setPart 10 = .ok (.getfield 41, 3) := by decide +kernel
theorem dX12_setPart_13 : decode cX12_setPart 13 = .ok (.iload 5, 2) := by decide +kernel
theorem dX12_setPart_15 : decode cX12_setPart 15 = .ok (.iload 5, 2) := by decide +kernel
theorem dX12_setPart_17 : decode cX12_setPart 17 = .ok (.iload_n 2, 1) := by decide +kernel
theorem dX12_setPart_18 : decode cX12_setPart 18 = .ok (.if_icmp .ne 7, 3) := by decide +kernel
theorem dX12_setPart_21 : decode cX12_setPart 21 = .ok (.iload_n 3, 1) := by decide +kernel
theorem dX12_setPart_22 : decode cX12_setPart 22 = .ok (.goto 4, 3) := by decide +kernel
theorem dX12_setPart_25 : decode cX12_setPart 25 = .ok (.iconst 0, 1) := by decide +kernel
theorem dX12_setPart_26 : decode cX12_setPart 26 = .ok (.iastore, 1) := by decide +kernel
theorem dX12_setPart_27 : decode cX12_setPart 27 = .ok (.aload_n 0, 1) := by decide +kernel
theorem dX12_setPart_28 : decode cX12_setPart 28 = .ok (.getfield 44, 3) := by decide +kernel
theorem dX12_setPart_31 : decode cX12_setPart 31 = .ok (.iload 5, 2) := by decide +kernel
theorem dX12_setPart_33 : decode cX12_setPart 33 = .ok (.iload 5, 2) := by decide +kernel
theorem dX12_setPart_35 : decode cX12_setPart 35 = .ok (.iload_n 2, 1) := by decide +kernel
theorem dX12_setPart_36 : decode cX12_setPart 36 = .ok (.if_icmp .ne 8, 3) := by decide +kernel
theorem dX12_setPart_39 : decode cX12_setPart 39 = .ok (.iload 4, 2) := by decide +kernel
theorem dX12_setPart_41 : decode cX12_setPart 41 = .ok (.goto 4, 3) := by decide +kernel
theorem dX12_setPart_44 : decode cX12_setPart 44 = .ok (.iconst 5, 1) := by decide +kernel
theorem dX12_setPart_45 : decode cX12_setPart 45 = .ok (.iastore, 1) := by decide +kernel
theorem dX12_setPart_46 : decode cX12_setPart 46 = .ok (.iinc 5 1, 3) := by decide +kernel
theorem dX12_setPart_49 : decode cX12_setPart 49 = .ok (.goto (-46), 3) := by decide +kernel
theorem dX12_setPart_52 : decode cX12_setPart 52 = .ok (.iconst 0, 1) := by decide +kernel
theorem dX12_setPart_53 : decode cX12_setPart 53 = .ok (.istore 5, 2) := by decide +kernel
theorem dX12_setPart_55 : decode cX12_setPart 55 = .ok (.iload 5, 2) := by decide +kernel
theorem dX12_setPart_57 : decode cX12_setPart 57 = .ok (.sipush 216, 3) := by decide +kernel
theorem dX12_setPart_60 : decode cX12_setPart 60 = .ok (.if_icmp .ge 129, 3) := by decide +kernel
theorem dX12_setPart_63 : decode cX12_setPart 63 = .ok (.iload 5, 2) := by decide +kernel
theorem dX12_setPart_65 : decode cX12_setPart 65 = .ok (.bipush 6, 2) := by decide +kernel
theorem dX12_setPart_67 : decode cX12_setPart 67 = .ok (.irem, 1) := by decide +kernel
theorem dX12_setPart_68 : decode cX12_setPart 68 = .ok (.istore 6, 2) := by decide +kernel
theorem dX12_setPart_70 : decode cX12_setPart 70 = .ok (.iload 5, 2) := by decide +kernel
theorem dX12_setPart_72 : decode cX12_setPart 72 = .ok (.bipush 6, 2) := by decide +kernel
theorem dX12_setPart_74 : decode cX12_setPart 74 = .ok (.idiv, 1) := by decide +kernel
theorem dX12_setPart_75 : decode cX12_setPart 75 = .ok (.bipush 6, 2) := by decide +kernel
theorem dX12_setPart_77 : decode cX12_setPart 77 = .ok (.irem, 1) := by decide +kernel
theorem dX12_setPart_78 : decode cX12_setPart 78 = .ok (.istore 7, 2) := by decide +kernel
theorem dX12_setPart_80 : decode cX12_setPart 80 = .ok (.iload 5, 2) := by decide +kernel
theorem dX12_setPart_82 : decode cX12_setPart 82 = .ok (.bipush 36, 2) := by decide +kernel
theorem dX12_setPart_84 : decode cX12_setPart 84 = .ok (.idiv, 1) := by decide +kernel
theorem dX12_setPart_85 : decode cX12_setPart 85 = .ok (.istore 8, 2) := by decide +kernel
theorem dX12_setPart_87 : decode cX12_setPart 87 = .ok (.iload 6, 2) := by decide +kernel
theorem dX12_setPart_89 : decode cX12_setPart 89 = .ok (.aload_n 0, 1) := by decide +kernel
theorem dX12_setPart_90 : decode cX12_setPart 90 = .ok (.getfield 41, 3) := by decide +kernel
theorem dX12_setPart_93 : decode cX12_setPart 93 = .ok (.iconst 0, 1) := by decide +kernel
theorem dX12_setPart_94 : decode cX12_setPart 94 = .ok (.iaload, 1) := by decide +kernel
theorem dX12_setPart_95 : decode cX12_setPart 95 = .ok (.aload_n 0, 1) := by decide +kernel
theorem dX12_setPart_96 : decode cX12_setPart 96 = .ok (.getfield 44, 3) := by decide +kernel
theorem dX12_setPart_99 : decode cX12_setPart 99 = .ok (.iconst 0, 1) := by decide +kernel
theorem dX12_setPart_100 : decode cX12_setPart 100 = .ok (.iaload, 1) := by decide +kernel
theorem dX12_setPart_101 : decode cX12_setPart 101 = .ok (.invokestatic 129, 3) := by decide +kernel
theorem dX12_setPart_104 : decode cX12_setPart 104 = .ok (.ifCond .eq 47, 3) := by decide +kernel
theorem dX12_setPart_107 : decode cX12_setPart 107 = .ok (.iload 7, 2) := by decide +kernel
theorem dX12_setPart_109 : decode cX12_setPart 109 = .ok (.aload_n 0, 1) := by decide +kernel
theorem dX12_setPart_110 : decode cX12_setPart 110 = .ok (.getfield 41, 3) := by decide +kernel
theorem dX12_setPart_113 : decode cX12_setPart 113 = .ok (.iconst 1, 1) := by decide +kernel
theorem dX12_setPart_114 : decode cX12_setPart 114 = .ok (.iaload, 1) := by decide +kernel
theorem dX12_setPart_115 : decode cX12_setPart 115 = .ok (.aload_n 0, 1) := by decide +kernel
theorem dX12_setPart_116 : decode cX12_setPart 116 = .ok (.getfield 44, 3) := by decide +kernel
theorem dX12_setPart_119 : decode cX12_setPart 119 = .ok (.iconst 1, 1) := by decide +kernel
theorem dX12_setPart_120 : decode cX12_setPart 120 = .ok (.iaload, 1) := by decide +kernel
theorem dX12_setPart_121 : decode cX12_setPart 121 = .ok (.invokestatic 129, 3) := by decide +kernel
theorem dX12_setPart_124 : decode cX12_setPart 124 = .ok (.ifCond .eq 27, 3) := by decide +kernel
theorem dX12_setPart_127 : decode cX12_setPart 127 = .ok (.iload 8, 2) := by decide +kernel
theorem dX12_setPart_129 : decode cX12_setPart 129 = .ok (.aload_n 0, 1) := by decide +kernel
theorem dX12_setPart_130 : decode cX12_setPart 130 = .ok (.getfield 41, 3) := by decide +kernel
theorem dX12_setPart_133 : decode cX12_setPart 133 = .ok (.iconst 2, 1) := by decide +kernel
theorem dX12_setPart_134 : decode cX12_setPart 134 = .ok (.iaload, 1) := by decide +kernel
theorem dX12_setPart_135 : decode cX12_setPart 135 = .ok (.aload_n 0, 1) := by decide +kernel
theorem dX12_setPart_136 : decode cX12_setPart 136 = .ok (.getfield 44, 3) := by decide +kernel
theorem dX12_setPart_139 : decode cX12_setPart 139 = .ok (.iconst 2, 1) := by decide +kernel
theorem dX12_setPart_140 : decode cX12_setPart 140 = .ok (.iaload, 1) := by decide +kernel
theorem dX12_setPart_141 : decode cX12_setPart 141 = .ok (.invokestatic 129, 3) := by decide +kernel
theorem dX12_setPart_144 : decode cX12_setPart 144 = .ok (.ifCond .eq 7, 3) := by decide +kernel
theorem dX12_setPart_147 : decode cX12_setPart 147 = .ok (.iconst 1, 1) := by decide +kernel
theorem dX12_setPart_148 : decode cX12_setPart 148 = .ok (.goto 4, 3) := by decide +kernel
theorem dX12_setPart_151 : decode cX12_setPart 151 = .ok (.iconst 0, 1) := by decide +kernel
theorem dX12_setPart_152 : decode cX12_setPart 152 = .ok (.istore 9, 2) := by decide +kernel
theorem dX12_setPart_154 : decode cX12_setPart 154 = .ok (.aload_n 0, 1) := by decide +kernel
theorem dX12_setPart_155 : decode cX12_setPart 155 = .ok (.getfield 47, 3) := by decide +kernel
theorem dX12_setPart_158 : decode cX12_setPart 158 = .ok (.iload 5, 2) := by decide +kernel
theorem dX12_setPart_160 : decode cX12_setPart 160 = .ok (.iload 9, 2) := by decide +kernel
theorem dX12_setPart_162 : decode cX12_setPart 162 = .ok (.ifCond .eq 19, 3) := by decide +kernel
theorem dX12_setPart_165 : decode cX12_setPart 165 = .ok (.aload_n 0, 1) := by decide +kernel
theorem dX12_setPart_166 : decode cX12_setPart 166 = .ok (.getfield 13, 3) := by decide +kernel
theorem dX12_setPart_169 : decode cX12_setPart 169 = .ok (.sipush 216, 3) := by decide +kernel
theorem dX12_setPart_172 : decode cX12_setPart 172 = .ok (.iload_n 1, 1) := by decide +kernel
theorem dX12_setPart_173 : decode cX12_setPart 173 = .ok (.imul, 1) := by decide +kernel
theorem dX12_setPart_174 : decode cX12_setPart 174 = .ok (.iload 5, 2) := by decide +kernel
theorem dX12_setPart_176 : decode cX12_setPart 176 = .ok (.iadd, 1) := by decide +kernel
theorem dX12_setPart_177 : decode cX12_setPart 177 = .ok (.iaload, 1) := by decide +kernel
theorem dX12_setPart_178 : decode cX12_setPart 178 = .ok (.goto 4, 3) := by decide +kernel
theorem dX12_setPart_181 : decode cX12_setPart 181 = .ok (.iconst 0, 1) := by decide +kernel
theorem dX12_setPart_182 : decode cX12_setPart 182 = .ok (.iastore, 1) := by decide +kernel
theorem dX12_setPart_183 : decode cX12_setPart 183 = .ok (.iinc 5 1, 3) := by decide +kernel
theorem dX12_setPart_186 : decode cX12_setPart 186 = .ok (.goto (-131), 3) := by decide +kernel
theorem dX12_setPart_189 : decode cX12_setPart 189 = .ok (.return_, 1) := by decide +kernel
theorem dX12_isThere_0 : decode cX12_isThere 0 = .ok (.sipush 216, 3) := by decide +kernel
theorem dX12_isThere_3 : decode cX12_isThere 3 = .ok (.iload_n 1, 1) := by decide +kernel
theorem dX12_isThere_4 : decode cX12_isThere 4 = .ok (.imul, 1) := by decide +kernel
theorem dX12_isThere_5 : decode cX12_isThere 5 = .ok (.istore 7, 2) := by decide +kernel
theorem dX12_isThere_7 : decode cX12_isThere 7 = .ok (.iload 7, 2) := by decide +kernel
theorem dX12_isThere_9 : decode cX12_isThere 9 = .ok (.sipush 216, 3) := by decide +kernel
theorem dX12_isThere_12 : decode cX12_isThere 12 = .ok (.iload_n 1, 1) := by decide +kernel
theorem dX12_isThere_13 : decode cX12_isThere 13 = .ok (.imul, 1) := by decide +kernel
theorem dX12_isThere_14 : decode cX12_isThere 14 = .ok (.aload_n 0, 1) := by decide +kernel
theorem dX12_isThere_15 : decode cX12_isThere 15 = .ok (.getfield 20, 3) := by decide +kernel
theorem dX12_isThere_18 : decode cX12_isThere 18 = .ok (.iload_n 1, 1) := by decide +kernel
theorem dX12_isThere_19 : decode cX12_isThere 19 = .ok (.iaload, 1) := by decide +kernel
theorem dX12_isThere_20 : decode cX12_isThere 20 = .ok (.iadd, 1) := by decide +kernel
theorem dX12_isThere_21 : decode cX12_isThere 21 = .ok (.if_icmp .ge 116, 3) := by decide +kernel
theorem dX12_isThere_24 : decode cX12_isThere 24 = .ok (.iload_n 2, 1) := by decide +kernel
theorem dX12_isThere_25 : decode cX12_isThere 25 = .ok (.aload_n 0, 1) := by decide +kernel
theorem dX12_isThere_26 : decode cX12_isThere 26 = .ok (.iload 7, 2) := by decide +kernel
theorem dX12_isThere_28 : decode cX12_isThere 28 = .ok (.iload_n 3, 1) := by decide +kernel
theorem dX12_isThere_29 : decode cX12_isThere 29 = .ok (.iconst 0, 1) := by decide +kernel
theorem dX12_isThere_30 : decode cX12_isThere 30 = .ok (.invokevirtual 190, 3) := by decide +kernel
theorem dX12_isThere_33 : decode cX12_isThere 33 = .ok (.imul, 1) := by decide +kernel
theorem dX12_isThere_34 : decode cX12_isThere 34 = .ok (.iload 4, 2) := by decide +kernel
theorem dX12_isThere_36 : decode cX12_isThere 36 = .ok (.iadd, 1) := by decide +kernel
theorem dX12_isThere_37 : decode cX12_isThere 37 = .ok (.istore 8, 2) := by decide +kernel
theorem dX12_isThere_39 : decode cX12_isThere 39 = .ok (.iload_n 2, 1) := by decide +kernel
theorem dX12_isThere_40 : decode cX12_isThere 40 = .ok (.aload_n 0, 1) := by decide +kernel
theorem dX12_isThere_41 : decode cX12_isThere 41 = .ok (.iload 7, 2) := by decide +kernel
theorem dX12_isThere_43 : decode cX12_isThere 43 = .ok (.iload_n 3, 1) := by decide +kernel
theorem dX12_isThere_44 : decode cX12_isThere 44 = .ok (.iconst 1, 1) := by decide +kernel
theorem dX12_isThere_45 : decode cX12_isThere 45 = .ok (.invokevirtual 190, 3) := by decide +kernel
theorem dX12_isThere_48 : decode cX12_isThere 48 = .ok (.imul, 1) := by decide +kernel
theorem dX12_isThere_49 : decode cX12_isThere 49 = .ok (.iload 5, 2) := by decide +kernel
theorem dX12_isThere_51 : decode cX12_isThere 51 = .ok (.iadd, 1) := by decide +kernel
theorem dX12_isThere_52 : decode cX12_isThere 52 = .ok (.istore 9, 2) := by decide +kernel
theorem dX12_isThere_54 : decode cX12_isThere 54 = .ok (.iload_n 2, 1) := by decide +kernel
theorem dX12_isThere_55 : decode cX12_isThere 55 = .ok (.aload_n 0, 1) := by decide +kernel
theorem dX12_isThere_56 : decode cX12_isThere 56 = .ok (.iload 7, 2) := by decide +kernel
theorem dX12_isThere_58 : decode cX12_isThere 58 = .ok (.iload_n 3, 1) := by decide +kernel
theorem dX12_isThere_59 : decode cX12_isThere 59 = .ok (.iconst 2, 1) := by decide +kernel
theorem dX12_isThere_60 : decode cX12_isThere 60 = .ok (.invokevirtual 190, 3) := by decide +kernel
theorem dX12_isThere_63 : decode cX12_isThere 63 = .ok (.imul, 1) := by decide +kernel
theorem dX12_isThere_64 : decode cX12_isThere 64 = .ok (.iload 6, 2) := by decide +kernel
theorem dX12_isThere_66 : decode cX12_isThere 66 = .ok (.iadd, 1) := by decide +kernel
theorem dX12_isThere_67 : decode cX12_isThere 67 = .ok (.istore 10, 2) := by decide +kernel
theorem dX12_isThere_69 : decode cX12_isThere 69 = .ok (.iconst 0, 1) := by decide +kernel
theorem dX12_isThere_70 : decode cX12_isThere 70 = .ok (.istore 11, 2) := by decide +kernel
theorem dX12_isThere_72 : decode cX12_isThere 72 = .ok (.iload 11, 2) := by decide +kernel
theorem dX12_isThere_74 : decode cX12_isThere 74 = .ok (.iload_n 2, 1) := by decide +kernel
theorem dX12_isThere_75 : decode cX12_isThere 75 = .ok (.iload_n 2, 1) := by decide +kernel
theorem dX12_isThere_76 : decode cX12_isThere 76 = .ok (.imul, 1) := by decide +kernel
theorem dX12_isThere_77 : decode cX12_isThere 77 = .ok (.iload_n 2, 1) := by decide +kernel
theorem dX12_isThere_78 : decode cX12_isThere 78 = .ok (.imul, 1) := by decide +kernel
theorem dX12_isThere_79 : decode cX12_isThere 79 = .ok (.if_icmp .ge 52, 3) := by decide +kernel
theorem dX12_isThere_82 : decode cX12_isThere 82 = .ok (.aload_n 0, 1) := by decide +kernel
theorem dX12_isThere_83 : decode cX12_isThere 83 = .ok (.getfield 47, 3) := by decide +kernel
theorem dX12_isThere_86 : decode cX12_isThere 86 = .ok (.iload 8, 2) := by decide +kernel
theorem dX12_isThere_88 : decode cX12_isThere 88 = .ok (.iload 11, 2) := by decide +kernel
theorem dX12_isThere_90 : decode cX12_isThere 90 = .ok (.iload_n 2, 1) := by decide +kernel
theorem dX12_isThere_91 : decode cX12_isThere 91 = .ok (.irem, 1) := by decide +kernel
theorem dX12_isThere_92 : decode cX12_isThere 92 = .ok (.iadd, 1) := by decide +kernel
theorem dX12_isThere_93 : decode cX12_isThere 93 = .ok (.bipush 6, 2) := by decide +kernel
theorem dX12_isThere_95 : decode cX12_isThere 95 = .ok (.iload 9, 2) := by decide +kernel
theorem dX12_isThere_97 : decode cX12_isThere 97 = .ok (.iload 11, 2) := by decide +kernel
theorem dX12_isThere_99 : decode cX12_isThere 99 = .ok (.iload_n 2, 1) := by decide +kernel
theorem dX12_isThere_100 : decode cX12_isThere 100 = .ok (.idiv, 1) := by decide +kernel
theorem dX12_isThere_101 : decode cX12_isThere 101 = .ok (.iload_n 2, 1) := by decide +kernel
theorem dX12_isThere_102 : decode cX12_isThere 102 = .ok (.irem, 1) := by decide +kernel
theorem dX12_isThere_103 : decode cX12_isThere 103 = .ok (.iadd, 1) := by decide +kernel
theorem dX12_isThere_104 : decode cX12_isThere 104 = .ok (.imul, 1) := by decide +kernel
theorem dX12_isThere_105 : decode cX12_isThere 105 = .ok (.iadd, 1) := by decide +kernel
theorem dX12_isThere_106 : decode cX12_isThere 106 = .ok (.bipush 36, 2) := by decide +kernel
theorem dX12_isThere_108 : decode cX12_isThere 108 = .ok (.iload 10, 2) := by decide +kernel
theorem dX12_isThere_110 : decode cX12_isThere 110 = .ok (.iload 11, 2) := by decide +kernel
theorem dX12_isThere_112 : decode cX12_isThere 112 = .ok (.iload_n 2, 1) := by decide +kernel
theorem dX12_isThere_113 : decode cX12_isThere 113 = .ok (.idiv, 1) := by decide +kernel
theorem dX12_isThere_114 : decode cX12_isThere 114 = .ok (.iload_n 2, 1) := by decide +kernel
theorem dX12_isThere_115 : decode cX12_isThere 115 = .ok (.idiv, 1) := by decide +kernel
theorem dX12_isThere_116 : decode cX12_isThere 116 = .ok (.iadd, 1) := by decide +kernel
theorem dX12_isThere_117 : decode cX12_isThere 117 = .ok (.imul, 1) := by decide +kernel
theorem dX12_isThere_118 : decode cX12_isThere 118 = .ok (.iadd, 1) := by decide +kernel
theorem dX12_isThere_119 : decode cX12_isThere 119 = .ok (.iaload, 1) := by decide +kernel
theorem dX12_isThere_120 : decode cX12_isThere 120 = .ok (.ifCond .ne 5, 3) := by decide +kernel
theorem dX12_isThere_123 : decode cX12_isThere 123 = .ok (.iconst 0, 1) := by decide +kernel
theorem dX12_isThere_124 : decode cX12_isThere 124 = .ok (.ireturn, 1) := by decide +kernel
theorem dX12_isThere_125 : decode cX12_isThere 125 = .ok (.iinc 11 1, 3) := by decide +kernel
theorem dX12_isThere_128 : decode cX12_isThere 128 = .ok (.goto (-56), 3) := by decide +kernel
theorem dX12_isThere_131 : decode cX12_isThere 131 = .ok (.iinc 7 1, 3) := by decide +kernel
theorem dX12_isThere_134 : decode cX12_isThere 134 = .ok (.goto (-127), 3) := by decide +kernel
theorem dX12_isThere_137 : decode cX12_isThere 137 = .ok (.iconst 1, 1) := by decide +kernel
theorem dX12_isThere_138 : decode cX12_isThere 138 = .ok (.ireturn, 1) := by decide +kernel
theorem dX12_isFitting_0 : decode cX12_isFitting 0 = .ok (.iconst 0, 1) := by decide +kernel
theorem dX12_isFitting_1 : decode cX12_isFitting 1 = .ok (.istore 4, 2) := by decide +kernel
theorem dX12_isFitting_3 : decode cX12_isFitting 3 = .ok (.iload 4, 2) := by decide +kernel
theorem dX12_isFitting_5 : decode cX12_isFitting 5 = .ok (.iconst 3, 1) := by decide +kernel
theorem dX12_isFitting_6 : decode cX12_isFitting 6 = .ok (.if_icmp .ge 26, 3) := by decide +kernel
theorem dX12_isFitting_9 : decode cX12_isFitting 9 = .ok (.aload_n 0, 1) := by decide +kernel
theorem dX12_isFitting_10 : decode cX12_isFitting 10 = .ok (.getfield 50, 3) := by decide +kernel
theorem dX12_isFitting_13 : decode cX12_isFitting 13 = .ok (.iload 4, 2) := by decide +kernel
theorem dX12_isFitting_15 : decode cX12_isFitting 15 = .ok (.bipush 9, 2) := by decide +kernel
theorem dX12_isFitting_17 : decode cX12_isFitting 17 = .ok (.iastore, 1) := by decide +kernel
theorem dX12_isFitting_18 : decode cX12_isFitting 18 = .ok (.aload_n 0, 1) := by decide +kernel
theorem dX12_isFitting_19 : decode cX12_isFitting 19 = .ok (.getfield 53, 3) := by decide +kernel
theorem dX12_isFitting_22 : decode cX12_isFitting 22 = .ok (.iload 4, 2) := by decide +kernel
theorem dX12_isFitting_24 : decode cX12_isFitting 24 = .ok (.iconst 0, 1) := by decide +kernel
theorem dX12_isFitting_25 : decode cX12_isFitting 25 = .ok (.iastore, 1) := by decide +kernel
theorem dX12_isFitting_26 : decode cX12_isFitting 26 = .ok (.iinc 4 1, 3) := by decide +kernel
theorem dX12_isFitting_29 : decode cX12_isFitting 29 = .ok (.goto (-26), 3) := by decide +kernel
theorem dX12_isFitting_32 : decode cX12_isFitting 32 = .ok (.sipush 216, 3) := by decide +kernel
theorem dX12_isFitting_35 : decode cX12_isFitting 35 = .ok (.iload_n 1, 1) := by decide +kernel
theorem dX12_isFitting_36 : decode cX12_isFitting 36 = .ok (.imul, 1) := by decide +kernel
theorem dX12_isFitting_37 : decode cX12_isFitting 37 = .ok (.istore 4, 2) := by decide +kernel
theorem dX12_isFitting_39 : decode cX12_isFitting 39 = .ok (.iload 4, 2) := by decide +kernel
theorem dX12_isFitting_41 : decode cX12_isFitting 41 = .ok (.sipush 216, 3) := by decide +kernel
theorem dX12_isFitting_44 : decode cX12_isFitting 44 = .ok (.iload_n 1, 1) := by decide +kernel
theorem dX12_isFitting_45 : decode cX12_isFitting 45 = .ok (.imul, 1) := by decide +kernel
theorem dX12_isFitting_46 : decode cX12_isFitting 46 = .ok (.aload_n 0, 1) := by decide +kernel
theorem dX12_isFitting_47 : decode cX12_isFitting 47 = .ok (.getfield 20, 3) := by decide +kernel
theorem dX12_isFitting_50 : decode cX12_isFitting 50 = .ok (.iload_n 1, 1) := by decide +kernel
theorem dX12_isFitting_51 : decode cX12_isFitting 51 = .ok (.iaload, 1) := by decide +kernel
theorem dX12_isFitting_52 : decode cX12_isFitting 52 = .ok (.iadd, 1) := by decide +kernel
theorem dX12_isFitting_53 : decode cX12_isFitting 53 = .ok (.if_icmp .ge 77, 3) := by decide +kernel
theorem dX12_isFitting_56 : decode cX12_isFitting 56 = .ok (.iconst 0, 1) := by decide +kernel
theorem dX12_isFitting_57 : decode cX12_isFitting 57 = .ok (.istore 5, 2) := by decide +kernel
theorem dX12_isFitting_59 : decode cX12_isFitting 59 = .ok (.iload 5, 2) := by decide +kernel
theorem dX12_isFitting_61 : decode cX12_isFitting 61 = .ok (.iconst 3, 1) := by decide +kernel
theorem dX12_isFitting_62 : decode cX12_isFitting 62 = .ok (.if_icmp .ge 62, 3) := by decide +kernel
theorem dX12_isFitting_65 : decode cX12_isFitting 65 = .ok (.aload_n 0, 1) := by decide +kernel
theorem dX12_isFitting_66 : decode cX12_isFitting 66 = .ok (.iload 4, 2) := by decide +kernel
theorem dX12_isFitting_68 : decode cX12_isFitting 68 = .ok (.iload_n 3, 1) := by decide +kernel
theorem dX12_isFitting_69 : decode cX12_isFitting 69 = .ok (.iload 5, 2) := by decide +kernel
theorem dX12_isFitting_71 : decode cX12_isFitting 71 = .ok (.invokevirtual 190, 3) := by decide +kernel
theorem dX12_isFitting_74 : decode cX12_isFitting 74 = .ok (.istore 6, 2) := by decide +kernel
theorem dX12_isFitting_76 : decode cX12_isFitting 76 = .ok (.iload 6, 2) := by decide +kernel
theorem dX12_isFitting_78 : decode cX12_isFitting 78 = .ok (.aload_n 0, 1) := by decide +kernel
theorem dX12_isFitting_79 : decode cX12_isFitting 79 = .ok (.getfield 50, 3) := by decide +kernel
theorem dX12_isFitting_82 : decode cX12_isFitting 82 = .ok (.iload 5, 2) := by decide +kernel
theorem dX12_isFitting_84 : decode cX12_isFitting 84 = .ok (.iaload, 1) := by decide +kernel
theorem dX12_isFitting_85 : decode cX12_isFitting 85 = .ok (.if_icmp .ge 12, 3) := by decide +kernel
theorem dX12_isFitting_88 : decode cX12_isFitting 88 = .ok (.aload_n 0, 1) := by decide +kernel
theorem dX12_isFitting_89 : decode cX12_isFitting 89 = .ok (.getfield 50, 3) := by decide +kernel
theorem dX12_isFitting_92 : decode cX12_isFitting 92 = .ok (.iload 5, 2) := by decide +kernel
theorem dX12_isFitting_94 : decode cX12_isFitting 94 = .ok (.iload 6, 2) := by decide +kernel
theorem dX12_isFitting_96 : decode cX12_isFitting 96 = .ok (.iastore, 1) := by decide +kernel
theorem dX12_isFitting_97 : decode cX12_isFitting 97 = .ok (.iload 6, 2) := by decide +kernel
theorem dX12_isFitting_99 : decode cX12_isFitting 99 = .ok (.aload_n 0, 1) := by decide +kernel
theorem dX12_isFitting_100 : decode cX12_isFitting 100 = .ok (.getfield 53, 3) := by decide +kernel
theorem dX12_isFitting_103 : decode cX12_isFitting 103 = .ok (.iload 5, 2) := by decide +kernel
theorem dX12_isFitting_105 : decode cX12_isFitting 105 = .ok (.iaload, 1) := by decide +kernel
theorem dX12_isFitting_106 : decode cX12_isFitting 106 = .ok (.if_icmp .le 12, 3) := by decide +kernel
theorem dX12_isFitting_109 : decode cX12_isFitting 109 = .ok (.aload_n 0, 1) := by decide +kernel
theorem dX12_isFitting_110 : decode cX12_isFitting 110 = .ok (.getfield 53, 3) := by decide +kernel
theorem dX12_isFitting_113 : decode cX12_isFitting 113 = .ok (.iload 5, 2) := by decide +kernel
theorem dX12_isFitting_115 : decode cX12_isFitting 115 = .ok (.iload 6, 2) := by decide +kernel
theorem dX12_isFitting_117 : decode cX12_isFitting 117 = .ok (.iastore, 1) := by decide +kernel
theorem dX12_isFitting_118 : decode cX12_isFitting 118 = .ok (.iinc 5 1, 3) := by decide +kernel
theorem dX12_isFitting_121 : decode cX12_isFitting 121 = .ok (.goto (-62), 3) := by decide +kernel
theorem dX12_isFitting_124 : decode cX12_isFitting 124 = .ok (.iinc 4 1, 3) := by decide +kernel
theorem dX12_isFitting_127 : decode cX12_isFitting 127 = .ok (.goto (-88), 3) := by decide +kernel
theorem dX12_isFitting_130 : decode cX12_isFitting 130 = .ok (.iload_n 2, 1) := by decide +kernel
theorem dX12_isFitting_131 : decode cX12_isFitting 131 = .ok (.ineg, 1) := by decide +kernel
theorem dX12_isFitting_132 : decode cX12_isFitting 132 = .ok (.aload_n 0, 1) := by decide +kernel
theorem dX12_isFitting_133 : decode cX12_isFitting 133 = .ok (.getfield 50, 3) := by decide +kernel
theorem dX12_isFitting_136 : decode cX12_isFitting 136 = .ok (.iconst 2, 1) := by decide +kernel
theorem dX12_isFitting_137 : decode cX12_isFitting 137 = .ok (.iaload, 1) := by decide +kernel
theorem dX12_isFitting_138 : decode cX12_isFitting 138 = .ok (.imul, 1) := by decide +kernel
theorem dX12_isFitting_139 : decode cX12_isFitting 139 = .ok (.istore 4, 2) := by decide +kernel
theorem dX12_isFitting_141 : decode cX12_isFitting 141 = .ok (.iload 4, 2) := by decide +kernel
theorem dX12_isFitting_143 : decode cX12_isFitting 143 = .ok (.bipush 6, 2) := by decide +kernel
theorem dX12_isFitting_145 : decode cX12_isFitting 145 = .ok (.iload_n 2, 1) := by decide +kernel
theorem dX12_isFitting_146 : decode cX12_isFitting 146 = .ok (.aload_n 0, 1) := by decide +kernel
theorem dX12_isFitting_147 : decode cX12_isFitting 147 = .ok (.getfield 53, 3) := by decide +kernel
theorem dX12_isFitting_150 : decode cX12_isFitting 150 = .ok (.iconst 2, 1) := by decide +kernel
theorem dX12_isFitting_151 : decode cX12_isFitting 151 = .ok (.iaload, 1) := by decide +kernel
theorem dX12_isFitting_152 : decode cX12_isFitting 152 = .ok (.iconst 1, 1) := by decide +kernel
theorem dX12_isFitting_153 : decode cX12_isFitting 153 = .ok (.iadd, 1) := by decide +kernel
theorem dX12_isFitting_154 : decode cX12_isFitting 154 = .ok (.imul, 1) := by decide +kernel
theorem dX12_isFitting_155 : decode cX12_isFitting 155 = .ok (.isub, 1) := by decide +kernel
theorem dX12_isFitting_156 : decode cX12_isFitting 156 = .ok (.if_icmp .gt 118, 3) := by decide +kernel
theorem dX12_isFitting_159 : decode cX12_isFitting 159 = .ok (.iload_n 2, 1) := by decide +kernel
theorem dX12_isFitting_160 : decode cX12_isFitting 160 = .ok (.ineg, 1) := by decide +kernel
theorem dX12_isFitting_161 : decode cX12_isFitting 161 = .ok (.aload_n 0, 1) := by decide +kernel
theorem dX12_isFitting_162 : decode cX12_isFitting 162 = .ok (.getfield 50, 3) := by decide +kernel
theorem dX12_isFitting_165 : decode cX12_isFitting 165 = .ok (.iconst 1, 1) := by decide +kernel
theorem dX12_isFitting_166 : decode cX12_isFitting 166 = .ok (.iaload, 1) := by decide +kernel
theorem dX12_isFitting_167 : decode cX12_isFitting 167 = .ok (.imul, 1) := by decide +kernel
theorem dX12_isFitting_168 : decode cX12_isFitting 168 = .ok (.istore 5, 2) := by decide +kernel
theorem dX12_isFitting_170 : decode cX12_isFitting 170 = .ok (.iload 5, 2) := by decide +kernel
theorem dX12_isFitting_172 : decode cX12_isFitting 172 = .ok (.bipush 6, 2) := by decide +kernel
theorem dX12_isFitting_174 : decode cX12_isFitting 174 = .ok (.iload_n 2, 1) := by decide +kernel
theorem dX12_isFitting_175 : decode cX12_isFitting 175 = .ok (.aload_n 0, 1) := by decide +kernel
theorem dX12_isFitting_176 : decode cX12_isFitting 176 = .ok (.getfield 53, 3) := by decide +kernel
theorem dX12_isFitting_179 : decode cX12_isFitting 179 = .ok (.iconst 1, 1) := by decide +kernel
theorem dX12_isFitting_180 : decode cX12_isFitting 180 = .ok (.iaload, 1) := by decide +kernel
theorem dX12_isFitting_181 : decode cX12_isFitting 181 = .ok (.iconst 1, 1) := by decide +kernel
theorem dX12_isFitting_182 : decode cX12_isFitting 182 = .ok (.iadd, 1) := by decide +kernel
theorem dX12_isFitting_183 : decode cX12_isFitting 183 = .ok (.imul, 1) := by decide +kernel
theorem dX12_isFitting_184 : decode cX12_isFitting 184 = .ok (.isub, 1) := by decide +kernel
theorem dX12_isFitting_185 : decode cX12_isFitting 185 = .ok (.if_icmp .gt 83, 3) := by decide +kernel
theorem dX12_isFitting_188 : decode cX12_isFitting 188 = .ok (.iload_n 2, 1) := by decide +kernel
theorem dX12_isFitting_189 : decode cX12_isFitting 189 = .ok (.ineg, 1) := by decide +kernel
theorem dX12_isFitting_190 : decode cX12_isFitting 190 = .ok (.aload_n 0, 1) := by decide +kernel
theorem dX12_isFitting_191 : decode cX12_isFitting 191 = .ok (.getfield 50, 3) := by decide +kernel
theorem dX12_isFitting_194 : decode cX12_isFitting 194 = .ok (.iconst 0, 1) := by decide +kernel
theorem dX12_isFitting_195 : decode cX12_isFitting 195 = .ok (.iaload, 1) := by decide +kernel
theorem dX12_isFitting_196 : decode cX12_isFitting 196 = .ok (.imul, 1) := by decide +kernel
theorem dX12_isFitting_197 : decode cX12_isFitting 197 = .ok (.istore 6, 2) := by decide +kernel
theorem dX12_isFitting_199 : decode cX12_isFitting 199 = .ok (.iload 6, 2) := by decide +kernel
theorem dX12_isFitting_201 : decode cX12_isFitting 201 = .ok (.bipush 6, 2) := by decide +kernel
theorem dX12_isFitting_203 : decode cX12_isFitting 203 = .ok (.iload_n 2, 1) := by decide +kernel
theorem dX12_isFitting_204 : decode cX12_isFitting 204 = .ok (.aload_n 0, 1) := by decide +kernel
theorem dX12_isFitting_205 : decode cX12_isFitting 205 = .ok (.getfield 53, 3) := by decide +kernel
theorem dX12_isFitting_208 : decode cX12_isFitting 208 = .ok (.iconst 0, 1) := by decide +kernel
theorem dX12_isFitting_209 : decode cX12_isFitting 209 = .ok (.iaload, 1) := by decide +kernel
theorem dX12_isFitting_210 : decode cX12_isFitting 210 = .ok (.iconst 1, 1) := by decide +kernel
theorem dX12_isFitting_211 : decode cX12_isFitting 211 = .ok (.iadd, 1) := by decide +kernel
theorem dX12_isFitting_212 : decode cX12_isFitting 212 = .ok (.imul, 1) := by decide +kernel
theorem dX12_isFitting_213 : decode cX12_isFitting 213 = .ok (.isub, 1) := by decide +kernel
theorem dX12_isFitting_214 : decode cX12_isFitting 214 = .ok (.if_icmp .gt 48, 3) := by decide +kernel
theorem dX12_isFitting_217 : decode cX12_isFitting 217 = .ok (.aload_n 0, 1) := by decide +kernel
theorem dX12_isFitting_218 : decode cX12_isFitting 218 = .ok (.iload_n 1, 1) := by decide +kernel
theorem dX12_isFitting_219 : decode cX12_isFitting 219 = .ok (.iload_n 2, 1) := by decide +kernel
theorem dX12_isFitting_220 : decode cX12_isFitting 220 = .ok (.iload_n 3, 1) := by decide +kernel
theorem dX12_isFitting_221 : decode cX12_isFitting 221 = .ok (.iload 6, 2) := by decide +kernel
theorem dX12_isFitting_223 : decode cX12_isFitting 223 = .ok (.iload 5, 2) := by decide +kernel
theorem dX12_isFitting_225 : decode cX12_isFitting 225 = .ok (.iload 4, 2) := by decide +kernel
theorem dX12_isFitting_227 : decode cX12_isFitting 227 = .ok (.invokevirtual 194, 3) := by decide +kernel
theorem dX12_isFitting_230 : decode cX12_isFitting 230 = .ok (.ifCond .ne 6, 3) := by decide +kernel
theorem dX12_isFitting_233 : decode cX12_isFitting 233 = .ok (.goto 23, 3) := by decide +kernel
theorem dX12_isFitting_236 : decode cX12_isFitting 236 = .ok (.aload_n 0, 1) := by decide +kernel
theorem dX12_isFitting_237 : decode cX12_isFitting 237 = .ok (.iload 6, 2) := by decide +kernel
theorem dX12_isFitting_239 : decode cX12_isFitting 239 = .ok (.putfield 198, 3) := by decide +kernel
theorem dX12_isFitting_242 : decode cX12_isFitting 242 = .ok (.aload_n 0, 1) := by decide +kernel
theorem dX12_isFitting_243 : decode cX12_isFitting 243 = .ok (.iload 5, 2) := by decide +kernel
theorem dX12_isFitting_245 : decode cX12_isFitting 245 = .ok (.putfield 201, 3) := by decide +kernel
theorem dX12_isFitting_248 : decode cX12_isFitting 248 = .ok (.aload_n 0, 1) := by decide +kernel
theorem dX12_isFitting_249 : decode cX12_isFitting 249 = .ok (.iload 4, 2) := by decide +kernel
theorem dX12_isFitting_251 : decode cX12_isFitting 251 = .ok (.putfield 204, 3) := by decide +kernel
theorem dX12_isFitting_254 : decode cX12_isFitting 254 = .ok (.iconst 1, 1) := by decide +kernel
theorem dX12_isFitting_255 : decode cX12_isFitting 255 = .ok (.ireturn, 1) := by decide +kernel
theorem dX12_isFitting_256 : decode cX12_isFitting 256 = .ok (.iinc 6 1, 3) := by decide +kernel
theorem dX12_isFitting_259 : decode cX12_isFitting 259 = .ok (.goto (-60), 3) := by decide +kernel
theorem dX12_isFitting_262 : decode cX12_isFitting 262 = .ok (.iinc 5 1, 3) := by decide +kernel
theorem dX12_isFitting_265 : decode cX12_isFitting 265 = .ok (.goto (-95), 3) := by decide +kernel
theorem dX12_isFitting_268 : decode cX12_isFitting 268 = .ok (.iinc 4 1, 3) := by decide +kernel
theorem dX12_isFitting_271 : decode cX12_isFitting 271 = .ok (.goto (-130), 3) := by decide +kernel
theorem dX12_isFitting_274 : decode cX12_isFitting 274 = .ok (.iconst 0, 1) := by decide +kernel
theorem dX12_isFitting_275 : decode cX12_isFitting 275 = .ok (.ireturn, 1) := by decide +kernel
theorem dX12_fit_0 : decode cX12_fit 0 = .ok (.aload_n 0, 1) := by decide +kernel
theorem dX12_fit_1 : decode cX12_fit 1 = .ok (.iconst 0, 1) := by decide +kernel
theorem dX12_fit_2 : decode cX12_fit 2 = .ok (.putfield 1, 3) := by decide +kernel
theorem dX12_fit_5 : decode cX12_fit 5 = .ok (.aload_n 0, 1) := by decide +kernel
theorem dX12_fit_6 : decode cX12_fit 6 = .ok (.iload_n 1, 1) := by decide +kernel
theorem dX12_fit_7 : decode cX12_fit 7 = .ok (.invokevirtual 137, 3) := by decide +kernel
theorem dX12_fit_10 : decode cX12_fit 10 = .ok (.ifCond .eq 25, 3) := by decide +kernel
theorem dX12_fit_13 : decode cX12_fit 13 = .ok (.aload_n 0, 1) := by decide +kernel
theorem dX12_fit_14 : decode cX12_fit 14 = .ok (.iload_n 2, 1) := by decide +kernel
theorem dX12_fit_15 : decode cX12_fit 15 = .ok (.invokevirtual 207, 3) := by decide +kernel
theorem dX12_fit_18 : decode cX12_fit 18 = .ok (.ifCond .eq 17, 3) := by decide +kernel
theorem dX12_fit_21 : decode cX12_fit 21 = .ok (.aload_n 0, 1) := by decide +kernel
theorem dX12_fit_22 : decode cX12_fit 22 = .ok (.iload_n 3, 1) := by decide +kernel
theorem dX12_fit_23 : decode cX12_fit 23 = .ok (.iconst 0, 1) := by decide +kernel
theorem dX12_fit_24 : decode cX12_fit 24 = .ok (.iconst 5, 1) := by decide +kernel
theorem dX12_fit_25 : decode cX12_fit 25 = .ok (.invokestatic 129, 3) := by decide +kernel
theorem dX12_fit_28 : decode cX12_fit 28 = .ok (.iconst 3, 1) := by decide +kernel
theorem dX12_fit_29 : decode cX12_fit 29 = .ok (.invokevirtual 133, 3) := by decide +kernel
theorem dX12_fit_32 : decode cX12_fit 32 = .ok (.ifCond .ne 5, 3) := by decide +kernel
theorem dX12_fit_35 : decode cX12_fit 35 = .ok (.iconst 0, 1) := by decide +kernel
theorem dX12_fit_36 : decode cX12_fit 36 = .ok (.ireturn, 1) := by decide +kernel
theorem dX12_fit_37 : decode cX12_fit 37 = .ok (.aload_n 0, 1) := by decide +kernel
theorem dX12_fit_38 : decode cX12_fit 38 = .ok (.iload_n 1, 1) := by decide +kernel
theorem dX12_fit_39 : decode cX12_fit 39 = .ok (.iconst (-1), 1) := by decide +kernel
theorem dX12_fit_40 : decode cX12_fit 40 = .ok (.iconst 0, 1) := by decide +kernel
theorem dX12_fit_41 : decode cX12_fit 41 = .ok (.iconst 5, 1) := by decide +kernel
theorem dX12_fit_42 : decode cX12_fit 42 = .ok (.invokevirtual 210, 3) := by decide +kernel
theorem dX12_fit_45 : decode cX12_fit 45 = .ok (.bipush 6, 2) := by decide +kernel
theorem dX12_fit_47 : decode cX12_fit 47 = .ok (.istore 4, 2) := by decide +kernel
theorem dX12_fit_49 : decode cX12_fit 49 = .ok (.iload 4, 2) := by decide +kernel
theorem dX12_fit_51 : decode cX12_fit 51 = .ok (.ifCond .le 23, 3) := by decide +kernel
theorem dX12_fit_54 : decode cX12_fit 54 = .ok (.aload_n 0, 1) := by decide +kernel
theorem dX12_fit_55 : decode cX12_fit 55 = .ok (.iload_n 2, 1) := by decide +kernel
theorem dX12_fit_56 : decode cX12_fit 56 = .ok (.iload 4, 2) := by decide +kernel
theorem dX12_fit_58 : decode cX12_fit 58 = .ok (.iload_n 3, 1) := by decide +kernel
theorem dX12_fit_59 : decode cX12_fit 59 = .ok (.invokevirtual 214, 3) := by decide +kernel
theorem dX12_fit_62 : decode cX12_fit 62 = .ok (.ifCond .eq 6, 3) := by decide +kernel
theorem dX12_fit_65 : decode cX12_fit 65 = .ok (.iload 4, 2) := by decide +kernel
theorem dX12_fit_67 : decode cX12_fit 67 = .ok (.ireturn, 1) := by decide +kernel
theorem dX12_fit_68 : decode cX12_fit 68 = .ok (.iinc 4 (-1), 3) := by decide +kernel
theorem dX12_fit_71 : decode cX12_fit 71 = .ok (.goto (-22), 3) := by decide +kernel
theorem dX12_fit_74 : decode cX12_fit 74 = .ok (.iconst 0, 1) := by decide +kernel
theorem dX12_fit_75 : decode cX12_fit 75 = .ok (.ireturn, 1) := by decide +kernel
theorem dX12_findCut_0 : decode cX12_findCut 0 = .ok (.iconst 0, 1) := by decide +kernel
theorem dX12_findCut_1 : decode cX12_findCut 1 = .ok (.istore_n 1, 1) := by decide +kernel
theorem dX12_findCut_2 : decode cX12_findCut 2 = .ok (.iconst 0, 1) := by decide +kernel
theorem dX12_findCut_3 : decode cX12_findCut 3 = .ok (.istore_n 2, 1) := by decide +kernel
theorem dX12_findCut_4 : decode cX12_findCut 4 = .ok (.iload_n 2, 1) := by decide +kernel
theorem dX12_findCut_5 : decode cX12_findCut 5 = .ok (.aload_n 0, 1) := by decide +kernel
theorem dX12_findCut_6 : decode cX12_findCut 6 = .ok (.getfield 174, 3) := by decide +kernel
theorem dX12_findCut_9 : decode cX12_findCut 9 = .ok (.if_icmp .ge 162, 3) := by decide +kernel
theorem dX12_findCut_12 : decode cX12_findCut 12 = .ok (.bipush 6, 2) := by decide +kernel
theorem dX12_findCut_14 : decode cX12_findCut 14 = .ok (.istore_n 3, 1) := by decide +kernel
theorem dX12_findCut_15 : decode cX12_findCut 15 = .ok (.iload_n 3, 1) := by decide +kernel
theorem dX12_findCut_16 : decode cX12_findCut 16 = .ok (.ifCond .le 149, 3) := by decide +kernel
theorem dX12_findCut_19 : decode cX12_findCut 19 = .ok (.aload_n 0, 1) := by decide +kernel
theorem dX12_findCut_20 : decode cX12_findCut 20 = .ok (.getfield 20, 3) := by decide +kernel
theorem dX12_findCut_23 : decode cX12_findCut 23 = .ok (.iload_n 2, 1) := by decide +kernel
theorem dX12_findCut_24 : decode cX12_findCut 24 = .ok (.iaload, 1) := by decide +kernel
theorem dX12_findCut_25 : decode cX12_findCut 25 = .ok (.iload_n 3, 1) := by decide +kernel
theorem dX12_findCut_26 : decode cX12_findCut 26 = .ok (.imul, 1) := by decide +kernel
theorem dX12_findCut_27 : decode cX12_findCut 27 = .ok (.iload_n 3, 1) := by decide +kernel
theorem dX12_findCut_28 : decode cX12_findCut 28 = .ok (.imul, 1) := by decide +kernel
theorem dX12_findCut_29 : decode cX12_findCut 29 = .ok (.iload_n 3, 1) := by decide +kernel
theorem dX12_findCut_30 : decode cX12_findCut 30 = .ok (.imul, 1) := by decide +kernel
theorem dX12_findCut_31 : decode cX12_findCut 31 = .ok (.istore 4, 2) := by decide +kernel
theorem dX12_findCut_33 : decode cX12_findCut 33 = .ok (.iload 4, 2) := by decide +kernel
theorem dX12_findCut_35 : decode cX12_findCut 35 = .ok (.sipush 216, 3) := by decide +kernel
theorem dX12_findCut_38 : decode cX12_findCut 38 = .ok (.if_icmp .gt 121, 3) := by decide +kernel
theorem dX12_findCut_41 : decode cX12_findCut 41 = .ok (.aload_n 0, 1) := by decide +kernel
theorem dX12_findCut_42 : decode cX12_findCut 42 = .ok (.iload 4, 2) := by decide +kernel
theorem dX12_findCut_44 : decode cX12_findCut 44 = .ok (.invokevirtual 186, 3) := by decide +kernel
theorem dX12_findCut_47 : decode cX12_findCut 47 = .ok (.iload_n 1, 1) := by decide +kernel
theorem dX12_findCut_48 : decode cX12_findCut 48 = .ok (.if_icmp .gt 6, 3) := by decide +kernel
theorem dX12_findCut_51 : decode cX12_findCut 51 = .ok (.goto 108, 3) := by decide +kernel
theorem dX12_findCut_54 : decode cX12_findCut 54 = .ok (.iconst 0, 1) := by decide +kernel
theorem dX12_findCut_55 : decode cX12_findCut 55 = .ok (.istore 5, 2) := by decide +kernel
theorem dX12_findCut_57 : decode cX12_findCut 57 = .ok (.iload 5, 2) := by decide +kernel
theorem dX12_findCut_59 : decode cX12_findCut 59 = .ok (.bipush 6, 2) := by decide +kernel
theorem dX12_findCut_61 : decode cX12_findCut 61 = .ok (.if_icmp .ge 20, 3) := by decide +kernel
theorem dX12_findCut_64 : decode cX12_findCut 64 = .ok (.aload_n 0, 1) := by decide +kernel
theorem dX12_findCut_65 : decode cX12_findCut 65 = .ok (.iload_n 2, 1) := by decide +kernel
theorem dX12_findCut_66 : decode cX12_findCut 66 = .ok (.iload_n 3, 1) := by decide +kernel
theorem dX12_findCut_67 : decode cX12_findCut 67 = .ok (.iload 5, 2) := by decide +kernel
theorem dX12_findCut_69 : decode cX12_findCut 69 = .ok (.invokevirtual 214, 3) := by decide +kernel
theorem dX12_findCut_72 : decode cX12_findCut 72 = .ok (.ifCond .ne 9, 3) := by decide +kernel
theorem dX12_findCut_75 : decode cX12_findCut 75 = .ok (.iinc 5 1, 3) := by decide +kernel
theorem dX12_findCut_78 : decode cX12_findCut 78 = .ok (.goto (-21), 3) := by decide +kernel
theorem dX12_findCut_81 : decode cX12_findCut 81 = .ok (.iload 5, 2) := by decide +kernel
theorem dX12_findCut_83 : decode cX12_findCut 83 = .ok (.bipush 6, 2) := by decide +kernel
theorem dX12_findCut_85 : decode cX12_findCut 85 = .ok (.if_icmp .ne 6, 3) := by decide +kernel
theorem dX12_findCut_88 : decode cX12_findCut 88 = .ok (.goto 71, 3) := by decide +kernel
theorem dX12_findCut_91 : decode cX12_findCut 91 = .ok (.aload_n 0, 1) := by decide +kernel
theorem dX12_findCut_92 : decode cX12_findCut 92 = .ok (.iload 4, 2) := by decide +kernel
theorem dX12_findCut_94 : decode cX12_findCut 94 = .ok (.invokevirtual 186, 3) := by decide +kernel
theorem dX12_findCut_97 : decode cX12_findCut 97 = .ok (.istore_n 1, 1) := by decide +kernel
theorem dX12_findCut_98 : decode cX12_findCut 98 = .ok (.aload_n 0, 1) := by decide +kernel
theorem dX12_findCut_99 : decode cX12_findCut 99 = .ok (.getfield 56, 3) := by decide +kernel
theorem dX12_findCut_102 : decode cX12_findCut 102 = .ok (.iconst 0, 1) := by decide +kernel
theorem dX12_findCut_103 : decode cX12_findCut 103 = .ok (.iload_n 2, 1) := by decide +kernel
theorem dX12_findCut_104 : decode cX12_findCut 104 = .ok (.iastore, 1) := by decide +kernel
theorem dX12_findCut_105 : decode cX12_findCut 105 = .ok (.aload_n 0, 1) := by decide +kernel
theorem dX12_findCut_106 : decode cX12_findCut 106 = .ok (.getfield 56, 3) := by decide +kernel
theorem dX12_findCut_109 : decode cX12_findCut 109 = .ok (.iconst 1, 1) := by decide +kernel
theorem dX12_findCut_110 : decode cX12_findCut 110 = .ok (.iload_n 3, 1) := by decide +kernel
theorem dX12_findCut_111 : decode cX12_findCut 111 = .ok (.iastore, 1) := by decide +kernel
theorem dX12_findCut_112 : decode cX12_findCut 112 = .ok (.aload_n 0, 1) := by decide +kernel
theorem dX12_findCut_113 : decode cX12_findCut 113 = .ok (.getfield 56, 3) := by decide +kernel
theorem dX12_findCut_116 : decode cX12_findCut 116 = .ok (.iconst 2, 1) := by decide +kernel
theorem dX12_findCut_117 : decode cX12_findCut 117 = .ok (.iload 5, 2) := by decide +kernel
theorem dX12_findCut_119 : decode cX12_findCut 119 = .ok (.iastore, 1) := by decide +kernel
theorem dX12_findCut_120 : decode cX12_findCut 120 = .ok (.aload_n 0, 1) := by decide +kernel
theorem dX12_findCut_121 : decode cX12_findCut 121 = .ok (.getfield 56, 3) := by decide +kernel
theorem dX12_findCut_124 : decode cX12_findCut 124 = .ok (.iconst 3, 1) := by decide +kernel
theorem dX12_findCut_125 : decode cX12_findCut 125 = .ok (.aload_n 0, 1) := by decide +kernel
theorem dX12_findCut_126 : decode cX12_findCut 126 = .ok (.getfield 198, 3) := by decide +kernel
theorem dX12_findCut_129 : decode cX12_findCut 129 = .ok (.iastore, 1) := by decide +kernel
theorem dX12_findCut_130 : decode cX12_findCut 130 = .ok (.aload_n 0, 1) := by decide +kernel
theorem dX12_findCut_131 : decode cX12_findCut 131 = .ok (.getfield 56, 3) := by decide +kernel
theorem dX12_findCut_134 : decode cX12_findCut 134 = .ok (.iconst 4, 1) := by decide +kernel
theorem dX12_findCut_135 : decode cX12_findCut 135 = .ok (.aload_n 0, 1) := by decide +kernel
theorem dX12_findCut_136 : decode cX12_findCut 136 = .ok (.getfield 201, 3) := by decide +kernel
theorem dX12_findCut_139 : decode cX12_findCut 139 = .ok (.iastore, 1) := by decide +kernel
theorem dX12_findCut_140 : decode cX12_findCut 140 = .ok (.aload_n 0, 1) := by decide +kernel
theorem dX12_findCut_141 : decode cX12_findCut 141 = .ok (.getfield 56, 3) := by decide +kernel
theorem dX12_findCut_144 : decode cX12_findCut 144 = .ok (.iconst 5, 1) := by decide +kernel
theorem dX12_findCut_145 : decode cX12_findCut 145 = .ok (.aload_n 0, 1) := by decide +kernel
theorem dX12_findCut_146 : decode cX12_findCut 146 = .ok (.getfield 204, 3) := by decide +kernel
theorem dX12_findCut_149 : decode cX12_findCut 149 = .ok (.iastore, 1) := by decide +kernel
theorem dX12_findCut_150 : decode cX12_findCut 150 = .ok (.aload_n 0, 1) := by decide +kernel
theorem dX12_findCut_151 : decode cX12_findCut 151 = .ok (.getfield 56, 3) := by decide +kernel
theorem dX12_findCut_154 : decode cX12_findCut 154 = .ok (.bipush 6, 2) := by decide +kernel
theorem dX12_findCut_156 : decode cX12_findCut 156 = .ok (.iload 4, 2) := by decide +kernel
theorem dX12_findCut_158 : decode cX12_findCut 158 = .ok (.iastore, 1) := by decide +kernel
theorem dX12_findCut_159 : decode cX12_findCut 159 = .ok (.iinc 3 (-1), 3) := by decide +kernel
theorem dX12_findCut_162 : decode cX12_findCut 162 = .ok (.goto (-147), 3) := by decide +kernel
theorem dX12_findCut_165 : decode cX12_findCut 165 = .ok (.iinc 2 1, 3) := by decide +kernel
theorem dX12_findCut_168 : decode cX12_findCut 168 = .ok (.goto (-164), 3) := by decide +kernel
theorem dX12_findCut_171 : decode cX12_findCut 171 = .ok (.iload_n 1, 1) := by decide +kernel
theorem dX12_findCut_172 : decode cX12_findCut 172 = .ok (.ireturn, 1) := by decide +kernel
theorem dX12_keepCut_0 : decode cX12_keepCut 0 = .ok (.iconst 0, 1) := by decide +kernel
theorem dX12_keepCut_1 : decode cX12_keepCut 1 = .ok (.istore_n 2, 1) := by decide +kernel
theorem dX12_keepCut_2 : decode cX12_keepCut 2 = .ok (.iload_n 2, 1) := by decide +kernel
theorem dX12_keepCut_3 : decode cX12_keepCut 3 = .ok (.bipush 7, 2) := by decide +kernel
theorem dX12_keepCut_5 : decode cX12_keepCut 5 = .ok (.if_icmp .ge 26, 3) := by decide +kernel
theorem dX12_keepCut_8 : decode cX12_keepCut 8 = .ok (.aload_n 0, 1) := by decide +kernel
theorem dX12_keepCut_9 : decode cX12_keepCut 9 = .ok (.getfield 62, 3) := by decide +kernel
theorem dX12_keepCut_12 : decode cX12_keepCut 12 = .ok (.bipush 8, 2) := by decide +kernel
theorem dX12_keepCut_14 : decode cX12_keepCut 14 = .ok (.aload_n 0, 1) := by decide +kernel
theorem dX12_keepCut_15 : decode cX12_keepCut 15 = .ok (.getfield 217, 3) := by decide +kernel
theorem dX12_keepCut_18 : decode cX12_keepCut 18 = .ok (.imul, 1) := by decide +kernel
theorem dX12_keepCut_19 : decode cX12_keepCut 19 = .ok (.iload_n 2, 1) := by decide +kernel
theorem dX12_keepCut_20 : decode cX12_keepCut 20 = .ok (.iadd, 1) := by decide +kernel
theorem dX12_keepCut_21 : decode cX12_keepCut 21 = .ok (.aload_n 1, 1) := by decide +kernel
theorem dX12_keepCut_22 : decode cX12_keepCut 22 = .ok (.iload_n 2, 1) := by decide +kernel
theorem dX12_keepCut_23 : decode cX12_keepCut 23 = .ok (.iaload, 1) := by decide +kernel
theorem dX12_keepCut_24 : decode cX12_keepCut 24 = .ok (.iastore, 1) := by decide +kernel
theorem dX12_keepCut_25 : decode cX12_keepCut 25 = .ok (.iinc 2 1, 3) := by decide +kernel
theorem dX12_keepCut_28 : decode cX12_keepCut 28 = .ok (.goto (-26), 3) := by decide +kernel
theorem dX12_keepCut_31 : decode cX12_keepCut 31 = .ok (.aload_n 0, 1) := by decide +kernel
theorem dX12_keepCut_32 : decode cX12_keepCut 32 = .ok (.dup, 1) := by decide +kernel
theorem dX12_keepCut_33 : decode cX12_keepCut 33 = .ok (.getfield 217, 3) := by decide +kernel
theorem dX12_keepCut_36 : decode cX12_keepCut 36 = .ok (.iconst 1, 1) := by decide +kernel
theorem dX12_keepCut_37 : decode cX12_keepCut 37 = .ok (.iadd, 1) := by decide +kernel
theorem dX12_keepCut_38 : decode cX12_keepCut 38 = .ok (.putfield 217, 3) := by decide +kernel
theorem dX12_keepCut_41 : decode cX12_keepCut 41 = .ok (.return_, 1) := by decide +kernel
theorem dX12_findBest_0 : decode cX12_findBest 0 = .ok (.aload_n 0, 1) := by decide +kernel
theorem dX12_findBest_1 : decode cX12_findBest 1 = .ok (.iload_n 1, 1) := by decide +kernel
theorem dX12_findBest_2 : decode cX12_findBest 2 = .ok (.iconst (-1), 1) := by decide +kernel
theorem dX12_findBest_3 : decode cX12_findBest 3 = .ok (.iconst 0, 1) := by decide +kernel
theorem dX12_findBest_4 : decode cX12_findBest 4 = .ok (.iconst 5, 1) := by decide +kernel
theorem dX12_findBest_5 : decode cX12_findBest 5 = .ok (.invokevirtual 210, 3) := by decide +kernel
theorem dX12_findBest_8 : decode cX12_findBest 8 = .ok (.aload_n 0, 1) := by decide +kernel
theorem dX12_findBest_9 : decode cX12_findBest 9 = .ok (.aload_n 0, 1) := by decide +kernel
theorem dX12_findBest_10 : decode cX12_findBest 10 = .ok (.invokevirtual 220, 3) := by decide +kernel
theorem dX12_findBest_13 : decode cX12_findBest 13 = .ok (.putfield 223, 3) := by decide +kernel
theorem dX12_findBest_16 : decode cX12_findBest 16 = .ok (.aload_n 0, 1) := by decide +kernel
theorem dX12_findBest_17 : decode cX12_findBest 17 = .ok (.iconst (-1), 1) := by decide +kernel
theorem dX12_findBest_18 : decode cX12_findBest 18 = .ok (.putfield 226, 3) := by decide +kernel
theorem dX12_findBest_21 : decode cX12_findBest 21 = .ok (.aload_n 0, 1) := by decide +kernel
theorem dX12_findBest_22 : decode cX12_findBest 22 = .ok (.iconst (-1), 1) := by decide +kernel
theorem dX12_findBest_23 : decode cX12_findBest 23 = .ok (.putfield 229, 3) := by decide +kernel
theorem dX12_findBest_26 : decode cX12_findBest 26 = .ok (.aload_n 0, 1) := by decide +kernel
theorem dX12_findBest_27 : decode cX12_findBest 27 = .ok (.iconst 0, 1) := by decide +kernel
theorem dX12_findBest_28 : decode cX12_findBest 28 = .ok (.putfield 217, 3) := by decide +kernel
theorem dX12_findBest_31 : decode cX12_findBest 31 = .ok (.aload_n 0, 1) := by decide +kernel
theorem dX12_findBest_32 : decode cX12_findBest 32 = .ok (.getfield 223, 3) := by decide +kernel
theorem dX12_findBest_35 : decode cX12_findBest 35 = .ok (.ifCond .le 11, 3) := by decide +kernel
theorem dX12_findBest_38 : decode cX12_findBest 38 = .ok (.aload_n 0, 1) := by decide +kernel
theorem dX12_findBest_39 : decode cX12_findBest 39 = .ok (.aload_n 0, 1) := by decide +kernel
theorem dX12_findBest_40 : decode cX12_findBest 40 = .ok (.getfield 56, 3) := by decide +kernel
theorem dX12_findBest_43 : decode cX12_findBest 43 = .ok (.invokevirtual 232, 3) := by decide +kernel
theorem dX12_findBest_46 : decode cX12_findBest 46 = .ok (.iconst 0, 1) := by decide +kernel
theorem dX12_findBest_47 : decode cX12_findBest 47 = .ok (.istore_n 2, 1) := by decide +kernel
theorem dX12_findBest_48 : decode cX12_findBest 48 = .ok (.iload_n 2, 1) := by decide +kernel
theorem dX12_findBest_49 : decode cX12_findBest 49 = .ok (.iconst 3, 1) := by decide +kernel
theorem dX12_findBest_50 : decode cX12_findBest 50 = .ok (.if_icmp .ge 149, 3) := by decide +kernel
theorem dX12_findBest_53 : decode cX12_findBest 53 = .ok (.iconst 1, 1) := by decide +kernel
theorem dX12_findBest_54 : decode cX12_findBest 54 = .ok (.istore_n 3, 1) := by decide +kernel
theorem dX12_findBest_55 : decode cX12_findBest 55 = .ok (.iload_n 3, 1) := by decide +kernel
theorem dX12_findBest_56 : decode cX12_findBest 56 = .ok (.iconst 5, 1) := by decide +kernel
theorem dX12_findBest_57 : decode cX12_findBest 57 = .ok (.if_icmp .ge 136, 3) := by decide +kernel
theorem dX12_findBest_60 : decode cX12_findBest 60 = .ok (.aload_n 0, 1) := by decide +kernel
theorem dX12_findBest_61 : decode cX12_findBest 61 = .ok (.iload_n 1, 1) := by decide +kernel
theorem dX12_findBest_62 : decode cX12_findBest 62 = .ok (.iload_n 2, 1) := by decide +kernel
theorem dX12_findBest_63 : decode cX12_findBest 63 = .ok (.iconst 0, 1) := by decide +kernel
theorem dX12_findBest_64 : decode cX12_findBest 64 = .ok (.iload_n 3, 1) := by decide +kernel
theorem dX12_findBest_65 : decode cX12_findBest 65 = .ok (.iconst 1, 1) := by decide +kernel
theorem dX12_findBest_66 : decode cX12_findBest 66 = .ok (.isub, 1) := by decide +kernel
theorem dX12_findBest_67 : decode cX12_findBest 67 = .ok (.invokevirtual 210, 3) := by decide +kernel
theorem dX12_findBest_70 : decode cX12_findBest 70 = .ok (.aload_n 0, 1) := by decide +kernel
theorem dX12_findBest_71 : decode cX12_findBest 71 = .ok (.invokevirtual 220, 3) := by decide +kernel
theorem dX12_findBest_74 : decode cX12_findBest 74 = .ok (.istore 4, 2) := by decide +kernel
theorem dX12_findBest_76 : decode cX12_findBest 76 = .ok (.iconst 0, 1) := by decide +kernel
theorem dX12_findBest_77 : decode cX12_findBest 77 = .ok (.istore 5, 2) := by decide +kernel
theorem dX12_findBest_79 : decode cX12_findBest 79 = .ok (.iload 5, 2) := by decide +kernel
theorem dX12_findBest_81 : decode cX12_findBest 81 = .ok (.bipush 7, 2) := by decide +kernel
theorem dX12_findBest_83 : decode cX12_findBest 83 = .ok (.if_icmp .ge 23, 3) := by decide +kernel
theorem dX12_findBest_86 : decode cX12_findBest 86 = .ok (.aload_n 0, 1) := by decide +kernel
theorem dX12_findBest_87 : decode cX12_findBest 87 = .ok (.getfield 59, 3) := by decide +kernel
theorem dX12_findBest_90 : decode cX12_findBest 90 = .ok (.iload 5, 2) := by decide +kernel
theorem dX12_findBest_92 : decode cX12_findBest 92 = .ok (.aload_n 0, 1) := by decide +kernel
theorem dX12_findBest_93 : decode cX12_findBest 93 = .ok (.getfield 56, 3) := by decide +kernel
theorem dX12_findBest_96 : decode cX12_findBest 96 = .ok (.iload 5, 2) := by decide +kernel
theorem dX12_findBest_98 : decode cX12_findBest 98 = .ok (.iaload, 1) := by decide +kernel
theorem dX12_findBest_99 : decode cX12_findBest 99 = .ok (.iastore, 1) := by decide +kernel
theorem dX12_findBest_100 : decode cX12_findBest 100 = .ok (.iinc 5 1, 3) := by decide +kernel
theorem dX12_findBest_103 : decode cX12_findBest 103 = .ok (.goto (-24), 3) := by decide +kernel
theorem dX12_findBest_106 : decode cX12_findBest 106 = .ok (.aload_n 0, 1) := by decide +kernel
theorem dX12_findBest_107 : decode cX12_findBest 107 = .ok (.iload_n 1, 1) := by decide +kernel
theorem dX12_findBest_108 : decode cX12_findBest 108 = .ok (.iload_n 2, 1) := by decide +kernel
theorem dX12_findBest_109 : decode cX12_findBest 109 = .ok (.iload_n 3, 1) := by decide +kernel
theorem dX12_findBest_110 : decode cX12_findBest 110 = .ok (.iconst 1, 1) := by decide +kernel
theorem dX12_findBest_111 : decode cX12_findBest 111 = .ok (.iadd, 1) := by decide +kernel
theorem dX12_findBest_112 : decode cX12_findBest 112 = .ok (.iconst 5, 1) := by decide +kernel
theorem dX12_findBest_113 : decode cX12_findBest 113 = .ok (.invokevirtual 210, 3) := by decide +kernel
theorem dX12_findBest_116 : decode cX12_findBest 116 = .ok (.aload_n 0, 1) := by decide +kernel
theorem dX12_findBest_117 : decode cX12_findBest 117 = .ok (.invokevirtual 220, 3) := by decide +kernel
theorem dX12_findBest_120 : decode cX12_findBest 120 = .ok (.istore 5, 2) := by decide +kernel
theorem dX12_findBest_122 : decode cX12_findBest 122 = .ok (.iload 4, 2) := by decide +kernel
theorem dX12_findBest_124 : decode cX12_findBest 124 = .ok (.iload 5, 2) := by decide +kernel
theorem dX12_findBest_126 : decode cX12_findBest 126 = .ok (.iadd, 1) := by decide +kernel
theorem dX12_findBest_127 : decode cX12_findBest 127 = .ok (.aload_n 0, 1) := by decide +kernel
theorem dX12_findBest_128 : decode cX12_findBest 128 = .ok (.getfield 223, 3) := by decide +kernel
theorem dX12_findBest_131 : decode cX12_findBest 131 = .ok (.if_icmp .gt 6, 3) := by decide +kernel
theorem dX12_findBest_134 : decode cX12_findBest 134 = .ok (.goto 53, 3) := by decide +kernel
theorem dX12_findBest_137 : decode cX12_findBest 137 = .ok (.aload_n 0, 1) := by decide +kernel
theorem dX12_findBest_138 : decode cX12_findBest 138 = .ok (.iload 4, 2) := by decide +kernel
theorem dX12_findBest_140 : decode cX12_findBest 140 = .ok (.iload 5, 2) := by decide +kernel
theorem dX12_findBest_142 : decode cX12_findBest 142 = .ok (.iadd, 1) := by decide +kernel
theorem dX12_findBest_143 : decode cX12_findBest 143 = .ok (.putfield 223, 3) := by decide +kernel
theorem dX12_findBest_146 : decode cX12_findBest 146 = .ok (.aload_n 0, 1) := by decide +kernel
theorem dX12_findBest_147 : decode cX12_findBest 147 = .ok (.iload_n 2, 1) := by decide +kernel
theorem dX12_findBest_148 : decode cX12_findBest 148 = .ok (.putfield 226, 3) := by decide +kernel
theorem dX12_findBest_151 : decode cX12_findBest 151 = .ok (.aload_n 0, 1) := by decide +kernel
theorem dX12_findBest_152 : decode cX12_findBest 152 = .ok (.iload_n 3, 1) := by decide +kernel
theorem dX12_findBest_153 : decode cX12_findBest 153 = .ok (.putfield 229, 3) := by decide +kernel
theorem dX12_findBest_156 : decode cX12_findBest 156 = .ok (.aload_n 0, 1) := by decide +kernel
theorem dX12_findBest_157 : decode cX12_findBest 157 = .ok (.iconst 0, 1) := by decide +kernel
theorem dX12_findBest_158 : decode cX12_findBest 158 = .ok (.putfield 217, 3) := by decide +kernel
theorem dX12_findBest_161 : decode cX12_findBest 161 = .ok (.iload 4, 2) := by decide +kernel
theorem dX12_findBest_163 : decode cX12_findBest 163 = .ok (.ifCond .le 11, 3) := by decide +kernel
theorem dX12_findBest_166 : decode cX12_findBest 166 = .ok (.aload_n 0, 1) := by decide +kernel
theorem dX12_findBest_167 : decode cX12_findBest 167 = .ok (.aload_n 0, 1) := by decide +kernel
theorem dX12_findBest_168 : decode cX12_findBest 168 = .ok (.getfield 59, 3) := by decide +kernel
theorem dX12_findBest_171 : decode cX12_findBest 171 = .ok (.invokevirtual 232, 3) := by decide +kernel
theorem dX12_findBest_174 : decode cX12_findBest 174 = .ok (.iload 5, 2) := by decide +kernel
theorem dX12_findBest_176 : decode cX12_findBest 176 = .ok (.ifCond .le 11, 3) := by decide +kernel
theorem dX12_findBest_179 : decode cX12_findBest 179 = .ok (.aload_n 0, 1) := by decide +kernel
theorem dX12_findBest_180 : decode cX12_findBest 180 = .ok (.aload_n 0, 1) := by decide +kernel
theorem dX12_findBest_181 : decode cX12_findBest 181 = .ok (.getfield 56, 3) := by decide +kernel
theorem dX12_findBest_184 : decode cX12_findBest 184 = .ok (.invokevirtual 232, 3) := by decide +kernel
theorem dX12_findBest_187 : decode cX12_findBest 187 = .ok (.iinc 3 1, 3) := by decide +kernel
theorem dX12_findBest_190 : decode cX12_findBest 190 = .ok (.goto (-135), 3) := by decide +kernel
theorem dX12_findBest_193 : decode cX12_findBest 193 = .ok (.iinc 2 1, 3) := by decide +kernel
theorem dX12_findBest_196 : decode cX12_findBest 196 = .ok (.goto (-148), 3) := by decide +kernel
theorem dX12_findBest_199 : decode cX12_findBest 199 = .ok (.return_, 1) := by decide +kernel
theorem dX12_best_0 : decode cX12_best 0 = .ok (.aload_n 0, 1) := by decide +kernel
theorem dX12_best_1 : decode cX12_best 1 = .ok (.iconst 0, 1) := by decide +kernel
theorem dX12_best_2 : decode cX12_best 2 = .ok (.putfield 1, 3) := by decide +kernel
theorem dX12_best_5 : decode cX12_best 5 = .ok (.aload_n 0, 1) := by decide +kernel
theorem dX12_best_6 : decode cX12_best 6 = .ok (.iload_n 1, 1) := by decide +kernel
theorem dX12_best_7 : decode cX12_best 7 = .ok (.invokevirtual 137, 3) := by decide +kernel
theorem dX12_best_10 : decode cX12_best 10 = .ok (.ifCond .ne 5, 3) := by decide +kernel
theorem dX12_best_13 : decode cX12_best 13 = .ok (.iconst 0, 1) := by decide +kernel
theorem dX12_best_14 : decode cX12_best 14 = .ok (.ireturn, 1) := by decide +kernel
theorem dX12_best_15 : decode cX12_best 15 = .ok (.aload_n 0, 1) := by decide +kernel
theorem dX12_best_16 : decode cX12_best 16 = .ok (.iload_n 1, 1) := by decide +kernel
theorem dX12_best_17 : decode cX12_best 17 = .ok (.invokevirtual 236, 3) := by decide +kernel
theorem dX12_best_20 : decode cX12_best 20 = .ok (.aload_n 0, 1) := by decide +kernel
theorem dX12_best_21 : decode cX12_best 21 = .ok (.getfield 223, 3) := by decide +kernel
theorem dX12_best_24 : decode cX12_best 24 = .ok (.ireturn, 1) := by decide +kernel
theorem dX12_sawn_0 : decode cX12_sawn 0 = .ok (.aload_n 0, 1) := by decide +kernel
theorem dX12_sawn_1 : decode cX12_sawn 1 = .ok (.iconst 0, 1) := by decide +kernel
theorem dX12_sawn_2 : decode cX12_sawn 2 = .ok (.putfield 1, 3) := by decide +kernel
theorem dX12_sawn_5 : decode cX12_sawn 5 = .ok (.aload_n 0, 1) := by decide +kernel
theorem dX12_sawn_6 : decode cX12_sawn 6 = .ok (.iload_n 1, 1) := by decide +kernel
theorem dX12_sawn_7 : decode cX12_sawn 7 = .ok (.invokevirtual 137, 3) := by decide +kernel
theorem dX12_sawn_10 : decode cX12_sawn 10 = .ok (.ifCond .eq 17, 3) := by decide +kernel
theorem dX12_sawn_13 : decode cX12_sawn 13 = .ok (.aload_n 0, 1) := by decide +kernel
theorem dX12_sawn_14 : decode cX12_sawn 14 = .ok (.iload_n 2, 1) := by decide +kernel
theorem dX12_sawn_15 : decode cX12_sawn 15 = .ok (.iconst 0, 1) := by decide +kernel
theorem dX12_sawn_16 : decode cX12_sawn 16 = .ok (.iconst 2, 1) := by decide +kernel
theorem dX12_sawn_17 : decode cX12_sawn 17 = .ok (.invokestatic 129, 3) := by decide +kernel
theorem dX12_sawn_20 : decode cX12_sawn 20 = .ok (.iconst 2, 1) := by decide +kernel
theorem dX12_sawn_21 : decode cX12_sawn 21 = .ok (.invokevirtual 133, 3) := by decide +kernel
theorem dX12_sawn_24 : decode cX12_sawn 24 = .ok (.ifCond .ne 5, 3) := by decide +kernel
theorem dX12_sawn_27 : decode cX12_sawn 27 = .ok (.iconst 0, 1) := by decide +kernel
theorem dX12_sawn_28 : decode cX12_sawn 28 = .ok (.ireturn, 1) := by decide +kernel
theorem dX12_sawn_29 : decode cX12_sawn 29 = .ok (.aload_n 0, 1) := by decide +kernel
theorem dX12_sawn_30 : decode cX12_sawn 30 = .ok (.iload_n 1, 1) := by decide +kernel
theorem dX12_sawn_31 : decode cX12_sawn 31 = .ok (.invokevirtual 236, 3) := by decide +kernel
theorem dX12_sawn_34 : decode cX12_sawn 34 = .ok (.iload_n 2, 1) := by decide +kernel
theorem dX12_sawn_35 : decode cX12_sawn 35 = .ok (.ifCond .ne 10, 3) := by decide +kernel
theorem dX12_sawn_38 : decode cX12_sawn 38 = .ok (.aload_n 0, 1) := by decide +kernel
theorem dX12_sawn_39 : decode cX12_sawn 39 = .ok (.getfield 226, 3) := by decide +kernel
theorem dX12_sawn_42 : decode cX12_sawn 42 = .ok (.goto 19, 3) := by decide +kernel
theorem dX12_sawn_45 : decode cX12_sawn 45 = .ok (.iload_n 2, 1) := by decide +kernel
theorem dX12_sawn_46 : decode cX12_sawn 46 = .ok (.iconst 1, 1) := by decide +kernel
theorem dX12_sawn_47 : decode cX12_sawn 47 = .ok (.if_icmp .ne 10, 3) := by decide +kernel
theorem dX12_sawn_50 : decode cX12_sawn 50 = .ok (.aload_n 0, 1) := by decide +kernel
theorem dX12_sawn_51 : decode cX12_sawn 51 = .ok (.getfield 229, 3) := by decide +kernel
theorem dX12_sawn_54 : decode cX12_sawn 54 = .ok (.goto 7, 3) := by decide +kernel
theorem dX12_sawn_57 : decode cX12_sawn 57 = .ok (.aload_n 0, 1) := by decide +kernel
theorem dX12_sawn_58 : decode cX12_sawn 58 = .ok (.getfield 217, 3) := by decide +kernel
theorem dX12_sawn_61 : decode cX12_sawn 61 = .ok (.ireturn, 1) := by decide +kernel
theorem dX12_cut_0 : decode cX12_cut 0 = .ok (.aload_n 0, 1) := by decide +kernel
theorem dX12_cut_1 : decode cX12_cut 1 = .ok (.iconst 0, 1) := by decide +kernel
theorem dX12_cut_2 : decode cX12_cut 2 = .ok (.putfield 1, 3) := by decide +kernel
theorem dX12_cut_5 : decode cX12_cut 5 = .ok (.aload_n 0, 1) := by decide +kernel
theorem dX12_cut_6 : decode cX12_cut 6 = .ok (.iload_n 1, 1) := by decide +kernel
theorem dX12_cut_7 : decode cX12_cut 7 = .ok (.invokevirtual 137, 3) := by decide +kernel
theorem dX12_cut_10 : decode cX12_cut 10 = .ok (.ifCond .eq 18, 3) := by decide +kernel
theorem dX12_cut_13 : decode cX12_cut 13 = .ok (.aload_n 0, 1) := by decide +kernel
theorem dX12_cut_14 : decode cX12_cut 14 = .ok (.iload_n 3, 1) := by decide +kernel
theorem dX12_cut_15 : decode cX12_cut 15 = .ok (.iconst 0, 1) := by decide +kernel
theorem dX12_cut_16 : decode cX12_cut 16 = .ok (.bipush 6, 2) := by decide +kernel
theorem dX12_cut_18 : decode cX12_cut 18 = .ok (.invokestatic 129, 3) := by decide +kernel
theorem dX12_cut_21 : decode cX12_cut 21 = .ok (.iconst 2, 1) := by decide +kernel
theorem dX12_cut_22 : decode cX12_cut 22 = .ok (.invokevirtual 133, 3) := by decide +kernel
theorem dX12_cut_25 : decode cX12_cut 25 = .ok (.ifCond .ne 5, 3) := by decide +kernel
theorem dX12_cut_28 : decode cX12_cut 28 = .ok (.iconst 0, 1) := by decide +kernel
theorem dX12_cut_29 : decode cX12_cut 29 = .ok (.ireturn, 1) := by decide +kernel
theorem dX12_cut_30 : decode cX12_cut 30 = .ok (.aload_n 0, 1) := by decide +kernel
theorem dX12_cut_31 : decode cX12_cut 31 = .ok (.iload_n 1, 1) := by decide +kernel
theorem dX12_cut_32 : decode cX12_cut 32 = .ok (.invokevirtual 236, 3) := by decide +kernel
theorem dX12_cut_35 : decode cX12_cut 35 = .ok (.iload_n 2, 1) := by decide +kernel
theorem dX12_cut_36 : decode cX12_cut 36 = .ok (.iconst 0, 1) := by decide +kernel
theorem dX12_cut_37 : decode cX12_cut 37 = .ok (.aload_n 0, 1) := by decide +kernel
theorem dX12_cut_38 : decode cX12_cut 38 = .ok (.getfield 217, 3) := by decide +kernel
theorem dX12_cut_41 : decode cX12_cut 41 = .ok (.iconst 1, 1) := by decide +kernel
theorem dX12_cut_42 : decode cX12_cut 42 = .ok (.isub, 1) := by decide +kernel
theorem dX12_cut_43 : decode cX12_cut 43 = .ok (.invokestatic 129, 3) := by decide +kernel
theorem dX12_cut_46 : decode cX12_cut 46 = .ok (.ifCond .ne 20, 3) := by decide +kernel
theorem dX12_cut_49 : decode cX12_cut 49 = .ok (.iload_n 3, 1) := by decide +kernel
theorem dX12_cut_50 : decode cX12_cut 50 = .ok (.iconst 3, 1) := by decide +kernel
theorem dX12_cut_51 : decode cX12_cut 51 = .ok (.iconst 5, 1) := by decide +kernel
theorem dX12_cut_52 : decode cX12_cut 52 = .ok (.invokestatic 129, 3) := by decide +kernel
theorem dX12_cut_55 : decode cX12_cut 55 = .ok (.ifCond .eq 9, 3) := by decide +kernel
theorem dX12_cut_58 : decode cX12_cut 58 = .ok (.sipush (-1000), 3) := by decide +kernel
theorem dX12_cut_61 : decode cX12_cut 61 = .ok (.goto 4, 3) := by decide +kernel
theorem dX12_cut_64 : decode cX12_cut 64 = .ok (.iconst (-1), 1) := by decide +kernel
theorem dX12_cut_65 : decode cX12_cut 65 = .ok (.ireturn, 1) := by decide +kernel
theorem dX12_cut_66 : decode cX12_cut 66 = .ok (.aload_n 0, 1) := by decide +kernel
theorem dX12_cut_67 : decode cX12_cut 67 = .ok (.getfield 62, 3) := by decide +kernel
theorem dX12_cut_70 : decode cX12_cut 70 = .ok (.bipush 8, 2) := by decide +kernel
theorem dX12_cut_72 : decode cX12_cut 72 = .ok (.iload_n 2, 1) := by decide +kernel
theorem dX12_cut_73 : decode cX12_cut 73 = .ok (.imul, 1) := by decide +kernel
theorem dX12_cut_74 : decode cX12_cut 74 = .ok (.iload_n 3, 1) := by decide +kernel
theorem dX12_cut_75 : decode cX12_cut 75 = .ok (.iadd, 1) := by decide +kernel
theorem dX12_cut_76 : decode cX12_cut 76 = .ok (.iaload, 1) := by decide +kernel
theorem dX12_cut_77 : decode cX12_cut 77 = .ok (.ireturn, 1) := by decide +kernel
theorem dX12_done_0 : decode cX12_done 0 = .ok (.aload_n 0, 1) := by decide +kernel
theorem dX12_done_1 : decode cX12_done 1 = .ok (.iconst 0, 1) := by decide +kernel
theorem dX12_done_2 : decode cX12_done 2 = .ok (.putfield 1, 3) := by decide +kernel
theorem dX12_done_5 : decode cX12_done 5 = .ok (.aload_n 0, 1) := by decide +kernel
theorem dX12_done_6 : decode cX12_done 6 = .ok (.iload_n 1, 1) := by decide +kernel
theorem dX12_done_7 : decode cX12_done 7 = .ok (.invokevirtual 137, 3) := by decide +kernel
theorem dX12_done_10 : decode cX12_done 10 = .ok (.ifCond .ne 5, 3) := by decide +kernel
theorem dX12_done_13 : decode cX12_done 13 = .ok (.iconst 0, 1) := by decide +kernel
theorem dX12_done_14 : decode cX12_done 14 = .ok (.ireturn, 1) := by decide +kernel
theorem dX12_done_15 : decode cX12_done 15 = .ok (.aload_n 0, 1) := by decide +kernel
theorem dX12_done_16 : decode cX12_done 16 = .ok (.iload_n 1, 1) := by decide +kernel
theorem dX12_done_17 : decode cX12_done 17 = .ok (.invokevirtual 236, 3) := by decide +kernel
theorem dX12_done_20 : decode cX12_done 20 = .ok (.aload_n 0, 1) := by decide +kernel
theorem dX12_done_21 : decode cX12_done 21 = .ok (.getfield 239, 3) := by decide +kernel
theorem dX12_done_24 : decode cX12_done 24 = .ok (.aload_n 0, 1) := by decide +kernel
theorem dX12_done_25 : decode cX12_done 25 = .ok (.getfield 217, 3) := by decide +kernel
theorem dX12_done_28 : decode cX12_done 28 = .ok (.iadd, 1) := by decide +kernel
theorem dX12_done_29 : decode cX12_done 29 = .ok (.bipush 40, 2) := by decide +kernel
theorem dX12_done_31 : decode cX12_done 31 = .ok (.if_icmp .le 5, 3) := by decide +kernel
theorem dX12_done_34 : decode cX12_done 34 = .ok (.iconst (-1), 1) := by decide +kernel
theorem dX12_done_35 : decode cX12_done 35 = .ok (.ireturn, 1) := by decide +kernel
theorem dX12_done_36 : decode cX12_done 36 = .ok (.iconst 0, 1) := by decide +kernel
theorem dX12_done_37 : decode cX12_done 37 = .ok (.istore_n 2, 1) := by decide +kernel
theorem dX12_done_38 : decode cX12_done 38 = .ok (.iload_n 2, 1) := by decide +kernel
theorem dX12_done_39 : decode cX12_done 39 = .ok (.aload_n 0, 1) := by decide +kernel
theorem dX12_done_40 : decode cX12_done 40 = .ok (.getfield 217, 3) := by decide +kernel
theorem dX12_done_43 : decode cX12_done 43 = .ok (.if_icmp .ge 122, 3) := by decide +kernel
theorem dX12_done_46 : decode cX12_done 46 = .ok (.aload_n 0, 1) := by decide +kernel
theorem dX12_done_47 : decode cX12_done 47 = .ok (.getfield 65, 3) := by decide +kernel
theorem dX12_done_50 : decode cX12_done 50 = .ok (.aload_n 0, 1) := by decide +kernel
theorem dX12_done_51 : decode cX12_done 51 = .ok (.getfield 239, 3) := by decide +kernel
theorem dX12_done_54 : decode cX12_done 54 = .ok (.sipush 1000, 3) := by decide +kernel
theorem dX12_done_57 : decode cX12_done 57 = .ok (.aload_n 0, 1) := by decide +kernel
theorem dX12_done_58 : decode cX12_done 58 = .ok (.getfield 62, 3) := by decide +kernel
theorem dX12_done_61 : decode cX12_done 61 = .ok (.bipush 8, 2) := by decide +kernel
theorem dX12_done_63 : decode cX12_done 63 = .ok (.iload_n 2, 1) := by decide +kernel
theorem dX12_done_64 : decode cX12_done 64 = .ok (.imul, 1) := by decide +kernel
theorem dX12_done_65 : decode cX12_done 65 = .ok (.bipush 6, 2) := by decide +kernel
theorem dX12_done_67 : decode cX12_done 67 = .ok (.iadd, 1) := by decide +kernel
theorem dX12_done_68 : decode cX12_done 68 = .ok (.iaload, 1) := by decide +kernel
theorem dX12_done_69 : decode cX12_done 69 = .ok (.imul, 1) := by decide +kernel
theorem dX12_done_70 : decode cX12_done 70 = .ok (.iastore, 1) := by decide +kernel
theorem dX12_done_71 : decode cX12_done 71 = .ok (.aload_n 0, 1) := by decide +kernel
theorem dX12_done_72 : decode cX12_done 72 = .ok (.getfield 68, 3) := by decide +kernel
theorem dX12_done_75 : decode cX12_done 75 = .ok (.aload_n 0, 1) := by decide +kernel
theorem dX12_done_76 : decode cX12_done 76 = .ok (.getfield 239, 3) := by decide +kernel
theorem dX12_done_79 : decode cX12_done 79 = .ok (.iload_n 1, 1) := by decide +kernel
theorem dX12_done_80 : decode cX12_done 80 = .ok (.iastore, 1) := by decide +kernel
theorem dX12_done_81 : decode cX12_done 81 = .ok (.aload_n 0, 1) := by decide +kernel
theorem dX12_done_82 : decode cX12_done 82 = .ok (.getfield 71, 3) := by decide +kernel
theorem dX12_done_85 : decode cX12_done 85 = .ok (.aload_n 0, 1) := by decide +kernel
theorem dX12_done_86 : decode cX12_done 86 = .ok (.getfield 239, 3) := by decide +kernel
theorem dX12_done_89 : decode cX12_done 89 = .ok (.aload_n 0, 1) := by decide +kernel
theorem dX12_done_90 : decode cX12_done 90 = .ok (.getfield 62, 3) := by decide +kernel
theorem dX12_done_93 : decode cX12_done 93 = .ok (.bipush 8, 2) := by decide +kernel
theorem dX12_done_95 : decode cX12_done 95 = .ok (.iload_n 2, 1) := by decide +kernel
theorem dX12_done_96 : decode cX12_done 96 = .ok (.imul, 1) := by decide +kernel
theorem dX12_done_97 : decode cX12_done 97 = .ok (.iaload, 1) := by decide +kernel
theorem dX12_done_98 : decode cX12_done 98 = .ok (.iastore, 1) := by decide +kernel
theorem dX12_done_99 : decode cX12_done 99 = .ok (.aload_n 0, 1) := by decide +kernel
theorem dX12_done_100 : decode cX12_done 100 = .ok (.getfield 74, 3) := by decide +kernel
theorem dX12_done_103 : decode cX12_done 103 = .ok (.aload_n 0, 1) := by decide +kernel
theorem dX12_done_104 : decode cX12_done 104 = .ok (.getfield 239, 3) := by decide +kernel
theorem dX12_done_107 : decode cX12_done 107 = .ok (.iconst 0, 1) := by decide +kernel
theorem dX12_done_108 : decode cX12_done 108 = .ok (.iastore, 1) := by decide +kernel
theorem dX12_done_109 : decode cX12_done 109 = .ok (.aload_n 0, 1) := by decide +kernel
theorem dX12_done_110 : decode cX12_done 110 = .ok (.getfield 83, 3) := by decide +kernel
theorem dX12_done_113 : decode cX12_done 113 = .ok (.aload_n 0, 1) := by decide +kernel
theorem dX12_done_114 : decode cX12_done 114 = .ok (.getfield 239, 3) := by decide +kernel
theorem dX12_done_117 : decode cX12_done 117 = .ok (.iconst (-1), 1) := by decide +kernel
theorem dX12_done_118 : decode cX12_done 118 = .ok (.iastore, 1) := by decide +kernel
theorem dX12_done_119 : decode cX12_done 119 = .ok (.aload_n 0, 1) := by decide +kernel
theorem dX12_done_120 : decode cX12_done 120 = .ok (.getfield 86, 3) := by decide +kernel
theorem dX12_done_123 : decode cX12_done 123 = .ok (.aload_n 0, 1) := by decide +kernel
theorem dX12_done_124 : decode cX12_done 124 = .ok (.getfield 239, 3) := by decide +kernel
theorem dX12_done_127 : decode cX12_done 127 = .ok (.iconst (-1), 1) := by decide +kernel
theorem dX12_done_128 : decode cX12_done 128 = .ok (.iastore, 1) := by decide +kernel
theorem dX12_done_129 : decode cX12_done 129 = .ok (.aload_n 0, 1) := by decide +kernel
theorem dX12_done_130 : decode cX12_done 130 = .ok (.getfield 89, 3) := by decide +kernel
theorem dX12_done_133 : decode cX12_done 133 = .ok (.aload_n 0, 1) := by decide +kernel
theorem dX12_done_134 : decode cX12_done 134 = .ok (.getfield 239, 3) := by decide +kernel
theorem dX12_done_137 : decode cX12_done 137 = .ok (.iconst (-1), 1) := by decide +kernel
theorem dX12_done_138 : decode cX12_done 138 = .ok (.iastore, 1) := by decide +kernel
theorem dX12_done_139 : decode cX12_done 139 = .ok (.aload_n 0, 1) := by decide +kernel
theorem dX12_done_140 : decode cX12_done 140 = .ok (.getfield 92, 3) := by decide +kernel
theorem dX12_done_143 : decode cX12_done 143 = .ok (.aload_n 0, 1) := by decide +kernel
theorem dX12_done_144 : decode cX12_done 144 = .ok (.getfield 239, 3) := by decide +kernel
theorem dX12_done_147 : decode cX12_done 147 = .ok (.iconst 0, 1) := by decide +kernel
theorem dX12_done_148 : decode cX12_done 148 = .ok (.bastore, 1) := by decide +kernel
theorem dX12_done_149 : decode cX12_done 149 = .ok (.aload_n 0, 1) := by decide +kernel
theorem dX12_done_150 : decode cX12_done 150 = .ok (.dup, 1) := by decide +kernel
theorem dX12_done_151 : decode cX12_done 151 = .ok (.getfield 239, 3) := by decide +kernel
theorem dX12_done_154 : decode cX12_done 154 = .ok (.iconst 1, 1) := by decide +kernel
theorem dX12_done_155 : decode cX12_done 155 = .ok (.iadd, 1) := by decide +kernel
theorem dX12_done_156 : decode cX12_done 156 = .ok (.putfield 239, 3) := by decide +kernel
theorem dX12_done_159 : decode cX12_done 159 = .ok (.iinc 2 1, 3) := by decide +kernel
theorem dX12_done_162 : decode cX12_done 162 = .ok (.goto (-124), 3) := by decide +kernel
theorem dX12_done_165 : decode cX12_done 165 = .ok (.iconst 0, 1) := by decide +kernel
theorem dX12_done_166 : decode cX12_done 166 = .ok (.istore_n 2, 1) := by decide +kernel
theorem dX12_done_167 : decode cX12_done 167 = .ok (.iload_n 2, 1) := by decide +kernel
theorem dX12_done_168 : decode cX12_done 168 = .ok (.sipush 216, 3) := by decide +kernel
theorem dX12_done_171 : decode cX12_done 171 = .ok (.if_icmp .ge 22, 3) := by decide +kernel
theorem dX12_done_174 : decode cX12_done 174 = .ok (.aload_n 0, 1) := by decide +kernel
theorem dX12_done_175 : decode cX12_done 175 = .ok (.getfield 13, 3) := by decide +kernel
theorem dX12_done_178 : decode cX12_done 178 = .ok (.sipush 216, 3) := by decide +kernel
theorem dX12_done_181 : decode cX12_done 181 = .ok (.iload_n 1, 1) := by decide +kernel
theorem dX12_done_182 : decode cX12_done 182 = .ok (.imul, 1) := by decide +kernel
theorem dX12_done_183 : decode cX12_done 183 = .ok (.iload_n 2, 1) := by decide +kernel
theorem dX12_done_184 : decode cX12_done 184 = .ok (.iadd, 1) := by decide +kernel
theorem dX12_done_185 : decode cX12_done 185 = .ok (.iconst 0, 1) := by decide +kernel
theorem dX12_done_186 : decode cX12_done 186 = .ok (.iastore, 1) := by decide +kernel
theorem dX12_done_187 : decode cX12_done 187 = .ok (.iinc 2 1, 3) := by decide +kernel
theorem dX12_done_190 : decode cX12_done 190 = .ok (.goto (-23), 3) := by decide +kernel
theorem dX12_done_193 : decode cX12_done 193 = .ok (.aload_n 0, 1) := by decide +kernel
theorem dX12_done_194 : decode cX12_done 194 = .ok (.getfield 217, 3) := by decide +kernel
theorem dX12_done_197 : decode cX12_done 197 = .ok (.ireturn, 1) := by decide +kernel
def F_X12_setPart_L55 (c0 : Nat) (c1 : Int32) (k189 : PM → Option (Unit × PM)) : Nat → Int32 → PM → Option (Unit × PM)
  | 0, _, _ => none
  | fu + 1, v3, h4 => if 216 ≤ v3 then (k189 h4) else (dv 6 (lt_ (v3 - v3 / 6 * 6) fun x5 => dv 6 (dv 6 (lt_ ((v3 / 6) - (v3 / 6) / 6 * 6) fun x6 => dv 36 (lt_ (v3 / 36) fun x7 => gR h4 c0 13 17 fun x8 => aI h4 x8 0 fun x9 => gR h4 c0 13 18 fun x10 => aI h4 x10 0 fun x11 => cl (F_X12_within x5 x9 x11 h4) fun r12 h13 => jn (fun (s15 : Int32) (h16 : PM) => gR h16 c0 13 19 fun x17 => jn (fun (s18 : Int32) (s19 : Int32) (s20 : Nat) (h21 : PM) => sI h21 s20 s19 s18 fun h22 => F_X12_setPart_L55 c0 c1 k189 fu (v3 + 1) h22) fun k182 => if s15 = 0 then (k182 0 v3 x17 h16) else (gR h16 c0 13 2 fun x24 => aI h16 x24 ((216 * c1) + v3) fun x25 => k182 x25 v3 x17 h16)) fun k152 => jn (fun  (h26 : PM) => k152 0 h26) fun k151 => if r12 = 0 then (k151 h13) else (gR h13 c0 13 17 fun x27 => aI h13 x27 1 fun x28 => gR h13 c0 13 18 fun x29 => aI h13 x29 1 fun x30 => cl (F_X12_within x6 x28 x30 h13) fun r31 h32 => if r31 = 0 then (k151 h32) else (gR h32 c0 13 17 fun x34 => aI h32 x34 2 fun x35 => gR h32 c0 13 18 fun x36 => aI h32 x36 2 fun x37 => cl (F_X12_within x7 x35 x37 h32) fun r38 h39 => if r38 = 0 then (k151 h39) else (k152 1 h39))))))))
def F_X12_setPart_L3 (c0 : Nat) (c1 : Int32) (c2 : Int32) (c3 : Int32) (c4 : Int32) (k52 : PM → Option (Unit × PM)) : Nat → Int32 → PM → Option (Unit × PM)
  | 0, _, _ => none
  | fu + 1, v44, h45 => if 3 ≤ v44 then (k52 h45) else (gR h45 c0 13 17 fun x46 => jn (fun (s47 : Int32) (s48 : Int32) (s49 : Nat) (h50 : PM) => sI h50 s49 s48 s47 fun h51 => gR h51 c0 13 18 fun x52 => jn (fun (s53 : Int32) (s54 : Int32) (s55 : Nat) (h56 : PM) => sI h56 s55 s54 s53 fun h57 => F_X12_setPart_L3 c0 c1 c2 c3 c4 k52 fu (v44 + 1) h57) fun k45 => if ¬ v44 = c2 then (k45 5 v44 x52 h51) else (k45 c4 v44 x52 h51)) fun k26 => if ¬ v44 = c2 then (k26 0 v44 x46 h45) else (k26 c3 v44 x46 h45))
def F_X12_setPart (a0 : Nat) (a1 : Int32) (a2 : Int32) (a3 : Int32) (a4 : Int32) (h0 : PM) : Option (Unit × PM) := jn (fun  (h1 : PM) => jn (fun  (h2 : PM) => some ((), h2)) fun k189 => F_X12_setPart_L55 a0 a1 k189 LF 0 h1) fun k52 => F_X12_setPart_L3 a0 a1 a2 a3 a4 k52 LF 0 h0
set_option maxRecDepth 100000 in
set_option maxHeartbeats 4000000 in
theorem S_X12_setPart {a0 : Nat} {a1 : Int32} {a2 : Int32} {a3 : Int32} {a4 : Int32} {h0 : PM} (r : Unit) (h' : PM) (hF : F_X12_setPart a0 a1 a2 a3 a4 h0 = some (r, h')) : CN yX12_setPart cX12_setPart 10 none 0 0 1 [.ref a0, .int a1, .int a2, .int a3, .int a4] h0 none h' := by
  obtain ⟨X, eX⟩ : ∃ X, X = (r, h') := ⟨_, rfl⟩
  rw [← eX] at hF
  have e1 : r = X.1 := by rw [eX]
  have e2 : h' = X.2 := by rw [eX]
  rw [e2]
  clear eX e1 e2
  unfold F_X12_setPart at hF
  refine CN_of (by decide) (fun ρ => Nat.le_of_ble_eq_true rfl) rfl ?_
  intro p l e s m args below meth c D cy base ρ hT C V hr hnm
  refine r_iconst (v := 0) C dX12_setPart_0 (by decide) ?_
  refine r_istore C dX12_setPart_1 (by decide) rfl ?_
  obtain ⟨k52, ek52, hF⟩ := jn_some hF
  have Jk52 : ∀  (h1 : PM), k52 h1 = some X → WP p l e (rmN 0 0 1) s m args below meth c D cy base ρ h0 0 0 10 (MQ below (QR D cy base ρ h0 none X.2) args s 0 0 (fun q => base ≤ q)) 52 [(0, .ref a0), (1, .int a1)] [] h1 := by
    intro h1 hF
    rw [ek52] at hF
    refine r_iconst (v := 0) C dX12_setPart_52 (by decide) ?_
    refine r_istore C dX12_setPart_53 (by decide) rfl ?_
    obtain ⟨k189, ek189, hF⟩ := jn_some hF
    have Jk189 : ∀  (h2 : PM), k189 h2 = some X → WP p l e (rmN 0 0 1) s m args below meth c D cy base ρ h0 0 0 10 (MQ below (QR D cy base ρ h0 none X.2) args s 0 0 (fun q => base ≤ q)) 189 [] [] h2 := by
      intro h2 hF
      rw [ek189] at hF
      exact k_vret C dX12_setPart_189 hr (by decide) (by decide) hF
    have L55 : ∀ (fu : Nat) (v3 : Int32) (h4 : PM), F_X12_setPart_L55 a0 a1 k189 fu v3 h4 = some X → WP p l e (rmN 0 0 1) s m args below meth c D cy base ρ h0 0 0 10 (MQ below (QR D cy base ρ h0 none X.2) args s 0 0 (fun q => base ≤ q)) 55 [(0, .ref a0), (1, .int a1), (5, .int v3)] [] h4 := by
      intro fu
      induction fu with
      | zero => intro v3 h4 hF; rw [F_X12_setPart_L55.eq_1] at hF; cases hF
      | succ fu ih =>
        intro v3 h4 hF
        rw [F_X12_setPart_L55.eq_2] at hF
        refine r_iload C dX12_setPart_55 2 rfl ?_
        refine r_sipush (v := 216) C dX12_setPart_57 (by decide) ?_
        refine r_icmp_ge (tgt := 189) C dX12_setPart_60 (by decide) hF (fun hF => ?_) (fun hF => ?_)
        · exact r_sub [] rfl (Jk189  _ hF)
        · refine r_iload C dX12_setPart_63 2 rfl ?_
          refine r_bipush (v := 6) C dX12_setPart_65 (by decide) ?_
          refine k_irem C dX12_setPart_67 hF (fun hF => ?_)
          refine k_lti hF (fun x5 hF => ?_)
          refine r_istore C dX12_setPart_68 (by decide) rfl ?_
          refine r_iload C dX12_setPart_70 3 rfl ?_
          refine r_bipush (v := 6) C dX12_setPart_72 (by decide) ?_
          refine k_idiv C dX12_setPart_74 hF (fun hF => ?_)
          refine r_bipush (v := 6) C dX12_setPart_75 (by decide) ?_
          refine k_irem C dX12_setPart_77 hF (fun hF => ?_)
          refine k_lti hF (fun x6 hF => ?_)
          refine r_istore C dX12_setPart_78 (by decide) rfl ?_
          refine r_iload C dX12_setPart_80 4 rfl ?_
          refine r_bipush (v := 36) C dX12_setPart_82 (by decide) ?_
          refine k_idiv C dX12_setPart_84 hF (fun hF => ?_)
          refine k_lti hF (fun x7 hF => ?_)
          refine r_istore C dX12_setPart_85 (by decide) rfl ?_
          refine r_iload C dX12_setPart_87 2 rfl ?_
          refine r_aload_n C dX12_setPart_89 rfl 3 rfl ?_
          refine k_gR C dX12_setPart_90 fd_X12_41 (by decide) hF (fun x8 hF => ?_)
          refine r_iconst (v := 0) C dX12_setPart_93 (by decide) ?_
          refine k_aI C dX12_setPart_94 hF (fun x9 hF => ?_)
          refine r_aload_n C dX12_setPart_95 rfl 3 rfl ?_
          refine k_gR C dX12_setPart_96 fd_X12_44 (by decide) hF (fun x10 hF => ?_)
          refine r_iconst (v := 0) C dX12_setPart_99 (by decide) ?_
          refine k_aI C dX12_setPart_100 hF (fun x11 hF => ?_)
          obtain ⟨r12, h13, hc14, hF⟩ := cl_some hF
          refine r_callS (As := [.int x5, .int x9, .int x11]) C dX12_setPart_101 V hT cal_X12_within ml_X12_129 sm_X12_within (by decide) rfl rfl (Nat.le_of_ble_eq_true rfl) (by decide) (by decide) (S_X12_within _ _ hc14) ?_
          obtain ⟨k152_16, ek152_16, hF⟩ := jn_some hF
          have Jk152_16 : ∀ (s15 : Int32) (h17 : PM), k152_16 s15 h17 = some X → WP p l e (rmN 0 0 1) s m args below meth c D cy base ρ h0 0 0 10 (MQ below (QR D cy base ρ h0 none X.2) args s 0 0 (fun q => base ≤ q)) 152 [(0, .ref a0), (1, .int a1), (5, .int v3)] [.int s15] h17 := by
            intro s15 h17 hF
            rw [ek152_16] at hF
            refine r_istore C dX12_setPart_152 (by decide) rfl ?_
            refine r_aload_n C dX12_setPart_154 rfl 1 rfl ?_
            refine k_gR C dX12_setPart_155 fd_X12_47 (by decide) hF (fun x18 hF => ?_)
            refine r_iload C dX12_setPart_158 3 rfl ?_
            refine r_iload C dX12_setPart_160 0 rfl ?_
            obtain ⟨k182_22, ek182_22, hF⟩ := jn_some hF
            have Jk182_22 : ∀ (s19 : Int32) (s20 : Int32) (s21 : Nat) (h23 : PM), k182_22 s19 s20 s21 h23 = some X → WP p l e (rmN 0 0 1) s m args below meth c D cy base ρ h0 0 0 10 (MQ below (QR D cy base ρ h0 none X.2) args s 0 0 (fun q => base ≤ q)) 182 [(0, .ref a0), (1, .int a1), (5, .int v3)] [.int s19, .int s20, .ref s21] h23 := by
              intro s19 s20 s21 h23 hF
              rw [ek182_22] at hF
              refine k_sI C dX12_setPart_182 hF (fun h24 hF => ?_)
              refine r_iinc (v := v3 + 1) C dX12_setPart_183 2 rfl (congrArg (fun z => v3 + z) (by decide)) (by decide) rfl ?_
              refine r_goto (tgt := 55) C dX12_setPart_186 (by decide) ?_
              exact r_sub [1, 2, 0] rfl (ih _ _ hF)
            refine r_if_eq (tgt := 181) C dX12_setPart_162 (by decide) hF (fun hF => ?_) (fun hF => ?_)
            · refine r_iconst (v := 0) C dX12_setPart_181 (by decide) ?_
              exact r_sub [1, 2, 3] rfl (Jk182_22 _ _ _ _ hF)
            · refine r_aload_n C dX12_setPart_165 rfl 1 rfl ?_
              refine k_gR C dX12_setPart_166 fd_X12_13 (by decide) hF (fun x26 hF => ?_)
              refine r_sipush (v := 216) C dX12_setPart_169 (by decide) ?_
              refine r_iload_n C dX12_setPart_172 rfl 2 rfl ?_
              refine r_imul C dX12_setPart_173 ?_
              refine r_iload C dX12_setPart_174 3 rfl ?_
              refine r_iadd C dX12_setPart_176 ?_
              refine k_aI C dX12_setPart_177 hF (fun x27 hF => ?_)
              refine r_goto (tgt := 182) C dX12_setPart_178 (by decide) ?_
              exact r_sub [1, 2, 3] rfl (Jk182_22 _ _ _ _ hF)
          obtain ⟨k151_28, ek151_28, hF⟩ := jn_some hF
          have Jk151_28 : ∀  (h29 : PM), k151_28 h29 = some X → WP p l e (rmN 0 0 1) s m args below meth c D cy base ρ h0 0 0 10 (MQ below (QR D cy base ρ h0 none X.2) args s 0 0 (fun q => base ≤ q)) 151 [(0, .ref a0), (1, .int a1), (5, .int v3)] [] h29 := by
            intro h29 hF
            rw [ek151_28] at hF
            refine r_iconst (v := 0) C dX12_setPart_151 (by decide) ?_
            exact Jk152_16 _ _ hF
          refine r_if_eq (tgt := 151) C dX12_setPart_104 (by decide) hF (fun hF => ?_) (fun hF => ?_)
          · exact r_sub [3, 4, 5] rfl (Jk151_28  _ hF)
          · refine r_iload C dX12_setPart_107 1 rfl ?_
            refine r_aload_n C dX12_setPart_109 rfl 3 rfl ?_
            refine k_gR C dX12_setPart_110 fd_X12_41 (by decide) hF (fun x30 hF => ?_)
            refine r_iconst (v := 1) C dX12_setPart_113 (by decide) ?_
            refine k_aI C dX12_setPart_114 hF (fun x31 hF => ?_)
            refine r_aload_n C dX12_setPart_115 rfl 3 rfl ?_
            refine k_gR C dX12_setPart_116 fd_X12_44 (by decide) hF (fun x32 hF => ?_)
            refine r_iconst (v := 1) C dX12_setPart_119 (by decide) ?_
            refine k_aI C dX12_setPart_120 hF (fun x33 hF => ?_)
            obtain ⟨r34, h35, hc36, hF⟩ := cl_some hF
            refine r_callS (As := [.int x6, .int x31, .int x33]) C dX12_setPart_121 V hT cal_X12_within ml_X12_129 sm_X12_within (by decide) rfl rfl (Nat.le_of_ble_eq_true rfl) (by decide) (by decide) (S_X12_within _ _ hc36) ?_
            refine r_if_eq (tgt := 151) C dX12_setPart_124 (by decide) hF (fun hF => ?_) (fun hF => ?_)
            · exact r_sub [3, 4, 5] rfl (Jk151_28  _ hF)
            · refine r_iload C dX12_setPart_127 0 rfl ?_
              refine r_aload_n C dX12_setPart_129 rfl 3 rfl ?_
              refine k_gR C dX12_setPart_130 fd_X12_41 (by decide) hF (fun x37 hF => ?_)
              refine r_iconst (v := 2) C dX12_setPart_133 (by decide) ?_
              refine k_aI C dX12_setPart_134 hF (fun x38 hF => ?_)
              refine r_aload_n C dX12_setPart_135 rfl 3 rfl ?_
              refine k_gR C dX12_setPart_136 fd_X12_44 (by decide) hF (fun x39 hF => ?_)
              refine r_iconst (v := 2) C dX12_setPart_139 (by decide) ?_
              refine k_aI C dX12_setPart_140 hF (fun x40 hF => ?_)
              obtain ⟨r41, h42, hc43, hF⟩ := cl_some hF
              refine r_callS (As := [.int x7, .int x38, .int x40]) C dX12_setPart_141 V hT cal_X12_within ml_X12_129 sm_X12_within (by decide) rfl rfl (Nat.le_of_ble_eq_true rfl) (by decide) (by decide) (S_X12_within _ _ hc43) ?_
              refine r_if_eq (tgt := 151) C dX12_setPart_144 (by decide) hF (fun hF => ?_) (fun hF => ?_)
              · exact r_sub [3, 4, 5] rfl (Jk151_28  _ hF)
              · refine r_iconst (v := 1) C dX12_setPart_147 (by decide) ?_
                refine r_goto (tgt := 152) C dX12_setPart_148 (by decide) ?_
                exact r_sub [3, 4, 5] rfl (Jk152_16 _ _ hF)
    exact r_sub [1, 2, 0] rfl (L55 _ _ _ hF)
  have L3 : ∀ (fu : Nat) (v44 : Int32) (h45 : PM), F_X12_setPart_L3 a0 a1 a2 a3 a4 k52 fu v44 h45 = some X → WP p l e (rmN 0 0 1) s m args below meth c D cy base ρ h0 0 0 10 (MQ below (QR D cy base ρ h0 none X.2) args s 0 0 (fun q => base ≤ q)) 3 [(0, .ref a0), (1, .int a1), (2, .int a2), (3, .int a3), (4, .int a4), (5, .int v44)] [] h45 := by
    intro fu
    induction fu with
    | zero => intro v44 h45 hF; rw [F_X12_setPart_L3.eq_1] at hF; cases hF
    | succ fu ih =>
      intro v44 h45 hF
      rw [F_X12_setPart_L3.eq_2] at hF
      refine r_iload C dX12_setPart_3 5 rfl ?_
      refine r_iconst (v := 3) C dX12_setPart_5 (by decide) ?_
      refine r_icmp_ge (tgt := 52) C dX12_setPart_6 (by decide) hF (fun hF => ?_) (fun hF => ?_)
      · exact r_sub [0, 1] rfl (Jk52  _ hF)
      · refine r_aload_n C dX12_setPart_9 rfl 0 rfl ?_
        refine k_gR C dX12_setPart_10 fd_X12_41 (by decide) hF (fun x46 hF => ?_)
        refine r_iload C dX12_setPart_13 5 rfl ?_
        refine r_iload C dX12_setPart_15 5 rfl ?_
        refine r_iload_n C dX12_setPart_17 rfl 2 rfl ?_
        obtain ⟨k26_50, ek26_50, hF⟩ := jn_some hF
        have Jk26_50 : ∀ (s47 : Int32) (s48 : Int32) (s49 : Nat) (h51 : PM), k26_50 s47 s48 s49 h51 = some X → WP p l e (rmN 0 0 1) s m args below meth c D cy base ρ h0 0 0 10 (MQ below (QR D cy base ρ h0 none X.2) args s 0 0 (fun q => base ≤ q)) 26 [(0, .ref a0), (1, .int a1), (2, .int a2), (3, .int a3), (4, .int a4), (5, .int v44)] [.int s47, .int s48, .ref s49] h51 := by
          intro s47 s48 s49 h51 hF
          rw [ek26_50] at hF
          refine k_sI C dX12_setPart_26 hF (fun h52 hF => ?_)
          refine r_aload_n C dX12_setPart_27 rfl 0 rfl ?_
          refine k_gR C dX12_setPart_28 fd_X12_44 (by decide) hF (fun x53 hF => ?_)
          refine r_iload C dX12_setPart_31 5 rfl ?_
          refine r_iload C dX12_setPart_33 5 rfl ?_
          refine r_iload_n C dX12_setPart_35 rfl 2 rfl ?_
          obtain ⟨k45_57, ek45_57, hF⟩ := jn_some hF
          have Jk45_57 : ∀ (s54 : Int32) (s55 : Int32) (s56 : Nat) (h58 : PM), k45_57 s54 s55 s56 h58 = some X → WP p l e (rmN 0 0 1) s m args below meth c D cy base ρ h0 0 0 10 (MQ below (QR D cy base ρ h0 none X.2) args s 0 0 (fun q => base ≤ q)) 45 [(0, .ref a0), (1, .int a1), (2, .int a2), (3, .int a3), (4, .int a4), (5, .int v44)] [.int s54, .int s55, .ref s56] h58 := by
            intro s54 s55 s56 h58 hF
            rw [ek45_57] at hF
            refine k_sI C dX12_setPart_45 hF (fun h59 hF => ?_)
            refine r_iinc (v := v44 + 1) C dX12_setPart_46 5 rfl (congrArg (fun z => v44 + z) (by decide)) (by decide) rfl ?_
            refine r_goto (tgt := 3) C dX12_setPart_49 (by decide) ?_
            exact r_sub [1, 2, 3, 4, 5, 0] rfl (ih _ _ hF)
          refine r_icmp_ne (tgt := 44) C dX12_setPart_36 (by decide) hF (fun hF => ?_) (fun hF => ?_)
          · refine r_iconst (v := 5) C dX12_setPart_44 (by decide) ?_
            exact Jk45_57 _ _ _ _ hF
          · refine r_iload C dX12_setPart_39 4 rfl ?_
            refine r_goto (tgt := 45) C dX12_setPart_41 (by decide) ?_
            exact Jk45_57 _ _ _ _ hF
        refine r_icmp_ne (tgt := 25) C dX12_setPart_18 (by decide) hF (fun hF => ?_) (fun hF => ?_)
        · refine r_iconst (v := 0) C dX12_setPart_25 (by decide) ?_
          exact Jk26_50 _ _ _ _ hF
        · refine r_iload_n C dX12_setPart_21 rfl 3 rfl ?_
          refine r_goto (tgt := 26) C dX12_setPart_22 (by decide) ?_
          exact Jk26_50 _ _ _ _ hF
  exact r_sub [1, 2, 3, 4, 5, 0] rfl (L3 _ _ _ hF)
def F_X12_isThere_L72 (c0 : Nat) (c1 : Int32) (c2 : Int32) (c3 : Int32) (c4 : Int32) (c5 : Int32) (c6 : Int32) (c7 : Int32) (c8 : Int32) (c9 : Int32) (c10 : Int32) (k131 : PM → Option (Int32 × PM)) (k123_22 : PM → Option (Int32 × PM)) : Nat → Int32 → PM → Option (Int32 × PM)
  | 0, _, _ => none
  | fu + 1, v24, h25 => if ((c2 * c2) * c2) ≤ v24 then (k131 h25) else (gR h25 c0 13 19 fun x26 => dv c2 (dv c2 (dv c2 (dv c2 (dv c2 (aI h25 x26 (((c8 + (v24 - v24 / c2 * c2)) + (6 * (c9 + ((v24 / c2) - (v24 / c2) / c2 * c2)))) + (36 * (c10 + ((v24 / c2) / c2)))) fun x27 => if ¬ x27 = 0 then (F_X12_isThere_L72 c0 c1 c2 c3 c4 c5 c6 c7 c8 c9 c10 k131 k123_22 fu (v24 + 1) h25) else (k123_22 h25)))))))
def F_X12_isThere_L7 (c0 : Nat) (c1 : Int32) (c2 : Int32) (c3 : Int32) (c4 : Int32) (c5 : Int32) (c6 : Int32) (k137 : PM → Option (Int32 × PM)) (k123 : PM → Option (Int32 × PM)) : Nat → Int32 → PM → Option (Int32 × PM)
  | 0, _, _ => none
  | fu + 1, v4, h5 => gR h5 c0 13 9 fun x6 => aI h5 x6 c1 fun x7 => if ((216 * c1) + x7) ≤ v4 then (k137 h5) else (tst h5 c0 13 (cl (F_X12_laid c0 v4 c3 0 h5) fun r8 h9 => lt_ ((c2 * r8) + c4) fun x11 => tst h9 c0 13 (cl (F_X12_laid c0 v4 c3 1 h9) fun r12 h13 => lt_ ((c2 * r12) + c5) fun x15 => tst h13 c0 13 (cl (F_X12_laid c0 v4 c3 2 h13) fun r16 h17 => lt_ ((c2 * r16) + c6) fun x19 => jn (fun  (h20 : PM) => F_X12_isThere_L7 c0 c1 c2 c3 c4 c5 c6 k137 k123 fu (v4 + 1) h20) fun k131 => jn (fun  (h23 : PM) => k123 h23) fun k123_22 => F_X12_isThere_L72 c0 c1 c2 c3 c4 c5 c6 v4 x11 x15 x19 k131 k123_22 LF 0 h17))))
def F_X12_isThere (a0 : Nat) (a1 : Int32) (a2 : Int32) (a3 : Int32) (a4 : Int32) (a5 : Int32) (a6 : Int32) (h0 : PM) : Option (Int32 × PM) := lt_ (216 * a1) fun x1 => jn (fun  (h2 : PM) => rz 1 h2) fun k137 => jn (fun  (h3 : PM) => rz 0 h3) fun k123 => F_X12_isThere_L7 a0 a1 a2 a3 a4 a5 a6 k137 k123 LF x1 h0
set_option maxRecDepth 100000 in
set_option maxHeartbeats 4000000 in
theorem S_X12_isThere {a0 : Nat} {a1 : Int32} {a2 : Int32} {a3 : Int32} {a4 : Int32} {a5 : Int32} {a6 : Int32} {h0 : PM} (r : Int32) (h' : PM) (hF : F_X12_isThere a0 a1 a2 a3 a4 a5 a6 h0 = some (r, h')) : CN yX12_isThere cX12_isThere 12 (some .boolean) 0 0 1 [.ref a0, .int a1, .int a2, .int a3, .int a4, .int a5, .int a6] h0 (some (.int r)) h' := by
  obtain ⟨X, eX⟩ : ∃ X, X = (r, h') := ⟨_, rfl⟩
  rw [← eX] at hF
  have e1 : r = X.1 := by rw [eX]
  have e2 : h' = X.2 := by rw [eX]
  rw [e1, e2]
  clear eX e1 e2
  unfold F_X12_isThere at hF
  refine CN_of (by decide) (fun ρ => Nat.le_of_ble_eq_true rfl) rfl ?_
  intro p l e s m args below meth c D cy base ρ hT C V hr hnm
  refine r_sipush (v := 216) C dX12_isThere_0 (by decide) ?_
  refine r_iload_n C dX12_isThere_3 rfl 1 rfl ?_
  refine r_imul C dX12_isThere_4 ?_
  refine k_lti hF (fun x1 hF => ?_)
  refine r_istore C dX12_isThere_5 (by decide) rfl ?_
  obtain ⟨k137, ek137, hF⟩ := jn_some hF
  have Jk137 : ∀  (h2 : PM), k137 h2 = some X → WP p l e (rmN 0 0 1) s m args below meth c D cy base ρ h0 0 0 12 (MQ below (QR D cy base ρ h0 (some (.int X.1)) X.2) args s 0 0 (fun q => base ≤ q)) 137 [] [] h2 := by
    intro h2 hF
    rw [ek137] at hF
    refine r_iconst (v := 1) C dX12_isThere_137 (by decide) ?_
    exact k_zret C dX12_isThere_138 hr (by decide) (by decide) hF
  obtain ⟨k123, ek123, hF⟩ := jn_some hF
  have Jk123 : ∀  (h3 : PM), k123 h3 = some X → WP p l e (rmN 0 0 1) s m args below meth c D cy base ρ h0 0 0 12 (MQ below (QR D cy base ρ h0 (some (.int X.1)) X.2) args s 0 0 (fun q => base ≤ q)) 123 [] [] h3 := by
    intro h3 hF
    rw [ek123] at hF
    refine r_iconst (v := 0) C dX12_isThere_123 (by decide) ?_
    exact k_zret C dX12_isThere_124 hr (by decide) (by decide) hF
  have L7 : ∀ (fu : Nat) (v4 : Int32) (h5 : PM), F_X12_isThere_L7 a0 a1 a2 a3 a4 a5 a6 k137 k123 fu v4 h5 = some X → WP p l e (rmN 0 0 1) s m args below meth c D cy base ρ h0 0 0 12 (MQ below (QR D cy base ρ h0 (some (.int X.1)) X.2) args s 0 0 (fun q => base ≤ q)) 7 [(0, .ref a0), (1, .int a1), (2, .int a2), (3, .int a3), (4, .int a4), (5, .int a5), (6, .int a6), (7, .int v4)] [] h5 := by
    intro fu
    induction fu with
    | zero => intro v4 h5 hF; rw [F_X12_isThere_L7.eq_1] at hF; cases hF
    | succ fu ih =>
      intro v4 h5 hF
      rw [F_X12_isThere_L7.eq_2] at hF
      refine r_iload C dX12_isThere_7 7 rfl ?_
      refine r_sipush (v := 216) C dX12_isThere_9 (by decide) ?_
      refine r_iload_n C dX12_isThere_12 rfl 1 rfl ?_
      refine r_imul C dX12_isThere_13 ?_
      refine r_aload_n C dX12_isThere_14 rfl 0 rfl ?_
      refine k_gR C dX12_isThere_15 fd_X12_20 (by decide) hF (fun x6 hF => ?_)
      refine r_iload_n C dX12_isThere_18 rfl 1 rfl ?_
      refine k_aI C dX12_isThere_19 hF (fun x7 hF => ?_)
      refine r_iadd C dX12_isThere_20 ?_
      refine r_icmp_ge (tgt := 137) C dX12_isThere_21 (by decide) hF (fun hF => ?_) (fun hF => ?_)
      · exact r_sub [] rfl (Jk137  _ hF)
      · refine r_iload_n C dX12_isThere_24 rfl 2 rfl ?_
        refine r_aload_n C dX12_isThere_25 rfl 0 rfl ?_
        refine r_iload C dX12_isThere_26 7 rfl ?_
        refine r_iload_n C dX12_isThere_28 rfl 3 rfl ?_
        refine r_iconst (v := 0) C dX12_isThere_29 (by decide) ?_
        obtain ⟨ht, hF⟩ := tst_some hF
        obtain ⟨r8, h9, hc10, hF⟩ := cl_some hF
        refine r_callV (As := [.int v4, .int a3, .int 0]) C dX12_isThere_30 V hT cal_X12_laid cls_13 ml_X12_190 im_X12_laid se_X12_laid ht (by decide) rfl rfl (Nat.le_of_ble_eq_true rfl) (by decide) (by decide) (S_X12_laid _ _ hc10) ?_
        refine r_imul C dX12_isThere_33 ?_
        refine r_iload C dX12_isThere_34 4 rfl ?_
        refine r_iadd C dX12_isThere_36 ?_
        refine k_lti hF (fun x11 hF => ?_)
        refine r_istore C dX12_isThere_37 (by decide) rfl ?_
        refine r_iload_n C dX12_isThere_39 rfl 3 rfl ?_
        refine r_aload_n C dX12_isThere_40 rfl 1 rfl ?_
        refine r_iload C dX12_isThere_41 8 rfl ?_
        refine r_iload_n C dX12_isThere_43 rfl 4 rfl ?_
        refine r_iconst (v := 1) C dX12_isThere_44 (by decide) ?_
        obtain ⟨ht, hF⟩ := tst_some hF
        obtain ⟨r12, h13, hc14, hF⟩ := cl_some hF
        refine r_callV (As := [.int v4, .int a3, .int 1]) C dX12_isThere_45 V hT cal_X12_laid cls_13 ml_X12_190 im_X12_laid se_X12_laid ht (by decide) rfl rfl (Nat.le_of_ble_eq_true rfl) (by decide) (by decide) (S_X12_laid _ _ hc14) ?_
        refine r_imul C dX12_isThere_48 ?_
        refine r_iload C dX12_isThere_49 6 rfl ?_
        refine r_iadd C dX12_isThere_51 ?_
        refine k_lti hF (fun x15 hF => ?_)
        refine r_istore C dX12_isThere_52 (by decide) rfl ?_
        refine r_iload_n C dX12_isThere_54 rfl 4 rfl ?_
        refine r_aload_n C dX12_isThere_55 rfl 2 rfl ?_
        refine r_iload C dX12_isThere_56 9 rfl ?_
        refine r_iload_n C dX12_isThere_58 rfl 5 rfl ?_
        refine r_iconst (v := 2) C dX12_isThere_59 (by decide) ?_
        obtain ⟨ht, hF⟩ := tst_some hF
        obtain ⟨r16, h17, hc18, hF⟩ := cl_some hF
        refine r_callV (As := [.int v4, .int a3, .int 2]) C dX12_isThere_60 V hT cal_X12_laid cls_13 ml_X12_190 im_X12_laid se_X12_laid ht (by decide) rfl rfl (Nat.le_of_ble_eq_true rfl) (by decide) (by decide) (S_X12_laid _ _ hc18) ?_
        refine r_imul C dX12_isThere_63 ?_
        refine r_iload C dX12_isThere_64 8 rfl ?_
        refine r_iadd C dX12_isThere_66 ?_
        refine k_lti hF (fun x19 hF => ?_)
        refine r_istore C dX12_isThere_67 (by decide) rfl ?_
        refine r_iconst (v := 0) C dX12_isThere_69 (by decide) ?_
        refine r_istore C dX12_isThere_70 (by decide) rfl ?_
        obtain ⟨k131_20, ek131_20, hF⟩ := jn_some hF
        have Jk131_20 : ∀  (h21 : PM), k131_20 h21 = some X → WP p l e (rmN 0 0 1) s m args below meth c D cy base ρ h0 0 0 12 (MQ below (QR D cy base ρ h0 (some (.int X.1)) X.2) args s 0 0 (fun q => base ≤ q)) 131 [(0, .ref a0), (1, .int a1), (2, .int a2), (3, .int a3), (4, .int a4), (5, .int a5), (6, .int a6), (7, .int v4)] [] h21 := by
          intro h21 hF
          rw [ek131_20] at hF
          refine r_iinc (v := v4 + 1) C dX12_isThere_131 7 rfl (congrArg (fun z => v4 + z) (by decide)) (by decide) rfl ?_
          refine r_goto (tgt := 7) C dX12_isThere_134 (by decide) ?_
          exact r_sub [1, 2, 3, 4, 5, 6, 7, 0] rfl (ih _ _ hF)
        obtain ⟨k123_23, ek123_23, hF⟩ := jn_some hF
        have Jk123_23 : ∀  (h24 : PM), k123_23 h24 = some X → WP p l e (rmN 0 0 1) s m args below meth c D cy base ρ h0 0 0 12 (MQ below (QR D cy base ρ h0 (some (.int X.1)) X.2) args s 0 0 (fun q => base ≤ q)) 123 [] [] h24 := by
          intro h24 hF
          rw [ek123_23] at hF
          exact Jk123  _ hF
        have L72_30 : ∀ (fu : Nat) (v25 : Int32) (h26 : PM), F_X12_isThere_L72 a0 a1 a2 a3 a4 a5 a6 v4 x11 x15 x19 k131_20 k123_23 fu v25 h26 = some X → WP p l e (rmN 0 0 1) s m args below meth c D cy base ρ h0 0 0 12 (MQ below (QR D cy base ρ h0 (some (.int X.1)) X.2) args s 0 0 (fun q => base ≤ q)) 72 [(0, .ref a0), (1, .int a1), (2, .int a2), (3, .int a3), (4, .int a4), (5, .int a5), (6, .int a6), (7, .int v4), (8, .int x11), (9, .int x15), (10, .int x19), (11, .int v25)] [] h26 := by
          intro fu
          induction fu with
          | zero => intro v25 h26 hF; rw [F_X12_isThere_L72.eq_1] at hF; cases hF
          | succ fu ih =>
            intro v25 h26 hF
            rw [F_X12_isThere_L72.eq_2] at hF
            refine r_iload C dX12_isThere_72 11 rfl ?_
            refine r_iload_n C dX12_isThere_74 rfl 2 rfl ?_
            refine r_iload_n C dX12_isThere_75 rfl 2 rfl ?_
            refine r_imul C dX12_isThere_76 ?_
            refine r_iload_n C dX12_isThere_77 rfl 2 rfl ?_
            refine r_imul C dX12_isThere_78 ?_
            refine r_icmp_ge (tgt := 131) C dX12_isThere_79 (by decide) hF (fun hF => ?_) (fun hF => ?_)
            · exact r_sub [0, 1, 2, 3, 4, 5, 6, 7] rfl (Jk131_20  _ hF)
            · refine r_aload_n C dX12_isThere_82 rfl 0 rfl ?_
              refine k_gR C dX12_isThere_83 fd_X12_47 (by decide) hF (fun x27 hF => ?_)
              refine r_iload C dX12_isThere_86 8 rfl ?_
              refine r_iload C dX12_isThere_88 11 rfl ?_
              refine r_iload_n C dX12_isThere_90 rfl 2 rfl ?_
              refine k_irem C dX12_isThere_91 hF (fun hF => ?_)
              refine r_iadd C dX12_isThere_92 ?_
              refine r_bipush (v := 6) C dX12_isThere_93 (by decide) ?_
              refine r_iload C dX12_isThere_95 9 rfl ?_
              refine r_iload C dX12_isThere_97 11 rfl ?_
              refine r_iload_n C dX12_isThere_99 rfl 2 rfl ?_
              refine k_idiv C dX12_isThere_100 hF (fun hF => ?_)
              refine r_iload_n C dX12_isThere_101 rfl 2 rfl ?_
              refine k_irem C dX12_isThere_102 hF (fun hF => ?_)
              refine r_iadd C dX12_isThere_103 ?_
              refine r_imul C dX12_isThere_104 ?_
              refine r_iadd C dX12_isThere_105 ?_
              refine r_bipush (v := 36) C dX12_isThere_106 (by decide) ?_
              refine r_iload C dX12_isThere_108 10 rfl ?_
              refine r_iload C dX12_isThere_110 11 rfl ?_
              refine r_iload_n C dX12_isThere_112 rfl 2 rfl ?_
              refine k_idiv C dX12_isThere_113 hF (fun hF => ?_)
              refine r_iload_n C dX12_isThere_114 rfl 2 rfl ?_
              refine k_idiv C dX12_isThere_115 hF (fun hF => ?_)
              refine r_iadd C dX12_isThere_116 ?_
              refine r_imul C dX12_isThere_117 ?_
              refine r_iadd C dX12_isThere_118 ?_
              refine k_aI C dX12_isThere_119 hF (fun x28 hF => ?_)
              refine r_if_ne (tgt := 125) C dX12_isThere_120 (by decide) hF (fun hF => ?_) (fun hF => ?_)
              · refine r_iinc (v := v25 + 1) C dX12_isThere_125 11 rfl (congrArg (fun z => v25 + z) (by decide)) (by decide) rfl ?_
                refine r_goto (tgt := 72) C dX12_isThere_128 (by decide) ?_
                exact r_sub [1, 2, 3, 4, 5, 6, 7, 8, 9, 10, 11, 0] rfl (ih _ _ hF)
              · exact r_sub [] rfl (Jk123_23  _ hF)
        exact r_sub [4, 5, 6, 7, 8, 9, 10, 11, 3, 2, 1, 0] rfl (L72_30 _ _ _ hF)
  exact r_sub [1, 2, 3, 4, 5, 6, 7, 0] rfl (L7 _ _ _ hF)
def F_X12_isFitting_L199 (c0 : Nat) (c1 : Int32) (c2 : Int32) (c3 : Int32) (c4 : Int32) (c5 : Int32) (k262 : PM → Option (Int32 × PM)) (k236_38 : Int32 → PM → Option (Int32 × PM)) : Nat → Int32 → PM → Option (Int32 × PM)
  | 0, _, _ => none
  | fu + 1, v40, h41 => gR h41 c0 13 21 fun x42 => aI h41 x42 0 fun x43 => if (6 - (c2 * (x43 + 1))) < v40 then (k262 h41) else (tst h41 c0 13 (cl (F_X12_isThere c0 c1 c2 c3 v40 c5 c4 h41) fun r44 h45 => if ¬ r44 = 0 then (k236_38 v40 h45) else (F_X12_isFitting_L199 c0 c1 c2 c3 c4 c5 k262 k236_38 fu (v40 + 1) h45)))
def F_X12_isFitting_L170 (c0 : Nat) (c1 : Int32) (c2 : Int32) (c3 : Int32) (c4 : Int32) (k268 : PM → Option (Int32 × PM)) (k236_26 : Int32 → Int32 → PM → Option (Int32 × PM)) : Nat → Int32 → PM → Option (Int32 × PM)
  | 0, _, _ => none
  | fu + 1, v28, h29 => gR h29 c0 13 21 fun x30 => aI h29 x30 1 fun x31 => if (6 - (c2 * (x31 + 1))) < v28 then (k268 h29) else (gR h29 c0 13 20 fun x32 => aI h29 x32 0 fun x33 => lt_ ((-c2) * x33) fun x34 => jn (fun  (h35 : PM) => F_X12_isFitting_L170 c0 c1 c2 c3 c4 k268 k236_26 fu (v28 + 1) h35) fun k262 => jn (fun (v37 : Int32) (h39 : PM) => k236_26 v28 v37 h39) fun k236_38 => F_X12_isFitting_L199 c0 c1 c2 c3 c4 v28 k262 k236_38 LF x34 h29)
def F_X12_isFitting_L141 (c0 : Nat) (c1 : Int32) (c2 : Int32) (c3 : Int32) (k274 : PM → Option (Int32 × PM)) (k236 : Int32 → Int32 → Int32 → PM → Option (Int32 × PM)) : Nat → Int32 → PM → Option (Int32 × PM)
  | 0, _, _ => none
  | fu + 1, v15, h16 => gR h16 c0 13 21 fun x17 => aI h16 x17 2 fun x18 => if (6 - (c2 * (x18 + 1))) < v15 then (k274 h16) else (gR h16 c0 13 20 fun x19 => aI h16 x19 1 fun x20 => lt_ ((-c2) * x20) fun x21 => jn (fun  (h22 : PM) => F_X12_isFitting_L141 c0 c1 c2 c3 k274 k236 fu (v15 + 1) h22) fun k268 => jn (fun (v24 : Int32) (v25 : Int32) (h27 : PM) => k236 v15 v24 v25 h27) fun k236_26 => F_X12_isFitting_L170 c0 c1 c2 c3 v15 k268 k236_26 LF x21 h16)
def F_X12_isFitting_L59 (c0 : Nat) (c1 : Int32) (c2 : Int32) (c3 : Int32) (c4 : Int32) (k124 : PM → Option (Int32 × PM)) : Nat → Int32 → PM → Option (Int32 × PM)
  | 0, _, _ => none
  | fu + 1, v58, h59 => if 3 ≤ v58 then (k124 h59) else (tst h59 c0 13 (cl (F_X12_laid c0 c4 c3 v58 h59) fun r60 h61 => gR h61 c0 13 20 fun x63 => aI h61 x63 v58 fun x64 => jn (fun  (h65 : PM) => gR h65 c0 13 21 fun x66 => aI h65 x66 v58 fun x67 => jn (fun  (h68 : PM) => F_X12_isFitting_L59 c0 c1 c2 c3 c4 k124 fu (v58 + 1) h68) fun k118 => if r60 ≤ x67 then (k118 h65) else (gR h65 c0 13 21 fun x70 => sI h65 x70 v58 r60 fun h71 => k118 h71)) fun k97 => if x64 ≤ r60 then (k97 h61) else (gR h61 c0 13 20 fun x72 => sI h61 x72 v58 r60 fun h73 => k97 h73)))
def F_X12_isFitting_L39 (c0 : Nat) (c1 : Int32) (c2 : Int32) (c3 : Int32) (k130 : PM → Option (Int32 × PM)) : Nat → Int32 → PM → Option (Int32 × PM)
  | 0, _, _ => none
  | fu + 1, v52, h53 => gR h53 c0 13 9 fun x54 => aI h53 x54 c1 fun x55 => if ((216 * c1) + x55) ≤ v52 then (k130 h53) else (jn (fun  (h56 : PM) => F_X12_isFitting_L39 c0 c1 c2 c3 k130 fu (v52 + 1) h56) fun k124 => F_X12_isFitting_L59 c0 c1 c2 c3 v52 k124 LF 0 h53)
def F_X12_isFitting_L3 (c0 : Nat) (c1 : Int32) (c2 : Int32) (c3 : Int32) (k32 : PM → Option (Int32 × PM)) : Nat → Int32 → PM → Option (Int32 × PM)
  | 0, _, _ => none
  | fu + 1, v78, h79 => if 3 ≤ v78 then (k32 h79) else (gR h79 c0 13 20 fun x80 => sI h79 x80 v78 9 fun h81 => gR h81 c0 13 21 fun x82 => sI h81 x82 v78 0 fun h83 => F_X12_isFitting_L3 c0 c1 c2 c3 k32 fu (v78 + 1) h83)
def F_X12_isFitting (a0 : Nat) (a1 : Int32) (a2 : Int32) (a3 : Int32) (h0 : PM) : Option (Int32 × PM) := jn (fun  (h1 : PM) => lt_ (216 * a1) fun x2 => jn (fun  (h3 : PM) => gR h3 a0 13 20 fun x4 => aI h3 x4 2 fun x5 => lt_ ((-a2) * x5) fun x6 => jn (fun  (h7 : PM) => rz 0 h7) fun k274 => jn (fun (v8 : Int32) (v9 : Int32) (v10 : Int32) (h11 : PM) => pI h11 a0 13 22 v10 fun h12 => pI h12 a0 13 23 v9 fun h13 => pI h13 a0 13 24 v8 fun h14 => rz 1 h14) fun k236 => F_X12_isFitting_L141 a0 a1 a2 a3 k274 k236 LF x6 h3) fun k130 => F_X12_isFitting_L39 a0 a1 a2 a3 k130 LF x2 h1) fun k32 => F_X12_isFitting_L3 a0 a1 a2 a3 k32 LF 0 h0
set_option maxRecDepth 100000 in
set_option maxHeartbeats 4000000 in
theorem S_X12_isFitting {a0 : Nat} {a1 : Int32} {a2 : Int32} {a3 : Int32} {h0 : PM} (r : Int32) (h' : PM) (hF : F_X12_isFitting a0 a1 a2 a3 h0 = some (r, h')) : CN yX12_isFitting cX12_isFitting 7 (some .boolean) 0 0 2 [.ref a0, .int a1, .int a2, .int a3] h0 (some (.int r)) h' := by
  obtain ⟨X, eX⟩ : ∃ X, X = (r, h') := ⟨_, rfl⟩
  rw [← eX] at hF
  have e1 : r = X.1 := by rw [eX]
  have e2 : h' = X.2 := by rw [eX]
  rw [e1, e2]
  clear eX e1 e2
  unfold F_X12_isFitting at hF
  refine CN_of (by decide) (fun ρ => Nat.le_of_ble_eq_true rfl) rfl ?_
  intro p l e s m args below meth c D cy base ρ hT C V hr hnm
  refine r_iconst (v := 0) C dX12_isFitting_0 (by decide) ?_
  refine r_istore C dX12_isFitting_1 (by decide) rfl ?_
  obtain ⟨k32, ek32, hF⟩ := jn_some hF
  have Jk32 : ∀  (h1 : PM), k32 h1 = some X → WP p l e (rmN 0 0 2) s m args below meth c D cy base ρ h0 0 0 7 (MQ below (QR D cy base ρ h0 (some (.int X.1)) X.2) args s 0 0 (fun q => base ≤ q)) 32 [(0, .ref a0), (1, .int a1), (2, .int a2), (3, .int a3)] [] h1 := by
    intro h1 hF
    rw [ek32] at hF
    refine r_sipush (v := 216) C dX12_isFitting_32 (by decide) ?_
    refine r_iload_n C dX12_isFitting_35 rfl 1 rfl ?_
    refine r_imul C dX12_isFitting_36 ?_
    refine k_lti hF (fun x2 hF => ?_)
    refine r_istore C dX12_isFitting_37 (by decide) rfl ?_
    obtain ⟨k130, ek130, hF⟩ := jn_some hF
    have Jk130 : ∀  (h3 : PM), k130 h3 = some X → WP p l e (rmN 0 0 2) s m args below meth c D cy base ρ h0 0 0 7 (MQ below (QR D cy base ρ h0 (some (.int X.1)) X.2) args s 0 0 (fun q => base ≤ q)) 130 [(0, .ref a0), (1, .int a1), (2, .int a2), (3, .int a3)] [] h3 := by
      intro h3 hF
      rw [ek130] at hF
      refine r_iload_n C dX12_isFitting_130 rfl 2 rfl ?_
      refine r_ineg C dX12_isFitting_131 ?_
      refine r_aload_n C dX12_isFitting_132 rfl 0 rfl ?_
      refine k_gR C dX12_isFitting_133 fd_X12_50 (by decide) hF (fun x4 hF => ?_)
      refine r_iconst (v := 2) C dX12_isFitting_136 (by decide) ?_
      refine k_aI C dX12_isFitting_137 hF (fun x5 hF => ?_)
      refine r_imul C dX12_isFitting_138 ?_
      refine k_lti hF (fun x6 hF => ?_)
      refine r_istore C dX12_isFitting_139 (by decide) rfl ?_
      obtain ⟨k274, ek274, hF⟩ := jn_some hF
      have Jk274 : ∀  (h7 : PM), k274 h7 = some X → WP p l e (rmN 0 0 2) s m args below meth c D cy base ρ h0 0 0 7 (MQ below (QR D cy base ρ h0 (some (.int X.1)) X.2) args s 0 0 (fun q => base ≤ q)) 274 [] [] h7 := by
        intro h7 hF
        rw [ek274] at hF
        refine r_iconst (v := 0) C dX12_isFitting_274 (by decide) ?_
        exact k_zret C dX12_isFitting_275 hr (by decide) (by decide) hF
      obtain ⟨k236, ek236, hF⟩ := jn_some hF
      have Jk236 : ∀ (v8 : Int32) (v9 : Int32) (v10 : Int32) (h11 : PM), k236 v8 v9 v10 h11 = some X → WP p l e (rmN 0 0 2) s m args below meth c D cy base ρ h0 0 0 7 (MQ below (QR D cy base ρ h0 (some (.int X.1)) X.2) args s 0 0 (fun q => base ≤ q)) 236 [(0, .ref a0), (4, .int v8), (5, .int v9), (6, .int v10)] [] h11 := by
        intro v8 v9 v10 h11 hF
        rw [ek236] at hF
        refine r_aload_n C dX12_isFitting_236 rfl 0 rfl ?_
        refine r_iload C dX12_isFitting_237 3 rfl ?_
        refine k_pI C dX12_isFitting_239 fd_X12_198 (fun z => by cases z) (by decide) hF (fun h12 hF => ?_)
        refine r_aload_n C dX12_isFitting_242 rfl 0 rfl ?_
        refine r_iload C dX12_isFitting_243 2 rfl ?_
        refine k_pI C dX12_isFitting_245 fd_X12_201 (fun z => by cases z) (by decide) hF (fun h13 hF => ?_)
        refine r_aload_n C dX12_isFitting_248 rfl 0 rfl ?_
        refine r_iload C dX12_isFitting_249 1 rfl ?_
        refine k_pI C dX12_isFitting_251 fd_X12_204 (fun z => by cases z) (by decide) hF (fun h14 hF => ?_)
        refine r_iconst (v := 1) C dX12_isFitting_254 (by decide) ?_
        exact k_zret C dX12_isFitting_255 hr (by decide) (by decide) hF
      have L141 : ∀ (fu : Nat) (v15 : Int32) (h16 : PM), F_X12_isFitting_L141 a0 a1 a2 a3 k274 k236 fu v15 h16 = some X → WP p l e (rmN 0 0 2) s m args below meth c D cy base ρ h0 0 0 7 (MQ below (QR D cy base ρ h0 (some (.int X.1)) X.2) args s 0 0 (fun q => base ≤ q)) 141 [(0, .ref a0), (1, .int a1), (2, .int a2), (3, .int a3), (4, .int v15)] [] h16 := by
        intro fu
        induction fu with
        | zero => intro v15 h16 hF; rw [F_X12_isFitting_L141.eq_1] at hF; cases hF
        | succ fu ih =>
          intro v15 h16 hF
          rw [F_X12_isFitting_L141.eq_2] at hF
          refine r_iload C dX12_isFitting_141 4 rfl ?_
          refine r_bipush (v := 6) C dX12_isFitting_143 (by decide) ?_
          refine r_iload_n C dX12_isFitting_145 rfl 2 rfl ?_
          refine r_aload_n C dX12_isFitting_146 rfl 0 rfl ?_
          refine k_gR C dX12_isFitting_147 fd_X12_53 (by decide) hF (fun x17 hF => ?_)
          refine r_iconst (v := 2) C dX12_isFitting_150 (by decide) ?_
          refine k_aI C dX12_isFitting_151 hF (fun x18 hF => ?_)
          refine r_iconst (v := 1) C dX12_isFitting_152 (by decide) ?_
          refine r_iadd C dX12_isFitting_153 ?_
          refine r_imul C dX12_isFitting_154 ?_
          refine r_isub C dX12_isFitting_155 ?_
          refine r_icmp_gt (tgt := 274) C dX12_isFitting_156 (by decide) hF (fun hF => ?_) (fun hF => ?_)
          · exact r_sub [] rfl (Jk274  _ hF)
          · refine r_iload_n C dX12_isFitting_159 rfl 2 rfl ?_
            refine r_ineg C dX12_isFitting_160 ?_
            refine r_aload_n C dX12_isFitting_161 rfl 0 rfl ?_
            refine k_gR C dX12_isFitting_162 fd_X12_50 (by decide) hF (fun x19 hF => ?_)
            refine r_iconst (v := 1) C dX12_isFitting_165 (by decide) ?_
            refine k_aI C dX12_isFitting_166 hF (fun x20 hF => ?_)
            refine r_imul C dX12_isFitting_167 ?_
            refine k_lti hF (fun x21 hF => ?_)
            refine r_istore C dX12_isFitting_168 (by decide) rfl ?_
            obtain ⟨k268_22, ek268_22, hF⟩ := jn_some hF
            have Jk268_22 : ∀  (h23 : PM), k268_22 h23 = some X → WP p l e (rmN 0 0 2) s m args below meth c D cy base ρ h0 0 0 7 (MQ below (QR D cy base ρ h0 (some (.int X.1)) X.2) args s 0 0 (fun q => base ≤ q)) 268 [(0, .ref a0), (1, .int a1), (2, .int a2), (3, .int a3), (4, .int v15)] [] h23 := by
              intro h23 hF
              rw [ek268_22] at hF
              refine r_iinc (v := v15 + 1) C dX12_isFitting_268 4 rfl (congrArg (fun z => v15 + z) (by decide)) (by decide) rfl ?_
              refine r_goto (tgt := 141) C dX12_isFitting_271 (by decide) ?_
              exact r_sub [1, 2, 3, 4, 0] rfl (ih _ _ hF)
            obtain ⟨k236_27, ek236_27, hF⟩ := jn_some hF
            have Jk236_27 : ∀ (v25 : Int32) (v26 : Int32) (h28 : PM), k236_27 v25 v26 h28 = some X → WP p l e (rmN 0 0 2) s m args below meth c D cy base ρ h0 0 0 7 (MQ below (QR D cy base ρ h0 (some (.int X.1)) X.2) args s 0 0 (fun q => base ≤ q)) 236 [(0, .ref a0), (4, .int v15), (5, .int v25), (6, .int v26)] [] h28 := by
              intro v25 v26 h28 hF
              rw [ek236_27] at hF
              exact Jk236 _ _ _ _ hF
            have L170_51 : ∀ (fu : Nat) (v29 : Int32) (h30 : PM), F_X12_isFitting_L170 a0 a1 a2 a3 v15 k268_22 k236_27 fu v29 h30 = some X → WP p l e (rmN 0 0 2) s m args below meth c D cy base ρ h0 0 0 7 (MQ below (QR D cy base ρ h0 (some (.int X.1)) X.2) args s 0 0 (fun q => base ≤ q)) 170 [(0, .ref a0), (1, .int a1), (2, .int a2), (3, .int a3), (4, .int v15), (5, .int v29)] [] h30 := by
              intro fu
              induction fu with
              | zero => intro v29 h30 hF; rw [F_X12_isFitting_L170.eq_1] at hF; cases hF
              | succ fu ih =>
                intro v29 h30 hF
                rw [F_X12_isFitting_L170.eq_2] at hF
                refine r_iload C dX12_isFitting_170 5 rfl ?_
                refine r_bipush (v := 6) C dX12_isFitting_172 (by decide) ?_
                refine r_iload_n C dX12_isFitting_174 rfl 2 rfl ?_
                refine r_aload_n C dX12_isFitting_175 rfl 0 rfl ?_
                refine k_gR C dX12_isFitting_176 fd_X12_53 (by decide) hF (fun x31 hF => ?_)
                refine r_iconst (v := 1) C dX12_isFitting_179 (by decide) ?_
                refine k_aI C dX12_isFitting_180 hF (fun x32 hF => ?_)
                refine r_iconst (v := 1) C dX12_isFitting_181 (by decide) ?_
                refine r_iadd C dX12_isFitting_182 ?_
                refine r_imul C dX12_isFitting_183 ?_
                refine r_isub C dX12_isFitting_184 ?_
                refine r_icmp_gt (tgt := 268) C dX12_isFitting_185 (by decide) hF (fun hF => ?_) (fun hF => ?_)
                · exact r_sub [0, 1, 2, 3, 4] rfl (Jk268_22  _ hF)
                · refine r_iload_n C dX12_isFitting_188 rfl 2 rfl ?_
                  refine r_ineg C dX12_isFitting_189 ?_
                  refine r_aload_n C dX12_isFitting_190 rfl 0 rfl ?_
                  refine k_gR C dX12_isFitting_191 fd_X12_50 (by decide) hF (fun x33 hF => ?_)
                  refine r_iconst (v := 0) C dX12_isFitting_194 (by decide) ?_
                  refine k_aI C dX12_isFitting_195 hF (fun x34 hF => ?_)
                  refine r_imul C dX12_isFitting_196 ?_
                  refine k_lti hF (fun x35 hF => ?_)
                  refine r_istore C dX12_isFitting_197 (by decide) rfl ?_
                  obtain ⟨k262_36, ek262_36, hF⟩ := jn_some hF
                  have Jk262_36 : ∀  (h37 : PM), k262_36 h37 = some X → WP p l e (rmN 0 0 2) s m args below meth c D cy base ρ h0 0 0 7 (MQ below (QR D cy base ρ h0 (some (.int X.1)) X.2) args s 0 0 (fun q => base ≤ q)) 262 [(0, .ref a0), (1, .int a1), (2, .int a2), (3, .int a3), (4, .int v15), (5, .int v29)] [] h37 := by
                    intro h37 hF
                    rw [ek262_36] at hF
                    refine r_iinc (v := v29 + 1) C dX12_isFitting_262 5 rfl (congrArg (fun z => v29 + z) (by decide)) (by decide) rfl ?_
                    refine r_goto (tgt := 170) C dX12_isFitting_265 (by decide) ?_
                    exact r_sub [1, 2, 3, 4, 5, 0] rfl (ih _ _ hF)
                  obtain ⟨k236_40, ek236_40, hF⟩ := jn_some hF
                  have Jk236_40 : ∀ (v39 : Int32) (h41 : PM), k236_40 v39 h41 = some X → WP p l e (rmN 0 0 2) s m args below meth c D cy base ρ h0 0 0 7 (MQ below (QR D cy base ρ h0 (some (.int X.1)) X.2) args s 0 0 (fun q => base ≤ q)) 236 [(0, .ref a0), (4, .int v15), (5, .int v29), (6, .int v39)] [] h41 := by
                    intro v39 h41 hF
                    rw [ek236_40] at hF
                    exact Jk236_27 _ _ _ hF
                  have L199_50 : ∀ (fu : Nat) (v42 : Int32) (h43 : PM), F_X12_isFitting_L199 a0 a1 a2 a3 v15 v29 k262_36 k236_40 fu v42 h43 = some X → WP p l e (rmN 0 0 2) s m args below meth c D cy base ρ h0 0 0 7 (MQ below (QR D cy base ρ h0 (some (.int X.1)) X.2) args s 0 0 (fun q => base ≤ q)) 199 [(0, .ref a0), (1, .int a1), (2, .int a2), (3, .int a3), (4, .int v15), (5, .int v29), (6, .int v42)] [] h43 := by
                    intro fu
                    induction fu with
                    | zero => intro v42 h43 hF; rw [F_X12_isFitting_L199.eq_1] at hF; cases hF
                    | succ fu ih =>
                      intro v42 h43 hF
                      rw [F_X12_isFitting_L199.eq_2] at hF
                      refine r_iload C dX12_isFitting_199 6 rfl ?_
                      refine r_bipush (v := 6) C dX12_isFitting_201 (by decide) ?_
                      refine r_iload_n C dX12_isFitting_203 rfl 2 rfl ?_
                      refine r_aload_n C dX12_isFitting_204 rfl 0 rfl ?_
                      refine k_gR C dX12_isFitting_205 fd_X12_53 (by decide) hF (fun x44 hF => ?_)
                      refine r_iconst (v := 0) C dX12_isFitting_208 (by decide) ?_
                      refine k_aI C dX12_isFitting_209 hF (fun x45 hF => ?_)
                      refine r_iconst (v := 1) C dX12_isFitting_210 (by decide) ?_
                      refine r_iadd C dX12_isFitting_211 ?_
                      refine r_imul C dX12_isFitting_212 ?_
                      refine r_isub C dX12_isFitting_213 ?_
                      refine r_icmp_gt (tgt := 262) C dX12_isFitting_214 (by decide) hF (fun hF => ?_) (fun hF => ?_)
                      · exact r_sub [0, 1, 2, 3, 4, 5] rfl (Jk262_36  _ hF)
                      · refine r_aload_n C dX12_isFitting_217 rfl 0 rfl ?_
                        refine r_iload_n C dX12_isFitting_218 rfl 1 rfl ?_
                        refine r_iload_n C dX12_isFitting_219 rfl 2 rfl ?_
                        refine r_iload_n C dX12_isFitting_220 rfl 3 rfl ?_
                        refine r_iload C dX12_isFitting_221 6 rfl ?_
                        refine r_iload C dX12_isFitting_223 5 rfl ?_
                        refine r_iload C dX12_isFitting_225 4 rfl ?_
                        obtain ⟨ht, hF⟩ := tst_some hF
                        obtain ⟨r46, h47, hc48, hF⟩ := cl_some hF
                        refine r_callV (As := [.int a1, .int a2, .int a3, .int v42, .int v29, .int v15]) C dX12_isFitting_227 V hT cal_X12_isThere cls_13 ml_X12_194 im_X12_isThere se_X12_isThere ht (by decide) rfl rfl (Nat.le_of_ble_eq_true rfl) (by decide) (by decide) (S_X12_isThere _ _ hc48) ?_
                        refine r_if_ne (tgt := 236) C dX12_isFitting_230 (by decide) hF (fun hF => ?_) (fun hF => ?_)
                        · exact r_sub [0, 4, 5, 6] rfl (Jk236_40 _ _ hF)
                        · refine r_goto (tgt := 256) C dX12_isFitting_233 (by decide) ?_
                          refine r_iinc (v := v42 + 1) C dX12_isFitting_256 6 rfl (congrArg (fun z => v42 + z) (by decide)) (by decide) rfl ?_
                          refine r_goto (tgt := 199) C dX12_isFitting_259 (by decide) ?_
                          exact r_sub [1, 2, 3, 4, 5, 6, 0] rfl (ih _ _ hF)
                  exact r_sub [1, 2, 3, 4, 5, 6, 0] rfl (L199_50 _ _ _ hF)
            exact r_sub [1, 2, 3, 4, 5, 0] rfl (L170_51 _ _ _ hF)
      exact r_sub [1, 2, 3, 4, 0] rfl (L141 _ _ _ hF)
    have L39 : ∀ (fu : Nat) (v52 : Int32) (h53 : PM), F_X12_isFitting_L39 a0 a1 a2 a3 k130 fu v52 h53 = some X → WP p l e (rmN 0 0 2) s m args below meth c D cy base ρ h0 0 0 7 (MQ below (QR D cy base ρ h0 (some (.int X.1)) X.2) args s 0 0 (fun q => base ≤ q)) 39 [(0, .ref a0), (1, .int a1), (2, .int a2), (3, .int a3), (4, .int v52)] [] h53 := by
      intro fu
      induction fu with
      | zero => intro v52 h53 hF; rw [F_X12_isFitting_L39.eq_1] at hF; cases hF
      | succ fu ih =>
        intro v52 h53 hF
        rw [F_X12_isFitting_L39.eq_2] at hF
        refine r_iload C dX12_isFitting_39 4 rfl ?_
        refine r_sipush (v := 216) C dX12_isFitting_41 (by decide) ?_
        refine r_iload_n C dX12_isFitting_44 rfl 1 rfl ?_
        refine r_imul C dX12_isFitting_45 ?_
        refine r_aload_n C dX12_isFitting_46 rfl 0 rfl ?_
        refine k_gR C dX12_isFitting_47 fd_X12_20 (by decide) hF (fun x54 hF => ?_)
        refine r_iload_n C dX12_isFitting_50 rfl 1 rfl ?_
        refine k_aI C dX12_isFitting_51 hF (fun x55 hF => ?_)
        refine r_iadd C dX12_isFitting_52 ?_
        refine r_icmp_ge (tgt := 130) C dX12_isFitting_53 (by decide) hF (fun hF => ?_) (fun hF => ?_)
        · exact r_sub [0, 1, 2, 3] rfl (Jk130  _ hF)
        · refine r_iconst (v := 0) C dX12_isFitting_56 (by decide) ?_
          refine r_istore C dX12_isFitting_57 (by decide) rfl ?_
          obtain ⟨k124_56, ek124_56, hF⟩ := jn_some hF
          have Jk124_56 : ∀  (h57 : PM), k124_56 h57 = some X → WP p l e (rmN 0 0 2) s m args below meth c D cy base ρ h0 0 0 7 (MQ below (QR D cy base ρ h0 (some (.int X.1)) X.2) args s 0 0 (fun q => base ≤ q)) 124 [(0, .ref a0), (1, .int a1), (2, .int a2), (3, .int a3), (4, .int v52)] [] h57 := by
            intro h57 hF
            rw [ek124_56] at hF
            refine r_iinc (v := v52 + 1) C dX12_isFitting_124 4 rfl (congrArg (fun z => v52 + z) (by decide)) (by decide) rfl ?_
            refine r_goto (tgt := 39) C dX12_isFitting_127 (by decide) ?_
            exact r_sub [1, 2, 3, 4, 0] rfl (ih _ _ hF)
          have L59_77 : ∀ (fu : Nat) (v59 : Int32) (h60 : PM), F_X12_isFitting_L59 a0 a1 a2 a3 v52 k124_56 fu v59 h60 = some X → WP p l e (rmN 0 0 2) s m args below meth c D cy base ρ h0 0 0 7 (MQ below (QR D cy base ρ h0 (some (.int X.1)) X.2) args s 0 0 (fun q => base ≤ q)) 59 [(0, .ref a0), (1, .int a1), (2, .int a2), (3, .int a3), (4, .int v52), (5, .int v59)] [] h60 := by
            intro fu
            induction fu with
            | zero => intro v59 h60 hF; rw [F_X12_isFitting_L59.eq_1] at hF; cases hF
            | succ fu ih =>
              intro v59 h60 hF
              rw [F_X12_isFitting_L59.eq_2] at hF
              refine r_iload C dX12_isFitting_59 5 rfl ?_
              refine r_iconst (v := 3) C dX12_isFitting_61 (by decide) ?_
              refine r_icmp_ge (tgt := 124) C dX12_isFitting_62 (by decide) hF (fun hF => ?_) (fun hF => ?_)
              · exact r_sub [0, 1, 2, 3, 4] rfl (Jk124_56  _ hF)
              · refine r_aload_n C dX12_isFitting_65 rfl 0 rfl ?_
                refine r_iload C dX12_isFitting_66 4 rfl ?_
                refine r_iload_n C dX12_isFitting_68 rfl 3 rfl ?_
                refine r_iload C dX12_isFitting_69 5 rfl ?_
                obtain ⟨ht, hF⟩ := tst_some hF
                obtain ⟨r61, h62, hc63, hF⟩ := cl_some hF
                refine r_callV (As := [.int v52, .int a3, .int v59]) C dX12_isFitting_71 V hT cal_X12_laid cls_13 ml_X12_190 im_X12_laid se_X12_laid ht (by decide) rfl rfl (Nat.le_of_ble_eq_true rfl) (by decide) (by decide) (S_X12_laid _ _ hc63) ?_
                refine r_istore C dX12_isFitting_74 (by decide) rfl ?_
                refine r_iload C dX12_isFitting_76 0 rfl ?_
                refine r_aload_n C dX12_isFitting_78 rfl 1 rfl ?_
                refine k_gR C dX12_isFitting_79 fd_X12_50 (by decide) hF (fun x64 hF => ?_)
                refine r_iload C dX12_isFitting_82 6 rfl ?_
                refine k_aI C dX12_isFitting_84 hF (fun x65 hF => ?_)
                obtain ⟨k97_66, ek97_66, hF⟩ := jn_some hF
                have Jk97_66 : ∀  (h67 : PM), k97_66 h67 = some X → WP p l e (rmN 0 0 2) s m args below meth c D cy base ρ h0 0 0 7 (MQ below (QR D cy base ρ h0 (some (.int X.1)) X.2) args s 0 0 (fun q => base ≤ q)) 97 [(0, .ref a0), (1, .int a1), (2, .int a2), (3, .int a3), (4, .int v52), (5, .int v59), (6, .int r61)] [] h67 := by
                  intro h67 hF
                  rw [ek97_66] at hF
                  refine r_iload C dX12_isFitting_97 6 rfl ?_
                  refine r_aload_n C dX12_isFitting_99 rfl 0 rfl ?_
                  refine k_gR C dX12_isFitting_100 fd_X12_53 (by decide) hF (fun x68 hF => ?_)
                  refine r_iload C dX12_isFitting_103 5 rfl ?_
                  refine k_aI C dX12_isFitting_105 hF (fun x69 hF => ?_)
                  obtain ⟨k118_70, ek118_70, hF⟩ := jn_some hF
                  have Jk118_70 : ∀  (h71 : PM), k118_70 h71 = some X → WP p l e (rmN 0 0 2) s m args below meth c D cy base ρ h0 0 0 7 (MQ below (QR D cy base ρ h0 (some (.int X.1)) X.2) args s 0 0 (fun q => base ≤ q)) 118 [(0, .ref a0), (1, .int a1), (2, .int a2), (3, .int a3), (4, .int v52), (5, .int v59)] [] h71 := by
                    intro h71 hF
                    rw [ek118_70] at hF
                    refine r_iinc (v := v59 + 1) C dX12_isFitting_118 5 rfl (congrArg (fun z => v59 + z) (by decide)) (by decide) rfl ?_
                    refine r_goto (tgt := 59) C dX12_isFitting_121 (by decide) ?_
                    exact r_sub [1, 2, 3, 4, 5, 0] rfl (ih _ _ hF)
                  refine r_icmp_le (tgt := 118) C dX12_isFitting_106 (by decide) hF (fun hF => ?_) (fun hF => ?_)
                  · exact r_sub [0, 1, 2, 3, 4, 5] rfl (Jk118_70  _ hF)
                  · refine r_aload_n C dX12_isFitting_109 rfl 0 rfl ?_
                    refine k_gR C dX12_isFitting_110 fd_X12_53 (by decide) hF (fun x73 hF => ?_)
                    refine r_iload C dX12_isFitting_113 5 rfl ?_
                    refine r_iload C dX12_isFitting_115 6 rfl ?_
                    refine k_sI C dX12_isFitting_117 hF (fun h74 hF => ?_)
                    exact r_sub [0, 1, 2, 3, 4, 5] rfl (Jk118_70  _ hF)
                refine r_icmp_ge (tgt := 97) C dX12_isFitting_85 (by decide) hF (fun hF => ?_) (fun hF => ?_)
                · exact r_sub [1, 2, 3, 4, 5, 6, 0] rfl (Jk97_66  _ hF)
                · refine r_aload_n C dX12_isFitting_88 rfl 1 rfl ?_
                  refine k_gR C dX12_isFitting_89 fd_X12_50 (by decide) hF (fun x75 hF => ?_)
                  refine r_iload C dX12_isFitting_92 6 rfl ?_
                  refine r_iload C dX12_isFitting_94 0 rfl ?_
                  refine k_sI C dX12_isFitting_96 hF (fun h76 hF => ?_)
                  exact r_sub [1, 2, 3, 4, 5, 6, 0] rfl (Jk97_66  _ hF)
          exact r_sub [1, 2, 3, 4, 5, 0] rfl (L59_77 _ _ _ hF)
    exact r_sub [1, 2, 3, 4, 0] rfl (L39 _ _ _ hF)
  have L3 : ∀ (fu : Nat) (v78 : Int32) (h79 : PM), F_X12_isFitting_L3 a0 a1 a2 a3 k32 fu v78 h79 = some X → WP p l e (rmN 0 0 2) s m args below meth c D cy base ρ h0 0 0 7 (MQ below (QR D cy base ρ h0 (some (.int X.1)) X.2) args s 0 0 (fun q => base ≤ q)) 3 [(0, .ref a0), (1, .int a1), (2, .int a2), (3, .int a3), (4, .int v78)] [] h79 := by
    intro fu
    induction fu with
    | zero => intro v78 h79 hF; rw [F_X12_isFitting_L3.eq_1] at hF; cases hF
    | succ fu ih =>
      intro v78 h79 hF
      rw [F_X12_isFitting_L3.eq_2] at hF
      refine r_iload C dX12_isFitting_3 4 rfl ?_
      refine r_iconst (v := 3) C dX12_isFitting_5 (by decide) ?_
      refine r_icmp_ge (tgt := 32) C dX12_isFitting_6 (by decide) hF (fun hF => ?_) (fun hF => ?_)
      · exact r_sub [0, 1, 2, 3] rfl (Jk32  _ hF)
      · refine r_aload_n C dX12_isFitting_9 rfl 0 rfl ?_
        refine k_gR C dX12_isFitting_10 fd_X12_50 (by decide) hF (fun x80 hF => ?_)
        refine r_iload C dX12_isFitting_13 4 rfl ?_
        refine r_bipush (v := 9) C dX12_isFitting_15 (by decide) ?_
        refine k_sI C dX12_isFitting_17 hF (fun h81 hF => ?_)
        refine r_aload_n C dX12_isFitting_18 rfl 0 rfl ?_
        refine k_gR C dX12_isFitting_19 fd_X12_53 (by decide) hF (fun x82 hF => ?_)
        refine r_iload C dX12_isFitting_22 4 rfl ?_
        refine r_iconst (v := 0) C dX12_isFitting_24 (by decide) ?_
        refine k_sI C dX12_isFitting_25 hF (fun h83 hF => ?_)
        refine r_iinc (v := v78 + 1) C dX12_isFitting_26 4 rfl (congrArg (fun z => v78 + z) (by decide)) (by decide) rfl ?_
        refine r_goto (tgt := 3) C dX12_isFitting_29 (by decide) ?_
        exact r_sub [1, 2, 3, 4, 0] rfl (ih _ _ hF)
  exact r_sub [1, 2, 3, 4, 0] rfl (L3 _ _ _ hF)
def F_X12_fit_L49 (c0 : Nat) (c2 : Int32) (c3 : Int32) (k74 : PM → Option (Int32 × PM)) (k65 : Int32 → PM → Option (Int32 × PM)) : Nat → Int32 → PM → Option (Int32 × PM)
  | 0, _, _ => none
  | fu + 1, v21, h22 => if v21 ≤ 0 then (k74 h22) else (tst h22 c0 13 (cl (F_X12_isFitting c0 c2 v21 c3 h22) fun r23 h24 => if r23 = 0 then (F_X12_fit_L49 c0 c2 c3 k74 k65 fu (v21 + (-1)) h24) else (k65 v21 h24)))
def F_X12_fit (a0 : Nat) (a1 : Int32) (a2 : Int32) (a3 : Int32) (h0 : PM) : Option (Int32 × PM) := pI h0 a0 13 0 0 fun h1 => tst h1 a0 13 (cl (F_X12_isRough a0 a1 h1) fun r2 h3 => jn (fun  (h5 : PM) => some (0, h5)) fun k35 => if r2 = 0 then (k35 h3) else (tst h3 a0 13 (cl (F_X12_isModel a0 a2 h3) fun r6 h7 => if r6 = 0 then (k35 h7) else (cl (F_X12_within a3 0 5 h7) fun r9 h10 => tst h10 a0 13 (cl (F_X12_may a0 r9 3 h10) fun r12 h13 => if ¬ r12 = 0 then (tst h13 a0 13 (cl (F_X12_setPart a0 a1 (-1) 0 5 h13) fun r15 h16 => jn (fun  (h18 : PM) => some (0, h18)) fun k74 => jn (fun (v19 : Int32) (h20 : PM) => some (v19, h20)) fun k65 => F_X12_fit_L49 a0 a2 a3 k74 k65 LF 6 h16)) else (k35 h13))))))
set_option maxRecDepth 100000 in
set_option maxHeartbeats 4000000 in
theorem S_X12_fit {a0 : Nat} {a1 : Int32} {a2 : Int32} {a3 : Int32} {h0 : PM} (r : Int32) (h' : PM) (hF : F_X12_fit a0 a1 a2 a3 h0 = some (r, h')) : CN yX12_fit cX12_fit 5 (some .int) 0 0 3 [.ref a0, .int a1, .int a2, .int a3] h0 (some (.int r)) h' := by
  obtain ⟨X, eX⟩ : ∃ X, X = (r, h') := ⟨_, rfl⟩
  rw [← eX] at hF
  have e1 : r = X.1 := by rw [eX]
  have e2 : h' = X.2 := by rw [eX]
  rw [e1, e2]
  clear eX e1 e2
  unfold F_X12_fit at hF
  refine CN_of (by decide) (fun ρ => Nat.le_of_ble_eq_true rfl) rfl ?_
  intro p l e s m args below meth c D cy base ρ hT C V hr hnm
  refine r_aload_n C dX12_fit_0 rfl 0 rfl ?_
  refine r_iconst (v := 0) C dX12_fit_1 (by decide) ?_
  refine k_pI C dX12_fit_2 fd_X12_1 (fun z => by cases z) (by decide) hF (fun h1 hF => ?_)
  refine r_aload_n C dX12_fit_5 rfl 0 rfl ?_
  refine r_iload_n C dX12_fit_6 rfl 1 rfl ?_
  obtain ⟨ht, hF⟩ := tst_some hF
  obtain ⟨r2, h3, hc4, hF⟩ := cl_some hF
  refine r_callV (As := [.int a1]) C dX12_fit_7 V hT cal_X12_isRough cls_13 ml_X12_137 im_X12_isRough se_X12_isRough ht (by decide) rfl rfl (Nat.le_of_ble_eq_true rfl) (by decide) (by decide) (S_X12_isRough _ _ hc4) ?_
  obtain ⟨k35, ek35, hF⟩ := jn_some hF
  have Jk35 : ∀  (h5 : PM), k35 h5 = some X → WP p l e (rmN 0 0 3) s m args below meth c D cy base ρ h0 0 0 5 (MQ below (QR D cy base ρ h0 (some (.int X.1)) X.2) args s 0 0 (fun q => base ≤ q)) 35 [] [] h5 := by
    intro h5 hF
    rw [ek35] at hF
    refine r_iconst (v := 0) C dX12_fit_35 (by decide) ?_
    exact k_iret C dX12_fit_36 hr (by decide) (by decide) hF
  refine r_if_eq (tgt := 35) C dX12_fit_10 (by decide) hF (fun hF => ?_) (fun hF => ?_)
  · exact r_sub [] rfl (Jk35  _ hF)
  · refine r_aload_n C dX12_fit_13 rfl 0 rfl ?_
    refine r_iload_n C dX12_fit_14 rfl 2 rfl ?_
    obtain ⟨ht, hF⟩ := tst_some hF
    obtain ⟨r6, h7, hc8, hF⟩ := cl_some hF
    refine r_callV (As := [.int a2]) C dX12_fit_15 V hT cal_X12_isModel cls_13 ml_X12_207 im_X12_isModel se_X12_isModel ht (by decide) rfl rfl (Nat.le_of_ble_eq_true rfl) (by decide) (by decide) (S_X12_isModel _ _ hc8) ?_
    refine r_if_eq (tgt := 35) C dX12_fit_18 (by decide) hF (fun hF => ?_) (fun hF => ?_)
    · exact r_sub [] rfl (Jk35  _ hF)
    · refine r_aload_n C dX12_fit_21 rfl 0 rfl ?_
      refine r_iload_n C dX12_fit_22 rfl 3 rfl ?_
      refine r_iconst (v := 0) C dX12_fit_23 (by decide) ?_
      refine r_iconst (v := 5) C dX12_fit_24 (by decide) ?_
      obtain ⟨r9, h10, hc11, hF⟩ := cl_some hF
      refine r_callS (As := [.int a3, .int 0, .int 5]) C dX12_fit_25 V hT cal_X12_within ml_X12_129 sm_X12_within (by decide) rfl rfl (Nat.le_of_ble_eq_true rfl) (by decide) (by decide) (S_X12_within _ _ hc11) ?_
      refine r_iconst (v := 3) C dX12_fit_28 (by decide) ?_
      obtain ⟨ht, hF⟩ := tst_some hF
      obtain ⟨r12, h13, hc14, hF⟩ := cl_some hF
      refine r_callV (As := [.int r9, .int 3]) C dX12_fit_29 V hT cal_X12_may cls_13 ml_X12_133 im_X12_may se_X12_may ht (by decide) rfl rfl (Nat.le_of_ble_eq_true rfl) (by decide) (by decide) (S_X12_may _ _ hc14) ?_
      refine r_if_ne (tgt := 37) C dX12_fit_32 (by decide) hF (fun hF => ?_) (fun hF => ?_)
      · refine r_aload_n C dX12_fit_37 rfl 0 rfl ?_
        refine r_iload_n C dX12_fit_38 rfl 1 rfl ?_
        refine r_iconst (v := (-1)) C dX12_fit_39 (by decide) ?_
        refine r_iconst (v := 0) C dX12_fit_40 (by decide) ?_
        refine r_iconst (v := 5) C dX12_fit_41 (by decide) ?_
        obtain ⟨ht, hF⟩ := tst_some hF
        obtain ⟨r15, h16, hc17, hF⟩ := cl_some hF
        refine r_callV (As := [.int a1, .int (-1), .int 0, .int 5]) C dX12_fit_42 V hT cal_X12_setPart cls_13 ml_X12_210 im_X12_setPart se_X12_setPart ht (by decide) rfl rfl (Nat.le_of_ble_eq_true rfl) (by decide) (by decide) (S_X12_setPart _ _ hc17) ?_
        refine r_bipush (v := 6) C dX12_fit_45 (by decide) ?_
        refine r_istore C dX12_fit_47 (by decide) rfl ?_
        obtain ⟨k74, ek74, hF⟩ := jn_some hF
        have Jk74 : ∀  (h18 : PM), k74 h18 = some X → WP p l e (rmN 0 0 3) s m args below meth c D cy base ρ h0 0 0 5 (MQ below (QR D cy base ρ h0 (some (.int X.1)) X.2) args s 0 0 (fun q => base ≤ q)) 74 [] [] h18 := by
          intro h18 hF
          rw [ek74] at hF
          refine r_iconst (v := 0) C dX12_fit_74 (by decide) ?_
          exact k_iret C dX12_fit_75 hr (by decide) (by decide) hF
        obtain ⟨k65, ek65, hF⟩ := jn_some hF
        have Jk65 : ∀ (v19 : Int32) (h20 : PM), k65 v19 h20 = some X → WP p l e (rmN 0 0 3) s m args below meth c D cy base ρ h0 0 0 5 (MQ below (QR D cy base ρ h0 (some (.int X.1)) X.2) args s 0 0 (fun q => base ≤ q)) 65 [(4, .int v19)] [] h20 := by
          intro v19 h20 hF
          rw [ek65] at hF
          refine r_iload C dX12_fit_65 0 rfl ?_
          exact k_iret C dX12_fit_67 hr (by decide) (by decide) hF
        have L49 : ∀ (fu : Nat) (v21 : Int32) (h22 : PM), F_X12_fit_L49 a0 a2 a3 k74 k65 fu v21 h22 = some X → WP p l e (rmN 0 0 3) s m args below meth c D cy base ρ h0 0 0 5 (MQ below (QR D cy base ρ h0 (some (.int X.1)) X.2) args s 0 0 (fun q => base ≤ q)) 49 [(0, .ref a0), (2, .int a2), (3, .int a3), (4, .int v21)] [] h22 := by
          intro fu
          induction fu with
          | zero => intro v21 h22 hF; rw [F_X12_fit_L49.eq_1] at hF; cases hF
          | succ fu ih =>
            intro v21 h22 hF
            rw [F_X12_fit_L49.eq_2] at hF
            refine r_iload C dX12_fit_49 3 rfl ?_
            refine r_if_le (tgt := 74) C dX12_fit_51 (by decide) hF (fun hF => ?_) (fun hF => ?_)
            · exact r_sub [] rfl (Jk74  _ hF)
            · refine r_aload_n C dX12_fit_54 rfl 0 rfl ?_
              refine r_iload_n C dX12_fit_55 rfl 1 rfl ?_
              refine r_iload C dX12_fit_56 3 rfl ?_
              refine r_iload_n C dX12_fit_58 rfl 2 rfl ?_
              obtain ⟨ht, hF⟩ := tst_some hF
              obtain ⟨r23, h24, hc25, hF⟩ := cl_some hF
              refine r_callV (As := [.int a2, .int v21, .int a3]) C dX12_fit_59 V hT cal_X12_isFitting cls_13 ml_X12_214 im_X12_isFitting se_X12_isFitting ht (by decide) rfl rfl (Nat.le_of_ble_eq_true rfl) (by decide) (by decide) (S_X12_isFitting _ _ hc25) ?_
              refine r_if_eq (tgt := 68) C dX12_fit_62 (by decide) hF (fun hF => ?_) (fun hF => ?_)
              · refine r_iinc (v := v21 + (-1)) C dX12_fit_68 3 rfl (congrArg (fun z => v21 + z) (by decide)) (by decide) rfl ?_
                refine r_goto (tgt := 49) C dX12_fit_71 (by decide) ?_
                exact r_sub [1, 2, 3, 0] rfl (ih _ _ hF)
              · exact r_sub [3] rfl (Jk65 _ _ hF)
        exact r_sub [1, 3, 4, 0] rfl (L49 _ _ _ hF)
      · exact r_sub [] rfl (Jk35  _ hF)
def F_X12_findCut_L57 (c0 : Nat) (c1 : Int32) (c2 : Int32) (c3 : Int32) (c4 : Int32) (k81 : Int32 → PM → Option (Int32 × PM)) : Nat → Int32 → PM → Option (Int32 × PM)
  | 0, _, _ => none
  | fu + 1, v44, h45 => if 6 ≤ v44 then (k81 v44 h45) else (tst h45 c0 13 (cl (F_X12_isFitting c0 c2 c3 v44 h45) fun r46 h47 => if ¬ r46 = 0 then (k81 v44 h47) else (F_X12_findCut_L57 c0 c1 c2 c3 c4 k81 fu (v44 + 1) h47)))
def F_X12_findCut_L15 (c0 : Nat) (c2 : Int32) (k165 : Int32 → PM → Option (Int32 × PM)) : Nat → Int32 → Int32 → PM → Option (Int32 × PM)
  | 0, _, _, _ => none
  | fu + 1, v10, v11, h12 => if v11 ≤ 0 then (k165 v10 h12) else (gR h12 c0 13 9 fun x13 => aI h12 x13 c2 fun x14 => lt_ (((x14 * v11) * v11) * v11) fun x15 => jn (fun (v16 : Int32) (h17 : PM) => F_X12_findCut_L15 c0 c2 k165 fu v16 (v11 + (-1)) h17) fun k159 => if 216 < x15 then (k159 v10 h12) else (tst h12 c0 13 (cl (F_X12_worthOf c0 x15 h12) fun r19 h20 => if v10 < r19 then (jn (fun (v22 : Int32) (h23 : PM) => if ¬ v22 = 6 then (tst h23 c0 13 (cl (F_X12_worthOf c0 x15 h23) fun r24 h25 => gR h25 c0 13 25 fun x27 => sI h25 x27 0 c2 fun h28 => gR h28 c0 13 25 fun x29 => sI h28 x29 1 v11 fun h30 => gR h30 c0 13 25 fun x31 => sI h30 x31 2 v22 fun h32 => gR h32 c0 13 25 fun x33 => gI h32 c0 13 22 fun x34 => sI h32 x33 3 x34 fun h35 => gR h35 c0 13 25 fun x36 => gI h35 c0 13 23 fun x37 => sI h35 x36 4 x37 fun h38 => gR h38 c0 13 25 fun x39 => gI h38 c0 13 24 fun x40 => sI h38 x39 5 x40 fun h41 => gR h41 c0 13 25 fun x42 => sI h41 x42 6 x15 fun h43 => k159 r24 h43)) else (k159 v10 h23)) fun k81 => F_X12_findCut_L57 c0 v10 c2 v11 x15 k81 LF 0 h20) else (k159 v10 h20))))
def F_X12_findCut_L4 (c0 : Nat) (k171 : Int32 → PM → Option (Int32 × PM)) : Nat → Int32 → Int32 → PM → Option (Int32 × PM)
  | 0, _, _, _ => none
  | fu + 1, v3, v4, h5 => gI h5 c0 13 7 fun x6 => if x6 ≤ v4 then (k171 v3 h5) else (jn (fun (v7 : Int32) (h8 : PM) => F_X12_findCut_L4 c0 k171 fu v7 (v4 + 1) h8) fun k165 => F_X12_findCut_L15 c0 v4 k165 LF v3 6 h5)
def F_X12_findCut (a0 : Nat) (h0 : PM) : Option (Int32 × PM) := jn (fun (v1 : Int32) (h2 : PM) => some (v1, h2)) fun k171 => F_X12_findCut_L4 a0 k171 LF 0 0 h0
set_option maxRecDepth 100000 in
set_option maxHeartbeats 4000000 in
theorem S_X12_findCut {a0 : Nat} {h0 : PM} (r : Int32) (h' : PM) (hF : F_X12_findCut a0 h0 = some (r, h')) : CN yX12_findCut cX12_findCut 6 (some .int) 0 0 3 [.ref a0] h0 (some (.int r)) h' := by
  obtain ⟨X, eX⟩ : ∃ X, X = (r, h') := ⟨_, rfl⟩
  rw [← eX] at hF
  have e1 : r = X.1 := by rw [eX]
  have e2 : h' = X.2 := by rw [eX]
  rw [e1, e2]
  clear eX e1 e2
  unfold F_X12_findCut at hF
  refine CN_of (by decide) (fun ρ => Nat.le_of_ble_eq_true rfl) rfl ?_
  intro p l e s m args below meth c D cy base ρ hT C V hr hnm
  refine r_iconst (v := 0) C dX12_findCut_0 (by decide) ?_
  refine r_istore_n C dX12_findCut_1 rfl (by decide) rfl ?_
  refine r_iconst (v := 0) C dX12_findCut_2 (by decide) ?_
  refine r_istore_n C dX12_findCut_3 rfl (by decide) rfl ?_
  obtain ⟨k171, ek171, hF⟩ := jn_some hF
  have Jk171 : ∀ (v1 : Int32) (h2 : PM), k171 v1 h2 = some X → WP p l e (rmN 0 0 3) s m args below meth c D cy base ρ h0 0 0 6 (MQ below (QR D cy base ρ h0 (some (.int X.1)) X.2) args s 0 0 (fun q => base ≤ q)) 171 [(1, .int v1)] [] h2 := by
    intro v1 h2 hF
    rw [ek171] at hF
    refine r_iload_n C dX12_findCut_171 rfl 0 rfl ?_
    exact k_iret C dX12_findCut_172 hr (by decide) (by decide) hF
  have L4 : ∀ (fu : Nat) (v3 : Int32) (v4 : Int32) (h5 : PM), F_X12_findCut_L4 a0 k171 fu v3 v4 h5 = some X → WP p l e (rmN 0 0 3) s m args below meth c D cy base ρ h0 0 0 6 (MQ below (QR D cy base ρ h0 (some (.int X.1)) X.2) args s 0 0 (fun q => base ≤ q)) 4 [(0, .ref a0), (1, .int v3), (2, .int v4)] [] h5 := by
    intro fu
    induction fu with
    | zero => intro v3 v4 h5 hF; rw [F_X12_findCut_L4.eq_1] at hF; cases hF
    | succ fu ih =>
      intro v3 v4 h5 hF
      rw [F_X12_findCut_L4.eq_2] at hF
      refine r_iload_n C dX12_findCut_4 rfl 2 rfl ?_
      refine r_aload_n C dX12_findCut_5 rfl 0 rfl ?_
      refine k_gI C dX12_findCut_6 fd_X12_174 (by decide) hF (fun x6 hF => ?_)
      refine r_icmp_ge (tgt := 171) C dX12_findCut_9 (by decide) hF (fun hF => ?_) (fun hF => ?_)
      · exact r_sub [1] rfl (Jk171 _ _ hF)
      · refine r_bipush (v := 6) C dX12_findCut_12 (by decide) ?_
        refine r_istore_n C dX12_findCut_14 rfl (by decide) rfl ?_
        obtain ⟨k165_8, ek165_8, hF⟩ := jn_some hF
        have Jk165_8 : ∀ (v7 : Int32) (h9 : PM), k165_8 v7 h9 = some X → WP p l e (rmN 0 0 3) s m args below meth c D cy base ρ h0 0 0 6 (MQ below (QR D cy base ρ h0 (some (.int X.1)) X.2) args s 0 0 (fun q => base ≤ q)) 165 [(0, .ref a0), (1, .int v7), (2, .int v4)] [] h9 := by
          intro v7 h9 hF
          rw [ek165_8] at hF
          refine r_iinc (v := v4 + 1) C dX12_findCut_165 2 rfl (congrArg (fun z => v4 + z) (by decide)) (by decide) rfl ?_
          refine r_goto (tgt := 4) C dX12_findCut_168 (by decide) ?_
          exact r_sub [1, 2, 0] rfl (ih _ _ _ hF)
        have L15_54 : ∀ (fu : Nat) (v11 : Int32) (v12 : Int32) (h13 : PM), F_X12_findCut_L15 a0 v4 k165_8 fu v11 v12 h13 = some X → WP p l e (rmN 0 0 3) s m args below meth c D cy base ρ h0 0 0 6 (MQ below (QR D cy base ρ h0 (some (.int X.1)) X.2) args s 0 0 (fun q => base ≤ q)) 15 [(0, .ref a0), (1, .int v11), (2, .int v4), (3, .int v12)] [] h13 := by
          intro fu
          induction fu with
          | zero => intro v11 v12 h13 hF; rw [F_X12_findCut_L15.eq_1] at hF; cases hF
          | succ fu ih =>
            intro v11 v12 h13 hF
            rw [F_X12_findCut_L15.eq_2] at hF
            refine r_iload_n C dX12_findCut_15 rfl 3 rfl ?_
            refine r_if_le (tgt := 165) C dX12_findCut_16 (by decide) hF (fun hF => ?_) (fun hF => ?_)
            · exact r_sub [0, 1, 2] rfl (Jk165_8 _ _ hF)
            · refine r_aload_n C dX12_findCut_19 rfl 0 rfl ?_
              refine k_gR C dX12_findCut_20 fd_X12_20 (by decide) hF (fun x14 hF => ?_)
              refine r_iload_n C dX12_findCut_23 rfl 2 rfl ?_
              refine k_aI C dX12_findCut_24 hF (fun x15 hF => ?_)
              refine r_iload_n C dX12_findCut_25 rfl 3 rfl ?_
              refine r_imul C dX12_findCut_26 ?_
              refine r_iload_n C dX12_findCut_27 rfl 3 rfl ?_
              refine r_imul C dX12_findCut_28 ?_
              refine r_iload_n C dX12_findCut_29 rfl 3 rfl ?_
              refine r_imul C dX12_findCut_30 ?_
              refine k_lti hF (fun x16 hF => ?_)
              refine r_istore C dX12_findCut_31 (by decide) rfl ?_
              refine r_iload C dX12_findCut_33 0 rfl ?_
              refine r_sipush (v := 216) C dX12_findCut_35 (by decide) ?_
              obtain ⟨k159_18, ek159_18, hF⟩ := jn_some hF
              have Jk159_18 : ∀ (v17 : Int32) (h19 : PM), k159_18 v17 h19 = some X → WP p l e (rmN 0 0 3) s m args below meth c D cy base ρ h0 0 0 6 (MQ below (QR D cy base ρ h0 (some (.int X.1)) X.2) args s 0 0 (fun q => base ≤ q)) 159 [(0, .ref a0), (1, .int v17), (2, .int v4), (3, .int v12)] [] h19 := by
                intro v17 h19 hF
                rw [ek159_18] at hF
                refine r_iinc (v := v12 + (-1)) C dX12_findCut_159 3 rfl (congrArg (fun z => v12 + z) (by decide)) (by decide) rfl ?_
                refine r_goto (tgt := 15) C dX12_findCut_162 (by decide) ?_
                exact r_sub [1, 2, 3, 0] rfl (ih _ _ _ hF)
              refine r_icmp_gt (tgt := 159) C dX12_findCut_38 (by decide) hF (fun hF => ?_) (fun hF => ?_)
              · exact r_sub [1, 2, 3, 4] rfl (Jk159_18 _ _ hF)
              · refine r_aload_n C dX12_findCut_41 rfl 1 rfl ?_
                refine r_iload C dX12_findCut_42 0 rfl ?_
                obtain ⟨ht, hF⟩ := tst_some hF
                obtain ⟨r21, h22, hc23, hF⟩ := cl_some hF
                refine r_callV (As := [.int x16]) C dX12_findCut_44 V hT cal_X12_worthOf cls_13 ml_X12_186 im_X12_worthOf se_X12_worthOf ht (by decide) rfl rfl (Nat.le_of_ble_eq_true rfl) (by decide) (by decide) (S_X12_worthOf _ _ hc23) ?_
                refine r_iload_n C dX12_findCut_47 rfl 2 rfl ?_
                refine r_icmp_gt (tgt := 54) C dX12_findCut_48 (by decide) hF (fun hF => ?_) (fun hF => ?_)
                · refine r_iconst (v := 0) C dX12_findCut_54 (by decide) ?_
                  refine r_istore C dX12_findCut_55 (by decide) rfl ?_
                  obtain ⟨k81_25, ek81_25, hF⟩ := jn_some hF
                  have Jk81_25 : ∀ (v24 : Int32) (h26 : PM), k81_25 v24 h26 = some X → WP p l e (rmN 0 0 3) s m args below meth c D cy base ρ h0 0 0 6 (MQ below (QR D cy base ρ h0 (some (.int X.1)) X.2) args s 0 0 (fun q => base ≤ q)) 81 [(0, .ref a0), (1, .int v11), (2, .int v4), (3, .int v12), (4, .int x16), (5, .int v24)] [] h26 := by
                    intro v24 h26 hF
                    rw [ek81_25] at hF
                    refine r_iload C dX12_findCut_81 5 rfl ?_
                    refine r_bipush (v := 6) C dX12_findCut_83 (by decide) ?_
                    refine r_icmp_ne (tgt := 91) C dX12_findCut_85 (by decide) hF (fun hF => ?_) (fun hF => ?_)
                    · refine r_aload_n C dX12_findCut_91 rfl 0 rfl ?_
                      refine r_iload C dX12_findCut_92 4 rfl ?_
                      obtain ⟨ht, hF⟩ := tst_some hF
                      obtain ⟨r27, h28, hc29, hF⟩ := cl_some hF
                      refine r_callV (As := [.int x16]) C dX12_findCut_94 V hT cal_X12_worthOf cls_13 ml_X12_186 im_X12_worthOf se_X12_worthOf ht (by decide) rfl rfl (Nat.le_of_ble_eq_true rfl) (by decide) (by decide) (S_X12_worthOf _ _ hc29) ?_
                      refine r_istore_n C dX12_findCut_97 rfl (by decide) rfl ?_
                      refine r_aload_n C dX12_findCut_98 rfl 1 rfl ?_
                      refine k_gR C dX12_findCut_99 fd_X12_56 (by decide) hF (fun x30 hF => ?_)
                      refine r_iconst (v := 0) C dX12_findCut_102 (by decide) ?_
                      refine r_iload_n C dX12_findCut_103 rfl 2 rfl ?_
                      refine k_sI C dX12_findCut_104 hF (fun h31 hF => ?_)
                      refine r_aload_n C dX12_findCut_105 rfl 1 rfl ?_
                      refine k_gR C dX12_findCut_106 fd_X12_56 (by decide) hF (fun x32 hF => ?_)
                      refine r_iconst (v := 1) C dX12_findCut_109 (by decide) ?_
                      refine r_iload_n C dX12_findCut_110 rfl 3 rfl ?_
                      refine k_sI C dX12_findCut_111 hF (fun h33 hF => ?_)
                      refine r_aload_n C dX12_findCut_112 rfl 1 rfl ?_
                      refine k_gR C dX12_findCut_113 fd_X12_56 (by decide) hF (fun x34 hF => ?_)
                      refine r_iconst (v := 2) C dX12_findCut_116 (by decide) ?_
                      refine r_iload C dX12_findCut_117 5 rfl ?_
                      refine k_sI C dX12_findCut_119 hF (fun h35 hF => ?_)
                      refine r_aload_n C dX12_findCut_120 rfl 1 rfl ?_
                      refine k_gR C dX12_findCut_121 fd_X12_56 (by decide) hF (fun x36 hF => ?_)
                      refine r_iconst (v := 3) C dX12_findCut_124 (by decide) ?_
                      refine r_aload_n C dX12_findCut_125 rfl 1 rfl ?_
                      refine k_gI C dX12_findCut_126 fd_X12_198 (by decide) hF (fun x37 hF => ?_)
                      refine k_sI C dX12_findCut_129 hF (fun h38 hF => ?_)
                      refine r_aload_n C dX12_findCut_130 rfl 1 rfl ?_
                      refine k_gR C dX12_findCut_131 fd_X12_56 (by decide) hF (fun x39 hF => ?_)
                      refine r_iconst (v := 4) C dX12_findCut_134 (by decide) ?_
                      refine r_aload_n C dX12_findCut_135 rfl 1 rfl ?_
                      refine k_gI C dX12_findCut_136 fd_X12_201 (by decide) hF (fun x40 hF => ?_)
                      refine k_sI C dX12_findCut_139 hF (fun h41 hF => ?_)
                      refine r_aload_n C dX12_findCut_140 rfl 1 rfl ?_
                      refine k_gR C dX12_findCut_141 fd_X12_56 (by decide) hF (fun x42 hF => ?_)
                      refine r_iconst (v := 5) C dX12_findCut_144 (by decide) ?_
                      refine r_aload_n C dX12_findCut_145 rfl 1 rfl ?_
                      refine k_gI C dX12_findCut_146 fd_X12_204 (by decide) hF (fun x43 hF => ?_)
                      refine k_sI C dX12_findCut_149 hF (fun h44 hF => ?_)
                      refine r_aload_n C dX12_findCut_150 rfl 1 rfl ?_
                      refine k_gR C dX12_findCut_151 fd_X12_56 (by decide) hF (fun x45 hF => ?_)
                      refine r_bipush (v := 6) C dX12_findCut_154 (by decide) ?_
                      refine r_iload C dX12_findCut_156 4 rfl ?_
                      refine k_sI C dX12_findCut_158 hF (fun h46 hF => ?_)
                      exact r_sub [1, 0, 2, 3] rfl (Jk159_18 _ _ hF)
                    · refine r_goto (tgt := 159) C dX12_findCut_88 (by decide) ?_
                      exact r_sub [0, 1, 2, 3] rfl (Jk159_18 _ _ hF)
                  have L57_53 : ∀ (fu : Nat) (v47 : Int32) (h48 : PM), F_X12_findCut_L57 a0 v11 v4 v12 x16 k81_25 fu v47 h48 = some X → WP p l e (rmN 0 0 3) s m args below meth c D cy base ρ h0 0 0 6 (MQ below (QR D cy base ρ h0 (some (.int X.1)) X.2) args s 0 0 (fun q => base ≤ q)) 57 [(0, .ref a0), (1, .int v11), (2, .int v4), (3, .int v12), (4, .int x16), (5, .int v47)] [] h48 := by
                    intro fu
                    induction fu with
                    | zero => intro v47 h48 hF; rw [F_X12_findCut_L57.eq_1] at hF; cases hF
                    | succ fu ih =>
                      intro v47 h48 hF
                      rw [F_X12_findCut_L57.eq_2] at hF
                      refine r_iload C dX12_findCut_57 5 rfl ?_
                      refine r_bipush (v := 6) C dX12_findCut_59 (by decide) ?_
                      refine r_icmp_ge (tgt := 81) C dX12_findCut_61 (by decide) hF (fun hF => ?_) (fun hF => ?_)
                      · exact Jk81_25 _ _ hF
                      · refine r_aload_n C dX12_findCut_64 rfl 0 rfl ?_
                        refine r_iload_n C dX12_findCut_65 rfl 2 rfl ?_
                        refine r_iload_n C dX12_findCut_66 rfl 3 rfl ?_
                        refine r_iload C dX12_findCut_67 5 rfl ?_
                        obtain ⟨ht, hF⟩ := tst_some hF
                        obtain ⟨r49, h50, hc51, hF⟩ := cl_some hF
                        refine r_callV (As := [.int v4, .int v12, .int v47]) C dX12_findCut_69 V hT cal_X12_isFitting cls_13 ml_X12_214 im_X12_isFitting se_X12_isFitting ht (by decide) rfl rfl (Nat.le_of_ble_eq_true rfl) (by decide) (by decide) (S_X12_isFitting _ _ hc51) ?_
                        refine r_if_ne (tgt := 81) C dX12_findCut_72 (by decide) hF (fun hF => ?_) (fun hF => ?_)
                        · exact Jk81_25 _ _ hF
                        · refine r_iinc (v := v47 + 1) C dX12_findCut_75 5 rfl (congrArg (fun z => v47 + z) (by decide)) (by decide) rfl ?_
                          refine r_goto (tgt := 57) C dX12_findCut_78 (by decide) ?_
                          exact r_sub [1, 2, 3, 4, 5, 0] rfl (ih _ _ hF)
                  exact r_sub [2, 3, 4, 5, 1, 0] rfl (L57_53 _ _ _ hF)
                · refine r_goto (tgt := 159) C dX12_findCut_51 (by decide) ?_
                  exact r_sub [1, 2, 3, 4] rfl (Jk159_18 _ _ hF)
        exact r_sub [1, 2, 3, 0] rfl (L15_54 _ _ _ _ hF)
  exact r_sub [2, 1, 0] rfl (L4 _ _ _ _ hF)
def F_X12_keepCut_L2 (c0 : Nat) (c1 : Nat) (k31 : PM → Option (Unit × PM)) : Nat → Int32 → PM → Option (Unit × PM)
  | 0, _, _ => none
  | fu + 1, v4, h5 => if 7 ≤ v4 then (k31 h5) else (gR h5 c0 13 27 fun x6 => gI h5 c0 13 30 fun x7 => aI h5 c1 v4 fun x8 => sI h5 x6 ((8 * x7) + v4) x8 fun h9 => F_X12_keepCut_L2 c0 c1 k31 fu (v4 + 1) h9)
def F_X12_keepCut (a0 : Nat) (a1 : Nat) (h0 : PM) : Option (Unit × PM) := jn (fun  (h1 : PM) => gI h1 a0 13 30 fun x2 => pI h1 a0 13 30 (x2 + 1) fun h3 => some ((), h3)) fun k31 => F_X12_keepCut_L2 a0 a1 k31 LF 0 h0
set_option maxRecDepth 100000 in
set_option maxHeartbeats 4000000 in
theorem S_X12_keepCut {a0 : Nat} {a1 : Nat} {h0 : PM} (r : Unit) (h' : PM) (hF : F_X12_keepCut a0 a1 h0 = some (r, h')) : CN yX12_keepCut cX12_keepCut 3 none 0 0 0 [.ref a0, .ref a1] h0 none h' := by
  obtain ⟨X, eX⟩ : ∃ X, X = (r, h') := ⟨_, rfl⟩
  rw [← eX] at hF
  have e1 : r = X.1 := by rw [eX]
  have e2 : h' = X.2 := by rw [eX]
  rw [e2]
  clear eX e1 e2
  unfold F_X12_keepCut at hF
  refine CN_of (by decide) (fun ρ => Nat.le_of_ble_eq_true rfl) rfl ?_
  intro p l e s m args below meth c D cy base ρ hT C V hr hnm
  refine r_iconst (v := 0) C dX12_keepCut_0 (by decide) ?_
  refine r_istore_n C dX12_keepCut_1 rfl (by decide) rfl ?_
  obtain ⟨k31, ek31, hF⟩ := jn_some hF
  have Jk31 : ∀  (h1 : PM), k31 h1 = some X → WP p l e (rmN 0 0 0) s m args below meth c D cy base ρ h0 0 0 3 (MQ below (QR D cy base ρ h0 none X.2) args s 0 0 (fun q => base ≤ q)) 31 [(0, .ref a0)] [] h1 := by
    intro h1 hF
    rw [ek31] at hF
    refine r_aload_n C dX12_keepCut_31 rfl 0 rfl ?_
    refine r_dup C dX12_keepCut_32 rfl ?_
    refine k_gI C dX12_keepCut_33 fd_X12_217 (by decide) hF (fun x2 hF => ?_)
    refine r_iconst (v := 1) C dX12_keepCut_36 (by decide) ?_
    refine r_iadd C dX12_keepCut_37 ?_
    refine k_pI C dX12_keepCut_38 fd_X12_217 (fun z => by cases z) (by decide) hF (fun h3 hF => ?_)
    exact k_vret C dX12_keepCut_41 hr (by decide) (by decide) hF
  have L2 : ∀ (fu : Nat) (v4 : Int32) (h5 : PM), F_X12_keepCut_L2 a0 a1 k31 fu v4 h5 = some X → WP p l e (rmN 0 0 0) s m args below meth c D cy base ρ h0 0 0 3 (MQ below (QR D cy base ρ h0 none X.2) args s 0 0 (fun q => base ≤ q)) 2 [(0, .ref a0), (1, .ref a1), (2, .int v4)] [] h5 := by
    intro fu
    induction fu with
    | zero => intro v4 h5 hF; rw [F_X12_keepCut_L2.eq_1] at hF; cases hF
    | succ fu ih =>
      intro v4 h5 hF
      rw [F_X12_keepCut_L2.eq_2] at hF
      refine r_iload_n C dX12_keepCut_2 rfl 2 rfl ?_
      refine r_bipush (v := 7) C dX12_keepCut_3 (by decide) ?_
      refine r_icmp_ge (tgt := 31) C dX12_keepCut_5 (by decide) hF (fun hF => ?_) (fun hF => ?_)
      · exact r_sub [0] rfl (Jk31  _ hF)
      · refine r_aload_n C dX12_keepCut_8 rfl 0 rfl ?_
        refine k_gR C dX12_keepCut_9 fd_X12_62 (by decide) hF (fun x6 hF => ?_)
        refine r_bipush (v := 8) C dX12_keepCut_12 (by decide) ?_
        refine r_aload_n C dX12_keepCut_14 rfl 0 rfl ?_
        refine k_gI C dX12_keepCut_15 fd_X12_217 (by decide) hF (fun x7 hF => ?_)
        refine r_imul C dX12_keepCut_18 ?_
        refine r_iload_n C dX12_keepCut_19 rfl 2 rfl ?_
        refine r_iadd C dX12_keepCut_20 ?_
        refine r_aload_n C dX12_keepCut_21 rfl 1 rfl ?_
        refine r_iload_n C dX12_keepCut_22 rfl 2 rfl ?_
        refine k_aI C dX12_keepCut_23 hF (fun x8 hF => ?_)
        refine k_sI C dX12_keepCut_24 hF (fun h9 hF => ?_)
        refine r_iinc (v := v4 + 1) C dX12_keepCut_25 2 rfl (congrArg (fun z => v4 + z) (by decide)) (by decide) rfl ?_
        refine r_goto (tgt := 2) C dX12_keepCut_28 (by decide) ?_
        exact r_sub [1, 2, 0] rfl (ih _ _ hF)
  exact r_sub [1, 2, 0] rfl (L2 _ _ _ hF)
def F_X12_findBest_L79 (c0 : Nat) (c1 : Int32) (c2 : Int32) (c3 : Int32) (c4 : Int32) (k106 : PM → Option (Unit × PM)) : Nat → Int32 → PM → Option (Unit × PM)
  | 0, _, _ => none
  | fu + 1, v49, h50 => if 7 ≤ v49 then (k106 h50) else (gR h50 c0 13 26 fun x51 => gR h50 c0 13 25 fun x52 => aI h50 x52 v49 fun x53 => sI h50 x51 v49 x53 fun h54 => F_X12_findBest_L79 c0 c1 c2 c3 c4 k106 fu (v49 + 1) h54)
def F_X12_findBest_L55 (c0 : Nat) (c1 : Int32) (c2 : Int32) (k193 : PM → Option (Unit × PM)) : Nat → Int32 → PM → Option (Unit × PM)
  | 0, _, _ => none
  | fu + 1, v18, h19 => if 5 ≤ v18 then (k193 h19) else (tst h19 c0 13 (cl (F_X12_setPart c0 c1 c2 0 (v18 - 1) h19) fun r20 h21 => tst h21 c0 13 (cl (F_X12_findCut c0 h21) fun r23 h24 => jn (fun  (h26 : PM) => tst h26 c0 13 (cl (F_X12_setPart c0 c1 c2 (v18 + 1) 5 h26) fun r27 h28 => tst h28 c0 13 (cl (F_X12_findCut c0 h28) fun r30 h31 => gI h31 c0 13 31 fun x33 => jn (fun  (h34 : PM) => F_X12_findBest_L55 c0 c1 c2 k193 fu (v18 + 1) h34) fun k187 => if x33 < (r23 + r30) then (pI h31 c0 13 31 (r23 + r30) fun h36 => pI h36 c0 13 28 c2 fun h37 => pI h37 c0 13 29 v18 fun h38 => pI h38 c0 13 30 0 fun h39 => jn (fun  (h40 : PM) => if r30 ≤ 0 then (k187 h40) else (gR h40 c0 13 25 fun x41 => tst h40 c0 13 (cl (F_X12_keepCut c0 x41 h40) fun r42 h43 => k187 h43))) fun k174 => if r23 ≤ 0 then (k174 h39) else (gR h39 c0 13 26 fun x45 => tst h39 c0 13 (cl (F_X12_keepCut c0 x45 h39) fun r46 h47 => k174 h47))) else (k187 h31)))) fun k106 => F_X12_findBest_L79 c0 c1 c2 v18 r23 k106 LF 0 h24)))
def F_X12_findBest_L48 (c0 : Nat) (c1 : Int32) (k199 : PM → Option (Unit × PM)) : Nat → Int32 → PM → Option (Unit × PM)
  | 0, _, _ => none
  | fu + 1, v14, h15 => if 3 ≤ v14 then (k199 h15) else (jn (fun  (h16 : PM) => F_X12_findBest_L48 c0 c1 k199 fu (v14 + 1) h16) fun k193 => F_X12_findBest_L55 c0 c1 v14 k193 LF 1 h15)
def F_X12_findBest (a0 : Nat) (a1 : Int32) (h0 : PM) : Option (Unit × PM) := tst h0 a0 13 (cl (F_X12_setPart a0 a1 (-1) 0 5 h0) fun r1 h2 => tst h2 a0 13 (cl (F_X12_findCut a0 h2) fun r4 h5 => pI h5 a0 13 31 r4 fun h7 => pI h7 a0 13 28 (-1) fun h8 => pI h8 a0 13 29 (-1) fun h9 => pI h9 a0 13 30 0 fun h10 => gI h10 a0 13 31 fun x11 => jn (fun  (h12 : PM) => jn (fun  (h13 : PM) => some ((), h13)) fun k199 => F_X12_findBest_L48 a0 a1 k199 LF 0 h12) fun k46 => if x11 ≤ 0 then (k46 h10) else (gR h10 a0 13 25 fun x62 => tst h10 a0 13 (cl (F_X12_keepCut a0 x62 h10) fun r63 h64 => k46 h64))))
set_option maxRecDepth 100000 in
set_option maxHeartbeats 4000000 in
theorem S_X12_findBest {a0 : Nat} {a1 : Int32} {h0 : PM} (r : Unit) (h' : PM) (hF : F_X12_findBest a0 a1 h0 = some (r, h')) : CN yX12_findBest cX12_findBest 6 none 0 0 4 [.ref a0, .int a1] h0 none h' := by
  obtain ⟨X, eX⟩ : ∃ X, X = (r, h') := ⟨_, rfl⟩
  rw [← eX] at hF
  have e1 : r = X.1 := by rw [eX]
  have e2 : h' = X.2 := by rw [eX]
  rw [e2]
  clear eX e1 e2
  unfold F_X12_findBest at hF
  refine CN_of (by decide) (fun ρ => Nat.le_of_ble_eq_true rfl) rfl ?_
  intro p l e s m args below meth c D cy base ρ hT C V hr hnm
  refine r_aload_n C dX12_findBest_0 rfl 0 rfl ?_
  refine r_iload_n C dX12_findBest_1 rfl 1 rfl ?_
  refine r_iconst (v := (-1)) C dX12_findBest_2 (by decide) ?_
  refine r_iconst (v := 0) C dX12_findBest_3 (by decide) ?_
  refine r_iconst (v := 5) C dX12_findBest_4 (by decide) ?_
  obtain ⟨ht, hF⟩ := tst_some hF
  obtain ⟨r1, h2, hc3, hF⟩ := cl_some hF
  refine r_callV (As := [.int a1, .int (-1), .int 0, .int 5]) C dX12_findBest_5 V hT cal_X12_setPart cls_13 ml_X12_210 im_X12_setPart se_X12_setPart ht (by decide) rfl rfl (Nat.le_of_ble_eq_true rfl) (by decide) (by decide) (S_X12_setPart _ _ hc3) ?_
  refine r_aload_n C dX12_findBest_8 rfl 0 rfl ?_
  refine r_aload_n C dX12_findBest_9 rfl 0 rfl ?_
  obtain ⟨ht, hF⟩ := tst_some hF
  obtain ⟨r4, h5, hc6, hF⟩ := cl_some hF
  refine r_callV (As := []) C dX12_findBest_10 V hT cal_X12_findCut cls_13 ml_X12_220 im_X12_findCut se_X12_findCut ht (by decide) rfl rfl (Nat.le_of_ble_eq_true rfl) (by decide) (by decide) (S_X12_findCut _ _ hc6) ?_
  refine k_pI C dX12_findBest_13 fd_X12_223 (fun z => by cases z) (by decide) hF (fun h7 hF => ?_)
  refine r_aload_n C dX12_findBest_16 rfl 0 rfl ?_
  refine r_iconst (v := (-1)) C dX12_findBest_17 (by decide) ?_
  refine k_pI C dX12_findBest_18 fd_X12_226 (fun z => by cases z) (by decide) hF (fun h8 hF => ?_)
  refine r_aload_n C dX12_findBest_21 rfl 0 rfl ?_
  refine r_iconst (v := (-1)) C dX12_findBest_22 (by decide) ?_
  refine k_pI C dX12_findBest_23 fd_X12_229 (fun z => by cases z) (by decide) hF (fun h9 hF => ?_)
  refine r_aload_n C dX12_findBest_26 rfl 0 rfl ?_
  refine r_iconst (v := 0) C dX12_findBest_27 (by decide) ?_
  refine k_pI C dX12_findBest_28 fd_X12_217 (fun z => by cases z) (by decide) hF (fun h10 hF => ?_)
  refine r_aload_n C dX12_findBest_31 rfl 0 rfl ?_
  refine k_gI C dX12_findBest_32 fd_X12_223 (by decide) hF (fun x11 hF => ?_)
  obtain ⟨k46, ek46, hF⟩ := jn_some hF
  have Jk46 : ∀  (h12 : PM), k46 h12 = some X → WP p l e (rmN 0 0 4) s m args below meth c D cy base ρ h0 0 0 6 (MQ below (QR D cy base ρ h0 none X.2) args s 0 0 (fun q => base ≤ q)) 46 [(0, .ref a0), (1, .int a1)] [] h12 := by
    intro h12 hF
    rw [ek46] at hF
    refine r_iconst (v := 0) C dX12_findBest_46 (by decide) ?_
    refine r_istore_n C dX12_findBest_47 rfl (by decide) rfl ?_
    obtain ⟨k199, ek199, hF⟩ := jn_some hF
    have Jk199 : ∀  (h13 : PM), k199 h13 = some X → WP p l e (rmN 0 0 4) s m args below meth c D cy base ρ h0 0 0 6 (MQ below (QR D cy base ρ h0 none X.2) args s 0 0 (fun q => base ≤ q)) 199 [] [] h13 := by
      intro h13 hF
      rw [ek199] at hF
      exact k_vret C dX12_findBest_199 hr (by decide) (by decide) hF
    have L48 : ∀ (fu : Nat) (v14 : Int32) (h15 : PM), F_X12_findBest_L48 a0 a1 k199 fu v14 h15 = some X → WP p l e (rmN 0 0 4) s m args below meth c D cy base ρ h0 0 0 6 (MQ below (QR D cy base ρ h0 none X.2) args s 0 0 (fun q => base ≤ q)) 48 [(0, .ref a0), (1, .int a1), (2, .int v14)] [] h15 := by
      intro fu
      induction fu with
      | zero => intro v14 h15 hF; rw [F_X12_findBest_L48.eq_1] at hF; cases hF
      | succ fu ih =>
        intro v14 h15 hF
        rw [F_X12_findBest_L48.eq_2] at hF
        refine r_iload_n C dX12_findBest_48 rfl 2 rfl ?_
        refine r_iconst (v := 3) C dX12_findBest_49 (by decide) ?_
        refine r_icmp_ge (tgt := 199) C dX12_findBest_50 (by decide) hF (fun hF => ?_) (fun hF => ?_)
        · exact r_sub [] rfl (Jk199  _ hF)
        · refine r_iconst (v := 1) C dX12_findBest_53 (by decide) ?_
          refine r_istore_n C dX12_findBest_54 rfl (by decide) rfl ?_
          obtain ⟨k193_16, ek193_16, hF⟩ := jn_some hF
          have Jk193_16 : ∀  (h17 : PM), k193_16 h17 = some X → WP p l e (rmN 0 0 4) s m args below meth c D cy base ρ h0 0 0 6 (MQ below (QR D cy base ρ h0 none X.2) args s 0 0 (fun q => base ≤ q)) 193 [(0, .ref a0), (1, .int a1), (2, .int v14)] [] h17 := by
            intro h17 hF
            rw [ek193_16] at hF
            refine r_iinc (v := v14 + 1) C dX12_findBest_193 2 rfl (congrArg (fun z => v14 + z) (by decide)) (by decide) rfl ?_
            refine r_goto (tgt := 48) C dX12_findBest_196 (by decide) ?_
            exact r_sub [1, 2, 0] rfl (ih _ _ hF)
          have L55_61 : ∀ (fu : Nat) (v19 : Int32) (h20 : PM), F_X12_findBest_L55 a0 a1 v14 k193_16 fu v19 h20 = some X → WP p l e (rmN 0 0 4) s m args below meth c D cy base ρ h0 0 0 6 (MQ below (QR D cy base ρ h0 none X.2) args s 0 0 (fun q => base ≤ q)) 55 [(0, .ref a0), (1, .int a1), (2, .int v14), (3, .int v19)] [] h20 := by
            intro fu
            induction fu with
            | zero => intro v19 h20 hF; rw [F_X12_findBest_L55.eq_1] at hF; cases hF
            | succ fu ih =>
              intro v19 h20 hF
              rw [F_X12_findBest_L55.eq_2] at hF
              refine r_iload_n C dX12_findBest_55 rfl 3 rfl ?_
              refine r_iconst (v := 5) C dX12_findBest_56 (by decide) ?_
              refine r_icmp_ge (tgt := 193) C dX12_findBest_57 (by decide) hF (fun hF => ?_) (fun hF => ?_)
              · exact r_sub [0, 1, 2] rfl (Jk193_16  _ hF)
              · refine r_aload_n C dX12_findBest_60 rfl 0 rfl ?_
                refine r_iload_n C dX12_findBest_61 rfl 1 rfl ?_
                refine r_iload_n C dX12_findBest_62 rfl 2 rfl ?_
                refine r_iconst (v := 0) C dX12_findBest_63 (by decide) ?_
                refine r_iload_n C dX12_findBest_64 rfl 3 rfl ?_
                refine r_iconst (v := 1) C dX12_findBest_65 (by decide) ?_
                refine r_isub C dX12_findBest_66 ?_
                obtain ⟨ht, hF⟩ := tst_some hF
                obtain ⟨r21, h22, hc23, hF⟩ := cl_some hF
                refine r_callV (As := [.int a1, .int v14, .int 0, .int (v19 - 1)]) C dX12_findBest_67 V hT cal_X12_setPart cls_13 ml_X12_210 im_X12_setPart se_X12_setPart ht (by decide) rfl rfl (Nat.le_of_ble_eq_true rfl) (by decide) (by decide) (S_X12_setPart _ _ hc23) ?_
                refine r_aload_n C dX12_findBest_70 rfl 0 rfl ?_
                obtain ⟨ht, hF⟩ := tst_some hF
                obtain ⟨r24, h25, hc26, hF⟩ := cl_some hF
                refine r_callV (As := []) C dX12_findBest_71 V hT cal_X12_findCut cls_13 ml_X12_220 im_X12_findCut se_X12_findCut ht (by decide) rfl rfl (Nat.le_of_ble_eq_true rfl) (by decide) (by decide) (S_X12_findCut _ _ hc26) ?_
                refine r_istore C dX12_findBest_74 (by decide) rfl ?_
                refine r_iconst (v := 0) C dX12_findBest_76 (by decide) ?_
                refine r_istore C dX12_findBest_77 (by decide) rfl ?_
                obtain ⟨k106_27, ek106_27, hF⟩ := jn_some hF
                have Jk106_27 : ∀  (h28 : PM), k106_27 h28 = some X → WP p l e (rmN 0 0 4) s m args below meth c D cy base ρ h0 0 0 6 (MQ below (QR D cy base ρ h0 none X.2) args s 0 0 (fun q => base ≤ q)) 106 [(0, .ref a0), (1, .int a1), (2, .int v14), (3, .int v19), (4, .int r24)] [] h28 := by
                  intro h28 hF
                  rw [ek106_27] at hF
                  refine r_aload_n C dX12_findBest_106 rfl 0 rfl ?_
                  refine r_iload_n C dX12_findBest_107 rfl 1 rfl ?_
                  refine r_iload_n C dX12_findBest_108 rfl 2 rfl ?_
                  refine r_iload_n C dX12_findBest_109 rfl 3 rfl ?_
                  refine r_iconst (v := 1) C dX12_findBest_110 (by decide) ?_
                  refine r_iadd C dX12_findBest_111 ?_
                  refine r_iconst (v := 5) C dX12_findBest_112 (by decide) ?_
                  obtain ⟨ht, hF⟩ := tst_some hF
                  obtain ⟨r29, h30, hc31, hF⟩ := cl_some hF
                  refine r_callV (As := [.int a1, .int v14, .int (v19 + 1), .int 5]) C dX12_findBest_113 V hT cal_X12_setPart cls_13 ml_X12_210 im_X12_setPart se_X12_setPart ht (by decide) rfl rfl (Nat.le_of_ble_eq_true rfl) (by decide) (by decide) (S_X12_setPart _ _ hc31) ?_
                  refine r_aload_n C dX12_findBest_116 rfl 0 rfl ?_
                  obtain ⟨ht, hF⟩ := tst_some hF
                  obtain ⟨r32, h33, hc34, hF⟩ := cl_some hF
                  refine r_callV (As := []) C dX12_findBest_117 V hT cal_X12_findCut cls_13 ml_X12_220 im_X12_findCut se_X12_findCut ht (by decide) rfl rfl (Nat.le_of_ble_eq_true rfl) (by decide) (by decide) (S_X12_findCut _ _ hc34) ?_
                  refine r_istore C dX12_findBest_120 (by decide) rfl ?_
                  refine r_iload C dX12_findBest_122 5 rfl ?_
                  refine r_iload C dX12_findBest_124 0 rfl ?_
                  refine r_iadd C dX12_findBest_126 ?_
                  refine r_aload_n C dX12_findBest_127 rfl 1 rfl ?_
                  refine k_gI C dX12_findBest_128 fd_X12_223 (by decide) hF (fun x35 hF => ?_)
                  obtain ⟨k187_36, ek187_36, hF⟩ := jn_some hF
                  have Jk187_36 : ∀  (h37 : PM), k187_36 h37 = some X → WP p l e (rmN 0 0 4) s m args below meth c D cy base ρ h0 0 0 6 (MQ below (QR D cy base ρ h0 none X.2) args s 0 0 (fun q => base ≤ q)) 187 [(0, .ref a0), (1, .int a1), (2, .int v14), (3, .int v19)] [] h37 := by
                    intro h37 hF
                    rw [ek187_36] at hF
                    refine r_iinc (v := v19 + 1) C dX12_findBest_187 3 rfl (congrArg (fun z => v19 + z) (by decide)) (by decide) rfl ?_
                    refine r_goto (tgt := 55) C dX12_findBest_190 (by decide) ?_
                    exact r_sub [1, 2, 3, 0] rfl (ih _ _ hF)
                  refine r_icmp_gt (tgt := 137) C dX12_findBest_131 (by decide) hF (fun hF => ?_) (fun hF => ?_)
                  · refine r_aload_n C dX12_findBest_137 rfl 1 rfl ?_
                    refine r_iload C dX12_findBest_138 5 rfl ?_
                    refine r_iload C dX12_findBest_140 0 rfl ?_
                    refine r_iadd C dX12_findBest_142 ?_
                    refine k_pI C dX12_findBest_143 fd_X12_223 (fun z => by cases z) (by decide) hF (fun h39 hF => ?_)
                    refine r_aload_n C dX12_findBest_146 rfl 1 rfl ?_
                    refine r_iload_n C dX12_findBest_147 rfl 3 rfl ?_
                    refine k_pI C dX12_findBest_148 fd_X12_226 (fun z => by cases z) (by decide) hF (fun h40 hF => ?_)
                    refine r_aload_n C dX12_findBest_151 rfl 1 rfl ?_
                    refine r_iload_n C dX12_findBest_152 rfl 4 rfl ?_
                    refine k_pI C dX12_findBest_153 fd_X12_229 (fun z => by cases z) (by decide) hF (fun h41 hF => ?_)
                    refine r_aload_n C dX12_findBest_156 rfl 1 rfl ?_
                    refine r_iconst (v := 0) C dX12_findBest_157 (by decide) ?_
                    refine k_pI C dX12_findBest_158 fd_X12_217 (fun z => by cases z) (by decide) hF (fun h42 hF => ?_)
                    refine r_iload C dX12_findBest_161 5 rfl ?_
                    obtain ⟨k174_43, ek174_43, hF⟩ := jn_some hF
                    have Jk174_43 : ∀  (h44 : PM), k174_43 h44 = some X → WP p l e (rmN 0 0 4) s m args below meth c D cy base ρ h0 0 0 6 (MQ below (QR D cy base ρ h0 none X.2) args s 0 0 (fun q => base ≤ q)) 174 [(0, .ref a0), (1, .int a1), (2, .int v14), (3, .int v19), (5, .int r32)] [] h44 := by
                      intro h44 hF
                      rw [ek174_43] at hF
                      refine r_iload C dX12_findBest_174 4 rfl ?_
                      refine r_if_le (tgt := 187) C dX12_findBest_176 (by decide) hF (fun hF => ?_) (fun hF => ?_)
                      · exact r_sub [0, 1, 2, 3] rfl (Jk187_36  _ hF)
                      · refine r_aload_n C dX12_findBest_179 rfl 0 rfl ?_
                        refine r_aload_n C dX12_findBest_180 rfl 0 rfl ?_
                        refine k_gR C dX12_findBest_181 fd_X12_56 (by decide) hF (fun x45 hF => ?_)
                        obtain ⟨ht, hF⟩ := tst_some hF
                        obtain ⟨r46, h47, hc48, hF⟩ := cl_some hF
                        refine r_callV (As := [.ref x45]) C dX12_findBest_184 V hT cal_X12_keepCut cls_13 ml_X12_232 im_X12_keepCut se_X12_keepCut ht (by decide) rfl rfl (Nat.le_of_ble_eq_true rfl) (by decide) (by decide) (S_X12_keepCut _ _ hc48) ?_
                        exact r_sub [0, 1, 2, 3] rfl (Jk187_36  _ hF)
                    refine r_if_le (tgt := 174) C dX12_findBest_163 (by decide) hF (fun hF => ?_) (fun hF => ?_)
                    · exact r_sub [1, 2, 3, 4, 0] rfl (Jk174_43  _ hF)
                    · refine r_aload_n C dX12_findBest_166 rfl 1 rfl ?_
                      refine r_aload_n C dX12_findBest_167 rfl 1 rfl ?_
                      refine k_gR C dX12_findBest_168 fd_X12_59 (by decide) hF (fun x49 hF => ?_)
                      obtain ⟨ht, hF⟩ := tst_some hF
                      obtain ⟨r50, h51, hc52, hF⟩ := cl_some hF
                      refine r_callV (As := [.ref x49]) C dX12_findBest_171 V hT cal_X12_keepCut cls_13 ml_X12_232 im_X12_keepCut se_X12_keepCut ht (by decide) rfl rfl (Nat.le_of_ble_eq_true rfl) (by decide) (by decide) (S_X12_keepCut _ _ hc52) ?_
                      exact r_sub [1, 2, 3, 4, 0] rfl (Jk174_43  _ hF)
                  · refine r_goto (tgt := 187) C dX12_findBest_134 (by decide) ?_
                    exact r_sub [1, 2, 3, 4] rfl (Jk187_36  _ hF)
                have L79_60 : ∀ (fu : Nat) (v53 : Int32) (h54 : PM), F_X12_findBest_L79 a0 a1 v14 v19 r24 k106_27 fu v53 h54 = some X → WP p l e (rmN 0 0 4) s m args below meth c D cy base ρ h0 0 0 6 (MQ below (QR D cy base ρ h0 none X.2) args s 0 0 (fun q => base ≤ q)) 79 [(0, .ref a0), (1, .int a1), (2, .int v14), (3, .int v19), (4, .int r24), (5, .int v53)] [] h54 := by
                  intro fu
                  induction fu with
                  | zero => intro v53 h54 hF; rw [F_X12_findBest_L79.eq_1] at hF; cases hF
                  | succ fu ih =>
                    intro v53 h54 hF
                    rw [F_X12_findBest_L79.eq_2] at hF
                    refine r_iload C dX12_findBest_79 5 rfl ?_
                    refine r_bipush (v := 7) C dX12_findBest_81 (by decide) ?_
                    refine r_icmp_ge (tgt := 106) C dX12_findBest_83 (by decide) hF (fun hF => ?_) (fun hF => ?_)
                    · exact r_sub [0, 1, 2, 3, 4] rfl (Jk106_27  _ hF)
                    · refine r_aload_n C dX12_findBest_86 rfl 0 rfl ?_
                      refine k_gR C dX12_findBest_87 fd_X12_59 (by decide) hF (fun x55 hF => ?_)
                      refine r_iload C dX12_findBest_90 5 rfl ?_
                      refine r_aload_n C dX12_findBest_92 rfl 0 rfl ?_
                      refine k_gR C dX12_findBest_93 fd_X12_56 (by decide) hF (fun x56 hF => ?_)
                      refine r_iload C dX12_findBest_96 5 rfl ?_
                      refine k_aI C dX12_findBest_98 hF (fun x57 hF => ?_)
                      refine k_sI C dX12_findBest_99 hF (fun h58 hF => ?_)
                      refine r_iinc (v := v53 + 1) C dX12_findBest_100 5 rfl (congrArg (fun z => v53 + z) (by decide)) (by decide) rfl ?_
                      refine r_goto (tgt := 79) C dX12_findBest_103 (by decide) ?_
                      exact r_sub [1, 2, 3, 4, 5, 0] rfl (ih _ _ hF)
                exact r_sub [2, 3, 4, 5, 1, 0] rfl (L79_60 _ _ _ hF)
          exact r_sub [1, 2, 3, 0] rfl (L55_61 _ _ _ hF)
    exact r_sub [1, 2, 0] rfl (L48 _ _ _ hF)
  refine r_if_le (tgt := 46) C dX12_findBest_35 (by decide) hF (fun hF => ?_) (fun hF => ?_)
  · exact Jk46  _ hF
  · refine r_aload_n C dX12_findBest_38 rfl 0 rfl ?_
    refine r_aload_n C dX12_findBest_39 rfl 0 rfl ?_
    refine k_gR C dX12_findBest_40 fd_X12_56 (by decide) hF (fun x62 hF => ?_)
    obtain ⟨ht, hF⟩ := tst_some hF
    obtain ⟨r63, h64, hc65, hF⟩ := cl_some hF
    refine r_callV (As := [.ref x62]) C dX12_findBest_43 V hT cal_X12_keepCut cls_13 ml_X12_232 im_X12_keepCut se_X12_keepCut ht (by decide) rfl rfl (Nat.le_of_ble_eq_true rfl) (by decide) (by decide) (S_X12_keepCut _ _ hc65) ?_
    exact Jk46  _ hF
def F_X12_best (a0 : Nat) (a1 : Int32) (h0 : PM) : Option (Int32 × PM) := pI h0 a0 13 0 0 fun h1 => tst h1 a0 13 (cl (F_X12_isRough a0 a1 h1) fun r2 h3 => if ¬ r2 = 0 then (tst h3 a0 13 (cl (F_X12_findBest a0 a1 h3) fun r5 h6 => gI h6 a0 13 31 fun x8 => some (x8, h6))) else (some (0, h3)))
set_option maxRecDepth 100000 in
set_option maxHeartbeats 4000000 in
theorem S_X12_best {a0 : Nat} {a1 : Int32} {h0 : PM} (r : Int32) (h' : PM) (hF : F_X12_best a0 a1 h0 = some (r, h')) : CN yX12_best cX12_best 2 (some .int) 0 0 5 [.ref a0, .int a1] h0 (some (.int r)) h' := by
  obtain ⟨X, eX⟩ : ∃ X, X = (r, h') := ⟨_, rfl⟩
  rw [← eX] at hF
  have e1 : r = X.1 := by rw [eX]
  have e2 : h' = X.2 := by rw [eX]
  rw [e1, e2]
  clear eX e1 e2
  unfold F_X12_best at hF
  refine CN_of (by decide) (fun ρ => Nat.le_of_ble_eq_true rfl) rfl ?_
  intro p l e s m args below meth c D cy base ρ hT C V hr hnm
  refine r_aload_n C dX12_best_0 rfl 0 rfl ?_
  refine r_iconst (v := 0) C dX12_best_1 (by decide) ?_
  refine k_pI C dX12_best_2 fd_X12_1 (fun z => by cases z) (by decide) hF (fun h1 hF => ?_)
  refine r_aload_n C dX12_best_5 rfl 0 rfl ?_
  refine r_iload_n C dX12_best_6 rfl 1 rfl ?_
  obtain ⟨ht, hF⟩ := tst_some hF
  obtain ⟨r2, h3, hc4, hF⟩ := cl_some hF
  refine r_callV (As := [.int a1]) C dX12_best_7 V hT cal_X12_isRough cls_13 ml_X12_137 im_X12_isRough se_X12_isRough ht (by decide) rfl rfl (Nat.le_of_ble_eq_true rfl) (by decide) (by decide) (S_X12_isRough _ _ hc4) ?_
  refine r_if_ne (tgt := 15) C dX12_best_10 (by decide) hF (fun hF => ?_) (fun hF => ?_)
  · refine r_aload_n C dX12_best_15 rfl 0 rfl ?_
    refine r_iload_n C dX12_best_16 rfl 1 rfl ?_
    obtain ⟨ht, hF⟩ := tst_some hF
    obtain ⟨r5, h6, hc7, hF⟩ := cl_some hF
    refine r_callV (As := [.int a1]) C dX12_best_17 V hT cal_X12_findBest cls_13 ml_X12_236 im_X12_findBest se_X12_findBest ht (by decide) rfl rfl (Nat.le_of_ble_eq_true rfl) (by decide) (by decide) (S_X12_findBest _ _ hc7) ?_
    refine r_aload_n C dX12_best_20 rfl 0 rfl ?_
    refine k_gI C dX12_best_21 fd_X12_223 (by decide) hF (fun x8 hF => ?_)
    exact k_iret C dX12_best_24 hr (by decide) (by decide) hF
  · refine r_iconst (v := 0) C dX12_best_13 (by decide) ?_
    exact k_iret C dX12_best_14 hr (by decide) (by decide) hF
def F_X12_sawn (a0 : Nat) (a1 : Int32) (a2 : Int32) (h0 : PM) : Option (Int32 × PM) := pI h0 a0 13 0 0 fun h1 => tst h1 a0 13 (cl (F_X12_isRough a0 a1 h1) fun r2 h3 => jn (fun  (h5 : PM) => some (0, h5)) fun k27 => if r2 = 0 then (k27 h3) else (cl (F_X12_within a2 0 2 h3) fun r6 h7 => tst h7 a0 13 (cl (F_X12_may a0 r6 2 h7) fun r9 h10 => if ¬ r9 = 0 then (tst h10 a0 13 (cl (F_X12_findBest a0 a1 h10) fun r12 h13 => jn (fun (s15 : Int32) (h16 : PM) => some (s15, h16)) fun k61 => if ¬ a2 = 0 then (if ¬ a2 = 1 then (gI h13 a0 13 30 fun x17 => k61 x17 h13) else (gI h13 a0 13 29 fun x18 => k61 x18 h13)) else (gI h13 a0 13 28 fun x19 => k61 x19 h13))) else (k27 h10))))
set_option maxRecDepth 100000 in
set_option maxHeartbeats 4000000 in
theorem S_X12_sawn {a0 : Nat} {a1 : Int32} {a2 : Int32} {h0 : PM} (r : Int32) (h' : PM) (hF : F_X12_sawn a0 a1 a2 h0 = some (r, h')) : CN yX12_sawn cX12_sawn 3 (some .int) 0 0 5 [.ref a0, .int a1, .int a2] h0 (some (.int r)) h' := by
  obtain ⟨X, eX⟩ : ∃ X, X = (r, h') := ⟨_, rfl⟩
  rw [← eX] at hF
  have e1 : r = X.1 := by rw [eX]
  have e2 : h' = X.2 := by rw [eX]
  rw [e1, e2]
  clear eX e1 e2
  unfold F_X12_sawn at hF
  refine CN_of (by decide) (fun ρ => Nat.le_of_ble_eq_true rfl) rfl ?_
  intro p l e s m args below meth c D cy base ρ hT C V hr hnm
  refine r_aload_n C dX12_sawn_0 rfl 0 rfl ?_
  refine r_iconst (v := 0) C dX12_sawn_1 (by decide) ?_
  refine k_pI C dX12_sawn_2 fd_X12_1 (fun z => by cases z) (by decide) hF (fun h1 hF => ?_)
  refine r_aload_n C dX12_sawn_5 rfl 0 rfl ?_
  refine r_iload_n C dX12_sawn_6 rfl 1 rfl ?_
  obtain ⟨ht, hF⟩ := tst_some hF
  obtain ⟨r2, h3, hc4, hF⟩ := cl_some hF
  refine r_callV (As := [.int a1]) C dX12_sawn_7 V hT cal_X12_isRough cls_13 ml_X12_137 im_X12_isRough se_X12_isRough ht (by decide) rfl rfl (Nat.le_of_ble_eq_true rfl) (by decide) (by decide) (S_X12_isRough _ _ hc4) ?_
  obtain ⟨k27, ek27, hF⟩ := jn_some hF
  have Jk27 : ∀  (h5 : PM), k27 h5 = some X → WP p l e (rmN 0 0 5) s m args below meth c D cy base ρ h0 0 0 3 (MQ below (QR D cy base ρ h0 (some (.int X.1)) X.2) args s 0 0 (fun q => base ≤ q)) 27 [] [] h5 := by
    intro h5 hF
    rw [ek27] at hF
    refine r_iconst (v := 0) C dX12_sawn_27 (by decide) ?_
    exact k_iret C dX12_sawn_28 hr (by decide) (by decide) hF
  refine r_if_eq (tgt := 27) C dX12_sawn_10 (by decide) hF (fun hF => ?_) (fun hF => ?_)
  · exact r_sub [] rfl (Jk27  _ hF)
  · refine r_aload_n C dX12_sawn_13 rfl 0 rfl ?_
    refine r_iload_n C dX12_sawn_14 rfl 2 rfl ?_
    refine r_iconst (v := 0) C dX12_sawn_15 (by decide) ?_
    refine r_iconst (v := 2) C dX12_sawn_16 (by decide) ?_
    obtain ⟨r6, h7, hc8, hF⟩ := cl_some hF
    refine r_callS (As := [.int a2, .int 0, .int 2]) C dX12_sawn_17 V hT cal_X12_within ml_X12_129 sm_X12_within (by decide) rfl rfl (Nat.le_of_ble_eq_true rfl) (by decide) (by decide) (S_X12_within _ _ hc8) ?_
    refine r_iconst (v := 2) C dX12_sawn_20 (by decide) ?_
    obtain ⟨ht, hF⟩ := tst_some hF
    obtain ⟨r9, h10, hc11, hF⟩ := cl_some hF
    refine r_callV (As := [.int r6, .int 2]) C dX12_sawn_21 V hT cal_X12_may cls_13 ml_X12_133 im_X12_may se_X12_may ht (by decide) rfl rfl (Nat.le_of_ble_eq_true rfl) (by decide) (by decide) (S_X12_may _ _ hc11) ?_
    refine r_if_ne (tgt := 29) C dX12_sawn_24 (by decide) hF (fun hF => ?_) (fun hF => ?_)
    · refine r_aload_n C dX12_sawn_29 rfl 0 rfl ?_
      refine r_iload_n C dX12_sawn_30 rfl 1 rfl ?_
      obtain ⟨ht, hF⟩ := tst_some hF
      obtain ⟨r12, h13, hc14, hF⟩ := cl_some hF
      refine r_callV (As := [.int a1]) C dX12_sawn_31 V hT cal_X12_findBest cls_13 ml_X12_236 im_X12_findBest se_X12_findBest ht (by decide) rfl rfl (Nat.le_of_ble_eq_true rfl) (by decide) (by decide) (S_X12_findBest _ _ hc14) ?_
      refine r_iload_n C dX12_sawn_34 rfl 2 rfl ?_
      obtain ⟨k61, ek61, hF⟩ := jn_some hF
      have Jk61 : ∀ (s15 : Int32) (h16 : PM), k61 s15 h16 = some X → WP p l e (rmN 0 0 5) s m args below meth c D cy base ρ h0 0 0 3 (MQ below (QR D cy base ρ h0 (some (.int X.1)) X.2) args s 0 0 (fun q => base ≤ q)) 61 [] [.int s15] h16 := by
        intro s15 h16 hF
        rw [ek61] at hF
        exact k_iret C dX12_sawn_61 hr (by decide) (by decide) hF
      refine r_if_ne (tgt := 45) C dX12_sawn_35 (by decide) hF (fun hF => ?_) (fun hF => ?_)
      · refine r_iload_n C dX12_sawn_45 rfl 2 rfl ?_
        refine r_iconst (v := 1) C dX12_sawn_46 (by decide) ?_
        refine r_icmp_ne (tgt := 57) C dX12_sawn_47 (by decide) hF (fun hF => ?_) (fun hF => ?_)
        · refine r_aload_n C dX12_sawn_57 rfl 0 rfl ?_
          refine k_gI C dX12_sawn_58 fd_X12_217 (by decide) hF (fun x17 hF => ?_)
          exact r_sub [] rfl (Jk61 _ _ hF)
        · refine r_aload_n C dX12_sawn_50 rfl 0 rfl ?_
          refine k_gI C dX12_sawn_51 fd_X12_229 (by decide) hF (fun x18 hF => ?_)
          refine r_goto (tgt := 61) C dX12_sawn_54 (by decide) ?_
          exact r_sub [] rfl (Jk61 _ _ hF)
      · refine r_aload_n C dX12_sawn_38 rfl 0 rfl ?_
        refine k_gI C dX12_sawn_39 fd_X12_226 (by decide) hF (fun x19 hF => ?_)
        refine r_goto (tgt := 61) C dX12_sawn_42 (by decide) ?_
        exact r_sub [] rfl (Jk61 _ _ hF)
    · exact r_sub [] rfl (Jk27  _ hF)
def F_X12_cut (a0 : Nat) (a1 : Int32) (a2 : Int32) (a3 : Int32) (h0 : PM) : Option (Int32 × PM) := pI h0 a0 13 0 0 fun h1 => tst h1 a0 13 (cl (F_X12_isRough a0 a1 h1) fun r2 h3 => jn (fun  (h5 : PM) => some (0, h5)) fun k28 => if r2 = 0 then (k28 h3) else (cl (F_X12_within a3 0 6 h3) fun r6 h7 => tst h7 a0 13 (cl (F_X12_may a0 r6 2 h7) fun r9 h10 => if ¬ r9 = 0 then (tst h10 a0 13 (cl (F_X12_findBest a0 a1 h10) fun r12 h13 => gI h13 a0 13 30 fun x15 => cl (F_X12_within a2 0 (x15 - 1) h13) fun r16 h17 => if ¬ r16 = 0 then (gR h17 a0 13 27 fun x19 => aI h17 x19 ((8 * a2) + a3) fun x20 => some (x20, h17)) else (cl (F_X12_within a3 3 5 h17) fun r21 h22 => jn (fun (s24 : Int32) (h25 : PM) => some (s24, h25)) fun k65 => if r21 = 0 then (k65 (-1) h22) else (k65 (-1000) h22)))) else (k28 h10))))
set_option maxRecDepth 100000 in
set_option maxHeartbeats 4000000 in
theorem S_X12_cut {a0 : Nat} {a1 : Int32} {a2 : Int32} {a3 : Int32} {h0 : PM} (r : Int32) (h' : PM) (hF : F_X12_cut a0 a1 a2 a3 h0 = some (r, h')) : CN yX12_cut cX12_cut 4 (some .int) 0 0 5 [.ref a0, .int a1, .int a2, .int a3] h0 (some (.int r)) h' := by
  obtain ⟨X, eX⟩ : ∃ X, X = (r, h') := ⟨_, rfl⟩
  rw [← eX] at hF
  have e1 : r = X.1 := by rw [eX]
  have e2 : h' = X.2 := by rw [eX]
  rw [e1, e2]
  clear eX e1 e2
  unfold F_X12_cut at hF
  refine CN_of (by decide) (fun ρ => Nat.le_of_ble_eq_true rfl) rfl ?_
  intro p l e s m args below meth c D cy base ρ hT C V hr hnm
  refine r_aload_n C dX12_cut_0 rfl 0 rfl ?_
  refine r_iconst (v := 0) C dX12_cut_1 (by decide) ?_
  refine k_pI C dX12_cut_2 fd_X12_1 (fun z => by cases z) (by decide) hF (fun h1 hF => ?_)
  refine r_aload_n C dX12_cut_5 rfl 0 rfl ?_
  refine r_iload_n C dX12_cut_6 rfl 1 rfl ?_
  obtain ⟨ht, hF⟩ := tst_some hF
  obtain ⟨r2, h3, hc4, hF⟩ := cl_some hF
  refine r_callV (As := [.int a1]) C dX12_cut_7 V hT cal_X12_isRough cls_13 ml_X12_137 im_X12_isRough se_X12_isRough ht (by decide) rfl rfl (Nat.le_of_ble_eq_true rfl) (by decide) (by decide) (S_X12_isRough _ _ hc4) ?_
  obtain ⟨k28, ek28, hF⟩ := jn_some hF
  have Jk28 : ∀  (h5 : PM), k28 h5 = some X → WP p l e (rmN 0 0 5) s m args below meth c D cy base ρ h0 0 0 4 (MQ below (QR D cy base ρ h0 (some (.int X.1)) X.2) args s 0 0 (fun q => base ≤ q)) 28 [] [] h5 := by
    intro h5 hF
    rw [ek28] at hF
    refine r_iconst (v := 0) C dX12_cut_28 (by decide) ?_
    exact k_iret C dX12_cut_29 hr (by decide) (by decide) hF
  refine r_if_eq (tgt := 28) C dX12_cut_10 (by decide) hF (fun hF => ?_) (fun hF => ?_)
  · exact r_sub [] rfl (Jk28  _ hF)
  · refine r_aload_n C dX12_cut_13 rfl 0 rfl ?_
    refine r_iload_n C dX12_cut_14 rfl 3 rfl ?_
    refine r_iconst (v := 0) C dX12_cut_15 (by decide) ?_
    refine r_bipush (v := 6) C dX12_cut_16 (by decide) ?_
    obtain ⟨r6, h7, hc8, hF⟩ := cl_some hF
    refine r_callS (As := [.int a3, .int 0, .int 6]) C dX12_cut_18 V hT cal_X12_within ml_X12_129 sm_X12_within (by decide) rfl rfl (Nat.le_of_ble_eq_true rfl) (by decide) (by decide) (S_X12_within _ _ hc8) ?_
    refine r_iconst (v := 2) C dX12_cut_21 (by decide) ?_
    obtain ⟨ht, hF⟩ := tst_some hF
    obtain ⟨r9, h10, hc11, hF⟩ := cl_some hF
    refine r_callV (As := [.int r6, .int 2]) C dX12_cut_22 V hT cal_X12_may cls_13 ml_X12_133 im_X12_may se_X12_may ht (by decide) rfl rfl (Nat.le_of_ble_eq_true rfl) (by decide) (by decide) (S_X12_may _ _ hc11) ?_
    refine r_if_ne (tgt := 30) C dX12_cut_25 (by decide) hF (fun hF => ?_) (fun hF => ?_)
    · refine r_aload_n C dX12_cut_30 rfl 0 rfl ?_
      refine r_iload_n C dX12_cut_31 rfl 1 rfl ?_
      obtain ⟨ht, hF⟩ := tst_some hF
      obtain ⟨r12, h13, hc14, hF⟩ := cl_some hF
      refine r_callV (As := [.int a1]) C dX12_cut_32 V hT cal_X12_findBest cls_13 ml_X12_236 im_X12_findBest se_X12_findBest ht (by decide) rfl rfl (Nat.le_of_ble_eq_true rfl) (by decide) (by decide) (S_X12_findBest _ _ hc14) ?_
      refine r_iload_n C dX12_cut_35 rfl 2 rfl ?_
      refine r_iconst (v := 0) C dX12_cut_36 (by decide) ?_
      refine r_aload_n C dX12_cut_37 rfl 0 rfl ?_
      refine k_gI C dX12_cut_38 fd_X12_217 (by decide) hF (fun x15 hF => ?_)
      refine r_iconst (v := 1) C dX12_cut_41 (by decide) ?_
      refine r_isub C dX12_cut_42 ?_
      obtain ⟨r16, h17, hc18, hF⟩ := cl_some hF
      refine r_callS (As := [.int a2, .int 0, .int (x15 - 1)]) C dX12_cut_43 V hT cal_X12_within ml_X12_129 sm_X12_within (by decide) rfl rfl (Nat.le_of_ble_eq_true rfl) (by decide) (by decide) (S_X12_within _ _ hc18) ?_
      refine r_if_ne (tgt := 66) C dX12_cut_46 (by decide) hF (fun hF => ?_) (fun hF => ?_)
      · refine r_aload_n C dX12_cut_66 rfl 0 rfl ?_
        refine k_gR C dX12_cut_67 fd_X12_62 (by decide) hF (fun x19 hF => ?_)
        refine r_bipush (v := 8) C dX12_cut_70 (by decide) ?_
        refine r_iload_n C dX12_cut_72 rfl 2 rfl ?_
        refine r_imul C dX12_cut_73 ?_
        refine r_iload_n C dX12_cut_74 rfl 3 rfl ?_
        refine r_iadd C dX12_cut_75 ?_
        refine k_aI C dX12_cut_76 hF (fun x20 hF => ?_)
        exact k_iret C dX12_cut_77 hr (by decide) (by decide) hF
      · refine r_iload_n C dX12_cut_49 rfl 3 rfl ?_
        refine r_iconst (v := 3) C dX12_cut_50 (by decide) ?_
        refine r_iconst (v := 5) C dX12_cut_51 (by decide) ?_
        obtain ⟨r21, h22, hc23, hF⟩ := cl_some hF
        refine r_callS (As := [.int a3, .int 3, .int 5]) C dX12_cut_52 V hT cal_X12_within ml_X12_129 sm_X12_within (by decide) rfl rfl (Nat.le_of_ble_eq_true rfl) (by decide) (by decide) (S_X12_within _ _ hc23) ?_
        obtain ⟨k65, ek65, hF⟩ := jn_some hF
        have Jk65 : ∀ (s24 : Int32) (h25 : PM), k65 s24 h25 = some X → WP p l e (rmN 0 0 5) s m args below meth c D cy base ρ h0 0 0 4 (MQ below (QR D cy base ρ h0 (some (.int X.1)) X.2) args s 0 0 (fun q => base ≤ q)) 65 [] [.int s24] h25 := by
          intro s24 h25 hF
          rw [ek65] at hF
          exact k_iret C dX12_cut_65 hr (by decide) (by decide) hF
        refine r_if_eq (tgt := 64) C dX12_cut_55 (by decide) hF (fun hF => ?_) (fun hF => ?_)
        · refine r_iconst (v := (-1)) C dX12_cut_64 (by decide) ?_
          exact r_sub [] rfl (Jk65 _ _ hF)
        · refine r_sipush (v := (-1000)) C dX12_cut_58 (by decide) ?_
          refine r_goto (tgt := 65) C dX12_cut_61 (by decide) ?_
          exact r_sub [] rfl (Jk65 _ _ hF)
    · exact r_sub [] rfl (Jk28  _ hF)
def F_X12_done_L167 (c0 : Nat) (c1 : Int32) (k193 : PM → Option (Int32 × PM)) : Nat → Int32 → PM → Option (Int32 × PM)
  | 0, _, _ => none
  | fu + 1, v13, h14 => if 216 ≤ v13 then (k193 h14) else (gR h14 c0 13 2 fun x15 => sI h14 x15 ((216 * c1) + v13) 0 fun h16 => F_X12_done_L167 c0 c1 k193 fu (v13 + 1) h16)
def F_X12_done_L38 (c0 : Nat) (c1 : Int32) (k165 : PM → Option (Int32 × PM)) : Nat → Int32 → PM → Option (Int32 × PM)
  | 0, _, _ => none
  | fu + 1, v18, h19 => gI h19 c0 13 30 fun x20 => if x20 ≤ v18 then (k165 h19) else (gR h19 c0 13 33 fun x21 => gI h19 c0 13 32 fun x22 => gR h19 c0 13 27 fun x23 => aI h19 x23 ((8 * v18) + 6) fun x24 => sI h19 x21 x22 (1000 * x24) fun h25 => gR h25 c0 13 34 fun x26 => gI h25 c0 13 32 fun x27 => sI h25 x26 x27 c1 fun h28 => gR h28 c0 13 35 fun x29 => gI h28 c0 13 32 fun x30 => gR h28 c0 13 27 fun x31 => aI h28 x31 (8 * v18) fun x32 => sI h28 x29 x30 x32 fun h33 => gR h33 c0 13 36 fun x34 => gI h33 c0 13 32 fun x35 => sI h33 x34 x35 0 fun h36 => gR h36 c0 13 39 fun x37 => gI h36 c0 13 32 fun x38 => sI h36 x37 x38 (-1) fun h39 => gR h39 c0 13 40 fun x40 => gI h39 c0 13 32 fun x41 => sI h39 x40 x41 (-1) fun h42 => gR h42 c0 13 41 fun x43 => gI h42 c0 13 32 fun x44 => sI h42 x43 x44 (-1) fun h45 => gR h45 c0 13 42 fun x46 => gI h45 c0 13 32 fun x47 => sZ h45 x46 x47 0 fun h48 => gI h48 c0 13 32 fun x49 => pI h48 c0 13 32 (x49 + 1) fun h50 => F_X12_done_L38 c0 c1 k165 fu (v18 + 1) h50)
def F_X12_done (a0 : Nat) (a1 : Int32) (h0 : PM) : Option (Int32 × PM) := pI h0 a0 13 0 0 fun h1 => tst h1 a0 13 (cl (F_X12_isRough a0 a1 h1) fun r2 h3 => if ¬ r2 = 0 then (tst h3 a0 13 (cl (F_X12_findBest a0 a1 h3) fun r5 h6 => gI h6 a0 13 32 fun x8 => gI h6 a0 13 30 fun x9 => if (x8 + x9) ≤ 40 then (jn (fun  (h10 : PM) => jn (fun  (h11 : PM) => gI h11 a0 13 30 fun x12 => some (x12, h11)) fun k193 => F_X12_done_L167 a0 a1 k193 LF 0 h10) fun k165 => F_X12_done_L38 a0 a1 k165 LF 0 h6) else (some ((-1), h6)))) else (some (0, h3)))
set_option maxRecDepth 100000 in
set_option maxHeartbeats 4000000 in
theorem S_X12_done {a0 : Nat} {a1 : Int32} {h0 : PM} (r : Int32) (h' : PM) (hF : F_X12_done a0 a1 h0 = some (r, h')) : CN yX12_done cX12_done 3 (some .int) 0 0 5 [.ref a0, .int a1] h0 (some (.int r)) h' := by
  obtain ⟨X, eX⟩ : ∃ X, X = (r, h') := ⟨_, rfl⟩
  rw [← eX] at hF
  have e1 : r = X.1 := by rw [eX]
  have e2 : h' = X.2 := by rw [eX]
  rw [e1, e2]
  clear eX e1 e2
  unfold F_X12_done at hF
  refine CN_of (by decide) (fun ρ => Nat.le_of_ble_eq_true rfl) rfl ?_
  intro p l e s m args below meth c D cy base ρ hT C V hr hnm
  refine r_aload_n C dX12_done_0 rfl 0 rfl ?_
  refine r_iconst (v := 0) C dX12_done_1 (by decide) ?_
  refine k_pI C dX12_done_2 fd_X12_1 (fun z => by cases z) (by decide) hF (fun h1 hF => ?_)
  refine r_aload_n C dX12_done_5 rfl 0 rfl ?_
  refine r_iload_n C dX12_done_6 rfl 1 rfl ?_
  obtain ⟨ht, hF⟩ := tst_some hF
  obtain ⟨r2, h3, hc4, hF⟩ := cl_some hF
  refine r_callV (As := [.int a1]) C dX12_done_7 V hT cal_X12_isRough cls_13 ml_X12_137 im_X12_isRough se_X12_isRough ht (by decide) rfl rfl (Nat.le_of_ble_eq_true rfl) (by decide) (by decide) (S_X12_isRough _ _ hc4) ?_
  refine r_if_ne (tgt := 15) C dX12_done_10 (by decide) hF (fun hF => ?_) (fun hF => ?_)
  · refine r_aload_n C dX12_done_15 rfl 0 rfl ?_
    refine r_iload_n C dX12_done_16 rfl 1 rfl ?_
    obtain ⟨ht, hF⟩ := tst_some hF
    obtain ⟨r5, h6, hc7, hF⟩ := cl_some hF
    refine r_callV (As := [.int a1]) C dX12_done_17 V hT cal_X12_findBest cls_13 ml_X12_236 im_X12_findBest se_X12_findBest ht (by decide) rfl rfl (Nat.le_of_ble_eq_true rfl) (by decide) (by decide) (S_X12_findBest _ _ hc7) ?_
    refine r_aload_n C dX12_done_20 rfl 0 rfl ?_
    refine k_gI C dX12_done_21 fd_X12_239 (by decide) hF (fun x8 hF => ?_)
    refine r_aload_n C dX12_done_24 rfl 0 rfl ?_
    refine k_gI C dX12_done_25 fd_X12_217 (by decide) hF (fun x9 hF => ?_)
    refine r_iadd C dX12_done_28 ?_
    refine r_bipush (v := 40) C dX12_done_29 (by decide) ?_
    refine r_icmp_le (tgt := 36) C dX12_done_31 (by decide) hF (fun hF => ?_) (fun hF => ?_)
    · refine r_iconst (v := 0) C dX12_done_36 (by decide) ?_
      refine r_istore_n C dX12_done_37 rfl (by decide) rfl ?_
      obtain ⟨k165, ek165, hF⟩ := jn_some hF
      have Jk165 : ∀  (h10 : PM), k165 h10 = some X → WP p l e (rmN 0 0 5) s m args below meth c D cy base ρ h0 0 0 3 (MQ below (QR D cy base ρ h0 (some (.int X.1)) X.2) args s 0 0 (fun q => base ≤ q)) 165 [(0, .ref a0), (1, .int a1)] [] h10 := by
        intro h10 hF
        rw [ek165] at hF
        refine r_iconst (v := 0) C dX12_done_165 (by decide) ?_
        refine r_istore_n C dX12_done_166 rfl (by decide) rfl ?_
        obtain ⟨k193, ek193, hF⟩ := jn_some hF
        have Jk193 : ∀  (h11 : PM), k193 h11 = some X → WP p l e (rmN 0 0 5) s m args below meth c D cy base ρ h0 0 0 3 (MQ below (QR D cy base ρ h0 (some (.int X.1)) X.2) args s 0 0 (fun q => base ≤ q)) 193 [(0, .ref a0)] [] h11 := by
          intro h11 hF
          rw [ek193] at hF
          refine r_aload_n C dX12_done_193 rfl 0 rfl ?_
          refine k_gI C dX12_done_194 fd_X12_217 (by decide) hF (fun x12 hF => ?_)
          exact k_iret C dX12_done_197 hr (by decide) (by decide) hF
        have L167 : ∀ (fu : Nat) (v13 : Int32) (h14 : PM), F_X12_done_L167 a0 a1 k193 fu v13 h14 = some X → WP p l e (rmN 0 0 5) s m args below meth c D cy base ρ h0 0 0 3 (MQ below (QR D cy base ρ h0 (some (.int X.1)) X.2) args s 0 0 (fun q => base ≤ q)) 167 [(0, .ref a0), (1, .int a1), (2, .int v13)] [] h14 := by
          intro fu
          induction fu with
          | zero => intro v13 h14 hF; rw [F_X12_done_L167.eq_1] at hF; cases hF
          | succ fu ih =>
            intro v13 h14 hF
            rw [F_X12_done_L167.eq_2] at hF
            refine r_iload_n C dX12_done_167 rfl 2 rfl ?_
            refine r_sipush (v := 216) C dX12_done_168 (by decide) ?_
            refine r_icmp_ge (tgt := 193) C dX12_done_171 (by decide) hF (fun hF => ?_) (fun hF => ?_)
            · exact r_sub [0] rfl (Jk193  _ hF)
            · refine r_aload_n C dX12_done_174 rfl 0 rfl ?_
              refine k_gR C dX12_done_175 fd_X12_13 (by decide) hF (fun x15 hF => ?_)
              refine r_sipush (v := 216) C dX12_done_178 (by decide) ?_
              refine r_iload_n C dX12_done_181 rfl 1 rfl ?_
              refine r_imul C dX12_done_182 ?_
              refine r_iload_n C dX12_done_183 rfl 2 rfl ?_
              refine r_iadd C dX12_done_184 ?_
              refine r_iconst (v := 0) C dX12_done_185 (by decide) ?_
              refine k_sI C dX12_done_186 hF (fun h16 hF => ?_)
              refine r_iinc (v := v13 + 1) C dX12_done_187 2 rfl (congrArg (fun z => v13 + z) (by decide)) (by decide) rfl ?_
              refine r_goto (tgt := 167) C dX12_done_190 (by decide) ?_
              exact r_sub [1, 2, 0] rfl (ih _ _ hF)
        exact r_sub [1, 2, 0] rfl (L167 _ _ _ hF)
      have L38 : ∀ (fu : Nat) (v18 : Int32) (h19 : PM), F_X12_done_L38 a0 a1 k165 fu v18 h19 = some X → WP p l e (rmN 0 0 5) s m args below meth c D cy base ρ h0 0 0 3 (MQ below (QR D cy base ρ h0 (some (.int X.1)) X.2) args s 0 0 (fun q => base ≤ q)) 38 [(0, .ref a0), (1, .int a1), (2, .int v18)] [] h19 := by
        intro fu
        induction fu with
        | zero => intro v18 h19 hF; rw [F_X12_done_L38.eq_1] at hF; cases hF
        | succ fu ih =>
          intro v18 h19 hF
          rw [F_X12_done_L38.eq_2] at hF
          refine r_iload_n C dX12_done_38 rfl 2 rfl ?_
          refine r_aload_n C dX12_done_39 rfl 0 rfl ?_
          refine k_gI C dX12_done_40 fd_X12_217 (by decide) hF (fun x20 hF => ?_)
          refine r_icmp_ge (tgt := 165) C dX12_done_43 (by decide) hF (fun hF => ?_) (fun hF => ?_)
          · exact r_sub [0, 1] rfl (Jk165  _ hF)
          · refine r_aload_n C dX12_done_46 rfl 0 rfl ?_
            refine k_gR C dX12_done_47 fd_X12_65 (by decide) hF (fun x21 hF => ?_)
            refine r_aload_n C dX12_done_50 rfl 0 rfl ?_
            refine k_gI C dX12_done_51 fd_X12_239 (by decide) hF (fun x22 hF => ?_)
            refine r_sipush (v := 1000) C dX12_done_54 (by decide) ?_
            refine r_aload_n C dX12_done_57 rfl 0 rfl ?_
            refine k_gR C dX12_done_58 fd_X12_62 (by decide) hF (fun x23 hF => ?_)
            refine r_bipush (v := 8) C dX12_done_61 (by decide) ?_
            refine r_iload_n C dX12_done_63 rfl 2 rfl ?_
            refine r_imul C dX12_done_64 ?_
            refine r_bipush (v := 6) C dX12_done_65 (by decide) ?_
            refine r_iadd C dX12_done_67 ?_
            refine k_aI C dX12_done_68 hF (fun x24 hF => ?_)
            refine r_imul C dX12_done_69 ?_
            refine k_sI C dX12_done_70 hF (fun h25 hF => ?_)
            refine r_aload_n C dX12_done_71 rfl 0 rfl ?_
            refine k_gR C dX12_done_72 fd_X12_68 (by decide) hF (fun x26 hF => ?_)
            refine r_aload_n C dX12_done_75 rfl 0 rfl ?_
            refine k_gI C dX12_done_76 fd_X12_239 (by decide) hF (fun x27 hF => ?_)
            refine r_iload_n C dX12_done_79 rfl 1 rfl ?_
            refine k_sI C dX12_done_80 hF (fun h28 hF => ?_)
            refine r_aload_n C dX12_done_81 rfl 0 rfl ?_
            refine k_gR C dX12_done_82 fd_X12_71 (by decide) hF (fun x29 hF => ?_)
            refine r_aload_n C dX12_done_85 rfl 0 rfl ?_
            refine k_gI C dX12_done_86 fd_X12_239 (by decide) hF (fun x30 hF => ?_)
            refine r_aload_n C dX12_done_89 rfl 0 rfl ?_
            refine k_gR C dX12_done_90 fd_X12_62 (by decide) hF (fun x31 hF => ?_)
            refine r_bipush (v := 8) C dX12_done_93 (by decide) ?_
            refine r_iload_n C dX12_done_95 rfl 2 rfl ?_
            refine r_imul C dX12_done_96 ?_
            refine k_aI C dX12_done_97 hF (fun x32 hF => ?_)
            refine k_sI C dX12_done_98 hF (fun h33 hF => ?_)
            refine r_aload_n C dX12_done_99 rfl 0 rfl ?_
            refine k_gR C dX12_done_100 fd_X12_74 (by decide) hF (fun x34 hF => ?_)
            refine r_aload_n C dX12_done_103 rfl 0 rfl ?_
            refine k_gI C dX12_done_104 fd_X12_239 (by decide) hF (fun x35 hF => ?_)
            refine r_iconst (v := 0) C dX12_done_107 (by decide) ?_
            refine k_sI C dX12_done_108 hF (fun h36 hF => ?_)
            refine r_aload_n C dX12_done_109 rfl 0 rfl ?_
            refine k_gR C dX12_done_110 fd_X12_83 (by decide) hF (fun x37 hF => ?_)
            refine r_aload_n C dX12_done_113 rfl 0 rfl ?_
            refine k_gI C dX12_done_114 fd_X12_239 (by decide) hF (fun x38 hF => ?_)
            refine r_iconst (v := (-1)) C dX12_done_117 (by decide) ?_
            refine k_sI C dX12_done_118 hF (fun h39 hF => ?_)
            refine r_aload_n C dX12_done_119 rfl 0 rfl ?_
            refine k_gR C dX12_done_120 fd_X12_86 (by decide) hF (fun x40 hF => ?_)
            refine r_aload_n C dX12_done_123 rfl 0 rfl ?_
            refine k_gI C dX12_done_124 fd_X12_239 (by decide) hF (fun x41 hF => ?_)
            refine r_iconst (v := (-1)) C dX12_done_127 (by decide) ?_
            refine k_sI C dX12_done_128 hF (fun h42 hF => ?_)
            refine r_aload_n C dX12_done_129 rfl 0 rfl ?_
            refine k_gR C dX12_done_130 fd_X12_89 (by decide) hF (fun x43 hF => ?_)
            refine r_aload_n C dX12_done_133 rfl 0 rfl ?_
            refine k_gI C dX12_done_134 fd_X12_239 (by decide) hF (fun x44 hF => ?_)
            refine r_iconst (v := (-1)) C dX12_done_137 (by decide) ?_
            refine k_sI C dX12_done_138 hF (fun h45 hF => ?_)
            refine r_aload_n C dX12_done_139 rfl 0 rfl ?_
            refine k_gR C dX12_done_140 fd_X12_92 (by decide) hF (fun x46 hF => ?_)
            refine r_aload_n C dX12_done_143 rfl 0 rfl ?_
            refine k_gI C dX12_done_144 fd_X12_239 (by decide) hF (fun x47 hF => ?_)
            refine r_iconst (v := 0) C dX12_done_147 (by decide) ?_
            refine k_sZ C dX12_done_148 hF (fun h48 hF => ?_)
            refine r_aload_n C dX12_done_149 rfl 0 rfl ?_
            refine r_dup C dX12_done_150 rfl ?_
            refine k_gI C dX12_done_151 fd_X12_239 (by decide) hF (fun x49 hF => ?_)
            refine r_iconst (v := 1) C dX12_done_154 (by decide) ?_
            refine r_iadd C dX12_done_155 ?_
            refine k_pI C dX12_done_156 fd_X12_239 (fun z => by cases z) (by decide) hF (fun h50 hF => ?_)
            refine r_iinc (v := v18 + 1) C dX12_done_159 2 rfl (congrArg (fun z => v18 + z) (by decide)) (by decide) rfl ?_
            refine r_goto (tgt := 38) C dX12_done_162 (by decide) ?_
            exact r_sub [1, 2, 0] rfl (ih _ _ hF)
      exact r_sub [1, 2, 0] rfl (L38 _ _ _ hF)
    · refine r_iconst (v := (-1)) C dX12_done_34 (by decide) ?_
      exact k_iret C dX12_done_35 hr (by decide) (by decide) hF
  · refine r_iconst (v := 0) C dX12_done_13 (by decide) ?_
    exact k_iret C dX12_done_14 hr (by decide) (by decide) hF
