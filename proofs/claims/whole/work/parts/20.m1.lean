theorem fd_X12_1 : FD RX12 1 13 0 false := ⟨_, _, _, cls_13, by decide, gwm 1172 (by decide +kernel) rfl, rfl, fun _ => by first | rfl | contradiction⟩
theorem fd_X12_126 : FD RX12 126 13 1 false := ⟨_, _, _, cls_13, by decide, gwm 1173 (by decide +kernel) rfl, rfl, fun _ => by first | rfl | contradiction⟩
theorem ml_X12_129 : Cond.methodLink RX12 129 yX12_within ∈ gw := gwm 1360 (by decide +kernel) rfl
theorem cal_X12_within : Cal yX12_within cX12_within 3 (some .boolean) 3 := ⟨gwm 1362 (by decide +kernel) rfl, gwm 76 (by decide +kernel) rfl, ⟨by decide, by decide, by decide +kernel⟩, by decide⟩
theorem sm_X12_within : Cond.static yX12_within ∈ gw := gwm 1361 (by decide +kernel) rfl
theorem ml_X12_133 : Cond.methodLink RX12 133 yX12_may ∈ gw := gwm 1363 (by decide +kernel) rfl
theorem cal_X12_may : Cal yX12_may cX12_may 3 (some .boolean) 2 := ⟨gwm 1366 (by decide +kernel) rfl, gwm 76 (by decide +kernel) rfl, ⟨by decide, by decide, by decide +kernel⟩, by decide⟩
theorem im_X12_may : Cond.instanceMethod yX12_may ∈ gw := gwm 1365 (by decide +kernel) rfl
theorem se_X12_may : Cond.selects RX12 yX12_may yX12_may ∈ gw := gwm 39 (by decide +kernel) rfl
theorem ml_X12_137 : Cond.methodLink RX12 137 yX12_isRough ∈ gw := gwm 1356 (by decide +kernel) rfl
theorem cal_X12_isRough : Cal yX12_isRough cX12_isRough 2 (some .boolean) 1 := ⟨gwm 1359 (by decide +kernel) rfl, gwm 76 (by decide +kernel) rfl, ⟨by decide, by decide, by decide +kernel⟩, by decide⟩
theorem im_X12_isRough : Cond.instanceMethod yX12_isRough ∈ gw := gwm 1358 (by decide +kernel) rfl
theorem se_X12_isRough : Cond.selects RX12 yX12_isRough yX12_isRough ∈ gw := gwm 38 (by decide +kernel) rfl
theorem fd_X12_13 : FD RX12 13 13 2 true := ⟨_, _, _, cls_13, by decide, gwm 1174 (by decide +kernel) rfl, rfl, fun _ => by first | rfl | contradiction⟩
theorem cl_X12_141 : Cond.constantLong RX12 141 (68719476736) ∈ gw := gwm 1367 (by decide +kernel) rfl
theorem fd_X12_143 : FD RX12 143 13 3 false := ⟨_, _, _, cls_13, by decide, gwm 1175 (by decide +kernel) rfl, rfl, fun _ => by first | rfl | contradiction⟩
theorem fd_X12_17 : FD RX12 17 13 8 true := ⟨_, _, _, cls_13, by decide, gwm 1180 (by decide +kernel) rfl, rfl, fun _ => by first | rfl | contradiction⟩
theorem fd_X12_146 : FD RX12 146 13 6 false := ⟨_, _, _, cls_13, by decide, gwm 1178 (by decide +kernel) rfl, rfl, fun _ => by first | rfl | contradiction⟩
theorem fd_X12_149 : FD RX12 149 13 5 false := ⟨_, _, _, cls_13, by decide, gwm 1177 (by decide +kernel) rfl, rfl, fun _ => by first | rfl | contradiction⟩
theorem fd_X12_152 : FD RX12 152 13 4 false := ⟨_, _, _, cls_13, by decide, gwm 1176 (by decide +kernel) rfl, rfl, fun _ => by first | rfl | contradiction⟩
theorem ml_X12_155 : Cond.methodLink RX12 155 yX12_fine ∈ gw := gwm 1388 (by decide +kernel) rfl
theorem cal_X12_fine : Cal yX12_fine cX12_fine 1 (some .boolean) 0 := ⟨gwm 1391 (by decide +kernel) rfl, gwm 76 (by decide +kernel) rfl, ⟨by decide, by decide, by decide +kernel⟩, by decide⟩
theorem im_X12_fine : Cond.instanceMethod yX12_fine ∈ gw := gwm 1390 (by decide +kernel) rfl
theorem se_X12_fine : Cond.selects RX12 yX12_fine yX12_fine ∈ gw := gwm 42 (by decide +kernel) rfl
theorem ml_X12_159 : Cond.methodLink RX12 159 yX12_here ∈ gw := gwm 1392 (by decide +kernel) rfl
theorem cal_X12_here : Cal yX12_here cX12_here 1 (some .int) 0 := ⟨gwm 1395 (by decide +kernel) rfl, gwm 76 (by decide +kernel) rfl, ⟨by decide, by decide, by decide +kernel⟩, by decide⟩
theorem im_X12_here : Cond.instanceMethod yX12_here ∈ gw := gwm 1394 (by decide +kernel) rfl
theorem se_X12_here : Cond.selects RX12 yX12_here yX12_here ∈ gw := gwm 43 (by decide +kernel) rfl
theorem ml_X12_163 : Cond.methodLink RX12 163 yX12_wrong ∈ gw := gwm 1396 (by decide +kernel) rfl
theorem cal_X12_wrong : Cal yX12_wrong cX12_wrong 2 none 1 := ⟨gwm 1399 (by decide +kernel) rfl, gwm 76 (by decide +kernel) rfl, ⟨by decide, by decide, by decide +kernel⟩, by decide⟩
theorem im_X12_wrong : Cond.instanceMethod yX12_wrong ∈ gw := gwm 1398 (by decide +kernel) rfl
theorem se_X12_wrong : Cond.selects RX12 yX12_wrong yX12_wrong ∈ gw := gwm 44 (by decide +kernel) rfl
theorem ml_X12_167 : Cond.methodLink RX12 167 yX12_digit ∈ gw := gwm 1384 (by decide +kernel) rfl
theorem cal_X12_digit : Cal yX12_digit cX12_digit 4 (some .int) 2 := ⟨gwm 1387 (by decide +kernel) rfl, gwm 76 (by decide +kernel) rfl, ⟨by decide, by decide, by decide +kernel⟩, by decide⟩
theorem im_X12_digit : Cond.instanceMethod yX12_digit ∈ gw := gwm 1386 (by decide +kernel) rfl
theorem se_X12_digit : Cond.selects RX12 yX12_digit yX12_digit ∈ gw := gwm 41 (by decide +kernel) rfl
theorem ml_X12_171 : Cond.methodLink RX12 171 yX12_need ∈ gw := gwm 1400 (by decide +kernel) rfl
theorem cal_X12_need : Cal yX12_need cX12_need 2 none 1 := ⟨gwm 1403 (by decide +kernel) rfl, gwm 76 (by decide +kernel) rfl, ⟨by decide, by decide, by decide +kernel⟩, by decide⟩
theorem im_X12_need : Cond.instanceMethod yX12_need ∈ gw := gwm 1402 (by decide +kernel) rfl
theorem se_X12_need : Cond.selects RX12 yX12_need yX12_need ∈ gw := gwm 45 (by decide +kernel) rfl
theorem fd_X12_23 : FD RX12 23 13 10 true := ⟨_, _, _, cls_13, by decide, gwm 1182 (by decide +kernel) rfl, rfl, fun _ => by first | rfl | contradiction⟩
theorem fd_X12_174 : FD RX12 174 13 7 false := ⟨_, _, _, cls_13, by decide, gwm 1179 (by decide +kernel) rfl, rfl, fun _ => by first | rfl | contradiction⟩
theorem fd_X12_20 : FD RX12 20 13 9 true := ⟨_, _, _, cls_13, by decide, gwm 1181 (by decide +kernel) rfl, rfl, fun _ => by first | rfl | contradiction⟩
theorem fd_X12_26 : FD RX12 26 13 11 true := ⟨_, _, _, cls_13, by decide, gwm 1183 (by decide +kernel) rfl, rfl, fun _ => by first | rfl | contradiction⟩
theorem fd_X12_29 : FD RX12 29 13 12 true := ⟨_, _, _, cls_13, by decide, gwm 1184 (by decide +kernel) rfl, rfl, fun _ => by first | rfl | contradiction⟩
theorem fd_X12_32 : FD RX12 32 13 13 true := ⟨_, _, _, cls_13, by decide, gwm 1185 (by decide +kernel) rfl, rfl, fun _ => by first | rfl | contradiction⟩
theorem ml_X12_177 : Cond.methodLink RX12 177 yX12_layer ∈ gw := gwm 1380 (by decide +kernel) rfl
theorem cal_X12_layer : Cal yX12_layer cX12_layer 8 none 0 := ⟨gwm 1383 (by decide +kernel) rfl, gwm 76 (by decide +kernel) rfl, ⟨by decide, by decide, by decide +kernel⟩, by decide⟩
theorem im_X12_layer : Cond.instanceMethod yX12_layer ∈ gw := gwm 1382 (by decide +kernel) rfl
theorem se_X12_layer : Cond.selects RX12 yX12_layer yX12_layer ∈ gw := gwm 40 (by decide +kernel) rfl
theorem ml_X12_180 : Cond.methodLink RX12 180 yX12_isMore ∈ gw := gwm 1404 (by decide +kernel) rfl
theorem cal_X12_isMore : Cal yX12_isMore cX12_isMore 1 (some .boolean) 0 := ⟨gwm 1407 (by decide +kernel) rfl, gwm 76 (by decide +kernel) rfl, ⟨by decide, by decide, by decide +kernel⟩, by decide⟩
theorem im_X12_isMore : Cond.instanceMethod yX12_isMore ∈ gw := gwm 1406 (by decide +kernel) rfl
theorem se_X12_isMore : Cond.selects RX12 yX12_isMore yX12_isMore ∈ gw := gwm 46 (by decide +kernel) rfl
theorem fd_X12_183 : FD RX12 183 13 14 false := ⟨_, _, _, cls_13, by decide, gwm 1186 (by decide +kernel) rfl, rfl, fun _ => by first | rfl | contradiction⟩
theorem fd_X12_35 : FD RX12 35 13 15 true := ⟨_, _, _, cls_13, by decide, gwm 1187 (by decide +kernel) rfl, rfl, fun _ => by first | rfl | contradiction⟩
theorem fd_X12_38 : FD RX12 38 13 16 true := ⟨_, _, _, cls_13, by decide, gwm 1188 (by decide +kernel) rfl, rfl, fun _ => by first | rfl | contradiction⟩
theorem ml_X12_186 : Cond.methodLink RX12 186 yX12_worthOf ∈ gw := gwm 1416 (by decide +kernel) rfl
theorem cal_X12_worthOf : Cal yX12_worthOf cX12_worthOf 4 (some .int) 1 := ⟨gwm 1419 (by decide +kernel) rfl, gwm 76 (by decide +kernel) rfl, ⟨by decide, by decide, by decide +kernel⟩, by decide⟩
theorem im_X12_worthOf : Cond.instanceMethod yX12_worthOf ∈ gw := gwm 1418 (by decide +kernel) rfl
theorem se_X12_worthOf : Cond.selects RX12 yX12_worthOf yX12_worthOf ∈ gw := gwm 47 (by decide +kernel) rfl
theorem dX12_thrown_0 : decode cX12_thrown 0 = .ok (.aload_n 0, 1) := by decide +kernel
theorem dX12_thrown_1 : decode cX12_thrown 1 = .ok (.getfield 1, 3) := by decide +kernel
theorem dX12_thrown_4 : decode cX12_thrown 4 = .ok (.ireturn, 1) := by decide +kernel
theorem dX12_may_0 : decode cX12_may 0 = .ok (.iload_n 1, 1) := by decide +kernel
theorem dX12_may_1 : decode cX12_may 1 = .ok (.ifCond .ne 15, 3) := by decide +kernel
theorem dX12_may_4 : decode cX12_may 4 = .ok (.aload_n 0, 1) := by decide +kernel
theorem dX12_may_5 : decode cX12_may 5 = .ok (.getfield 1, 3) := by decide +kernel
theorem dX12_may_8 : decode cX12_may 8 = .ok (.ifCond .ne 8, 3) := by decide +kernel
theorem dX12_may_11 : decode cX12_may 11 = .ok (.aload_n 0, 1) := by decide +kernel
theorem dX12_may_12 : decode cX12_may 12 = .ok (.iload_n 2, 1) := by decide +kernel
theorem dX12_may_13 : decode cX12_may 13 = .ok (.putfield 1, 3) := by decide +kernel
theorem dX12_may_16 : decode cX12_may 16 = .ok (.aload_n 0, 1) := by decide +kernel
theorem dX12_may_17 : decode cX12_may 17 = .ok (.getfield 1, 3) := by decide +kernel
theorem dX12_may_20 : decode cX12_may 20 = .ok (.ifCond .ne 7, 3) := by decide +kernel
theorem dX12_may_23 : decode cX12_may 23 = .ok (.iconst 1, 1) := by decide +kernel
theorem dX12_may_24 : decode cX12_may 24 = .ok (.goto 4, 3) := by decide +kernel
theorem dX12_may_27 : decode cX12_may 27 = .ok (.iconst 0, 1) := by decide +kernel
theorem dX12_may_28 : decode cX12_may 28 = .ok (.ireturn, 1) := by decide +kernel
theorem dX12_within_0 : decode cX12_within 0 = .ok (.iload_n 0, 1) := by decide +kernel
theorem dX12_within_1 : decode cX12_within 1 = .ok (.iload_n 1, 1) := by decide +kernel
theorem dX12_within_2 : decode cX12_within 2 = .ok (.if_icmp .lt 12, 3) := by decide +kernel
theorem dX12_within_5 : decode cX12_within 5 = .ok (.iload_n 0, 1) := by decide +kernel
theorem dX12_within_6 : decode cX12_within 6 = .ok (.iload_n 2, 1) := by decide +kernel
theorem dX12_within_7 : decode cX12_within 7 = .ok (.if_icmp .gt 7, 3) := by decide +kernel
theorem dX12_within_10 : decode cX12_within 10 = .ok (.iconst 1, 1) := by decide +kernel
theorem dX12_within_11 : decode cX12_within 11 = .ok (.goto 4, 3) := by decide +kernel
theorem dX12_within_14 : decode cX12_within 14 = .ok (.iconst 0, 1) := by decide +kernel
theorem dX12_within_15 : decode cX12_within 15 = .ok (.ireturn, 1) := by decide +kernel
theorem dX12_rough_0 : decode cX12_rough 0 = .ok (.aload_n 0, 1) := by decide +kernel
theorem dX12_rough_1 : decode cX12_rough 1 = .ok (.iconst 0, 1) := by decide +kernel
theorem dX12_rough_2 : decode cX12_rough 2 = .ok (.putfield 1, 3) := by decide +kernel
theorem dX12_rough_5 : decode cX12_rough 5 = .ok (.aload_n 0, 1) := by decide +kernel
theorem dX12_rough_6 : decode cX12_rough 6 = .ok (.getfield 126, 3) := by decide +kernel
theorem dX12_rough_9 : decode cX12_rough 9 = .ok (.bipush 10, 2) := by decide +kernel
theorem dX12_rough_11 : decode cX12_rough 11 = .ok (.if_icmp .ne 5, 3) := by decide +kernel
theorem dX12_rough_14 : decode cX12_rough 14 = .ok (.iconst (-1), 1) := by decide +kernel
theorem dX12_rough_15 : decode cX12_rough 15 = .ok (.ireturn, 1) := by decide +kernel
theorem dX12_rough_16 : decode cX12_rough 16 = .ok (.aload_n 0, 1) := by decide +kernel
theorem dX12_rough_17 : decode cX12_rough 17 = .ok (.dup, 1) := by decide +kernel
theorem dX12_rough_18 : decode cX12_rough 18 = .ok (.getfield 126, 3) := by decide +kernel
theorem dX12_rough_21 : decode cX12_rough 21 = .ok (.iconst 1, 1) := by decide +kernel
theorem dX12_rough_22 : decode cX12_rough 22 = .ok (.iadd, 1) := by decide +kernel
theorem dX12_rough_23 : decode cX12_rough 23 = .ok (.putfield 126, 3) := by decide +kernel
theorem dX12_rough_26 : decode cX12_rough 26 = .ok (.aload_n 0, 1) := by decide +kernel
theorem dX12_rough_27 : decode cX12_rough 27 = .ok (.getfield 126, 3) := by decide +kernel
theorem dX12_rough_30 : decode cX12_rough 30 = .ok (.iconst 1, 1) := by decide +kernel
theorem dX12_rough_31 : decode cX12_rough 31 = .ok (.isub, 1) := by decide +kernel
theorem dX12_rough_32 : decode cX12_rough 32 = .ok (.ireturn, 1) := by decide +kernel
theorem dX12_isRough_0 : decode cX12_isRough 0 = .ok (.aload_n 0, 1) := by decide +kernel
theorem dX12_isRough_1 : decode cX12_isRough 1 = .ok (.iload_n 1, 1) := by decide +kernel
theorem dX12_isRough_2 : decode cX12_isRough 2 = .ok (.iconst 0, 1) := by decide +kernel
theorem dX12_isRough_3 : decode cX12_isRough 3 = .ok (.aload_n 0, 1) := by decide +kernel
theorem dX12_isRough_4 : decode cX12_isRough 4 = .ok (.getfield 126, 3) := by decide +kernel
theorem dX12_isRough_7 : decode cX12_isRough 7 = .ok (.iconst 1, 1) := by decide +kernel
theorem dX12_isRough_8 : decode cX12_isRough 8 = .ok (.isub, 1) := by decide +kernel
theorem dX12_isRough_9 : decode cX12_isRough 9 = .ok (.invokestatic 129, 3) := by decide +kernel
theorem dX12_isRough_12 : decode cX12_isRough 12 = .ok (.iconst 1, 1) := by decide +kernel
theorem dX12_isRough_13 : decode cX12_isRough 13 = .ok (.invokevirtual 133, 3) := by decide +kernel
theorem dX12_isRough_16 : decode cX12_isRough 16 = .ok (.ireturn, 1) := by decide +kernel
theorem dX12_stuff_0 : decode cX12_stuff 0 = .ok (.aload_n 0, 1) := by decide +kernel
theorem dX12_stuff_1 : decode cX12_stuff 1 = .ok (.iconst 0, 1) := by decide +kernel
theorem dX12_stuff_2 : decode cX12_stuff 2 = .ok (.putfield 1, 3) := by decide +kernel
theorem dX12_stuff_5 : decode cX12_stuff 5 = .ok (.aload_n 0, 1) := by decide +kernel
theorem dX12_stuff_6 : decode cX12_stuff 6 = .ok (.iload_n 1, 1) := by decide +kernel
theorem dX12_stuff_7 : decode cX12_stuff 7 = .ok (.invokevirtual 137, 3) := by decide +kernel
theorem dX12_stuff_10 : decode cX12_stuff 10 = .ok (.ifCond .ne 5, 3) := by decide +kernel
theorem dX12_stuff_13 : decode cX12_stuff 13 = .ok (.iconst 0, 1) := by decide +kernel
theorem dX12_stuff_14 : decode cX12_stuff 14 = .ok (.ireturn, 1) := by decide +kernel
theorem dX12_stuff_15 : decode cX12_stuff 15 = .ok (.iconst 0, 1) := by decide +kernel
theorem dX12_stuff_16 : decode cX12_stuff 16 = .ok (.istore_n 2, 1) := by decide +kernel
theorem dX12_stuff_17 : decode cX12_stuff 17 = .ok (.iconst 0, 1) := by decide +kernel
theorem dX12_stuff_18 : decode cX12_stuff 18 = .ok (.istore_n 3, 1) := by decide +kernel
theorem dX12_stuff_19 : decode cX12_stuff 19 = .ok (.iload_n 3, 1) := by decide +kernel
theorem dX12_stuff_20 : decode cX12_stuff 20 = .ok (.sipush 216, 3) := by decide +kernel
theorem dX12_stuff_23 : decode cX12_stuff 23 = .ok (.if_icmp .ge 24, 3) := by decide +kernel
theorem dX12_stuff_26 : decode cX12_stuff 26 = .ok (.iload_n 2, 1) := by decide +kernel
theorem dX12_stuff_27 : decode cX12_stuff 27 = .ok (.aload_n 0, 1) := by decide +kernel
theorem dX12_stuff_28 : decode cX12_stuff 28 = .ok (.getfield 13, 3) := by decide +kernel
theorem dX12_stuff_31 : decode cX12_stuff 31 = .ok (.sipush 216, 3) := by decide +kernel
theorem dX12_stuff_34 : decode cX12_stuff 34 = .ok (.iload_n 1, 1) := by decide +kernel
theorem dX12_stuff_35 : decode cX12_stuff 35 = .ok (.imul, 1) := by decide +kernel
theorem dX12_stuff_36 : decode cX12_stuff 36 = .ok (.iload_n 3, 1) := by decide +kernel
theorem dX12_stuff_37 : decode cX12_stuff 37 = .ok (.iadd, 1) := by decide +kernel
theorem dX12_stuff_38 : decode cX12_stuff 38 = .ok (.iaload, 1) := by decide +kernel
theorem dX12_stuff_39 : decode cX12_stuff 39 = .ok (.iadd, 1) := by decide +kernel
theorem dX12_stuff_40 : decode cX12_stuff 40 = .ok (.istore_n 2, 1) := by decide +kernel
theorem dX12_stuff_41 : decode cX12_stuff 41 = .ok (.iinc 3 1, 3) := by decide +kernel
theorem dX12_stuff_44 : decode cX12_stuff 44 = .ok (.goto (-25), 3) := by decide +kernel
theorem dX12_stuff_47 : decode cX12_stuff 47 = .ok (.iload_n 2, 1) := by decide +kernel
theorem dX12_stuff_48 : decode cX12_stuff 48 = .ok (.ireturn, 1) := by decide +kernel
theorem dX12_scan_0 : decode cX12_scan 0 = .ok (.aload_n 0, 1) := by decide +kernel
theorem dX12_scan_1 : decode cX12_scan 1 = .ok (.iconst 0, 1) := by decide +kernel
theorem dX12_scan_2 : decode cX12_scan 2 = .ok (.putfield 1, 3) := by decide +kernel
theorem dX12_scan_5 : decode cX12_scan 5 = .ok (.aload_n 0, 1) := by decide +kernel
theorem dX12_scan_6 : decode cX12_scan 6 = .ok (.iload_n 1, 1) := by decide +kernel
theorem dX12_scan_7 : decode cX12_scan 7 = .ok (.invokevirtual 137, 3) := by decide +kernel
theorem dX12_scan_10 : decode cX12_scan 10 = .ok (.ifCond .eq 60, 3) := by decide +kernel
theorem dX12_scan_13 : decode cX12_scan 13 = .ok (.aload_n 0, 1) := by decide +kernel
theorem dX12_scan_14 : decode cX12_scan 14 = .ok (.iload_n 2, 1) := by decide +kernel
theorem dX12_scan_15 : decode cX12_scan 15 = .ok (.iconst 0, 1) := by decide +kernel
theorem dX12_scan_16 : decode cX12_scan 16 = .ok (.iconst 5, 1) := by decide +kernel
theorem dX12_scan_17 : decode cX12_scan 17 = .ok (.invokestatic 129, 3) := by decide +kernel
theorem dX12_scan_20 : decode cX12_scan 20 = .ok (.iconst 1, 1) := by decide +kernel
theorem dX12_scan_21 : decode cX12_scan 21 = .ok (.invokevirtual 133, 3) := by decide +kernel
theorem dX12_scan_24 : decode cX12_scan 24 = .ok (.ifCond .eq 46, 3) := by decide +kernel
theorem dX12_scan_27 : decode cX12_scan 27 = .ok (.aload_n 0, 1) := by decide +kernel
theorem dX12_scan_28 : decode cX12_scan 28 = .ok (.lload_n 3, 1) := by decide +kernel
theorem dX12_scan_29 : decode cX12_scan 29 = .ok (.lconst 0, 1) := by decide +kernel
theorem dX12_scan_30 : decode cX12_scan 30 = .ok (.lcmp, 1) := by decide +kernel
theorem dX12_scan_31 : decode cX12_scan 31 = .ok (.ifCond .lt 31, 3) := by decide +kernel
theorem dX12_scan_34 : decode cX12_scan 34 = .ok (.lload_n 3, 1) := by decide +kernel
theorem dX12_scan_35 : decode cX12_scan 35 = .ok (.ldc2_w 141, 3) := by decide +kernel
theorem dX12_scan_38 : decode cX12_scan 38 = .ok (.lcmp, 1) := by decide +kernel
theorem dX12_scan_39 : decode cX12_scan 39 = .ok (.ifCond .ge 23, 3) := by decide +kernel
theorem dX12_scan_42 : decode cX12_scan 42 = .ok (.lload 5, 2) := by decide +kernel
theorem dX12_scan_44 : decode cX12_scan 44 = .ok (.lconst 0, 1) := by decide +kernel
theorem dX12_scan_45 : decode cX12_scan 45 = .ok (.lcmp, 1) := by decide +kernel
theorem dX12_scan_46 : decode cX12_scan 46 = .ok (.ifCond .lt 16, 3) := by decide +kernel
theorem dX12_scan_49 : decode cX12_scan 49 = .ok (.lload 5, 2) := by decide +kernel
theorem dX12_scan_51 : decode cX12_scan 51 = .ok (.ldc2_w 141, 3) := by decide +kernel
theorem dX12_scan_54 : decode cX12_scan 54 = .ok (.lcmp, 1) := by decide +kernel
theorem dX12_scan_55 : decode cX12_scan 55 = .ok (.ifCond .ge 7, 3) := by decide +kernel
theorem dX12_scan_58 : decode cX12_scan 58 = .ok (.iconst 1, 1) := by decide +kernel
theorem dX12_scan_59 : decode cX12_scan 59 = .ok (.goto 4, 3) := by decide +kernel
theorem dX12_scan_62 : decode cX12_scan 62 = .ok (.iconst 0, 1) := by decide +kernel
theorem dX12_scan_63 : decode cX12_scan 63 = .ok (.iconst 2, 1) := by decide +kernel
theorem dX12_scan_64 : decode cX12_scan 64 = .ok (.invokevirtual 133, 3) := by decide +kernel
theorem dX12_scan_67 : decode cX12_scan 67 = .ok (.ifCond .ne 5, 3) := by decide +kernel
theorem dX12_scan_70 : decode cX12_scan 70 = .ok (.iconst 0, 1) := by decide +kernel
theorem dX12_scan_71 : decode cX12_scan 71 = .ok (.ireturn, 1) := by decide +kernel
theorem dX12_scan_72 : decode cX12_scan 72 = .ok (.iconst 0, 1) := by decide +kernel
theorem dX12_scan_73 : decode cX12_scan 73 = .ok (.istore 7, 2) := by decide +kernel
theorem dX12_scan_75 : decode cX12_scan 75 = .ok (.iconst 0, 1) := by decide +kernel
theorem dX12_scan_76 : decode cX12_scan 76 = .ok (.istore 8, 2) := by decide +kernel
theorem dX12_scan_78 : decode cX12_scan 78 = .ok (.iload 8, 2) := by decide +kernel
theorem dX12_scan_80 : decode cX12_scan 80 = .ok (.bipush 36, 2) := by decide +kernel
theorem dX12_scan_82 : decode cX12_scan 82 = .ok (.if_icmp .ge 66, 3) := by decide +kernel
theorem dX12_scan_85 : decode cX12_scan 85 = .ok (.lload_n 3, 1) := by decide +kernel
theorem dX12_scan_86 : decode cX12_scan 86 = .ok (.iload 8, 2) := by decide +kernel
theorem dX12_scan_88 : decode cX12_scan 88 = .ok (.lshr, 1) := by decide +kernel
theorem dX12_scan_89 : decode cX12_scan 89 = .ok (.lconst 1, 1) := by decide +kernel
theorem dX12_scan_90 : decode cX12_scan 90 = .ok (.land, 1) := by decide +kernel
theorem dX12_scan_91 : decode cX12_scan 91 = .ok (.lconst 1, 1) := by decide +kernel
theorem dX12_scan_92 : decode cX12_scan 92 = .ok (.lcmp, 1) := by decide +kernel
theorem dX12_scan_93 : decode cX12_scan 93 = .ok (.ifCond .ne 19, 3) := by decide +kernel
theorem dX12_scan_96 : decode cX12_scan 96 = .ok (.lload 5, 2) := by decide +kernel
theorem dX12_scan_98 : decode cX12_scan 98 = .ok (.iload 8, 2) := by decide +kernel
theorem dX12_scan_100 : decode cX12_scan 100 = .ok (.lshr, 1) := by decide +kernel
theorem dX12_scan_101 : decode cX12_scan 101 = .ok (.lconst 1, 1) := by decide +kernel
theorem dX12_scan_102 : decode cX12_scan 102 = .ok (.land, 1) := by decide +kernel
theorem dX12_scan_103 : decode cX12_scan 103 = .ok (.lconst 0, 1) := by decide +kernel
theorem dX12_scan_104 : decode cX12_scan 104 = .ok (.lcmp, 1) := by decide +kernel
theorem dX12_scan_105 : decode cX12_scan 105 = .ok (.ifCond .ne 7, 3) := by decide +kernel
theorem dX12_scan_108 : decode cX12_scan 108 = .ok (.iconst 1, 1) := by decide +kernel
theorem dX12_scan_109 : decode cX12_scan 109 = .ok (.goto 4, 3) := by decide +kernel
theorem dX12_scan_112 : decode cX12_scan 112 = .ok (.iconst 0, 1) := by decide +kernel
theorem dX12_scan_113 : decode cX12_scan 113 = .ok (.istore 9, 2) := by decide +kernel
theorem dX12_scan_115 : decode cX12_scan 115 = .ok (.aload_n 0, 1) := by decide +kernel
theorem dX12_scan_116 : decode cX12_scan 116 = .ok (.getfield 13, 3) := by decide +kernel
theorem dX12_scan_119 : decode cX12_scan 119 = .ok (.sipush 216, 3) := by decide +kernel
theorem dX12_scan_122 : decode cX12_scan 122 = .ok (.iload_n 1, 1) := by decide +kernel
theorem dX12_scan_123 : decode cX12_scan 123 = .ok (.imul, 1) := by decide +kernel
theorem dX12_scan_124 : decode cX12_scan 124 = .ok (.bipush 36, 2) := by decide +kernel
theorem dX12_scan_126 : decode cX12_scan 126 = .ok (.iload_n 2, 1) := by decide +kernel
theorem dX12_scan_127 : decode cX12_scan 127 = .ok (.imul, 1) := by decide +kernel
theorem dX12_scan_128 : decode cX12_scan 128 = .ok (.iadd, 1) := by decide +kernel
theorem dX12_scan_129 : decode cX12_scan 129 = .ok (.iload 8, 2) := by decide +kernel
theorem dX12_scan_131 : decode cX12_scan 131 = .ok (.iadd, 1) := by decide +kernel
theorem dX12_scan_132 : decode cX12_scan 132 = .ok (.iload 9, 2) := by decide +kernel
theorem dX12_scan_134 : decode cX12_scan 134 = .ok (.iastore, 1) := by decide +kernel
theorem dX12_scan_135 : decode cX12_scan 135 = .ok (.iload 7, 2) := by decide +kernel
theorem dX12_scan_137 : decode cX12_scan 137 = .ok (.iload 9, 2) := by decide +kernel
theorem dX12_scan_139 : decode cX12_scan 139 = .ok (.iadd, 1) := by decide +kernel
theorem dX12_scan_140 : decode cX12_scan 140 = .ok (.istore 7, 2) := by decide +kernel
theorem dX12_scan_142 : decode cX12_scan 142 = .ok (.iinc 8 1, 3) := by decide +kernel
theorem dX12_scan_145 : decode cX12_scan 145 = .ok (.goto (-67), 3) := by decide +kernel
theorem dX12_scan_148 : decode cX12_scan 148 = .ok (.iload 7, 2) := by decide +kernel
theorem dX12_scan_150 : decode cX12_scan 150 = .ok (.ireturn, 1) := by decide +kernel
theorem dX12_feed_0 : decode cX12_feed 0 = .ok (.aload_n 0, 1) := by decide +kernel
theorem dX12_feed_1 : decode cX12_feed 1 = .ok (.iconst 0, 1) := by decide +kernel
theorem dX12_feed_2 : decode cX12_feed 2 = .ok (.putfield 1, 3) := by decide +kernel
theorem dX12_feed_5 : decode cX12_feed 5 = .ok (.aload_n 0, 1) := by decide +kernel
theorem dX12_feed_6 : decode cX12_feed 6 = .ok (.getfield 143, 3) := by decide +kernel
theorem dX12_feed_9 : decode cX12_feed 9 = .ok (.bipush 20, 2) := by decide +kernel
theorem dX12_feed_11 : decode cX12_feed 11 = .ok (.iadd, 1) := by decide +kernel
theorem dX12_feed_12 : decode cX12_feed 12 = .ok (.bipush 100, 2) := by decide +kernel
theorem dX12_feed_14 : decode cX12_feed 14 = .ok (.if_icmp .le 5, 3) := by decide +kernel
theorem dX12_feed_17 : decode cX12_feed 17 = .ok (.iconst (-1), 1) := by decide +kernel
theorem dX12_feed_18 : decode cX12_feed 18 = .ok (.ireturn, 1) := by decide +kernel
theorem dX12_feed_19 : decode cX12_feed 19 = .ok (.iconst 0, 1) := by decide +kernel
theorem dX12_feed_20 : decode cX12_feed 20 = .ok (.istore 6, 2) := by decide +kernel
theorem dX12_feed_22 : decode cX12_feed 22 = .ok (.iload 6, 2) := by decide +kernel
theorem dX12_feed_24 : decode cX12_feed 24 = .ok (.bipush 20, 2) := by decide +kernel
theorem dX12_feed_26 : decode cX12_feed 26 = .ok (.if_icmp .ge 93, 3) := by decide +kernel
theorem dX12_feed_29 : decode cX12_feed 29 = .ok (.iload 6, 2) := by decide +kernel
theorem dX12_feed_31 : decode cX12_feed 31 = .ok (.iconst 4, 1) := by decide +kernel
theorem dX12_feed_32 : decode cX12_feed 32 = .ok (.if_icmp .ge 7, 3) := by decide +kernel
theorem dX12_feed_35 : decode cX12_feed 35 = .ok (.iload_n 1, 1) := by decide +kernel
theorem dX12_feed_36 : decode cX12_feed 36 = .ok (.goto 39, 3) := by decide +kernel
theorem dX12_feed_39 : decode cX12_feed 39 = .ok (.iload 6, 2) := by decide +kernel
theorem dX12_feed_41 : decode cX12_feed 41 = .ok (.bipush 8, 2) := by decide +kernel
theorem dX12_feed_43 : decode cX12_feed 43 = .ok (.if_icmp .ge 7, 3) := by decide +kernel
theorem dX12_feed_46 : decode cX12_feed 46 = .ok (.iload_n 2, 1) := by decide +kernel
theorem dX12_feed_47 : decode cX12_feed 47 = .ok (.goto 28, 3) := by decide +kernel
theorem dX12_feed_50 : decode cX12_feed 50 = .ok (.iload 6, 2) := by decide +kernel
theorem dX12_feed_52 : decode cX12_feed 52 = .ok (.bipush 12, 2) := by decide +kernel
theorem dX12_feed_54 : decode cX12_feed 54 = .ok (.if_icmp .ge 7, 3) := by decide +kernel
theorem dX12_feed_57 : decode cX12_feed 57 = .ok (.iload_n 3, 1) := by decide +kernel
theorem dX12_feed_58 : decode cX12_feed 58 = .ok (.goto 17, 3) := by decide +kernel
theorem dX12_feed_61 : decode cX12_feed 61 = .ok (.iload 6, 2) := by decide +kernel
theorem dX12_feed_63 : decode cX12_feed 63 = .ok (.bipush 16, 2) := by decide +kernel
theorem dX12_feed_65 : decode cX12_feed 65 = .ok (.if_icmp .ge 8, 3) := by decide +kernel
theorem dX12_feed_68 : decode cX12_feed 68 = .ok (.iload 4, 2) := by decide +kernel
theorem dX12_feed_70 : decode cX12_feed 70 = .ok (.goto 5, 3) := by decide +kernel
theorem dX12_feed_73 : decode cX12_feed 73 = .ok (.iload 5, 2) := by decide +kernel
theorem dX12_feed_75 : decode cX12_feed 75 = .ok (.istore 7, 2) := by decide +kernel
theorem dX12_feed_77 : decode cX12_feed 77 = .ok (.aload_n 0, 1) := by decide +kernel
theorem dX12_feed_78 : decode cX12_feed 78 = .ok (.getfield 17, 3) := by decide +kernel
theorem dX12_feed_81 : decode cX12_feed 81 = .ok (.aload_n 0, 1) := by decide +kernel
theorem dX12_feed_82 : decode cX12_feed 82 = .ok (.getfield 143, 3) := by decide +kernel
theorem dX12_feed_85 : decode cX12_feed 85 = .ok (.iload 7, 2) := by decide +kernel
theorem dX12_feed_87 : decode cX12_feed 87 = .ok (.bipush 24, 2) := by decide +kernel
theorem dX12_feed_89 : decode cX12_feed 89 = .ok (.bipush 8, 2) := by decide +kernel
theorem dX12_feed_91 : decode cX12_feed 91 = .ok (.iload 6, 2) := by decide +kernel
theorem dX12_feed_93 : decode cX12_feed 93 = .ok (.iconst 4, 1) := by decide +kernel
theorem dX12_feed_94 : decode cX12_feed 94 = .ok (.irem, 1) := by decide +kernel
theorem dX12_feed_95 : decode cX12_feed 95 = .ok (.imul, 1) := by decide +kernel
theorem dX12_feed_96 : decode cX12_feed 96 = .ok (.isub, 1) := by decide +kernel
theorem dX12_feed_97 : decode cX12_feed 97 = .ok (.ishr, 1) := by decide +kernel
theorem dX12_feed_98 : decode cX12_feed 98 = .ok (.sipush 255, 3) := by decide +kernel
theorem dX12_feed_101 : decode cX12_feed 101 = .ok (.iand, 1) := by decide +kernel
theorem dX12_feed_102 : decode cX12_feed 102 = .ok (.iastore, 1) := by decide +kernel
theorem dX12_feed_103 : decode cX12_feed 103 = .ok (.aload_n 0, 1) := by decide +kernel
theorem dX12_feed_104 : decode cX12_feed 104 = .ok (.dup, 1) := by decide +kernel
theorem dX12_feed_105 : decode cX12_feed 105 = .ok (.getfield 143, 3) := by decide +kernel
theorem dX12_feed_108 : decode cX12_feed 108 = .ok (.iconst 1, 1) := by decide +kernel
theorem dX12_feed_109 : decode cX12_feed 109 = .ok (.iadd, 1) := by decide +kernel
theorem dX12_feed_110 : decode cX12_feed 110 = .ok (.putfield 143, 3) := by decide +kernel
theorem dX12_feed_113 : decode cX12_feed 113 = .ok (.iinc 6 1, 3) := by decide +kernel
theorem dX12_feed_116 : decode cX12_feed 116 = .ok (.goto (-94), 3) := by decide +kernel
theorem dX12_feed_119 : decode cX12_feed 119 = .ok (.aload_n 0, 1) := by decide +kernel
theorem dX12_feed_120 : decode cX12_feed 120 = .ok (.getfield 143, 3) := by decide +kernel
theorem dX12_feed_123 : decode cX12_feed 123 = .ok (.ireturn, 1) := by decide +kernel
theorem dX12_fine_0 : decode cX12_fine 0 = .ok (.aload_n 0, 1) := by decide +kernel
theorem dX12_fine_1 : decode cX12_fine 1 = .ok (.getfield 146, 3) := by decide +kernel
theorem dX12_fine_4 : decode cX12_fine 4 = .ok (.iconst (-1), 1) := by decide +kernel
theorem dX12_fine_5 : decode cX12_fine 5 = .ok (.if_icmp .ne 7, 3) := by decide +kernel
theorem dX12_fine_8 : decode cX12_fine 8 = .ok (.iconst 1, 1) := by decide +kernel
theorem dX12_fine_9 : decode cX12_fine 9 = .ok (.goto 4, 3) := by decide +kernel
theorem dX12_fine_12 : decode cX12_fine 12 = .ok (.iconst 0, 1) := by decide +kernel
theorem dX12_fine_13 : decode cX12_fine 13 = .ok (.ireturn, 1) := by decide +kernel
theorem dX12_wrong_0 : decode cX12_wrong 0 = .ok (.aload_n 0, 1) := by decide +kernel
theorem dX12_wrong_1 : decode cX12_wrong 1 = .ok (.getfield 146, 3) := by decide +kernel
theorem dX12_wrong_4 : decode cX12_wrong 4 = .ok (.iconst (-1), 1) := by decide +kernel
theorem dX12_wrong_5 : decode cX12_wrong 5 = .ok (.if_icmp .ne 8, 3) := by decide +kernel
theorem dX12_wrong_8 : decode cX12_wrong 8 = .ok (.aload_n 0, 1) := by decide +kernel
theorem dX12_wrong_9 : decode cX12_wrong 9 = .ok (.iload_n 1, 1) := by decide +kernel
theorem dX12_wrong_10 : decode cX12_wrong 10 = .ok (.putfield 146, 3) := by decide +kernel
theorem dX12_wrong_13 : decode cX12_wrong 13 = .ok (.return_, 1) := by decide +kernel
theorem dX12_here_0 : decode cX12_here 0 = .ok (.aload_n 0, 1) := by decide +kernel
theorem dX12_here_1 : decode cX12_here 1 = .ok (.getfield 149, 3) := by decide +kernel
theorem dX12_here_4 : decode cX12_here 4 = .ok (.aload_n 0, 1) := by decide +kernel
theorem dX12_here_5 : decode cX12_here 5 = .ok (.getfield 152, 3) := by decide +kernel
theorem dX12_here_8 : decode cX12_here 8 = .ok (.if_icmp .ge 30, 3) := by decide +kernel
theorem dX12_here_11 : decode cX12_here 11 = .ok (.aload_n 0, 1) := by decide +kernel
theorem dX12_here_12 : decode cX12_here 12 = .ok (.getfield 17, 3) := by decide +kernel
theorem dX12_here_15 : decode cX12_here 15 = .ok (.aload_n 0, 1) := by decide +kernel
theorem dX12_here_16 : decode cX12_here 16 = .ok (.getfield 149, 3) := by decide +kernel
theorem dX12_here_19 : decode cX12_here 19 = .ok (.iaload, 1) := by decide +kernel
theorem dX12_here_20 : decode cX12_here 20 = .ok (.bipush 32, 2) := by decide +kernel
theorem dX12_here_22 : decode cX12_here 22 = .ok (.if_icmp .ne 16, 3) := by decide +kernel
theorem dX12_here_25 : decode cX12_here 25 = .ok (.aload_n 0, 1) := by decide +kernel
theorem dX12_here_26 : decode cX12_here 26 = .ok (.dup, 1) := by decide +kernel
theorem dX12_here_27 : decode cX12_here 27 = .ok (.getfield 149, 3) := by decide +kernel
theorem dX12_here_30 : decode cX12_here 30 = .ok (.iconst 1, 1) := by decide +kernel
theorem dX12_here_31 : decode cX12_here 31 = .ok (.iadd, 1) := by decide +kernel
theorem dX12_here_32 : decode cX12_here 32 = .ok (.putfield 149, 3) := by decide +kernel
theorem dX12_here_35 : decode cX12_here 35 = .ok (.goto (-35), 3) := by decide +kernel
theorem dX12_here_38 : decode cX12_here 38 = .ok (.aload_n 0, 1) := by decide +kernel
theorem dX12_here_39 : decode cX12_here 39 = .ok (.getfield 149, 3) := by decide +kernel
theorem dX12_here_42 : decode cX12_here 42 = .ok (.aload_n 0, 1) := by decide +kernel
theorem dX12_here_43 : decode cX12_here 43 = .ok (.getfield 152, 3) := by decide +kernel
theorem dX12_here_46 : decode cX12_here 46 = .ok (.if_icmp .ge 15, 3) := by decide +kernel
theorem dX12_here_49 : decode cX12_here 49 = .ok (.aload_n 0, 1) := by decide +kernel
theorem dX12_here_50 : decode cX12_here 50 = .ok (.getfield 17, 3) := by decide +kernel
theorem dX12_here_53 : decode cX12_here 53 = .ok (.aload_n 0, 1) := by decide +kernel
theorem dX12_here_54 : decode cX12_here 54 = .ok (.getfield 149, 3) := by decide +kernel
theorem dX12_here_57 : decode cX12_here 57 = .ok (.iaload, 1) := by decide +kernel
theorem dX12_here_58 : decode cX12_here 58 = .ok (.goto 4, 3) := by decide +kernel
theorem dX12_here_61 : decode cX12_here 61 = .ok (.iconst 0, 1) := by decide +kernel
theorem dX12_here_62 : decode cX12_here 62 = .ok (.ireturn, 1) := by decide +kernel
theorem dX12_digit_0 : decode cX12_digit 0 = .ok (.aload_n 0, 1) := by decide +kernel
theorem dX12_digit_1 : decode cX12_digit 1 = .ok (.invokevirtual 155, 3) := by decide +kernel
theorem dX12_digit_4 : decode cX12_digit 4 = .ok (.ifCond .ne 5, 3) := by decide +kernel
theorem dX12_digit_7 : decode cX12_digit 7 = .ok (.iconst 0, 1) := by decide +kernel
theorem dX12_digit_8 : decode cX12_digit 8 = .ok (.ireturn, 1) := by decide +kernel
theorem dX12_digit_9 : decode cX12_digit 9 = .ok (.aload_n 0, 1) := by decide +kernel
theorem dX12_digit_10 : decode cX12_digit 10 = .ok (.invokevirtual 159, 3) := by decide +kernel
theorem dX12_digit_13 : decode cX12_digit 13 = .ok (.bipush 48, 2) := by decide +kernel
theorem dX12_digit_15 : decode cX12_digit 15 = .ok (.isub, 1) := by decide +kernel
theorem dX12_digit_16 : decode cX12_digit 16 = .ok (.istore_n 3, 1) := by decide +kernel
theorem dX12_digit_17 : decode cX12_digit 17 = .ok (.iload_n 3, 1) := by decide +kernel
theorem dX12_digit_18 : decode cX12_digit 18 = .ok (.iload_n 1, 1) := by decide +kernel
theorem dX12_digit_19 : decode cX12_digit 19 = .ok (.iload_n 2, 1) := by decide +kernel
theorem dX12_digit_20 : decode cX12_digit 20 = .ok (.invokestatic 129, 3) := by decide +kernel
theorem dX12_digit_23 : decode cX12_digit 23 = .ok (.ifCond .ne 14, 3) := by decide +kernel
theorem dX12_digit_26 : decode cX12_digit 26 = .ok (.aload_n 0, 1) := by decide +kernel
theorem dX12_digit_27 : decode cX12_digit 27 = .ok (.aload_n 0, 1) := by decide +kernel
theorem dX12_digit_28 : decode cX12_digit 28 = .ok (.getfield 149, 3) := by decide +kernel
theorem dX12_digit_31 : decode cX12_digit 31 = .ok (.invokevirtual 163, 3) := by decide +kernel
theorem dX12_digit_34 : decode cX12_digit 34 = .ok (.goto 13, 3) := by decide +kernel
theorem dX12_digit_37 : decode cX12_digit 37 = .ok (.aload_n 0, 1) := by decide +kernel
theorem dX12_digit_38 : decode cX12_digit 38 = .ok (.dup, 1) := by decide +kernel
theorem dX12_digit_39 : decode cX12_digit 39 = .ok (.getfield 149, 3) := by decide +kernel
theorem dX12_digit_42 : decode cX12_digit 42 = .ok (.iconst 1, 1) := by decide +kernel
theorem dX12_digit_43 : decode cX12_digit 43 = .ok (.iadd, 1) := by decide +kernel
theorem dX12_digit_44 : decode cX12_digit 44 = .ok (.putfield 149, 3) := by decide +kernel
theorem dX12_digit_47 : decode cX12_digit 47 = .ok (.iload_n 3, 1) := by decide +kernel
theorem dX12_digit_48 : decode cX12_digit 48 = .ok (.ireturn, 1) := by decide +kernel
theorem dX12_need_0 : decode cX12_need 0 = .ok (.aload_n 0, 1) := by decide +kernel
theorem dX12_need_1 : decode cX12_need 1 = .ok (.invokevirtual 155, 3) := by decide +kernel
theorem dX12_need_4 : decode cX12_need 4 = .ok (.ifCond .eq 19, 3) := by decide +kernel
theorem dX12_need_7 : decode cX12_need 7 = .ok (.aload_n 0, 1) := by decide +kernel
theorem dX12_need_8 : decode cX12_need 8 = .ok (.invokevirtual 159, 3) := by decide +kernel
theorem dX12_need_11 : decode cX12_need 11 = .ok (.iload_n 1, 1) := by decide +kernel
theorem dX12_need_12 : decode cX12_need 12 = .ok (.if_icmp .eq 11, 3) := by decide +kernel
theorem dX12_need_15 : decode cX12_need 15 = .ok (.aload_n 0, 1) := by decide +kernel
theorem dX12_need_16 : decode cX12_need 16 = .ok (.aload_n 0, 1) := by decide +kernel
theorem dX12_need_17 : decode cX12_need 17 = .ok (.getfield 149, 3) := by decide +kernel
theorem dX12_need_20 : decode cX12_need 20 = .ok (.invokevirtual 163, 3) := by decide +kernel
theorem dX12_need_23 : decode cX12_need 23 = .ok (.aload_n 0, 1) := by decide +kernel
theorem dX12_need_24 : decode cX12_need 24 = .ok (.invokevirtual 155, 3) := by decide +kernel
theorem dX12_need_27 : decode cX12_need 27 = .ok (.ifCond .eq 13, 3) := by decide +kernel
theorem dX12_need_30 : decode cX12_need 30 = .ok (.aload_n 0, 1) := by decide +kernel
theorem dX12_need_31 : decode cX12_need 31 = .ok (.dup, 1) := by decide +kernel
theorem dX12_need_32 : decode cX12_need 32 = .ok (.getfield 149, 3) := by decide +kernel
theorem dX12_need_35 : decode cX12_need 35 = .ok (.iconst 1, 1) := by decide +kernel
theorem dX12_need_36 : decode cX12_need 36 = .ok (.iadd, 1) := by decide +kernel
theorem dX12_need_37 : decode cX12_need 37 = .ok (.putfield 149, 3) := by decide +kernel
theorem dX12_need_40 : decode cX12_need 40 = .ok (.return_, 1) := by decide +kernel
theorem dX12_isMore_0 : decode cX12_isMore 0 = .ok (.aload_n 0, 1) := by decide +kernel
theorem dX12_isMore_1 : decode cX12_isMore 1 = .ok (.invokevirtual 159, 3) := by decide +kernel
theorem dX12_isMore_4 : decode cX12_isMore 4 = .ok (.pop, 1) := by decide +kernel
theorem dX12_isMore_5 : decode cX12_isMore 5 = .ok (.aload_n 0, 1) := by decide +kernel
theorem dX12_isMore_6 : decode cX12_isMore 6 = .ok (.getfield 149, 3) := by decide +kernel
theorem dX12_isMore_9 : decode cX12_isMore 9 = .ok (.aload_n 0, 1) := by decide +kernel
theorem dX12_isMore_10 : decode cX12_isMore 10 = .ok (.getfield 152, 3) := by decide +kernel
theorem dX12_isMore_13 : decode cX12_isMore 13 = .ok (.if_icmp .ge 7, 3) := by decide +kernel
theorem dX12_isMore_16 : decode cX12_isMore 16 = .ok (.iconst 1, 1) := by decide +kernel
theorem dX12_isMore_17 : decode cX12_isMore 17 = .ok (.goto 4, 3) := by decide +kernel
theorem dX12_isMore_20 : decode cX12_isMore 20 = .ok (.iconst 0, 1) := by decide +kernel
theorem dX12_isMore_21 : decode cX12_isMore 21 = .ok (.ireturn, 1) := by decide +kernel
theorem dX12_layer_0 : decode cX12_layer 0 = .ok (.aload_n 0, 1) := by decide +kernel
theorem dX12_layer_1 : decode cX12_layer 1 = .ok (.iconst 1, 1) := by decide +kernel
theorem dX12_layer_2 : decode cX12_layer 2 = .ok (.bipush 6, 2) := by decide +kernel
theorem dX12_layer_4 : decode cX12_layer 4 = .ok (.invokevirtual 167, 3) := by decide +kernel
theorem dX12_layer_7 : decode cX12_layer 7 = .ok (.istore_n 1, 1) := by decide +kernel
theorem dX12_layer_8 : decode cX12_layer 8 = .ok (.aload_n 0, 1) := by decide +kernel
theorem dX12_layer_9 : decode cX12_layer 9 = .ok (.bipush 120, 2) := by decide +kernel
theorem dX12_layer_11 : decode cX12_layer 11 = .ok (.invokevirtual 171, 3) := by decide +kernel
theorem dX12_layer_14 : decode cX12_layer 14 = .ok (.aload_n 0, 1) := by decide +kernel
theorem dX12_layer_15 : decode cX12_layer 15 = .ok (.iconst 1, 1) := by decide +kernel
theorem dX12_layer_16 : decode cX12_layer 16 = .ok (.bipush 6, 2) := by decide +kernel
theorem dX12_layer_18 : decode cX12_layer 18 = .ok (.invokevirtual 167, 3) := by decide +kernel
theorem dX12_layer_21 : decode cX12_layer 21 = .ok (.istore_n 2, 1) := by decide +kernel
theorem dX12_layer_22 : decode cX12_layer 22 = .ok (.aload_n 0, 1) := by decide +kernel
theorem dX12_layer_23 : decode cX12_layer 23 = .ok (.bipush 64, 2) := by decide +kernel
theorem dX12_layer_25 : decode cX12_layer 25 = .ok (.invokevirtual 171, 3) := by decide +kernel
theorem dX12_layer_28 : decode cX12_layer 28 = .ok (.aload_n 0, 1) := by decide +kernel
theorem dX12_layer_29 : decode cX12_layer 29 = .ok (.iconst 0, 1) := by decide +kernel
theorem dX12_layer_30 : decode cX12_layer 30 = .ok (.bipush 6, 2) := by decide +kernel
theorem dX12_layer_32 : decode cX12_layer 32 = .ok (.iload_n 1, 1) := by decide +kernel
theorem dX12_layer_33 : decode cX12_layer 33 = .ok (.isub, 1) := by decide +kernel
theorem dX12_layer_34 : decode cX12_layer 34 = .ok (.iconst 5, 1) := by decide +kernel
theorem dX12_layer_35 : decode cX12_layer 35 = .ok (.if_icmp .ge 10, 3) := by decide +kernel
theorem dX12_layer_38 : decode cX12_layer 38 = .ok (.bipush 6, 2) := by decide +kernel
theorem dX12_layer_40 : decode cX12_layer 40 = .ok (.iload_n 1, 1) := by decide +kernel
theorem dX12_layer_41 : decode cX12_layer 41 = .ok (.isub, 1) := by decide +kernel
theorem dX12_layer_42 : decode cX12_layer 42 = .ok (.goto 4, 3) := by decide +kernel
theorem dX12_layer_45 : decode cX12_layer 45 = .ok (.iconst 5, 1) := by decide +kernel
theorem dX12_layer_46 : decode cX12_layer 46 = .ok (.invokevirtual 167, 3) := by decide +kernel
theorem dX12_layer_49 : decode cX12_layer 49 = .ok (.istore_n 3, 1) := by decide +kernel
theorem dX12_layer_50 : decode cX12_layer 50 = .ok (.aload_n 0, 1) := by decide +kernel
theorem dX12_layer_51 : decode cX12_layer 51 = .ok (.bipush 44, 2) := by decide +kernel
theorem dX12_layer_53 : decode cX12_layer 53 = .ok (.invokevirtual 171, 3) := by decide +kernel
theorem dX12_layer_56 : decode cX12_layer 56 = .ok (.aload_n 0, 1) := by decide +kernel
theorem dX12_layer_57 : decode cX12_layer 57 = .ok (.iconst 0, 1) := by decide +kernel
theorem dX12_layer_58 : decode cX12_layer 58 = .ok (.bipush 6, 2) := by decide +kernel
theorem dX12_layer_60 : decode cX12_layer 60 = .ok (.iload_n 2, 1) := by decide +kernel
theorem dX12_layer_61 : decode cX12_layer 61 = .ok (.isub, 1) := by decide +kernel
theorem dX12_layer_62 : decode cX12_layer 62 = .ok (.iconst 5, 1) := by decide +kernel
theorem dX12_layer_63 : decode cX12_layer 63 = .ok (.if_icmp .ge 10, 3) := by decide +kernel
theorem dX12_layer_66 : decode cX12_layer 66 = .ok (.bipush 6, 2) := by decide +kernel
theorem dX12_layer_68 : decode cX12_layer 68 = .ok (.iload_n 2, 1) := by decide +kernel
theorem dX12_layer_69 : decode cX12_layer 69 = .ok (.isub, 1) := by decide +kernel
theorem dX12_layer_70 : decode cX12_layer 70 = .ok (.goto 4, 3) := by decide +kernel
theorem dX12_layer_73 : decode cX12_layer 73 = .ok (.iconst 5, 1) := by decide +kernel
theorem dX12_layer_74 : decode cX12_layer 74 = .ok (.invokevirtual 167, 3) := by decide +kernel
theorem dX12_layer_77 : decode cX12_layer 77 = .ok (.istore 4, 2) := by decide +kernel
theorem dX12_layer_79 : decode cX12_layer 79 = .ok (.aload_n 0, 1) := by decide +kernel
theorem dX12_layer_80 : decode cX12_layer 80 = .ok (.invokevirtual 155, 3) := by decide +kernel
theorem dX12_layer_83 : decode cX12_layer 83 = .ok (.ifCond .ne 4, 3) := by decide +kernel
theorem dX12_layer_86 : decode cX12_layer 86 = .ok (.return_, 1) := by decide +kernel
theorem dX12_layer_87 : decode cX12_layer 87 = .ok (.iload 4, 2) := by decide +kernel
theorem dX12_layer_89 : decode cX12_layer 89 = .ok (.istore 5, 2) := by decide +kernel
theorem dX12_layer_91 : decode cX12_layer 91 = .ok (.iload 5, 2) := by decide +kernel
theorem dX12_layer_93 : decode cX12_layer 93 = .ok (.iload 4, 2) := by decide +kernel
theorem dX12_layer_95 : decode cX12_layer 95 = .ok (.iload_n 2, 1) := by decide +kernel
theorem dX12_layer_96 : decode cX12_layer 96 = .ok (.iadd, 1) := by decide +kernel
theorem dX12_layer_97 : decode cX12_layer 97 = .ok (.if_icmp .ge 93, 3) := by decide +kernel
theorem dX12_layer_100 : decode cX12_layer 100 = .ok (.iload_n 3, 1) := by decide +kernel
theorem dX12_layer_101 : decode cX12_layer 101 = .ok (.istore 6, 2) := by decide +kernel
theorem dX12_layer_103 : decode cX12_layer 103 = .ok (.iload 6, 2) := by decide +kernel
theorem dX12_layer_105 : decode cX12_layer 105 = .ok (.iload_n 3, 1) := by decide +kernel
theorem dX12_layer_106 : decode cX12_layer 106 = .ok (.iload_n 1, 1) := by decide +kernel
theorem dX12_layer_107 : decode cX12_layer 107 = .ok (.iadd, 1) := by decide +kernel
theorem dX12_layer_108 : decode cX12_layer 108 = .ok (.if_icmp .ge 76, 3) := by decide +kernel
theorem dX12_layer_111 : decode cX12_layer 111 = .ok (.sipush 216, 3) := by decide +kernel
theorem dX12_layer_114 : decode cX12_layer 114 = .ok (.aload_n 0, 1) := by decide +kernel
theorem dX12_layer_115 : decode cX12_layer 115 = .ok (.getfield 174, 3) := by decide +kernel
theorem dX12_layer_118 : decode cX12_layer 118 = .ok (.imul, 1) := by decide +kernel
theorem dX12_layer_119 : decode cX12_layer 119 = .ok (.aload_n 0, 1) := by decide +kernel
theorem dX12_layer_120 : decode cX12_layer 120 = .ok (.getfield 20, 3) := by decide +kernel
theorem dX12_layer_123 : decode cX12_layer 123 = .ok (.aload_n 0, 1) := by decide +kernel
theorem dX12_layer_124 : decode cX12_layer 124 = .ok (.getfield 174, 3) := by decide +kernel
theorem dX12_layer_127 : decode cX12_layer 127 = .ok (.iaload, 1) := by decide +kernel
theorem dX12_layer_128 : decode cX12_layer 128 = .ok (.iadd, 1) := by decide +kernel
theorem dX12_layer_129 : decode cX12_layer 129 = .ok (.istore 7, 2) := by decide +kernel
theorem dX12_layer_131 : decode cX12_layer 131 = .ok (.aload_n 0, 1) := by decide +kernel
theorem dX12_layer_132 : decode cX12_layer 132 = .ok (.getfield 26, 3) := by decide +kernel
theorem dX12_layer_135 : decode cX12_layer 135 = .ok (.iload 7, 2) := by decide +kernel
theorem dX12_layer_137 : decode cX12_layer 137 = .ok (.iload 6, 2) := by decide +kernel
theorem dX12_layer_139 : decode cX12_layer 139 = .ok (.iastore, 1) := by decide +kernel
theorem dX12_layer_140 : decode cX12_layer 140 = .ok (.aload_n 0, 1) := by decide +kernel
theorem dX12_layer_141 : decode cX12_layer 141 = .ok (.getfield 29, 3) := by decide +kernel
theorem dX12_layer_144 : decode cX12_layer 144 = .ok (.iload 7, 2) := by decide +kernel
theorem dX12_layer_146 : decode cX12_layer 146 = .ok (.iload 5, 2) := by decide +kernel
theorem dX12_layer_148 : decode cX12_layer 148 = .ok (.iastore, 1) := by decide +kernel
theorem dX12_layer_149 : decode cX12_layer 149 = .ok (.aload_n 0, 1) := by decide +kernel
theorem dX12_layer_150 : decode cX12_layer 150 = .ok (.getfield 32, 3) := by decide +kernel
theorem dX12_layer_153 : decode cX12_layer 153 = .ok (.iload 7, 2) := by decide +kernel
theorem dX12_layer_155 : decode cX12_layer 155 = .ok (.aload_n 0, 1) := by decide +kernel
theorem dX12_layer_156 : decode cX12_layer 156 = .ok (.getfield 23, 3) := by decide +kernel
theorem dX12_layer_159 : decode cX12_layer 159 = .ok (.aload_n 0, 1) := by decide +kernel
theorem dX12_layer_160 : decode cX12_layer 160 = .ok (.getfield 174, 3) := by decide +kernel
theorem dX12_layer_163 : decode cX12_layer 163 = .ok (.iaload, 1) := by decide +kernel
theorem dX12_layer_164 : decode cX12_layer 164 = .ok (.iastore, 1) := by decide +kernel
theorem dX12_layer_165 : decode cX12_layer 165 = .ok (.aload_n 0, 1) := by decide +kernel
theorem dX12_layer_166 : decode cX12_layer 166 = .ok (.getfield 20, 3) := by decide +kernel
theorem dX12_layer_169 : decode cX12_layer 169 = .ok (.aload_n 0, 1) := by decide +kernel
theorem dX12_layer_170 : decode cX12_layer 170 = .ok (.getfield 174, 3) := by decide +kernel
theorem dX12_layer_173 : decode cX12_layer 173 = .ok (.dup2, 1) := by decide +kernel
theorem dX12_layer_174 : decode cX12_layer 174 = .ok (.iaload, 1) := by decide +kernel
theorem dX12_layer_175 : decode cX12_layer 175 = .ok (.iconst 1, 1) := by decide +kernel
theorem dX12_layer_176 : decode cX12_layer 176 = .ok (.iadd, 1) := by decide +kernel
theorem dX12_layer_177 : decode cX12_layer 177 = .ok (.iastore, 1) := by decide +kernel
theorem dX12_layer_178 : decode cX12_layer 178 = .ok (.iinc 6 1, 3) := by decide +kernel
theorem dX12_layer_181 : decode cX12_layer 181 = .ok (.goto (-78), 3) := by decide +kernel
theorem dX12_layer_184 : decode cX12_layer 184 = .ok (.iinc 5 1, 3) := by decide +kernel
theorem dX12_layer_187 : decode cX12_layer 187 = .ok (.goto (-96), 3) := by decide +kernel
theorem dX12_layer_190 : decode cX12_layer 190 = .ok (.aload_n 0, 1) := by decide +kernel
theorem dX12_layer_191 : decode cX12_layer 191 = .ok (.getfield 23, 3) := by decide +kernel
theorem dX12_layer_194 : decode cX12_layer 194 = .ok (.aload_n 0, 1) := by decide +kernel
theorem dX12_layer_195 : decode cX12_layer 195 = .ok (.getfield 174, 3) := by decide +kernel
theorem dX12_layer_198 : decode cX12_layer 198 = .ok (.dup2, 1) := by decide +kernel
theorem dX12_layer_199 : decode cX12_layer 199 = .ok (.iaload, 1) := by decide +kernel
theorem dX12_layer_200 : decode cX12_layer 200 = .ok (.iconst 1, 1) := by decide +kernel
theorem dX12_layer_201 : decode cX12_layer 201 = .ok (.iadd, 1) := by decide +kernel
theorem dX12_layer_202 : decode cX12_layer 202 = .ok (.iastore, 1) := by decide +kernel
theorem dX12_layer_203 : decode cX12_layer 203 = .ok (.return_, 1) := by decide +kernel
theorem dX12_model_0 : decode cX12_model 0 = .ok (.aload_n 0, 1) := by decide +kernel
theorem dX12_model_1 : decode cX12_model 1 = .ok (.iconst 0, 1) := by decide +kernel
theorem dX12_model_2 : decode cX12_model 2 = .ok (.putfield 1, 3) := by decide +kernel
theorem dX12_model_5 : decode cX12_model 5 = .ok (.aload_n 0, 1) := by decide +kernel
theorem dX12_model_6 : decode cX12_model 6 = .ok (.iload_n 1, 1) := by decide +kernel
theorem dX12_model_7 : decode cX12_model 7 = .ok (.ifCond .lt 15, 3) := by decide +kernel
theorem dX12_model_10 : decode cX12_model 10 = .ok (.iload_n 1, 1) := by decide +kernel
theorem dX12_model_11 : decode cX12_model 11 = .ok (.aload_n 0, 1) := by decide +kernel
theorem dX12_model_12 : decode cX12_model 12 = .ok (.getfield 143, 3) := by decide +kernel
theorem dX12_model_15 : decode cX12_model 15 = .ok (.if_icmp .gt 7, 3) := by decide +kernel
theorem dX12_model_18 : decode cX12_model 18 = .ok (.iconst 1, 1) := by decide +kernel
theorem dX12_model_19 : decode cX12_model 19 = .ok (.goto 4, 3) := by decide +kernel
theorem dX12_model_22 : decode cX12_model 22 = .ok (.iconst 0, 1) := by decide +kernel
theorem dX12_model_23 : decode cX12_model 23 = .ok (.iconst 1, 1) := by decide +kernel
theorem dX12_model_24 : decode cX12_model 24 = .ok (.invokevirtual 133, 3) := by decide +kernel
theorem dX12_model_27 : decode cX12_model 27 = .ok (.ifCond .eq 25, 3) := by decide +kernel
theorem dX12_model_30 : decode cX12_model 30 = .ok (.aload_n 0, 1) := by decide +kernel
theorem dX12_model_31 : decode cX12_model 31 = .ok (.aload_n 0, 1) := by decide +kernel
theorem dX12_model_32 : decode cX12_model 32 = .ok (.getfield 174, 3) := by decide +kernel
theorem dX12_model_35 : decode cX12_model 35 = .ok (.bipush 6, 2) := by decide +kernel
theorem dX12_model_37 : decode cX12_model 37 = .ok (.if_icmp .ge 7, 3) := by decide +kernel
theorem dX12_model_40 : decode cX12_model 40 = .ok (.iconst 1, 1) := by decide +kernel
theorem dX12_model_41 : decode cX12_model 41 = .ok (.goto 4, 3) := by decide +kernel
theorem dX12_model_44 : decode cX12_model 44 = .ok (.iconst 0, 1) := by decide +kernel
theorem dX12_model_45 : decode cX12_model 45 = .ok (.iconst 2, 1) := by decide +kernel
theorem dX12_model_46 : decode cX12_model 46 = .ok (.invokevirtual 133, 3) := by decide +kernel
theorem dX12_model_49 : decode cX12_model 49 = .ok (.ifCond .ne 5, 3) := by decide +kernel
theorem dX12_model_52 : decode cX12_model 52 = .ok (.iconst 0, 1) := by decide +kernel
theorem dX12_model_53 : decode cX12_model 53 = .ok (.ireturn, 1) := by decide +kernel
theorem dX12_model_54 : decode cX12_model 54 = .ok (.aload_n 0, 1) := by decide +kernel
theorem dX12_model_55 : decode cX12_model 55 = .ok (.iconst 0, 1) := by decide +kernel
theorem dX12_model_56 : decode cX12_model 56 = .ok (.putfield 143, 3) := by decide +kernel
theorem dX12_model_59 : decode cX12_model 59 = .ok (.aload_n 0, 1) := by decide +kernel
theorem dX12_model_60 : decode cX12_model 60 = .ok (.iload_n 1, 1) := by decide +kernel
theorem dX12_model_61 : decode cX12_model 61 = .ok (.putfield 152, 3) := by decide +kernel
theorem dX12_model_64 : decode cX12_model 64 = .ok (.aload_n 0, 1) := by decide +kernel
theorem dX12_model_65 : decode cX12_model 65 = .ok (.iconst 0, 1) := by decide +kernel
theorem dX12_model_66 : decode cX12_model 66 = .ok (.putfield 149, 3) := by decide +kernel
theorem dX12_model_69 : decode cX12_model 69 = .ok (.aload_n 0, 1) := by decide +kernel
theorem dX12_model_70 : decode cX12_model 70 = .ok (.iconst (-1), 1) := by decide +kernel
theorem dX12_model_71 : decode cX12_model 71 = .ok (.putfield 146, 3) := by decide +kernel
theorem dX12_model_74 : decode cX12_model 74 = .ok (.aload_n 0, 1) := by decide +kernel
theorem dX12_model_75 : decode cX12_model 75 = .ok (.getfield 20, 3) := by decide +kernel
theorem dX12_model_78 : decode cX12_model 78 = .ok (.aload_n 0, 1) := by decide +kernel
theorem dX12_model_79 : decode cX12_model 79 = .ok (.getfield 174, 3) := by decide +kernel
theorem dX12_model_82 : decode cX12_model 82 = .ok (.iconst 0, 1) := by decide +kernel
theorem dX12_model_83 : decode cX12_model 83 = .ok (.iastore, 1) := by decide +kernel
theorem dX12_model_84 : decode cX12_model 84 = .ok (.aload_n 0, 1) := by decide +kernel
theorem dX12_model_85 : decode cX12_model 85 = .ok (.getfield 23, 3) := by decide +kernel
theorem dX12_model_88 : decode cX12_model 88 = .ok (.aload_n 0, 1) := by decide +kernel
theorem dX12_model_89 : decode cX12_model 89 = .ok (.getfield 174, 3) := by decide +kernel
theorem dX12_model_92 : decode cX12_model 92 = .ok (.iconst 0, 1) := by decide +kernel
theorem dX12_model_93 : decode cX12_model 93 = .ok (.iastore, 1) := by decide +kernel
theorem dX12_model_94 : decode cX12_model 94 = .ok (.aload_n 0, 1) := by decide +kernel
theorem dX12_model_95 : decode cX12_model 95 = .ok (.invokevirtual 177, 3) := by decide +kernel
theorem dX12_model_98 : decode cX12_model 98 = .ok (.aload_n 0, 1) := by decide +kernel
theorem dX12_model_99 : decode cX12_model 99 = .ok (.invokevirtual 155, 3) := by decide +kernel
theorem dX12_model_102 : decode cX12_model 102 = .ok (.ifCond .eq 61, 3) := by decide +kernel
theorem dX12_model_105 : decode cX12_model 105 = .ok (.aload_n 0, 1) := by decide +kernel
theorem dX12_model_106 : decode cX12_model 106 = .ok (.invokevirtual 180, 3) := by decide +kernel
theorem dX12_model_109 : decode cX12_model 109 = .ok (.ifCond .eq 54, 3) := by decide +kernel
theorem dX12_model_112 : decode cX12_model 112 = .ok (.aload_n 0, 1) := by decide +kernel
theorem dX12_model_113 : decode cX12_model 113 = .ok (.invokevirtual 159, 3) := by decide +kernel
theorem dX12_model_116 : decode cX12_model 116 = .ok (.bipush 59, 2) := by decide +kernel
theorem dX12_model_118 : decode cX12_model 118 = .ok (.if_icmp .ne 17, 3) := by decide +kernel
theorem dX12_model_121 : decode cX12_model 121 = .ok (.aload_n 0, 1) := by decide +kernel
theorem dX12_model_122 : decode cX12_model 122 = .ok (.getfield 23, 3) := by decide +kernel
theorem dX12_model_125 : decode cX12_model 125 = .ok (.aload_n 0, 1) := by decide +kernel
theorem dX12_model_126 : decode cX12_model 126 = .ok (.getfield 174, 3) := by decide +kernel
theorem dX12_model_129 : decode cX12_model 129 = .ok (.iaload, 1) := by decide +kernel
theorem dX12_model_130 : decode cX12_model 130 = .ok (.bipush 6, 2) := by decide +kernel
theorem dX12_model_132 : decode cX12_model 132 = .ok (.if_icmp .ne 14, 3) := by decide +kernel
theorem dX12_model_135 : decode cX12_model 135 = .ok (.aload_n 0, 1) := by decide +kernel
theorem dX12_model_136 : decode cX12_model 136 = .ok (.aload_n 0, 1) := by decide +kernel
theorem dX12_model_137 : decode cX12_model 137 = .ok (.getfield 149, 3) := by decide +kernel
theorem dX12_model_140 : decode cX12_model 140 = .ok (.invokevirtual 163, 3) := by decide +kernel
theorem dX12_model_143 : decode cX12_model 143 = .ok (.goto (-45), 3) := by decide +kernel
theorem dX12_model_146 : decode cX12_model 146 = .ok (.aload_n 0, 1) := by decide +kernel
theorem dX12_model_147 : decode cX12_model 147 = .ok (.dup, 1) := by decide +kernel
theorem dX12_model_148 : decode cX12_model 148 = .ok (.getfield 149, 3) := by decide +kernel
theorem dX12_model_151 : decode cX12_model 151 = .ok (.iconst 1, 1) := by decide +kernel
theorem dX12_model_152 : decode cX12_model 152 = .ok (.iadd, 1) := by decide +kernel
theorem dX12_model_153 : decode cX12_model 153 = .ok (.putfield 149, 3) := by decide +kernel
theorem dX12_model_156 : decode cX12_model 156 = .ok (.aload_n 0, 1) := by decide +kernel
theorem dX12_model_157 : decode cX12_model 157 = .ok (.invokevirtual 177, 3) := by decide +kernel
theorem dX12_model_160 : decode cX12_model 160 = .ok (.goto (-62), 3) := by decide +kernel
theorem dX12_model_163 : decode cX12_model 163 = .ok (.aload_n 0, 1) := by decide +kernel
theorem dX12_model_164 : decode cX12_model 164 = .ok (.invokevirtual 155, 3) := by decide +kernel
theorem dX12_model_167 : decode cX12_model 167 = .ok (.ifCond .ne 11, 3) := by decide +kernel
theorem dX12_model_170 : decode cX12_model 170 = .ok (.bipush (-2), 2) := by decide +kernel
theorem dX12_model_172 : decode cX12_model 172 = .ok (.aload_n 0, 1) := by decide +kernel
theorem dX12_model_173 : decode cX12_model 173 = .ok (.getfield 146, 3) := by decide +kernel
theorem dX12_model_176 : decode cX12_model 176 = .ok (.isub, 1) := by decide +kernel
theorem dX12_model_177 : decode cX12_model 177 = .ok (.ireturn, 1) := by decide +kernel
theorem dX12_model_178 : decode cX12_model 178 = .ok (.aload_n 0, 1) := by decide +kernel
theorem dX12_model_179 : decode cX12_model 179 = .ok (.dup, 1) := by decide +kernel
theorem dX12_model_180 : decode cX12_model 180 = .ok (.getfield 174, 3) := by decide +kernel
theorem dX12_model_183 : decode cX12_model 183 = .ok (.iconst 1, 1) := by decide +kernel
theorem dX12_model_184 : decode cX12_model 184 = .ok (.iadd, 1) := by decide +kernel
theorem dX12_model_185 : decode cX12_model 185 = .ok (.putfield 174, 3) := by decide +kernel
theorem dX12_model_188 : decode cX12_model 188 = .ok (.aload_n 0, 1) := by decide +kernel
theorem dX12_model_189 : decode cX12_model 189 = .ok (.getfield 174, 3) := by decide +kernel
theorem dX12_model_192 : decode cX12_model 192 = .ok (.iconst 1, 1) := by decide +kernel
theorem dX12_model_193 : decode cX12_model 193 = .ok (.isub, 1) := by decide +kernel
theorem dX12_model_194 : decode cX12_model 194 = .ok (.ireturn, 1) := by decide +kernel
theorem dX12_isModel_0 : decode cX12_isModel 0 = .ok (.aload_n 0, 1) := by decide +kernel
theorem dX12_isModel_1 : decode cX12_isModel 1 = .ok (.iload_n 1, 1) := by decide +kernel
theorem dX12_isModel_2 : decode cX12_isModel 2 = .ok (.iconst 0, 1) := by decide +kernel
theorem dX12_isModel_3 : decode cX12_isModel 3 = .ok (.aload_n 0, 1) := by decide +kernel
theorem dX12_isModel_4 : decode cX12_isModel 4 = .ok (.getfield 174, 3) := by decide +kernel
theorem dX12_isModel_7 : decode cX12_isModel 7 = .ok (.iconst 1, 1) := by decide +kernel
theorem dX12_isModel_8 : decode cX12_isModel 8 = .ok (.isub, 1) := by decide +kernel
theorem dX12_isModel_9 : decode cX12_isModel 9 = .ok (.invokestatic 129, 3) := by decide +kernel
theorem dX12_isModel_12 : decode cX12_isModel 12 = .ok (.iconst 2, 1) := by decide +kernel
theorem dX12_isModel_13 : decode cX12_isModel 13 = .ok (.invokevirtual 133, 3) := by decide +kernel
theorem dX12_isModel_16 : decode cX12_isModel 16 = .ok (.ireturn, 1) := by decide +kernel
theorem dX12_price_0 : decode cX12_price 0 = .ok (.aload_n 0, 1) := by decide +kernel
theorem dX12_price_1 : decode cX12_price 1 = .ok (.iconst 0, 1) := by decide +kernel
theorem dX12_price_2 : decode cX12_price 2 = .ok (.putfield 1, 3) := by decide +kernel
theorem dX12_price_5 : decode cX12_price 5 = .ok (.aload_n 0, 1) := by decide +kernel
theorem dX12_price_6 : decode cX12_price 6 = .ok (.iload_n 1, 1) := by decide +kernel
theorem dX12_price_7 : decode cX12_price 7 = .ok (.iconst 1, 1) := by decide +kernel
theorem dX12_price_8 : decode cX12_price 8 = .ok (.sipush 216, 3) := by decide +kernel
theorem dX12_price_11 : decode cX12_price 11 = .ok (.invokestatic 129, 3) := by decide +kernel
theorem dX12_price_14 : decode cX12_price 14 = .ok (.ifCond .eq 18, 3) := by decide +kernel
theorem dX12_price_17 : decode cX12_price 17 = .ok (.iload_n 2, 1) := by decide +kernel
theorem dX12_price_18 : decode cX12_price 18 = .ok (.iconst 0, 1) := by decide +kernel
theorem dX12_price_19 : decode cX12_price 19 = .ok (.sipush 10000, 3) := by decide +kernel
theorem dX12_price_22 : decode cX12_price 22 = .ok (.invokestatic 129, 3) := by decide +kernel
theorem dX12_price_25 : decode cX12_price 25 = .ok (.ifCond .eq 7, 3) := by decide +kernel
theorem dX12_price_28 : decode cX12_price 28 = .ok (.iconst 1, 1) := by decide +kernel
theorem dX12_price_29 : decode cX12_price 29 = .ok (.goto 4, 3) := by decide +kernel
theorem dX12_price_32 : decode cX12_price 32 = .ok (.iconst 0, 1) := by decide +kernel
theorem dX12_price_33 : decode cX12_price 33 = .ok (.iconst 1, 1) := by decide +kernel
theorem dX12_price_34 : decode cX12_price 34 = .ok (.invokevirtual 133, 3) := by decide +kernel
theorem dX12_price_37 : decode cX12_price 37 = .ok (.ifCond .ne 5, 3) := by decide +kernel
theorem dX12_price_40 : decode cX12_price 40 = .ok (.iconst 0, 1) := by decide +kernel
theorem dX12_price_41 : decode cX12_price 41 = .ok (.ireturn, 1) := by decide +kernel
theorem dX12_price_42 : decode cX12_price 42 = .ok (.iconst 0, 1) := by decide +kernel
theorem dX12_price_43 : decode cX12_price 43 = .ok (.istore_n 3, 1) := by decide +kernel
theorem dX12_price_44 : decode cX12_price 44 = .ok (.iload_n 3, 1) := by decide +kernel
theorem dX12_price_45 : decode cX12_price 45 = .ok (.aload_n 0, 1) := by decide +kernel
theorem dX12_price_46 : decode cX12_price 46 = .ok (.getfield 183, 3) := by decide +kernel
theorem dX12_price_49 : decode cX12_price 49 = .ok (.if_icmp .ge 19, 3) := by decide +kernel
theorem dX12_price_52 : decode cX12_price 52 = .ok (.aload_n 0, 1) := by decide +kernel
theorem dX12_price_53 : decode cX12_price 53 = .ok (.getfield 35, 3) := by decide +kernel
theorem dX12_price_56 : decode cX12_price 56 = .ok (.iload_n 3, 1) := by decide +kernel
theorem dX12_price_57 : decode cX12_price 57 = .ok (.iaload, 1) := by decide +kernel
theorem dX12_price_58 : decode cX12_price 58 = .ok (.iload_n 1, 1) := by decide +kernel
theorem dX12_price_59 : decode cX12_price 59 = .ok (.if_icmp .eq 9, 3) := by decide +kernel
theorem dX12_price_62 : decode cX12_price 62 = .ok (.iinc 3 1, 3) := by decide +kernel
theorem dX12_price_65 : decode cX12_price 65 = .ok (.goto (-21), 3) := by decide +kernel
theorem dX12_price_68 : decode cX12_price 68 = .ok (.iload_n 3, 1) := by decide +kernel
theorem dX12_price_69 : decode cX12_price 69 = .ok (.bipush 10, 2) := by decide +kernel
theorem dX12_price_71 : decode cX12_price 71 = .ok (.if_icmp .ne 5, 3) := by decide +kernel
theorem dX12_price_74 : decode cX12_price 74 = .ok (.iconst (-1), 1) := by decide +kernel
theorem dX12_price_75 : decode cX12_price 75 = .ok (.ireturn, 1) := by decide +kernel
theorem dX12_price_76 : decode cX12_price 76 = .ok (.iload_n 3, 1) := by decide +kernel
theorem dX12_price_77 : decode cX12_price 77 = .ok (.aload_n 0, 1) := by decide +kernel
theorem dX12_price_78 : decode cX12_price 78 = .ok (.getfield 183, 3) := by decide +kernel
theorem dX12_price_81 : decode cX12_price 81 = .ok (.if_icmp .ne 13, 3) := by decide +kernel
theorem dX12_price_84 : decode cX12_price 84 = .ok (.aload_n 0, 1) := by decide +kernel
theorem dX12_price_85 : decode cX12_price 85 = .ok (.dup, 1) := by decide +kernel
theorem dX12_price_86 : decode cX12_price 86 = .ok (.getfield 183, 3) := by decide +kernel
theorem dX12_price_89 : decode cX12_price 89 = .ok (.iconst 1, 1) := by decide +kernel
theorem dX12_price_90 : decode cX12_price 90 = .ok (.iadd, 1) := by decide +kernel
theorem dX12_price_91 : decode cX12_price 91 = .ok (.putfield 183, 3) := by decide +kernel
theorem dX12_price_94 : decode cX12_price 94 = .ok (.aload_n 0, 1) := by decide +kernel
theorem dX12_price_95 : decode cX12_price 95 = .ok (.getfield 35, 3) := by decide +kernel
theorem dX12_price_98 : decode cX12_price 98 = .ok (.iload_n 3, 1) := by decide +kernel
theorem dX12_price_99 : decode cX12_price 99 = .ok (.iload_n 1, 1) := by decide +kernel
theorem dX12_price_100 : decode cX12_price 100 = .ok (.iastore, 1) := by decide +kernel
theorem dX12_price_101 : decode cX12_price 101 = .ok (.aload_n 0, 1) := by decide +kernel
theorem dX12_price_102 : decode cX12_price 102 = .ok (.getfield 38, 3) := by decide +kernel
theorem dX12_price_105 : decode cX12_price 105 = .ok (.iload_n 3, 1) := by decide +kernel
theorem dX12_price_106 : decode cX12_price 106 = .ok (.iload_n 2, 1) := by decide +kernel
theorem dX12_price_107 : decode cX12_price 107 = .ok (.iastore, 1) := by decide +kernel
theorem dX12_price_108 : decode cX12_price 108 = .ok (.aload_n 0, 1) := by decide +kernel
theorem dX12_price_109 : decode cX12_price 109 = .ok (.getfield 183, 3) := by decide +kernel
theorem dX12_price_112 : decode cX12_price 112 = .ok (.ireturn, 1) := by decide +kernel
theorem dX12_worthOf_0 : decode cX12_worthOf 0 = .ok (.iconst (-1), 1) := by decide +kernel
theorem dX12_worthOf_1 : decode cX12_worthOf 1 = .ok (.istore_n 2, 1) := by decide +kernel
theorem dX12_worthOf_2 : decode cX12_worthOf 2 = .ok (.iconst 0, 1) := by decide +kernel
theorem dX12_worthOf_3 : decode cX12_worthOf 3 = .ok (.istore_n 3, 1) := by decide +kernel
theorem dX12_worthOf_4 : decode cX12_worthOf 4 = .ok (.iload_n 3, 1) := by decide +kernel
theorem dX12_worthOf_5 : decode cX12_worthOf 5 = .ok (.aload_n 0, 1) := by decide +kernel
theorem dX12_worthOf_6 : decode cX12_worthOf 6 = .ok (.getfield 183, 3) := by decide +kernel
theorem dX12_worthOf_9 : decode cX12_worthOf 9 = .ok (.if_icmp .ge 41, 3) := by decide +kernel
theorem dX12_worthOf_12 : decode cX12_worthOf 12 = .ok (.aload_n 0, 1) := by decide +kernel
theorem dX12_worthOf_13 : decode cX12_worthOf 13 = .ok (.getfield 35, 3) := by decide +kernel
theorem dX12_worthOf_16 : decode cX12_worthOf 16 = .ok (.iload_n 3, 1) := by decide +kernel
theorem dX12_worthOf_17 : decode cX12_worthOf 17 = .ok (.iaload, 1) := by decide +kernel
theorem dX12_worthOf_18 : decode cX12_worthOf 18 = .ok (.iload_n 1, 1) := by decide +kernel
theorem dX12_worthOf_19 : decode cX12_worthOf 19 = .ok (.if_icmp .gt 25, 3) := by decide +kernel
theorem dX12_worthOf_22 : decode cX12_worthOf 22 = .ok (.iload_n 2, 1) := by decide +kernel
theorem dX12_worthOf_23 : decode cX12_worthOf 23 = .ok (.iconst (-1), 1) := by decide +kernel
theorem dX12_worthOf_24 : decode cX12_worthOf 24 = .ok (.if_icmp .eq 18, 3) := by decide +kernel
theorem dX12_worthOf_27 : decode cX12_worthOf 27 = .ok (.aload_n 0, 1) := by decide +kernel
theorem dX12_worthOf_28 : decode cX12_worthOf 28 = .ok (.getfield 35, 3) := by decide +kernel
theorem dX12_worthOf_31 : decode cX12_worthOf 31 = .ok (.iload_n 3, 1) := by decide +kernel
theorem dX12_worthOf_32 : decode cX12_worthOf 32 = .ok (.iaload, 1) := by decide +kernel
theorem dX12_worthOf_33 : decode cX12_worthOf 33 = .ok (.aload_n 0, 1) := by decide +kernel
theorem dX12_worthOf_34 : decode cX12_worthOf 34 = .ok (.getfield 35, 3) := by decide +kernel
theorem dX12_worthOf_37 : decode cX12_worthOf 37 = .ok (.iload_n 2, 1) := by decide +kernel
theorem dX12_worthOf_38 : decode cX12_worthOf 38 = .ok (.iaload, 1) := by decide +kernel
theorem dX12_worthOf_39 : decode cX12_worthOf 39 = .ok (.if_icmp .le 5, 3) := by decide +kernel
theorem dX12_worthOf_42 : decode cX12_worthOf 42 = .ok (.iload_n 3, 1) := by decide +kernel
theorem dX12_worthOf_43 : decode cX12_worthOf 43 = .ok (.istore_n 2, 1) := by decide +kernel
theorem dX12_worthOf_44 : decode cX12_worthOf 44 = .ok (.iinc 3 1, 3) := by decide +kernel
theorem dX12_worthOf_47 : decode cX12_worthOf 47 = .ok (.goto (-43), 3) := by decide +kernel
theorem dX12_worthOf_50 : decode cX12_worthOf 50 = .ok (.iload_n 2, 1) := by decide +kernel
theorem dX12_worthOf_51 : decode cX12_worthOf 51 = .ok (.iconst (-1), 1) := by decide +kernel
theorem dX12_worthOf_52 : decode cX12_worthOf 52 = .ok (.if_icmp .ne 7, 3) := by decide +kernel
theorem dX12_worthOf_55 : decode cX12_worthOf 55 = .ok (.iconst 0, 1) := by decide +kernel
theorem dX12_worthOf_56 : decode cX12_worthOf 56 = .ok (.goto 11, 3) := by decide +kernel
theorem dX12_worthOf_59 : decode cX12_worthOf 59 = .ok (.iload_n 1, 1) := by decide +kernel
theorem dX12_worthOf_60 : decode cX12_worthOf 60 = .ok (.aload_n 0, 1) := by decide +kernel
theorem dX12_worthOf_61 : decode cX12_worthOf 61 = .ok (.getfield 38, 3) := by decide +kernel
theorem dX12_worthOf_64 : decode cX12_worthOf 64 = .ok (.iload_n 2, 1) := by decide +kernel
theorem dX12_worthOf_65 : decode cX12_worthOf 65 = .ok (.iaload, 1) := by decide +kernel
theorem dX12_worthOf_66 : decode cX12_worthOf 66 = .ok (.imul, 1) := by decide +kernel
theorem dX12_worthOf_67 : decode cX12_worthOf 67 = .ok (.ireturn, 1) := by decide +kernel
theorem dX12_worth_0 : decode cX12_worth 0 = .ok (.aload_n 0, 1) := by decide +kernel
theorem dX12_worth_1 : decode cX12_worth 1 = .ok (.iconst 0, 1) := by decide +kernel
theorem dX12_worth_2 : decode cX12_worth 2 = .ok (.putfield 1, 3) := by decide +kernel
theorem dX12_worth_5 : decode cX12_worth 5 = .ok (.aload_n 0, 1) := by decide +kernel
theorem dX12_worth_6 : decode cX12_worth 6 = .ok (.iload_n 1, 1) := by decide +kernel
theorem dX12_worth_7 : decode cX12_worth 7 = .ok (.iconst 0, 1) := by decide +kernel
theorem dX12_worth_8 : decode cX12_worth 8 = .ok (.sipush 216, 3) := by decide +kernel
theorem dX12_worth_11 : decode cX12_worth 11 = .ok (.invokestatic 129, 3) := by decide +kernel
theorem dX12_worth_14 : decode cX12_worth 14 = .ok (.iconst 1, 1) := by decide +kernel
theorem dX12_worth_15 : decode cX12_worth 15 = .ok (.invokevirtual 133, 3) := by decide +kernel
theorem dX12_worth_18 : decode cX12_worth 18 = .ok (.ifCond .ne 5, 3) := by decide +kernel
theorem dX12_worth_21 : decode cX12_worth 21 = .ok (.iconst 0, 1) := by decide +kernel
theorem dX12_worth_22 : decode cX12_worth 22 = .ok (.ireturn, 1) := by decide +kernel
theorem dX12_worth_23 : decode cX12_worth 23 = .ok (.aload_n 0, 1) := by decide +kernel
theorem dX12_worth_24 : decode cX12_worth 24 = .ok (.iload_n 1, 1) := by decide +kernel
theorem dX12_worth_25 : decode cX12_worth 25 = .ok (.invokevirtual 186, 3) := by decide +kernel
theorem dX12_worth_28 : decode cX12_worth 28 = .ok (.ireturn, 1) := by decide +kernel
theorem dX12_laid_0 : decode cX12_laid 0 = .ok (.aload_n 0, 1) := by decide +kernel
theorem dX12_laid_1 : decode cX12_laid 1 = .ok (.getfield 26, 3) := by decide +kernel
theorem dX12_laid_4 : decode cX12_laid 4 = .ok (.iload_n 1, 1) := by decide +kernel
theorem dX12_laid_5 : decode cX12_laid 5 = .ok (.iaload, 1) := by decide +kernel
theorem dX12_laid_6 : decode cX12_laid 6 = .ok (.istore 4, 2) := by decide +kernel
theorem dX12_laid_8 : decode cX12_laid 8 = .ok (.aload_n 0, 1) := by decide +kernel
theorem dX12_laid_9 : decode cX12_laid 9 = .ok (.getfield 29, 3) := by decide +kernel
theorem dX12_laid_12 : decode cX12_laid 12 = .ok (.iload_n 1, 1) := by decide +kernel
theorem dX12_laid_13 : decode cX12_laid 13 = .ok (.iaload, 1) := by decide +kernel
theorem dX12_laid_14 : decode cX12_laid 14 = .ok (.istore 5, 2) := by decide +kernel
theorem dX12_laid_16 : decode cX12_laid 16 = .ok (.aload_n 0, 1) := by decide +kernel
theorem dX12_laid_17 : decode cX12_laid 17 = .ok (.getfield 32, 3) := by decide +kernel
theorem dX12_laid_20 : decode cX12_laid 20 = .ok (.iload_n 1, 1) := by decide +kernel
theorem dX12_laid_21 : decode cX12_laid 21 = .ok (.iaload, 1) := by decide +kernel
theorem dX12_laid_22 : decode cX12_laid 22 = .ok (.istore 6, 2) := by decide +kernel
theorem dX12_laid_24 : decode cX12_laid 24 = .ok (.iload_n 2, 1) := by decide +kernel
theorem dX12_laid_25 : decode cX12_laid 25 = .ok (.tableswitch 145 0 4 #[35, 57, 79, 101, 123], 35) := by decide +kernel
theorem dX12_laid_60 : decode cX12_laid 60 = .ok (.iload_n 3, 1) := by decide +kernel
theorem dX12_laid_61 : decode cX12_laid 61 = .ok (.ifCond .ne 8, 3) := by decide +kernel
theorem dX12_laid_64 : decode cX12_laid 64 = .ok (.iload 4, 2) := by decide +kernel
theorem dX12_laid_66 : decode cX12_laid 66 = .ok (.goto 15, 3) := by decide +kernel
theorem dX12_laid_69 : decode cX12_laid 69 = .ok (.iload_n 3, 1) := by decide +kernel
theorem dX12_laid_70 : decode cX12_laid 70 = .ok (.iconst 1, 1) := by decide +kernel
theorem dX12_laid_71 : decode cX12_laid 71 = .ok (.if_icmp .ne 8, 3) := by decide +kernel
theorem dX12_laid_74 : decode cX12_laid 74 = .ok (.iload 5, 2) := by decide +kernel
theorem dX12_laid_76 : decode cX12_laid 76 = .ok (.goto 5, 3) := by decide +kernel
theorem dX12_laid_79 : decode cX12_laid 79 = .ok (.iload 6, 2) := by decide +kernel
theorem dX12_laid_81 : decode cX12_laid 81 = .ok (.ireturn, 1) := by decide +kernel
theorem dX12_laid_82 : decode cX12_laid 82 = .ok (.iload_n 3, 1) := by decide +kernel
theorem dX12_laid_83 : decode cX12_laid 83 = .ok (.ifCond .ne 8, 3) := by decide +kernel
theorem dX12_laid_86 : decode cX12_laid 86 = .ok (.iload 4, 2) := by decide +kernel
theorem dX12_laid_88 : decode cX12_laid 88 = .ok (.goto 15, 3) := by decide +kernel
theorem dX12_laid_91 : decode cX12_laid 91 = .ok (.iload_n 3, 1) := by decide +kernel
theorem dX12_laid_92 : decode cX12_laid 92 = .ok (.iconst 1, 1) := by decide +kernel
theorem dX12_laid_93 : decode cX12_laid 93 = .ok (.if_icmp .ne 8, 3) := by decide +kernel
theorem dX12_laid_96 : decode cX12_laid 96 = .ok (.iload 6, 2) := by decide +kernel
theorem dX12_laid_98 : decode cX12_laid 98 = .ok (.goto 5, 3) := by decide +kernel
theorem dX12_laid_101 : decode cX12_laid 101 = .ok (.iload 5, 2) := by decide +kernel
theorem dX12_laid_103 : decode cX12_laid 103 = .ok (.ireturn, 1) := by decide +kernel
theorem dX12_laid_104 : decode cX12_laid 104 = .ok (.iload_n 3, 1) := by decide +kernel
theorem dX12_laid_105 : decode cX12_laid 105 = .ok (.ifCond .ne 8, 3) := by decide +kernel
theorem dX12_laid_108 : decode cX12_laid 108 = .ok (.iload 5, 2) := by decide +kernel
theorem dX12_laid_110 : decode cX12_laid 110 = .ok (.goto 15, 3) := by decide +kernel
theorem dX12_laid_113 : decode cX12_laid 113 = .ok (.iload_n 3, 1) := by decide +kernel
theorem dX12_laid_114 : decode cX12_laid 114 = .ok (.iconst 1, 1) := by decide +kernel
theorem dX12_laid_115 : decode cX12_laid 115 = .ok (.if_icmp .ne 8, 3) := by decide +kernel
theorem dX12_laid_118 : decode cX12_laid 118 = .ok (.iload 4, 2) := by decide +kernel
theorem dX12_laid_120 : decode cX12_laid 120 = .ok (.goto 5, 3) := by decide +kernel
theorem dX12_laid_123 : decode cX12_laid 123 = .ok (.iload 6, 2) := by decide +kernel
theorem dX12_laid_125 : decode cX12_laid 125 = .ok (.ireturn, 1) := by decide +kernel
theorem dX12_laid_126 : decode cX12_laid 126 = .ok (.iload_n 3, 1) := by decide +kernel
theorem dX12_laid_127 : decode cX12_laid 127 = .ok (.ifCond .ne 8, 3) := by decide +kernel
theorem dX12_laid_130 : decode cX12_laid 130 = .ok (.iload 5, 2) := by decide +kernel
theorem dX12_laid_132 : decode cX12_laid 132 = .ok (.goto 15, 3) := by decide +kernel
theorem dX12_laid_135 : decode cX12_laid 135 = .ok (.iload_n 3, 1) := by decide +kernel
theorem dX12_laid_136 : decode cX12_laid 136 = .ok (.iconst 1, 1) := by decide +kernel
theorem dX12_laid_137 : decode cX12_laid 137 = .ok (.if_icmp .ne 8, 3) := by decide +kernel
theorem dX12_laid_140 : decode cX12_laid 140 = .ok (.iload 6, 2) := by decide +kernel
theorem dX12_laid_142 : decode cX12_laid 142 = .ok (.goto 5, 3) := by decide +kernel
theorem dX12_laid_145 : decode cX12_laid 145 = .ok (.iload 4, 2) := by decide +kernel
theorem dX12_laid_147 : decode cX12_laid 147 = .ok (.ireturn, 1) := by decide +kernel
theorem dX12_laid_148 : decode cX12_laid 148 = .ok (.iload_n 3, 1) := by decide +kernel
theorem dX12_laid_149 : decode cX12_laid 149 = .ok (.ifCond .ne 8, 3) := by decide +kernel
theorem dX12_laid_152 : decode cX12_laid 152 = .ok (.iload 6, 2) := by decide +kernel
theorem dX12_laid_154 : decode cX12_laid 154 = .ok (.goto 15, 3) := by decide +kernel
theorem dX12_laid_157 : decode cX12_laid 157 = .ok (.iload_n 3, 1) := by decide +kernel
theorem dX12_laid_158 : decode cX12_laid 158 = .ok (.iconst 1, 1) := by decide +kernel
theorem dX12_laid_159 : decode cX12_laid 159 = .ok (.if_icmp .ne 8, 3) := by decide +kernel
theorem dX12_laid_162 : decode cX12_laid 162 = .ok (.iload 4, 2) := by decide +kernel
theorem dX12_laid_164 : decode cX12_laid 164 = .ok (.goto 5, 3) := by decide +kernel
theorem dX12_laid_167 : decode cX12_laid 167 = .ok (.iload 5, 2) := by decide +kernel
theorem dX12_laid_169 : decode cX12_laid 169 = .ok (.ireturn, 1) := by decide +kernel
theorem dX12_laid_170 : decode cX12_laid 170 = .ok (.iload_n 3, 1) := by decide +kernel
theorem dX12_laid_171 : decode cX12_laid 171 = .ok (.ifCond .ne 8, 3) := by decide +kernel
theorem dX12_laid_174 : decode cX12_laid 174 = .ok (.iload 6, 2) := by decide +kernel
theorem dX12_laid_176 : decode cX12_laid 176 = .ok (.goto 15, 3) := by decide +kernel
theorem dX12_laid_179 : decode cX12_laid 179 = .ok (.iload_n 3, 1) := by decide +kernel
theorem dX12_laid_180 : decode cX12_laid 180 = .ok (.iconst 1, 1) := by decide +kernel
theorem dX12_laid_181 : decode cX12_laid 181 = .ok (.if_icmp .ne 8, 3) := by decide +kernel
theorem dX12_laid_184 : decode cX12_laid 184 = .ok (.iload 5, 2) := by decide +kernel
theorem dX12_laid_186 : decode cX12_laid 186 = .ok (.goto 5, 3) := by decide +kernel
theorem dX12_laid_189 : decode cX12_laid 189 = .ok (.iload 4, 2) := by decide +kernel
theorem dX12_laid_191 : decode cX12_laid 191 = .ok (.ireturn, 1) := by decide +kernel
def F_X12_thrown (a0 : Nat) (h0 : PM) : Option (Int32 × PM) := gI h0 a0 13 0 fun x1 => some (x1, h0)
set_option maxRecDepth 100000 in
set_option maxHeartbeats 4000000 in
theorem S_X12_thrown {a0 : Nat} {h0 : PM} (r : Int32) (h' : PM) (hF : F_X12_thrown a0 h0 = some (r, h')) : CN yX12_thrown cX12_thrown 1 (some .int) 0 0 0 [.ref a0] h0 (some (.int r)) h' := by
  obtain ⟨X, eX⟩ : ∃ X, X = (r, h') := ⟨_, rfl⟩
  rw [← eX] at hF
  have e1 : r = X.1 := by rw [eX]
  have e2 : h' = X.2 := by rw [eX]
  rw [e1, e2]
  clear eX e1 e2
  unfold F_X12_thrown at hF
  refine CN_of (by decide) (fun ρ => Nat.le_of_ble_eq_true rfl) rfl ?_
  intro p l e s m args below meth c D cy base ρ hT C V hr hnm
  refine r_aload_n C dX12_thrown_0 rfl 0 rfl ?_
  refine k_gI C dX12_thrown_1 fd_X12_1 (by decide) hF (fun x1 hF => ?_)
  exact k_iret C dX12_thrown_4 hr (by decide) (by decide) hF
def F_X12_may (a0 : Nat) (a1 : Int32) (a2 : Int32) (h0 : PM) : Option (Int32 × PM) := jn (fun  (h1 : PM) => gI h1 a0 13 0 fun x2 => jn (fun (s3 : Int32) (h4 : PM) => rz s3 h4) fun k28 => if ¬ x2 = 0 then (k28 0 h1) else (k28 1 h1)) fun k16 => if ¬ a1 = 0 then (k16 h0) else (gI h0 a0 13 0 fun x5 => if ¬ x5 = 0 then (k16 h0) else (pI h0 a0 13 0 a2 fun h6 => k16 h6))
set_option maxRecDepth 100000 in
set_option maxHeartbeats 4000000 in
theorem S_X12_may {a0 : Nat} {a1 : Int32} {a2 : Int32} {h0 : PM} (r : Int32) (h' : PM) (hF : F_X12_may a0 a1 a2 h0 = some (r, h')) : CN yX12_may cX12_may 3 (some .boolean) 0 0 0 [.ref a0, .int a1, .int a2] h0 (some (.int r)) h' := by
  obtain ⟨X, eX⟩ : ∃ X, X = (r, h') := ⟨_, rfl⟩
  rw [← eX] at hF
  have e1 : r = X.1 := by rw [eX]
  have e2 : h' = X.2 := by rw [eX]
  rw [e1, e2]
  clear eX e1 e2
  unfold F_X12_may at hF
  refine CN_of (by decide) (fun ρ => Nat.le_of_ble_eq_true rfl) rfl ?_
  intro p l e s m args below meth c D cy base ρ hT C V hr hnm
  refine r_iload_n C dX12_may_0 rfl 1 rfl ?_
  obtain ⟨k16, ek16, hF⟩ := jn_some hF
  have Jk16 : ∀  (h1 : PM), k16 h1 = some X → WP p l e (rmN 0 0 0) s m args below meth c D cy base ρ h0 0 0 3 (MQ below (QR D cy base ρ h0 (some (.int X.1)) X.2) args s 0 0 (fun q => base ≤ q)) 16 [(0, .ref a0)] [] h1 := by
    intro h1 hF
    rw [ek16] at hF
    refine r_aload_n C dX12_may_16 rfl 0 rfl ?_
    refine k_gI C dX12_may_17 fd_X12_1 (by decide) hF (fun x2 hF => ?_)
    obtain ⟨k28, ek28, hF⟩ := jn_some hF
    have Jk28 : ∀ (s3 : Int32) (h4 : PM), k28 s3 h4 = some X → WP p l e (rmN 0 0 0) s m args below meth c D cy base ρ h0 0 0 3 (MQ below (QR D cy base ρ h0 (some (.int X.1)) X.2) args s 0 0 (fun q => base ≤ q)) 28 [] [.int s3] h4 := by
      intro s3 h4 hF
      rw [ek28] at hF
      exact k_zret C dX12_may_28 hr (by decide) (by decide) hF
    refine r_if_ne (tgt := 27) C dX12_may_20 (by decide) hF (fun hF => ?_) (fun hF => ?_)
    · refine r_iconst (v := 0) C dX12_may_27 (by decide) ?_
      exact r_sub [] rfl (Jk28 _ _ hF)
    · refine r_iconst (v := 1) C dX12_may_23 (by decide) ?_
      refine r_goto (tgt := 28) C dX12_may_24 (by decide) ?_
      exact r_sub [] rfl (Jk28 _ _ hF)
  refine r_if_ne (tgt := 16) C dX12_may_1 (by decide) hF (fun hF => ?_) (fun hF => ?_)
  · exact r_sub [0] rfl (Jk16  _ hF)
  · refine r_aload_n C dX12_may_4 rfl 0 rfl ?_
    refine k_gI C dX12_may_5 fd_X12_1 (by decide) hF (fun x5 hF => ?_)
    refine r_if_ne (tgt := 16) C dX12_may_8 (by decide) hF (fun hF => ?_) (fun hF => ?_)
    · exact r_sub [0] rfl (Jk16  _ hF)
    · refine r_aload_n C dX12_may_11 rfl 0 rfl ?_
      refine r_iload_n C dX12_may_12 rfl 2 rfl ?_
      refine k_pI C dX12_may_13 fd_X12_1 (fun z => by cases z) (by decide) hF (fun h6 hF => ?_)
      exact r_sub [0] rfl (Jk16  _ hF)
def F_X12_within (a0 : Int32) (a1 : Int32) (a2 : Int32) (h0 : PM) : Option (Int32 × PM) := jn (fun (s1 : Int32) (h2 : PM) => rz s1 h2) fun k15 => jn (fun  (h3 : PM) => k15 0 h3) fun k14 => if a0 < a1 then (k14 h0) else (if a2 < a0 then (k14 h0) else (k15 1 h0))
set_option maxRecDepth 100000 in
set_option maxHeartbeats 4000000 in
theorem S_X12_within {a0 : Int32} {a1 : Int32} {a2 : Int32} {h0 : PM} (r : Int32) (h' : PM) (hF : F_X12_within a0 a1 a2 h0 = some (r, h')) : CN yX12_within cX12_within 3 (some .boolean) 0 0 0 [.int a0, .int a1, .int a2] h0 (some (.int r)) h' := by
  obtain ⟨X, eX⟩ : ∃ X, X = (r, h') := ⟨_, rfl⟩
  rw [← eX] at hF
  have e1 : r = X.1 := by rw [eX]
  have e2 : h' = X.2 := by rw [eX]
  rw [e1, e2]
  clear eX e1 e2
  unfold F_X12_within at hF
  refine CN_of (by decide) (fun ρ => Nat.le_of_ble_eq_true rfl) rfl ?_
  intro p l e s m args below meth c D cy base ρ hT C V hr hnm
  refine r_iload_n C dX12_within_0 rfl 0 rfl ?_
  refine r_iload_n C dX12_within_1 rfl 1 rfl ?_
  obtain ⟨k15, ek15, hF⟩ := jn_some hF
  have Jk15 : ∀ (s1 : Int32) (h2 : PM), k15 s1 h2 = some X → WP p l e (rmN 0 0 0) s m args below meth c D cy base ρ h0 0 0 3 (MQ below (QR D cy base ρ h0 (some (.int X.1)) X.2) args s 0 0 (fun q => base ≤ q)) 15 [] [.int s1] h2 := by
    intro s1 h2 hF
    rw [ek15] at hF
    exact k_zret C dX12_within_15 hr (by decide) (by decide) hF
  obtain ⟨k14, ek14, hF⟩ := jn_some hF
  have Jk14 : ∀  (h3 : PM), k14 h3 = some X → WP p l e (rmN 0 0 0) s m args below meth c D cy base ρ h0 0 0 3 (MQ below (QR D cy base ρ h0 (some (.int X.1)) X.2) args s 0 0 (fun q => base ≤ q)) 14 [] [] h3 := by
    intro h3 hF
    rw [ek14] at hF
    refine r_iconst (v := 0) C dX12_within_14 (by decide) ?_
    exact Jk15 _ _ hF
  refine r_icmp_lt (tgt := 14) C dX12_within_2 (by decide) hF (fun hF => ?_) (fun hF => ?_)
  · exact r_sub [] rfl (Jk14  _ hF)
  · refine r_iload_n C dX12_within_5 rfl 0 rfl ?_
    refine r_iload_n C dX12_within_6 rfl 2 rfl ?_
    refine r_icmp_gt (tgt := 14) C dX12_within_7 (by decide) hF (fun hF => ?_) (fun hF => ?_)
    · exact r_sub [] rfl (Jk14  _ hF)
    · refine r_iconst (v := 1) C dX12_within_10 (by decide) ?_
      refine r_goto (tgt := 15) C dX12_within_11 (by decide) ?_
      exact r_sub [] rfl (Jk15 _ _ hF)
def F_X12_rough (a0 : Nat) (h0 : PM) : Option (Int32 × PM) := pI h0 a0 13 0 0 fun h1 => gI h1 a0 13 1 fun x2 => if ¬ x2 = 10 then (gI h1 a0 13 1 fun x3 => pI h1 a0 13 1 (x3 + 1) fun h4 => gI h4 a0 13 1 fun x5 => some (x5 - 1, h4)) else (some ((-1), h1))
set_option maxRecDepth 100000 in
set_option maxHeartbeats 4000000 in
theorem S_X12_rough {a0 : Nat} {h0 : PM} (r : Int32) (h' : PM) (hF : F_X12_rough a0 h0 = some (r, h')) : CN yX12_rough cX12_rough 1 (some .int) 0 0 0 [.ref a0] h0 (some (.int r)) h' := by
  obtain ⟨X, eX⟩ : ∃ X, X = (r, h') := ⟨_, rfl⟩
  rw [← eX] at hF
  have e1 : r = X.1 := by rw [eX]
  have e2 : h' = X.2 := by rw [eX]
  rw [e1, e2]
  clear eX e1 e2
  unfold F_X12_rough at hF
  refine CN_of (by decide) (fun ρ => Nat.le_of_ble_eq_true rfl) rfl ?_
  intro p l e s m args below meth c D cy base ρ hT C V hr hnm
  refine r_aload_n C dX12_rough_0 rfl 0 rfl ?_
  refine r_iconst (v := 0) C dX12_rough_1 (by decide) ?_
  refine k_pI C dX12_rough_2 fd_X12_1 (fun z => by cases z) (by decide) hF (fun h1 hF => ?_)
  refine r_aload_n C dX12_rough_5 rfl 0 rfl ?_
  refine k_gI C dX12_rough_6 fd_X12_126 (by decide) hF (fun x2 hF => ?_)
  refine r_bipush (v := 10) C dX12_rough_9 (by decide) ?_
  refine r_icmp_ne (tgt := 16) C dX12_rough_11 (by decide) hF (fun hF => ?_) (fun hF => ?_)
  · refine r_aload_n C dX12_rough_16 rfl 0 rfl ?_
    refine r_dup C dX12_rough_17 rfl ?_
    refine k_gI C dX12_rough_18 fd_X12_126 (by decide) hF (fun x3 hF => ?_)
    refine r_iconst (v := 1) C dX12_rough_21 (by decide) ?_
    refine r_iadd C dX12_rough_22 ?_
    refine k_pI C dX12_rough_23 fd_X12_126 (fun z => by cases z) (by decide) hF (fun h4 hF => ?_)
    refine r_aload_n C dX12_rough_26 rfl 0 rfl ?_
    refine k_gI C dX12_rough_27 fd_X12_126 (by decide) hF (fun x5 hF => ?_)
    refine r_iconst (v := 1) C dX12_rough_30 (by decide) ?_
    refine r_isub C dX12_rough_31 ?_
    exact k_iret C dX12_rough_32 hr (by decide) (by decide) hF
  · refine r_iconst (v := (-1)) C dX12_rough_14 (by decide) ?_
    exact k_iret C dX12_rough_15 hr (by decide) (by decide) hF
def F_X12_isRough (a0 : Nat) (a1 : Int32) (h0 : PM) : Option (Int32 × PM) := gI h0 a0 13 1 fun x1 => cl (F_X12_within a1 0 (x1 - 1) h0) fun r2 h3 => tst h3 a0 13 (cl (F_X12_may a0 r2 1 h3) fun r5 h6 => rz r5 h6)
set_option maxRecDepth 100000 in
set_option maxHeartbeats 4000000 in
theorem S_X12_isRough {a0 : Nat} {a1 : Int32} {h0 : PM} (r : Int32) (h' : PM) (hF : F_X12_isRough a0 a1 h0 = some (r, h')) : CN yX12_isRough cX12_isRough 2 (some .boolean) 0 0 1 [.ref a0, .int a1] h0 (some (.int r)) h' := by
  obtain ⟨X, eX⟩ : ∃ X, X = (r, h') := ⟨_, rfl⟩
  rw [← eX] at hF
  have e1 : r = X.1 := by rw [eX]
  have e2 : h' = X.2 := by rw [eX]
  rw [e1, e2]
  clear eX e1 e2
  unfold F_X12_isRough at hF
  refine CN_of (by decide) (fun ρ => Nat.le_of_ble_eq_true rfl) rfl ?_
  intro p l e s m args below meth c D cy base ρ hT C V hr hnm
  refine r_aload_n C dX12_isRough_0 rfl 0 rfl ?_
  refine r_iload_n C dX12_isRough_1 rfl 1 rfl ?_
  refine r_iconst (v := 0) C dX12_isRough_2 (by decide) ?_
  refine r_aload_n C dX12_isRough_3 rfl 0 rfl ?_
  refine k_gI C dX12_isRough_4 fd_X12_126 (by decide) hF (fun x1 hF => ?_)
  refine r_iconst (v := 1) C dX12_isRough_7 (by decide) ?_
  refine r_isub C dX12_isRough_8 ?_
  obtain ⟨r2, h3, hc4, hF⟩ := cl_some hF
  refine r_callS (As := [.int a1, .int 0, .int (x1 - 1)]) C dX12_isRough_9 V hT cal_X12_within ml_X12_129 sm_X12_within (by decide) rfl rfl (Nat.le_of_ble_eq_true rfl) (by decide) (by decide) (S_X12_within _ _ hc4) ?_
  refine r_iconst (v := 1) C dX12_isRough_12 (by decide) ?_
  obtain ⟨ht, hF⟩ := tst_some hF
  obtain ⟨r5, h6, hc7, hF⟩ := cl_some hF
  refine r_callV (As := [.int r2, .int 1]) C dX12_isRough_13 V hT cal_X12_may cls_13 ml_X12_133 im_X12_may se_X12_may ht (by decide) rfl rfl (Nat.le_of_ble_eq_true rfl) (by decide) (by decide) (S_X12_may _ _ hc7) ?_
  exact k_zret C dX12_isRough_16 hr (by decide) (by decide) hF
def F_X12_stuff_L19 (c0 : Nat) (c1 : Int32) (k47 : Int32 → PM → Option (Int32 × PM)) : Nat → Int32 → Int32 → PM → Option (Int32 × PM)
  | 0, _, _, _ => none
  | fu + 1, v7, v8, h9 => if 216 ≤ v8 then (k47 v7 h9) else (gR h9 c0 13 2 fun x10 => aI h9 x10 ((216 * c1) + v8) fun x11 => lt_ (v7 + x11) fun x12 => F_X12_stuff_L19 c0 c1 k47 fu x12 (v8 + 1) h9)
def F_X12_stuff (a0 : Nat) (a1 : Int32) (h0 : PM) : Option (Int32 × PM) := pI h0 a0 13 0 0 fun h1 => tst h1 a0 13 (cl (F_X12_isRough a0 a1 h1) fun r2 h3 => if ¬ r2 = 0 then (jn (fun (v5 : Int32) (h6 : PM) => some (v5, h6)) fun k47 => F_X12_stuff_L19 a0 a1 k47 LF 0 0 h3) else (some (0, h3)))
set_option maxRecDepth 100000 in
set_option maxHeartbeats 4000000 in
theorem S_X12_stuff {a0 : Nat} {a1 : Int32} {h0 : PM} (r : Int32) (h' : PM) (hF : F_X12_stuff a0 a1 h0 = some (r, h')) : CN yX12_stuff cX12_stuff 4 (some .int) 0 0 2 [.ref a0, .int a1] h0 (some (.int r)) h' := by
  obtain ⟨X, eX⟩ : ∃ X, X = (r, h') := ⟨_, rfl⟩
  rw [← eX] at hF
  have e1 : r = X.1 := by rw [eX]
  have e2 : h' = X.2 := by rw [eX]
  rw [e1, e2]
  clear eX e1 e2
  unfold F_X12_stuff at hF
  refine CN_of (by decide) (fun ρ => Nat.le_of_ble_eq_true rfl) rfl ?_
  intro p l e s m args below meth c D cy base ρ hT C V hr hnm
  refine r_aload_n C dX12_stuff_0 rfl 0 rfl ?_
  refine r_iconst (v := 0) C dX12_stuff_1 (by decide) ?_
  refine k_pI C dX12_stuff_2 fd_X12_1 (fun z => by cases z) (by decide) hF (fun h1 hF => ?_)
  refine r_aload_n C dX12_stuff_5 rfl 0 rfl ?_
  refine r_iload_n C dX12_stuff_6 rfl 1 rfl ?_
  obtain ⟨ht, hF⟩ := tst_some hF
  obtain ⟨r2, h3, hc4, hF⟩ := cl_some hF
  refine r_callV (As := [.int a1]) C dX12_stuff_7 V hT cal_X12_isRough cls_13 ml_X12_137 im_X12_isRough se_X12_isRough ht (by decide) rfl rfl (Nat.le_of_ble_eq_true rfl) (by decide) (by decide) (S_X12_isRough _ _ hc4) ?_
  refine r_if_ne (tgt := 15) C dX12_stuff_10 (by decide) hF (fun hF => ?_) (fun hF => ?_)
  · refine r_iconst (v := 0) C dX12_stuff_15 (by decide) ?_
    refine r_istore_n C dX12_stuff_16 rfl (by decide) rfl ?_
    refine r_iconst (v := 0) C dX12_stuff_17 (by decide) ?_
    refine r_istore_n C dX12_stuff_18 rfl (by decide) rfl ?_
    obtain ⟨k47, ek47, hF⟩ := jn_some hF
    have Jk47 : ∀ (v5 : Int32) (h6 : PM), k47 v5 h6 = some X → WP p l e (rmN 0 0 2) s m args below meth c D cy base ρ h0 0 0 4 (MQ below (QR D cy base ρ h0 (some (.int X.1)) X.2) args s 0 0 (fun q => base ≤ q)) 47 [(2, .int v5)] [] h6 := by
      intro v5 h6 hF
      rw [ek47] at hF
      refine r_iload_n C dX12_stuff_47 rfl 0 rfl ?_
      exact k_iret C dX12_stuff_48 hr (by decide) (by decide) hF
    have L19 : ∀ (fu : Nat) (v7 : Int32) (v8 : Int32) (h9 : PM), F_X12_stuff_L19 a0 a1 k47 fu v7 v8 h9 = some X → WP p l e (rmN 0 0 2) s m args below meth c D cy base ρ h0 0 0 4 (MQ below (QR D cy base ρ h0 (some (.int X.1)) X.2) args s 0 0 (fun q => base ≤ q)) 19 [(0, .ref a0), (1, .int a1), (2, .int v7), (3, .int v8)] [] h9 := by
      intro fu
      induction fu with
      | zero => intro v7 v8 h9 hF; rw [F_X12_stuff_L19.eq_1] at hF; cases hF
      | succ fu ih =>
        intro v7 v8 h9 hF
        rw [F_X12_stuff_L19.eq_2] at hF
        refine r_iload_n C dX12_stuff_19 rfl 3 rfl ?_
        refine r_sipush (v := 216) C dX12_stuff_20 (by decide) ?_
        refine r_icmp_ge (tgt := 47) C dX12_stuff_23 (by decide) hF (fun hF => ?_) (fun hF => ?_)
        · exact r_sub [2] rfl (Jk47 _ _ hF)
        · refine r_iload_n C dX12_stuff_26 rfl 2 rfl ?_
          refine r_aload_n C dX12_stuff_27 rfl 0 rfl ?_
          refine k_gR C dX12_stuff_28 fd_X12_13 (by decide) hF (fun x10 hF => ?_)
          refine r_sipush (v := 216) C dX12_stuff_31 (by decide) ?_
          refine r_iload_n C dX12_stuff_34 rfl 1 rfl ?_
          refine r_imul C dX12_stuff_35 ?_
          refine r_iload_n C dX12_stuff_36 rfl 3 rfl ?_
          refine r_iadd C dX12_stuff_37 ?_
          refine k_aI C dX12_stuff_38 hF (fun x11 hF => ?_)
          refine r_iadd C dX12_stuff_39 ?_
          refine k_lti hF (fun x12 hF => ?_)
          refine r_istore_n C dX12_stuff_40 rfl (by decide) rfl ?_
          refine r_iinc (v := v8 + 1) C dX12_stuff_41 3 rfl (congrArg (fun z => v8 + z) (by decide)) (by decide) rfl ?_
          refine r_goto (tgt := 19) C dX12_stuff_44 (by decide) ?_
          exact r_sub [2, 3, 1, 0] rfl (ih _ _ _ hF)
    exact r_sub [2, 3, 1, 0] rfl (L19 _ _ _ _ hF)
  · refine r_iconst (v := 0) C dX12_stuff_13 (by decide) ?_
    exact k_iret C dX12_stuff_14 hr (by decide) (by decide) hF
def F_X12_scan_L78 (c0 : Nat) (c1 : Int32) (c2 : Int32) (c3 : Int64) (c5 : Int64) (k148 : Int32 → PM → Option (Int32 × PM)) : Nat → Int32 → Int32 → PM → Option (Int32 × PM)
  | 0, _, _, _ => none
  | fu + 1, v20, v21, h22 => if 36 ≤ v21 then (k148 v20 h22) else (jn (fun (s23 : Int32) (h24 : PM) => gR h24 c0 13 2 fun x25 => sI h24 x25 (((216 * c1) + (36 * c2)) + v21) s23 fun h26 => lt_ (v20 + s23) fun x27 => F_X12_scan_L78 c0 c1 c2 c3 c5 k148 fu x27 (v21 + 1) h26) fun k113 => jn (fun  (h29 : PM) => k113 0 h29) fun k112 => if ¬ (lg_cmp ((c3 >>> ((Int32.toInt64 v21) &&& 63)) &&& 1) 1) = 0 then (k112 h22) else (if ¬ (lg_cmp ((c5 >>> ((Int32.toInt64 v21) &&& 63)) &&& 1) 0) = 0 then (k112 h22) else (k113 1 h22)))
def F_X12_scan (a0 : Nat) (a1 : Int32) (a2 : Int32) (a3 : Int64) (a5 : Int64) (h0 : PM) : Option (Int32 × PM) := pI h0 a0 13 0 0 fun h1 => tst h1 a0 13 (cl (F_X12_isRough a0 a1 h1) fun r2 h3 => jn (fun  (h5 : PM) => some (0, h5)) fun k70 => if r2 = 0 then (k70 h3) else (cl (F_X12_within a2 0 5 h3) fun r6 h7 => tst h7 a0 13 (cl (F_X12_may a0 r6 1 h7) fun r9 h10 => if r9 = 0 then (k70 h10) else (jn (fun (s12 : Int32) (s13 : Nat) (h14 : PM) => tst h14 s13 13 (cl (F_X12_may s13 s12 2 h14) fun r15 h16 => if ¬ r15 = 0 then (jn (fun (v18 : Int32) (h19 : PM) => some (v18, h19)) fun k148 => F_X12_scan_L78 a0 a1 a2 a3 a5 k148 LF 0 0 h16) else (k70 h16))) fun k63 => jn (fun (s32 : Nat) (h33 : PM) => k63 0 s32 h33) fun k62 => if (lg_cmp a3 0) < 0 then (k62 a0 h10) else (if 0 ≤ (lg_cmp a3 68719476736) then (k62 a0 h10) else (if (lg_cmp a5 0) < 0 then (k62 a0 h10) else (if 0 ≤ (lg_cmp a5 68719476736) then (k62 a0 h10) else (k63 1 a0 h10))))))))
set_option maxRecDepth 100000 in
set_option maxHeartbeats 4000000 in
theorem S_X12_scan {a0 : Nat} {a1 : Int32} {a2 : Int32} {a3 : Int64} {a5 : Int64} {h0 : PM} (r : Int32) (h' : PM) (hF : F_X12_scan a0 a1 a2 a3 a5 h0 = some (r, h')) : CN yX12_scan cX12_scan 10 (some .int) 0 0 2 [.ref a0, .int a1, .int a2, .long a3, .long a5] h0 (some (.int r)) h' := by
  obtain ⟨X, eX⟩ : ∃ X, X = (r, h') := ⟨_, rfl⟩
  rw [← eX] at hF
  have e1 : r = X.1 := by rw [eX]
  have e2 : h' = X.2 := by rw [eX]
  rw [e1, e2]
  clear eX e1 e2
  unfold F_X12_scan at hF
  refine CN_of (by decide) (fun ρ => Nat.le_of_ble_eq_true rfl) rfl ?_
  intro p l e s m args below meth c D cy base ρ hT C V hr hnm
  refine r_aload_n C dX12_scan_0 rfl 0 rfl ?_
  refine r_iconst (v := 0) C dX12_scan_1 (by decide) ?_
  refine k_pI C dX12_scan_2 fd_X12_1 (fun z => by cases z) (by decide) hF (fun h1 hF => ?_)
  refine r_aload_n C dX12_scan_5 rfl 0 rfl ?_
  refine r_iload_n C dX12_scan_6 rfl 1 rfl ?_
  obtain ⟨ht, hF⟩ := tst_some hF
  obtain ⟨r2, h3, hc4, hF⟩ := cl_some hF
  refine r_callV (As := [.int a1]) C dX12_scan_7 V hT cal_X12_isRough cls_13 ml_X12_137 im_X12_isRough se_X12_isRough ht (by decide) rfl rfl (Nat.le_of_ble_eq_true rfl) (by decide) (by decide) (S_X12_isRough _ _ hc4) ?_
  obtain ⟨k70, ek70, hF⟩ := jn_some hF
  have Jk70 : ∀  (h5 : PM), k70 h5 = some X → WP p l e (rmN 0 0 2) s m args below meth c D cy base ρ h0 0 0 10 (MQ below (QR D cy base ρ h0 (some (.int X.1)) X.2) args s 0 0 (fun q => base ≤ q)) 70 [] [] h5 := by
    intro h5 hF
    rw [ek70] at hF
    refine r_iconst (v := 0) C dX12_scan_70 (by decide) ?_
    exact k_iret C dX12_scan_71 hr (by decide) (by decide) hF
  refine r_if_eq (tgt := 70) C dX12_scan_10 (by decide) hF (fun hF => ?_) (fun hF => ?_)
  · exact r_sub [] rfl (Jk70  _ hF)
  · refine r_aload_n C dX12_scan_13 rfl 0 rfl ?_
    refine r_iload_n C dX12_scan_14 rfl 2 rfl ?_
    refine r_iconst (v := 0) C dX12_scan_15 (by decide) ?_
    refine r_iconst (v := 5) C dX12_scan_16 (by decide) ?_
    obtain ⟨r6, h7, hc8, hF⟩ := cl_some hF
    refine r_callS (As := [.int a2, .int 0, .int 5]) C dX12_scan_17 V hT cal_X12_within ml_X12_129 sm_X12_within (by decide) rfl rfl (Nat.le_of_ble_eq_true rfl) (by decide) (by decide) (S_X12_within _ _ hc8) ?_
    refine r_iconst (v := 1) C dX12_scan_20 (by decide) ?_
    obtain ⟨ht, hF⟩ := tst_some hF
    obtain ⟨r9, h10, hc11, hF⟩ := cl_some hF
    refine r_callV (As := [.int r6, .int 1]) C dX12_scan_21 V hT cal_X12_may cls_13 ml_X12_133 im_X12_may se_X12_may ht (by decide) rfl rfl (Nat.le_of_ble_eq_true rfl) (by decide) (by decide) (S_X12_may _ _ hc11) ?_
    refine r_if_eq (tgt := 70) C dX12_scan_24 (by decide) hF (fun hF => ?_) (fun hF => ?_)
    · exact r_sub [] rfl (Jk70  _ hF)
    · refine r_aload_n C dX12_scan_27 rfl 0 rfl ?_
      refine r_lload_n C dX12_scan_28 rfl 3 rfl ?_
      refine r_lconst (v := 0) C dX12_scan_29 (by decide) ?_
      refine r_lcmp C dX12_scan_30 ?_
      obtain ⟨k63, ek63, hF⟩ := jn_some hF
      have Jk63 : ∀ (s12 : Int32) (s13 : Nat) (h14 : PM), k63 s12 s13 h14 = some X → WP p l e (rmN 0 0 2) s m args below meth c D cy base ρ h0 0 0 10 (MQ below (QR D cy base ρ h0 (some (.int X.1)) X.2) args s 0 0 (fun q => base ≤ q)) 63 [(0, .ref a0), (1, .int a1), (2, .int a2), (3, .long a3), (5, .long a5)] [.int s12, .ref s13] h14 := by
        intro s12 s13 h14 hF
        rw [ek63] at hF
        refine r_iconst (v := 2) C dX12_scan_63 (by decide) ?_
        obtain ⟨ht, hF⟩ := tst_some hF
        obtain ⟨r15, h16, hc17, hF⟩ := cl_some hF
        refine r_callV (As := [.int s12, .int 2]) C dX12_scan_64 V hT cal_X12_may cls_13 ml_X12_133 im_X12_may se_X12_may ht (by decide) rfl rfl (Nat.le_of_ble_eq_true rfl) (by decide) (by decide) (S_X12_may _ _ hc17) ?_
        refine r_if_ne (tgt := 72) C dX12_scan_67 (by decide) hF (fun hF => ?_) (fun hF => ?_)
        · refine r_iconst (v := 0) C dX12_scan_72 (by decide) ?_
          refine r_istore C dX12_scan_73 (by decide) rfl ?_
          refine r_iconst (v := 0) C dX12_scan_75 (by decide) ?_
          refine r_istore C dX12_scan_76 (by decide) rfl ?_
          obtain ⟨k148, ek148, hF⟩ := jn_some hF
          have Jk148 : ∀ (v18 : Int32) (h19 : PM), k148 v18 h19 = some X → WP p l e (rmN 0 0 2) s m args below meth c D cy base ρ h0 0 0 10 (MQ below (QR D cy base ρ h0 (some (.int X.1)) X.2) args s 0 0 (fun q => base ≤ q)) 148 [(7, .int v18)] [] h19 := by
            intro v18 h19 hF
            rw [ek148] at hF
            refine r_iload C dX12_scan_148 0 rfl ?_
            exact k_iret C dX12_scan_150 hr (by decide) (by decide) hF
          have L78 : ∀ (fu : Nat) (v20 : Int32) (v21 : Int32) (h22 : PM), F_X12_scan_L78 a0 a1 a2 a3 a5 k148 fu v20 v21 h22 = some X → WP p l e (rmN 0 0 2) s m args below meth c D cy base ρ h0 0 0 10 (MQ below (QR D cy base ρ h0 (some (.int X.1)) X.2) args s 0 0 (fun q => base ≤ q)) 78 [(0, .ref a0), (1, .int a1), (2, .int a2), (3, .long a3), (5, .long a5), (7, .int v20), (8, .int v21)] [] h22 := by
            intro fu
            induction fu with
            | zero => intro v20 v21 h22 hF; rw [F_X12_scan_L78.eq_1] at hF; cases hF
            | succ fu ih =>
              intro v20 v21 h22 hF
              rw [F_X12_scan_L78.eq_2] at hF
              refine r_iload C dX12_scan_78 6 rfl ?_
              refine r_bipush (v := 36) C dX12_scan_80 (by decide) ?_
              refine r_icmp_ge (tgt := 148) C dX12_scan_82 (by decide) hF (fun hF => ?_) (fun hF => ?_)
              · exact r_sub [5] rfl (Jk148 _ _ hF)
              · refine r_lload_n C dX12_scan_85 rfl 3 rfl ?_
                refine r_iload C dX12_scan_86 6 rfl ?_
                refine r_lshr C dX12_scan_88 ?_
                refine r_lconst (v := 1) C dX12_scan_89 (by decide) ?_
                refine r_land C dX12_scan_90 ?_
                refine r_lconst (v := 1) C dX12_scan_91 (by decide) ?_
                refine r_lcmp C dX12_scan_92 ?_
                obtain ⟨k113_24, ek113_24, hF⟩ := jn_some hF
                have Jk113_24 : ∀ (s23 : Int32) (h25 : PM), k113_24 s23 h25 = some X → WP p l e (rmN 0 0 2) s m args below meth c D cy base ρ h0 0 0 10 (MQ below (QR D cy base ρ h0 (some (.int X.1)) X.2) args s 0 0 (fun q => base ≤ q)) 113 [(0, .ref a0), (1, .int a1), (2, .int a2), (3, .long a3), (5, .long a5), (7, .int v20), (8, .int v21)] [.int s23] h25 := by
                  intro s23 h25 hF
                  rw [ek113_24] at hF
                  refine r_istore C dX12_scan_113 (by decide) rfl ?_
                  refine r_aload_n C dX12_scan_115 rfl 1 rfl ?_
                  refine k_gR C dX12_scan_116 fd_X12_13 (by decide) hF (fun x26 hF => ?_)
                  refine r_sipush (v := 216) C dX12_scan_119 (by decide) ?_
                  refine r_iload_n C dX12_scan_122 rfl 2 rfl ?_
                  refine r_imul C dX12_scan_123 ?_
                  refine r_bipush (v := 36) C dX12_scan_124 (by decide) ?_
                  refine r_iload_n C dX12_scan_126 rfl 3 rfl ?_
                  refine r_imul C dX12_scan_127 ?_
                  refine r_iadd C dX12_scan_128 ?_
                  refine r_iload C dX12_scan_129 7 rfl ?_
                  refine r_iadd C dX12_scan_131 ?_
                  refine r_iload C dX12_scan_132 0 rfl ?_
                  refine k_sI C dX12_scan_134 hF (fun h27 hF => ?_)
                  refine r_iload C dX12_scan_135 6 rfl ?_
                  refine r_iload C dX12_scan_137 0 rfl ?_
                  refine r_iadd C dX12_scan_139 ?_
                  refine k_lti hF (fun x28 hF => ?_)
                  refine r_istore C dX12_scan_140 (by decide) rfl ?_
                  refine r_iinc (v := v21 + 1) C dX12_scan_142 7 rfl (congrArg (fun z => v21 + z) (by decide)) (by decide) rfl ?_
                  refine r_goto (tgt := 78) C dX12_scan_145 (by decide) ?_
                  exact r_sub [3, 4, 5, 6, 7, 1, 0] rfl (ih _ _ _ hF)
                obtain ⟨k112_30, ek112_30, hF⟩ := jn_some hF
                have Jk112_30 : ∀  (h31 : PM), k112_30 h31 = some X → WP p l e (rmN 0 0 2) s m args below meth c D cy base ρ h0 0 0 10 (MQ below (QR D cy base ρ h0 (some (.int X.1)) X.2) args s 0 0 (fun q => base ≤ q)) 112 [(0, .ref a0), (1, .int a1), (2, .int a2), (3, .long a3), (5, .long a5), (7, .int v20), (8, .int v21)] [] h31 := by
                  intro h31 hF
                  rw [ek112_30] at hF
                  refine r_iconst (v := 0) C dX12_scan_112 (by decide) ?_
                  exact Jk113_24 _ _ hF
                refine r_if_ne (tgt := 112) C dX12_scan_93 (by decide) hF (fun hF => ?_) (fun hF => ?_)
                · exact Jk112_30  _ hF
                · refine r_lload C dX12_scan_96 4 rfl ?_
                  refine r_iload C dX12_scan_98 6 rfl ?_
                  refine r_lshr C dX12_scan_100 ?_
                  refine r_lconst (v := 1) C dX12_scan_101 (by decide) ?_
                  refine r_land C dX12_scan_102 ?_
                  refine r_lconst (v := 0) C dX12_scan_103 (by decide) ?_
                  refine r_lcmp C dX12_scan_104 ?_
                  refine r_if_ne (tgt := 112) C dX12_scan_105 (by decide) hF (fun hF => ?_) (fun hF => ?_)
                  · exact Jk112_30  _ hF
                  · refine r_iconst (v := 1) C dX12_scan_108 (by decide) ?_
                    refine r_goto (tgt := 113) C dX12_scan_109 (by decide) ?_
                    exact Jk113_24 _ _ hF
          exact r_sub [2, 3, 4, 5, 6, 1, 0] rfl (L78 _ _ _ _ hF)
        · exact r_sub [] rfl (Jk70  _ hF)
      obtain ⟨k62, ek62, hF⟩ := jn_some hF
      have Jk62 : ∀ (s32 : Nat) (h33 : PM), k62 s32 h33 = some X → WP p l e (rmN 0 0 2) s m args below meth c D cy base ρ h0 0 0 10 (MQ below (QR D cy base ρ h0 (some (.int X.1)) X.2) args s 0 0 (fun q => base ≤ q)) 62 [(0, .ref a0), (1, .int a1), (2, .int a2), (3, .long a3), (5, .long a5)] [.ref s32] h33 := by
        intro s32 h33 hF
        rw [ek62] at hF
        refine r_iconst (v := 0) C dX12_scan_62 (by decide) ?_
        exact Jk63 _ _ _ hF
      refine r_if_lt (tgt := 62) C dX12_scan_31 (by decide) hF (fun hF => ?_) (fun hF => ?_)
      · exact Jk62 _ _ hF
      · refine r_lload_n C dX12_scan_34 rfl 3 rfl ?_
        refine r_ldc2 C dX12_scan_35 cl_X12_141 ?_
        refine r_lcmp C dX12_scan_38 ?_
        refine r_if_ge (tgt := 62) C dX12_scan_39 (by decide) hF (fun hF => ?_) (fun hF => ?_)
        · exact Jk62 _ _ hF
        · refine r_lload C dX12_scan_42 4 rfl ?_
          refine r_lconst (v := 0) C dX12_scan_44 (by decide) ?_
          refine r_lcmp C dX12_scan_45 ?_
          refine r_if_lt (tgt := 62) C dX12_scan_46 (by decide) hF (fun hF => ?_) (fun hF => ?_)
          · exact Jk62 _ _ hF
          · refine r_lload C dX12_scan_49 4 rfl ?_
            refine r_ldc2 C dX12_scan_51 cl_X12_141 ?_
            refine r_lcmp C dX12_scan_54 ?_
            refine r_if_ge (tgt := 62) C dX12_scan_55 (by decide) hF (fun hF => ?_) (fun hF => ?_)
            · exact Jk62 _ _ hF
            · refine r_iconst (v := 1) C dX12_scan_58 (by decide) ?_
              refine r_goto (tgt := 63) C dX12_scan_59 (by decide) ?_
              exact Jk63 _ _ _ hF
def F_X12_feed_L22 (c0 : Nat) (c1 : Int32) (c2 : Int32) (c3 : Int32) (c4 : Int32) (c5 : Int32) (k119 : PM → Option (Int32 × PM)) : Nat → Int32 → PM → Option (Int32 × PM)
  | 0, _, _ => none
  | fu + 1, v5, h6 => if 20 ≤ v5 then (k119 h6) else (jn (fun (s7 : Int32) (h8 : PM) => gR h8 c0 13 8 fun x9 => gI h8 c0 13 3 fun x10 => dv 4 (sI h8 x9 x10 ((s7 >>> ((24 - (8 * (v5 - v5 / 4 * 4))) &&& 31)) &&& 255) fun h11 => gI h11 c0 13 3 fun x12 => pI h11 c0 13 3 (x12 + 1) fun h13 => F_X12_feed_L22 c0 c1 c2 c3 c4 c5 k119 fu (v5 + 1) h13)) fun k75 => if 4 ≤ v5 then (if 8 ≤ v5 then (if 12 ≤ v5 then (if 16 ≤ v5 then (k75 c5 h6) else (k75 c4 h6)) else (k75 c3 h6)) else (k75 c2 h6)) else (k75 c1 h6))
def F_X12_feed (a0 : Nat) (a1 : Int32) (a2 : Int32) (a3 : Int32) (a4 : Int32) (a5 : Int32) (h0 : PM) : Option (Int32 × PM) := pI h0 a0 13 0 0 fun h1 => gI h1 a0 13 3 fun x2 => if (x2 + 20) ≤ 100 then (jn (fun  (h3 : PM) => gI h3 a0 13 3 fun x4 => some (x4, h3)) fun k119 => F_X12_feed_L22 a0 a1 a2 a3 a4 a5 k119 LF 0 h1) else (some ((-1), h1))
set_option maxRecDepth 100000 in
set_option maxHeartbeats 4000000 in
theorem S_X12_feed {a0 : Nat} {a1 : Int32} {a2 : Int32} {a3 : Int32} {a4 : Int32} {a5 : Int32} {h0 : PM} (r : Int32) (h' : PM) (hF : F_X12_feed a0 a1 a2 a3 a4 a5 h0 = some (r, h')) : CN yX12_feed cX12_feed 8 (some .int) 0 0 0 [.ref a0, .int a1, .int a2, .int a3, .int a4, .int a5] h0 (some (.int r)) h' := by
  obtain ⟨X, eX⟩ : ∃ X, X = (r, h') := ⟨_, rfl⟩
  rw [← eX] at hF
  have e1 : r = X.1 := by rw [eX]
  have e2 : h' = X.2 := by rw [eX]
  rw [e1, e2]
  clear eX e1 e2
  unfold F_X12_feed at hF
  refine CN_of (by decide) (fun ρ => Nat.le_of_ble_eq_true rfl) rfl ?_
  intro p l e s m args below meth c D cy base ρ hT C V hr hnm
  refine r_aload_n C dX12_feed_0 rfl 0 rfl ?_
  refine r_iconst (v := 0) C dX12_feed_1 (by decide) ?_
  refine k_pI C dX12_feed_2 fd_X12_1 (fun z => by cases z) (by decide) hF (fun h1 hF => ?_)
  refine r_aload_n C dX12_feed_5 rfl 0 rfl ?_
  refine k_gI C dX12_feed_6 fd_X12_143 (by decide) hF (fun x2 hF => ?_)
  refine r_bipush (v := 20) C dX12_feed_9 (by decide) ?_
  refine r_iadd C dX12_feed_11 ?_
  refine r_bipush (v := 100) C dX12_feed_12 (by decide) ?_
  refine r_icmp_le (tgt := 19) C dX12_feed_14 (by decide) hF (fun hF => ?_) (fun hF => ?_)
  · refine r_iconst (v := 0) C dX12_feed_19 (by decide) ?_
    refine r_istore C dX12_feed_20 (by decide) rfl ?_
    obtain ⟨k119, ek119, hF⟩ := jn_some hF
    have Jk119 : ∀  (h3 : PM), k119 h3 = some X → WP p l e (rmN 0 0 0) s m args below meth c D cy base ρ h0 0 0 8 (MQ below (QR D cy base ρ h0 (some (.int X.1)) X.2) args s 0 0 (fun q => base ≤ q)) 119 [(0, .ref a0)] [] h3 := by
      intro h3 hF
      rw [ek119] at hF
      refine r_aload_n C dX12_feed_119 rfl 0 rfl ?_
      refine k_gI C dX12_feed_120 fd_X12_143 (by decide) hF (fun x4 hF => ?_)
      exact k_iret C dX12_feed_123 hr (by decide) (by decide) hF
    have L22 : ∀ (fu : Nat) (v5 : Int32) (h6 : PM), F_X12_feed_L22 a0 a1 a2 a3 a4 a5 k119 fu v5 h6 = some X → WP p l e (rmN 0 0 0) s m args below meth c D cy base ρ h0 0 0 8 (MQ below (QR D cy base ρ h0 (some (.int X.1)) X.2) args s 0 0 (fun q => base ≤ q)) 22 [(0, .ref a0), (1, .int a1), (2, .int a2), (3, .int a3), (4, .int a4), (5, .int a5), (6, .int v5)] [] h6 := by
      intro fu
      induction fu with
      | zero => intro v5 h6 hF; rw [F_X12_feed_L22.eq_1] at hF; cases hF
      | succ fu ih =>
        intro v5 h6 hF
        rw [F_X12_feed_L22.eq_2] at hF
        refine r_iload C dX12_feed_22 6 rfl ?_
        refine r_bipush (v := 20) C dX12_feed_24 (by decide) ?_
        refine r_icmp_ge (tgt := 119) C dX12_feed_26 (by decide) hF (fun hF => ?_) (fun hF => ?_)
        · exact r_sub [0] rfl (Jk119  _ hF)
        · refine r_iload C dX12_feed_29 6 rfl ?_
          refine r_iconst (v := 4) C dX12_feed_31 (by decide) ?_
          obtain ⟨k75_8, ek75_8, hF⟩ := jn_some hF
          have Jk75_8 : ∀ (s7 : Int32) (h9 : PM), k75_8 s7 h9 = some X → WP p l e (rmN 0 0 0) s m args below meth c D cy base ρ h0 0 0 8 (MQ below (QR D cy base ρ h0 (some (.int X.1)) X.2) args s 0 0 (fun q => base ≤ q)) 75 [(0, .ref a0), (1, .int a1), (2, .int a2), (3, .int a3), (4, .int a4), (5, .int a5), (6, .int v5)] [.int s7] h9 := by
            intro s7 h9 hF
            rw [ek75_8] at hF
            refine r_istore C dX12_feed_75 (by decide) rfl ?_
            refine r_aload_n C dX12_feed_77 rfl 1 rfl ?_
            refine k_gR C dX12_feed_78 fd_X12_17 (by decide) hF (fun x10 hF => ?_)
            refine r_aload_n C dX12_feed_81 rfl 1 rfl ?_
            refine k_gI C dX12_feed_82 fd_X12_143 (by decide) hF (fun x11 hF => ?_)
            refine r_iload C dX12_feed_85 0 rfl ?_
            refine r_bipush (v := 24) C dX12_feed_87 (by decide) ?_
            refine r_bipush (v := 8) C dX12_feed_89 (by decide) ?_
            refine r_iload C dX12_feed_91 7 rfl ?_
            refine r_iconst (v := 4) C dX12_feed_93 (by decide) ?_
            refine k_irem C dX12_feed_94 hF (fun hF => ?_)
            refine r_imul C dX12_feed_95 ?_
            refine r_isub C dX12_feed_96 ?_
            refine r_ishr C dX12_feed_97 ?_
            refine r_sipush (v := 255) C dX12_feed_98 (by decide) ?_
            refine r_iand C dX12_feed_101 ?_
            refine k_sI C dX12_feed_102 hF (fun h12 hF => ?_)
            refine r_aload_n C dX12_feed_103 rfl 1 rfl ?_
            refine r_dup C dX12_feed_104 rfl ?_
            refine k_gI C dX12_feed_105 fd_X12_143 (by decide) hF (fun x13 hF => ?_)
            refine r_iconst (v := 1) C dX12_feed_108 (by decide) ?_
            refine r_iadd C dX12_feed_109 ?_
            refine k_pI C dX12_feed_110 fd_X12_143 (fun z => by cases z) (by decide) hF (fun h14 hF => ?_)
            refine r_iinc (v := v5 + 1) C dX12_feed_113 7 rfl (congrArg (fun z => v5 + z) (by decide)) (by decide) rfl ?_
            refine r_goto (tgt := 22) C dX12_feed_116 (by decide) ?_
            exact r_sub [2, 3, 4, 5, 6, 7, 0] rfl (ih _ _ hF)
          refine r_icmp_ge (tgt := 39) C dX12_feed_32 (by decide) hF (fun hF => ?_) (fun hF => ?_)
          · refine r_iload C dX12_feed_39 6 rfl ?_
            refine r_bipush (v := 8) C dX12_feed_41 (by decide) ?_
            refine r_icmp_ge (tgt := 50) C dX12_feed_43 (by decide) hF (fun hF => ?_) (fun hF => ?_)
            · refine r_iload C dX12_feed_50 6 rfl ?_
              refine r_bipush (v := 12) C dX12_feed_52 (by decide) ?_
              refine r_icmp_ge (tgt := 61) C dX12_feed_54 (by decide) hF (fun hF => ?_) (fun hF => ?_)
              · refine r_iload C dX12_feed_61 6 rfl ?_
                refine r_bipush (v := 16) C dX12_feed_63 (by decide) ?_
                refine r_icmp_ge (tgt := 73) C dX12_feed_65 (by decide) hF (fun hF => ?_) (fun hF => ?_)
                · refine r_iload C dX12_feed_73 5 rfl ?_
                  exact Jk75_8 _ _ hF
                · refine r_iload C dX12_feed_68 4 rfl ?_
                  refine r_goto (tgt := 75) C dX12_feed_70 (by decide) ?_
                  exact Jk75_8 _ _ hF
              · refine r_iload_n C dX12_feed_57 rfl 3 rfl ?_
                refine r_goto (tgt := 75) C dX12_feed_58 (by decide) ?_
                exact Jk75_8 _ _ hF
            · refine r_iload_n C dX12_feed_46 rfl 2 rfl ?_
              refine r_goto (tgt := 75) C dX12_feed_47 (by decide) ?_
              exact Jk75_8 _ _ hF
          · refine r_iload_n C dX12_feed_35 rfl 1 rfl ?_
            refine r_goto (tgt := 75) C dX12_feed_36 (by decide) ?_
            exact Jk75_8 _ _ hF
    exact r_sub [1, 2, 3, 4, 5, 6, 0] rfl (L22 _ _ _ hF)
  · refine r_iconst (v := (-1)) C dX12_feed_17 (by decide) ?_
    exact k_iret C dX12_feed_18 hr (by decide) (by decide) hF
def F_X12_fine (a0 : Nat) (h0 : PM) : Option (Int32 × PM) := gI h0 a0 13 6 fun x1 => jn (fun (s2 : Int32) (h3 : PM) => rz s2 h3) fun k13 => if ¬ x1 = (-1) then (k13 0 h0) else (k13 1 h0)
set_option maxRecDepth 100000 in
set_option maxHeartbeats 4000000 in
theorem S_X12_fine {a0 : Nat} {h0 : PM} (r : Int32) (h' : PM) (hF : F_X12_fine a0 h0 = some (r, h')) : CN yX12_fine cX12_fine 1 (some .boolean) 0 0 0 [.ref a0] h0 (some (.int r)) h' := by
  obtain ⟨X, eX⟩ : ∃ X, X = (r, h') := ⟨_, rfl⟩
  rw [← eX] at hF
  have e1 : r = X.1 := by rw [eX]
  have e2 : h' = X.2 := by rw [eX]
  rw [e1, e2]
  clear eX e1 e2
  unfold F_X12_fine at hF
  refine CN_of (by decide) (fun ρ => Nat.le_of_ble_eq_true rfl) rfl ?_
  intro p l e s m args below meth c D cy base ρ hT C V hr hnm
  refine r_aload_n C dX12_fine_0 rfl 0 rfl ?_
  refine k_gI C dX12_fine_1 fd_X12_146 (by decide) hF (fun x1 hF => ?_)
  refine r_iconst (v := (-1)) C dX12_fine_4 (by decide) ?_
  obtain ⟨k13, ek13, hF⟩ := jn_some hF
  have Jk13 : ∀ (s2 : Int32) (h3 : PM), k13 s2 h3 = some X → WP p l e (rmN 0 0 0) s m args below meth c D cy base ρ h0 0 0 1 (MQ below (QR D cy base ρ h0 (some (.int X.1)) X.2) args s 0 0 (fun q => base ≤ q)) 13 [] [.int s2] h3 := by
    intro s2 h3 hF
    rw [ek13] at hF
    exact k_zret C dX12_fine_13 hr (by decide) (by decide) hF
  refine r_icmp_ne (tgt := 12) C dX12_fine_5 (by decide) hF (fun hF => ?_) (fun hF => ?_)
  · refine r_iconst (v := 0) C dX12_fine_12 (by decide) ?_
    exact r_sub [] rfl (Jk13 _ _ hF)
  · refine r_iconst (v := 1) C dX12_fine_8 (by decide) ?_
    refine r_goto (tgt := 13) C dX12_fine_9 (by decide) ?_
    exact r_sub [] rfl (Jk13 _ _ hF)
def F_X12_wrong (a0 : Nat) (a1 : Int32) (h0 : PM) : Option (Unit × PM) := gI h0 a0 13 6 fun x1 => jn (fun  (h2 : PM) => some ((), h2)) fun k13 => if ¬ x1 = (-1) then (k13 h0) else (pI h0 a0 13 6 a1 fun h3 => k13 h3)
set_option maxRecDepth 100000 in
set_option maxHeartbeats 4000000 in
theorem S_X12_wrong {a0 : Nat} {a1 : Int32} {h0 : PM} (r : Unit) (h' : PM) (hF : F_X12_wrong a0 a1 h0 = some (r, h')) : CN yX12_wrong cX12_wrong 2 none 0 0 0 [.ref a0, .int a1] h0 none h' := by
  obtain ⟨X, eX⟩ : ∃ X, X = (r, h') := ⟨_, rfl⟩
  rw [← eX] at hF
  have e1 : r = X.1 := by rw [eX]
  have e2 : h' = X.2 := by rw [eX]
  rw [e2]
  clear eX e1 e2
  unfold F_X12_wrong at hF
  refine CN_of (by decide) (fun ρ => Nat.le_of_ble_eq_true rfl) rfl ?_
  intro p l e s m args below meth c D cy base ρ hT C V hr hnm
  refine r_aload_n C dX12_wrong_0 rfl 0 rfl ?_
  refine k_gI C dX12_wrong_1 fd_X12_146 (by decide) hF (fun x1 hF => ?_)
  refine r_iconst (v := (-1)) C dX12_wrong_4 (by decide) ?_
  obtain ⟨k13, ek13, hF⟩ := jn_some hF
  have Jk13 : ∀  (h2 : PM), k13 h2 = some X → WP p l e (rmN 0 0 0) s m args below meth c D cy base ρ h0 0 0 2 (MQ below (QR D cy base ρ h0 none X.2) args s 0 0 (fun q => base ≤ q)) 13 [] [] h2 := by
    intro h2 hF
    rw [ek13] at hF
    exact k_vret C dX12_wrong_13 hr (by decide) (by decide) hF
  refine r_icmp_ne (tgt := 13) C dX12_wrong_5 (by decide) hF (fun hF => ?_) (fun hF => ?_)
  · exact r_sub [] rfl (Jk13  _ hF)
  · refine r_aload_n C dX12_wrong_8 rfl 0 rfl ?_
    refine r_iload_n C dX12_wrong_9 rfl 1 rfl ?_
    refine k_pI C dX12_wrong_10 fd_X12_146 (fun z => by cases z) (by decide) hF (fun h3 hF => ?_)
    exact r_sub [] rfl (Jk13  _ hF)
def F_X12_here_L0 (c0 : Nat) (k38 : PM → Option (Int32 × PM)) : Nat → PM → Option (Int32 × PM)
  | 0, _ => none
  | fu + 1, h9 => gI h9 c0 13 5 fun x10 => gI h9 c0 13 4 fun x11 => if x11 ≤ x10 then (k38 h9) else (gR h9 c0 13 8 fun x12 => gI h9 c0 13 5 fun x13 => aI h9 x12 x13 fun x14 => if ¬ x14 = 32 then (k38 h9) else (gI h9 c0 13 5 fun x15 => pI h9 c0 13 5 (x15 + 1) fun h16 => F_X12_here_L0 c0 k38 fu h16))
def F_X12_here (a0 : Nat) (h0 : PM) : Option (Int32 × PM) := jn (fun  (h1 : PM) => gI h1 a0 13 5 fun x2 => gI h1 a0 13 4 fun x3 => jn (fun (s4 : Int32) (h5 : PM) => some (s4, h5)) fun k62 => if x3 ≤ x2 then (k62 0 h1) else (gR h1 a0 13 8 fun x6 => gI h1 a0 13 5 fun x7 => aI h1 x6 x7 fun x8 => k62 x8 h1)) fun k38 => F_X12_here_L0 a0 k38 LF  h0
set_option maxRecDepth 100000 in
set_option maxHeartbeats 4000000 in
theorem S_X12_here {a0 : Nat} {h0 : PM} (r : Int32) (h' : PM) (hF : F_X12_here a0 h0 = some (r, h')) : CN yX12_here cX12_here 1 (some .int) 0 0 0 [.ref a0] h0 (some (.int r)) h' := by
  obtain ⟨X, eX⟩ : ∃ X, X = (r, h') := ⟨_, rfl⟩
  rw [← eX] at hF
  have e1 : r = X.1 := by rw [eX]
  have e2 : h' = X.2 := by rw [eX]
  rw [e1, e2]
  clear eX e1 e2
  unfold F_X12_here at hF
  refine CN_of (by decide) (fun ρ => Nat.le_of_ble_eq_true rfl) rfl ?_
  intro p l e s m args below meth c D cy base ρ hT C V hr hnm
  obtain ⟨k38, ek38, hF⟩ := jn_some hF
  have Jk38 : ∀  (h1 : PM), k38 h1 = some X → WP p l e (rmN 0 0 0) s m args below meth c D cy base ρ h0 0 0 1 (MQ below (QR D cy base ρ h0 (some (.int X.1)) X.2) args s 0 0 (fun q => base ≤ q)) 38 [(0, .ref a0)] [] h1 := by
    intro h1 hF
    rw [ek38] at hF
    refine r_aload_n C dX12_here_38 rfl 0 rfl ?_
    refine k_gI C dX12_here_39 fd_X12_149 (by decide) hF (fun x2 hF => ?_)
    refine r_aload_n C dX12_here_42 rfl 0 rfl ?_
    refine k_gI C dX12_here_43 fd_X12_152 (by decide) hF (fun x3 hF => ?_)
    obtain ⟨k62, ek62, hF⟩ := jn_some hF
    have Jk62 : ∀ (s4 : Int32) (h5 : PM), k62 s4 h5 = some X → WP p l e (rmN 0 0 0) s m args below meth c D cy base ρ h0 0 0 1 (MQ below (QR D cy base ρ h0 (some (.int X.1)) X.2) args s 0 0 (fun q => base ≤ q)) 62 [] [.int s4] h5 := by
      intro s4 h5 hF
      rw [ek62] at hF
      exact k_iret C dX12_here_62 hr (by decide) (by decide) hF
    refine r_icmp_ge (tgt := 61) C dX12_here_46 (by decide) hF (fun hF => ?_) (fun hF => ?_)
    · refine r_iconst (v := 0) C dX12_here_61 (by decide) ?_
      exact r_sub [] rfl (Jk62 _ _ hF)
    · refine r_aload_n C dX12_here_49 rfl 0 rfl ?_
      refine k_gR C dX12_here_50 fd_X12_17 (by decide) hF (fun x6 hF => ?_)
      refine r_aload_n C dX12_here_53 rfl 0 rfl ?_
      refine k_gI C dX12_here_54 fd_X12_149 (by decide) hF (fun x7 hF => ?_)
      refine k_aI C dX12_here_57 hF (fun x8 hF => ?_)
      refine r_goto (tgt := 62) C dX12_here_58 (by decide) ?_
      exact r_sub [] rfl (Jk62 _ _ hF)
  have L0 : ∀ (fu : Nat)  (h9 : PM), F_X12_here_L0 a0 k38 fu h9 = some X → WP p l e (rmN 0 0 0) s m args below meth c D cy base ρ h0 0 0 1 (MQ below (QR D cy base ρ h0 (some (.int X.1)) X.2) args s 0 0 (fun q => base ≤ q)) 0 [(0, .ref a0)] [] h9 := by
    intro fu
    induction fu with
    | zero => intro h9 hF; rw [F_X12_here_L0.eq_1] at hF; cases hF
    | succ fu ih =>
      intro h9 hF
      rw [F_X12_here_L0.eq_2] at hF
      refine r_aload_n C dX12_here_0 rfl 0 rfl ?_
      refine k_gI C dX12_here_1 fd_X12_149 (by decide) hF (fun x10 hF => ?_)
      refine r_aload_n C dX12_here_4 rfl 0 rfl ?_
      refine k_gI C dX12_here_5 fd_X12_152 (by decide) hF (fun x11 hF => ?_)
      refine r_icmp_ge (tgt := 38) C dX12_here_8 (by decide) hF (fun hF => ?_) (fun hF => ?_)
      · exact Jk38  _ hF
      · refine r_aload_n C dX12_here_11 rfl 0 rfl ?_
        refine k_gR C dX12_here_12 fd_X12_17 (by decide) hF (fun x12 hF => ?_)
        refine r_aload_n C dX12_here_15 rfl 0 rfl ?_
        refine k_gI C dX12_here_16 fd_X12_149 (by decide) hF (fun x13 hF => ?_)
        refine k_aI C dX12_here_19 hF (fun x14 hF => ?_)
        refine r_bipush (v := 32) C dX12_here_20 (by decide) ?_
        refine r_icmp_ne (tgt := 38) C dX12_here_22 (by decide) hF (fun hF => ?_) (fun hF => ?_)
        · exact Jk38  _ hF
        · refine r_aload_n C dX12_here_25 rfl 0 rfl ?_
          refine r_dup C dX12_here_26 rfl ?_
          refine k_gI C dX12_here_27 fd_X12_149 (by decide) hF (fun x15 hF => ?_)
          refine r_iconst (v := 1) C dX12_here_30 (by decide) ?_
          refine r_iadd C dX12_here_31 ?_
          refine k_pI C dX12_here_32 fd_X12_149 (fun z => by cases z) (by decide) hF (fun h16 hF => ?_)
          refine r_goto (tgt := 0) C dX12_here_35 (by decide) ?_
          exact ih  _ hF
  exact L0 _  _ hF
def F_X12_digit (a0 : Nat) (a1 : Int32) (a2 : Int32) (h0 : PM) : Option (Int32 × PM) := tst h0 a0 13 (cl (F_X12_fine a0 h0) fun r1 h2 => if ¬ r1 = 0 then (tst h2 a0 13 (cl (F_X12_here a0 h2) fun r4 h5 => lt_ (r4 - 48) fun x7 => cl (F_X12_within x7 a1 a2 h5) fun r8 h9 => jn (fun  (h11 : PM) => some (x7, h11)) fun k47 => if ¬ r8 = 0 then (gI h9 a0 13 5 fun x12 => pI h9 a0 13 5 (x12 + 1) fun h13 => k47 h13) else (gI h9 a0 13 5 fun x14 => tst h9 a0 13 (cl (F_X12_wrong a0 x14 h9) fun r15 h16 => k47 h16)))) else (some (0, h2)))
set_option maxRecDepth 100000 in
set_option maxHeartbeats 4000000 in
theorem S_X12_digit {a0 : Nat} {a1 : Int32} {a2 : Int32} {h0 : PM} (r : Int32) (h' : PM) (hF : F_X12_digit a0 a1 a2 h0 = some (r, h')) : CN yX12_digit cX12_digit 4 (some .int) 0 0 1 [.ref a0, .int a1, .int a2] h0 (some (.int r)) h' := by
  obtain ⟨X, eX⟩ : ∃ X, X = (r, h') := ⟨_, rfl⟩
  rw [← eX] at hF
  have e1 : r = X.1 := by rw [eX]
  have e2 : h' = X.2 := by rw [eX]
  rw [e1, e2]
  clear eX e1 e2
  unfold F_X12_digit at hF
  refine CN_of (by decide) (fun ρ => Nat.le_of_ble_eq_true rfl) rfl ?_
  intro p l e s m args below meth c D cy base ρ hT C V hr hnm
  refine r_aload_n C dX12_digit_0 rfl 0 rfl ?_
  obtain ⟨ht, hF⟩ := tst_some hF
  obtain ⟨r1, h2, hc3, hF⟩ := cl_some hF
  refine r_callV (As := []) C dX12_digit_1 V hT cal_X12_fine cls_13 ml_X12_155 im_X12_fine se_X12_fine ht (by decide) rfl rfl (Nat.le_of_ble_eq_true rfl) (by decide) (by decide) (S_X12_fine _ _ hc3) ?_
  refine r_if_ne (tgt := 9) C dX12_digit_4 (by decide) hF (fun hF => ?_) (fun hF => ?_)
  · refine r_aload_n C dX12_digit_9 rfl 0 rfl ?_
    obtain ⟨ht, hF⟩ := tst_some hF
    obtain ⟨r4, h5, hc6, hF⟩ := cl_some hF
    refine r_callV (As := []) C dX12_digit_10 V hT cal_X12_here cls_13 ml_X12_159 im_X12_here se_X12_here ht (by decide) rfl rfl (Nat.le_of_ble_eq_true rfl) (by decide) (by decide) (S_X12_here _ _ hc6) ?_
    refine r_bipush (v := 48) C dX12_digit_13 (by decide) ?_
    refine r_isub C dX12_digit_15 ?_
    refine k_lti hF (fun x7 hF => ?_)
    refine r_istore_n C dX12_digit_16 rfl (by decide) rfl ?_
    refine r_iload_n C dX12_digit_17 rfl 0 rfl ?_
    refine r_iload_n C dX12_digit_18 rfl 2 rfl ?_
    refine r_iload_n C dX12_digit_19 rfl 3 rfl ?_
    obtain ⟨r8, h9, hc10, hF⟩ := cl_some hF
    refine r_callS (As := [.int x7, .int a1, .int a2]) C dX12_digit_20 V hT cal_X12_within ml_X12_129 sm_X12_within (by decide) rfl rfl (Nat.le_of_ble_eq_true rfl) (by decide) (by decide) (S_X12_within _ _ hc10) ?_
    obtain ⟨k47, ek47, hF⟩ := jn_some hF
    have Jk47 : ∀  (h11 : PM), k47 h11 = some X → WP p l e (rmN 0 0 1) s m args below meth c D cy base ρ h0 0 0 4 (MQ below (QR D cy base ρ h0 (some (.int X.1)) X.2) args s 0 0 (fun q => base ≤ q)) 47 [(3, .int x7)] [] h11 := by
      intro h11 hF
      rw [ek47] at hF
      refine r_iload_n C dX12_digit_47 rfl 0 rfl ?_
      exact k_iret C dX12_digit_48 hr (by decide) (by decide) hF
    refine r_if_ne (tgt := 37) C dX12_digit_23 (by decide) hF (fun hF => ?_) (fun hF => ?_)
    · refine r_aload_n C dX12_digit_37 rfl 1 rfl ?_
      refine r_dup C dX12_digit_38 rfl ?_
      refine k_gI C dX12_digit_39 fd_X12_149 (by decide) hF (fun x12 hF => ?_)
      refine r_iconst (v := 1) C dX12_digit_42 (by decide) ?_
      refine r_iadd C dX12_digit_43 ?_
      refine k_pI C dX12_digit_44 fd_X12_149 (fun z => by cases z) (by decide) hF (fun h13 hF => ?_)
      exact r_sub [0] rfl (Jk47  _ hF)
    · refine r_aload_n C dX12_digit_26 rfl 1 rfl ?_
      refine r_aload_n C dX12_digit_27 rfl 1 rfl ?_
      refine k_gI C dX12_digit_28 fd_X12_149 (by decide) hF (fun x14 hF => ?_)
      obtain ⟨ht, hF⟩ := tst_some hF
      obtain ⟨r15, h16, hc17, hF⟩ := cl_some hF
      refine r_callV (As := [.int x14]) C dX12_digit_31 V hT cal_X12_wrong cls_13 ml_X12_163 im_X12_wrong se_X12_wrong ht (by decide) rfl rfl (Nat.le_of_ble_eq_true rfl) (by decide) (by decide) (S_X12_wrong _ _ hc17) ?_
      refine r_goto (tgt := 47) C dX12_digit_34 (by decide) ?_
      exact r_sub [0] rfl (Jk47  _ hF)
  · refine r_iconst (v := 0) C dX12_digit_7 (by decide) ?_
    exact k_iret C dX12_digit_8 hr (by decide) (by decide) hF
def F_X12_need (a0 : Nat) (a1 : Int32) (h0 : PM) : Option (Unit × PM) := tst h0 a0 13 (cl (F_X12_fine a0 h0) fun r1 h2 => jn (fun  (h4 : PM) => tst h4 a0 13 (cl (F_X12_fine a0 h4) fun r5 h6 => jn (fun  (h8 : PM) => some ((), h8)) fun k40 => if r5 = 0 then (k40 h6) else (gI h6 a0 13 5 fun x9 => pI h6 a0 13 5 (x9 + 1) fun h10 => k40 h10))) fun k23 => if r1 = 0 then (k23 h2) else (tst h2 a0 13 (cl (F_X12_here a0 h2) fun r11 h12 => if r11 = a1 then (k23 h12) else (gI h12 a0 13 5 fun x14 => tst h12 a0 13 (cl (F_X12_wrong a0 x14 h12) fun r15 h16 => k23 h16)))))
set_option maxRecDepth 100000 in
set_option maxHeartbeats 4000000 in
theorem S_X12_need {a0 : Nat} {a1 : Int32} {h0 : PM} (r : Unit) (h' : PM) (hF : F_X12_need a0 a1 h0 = some (r, h')) : CN yX12_need cX12_need 2 none 0 0 1 [.ref a0, .int a1] h0 none h' := by
  obtain ⟨X, eX⟩ : ∃ X, X = (r, h') := ⟨_, rfl⟩
  rw [← eX] at hF
  have e1 : r = X.1 := by rw [eX]
  have e2 : h' = X.2 := by rw [eX]
  rw [e2]
  clear eX e1 e2
  unfold F_X12_need at hF
  refine CN_of (by decide) (fun ρ => Nat.le_of_ble_eq_true rfl) rfl ?_
  intro p l e s m args below meth c D cy base ρ hT C V hr hnm
  refine r_aload_n C dX12_need_0 rfl 0 rfl ?_
  obtain ⟨ht, hF⟩ := tst_some hF
  obtain ⟨r1, h2, hc3, hF⟩ := cl_some hF
  refine r_callV (As := []) C dX12_need_1 V hT cal_X12_fine cls_13 ml_X12_155 im_X12_fine se_X12_fine ht (by decide) rfl rfl (Nat.le_of_ble_eq_true rfl) (by decide) (by decide) (S_X12_fine _ _ hc3) ?_
  obtain ⟨k23, ek23, hF⟩ := jn_some hF
  have Jk23 : ∀  (h4 : PM), k23 h4 = some X → WP p l e (rmN 0 0 1) s m args below meth c D cy base ρ h0 0 0 2 (MQ below (QR D cy base ρ h0 none X.2) args s 0 0 (fun q => base ≤ q)) 23 [(0, .ref a0)] [] h4 := by
    intro h4 hF
    rw [ek23] at hF
    refine r_aload_n C dX12_need_23 rfl 0 rfl ?_
    obtain ⟨ht, hF⟩ := tst_some hF
    obtain ⟨r5, h6, hc7, hF⟩ := cl_some hF
    refine r_callV (As := []) C dX12_need_24 V hT cal_X12_fine cls_13 ml_X12_155 im_X12_fine se_X12_fine ht (by decide) rfl rfl (Nat.le_of_ble_eq_true rfl) (by decide) (by decide) (S_X12_fine _ _ hc7) ?_
    obtain ⟨k40, ek40, hF⟩ := jn_some hF
    have Jk40 : ∀  (h8 : PM), k40 h8 = some X → WP p l e (rmN 0 0 1) s m args below meth c D cy base ρ h0 0 0 2 (MQ below (QR D cy base ρ h0 none X.2) args s 0 0 (fun q => base ≤ q)) 40 [] [] h8 := by
      intro h8 hF
      rw [ek40] at hF
      exact k_vret C dX12_need_40 hr (by decide) (by decide) hF
    refine r_if_eq (tgt := 40) C dX12_need_27 (by decide) hF (fun hF => ?_) (fun hF => ?_)
    · exact r_sub [] rfl (Jk40  _ hF)
    · refine r_aload_n C dX12_need_30 rfl 0 rfl ?_
      refine r_dup C dX12_need_31 rfl ?_
      refine k_gI C dX12_need_32 fd_X12_149 (by decide) hF (fun x9 hF => ?_)
      refine r_iconst (v := 1) C dX12_need_35 (by decide) ?_
      refine r_iadd C dX12_need_36 ?_
      refine k_pI C dX12_need_37 fd_X12_149 (fun z => by cases z) (by decide) hF (fun h10 hF => ?_)
      exact r_sub [] rfl (Jk40  _ hF)
  refine r_if_eq (tgt := 23) C dX12_need_4 (by decide) hF (fun hF => ?_) (fun hF => ?_)
  · exact r_sub [0] rfl (Jk23  _ hF)
  · refine r_aload_n C dX12_need_7 rfl 0 rfl ?_
    obtain ⟨ht, hF⟩ := tst_some hF
    obtain ⟨r11, h12, hc13, hF⟩ := cl_some hF
    refine r_callV (As := []) C dX12_need_8 V hT cal_X12_here cls_13 ml_X12_159 im_X12_here se_X12_here ht (by decide) rfl rfl (Nat.le_of_ble_eq_true rfl) (by decide) (by decide) (S_X12_here _ _ hc13) ?_
    refine r_iload_n C dX12_need_11 rfl 1 rfl ?_
    refine r_icmp_eq (tgt := 23) C dX12_need_12 (by decide) hF (fun hF => ?_) (fun hF => ?_)
    · exact r_sub [0] rfl (Jk23  _ hF)
    · refine r_aload_n C dX12_need_15 rfl 0 rfl ?_
      refine r_aload_n C dX12_need_16 rfl 0 rfl ?_
      refine k_gI C dX12_need_17 fd_X12_149 (by decide) hF (fun x14 hF => ?_)
      obtain ⟨ht, hF⟩ := tst_some hF
      obtain ⟨r15, h16, hc17, hF⟩ := cl_some hF
      refine r_callV (As := [.int x14]) C dX12_need_20 V hT cal_X12_wrong cls_13 ml_X12_163 im_X12_wrong se_X12_wrong ht (by decide) rfl rfl (Nat.le_of_ble_eq_true rfl) (by decide) (by decide) (S_X12_wrong _ _ hc17) ?_
      exact r_sub [0] rfl (Jk23  _ hF)
def F_X12_isMore (a0 : Nat) (h0 : PM) : Option (Int32 × PM) := tst h0 a0 13 (cl (F_X12_here a0 h0) fun r1 h2 => gI h2 a0 13 5 fun x4 => gI h2 a0 13 4 fun x5 => jn (fun (s6 : Int32) (h7 : PM) => rz s6 h7) fun k21 => if x5 ≤ x4 then (k21 0 h2) else (k21 1 h2))
set_option maxRecDepth 100000 in
set_option maxHeartbeats 4000000 in
theorem S_X12_isMore {a0 : Nat} {h0 : PM} (r : Int32) (h' : PM) (hF : F_X12_isMore a0 h0 = some (r, h')) : CN yX12_isMore cX12_isMore 1 (some .boolean) 0 0 1 [.ref a0] h0 (some (.int r)) h' := by
  obtain ⟨X, eX⟩ : ∃ X, X = (r, h') := ⟨_, rfl⟩
  rw [← eX] at hF
  have e1 : r = X.1 := by rw [eX]
  have e2 : h' = X.2 := by rw [eX]
  rw [e1, e2]
  clear eX e1 e2
  unfold F_X12_isMore at hF
  refine CN_of (by decide) (fun ρ => Nat.le_of_ble_eq_true rfl) rfl ?_
  intro p l e s m args below meth c D cy base ρ hT C V hr hnm
  refine r_aload_n C dX12_isMore_0 rfl 0 rfl ?_
  obtain ⟨ht, hF⟩ := tst_some hF
  obtain ⟨r1, h2, hc3, hF⟩ := cl_some hF
  refine r_callV (As := []) C dX12_isMore_1 V hT cal_X12_here cls_13 ml_X12_159 im_X12_here se_X12_here ht (by decide) rfl rfl (Nat.le_of_ble_eq_true rfl) (by decide) (by decide) (S_X12_here _ _ hc3) ?_
  refine r_pop C dX12_isMore_4 rfl ?_
  refine r_aload_n C dX12_isMore_5 rfl 0 rfl ?_
  refine k_gI C dX12_isMore_6 fd_X12_149 (by decide) hF (fun x4 hF => ?_)
  refine r_aload_n C dX12_isMore_9 rfl 0 rfl ?_
  refine k_gI C dX12_isMore_10 fd_X12_152 (by decide) hF (fun x5 hF => ?_)
  obtain ⟨k21, ek21, hF⟩ := jn_some hF
  have Jk21 : ∀ (s6 : Int32) (h7 : PM), k21 s6 h7 = some X → WP p l e (rmN 0 0 1) s m args below meth c D cy base ρ h0 0 0 1 (MQ below (QR D cy base ρ h0 (some (.int X.1)) X.2) args s 0 0 (fun q => base ≤ q)) 21 [] [.int s6] h7 := by
    intro s6 h7 hF
    rw [ek21] at hF
    exact k_zret C dX12_isMore_21 hr (by decide) (by decide) hF
  refine r_icmp_ge (tgt := 20) C dX12_isMore_13 (by decide) hF (fun hF => ?_) (fun hF => ?_)
  · refine r_iconst (v := 0) C dX12_isMore_20 (by decide) ?_
    exact r_sub [] rfl (Jk21 _ _ hF)
  · refine r_iconst (v := 1) C dX12_isMore_16 (by decide) ?_
    refine r_goto (tgt := 21) C dX12_isMore_17 (by decide) ?_
    exact r_sub [] rfl (Jk21 _ _ hF)
def F_X12_layer_L103 (c0 : Nat) (c1 : Int32) (c2 : Int32) (c3 : Int32) (c4 : Int32) (c5 : Int32) (k184 : PM → Option (Unit × PM)) : Nat → Int32 → PM → Option (Unit × PM)
  | 0, _, _ => none
  | fu + 1, v42, h43 => if (c3 + c1) ≤ v42 then (k184 h43) else (gI h43 c0 13 7 fun x44 => gR h43 c0 13 9 fun x45 => gI h43 c0 13 7 fun x46 => aI h43 x45 x46 fun x47 => lt_ ((216 * x44) + x47) fun x48 => gR h43 c0 13 11 fun x49 => sI h43 x49 x48 v42 fun h50 => gR h50 c0 13 12 fun x51 => sI h50 x51 x48 c5 fun h52 => gR h52 c0 13 13 fun x53 => gR h52 c0 13 10 fun x54 => gI h52 c0 13 7 fun x55 => aI h52 x54 x55 fun x56 => sI h52 x53 x48 x56 fun h57 => gR h57 c0 13 9 fun x58 => gI h57 c0 13 7 fun x59 => aI h57 x58 x59 fun x60 => sI h57 x58 x59 (x60 + 1) fun h61 => F_X12_layer_L103 c0 c1 c2 c3 c4 c5 k184 fu (v42 + 1) h61)
def F_X12_layer_L91 (c0 : Nat) (c1 : Int32) (c2 : Int32) (c3 : Int32) (c4 : Int32) (k190 : PM → Option (Unit × PM)) : Nat → Int32 → PM → Option (Unit × PM)
  | 0, _, _ => none
  | fu + 1, v38, h39 => if (c4 + c2) ≤ v38 then (k190 h39) else (jn (fun  (h40 : PM) => F_X12_layer_L91 c0 c1 c2 c3 c4 k190 fu (v38 + 1) h40) fun k184 => F_X12_layer_L103 c0 c1 c2 c3 c4 v38 k184 LF c3 h39)
def F_X12_layer (a0 : Nat) (h0 : PM) : Option (Unit × PM) := tst h0 a0 13 (cl (F_X12_digit a0 1 6 h0) fun r1 h2 => tst h2 a0 13 (cl (F_X12_need a0 120 h2) fun r4 h5 => tst h5 a0 13 (cl (F_X12_digit a0 1 6 h5) fun r7 h8 => tst h8 a0 13 (cl (F_X12_need a0 64 h8) fun r10 h11 => jn (fun (s13 : Int32) (s14 : Int32) (s15 : Nat) (h16 : PM) => tst h16 s15 13 (cl (F_X12_digit s15 s14 s13 h16) fun r17 h18 => tst h18 a0 13 (cl (F_X12_need a0 44 h18) fun r20 h21 => jn (fun (s23 : Int32) (s24 : Int32) (s25 : Nat) (h26 : PM) => tst h26 s25 13 (cl (F_X12_digit s25 s24 s23 h26) fun r27 h28 => tst h28 a0 13 (cl (F_X12_fine a0 h28) fun r30 h31 => if ¬ r30 = 0 then (jn (fun  (h33 : PM) => gR h33 a0 13 10 fun x34 => gI h33 a0 13 7 fun x35 => aI h33 x34 x35 fun x36 => sI h33 x34 x35 (x36 + 1) fun h37 => some ((), h37)) fun k190 => F_X12_layer_L91 a0 r1 r7 r17 r27 k190 LF r27 h31) else (some ((), h31))))) fun k74 => if 5 ≤ (6 - r7) then (k74 5 0 a0 h21) else (k74 (6 - r7) 0 a0 h21)))) fun k46 => if 5 ≤ (6 - r1) then (k46 5 0 a0 h11) else (k46 (6 - r1) 0 a0 h11)))))
set_option maxRecDepth 100000 in
set_option maxHeartbeats 4000000 in
theorem S_X12_layer {a0 : Nat} {h0 : PM} (r : Unit) (h' : PM) (hF : F_X12_layer a0 h0 = some (r, h')) : CN yX12_layer cX12_layer 8 none 0 0 2 [.ref a0] h0 none h' := by
  obtain ⟨X, eX⟩ : ∃ X, X = (r, h') := ⟨_, rfl⟩
  rw [← eX] at hF
  have e1 : r = X.1 := by rw [eX]
  have e2 : h' = X.2 := by rw [eX]
  rw [e2]
  clear eX e1 e2
  unfold F_X12_layer at hF
  refine CN_of (by decide) (fun ρ => Nat.le_of_ble_eq_true rfl) rfl ?_
  intro p l e s m args below meth c D cy base ρ hT C V hr hnm
  refine r_aload_n C dX12_layer_0 rfl 0 rfl ?_
  refine r_iconst (v := 1) C dX12_layer_1 (by decide) ?_
  refine r_bipush (v := 6) C dX12_layer_2 (by decide) ?_
  obtain ⟨ht, hF⟩ := tst_some hF
  obtain ⟨r1, h2, hc3, hF⟩ := cl_some hF
  refine r_callV (As := [.int 1, .int 6]) C dX12_layer_4 V hT cal_X12_digit cls_13 ml_X12_167 im_X12_digit se_X12_digit ht (by decide) rfl rfl (Nat.le_of_ble_eq_true rfl) (by decide) (by decide) (S_X12_digit _ _ hc3) ?_
  refine r_istore_n C dX12_layer_7 rfl (by decide) rfl ?_
  refine r_aload_n C dX12_layer_8 rfl 1 rfl ?_
  refine r_bipush (v := 120) C dX12_layer_9 (by decide) ?_
  obtain ⟨ht, hF⟩ := tst_some hF
  obtain ⟨r4, h5, hc6, hF⟩ := cl_some hF
  refine r_callV (As := [.int 120]) C dX12_layer_11 V hT cal_X12_need cls_13 ml_X12_171 im_X12_need se_X12_need ht (by decide) rfl rfl (Nat.le_of_ble_eq_true rfl) (by decide) (by decide) (S_X12_need _ _ hc6) ?_
  refine r_aload_n C dX12_layer_14 rfl 1 rfl ?_
  refine r_iconst (v := 1) C dX12_layer_15 (by decide) ?_
  refine r_bipush (v := 6) C dX12_layer_16 (by decide) ?_
  obtain ⟨ht, hF⟩ := tst_some hF
  obtain ⟨r7, h8, hc9, hF⟩ := cl_some hF
  refine r_callV (As := [.int 1, .int 6]) C dX12_layer_18 V hT cal_X12_digit cls_13 ml_X12_167 im_X12_digit se_X12_digit ht (by decide) rfl rfl (Nat.le_of_ble_eq_true rfl) (by decide) (by decide) (S_X12_digit _ _ hc9) ?_
  refine r_istore_n C dX12_layer_21 rfl (by decide) rfl ?_
  refine r_aload_n C dX12_layer_22 rfl 2 rfl ?_
  refine r_bipush (v := 64) C dX12_layer_23 (by decide) ?_
  obtain ⟨ht, hF⟩ := tst_some hF
  obtain ⟨r10, h11, hc12, hF⟩ := cl_some hF
  refine r_callV (As := [.int 64]) C dX12_layer_25 V hT cal_X12_need cls_13 ml_X12_171 im_X12_need se_X12_need ht (by decide) rfl rfl (Nat.le_of_ble_eq_true rfl) (by decide) (by decide) (S_X12_need _ _ hc12) ?_
  refine r_aload_n C dX12_layer_28 rfl 2 rfl ?_
  refine r_iconst (v := 0) C dX12_layer_29 (by decide) ?_
  refine r_bipush (v := 6) C dX12_layer_30 (by decide) ?_
  refine r_iload_n C dX12_layer_32 rfl 1 rfl ?_
  refine r_isub C dX12_layer_33 ?_
  refine r_iconst (v := 5) C dX12_layer_34 (by decide) ?_
  obtain ⟨k46, ek46, hF⟩ := jn_some hF
  have Jk46 : ∀ (s13 : Int32) (s14 : Int32) (s15 : Nat) (h16 : PM), k46 s13 s14 s15 h16 = some X → WP p l e (rmN 0 0 2) s m args below meth c D cy base ρ h0 0 0 8 (MQ below (QR D cy base ρ h0 none X.2) args s 0 0 (fun q => base ≤ q)) 46 [(0, .ref a0), (1, .int r1), (2, .int r7)] [.int s13, .int s14, .ref s15] h16 := by
    intro s13 s14 s15 h16 hF
    rw [ek46] at hF
    obtain ⟨ht, hF⟩ := tst_some hF
    obtain ⟨r17, h18, hc19, hF⟩ := cl_some hF
    refine r_callV (As := [.int s14, .int s13]) C dX12_layer_46 V hT cal_X12_digit cls_13 ml_X12_167 im_X12_digit se_X12_digit ht (by decide) rfl rfl (Nat.le_of_ble_eq_true rfl) (by decide) (by decide) (S_X12_digit _ _ hc19) ?_
    refine r_istore_n C dX12_layer_49 rfl (by decide) rfl ?_
    refine r_aload_n C dX12_layer_50 rfl 1 rfl ?_
    refine r_bipush (v := 44) C dX12_layer_51 (by decide) ?_
    obtain ⟨ht, hF⟩ := tst_some hF
    obtain ⟨r20, h21, hc22, hF⟩ := cl_some hF
    refine r_callV (As := [.int 44]) C dX12_layer_53 V hT cal_X12_need cls_13 ml_X12_171 im_X12_need se_X12_need ht (by decide) rfl rfl (Nat.le_of_ble_eq_true rfl) (by decide) (by decide) (S_X12_need _ _ hc22) ?_
    refine r_aload_n C dX12_layer_56 rfl 1 rfl ?_
    refine r_iconst (v := 0) C dX12_layer_57 (by decide) ?_
    refine r_bipush (v := 6) C dX12_layer_58 (by decide) ?_
    refine r_iload_n C dX12_layer_60 rfl 3 rfl ?_
    refine r_isub C dX12_layer_61 ?_
    refine r_iconst (v := 5) C dX12_layer_62 (by decide) ?_
    obtain ⟨k74, ek74, hF⟩ := jn_some hF
    have Jk74 : ∀ (s23 : Int32) (s24 : Int32) (s25 : Nat) (h26 : PM), k74 s23 s24 s25 h26 = some X → WP p l e (rmN 0 0 2) s m args below meth c D cy base ρ h0 0 0 8 (MQ below (QR D cy base ρ h0 none X.2) args s 0 0 (fun q => base ≤ q)) 74 [(0, .ref a0), (1, .int r1), (2, .int r7), (3, .int r17)] [.int s23, .int s24, .ref s25] h26 := by
      intro s23 s24 s25 h26 hF
      rw [ek74] at hF
      obtain ⟨ht, hF⟩ := tst_some hF
      obtain ⟨r27, h28, hc29, hF⟩ := cl_some hF
      refine r_callV (As := [.int s24, .int s23]) C dX12_layer_74 V hT cal_X12_digit cls_13 ml_X12_167 im_X12_digit se_X12_digit ht (by decide) rfl rfl (Nat.le_of_ble_eq_true rfl) (by decide) (by decide) (S_X12_digit _ _ hc29) ?_
      refine r_istore C dX12_layer_77 (by decide) rfl ?_
      refine r_aload_n C dX12_layer_79 rfl 1 rfl ?_
      obtain ⟨ht, hF⟩ := tst_some hF
      obtain ⟨r30, h31, hc32, hF⟩ := cl_some hF
      refine r_callV (As := []) C dX12_layer_80 V hT cal_X12_fine cls_13 ml_X12_155 im_X12_fine se_X12_fine ht (by decide) rfl rfl (Nat.le_of_ble_eq_true rfl) (by decide) (by decide) (S_X12_fine _ _ hc32) ?_
      refine r_if_ne (tgt := 87) C dX12_layer_83 (by decide) hF (fun hF => ?_) (fun hF => ?_)
      · refine r_iload C dX12_layer_87 0 rfl ?_
        refine r_istore C dX12_layer_89 (by decide) rfl ?_
        obtain ⟨k190, ek190, hF⟩ := jn_some hF
        have Jk190 : ∀  (h33 : PM), k190 h33 = some X → WP p l e (rmN 0 0 2) s m args below meth c D cy base ρ h0 0 0 8 (MQ below (QR D cy base ρ h0 none X.2) args s 0 0 (fun q => base ≤ q)) 190 [(0, .ref a0)] [] h33 := by
          intro h33 hF
          rw [ek190] at hF
          refine r_aload_n C dX12_layer_190 rfl 0 rfl ?_
          refine k_gR C dX12_layer_191 fd_X12_23 (by decide) hF (fun x34 hF => ?_)
          refine r_aload_n C dX12_layer_194 rfl 0 rfl ?_
          refine k_gI C dX12_layer_195 fd_X12_174 (by decide) hF (fun x35 hF => ?_)
          refine r_dup2 C dX12_layer_198 rfl rfl ?_
          refine k_aI C dX12_layer_199 hF (fun x36 hF => ?_)
          refine r_iconst (v := 1) C dX12_layer_200 (by decide) ?_
          refine r_iadd C dX12_layer_201 ?_
          refine k_sI C dX12_layer_202 hF (fun h37 hF => ?_)
          exact k_vret C dX12_layer_203 hr (by decide) (by decide) hF
        have L91 : ∀ (fu : Nat) (v38 : Int32) (h39 : PM), F_X12_layer_L91 a0 r1 r7 r17 r27 k190 fu v38 h39 = some X → WP p l e (rmN 0 0 2) s m args below meth c D cy base ρ h0 0 0 8 (MQ below (QR D cy base ρ h0 none X.2) args s 0 0 (fun q => base ≤ q)) 91 [(0, .ref a0), (1, .int r1), (2, .int r7), (3, .int r17), (4, .int r27), (5, .int v38)] [] h39 := by
          intro fu
          induction fu with
          | zero => intro v38 h39 hF; rw [F_X12_layer_L91.eq_1] at hF; cases hF
          | succ fu ih =>
            intro v38 h39 hF
            rw [F_X12_layer_L91.eq_2] at hF
            refine r_iload C dX12_layer_91 5 rfl ?_
            refine r_iload C dX12_layer_93 4 rfl ?_
            refine r_iload_n C dX12_layer_95 rfl 2 rfl ?_
            refine r_iadd C dX12_layer_96 ?_
            refine r_icmp_ge (tgt := 190) C dX12_layer_97 (by decide) hF (fun hF => ?_) (fun hF => ?_)
            · exact r_sub [0] rfl (Jk190  _ hF)
            · refine r_iload_n C dX12_layer_100 rfl 3 rfl ?_
              refine r_istore C dX12_layer_101 (by decide) rfl ?_
              obtain ⟨k184_40, ek184_40, hF⟩ := jn_some hF
              have Jk184_40 : ∀  (h41 : PM), k184_40 h41 = some X → WP p l e (rmN 0 0 2) s m args below meth c D cy base ρ h0 0 0 8 (MQ below (QR D cy base ρ h0 none X.2) args s 0 0 (fun q => base ≤ q)) 184 [(0, .ref a0), (1, .int r1), (2, .int r7), (3, .int r17), (4, .int r27), (5, .int v38)] [] h41 := by
                intro h41 hF
                rw [ek184_40] at hF
                refine r_iinc (v := v38 + 1) C dX12_layer_184 5 rfl (congrArg (fun z => v38 + z) (by decide)) (by decide) rfl ?_
                refine r_goto (tgt := 91) C dX12_layer_187 (by decide) ?_
                exact r_sub [1, 2, 3, 4, 5, 0] rfl (ih _ _ hF)
              have L103_64 : ∀ (fu : Nat) (v43 : Int32) (h44 : PM), F_X12_layer_L103 a0 r1 r7 r17 r27 v38 k184_40 fu v43 h44 = some X → WP p l e (rmN 0 0 2) s m args below meth c D cy base ρ h0 0 0 8 (MQ below (QR D cy base ρ h0 none X.2) args s 0 0 (fun q => base ≤ q)) 103 [(0, .ref a0), (1, .int r1), (2, .int r7), (3, .int r17), (4, .int r27), (5, .int v38), (6, .int v43)] [] h44 := by
                intro fu
                induction fu with
                | zero => intro v43 h44 hF; rw [F_X12_layer_L103.eq_1] at hF; cases hF
                | succ fu ih =>
                  intro v43 h44 hF
                  rw [F_X12_layer_L103.eq_2] at hF
                  refine r_iload C dX12_layer_103 6 rfl ?_
                  refine r_iload_n C dX12_layer_105 rfl 3 rfl ?_
                  refine r_iload_n C dX12_layer_106 rfl 1 rfl ?_
                  refine r_iadd C dX12_layer_107 ?_
                  refine r_icmp_ge (tgt := 184) C dX12_layer_108 (by decide) hF (fun hF => ?_) (fun hF => ?_)
                  · exact r_sub [0, 1, 2, 3, 4, 5] rfl (Jk184_40  _ hF)
                  · refine r_sipush (v := 216) C dX12_layer_111 (by decide) ?_
                    refine r_aload_n C dX12_layer_114 rfl 0 rfl ?_
                    refine k_gI C dX12_layer_115 fd_X12_174 (by decide) hF (fun x45 hF => ?_)
                    refine r_imul C dX12_layer_118 ?_
                    refine r_aload_n C dX12_layer_119 rfl 0 rfl ?_
                    refine k_gR C dX12_layer_120 fd_X12_20 (by decide) hF (fun x46 hF => ?_)
                    refine r_aload_n C dX12_layer_123 rfl 0 rfl ?_
                    refine k_gI C dX12_layer_124 fd_X12_174 (by decide) hF (fun x47 hF => ?_)
                    refine k_aI C dX12_layer_127 hF (fun x48 hF => ?_)
                    refine r_iadd C dX12_layer_128 ?_
                    refine k_lti hF (fun x49 hF => ?_)
                    refine r_istore C dX12_layer_129 (by decide) rfl ?_
                    refine r_aload_n C dX12_layer_131 rfl 1 rfl ?_
                    refine k_gR C dX12_layer_132 fd_X12_26 (by decide) hF (fun x50 hF => ?_)
                    refine r_iload C dX12_layer_135 0 rfl ?_
                    refine r_iload C dX12_layer_137 7 rfl ?_
                    refine k_sI C dX12_layer_139 hF (fun h51 hF => ?_)
                    refine r_aload_n C dX12_layer_140 rfl 1 rfl ?_
                    refine k_gR C dX12_layer_141 fd_X12_29 (by decide) hF (fun x52 hF => ?_)
                    refine r_iload C dX12_layer_144 0 rfl ?_
                    refine r_iload C dX12_layer_146 6 rfl ?_
                    refine k_sI C dX12_layer_148 hF (fun h53 hF => ?_)
                    refine r_aload_n C dX12_layer_149 rfl 1 rfl ?_
                    refine k_gR C dX12_layer_150 fd_X12_32 (by decide) hF (fun x54 hF => ?_)
                    refine r_iload C dX12_layer_153 0 rfl ?_
                    refine r_aload_n C dX12_layer_155 rfl 1 rfl ?_
                    refine k_gR C dX12_layer_156 fd_X12_23 (by decide) hF (fun x55 hF => ?_)
                    refine r_aload_n C dX12_layer_159 rfl 1 rfl ?_
                    refine k_gI C dX12_layer_160 fd_X12_174 (by decide) hF (fun x56 hF => ?_)
                    refine k_aI C dX12_layer_163 hF (fun x57 hF => ?_)
                    refine k_sI C dX12_layer_164 hF (fun h58 hF => ?_)
                    refine r_aload_n C dX12_layer_165 rfl 1 rfl ?_
                    refine k_gR C dX12_layer_166 fd_X12_20 (by decide) hF (fun x59 hF => ?_)
                    refine r_aload_n C dX12_layer_169 rfl 1 rfl ?_
                    refine k_gI C dX12_layer_170 fd_X12_174 (by decide) hF (fun x60 hF => ?_)
                    refine r_dup2 C dX12_layer_173 rfl rfl ?_
                    refine k_aI C dX12_layer_174 hF (fun x61 hF => ?_)
                    refine r_iconst (v := 1) C dX12_layer_175 (by decide) ?_
                    refine r_iadd C dX12_layer_176 ?_
                    refine k_sI C dX12_layer_177 hF (fun h62 hF => ?_)
                    refine r_iinc (v := v43 + 1) C dX12_layer_178 7 rfl (congrArg (fun z => v43 + z) (by decide)) (by decide) rfl ?_
                    refine r_goto (tgt := 103) C dX12_layer_181 (by decide) ?_
                    exact r_sub [2, 3, 4, 5, 6, 7, 0] rfl (ih _ _ hF)
              exact r_sub [1, 2, 3, 4, 5, 6, 0] rfl (L103_64 _ _ _ hF)
        exact r_sub [2, 3, 4, 5, 1, 0] rfl (L91 _ _ _ hF)
      · exact k_vret C dX12_layer_86 hr (by decide) (by decide) hF
    refine r_icmp_ge (tgt := 73) C dX12_layer_63 (by decide) hF (fun hF => ?_) (fun hF => ?_)
    · refine r_iconst (v := 5) C dX12_layer_73 (by decide) ?_
      exact r_sub [1, 2, 3, 0] rfl (Jk74 _ _ _ _ hF)
    · refine r_bipush (v := 6) C dX12_layer_66 (by decide) ?_
      refine r_iload_n C dX12_layer_68 rfl 3 rfl ?_
      refine r_isub C dX12_layer_69 ?_
      refine r_goto (tgt := 74) C dX12_layer_70 (by decide) ?_
      exact r_sub [1, 2, 3, 0] rfl (Jk74 _ _ _ _ hF)
  refine r_icmp_ge (tgt := 45) C dX12_layer_35 (by decide) hF (fun hF => ?_) (fun hF => ?_)
  · refine r_iconst (v := 5) C dX12_layer_45 (by decide) ?_
    exact r_sub [2, 1, 0] rfl (Jk46 _ _ _ _ hF)
  · refine r_bipush (v := 6) C dX12_layer_38 (by decide) ?_
    refine r_iload_n C dX12_layer_40 rfl 1 rfl ?_
    refine r_isub C dX12_layer_41 ?_
    refine r_goto (tgt := 46) C dX12_layer_42 (by decide) ?_
    exact r_sub [2, 1, 0] rfl (Jk46 _ _ _ _ hF)
def F_X12_model_L98 (c0 : Nat) (k163 : PM → Option (Int32 × PM)) : Nat → PM → Option (Int32 × PM)
  | 0, _ => none
  | fu + 1, h37 => tst h37 c0 13 (cl (F_X12_fine c0 h37) fun r38 h39 => if r38 = 0 then (k163 h39) else (tst h39 c0 13 (cl (F_X12_isMore c0 h39) fun r41 h42 => if r41 = 0 then (k163 h42) else (tst h42 c0 13 (cl (F_X12_here c0 h42) fun r44 h45 => jn (fun  (h47 : PM) => gI h47 c0 13 5 fun x48 => tst h47 c0 13 (cl (F_X12_wrong c0 x48 h47) fun r49 h50 => F_X12_model_L98 c0 k163 fu h50)) fun k135 => if ¬ r44 = 59 then (k135 h45) else (gR h45 c0 13 10 fun x52 => gI h45 c0 13 7 fun x53 => aI h45 x52 x53 fun x54 => if ¬ x54 = 6 then (gI h45 c0 13 5 fun x55 => pI h45 c0 13 5 (x55 + 1) fun h56 => tst h56 c0 13 (cl (F_X12_layer c0 h56) fun r57 h58 => F_X12_model_L98 c0 k163 fu h58)) else (k135 h45)))))))
def F_X12_model (a0 : Nat) (a1 : Int32) (h0 : PM) : Option (Int32 × PM) := pI h0 a0 13 0 0 fun h1 => jn (fun (s2 : Int32) (s3 : Nat) (h4 : PM) => tst h4 s3 13 (cl (F_X12_may s3 s2 1 h4) fun r5 h6 => jn (fun  (h8 : PM) => some (0, h8)) fun k52 => if r5 = 0 then (k52 h6) else (gI h6 a0 13 7 fun x9 => jn (fun (s10 : Int32) (s11 : Nat) (h12 : PM) => tst h12 s11 13 (cl (F_X12_may s11 s10 2 h12) fun r13 h14 => if ¬ r13 = 0 then (pI h14 a0 13 3 0 fun h16 => pI h16 a0 13 4 a1 fun h17 => pI h17 a0 13 5 0 fun h18 => pI h18 a0 13 6 (-1) fun h19 => gR h19 a0 13 9 fun x20 => gI h19 a0 13 7 fun x21 => sI h19 x20 x21 0 fun h22 => gR h22 a0 13 10 fun x23 => gI h22 a0 13 7 fun x24 => sI h22 x23 x24 0 fun h25 => tst h25 a0 13 (cl (F_X12_layer a0 h25) fun r26 h27 => jn (fun  (h29 : PM) => tst h29 a0 13 (cl (F_X12_fine a0 h29) fun r30 h31 => if ¬ r30 = 0 then (gI h31 a0 13 7 fun x33 => pI h31 a0 13 7 (x33 + 1) fun h34 => gI h34 a0 13 7 fun x35 => some (x35 - 1, h34)) else (gI h31 a0 13 6 fun x36 => some ((-2) - x36, h31)))) fun k163 => F_X12_model_L98 a0 k163 LF  h27)) else (k52 h14))) fun k45 => if 6 ≤ x9 then (k45 0 a0 h6) else (k45 1 a0 h6)))) fun k23 => jn (fun (s61 : Nat) (h62 : PM) => k23 0 s61 h62) fun k22 => if a1 < 0 then (k22 a0 h1) else (gI h1 a0 13 3 fun x63 => if x63 < a1 then (k22 a0 h1) else (k23 1 a0 h1))
set_option maxRecDepth 100000 in
set_option maxHeartbeats 4000000 in
theorem S_X12_model {a0 : Nat} {a1 : Int32} {h0 : PM} (r : Int32) (h' : PM) (hF : F_X12_model a0 a1 h0 = some (r, h')) : CN yX12_model cX12_model 2 (some .int) 0 0 3 [.ref a0, .int a1] h0 (some (.int r)) h' := by
  obtain ⟨X, eX⟩ : ∃ X, X = (r, h') := ⟨_, rfl⟩
  rw [← eX] at hF
  have e1 : r = X.1 := by rw [eX]
  have e2 : h' = X.2 := by rw [eX]
  rw [e1, e2]
  clear eX e1 e2
  unfold F_X12_model at hF
  refine CN_of (by decide) (fun ρ => Nat.le_of_ble_eq_true rfl) rfl ?_
  intro p l e s m args below meth c D cy base ρ hT C V hr hnm
  refine r_aload_n C dX12_model_0 rfl 0 rfl ?_
  refine r_iconst (v := 0) C dX12_model_1 (by decide) ?_
  refine k_pI C dX12_model_2 fd_X12_1 (fun z => by cases z) (by decide) hF (fun h1 hF => ?_)
  refine r_aload_n C dX12_model_5 rfl 0 rfl ?_
  refine r_iload_n C dX12_model_6 rfl 1 rfl ?_
  obtain ⟨k23, ek23, hF⟩ := jn_some hF
  have Jk23 : ∀ (s2 : Int32) (s3 : Nat) (h4 : PM), k23 s2 s3 h4 = some X → WP p l e (rmN 0 0 3) s m args below meth c D cy base ρ h0 0 0 2 (MQ below (QR D cy base ρ h0 (some (.int X.1)) X.2) args s 0 0 (fun q => base ≤ q)) 23 [(0, .ref a0), (1, .int a1)] [.int s2, .ref s3] h4 := by
    intro s2 s3 h4 hF
    rw [ek23] at hF
    refine r_iconst (v := 1) C dX12_model_23 (by decide) ?_
    obtain ⟨ht, hF⟩ := tst_some hF
    obtain ⟨r5, h6, hc7, hF⟩ := cl_some hF
    refine r_callV (As := [.int s2, .int 1]) C dX12_model_24 V hT cal_X12_may cls_13 ml_X12_133 im_X12_may se_X12_may ht (by decide) rfl rfl (Nat.le_of_ble_eq_true rfl) (by decide) (by decide) (S_X12_may _ _ hc7) ?_
    obtain ⟨k52, ek52, hF⟩ := jn_some hF
    have Jk52 : ∀  (h8 : PM), k52 h8 = some X → WP p l e (rmN 0 0 3) s m args below meth c D cy base ρ h0 0 0 2 (MQ below (QR D cy base ρ h0 (some (.int X.1)) X.2) args s 0 0 (fun q => base ≤ q)) 52 [] [] h8 := by
      intro h8 hF
      rw [ek52] at hF
      refine r_iconst (v := 0) C dX12_model_52 (by decide) ?_
      exact k_iret C dX12_model_53 hr (by decide) (by decide) hF
    refine r_if_eq (tgt := 52) C dX12_model_27 (by decide) hF (fun hF => ?_) (fun hF => ?_)
    · exact r_sub [] rfl (Jk52  _ hF)
    · refine r_aload_n C dX12_model_30 rfl 0 rfl ?_
      refine r_aload_n C dX12_model_31 rfl 0 rfl ?_
      refine k_gI C dX12_model_32 fd_X12_174 (by decide) hF (fun x9 hF => ?_)
      refine r_bipush (v := 6) C dX12_model_35 (by decide) ?_
      obtain ⟨k45, ek45, hF⟩ := jn_some hF
      have Jk45 : ∀ (s10 : Int32) (s11 : Nat) (h12 : PM), k45 s10 s11 h12 = some X → WP p l e (rmN 0 0 3) s m args below meth c D cy base ρ h0 0 0 2 (MQ below (QR D cy base ρ h0 (some (.int X.1)) X.2) args s 0 0 (fun q => base ≤ q)) 45 [(0, .ref a0), (1, .int a1)] [.int s10, .ref s11] h12 := by
        intro s10 s11 h12 hF
        rw [ek45] at hF
        refine r_iconst (v := 2) C dX12_model_45 (by decide) ?_
        obtain ⟨ht, hF⟩ := tst_some hF
        obtain ⟨r13, h14, hc15, hF⟩ := cl_some hF
        refine r_callV (As := [.int s10, .int 2]) C dX12_model_46 V hT cal_X12_may cls_13 ml_X12_133 im_X12_may se_X12_may ht (by decide) rfl rfl (Nat.le_of_ble_eq_true rfl) (by decide) (by decide) (S_X12_may _ _ hc15) ?_
        refine r_if_ne (tgt := 54) C dX12_model_49 (by decide) hF (fun hF => ?_) (fun hF => ?_)
        · refine r_aload_n C dX12_model_54 rfl 0 rfl ?_
          refine r_iconst (v := 0) C dX12_model_55 (by decide) ?_
          refine k_pI C dX12_model_56 fd_X12_143 (fun z => by cases z) (by decide) hF (fun h16 hF => ?_)
          refine r_aload_n C dX12_model_59 rfl 0 rfl ?_
          refine r_iload_n C dX12_model_60 rfl 1 rfl ?_
          refine k_pI C dX12_model_61 fd_X12_152 (fun z => by cases z) (by decide) hF (fun h17 hF => ?_)
          refine r_aload_n C dX12_model_64 rfl 0 rfl ?_
          refine r_iconst (v := 0) C dX12_model_65 (by decide) ?_
          refine k_pI C dX12_model_66 fd_X12_149 (fun z => by cases z) (by decide) hF (fun h18 hF => ?_)
          refine r_aload_n C dX12_model_69 rfl 0 rfl ?_
          refine r_iconst (v := (-1)) C dX12_model_70 (by decide) ?_
          refine k_pI C dX12_model_71 fd_X12_146 (fun z => by cases z) (by decide) hF (fun h19 hF => ?_)
          refine r_aload_n C dX12_model_74 rfl 0 rfl ?_
          refine k_gR C dX12_model_75 fd_X12_20 (by decide) hF (fun x20 hF => ?_)
          refine r_aload_n C dX12_model_78 rfl 0 rfl ?_
          refine k_gI C dX12_model_79 fd_X12_174 (by decide) hF (fun x21 hF => ?_)
          refine r_iconst (v := 0) C dX12_model_82 (by decide) ?_
          refine k_sI C dX12_model_83 hF (fun h22 hF => ?_)
          refine r_aload_n C dX12_model_84 rfl 0 rfl ?_
          refine k_gR C dX12_model_85 fd_X12_23 (by decide) hF (fun x23 hF => ?_)
          refine r_aload_n C dX12_model_88 rfl 0 rfl ?_
          refine k_gI C dX12_model_89 fd_X12_174 (by decide) hF (fun x24 hF => ?_)
          refine r_iconst (v := 0) C dX12_model_92 (by decide) ?_
          refine k_sI C dX12_model_93 hF (fun h25 hF => ?_)
          refine r_aload_n C dX12_model_94 rfl 0 rfl ?_
          obtain ⟨ht, hF⟩ := tst_some hF
          obtain ⟨r26, h27, hc28, hF⟩ := cl_some hF
          refine r_callV (As := []) C dX12_model_95 V hT cal_X12_layer cls_13 ml_X12_177 im_X12_layer se_X12_layer ht (by decide) rfl rfl (Nat.le_of_ble_eq_true rfl) (by decide) (by decide) (S_X12_layer _ _ hc28) ?_
          obtain ⟨k163, ek163, hF⟩ := jn_some hF
          have Jk163 : ∀  (h29 : PM), k163 h29 = some X → WP p l e (rmN 0 0 3) s m args below meth c D cy base ρ h0 0 0 2 (MQ below (QR D cy base ρ h0 (some (.int X.1)) X.2) args s 0 0 (fun q => base ≤ q)) 163 [(0, .ref a0)] [] h29 := by
            intro h29 hF
            rw [ek163] at hF
            refine r_aload_n C dX12_model_163 rfl 0 rfl ?_
            obtain ⟨ht, hF⟩ := tst_some hF
            obtain ⟨r30, h31, hc32, hF⟩ := cl_some hF
            refine r_callV (As := []) C dX12_model_164 V hT cal_X12_fine cls_13 ml_X12_155 im_X12_fine se_X12_fine ht (by decide) rfl rfl (Nat.le_of_ble_eq_true rfl) (by decide) (by decide) (S_X12_fine _ _ hc32) ?_
            refine r_if_ne (tgt := 178) C dX12_model_167 (by decide) hF (fun hF => ?_) (fun hF => ?_)
            · refine r_aload_n C dX12_model_178 rfl 0 rfl ?_
              refine r_dup C dX12_model_179 rfl ?_
              refine k_gI C dX12_model_180 fd_X12_174 (by decide) hF (fun x33 hF => ?_)
              refine r_iconst (v := 1) C dX12_model_183 (by decide) ?_
              refine r_iadd C dX12_model_184 ?_
              refine k_pI C dX12_model_185 fd_X12_174 (fun z => by cases z) (by decide) hF (fun h34 hF => ?_)
              refine r_aload_n C dX12_model_188 rfl 0 rfl ?_
              refine k_gI C dX12_model_189 fd_X12_174 (by decide) hF (fun x35 hF => ?_)
              refine r_iconst (v := 1) C dX12_model_192 (by decide) ?_
              refine r_isub C dX12_model_193 ?_
              exact k_iret C dX12_model_194 hr (by decide) (by decide) hF
            · refine r_bipush (v := (-2)) C dX12_model_170 (by decide) ?_
              refine r_aload_n C dX12_model_172 rfl 0 rfl ?_
              refine k_gI C dX12_model_173 fd_X12_146 (by decide) hF (fun x36 hF => ?_)
              refine r_isub C dX12_model_176 ?_
              exact k_iret C dX12_model_177 hr (by decide) (by decide) hF
          have L98 : ∀ (fu : Nat)  (h37 : PM), F_X12_model_L98 a0 k163 fu h37 = some X → WP p l e (rmN 0 0 3) s m args below meth c D cy base ρ h0 0 0 2 (MQ below (QR D cy base ρ h0 (some (.int X.1)) X.2) args s 0 0 (fun q => base ≤ q)) 98 [(0, .ref a0)] [] h37 := by
            intro fu
            induction fu with
            | zero => intro h37 hF; rw [F_X12_model_L98.eq_1] at hF; cases hF
            | succ fu ih =>
              intro h37 hF
              rw [F_X12_model_L98.eq_2] at hF
              refine r_aload_n C dX12_model_98 rfl 0 rfl ?_
              obtain ⟨ht, hF⟩ := tst_some hF
              obtain ⟨r38, h39, hc40, hF⟩ := cl_some hF
              refine r_callV (As := []) C dX12_model_99 V hT cal_X12_fine cls_13 ml_X12_155 im_X12_fine se_X12_fine ht (by decide) rfl rfl (Nat.le_of_ble_eq_true rfl) (by decide) (by decide) (S_X12_fine _ _ hc40) ?_
              refine r_if_eq (tgt := 163) C dX12_model_102 (by decide) hF (fun hF => ?_) (fun hF => ?_)
              · exact Jk163  _ hF
              · refine r_aload_n C dX12_model_105 rfl 0 rfl ?_
                obtain ⟨ht, hF⟩ := tst_some hF
                obtain ⟨r41, h42, hc43, hF⟩ := cl_some hF
                refine r_callV (As := []) C dX12_model_106 V hT cal_X12_isMore cls_13 ml_X12_180 im_X12_isMore se_X12_isMore ht (by decide) rfl rfl (Nat.le_of_ble_eq_true rfl) (by decide) (by decide) (S_X12_isMore _ _ hc43) ?_
                refine r_if_eq (tgt := 163) C dX12_model_109 (by decide) hF (fun hF => ?_) (fun hF => ?_)
                · exact Jk163  _ hF
                · refine r_aload_n C dX12_model_112 rfl 0 rfl ?_
                  obtain ⟨ht, hF⟩ := tst_some hF
                  obtain ⟨r44, h45, hc46, hF⟩ := cl_some hF
                  refine r_callV (As := []) C dX12_model_113 V hT cal_X12_here cls_13 ml_X12_159 im_X12_here se_X12_here ht (by decide) rfl rfl (Nat.le_of_ble_eq_true rfl) (by decide) (by decide) (S_X12_here _ _ hc46) ?_
                  refine r_bipush (v := 59) C dX12_model_116 (by decide) ?_
                  obtain ⟨k135_47, ek135_47, hF⟩ := jn_some hF
                  have Jk135_47 : ∀  (h48 : PM), k135_47 h48 = some X → WP p l e (rmN 0 0 3) s m args below meth c D cy base ρ h0 0 0 2 (MQ below (QR D cy base ρ h0 (some (.int X.1)) X.2) args s 0 0 (fun q => base ≤ q)) 135 [(0, .ref a0)] [] h48 := by
                    intro h48 hF
                    rw [ek135_47] at hF
                    refine r_aload_n C dX12_model_135 rfl 0 rfl ?_
                    refine r_aload_n C dX12_model_136 rfl 0 rfl ?_
                    refine k_gI C dX12_model_137 fd_X12_149 (by decide) hF (fun x49 hF => ?_)
                    obtain ⟨ht, hF⟩ := tst_some hF
                    obtain ⟨r50, h51, hc52, hF⟩ := cl_some hF
                    refine r_callV (As := [.int x49]) C dX12_model_140 V hT cal_X12_wrong cls_13 ml_X12_163 im_X12_wrong se_X12_wrong ht (by decide) rfl rfl (Nat.le_of_ble_eq_true rfl) (by decide) (by decide) (S_X12_wrong _ _ hc52) ?_
                    refine r_goto (tgt := 98) C dX12_model_143 (by decide) ?_
                    exact ih  _ hF
                  refine r_icmp_ne (tgt := 135) C dX12_model_118 (by decide) hF (fun hF => ?_) (fun hF => ?_)
                  · exact Jk135_47  _ hF
                  · refine r_aload_n C dX12_model_121 rfl 0 rfl ?_
                    refine k_gR C dX12_model_122 fd_X12_23 (by decide) hF (fun x53 hF => ?_)
                    refine r_aload_n C dX12_model_125 rfl 0 rfl ?_
                    refine k_gI C dX12_model_126 fd_X12_174 (by decide) hF (fun x54 hF => ?_)
                    refine k_aI C dX12_model_129 hF (fun x55 hF => ?_)
                    refine r_bipush (v := 6) C dX12_model_130 (by decide) ?_
                    refine r_icmp_ne (tgt := 146) C dX12_model_132 (by decide) hF (fun hF => ?_) (fun hF => ?_)
                    · refine r_aload_n C dX12_model_146 rfl 0 rfl ?_
                      refine r_dup C dX12_model_147 rfl ?_
                      refine k_gI C dX12_model_148 fd_X12_149 (by decide) hF (fun x56 hF => ?_)
                      refine r_iconst (v := 1) C dX12_model_151 (by decide) ?_
                      refine r_iadd C dX12_model_152 ?_
                      refine k_pI C dX12_model_153 fd_X12_149 (fun z => by cases z) (by decide) hF (fun h57 hF => ?_)
                      refine r_aload_n C dX12_model_156 rfl 0 rfl ?_
                      obtain ⟨ht, hF⟩ := tst_some hF
                      obtain ⟨r58, h59, hc60, hF⟩ := cl_some hF
                      refine r_callV (As := []) C dX12_model_157 V hT cal_X12_layer cls_13 ml_X12_177 im_X12_layer se_X12_layer ht (by decide) rfl rfl (Nat.le_of_ble_eq_true rfl) (by decide) (by decide) (S_X12_layer _ _ hc60) ?_
                      refine r_goto (tgt := 98) C dX12_model_160 (by decide) ?_
                      exact ih  _ hF
                    · exact Jk135_47  _ hF
          exact r_sub [0] rfl (L98 _  _ hF)
        · exact r_sub [] rfl (Jk52  _ hF)
      refine r_icmp_ge (tgt := 44) C dX12_model_37 (by decide) hF (fun hF => ?_) (fun hF => ?_)
      · refine r_iconst (v := 0) C dX12_model_44 (by decide) ?_
        exact Jk45 _ _ _ hF
      · refine r_iconst (v := 1) C dX12_model_40 (by decide) ?_
        refine r_goto (tgt := 45) C dX12_model_41 (by decide) ?_
        exact Jk45 _ _ _ hF
  obtain ⟨k22, ek22, hF⟩ := jn_some hF
  have Jk22 : ∀ (s61 : Nat) (h62 : PM), k22 s61 h62 = some X → WP p l e (rmN 0 0 3) s m args below meth c D cy base ρ h0 0 0 2 (MQ below (QR D cy base ρ h0 (some (.int X.1)) X.2) args s 0 0 (fun q => base ≤ q)) 22 [(0, .ref a0), (1, .int a1)] [.ref s61] h62 := by
    intro s61 h62 hF
    rw [ek22] at hF
    refine r_iconst (v := 0) C dX12_model_22 (by decide) ?_
    exact Jk23 _ _ _ hF
  refine r_if_lt (tgt := 22) C dX12_model_7 (by decide) hF (fun hF => ?_) (fun hF => ?_)
  · exact Jk22 _ _ hF
  · refine r_iload_n C dX12_model_10 rfl 1 rfl ?_
    refine r_aload_n C dX12_model_11 rfl 0 rfl ?_
    refine k_gI C dX12_model_12 fd_X12_143 (by decide) hF (fun x63 hF => ?_)
    refine r_icmp_gt (tgt := 22) C dX12_model_15 (by decide) hF (fun hF => ?_) (fun hF => ?_)
    · exact Jk22 _ _ hF
    · refine r_iconst (v := 1) C dX12_model_18 (by decide) ?_
      refine r_goto (tgt := 23) C dX12_model_19 (by decide) ?_
      exact Jk23 _ _ _ hF
def F_X12_isModel (a0 : Nat) (a1 : Int32) (h0 : PM) : Option (Int32 × PM) := gI h0 a0 13 7 fun x1 => cl (F_X12_within a1 0 (x1 - 1) h0) fun r2 h3 => tst h3 a0 13 (cl (F_X12_may a0 r2 2 h3) fun r5 h6 => rz r5 h6)
set_option maxRecDepth 100000 in
set_option maxHeartbeats 4000000 in
theorem S_X12_isModel {a0 : Nat} {a1 : Int32} {h0 : PM} (r : Int32) (h' : PM) (hF : F_X12_isModel a0 a1 h0 = some (r, h')) : CN yX12_isModel cX12_isModel 2 (some .boolean) 0 0 1 [.ref a0, .int a1] h0 (some (.int r)) h' := by
  obtain ⟨X, eX⟩ : ∃ X, X = (r, h') := ⟨_, rfl⟩
  rw [← eX] at hF
  have e1 : r = X.1 := by rw [eX]
  have e2 : h' = X.2 := by rw [eX]
  rw [e1, e2]
  clear eX e1 e2
  unfold F_X12_isModel at hF
  refine CN_of (by decide) (fun ρ => Nat.le_of_ble_eq_true rfl) rfl ?_
  intro p l e s m args below meth c D cy base ρ hT C V hr hnm
  refine r_aload_n C dX12_isModel_0 rfl 0 rfl ?_
  refine r_iload_n C dX12_isModel_1 rfl 1 rfl ?_
  refine r_iconst (v := 0) C dX12_isModel_2 (by decide) ?_
  refine r_aload_n C dX12_isModel_3 rfl 0 rfl ?_
  refine k_gI C dX12_isModel_4 fd_X12_174 (by decide) hF (fun x1 hF => ?_)
  refine r_iconst (v := 1) C dX12_isModel_7 (by decide) ?_
  refine r_isub C dX12_isModel_8 ?_
  obtain ⟨r2, h3, hc4, hF⟩ := cl_some hF
  refine r_callS (As := [.int a1, .int 0, .int (x1 - 1)]) C dX12_isModel_9 V hT cal_X12_within ml_X12_129 sm_X12_within (by decide) rfl rfl (Nat.le_of_ble_eq_true rfl) (by decide) (by decide) (S_X12_within _ _ hc4) ?_
  refine r_iconst (v := 2) C dX12_isModel_12 (by decide) ?_
  obtain ⟨ht, hF⟩ := tst_some hF
  obtain ⟨r5, h6, hc7, hF⟩ := cl_some hF
  refine r_callV (As := [.int r2, .int 2]) C dX12_isModel_13 V hT cal_X12_may cls_13 ml_X12_133 im_X12_may se_X12_may ht (by decide) rfl rfl (Nat.le_of_ble_eq_true rfl) (by decide) (by decide) (S_X12_may _ _ hc7) ?_
  exact k_zret C dX12_isModel_16 hr (by decide) (by decide) hF
def F_X12_price_L44 (c0 : Nat) (c1 : Int32) (c2 : Int32) (k68 : Int32 → PM → Option (Int32 × PM)) : Nat → Int32 → PM → Option (Int32 × PM)
  | 0, _, _ => none
  | fu + 1, v22, h23 => gI h23 c0 13 14 fun x24 => if x24 ≤ v22 then (k68 v22 h23) else (gR h23 c0 13 15 fun x25 => aI h23 x25 v22 fun x26 => if x26 = c1 then (k68 v22 h23) else (F_X12_price_L44 c0 c1 c2 k68 fu (v22 + 1) h23))
def F_X12_price (a0 : Nat) (a1 : Int32) (a2 : Int32) (h0 : PM) : Option (Int32 × PM) := pI h0 a0 13 0 0 fun h1 => cl (F_X12_within a1 1 216 h1) fun r2 h3 => jn (fun (s5 : Int32) (s6 : Nat) (h7 : PM) => tst h7 s6 13 (cl (F_X12_may s6 s5 1 h7) fun r8 h9 => if ¬ r8 = 0 then (jn (fun (v11 : Int32) (h12 : PM) => if ¬ v11 = 10 then (gI h12 a0 13 14 fun x13 => jn (fun  (h14 : PM) => gR h14 a0 13 15 fun x15 => sI h14 x15 v11 a1 fun h16 => gR h16 a0 13 16 fun x17 => sI h16 x17 v11 a2 fun h18 => gI h18 a0 13 14 fun x19 => some (x19, h18)) fun k94 => if ¬ v11 = x13 then (k94 h12) else (gI h12 a0 13 14 fun x20 => pI h12 a0 13 14 (x20 + 1) fun h21 => k94 h21)) else (some ((-1), h12))) fun k68 => F_X12_price_L44 a0 a1 a2 k68 LF 0 h9) else (some (0, h9)))) fun k33 => jn (fun (s28 : Nat) (h29 : PM) => k33 0 s28 h29) fun k32 => if r2 = 0 then (k32 a0 h3) else (cl (F_X12_within a2 0 10000 h3) fun r30 h31 => if r30 = 0 then (k32 a0 h31) else (k33 1 a0 h31))
set_option maxRecDepth 100000 in
set_option maxHeartbeats 4000000 in
theorem S_X12_price {a0 : Nat} {a1 : Int32} {a2 : Int32} {h0 : PM} (r : Int32) (h' : PM) (hF : F_X12_price a0 a1 a2 h0 = some (r, h')) : CN yX12_price cX12_price 4 (some .int) 0 0 1 [.ref a0, .int a1, .int a2] h0 (some (.int r)) h' := by
  obtain ⟨X, eX⟩ : ∃ X, X = (r, h') := ⟨_, rfl⟩
  rw [← eX] at hF
  have e1 : r = X.1 := by rw [eX]
  have e2 : h' = X.2 := by rw [eX]
  rw [e1, e2]
  clear eX e1 e2
  unfold F_X12_price at hF
  refine CN_of (by decide) (fun ρ => Nat.le_of_ble_eq_true rfl) rfl ?_
  intro p l e s m args below meth c D cy base ρ hT C V hr hnm
  refine r_aload_n C dX12_price_0 rfl 0 rfl ?_
  refine r_iconst (v := 0) C dX12_price_1 (by decide) ?_
  refine k_pI C dX12_price_2 fd_X12_1 (fun z => by cases z) (by decide) hF (fun h1 hF => ?_)
  refine r_aload_n C dX12_price_5 rfl 0 rfl ?_
  refine r_iload_n C dX12_price_6 rfl 1 rfl ?_
  refine r_iconst (v := 1) C dX12_price_7 (by decide) ?_
  refine r_sipush (v := 216) C dX12_price_8 (by decide) ?_
  obtain ⟨r2, h3, hc4, hF⟩ := cl_some hF
  refine r_callS (As := [.int a1, .int 1, .int 216]) C dX12_price_11 V hT cal_X12_within ml_X12_129 sm_X12_within (by decide) rfl rfl (Nat.le_of_ble_eq_true rfl) (by decide) (by decide) (S_X12_within _ _ hc4) ?_
  obtain ⟨k33, ek33, hF⟩ := jn_some hF
  have Jk33 : ∀ (s5 : Int32) (s6 : Nat) (h7 : PM), k33 s5 s6 h7 = some X → WP p l e (rmN 0 0 1) s m args below meth c D cy base ρ h0 0 0 4 (MQ below (QR D cy base ρ h0 (some (.int X.1)) X.2) args s 0 0 (fun q => base ≤ q)) 33 [(0, .ref a0), (1, .int a1), (2, .int a2)] [.int s5, .ref s6] h7 := by
    intro s5 s6 h7 hF
    rw [ek33] at hF
    refine r_iconst (v := 1) C dX12_price_33 (by decide) ?_
    obtain ⟨ht, hF⟩ := tst_some hF
    obtain ⟨r8, h9, hc10, hF⟩ := cl_some hF
    refine r_callV (As := [.int s5, .int 1]) C dX12_price_34 V hT cal_X12_may cls_13 ml_X12_133 im_X12_may se_X12_may ht (by decide) rfl rfl (Nat.le_of_ble_eq_true rfl) (by decide) (by decide) (S_X12_may _ _ hc10) ?_
    refine r_if_ne (tgt := 42) C dX12_price_37 (by decide) hF (fun hF => ?_) (fun hF => ?_)
    · refine r_iconst (v := 0) C dX12_price_42 (by decide) ?_
      refine r_istore_n C dX12_price_43 rfl (by decide) rfl ?_
      obtain ⟨k68, ek68, hF⟩ := jn_some hF
      have Jk68 : ∀ (v11 : Int32) (h12 : PM), k68 v11 h12 = some X → WP p l e (rmN 0 0 1) s m args below meth c D cy base ρ h0 0 0 4 (MQ below (QR D cy base ρ h0 (some (.int X.1)) X.2) args s 0 0 (fun q => base ≤ q)) 68 [(0, .ref a0), (1, .int a1), (2, .int a2), (3, .int v11)] [] h12 := by
        intro v11 h12 hF
        rw [ek68] at hF
        refine r_iload_n C dX12_price_68 rfl 3 rfl ?_
        refine r_bipush (v := 10) C dX12_price_69 (by decide) ?_
        refine r_icmp_ne (tgt := 76) C dX12_price_71 (by decide) hF (fun hF => ?_) (fun hF => ?_)
        · refine r_iload_n C dX12_price_76 rfl 3 rfl ?_
          refine r_aload_n C dX12_price_77 rfl 0 rfl ?_
          refine k_gI C dX12_price_78 fd_X12_183 (by decide) hF (fun x13 hF => ?_)
          obtain ⟨k94, ek94, hF⟩ := jn_some hF
          have Jk94 : ∀  (h14 : PM), k94 h14 = some X → WP p l e (rmN 0 0 1) s m args below meth c D cy base ρ h0 0 0 4 (MQ below (QR D cy base ρ h0 (some (.int X.1)) X.2) args s 0 0 (fun q => base ≤ q)) 94 [(0, .ref a0), (1, .int a1), (2, .int a2), (3, .int v11)] [] h14 := by
            intro h14 hF
            rw [ek94] at hF
            refine r_aload_n C dX12_price_94 rfl 0 rfl ?_
            refine k_gR C dX12_price_95 fd_X12_35 (by decide) hF (fun x15 hF => ?_)
            refine r_iload_n C dX12_price_98 rfl 3 rfl ?_
            refine r_iload_n C dX12_price_99 rfl 1 rfl ?_
            refine k_sI C dX12_price_100 hF (fun h16 hF => ?_)
            refine r_aload_n C dX12_price_101 rfl 0 rfl ?_
            refine k_gR C dX12_price_102 fd_X12_38 (by decide) hF (fun x17 hF => ?_)
            refine r_iload_n C dX12_price_105 rfl 3 rfl ?_
            refine r_iload_n C dX12_price_106 rfl 2 rfl ?_
            refine k_sI C dX12_price_107 hF (fun h18 hF => ?_)
            refine r_aload_n C dX12_price_108 rfl 0 rfl ?_
            refine k_gI C dX12_price_109 fd_X12_183 (by decide) hF (fun x19 hF => ?_)
            exact k_iret C dX12_price_112 hr (by decide) (by decide) hF
          refine r_icmp_ne (tgt := 94) C dX12_price_81 (by decide) hF (fun hF => ?_) (fun hF => ?_)
          · exact Jk94  _ hF
          · refine r_aload_n C dX12_price_84 rfl 0 rfl ?_
            refine r_dup C dX12_price_85 rfl ?_
            refine k_gI C dX12_price_86 fd_X12_183 (by decide) hF (fun x20 hF => ?_)
            refine r_iconst (v := 1) C dX12_price_89 (by decide) ?_
            refine r_iadd C dX12_price_90 ?_
            refine k_pI C dX12_price_91 fd_X12_183 (fun z => by cases z) (by decide) hF (fun h21 hF => ?_)
            exact Jk94  _ hF
        · refine r_iconst (v := (-1)) C dX12_price_74 (by decide) ?_
          exact k_iret C dX12_price_75 hr (by decide) (by decide) hF
      have L44 : ∀ (fu : Nat) (v22 : Int32) (h23 : PM), F_X12_price_L44 a0 a1 a2 k68 fu v22 h23 = some X → WP p l e (rmN 0 0 1) s m args below meth c D cy base ρ h0 0 0 4 (MQ below (QR D cy base ρ h0 (some (.int X.1)) X.2) args s 0 0 (fun q => base ≤ q)) 44 [(0, .ref a0), (1, .int a1), (2, .int a2), (3, .int v22)] [] h23 := by
        intro fu
        induction fu with
        | zero => intro v22 h23 hF; rw [F_X12_price_L44.eq_1] at hF; cases hF
        | succ fu ih =>
          intro v22 h23 hF
          rw [F_X12_price_L44.eq_2] at hF
          refine r_iload_n C dX12_price_44 rfl 3 rfl ?_
          refine r_aload_n C dX12_price_45 rfl 0 rfl ?_
          refine k_gI C dX12_price_46 fd_X12_183 (by decide) hF (fun x24 hF => ?_)
          refine r_icmp_ge (tgt := 68) C dX12_price_49 (by decide) hF (fun hF => ?_) (fun hF => ?_)
          · exact Jk68 _ _ hF
          · refine r_aload_n C dX12_price_52 rfl 0 rfl ?_
            refine k_gR C dX12_price_53 fd_X12_35 (by decide) hF (fun x25 hF => ?_)
            refine r_iload_n C dX12_price_56 rfl 3 rfl ?_
            refine k_aI C dX12_price_57 hF (fun x26 hF => ?_)
            refine r_iload_n C dX12_price_58 rfl 1 rfl ?_
            refine r_icmp_eq (tgt := 68) C dX12_price_59 (by decide) hF (fun hF => ?_) (fun hF => ?_)
            · exact Jk68 _ _ hF
            · refine r_iinc (v := v22 + 1) C dX12_price_62 3 rfl (congrArg (fun z => v22 + z) (by decide)) (by decide) rfl ?_
              refine r_goto (tgt := 44) C dX12_price_65 (by decide) ?_
              exact r_sub [1, 2, 3, 0] rfl (ih _ _ hF)
      exact r_sub [1, 2, 3, 0] rfl (L44 _ _ _ hF)
    · refine r_iconst (v := 0) C dX12_price_40 (by decide) ?_
      exact k_iret C dX12_price_41 hr (by decide) (by decide) hF
  obtain ⟨k32, ek32, hF⟩ := jn_some hF
  have Jk32 : ∀ (s28 : Nat) (h29 : PM), k32 s28 h29 = some X → WP p l e (rmN 0 0 1) s m args below meth c D cy base ρ h0 0 0 4 (MQ below (QR D cy base ρ h0 (some (.int X.1)) X.2) args s 0 0 (fun q => base ≤ q)) 32 [(0, .ref a0), (1, .int a1), (2, .int a2)] [.ref s28] h29 := by
    intro s28 h29 hF
    rw [ek32] at hF
    refine r_iconst (v := 0) C dX12_price_32 (by decide) ?_
    exact Jk33 _ _ _ hF
  refine r_if_eq (tgt := 32) C dX12_price_14 (by decide) hF (fun hF => ?_) (fun hF => ?_)
  · exact Jk32 _ _ hF
  · refine r_iload_n C dX12_price_17 rfl 2 rfl ?_
    refine r_iconst (v := 0) C dX12_price_18 (by decide) ?_
    refine r_sipush (v := 10000) C dX12_price_19 (by decide) ?_
    obtain ⟨r30, h31, hc32, hF⟩ := cl_some hF
    refine r_callS (As := [.int a2, .int 0, .int 10000]) C dX12_price_22 V hT cal_X12_within ml_X12_129 sm_X12_within (by decide) rfl rfl (Nat.le_of_ble_eq_true rfl) (by decide) (by decide) (S_X12_within _ _ hc32) ?_
    refine r_if_eq (tgt := 32) C dX12_price_25 (by decide) hF (fun hF => ?_) (fun hF => ?_)
    · exact Jk32 _ _ hF
    · refine r_iconst (v := 1) C dX12_price_28 (by decide) ?_
      refine r_goto (tgt := 33) C dX12_price_29 (by decide) ?_
      exact Jk33 _ _ _ hF
def F_X12_worthOf_L4 (c0 : Nat) (c1 : Int32) (k50 : Int32 → PM → Option (Int32 × PM)) : Nat → Int32 → Int32 → PM → Option (Int32 × PM)
  | 0, _, _, _ => none
  | fu + 1, v7, v8, h9 => gI h9 c0 13 14 fun x10 => if x10 ≤ v8 then (k50 v7 h9) else (gR h9 c0 13 15 fun x11 => aI h9 x11 v8 fun x12 => jn (fun (v13 : Int32) (h14 : PM) => F_X12_worthOf_L4 c0 c1 k50 fu v13 (v8 + 1) h14) fun k44 => if c1 < x12 then (k44 v7 h9) else (jn (fun  (h16 : PM) => k44 v8 h16) fun k42 => if v7 = (-1) then (k42 h9) else (gR h9 c0 13 15 fun x17 => aI h9 x17 v8 fun x18 => gR h9 c0 13 15 fun x19 => aI h9 x19 v7 fun x20 => if x18 ≤ x20 then (k44 v7 h9) else (k42 h9))))
def F_X12_worthOf (a0 : Nat) (a1 : Int32) (h0 : PM) : Option (Int32 × PM) := jn (fun (v1 : Int32) (h2 : PM) => jn (fun (s3 : Int32) (h4 : PM) => some (s3, h4)) fun k67 => if ¬ v1 = (-1) then (gR h2 a0 13 16 fun x5 => aI h2 x5 v1 fun x6 => k67 (a1 * x6) h2) else (k67 0 h2)) fun k50 => F_X12_worthOf_L4 a0 a1 k50 LF (-1) 0 h0
set_option maxRecDepth 100000 in
set_option maxHeartbeats 4000000 in
theorem S_X12_worthOf {a0 : Nat} {a1 : Int32} {h0 : PM} (r : Int32) (h' : PM) (hF : F_X12_worthOf a0 a1 h0 = some (r, h')) : CN yX12_worthOf cX12_worthOf 4 (some .int) 0 0 0 [.ref a0, .int a1] h0 (some (.int r)) h' := by
  obtain ⟨X, eX⟩ : ∃ X, X = (r, h') := ⟨_, rfl⟩
  rw [← eX] at hF
  have e1 : r = X.1 := by rw [eX]
  have e2 : h' = X.2 := by rw [eX]
  rw [e1, e2]
  clear eX e1 e2
  unfold F_X12_worthOf at hF
  refine CN_of (by decide) (fun ρ => Nat.le_of_ble_eq_true rfl) rfl ?_
  intro p l e s m args below meth c D cy base ρ hT C V hr hnm
  refine r_iconst (v := (-1)) C dX12_worthOf_0 (by decide) ?_
  refine r_istore_n C dX12_worthOf_1 rfl (by decide) rfl ?_
  refine r_iconst (v := 0) C dX12_worthOf_2 (by decide) ?_
  refine r_istore_n C dX12_worthOf_3 rfl (by decide) rfl ?_
  obtain ⟨k50, ek50, hF⟩ := jn_some hF
  have Jk50 : ∀ (v1 : Int32) (h2 : PM), k50 v1 h2 = some X → WP p l e (rmN 0 0 0) s m args below meth c D cy base ρ h0 0 0 4 (MQ below (QR D cy base ρ h0 (some (.int X.1)) X.2) args s 0 0 (fun q => base ≤ q)) 50 [(0, .ref a0), (1, .int a1), (2, .int v1)] [] h2 := by
    intro v1 h2 hF
    rw [ek50] at hF
    refine r_iload_n C dX12_worthOf_50 rfl 2 rfl ?_
    refine r_iconst (v := (-1)) C dX12_worthOf_51 (by decide) ?_
    obtain ⟨k67, ek67, hF⟩ := jn_some hF
    have Jk67 : ∀ (s3 : Int32) (h4 : PM), k67 s3 h4 = some X → WP p l e (rmN 0 0 0) s m args below meth c D cy base ρ h0 0 0 4 (MQ below (QR D cy base ρ h0 (some (.int X.1)) X.2) args s 0 0 (fun q => base ≤ q)) 67 [] [.int s3] h4 := by
      intro s3 h4 hF
      rw [ek67] at hF
      exact k_iret C dX12_worthOf_67 hr (by decide) (by decide) hF
    refine r_icmp_ne (tgt := 59) C dX12_worthOf_52 (by decide) hF (fun hF => ?_) (fun hF => ?_)
    · refine r_iload_n C dX12_worthOf_59 rfl 1 rfl ?_
      refine r_aload_n C dX12_worthOf_60 rfl 0 rfl ?_
      refine k_gR C dX12_worthOf_61 fd_X12_38 (by decide) hF (fun x5 hF => ?_)
      refine r_iload_n C dX12_worthOf_64 rfl 2 rfl ?_
      refine k_aI C dX12_worthOf_65 hF (fun x6 hF => ?_)
      refine r_imul C dX12_worthOf_66 ?_
      exact r_sub [] rfl (Jk67 _ _ hF)
    · refine r_iconst (v := 0) C dX12_worthOf_55 (by decide) ?_
      refine r_goto (tgt := 67) C dX12_worthOf_56 (by decide) ?_
      exact r_sub [] rfl (Jk67 _ _ hF)
  have L4 : ∀ (fu : Nat) (v7 : Int32) (v8 : Int32) (h9 : PM), F_X12_worthOf_L4 a0 a1 k50 fu v7 v8 h9 = some X → WP p l e (rmN 0 0 0) s m args below meth c D cy base ρ h0 0 0 4 (MQ below (QR D cy base ρ h0 (some (.int X.1)) X.2) args s 0 0 (fun q => base ≤ q)) 4 [(0, .ref a0), (1, .int a1), (2, .int v7), (3, .int v8)] [] h9 := by
    intro fu
    induction fu with
    | zero => intro v7 v8 h9 hF; rw [F_X12_worthOf_L4.eq_1] at hF; cases hF
    | succ fu ih =>
      intro v7 v8 h9 hF
      rw [F_X12_worthOf_L4.eq_2] at hF
      refine r_iload_n C dX12_worthOf_4 rfl 3 rfl ?_
      refine r_aload_n C dX12_worthOf_5 rfl 0 rfl ?_
      refine k_gI C dX12_worthOf_6 fd_X12_183 (by decide) hF (fun x10 hF => ?_)
      refine r_icmp_ge (tgt := 50) C dX12_worthOf_9 (by decide) hF (fun hF => ?_) (fun hF => ?_)
      · exact r_sub [0, 1, 2] rfl (Jk50 _ _ hF)
      · refine r_aload_n C dX12_worthOf_12 rfl 0 rfl ?_
        refine k_gR C dX12_worthOf_13 fd_X12_35 (by decide) hF (fun x11 hF => ?_)
        refine r_iload_n C dX12_worthOf_16 rfl 3 rfl ?_
        refine k_aI C dX12_worthOf_17 hF (fun x12 hF => ?_)
        refine r_iload_n C dX12_worthOf_18 rfl 1 rfl ?_
        obtain ⟨k44_14, ek44_14, hF⟩ := jn_some hF
        have Jk44_14 : ∀ (v13 : Int32) (h15 : PM), k44_14 v13 h15 = some X → WP p l e (rmN 0 0 0) s m args below meth c D cy base ρ h0 0 0 4 (MQ below (QR D cy base ρ h0 (some (.int X.1)) X.2) args s 0 0 (fun q => base ≤ q)) 44 [(0, .ref a0), (1, .int a1), (2, .int v13), (3, .int v8)] [] h15 := by
          intro v13 h15 hF
          rw [ek44_14] at hF
          refine r_iinc (v := v8 + 1) C dX12_worthOf_44 3 rfl (congrArg (fun z => v8 + z) (by decide)) (by decide) rfl ?_
          refine r_goto (tgt := 4) C dX12_worthOf_47 (by decide) ?_
          exact r_sub [1, 2, 3, 0] rfl (ih _ _ _ hF)
        refine r_icmp_gt (tgt := 44) C dX12_worthOf_19 (by decide) hF (fun hF => ?_) (fun hF => ?_)
        · exact Jk44_14 _ _ hF
        · refine r_iload_n C dX12_worthOf_22 rfl 2 rfl ?_
          refine r_iconst (v := (-1)) C dX12_worthOf_23 (by decide) ?_
          obtain ⟨k42_17, ek42_17, hF⟩ := jn_some hF
          have Jk42_17 : ∀  (h18 : PM), k42_17 h18 = some X → WP p l e (rmN 0 0 0) s m args below meth c D cy base ρ h0 0 0 4 (MQ below (QR D cy base ρ h0 (some (.int X.1)) X.2) args s 0 0 (fun q => base ≤ q)) 42 [(0, .ref a0), (1, .int a1), (3, .int v8)] [] h18 := by
            intro h18 hF
            rw [ek42_17] at hF
            refine r_iload_n C dX12_worthOf_42 rfl 2 rfl ?_
            refine r_istore_n C dX12_worthOf_43 rfl (by decide) rfl ?_
            exact r_sub [1, 2, 0, 3] rfl (Jk44_14 _ _ hF)
          refine r_icmp_eq (tgt := 42) C dX12_worthOf_24 (by decide) hF (fun hF => ?_) (fun hF => ?_)
          · exact r_sub [0, 1, 3] rfl (Jk42_17  _ hF)
          · refine r_aload_n C dX12_worthOf_27 rfl 0 rfl ?_
            refine k_gR C dX12_worthOf_28 fd_X12_35 (by decide) hF (fun x19 hF => ?_)
            refine r_iload_n C dX12_worthOf_31 rfl 3 rfl ?_
            refine k_aI C dX12_worthOf_32 hF (fun x20 hF => ?_)
            refine r_aload_n C dX12_worthOf_33 rfl 0 rfl ?_
            refine k_gR C dX12_worthOf_34 fd_X12_35 (by decide) hF (fun x21 hF => ?_)
            refine r_iload_n C dX12_worthOf_37 rfl 2 rfl ?_
            refine k_aI C dX12_worthOf_38 hF (fun x22 hF => ?_)
            refine r_icmp_le (tgt := 44) C dX12_worthOf_39 (by decide) hF (fun hF => ?_) (fun hF => ?_)
            · exact Jk44_14 _ _ hF
            · exact r_sub [0, 1, 3] rfl (Jk42_17  _ hF)
  exact r_sub [2, 3, 1, 0] rfl (L4 _ _ _ _ hF)
def F_X12_worth (a0 : Nat) (a1 : Int32) (h0 : PM) : Option (Int32 × PM) := pI h0 a0 13 0 0 fun h1 => cl (F_X12_within a1 0 216 h1) fun r2 h3 => tst h3 a0 13 (cl (F_X12_may a0 r2 1 h3) fun r5 h6 => if ¬ r5 = 0 then (tst h6 a0 13 (cl (F_X12_worthOf a0 a1 h6) fun r8 h9 => some (r8, h9))) else (some (0, h6)))
set_option maxRecDepth 100000 in
set_option maxHeartbeats 4000000 in
theorem S_X12_worth {a0 : Nat} {a1 : Int32} {h0 : PM} (r : Int32) (h' : PM) (hF : F_X12_worth a0 a1 h0 = some (r, h')) : CN yX12_worth cX12_worth 2 (some .int) 0 0 1 [.ref a0, .int a1] h0 (some (.int r)) h' := by
  obtain ⟨X, eX⟩ : ∃ X, X = (r, h') := ⟨_, rfl⟩
  rw [← eX] at hF
  have e1 : r = X.1 := by rw [eX]
  have e2 : h' = X.2 := by rw [eX]
  rw [e1, e2]
  clear eX e1 e2
  unfold F_X12_worth at hF
  refine CN_of (by decide) (fun ρ => Nat.le_of_ble_eq_true rfl) rfl ?_
  intro p l e s m args below meth c D cy base ρ hT C V hr hnm
  refine r_aload_n C dX12_worth_0 rfl 0 rfl ?_
  refine r_iconst (v := 0) C dX12_worth_1 (by decide) ?_
  refine k_pI C dX12_worth_2 fd_X12_1 (fun z => by cases z) (by decide) hF (fun h1 hF => ?_)
  refine r_aload_n C dX12_worth_5 rfl 0 rfl ?_
  refine r_iload_n C dX12_worth_6 rfl 1 rfl ?_
  refine r_iconst (v := 0) C dX12_worth_7 (by decide) ?_
  refine r_sipush (v := 216) C dX12_worth_8 (by decide) ?_
  obtain ⟨r2, h3, hc4, hF⟩ := cl_some hF
  refine r_callS (As := [.int a1, .int 0, .int 216]) C dX12_worth_11 V hT cal_X12_within ml_X12_129 sm_X12_within (by decide) rfl rfl (Nat.le_of_ble_eq_true rfl) (by decide) (by decide) (S_X12_within _ _ hc4) ?_
  refine r_iconst (v := 1) C dX12_worth_14 (by decide) ?_
  obtain ⟨ht, hF⟩ := tst_some hF
  obtain ⟨r5, h6, hc7, hF⟩ := cl_some hF
  refine r_callV (As := [.int r2, .int 1]) C dX12_worth_15 V hT cal_X12_may cls_13 ml_X12_133 im_X12_may se_X12_may ht (by decide) rfl rfl (Nat.le_of_ble_eq_true rfl) (by decide) (by decide) (S_X12_may _ _ hc7) ?_
  refine r_if_ne (tgt := 23) C dX12_worth_18 (by decide) hF (fun hF => ?_) (fun hF => ?_)
  · refine r_aload_n C dX12_worth_23 rfl 0 rfl ?_
    refine r_iload_n C dX12_worth_24 rfl 1 rfl ?_
    obtain ⟨ht, hF⟩ := tst_some hF
    obtain ⟨r8, h9, hc10, hF⟩ := cl_some hF
    refine r_callV (As := [.int a1]) C dX12_worth_25 V hT cal_X12_worthOf cls_13 ml_X12_186 im_X12_worthOf se_X12_worthOf ht (by decide) rfl rfl (Nat.le_of_ble_eq_true rfl) (by decide) (by decide) (S_X12_worthOf _ _ hc10) ?_
    exact k_iret C dX12_worth_28 hr (by decide) (by decide) hF
  · refine r_iconst (v := 0) C dX12_worth_21 (by decide) ?_
    exact k_iret C dX12_worth_22 hr (by decide) (by decide) hF
def F_X12_laid (a0 : Nat) (a1 : Int32) (a2 : Int32) (a3 : Int32) (h0 : PM) : Option (Int32 × PM) := gR h0 a0 13 11 fun x1 => aI h0 x1 a1 fun x2 => gR h0 a0 13 12 fun x3 => aI h0 x3 a1 fun x4 => gR h0 a0 13 13 fun x5 => aI h0 x5 a1 fun x6 => if a2 = 0 then (jn (fun (s7 : Int32) (h8 : PM) => some (s7, h8)) fun k81 => if ¬ a3 = 0 then (if ¬ a3 = 1 then (k81 x6 h0) else (k81 x4 h0)) else (k81 x2 h0)) else (if a2 = 1 then (jn (fun (s9 : Int32) (h10 : PM) => some (s9, h10)) fun k103 => if ¬ a3 = 0 then (if ¬ a3 = 1 then (k103 x4 h0) else (k103 x6 h0)) else (k103 x2 h0)) else (if a2 = 2 then (jn (fun (s11 : Int32) (h12 : PM) => some (s11, h12)) fun k125 => if ¬ a3 = 0 then (if ¬ a3 = 1 then (k125 x6 h0) else (k125 x2 h0)) else (k125 x4 h0)) else (if a2 = 3 then (jn (fun (s13 : Int32) (h14 : PM) => some (s13, h14)) fun k147 => if ¬ a3 = 0 then (if ¬ a3 = 1 then (k147 x2 h0) else (k147 x6 h0)) else (k147 x4 h0)) else (if a2 = 4 then (jn (fun (s15 : Int32) (h16 : PM) => some (s15, h16)) fun k169 => if ¬ a3 = 0 then (if ¬ a3 = 1 then (k169 x4 h0) else (k169 x2 h0)) else (k169 x6 h0)) else (jn (fun (s17 : Int32) (h18 : PM) => some (s17, h18)) fun k191 => if ¬ a3 = 0 then (if ¬ a3 = 1 then (k191 x2 h0) else (k191 x4 h0)) else (k191 x6 h0))))))
set_option maxRecDepth 100000 in
set_option maxHeartbeats 4000000 in
theorem S_X12_laid {a0 : Nat} {a1 : Int32} {a2 : Int32} {a3 : Int32} {h0 : PM} (r : Int32) (h' : PM) (hF : F_X12_laid a0 a1 a2 a3 h0 = some (r, h')) : CN yX12_laid cX12_laid 7 (some .int) 0 0 0 [.ref a0, .int a1, .int a2, .int a3] h0 (some (.int r)) h' := by
  obtain ⟨X, eX⟩ : ∃ X, X = (r, h') := ⟨_, rfl⟩
  rw [← eX] at hF
  have e1 : r = X.1 := by rw [eX]
  have e2 : h' = X.2 := by rw [eX]
  rw [e1, e2]
  clear eX e1 e2
  unfold F_X12_laid at hF
  refine CN_of (by decide) (fun ρ => Nat.le_of_ble_eq_true rfl) rfl ?_
  intro p l e s m args below meth c D cy base ρ hT C V hr hnm
  refine r_aload_n C dX12_laid_0 rfl 0 rfl ?_
  refine k_gR C dX12_laid_1 fd_X12_26 (by decide) hF (fun x1 hF => ?_)
  refine r_iload_n C dX12_laid_4 rfl 1 rfl ?_
  refine k_aI C dX12_laid_5 hF (fun x2 hF => ?_)
  refine r_istore C dX12_laid_6 (by decide) rfl ?_
  refine r_aload_n C dX12_laid_8 rfl 1 rfl ?_
  refine k_gR C dX12_laid_9 fd_X12_29 (by decide) hF (fun x3 hF => ?_)
  refine r_iload_n C dX12_laid_12 rfl 2 rfl ?_
  refine k_aI C dX12_laid_13 hF (fun x4 hF => ?_)
  refine r_istore C dX12_laid_14 (by decide) rfl ?_
  refine r_aload_n C dX12_laid_16 rfl 2 rfl ?_
  refine k_gR C dX12_laid_17 fd_X12_32 (by decide) hF (fun x5 hF => ?_)
  refine r_iload_n C dX12_laid_20 rfl 3 rfl ?_
  refine k_aI C dX12_laid_21 hF (fun x6 hF => ?_)
  refine r_istore C dX12_laid_22 (by decide) rfl ?_
  refine r_iload_n C dX12_laid_24 rfl 5 rfl ?_
  by_cases q0 : a2 = 0
  · rw [if_pos q0] at hF
    refine r_tableIn (tgt := 60) C dX12_laid_25 (by rw [q0]; decide) (by rw [q0]; decide) (by rw [q0] <;> rfl) (by decide) ?_
    refine r_iload_n C dX12_laid_60 rfl 6 rfl ?_
    obtain ⟨k81, ek81, hF⟩ := jn_some hF
    have Jk81 : ∀ (s7 : Int32) (h8 : PM), k81 s7 h8 = some X → WP p l e (rmN 0 0 0) s m args below meth c D cy base ρ h0 0 0 7 (MQ below (QR D cy base ρ h0 (some (.int X.1)) X.2) args s 0 0 (fun q => base ≤ q)) 81 [] [.int s7] h8 := by
      intro s7 h8 hF
      rw [ek81] at hF
      exact k_iret C dX12_laid_81 hr (by decide) (by decide) hF
    refine r_if_ne (tgt := 69) C dX12_laid_61 (by decide) hF (fun hF => ?_) (fun hF => ?_)
    · refine r_iload_n C dX12_laid_69 rfl 6 rfl ?_
      refine r_iconst (v := 1) C dX12_laid_70 (by decide) ?_
      refine r_icmp_ne (tgt := 79) C dX12_laid_71 (by decide) hF (fun hF => ?_) (fun hF => ?_)
      · refine r_iload C dX12_laid_79 0 rfl ?_
        exact r_sub [] rfl (Jk81 _ _ hF)
      · refine r_iload C dX12_laid_74 1 rfl ?_
        refine r_goto (tgt := 81) C dX12_laid_76 (by decide) ?_
        exact r_sub [] rfl (Jk81 _ _ hF)
    · refine r_iload C dX12_laid_64 2 rfl ?_
      refine r_goto (tgt := 81) C dX12_laid_66 (by decide) ?_
      exact r_sub [] rfl (Jk81 _ _ hF)
  rw [if_neg q0] at hF
  by_cases q1 : a2 = 1
  · rw [if_pos q1] at hF
    refine r_tableIn (tgt := 82) C dX12_laid_25 (by rw [q1]; decide) (by rw [q1]; decide) (by rw [q1] <;> rfl) (by decide) ?_
    refine r_iload_n C dX12_laid_82 rfl 6 rfl ?_
    obtain ⟨k103, ek103, hF⟩ := jn_some hF
    have Jk103 : ∀ (s9 : Int32) (h10 : PM), k103 s9 h10 = some X → WP p l e (rmN 0 0 0) s m args below meth c D cy base ρ h0 0 0 7 (MQ below (QR D cy base ρ h0 (some (.int X.1)) X.2) args s 0 0 (fun q => base ≤ q)) 103 [] [.int s9] h10 := by
      intro s9 h10 hF
      rw [ek103] at hF
      exact k_iret C dX12_laid_103 hr (by decide) (by decide) hF
    refine r_if_ne (tgt := 91) C dX12_laid_83 (by decide) hF (fun hF => ?_) (fun hF => ?_)
    · refine r_iload_n C dX12_laid_91 rfl 6 rfl ?_
      refine r_iconst (v := 1) C dX12_laid_92 (by decide) ?_
      refine r_icmp_ne (tgt := 101) C dX12_laid_93 (by decide) hF (fun hF => ?_) (fun hF => ?_)
      · refine r_iload C dX12_laid_101 1 rfl ?_
        exact r_sub [] rfl (Jk103 _ _ hF)
      · refine r_iload C dX12_laid_96 0 rfl ?_
        refine r_goto (tgt := 103) C dX12_laid_98 (by decide) ?_
        exact r_sub [] rfl (Jk103 _ _ hF)
    · refine r_iload C dX12_laid_86 2 rfl ?_
      refine r_goto (tgt := 103) C dX12_laid_88 (by decide) ?_
      exact r_sub [] rfl (Jk103 _ _ hF)
  rw [if_neg q1] at hF
  by_cases q2 : a2 = 2
  · rw [if_pos q2] at hF
    refine r_tableIn (tgt := 104) C dX12_laid_25 (by rw [q2]; decide) (by rw [q2]; decide) (by rw [q2] <;> rfl) (by decide) ?_
    refine r_iload_n C dX12_laid_104 rfl 6 rfl ?_
    obtain ⟨k125, ek125, hF⟩ := jn_some hF
    have Jk125 : ∀ (s11 : Int32) (h12 : PM), k125 s11 h12 = some X → WP p l e (rmN 0 0 0) s m args below meth c D cy base ρ h0 0 0 7 (MQ below (QR D cy base ρ h0 (some (.int X.1)) X.2) args s 0 0 (fun q => base ≤ q)) 125 [] [.int s11] h12 := by
      intro s11 h12 hF
      rw [ek125] at hF
      exact k_iret C dX12_laid_125 hr (by decide) (by decide) hF
    refine r_if_ne (tgt := 113) C dX12_laid_105 (by decide) hF (fun hF => ?_) (fun hF => ?_)
    · refine r_iload_n C dX12_laid_113 rfl 6 rfl ?_
      refine r_iconst (v := 1) C dX12_laid_114 (by decide) ?_
      refine r_icmp_ne (tgt := 123) C dX12_laid_115 (by decide) hF (fun hF => ?_) (fun hF => ?_)
      · refine r_iload C dX12_laid_123 0 rfl ?_
        exact r_sub [] rfl (Jk125 _ _ hF)
      · refine r_iload C dX12_laid_118 2 rfl ?_
        refine r_goto (tgt := 125) C dX12_laid_120 (by decide) ?_
        exact r_sub [] rfl (Jk125 _ _ hF)
    · refine r_iload C dX12_laid_108 1 rfl ?_
      refine r_goto (tgt := 125) C dX12_laid_110 (by decide) ?_
      exact r_sub [] rfl (Jk125 _ _ hF)
  rw [if_neg q2] at hF
  by_cases q3 : a2 = 3
  · rw [if_pos q3] at hF
    refine r_tableIn (tgt := 126) C dX12_laid_25 (by rw [q3]; decide) (by rw [q3]; decide) (by rw [q3] <;> rfl) (by decide) ?_
    refine r_iload_n C dX12_laid_126 rfl 6 rfl ?_
    obtain ⟨k147, ek147, hF⟩ := jn_some hF
    have Jk147 : ∀ (s13 : Int32) (h14 : PM), k147 s13 h14 = some X → WP p l e (rmN 0 0 0) s m args below meth c D cy base ρ h0 0 0 7 (MQ below (QR D cy base ρ h0 (some (.int X.1)) X.2) args s 0 0 (fun q => base ≤ q)) 147 [] [.int s13] h14 := by
      intro s13 h14 hF
      rw [ek147] at hF
      exact k_iret C dX12_laid_147 hr (by decide) (by decide) hF
    refine r_if_ne (tgt := 135) C dX12_laid_127 (by decide) hF (fun hF => ?_) (fun hF => ?_)
    · refine r_iload_n C dX12_laid_135 rfl 6 rfl ?_
      refine r_iconst (v := 1) C dX12_laid_136 (by decide) ?_
      refine r_icmp_ne (tgt := 145) C dX12_laid_137 (by decide) hF (fun hF => ?_) (fun hF => ?_)
      · refine r_iload C dX12_laid_145 2 rfl ?_
        exact r_sub [] rfl (Jk147 _ _ hF)
      · refine r_iload C dX12_laid_140 0 rfl ?_
        refine r_goto (tgt := 147) C dX12_laid_142 (by decide) ?_
        exact r_sub [] rfl (Jk147 _ _ hF)
    · refine r_iload C dX12_laid_130 1 rfl ?_
      refine r_goto (tgt := 147) C dX12_laid_132 (by decide) ?_
      exact r_sub [] rfl (Jk147 _ _ hF)
  rw [if_neg q3] at hF
  by_cases q4 : a2 = 4
  · rw [if_pos q4] at hF
    refine r_tableIn (tgt := 148) C dX12_laid_25 (by rw [q4]; decide) (by rw [q4]; decide) (by rw [q4] <;> rfl) (by decide) ?_
    refine r_iload_n C dX12_laid_148 rfl 6 rfl ?_
    obtain ⟨k169, ek169, hF⟩ := jn_some hF
    have Jk169 : ∀ (s15 : Int32) (h16 : PM), k169 s15 h16 = some X → WP p l e (rmN 0 0 0) s m args below meth c D cy base ρ h0 0 0 7 (MQ below (QR D cy base ρ h0 (some (.int X.1)) X.2) args s 0 0 (fun q => base ≤ q)) 169 [] [.int s15] h16 := by
      intro s15 h16 hF
      rw [ek169] at hF
      exact k_iret C dX12_laid_169 hr (by decide) (by decide) hF
    refine r_if_ne (tgt := 157) C dX12_laid_149 (by decide) hF (fun hF => ?_) (fun hF => ?_)
    · refine r_iload_n C dX12_laid_157 rfl 6 rfl ?_
      refine r_iconst (v := 1) C dX12_laid_158 (by decide) ?_
      refine r_icmp_ne (tgt := 167) C dX12_laid_159 (by decide) hF (fun hF => ?_) (fun hF => ?_)
      · refine r_iload C dX12_laid_167 1 rfl ?_
        exact r_sub [] rfl (Jk169 _ _ hF)
      · refine r_iload C dX12_laid_162 2 rfl ?_
        refine r_goto (tgt := 169) C dX12_laid_164 (by decide) ?_
        exact r_sub [] rfl (Jk169 _ _ hF)
    · refine r_iload C dX12_laid_152 0 rfl ?_
      refine r_goto (tgt := 169) C dX12_laid_154 (by decide) ?_
      exact r_sub [] rfl (Jk169 _ _ hF)
  rw [if_neg q4] at hF
  refine r_tableOut (tgt := 170) C dX12_laid_25 ?_ (by decide) ?_
  · have z0 := sw_ne q0; have z1 := sw_ne q1; have z2 := sw_ne q2; have z3 := sw_ne q3; have z4 := sw_ne q4
    have w0 : ((0 : Int32)).toInt = 0 := (by decide); have w1 : ((1 : Int32)).toInt = 1 := (by decide); have w2 : ((2 : Int32)).toInt = 2 := (by decide); have w3 : ((3 : Int32)).toInt = 3 := (by decide); have w4 : ((4 : Int32)).toInt = 4 := (by decide)
    omega
  · refine r_iload_n C dX12_laid_170 rfl 6 rfl ?_
    obtain ⟨k191, ek191, hF⟩ := jn_some hF
    have Jk191 : ∀ (s17 : Int32) (h18 : PM), k191 s17 h18 = some X → WP p l e (rmN 0 0 0) s m args below meth c D cy base ρ h0 0 0 7 (MQ below (QR D cy base ρ h0 (some (.int X.1)) X.2) args s 0 0 (fun q => base ≤ q)) 191 [] [.int s17] h18 := by
      intro s17 h18 hF
      rw [ek191] at hF
      exact k_iret C dX12_laid_191 hr (by decide) (by decide) hF
    refine r_if_ne (tgt := 179) C dX12_laid_171 (by decide) hF (fun hF => ?_) (fun hF => ?_)
    · refine r_iload_n C dX12_laid_179 rfl 6 rfl ?_
      refine r_iconst (v := 1) C dX12_laid_180 (by decide) ?_
      refine r_icmp_ne (tgt := 189) C dX12_laid_181 (by decide) hF (fun hF => ?_) (fun hF => ?_)
      · refine r_iload C dX12_laid_189 2 rfl ?_
        exact r_sub [] rfl (Jk191 _ _ hF)
      · refine r_iload C dX12_laid_184 1 rfl ?_
        refine r_goto (tgt := 191) C dX12_laid_186 (by decide) ?_
        exact r_sub [] rfl (Jk191 _ _ hF)
    · refine r_iload C dX12_laid_174 0 rfl ?_
      refine r_goto (tgt := 191) C dX12_laid_176 (by decide) ?_
      exact r_sub [] rfl (Jk191 _ _ hF)
