/-! ===== the law ===== -/
theorem cn_L_8 : Cond.classLink RL 8 RX11 ∈ gw := gwm 94 (by decide +kernel) rfl
theorem in_X11 : Cond.instantiable RX11 10 ∈ gw := gwm 95 (by decide +kernel) rfl
theorem ii_X11 : Cond.initialized RX11 ∈ gw := gwm 64 (by decide +kernel) rfl
theorem ml_L_75 : Cond.methodLink RL 75 yX11_init ∈ gw := gwm 96 (by decide +kernel) rfl
theorem cal_X11_init : Cal yX11_init cX11_init 1 none 0 := ⟨gwm 98 (by decide +kernel) rfl, gwm 64 (by decide +kernel) rfl, ⟨by decide, by decide, by decide +kernel⟩, by decide⟩
theorem im_X11_init : Cond.instanceMethod yX11_init ∈ gw := gwm 97 (by decide +kernel) rfl
theorem cn_L_76 : Cond.classLink RL 76 RX12 ∈ gw := gwm 1166 (by decide +kernel) rfl
theorem in_X12 : Cond.instantiable RX12 58 ∈ gw := gwm 1167 (by decide +kernel) rfl
theorem ii_X12 : Cond.initialized RX12 ∈ gw := gwm 76 (by decide +kernel) rfl
theorem ml_L_78 : Cond.methodLink RL 78 yX12_init ∈ gw := gwm 1168 (by decide +kernel) rfl
theorem cal_X12_init : Cal yX12_init cX12_init 2 none 0 := ⟨gwm 1170 (by decide +kernel) rfl, gwm 76 (by decide +kernel) rfl, ⟨by decide, by decide, by decide +kernel⟩, by decide⟩
theorem im_X12_init : Cond.instanceMethod yX12_init ∈ gw := gwm 1169 (by decide +kernel) rfl
theorem ml_L_79 : Cond.methodLink RL 79 yX11_rough ∈ gw := gwm 377 (by decide +kernel) rfl
theorem cal_X11_rough : Cal yX11_rough cX11_rough 2 (some .int) 0 := ⟨gwm 380 (by decide +kernel) rfl, gwm 64 (by decide +kernel) rfl, ⟨by decide, by decide, by decide +kernel⟩, by decide⟩
theorem im_X11_rough : Cond.instanceMethod yX11_rough ∈ gw := gwm 378 (by decide +kernel) rfl
theorem se_X11_rough : Cond.selects RX11 yX11_rough yX11_rough ∈ gw := gwm 379 (by decide +kernel) rfl
theorem ml_L_83 : Cond.methodLink RL 83 yX12_rough ∈ gw := gwm 1348 (by decide +kernel) rfl
theorem cal_X12_rough : Cal yX12_rough cX12_rough 1 (some .int) 0 := ⟨gwm 1351 (by decide +kernel) rfl, gwm 76 (by decide +kernel) rfl, ⟨by decide, by decide, by decide +kernel⟩, by decide⟩
theorem im_X12_rough : Cond.instanceMethod yX12_rough ∈ gw := gwm 1349 (by decide +kernel) rfl
theorem se_X12_rough : Cond.selects RX12 yX12_rough yX12_rough ∈ gw := gwm 1350 (by decide +kernel) rfl
theorem cl_L_84 : Cond.constantLong RL 84 (4294967295) ∈ gw := gwm 1553 (by decide +kernel) rfl
theorem ml_L_86 : Cond.methodLink RL 86 yL_scan ∈ gw := gwm 605 (by decide +kernel) rfl
theorem cw_L_scan : CalW yL_scan cL_scan 9 (some .int) hhL_scan 6 := ⟨gwm 607 (by decide +kernel) rfl, gwm 63 (by decide +kernel) rfl, ⟨by decide, by decide, by decide +kernel⟩, by decide⟩
theorem sm_L_scan : Cond.static yL_scan ∈ gw := gwm 606 (by decide +kernel) rfl
theorem ml_L_91 : Cond.methodLink RL 91 yX12_scan ∈ gw := gwm 1352 (by decide +kernel) rfl
theorem cal_X12_scan : Cal yX12_scan cX12_scan 10 (some .int) 4 := ⟨gwm 1355 (by decide +kernel) rfl, gwm 76 (by decide +kernel) rfl, ⟨by decide, by decide, by decide +kernel⟩, by decide⟩
theorem im_X12_scan : Cond.instanceMethod yX12_scan ∈ gw := gwm 1353 (by decide +kernel) rfl
theorem se_X12_scan : Cond.selects RX12 yX12_scan yX12_scan ∈ gw := gwm 1354 (by decide +kernel) rfl
theorem ml_L_92 : Cond.methodLink RL 92 yX12_thrown ∈ gw := gwm 1162 (by decide +kernel) rfl
theorem cal_X12_thrown : Cal yX12_thrown cX12_thrown 1 (some .int) 0 := ⟨gwm 1165 (by decide +kernel) rfl, gwm 76 (by decide +kernel) rfl, ⟨by decide, by decide, by decide +kernel⟩, by decide⟩
theorem im_X12_thrown : Cond.instanceMethod yX12_thrown ∈ gw := gwm 1163 (by decide +kernel) rfl
theorem se_X12_thrown : Cond.selects RX12 yX12_thrown yX12_thrown ∈ gw := gwm 1164 (by decide +kernel) rfl
theorem ml_L_95 : Cond.methodLink RL 95 yL_stuff ∈ gw := gwm 709 (by decide +kernel) rfl
theorem cw_L_stuff : CalW yL_stuff cL_stuff 4 (some .int) hhL_stuff 3 := ⟨gwm 711 (by decide +kernel) rfl, gwm 63 (by decide +kernel) rfl, ⟨by decide, by decide, by decide +kernel⟩, by decide⟩
theorem sm_L_stuff : Cond.static yL_stuff ∈ gw := gwm 710 (by decide +kernel) rfl
theorem ml_L_98 : Cond.methodLink RL 98 yX12_stuff ∈ gw := gwm 1368 (by decide +kernel) rfl
theorem cal_X12_stuff : Cal yX12_stuff cX12_stuff 4 (some .int) 1 := ⟨gwm 1371 (by decide +kernel) rfl, gwm 76 (by decide +kernel) rfl, ⟨by decide, by decide, by decide +kernel⟩, by decide⟩
theorem im_X12_stuff : Cond.instanceMethod yX12_stuff ∈ gw := gwm 1369 (by decide +kernel) rfl
theorem se_X12_stuff : Cond.selects RX12 yX12_stuff yX12_stuff ∈ gw := gwm 1370 (by decide +kernel) rfl
theorem ml_L_99 : Cond.methodLink RL 99 yX11_feed ∈ gw := gwm 493 (by decide +kernel) rfl
theorem cal_X11_feed : Cal yX11_feed cX11_feed 6 (some .int) 5 := ⟨gwm 496 (by decide +kernel) rfl, gwm 64 (by decide +kernel) rfl, ⟨by decide, by decide, by decide +kernel⟩, by decide⟩
theorem im_X11_feed : Cond.instanceMethod yX11_feed ∈ gw := gwm 494 (by decide +kernel) rfl
theorem se_X11_feed : Cond.selects RX11 yX11_feed yX11_feed ∈ gw := gwm 495 (by decide +kernel) rfl
theorem ml_L_103 : Cond.methodLink RL 103 yX12_feed ∈ gw := gwm 1372 (by decide +kernel) rfl
theorem cal_X12_feed : Cal yX12_feed cX12_feed 8 (some .int) 5 := ⟨gwm 1375 (by decide +kernel) rfl, gwm 76 (by decide +kernel) rfl, ⟨by decide, by decide, by decide +kernel⟩, by decide⟩
theorem im_X12_feed : Cond.instanceMethod yX12_feed ∈ gw := gwm 1373 (by decide +kernel) rfl
theorem se_X12_feed : Cond.selects RX12 yX12_feed yX12_feed ∈ gw := gwm 1374 (by decide +kernel) rfl
theorem ml_L_104 : Cond.methodLink RL 104 yL_model ∈ gw := gwm 716 (by decide +kernel) rfl
theorem cw_L_model : CalW yL_model cL_model 4 (some .int) hhL_model 3 := ⟨gwm 718 (by decide +kernel) rfl, gwm 63 (by decide +kernel) rfl, ⟨by decide, by decide, by decide +kernel⟩, by decide⟩
theorem sm_L_model : Cond.static yL_model ∈ gw := gwm 717 (by decide +kernel) rfl
theorem ml_L_106 : Cond.methodLink RL 106 yX12_model ∈ gw := gwm 1376 (by decide +kernel) rfl
theorem cal_X12_model : Cal yX12_model cX12_model 2 (some .int) 1 := ⟨gwm 1379 (by decide +kernel) rfl, gwm 76 (by decide +kernel) rfl, ⟨by decide, by decide, by decide +kernel⟩, by decide⟩
theorem im_X12_model : Cond.instanceMethod yX12_model ∈ gw := gwm 1377 (by decide +kernel) rfl
theorem se_X12_model : Cond.selects RX12 yX12_model yX12_model ∈ gw := gwm 1378 (by decide +kernel) rfl
theorem ml_L_107 : Cond.methodLink RL 107 yL_price ∈ gw := gwm 819 (by decide +kernel) rfl
theorem cw_L_price : CalW yL_price cL_price 5 (some .int) hhL_price 4 := ⟨gwm 821 (by decide +kernel) rfl, gwm 63 (by decide +kernel) rfl, ⟨by decide, by decide, by decide +kernel⟩, by decide⟩
theorem sm_L_price : Cond.static yL_price ∈ gw := gwm 820 (by decide +kernel) rfl
theorem ml_L_110 : Cond.methodLink RL 110 yX12_price ∈ gw := gwm 1408 (by decide +kernel) rfl
theorem cal_X12_price : Cal yX12_price cX12_price 4 (some .int) 2 := ⟨gwm 1411 (by decide +kernel) rfl, gwm 76 (by decide +kernel) rfl, ⟨by decide, by decide, by decide +kernel⟩, by decide⟩
theorem im_X12_price : Cond.instanceMethod yX12_price ∈ gw := gwm 1409 (by decide +kernel) rfl
theorem se_X12_price : Cond.selects RX12 yX12_price yX12_price ∈ gw := gwm 1410 (by decide +kernel) rfl
theorem ml_L_111 : Cond.methodLink RL 111 yL_worth ∈ gw := gwm 831 (by decide +kernel) rfl
theorem cw_L_worth : CalW yL_worth cL_worth 4 (some .int) hhL_worth 3 := ⟨gwm 833 (by decide +kernel) rfl, gwm 63 (by decide +kernel) rfl, ⟨by decide, by decide, by decide +kernel⟩, by decide⟩
theorem sm_L_worth : Cond.static yL_worth ∈ gw := gwm 832 (by decide +kernel) rfl
theorem ml_L_113 : Cond.methodLink RL 113 yX12_worth ∈ gw := gwm 1412 (by decide +kernel) rfl
theorem cal_X12_worth : Cal yX12_worth cX12_worth 2 (some .int) 1 := ⟨gwm 1415 (by decide +kernel) rfl, gwm 76 (by decide +kernel) rfl, ⟨by decide, by decide, by decide +kernel⟩, by decide⟩
theorem im_X12_worth : Cond.instanceMethod yX12_worth ∈ gw := gwm 1413 (by decide +kernel) rfl
theorem se_X12_worth : Cond.selects RX12 yX12_worth yX12_worth ∈ gw := gwm 1414 (by decide +kernel) rfl
theorem ml_L_114 : Cond.methodLink RL 114 yL_fit ∈ gw := gwm 843 (by decide +kernel) rfl
theorem cw_L_fit : CalW yL_fit cL_fit 6 (some .int) hhL_fit 5 := ⟨gwm 845 (by decide +kernel) rfl, gwm 63 (by decide +kernel) rfl, ⟨by decide, by decide, by decide +kernel⟩, by decide⟩
theorem sm_L_fit : Cond.static yL_fit ∈ gw := gwm 844 (by decide +kernel) rfl
theorem ml_L_117 : Cond.methodLink RL 117 yX12_fit ∈ gw := gwm 1420 (by decide +kernel) rfl
theorem cal_X12_fit : Cal yX12_fit cX12_fit 5 (some .int) 3 := ⟨gwm 1423 (by decide +kernel) rfl, gwm 76 (by decide +kernel) rfl, ⟨by decide, by decide, by decide +kernel⟩, by decide⟩
theorem im_X12_fit : Cond.instanceMethod yX12_fit ∈ gw := gwm 1421 (by decide +kernel) rfl
theorem se_X12_fit : Cond.selects RX12 yX12_fit yX12_fit ∈ gw := gwm 1422 (by decide +kernel) rfl
theorem ml_L_118 : Cond.methodLink RL 118 yL_best ∈ gw := gwm 883 (by decide +kernel) rfl
theorem cw_L_best : CalW yL_best cL_best 4 (some .int) hhL_best 3 := ⟨gwm 885 (by decide +kernel) rfl, gwm 63 (by decide +kernel) rfl, ⟨by decide, by decide, by decide +kernel⟩, by decide⟩
theorem sm_L_best : Cond.static yL_best ∈ gw := gwm 884 (by decide +kernel) rfl
theorem ml_L_120 : Cond.methodLink RL 120 yX12_best ∈ gw := gwm 1444 (by decide +kernel) rfl
theorem cal_X12_best : Cal yX12_best cX12_best 2 (some .int) 1 := ⟨gwm 1447 (by decide +kernel) rfl, gwm 76 (by decide +kernel) rfl, ⟨by decide, by decide, by decide +kernel⟩, by decide⟩
theorem im_X12_best : Cond.instanceMethod yX12_best ∈ gw := gwm 1445 (by decide +kernel) rfl
theorem se_X12_best : Cond.selects RX12 yX12_best yX12_best ∈ gw := gwm 1446 (by decide +kernel) rfl
theorem ml_L_121 : Cond.methodLink RL 121 yL_sawn ∈ gw := gwm 938 (by decide +kernel) rfl
theorem cw_L_sawn : CalW yL_sawn cL_sawn 5 (some .int) hhL_sawn 4 := ⟨gwm 940 (by decide +kernel) rfl, gwm 63 (by decide +kernel) rfl, ⟨by decide, by decide, by decide +kernel⟩, by decide⟩
theorem sm_L_sawn : Cond.static yL_sawn ∈ gw := gwm 939 (by decide +kernel) rfl
theorem ml_L_123 : Cond.methodLink RL 123 yX12_sawn ∈ gw := gwm 1460 (by decide +kernel) rfl
theorem cal_X12_sawn : Cal yX12_sawn cX12_sawn 3 (some .int) 2 := ⟨gwm 1463 (by decide +kernel) rfl, gwm 76 (by decide +kernel) rfl, ⟨by decide, by decide, by decide +kernel⟩, by decide⟩
theorem im_X12_sawn : Cond.instanceMethod yX12_sawn ∈ gw := gwm 1461 (by decide +kernel) rfl
theorem se_X12_sawn : Cond.selects RX12 yX12_sawn yX12_sawn ∈ gw := gwm 1462 (by decide +kernel) rfl
theorem ml_L_124 : Cond.methodLink RL 124 yL_cut ∈ gw := gwm 946 (by decide +kernel) rfl
theorem cw_L_cut : CalW yL_cut cL_cut 6 (some .int) hhL_cut 5 := ⟨gwm 948 (by decide +kernel) rfl, gwm 63 (by decide +kernel) rfl, ⟨by decide, by decide, by decide +kernel⟩, by decide⟩
theorem sm_L_cut : Cond.static yL_cut ∈ gw := gwm 947 (by decide +kernel) rfl
theorem ml_L_126 : Cond.methodLink RL 126 yX12_cut ∈ gw := gwm 1464 (by decide +kernel) rfl
theorem cal_X12_cut : Cal yX12_cut cX12_cut 4 (some .int) 3 := ⟨gwm 1467 (by decide +kernel) rfl, gwm 76 (by decide +kernel) rfl, ⟨by decide, by decide, by decide +kernel⟩, by decide⟩
theorem im_X12_cut : Cond.instanceMethod yX12_cut ∈ gw := gwm 1465 (by decide +kernel) rfl
theorem se_X12_cut : Cond.selects RX12 yX12_cut yX12_cut ∈ gw := gwm 1466 (by decide +kernel) rfl
theorem ml_L_127 : Cond.methodLink RL 127 yL_done ∈ gw := gwm 958 (by decide +kernel) rfl
theorem cw_L_done : CalW yL_done cL_done 4 (some .int) hhL_done 3 := ⟨gwm 960 (by decide +kernel) rfl, gwm 63 (by decide +kernel) rfl, ⟨by decide, by decide, by decide +kernel⟩, by decide⟩
theorem sm_L_done : Cond.static yL_done ∈ gw := gwm 959 (by decide +kernel) rfl
theorem ml_L_129 : Cond.methodLink RL 129 yX12_done ∈ gw := gwm 1468 (by decide +kernel) rfl
theorem cal_X12_done : Cal yX12_done cX12_done 3 (some .int) 1 := ⟨gwm 1471 (by decide +kernel) rfl, gwm 76 (by decide +kernel) rfl, ⟨by decide, by decide, by decide +kernel⟩, by decide⟩
theorem im_X12_done : Cond.instanceMethod yX12_done ∈ gw := gwm 1469 (by decide +kernel) rfl
theorem se_X12_done : Cond.selects RX12 yX12_done yX12_done ∈ gw := gwm 1470 (by decide +kernel) rfl
theorem ml_L_130 : Cond.methodLink RL 130 yL_facet ∈ gw := gwm 1030 (by decide +kernel) rfl
theorem cw_L_facet : CalW yL_facet cL_facet 6 (some .int) hhL_facet 5 := ⟨gwm 1032 (by decide +kernel) rfl, gwm 63 (by decide +kernel) rfl, ⟨by decide, by decide, by decide +kernel⟩, by decide⟩
theorem sm_L_facet : Cond.static yL_facet ∈ gw := gwm 1031 (by decide +kernel) rfl
theorem ml_L_132 : Cond.methodLink RL 132 yX12_facet ∈ gw := gwm 1472 (by decide +kernel) rfl
theorem cal_X12_facet : Cal yX12_facet cX12_facet 4 (some .int) 3 := ⟨gwm 1475 (by decide +kernel) rfl, gwm 76 (by decide +kernel) rfl, ⟨by decide, by decide, by decide +kernel⟩, by decide⟩
theorem im_X12_facet : Cond.instanceMethod yX12_facet ∈ gw := gwm 1473 (by decide +kernel) rfl
theorem se_X12_facet : Cond.selects RX12 yX12_facet yX12_facet ∈ gw := gwm 1474 (by decide +kernel) rfl
theorem ml_L_133 : Cond.methodLink RL 133 yL_round ∈ gw := gwm 1043 (by decide +kernel) rfl
theorem cw_L_round : CalW yL_round cL_round 4 (some .int) hhL_round 3 := ⟨gwm 1045 (by decide +kernel) rfl, gwm 63 (by decide +kernel) rfl, ⟨by decide, by decide, by decide +kernel⟩, by decide⟩
theorem sm_L_round : Cond.static yL_round ∈ gw := gwm 1044 (by decide +kernel) rfl
theorem ml_L_135 : Cond.methodLink RL 135 yX12_round ∈ gw := gwm 1480 (by decide +kernel) rfl
theorem cal_X12_round : Cal yX12_round cX12_round 2 (some .int) 1 := ⟨gwm 1483 (by decide +kernel) rfl, gwm 76 (by decide +kernel) rfl, ⟨by decide, by decide, by decide +kernel⟩, by decide⟩
theorem im_X12_round : Cond.instanceMethod yX12_round ∈ gw := gwm 1481 (by decide +kernel) rfl
theorem se_X12_round : Cond.selects RX12 yX12_round yX12_round ∈ gw := gwm 1482 (by decide +kernel) rfl
theorem ml_L_136 : Cond.methodLink RL 136 yL_plan ∈ gw := gwm 1084 (by decide +kernel) rfl
theorem cw_L_plan : CalW yL_plan cL_plan 5 (some .int) hhL_plan 4 := ⟨gwm 1086 (by decide +kernel) rfl, gwm 63 (by decide +kernel) rfl, ⟨by decide, by decide, by decide +kernel⟩, by decide⟩
theorem sm_L_plan : Cond.static yL_plan ∈ gw := gwm 1085 (by decide +kernel) rfl
theorem ml_L_138 : Cond.methodLink RL 138 yX12_plan ∈ gw := gwm 1503 (by decide +kernel) rfl
theorem cal_X12_plan : Cal yX12_plan cX12_plan 3 (some .int) 2 := ⟨gwm 1506 (by decide +kernel) rfl, gwm 76 (by decide +kernel) rfl, ⟨by decide, by decide, by decide +kernel⟩, by decide⟩
theorem im_X12_plan : Cond.instanceMethod yX12_plan ∈ gw := gwm 1504 (by decide +kernel) rfl
theorem se_X12_plan : Cond.selects RX12 yX12_plan yX12_plan ∈ gw := gwm 1505 (by decide +kernel) rfl
theorem ml_L_139 : Cond.methodLink RL 139 yL_polish ∈ gw := gwm 1091 (by decide +kernel) rfl
theorem cw_L_polish : CalW yL_polish cL_polish 4 (some .int) hhL_polish 3 := ⟨gwm 1093 (by decide +kernel) rfl, gwm 63 (by decide +kernel) rfl, ⟨by decide, by decide, by decide +kernel⟩, by decide⟩
theorem sm_L_polish : Cond.static yL_polish ∈ gw := gwm 1092 (by decide +kernel) rfl
theorem ml_L_141 : Cond.methodLink RL 141 yX12_polish ∈ gw := gwm 1507 (by decide +kernel) rfl
theorem cal_X12_polish : Cal yX12_polish cX12_polish 3 (some .int) 1 := ⟨gwm 1510 (by decide +kernel) rfl, gwm 76 (by decide +kernel) rfl, ⟨by decide, by decide, by decide +kernel⟩, by decide⟩
theorem im_X12_polish : Cond.instanceMethod yX12_polish ∈ gw := gwm 1508 (by decide +kernel) rfl
theorem se_X12_polish : Cond.selects RX12 yX12_polish yX12_polish ∈ gw := gwm 1509 (by decide +kernel) rfl
theorem ml_L_142 : Cond.methodLink RL 142 yL_told ∈ gw := gwm 1102 (by decide +kernel) rfl
theorem cw_L_told : CalW yL_told cL_told 5 (some .int) hhL_told 4 := ⟨gwm 1104 (by decide +kernel) rfl, gwm 63 (by decide +kernel) rfl, ⟨by decide, by decide, by decide +kernel⟩, by decide⟩
theorem sm_L_told : Cond.static yL_told ∈ gw := gwm 1103 (by decide +kernel) rfl
theorem ml_L_144 : Cond.methodLink RL 144 yX12_told ∈ gw := gwm 1511 (by decide +kernel) rfl
theorem cal_X12_told : Cal yX12_told cX12_told 3 (some .int) 2 := ⟨gwm 1514 (by decide +kernel) rfl, gwm 76 (by decide +kernel) rfl, ⟨by decide, by decide, by decide +kernel⟩, by decide⟩
theorem im_X12_told : Cond.instanceMethod yX12_told ∈ gw := gwm 1512 (by decide +kernel) rfl
theorem se_X12_told : Cond.selects RX12 yX12_told yX12_told ∈ gw := gwm 1513 (by decide +kernel) rfl
theorem ml_L_145 : Cond.methodLink RL 145 yX11_match ∈ gw := gwm 501 (by decide +kernel) rfl
theorem cal_X11_match : Cal yX11_match cX11_match 1 (some .int) 0 := ⟨gwm 504 (by decide +kernel) rfl, gwm 64 (by decide +kernel) rfl, ⟨by decide, by decide, by decide +kernel⟩, by decide⟩
theorem im_X11_match : Cond.instanceMethod yX11_match ∈ gw := gwm 502 (by decide +kernel) rfl
theorem se_X11_match : Cond.selects RX11 yX11_match yX11_match ∈ gw := gwm 503 (by decide +kernel) rfl
theorem ml_L_148 : Cond.methodLink RL 148 yX12_match ∈ gw := gwm 1515 (by decide +kernel) rfl
theorem cal_X12_match : Cal yX12_match cX12_match 2 (some .int) 0 := ⟨gwm 1518 (by decide +kernel) rfl, gwm 76 (by decide +kernel) rfl, ⟨by decide, by decide, by decide +kernel⟩, by decide⟩
theorem im_X12_match : Cond.instanceMethod yX12_match ∈ gw := gwm 1516 (by decide +kernel) rfl
theorem se_X12_match : Cond.selects RX12 yX12_match yX12_match ∈ gw := gwm 1517 (by decide +kernel) rfl
theorem ml_L_149 : Cond.methodLink RL 149 yL_lot ∈ gw := gwm 1114 (by decide +kernel) rfl
theorem cw_L_lot : CalW yL_lot cL_lot 5 (some .int) hhL_lot 4 := ⟨gwm 1116 (by decide +kernel) rfl, gwm 63 (by decide +kernel) rfl, ⟨by decide, by decide, by decide +kernel⟩, by decide⟩
theorem sm_L_lot : Cond.static yL_lot ∈ gw := gwm 1115 (by decide +kernel) rfl
theorem ml_L_151 : Cond.methodLink RL 151 yX12_lot ∈ gw := gwm 1531 (by decide +kernel) rfl
theorem cal_X12_lot : Cal yX12_lot cX12_lot 10 (some .int) 2 := ⟨gwm 1534 (by decide +kernel) rfl, gwm 76 (by decide +kernel) rfl, ⟨by decide, by decide, by decide +kernel⟩, by decide⟩
theorem im_X12_lot : Cond.instanceMethod yX12_lot ∈ gw := gwm 1532 (by decide +kernel) rfl
theorem se_X12_lot : Cond.selects RX12 yX12_lot yX12_lot ∈ gw := gwm 1533 (by decide +kernel) rfl
theorem ml_L_152 : Cond.methodLink RL 152 yL_bid ∈ gw := gwm 1136 (by decide +kernel) rfl
theorem cw_L_bid : CalW yL_bid cL_bid 6 (some .int) hhL_bid 5 := ⟨gwm 1138 (by decide +kernel) rfl, gwm 63 (by decide +kernel) rfl, ⟨by decide, by decide, by decide +kernel⟩, by decide⟩
theorem sm_L_bid : Cond.static yL_bid ∈ gw := gwm 1137 (by decide +kernel) rfl
theorem ml_L_154 : Cond.methodLink RL 154 yX12_bid ∈ gw := gwm 1536 (by decide +kernel) rfl
theorem cal_X12_bid : Cal yX12_bid cX12_bid 4 (some .int) 3 := ⟨gwm 1539 (by decide +kernel) rfl, gwm 76 (by decide +kernel) rfl, ⟨by decide, by decide, by decide +kernel⟩, by decide⟩
theorem im_X12_bid : Cond.instanceMethod yX12_bid ∈ gw := gwm 1537 (by decide +kernel) rfl
theorem se_X12_bid : Cond.selects RX12 yX12_bid yX12_bid ∈ gw := gwm 1538 (by decide +kernel) rfl
theorem ml_L_155 : Cond.methodLink RL 155 yL_most ∈ gw := gwm 1154 (by decide +kernel) rfl
theorem cw_L_most : CalW yL_most cL_most 5 (some .int) hhL_most 4 := ⟨gwm 1156 (by decide +kernel) rfl, gwm 63 (by decide +kernel) rfl, ⟨by decide, by decide, by decide +kernel⟩, by decide⟩
theorem sm_L_most : Cond.static yL_most ∈ gw := gwm 1155 (by decide +kernel) rfl
theorem ml_L_157 : Cond.methodLink RL 157 yX12_most ∈ gw := gwm 1541 (by decide +kernel) rfl
theorem cal_X12_most : Cal yX12_most cX12_most 4 (some .int) 2 := ⟨gwm 1544 (by decide +kernel) rfl, gwm 76 (by decide +kernel) rfl, ⟨by decide, by decide, by decide +kernel⟩, by decide⟩
theorem im_X12_most : Cond.instanceMethod yX12_most ∈ gw := gwm 1542 (by decide +kernel) rfl
theorem se_X12_most : Cond.selects RX12 yX12_most yX12_most ∈ gw := gwm 1543 (by decide +kernel) rfl
theorem ml_L_158 : Cond.methodLink RL 158 yX11_sell ∈ gw := gwm 569 (by decide +kernel) rfl
theorem cal_X11_sell : Cal yX11_sell cX11_sell 4 (some .int) 0 := ⟨gwm 572 (by decide +kernel) rfl, gwm 64 (by decide +kernel) rfl, ⟨by decide, by decide, by decide +kernel⟩, by decide⟩
theorem im_X11_sell : Cond.instanceMethod yX11_sell ∈ gw := gwm 570 (by decide +kernel) rfl
theorem se_X11_sell : Cond.selects RX11 yX11_sell yX11_sell ∈ gw := gwm 571 (by decide +kernel) rfl
theorem ml_L_161 : Cond.methodLink RL 161 yX12_sell ∈ gw := gwm 1545 (by decide +kernel) rfl
theorem cal_X12_sell : Cal yX12_sell cX12_sell 9 (some .int) 0 := ⟨gwm 1548 (by decide +kernel) rfl, gwm 76 (by decide +kernel) rfl, ⟨by decide, by decide, by decide +kernel⟩, by decide⟩
theorem im_X12_sell : Cond.instanceMethod yX12_sell ∈ gw := gwm 1546 (by decide +kernel) rfl
theorem se_X12_sell : Cond.selects RX12 yX12_sell yX12_sell ∈ gw := gwm 1547 (by decide +kernel) rfl
theorem ml_L_162 : Cond.methodLink RL 162 yX11_count ∈ gw := gwm 597 (by decide +kernel) rfl
theorem cal_X11_count : Cal yX11_count cX11_count 2 (some .int) 1 := ⟨gwm 600 (by decide +kernel) rfl, gwm 64 (by decide +kernel) rfl, ⟨by decide, by decide, by decide +kernel⟩, by decide⟩
theorem im_X11_count : Cond.instanceMethod yX11_count ∈ gw := gwm 598 (by decide +kernel) rfl
theorem se_X11_count : Cond.selects RX11 yX11_count yX11_count ∈ gw := gwm 599 (by decide +kernel) rfl
theorem ml_L_165 : Cond.methodLink RL 165 yX12_count ∈ gw := gwm 1549 (by decide +kernel) rfl
theorem cal_X12_count : Cal yX12_count cX12_count 4 (some .int) 1 := ⟨gwm 1552 (by decide +kernel) rfl, gwm 76 (by decide +kernel) rfl, ⟨by decide, by decide, by decide +kernel⟩, by decide⟩
theorem im_X12_count : Cond.instanceMethod yX12_count ∈ gw := gwm 1550 (by decide +kernel) rfl
theorem se_X12_count : Cond.selects RX12 yX12_count yX12_count ∈ gw := gwm 1551 (by decide +kernel) rfl
theorem dL_law_0 : decode cL_law 0 = .ok (.new 8, 3) := by decide +kernel
theorem dL_law_3 : decode cL_law 3 = .ok (.dup, 1) := by decide +kernel
theorem dL_law_4 : decode cL_law 4 = .ok (.invokespecial 75, 3) := by decide +kernel
theorem dL_law_7 : decode cL_law 7 = .ok (.astore_n 1, 1) := by decide +kernel
theorem dL_law_8 : decode cL_law 8 = .ok (.new 76, 3) := by decide +kernel
theorem dL_law_11 : decode cL_law 11 = .ok (.dup, 1) := by decide +kernel
theorem dL_law_12 : decode cL_law 12 = .ok (.invokespecial 78, 3) := by decide +kernel
theorem dL_law_15 : decode cL_law 15 = .ok (.astore_n 2, 1) := by decide +kernel
theorem dL_law_16 : decode cL_law 16 = .ok (.iconst 1, 1) := by decide +kernel
theorem dL_law_17 : decode cL_law 17 = .ok (.newarray .long, 2) := by decide +kernel
theorem dL_law_19 : decode cL_law 19 = .ok (.astore_n 3, 1) := by decide +kernel
theorem dL_law_20 : decode cL_law 20 = .ok (.iconst 0, 1) := by decide +kernel
theorem dL_law_21 : decode cL_law 21 = .ok (.istore 4, 2) := by decide +kernel
theorem dL_law_23 : decode cL_law 23 = .ok (.iload 4, 2) := by decide +kernel
theorem dL_law_25 : decode cL_law 25 = .ok (.aload_n 0, 1) := by decide +kernel
theorem dL_law_26 : decode cL_law 26 = .ok (.arraylength, 1) := by decide +kernel
theorem dL_law_27 : decode cL_law 27 = .ok (.bipush 7, 2) := by decide +kernel
theorem dL_law_29 : decode cL_law 29 = .ok (.isub, 1) := by decide +kernel
theorem dL_law_30 : decode cL_law 30 = .ok (.if_icmp .gt 1539, 3) := by decide +kernel
theorem dL_law_33 : decode cL_law 33 = .ok (.aload_n 0, 1) := by decide +kernel
theorem dL_law_34 : decode cL_law 34 = .ok (.iload 4, 2) := by decide +kernel
theorem dL_law_36 : decode cL_law 36 = .ok (.iaload, 1) := by decide +kernel
theorem dL_law_37 : decode cL_law 37 = .ok (.bipush 31, 2) := by decide +kernel
theorem dL_law_39 : decode cL_law 39 = .ok (.iand, 1) := by decide +kernel
theorem dL_law_40 : decode cL_law 40 = .ok (.tableswitch 1523 0 22 #[108, 121, 279, 335, 408, 464, 532, 588, 668, 724, 792, 872, 928, 1008, 1064, 1132, 1188, 1256, 1269, 1337, 1417, 1485, 1498], 108) := by decide +kernel
theorem dL_law_148 : decode cL_law 148 = .ok (.aload_n 1, 1) := by decide +kernel
theorem dL_law_149 : decode cL_law 149 = .ok (.invokevirtual 79, 3) := by decide +kernel
theorem dL_law_152 : decode cL_law 152 = .ok (.aload_n 2, 1) := by decide +kernel
theorem dL_law_153 : decode cL_law 153 = .ok (.invokevirtual 83, 3) := by decide +kernel
theorem dL_law_156 : decode cL_law 156 = .ok (.if_icmp .eq 1407, 3) := by decide +kernel
theorem dL_law_159 : decode cL_law 159 = .ok (.iconst 0, 1) := by decide +kernel
theorem dL_law_160 : decode cL_law 160 = .ok (.ireturn, 1) := by decide +kernel
theorem dL_law_161 : decode cL_law 161 = .ok (.aload_n 1, 1) := by decide +kernel
theorem dL_law_162 : decode cL_law 162 = .ok (.aload_n 0, 1) := by decide +kernel
theorem dL_law_163 : decode cL_law 163 = .ok (.iload 4, 2) := by decide +kernel
theorem dL_law_165 : decode cL_law 165 = .ok (.iconst 1, 1) := by decide +kernel
theorem dL_law_166 : decode cL_law 166 = .ok (.iadd, 1) := by decide +kernel
theorem dL_law_167 : decode cL_law 167 = .ok (.iaload, 1) := by decide +kernel
theorem dL_law_168 : decode cL_law 168 = .ok (.aload_n 0, 1) := by decide +kernel
theorem dL_law_169 : decode cL_law 169 = .ok (.iload 4, 2) := by decide +kernel
theorem dL_law_171 : decode cL_law 171 = .ok (.iconst 2, 1) := by decide +kernel
theorem dL_law_172 : decode cL_law 172 = .ok (.iadd, 1) := by decide +kernel
theorem dL_law_173 : decode cL_law 173 = .ok (.iaload, 1) := by decide +kernel
theorem dL_law_174 : decode cL_law 174 = .ok (.aload_n 0, 1) := by decide +kernel
theorem dL_law_175 : decode cL_law 175 = .ok (.iload 4, 2) := by decide +kernel
theorem dL_law_177 : decode cL_law 177 = .ok (.iconst 3, 1) := by decide +kernel
theorem dL_law_178 : decode cL_law 178 = .ok (.iadd, 1) := by decide +kernel
theorem dL_law_179 : decode cL_law 179 = .ok (.iaload, 1) := by decide +kernel
theorem dL_law_180 : decode cL_law 180 = .ok (.i2l, 1) := by decide +kernel
theorem dL_law_181 : decode cL_law 181 = .ok (.bipush 32, 2) := by decide +kernel
theorem dL_law_183 : decode cL_law 183 = .ok (.lshl, 1) := by decide +kernel
theorem dL_law_184 : decode cL_law 184 = .ok (.aload_n 0, 1) := by decide +kernel
theorem dL_law_185 : decode cL_law 185 = .ok (.iload 4, 2) := by decide +kernel
theorem dL_law_187 : decode cL_law 187 = .ok (.iconst 4, 1) := by decide +kernel
theorem dL_law_188 : decode cL_law 188 = .ok (.iadd, 1) := by decide +kernel
theorem dL_law_189 : decode cL_law 189 = .ok (.iaload, 1) := by decide +kernel
theorem dL_law_190 : decode cL_law 190 = .ok (.i2l, 1) := by decide +kernel
theorem dL_law_191 : decode cL_law 191 = .ok (.ldc2_w 84, 3) := by decide +kernel
theorem dL_law_194 : decode cL_law 194 = .ok (.land, 1) := by decide +kernel
theorem dL_law_195 : decode cL_law 195 = .ok (.lor, 1) := by decide +kernel
theorem dL_law_196 : decode cL_law 196 = .ok (.aload_n 0, 1) := by decide +kernel
theorem dL_law_197 : decode cL_law 197 = .ok (.iload 4, 2) := by decide +kernel
theorem dL_law_199 : decode cL_law 199 = .ok (.iconst 5, 1) := by decide +kernel
theorem dL_law_200 : decode cL_law 200 = .ok (.iadd, 1) := by decide +kernel
theorem dL_law_201 : decode cL_law 201 = .ok (.iaload, 1) := by decide +kernel
theorem dL_law_202 : decode cL_law 202 = .ok (.i2l, 1) := by decide +kernel
theorem dL_law_203 : decode cL_law 203 = .ok (.bipush 32, 2) := by decide +kernel
theorem dL_law_205 : decode cL_law 205 = .ok (.lshl, 1) := by decide +kernel
theorem dL_law_206 : decode cL_law 206 = .ok (.aload_n 0, 1) := by decide +kernel
theorem dL_law_207 : decode cL_law 207 = .ok (.iload 4, 2) := by decide +kernel
theorem dL_law_209 : decode cL_law 209 = .ok (.bipush 6, 2) := by decide +kernel
theorem dL_law_211 : decode cL_law 211 = .ok (.iadd, 1) := by decide +kernel
theorem dL_law_212 : decode cL_law 212 = .ok (.iaload, 1) := by decide +kernel
theorem dL_law_213 : decode cL_law 213 = .ok (.i2l, 1) := by decide +kernel
theorem dL_law_214 : decode cL_law 214 = .ok (.ldc2_w 84, 3) := by decide +kernel
theorem dL_law_217 : decode cL_law 217 = .ok (.land, 1) := by decide +kernel
theorem dL_law_218 : decode cL_law 218 = .ok (.lor, 1) := by decide +kernel
theorem dL_law_219 : decode cL_law 219 = .ok (.aload_n 3, 1) := by decide +kernel
theorem dL_law_220 : decode cL_law 220 = .ok (.invokestatic 86, 3) := by decide +kernel
theorem dL_law_223 : decode cL_law 223 = .ok (.istore 5, 2) := by decide +kernel
theorem dL_law_225 : decode cL_law 225 = .ok (.aload_n 2, 1) := by decide +kernel
theorem dL_law_226 : decode cL_law 226 = .ok (.aload_n 0, 1) := by decide +kernel
theorem dL_law_227 : decode cL_law 227 = .ok (.iload 4, 2) := by decide +kernel
theorem dL_law_229 : decode cL_law 229 = .ok (.iconst 1, 1) := by decide +kernel
theorem dL_law_230 : decode cL_law 230 = .ok (.iadd, 1) := by decide +kernel
theorem dL_law_231 : decode cL_law 231 = .ok (.iaload, 1) := by decide +kernel
theorem dL_law_232 : decode cL_law 232 = .ok (.aload_n 0, 1) := by decide +kernel
theorem dL_law_233 : decode cL_law 233 = .ok (.iload 4, 2) := by decide +kernel
theorem dL_law_235 : decode cL_law 235 = .ok (.iconst 2, 1) := by decide +kernel
theorem dL_law_236 : decode cL_law 236 = .ok (.iadd, 1) := by decide +kernel
theorem dL_law_237 : decode cL_law 237 = .ok (.iaload, 1) := by decide +kernel
theorem dL_law_238 : decode cL_law 238 = .ok (.aload_n 0, 1) := by decide +kernel
theorem dL_law_239 : decode cL_law 239 = .ok (.iload 4, 2) := by decide +kernel
theorem dL_law_241 : decode cL_law 241 = .ok (.iconst 3, 1) := by decide +kernel
theorem dL_law_242 : decode cL_law 242 = .ok (.iadd, 1) := by decide +kernel
theorem dL_law_243 : decode cL_law 243 = .ok (.iaload, 1) := by decide +kernel
theorem dL_law_244 : decode cL_law 244 = .ok (.i2l, 1) := by decide +kernel
theorem dL_law_245 : decode cL_law 245 = .ok (.bipush 32, 2) := by decide +kernel
theorem dL_law_247 : decode cL_law 247 = .ok (.lshl, 1) := by decide +kernel
theorem dL_law_248 : decode cL_law 248 = .ok (.aload_n 0, 1) := by decide +kernel
theorem dL_law_249 : decode cL_law 249 = .ok (.iload 4, 2) := by decide +kernel
theorem dL_law_251 : decode cL_law 251 = .ok (.iconst 4, 1) := by decide +kernel
theorem dL_law_252 : decode cL_law 252 = .ok (.iadd, 1) := by decide +kernel
theorem dL_law_253 : decode cL_law 253 = .ok (.iaload, 1) := by decide +kernel
theorem dL_law_254 : decode cL_law 254 = .ok (.i2l, 1) := by decide +kernel
theorem dL_law_255 : decode cL_law 255 = .ok (.ldc2_w 84, 3) := by decide +kernel
theorem dL_law_258 : decode cL_law 258 = .ok (.land, 1) := by decide +kernel
theorem dL_law_259 : decode cL_law 259 = .ok (.lor, 1) := by decide +kernel
theorem dL_law_260 : decode cL_law 260 = .ok (.aload_n 0, 1) := by decide +kernel
theorem dL_law_261 : decode cL_law 261 = .ok (.iload 4, 2) := by decide +kernel
theorem dL_law_263 : decode cL_law 263 = .ok (.iconst 5, 1) := by decide +kernel
theorem dL_law_264 : decode cL_law 264 = .ok (.iadd, 1) := by decide +kernel
theorem dL_law_265 : decode cL_law 265 = .ok (.iaload, 1) := by decide +kernel
theorem dL_law_266 : decode cL_law 266 = .ok (.i2l, 1) := by decide +kernel
theorem dL_law_267 : decode cL_law 267 = .ok (.bipush 32, 2) := by decide +kernel
theorem dL_law_269 : decode cL_law 269 = .ok (.lshl, 1) := by decide +kernel
theorem dL_law_270 : decode cL_law 270 = .ok (.aload_n 0, 1) := by decide +kernel
theorem dL_law_271 : decode cL_law 271 = .ok (.iload 4, 2) := by decide +kernel
theorem dL_law_273 : decode cL_law 273 = .ok (.bipush 6, 2) := by decide +kernel
theorem dL_law_275 : decode cL_law 275 = .ok (.iadd, 1) := by decide +kernel
theorem dL_law_276 : decode cL_law 276 = .ok (.iaload, 1) := by decide +kernel
theorem dL_law_277 : decode cL_law 277 = .ok (.i2l, 1) := by decide +kernel
theorem dL_law_278 : decode cL_law 278 = .ok (.ldc2_w 84, 3) := by decide +kernel
theorem dL_law_281 : decode cL_law 281 = .ok (.land, 1) := by decide +kernel
theorem dL_law_282 : decode cL_law 282 = .ok (.lor, 1) := by decide +kernel
theorem dL_law_283 : decode cL_law 283 = .ok (.invokevirtual 91, 3) := by decide +kernel
theorem dL_law_286 : decode cL_law 286 = .ok (.istore 6, 2) := by decide +kernel
theorem dL_law_288 : decode cL_law 288 = .ok (.aload_n 2, 1) := by decide +kernel
theorem dL_law_289 : decode cL_law 289 = .ok (.invokevirtual 92, 3) := by decide +kernel
theorem dL_law_292 : decode cL_law 292 = .ok (.iload 5, 2) := by decide +kernel
theorem dL_law_294 : decode cL_law 294 = .ok (.if_icmp .eq 5, 3) := by decide +kernel
theorem dL_law_297 : decode cL_law 297 = .ok (.iconst 0, 1) := by decide +kernel
theorem dL_law_298 : decode cL_law 298 = .ok (.ireturn, 1) := by decide +kernel
theorem dL_law_299 : decode cL_law 299 = .ok (.iload 5, 2) := by decide +kernel
theorem dL_law_301 : decode cL_law 301 = .ok (.ifCond .ne 15, 3) := by decide +kernel
theorem dL_law_304 : decode cL_law 304 = .ok (.aload_n 3, 1) := by decide +kernel
theorem dL_law_305 : decode cL_law 305 = .ok (.iconst 0, 1) := by decide +kernel
theorem dL_law_306 : decode cL_law 306 = .ok (.laload, 1) := by decide +kernel
theorem dL_law_307 : decode cL_law 307 = .ok (.iload 6, 2) := by decide +kernel
theorem dL_law_309 : decode cL_law 309 = .ok (.i2l, 1) := by decide +kernel
theorem dL_law_310 : decode cL_law 310 = .ok (.lcmp, 1) := by decide +kernel
theorem dL_law_311 : decode cL_law 311 = .ok (.ifCond .eq 5, 3) := by decide +kernel
theorem dL_law_314 : decode cL_law 314 = .ok (.iconst 0, 1) := by decide +kernel
theorem dL_law_315 : decode cL_law 315 = .ok (.ireturn, 1) := by decide +kernel
theorem dL_law_316 : decode cL_law 316 = .ok (.goto 1247, 3) := by decide +kernel
theorem dL_law_319 : decode cL_law 319 = .ok (.aload_n 1, 1) := by decide +kernel
theorem dL_law_320 : decode cL_law 320 = .ok (.aload_n 0, 1) := by decide +kernel
theorem dL_law_321 : decode cL_law 321 = .ok (.iload 4, 2) := by decide +kernel
theorem dL_law_323 : decode cL_law 323 = .ok (.iconst 1, 1) := by decide +kernel
theorem dL_law_324 : decode cL_law 324 = .ok (.iadd, 1) := by decide +kernel
theorem dL_law_325 : decode cL_law 325 = .ok (.iaload, 1) := by decide +kernel
theorem dL_law_326 : decode cL_law 326 = .ok (.aload_n 3, 1) := by decide +kernel
theorem dL_law_327 : decode cL_law 327 = .ok (.invokestatic 95, 3) := by decide +kernel
theorem dL_law_330 : decode cL_law 330 = .ok (.istore 5, 2) := by decide +kernel
theorem dL_law_332 : decode cL_law 332 = .ok (.aload_n 2, 1) := by decide +kernel
theorem dL_law_333 : decode cL_law 333 = .ok (.aload_n 0, 1) := by decide +kernel
theorem dL_law_334 : decode cL_law 334 = .ok (.iload 4, 2) := by decide +kernel
theorem dL_law_336 : decode cL_law 336 = .ok (.iconst 1, 1) := by decide +kernel
theorem dL_law_337 : decode cL_law 337 = .ok (.iadd, 1) := by decide +kernel
theorem dL_law_338 : decode cL_law 338 = .ok (.iaload, 1) := by decide +kernel
theorem dL_law_339 : decode cL_law 339 = .ok (.invokevirtual 98, 3) := by decide +kernel
theorem dL_law_342 : decode cL_law 342 = .ok (.istore 6, 2) := by decide +kernel
theorem dL_law_344 : decode cL_law 344 = .ok (.aload_n 2, 1) := by decide +kernel
theorem dL_law_345 : decode cL_law 345 = .ok (.invokevirtual 92, 3) := by decide +kernel
theorem dL_law_348 : decode cL_law 348 = .ok (.iload 5, 2) := by decide +kernel
theorem dL_law_350 : decode cL_law 350 = .ok (.if_icmp .eq 5, 3) := by decide +kernel
theorem dL_law_353 : decode cL_law 353 = .ok (.iconst 0, 1) := by decide +kernel
theorem dL_law_354 : decode cL_law 354 = .ok (.ireturn, 1) := by decide +kernel
theorem dL_law_355 : decode cL_law 355 = .ok (.iload 5, 2) := by decide +kernel
theorem dL_law_357 : decode cL_law 357 = .ok (.ifCond .ne 15, 3) := by decide +kernel
theorem dL_law_360 : decode cL_law 360 = .ok (.aload_n 3, 1) := by decide +kernel
theorem dL_law_361 : decode cL_law 361 = .ok (.iconst 0, 1) := by decide +kernel
theorem dL_law_362 : decode cL_law 362 = .ok (.laload, 1) := by decide +kernel
theorem dL_law_363 : decode cL_law 363 = .ok (.iload 6, 2) := by decide +kernel
theorem dL_law_365 : decode cL_law 365 = .ok (.i2l, 1) := by decide +kernel
theorem dL_law_366 : decode cL_law 366 = .ok (.lcmp, 1) := by decide +kernel
theorem dL_law_367 : decode cL_law 367 = .ok (.ifCond .eq 5, 3) := by decide +kernel
theorem dL_law_370 : decode cL_law 370 = .ok (.iconst 0, 1) := by decide +kernel
theorem dL_law_371 : decode cL_law 371 = .ok (.ireturn, 1) := by decide +kernel
theorem dL_law_372 : decode cL_law 372 = .ok (.goto 1191, 3) := by decide +kernel
theorem dL_law_375 : decode cL_law 375 = .ok (.aload_n 1, 1) := by decide +kernel
theorem dL_law_376 : decode cL_law 376 = .ok (.aload_n 0, 1) := by decide +kernel
theorem dL_law_377 : decode cL_law 377 = .ok (.iload 4, 2) := by decide +kernel
theorem dL_law_379 : decode cL_law 379 = .ok (.iconst 1, 1) := by decide +kernel
theorem dL_law_380 : decode cL_law 380 = .ok (.iadd, 1) := by decide +kernel
theorem dL_law_381 : decode cL_law 381 = .ok (.iaload, 1) := by decide +kernel
theorem dL_law_382 : decode cL_law 382 = .ok (.aload_n 0, 1) := by decide +kernel
theorem dL_law_383 : decode cL_law 383 = .ok (.iload 4, 2) := by decide +kernel
theorem dL_law_385 : decode cL_law 385 = .ok (.iconst 2, 1) := by decide +kernel
theorem dL_law_386 : decode cL_law 386 = .ok (.iadd, 1) := by decide +kernel
theorem dL_law_387 : decode cL_law 387 = .ok (.iaload, 1) := by decide +kernel
theorem dL_law_388 : decode cL_law 388 = .ok (.aload_n 0, 1) := by decide +kernel
theorem dL_law_389 : decode cL_law 389 = .ok (.iload 4, 2) := by decide +kernel
theorem dL_law_391 : decode cL_law 391 = .ok (.iconst 3, 1) := by decide +kernel
theorem dL_law_392 : decode cL_law 392 = .ok (.iadd, 1) := by decide +kernel
theorem dL_law_393 : decode cL_law 393 = .ok (.iaload, 1) := by decide +kernel
theorem dL_law_394 : decode cL_law 394 = .ok (.aload_n 0, 1) := by decide +kernel
theorem dL_law_395 : decode cL_law 395 = .ok (.iload 4, 2) := by decide +kernel
theorem dL_law_397 : decode cL_law 397 = .ok (.iconst 4, 1) := by decide +kernel
theorem dL_law_398 : decode cL_law 398 = .ok (.iadd, 1) := by decide +kernel
theorem dL_law_399 : decode cL_law 399 = .ok (.iaload, 1) := by decide +kernel
theorem dL_law_400 : decode cL_law 400 = .ok (.aload_n 0, 1) := by decide +kernel
theorem dL_law_401 : decode cL_law 401 = .ok (.iload 4, 2) := by decide +kernel
theorem dL_law_403 : decode cL_law 403 = .ok (.iconst 5, 1) := by decide +kernel
theorem dL_law_404 : decode cL_law 404 = .ok (.iadd, 1) := by decide +kernel
theorem dL_law_405 : decode cL_law 405 = .ok (.iaload, 1) := by decide +kernel
theorem dL_law_406 : decode cL_law 406 = .ok (.invokevirtual 99, 3) := by decide +kernel
theorem dL_law_409 : decode cL_law 409 = .ok (.aload_n 2, 1) := by decide +kernel
theorem dL_law_410 : decode cL_law 410 = .ok (.aload_n 0, 1) := by decide +kernel
theorem dL_law_411 : decode cL_law 411 = .ok (.iload 4, 2) := by decide +kernel
theorem dL_law_413 : decode cL_law 413 = .ok (.iconst 1, 1) := by decide +kernel
theorem dL_law_414 : decode cL_law 414 = .ok (.iadd, 1) := by decide +kernel
theorem dL_law_415 : decode cL_law 415 = .ok (.iaload, 1) := by decide +kernel
theorem dL_law_416 : decode cL_law 416 = .ok (.aload_n 0, 1) := by decide +kernel
theorem dL_law_417 : decode cL_law 417 = .ok (.iload 4, 2) := by decide +kernel
theorem dL_law_419 : decode cL_law 419 = .ok (.iconst 2, 1) := by decide +kernel
