/-! ===== the law's wrappers ===== -/
theorem ml_L_7 : Cond.methodLink RL 7 yX11_scan ∈ gw := gwm 610 (by decide +kernel) rfl
theorem cn_L_13 : Cond.classLink RL 13 (exN 1) ∈ gw := gwm 608 (by decide +kernel) rfl
theorem cn_L_15 : Cond.classLink RL 15 (exN 2) ∈ gw := gwm 609 (by decide +kernel) rfl
theorem cal_X11_scan : Cal yX11_scan cX11_scan 8 (some .int) 4 := ⟨gwm 613 (by decide +kernel) rfl, gwm 64 (by decide +kernel) rfl, ⟨by decide, by decide, by decide +kernel⟩, by decide⟩
theorem im_X11_scan : Cond.instanceMethod yX11_scan ∈ gw := gwm 611 (by decide +kernel) rfl
theorem se_X11_scan : Cond.selects RX11 yX11_scan yX11_scan ∈ gw := gwm 612 (by decide +kernel) rfl
theorem ml_L_17 : Cond.methodLink RL 17 yX11_stuff ∈ gw := gwm 712 (by decide +kernel) rfl
theorem cal_X11_stuff : Cal yX11_stuff cX11_stuff 5 (some .int) 1 := ⟨gwm 715 (by decide +kernel) rfl, gwm 64 (by decide +kernel) rfl, ⟨by decide, by decide, by decide +kernel⟩, by decide⟩
theorem im_X11_stuff : Cond.instanceMethod yX11_stuff ∈ gw := gwm 713 (by decide +kernel) rfl
theorem se_X11_stuff : Cond.selects RX11 yX11_stuff yX11_stuff ∈ gw := gwm 714 (by decide +kernel) rfl
theorem ml_L_21 : Cond.methodLink RL 21 yX11_model ∈ gw := gwm 720 (by decide +kernel) rfl
theorem cn_L_24 : Cond.classLink RL 24 (exN 3) ∈ gw := gwm 719 (by decide +kernel) rfl
theorem cal_X11_model : Cal yX11_model cX11_model 4 (some .int) 1 := ⟨gwm 723 (by decide +kernel) rfl, gwm 64 (by decide +kernel) rfl, ⟨by decide, by decide, by decide +kernel⟩, by decide⟩
theorem im_X11_model : Cond.instanceMethod yX11_model ∈ gw := gwm 721 (by decide +kernel) rfl
theorem se_X11_model : Cond.selects RX11 yX11_model yX11_model ∈ gw := gwm 722 (by decide +kernel) rfl
theorem ml_L_26 : Cond.methodLink RL 26 yX11_price ∈ gw := gwm 822 (by decide +kernel) rfl
theorem cal_X11_price : Cal yX11_price cX11_price 3 (some .int) 2 := ⟨gwm 825 (by decide +kernel) rfl, gwm 64 (by decide +kernel) rfl, ⟨by decide, by decide, by decide +kernel⟩, by decide⟩
theorem im_X11_price : Cond.instanceMethod yX11_price ∈ gw := gwm 823 (by decide +kernel) rfl
theorem se_X11_price : Cond.selects RX11 yX11_price yX11_price ∈ gw := gwm 824 (by decide +kernel) rfl
theorem ml_L_30 : Cond.methodLink RL 30 yX11_worth ∈ gw := gwm 834 (by decide +kernel) rfl
theorem cal_X11_worth : Cal yX11_worth cX11_worth 2 (some .int) 1 := ⟨gwm 837 (by decide +kernel) rfl, gwm 64 (by decide +kernel) rfl, ⟨by decide, by decide, by decide +kernel⟩, by decide⟩
theorem im_X11_worth : Cond.instanceMethod yX11_worth ∈ gw := gwm 835 (by decide +kernel) rfl
theorem se_X11_worth : Cond.selects RX11 yX11_worth yX11_worth ∈ gw := gwm 836 (by decide +kernel) rfl
theorem ml_L_33 : Cond.methodLink RL 33 yX11_fit ∈ gw := gwm 847 (by decide +kernel) rfl
theorem cn_L_37 : Cond.classLink RL 37 (exN 4) ∈ gw := gwm 846 (by decide +kernel) rfl
theorem cal_X11_fit : Cal yX11_fit cX11_fit 7 (some .int) 3 := ⟨gwm 850 (by decide +kernel) rfl, gwm 64 (by decide +kernel) rfl, ⟨by decide, by decide, by decide +kernel⟩, by decide⟩
theorem im_X11_fit : Cond.instanceMethod yX11_fit ∈ gw := gwm 848 (by decide +kernel) rfl
theorem se_X11_fit : Cond.selects RX11 yX11_fit yX11_fit ∈ gw := gwm 849 (by decide +kernel) rfl
theorem ml_L_39 : Cond.methodLink RL 39 yX11_best ∈ gw := gwm 886 (by decide +kernel) rfl
theorem cal_X11_best : Cal yX11_best cX11_best 2 (some .int) 1 := ⟨gwm 889 (by decide +kernel) rfl, gwm 64 (by decide +kernel) rfl, ⟨by decide, by decide, by decide +kernel⟩, by decide⟩
theorem im_X11_best : Cond.instanceMethod yX11_best ∈ gw := gwm 887 (by decide +kernel) rfl
theorem se_X11_best : Cond.selects RX11 yX11_best yX11_best ∈ gw := gwm 888 (by decide +kernel) rfl
theorem ml_L_42 : Cond.methodLink RL 42 yX11_sawn ∈ gw := gwm 941 (by decide +kernel) rfl
theorem cal_X11_sawn : Cal yX11_sawn cX11_sawn 4 (some .int) 2 := ⟨gwm 944 (by decide +kernel) rfl, gwm 64 (by decide +kernel) rfl, ⟨by decide, by decide, by decide +kernel⟩, by decide⟩
theorem im_X11_sawn : Cond.instanceMethod yX11_sawn ∈ gw := gwm 942 (by decide +kernel) rfl
theorem se_X11_sawn : Cond.selects RX11 yX11_sawn yX11_sawn ∈ gw := gwm 943 (by decide +kernel) rfl
theorem ml_L_45 : Cond.methodLink RL 45 yX11_cut ∈ gw := gwm 949 (by decide +kernel) rfl
theorem cal_X11_cut : Cal yX11_cut cX11_cut 5 (some .int) 3 := ⟨gwm 952 (by decide +kernel) rfl, gwm 64 (by decide +kernel) rfl, ⟨by decide, by decide, by decide +kernel⟩, by decide⟩
theorem im_X11_cut : Cond.instanceMethod yX11_cut ∈ gw := gwm 950 (by decide +kernel) rfl
theorem se_X11_cut : Cond.selects RX11 yX11_cut yX11_cut ∈ gw := gwm 951 (by decide +kernel) rfl
theorem ml_L_48 : Cond.methodLink RL 48 yX11_done ∈ gw := gwm 961 (by decide +kernel) rfl
theorem cal_X11_done : Cal yX11_done cX11_done 5 (some .int) 1 := ⟨gwm 964 (by decide +kernel) rfl, gwm 64 (by decide +kernel) rfl, ⟨by decide, by decide, by decide +kernel⟩, by decide⟩
theorem im_X11_done : Cond.instanceMethod yX11_done ∈ gw := gwm 962 (by decide +kernel) rfl
theorem se_X11_done : Cond.selects RX11 yX11_done yX11_done ∈ gw := gwm 963 (by decide +kernel) rfl
theorem ml_L_51 : Cond.methodLink RL 51 yX11_facet ∈ gw := gwm 1033 (by decide +kernel) rfl
theorem cal_X11_facet : Cal yX11_facet cX11_facet 5 (some .int) 3 := ⟨gwm 1036 (by decide +kernel) rfl, gwm 64 (by decide +kernel) rfl, ⟨by decide, by decide, by decide +kernel⟩, by decide⟩
theorem im_X11_facet : Cond.instanceMethod yX11_facet ∈ gw := gwm 1034 (by decide +kernel) rfl
theorem se_X11_facet : Cond.selects RX11 yX11_facet yX11_facet ∈ gw := gwm 1035 (by decide +kernel) rfl
theorem ml_L_54 : Cond.methodLink RL 54 yX11_round ∈ gw := gwm 1046 (by decide +kernel) rfl
theorem cal_X11_round : Cal yX11_round cX11_round 2 (some .int) 1 := ⟨gwm 1049 (by decide +kernel) rfl, gwm 64 (by decide +kernel) rfl, ⟨by decide, by decide, by decide +kernel⟩, by decide⟩
theorem im_X11_round : Cond.instanceMethod yX11_round ∈ gw := gwm 1047 (by decide +kernel) rfl
theorem se_X11_round : Cond.selects RX11 yX11_round yX11_round ∈ gw := gwm 1048 (by decide +kernel) rfl
theorem ml_L_57 : Cond.methodLink RL 57 yX11_plan ∈ gw := gwm 1087 (by decide +kernel) rfl
theorem cal_X11_plan : Cal yX11_plan cX11_plan 4 (some .int) 2 := ⟨gwm 1090 (by decide +kernel) rfl, gwm 64 (by decide +kernel) rfl, ⟨by decide, by decide, by decide +kernel⟩, by decide⟩
theorem im_X11_plan : Cond.instanceMethod yX11_plan ∈ gw := gwm 1088 (by decide +kernel) rfl
theorem se_X11_plan : Cond.selects RX11 yX11_plan yX11_plan ∈ gw := gwm 1089 (by decide +kernel) rfl
theorem ml_L_60 : Cond.methodLink RL 60 yX11_polish ∈ gw := gwm 1094 (by decide +kernel) rfl
theorem cal_X11_polish : Cal yX11_polish cX11_polish 3 (some .int) 1 := ⟨gwm 1097 (by decide +kernel) rfl, gwm 64 (by decide +kernel) rfl, ⟨by decide, by decide, by decide +kernel⟩, by decide⟩
theorem im_X11_polish : Cond.instanceMethod yX11_polish ∈ gw := gwm 1095 (by decide +kernel) rfl
theorem se_X11_polish : Cond.selects RX11 yX11_polish yX11_polish ∈ gw := gwm 1096 (by decide +kernel) rfl
theorem ml_L_63 : Cond.methodLink RL 63 yX11_told ∈ gw := gwm 1105 (by decide +kernel) rfl
theorem cal_X11_told : Cal yX11_told cX11_told 4 (some .int) 2 := ⟨gwm 1108 (by decide +kernel) rfl, gwm 64 (by decide +kernel) rfl, ⟨by decide, by decide, by decide +kernel⟩, by decide⟩
theorem im_X11_told : Cond.instanceMethod yX11_told ∈ gw := gwm 1106 (by decide +kernel) rfl
theorem se_X11_told : Cond.selects RX11 yX11_told yX11_told ∈ gw := gwm 1107 (by decide +kernel) rfl
theorem ml_L_66 : Cond.methodLink RL 66 yX11_lot ∈ gw := gwm 1117 (by decide +kernel) rfl
theorem cal_X11_lot : Cal yX11_lot cX11_lot 8 (some .int) 2 := ⟨gwm 1120 (by decide +kernel) rfl, gwm 64 (by decide +kernel) rfl, ⟨by decide, by decide, by decide +kernel⟩, by decide⟩
theorem im_X11_lot : Cond.instanceMethod yX11_lot ∈ gw := gwm 1118 (by decide +kernel) rfl
theorem se_X11_lot : Cond.selects RX11 yX11_lot yX11_lot ∈ gw := gwm 1119 (by decide +kernel) rfl
theorem ml_L_69 : Cond.methodLink RL 69 yX11_bid ∈ gw := gwm 1139 (by decide +kernel) rfl
theorem cal_X11_bid : Cal yX11_bid cX11_bid 4 (some .int) 3 := ⟨gwm 1142 (by decide +kernel) rfl, gwm 64 (by decide +kernel) rfl, ⟨by decide, by decide, by decide +kernel⟩, by decide⟩
theorem im_X11_bid : Cond.instanceMethod yX11_bid ∈ gw := gwm 1140 (by decide +kernel) rfl
theorem se_X11_bid : Cond.selects RX11 yX11_bid yX11_bid ∈ gw := gwm 1141 (by decide +kernel) rfl
theorem ml_L_72 : Cond.methodLink RL 72 yX11_most ∈ gw := gwm 1157 (by decide +kernel) rfl
theorem cal_X11_most : Cal yX11_most cX11_most 4 (some .int) 2 := ⟨gwm 1160 (by decide +kernel) rfl, gwm 64 (by decide +kernel) rfl, ⟨by decide, by decide, by decide +kernel⟩, by decide⟩
theorem im_X11_most : Cond.instanceMethod yX11_most ∈ gw := gwm 1158 (by decide +kernel) rfl
theorem se_X11_most : Cond.selects RX11 yX11_most yX11_most ∈ gw := gwm 1159 (by decide +kernel) rfl
theorem dL_scan_0 : decode cL_scan 0 = .ok (.aload 7, 2) := by decide +kernel
theorem dL_scan_2 : decode cL_scan 2 = .ok (.iconst 0, 1) := by decide +kernel
theorem dL_scan_3 : decode cL_scan 3 = .ok (.aload_n 0, 1) := by decide +kernel
theorem dL_scan_4 : decode cL_scan 4 = .ok (.iload_n 1, 1) := by decide +kernel
theorem dL_scan_5 : decode cL_scan 5 = .ok (.iload_n 2, 1) := by decide +kernel
theorem dL_scan_6 : decode cL_scan 6 = .ok (.lload_n 3, 1) := by decide +kernel
theorem dL_scan_7 : decode cL_scan 7 = .ok (.lload 5, 2) := by decide +kernel
theorem dL_scan_9 : decode cL_scan 9 = .ok (.invokevirtual 7, 3) := by decide +kernel
theorem dL_scan_12 : decode cL_scan 12 = .ok (.i2l, 1) := by decide +kernel
theorem dL_scan_13 : decode cL_scan 13 = .ok (.lastore, 1) := by decide +kernel
theorem dL_scan_14 : decode cL_scan 14 = .ok (.goto 11, 3) := by decide +kernel
theorem dL_scan_17 : decode cL_scan 17 = .ok (.astore 8, 2) := by decide +kernel
theorem dL_scan_19 : decode cL_scan 19 = .ok (.iconst 1, 1) := by decide +kernel
theorem dL_scan_20 : decode cL_scan 20 = .ok (.ireturn, 1) := by decide +kernel
theorem dL_scan_21 : decode cL_scan 21 = .ok (.astore 8, 2) := by decide +kernel
theorem dL_scan_23 : decode cL_scan 23 = .ok (.iconst 2, 1) := by decide +kernel
theorem dL_scan_24 : decode cL_scan 24 = .ok (.ireturn, 1) := by decide +kernel
theorem dL_scan_25 : decode cL_scan 25 = .ok (.iconst 0, 1) := by decide +kernel
theorem dL_scan_26 : decode cL_scan 26 = .ok (.ireturn, 1) := by decide +kernel
theorem dL_stuff_0 : decode cL_stuff 0 = .ok (.aload_n 2, 1) := by decide +kernel
theorem dL_stuff_1 : decode cL_stuff 1 = .ok (.iconst 0, 1) := by decide +kernel
theorem dL_stuff_2 : decode cL_stuff 2 = .ok (.aload_n 0, 1) := by decide +kernel
theorem dL_stuff_3 : decode cL_stuff 3 = .ok (.iload_n 1, 1) := by decide +kernel
theorem dL_stuff_4 : decode cL_stuff 4 = .ok (.invokevirtual 17, 3) := by decide +kernel
theorem dL_stuff_7 : decode cL_stuff 7 = .ok (.i2l, 1) := by decide +kernel
theorem dL_stuff_8 : decode cL_stuff 8 = .ok (.lastore, 1) := by decide +kernel
theorem dL_stuff_9 : decode cL_stuff 9 = .ok (.goto 6, 3) := by decide +kernel
theorem dL_stuff_12 : decode cL_stuff 12 = .ok (.astore_n 3, 1) := by decide +kernel
theorem dL_stuff_13 : decode cL_stuff 13 = .ok (.iconst 1, 1) := by decide +kernel
theorem dL_stuff_14 : decode cL_stuff 14 = .ok (.ireturn, 1) := by decide +kernel
theorem dL_stuff_15 : decode cL_stuff 15 = .ok (.iconst 0, 1) := by decide +kernel
theorem dL_stuff_16 : decode cL_stuff 16 = .ok (.ireturn, 1) := by decide +kernel
theorem dL_model_0 : decode cL_model 0 = .ok (.aload_n 2, 1) := by decide +kernel
theorem dL_model_1 : decode cL_model 1 = .ok (.iconst 0, 1) := by decide +kernel
theorem dL_model_2 : decode cL_model 2 = .ok (.aload_n 0, 1) := by decide +kernel
theorem dL_model_3 : decode cL_model 3 = .ok (.iload_n 1, 1) := by decide +kernel
theorem dL_model_4 : decode cL_model 4 = .ok (.invokevirtual 21, 3) := by decide +kernel
theorem dL_model_7 : decode cL_model 7 = .ok (.i2l, 1) := by decide +kernel
theorem dL_model_8 : decode cL_model 8 = .ok (.lastore, 1) := by decide +kernel
theorem dL_model_9 : decode cL_model 9 = .ok (.goto 9, 3) := by decide +kernel
theorem dL_model_12 : decode cL_model 12 = .ok (.astore_n 3, 1) := by decide +kernel
theorem dL_model_13 : decode cL_model 13 = .ok (.iconst 1, 1) := by decide +kernel
theorem dL_model_14 : decode cL_model 14 = .ok (.ireturn, 1) := by decide +kernel
theorem dL_model_15 : decode cL_model 15 = .ok (.astore_n 3, 1) := by decide +kernel
theorem dL_model_16 : decode cL_model 16 = .ok (.iconst 2, 1) := by decide +kernel
theorem dL_model_17 : decode cL_model 17 = .ok (.ireturn, 1) := by decide +kernel
theorem dL_model_18 : decode cL_model 18 = .ok (.iconst 0, 1) := by decide +kernel
theorem dL_model_19 : decode cL_model 19 = .ok (.ireturn, 1) := by decide +kernel
theorem dL_price_0 : decode cL_price 0 = .ok (.aload_n 3, 1) := by decide +kernel
theorem dL_price_1 : decode cL_price 1 = .ok (.iconst 0, 1) := by decide +kernel
theorem dL_price_2 : decode cL_price 2 = .ok (.aload_n 0, 1) := by decide +kernel
theorem dL_price_3 : decode cL_price 3 = .ok (.iload_n 1, 1) := by decide +kernel
theorem dL_price_4 : decode cL_price 4 = .ok (.iload_n 2, 1) := by decide +kernel
theorem dL_price_5 : decode cL_price 5 = .ok (.invokevirtual 26, 3) := by decide +kernel
theorem dL_price_8 : decode cL_price 8 = .ok (.i2l, 1) := by decide +kernel
theorem dL_price_9 : decode cL_price 9 = .ok (.lastore, 1) := by decide +kernel
theorem dL_price_10 : decode cL_price 10 = .ok (.goto 7, 3) := by decide +kernel
theorem dL_price_13 : decode cL_price 13 = .ok (.astore 4, 2) := by decide +kernel
theorem dL_price_15 : decode cL_price 15 = .ok (.iconst 1, 1) := by decide +kernel
theorem dL_price_16 : decode cL_price 16 = .ok (.ireturn, 1) := by decide +kernel
theorem dL_price_17 : decode cL_price 17 = .ok (.iconst 0, 1) := by decide +kernel
theorem dL_price_18 : decode cL_price 18 = .ok (.ireturn, 1) := by decide +kernel
theorem dL_worth_0 : decode cL_worth 0 = .ok (.aload_n 2, 1) := by decide +kernel
theorem dL_worth_1 : decode cL_worth 1 = .ok (.iconst 0, 1) := by decide +kernel
theorem dL_worth_2 : decode cL_worth 2 = .ok (.aload_n 0, 1) := by decide +kernel
theorem dL_worth_3 : decode cL_worth 3 = .ok (.iload_n 1, 1) := by decide +kernel
theorem dL_worth_4 : decode cL_worth 4 = .ok (.invokevirtual 30, 3) := by decide +kernel
theorem dL_worth_7 : decode cL_worth 7 = .ok (.i2l, 1) := by decide +kernel
theorem dL_worth_8 : decode cL_worth 8 = .ok (.lastore, 1) := by decide +kernel
theorem dL_worth_9 : decode cL_worth 9 = .ok (.goto 6, 3) := by decide +kernel
theorem dL_worth_12 : decode cL_worth 12 = .ok (.astore_n 3, 1) := by decide +kernel
theorem dL_worth_13 : decode cL_worth 13 = .ok (.iconst 1, 1) := by decide +kernel
theorem dL_worth_14 : decode cL_worth 14 = .ok (.ireturn, 1) := by decide +kernel
theorem dL_worth_15 : decode cL_worth 15 = .ok (.iconst 0, 1) := by decide +kernel
theorem dL_worth_16 : decode cL_worth 16 = .ok (.ireturn, 1) := by decide +kernel
theorem dL_fit_0 : decode cL_fit 0 = .ok (.aload 4, 2) := by decide +kernel
theorem dL_fit_2 : decode cL_fit 2 = .ok (.iconst 0, 1) := by decide +kernel
theorem dL_fit_3 : decode cL_fit 3 = .ok (.aload_n 0, 1) := by decide +kernel
theorem dL_fit_4 : decode cL_fit 4 = .ok (.iload_n 1, 1) := by decide +kernel
theorem dL_fit_5 : decode cL_fit 5 = .ok (.iload_n 2, 1) := by decide +kernel
theorem dL_fit_6 : decode cL_fit 6 = .ok (.iload_n 3, 1) := by decide +kernel
theorem dL_fit_7 : decode cL_fit 7 = .ok (.invokevirtual 33, 3) := by decide +kernel
theorem dL_fit_10 : decode cL_fit 10 = .ok (.i2l, 1) := by decide +kernel
theorem dL_fit_11 : decode cL_fit 11 = .ok (.lastore, 1) := by decide +kernel
theorem dL_fit_12 : decode cL_fit 12 = .ok (.goto 15, 3) := by decide +kernel
theorem dL_fit_15 : decode cL_fit 15 = .ok (.astore 5, 2) := by decide +kernel
theorem dL_fit_17 : decode cL_fit 17 = .ok (.iconst 1, 1) := by decide +kernel
theorem dL_fit_18 : decode cL_fit 18 = .ok (.ireturn, 1) := by decide +kernel
theorem dL_fit_19 : decode cL_fit 19 = .ok (.astore 5, 2) := by decide +kernel
theorem dL_fit_21 : decode cL_fit 21 = .ok (.iconst 2, 1) := by decide +kernel
theorem dL_fit_22 : decode cL_fit 22 = .ok (.ireturn, 1) := by decide +kernel
theorem dL_fit_23 : decode cL_fit 23 = .ok (.astore 5, 2) := by decide +kernel
theorem dL_fit_25 : decode cL_fit 25 = .ok (.iconst 3, 1) := by decide +kernel
theorem dL_fit_26 : decode cL_fit 26 = .ok (.ireturn, 1) := by decide +kernel
theorem dL_fit_27 : decode cL_fit 27 = .ok (.iconst 0, 1) := by decide +kernel
theorem dL_fit_28 : decode cL_fit 28 = .ok (.ireturn, 1) := by decide +kernel
theorem dL_best_0 : decode cL_best 0 = .ok (.aload_n 2, 1) := by decide +kernel
theorem dL_best_1 : decode cL_best 1 = .ok (.iconst 0, 1) := by decide +kernel
theorem dL_best_2 : decode cL_best 2 = .ok (.aload_n 0, 1) := by decide +kernel
theorem dL_best_3 : decode cL_best 3 = .ok (.iload_n 1, 1) := by decide +kernel
theorem dL_best_4 : decode cL_best 4 = .ok (.invokevirtual 39, 3) := by decide +kernel
theorem dL_best_7 : decode cL_best 7 = .ok (.i2l, 1) := by decide +kernel
theorem dL_best_8 : decode cL_best 8 = .ok (.lastore, 1) := by decide +kernel
theorem dL_best_9 : decode cL_best 9 = .ok (.goto 6, 3) := by decide +kernel
theorem dL_best_12 : decode cL_best 12 = .ok (.astore_n 3, 1) := by decide +kernel
theorem dL_best_13 : decode cL_best 13 = .ok (.iconst 1, 1) := by decide +kernel
theorem dL_best_14 : decode cL_best 14 = .ok (.ireturn, 1) := by decide +kernel
theorem dL_best_15 : decode cL_best 15 = .ok (.iconst 0, 1) := by decide +kernel
theorem dL_best_16 : decode cL_best 16 = .ok (.ireturn, 1) := by decide +kernel
theorem dL_sawn_0 : decode cL_sawn 0 = .ok (.aload_n 3, 1) := by decide +kernel
theorem dL_sawn_1 : decode cL_sawn 1 = .ok (.iconst 0, 1) := by decide +kernel
theorem dL_sawn_2 : decode cL_sawn 2 = .ok (.aload_n 0, 1) := by decide +kernel
theorem dL_sawn_3 : decode cL_sawn 3 = .ok (.iload_n 1, 1) := by decide +kernel
theorem dL_sawn_4 : decode cL_sawn 4 = .ok (.iload_n 2, 1) := by decide +kernel
theorem dL_sawn_5 : decode cL_sawn 5 = .ok (.invokevirtual 42, 3) := by decide +kernel
theorem dL_sawn_8 : decode cL_sawn 8 = .ok (.i2l, 1) := by decide +kernel
theorem dL_sawn_9 : decode cL_sawn 9 = .ok (.lastore, 1) := by decide +kernel
theorem dL_sawn_10 : decode cL_sawn 10 = .ok (.goto 11, 3) := by decide +kernel
theorem dL_sawn_13 : decode cL_sawn 13 = .ok (.astore 4, 2) := by decide +kernel
theorem dL_sawn_15 : decode cL_sawn 15 = .ok (.iconst 1, 1) := by decide +kernel
theorem dL_sawn_16 : decode cL_sawn 16 = .ok (.ireturn, 1) := by decide +kernel
theorem dL_sawn_17 : decode cL_sawn 17 = .ok (.astore 4, 2) := by decide +kernel
theorem dL_sawn_19 : decode cL_sawn 19 = .ok (.iconst 2, 1) := by decide +kernel
theorem dL_sawn_20 : decode cL_sawn 20 = .ok (.ireturn, 1) := by decide +kernel
theorem dL_sawn_21 : decode cL_sawn 21 = .ok (.iconst 0, 1) := by decide +kernel
theorem dL_sawn_22 : decode cL_sawn 22 = .ok (.ireturn, 1) := by decide +kernel
theorem dL_cut_0 : decode cL_cut 0 = .ok (.aload 4, 2) := by decide +kernel
theorem dL_cut_2 : decode cL_cut 2 = .ok (.iconst 0, 1) := by decide +kernel
theorem dL_cut_3 : decode cL_cut 3 = .ok (.aload_n 0, 1) := by decide +kernel
theorem dL_cut_4 : decode cL_cut 4 = .ok (.iload_n 1, 1) := by decide +kernel
theorem dL_cut_5 : decode cL_cut 5 = .ok (.iload_n 2, 1) := by decide +kernel
theorem dL_cut_6 : decode cL_cut 6 = .ok (.iload_n 3, 1) := by decide +kernel
theorem dL_cut_7 : decode cL_cut 7 = .ok (.invokevirtual 45, 3) := by decide +kernel
theorem dL_cut_10 : decode cL_cut 10 = .ok (.i2l, 1) := by decide +kernel
theorem dL_cut_11 : decode cL_cut 11 = .ok (.lastore, 1) := by decide +kernel
theorem dL_cut_12 : decode cL_cut 12 = .ok (.goto 11, 3) := by decide +kernel
theorem dL_cut_15 : decode cL_cut 15 = .ok (.astore 5, 2) := by decide +kernel
theorem dL_cut_17 : decode cL_cut 17 = .ok (.iconst 1, 1) := by decide +kernel
theorem dL_cut_18 : decode cL_cut 18 = .ok (.ireturn, 1) := by decide +kernel
theorem dL_cut_19 : decode cL_cut 19 = .ok (.astore 5, 2) := by decide +kernel
theorem dL_cut_21 : decode cL_cut 21 = .ok (.iconst 2, 1) := by decide +kernel
theorem dL_cut_22 : decode cL_cut 22 = .ok (.ireturn, 1) := by decide +kernel
theorem dL_cut_23 : decode cL_cut 23 = .ok (.iconst 0, 1) := by decide +kernel
theorem dL_cut_24 : decode cL_cut 24 = .ok (.ireturn, 1) := by decide +kernel
theorem dL_done_0 : decode cL_done 0 = .ok (.aload_n 2, 1) := by decide +kernel
theorem dL_done_1 : decode cL_done 1 = .ok (.iconst 0, 1) := by decide +kernel
theorem dL_done_2 : decode cL_done 2 = .ok (.aload_n 0, 1) := by decide +kernel
theorem dL_done_3 : decode cL_done 3 = .ok (.iload_n 1, 1) := by decide +kernel
theorem dL_done_4 : decode cL_done 4 = .ok (.invokevirtual 48, 3) := by decide +kernel
theorem dL_done_7 : decode cL_done 7 = .ok (.i2l, 1) := by decide +kernel
theorem dL_done_8 : decode cL_done 8 = .ok (.lastore, 1) := by decide +kernel
theorem dL_done_9 : decode cL_done 9 = .ok (.goto 6, 3) := by decide +kernel
theorem dL_done_12 : decode cL_done 12 = .ok (.astore_n 3, 1) := by decide +kernel
theorem dL_done_13 : decode cL_done 13 = .ok (.iconst 1, 1) := by decide +kernel
theorem dL_done_14 : decode cL_done 14 = .ok (.ireturn, 1) := by decide +kernel
theorem dL_done_15 : decode cL_done 15 = .ok (.iconst 0, 1) := by decide +kernel
theorem dL_done_16 : decode cL_done 16 = .ok (.ireturn, 1) := by decide +kernel
theorem dL_facet_0 : decode cL_facet 0 = .ok (.aload 4, 2) := by decide +kernel
theorem dL_facet_2 : decode cL_facet 2 = .ok (.iconst 0, 1) := by decide +kernel
theorem dL_facet_3 : decode cL_facet 3 = .ok (.aload_n 0, 1) := by decide +kernel
theorem dL_facet_4 : decode cL_facet 4 = .ok (.iload_n 1, 1) := by decide +kernel
theorem dL_facet_5 : decode cL_facet 5 = .ok (.iload_n 2, 1) := by decide +kernel
theorem dL_facet_6 : decode cL_facet 6 = .ok (.iload_n 3, 1) := by decide +kernel
theorem dL_facet_7 : decode cL_facet 7 = .ok (.invokevirtual 51, 3) := by decide +kernel
theorem dL_facet_10 : decode cL_facet 10 = .ok (.i2l, 1) := by decide +kernel
theorem dL_facet_11 : decode cL_facet 11 = .ok (.lastore, 1) := by decide +kernel
theorem dL_facet_12 : decode cL_facet 12 = .ok (.goto 11, 3) := by decide +kernel
theorem dL_facet_15 : decode cL_facet 15 = .ok (.astore 5, 2) := by decide +kernel
theorem dL_facet_17 : decode cL_facet 17 = .ok (.iconst 1, 1) := by decide +kernel
theorem dL_facet_18 : decode cL_facet 18 = .ok (.ireturn, 1) := by decide +kernel
theorem dL_facet_19 : decode cL_facet 19 = .ok (.astore 5, 2) := by decide +kernel
theorem dL_facet_21 : decode cL_facet 21 = .ok (.iconst 2, 1) := by decide +kernel
theorem dL_facet_22 : decode cL_facet 22 = .ok (.ireturn, 1) := by decide +kernel
theorem dL_facet_23 : decode cL_facet 23 = .ok (.iconst 0, 1) := by decide +kernel
theorem dL_facet_24 : decode cL_facet 24 = .ok (.ireturn, 1) := by decide +kernel
theorem dL_round_0 : decode cL_round 0 = .ok (.aload_n 2, 1) := by decide +kernel
theorem dL_round_1 : decode cL_round 1 = .ok (.iconst 0, 1) := by decide +kernel
theorem dL_round_2 : decode cL_round 2 = .ok (.aload_n 0, 1) := by decide +kernel
theorem dL_round_3 : decode cL_round 3 = .ok (.iload_n 1, 1) := by decide +kernel
theorem dL_round_4 : decode cL_round 4 = .ok (.invokevirtual 54, 3) := by decide +kernel
theorem dL_round_7 : decode cL_round 7 = .ok (.i2l, 1) := by decide +kernel
theorem dL_round_8 : decode cL_round 8 = .ok (.lastore, 1) := by decide +kernel
theorem dL_round_9 : decode cL_round 9 = .ok (.goto 6, 3) := by decide +kernel
theorem dL_round_12 : decode cL_round 12 = .ok (.astore_n 3, 1) := by decide +kernel
theorem dL_round_13 : decode cL_round 13 = .ok (.iconst 1, 1) := by decide +kernel
theorem dL_round_14 : decode cL_round 14 = .ok (.ireturn, 1) := by decide +kernel
theorem dL_round_15 : decode cL_round 15 = .ok (.iconst 0, 1) := by decide +kernel
theorem dL_round_16 : decode cL_round 16 = .ok (.ireturn, 1) := by decide +kernel
theorem dL_plan_0 : decode cL_plan 0 = .ok (.aload_n 3, 1) := by decide +kernel
theorem dL_plan_1 : decode cL_plan 1 = .ok (.iconst 0, 1) := by decide +kernel
theorem dL_plan_2 : decode cL_plan 2 = .ok (.aload_n 0, 1) := by decide +kernel
theorem dL_plan_3 : decode cL_plan 3 = .ok (.iload_n 1, 1) := by decide +kernel
theorem dL_plan_4 : decode cL_plan 4 = .ok (.iload_n 2, 1) := by decide +kernel
theorem dL_plan_5 : decode cL_plan 5 = .ok (.invokevirtual 57, 3) := by decide +kernel
theorem dL_plan_8 : decode cL_plan 8 = .ok (.i2l, 1) := by decide +kernel
theorem dL_plan_9 : decode cL_plan 9 = .ok (.lastore, 1) := by decide +kernel
theorem dL_plan_10 : decode cL_plan 10 = .ok (.goto 7, 3) := by decide +kernel
theorem dL_plan_13 : decode cL_plan 13 = .ok (.astore 4, 2) := by decide +kernel
theorem dL_plan_15 : decode cL_plan 15 = .ok (.iconst 1, 1) := by decide +kernel
theorem dL_plan_16 : decode cL_plan 16 = .ok (.ireturn, 1) := by decide +kernel
theorem dL_plan_17 : decode cL_plan 17 = .ok (.iconst 0, 1) := by decide +kernel
theorem dL_plan_18 : decode cL_plan 18 = .ok (.ireturn, 1) := by decide +kernel
theorem dL_polish_0 : decode cL_polish 0 = .ok (.aload_n 2, 1) := by decide +kernel
theorem dL_polish_1 : decode cL_polish 1 = .ok (.iconst 0, 1) := by decide +kernel
theorem dL_polish_2 : decode cL_polish 2 = .ok (.aload_n 0, 1) := by decide +kernel
theorem dL_polish_3 : decode cL_polish 3 = .ok (.iload_n 1, 1) := by decide +kernel
theorem dL_polish_4 : decode cL_polish 4 = .ok (.invokevirtual 60, 3) := by decide +kernel
theorem dL_polish_7 : decode cL_polish 7 = .ok (.i2l, 1) := by decide +kernel
theorem dL_polish_8 : decode cL_polish 8 = .ok (.lastore, 1) := by decide +kernel
theorem dL_polish_9 : decode cL_polish 9 = .ok (.goto 6, 3) := by decide +kernel
theorem dL_polish_12 : decode cL_polish 12 = .ok (.astore_n 3, 1) := by decide +kernel
theorem dL_polish_13 : decode cL_polish 13 = .ok (.iconst 1, 1) := by decide +kernel
theorem dL_polish_14 : decode cL_polish 14 = .ok (.ireturn, 1) := by decide +kernel
theorem dL_polish_15 : decode cL_polish 15 = .ok (.iconst 0, 1) := by decide +kernel
theorem dL_polish_16 : decode cL_polish 16 = .ok (.ireturn, 1) := by decide +kernel
theorem dL_told_0 : decode cL_told 0 = .ok (.aload_n 3, 1) := by decide +kernel
theorem dL_told_1 : decode cL_told 1 = .ok (.iconst 0, 1) := by decide +kernel
theorem dL_told_2 : decode cL_told 2 = .ok (.aload_n 0, 1) := by decide +kernel
theorem dL_told_3 : decode cL_told 3 = .ok (.iload_n 1, 1) := by decide +kernel
theorem dL_told_4 : decode cL_told 4 = .ok (.iload_n 2, 1) := by decide +kernel
theorem dL_told_5 : decode cL_told 5 = .ok (.invokevirtual 63, 3) := by decide +kernel
theorem dL_told_8 : decode cL_told 8 = .ok (.i2l, 1) := by decide +kernel
theorem dL_told_9 : decode cL_told 9 = .ok (.lastore, 1) := by decide +kernel
theorem dL_told_10 : decode cL_told 10 = .ok (.goto 11, 3) := by decide +kernel
theorem dL_told_13 : decode cL_told 13 = .ok (.astore 4, 2) := by decide +kernel
theorem dL_told_15 : decode cL_told 15 = .ok (.iconst 1, 1) := by decide +kernel
theorem dL_told_16 : decode cL_told 16 = .ok (.ireturn, 1) := by decide +kernel
theorem dL_told_17 : decode cL_told 17 = .ok (.astore 4, 2) := by decide +kernel
theorem dL_told_19 : decode cL_told 19 = .ok (.iconst 2, 1) := by decide +kernel
theorem dL_told_20 : decode cL_told 20 = .ok (.ireturn, 1) := by decide +kernel
theorem dL_told_21 : decode cL_told 21 = .ok (.iconst 0, 1) := by decide +kernel
theorem dL_told_22 : decode cL_told 22 = .ok (.ireturn, 1) := by decide +kernel
theorem dL_lot_0 : decode cL_lot 0 = .ok (.aload_n 3, 1) := by decide +kernel
theorem dL_lot_1 : decode cL_lot 1 = .ok (.iconst 0, 1) := by decide +kernel
theorem dL_lot_2 : decode cL_lot 2 = .ok (.aload_n 0, 1) := by decide +kernel
theorem dL_lot_3 : decode cL_lot 3 = .ok (.iload_n 1, 1) := by decide +kernel
theorem dL_lot_4 : decode cL_lot 4 = .ok (.iload_n 2, 1) := by decide +kernel
theorem dL_lot_5 : decode cL_lot 5 = .ok (.invokevirtual 66, 3) := by decide +kernel
theorem dL_lot_8 : decode cL_lot 8 = .ok (.i2l, 1) := by decide +kernel
theorem dL_lot_9 : decode cL_lot 9 = .ok (.lastore, 1) := by decide +kernel
theorem dL_lot_10 : decode cL_lot 10 = .ok (.goto 7, 3) := by decide +kernel
theorem dL_lot_13 : decode cL_lot 13 = .ok (.astore 4, 2) := by decide +kernel
theorem dL_lot_15 : decode cL_lot 15 = .ok (.iconst 1, 1) := by decide +kernel
theorem dL_lot_16 : decode cL_lot 16 = .ok (.ireturn, 1) := by decide +kernel
theorem dL_lot_17 : decode cL_lot 17 = .ok (.iconst 0, 1) := by decide +kernel
theorem dL_lot_18 : decode cL_lot 18 = .ok (.ireturn, 1) := by decide +kernel
theorem dL_bid_0 : decode cL_bid 0 = .ok (.aload 4, 2) := by decide +kernel
theorem dL_bid_2 : decode cL_bid 2 = .ok (.iconst 0, 1) := by decide +kernel
theorem dL_bid_3 : decode cL_bid 3 = .ok (.aload_n 0, 1) := by decide +kernel
theorem dL_bid_4 : decode cL_bid 4 = .ok (.iload_n 1, 1) := by decide +kernel
theorem dL_bid_5 : decode cL_bid 5 = .ok (.iload_n 2, 1) := by decide +kernel
theorem dL_bid_6 : decode cL_bid 6 = .ok (.iload_n 3, 1) := by decide +kernel
theorem dL_bid_7 : decode cL_bid 7 = .ok (.invokevirtual 69, 3) := by decide +kernel
theorem dL_bid_10 : decode cL_bid 10 = .ok (.i2l, 1) := by decide +kernel
theorem dL_bid_11 : decode cL_bid 11 = .ok (.lastore, 1) := by decide +kernel
theorem dL_bid_12 : decode cL_bid 12 = .ok (.goto 11, 3) := by decide +kernel
theorem dL_bid_15 : decode cL_bid 15 = .ok (.astore 5, 2) := by decide +kernel
theorem dL_bid_17 : decode cL_bid 17 = .ok (.iconst 1, 1) := by decide +kernel
theorem dL_bid_18 : decode cL_bid 18 = .ok (.ireturn, 1) := by decide +kernel
theorem dL_bid_19 : decode cL_bid 19 = .ok (.astore 5, 2) := by decide +kernel
theorem dL_bid_21 : decode cL_bid 21 = .ok (.iconst 2, 1) := by decide +kernel
theorem dL_bid_22 : decode cL_bid 22 = .ok (.ireturn, 1) := by decide +kernel
theorem dL_bid_23 : decode cL_bid 23 = .ok (.iconst 0, 1) := by decide +kernel
theorem dL_bid_24 : decode cL_bid 24 = .ok (.ireturn, 1) := by decide +kernel
theorem dL_most_0 : decode cL_most 0 = .ok (.aload_n 3, 1) := by decide +kernel
theorem dL_most_1 : decode cL_most 1 = .ok (.iconst 0, 1) := by decide +kernel
theorem dL_most_2 : decode cL_most 2 = .ok (.aload_n 0, 1) := by decide +kernel
theorem dL_most_3 : decode cL_most 3 = .ok (.iload_n 1, 1) := by decide +kernel
theorem dL_most_4 : decode cL_most 4 = .ok (.iload_n 2, 1) := by decide +kernel
theorem dL_most_5 : decode cL_most 5 = .ok (.invokevirtual 72, 3) := by decide +kernel
theorem dL_most_8 : decode cL_most 8 = .ok (.i2l, 1) := by decide +kernel
theorem dL_most_9 : decode cL_most 9 = .ok (.lastore, 1) := by decide +kernel
theorem dL_most_10 : decode cL_most 10 = .ok (.goto 11, 3) := by decide +kernel
theorem dL_most_13 : decode cL_most 13 = .ok (.astore 4, 2) := by decide +kernel
theorem dL_most_15 : decode cL_most 15 = .ok (.iconst 1, 1) := by decide +kernel
theorem dL_most_16 : decode cL_most 16 = .ok (.ireturn, 1) := by decide +kernel
theorem dL_most_17 : decode cL_most 17 = .ok (.astore 4, 2) := by decide +kernel
theorem dL_most_19 : decode cL_most 19 = .ok (.iconst 2, 1) := by decide +kernel
theorem dL_most_20 : decode cL_most 20 = .ok (.ireturn, 1) := by decide +kernel
theorem dL_most_21 : decode cL_most 21 = .ok (.iconst 0, 1) := by decide +kernel
theorem dL_most_22 : decode cL_most 22 = .ok (.ireturn, 1) := by decide +kernel
def hhL_scan : List (Nat × Nat × Nat × Nat) := [((0 : Nat), (14 : Nat), (17 : Nat), (13 : Nat)), ((0 : Nat), (14 : Nat), (21 : Nat), (15 : Nat))]
def F_L_scan (a0 : Nat) (a1 : Int32) (a2 : Int32) (a3 : Int64) (a5 : Int64) (a7 : Nat) (h0 : PM) : Option (Int32 × PM) := tst h0 a0 12 (wx (F_X11_scan a0 a1 a2 a3 a5 h0) (fun x h2 => if x = 1 then some (1, h2) else if x = 2 then some (2, h2) else none) fun r h2 => sJ h2 a7 0 r.toInt64 fun h3 => some (0, h3))
set_option maxRecDepth 100000 in
set_option maxHeartbeats 4000000 in
theorem S_L_scan {a0 : Nat} {a1 : Int32} {a2 : Int32} {a3 : Int64} {a5 : Int64} {a7 : Nat} {h0 : PM} (r : Int32) (h' : PM) (hF : F_L_scan a0 a1 a2 a3 a5 a7 h0 = some (r, h')) : CW yL_scan cL_scan 9 (some .int) hhL_scan 2 12 8 [.ref a0, .int a1, .int a2, .long a3, .long a5, .ref a7] h0 (some (.int r)) h' := by
  obtain ⟨X, eX⟩ : ∃ X, X = (r, h') := ⟨_, rfl⟩
  rw [← eX] at hF
  have e1 : r = X.1 := by rw [eX]
  have e2 : h' = X.2 := by rw [eX]
  rw [e1, e2]
  clear eX e1 e2
  unfold F_L_scan at hF
  refine CW_of (by decide) (fun ρ => Nat.le_of_ble_eq_true rfl) rfl ?_
  intro p l e s m args below meth c D cy base ρ hT C V NC htb hr
  obtain ⟨ht, hF⟩ := tst_some hF
  obtain ⟨rx, h2, hc, hg, hk⟩ := wx_some hF
  refine r_aload C dL_scan_0 5 rfl ?_
  refine r_iconst (v := 0) C dL_scan_2 (by decide) ?_
  refine r_aload_n C dL_scan_3 rfl 0 rfl ?_
  refine r_iload_n C dL_scan_4 rfl 1 rfl ?_
  refine r_iload_n C dL_scan_5 rfl 2 rfl ?_
  refine r_lload_n C dL_scan_6 rfl 3 rfl ?_
  refine r_lload C dL_scan_7 4 rfl ?_
  refine r_callVC (As := [.int a1, .int a2, .long a3, .long a5]) C dL_scan_9 V hT NC cal_X11_scan cls_12 ml_L_7 im_X11_scan se_X11_scan ht (by decide) rfl rfl (Nat.le_of_ble_eq_true rfl) (by decide) (by decide) (S_X11_scan _ _ hc) (fun k9 e9 => ?_) (fun v9 e9 => ?_)
  · have hF := hg k9 (rX_inl e9)
    rw [htb]
    by_cases q1 : k9 = 1
    · rw [if_pos q1] at hF
      subst q1
      refine ⟨19, ⟨[], ⟨0, 14, 17, 13⟩, [⟨0, 14, 21, 15⟩], rfl, (by simp), by decide, by decide, cn_L_13, by decide, Or.inl ⟨_, dL_scan_17, by decide, rfl⟩⟩, ?_⟩
      refine r_iconst (v := 1) C dL_scan_19 (by decide) ?_
      exact k_iret C dL_scan_20 hr (by decide) (by decide) hF
    rw [if_neg q1] at hF
    by_cases q2 : k9 = 2
    · rw [if_pos q2] at hF
      subst q2
      refine ⟨23, ⟨[⟨0, 14, 17, 13⟩], ⟨0, 14, 21, 15⟩, [], rfl, (by intro y hy; simp only [List.mem_cons, List.not_mem_nil, or_false] at hy; rcases hy with rfl <;> first | exact ⟨by decide, 1, by decide, by decide, cn_L_13⟩), by decide, by decide, cn_L_15, by decide, Or.inl ⟨_, dL_scan_21, by decide, rfl⟩⟩, ?_⟩
      refine r_iconst (v := 2) C dL_scan_23 (by decide) ?_
      exact k_iret C dL_scan_24 hr (by decide) (by decide) hF
    rw [if_neg q2] at hF
    cases hF
  obtain ⟨r9, er, rfl⟩ := rX_inr e9
  have hF := hk r9 er
  refine r_i2l C dL_scan_12 ?_
  refine k_sJ C dL_scan_13 hF (fun h3 hF => ?_)
  refine r_goto (tgt := 25) C dL_scan_14 (by decide) ?_
  refine r_iconst (v := 0) C dL_scan_25 (by decide) ?_
  exact k_iret C dL_scan_26 hr (by decide) (by decide) hF
def hhL_stuff : List (Nat × Nat × Nat × Nat) := [((0 : Nat), (9 : Nat), (12 : Nat), (13 : Nat))]
def F_L_stuff (a0 : Nat) (a1 : Int32) (a2 : Nat) (h0 : PM) : Option (Int32 × PM) := tst h0 a0 12 (wx (F_X11_stuff a0 a1 h0) (fun x h2 => if x = 1 then some (1, h2) else none) fun r h2 => sJ h2 a2 0 r.toInt64 fun h3 => some (0, h3))
set_option maxRecDepth 100000 in
set_option maxHeartbeats 4000000 in
theorem S_L_stuff {a0 : Nat} {a1 : Int32} {a2 : Nat} {h0 : PM} (r : Int32) (h' : PM) (hF : F_L_stuff a0 a1 a2 h0 = some (r, h')) : CW yL_stuff cL_stuff 4 (some .int) hhL_stuff 1 6 8 [.ref a0, .int a1, .ref a2] h0 (some (.int r)) h' := by
  obtain ⟨X, eX⟩ : ∃ X, X = (r, h') := ⟨_, rfl⟩
  rw [← eX] at hF
  have e1 : r = X.1 := by rw [eX]
  have e2 : h' = X.2 := by rw [eX]
  rw [e1, e2]
  clear eX e1 e2
  unfold F_L_stuff at hF
  refine CW_of (by decide) (fun ρ => Nat.le_of_ble_eq_true rfl) rfl ?_
  intro p l e s m args below meth c D cy base ρ hT C V NC htb hr
  obtain ⟨ht, hF⟩ := tst_some hF
  obtain ⟨rx, h2, hc, hg, hk⟩ := wx_some hF
  refine r_aload_n C dL_stuff_0 rfl 2 rfl ?_
  refine r_iconst (v := 0) C dL_stuff_1 (by decide) ?_
  refine r_aload_n C dL_stuff_2 rfl 0 rfl ?_
  refine r_iload_n C dL_stuff_3 rfl 1 rfl ?_
  refine r_callVC (As := [.int a1]) C dL_stuff_4 V hT NC cal_X11_stuff cls_12 ml_L_17 im_X11_stuff se_X11_stuff ht (by decide) rfl rfl (Nat.le_of_ble_eq_true rfl) (by decide) (by decide) (S_X11_stuff _ _ hc) (fun k9 e9 => ?_) (fun v9 e9 => ?_)
  · have hF := hg k9 (rX_inl e9)
    rw [htb]
    by_cases q1 : k9 = 1
    · rw [if_pos q1] at hF
      subst q1
      refine ⟨13, ⟨[], ⟨0, 9, 12, 13⟩, [], rfl, (by simp), by decide, by decide, cn_L_13, by decide, Or.inr ⟨_, dL_stuff_12, by decide, rfl⟩⟩, ?_⟩
      refine r_iconst (v := 1) C dL_stuff_13 (by decide) ?_
      exact k_iret C dL_stuff_14 hr (by decide) (by decide) hF
    rw [if_neg q1] at hF
    cases hF
  obtain ⟨r9, er, rfl⟩ := rX_inr e9
  have hF := hk r9 er
  refine r_i2l C dL_stuff_7 ?_
  refine k_sJ C dL_stuff_8 hF (fun h3 hF => ?_)
  refine r_goto (tgt := 15) C dL_stuff_9 (by decide) ?_
  refine r_iconst (v := 0) C dL_stuff_15 (by decide) ?_
  exact k_iret C dL_stuff_16 hr (by decide) (by decide) hF
def hhL_model : List (Nat × Nat × Nat × Nat) := [((0 : Nat), (9 : Nat), (12 : Nat), (15 : Nat)), ((0 : Nat), (9 : Nat), (15 : Nat), (24 : Nat))]
def F_L_model (a0 : Nat) (a1 : Int32) (a2 : Nat) (h0 : PM) : Option (Int32 × PM) := tst h0 a0 12 (wx (F_X11_model a0 a1 h0) (fun x h2 => if x = 2 then some (1, h2) else if x = 3 then some (2, h2) else none) fun r h2 => sJ h2 a2 0 r.toInt64 fun h3 => some (0, h3))
set_option maxRecDepth 100000 in
set_option maxHeartbeats 4000000 in
theorem S_L_model {a0 : Nat} {a1 : Int32} {a2 : Nat} {h0 : PM} (r : Int32) (h' : PM) (hF : F_L_model a0 a1 a2 h0 = some (r, h')) : CW yL_model cL_model 4 (some .int) hhL_model 41 327 8 [.ref a0, .int a1, .ref a2] h0 (some (.int r)) h' := by
  obtain ⟨X, eX⟩ : ∃ X, X = (r, h') := ⟨_, rfl⟩
  rw [← eX] at hF
  have e1 : r = X.1 := by rw [eX]
  have e2 : h' = X.2 := by rw [eX]
  rw [e1, e2]
  clear eX e1 e2
  unfold F_L_model at hF
  refine CW_of (by decide) (fun ρ => Nat.le_of_ble_eq_true rfl) rfl ?_
  intro p l e s m args below meth c D cy base ρ hT C V NC htb hr
  obtain ⟨ht, hF⟩ := tst_some hF
  obtain ⟨rx, h2, hc, hg, hk⟩ := wx_some hF
  refine r_aload_n C dL_model_0 rfl 2 rfl ?_
  refine r_iconst (v := 0) C dL_model_1 (by decide) ?_
  refine r_aload_n C dL_model_2 rfl 0 rfl ?_
  refine r_iload_n C dL_model_3 rfl 1 rfl ?_
  refine r_callVC (As := [.int a1]) C dL_model_4 V hT NC cal_X11_model cls_12 ml_L_21 im_X11_model se_X11_model ht (by decide) rfl rfl (Nat.le_of_ble_eq_true rfl) (by decide) (by decide) (S_X11_model _ _ hc) (fun k9 e9 => ?_) (fun v9 e9 => ?_)
  · have hF := hg k9 (rX_inl e9)
    rw [htb]
    by_cases q2 : k9 = 2
    · rw [if_pos q2] at hF
      subst q2
      refine ⟨13, ⟨[], ⟨0, 9, 12, 15⟩, [⟨0, 9, 15, 24⟩], rfl, (by simp), by decide, by decide, cn_L_15, by decide, Or.inr ⟨_, dL_model_12, by decide, rfl⟩⟩, ?_⟩
      refine r_iconst (v := 1) C dL_model_13 (by decide) ?_
      exact k_iret C dL_model_14 hr (by decide) (by decide) hF
    rw [if_neg q2] at hF
    by_cases q3 : k9 = 3
    · rw [if_pos q3] at hF
      subst q3
      refine ⟨16, ⟨[⟨0, 9, 12, 15⟩], ⟨0, 9, 15, 24⟩, [], rfl, (by intro y hy; simp only [List.mem_cons, List.not_mem_nil, or_false] at hy; rcases hy with rfl <;> first | exact ⟨by decide, 2, by decide, by decide, cn_L_15⟩), by decide, by decide, cn_L_24, by decide, Or.inr ⟨_, dL_model_15, by decide, rfl⟩⟩, ?_⟩
      refine r_iconst (v := 2) C dL_model_16 (by decide) ?_
      exact k_iret C dL_model_17 hr (by decide) (by decide) hF
    rw [if_neg q3] at hF
    cases hF
  obtain ⟨r9, er, rfl⟩ := rX_inr e9
  have hF := hk r9 er
  refine r_i2l C dL_model_7 ?_
  refine k_sJ C dL_model_8 hF (fun h3 hF => ?_)
  refine r_goto (tgt := 18) C dL_model_9 (by decide) ?_
  refine r_iconst (v := 0) C dL_model_18 (by decide) ?_
  exact k_iret C dL_model_19 hr (by decide) (by decide) hF
def hhL_price : List (Nat × Nat × Nat × Nat) := [((0 : Nat), (10 : Nat), (13 : Nat), (15 : Nat))]
def F_L_price (a0 : Nat) (a1 : Int32) (a2 : Int32) (a3 : Nat) (h0 : PM) : Option (Int32 × PM) := tst h0 a0 12 (wx (F_X11_price a0 a1 a2 h0) (fun x h2 => if x = 2 then some (1, h2) else none) fun r h2 => sJ h2 a3 0 r.toInt64 fun h3 => some (0, h3))
set_option maxRecDepth 100000 in
set_option maxHeartbeats 4000000 in
theorem S_L_price {a0 : Nat} {a1 : Int32} {a2 : Int32} {a3 : Nat} {h0 : PM} (r : Int32) (h' : PM) (hF : F_L_price a0 a1 a2 a3 h0 = some (r, h')) : CW yL_price cL_price 5 (some .int) hhL_price 1 6 7 [.ref a0, .int a1, .int a2, .ref a3] h0 (some (.int r)) h' := by
  obtain ⟨X, eX⟩ : ∃ X, X = (r, h') := ⟨_, rfl⟩
  rw [← eX] at hF
  have e1 : r = X.1 := by rw [eX]
  have e2 : h' = X.2 := by rw [eX]
  rw [e1, e2]
  clear eX e1 e2
  unfold F_L_price at hF
  refine CW_of (by decide) (fun ρ => Nat.le_of_ble_eq_true rfl) rfl ?_
  intro p l e s m args below meth c D cy base ρ hT C V NC htb hr
  obtain ⟨ht, hF⟩ := tst_some hF
  obtain ⟨rx, h2, hc, hg, hk⟩ := wx_some hF
  refine r_aload_n C dL_price_0 rfl 3 rfl ?_
  refine r_iconst (v := 0) C dL_price_1 (by decide) ?_
  refine r_aload_n C dL_price_2 rfl 0 rfl ?_
  refine r_iload_n C dL_price_3 rfl 1 rfl ?_
  refine r_iload_n C dL_price_4 rfl 2 rfl ?_
  refine r_callVC (As := [.int a1, .int a2]) C dL_price_5 V hT NC cal_X11_price cls_12 ml_L_26 im_X11_price se_X11_price ht (by decide) rfl rfl (Nat.le_of_ble_eq_true rfl) (by decide) (by decide) (S_X11_price _ _ hc) (fun k9 e9 => ?_) (fun v9 e9 => ?_)
  · have hF := hg k9 (rX_inl e9)
    rw [htb]
    by_cases q2 : k9 = 2
    · rw [if_pos q2] at hF
      subst q2
      refine ⟨15, ⟨[], ⟨0, 10, 13, 15⟩, [], rfl, (by simp), by decide, by decide, cn_L_15, by decide, Or.inl ⟨_, dL_price_13, by decide, rfl⟩⟩, ?_⟩
      refine r_iconst (v := 1) C dL_price_15 (by decide) ?_
      exact k_iret C dL_price_16 hr (by decide) (by decide) hF
    rw [if_neg q2] at hF
    cases hF
  obtain ⟨r9, er, rfl⟩ := rX_inr e9
  have hF := hk r9 er
  refine r_i2l C dL_price_8 ?_
  refine k_sJ C dL_price_9 hF (fun h3 hF => ?_)
  refine r_goto (tgt := 17) C dL_price_10 (by decide) ?_
  refine r_iconst (v := 0) C dL_price_17 (by decide) ?_
  exact k_iret C dL_price_18 hr (by decide) (by decide) hF
def hhL_worth : List (Nat × Nat × Nat × Nat) := [((0 : Nat), (9 : Nat), (12 : Nat), (15 : Nat))]
def F_L_worth (a0 : Nat) (a1 : Int32) (a2 : Nat) (h0 : PM) : Option (Int32 × PM) := tst h0 a0 12 (wx (F_X11_worth a0 a1 h0) (fun x h2 => if x = 2 then some (1, h2) else none) fun r h2 => sJ h2 a2 0 r.toInt64 fun h3 => some (0, h3))
set_option maxRecDepth 100000 in
set_option maxHeartbeats 4000000 in
theorem S_L_worth {a0 : Nat} {a1 : Int32} {a2 : Nat} {h0 : PM} (r : Int32) (h' : PM) (hF : F_L_worth a0 a1 a2 h0 = some (r, h')) : CW yL_worth cL_worth 4 (some .int) hhL_worth 1 6 7 [.ref a0, .int a1, .ref a2] h0 (some (.int r)) h' := by
  obtain ⟨X, eX⟩ : ∃ X, X = (r, h') := ⟨_, rfl⟩
  rw [← eX] at hF
  have e1 : r = X.1 := by rw [eX]
  have e2 : h' = X.2 := by rw [eX]
  rw [e1, e2]
  clear eX e1 e2
  unfold F_L_worth at hF
  refine CW_of (by decide) (fun ρ => Nat.le_of_ble_eq_true rfl) rfl ?_
  intro p l e s m args below meth c D cy base ρ hT C V NC htb hr
  obtain ⟨ht, hF⟩ := tst_some hF
  obtain ⟨rx, h2, hc, hg, hk⟩ := wx_some hF
  refine r_aload_n C dL_worth_0 rfl 2 rfl ?_
  refine r_iconst (v := 0) C dL_worth_1 (by decide) ?_
  refine r_aload_n C dL_worth_2 rfl 0 rfl ?_
  refine r_iload_n C dL_worth_3 rfl 1 rfl ?_
  refine r_callVC (As := [.int a1]) C dL_worth_4 V hT NC cal_X11_worth cls_12 ml_L_30 im_X11_worth se_X11_worth ht (by decide) rfl rfl (Nat.le_of_ble_eq_true rfl) (by decide) (by decide) (S_X11_worth _ _ hc) (fun k9 e9 => ?_) (fun v9 e9 => ?_)
  · have hF := hg k9 (rX_inl e9)
    rw [htb]
    by_cases q2 : k9 = 2
    · rw [if_pos q2] at hF
      subst q2
      refine ⟨13, ⟨[], ⟨0, 9, 12, 15⟩, [], rfl, (by simp), by decide, by decide, cn_L_15, by decide, Or.inr ⟨_, dL_worth_12, by decide, rfl⟩⟩, ?_⟩
      refine r_iconst (v := 1) C dL_worth_13 (by decide) ?_
      exact k_iret C dL_worth_14 hr (by decide) (by decide) hF
    rw [if_neg q2] at hF
    cases hF
  obtain ⟨r9, er, rfl⟩ := rX_inr e9
  have hF := hk r9 er
  refine r_i2l C dL_worth_7 ?_
  refine k_sJ C dL_worth_8 hF (fun h3 hF => ?_)
  refine r_goto (tgt := 15) C dL_worth_9 (by decide) ?_
  refine r_iconst (v := 0) C dL_worth_15 (by decide) ?_
  exact k_iret C dL_worth_16 hr (by decide) (by decide) hF
def hhL_fit : List (Nat × Nat × Nat × Nat) := [((0 : Nat), (12 : Nat), (15 : Nat), (13 : Nat)), ((0 : Nat), (12 : Nat), (19 : Nat), (37 : Nat)), ((0 : Nat), (12 : Nat), (23 : Nat), (15 : Nat))]
def F_L_fit (a0 : Nat) (a1 : Int32) (a2 : Int32) (a3 : Int32) (a4 : Nat) (h0 : PM) : Option (Int32 × PM) := tst h0 a0 12 (wx (F_X11_fit a0 a1 a2 a3 h0) (fun x h2 => if x = 1 then some (1, h2) else if x = 4 then some (2, h2) else if x = 2 then some (3, h2) else none) fun r h2 => sJ h2 a4 0 r.toInt64 fun h3 => some (0, h3))
set_option maxRecDepth 100000 in
set_option maxHeartbeats 4000000 in
theorem S_L_fit {a0 : Nat} {a1 : Int32} {a2 : Int32} {a3 : Int32} {a4 : Nat} {h0 : PM} (r : Int32) (h' : PM) (hF : F_L_fit a0 a1 a2 a3 a4 h0 = some (r, h')) : CW yL_fit cL_fit 6 (some .int) hhL_fit 2 12 8 [.ref a0, .int a1, .int a2, .int a3, .ref a4] h0 (some (.int r)) h' := by
  obtain ⟨X, eX⟩ : ∃ X, X = (r, h') := ⟨_, rfl⟩
  rw [← eX] at hF
  have e1 : r = X.1 := by rw [eX]
  have e2 : h' = X.2 := by rw [eX]
  rw [e1, e2]
  clear eX e1 e2
  unfold F_L_fit at hF
  refine CW_of (by decide) (fun ρ => Nat.le_of_ble_eq_true rfl) rfl ?_
  intro p l e s m args below meth c D cy base ρ hT C V NC htb hr
  obtain ⟨ht, hF⟩ := tst_some hF
  obtain ⟨rx, h2, hc, hg, hk⟩ := wx_some hF
  refine r_aload C dL_fit_0 4 rfl ?_
  refine r_iconst (v := 0) C dL_fit_2 (by decide) ?_
  refine r_aload_n C dL_fit_3 rfl 0 rfl ?_
  refine r_iload_n C dL_fit_4 rfl 1 rfl ?_
  refine r_iload_n C dL_fit_5 rfl 2 rfl ?_
  refine r_iload_n C dL_fit_6 rfl 3 rfl ?_
  refine r_callVC (As := [.int a1, .int a2, .int a3]) C dL_fit_7 V hT NC cal_X11_fit cls_12 ml_L_33 im_X11_fit se_X11_fit ht (by decide) rfl rfl (Nat.le_of_ble_eq_true rfl) (by decide) (by decide) (S_X11_fit _ _ hc) (fun k9 e9 => ?_) (fun v9 e9 => ?_)
  · have hF := hg k9 (rX_inl e9)
    rw [htb]
    by_cases q1 : k9 = 1
    · rw [if_pos q1] at hF
      subst q1
      refine ⟨17, ⟨[], ⟨0, 12, 15, 13⟩, [⟨0, 12, 19, 37⟩, ⟨0, 12, 23, 15⟩], rfl, (by simp), by decide, by decide, cn_L_13, by decide, Or.inl ⟨_, dL_fit_15, by decide, rfl⟩⟩, ?_⟩
      refine r_iconst (v := 1) C dL_fit_17 (by decide) ?_
      exact k_iret C dL_fit_18 hr (by decide) (by decide) hF
    rw [if_neg q1] at hF
    by_cases q4 : k9 = 4
    · rw [if_pos q4] at hF
      subst q4
      refine ⟨21, ⟨[⟨0, 12, 15, 13⟩], ⟨0, 12, 19, 37⟩, [⟨0, 12, 23, 15⟩], rfl, (by intro y hy; simp only [List.mem_cons, List.not_mem_nil, or_false] at hy; rcases hy with rfl <;> first | exact ⟨by decide, 1, by decide, by decide, cn_L_13⟩), by decide, by decide, cn_L_37, by decide, Or.inl ⟨_, dL_fit_19, by decide, rfl⟩⟩, ?_⟩
      refine r_iconst (v := 2) C dL_fit_21 (by decide) ?_
      exact k_iret C dL_fit_22 hr (by decide) (by decide) hF
    rw [if_neg q4] at hF
    by_cases q2 : k9 = 2
    · rw [if_pos q2] at hF
      subst q2
      refine ⟨25, ⟨[⟨0, 12, 15, 13⟩, ⟨0, 12, 19, 37⟩], ⟨0, 12, 23, 15⟩, [], rfl, (by intro y hy; simp only [List.mem_cons, List.not_mem_nil, or_false] at hy; rcases hy with rfl | rfl <;> first | exact ⟨by decide, 1, by decide, by decide, cn_L_13⟩ | exact ⟨by decide, 4, by decide, by decide, cn_L_37⟩), by decide, by decide, cn_L_15, by decide, Or.inl ⟨_, dL_fit_23, by decide, rfl⟩⟩, ?_⟩
      refine r_iconst (v := 3) C dL_fit_25 (by decide) ?_
      exact k_iret C dL_fit_26 hr (by decide) (by decide) hF
    rw [if_neg q2] at hF
    cases hF
  obtain ⟨r9, er, rfl⟩ := rX_inr e9
  have hF := hk r9 er
  refine r_i2l C dL_fit_10 ?_
  refine k_sJ C dL_fit_11 hF (fun h3 hF => ?_)
  refine r_goto (tgt := 27) C dL_fit_12 (by decide) ?_
  refine r_iconst (v := 0) C dL_fit_27 (by decide) ?_
  exact k_iret C dL_fit_28 hr (by decide) (by decide) hF
def hhL_best : List (Nat × Nat × Nat × Nat) := [((0 : Nat), (9 : Nat), (12 : Nat), (13 : Nat))]
def F_L_best (a0 : Nat) (a1 : Int32) (a2 : Nat) (h0 : PM) : Option (Int32 × PM) := tst h0 a0 12 (wx (F_X11_best a0 a1 h0) (fun x h2 => if x = 1 then some (1, h2) else none) fun r h2 => sJ h2 a2 0 r.toInt64 fun h3 => some (0, h3))
set_option maxRecDepth 100000 in
set_option maxHeartbeats 4000000 in
theorem S_L_best {a0 : Nat} {a1 : Int32} {a2 : Nat} {h0 : PM} (r : Int32) (h' : PM) (hF : F_L_best a0 a1 a2 h0 = some (r, h')) : CW yL_best cL_best 4 (some .int) hhL_best 1 6 9 [.ref a0, .int a1, .ref a2] h0 (some (.int r)) h' := by
  obtain ⟨X, eX⟩ : ∃ X, X = (r, h') := ⟨_, rfl⟩
  rw [← eX] at hF
  have e1 : r = X.1 := by rw [eX]
  have e2 : h' = X.2 := by rw [eX]
  rw [e1, e2]
  clear eX e1 e2
  unfold F_L_best at hF
  refine CW_of (by decide) (fun ρ => Nat.le_of_ble_eq_true rfl) rfl ?_
  intro p l e s m args below meth c D cy base ρ hT C V NC htb hr
  obtain ⟨ht, hF⟩ := tst_some hF
  obtain ⟨rx, h2, hc, hg, hk⟩ := wx_some hF
  refine r_aload_n C dL_best_0 rfl 2 rfl ?_
  refine r_iconst (v := 0) C dL_best_1 (by decide) ?_
  refine r_aload_n C dL_best_2 rfl 0 rfl ?_
  refine r_iload_n C dL_best_3 rfl 1 rfl ?_
  refine r_callVC (As := [.int a1]) C dL_best_4 V hT NC cal_X11_best cls_12 ml_L_39 im_X11_best se_X11_best ht (by decide) rfl rfl (Nat.le_of_ble_eq_true rfl) (by decide) (by decide) (S_X11_best _ _ hc) (fun k9 e9 => ?_) (fun v9 e9 => ?_)
  · have hF := hg k9 (rX_inl e9)
    rw [htb]
    by_cases q1 : k9 = 1
    · rw [if_pos q1] at hF
      subst q1
      refine ⟨13, ⟨[], ⟨0, 9, 12, 13⟩, [], rfl, (by simp), by decide, by decide, cn_L_13, by decide, Or.inr ⟨_, dL_best_12, by decide, rfl⟩⟩, ?_⟩
      refine r_iconst (v := 1) C dL_best_13 (by decide) ?_
      exact k_iret C dL_best_14 hr (by decide) (by decide) hF
    rw [if_neg q1] at hF
    cases hF
  obtain ⟨r9, er, rfl⟩ := rX_inr e9
  have hF := hk r9 er
  refine r_i2l C dL_best_7 ?_
  refine k_sJ C dL_best_8 hF (fun h3 hF => ?_)
  refine r_goto (tgt := 15) C dL_best_9 (by decide) ?_
  refine r_iconst (v := 0) C dL_best_15 (by decide) ?_
  exact k_iret C dL_best_16 hr (by decide) (by decide) hF
def hhL_sawn : List (Nat × Nat × Nat × Nat) := [((0 : Nat), (10 : Nat), (13 : Nat), (13 : Nat)), ((0 : Nat), (10 : Nat), (17 : Nat), (15 : Nat))]
def F_L_sawn (a0 : Nat) (a1 : Int32) (a2 : Int32) (a3 : Nat) (h0 : PM) : Option (Int32 × PM) := tst h0 a0 12 (wx (F_X11_sawn a0 a1 a2 h0) (fun x h2 => if x = 1 then some (1, h2) else if x = 2 then some (2, h2) else none) fun r h2 => sJ h2 a3 0 r.toInt64 fun h3 => some (0, h3))
set_option maxRecDepth 100000 in
set_option maxHeartbeats 4000000 in
theorem S_L_sawn {a0 : Nat} {a1 : Int32} {a2 : Int32} {a3 : Nat} {h0 : PM} (r : Int32) (h' : PM) (hF : F_L_sawn a0 a1 a2 a3 h0 = some (r, h')) : CW yL_sawn cL_sawn 5 (some .int) hhL_sawn 2 12 9 [.ref a0, .int a1, .int a2, .ref a3] h0 (some (.int r)) h' := by
  obtain ⟨X, eX⟩ : ∃ X, X = (r, h') := ⟨_, rfl⟩
  rw [← eX] at hF
  have e1 : r = X.1 := by rw [eX]
  have e2 : h' = X.2 := by rw [eX]
  rw [e1, e2]
  clear eX e1 e2
  unfold F_L_sawn at hF
  refine CW_of (by decide) (fun ρ => Nat.le_of_ble_eq_true rfl) rfl ?_
  intro p l e s m args below meth c D cy base ρ hT C V NC htb hr
  obtain ⟨ht, hF⟩ := tst_some hF
  obtain ⟨rx, h2, hc, hg, hk⟩ := wx_some hF
  refine r_aload_n C dL_sawn_0 rfl 3 rfl ?_
  refine r_iconst (v := 0) C dL_sawn_1 (by decide) ?_
  refine r_aload_n C dL_sawn_2 rfl 0 rfl ?_
  refine r_iload_n C dL_sawn_3 rfl 1 rfl ?_
  refine r_iload_n C dL_sawn_4 rfl 2 rfl ?_
  refine r_callVC (As := [.int a1, .int a2]) C dL_sawn_5 V hT NC cal_X11_sawn cls_12 ml_L_42 im_X11_sawn se_X11_sawn ht (by decide) rfl rfl (Nat.le_of_ble_eq_true rfl) (by decide) (by decide) (S_X11_sawn _ _ hc) (fun k9 e9 => ?_) (fun v9 e9 => ?_)
  · have hF := hg k9 (rX_inl e9)
    rw [htb]
    by_cases q1 : k9 = 1
    · rw [if_pos q1] at hF
      subst q1
      refine ⟨15, ⟨[], ⟨0, 10, 13, 13⟩, [⟨0, 10, 17, 15⟩], rfl, (by simp), by decide, by decide, cn_L_13, by decide, Or.inl ⟨_, dL_sawn_13, by decide, rfl⟩⟩, ?_⟩
      refine r_iconst (v := 1) C dL_sawn_15 (by decide) ?_
      exact k_iret C dL_sawn_16 hr (by decide) (by decide) hF
    rw [if_neg q1] at hF
    by_cases q2 : k9 = 2
    · rw [if_pos q2] at hF
      subst q2
      refine ⟨19, ⟨[⟨0, 10, 13, 13⟩], ⟨0, 10, 17, 15⟩, [], rfl, (by intro y hy; simp only [List.mem_cons, List.not_mem_nil, or_false] at hy; rcases hy with rfl <;> first | exact ⟨by decide, 1, by decide, by decide, cn_L_13⟩), by decide, by decide, cn_L_15, by decide, Or.inl ⟨_, dL_sawn_17, by decide, rfl⟩⟩, ?_⟩
      refine r_iconst (v := 2) C dL_sawn_19 (by decide) ?_
      exact k_iret C dL_sawn_20 hr (by decide) (by decide) hF
    rw [if_neg q2] at hF
    cases hF
  obtain ⟨r9, er, rfl⟩ := rX_inr e9
  have hF := hk r9 er
  refine r_i2l C dL_sawn_8 ?_
  refine k_sJ C dL_sawn_9 hF (fun h3 hF => ?_)
  refine r_goto (tgt := 21) C dL_sawn_10 (by decide) ?_
  refine r_iconst (v := 0) C dL_sawn_21 (by decide) ?_
  exact k_iret C dL_sawn_22 hr (by decide) (by decide) hF
def hhL_cut : List (Nat × Nat × Nat × Nat) := [((0 : Nat), (12 : Nat), (15 : Nat), (13 : Nat)), ((0 : Nat), (12 : Nat), (19 : Nat), (15 : Nat))]
def F_L_cut (a0 : Nat) (a1 : Int32) (a2 : Int32) (a3 : Int32) (a4 : Nat) (h0 : PM) : Option (Int32 × PM) := tst h0 a0 12 (wx (F_X11_cut a0 a1 a2 a3 h0) (fun x h2 => if x = 1 then some (1, h2) else if x = 2 then some (2, h2) else none) fun r h2 => sJ h2 a4 0 r.toInt64 fun h3 => some (0, h3))
set_option maxRecDepth 100000 in
set_option maxHeartbeats 4000000 in
theorem S_L_cut {a0 : Nat} {a1 : Int32} {a2 : Int32} {a3 : Int32} {a4 : Nat} {h0 : PM} (r : Int32) (h' : PM) (hF : F_L_cut a0 a1 a2 a3 a4 h0 = some (r, h')) : CW yL_cut cL_cut 6 (some .int) hhL_cut 2 12 9 [.ref a0, .int a1, .int a2, .int a3, .ref a4] h0 (some (.int r)) h' := by
  obtain ⟨X, eX⟩ : ∃ X, X = (r, h') := ⟨_, rfl⟩
  rw [← eX] at hF
  have e1 : r = X.1 := by rw [eX]
  have e2 : h' = X.2 := by rw [eX]
  rw [e1, e2]
  clear eX e1 e2
  unfold F_L_cut at hF
  refine CW_of (by decide) (fun ρ => Nat.le_of_ble_eq_true rfl) rfl ?_
  intro p l e s m args below meth c D cy base ρ hT C V NC htb hr
  obtain ⟨ht, hF⟩ := tst_some hF
  obtain ⟨rx, h2, hc, hg, hk⟩ := wx_some hF
  refine r_aload C dL_cut_0 4 rfl ?_
  refine r_iconst (v := 0) C dL_cut_2 (by decide) ?_
  refine r_aload_n C dL_cut_3 rfl 0 rfl ?_
  refine r_iload_n C dL_cut_4 rfl 1 rfl ?_
  refine r_iload_n C dL_cut_5 rfl 2 rfl ?_
  refine r_iload_n C dL_cut_6 rfl 3 rfl ?_
  refine r_callVC (As := [.int a1, .int a2, .int a3]) C dL_cut_7 V hT NC cal_X11_cut cls_12 ml_L_45 im_X11_cut se_X11_cut ht (by decide) rfl rfl (Nat.le_of_ble_eq_true rfl) (by decide) (by decide) (S_X11_cut _ _ hc) (fun k9 e9 => ?_) (fun v9 e9 => ?_)
  · have hF := hg k9 (rX_inl e9)
    rw [htb]
    by_cases q1 : k9 = 1
    · rw [if_pos q1] at hF
      subst q1
      refine ⟨17, ⟨[], ⟨0, 12, 15, 13⟩, [⟨0, 12, 19, 15⟩], rfl, (by simp), by decide, by decide, cn_L_13, by decide, Or.inl ⟨_, dL_cut_15, by decide, rfl⟩⟩, ?_⟩
      refine r_iconst (v := 1) C dL_cut_17 (by decide) ?_
      exact k_iret C dL_cut_18 hr (by decide) (by decide) hF
    rw [if_neg q1] at hF
    by_cases q2 : k9 = 2
    · rw [if_pos q2] at hF
      subst q2
      refine ⟨21, ⟨[⟨0, 12, 15, 13⟩], ⟨0, 12, 19, 15⟩, [], rfl, (by intro y hy; simp only [List.mem_cons, List.not_mem_nil, or_false] at hy; rcases hy with rfl <;> first | exact ⟨by decide, 1, by decide, by decide, cn_L_13⟩), by decide, by decide, cn_L_15, by decide, Or.inl ⟨_, dL_cut_19, by decide, rfl⟩⟩, ?_⟩
      refine r_iconst (v := 2) C dL_cut_21 (by decide) ?_
      exact k_iret C dL_cut_22 hr (by decide) (by decide) hF
    rw [if_neg q2] at hF
    cases hF
  obtain ⟨r9, er, rfl⟩ := rX_inr e9
  have hF := hk r9 er
  refine r_i2l C dL_cut_10 ?_
  refine k_sJ C dL_cut_11 hF (fun h3 hF => ?_)
  refine r_goto (tgt := 23) C dL_cut_12 (by decide) ?_
  refine r_iconst (v := 0) C dL_cut_23 (by decide) ?_
  exact k_iret C dL_cut_24 hr (by decide) (by decide) hF
def hhL_done : List (Nat × Nat × Nat × Nat) := [((0 : Nat), (9 : Nat), (12 : Nat), (13 : Nat))]
def F_L_done (a0 : Nat) (a1 : Int32) (a2 : Nat) (h0 : PM) : Option (Int32 × PM) := tst h0 a0 12 (wx (F_X11_done a0 a1 h0) (fun x h2 => if x = 1 then some (1, h2) else none) fun r h2 => sJ h2 a2 0 r.toInt64 fun h3 => some (0, h3))
set_option maxRecDepth 100000 in
set_option maxHeartbeats 4000000 in
theorem S_L_done {a0 : Nat} {a1 : Int32} {a2 : Nat} {h0 : PM} (r : Int32) (h' : PM) (hF : F_L_done a0 a1 a2 h0 = some (r, h')) : CW yL_done cL_done 4 (some .int) hhL_done 11 208 9 [.ref a0, .int a1, .ref a2] h0 (some (.int r)) h' := by
  obtain ⟨X, eX⟩ : ∃ X, X = (r, h') := ⟨_, rfl⟩
  rw [← eX] at hF
  have e1 : r = X.1 := by rw [eX]
  have e2 : h' = X.2 := by rw [eX]
  rw [e1, e2]
  clear eX e1 e2
  unfold F_L_done at hF
  refine CW_of (by decide) (fun ρ => Nat.le_of_ble_eq_true rfl) rfl ?_
  intro p l e s m args below meth c D cy base ρ hT C V NC htb hr
  obtain ⟨ht, hF⟩ := tst_some hF
  obtain ⟨rx, h2, hc, hg, hk⟩ := wx_some hF
  refine r_aload_n C dL_done_0 rfl 2 rfl ?_
  refine r_iconst (v := 0) C dL_done_1 (by decide) ?_
  refine r_aload_n C dL_done_2 rfl 0 rfl ?_
  refine r_iload_n C dL_done_3 rfl 1 rfl ?_
  refine r_callVC (As := [.int a1]) C dL_done_4 V hT NC cal_X11_done cls_12 ml_L_48 im_X11_done se_X11_done ht (by decide) rfl rfl (Nat.le_of_ble_eq_true rfl) (by decide) (by decide) (S_X11_done _ _ hc) (fun k9 e9 => ?_) (fun v9 e9 => ?_)
  · have hF := hg k9 (rX_inl e9)
    rw [htb]
    by_cases q1 : k9 = 1
    · rw [if_pos q1] at hF
      subst q1
      refine ⟨13, ⟨[], ⟨0, 9, 12, 13⟩, [], rfl, (by simp), by decide, by decide, cn_L_13, by decide, Or.inr ⟨_, dL_done_12, by decide, rfl⟩⟩, ?_⟩
      refine r_iconst (v := 1) C dL_done_13 (by decide) ?_
      exact k_iret C dL_done_14 hr (by decide) (by decide) hF
    rw [if_neg q1] at hF
    cases hF
  obtain ⟨r9, er, rfl⟩ := rX_inr e9
  have hF := hk r9 er
  refine r_i2l C dL_done_7 ?_
  refine k_sJ C dL_done_8 hF (fun h3 hF => ?_)
  refine r_goto (tgt := 15) C dL_done_9 (by decide) ?_
  refine r_iconst (v := 0) C dL_done_15 (by decide) ?_
  exact k_iret C dL_done_16 hr (by decide) (by decide) hF
def hhL_facet : List (Nat × Nat × Nat × Nat) := [((0 : Nat), (12 : Nat), (15 : Nat), (37 : Nat)), ((0 : Nat), (12 : Nat), (19 : Nat), (15 : Nat))]
def F_L_facet (a0 : Nat) (a1 : Int32) (a2 : Int32) (a3 : Int32) (a4 : Nat) (h0 : PM) : Option (Int32 × PM) := tst h0 a0 12 (wx (F_X11_facet a0 a1 a2 a3 h0) (fun x h2 => if x = 4 then some (1, h2) else if x = 2 then some (2, h2) else none) fun r h2 => sJ h2 a4 0 r.toInt64 fun h3 => some (0, h3))
set_option maxRecDepth 100000 in
set_option maxHeartbeats 4000000 in
theorem S_L_facet {a0 : Nat} {a1 : Int32} {a2 : Int32} {a3 : Int32} {a4 : Nat} {h0 : PM} (r : Int32) (h' : PM) (hF : F_L_facet a0 a1 a2 a3 a4 h0 = some (r, h')) : CW yL_facet cL_facet 6 (some .int) hhL_facet 2 12 8 [.ref a0, .int a1, .int a2, .int a3, .ref a4] h0 (some (.int r)) h' := by
  obtain ⟨X, eX⟩ : ∃ X, X = (r, h') := ⟨_, rfl⟩
  rw [← eX] at hF
  have e1 : r = X.1 := by rw [eX]
  have e2 : h' = X.2 := by rw [eX]
  rw [e1, e2]
  clear eX e1 e2
  unfold F_L_facet at hF
  refine CW_of (by decide) (fun ρ => Nat.le_of_ble_eq_true rfl) rfl ?_
  intro p l e s m args below meth c D cy base ρ hT C V NC htb hr
  obtain ⟨ht, hF⟩ := tst_some hF
  obtain ⟨rx, h2, hc, hg, hk⟩ := wx_some hF
  refine r_aload C dL_facet_0 4 rfl ?_
  refine r_iconst (v := 0) C dL_facet_2 (by decide) ?_
  refine r_aload_n C dL_facet_3 rfl 0 rfl ?_
  refine r_iload_n C dL_facet_4 rfl 1 rfl ?_
  refine r_iload_n C dL_facet_5 rfl 2 rfl ?_
  refine r_iload_n C dL_facet_6 rfl 3 rfl ?_
  refine r_callVC (As := [.int a1, .int a2, .int a3]) C dL_facet_7 V hT NC cal_X11_facet cls_12 ml_L_51 im_X11_facet se_X11_facet ht (by decide) rfl rfl (Nat.le_of_ble_eq_true rfl) (by decide) (by decide) (S_X11_facet _ _ hc) (fun k9 e9 => ?_) (fun v9 e9 => ?_)
  · have hF := hg k9 (rX_inl e9)
    rw [htb]
    by_cases q4 : k9 = 4
    · rw [if_pos q4] at hF
      subst q4
      refine ⟨17, ⟨[], ⟨0, 12, 15, 37⟩, [⟨0, 12, 19, 15⟩], rfl, (by simp), by decide, by decide, cn_L_37, by decide, Or.inl ⟨_, dL_facet_15, by decide, rfl⟩⟩, ?_⟩
      refine r_iconst (v := 1) C dL_facet_17 (by decide) ?_
      exact k_iret C dL_facet_18 hr (by decide) (by decide) hF
    rw [if_neg q4] at hF
    by_cases q2 : k9 = 2
    · rw [if_pos q2] at hF
      subst q2
      refine ⟨21, ⟨[⟨0, 12, 15, 37⟩], ⟨0, 12, 19, 15⟩, [], rfl, (by intro y hy; simp only [List.mem_cons, List.not_mem_nil, or_false] at hy; rcases hy with rfl <;> first | exact ⟨by decide, 4, by decide, by decide, cn_L_37⟩), by decide, by decide, cn_L_15, by decide, Or.inl ⟨_, dL_facet_19, by decide, rfl⟩⟩, ?_⟩
      refine r_iconst (v := 2) C dL_facet_21 (by decide) ?_
      exact k_iret C dL_facet_22 hr (by decide) (by decide) hF
    rw [if_neg q2] at hF
    cases hF
  obtain ⟨r9, er, rfl⟩ := rX_inr e9
  have hF := hk r9 er
  refine r_i2l C dL_facet_10 ?_
  refine k_sJ C dL_facet_11 hF (fun h3 hF => ?_)
  refine r_goto (tgt := 23) C dL_facet_12 (by decide) ?_
  refine r_iconst (v := 0) C dL_facet_23 (by decide) ?_
  exact k_iret C dL_facet_24 hr (by decide) (by decide) hF
def hhL_round : List (Nat × Nat × Nat × Nat) := [((0 : Nat), (9 : Nat), (12 : Nat), (37 : Nat))]
def F_L_round (a0 : Nat) (a1 : Int32) (a2 : Nat) (h0 : PM) : Option (Int32 × PM) := tst h0 a0 12 (wx (F_X11_round a0 a1 h0) (fun x h2 => if x = 4 then some (1, h2) else none) fun r h2 => sJ h2 a2 0 r.toInt64 fun h3 => some (0, h3))
set_option maxRecDepth 100000 in
set_option maxHeartbeats 4000000 in
theorem S_L_round {a0 : Nat} {a1 : Int32} {a2 : Nat} {h0 : PM} (r : Int32) (h' : PM) (hF : F_L_round a0 a1 a2 h0 = some (r, h')) : CW yL_round cL_round 4 (some .int) hhL_round 1 6 9 [.ref a0, .int a1, .ref a2] h0 (some (.int r)) h' := by
  obtain ⟨X, eX⟩ : ∃ X, X = (r, h') := ⟨_, rfl⟩
  rw [← eX] at hF
  have e1 : r = X.1 := by rw [eX]
  have e2 : h' = X.2 := by rw [eX]
  rw [e1, e2]
  clear eX e1 e2
  unfold F_L_round at hF
  refine CW_of (by decide) (fun ρ => Nat.le_of_ble_eq_true rfl) rfl ?_
  intro p l e s m args below meth c D cy base ρ hT C V NC htb hr
  obtain ⟨ht, hF⟩ := tst_some hF
  obtain ⟨rx, h2, hc, hg, hk⟩ := wx_some hF
  refine r_aload_n C dL_round_0 rfl 2 rfl ?_
  refine r_iconst (v := 0) C dL_round_1 (by decide) ?_
  refine r_aload_n C dL_round_2 rfl 0 rfl ?_
  refine r_iload_n C dL_round_3 rfl 1 rfl ?_
  refine r_callVC (As := [.int a1]) C dL_round_4 V hT NC cal_X11_round cls_12 ml_L_54 im_X11_round se_X11_round ht (by decide) rfl rfl (Nat.le_of_ble_eq_true rfl) (by decide) (by decide) (S_X11_round _ _ hc) (fun k9 e9 => ?_) (fun v9 e9 => ?_)
  · have hF := hg k9 (rX_inl e9)
    rw [htb]
    by_cases q4 : k9 = 4
    · rw [if_pos q4] at hF
      subst q4
      refine ⟨13, ⟨[], ⟨0, 9, 12, 37⟩, [], rfl, (by simp), by decide, by decide, cn_L_37, by decide, Or.inr ⟨_, dL_round_12, by decide, rfl⟩⟩, ?_⟩
      refine r_iconst (v := 1) C dL_round_13 (by decide) ?_
      exact k_iret C dL_round_14 hr (by decide) (by decide) hF
    rw [if_neg q4] at hF
    cases hF
  obtain ⟨r9, er, rfl⟩ := rX_inr e9
  have hF := hk r9 er
  refine r_i2l C dL_round_7 ?_
  refine k_sJ C dL_round_8 hF (fun h3 hF => ?_)
  refine r_goto (tgt := 15) C dL_round_9 (by decide) ?_
  refine r_iconst (v := 0) C dL_round_15 (by decide) ?_
  exact k_iret C dL_round_16 hr (by decide) (by decide) hF
def hhL_plan : List (Nat × Nat × Nat × Nat) := [((0 : Nat), (10 : Nat), (13 : Nat), (37 : Nat))]
def F_L_plan (a0 : Nat) (a1 : Int32) (a2 : Int32) (a3 : Nat) (h0 : PM) : Option (Int32 × PM) := tst h0 a0 12 (wx (F_X11_plan a0 a1 a2 h0) (fun x h2 => if x = 4 then some (1, h2) else none) fun r h2 => sJ h2 a3 0 r.toInt64 fun h3 => some (0, h3))
set_option maxRecDepth 100000 in
set_option maxHeartbeats 4000000 in
theorem S_L_plan {a0 : Nat} {a1 : Int32} {a2 : Int32} {a3 : Nat} {h0 : PM} (r : Int32) (h' : PM) (hF : F_L_plan a0 a1 a2 a3 h0 = some (r, h')) : CW yL_plan cL_plan 5 (some .int) hhL_plan 1 6 9 [.ref a0, .int a1, .int a2, .ref a3] h0 (some (.int r)) h' := by
  obtain ⟨X, eX⟩ : ∃ X, X = (r, h') := ⟨_, rfl⟩
  rw [← eX] at hF
  have e1 : r = X.1 := by rw [eX]
  have e2 : h' = X.2 := by rw [eX]
  rw [e1, e2]
  clear eX e1 e2
  unfold F_L_plan at hF
  refine CW_of (by decide) (fun ρ => Nat.le_of_ble_eq_true rfl) rfl ?_
  intro p l e s m args below meth c D cy base ρ hT C V NC htb hr
  obtain ⟨ht, hF⟩ := tst_some hF
  obtain ⟨rx, h2, hc, hg, hk⟩ := wx_some hF
  refine r_aload_n C dL_plan_0 rfl 3 rfl ?_
  refine r_iconst (v := 0) C dL_plan_1 (by decide) ?_
  refine r_aload_n C dL_plan_2 rfl 0 rfl ?_
  refine r_iload_n C dL_plan_3 rfl 1 rfl ?_
  refine r_iload_n C dL_plan_4 rfl 2 rfl ?_
  refine r_callVC (As := [.int a1, .int a2]) C dL_plan_5 V hT NC cal_X11_plan cls_12 ml_L_57 im_X11_plan se_X11_plan ht (by decide) rfl rfl (Nat.le_of_ble_eq_true rfl) (by decide) (by decide) (S_X11_plan _ _ hc) (fun k9 e9 => ?_) (fun v9 e9 => ?_)
  · have hF := hg k9 (rX_inl e9)
    rw [htb]
    by_cases q4 : k9 = 4
    · rw [if_pos q4] at hF
      subst q4
      refine ⟨15, ⟨[], ⟨0, 10, 13, 37⟩, [], rfl, (by simp), by decide, by decide, cn_L_37, by decide, Or.inl ⟨_, dL_plan_13, by decide, rfl⟩⟩, ?_⟩
      refine r_iconst (v := 1) C dL_plan_15 (by decide) ?_
      exact k_iret C dL_plan_16 hr (by decide) (by decide) hF
    rw [if_neg q4] at hF
    cases hF
  obtain ⟨r9, er, rfl⟩ := rX_inr e9
  have hF := hk r9 er
  refine r_i2l C dL_plan_8 ?_
  refine k_sJ C dL_plan_9 hF (fun h3 hF => ?_)
  refine r_goto (tgt := 17) C dL_plan_10 (by decide) ?_
  refine r_iconst (v := 0) C dL_plan_17 (by decide) ?_
  exact k_iret C dL_plan_18 hr (by decide) (by decide) hF
def hhL_polish : List (Nat × Nat × Nat × Nat) := [((0 : Nat), (9 : Nat), (12 : Nat), (37 : Nat))]
def F_L_polish (a0 : Nat) (a1 : Int32) (a2 : Nat) (h0 : PM) : Option (Int32 × PM) := tst h0 a0 12 (wx (F_X11_polish a0 a1 h0) (fun x h2 => if x = 4 then some (1, h2) else none) fun r h2 => sJ h2 a2 0 r.toInt64 fun h3 => some (0, h3))
set_option maxRecDepth 100000 in
set_option maxHeartbeats 4000000 in
theorem S_L_polish {a0 : Nat} {a1 : Int32} {a2 : Nat} {h0 : PM} (r : Int32) (h' : PM) (hF : F_L_polish a0 a1 a2 h0 = some (r, h')) : CW yL_polish cL_polish 4 (some .int) hhL_polish 1 6 9 [.ref a0, .int a1, .ref a2] h0 (some (.int r)) h' := by
  obtain ⟨X, eX⟩ : ∃ X, X = (r, h') := ⟨_, rfl⟩
  rw [← eX] at hF
  have e1 : r = X.1 := by rw [eX]
  have e2 : h' = X.2 := by rw [eX]
  rw [e1, e2]
  clear eX e1 e2
  unfold F_L_polish at hF
  refine CW_of (by decide) (fun ρ => Nat.le_of_ble_eq_true rfl) rfl ?_
  intro p l e s m args below meth c D cy base ρ hT C V NC htb hr
  obtain ⟨ht, hF⟩ := tst_some hF
  obtain ⟨rx, h2, hc, hg, hk⟩ := wx_some hF
  refine r_aload_n C dL_polish_0 rfl 2 rfl ?_
  refine r_iconst (v := 0) C dL_polish_1 (by decide) ?_
  refine r_aload_n C dL_polish_2 rfl 0 rfl ?_
  refine r_iload_n C dL_polish_3 rfl 1 rfl ?_
  refine r_callVC (As := [.int a1]) C dL_polish_4 V hT NC cal_X11_polish cls_12 ml_L_60 im_X11_polish se_X11_polish ht (by decide) rfl rfl (Nat.le_of_ble_eq_true rfl) (by decide) (by decide) (S_X11_polish _ _ hc) (fun k9 e9 => ?_) (fun v9 e9 => ?_)
  · have hF := hg k9 (rX_inl e9)
    rw [htb]
    by_cases q4 : k9 = 4
    · rw [if_pos q4] at hF
      subst q4
      refine ⟨13, ⟨[], ⟨0, 9, 12, 37⟩, [], rfl, (by simp), by decide, by decide, cn_L_37, by decide, Or.inr ⟨_, dL_polish_12, by decide, rfl⟩⟩, ?_⟩
      refine r_iconst (v := 1) C dL_polish_13 (by decide) ?_
      exact k_iret C dL_polish_14 hr (by decide) (by decide) hF
    rw [if_neg q4] at hF
    cases hF
  obtain ⟨r9, er, rfl⟩ := rX_inr e9
  have hF := hk r9 er
  refine r_i2l C dL_polish_7 ?_
  refine k_sJ C dL_polish_8 hF (fun h3 hF => ?_)
  refine r_goto (tgt := 15) C dL_polish_9 (by decide) ?_
  refine r_iconst (v := 0) C dL_polish_15 (by decide) ?_
  exact k_iret C dL_polish_16 hr (by decide) (by decide) hF
def hhL_told : List (Nat × Nat × Nat × Nat) := [((0 : Nat), (10 : Nat), (13 : Nat), (37 : Nat)), ((0 : Nat), (10 : Nat), (17 : Nat), (15 : Nat))]
def F_L_told (a0 : Nat) (a1 : Int32) (a2 : Int32) (a3 : Nat) (h0 : PM) : Option (Int32 × PM) := tst h0 a0 12 (wx (F_X11_told a0 a1 a2 h0) (fun x h2 => if x = 4 then some (1, h2) else if x = 2 then some (2, h2) else none) fun r h2 => sJ h2 a3 0 r.toInt64 fun h3 => some (0, h3))
set_option maxRecDepth 100000 in
set_option maxHeartbeats 4000000 in
theorem S_L_told {a0 : Nat} {a1 : Int32} {a2 : Int32} {a3 : Nat} {h0 : PM} (r : Int32) (h' : PM) (hF : F_L_told a0 a1 a2 a3 h0 = some (r, h')) : CW yL_told cL_told 5 (some .int) hhL_told 2 12 8 [.ref a0, .int a1, .int a2, .ref a3] h0 (some (.int r)) h' := by
  obtain ⟨X, eX⟩ : ∃ X, X = (r, h') := ⟨_, rfl⟩
  rw [← eX] at hF
  have e1 : r = X.1 := by rw [eX]
  have e2 : h' = X.2 := by rw [eX]
  rw [e1, e2]
  clear eX e1 e2
  unfold F_L_told at hF
  refine CW_of (by decide) (fun ρ => Nat.le_of_ble_eq_true rfl) rfl ?_
  intro p l e s m args below meth c D cy base ρ hT C V NC htb hr
  obtain ⟨ht, hF⟩ := tst_some hF
  obtain ⟨rx, h2, hc, hg, hk⟩ := wx_some hF
  refine r_aload_n C dL_told_0 rfl 3 rfl ?_
  refine r_iconst (v := 0) C dL_told_1 (by decide) ?_
  refine r_aload_n C dL_told_2 rfl 0 rfl ?_
  refine r_iload_n C dL_told_3 rfl 1 rfl ?_
  refine r_iload_n C dL_told_4 rfl 2 rfl ?_
  refine r_callVC (As := [.int a1, .int a2]) C dL_told_5 V hT NC cal_X11_told cls_12 ml_L_63 im_X11_told se_X11_told ht (by decide) rfl rfl (Nat.le_of_ble_eq_true rfl) (by decide) (by decide) (S_X11_told _ _ hc) (fun k9 e9 => ?_) (fun v9 e9 => ?_)
  · have hF := hg k9 (rX_inl e9)
    rw [htb]
    by_cases q4 : k9 = 4
    · rw [if_pos q4] at hF
      subst q4
      refine ⟨15, ⟨[], ⟨0, 10, 13, 37⟩, [⟨0, 10, 17, 15⟩], rfl, (by simp), by decide, by decide, cn_L_37, by decide, Or.inl ⟨_, dL_told_13, by decide, rfl⟩⟩, ?_⟩
      refine r_iconst (v := 1) C dL_told_15 (by decide) ?_
      exact k_iret C dL_told_16 hr (by decide) (by decide) hF
    rw [if_neg q4] at hF
    by_cases q2 : k9 = 2
    · rw [if_pos q2] at hF
      subst q2
      refine ⟨19, ⟨[⟨0, 10, 13, 37⟩], ⟨0, 10, 17, 15⟩, [], rfl, (by intro y hy; simp only [List.mem_cons, List.not_mem_nil, or_false] at hy; rcases hy with rfl <;> first | exact ⟨by decide, 4, by decide, by decide, cn_L_37⟩), by decide, by decide, cn_L_15, by decide, Or.inl ⟨_, dL_told_17, by decide, rfl⟩⟩, ?_⟩
      refine r_iconst (v := 2) C dL_told_19 (by decide) ?_
      exact k_iret C dL_told_20 hr (by decide) (by decide) hF
    rw [if_neg q2] at hF
    cases hF
  obtain ⟨r9, er, rfl⟩ := rX_inr e9
  have hF := hk r9 er
  refine r_i2l C dL_told_8 ?_
  refine k_sJ C dL_told_9 hF (fun h3 hF => ?_)
  refine r_goto (tgt := 21) C dL_told_10 (by decide) ?_
  refine r_iconst (v := 0) C dL_told_21 (by decide) ?_
  exact k_iret C dL_told_22 hr (by decide) (by decide) hF
def hhL_lot : List (Nat × Nat × Nat × Nat) := [((0 : Nat), (10 : Nat), (13 : Nat), (15 : Nat))]
def F_L_lot (a0 : Nat) (a1 : Int32) (a2 : Int32) (a3 : Nat) (h0 : PM) : Option (Int32 × PM) := tst h0 a0 12 (wx (F_X11_lot a0 a1 a2 h0) (fun x h2 => if x = 2 then some (1, h2) else none) fun r h2 => sJ h2 a3 0 r.toInt64 fun h3 => some (0, h3))
set_option maxRecDepth 100000 in
set_option maxHeartbeats 4000000 in
theorem S_L_lot {a0 : Nat} {a1 : Int32} {a2 : Int32} {a3 : Nat} {h0 : PM} (r : Int32) (h' : PM) (hF : F_L_lot a0 a1 a2 a3 h0 = some (r, h')) : CW yL_lot cL_lot 5 (some .int) hhL_lot 1 6 8 [.ref a0, .int a1, .int a2, .ref a3] h0 (some (.int r)) h' := by
  obtain ⟨X, eX⟩ : ∃ X, X = (r, h') := ⟨_, rfl⟩
  rw [← eX] at hF
  have e1 : r = X.1 := by rw [eX]
  have e2 : h' = X.2 := by rw [eX]
  rw [e1, e2]
  clear eX e1 e2
  unfold F_L_lot at hF
  refine CW_of (by decide) (fun ρ => Nat.le_of_ble_eq_true rfl) rfl ?_
  intro p l e s m args below meth c D cy base ρ hT C V NC htb hr
  obtain ⟨ht, hF⟩ := tst_some hF
  obtain ⟨rx, h2, hc, hg, hk⟩ := wx_some hF
  refine r_aload_n C dL_lot_0 rfl 3 rfl ?_
  refine r_iconst (v := 0) C dL_lot_1 (by decide) ?_
  refine r_aload_n C dL_lot_2 rfl 0 rfl ?_
  refine r_iload_n C dL_lot_3 rfl 1 rfl ?_
  refine r_iload_n C dL_lot_4 rfl 2 rfl ?_
  refine r_callVC (As := [.int a1, .int a2]) C dL_lot_5 V hT NC cal_X11_lot cls_12 ml_L_66 im_X11_lot se_X11_lot ht (by decide) rfl rfl (Nat.le_of_ble_eq_true rfl) (by decide) (by decide) (S_X11_lot _ _ hc) (fun k9 e9 => ?_) (fun v9 e9 => ?_)
  · have hF := hg k9 (rX_inl e9)
    rw [htb]
    by_cases q2 : k9 = 2
    · rw [if_pos q2] at hF
      subst q2
      refine ⟨15, ⟨[], ⟨0, 10, 13, 15⟩, [], rfl, (by simp), by decide, by decide, cn_L_15, by decide, Or.inl ⟨_, dL_lot_13, by decide, rfl⟩⟩, ?_⟩
      refine r_iconst (v := 1) C dL_lot_15 (by decide) ?_
      exact k_iret C dL_lot_16 hr (by decide) (by decide) hF
    rw [if_neg q2] at hF
    cases hF
  obtain ⟨r9, er, rfl⟩ := rX_inr e9
  have hF := hk r9 er
  refine r_i2l C dL_lot_8 ?_
  refine k_sJ C dL_lot_9 hF (fun h3 hF => ?_)
  refine r_goto (tgt := 17) C dL_lot_10 (by decide) ?_
  refine r_iconst (v := 0) C dL_lot_17 (by decide) ?_
  exact k_iret C dL_lot_18 hr (by decide) (by decide) hF
def hhL_bid : List (Nat × Nat × Nat × Nat) := [((0 : Nat), (12 : Nat), (15 : Nat), (13 : Nat)), ((0 : Nat), (12 : Nat), (19 : Nat), (15 : Nat))]
def F_L_bid (a0 : Nat) (a1 : Int32) (a2 : Int32) (a3 : Int32) (a4 : Nat) (h0 : PM) : Option (Int32 × PM) := tst h0 a0 12 (wx (F_X11_bid a0 a1 a2 a3 h0) (fun x h2 => if x = 1 then some (1, h2) else if x = 2 then some (2, h2) else none) fun r h2 => sJ h2 a4 0 r.toInt64 fun h3 => some (0, h3))
set_option maxRecDepth 100000 in
set_option maxHeartbeats 4000000 in
theorem S_L_bid {a0 : Nat} {a1 : Int32} {a2 : Int32} {a3 : Int32} {a4 : Nat} {h0 : PM} (r : Int32) (h' : PM) (hF : F_L_bid a0 a1 a2 a3 a4 h0 = some (r, h')) : CW yL_bid cL_bid 6 (some .int) hhL_bid 2 12 8 [.ref a0, .int a1, .int a2, .int a3, .ref a4] h0 (some (.int r)) h' := by
  obtain ⟨X, eX⟩ : ∃ X, X = (r, h') := ⟨_, rfl⟩
  rw [← eX] at hF
  have e1 : r = X.1 := by rw [eX]
  have e2 : h' = X.2 := by rw [eX]
  rw [e1, e2]
  clear eX e1 e2
  unfold F_L_bid at hF
  refine CW_of (by decide) (fun ρ => Nat.le_of_ble_eq_true rfl) rfl ?_
  intro p l e s m args below meth c D cy base ρ hT C V NC htb hr
  obtain ⟨ht, hF⟩ := tst_some hF
  obtain ⟨rx, h2, hc, hg, hk⟩ := wx_some hF
  refine r_aload C dL_bid_0 4 rfl ?_
  refine r_iconst (v := 0) C dL_bid_2 (by decide) ?_
  refine r_aload_n C dL_bid_3 rfl 0 rfl ?_
  refine r_iload_n C dL_bid_4 rfl 1 rfl ?_
  refine r_iload_n C dL_bid_5 rfl 2 rfl ?_
  refine r_iload_n C dL_bid_6 rfl 3 rfl ?_
  refine r_callVC (As := [.int a1, .int a2, .int a3]) C dL_bid_7 V hT NC cal_X11_bid cls_12 ml_L_69 im_X11_bid se_X11_bid ht (by decide) rfl rfl (Nat.le_of_ble_eq_true rfl) (by decide) (by decide) (S_X11_bid _ _ hc) (fun k9 e9 => ?_) (fun v9 e9 => ?_)
  · have hF := hg k9 (rX_inl e9)
    rw [htb]
    by_cases q1 : k9 = 1
    · rw [if_pos q1] at hF
      subst q1
      refine ⟨17, ⟨[], ⟨0, 12, 15, 13⟩, [⟨0, 12, 19, 15⟩], rfl, (by simp), by decide, by decide, cn_L_13, by decide, Or.inl ⟨_, dL_bid_15, by decide, rfl⟩⟩, ?_⟩
      refine r_iconst (v := 1) C dL_bid_17 (by decide) ?_
      exact k_iret C dL_bid_18 hr (by decide) (by decide) hF
    rw [if_neg q1] at hF
    by_cases q2 : k9 = 2
    · rw [if_pos q2] at hF
      subst q2
      refine ⟨21, ⟨[⟨0, 12, 15, 13⟩], ⟨0, 12, 19, 15⟩, [], rfl, (by intro y hy; simp only [List.mem_cons, List.not_mem_nil, or_false] at hy; rcases hy with rfl <;> first | exact ⟨by decide, 1, by decide, by decide, cn_L_13⟩), by decide, by decide, cn_L_15, by decide, Or.inl ⟨_, dL_bid_19, by decide, rfl⟩⟩, ?_⟩
      refine r_iconst (v := 2) C dL_bid_21 (by decide) ?_
      exact k_iret C dL_bid_22 hr (by decide) (by decide) hF
    rw [if_neg q2] at hF
    cases hF
  obtain ⟨r9, er, rfl⟩ := rX_inr e9
  have hF := hk r9 er
  refine r_i2l C dL_bid_10 ?_
  refine k_sJ C dL_bid_11 hF (fun h3 hF => ?_)
  refine r_goto (tgt := 23) C dL_bid_12 (by decide) ?_
  refine r_iconst (v := 0) C dL_bid_23 (by decide) ?_
  exact k_iret C dL_bid_24 hr (by decide) (by decide) hF
def hhL_most : List (Nat × Nat × Nat × Nat) := [((0 : Nat), (10 : Nat), (13 : Nat), (13 : Nat)), ((0 : Nat), (10 : Nat), (17 : Nat), (15 : Nat))]
def F_L_most (a0 : Nat) (a1 : Int32) (a2 : Int32) (a3 : Nat) (h0 : PM) : Option (Int32 × PM) := tst h0 a0 12 (wx (F_X11_most a0 a1 a2 h0) (fun x h2 => if x = 1 then some (1, h2) else if x = 2 then some (2, h2) else none) fun r h2 => sJ h2 a3 0 r.toInt64 fun h3 => some (0, h3))
set_option maxRecDepth 100000 in
set_option maxHeartbeats 4000000 in
theorem S_L_most {a0 : Nat} {a1 : Int32} {a2 : Int32} {a3 : Nat} {h0 : PM} (r : Int32) (h' : PM) (hF : F_L_most a0 a1 a2 a3 h0 = some (r, h')) : CW yL_most cL_most 5 (some .int) hhL_most 2 12 8 [.ref a0, .int a1, .int a2, .ref a3] h0 (some (.int r)) h' := by
  obtain ⟨X, eX⟩ : ∃ X, X = (r, h') := ⟨_, rfl⟩
  rw [← eX] at hF
  have e1 : r = X.1 := by rw [eX]
  have e2 : h' = X.2 := by rw [eX]
  rw [e1, e2]
  clear eX e1 e2
  unfold F_L_most at hF
  refine CW_of (by decide) (fun ρ => Nat.le_of_ble_eq_true rfl) rfl ?_
  intro p l e s m args below meth c D cy base ρ hT C V NC htb hr
  obtain ⟨ht, hF⟩ := tst_some hF
  obtain ⟨rx, h2, hc, hg, hk⟩ := wx_some hF
  refine r_aload_n C dL_most_0 rfl 3 rfl ?_
  refine r_iconst (v := 0) C dL_most_1 (by decide) ?_
  refine r_aload_n C dL_most_2 rfl 0 rfl ?_
  refine r_iload_n C dL_most_3 rfl 1 rfl ?_
  refine r_iload_n C dL_most_4 rfl 2 rfl ?_
  refine r_callVC (As := [.int a1, .int a2]) C dL_most_5 V hT NC cal_X11_most cls_12 ml_L_72 im_X11_most se_X11_most ht (by decide) rfl rfl (Nat.le_of_ble_eq_true rfl) (by decide) (by decide) (S_X11_most _ _ hc) (fun k9 e9 => ?_) (fun v9 e9 => ?_)
  · have hF := hg k9 (rX_inl e9)
    rw [htb]
    by_cases q1 : k9 = 1
    · rw [if_pos q1] at hF
      subst q1
      refine ⟨15, ⟨[], ⟨0, 10, 13, 13⟩, [⟨0, 10, 17, 15⟩], rfl, (by simp), by decide, by decide, cn_L_13, by decide, Or.inl ⟨_, dL_most_13, by decide, rfl⟩⟩, ?_⟩
      refine r_iconst (v := 1) C dL_most_15 (by decide) ?_
      exact k_iret C dL_most_16 hr (by decide) (by decide) hF
    rw [if_neg q1] at hF
    by_cases q2 : k9 = 2
    · rw [if_pos q2] at hF
      subst q2
      refine ⟨19, ⟨[⟨0, 10, 13, 13⟩], ⟨0, 10, 17, 15⟩, [], rfl, (by intro y hy; simp only [List.mem_cons, List.not_mem_nil, or_false] at hy; rcases hy with rfl <;> first | exact ⟨by decide, 1, by decide, by decide, cn_L_13⟩), by decide, by decide, cn_L_15, by decide, Or.inl ⟨_, dL_most_17, by decide, rfl⟩⟩, ?_⟩
      refine r_iconst (v := 2) C dL_most_19 (by decide) ?_
      exact k_iret C dL_most_20 hr (by decide) (by decide) hF
    rw [if_neg q2] at hF
    cases hF
  obtain ⟨r9, er, rfl⟩ := rX_inr e9
  have hF := hk r9 er
  refine r_i2l C dL_most_8 ?_
  refine k_sJ C dL_most_9 hF (fun h3 hF => ?_)
  refine r_goto (tgt := 21) C dL_most_10 (by decide) ?_
  refine r_iconst (v := 0) C dL_most_21 (by decide) ?_
  exact k_iret C dL_most_22 hr (by decide) (by decide) hF
