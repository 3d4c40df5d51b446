set_option maxRecDepth 100000 in
theorem tbL_h_ok : mv_tbB cL_law RL mv_TT tbL_h := mv_tbB_seg (by decide +kernel)
set_option maxRecDepth 100000 in
theorem tbL_0_ok : mv_tbB cL_law RL mv_TT tbL_0 := mv_tbB_seg (by decide +kernel)
set_option maxRecDepth 100000 in
theorem tbL_1_ok : mv_tbB cL_law RL mv_TT tbL_1 := mv_tbB_seg (by decide +kernel)
set_option maxRecDepth 100000 in
theorem tbL_2_ok : mv_tbB cL_law RL mv_TT tbL_2 := mv_tbB_seg (by decide +kernel)
set_option maxRecDepth 100000 in
theorem tbL_3_ok : mv_tbB cL_law RL mv_TT tbL_3 := mv_tbB_seg (by decide +kernel)
set_option maxRecDepth 100000 in
theorem tbL_4_ok : mv_tbB cL_law RL mv_TT tbL_4 := mv_tbB_seg (by decide +kernel)
set_option maxRecDepth 100000 in
theorem tbL_5_ok : mv_tbB cL_law RL mv_TT tbL_5 := mv_tbB_seg (by decide +kernel)
set_option maxRecDepth 100000 in
theorem tbL_6_ok : mv_tbB cL_law RL mv_TT tbL_6 := mv_tbB_seg (by decide +kernel)
set_option maxRecDepth 100000 in
theorem tbL_7_ok : mv_tbB cL_law RL mv_TT tbL_7 := mv_tbB_seg (by decide +kernel)
set_option maxRecDepth 100000 in
theorem tbL_8_ok : mv_tbB cL_law RL mv_TT tbL_8 := mv_tbB_seg (by decide +kernel)
set_option maxRecDepth 100000 in
theorem tbL_9_ok : mv_tbB cL_law RL mv_TT tbL_9 := mv_tbB_seg (by decide +kernel)
set_option maxRecDepth 100000 in
theorem tbL_10_ok : mv_tbB cL_law RL mv_TT tbL_10 := mv_tbB_seg (by decide +kernel)
set_option maxRecDepth 100000 in
theorem tbL_11_ok : mv_tbB cL_law RL mv_TT tbL_11 := mv_tbB_seg (by decide +kernel)
set_option maxRecDepth 100000 in
theorem tbL_12_ok : mv_tbB cL_law RL mv_TT tbL_12 := mv_tbB_seg (by decide +kernel)
set_option maxRecDepth 100000 in
theorem tbL_13_ok : mv_tbB cL_law RL mv_TT tbL_13 := mv_tbB_seg (by decide +kernel)
set_option maxRecDepth 100000 in
theorem tbL_14_ok : mv_tbB cL_law RL mv_TT tbL_14 := mv_tbB_seg (by decide +kernel)
set_option maxRecDepth 100000 in
theorem tbL_15_ok : mv_tbB cL_law RL mv_TT tbL_15 := mv_tbB_seg (by decide +kernel)
set_option maxRecDepth 100000 in
theorem tbL_16_ok : mv_tbB cL_law RL mv_TT tbL_16 := mv_tbB_seg (by decide +kernel)
set_option maxRecDepth 100000 in
theorem tbL_17_ok : mv_tbB cL_law RL mv_TT tbL_17 := mv_tbB_seg (by decide +kernel)
set_option maxRecDepth 100000 in
theorem tbL_18_ok : mv_tbB cL_law RL mv_TT tbL_18 := mv_tbB_seg (by decide +kernel)
set_option maxRecDepth 100000 in
theorem tbL_19_ok : mv_tbB cL_law RL mv_TT tbL_19 := mv_tbB_seg (by decide +kernel)
set_option maxRecDepth 100000 in
theorem tbL_20_ok : mv_tbB cL_law RL mv_TT tbL_20 := mv_tbB_seg (by decide +kernel)
set_option maxRecDepth 100000 in
theorem tbL_21_ok : mv_tbB cL_law RL mv_TT tbL_21 := mv_tbB_seg (by decide +kernel)
set_option maxRecDepth 100000 in
theorem tbL_22_ok : mv_tbB cL_law RL mv_TT tbL_22 := mv_tbB_seg (by decide +kernel)
set_option maxRecDepth 100000 in
theorem tbL_23_ok : mv_tbB cL_law RL mv_TT tbL_23 := mv_tbB_seg (by decide +kernel)
set_option maxRecDepth 100000 in
theorem tbL_24_ok : mv_tbB cL_law RL mv_TT tbL_24 := mv_tbB_seg (by decide +kernel)
set_option maxRecDepth 100000 in
theorem tbL_25_ok : mv_tbB cL_law RL mv_TT tbL_25 := mv_tbB_seg (by decide +kernel)
set_option maxRecDepth 100000 in
theorem tbL_26_ok : mv_tbB cL_law RL mv_TT tbL_26 := mv_tbB_seg (by decide +kernel)
set_option maxRecDepth 100000 in
theorem tbL_e_ok : mv_tbB cL_law RL mv_TT tbL_e := mv_tbB_seg (by decide +kernel)
