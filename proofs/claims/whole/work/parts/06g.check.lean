set_option maxRecDepth 100000 in
theorem am_k304_0 : am_all (am_ck am_m304) am_t304_0 = true := by decide +kernel
set_option maxRecDepth 100000 in
theorem am_k304_1 : am_all (am_ck am_m304) am_t304_1 = true := by decide +kernel
set_option maxRecDepth 100000 in
theorem am_k304_2 : am_all (am_ck am_m304) am_t304_2 = true := by decide +kernel
set_option maxRecDepth 100000 in
theorem am_k304_3 : am_all (am_ck am_m304) am_t304_3 = true := by decide +kernel
set_option maxRecDepth 100000 in
theorem am_k304_4 : am_all (am_ck am_m304) am_t304_4 = true := by decide +kernel
set_option maxRecDepth 100000 in
theorem am_k304_5 : am_all (am_ck am_m304) am_t304_5 = true := by decide +kernel
set_option maxRecDepth 100000 in
theorem am_k304_6 : am_all (am_ck am_m304) am_t304_6 = true := by decide +kernel
set_option maxRecDepth 100000 in
theorem am_k304_7 : am_all (am_ck am_m304) am_t304_7 = true := by decide +kernel
set_option maxRecDepth 100000 in
theorem am_k304_8 : am_all (am_ck am_m304) am_t304_8 = true := by decide +kernel
set_option maxRecDepth 100000 in
theorem am_k304_9 : am_all (am_ck am_m304) am_t304_9 = true := by decide +kernel
set_option maxRecDepth 100000 in
theorem am_k304_10 : am_all (am_ck am_m304) am_t304_10 = true := by decide +kernel
set_option maxRecDepth 100000 in
theorem am_k304_11 : am_all (am_ck am_m304) am_t304_11 = true := by decide +kernel
set_option maxRecDepth 100000 in
theorem am_k304_12 : am_all (am_ck am_m304) am_t304_12 = true := by decide +kernel
set_option maxRecDepth 100000 in
theorem am_k304_13 : am_all (am_ck am_m304) am_t304_13 = true := by decide +kernel
set_option maxRecDepth 100000 in
theorem am_k304_14 : am_all (am_ck am_m304) am_t304_14 = true := by decide +kernel
set_option maxRecDepth 100000 in
theorem am_k304_15 : am_all (am_ck am_m304) am_t304_15 = true := by decide +kernel
set_option maxRecDepth 100000 in
theorem am_k304_16 : am_all (am_ck am_m304) am_t304_16 = true := by decide +kernel
set_option maxRecDepth 100000 in
theorem am_k304_17 : am_all (am_ck am_m304) am_t304_17 = true := by decide +kernel
set_option maxRecDepth 100000 in
theorem am_k304_18 : am_all (am_ck am_m304) am_t304_18 = true := by decide +kernel
set_option maxRecDepth 100000 in
theorem am_k304_19 : am_all (am_ck am_m304) am_t304_19 = true := by decide +kernel
set_option maxRecDepth 100000 in
theorem am_k304_20 : am_all (am_ck am_m304) am_t304_20 = true := by decide +kernel
set_option maxRecDepth 100000 in
theorem am_k304_21 : am_all (am_ck am_m304) am_t304_21 = true := by decide +kernel
set_option maxRecDepth 100000 in
theorem am_k304_22 : am_all (am_ck am_m304) am_t304_22 = true := by decide +kernel
theorem am_k304 : am_all (am_ck am_m304) am_t304 = true := am_all_br (am_all_br (am_all_br (am_all_br (am_k304_0) (am_k304_1)) (am_all_br (am_k304_2) (am_all_br (am_k304_3) (am_k304_4)))) (am_all_br (am_all_br (am_k304_5) (am_all_br (am_k304_6) (am_k304_7))) (am_all_br (am_k304_8) (am_all_br (am_k304_9) (am_k304_10))))) (am_all_br (am_all_br (am_all_br (am_k304_11) (am_all_br (am_k304_12) (am_k304_13))) (am_all_br (am_k304_14) (am_all_br (am_k304_15) (am_k304_16)))) (am_all_br (am_all_br (am_k304_17) (am_all_br (am_k304_18) (am_k304_19))) (am_all_br (am_k304_20) (am_all_br (am_k304_21) (am_k304_22)))))
