set_option maxRecDepth 100000 in
theorem am_k60 : am_all (am_ck am_m60) am_t60 = true := by decide +kernel
set_option maxRecDepth 100000 in
theorem am_k61 : am_all (am_ck am_m61) am_t61 = true := by decide +kernel
set_option maxRecDepth 100000 in
theorem am_k62 : am_all (am_ck am_m62) am_t62 = true := by decide +kernel
set_option maxRecDepth 100000 in
theorem am_k63 : am_all (am_ck am_m63) am_t63 = true := by decide +kernel
set_option maxRecDepth 100000 in
theorem am_k64 : am_all (am_ck am_m64) am_t64 = true := by decide +kernel
set_option maxRecDepth 100000 in
theorem am_k65 : am_all (am_ck am_m65) am_t65 = true := by decide +kernel
set_option maxRecDepth 100000 in
theorem am_k66 : am_all (am_ck am_m66) am_t66 = true := by decide +kernel
set_option maxRecDepth 100000 in
theorem am_k67 : am_all (am_ck am_m67) am_t67 = true := by decide +kernel
set_option maxRecDepth 100000 in
theorem am_k68 : am_all (am_ck am_m68) am_t68 = true := by decide +kernel
set_option maxRecDepth 100000 in
theorem am_k69 : am_all (am_ck am_m69) am_t69 = true := by decide +kernel
set_option maxRecDepth 100000 in
theorem am_k70 : am_all (am_ck am_m70) am_t70 = true := by decide +kernel
set_option maxRecDepth 100000 in
theorem am_k71 : am_all (am_ck am_m71) am_t71 = true := by decide +kernel
set_option maxRecDepth 100000 in
theorem am_k72 : am_all (am_ck am_m72) am_t72 = true := by decide +kernel
set_option maxRecDepth 100000 in
theorem am_k73 : am_all (am_ck am_m73) am_t73 = true := by decide +kernel
set_option maxRecDepth 100000 in
theorem am_k74 : am_all (am_ck am_m74) am_t74 = true := by decide +kernel
set_option maxRecDepth 100000 in
theorem am_k75 : am_all (am_ck am_m75) am_t75 = true := by decide +kernel
set_option maxRecDepth 100000 in
theorem am_k76 : am_all (am_ck am_m76) am_t76 = true := by decide +kernel
set_option maxRecDepth 100000 in
theorem am_k77 : am_all (am_ck am_m77) am_t77 = true := by decide +kernel
set_option maxRecDepth 100000 in
theorem am_k78 : am_all (am_ck am_m78) am_t78 = true := by decide +kernel
set_option maxRecDepth 100000 in
theorem am_k79 : am_all (am_ck am_m79) am_t79 = true := by decide +kernel
set_option maxRecDepth 100000 in
theorem am_k80 : am_all (am_ck am_m80) am_t80 = true := by decide +kernel
set_option maxRecDepth 100000 in
theorem am_k81 : am_all (am_ck am_m81) am_t81 = true := by decide +kernel
set_option maxRecDepth 100000 in
theorem am_k82 : am_all (am_ck am_m82) am_t82 = true := by decide +kernel
set_option maxRecDepth 100000 in
theorem am_k83 : am_all (am_ck am_m83) am_t83 = true := by decide +kernel
set_option maxRecDepth 100000 in
theorem am_k84 : am_all (am_ck am_m84) am_t84 = true := by decide +kernel
set_option maxRecDepth 100000 in
theorem am_k85 : am_all (am_ck am_m85) am_t85 = true := by decide +kernel
set_option maxRecDepth 100000 in
theorem am_k86 : am_all (am_ck am_m86) am_t86 = true := by decide +kernel
set_option maxRecDepth 100000 in
theorem am_k87 : am_all (am_ck am_m87) am_t87 = true := by decide +kernel
set_option maxRecDepth 100000 in
theorem am_k88 : am_all (am_ck am_m88) am_t88 = true := by decide +kernel
set_option maxRecDepth 100000 in
theorem am_k89 : am_all (am_ck am_m89) am_t89 = true := by decide +kernel
set_option maxRecDepth 100000 in
theorem am_k90 : am_all (am_ck am_m90) am_t90 = true := by decide +kernel
set_option maxRecDepth 100000 in
theorem am_k91 : am_all (am_ck am_m91) am_t91 = true := by decide +kernel
set_option maxRecDepth 100000 in
theorem am_k92 : am_all (am_ck am_m92) am_t92 = true := by decide +kernel
set_option maxRecDepth 100000 in
theorem am_k93 : am_all (am_ck am_m93) am_t93 = true := by decide +kernel
set_option maxRecDepth 100000 in
theorem am_k94 : am_all (am_ck am_m94) am_t94 = true := by decide +kernel
set_option maxRecDepth 100000 in
theorem am_k95 : am_all (am_ck am_m95) am_t95 = true := by decide +kernel
set_option maxRecDepth 100000 in
theorem am_k96 : am_all (am_ck am_m96) am_t96 = true := by decide +kernel
set_option maxRecDepth 100000 in
theorem am_k97 : am_all (am_ck am_m97) am_t97 = true := by decide +kernel
set_option maxRecDepth 100000 in
theorem am_k98 : am_all (am_ck am_m98) am_t98 = true := by decide +kernel
set_option maxRecDepth 100000 in
theorem am_k99 : am_all (am_ck am_m99) am_t99 = true := by decide +kernel
set_option maxRecDepth 100000 in
theorem am_k100 : am_all (am_ck am_m100) am_t100 = true := by decide +kernel
set_option maxRecDepth 100000 in
theorem am_k101 : am_all (am_ck am_m101) am_t101 = true := by decide +kernel
set_option maxRecDepth 100000 in
theorem am_k102 : am_all (am_ck am_m102) am_t102 = true := by decide +kernel
set_option maxRecDepth 100000 in
theorem am_k103 : am_all (am_ck am_m103) am_t103 = true := by decide +kernel
set_option maxRecDepth 100000 in
theorem am_k104 : am_all (am_ck am_m104) am_t104 = true := by decide +kernel
set_option maxRecDepth 100000 in
theorem am_k105 : am_all (am_ck am_m105) am_t105 = true := by decide +kernel
set_option maxRecDepth 100000 in
theorem am_k106 : am_all (am_ck am_m106) am_t106 = true := by decide +kernel
set_option maxRecDepth 100000 in
theorem am_k107 : am_all (am_ck am_m107) am_t107 = true := by decide +kernel
set_option maxRecDepth 100000 in
theorem am_k108 : am_all (am_ck am_m108) am_t108 = true := by decide +kernel
set_option maxRecDepth 100000 in
theorem am_k109 : am_all (am_ck am_m109) am_t109 = true := by decide +kernel
set_option maxRecDepth 100000 in
theorem am_k110 : am_all (am_ck am_m110) am_t110 = true := by decide +kernel
set_option maxRecDepth 100000 in
theorem am_k111 : am_all (am_ck am_m111) am_t111 = true := by decide +kernel
set_option maxRecDepth 100000 in
theorem am_k112 : am_all (am_ck am_m112) am_t112 = true := by decide +kernel
set_option maxRecDepth 100000 in
theorem am_k113 : am_all (am_ck am_m113) am_t113 = true := by decide +kernel
set_option maxRecDepth 100000 in
theorem am_k114 : am_all (am_ck am_m114) am_t114 = true := by decide +kernel
set_option maxRecDepth 100000 in
theorem am_k115 : am_all (am_ck am_m115) am_t115 = true := by decide +kernel
set_option maxRecDepth 100000 in
theorem am_k116 : am_all (am_ck am_m116) am_t116 = true := by decide +kernel
set_option maxRecDepth 100000 in
theorem am_k117 : am_all (am_ck am_m117) am_t117 = true := by decide +kernel
set_option maxRecDepth 100000 in
theorem am_k118 : am_all (am_ck am_m118) am_t118 = true := by decide +kernel
set_option maxRecDepth 100000 in
theorem am_k119 : am_all (am_ck am_m119) am_t119 = true := by decide +kernel
