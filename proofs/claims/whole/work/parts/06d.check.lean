set_option maxRecDepth 100000 in
theorem am_k120 : am_all (am_ck am_m120) am_t120 = true := by decide +kernel
set_option maxRecDepth 100000 in
theorem am_k121 : am_all (am_ck am_m121) am_t121 = true := by decide +kernel
set_option maxRecDepth 100000 in
theorem am_k122 : am_all (am_ck am_m122) am_t122 = true := by decide +kernel
set_option maxRecDepth 100000 in
theorem am_k123 : am_all (am_ck am_m123) am_t123 = true := by decide +kernel
set_option maxRecDepth 100000 in
theorem am_k124 : am_all (am_ck am_m124) am_t124 = true := by decide +kernel
set_option maxRecDepth 100000 in
theorem am_k125 : am_all (am_ck am_m125) am_t125 = true := by decide +kernel
set_option maxRecDepth 100000 in
theorem am_k126 : am_all (am_ck am_m126) am_t126 = true := by decide +kernel
set_option maxRecDepth 100000 in
theorem am_k127 : am_all (am_ck am_m127) am_t127 = true := by decide +kernel
set_option maxRecDepth 100000 in
theorem am_k128 : am_all (am_ck am_m128) am_t128 = true := by decide +kernel
set_option maxRecDepth 100000 in
theorem am_k129 : am_all (am_ck am_m129) am_t129 = true := by decide +kernel
set_option maxRecDepth 100000 in
theorem am_k130 : am_all (am_ck am_m130) am_t130 = true := by decide +kernel
set_option maxRecDepth 100000 in
theorem am_k131 : am_all (am_ck am_m131) am_t131 = true := by decide +kernel
set_option maxRecDepth 100000 in
theorem am_k132 : am_all (am_ck am_m132) am_t132 = true := by decide +kernel
set_option maxRecDepth 100000 in
theorem am_k133 : am_all (am_ck am_m133) am_t133 = true := by decide +kernel
set_option maxRecDepth 100000 in
theorem am_k134 : am_all (am_ck am_m134) am_t134 = true := by decide +kernel
set_option maxRecDepth 100000 in
theorem am_k135 : am_all (am_ck am_m135) am_t135 = true := by decide +kernel
set_option maxRecDepth 100000 in
theorem am_k136 : am_all (am_ck am_m136) am_t136 = true := by decide +kernel
set_option maxRecDepth 100000 in
theorem am_k137 : am_all (am_ck am_m137) am_t137 = true := by decide +kernel
set_option maxRecDepth 100000 in
theorem am_k138 : am_all (am_ck am_m138) am_t138 = true := by decide +kernel
set_option maxRecDepth 100000 in
theorem am_k139 : am_all (am_ck am_m139) am_t139 = true := by decide +kernel
set_option maxRecDepth 100000 in
theorem am_k140 : am_all (am_ck am_m140) am_t140 = true := by decide +kernel
set_option maxRecDepth 100000 in
theorem am_k141 : am_all (am_ck am_m141) am_t141 = true := by decide +kernel
set_option maxRecDepth 100000 in
theorem am_k142 : am_all (am_ck am_m142) am_t142 = true := by decide +kernel
set_option maxRecDepth 100000 in
theorem am_k143 : am_all (am_ck am_m143) am_t143 = true := by decide +kernel
set_option maxRecDepth 100000 in
theorem am_k144 : am_all (am_ck am_m144) am_t144 = true := by decide +kernel
set_option maxRecDepth 100000 in
theorem am_k145 : am_all (am_ck am_m145) am_t145 = true := by decide +kernel
set_option maxRecDepth 100000 in
theorem am_k146 : am_all (am_ck am_m146) am_t146 = true := by decide +kernel
set_option maxRecDepth 100000 in
theorem am_k147 : am_all (am_ck am_m147) am_t147 = true := by decide +kernel
set_option maxRecDepth 100000 in
theorem am_k148 : am_all (am_ck am_m148) am_t148 = true := by decide +kernel
set_option maxRecDepth 100000 in
theorem am_k149 : am_all (am_ck am_m149) am_t149 = true := by decide +kernel
set_option maxRecDepth 100000 in
theorem am_k150 : am_all (am_ck am_m150) am_t150 = true := by decide +kernel
set_option maxRecDepth 100000 in
theorem am_k151 : am_all (am_ck am_m151) am_t151 = true := by decide +kernel
set_option maxRecDepth 100000 in
theorem am_k152 : am_all (am_ck am_m152) am_t152 = true := by decide +kernel
set_option maxRecDepth 100000 in
theorem am_k153 : am_all (am_ck am_m153) am_t153 = true := by decide +kernel
set_option maxRecDepth 100000 in
theorem am_k154 : am_all (am_ck am_m154) am_t154 = true := by decide +kernel
set_option maxRecDepth 100000 in
theorem am_k155 : am_all (am_ck am_m155) am_t155 = true := by decide +kernel
set_option maxRecDepth 100000 in
theorem am_k156 : am_all (am_ck am_m156) am_t156 = true := by decide +kernel
set_option maxRecDepth 100000 in
theorem am_k157 : am_all (am_ck am_m157) am_t157 = true := by decide +kernel
set_option maxRecDepth 100000 in
theorem am_k158 : am_all (am_ck am_m158) am_t158 = true := by decide +kernel
set_option maxRecDepth 100000 in
theorem am_k159 : am_all (am_ck am_m159) am_t159 = true := by decide +kernel
set_option maxRecDepth 100000 in
theorem am_k160 : am_all (am_ck am_m160) am_t160 = true := by decide +kernel
set_option maxRecDepth 100000 in
theorem am_k161 : am_all (am_ck am_m161) am_t161 = true := by decide +kernel
set_option maxRecDepth 100000 in
theorem am_k162 : am_all (am_ck am_m162) am_t162 = true := by decide +kernel
set_option maxRecDepth 100000 in
theorem am_k163 : am_all (am_ck am_m163) am_t163 = true := by decide +kernel
set_option maxRecDepth 100000 in
theorem am_k164 : am_all (am_ck am_m164) am_t164 = true := by decide +kernel
set_option maxRecDepth 100000 in
theorem am_k165 : am_all (am_ck am_m165) am_t165 = true := by decide +kernel
set_option maxRecDepth 100000 in
theorem am_k166 : am_all (am_ck am_m166) am_t166 = true := by decide +kernel
set_option maxRecDepth 100000 in
theorem am_k167 : am_all (am_ck am_m167) am_t167 = true := by decide +kernel
set_option maxRecDepth 100000 in
theorem am_k168 : am_all (am_ck am_m168) am_t168 = true := by decide +kernel
set_option maxRecDepth 100000 in
theorem am_k169 : am_all (am_ck am_m169) am_t169 = true := by decide +kernel
set_option maxRecDepth 100000 in
theorem am_k170 : am_all (am_ck am_m170) am_t170 = true := by decide +kernel
set_option maxRecDepth 100000 in
theorem am_k171 : am_all (am_ck am_m171) am_t171 = true := by decide +kernel
set_option maxRecDepth 100000 in
theorem am_k172 : am_all (am_ck am_m172) am_t172 = true := by decide +kernel
set_option maxRecDepth 100000 in
theorem am_k173 : am_all (am_ck am_m173) am_t173 = true := by decide +kernel
set_option maxRecDepth 100000 in
theorem am_k174 : am_all (am_ck am_m174) am_t174 = true := by decide +kernel
set_option maxRecDepth 100000 in
theorem am_k175 : am_all (am_ck am_m175) am_t175 = true := by decide +kernel
set_option maxRecDepth 100000 in
theorem am_k176 : am_all (am_ck am_m176) am_t176 = true := by decide +kernel
set_option maxRecDepth 100000 in
theorem am_k177 : am_all (am_ck am_m177) am_t177 = true := by decide +kernel
set_option maxRecDepth 100000 in
theorem am_k178 : am_all (am_ck am_m178) am_t178 = true := by decide +kernel
set_option maxRecDepth 100000 in
theorem am_k179 : am_all (am_ck am_m179) am_t179 = true := by decide +kernel
