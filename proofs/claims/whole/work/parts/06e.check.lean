set_option maxRecDepth 100000 in
theorem am_k180 : am_all (am_ck am_m180) am_t180 = true := by decide +kernel
set_option maxRecDepth 100000 in
theorem am_k181 : am_all (am_ck am_m181) am_t181 = true := by decide +kernel
set_option maxRecDepth 100000 in
theorem am_k182 : am_all (am_ck am_m182) am_t182 = true := by decide +kernel
set_option maxRecDepth 100000 in
theorem am_k183 : am_all (am_ck am_m183) am_t183 = true := by decide +kernel
set_option maxRecDepth 100000 in
theorem am_k184 : am_all (am_ck am_m184) am_t184 = true := by decide +kernel
set_option maxRecDepth 100000 in
theorem am_k185 : am_all (am_ck am_m185) am_t185 = true := by decide +kernel
set_option maxRecDepth 100000 in
theorem am_k186 : am_all (am_ck am_m186) am_t186 = true := by decide +kernel
set_option maxRecDepth 100000 in
theorem am_k187 : am_all (am_ck am_m187) am_t187 = true := by decide +kernel
set_option maxRecDepth 100000 in
theorem am_k188 : am_all (am_ck am_m188) am_t188 = true := by decide +kernel
set_option maxRecDepth 100000 in
theorem am_k189 : am_all (am_ck am_m189) am_t189 = true := by decide +kernel
set_option maxRecDepth 100000 in
theorem am_k190 : am_all (am_ck am_m190) am_t190 = true := by decide +kernel
set_option maxRecDepth 100000 in
theorem am_k191 : am_all (am_ck am_m191) am_t191 = true := by decide +kernel
set_option maxRecDepth 100000 in
theorem am_k192 : am_all (am_ck am_m192) am_t192 = true := by decide +kernel
set_option maxRecDepth 100000 in
theorem am_k193 : am_all (am_ck am_m193) am_t193 = true := by decide +kernel
set_option maxRecDepth 100000 in
theorem am_k194 : am_all (am_ck am_m194) am_t194 = true := by decide +kernel
set_option maxRecDepth 100000 in
theorem am_k195 : am_all (am_ck am_m195) am_t195 = true := by decide +kernel
set_option maxRecDepth 100000 in
theorem am_k196 : am_all (am_ck am_m196) am_t196 = true := by decide +kernel
set_option maxRecDepth 100000 in
theorem am_k197 : am_all (am_ck am_m197) am_t197 = true := by decide +kernel
set_option maxRecDepth 100000 in
theorem am_k198 : am_all (am_ck am_m198) am_t198 = true := by decide +kernel
set_option maxRecDepth 100000 in
theorem am_k199 : am_all (am_ck am_m199) am_t199 = true := by decide +kernel
set_option maxRecDepth 100000 in
theorem am_k200 : am_all (am_ck am_m200) am_t200 = true := by decide +kernel
set_option maxRecDepth 100000 in
theorem am_k201 : am_all (am_ck am_m201) am_t201 = true := by decide +kernel
set_option maxRecDepth 100000 in
theorem am_k202 : am_all (am_ck am_m202) am_t202 = true := by decide +kernel
set_option maxRecDepth 100000 in
theorem am_k203 : am_all (am_ck am_m203) am_t203 = true := by decide +kernel
set_option maxRecDepth 100000 in
theorem am_k204 : am_all (am_ck am_m204) am_t204 = true := by decide +kernel
set_option maxRecDepth 100000 in
theorem am_k205 : am_all (am_ck am_m205) am_t205 = true := by decide +kernel
set_option maxRecDepth 100000 in
theorem am_k206 : am_all (am_ck am_m206) am_t206 = true := by decide +kernel
set_option maxRecDepth 100000 in
theorem am_k207 : am_all (am_ck am_m207) am_t207 = true := by decide +kernel
set_option maxRecDepth 100000 in
theorem am_k208 : am_all (am_ck am_m208) am_t208 = true := by decide +kernel
set_option maxRecDepth 100000 in
theorem am_k209 : am_all (am_ck am_m209) am_t209 = true := by decide +kernel
set_option maxRecDepth 100000 in
theorem am_k210 : am_all (am_ck am_m210) am_t210 = true := by decide +kernel
set_option maxRecDepth 100000 in
theorem am_k211 : am_all (am_ck am_m211) am_t211 = true := by decide +kernel
set_option maxRecDepth 100000 in
theorem am_k212 : am_all (am_ck am_m212) am_t212 = true := by decide +kernel
set_option maxRecDepth 100000 in
theorem am_k213 : am_all (am_ck am_m213) am_t213 = true := by decide +kernel
set_option maxRecDepth 100000 in
theorem am_k214 : am_all (am_ck am_m214) am_t214 = true := by decide +kernel
set_option maxRecDepth 100000 in
theorem am_k215 : am_all (am_ck am_m215) am_t215 = true := by decide +kernel
set_option maxRecDepth 100000 in
theorem am_k216 : am_all (am_ck am_m216) am_t216 = true := by decide +kernel
set_option maxRecDepth 100000 in
theorem am_k217 : am_all (am_ck am_m217) am_t217 = true := by decide +kernel
set_option maxRecDepth 100000 in
theorem am_k218 : am_all (am_ck am_m218) am_t218 = true := by decide +kernel
set_option maxRecDepth 100000 in
theorem am_k219 : am_all (am_ck am_m219) am_t219 = true := by decide +kernel
set_option maxRecDepth 100000 in
theorem am_k220 : am_all (am_ck am_m220) am_t220 = true := by decide +kernel
set_option maxRecDepth 100000 in
theorem am_k221 : am_all (am_ck am_m221) am_t221 = true := by decide +kernel
set_option maxRecDepth 100000 in
theorem am_k222 : am_all (am_ck am_m222) am_t222 = true := by decide +kernel
set_option maxRecDepth 100000 in
theorem am_k223 : am_all (am_ck am_m223) am_t223 = true := by decide +kernel
set_option maxRecDepth 100000 in
theorem am_k224 : am_all (am_ck am_m224) am_t224 = true := by decide +kernel
set_option maxRecDepth 100000 in
theorem am_k225 : am_all (am_ck am_m225) am_t225 = true := by decide +kernel
set_option maxRecDepth 100000 in
theorem am_k226 : am_all (am_ck am_m226) am_t226 = true := by decide +kernel
set_option maxRecDepth 100000 in
theorem am_k227 : am_all (am_ck am_m227) am_t227 = true := by decide +kernel
set_option maxRecDepth 100000 in
theorem am_k228 : am_all (am_ck am_m228) am_t228 = true := by decide +kernel
set_option maxRecDepth 100000 in
theorem am_k229 : am_all (am_ck am_m229) am_t229 = true := by decide +kernel
set_option maxRecDepth 100000 in
theorem am_k230 : am_all (am_ck am_m230) am_t230 = true := by decide +kernel
set_option maxRecDepth 100000 in
theorem am_k231 : am_all (am_ck am_m231) am_t231 = true := by decide +kernel
set_option maxRecDepth 100000 in
theorem am_k232 : am_all (am_ck am_m232) am_t232 = true := by decide +kernel
set_option maxRecDepth 100000 in
theorem am_k233 : am_all (am_ck am_m233) am_t233 = true := by decide +kernel
set_option maxRecDepth 100000 in
theorem am_k234 : am_all (am_ck am_m234) am_t234 = true := by decide +kernel
set_option maxRecDepth 100000 in
theorem am_k235 : am_all (am_ck am_m235) am_t235 = true := by decide +kernel
set_option maxRecDepth 100000 in
theorem am_k236 : am_all (am_ck am_m236) am_t236 = true := by decide +kernel
set_option maxRecDepth 100000 in
theorem am_k237 : am_all (am_ck am_m237) am_t237 = true := by decide +kernel
set_option maxRecDepth 100000 in
theorem am_k238 : am_all (am_ck am_m238) am_t238 = true := by decide +kernel
set_option maxRecDepth 100000 in
theorem am_k239 : am_all (am_ck am_m239) am_t239 = true := by decide +kernel
