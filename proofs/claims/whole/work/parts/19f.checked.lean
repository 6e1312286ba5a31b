/-! The check of the methods 160 to 188. -/
set_option maxRecDepth 100000 in
theorem xt_p160 : xt_P 160 xt_M160 := xt_mk (cs := xt_c160) (vs := xt_v160) (p := 12) (p2 := 1146) (by decide +kernel) rfl rfl rfl (by decide +kernel)
set_option maxRecDepth 100000 in
theorem xt_p161 : xt_P 161 xt_M161 := xt_mk (cs := xt_c161) (vs := xt_v161) (p := 12) (p2 := 1150) (by decide +kernel) rfl rfl rfl (by decide +kernel)
set_option maxRecDepth 100000 in
theorem xt_p162 : xt_P 162 xt_M162 := xt_mk (cs := xt_c162) (vs := xt_v162) (p := 12) (p2 := 1154) (by decide +kernel) rfl rfl rfl (by decide +kernel)
set_option maxRecDepth 100000 in
theorem xt_p163 : xt_P 163 xt_M163 := xt_mk (cs := xt_c163) (vs := xt_v163) (p := 12) (p2 := 1158) (by decide +kernel) rfl rfl rfl (by decide +kernel)
set_option maxRecDepth 100000 in
theorem xt_p164 : xt_P 164 xt_M164 := xt_mk (cs := xt_c164) (vs := xt_v164) (p := 12) (p2 := 1162) (by decide +kernel) rfl rfl rfl (by decide +kernel)
set_option maxRecDepth 100000 in
theorem xt_p165 : xt_P 165 xt_M165 := xt_mk (cs := xt_c165) (vs := xt_v165) (p := 12) (p2 := 1165) (by decide +kernel) rfl rfl rfl (by decide +kernel)
set_option maxRecDepth 100000 in
theorem xt_p166 : xt_P 166 xt_M166 := xt_mk (cs := xt_c166) (vs := xt_v166) (p := 12) (p2 := 1169) (by decide +kernel) rfl rfl rfl (by decide +kernel)
set_option maxRecDepth 100000 in
theorem xt_p167 : xt_P 167 xt_M167 := xt_mk (cs := xt_c167) (vs := xt_v167) (p := 12) (p2 := 1173) (by decide +kernel) rfl rfl rfl (by decide +kernel)
set_option maxRecDepth 100000 in
theorem xt_p168 : xt_P 168 xt_M168 := xt_mk (cs := xt_c168) (vs := xt_v168) (p := 12) (p2 := 1177) (by decide +kernel) rfl rfl rfl (by decide +kernel)
set_option maxRecDepth 100000 in
theorem xt_p169 : xt_P 169 xt_M169 := xt_mk (cs := xt_c169) (vs := xt_v169) (p := 12) (p2 := 1181) (by decide +kernel) rfl rfl rfl (by decide +kernel)
set_option maxRecDepth 100000 in
theorem xt_p170 : xt_P 170 xt_M170 := xt_mk (cs := xt_c170) (vs := xt_v170) (p := 12) (p2 := 1185) (by decide +kernel) rfl rfl rfl (by decide +kernel)
set_option maxRecDepth 100000 in
theorem xt_p171 : xt_P 171 xt_M171 := xt_mk (cs := xt_c171) (vs := xt_v171) (p := 12) (p2 := 1189) (by decide +kernel) rfl rfl rfl (by decide +kernel)
set_option maxRecDepth 100000 in
theorem xt_p172 : xt_P 172 xt_M172 := xt_mk (cs := xt_c172) (vs := xt_v172) (p := 12) (p2 := 1193) (by decide +kernel) rfl rfl rfl (by decide +kernel)
set_option maxRecDepth 100000 in
theorem xt_p173 : xt_P 173 xt_M173 := xt_mk (cs := xt_c173) (vs := xt_v173) (p := 12) (p2 := 1197) (by decide +kernel) rfl rfl rfl (by decide +kernel)
set_option maxRecDepth 100000 in
theorem xt_p174 : xt_P 174 xt_M174 := xt_mk (cs := xt_c174) (vs := xt_v174) (p := 12) (p2 := 1201) (by decide +kernel) rfl rfl rfl (by decide +kernel)
set_option maxRecDepth 100000 in
theorem xt_p175 : xt_P 175 xt_M175 := xt_mk (cs := xt_c175) (vs := xt_v175) (p := 12) (p2 := 1205) (by decide +kernel) rfl rfl rfl (by decide +kernel)
set_option maxRecDepth 100000 in
theorem xt_p176 : xt_P 176 xt_M176 := xt_mk (cs := xt_c176) (vs := xt_v176) (p := 12) (p2 := 1209) (by decide +kernel) rfl rfl rfl (by decide +kernel)
set_option maxRecDepth 100000 in
theorem xt_p177 : xt_P 177 xt_M177 := xt_mk (cs := xt_c177) (vs := xt_v177) (p := 12) (p2 := 1213) (by decide +kernel) rfl rfl rfl (by decide +kernel)
set_option maxRecDepth 100000 in
theorem xt_p178 : xt_P 178 xt_M178 := xt_mk (cs := xt_c178) (vs := xt_v178) (p := 12) (p2 := 1217) (by decide +kernel) rfl rfl rfl (by decide +kernel)
set_option maxRecDepth 100000 in
theorem xt_p179 : xt_P 179 xt_M179 := xt_mk (cs := xt_c179) (vs := xt_v179) (p := 12) (p2 := 1221) (by decide +kernel) rfl rfl rfl (by decide +kernel)
set_option maxRecDepth 100000 in
theorem xt_p180 : xt_P 180 xt_M180 := xt_mk (cs := xt_c180) (vs := xt_v180) (p := 12) (p2 := 1225) (by decide +kernel) rfl rfl rfl (by decide +kernel)
set_option maxRecDepth 100000 in
theorem xt_p181 : xt_P 181 xt_M181 := xt_mk (cs := xt_c181) (vs := xt_v181) (p := 12) (p2 := 1229) (by decide +kernel) rfl rfl rfl (by decide +kernel)
set_option maxRecDepth 100000 in
theorem xt_p182 : xt_P 182 xt_M182 := xt_mk (cs := xt_c182) (vs := xt_v182) (p := 12) (p2 := 1233) (by decide +kernel) rfl rfl rfl (by decide +kernel)
set_option maxRecDepth 100000 in
theorem xt_p183 : xt_P 183 xt_M183 := xt_mk (cs := xt_c183) (vs := xt_v183) (p := 12) (p2 := 1237) (by decide +kernel) rfl rfl rfl (by decide +kernel)
set_option maxRecDepth 100000 in
theorem xt_p184 : xt_P 184 xt_M184 := xt_mk (cs := xt_c184) (vs := xt_v184) (p := 12) (p2 := 1241) (by decide +kernel) rfl rfl rfl (by decide +kernel)
set_option maxRecDepth 100000 in
theorem xt_p185 : xt_P 185 xt_M185 := xt_mk (cs := xt_c185) (vs := xt_v185) (p := 12) (p2 := 1245) (by decide +kernel) rfl rfl rfl (by decide +kernel)
set_option maxRecDepth 100000 in
theorem xt_p186 : xt_P 186 xt_M186 := xt_mk (cs := xt_c186) (vs := xt_v186) (p := 12) (p2 := 1249) (by decide +kernel) rfl rfl rfl (by decide +kernel)
set_option maxRecDepth 100000 in
theorem xt_p187 : xt_P 187 xt_M187 := xt_mk (cs := xt_c187) (vs := xt_v187) (p := 12) (p2 := 1253) (by decide +kernel) rfl rfl rfl (by decide +kernel)
set_option maxRecDepth 100000 in
theorem xt_p188 : xt_P 188 xt_M188 := ⟨fun h => absurd rfl h, rfl, xt_code (cs := xt_c188) (vs := xt_v188) rfl (by decide +kernel)⟩
