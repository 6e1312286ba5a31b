/-! The check of the methods 128 to 159. -/
set_option maxRecDepth 100000 in
theorem xt_p128 : xt_P 128 xt_M128 := xt_mk (cs := xt_c128) (vs := xt_v128) (p := 12) (p2 := 1023) (by decide +kernel) rfl rfl rfl (by decide +kernel)
set_option maxRecDepth 100000 in
theorem xt_p129 : xt_P 129 xt_M129 := xt_mk (cs := xt_c129) (vs := xt_v129) (p := 12) (p2 := 1027) (by decide +kernel) rfl rfl rfl (by decide +kernel)
set_option maxRecDepth 100000 in
theorem xt_p130 : xt_P 130 xt_M130 := xt_mk (cs := xt_c130) (vs := xt_v130) (p := 12) (p2 := 1032) (by decide +kernel) rfl rfl rfl (by decide +kernel)
set_option maxRecDepth 100000 in
theorem xt_p131 : xt_P 131 xt_M131 := xt_mk (cs := xt_c131) (vs := xt_v131) (p := 12) (p2 := 1036) (by decide +kernel) rfl rfl rfl (by decide +kernel)
set_option maxRecDepth 100000 in
theorem xt_p132 : xt_P 132 xt_M132 := xt_mk (cs := xt_c132) (vs := xt_v132) (p := 12) (p2 := 1040) (by decide +kernel) rfl rfl rfl (by decide +kernel)
set_option maxRecDepth 100000 in
theorem xt_p133 : xt_P 133 xt_M133 := xt_mk (cs := xt_c133) (vs := xt_v133) (p := 12) (p2 := 1044) (by decide +kernel) rfl rfl rfl (by decide +kernel)
set_option maxRecDepth 100000 in
theorem xt_p134 : xt_P 134 xt_M134 := xt_mk (cs := xt_c134) (vs := xt_v134) (p := 12) (p2 := 1047) (by decide +kernel) rfl rfl rfl (by decide +kernel)
set_option maxRecDepth 100000 in
theorem xt_p135 : xt_P 135 xt_M135 := xt_mk (cs := xt_c135) (vs := xt_v135) (p := 12) (p2 := 1052) (by decide +kernel) rfl rfl rfl (by decide +kernel)
set_option maxRecDepth 100000 in
theorem xt_p136 : xt_P 136 xt_M136 := xt_mk (cs := xt_c136) (vs := xt_v136) (p := 12) (p2 := 1056) (by decide +kernel) rfl rfl rfl (by decide +kernel)
set_option maxRecDepth 100000 in
theorem xt_p137 : xt_P 137 xt_M137 := xt_mk (cs := xt_c137) (vs := xt_v137) (p := 12) (p2 := 1060) (by decide +kernel) rfl rfl rfl (by decide +kernel)
set_option maxRecDepth 100000 in
theorem xt_p138 : xt_P 138 xt_M138 := xt_mk (cs := xt_c138) (vs := xt_v138) (p := 12) (p2 := 1064) (by decide +kernel) rfl rfl rfl (by decide +kernel)
set_option maxRecDepth 100000 in
theorem xt_p139 : xt_P 139 xt_M139 := xt_mk (cs := xt_c139) (vs := xt_v139) (p := 12) (p2 := 1068) (by decide +kernel) rfl rfl rfl (by decide +kernel)
set_option maxRecDepth 100000 in
theorem xt_p140 : xt_P 140 xt_M140 := xt_mk (cs := xt_c140) (vs := xt_v140) (p := 12) (p2 := 1072) (by decide +kernel) rfl rfl rfl (by decide +kernel)
set_option maxRecDepth 100000 in
theorem xt_p141 : xt_P 141 xt_M141 := xt_mk (cs := xt_c141) (vs := xt_v141) (p := 12) (p2 := 1076) (by decide +kernel) rfl rfl rfl (by decide +kernel)
set_option maxRecDepth 100000 in
theorem xt_p142 : xt_P 142 xt_M142 := xt_mk (cs := xt_c142) (vs := xt_v142) (p := 12) (p2 := 1080) (by decide +kernel) rfl rfl rfl (by decide +kernel)
set_option maxRecDepth 100000 in
theorem xt_p143 : xt_P 143 xt_M143 := xt_mk (cs := xt_c143) (vs := xt_v143) (p := 12) (p2 := 1084) (by decide +kernel) rfl rfl rfl (by decide +kernel)
set_option maxRecDepth 100000 in
theorem xt_p144 : xt_P 144 xt_M144 := xt_mk (cs := xt_c144) (vs := xt_v144) (p := 12) (p2 := 1088) (by decide +kernel) rfl rfl rfl (by decide +kernel)
set_option maxRecDepth 100000 in
theorem xt_p145 : xt_P 145 xt_M145 := xt_mk (cs := xt_c145) (vs := xt_v145) (p := 12) (p2 := 1092) (by decide +kernel) rfl rfl rfl (by decide +kernel)
set_option maxRecDepth 100000 in
theorem xt_p146 : xt_P 146 xt_M146 := xt_mk (cs := xt_c146) (vs := xt_v146) (p := 12) (p2 := 1095) (by decide +kernel) rfl rfl rfl (by decide +kernel)
set_option maxRecDepth 100000 in
theorem xt_p147 : xt_P 147 xt_M147 := xt_mk (cs := xt_c147) (vs := xt_v147) (p := 12) (p2 := 1099) (by decide +kernel) rfl rfl rfl (by decide +kernel)
set_option maxRecDepth 100000 in
theorem xt_p148 : xt_P 148 xt_M148 := xt_mk (cs := xt_c148) (vs := xt_v148) (p := 12) (p2 := 1102) (by decide +kernel) rfl rfl rfl (by decide +kernel)
set_option maxRecDepth 100000 in
theorem xt_p149 : xt_P 149 xt_M149 := xt_mk (cs := xt_c149) (vs := xt_v149) (p := 12) (p2 := 1106) (by decide +kernel) rfl rfl rfl (by decide +kernel)
set_option maxRecDepth 100000 in
theorem xt_p150 : xt_P 150 xt_M150 := xt_mk (cs := xt_c150) (vs := xt_v150) (p := 12) (p2 := 1109) (by decide +kernel) rfl rfl rfl (by decide +kernel)
set_option maxRecDepth 100000 in
theorem xt_p151 : xt_P 151 xt_M151 := xt_mk (cs := xt_c151) (vs := xt_v151) (p := 12) (p2 := 1113) (by decide +kernel) rfl rfl rfl (by decide +kernel)
set_option maxRecDepth 100000 in
theorem xt_p152 : xt_P 152 xt_M152 := xt_mk (cs := xt_c152) (vs := xt_v152) (p := 12) (p2 := 1117) (by decide +kernel) rfl rfl rfl (by decide +kernel)
set_option maxRecDepth 100000 in
theorem xt_p153 : xt_P 153 xt_M153 := xt_mk (cs := xt_c153) (vs := xt_v153) (p := 12) (p2 := 1121) (by decide +kernel) rfl rfl rfl (by decide +kernel)
set_option maxRecDepth 100000 in
theorem xt_p154 : xt_P 154 xt_M154 := xt_mk (cs := xt_c154) (vs := xt_v154) (p := 12) (p2 := 1124) (by decide +kernel) rfl rfl rfl (by decide +kernel)
set_option maxRecDepth 100000 in
theorem xt_p155 : xt_P 155 xt_M155 := xt_mk (cs := xt_c155) (vs := xt_v155) (p := 12) (p2 := 1128) (by decide +kernel) rfl rfl rfl (by decide +kernel)
set_option maxRecDepth 100000 in
theorem xt_p156 : xt_P 156 xt_M156 := xt_mk (cs := xt_c156) (vs := xt_v156) (p := 12) (p2 := 1132) (by decide +kernel) rfl rfl rfl (by decide +kernel)
set_option maxRecDepth 100000 in
theorem xt_p157 : xt_P 157 xt_M157 := xt_mk (cs := xt_c157) (vs := xt_v157) (p := 12) (p2 := 1136) (by decide +kernel) rfl rfl rfl (by decide +kernel)
set_option maxRecDepth 100000 in
theorem xt_p158 : xt_P 158 xt_M158 := xt_mk (cs := xt_c158) (vs := xt_v158) (p := 12) (p2 := 1139) (by decide +kernel) rfl rfl rfl (by decide +kernel)
set_option maxRecDepth 100000 in
theorem xt_p159 : xt_P 159 xt_M159 := xt_mk (cs := xt_c159) (vs := xt_v159) (p := 12) (p2 := 1142) (by decide +kernel) rfl rfl rfl (by decide +kernel)
