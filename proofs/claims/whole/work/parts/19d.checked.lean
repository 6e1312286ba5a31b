/-! The check of the methods 96 to 127. -/
set_option maxRecDepth 100000 in
theorem xt_p96 : xt_P 96 xt_M96 := xt_mk (cs := xt_c96) (vs := xt_v96) (p := 16) (p2 := 765) (by decide +kernel) rfl rfl rfl (by decide +kernel)
set_option maxRecDepth 100000 in
theorem xt_p97 : xt_P 97 xt_M97 := xt_mk (cs := xt_c97) (vs := xt_v97) (p := 4) (p2 := 771) (by decide +kernel) rfl rfl rfl (by decide +kernel)
set_option maxRecDepth 100000 in
theorem xt_p98 : xt_P 98 xt_M98 := xt_mk (cs := xt_c98) (vs := xt_v98) (p := 1) (p2 := 775) (by decide +kernel) rfl rfl rfl (by decide +kernel)
set_option maxRecDepth 100000 in
theorem xt_p99 : xt_P 99 xt_M99 := xt_mk (cs := xt_c99) (vs := xt_v99) (p := 1) (p2 := 779) (by decide +kernel) rfl rfl rfl (by decide +kernel)
set_option maxRecDepth 100000 in
theorem xt_p100 : xt_P 100 xt_M100 := xt_mk (cs := xt_c100) (vs := xt_v100) (p := 1) (p2 := 783) (by decide +kernel) rfl rfl rfl (by decide +kernel)
set_option maxRecDepth 100000 in
theorem xt_p101 : xt_P 101 xt_M101 := xt_mk (cs := xt_c101) (vs := xt_v101) (p := 1) (p2 := 786) (by decide +kernel) rfl rfl rfl (by decide +kernel)
set_option maxRecDepth 100000 in
theorem xt_p102 : xt_P 102 xt_M102 := xt_mk (cs := xt_c102) (vs := xt_v102) (p := 1) (p2 := 790) (by decide +kernel) rfl rfl rfl (by decide +kernel)
set_option maxRecDepth 100000 in
theorem xt_p103 : xt_P 103 xt_M103 := xt_mk (cs := xt_c103) (vs := xt_v103) (p := 5) (p2 := 794) (by decide +kernel) rfl rfl rfl (by decide +kernel)
set_option maxRecDepth 100000 in
theorem xt_p104 : xt_P 104 xt_M104 := xt_mk (cs := xt_c104) (vs := xt_v104) (p := 1) (p2 := 798) (by decide +kernel) rfl rfl rfl (by decide +kernel)
set_option maxRecDepth 100000 in
theorem xt_p105 : xt_P 105 xt_M105 := xt_mk (cs := xt_c105) (vs := xt_v105) (p := 1) (p2 := 802) (by decide +kernel) rfl rfl rfl (by decide +kernel)
set_option maxRecDepth 100000 in
theorem xt_p106 : xt_P 106 xt_M106 := xt_mk (cs := xt_c106) (vs := xt_v106) (p := 1) (p2 := 805) (by decide +kernel) rfl rfl rfl (by decide +kernel)
set_option maxRecDepth 100000 in
theorem xt_p107 : xt_P 107 xt_M107 := xt_mk (cs := xt_c107) (vs := xt_v107) (p := 4) (p2 := 809) (by decide +kernel) rfl rfl rfl (by decide +kernel)
set_option maxRecDepth 100000 in
theorem xt_p108 : xt_P 108 xt_M108 := xt_mk (cs := xt_c108) (vs := xt_v108) (p := 1) (p2 := 813) (by decide +kernel) rfl rfl rfl (by decide +kernel)
set_option maxRecDepth 100000 in
theorem xt_p109 : xt_P 109 xt_M109 := xt_mk (cs := xt_c109) (vs := xt_v109) (p := 1) (p2 := 817) (by decide +kernel) rfl rfl rfl (by decide +kernel)
set_option maxRecDepth 100000 in
theorem xt_p110 : xt_P 110 xt_M110 := xt_mk (cs := xt_c110) (vs := xt_v110) (p := 1) (p2 := 821) (by decide +kernel) rfl rfl rfl (by decide +kernel)
set_option maxRecDepth 100000 in
theorem xt_p111 : xt_P 111 xt_M111 := xt_mk (cs := xt_c111) (vs := xt_v111) (p := 1) (p2 := 825) (by decide +kernel) rfl rfl rfl (by decide +kernel)
set_option maxRecDepth 100000 in
theorem xt_p112 : xt_P 112 xt_M112 := xt_mk (cs := xt_c112) (vs := xt_v112) (p := 1) (p2 := 829) (by decide +kernel) rfl rfl rfl (by decide +kernel)
set_option maxRecDepth 100000 in
theorem xt_p113 : xt_P 113 xt_M113 := xt_mk (cs := xt_c113) (vs := xt_v113) (p := 6) (p2 := 833) (by decide +kernel) rfl rfl rfl (by decide +kernel)
set_option maxRecDepth 100000 in
theorem xt_p114 : xt_P 114 xt_M114 := xt_mk (cs := xt_c114) (vs := xt_v114) (p := 6) (p2 := 837) (by decide +kernel) rfl rfl rfl (by decide +kernel)
set_option maxRecDepth 100000 in
theorem xt_p115 : xt_P 115 xt_M115 := xt_mk (cs := xt_c115) (vs := xt_v115) (p := 6) (p2 := 841) (by decide +kernel) rfl rfl rfl (by decide +kernel)
set_option maxRecDepth 100000 in
theorem xt_p116 : xt_P 116 xt_M116 := xt_mk (cs := xt_c116) (vs := xt_v116) (p := 1) (p2 := 846) (by decide +kernel) rfl rfl rfl (by decide +kernel)
set_option maxRecDepth 100000 in
theorem xt_p117 : xt_P 117 xt_M117 := xt_mk (cs := xt_c117) (vs := xt_v117) (p := 1) (p2 := 849) (by decide +kernel) rfl rfl rfl (by decide +kernel)
set_option maxRecDepth 100000 in
theorem xt_p118 : xt_P 118 xt_M118 := xt_mk (cs := xt_c118) (vs := xt_v118) (p := 1) (p2 := 853) (by decide +kernel) rfl rfl rfl (by decide +kernel)
set_option maxRecDepth 100000 in
theorem xt_p119 : xt_P 119 xt_M119 := xt_mk (cs := xt_c119) (vs := xt_v119) (p := 1) (p2 := 857) (by decide +kernel) rfl rfl rfl (by decide +kernel)
set_option maxRecDepth 100000 in
theorem xt_p120 : xt_P 120 xt_M120 := xt_mk (cs := xt_c120) (vs := xt_v120) (p := 1) (p2 := 861) (by decide +kernel) rfl rfl rfl (by decide +kernel)
set_option maxRecDepth 100000 in
theorem xt_p121 : xt_P 121 xt_M121 := xt_mk (cs := xt_c121) (vs := xt_v121) (p := 1) (p2 := 865) (by decide +kernel) rfl rfl rfl (by decide +kernel)
set_option maxRecDepth 100000 in
theorem xt_p122 : xt_P 122 xt_M122 := xt_mk (cs := xt_c122) (vs := xt_v122) (p := 1) (p2 := 869) (by decide +kernel) rfl rfl rfl (by decide +kernel)
set_option maxRecDepth 100000 in
theorem xt_p123 : xt_P 123 xt_M123 := xt_mk (cs := xt_c123) (vs := xt_v123) (p := 12) (p2 := 874) (by decide +kernel) rfl rfl rfl (by decide +kernel)
set_option maxRecDepth 100000 in
theorem xt_p124 : xt_P 124 xt_M124 := xt_mk (cs := xt_c124) (vs := xt_v124) (p := 12) (p2 := 878) (by decide +kernel) rfl rfl rfl (by decide +kernel)
set_option maxRecDepth 100000 in
theorem xt_p125 : xt_P 125 xt_M125 := xt_mk (cs := xt_c125) (vs := xt_v125) (p := 12) (p2 := 1012) (by decide +kernel) rfl rfl rfl (by decide +kernel)
set_option maxRecDepth 100000 in
theorem xt_p126 : xt_P 126 xt_M126 := xt_mk (cs := xt_c126) (vs := xt_v126) (p := 12) (p2 := 1016) (by decide +kernel) rfl rfl rfl (by decide +kernel)
set_option maxRecDepth 100000 in
theorem xt_p127 : xt_P 127 xt_M127 := xt_mk (cs := xt_c127) (vs := xt_v127) (p := 12) (p2 := 1019) (by decide +kernel) rfl rfl rfl (by decide +kernel)
