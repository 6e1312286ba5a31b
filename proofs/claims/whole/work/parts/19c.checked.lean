/-! The check of the methods 64 to 95. -/
set_option maxRecDepth 100000 in
theorem xt_p64 : xt_P 64 xt_M64 := xt_mk (cs := xt_c64) (vs := xt_v64) (p := 1) (p2 := 631) (by decide +kernel) rfl rfl rfl (by decide +kernel)
set_option maxRecDepth 100000 in
theorem xt_p65 : xt_P 65 xt_M65 := xt_mk (cs := xt_c65) (vs := xt_v65) (p := 1) (p2 := 636) (by decide +kernel) rfl rfl rfl (by decide +kernel)
set_option maxRecDepth 100000 in
theorem xt_p66 : xt_P 66 xt_M66 := xt_mk (cs := xt_c66) (vs := xt_v66) (p := 1) (p2 := 641) (by decide +kernel) rfl rfl rfl (by decide +kernel)
set_option maxRecDepth 100000 in
theorem xt_p67 : xt_P 67 xt_M67 := xt_mk (cs := xt_c67) (vs := xt_v67) (p := 1) (p2 := 645) (by decide +kernel) rfl rfl rfl (by decide +kernel)
set_option maxRecDepth 100000 in
theorem xt_p68 : xt_P 68 xt_M68 := xt_mk (cs := xt_c68) (vs := xt_v68) (p := 1) (p2 := 649) (by decide +kernel) rfl rfl rfl (by decide +kernel)
set_option maxRecDepth 100000 in
theorem xt_p69 : xt_P 69 xt_M69 := xt_mk (cs := xt_c69) (vs := xt_v69) (p := 11) (p2 := 653) (by decide +kernel) rfl rfl rfl (by decide +kernel)
set_option maxRecDepth 100000 in
theorem xt_p70 : xt_P 70 xt_M70 := xt_mk (cs := xt_c70) (vs := xt_v70) (p := 22) (p2 := 656) (by decide +kernel) rfl rfl rfl (by decide +kernel)
set_option maxRecDepth 100000 in
theorem xt_p71 : xt_P 71 xt_M71 := xt_mk (cs := xt_c71) (vs := xt_v71) (p := 23) (p2 := 659) (by decide +kernel) rfl rfl rfl (by decide +kernel)
set_option maxRecDepth 100000 in
theorem xt_p72 : xt_P 72 xt_M72 := xt_mk (cs := xt_c72) (vs := xt_v72) (p := 11) (p2 := 663) (by decide +kernel) rfl rfl rfl (by decide +kernel)
set_option maxRecDepth 100000 in
theorem xt_p73 : xt_P 73 xt_M73 := xt_mk (cs := xt_c73) (vs := xt_v73) (p := 20) (p2 := 667) (by decide +kernel) rfl rfl rfl (by decide +kernel)
set_option maxRecDepth 100000 in
theorem xt_p74 : xt_P 74 xt_M74 := xt_mk (cs := xt_c74) (vs := xt_v74) (p := 1) (p2 := 671) (by decide +kernel) rfl rfl rfl (by decide +kernel)
set_option maxRecDepth 100000 in
theorem xt_p75 : xt_P 75 xt_M75 := xt_mk (cs := xt_c75) (vs := xt_v75) (p := 11) (p2 := 675) (by decide +kernel) rfl rfl rfl (by decide +kernel)
set_option maxRecDepth 100000 in
theorem xt_p76 : xt_P 76 xt_M76 := xt_mk (cs := xt_c76) (vs := xt_v76) (p := 11) (p2 := 679) (by decide +kernel) rfl rfl rfl (by decide +kernel)
set_option maxRecDepth 100000 in
theorem xt_p77 : xt_P 77 xt_M77 := xt_mk (cs := xt_c77) (vs := xt_v77) (p := 1) (p2 := 684) (by decide +kernel) rfl rfl rfl (by decide +kernel)
set_option maxRecDepth 100000 in
theorem xt_p78 : xt_P 78 xt_M78 := xt_mk (cs := xt_c78) (vs := xt_v78) (p := 1) (p2 := 688) (by decide +kernel) rfl rfl rfl (by decide +kernel)
set_option maxRecDepth 100000 in
theorem xt_p79 : xt_P 79 xt_M79 := xt_mk (cs := xt_c79) (vs := xt_v79) (p := 14) (p2 := 692) (by decide +kernel) rfl rfl rfl (by decide +kernel)
set_option maxRecDepth 100000 in
theorem xt_p80 : xt_P 80 xt_M80 := xt_mk (cs := xt_c80) (vs := xt_v80) (p := 5) (p2 := 696) (by decide +kernel) rfl rfl rfl (by decide +kernel)
set_option maxRecDepth 100000 in
theorem xt_p81 : xt_P 81 xt_M81 := xt_mk (cs := xt_c81) (vs := xt_v81) (p := 5) (p2 := 700) (by decide +kernel) rfl rfl rfl (by decide +kernel)
set_option maxRecDepth 100000 in
theorem xt_p82 : xt_P 82 xt_M82 := xt_mk (cs := xt_c82) (vs := xt_v82) (p := 14) (p2 := 704) (by decide +kernel) rfl rfl rfl (by decide +kernel)
set_option maxRecDepth 100000 in
theorem xt_p83 : xt_P 83 xt_M83 := xt_mk (cs := xt_c83) (vs := xt_v83) (p := 5) (p2 := 708) (by decide +kernel) rfl rfl rfl (by decide +kernel)
set_option maxRecDepth 100000 in
theorem xt_p84 : xt_P 84 xt_M84 := xt_mk (cs := xt_c84) (vs := xt_v84) (p := 5) (p2 := 712) (by decide +kernel) rfl rfl rfl (by decide +kernel)
set_option maxRecDepth 100000 in
theorem xt_p85 : xt_P 85 xt_M85 := xt_mk (cs := xt_c85) (vs := xt_v85) (p := 2) (p2 := 716) (by decide +kernel) rfl rfl rfl (by decide +kernel)
set_option maxRecDepth 100000 in
theorem xt_p86 : xt_P 86 xt_M86 := xt_mk (cs := xt_c86) (vs := xt_v86) (p := 1) (p2 := 721) (by decide +kernel) rfl rfl rfl (by decide +kernel)
set_option maxRecDepth 100000 in
theorem xt_p87 : xt_P 87 xt_M87 := xt_mk (cs := xt_c87) (vs := xt_v87) (p := 4) (p2 := 725) (by decide +kernel) rfl rfl rfl (by decide +kernel)
set_option maxRecDepth 100000 in
theorem xt_p88 : xt_P 88 xt_M88 := xt_mk (cs := xt_c88) (vs := xt_v88) (p := 4) (p2 := 729) (by decide +kernel) rfl rfl rfl (by decide +kernel)
set_option maxRecDepth 100000 in
theorem xt_p89 : xt_P 89 xt_M89 := xt_mk (cs := xt_c89) (vs := xt_v89) (p := 4) (p2 := 733) (by decide +kernel) rfl rfl rfl (by decide +kernel)
set_option maxRecDepth 100000 in
theorem xt_p90 : xt_P 90 xt_M90 := xt_mk (cs := xt_c90) (vs := xt_v90) (p := 16) (p2 := 737) (by decide +kernel) rfl rfl rfl (by decide +kernel)
set_option maxRecDepth 100000 in
theorem xt_p91 : xt_P 91 xt_M91 := xt_mk (cs := xt_c91) (vs := xt_v91) (p := 4) (p2 := 744) (by decide +kernel) rfl rfl rfl (by decide +kernel)
set_option maxRecDepth 100000 in
theorem xt_p92 : xt_P 92 xt_M92 := xt_mk (cs := xt_c92) (vs := xt_v92) (p := 4) (p2 := 748) (by decide +kernel) rfl rfl rfl (by decide +kernel)
set_option maxRecDepth 100000 in
theorem xt_p93 : xt_P 93 xt_M93 := xt_mk (cs := xt_c93) (vs := xt_v93) (p := 4) (p2 := 752) (by decide +kernel) rfl rfl rfl (by decide +kernel)
set_option maxRecDepth 100000 in
theorem xt_p94 : xt_P 94 xt_M94 := xt_mk (cs := xt_c94) (vs := xt_v94) (p := 14) (p2 := 756) (by decide +kernel) rfl rfl rfl (by decide +kernel)
set_option maxRecDepth 100000 in
theorem xt_p95 : xt_P 95 xt_M95 := xt_mk (cs := xt_c95) (vs := xt_v95) (p := 4) (p2 := 761) (by decide +kernel) rfl rfl rfl (by decide +kernel)
