/-! The check of the methods 32 to 63. -/
set_option maxRecDepth 100000 in
theorem xt_p32 : xt_P 32 xt_M32 := xt_mk (cs := xt_c32) (vs := xt_v32) (p := 2) (p2 := 440) (by decide +kernel) rfl rfl rfl (by decide +kernel)
set_option maxRecDepth 100000 in
theorem xt_p33 : xt_P 33 xt_M33 := xt_mk (cs := xt_c33) (vs := xt_v33) (p := 5) (p2 := 447) (by decide +kernel) rfl rfl rfl (by decide +kernel)
set_option maxRecDepth 100000 in
theorem xt_p34 : xt_P 34 xt_M34 := xt_mk (cs := xt_c34) (vs := xt_v34) (p := 2) (p2 := 455) (by decide +kernel) rfl rfl rfl (by decide +kernel)
set_option maxRecDepth 100000 in
theorem xt_p35 : xt_P 35 xt_M35 := xt_mk (cs := xt_c35) (vs := xt_v35) (p := 2) (p2 := 458) (by decide +kernel) rfl rfl rfl (by decide +kernel)
set_option maxRecDepth 100000 in
theorem xt_p36 : xt_P 36 xt_M36 := xt_mk (cs := xt_c36) (vs := xt_v36) (p := 5) (p2 := 462) (by decide +kernel) rfl rfl rfl (by decide +kernel)
set_option maxRecDepth 100000 in
theorem xt_p37 : xt_P 37 xt_M37 := xt_mk (cs := xt_c37) (vs := xt_v37) (p := 2) (p2 := 470) (by decide +kernel) rfl rfl rfl (by decide +kernel)
set_option maxRecDepth 100000 in
theorem xt_p38 : xt_P 38 xt_M38 := xt_mk (cs := xt_c38) (vs := xt_v38) (p := 5) (p2 := 474) (by decide +kernel) rfl rfl rfl (by decide +kernel)
set_option maxRecDepth 100000 in
theorem xt_p39 : xt_P 39 xt_M39 := xt_mk (cs := xt_c39) (vs := xt_v39) (p := 5) (p2 := 478) (by decide +kernel) rfl rfl rfl (by decide +kernel)
set_option maxRecDepth 100000 in
theorem xt_p40 : xt_P 40 xt_M40 := xt_mk (cs := xt_c40) (vs := xt_v40) (p := 5) (p2 := 482) (by decide +kernel) rfl rfl rfl (by decide +kernel)
set_option maxRecDepth 100000 in
theorem xt_p41 : xt_P 41 xt_M41 := xt_mk (cs := xt_c41) (vs := xt_v41) (p := 2) (p2 := 486) (by decide +kernel) rfl rfl rfl (by decide +kernel)
set_option maxRecDepth 100000 in
theorem xt_p42 : xt_P 42 xt_M42 := xt_mk (cs := xt_c42) (vs := xt_v42) (p := 2) (p2 := 494) (by decide +kernel) rfl rfl rfl (by decide +kernel)
set_option maxRecDepth 100000 in
theorem xt_p43 : xt_P 43 xt_M43 := xt_mk (cs := xt_c43) (vs := xt_v43) (p := 18) (p2 := 497) (by decide +kernel) rfl rfl rfl (by decide +kernel)
set_option maxRecDepth 100000 in
theorem xt_p44 : xt_P 44 xt_M44 := xt_mk (cs := xt_c44) (vs := xt_v44) (p := 18) (p2 := 500) (by decide +kernel) rfl rfl rfl (by decide +kernel)
set_option maxRecDepth 100000 in
theorem xt_p45 : xt_P 45 xt_M45 := xt_mk (cs := xt_c45) (vs := xt_v45) (p := 18) (p2 := 503) (by decide +kernel) rfl rfl rfl (by decide +kernel)
set_option maxRecDepth 100000 in
theorem xt_p46 : xt_P 46 xt_M46 := xt_mk (cs := xt_c46) (vs := xt_v46) (p := 2) (p2 := 514) (by decide +kernel) rfl rfl rfl (by decide +kernel)
set_option maxRecDepth 100000 in
theorem xt_p47 : xt_P 47 xt_M47 := xt_mk (cs := xt_c47) (vs := xt_v47) (p := 2) (p2 := 518) (by decide +kernel) rfl rfl rfl (by decide +kernel)
set_option maxRecDepth 100000 in
theorem xt_p48 : xt_P 48 xt_M48 := xt_mk (cs := xt_c48) (vs := xt_v48) (p := 5) (p2 := 524) (by decide +kernel) rfl rfl rfl (by decide +kernel)
set_option maxRecDepth 100000 in
theorem xt_p49 : xt_P 49 xt_M49 := xt_mk (cs := xt_c49) (vs := xt_v49) (p := 2) (p2 := 528) (by decide +kernel) rfl rfl rfl (by decide +kernel)
set_option maxRecDepth 100000 in
theorem xt_p50 : xt_P 50 xt_M50 := xt_mk (cs := xt_c50) (vs := xt_v50) (p := 1) (p2 := 532) (by decide +kernel) rfl rfl rfl (by decide +kernel)
set_option maxRecDepth 100000 in
theorem xt_p51 : xt_P 51 xt_M51 := xt_mk (cs := xt_c51) (vs := xt_v51) (p := 1) (p2 := 536) (by decide +kernel) rfl rfl rfl (by decide +kernel)
set_option maxRecDepth 100000 in
theorem xt_p52 : xt_P 52 xt_M52 := xt_mk (cs := xt_c52) (vs := xt_v52) (p := 1) (p2 := 540) (by decide +kernel) rfl rfl rfl (by decide +kernel)
set_option maxRecDepth 100000 in
theorem xt_p53 : xt_P 53 xt_M53 := xt_mk (cs := xt_c53) (vs := xt_v53) (p := 11) (p2 := 544) (by decide +kernel) rfl rfl rfl (by decide +kernel)
set_option maxRecDepth 100000 in
theorem xt_p54 : xt_P 54 xt_M54 := xt_mk (cs := xt_c54) (vs := xt_v54) (p := 20) (p2 := 549) (by decide +kernel) rfl rfl rfl (by decide +kernel)
set_option maxRecDepth 100000 in
theorem xt_p55 : xt_P 55 xt_M55 := xt_mk (cs := xt_c55) (vs := xt_v55) (p := 11) (p2 := 571) (by decide +kernel) rfl rfl rfl (by decide +kernel)
set_option maxRecDepth 100000 in
theorem xt_p56 : xt_P 56 xt_M56 := xt_mk (cs := xt_c56) (vs := xt_v56) (p := 11) (p2 := 575) (by decide +kernel) rfl rfl rfl (by decide +kernel)
set_option maxRecDepth 100000 in
theorem xt_p57 : xt_P 57 xt_M57 := xt_mk (cs := xt_c57) (vs := xt_v57) (p := 11) (p2 := 579) (by decide +kernel) rfl rfl rfl (by decide +kernel)
set_option maxRecDepth 100000 in
theorem xt_p58 : xt_P 58 xt_M58 := xt_mk (cs := xt_c58) (vs := xt_v58) (p := 11) (p2 := 583) (by decide +kernel) rfl rfl rfl (by decide +kernel)
set_option maxRecDepth 100000 in
theorem xt_p59 : xt_P 59 xt_M59 := xt_mk (cs := xt_c59) (vs := xt_v59) (p := 21) (p2 := 586) (by decide +kernel) rfl rfl rfl (by decide +kernel)
set_option maxRecDepth 100000 in
theorem xt_p60 : xt_P 60 xt_M60 := xt_mk (cs := xt_c60) (vs := xt_v60) (p := 21) (p2 := 593) (by decide +kernel) rfl rfl rfl (by decide +kernel)
set_option maxRecDepth 100000 in
theorem xt_p61 : xt_P 61 xt_M61 := xt_mk (cs := xt_c61) (vs := xt_v61) (p := 18) (p2 := 596) (by decide +kernel) rfl rfl rfl (by decide +kernel)
set_option maxRecDepth 100000 in
theorem xt_p62 : xt_P 62 xt_M62 := xt_mk (cs := xt_c62) (vs := xt_v62) (p := 18) (p2 := 617) (by decide +kernel) rfl rfl rfl (by decide +kernel)
set_option maxRecDepth 100000 in
theorem xt_p63 : xt_P 63 xt_M63 := xt_mk (cs := xt_c63) (vs := xt_v63) (p := 1) (p2 := 626) (by decide +kernel) rfl rfl rfl (by decide +kernel)
