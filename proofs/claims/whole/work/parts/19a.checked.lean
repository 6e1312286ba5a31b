/-! The check of the methods 0 to 31. -/
set_option maxRecDepth 100000 in
theorem xt_p0 : xt_P 0 xt_M0 := xt_mk (cs := xt_c0) (vs := xt_v0) (p := 1) (p2 := 28) (by decide +kernel) rfl rfl rfl (by decide +kernel)
set_option maxRecDepth 100000 in
theorem xt_p1 : xt_P 1 xt_M1 := xt_mk (cs := xt_c1) (vs := xt_v1) (p := 2) (p2 := 36) (by decide +kernel) rfl rfl rfl (by decide +kernel)
set_option maxRecDepth 100000 in
theorem xt_p2 : xt_P 2 xt_M2 := xt_mk (cs := xt_c2) (vs := xt_v2) (p := 3) (p2 := 70) (by decide +kernel) rfl rfl rfl (by decide +kernel)
set_option maxRecDepth 100000 in
theorem xt_p3 : xt_P 3 xt_M3 := xt_mk (cs := xt_c3) (vs := xt_v3) (p := 4) (p2 := 93) (by decide +kernel) rfl rfl rfl (by decide +kernel)
set_option maxRecDepth 100000 in
theorem xt_p4 : xt_P 4 xt_M4 := xt_mk (cs := xt_c4) (vs := xt_v4) (p := 5) (p2 := 123) (by decide +kernel) rfl rfl rfl (by decide +kernel)
set_option maxRecDepth 100000 in
theorem xt_p5 : xt_P 5 xt_M5 := xt_mk (cs := xt_c5) (vs := xt_v5) (p := 6) (p2 := 130) (by decide +kernel) rfl rfl rfl (by decide +kernel)
set_option maxRecDepth 100000 in
theorem xt_p6 : xt_P 6 xt_M6 := xt_mk (cs := xt_c6) (vs := xt_v6) (p := 11) (p2 := 231) (by decide +kernel) rfl rfl rfl (by decide +kernel)
set_option maxRecDepth 100000 in
theorem xt_p7 : xt_P 7 xt_M7 := xt_mk (cs := xt_c7) (vs := xt_v7) (p := 10) (p2 := 234) (by decide +kernel) rfl rfl rfl (by decide +kernel)
set_option maxRecDepth 100000 in
theorem xt_p8 : xt_P 8 xt_M8 := xt_mk (cs := xt_c8) (vs := xt_v8) (p := 9) (p2 := 237) (by decide +kernel) rfl rfl rfl (by decide +kernel)
set_option maxRecDepth 100000 in
theorem xt_p9 : xt_P 9 xt_M9 := xt_mk (cs := xt_c9) (vs := xt_v9) (p := 1) (p2 := 274) (by decide +kernel) rfl rfl rfl (by decide +kernel)
set_option maxRecDepth 100000 in
theorem xt_p10 : xt_P 10 xt_M10 := xt_mk (cs := xt_c10) (vs := xt_v10) (p := 1) (p2 := 280) (by decide +kernel) rfl rfl rfl (by decide +kernel)
set_option maxRecDepth 100000 in
theorem xt_p11 : xt_P 11 xt_M11 := xt_mk (cs := xt_c11) (vs := xt_v11) (p := 1) (p2 := 283) (by decide +kernel) rfl rfl rfl (by decide +kernel)
set_option maxRecDepth 100000 in
theorem xt_p12 : xt_P 12 xt_M12 := xt_mk (cs := xt_c12) (vs := xt_v12) (p := 1) (p2 := 286) (by decide +kernel) rfl rfl rfl (by decide +kernel)
set_option maxRecDepth 100000 in
theorem xt_p13 : xt_P 13 xt_M13 := xt_mk (cs := xt_c13) (vs := xt_v13) (p := 6) (p2 := 290) (by decide +kernel) rfl rfl rfl (by decide +kernel)
set_option maxRecDepth 100000 in
theorem xt_p14 : xt_P 14 xt_M14 := xt_mk (cs := xt_c14) (vs := xt_v14) (p := 5) (p2 := 296) (by decide +kernel) rfl rfl rfl (by decide +kernel)
set_option maxRecDepth 100000 in
theorem xt_p15 : xt_P 15 xt_M15 := xt_mk (cs := xt_c15) (vs := xt_v15) (p := 6) (p2 := 301) (by decide +kernel) rfl rfl rfl (by decide +kernel)
set_option maxRecDepth 100000 in
theorem xt_p16 : xt_P 16 xt_M16 := xt_mk (cs := xt_c16) (vs := xt_v16) (p := 5) (p2 := 305) (by decide +kernel) rfl rfl rfl (by decide +kernel)
set_option maxRecDepth 100000 in
theorem xt_p17 : xt_P 17 xt_M17 := xt_mk (cs := xt_c17) (vs := xt_v17) (p := 5) (p2 := 315) (by decide +kernel) rfl rfl rfl (by decide +kernel)
set_option maxRecDepth 100000 in
theorem xt_p18 : xt_P 18 xt_M18 := xt_mk (cs := xt_c18) (vs := xt_v18) (p := 5) (p2 := 319) (by decide +kernel) rfl rfl rfl (by decide +kernel)
set_option maxRecDepth 100000 in
theorem xt_p19 : xt_P 19 xt_M19 := xt_mk (cs := xt_c19) (vs := xt_v19) (p := 5) (p2 := 323) (by decide +kernel) rfl rfl rfl (by decide +kernel)
set_option maxRecDepth 100000 in
theorem xt_p20 : xt_P 20 xt_M20 := xt_mk (cs := xt_c20) (vs := xt_v20) (p := 6) (p2 := 327) (by decide +kernel) rfl rfl rfl (by decide +kernel)
set_option maxRecDepth 100000 in
theorem xt_p21 : xt_P 21 xt_M21 := xt_mk (cs := xt_c21) (vs := xt_v21) (p := 6) (p2 := 331) (by decide +kernel) rfl rfl rfl (by decide +kernel)
set_option maxRecDepth 100000 in
theorem xt_p22 : xt_P 22 xt_M22 := xt_mk (cs := xt_c22) (vs := xt_v22) (p := 5) (p2 := 335) (by decide +kernel) rfl rfl rfl (by decide +kernel)
set_option maxRecDepth 100000 in
theorem xt_p23 : xt_P 23 xt_M23 := xt_mk (cs := xt_c23) (vs := xt_v23) (p := 5) (p2 := 341) (by decide +kernel) rfl rfl rfl (by decide +kernel)
set_option maxRecDepth 100000 in
theorem xt_p24 : xt_P 24 xt_M24 := xt_mk (cs := xt_c24) (vs := xt_v24) (p := 14) (p2 := 346) (by decide +kernel) rfl rfl rfl (by decide +kernel)
set_option maxRecDepth 100000 in
theorem xt_p25 : xt_P 25 xt_M25 := xt_mk (cs := xt_c25) (vs := xt_v25) (p := 14) (p2 := 382) (by decide +kernel) rfl rfl rfl (by decide +kernel)
set_option maxRecDepth 100000 in
theorem xt_p26 : xt_P 26 xt_M26 := xt_mk (cs := xt_c26) (vs := xt_v26) (p := 16) (p2 := 386) (by decide +kernel) rfl rfl rfl (by decide +kernel)
set_option maxRecDepth 100000 in
theorem xt_p27 : xt_P 27 xt_M27 := xt_mk (cs := xt_c27) (vs := xt_v27) (p := 5) (p2 := 407) (by decide +kernel) rfl rfl rfl (by decide +kernel)
set_option maxRecDepth 100000 in
theorem xt_p28 : xt_P 28 xt_M28 := xt_mk (cs := xt_c28) (vs := xt_v28) (p := 2) (p2 := 411) (by decide +kernel) rfl rfl rfl (by decide +kernel)
set_option maxRecDepth 100000 in
theorem xt_p29 : xt_P 29 xt_M29 := xt_mk (cs := xt_c29) (vs := xt_v29) (p := 2) (p2 := 417) (by decide +kernel) rfl rfl rfl (by decide +kernel)
set_option maxRecDepth 100000 in
theorem xt_p30 : xt_P 30 xt_M30 := xt_mk (cs := xt_c30) (vs := xt_v30) (p := 2) (p2 := 423) (by decide +kernel) rfl rfl rfl (by decide +kernel)
set_option maxRecDepth 100000 in
theorem xt_p31 : xt_P 31 xt_M31 := xt_mk (cs := xt_c31) (vs := xt_v31) (p := 2) (p2 := 437) (by decide +kernel) rfl rfl rfl (by decide +kernel)
