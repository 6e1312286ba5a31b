/-! The tables of fields; and all of it together. -/
def xt_lays (c : vw_C) (ps : List Nat) : Bool := decide (ps.length = c.2.2) && ((List.range c.2.2).zip ps).all (fun x => xt_is x.2 (u_lay c.1 c.2.1 x.1))
theorem xt_lays_spec {c : vw_C} {ps : List Nat} (h : xt_lays c ps = true) : ∀ x ∈ u_ws c.1 c.2.1 c.2.2, x ∈ xt_WS := by
  simp only [xt_lays, Bool.and_eq_true, decide_eq_true_eq, List.all_eq_true] at h
  intro x hx
  obtain ⟨k, hk, rfl⟩ := List.mem_map.mp hx
  have hk' := List.mem_range.mp hk
  have hp : ∃ p, ps[k]? = some p := ⟨_, List.getElem?_eq_getElem (by omega)⟩
  obtain ⟨p, hp⟩ := hp
  have h2 := h.2 (k, p) (List.mem_of_getElem? (i := k) (by rw [List.getElem?_zip_eq_some]; exact ⟨by simp [hk'], hp⟩))
  refine xt_got h2 ?_
  unfold u_lay
  split <;> rfl
def xt_cok (ci : Nat) (q : vw_C) : Prop := (∀ x ∈ u_ws q.1 q.2.1 q.2.2, x ∈ xt_WS) ∧ (∀ k, k < q.2.2 → parseFieldDescriptor (q.2.1 k).2.2.1 = some (xt_tyf ci k)) ∧ (∀ a, a < q.2.2 → ∀ b, b < q.2.2 → a ≠ b → (q.2.1 a).2.1 ≠ (q.2.1 b).2.1) ∧ ∀ k, k < q.2.2 → defaultValue (xt_tyf ci k) = if xt_rk (100 * ci + k) = true then .null else .int 0
set_option maxRecDepth 100000 in
theorem xt_cok0 : xt_cok 0 ("CellTree", xt_T0, 5) := ⟨xt_lays_spec (ps := [260, 262, 264, 266, 268]) (by decide +kernel), by decide +kernel, by decide +kernel, by decide +kernel⟩
set_option maxRecDepth 100000 in
theorem xt_cok1 : xt_cok 1 ("CellTree$Client", xt_T1, 13) := ⟨xt_lays_spec (ps := [200, 202, 204, 206, 208, 210, 212, 214, 216, 218, 220, 222, 224]) (by decide +kernel), by decide +kernel, by decide +kernel, by decide +kernel⟩
set_option maxRecDepth 100000 in
theorem xt_cok2 : xt_cok 2 ("CellTree$Job", xt_T2, 11) := ⟨xt_lays_spec (ps := [155, 157, 159, 161, 163, 165, 167, 169, 171, 173, 175]) (by decide +kernel), by decide +kernel, by decide +kernel, by decide +kernel⟩
set_option maxRecDepth 100000 in
theorem xt_cok3 : xt_cok 3 ("CellTree$MemoryNode", xt_T3, 5) := ⟨xt_lays_spec (ps := [106, 108, 110, 112, 114]) (by decide +kernel), by decide +kernel, by decide +kernel, by decide +kernel⟩
set_option maxRecDepth 100000 in
theorem xt_cok4 : xt_cok 4 ("CellTree$Transaction", xt_T4, 6) := ⟨xt_lays_spec (ps := [363, 365, 367, 369, 371, 373]) (by decide +kernel), by decide +kernel, by decide +kernel, by decide +kernel⟩
set_option maxRecDepth 100000 in
theorem xt_cok5 : xt_cok 5 ("CellTree$Item", xt_T5, 4) := ⟨xt_lays_spec (ps := [395, 397, 399, 401]) (by decide +kernel), by decide +kernel, by decide +kernel, by decide +kernel⟩
set_option maxRecDepth 100000 in
theorem xt_cok6 : xt_cok 6 ("CellTree$Content", xt_T6, 5) := ⟨xt_lays_spec (ps := [54, 56, 58, 60, 62]) (by decide +kernel), by decide +kernel, by decide +kernel, by decide +kernel⟩
set_option maxRecDepth 100000 in
theorem xt_cok7 : xt_cok 7 ("CellTree$Cell", xt_T7, 2) := ⟨xt_lays_spec (ps := [83, 85]) (by decide +kernel), by decide +kernel, by decide +kernel, by decide +kernel⟩
set_option maxRecDepth 100000 in
theorem xt_cok8 : xt_cok 8 ("CellTree$Message", xt_T8, 4) := ⟨xt_lays_spec (ps := [559, 561, 563, 565]) (by decide +kernel), by decide +kernel, by decide +kernel, by decide +kernel⟩
set_option maxRecDepth 100000 in
theorem xt_cok9 : xt_cok 9 ("CellTreeModel", xt_T9, 42) := ⟨xt_lays_spec (ps := [923, 925, 927, 929, 931, 933, 935, 937, 939, 941, 943, 945, 947, 949, 951, 953, 955, 957, 959, 961, 963, 965, 967, 969, 971, 973, 975, 977, 979, 981, 983, 985, 987, 989, 991, 993, 995, 997, 999, 1001, 1003, 1005]) (by decide +kernel), by decide +kernel, by decide +kernel, by decide +kernel⟩
set_option maxRecDepth 100000 in
theorem xt_cok10 : xt_cok 10 ("java/util/ArrayList", xt_T10, 3) := ⟨xt_lays_spec (ps := [246, 248, 250]) (by decide +kernel), by decide +kernel, by decide +kernel, by decide +kernel⟩
theorem xt_okC : xv_okC xt_cl xt_tyf xt_rk xt_aty xt_WS := by
  refine ⟨fun ci q hq => ?_, rfl, rfl, rfl, rfl⟩
  rcases ci with _ | _ | _ | _ | _ | _ | _ | _ | _ | _ | _ | ci
  · cases hq; exact xt_cok0
  · cases hq; exact xt_cok1
  · cases hq; exact xt_cok2
  · cases hq; exact xt_cok3
  · cases hq; exact xt_cok4
  · cases hq; exact xt_cok5
  · cases hq; exact xt_cok6
  · cases hq; exact xt_cok7
  · cases hq; exact xt_cok8
  · cases hq; exact xt_cok9
  · cases hq; exact xt_cok10
  · simp [xt_cl] at hq
theorem xt_goods : ∀ x ∈ xt_WS, (x.onTables && x.keeps) = true ∨ ∃ ty, x = .arrayClass ty := fun x hx => good_of_word (List.mem_filter.mp hx).2
theorem xt_e0 : xt_each xt_P 0 [xt_M0, xt_M1, xt_M2, xt_M3, xt_M4, xt_M5, xt_M6, xt_M7, xt_M8, xt_M9, xt_M10, xt_M11, xt_M12, xt_M13, xt_M14, xt_M15, xt_M16, xt_M17, xt_M18, xt_M19, xt_M20, xt_M21, xt_M22, xt_M23, xt_M24, xt_M25, xt_M26, xt_M27, xt_M28, xt_M29, xt_M30, xt_M31] := ⟨xt_p0, xt_p1, xt_p2, xt_p3, xt_p4, xt_p5, xt_p6, xt_p7, xt_p8, xt_p9, xt_p10, xt_p11, xt_p12, xt_p13, xt_p14, xt_p15, xt_p16, xt_p17, xt_p18, xt_p19, xt_p20, xt_p21, xt_p22, xt_p23, xt_p24, xt_p25, xt_p26, xt_p27, xt_p28, xt_p29, xt_p30, xt_p31, trivial⟩
theorem xt_e1 : xt_each xt_P 32 [xt_M32, xt_M33, xt_M34, xt_M35, xt_M36, xt_M37, xt_M38, xt_M39, xt_M40, xt_M41, xt_M42, xt_M43, xt_M44, xt_M45, xt_M46, xt_M47, xt_M48, xt_M49, xt_M50, xt_M51, xt_M52, xt_M53, xt_M54, xt_M55, xt_M56, xt_M57, xt_M58, xt_M59, xt_M60, xt_M61, xt_M62, xt_M63] := ⟨xt_p32, xt_p33, xt_p34, xt_p35, xt_p36, xt_p37, xt_p38, xt_p39, xt_p40, xt_p41, xt_p42, xt_p43, xt_p44, xt_p45, xt_p46, xt_p47, xt_p48, xt_p49, xt_p50, xt_p51, xt_p52, xt_p53, xt_p54, xt_p55, xt_p56, xt_p57, xt_p58, xt_p59, xt_p60, xt_p61, xt_p62, xt_p63, trivial⟩
theorem xt_e2 : xt_each xt_P 64 [xt_M64, xt_M65, xt_M66, xt_M67, xt_M68, xt_M69, xt_M70, xt_M71, xt_M72, xt_M73, xt_M74, xt_M75, xt_M76, xt_M77, xt_M78, xt_M79, xt_M80, xt_M81, xt_M82, xt_M83, xt_M84, xt_M85, xt_M86, xt_M87, xt_M88, xt_M89, xt_M90, xt_M91, xt_M92, xt_M93, xt_M94, xt_M95] := ⟨xt_p64, xt_p65, xt_p66, xt_p67, xt_p68, xt_p69, xt_p70, xt_p71, xt_p72, xt_p73, xt_p74, xt_p75, xt_p76, xt_p77, xt_p78, xt_p79, xt_p80, xt_p81, xt_p82, xt_p83, xt_p84, xt_p85, xt_p86, xt_p87, xt_p88, xt_p89, xt_p90, xt_p91, xt_p92, xt_p93, xt_p94, xt_p95, trivial⟩
theorem xt_e3 : xt_each xt_P 96 [xt_M96, xt_M97, xt_M98, xt_M99, xt_M100, xt_M101, xt_M102, xt_M103, xt_M104, xt_M105, xt_M106, xt_M107, xt_M108, xt_M109, xt_M110, xt_M111, xt_M112, xt_M113, xt_M114, xt_M115, xt_M116, xt_M117, xt_M118, xt_M119, xt_M120, xt_M121, xt_M122, xt_M123, xt_M124, xt_M125, xt_M126, xt_M127] := ⟨xt_p96, xt_p97, xt_p98, xt_p99, xt_p100, xt_p101, xt_p102, xt_p103, xt_p104, xt_p105, xt_p106, xt_p107, xt_p108, xt_p109, xt_p110, xt_p111, xt_p112, xt_p113, xt_p114, xt_p115, xt_p116, xt_p117, xt_p118, xt_p119, xt_p120, xt_p121, xt_p122, xt_p123, xt_p124, xt_p125, xt_p126, xt_p127, trivial⟩
theorem xt_e4 : xt_each xt_P 128 [xt_M128, xt_M129, xt_M130, xt_M131, xt_M132, xt_M133, xt_M134, xt_M135, xt_M136, xt_M137, xt_M138, xt_M139, xt_M140, xt_M141, xt_M142, xt_M143, xt_M144, xt_M145, xt_M146, xt_M147, xt_M148, xt_M149, xt_M150, xt_M151, xt_M152, xt_M153, xt_M154, xt_M155, xt_M156, xt_M157, xt_M158, xt_M159] := ⟨xt_p128, xt_p129, xt_p130, xt_p131, xt_p132, xt_p133, xt_p134, xt_p135, xt_p136, xt_p137, xt_p138, xt_p139, xt_p140, xt_p141, xt_p142, xt_p143, xt_p144, xt_p145, xt_p146, xt_p147, xt_p148, xt_p149, xt_p150, xt_p151, xt_p152, xt_p153, xt_p154, xt_p155, xt_p156, xt_p157, xt_p158, xt_p159, trivial⟩
theorem xt_e5 : xt_each xt_P 160 [xt_M160, xt_M161, xt_M162, xt_M163, xt_M164, xt_M165, xt_M166, xt_M167, xt_M168, xt_M169, xt_M170, xt_M171, xt_M172, xt_M173, xt_M174, xt_M175, xt_M176, xt_M177, xt_M178, xt_M179, xt_M180, xt_M181, xt_M182, xt_M183, xt_M184, xt_M185, xt_M186, xt_M187, xt_M188] := ⟨xt_p160, xt_p161, xt_p162, xt_p163, xt_p164, xt_p165, xt_p166, xt_p167, xt_p168, xt_p169, xt_p170, xt_p171, xt_p172, xt_p173, xt_p174, xt_p175, xt_p176, xt_p177, xt_p178, xt_p179, xt_p180, xt_p181, xt_p182, xt_p183, xt_p184, xt_p185, xt_p186, xt_p187, xt_p188, trivial⟩
theorem xt_each_app {P : Nat → xv_M → Prop} : ∀ {a b : List xv_M} {i : Nat}, xt_each P i a → xt_each P (i + a.length) b → xt_each P i (a ++ b)
  | [], b, i, _, h => by simpa using h
  | m :: t, b, i, h1, h2 => ⟨h1.1, xt_each_app h1.2 (by rw [show i + 1 + t.length = i + (m :: t).length by simp only [List.length_cons]; omega]; exact h2)⟩
theorem xt_eall : xt_each xt_P 0 xt_mt := xt_each_app xt_e0 (xt_each_app xt_e1 (xt_each_app xt_e2 (xt_each_app xt_e3 (xt_each_app xt_e4 (xt_e5)))))
theorem xt_tab : xv_Tab xt_yL xt_sx xt_mt xt_cl xt_tyf xt_rk xt_aty xt_cp xt_cs xt_WS xt_stt xt_cd xt_mx := ⟨xt_okC, xt_goods, fun y M h => by
  have := xt_each_spec xt_eall y M h
  rw [Nat.zero_add] at this
  exact this⟩
