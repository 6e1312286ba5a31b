/-! All plain instructions; what grows; calls; the machine does what the abstract one does. -/
theorem xv_act_grows {sc : Nat × (Nat → Int32)} {cp : Nat → Nat} {lg : List Nat} {ic : xv_I} {pc : Nat} {L : xv_L} {st : List Value} {h : xv_H} {x : xv_N} (ha : xv_act sc cp lg ic pc L st h = some x) : h.1 ≤ x.2.2.2.1 ∧ h.2.1 ≤ x.2.2.2.2.1 := by
  obtain ⟨I, r, q⟩ := ic
  obtain ⟨n, z, tg, ln, fr, er, fi, ei, el⟩ := h
  cases I <;> simp only [xv_act, xv_i1, xv_i2, xv_l1, xv_l2, xv_li, xv_r1, xv_q1, xv_v1, xv_in, xv_iload, xv_lload, xv_aload, xv_st1, xv_st2, xv_len, xv_if, xv_jmp, xv_nx, xv_new1, xv_new] at ha <;> (repeat' split at ha) <;> first | (cases ha; exact ⟨Nat.le_refl _, Nat.le_refl _⟩) | (cases ha; exact ⟨Nat.le_succ _, Nat.le_add_right _ _⟩) | cases ha
section XP
variable {p : Program} {l : Launch} {e : Env} {R : Room} {s : State} {m : MethodId} {args : Array Value} {below : List Frame} {meth : Method} {c : Code} {Q : State → Prop} {cc : ByteArray} {w : xv_W} {cl : List vw_C} {rk : Nat → Bool} {aty : List FieldType} {WS : List Jvm.Cond} {stt : List (String × String × String)} {sx : xv_X} {sc : Nat × (Nat → Int32)} {nL n0 z0 nE zE : Nat} {lg : List Nat} {pc : Nat} {L : xv_L} {st : List Value} {h : xv_H} {tyf : Nat → Nat → FieldType} {cp : Nat → Nat} {y : MethodName} {ic : xv_I} {x : xv_N}
theorem xv_plain (hC : xv_Cx p R s m args meth c cc w cl aty WS stt sx sc y.cls nL n0 z0 nE zE) (hd : xv_dec cc pc ic.1) (hT : xv_okC cl tyf rk aty WS) (hok : xv_okI sx cl tyf rk aty cp WS stt y pc ic) (hmn : y.name = "<init>" → meth.name = "<init>") (hI : ∀ a b, xv_cmp a b → xv_al w a = xv_al w b → a = b) (hE : x.2.2.2.1 ≤ nE) (hZ : x.2.2.2.2.1 ≤ zE) (ha : xv_act sc cp lg ic pc L st h = some x) (hG : xv_G p l e R s m args below meth c Q w cl rk lg nL n0 z0 x) : xv_G p l e R s m args below meth c Q w cl rk lg nL n0 z0 (pc, L, st, h) := by
  obtain ⟨I, r, q⟩ := ic
  obtain ⟨n, z, tg, ln, fr, er, fi, ei, el⟩ := h
  cases I
  case aconst_null => exact xd_null hC hd ha hG
  case iconst => exact xd_iconst hC hd ha hG
  case bipush => exact xd_bipush hC hd ha hG
  case sipush => exact xd_sipush hC hd ha hG
  case lconst => exact xd_lconst hC hd ha hG
  case ldc => exact xe_ldc hC hd hT hok hE hZ ha hG
  case ldc2_w => exact xe_ldc2 hC hd hT hok hE hZ ha hG
  case iload => exact xd_iload hC hd ha hG
  case iload_n => exact xd_iload_n hC hd ha hG
  case lload => exact xd_lload hC hd ha hG
  case lload_n => exact xd_lload_n hC hd ha hG
  case aload => exact xd_aload hC hd ha hG
  case aload_n => exact xd_aload_n hC hd ha hG
  case istore => exact xd_istore hC hd ha hG
  case istore_n => exact xd_istore_n hC hd ha hG
  case lstore => exact xd_lstore hC hd ha hG
  case lstore_n => exact xd_lstore_n hC hd ha hG
  case astore => exact xd_astore hC hd ha hG
  case astore_n => exact xd_astore_n hC hd ha hG
  case iinc => exact xd_iinc hC hd ha hG
  case iadd => exact xd_iadd hC hd ha hG
  case isub => exact xd_isub hC hd ha hG
  case imul => exact xd_imul hC hd ha hG
  case iand => exact xd_iand hC hd ha hG
  case ior => exact xd_ior hC hd ha hG
  case idiv => exact xd_idiv hC hd ha hG
  case irem => exact xd_irem hC hd ha hG
  case ishl => exact xd_ishl hC hd ha hG
  case ishr => exact xd_ishr hC hd ha hG
  case ladd => exact xd_ladd hC hd ha hG
  case lmul => exact xd_lmul hC hd ha hG
  case land => exact xd_land hC hd ha hG
  case lor => exact xd_lor hC hd ha hG
  case lxor => exact xd_lxor hC hd ha hG
  case lshl => exact xd_lshl hC hd ha hG
  case lshr => exact xd_lshr hC hd ha hG
  case i2l => exact xd_i2l hC hd ha hG
  case l2i => exact xd_l2i hC hd ha hG
  case i2b => exact xd_i2b hC hd ha hG
  case pop => exact xd_pop hC hd ha hG
  case dup => exact xd_dup hC hd ha hG
  case dup_x1 => exact xd_dup_x1 hC hd ha hG
  case dup_x2 => exact xd_dup_x2 hC hd ha hG
  case dup2 => exact xd_dup2 hC hd ha hG
  case ifCond => exact xd_if hC hd hok ha hG
  case if_icmp => exact xd_icmp hC hd hok ha hG
  case if_acmp => exact xd_acmp hC hd hI hok ha hG
  case ifnull => exact xd_ifnull hC hd hok ha hG
  case ifnonnull => exact xd_ifnonnull hC hd hok ha hG
  case goto => exact xd_goto hC hd ha hG
  case tableswitch => exact xd_table hC hd ha hG
  case getfield => exact xe_getf hC hd hT hok hE hZ ha hG
  case putfield => exact xe_putf hC hd hT hok hmn hE hZ ha hG
  case getstatic => exact xe_gets hC hd hT hok hE hZ ha hG
  case iaload => exact xe_iald hC hd hT hok hE hZ ha hG
  case baload => exact xe_bald hC hd hT hok hE hZ ha hG
  case laload => exact xe_lald hC hd hT hok hE hZ ha hG
  case aaload => exact xe_aald hC hd hT hok hE hZ ha hG
  case iastore => exact xe_iast hC hd hT hok hE hZ ha hG
  case bastore => exact xe_bast hC hd hT hok hE hZ ha hG
  case lastore => exact xe_last hC hd hT hok hE hZ ha hG
  case aastore => exact xe_aast hC hd hT hok hE hZ ha hG
  case arraylength => exact xe_alen hC hd hT hok hE hZ ha hG
  case new => exact xe_new hC hd hT hok hE hZ ha hG
  case newarray => exact xe_newa hC hd hT hok hE hZ ha hG
  case anewarray => exact xe_anew hC hd hT hok hE hZ ha hG
  case checkcast => exact xe_cast hC hd hT hok hE hZ ha hG
  all_goals cases ha
end XP
