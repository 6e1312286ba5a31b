/-! Every plain instruction. -/
/-- a method: name, code, locals, answer; how many frames and how many words of frames its calls take -/
abbrev xv_M : Type := MethodName × ByteArray × Nat × Option FieldType × Nat × Nat
def xv_same (WS : List Jvm.Cond) (ref o n d : String) : Prop := ref = o ∨ Jvm.Cond.sameField ref o n d ∈ WS
/-- an instruction is resolved as the words say -/
def xv_okI (sx : xv_X) (cl : List vw_C) (tyf : Nat → Nat → FieldType) (rk : Nat → Bool) (aty : List FieldType) (cp : Nat → Nat) (WS : List Jvm.Cond) (stt : List (String × String × String)) (y : MethodName) (pc : Nat) (ic : xv_I) : Prop := match ic.1 with
  | .ldc i => (ic.2.2 = 0 ∧ Jvm.Cond.constant y.cls i (Int32.ofNat ic.2.1) ∈ WS) ∨ (ic.2.2 = 1 ∧ Jvm.Cond.classLink y.cls i "[Ljava/lang/Object;" ∈ WS)
  | .ldc2_w i => Jvm.Cond.constantLong y.cls i (Int64.ofNat ic.2.1) ∈ WS
  | .ifCond _ off => 0 ≤ (pc : Int) + off
  | .if_icmp _ off => 0 ≤ (pc : Int) + off
  | .if_acmp _ off => 0 ≤ (pc : Int) + off
  | .ifnull off => 0 ≤ (pc : Int) + off
  | .ifnonnull off => 0 ≤ (pc : Int) + off
  | .getfield i => ∃ (ci k : Nat) (q : vw_C) (ref : String), ic.2.1 = 100 * ci + k ∧ k < 100 ∧ ci < 100 ∧ cl[ci]? = some q ∧ k < q.2.2 ∧ Jvm.Cond.fieldLink y.cls i ref (q.2.1 k).2.1 (q.2.1 k).2.2.1 ∈ WS ∧ xv_same WS ref (q.2.1 k).1 (q.2.1 k).2.1 (q.2.1 k).2.2.1 ∧ rk ic.2.1 = decide (ic.2.2 = 1)
  | .putfield i => ∃ (ci k : Nat) (q : vw_C) (ref : String), ic.2.1 = 100 * ci + k ∧ k < 100 ∧ ci < 100 ∧ cl[ci]? = some q ∧ k < q.2.2 ∧ Jvm.Cond.fieldLink y.cls i ref (q.2.1 k).2.1 (q.2.1 k).2.2.1 ∈ WS ∧ xv_same WS ref (q.2.1 k).1 (q.2.1 k).2.1 (q.2.1 k).2.2.1 ∧ rk ic.2.1 = decide (ic.2.2 = 1) ∧
      ((q.2.1 k).2.2.2 = false ∨ ((q.2.1 k).2.2.2 = true ∧ y.name = "<init>" ∧ (q.2.1 k).1 = y.cls)) ∧ (ic.2.2 = 1 → (∃ C, tyf ci k = .object C) ∨ ∃ t, tyf ci k = .array t) ∧ (ic.2.2 = 0 → tyf ci k = .int) ∧ (ic.2.2 = 2 → tyf ci k = .boolean)
  | .getstatic i => ∃ (q : String × String × String) (ref : String) (k : Nat), ic.2.1 = k + 2 ∧ stt[k]? = some q ∧ Jvm.Cond.fieldLink y.cls i ref q.2.1 q.2.2 ∈ WS ∧ xv_same WS ref q.1 q.2.1 q.2.2
  | .aaload => ∃ (j : Nat) (C : String), ic.2.1 = 100 + j ∧ 4 ≤ j ∧ aty[j]? = some (.object C)
  | .aastore => ∃ (j : Nat) (C : String) (q : vw_C), ic.2.1 = 100 + j ∧ 4 ≤ j ∧ aty[j]? = some (.object C) ∧ cl[cp ic.2.1]? = some q ∧ cp ic.2.1 < 100 ∧ (C = q.1 ∨ (q.1, C) ∈ sx.1)
  | .arraylength => ∃ (j : Nat) (ty : FieldType), ic.2.1 = 100 + j ∧ aty[j]? = some ty
  | .new i => ∃ q : vw_C, cl[ic.2.1]? = some q ∧ ic.2.1 < 100 ∧ ic.2.2 = q.2.2 ∧ Jvm.Cond.classLink y.cls i q.1 ∈ WS ∧ Jvm.Cond.instantiable q.1 q.2.2 ∈ WS ∧ Jvm.Cond.initialized q.1 ∈ WS
  | .newarray t => ∃ j : Nat, ic.2.1 = 100 + j ∧ aty[j]? = some (newarray.typeOf t) ∧ Jvm.Cond.arrayClass (newarray.typeOf t) ∈ WS ∧ ((j = 3 ∧ newarray.typeOf t = .long) ∨ (j < 3 ∧ defaultValue (newarray.typeOf t) = .int 0 ∧ componentBytes (newarray.typeOf t) ≤ 4))
  | .anewarray i => ∃ (j : Nat) (C : String), ic.2.1 = 100 + j ∧ 4 ≤ j ∧ aty[j]? = some (.object C) ∧ Jvm.Cond.classLink y.cls i C ∈ WS ∧ C ∈ sx.2.1
  | .checkcast i => (∃ q : vw_C, cl[ic.2.1]? = some q ∧ ic.2.1 < 100 ∧ Jvm.Cond.classLink y.cls i q.1 ∈ WS) ∨ ∃ (j : Nat) (ty : FieldType), ic.2.1 = 100 + j ∧ aty[j]? = some ty ∧ Jvm.Cond.classLink y.cls i ("[" ++ ty.toString) ∈ WS
  | _ => True
/-- the tables of fields and arrays -/
def xv_okC (cl : List vw_C) (tyf : Nat → Nat → FieldType) (rk : Nat → Bool) (aty : List FieldType) (WS : List Jvm.Cond) : Prop :=
  (∀ (ci : Nat) (q : vw_C), cl[ci]? = some q → (∀ x ∈ u_ws q.1 q.2.1 q.2.2, x ∈ WS) ∧ (∀ k, k < q.2.2 → parseFieldDescriptor (q.2.1 k).2.2.1 = some (tyf ci k)) ∧ (∀ a, a < q.2.2 → ∀ b, b < q.2.2 → a ≠ b → (q.2.1 a).2.1 ≠ (q.2.1 b).2.1) ∧ ∀ k, k < q.2.2 → defaultValue (tyf ci k) = if rk (100 * ci + k) = true then .null else .int 0) ∧
  aty[0]? = some .int ∧ aty[1]? = some .byte ∧ aty[2]? = some .boolean ∧ aty[3]? = some .long
/-- how long an instruction is; 0: any length -/
def xv_il (i : ClassFile.Instr) : Nat := match i with
  | .tableswitch _ _ _ _ => 0
  | .bipush _ | .ldc _ | .iload _ | .lload _ | .aload _ | .istore _ | .lstore _ | .astore _ | .newarray _ => 2
  | .sipush _ | .ldc2_w _ | .iinc _ _ | .ifCond _ _ | .if_icmp _ _ | .if_acmp _ _ | .ifnull _ | .ifnonnull _ | .goto _ | .getfield _ | .putfield _ | .getstatic _ | .new _ | .anewarray _ | .checkcast _ | .invokestatic _ | .invokespecial _ | .invokevirtual _ => 3
  | _ => 1
def xv_dec (cc : ByteArray) (pc : Nat) (i : ClassFile.Instr) : Prop := ∃ len, decode cc pc = .ok (i, len) ∧ (xv_il i = 0 ∨ len = xv_il i)
theorem xv_dec.at {cc : ByteArray} {pc k : Nat} {i : ClassFile.Instr} (h : xv_dec cc pc i) (hk : xv_il i = k + 1) : decode cc pc = .ok (i, k + 1) := by
  obtain ⟨len, h1, h2 | h2⟩ := h
  · omega
  · rw [h1, h2, hk]
theorem xv_nm {s : State} {cA : ClassId} {ty : FieldType} (h : va_RA s cA ty) : s.vm.findClass ("[" ++ ty.toString) = some cA := by
  cases ty <;> first | exact h | (obtain ⟨_, _, -, -, -, h4⟩ := h; exact h4)
section XD
variable {p : Program} {l : Launch} {e : Env} {R : Room} {s : State} {m : MethodId} {args : Array Value} {below : List Frame} {meth : Method} {c : Code} {Q : State → Prop} {cc : ByteArray} {w : xv_W} {cl : List vw_C} {rk : Nat → Bool} {aty : List FieldType} {WS : List Jvm.Cond} {stt : List (String × String × String)} {sx : xv_X} {sc : Nat × (Nat → Int32)} {nL n0 z0 nE zE : Nat} {lg : List Nat} {pc : Nat} {L : xv_L} {st : List Value} {h : xv_H} {tyf : Nat → Nat → FieldType} {cp : Nat → Nat} {y : MethodName} {r q : Nat} {x : xv_N}
theorem xd_null (hC : xv_Cx p R s m args meth c cc w cl aty WS stt sx sc y.cls nL n0 z0 nE zE) (hd : xv_dec cc pc (.aconst_null)) (ha : xv_act sc cp lg (.aconst_null, r, q) pc L st h = some x) (hG : xv_G p l e R s m args below meth c Q w cl rk lg nL n0 z0 x) : xv_G p l e R s m args below meth c Q w cl rk lg nL n0 z0 (pc, L, st, h) := by
  simp only [xv_act] at ha
  cases xv_nx_inv ha
  exact xs_null hC (hd.at rfl) hG
theorem xd_iconst {n : Int} (hC : xv_Cx p R s m args meth c cc w cl aty WS stt sx sc y.cls nL n0 z0 nE zE) (hd : xv_dec cc pc (.iconst n)) (ha : xv_act sc cp lg (.iconst n, r, q) pc L st h = some x) (hG : xv_G p l e R s m args below meth c Q w cl rk lg nL n0 z0 x) : xv_G p l e R s m args below meth c Q w cl rk lg nL n0 z0 (pc, L, st, h) := by
  simp only [xv_act] at ha
  cases xv_nx_inv ha
  exact xs_iconst hC (hd.at rfl) hG
theorem xd_bipush {n : Int} (hC : xv_Cx p R s m args meth c cc w cl aty WS stt sx sc y.cls nL n0 z0 nE zE) (hd : xv_dec cc pc (.bipush n)) (ha : xv_act sc cp lg (.bipush n, r, q) pc L st h = some x) (hG : xv_G p l e R s m args below meth c Q w cl rk lg nL n0 z0 x) : xv_G p l e R s m args below meth c Q w cl rk lg nL n0 z0 (pc, L, st, h) := by
  simp only [xv_act] at ha
  cases xv_nx_inv ha
  exact xs_bipush hC (hd.at rfl) hG
theorem xd_sipush {n : Int} (hC : xv_Cx p R s m args meth c cc w cl aty WS stt sx sc y.cls nL n0 z0 nE zE) (hd : xv_dec cc pc (.sipush n)) (ha : xv_act sc cp lg (.sipush n, r, q) pc L st h = some x) (hG : xv_G p l e R s m args below meth c Q w cl rk lg nL n0 z0 x) : xv_G p l e R s m args below meth c Q w cl rk lg nL n0 z0 (pc, L, st, h) := by
  simp only [xv_act] at ha
  cases xv_nx_inv ha
  exact xs_sipush hC (hd.at rfl) hG
theorem xd_lconst {n : Fin 2} (hC : xv_Cx p R s m args meth c cc w cl aty WS stt sx sc y.cls nL n0 z0 nE zE) (hd : xv_dec cc pc (.lconst n)) (ha : xv_act sc cp lg (.lconst n, r, q) pc L st h = some x) (hG : xv_G p l e R s m args below meth c Q w cl rk lg nL n0 z0 x) : xv_G p l e R s m args below meth c Q w cl rk lg nL n0 z0 (pc, L, st, h) := by
  simp only [xv_act] at ha
  cases xv_nx_inv ha
  exact xs_lconst hC (hd.at rfl) hG
theorem xd_iadd (hC : xv_Cx p R s m args meth c cc w cl aty WS stt sx sc y.cls nL n0 z0 nE zE) (hd : xv_dec cc pc (.iadd)) (ha : xv_act sc cp lg (.iadd, r, q) pc L st h = some x) (hG : xv_G p l e R s m args below meth c Q w cl rk lg nL n0 z0 x) : xv_G p l e R s m args below meth c Q w cl rk lg nL n0 z0 (pc, L, st, h) := by
  simp only [xv_act] at ha
  obtain ⟨a, b, t, rfl, ha1⟩ := xv_i2_inv ha
  cases xv_nx_inv ha1
  exact xs_iadd hC (hd.at rfl) hG
theorem xd_isub (hC : xv_Cx p R s m args meth c cc w cl aty WS stt sx sc y.cls nL n0 z0 nE zE) (hd : xv_dec cc pc (.isub)) (ha : xv_act sc cp lg (.isub, r, q) pc L st h = some x) (hG : xv_G p l e R s m args below meth c Q w cl rk lg nL n0 z0 x) : xv_G p l e R s m args below meth c Q w cl rk lg nL n0 z0 (pc, L, st, h) := by
  simp only [xv_act] at ha
  obtain ⟨a, b, t, rfl, ha1⟩ := xv_i2_inv ha
  cases xv_nx_inv ha1
  exact xs_isub hC (hd.at rfl) hG
theorem xd_imul (hC : xv_Cx p R s m args meth c cc w cl aty WS stt sx sc y.cls nL n0 z0 nE zE) (hd : xv_dec cc pc (.imul)) (ha : xv_act sc cp lg (.imul, r, q) pc L st h = some x) (hG : xv_G p l e R s m args below meth c Q w cl rk lg nL n0 z0 x) : xv_G p l e R s m args below meth c Q w cl rk lg nL n0 z0 (pc, L, st, h) := by
  simp only [xv_act] at ha
  obtain ⟨a, b, t, rfl, ha1⟩ := xv_i2_inv ha
  cases xv_nx_inv ha1
  exact xs_imul hC (hd.at rfl) hG
theorem xd_iand (hC : xv_Cx p R s m args meth c cc w cl aty WS stt sx sc y.cls nL n0 z0 nE zE) (hd : xv_dec cc pc (.iand)) (ha : xv_act sc cp lg (.iand, r, q) pc L st h = some x) (hG : xv_G p l e R s m args below meth c Q w cl rk lg nL n0 z0 x) : xv_G p l e R s m args below meth c Q w cl rk lg nL n0 z0 (pc, L, st, h) := by
  simp only [xv_act] at ha
  obtain ⟨a, b, t, rfl, ha1⟩ := xv_i2_inv ha
  cases xv_nx_inv ha1
  exact xs_iand hC (hd.at rfl) hG
theorem xd_ior (hC : xv_Cx p R s m args meth c cc w cl aty WS stt sx sc y.cls nL n0 z0 nE zE) (hd : xv_dec cc pc (.ior)) (ha : xv_act sc cp lg (.ior, r, q) pc L st h = some x) (hG : xv_G p l e R s m args below meth c Q w cl rk lg nL n0 z0 x) : xv_G p l e R s m args below meth c Q w cl rk lg nL n0 z0 (pc, L, st, h) := by
  simp only [xv_act] at ha
  obtain ⟨a, b, t, rfl, ha1⟩ := xv_i2_inv ha
  cases xv_nx_inv ha1
  exact xs_ior hC (hd.at rfl) hG
theorem xd_ishl (hC : xv_Cx p R s m args meth c cc w cl aty WS stt sx sc y.cls nL n0 z0 nE zE) (hd : xv_dec cc pc (.ishl)) (ha : xv_act sc cp lg (.ishl, r, q) pc L st h = some x) (hG : xv_G p l e R s m args below meth c Q w cl rk lg nL n0 z0 x) : xv_G p l e R s m args below meth c Q w cl rk lg nL n0 z0 (pc, L, st, h) := by
  simp only [xv_act] at ha
  obtain ⟨a, b, t, rfl, ha1⟩ := xv_i2_inv ha
  cases xv_nx_inv ha1
  exact xs_ishl hC (hd.at rfl) hG
theorem xd_ishr (hC : xv_Cx p R s m args meth c cc w cl aty WS stt sx sc y.cls nL n0 z0 nE zE) (hd : xv_dec cc pc (.ishr)) (ha : xv_act sc cp lg (.ishr, r, q) pc L st h = some x) (hG : xv_G p l e R s m args below meth c Q w cl rk lg nL n0 z0 x) : xv_G p l e R s m args below meth c Q w cl rk lg nL n0 z0 (pc, L, st, h) := by
  simp only [xv_act] at ha
  obtain ⟨a, b, t, rfl, ha1⟩ := xv_i2_inv ha
  cases xv_nx_inv ha1
  exact xs_ishr hC (hd.at rfl) hG
theorem xd_idiv (hC : xv_Cx p R s m args meth c cc w cl aty WS stt sx sc y.cls nL n0 z0 nE zE) (hd : xv_dec cc pc (.idiv)) (ha : xv_act sc cp lg (.idiv, r, q) pc L st h = some x) (hG : xv_G p l e R s m args below meth c Q w cl rk lg nL n0 z0 x) : xv_G p l e R s m args below meth c Q w cl rk lg nL n0 z0 (pc, L, st, h) := by
  simp only [xv_act] at ha
  obtain ⟨a, b, t, rfl, ha1⟩ := xv_i2_inv ha
  split at ha1
  · cases ha1
  · rename_i hb
    cases xv_nx_inv ha1
    exact xs_idiv hC (hd.at rfl) hb hG
theorem xd_irem (hC : xv_Cx p R s m args meth c cc w cl aty WS stt sx sc y.cls nL n0 z0 nE zE) (hd : xv_dec cc pc (.irem)) (ha : xv_act sc cp lg (.irem, r, q) pc L st h = some x) (hG : xv_G p l e R s m args below meth c Q w cl rk lg nL n0 z0 x) : xv_G p l e R s m args below meth c Q w cl rk lg nL n0 z0 (pc, L, st, h) := by
  simp only [xv_act] at ha
  obtain ⟨a, b, t, rfl, ha1⟩ := xv_i2_inv ha
  split at ha1
  · cases ha1
  · rename_i hb
    cases xv_nx_inv ha1
    exact xs_irem hC (hd.at rfl) hb hG
theorem xd_ladd (hC : xv_Cx p R s m args meth c cc w cl aty WS stt sx sc y.cls nL n0 z0 nE zE) (hd : xv_dec cc pc (.ladd)) (ha : xv_act sc cp lg (.ladd, r, q) pc L st h = some x) (hG : xv_G p l e R s m args below meth c Q w cl rk lg nL n0 z0 x) : xv_G p l e R s m args below meth c Q w cl rk lg nL n0 z0 (pc, L, st, h) := by
  simp only [xv_act] at ha
  obtain ⟨a, b, t, rfl, ha1⟩ := xv_l2_inv ha
  cases xv_nx_inv ha1
  exact xs_ladd hC (hd.at rfl) hG
theorem xd_lmul (hC : xv_Cx p R s m args meth c cc w cl aty WS stt sx sc y.cls nL n0 z0 nE zE) (hd : xv_dec cc pc (.lmul)) (ha : xv_act sc cp lg (.lmul, r, q) pc L st h = some x) (hG : xv_G p l e R s m args below meth c Q w cl rk lg nL n0 z0 x) : xv_G p l e R s m args below meth c Q w cl rk lg nL n0 z0 (pc, L, st, h) := by
  simp only [xv_act] at ha
  obtain ⟨a, b, t, rfl, ha1⟩ := xv_l2_inv ha
  cases xv_nx_inv ha1
  exact xs_lmul hC (hd.at rfl) hG
theorem xd_land (hC : xv_Cx p R s m args meth c cc w cl aty WS stt sx sc y.cls nL n0 z0 nE zE) (hd : xv_dec cc pc (.land)) (ha : xv_act sc cp lg (.land, r, q) pc L st h = some x) (hG : xv_G p l e R s m args below meth c Q w cl rk lg nL n0 z0 x) : xv_G p l e R s m args below meth c Q w cl rk lg nL n0 z0 (pc, L, st, h) := by
  simp only [xv_act] at ha
  obtain ⟨a, b, t, rfl, ha1⟩ := xv_l2_inv ha
  cases xv_nx_inv ha1
  exact xs_land hC (hd.at rfl) hG
theorem xd_lor (hC : xv_Cx p R s m args meth c cc w cl aty WS stt sx sc y.cls nL n0 z0 nE zE) (hd : xv_dec cc pc (.lor)) (ha : xv_act sc cp lg (.lor, r, q) pc L st h = some x) (hG : xv_G p l e R s m args below meth c Q w cl rk lg nL n0 z0 x) : xv_G p l e R s m args below meth c Q w cl rk lg nL n0 z0 (pc, L, st, h) := by
  simp only [xv_act] at ha
  obtain ⟨a, b, t, rfl, ha1⟩ := xv_l2_inv ha
  cases xv_nx_inv ha1
  exact xs_lor hC (hd.at rfl) hG
theorem xd_lxor (hC : xv_Cx p R s m args meth c cc w cl aty WS stt sx sc y.cls nL n0 z0 nE zE) (hd : xv_dec cc pc (.lxor)) (ha : xv_act sc cp lg (.lxor, r, q) pc L st h = some x) (hG : xv_G p l e R s m args below meth c Q w cl rk lg nL n0 z0 x) : xv_G p l e R s m args below meth c Q w cl rk lg nL n0 z0 (pc, L, st, h) := by
  simp only [xv_act] at ha
  obtain ⟨a, b, t, rfl, ha1⟩ := xv_l2_inv ha
  cases xv_nx_inv ha1
  exact xs_lxor hC (hd.at rfl) hG
theorem xd_lshl (hC : xv_Cx p R s m args meth c cc w cl aty WS stt sx sc y.cls nL n0 z0 nE zE) (hd : xv_dec cc pc (.lshl)) (ha : xv_act sc cp lg (.lshl, r, q) pc L st h = some x) (hG : xv_G p l e R s m args below meth c Q w cl rk lg nL n0 z0 x) : xv_G p l e R s m args below meth c Q w cl rk lg nL n0 z0 (pc, L, st, h) := by
  simp only [xv_act] at ha
  obtain ⟨a, b, t, rfl, ha1⟩ := xv_li_inv ha
  cases xv_nx_inv ha1
  exact xs_lshl hC (hd.at rfl) hG
theorem xd_lshr (hC : xv_Cx p R s m args meth c cc w cl aty WS stt sx sc y.cls nL n0 z0 nE zE) (hd : xv_dec cc pc (.lshr)) (ha : xv_act sc cp lg (.lshr, r, q) pc L st h = some x) (hG : xv_G p l e R s m args below meth c Q w cl rk lg nL n0 z0 x) : xv_G p l e R s m args below meth c Q w cl rk lg nL n0 z0 (pc, L, st, h) := by
  simp only [xv_act] at ha
  obtain ⟨a, b, t, rfl, ha1⟩ := xv_li_inv ha
  cases xv_nx_inv ha1
  exact xs_lshr hC (hd.at rfl) hG
theorem xd_i2l (hC : xv_Cx p R s m args meth c cc w cl aty WS stt sx sc y.cls nL n0 z0 nE zE) (hd : xv_dec cc pc (.i2l)) (ha : xv_act sc cp lg (.i2l, r, q) pc L st h = some x) (hG : xv_G p l e R s m args below meth c Q w cl rk lg nL n0 z0 x) : xv_G p l e R s m args below meth c Q w cl rk lg nL n0 z0 (pc, L, st, h) := by
  simp only [xv_act] at ha
  obtain ⟨a, t, rfl, ha1⟩ := xv_i1_inv ha
  cases xv_nx_inv ha1
  exact xs_i2l hC (hd.at rfl) hG
theorem xd_i2b (hC : xv_Cx p R s m args meth c cc w cl aty WS stt sx sc y.cls nL n0 z0 nE zE) (hd : xv_dec cc pc (.i2b)) (ha : xv_act sc cp lg (.i2b, r, q) pc L st h = some x) (hG : xv_G p l e R s m args below meth c Q w cl rk lg nL n0 z0 x) : xv_G p l e R s m args below meth c Q w cl rk lg nL n0 z0 (pc, L, st, h) := by
  simp only [xv_act] at ha
  obtain ⟨a, t, rfl, ha1⟩ := xv_i1_inv ha
  cases xv_nx_inv ha1
  exact xs_i2b hC (hd.at rfl) hG
theorem xd_l2i (hC : xv_Cx p R s m args meth c cc w cl aty WS stt sx sc y.cls nL n0 z0 nE zE) (hd : xv_dec cc pc (.l2i)) (ha : xv_act sc cp lg (.l2i, r, q) pc L st h = some x) (hG : xv_G p l e R s m args below meth c Q w cl rk lg nL n0 z0 x) : xv_G p l e R s m args below meth c Q w cl rk lg nL n0 z0 (pc, L, st, h) := by
  simp only [xv_act] at ha
  obtain ⟨a, t, rfl, ha1⟩ := xv_l1_inv ha
  cases xv_nx_inv ha1
  exact xs_l2i hC (hd.at rfl) hG
theorem xd_pop (hC : xv_Cx p R s m args meth c cc w cl aty WS stt sx sc y.cls nL n0 z0 nE zE) (hd : xv_dec cc pc (.pop)) (ha : xv_act sc cp lg (.pop, r, q) pc L st h = some x) (hG : xv_G p l e R s m args below meth c Q w cl rk lg nL n0 z0 x) : xv_G p l e R s m args below meth c Q w cl rk lg nL n0 z0 (pc, L, st, h) := by
  simp only [xv_act] at ha
  obtain ⟨a, t, rfl, h1, ha1⟩ := xv_v1_inv ha
  cases xv_nx_inv ha1
  exact xs_pop hC (hd.at rfl) h1 hG
theorem xd_dup (hC : xv_Cx p R s m args meth c cc w cl aty WS stt sx sc y.cls nL n0 z0 nE zE) (hd : xv_dec cc pc (.dup)) (ha : xv_act sc cp lg (.dup, r, q) pc L st h = some x) (hG : xv_G p l e R s m args below meth c Q w cl rk lg nL n0 z0 x) : xv_G p l e R s m args below meth c Q w cl rk lg nL n0 z0 (pc, L, st, h) := by
  simp only [xv_act] at ha
  obtain ⟨a, t, rfl, h1, ha1⟩ := xv_v1_inv ha
  cases xv_nx_inv ha1
  exact xs_dup hC (hd.at rfl) h1 hG
theorem xd_dup_x1 (hC : xv_Cx p R s m args meth c cc w cl aty WS stt sx sc y.cls nL n0 z0 nE zE) (hd : xv_dec cc pc (.dup_x1)) (ha : xv_act sc cp lg (.dup_x1, r, q) pc L st h = some x) (hG : xv_G p l e R s m args below meth c Q w cl rk lg nL n0 z0 x) : xv_G p l e R s m args below meth c Q w cl rk lg nL n0 z0 (pc, L, st, h) := by
  simp only [xv_act] at ha
  obtain ⟨a, t, rfl, h1, ha1⟩ := xv_v1_inv ha
  obtain ⟨b, t, rfl, h2, ha2⟩ := xv_v1_inv ha1
  cases xv_nx_inv ha2
  exact xs_dup_x1 hC (hd.at rfl) h1 h2 hG
theorem xd_dup2 (hC : xv_Cx p R s m args meth c cc w cl aty WS stt sx sc y.cls nL n0 z0 nE zE) (hd : xv_dec cc pc (.dup2)) (ha : xv_act sc cp lg (.dup2, r, q) pc L st h = some x) (hG : xv_G p l e R s m args below meth c Q w cl rk lg nL n0 z0 x) : xv_G p l e R s m args below meth c Q w cl rk lg nL n0 z0 (pc, L, st, h) := by
  simp only [xv_act] at ha
  obtain ⟨a, t, rfl, h1, ha1⟩ := xv_v1_inv ha
  obtain ⟨b, t, rfl, h2, ha2⟩ := xv_v1_inv ha1
  cases xv_nx_inv ha2
  exact xs_dup2 hC (hd.at rfl) h1 h2 hG
theorem xd_dup_x2 (hC : xv_Cx p R s m args meth c cc w cl aty WS stt sx sc y.cls nL n0 z0 nE zE) (hd : xv_dec cc pc (.dup_x2)) (ha : xv_act sc cp lg (.dup_x2, r, q) pc L st h = some x) (hG : xv_G p l e R s m args below meth c Q w cl rk lg nL n0 z0 x) : xv_G p l e R s m args below meth c Q w cl rk lg nL n0 z0 (pc, L, st, h) := by
  simp only [xv_act] at ha
  obtain ⟨a, t, rfl, h1, ha1⟩ := xv_v1_inv ha
  obtain ⟨b, t, rfl, h2, ha2⟩ := xv_v1_inv ha1
  obtain ⟨d, t, rfl, h3, ha3⟩ := xv_v1_inv ha2
  cases xv_nx_inv ha3
  exact xs_dup_x2 hC (hd.at rfl) h1 h2 h3 hG
theorem xd_iload {i : Nat} (hC : xv_Cx p R s m args meth c cc w cl aty WS stt sx sc y.cls nL n0 z0 nE zE) (hd : xv_dec cc pc (.iload i)) (ha : xv_act sc cp lg (.iload i, r, q) pc L st h = some x) (hG : xv_G p l e R s m args below meth c Q w cl rk lg nL n0 z0 x) : xv_G p l e R s m args below meth c Q w cl rk lg nL n0 z0 (pc, L, st, h) := by
  simp only [xv_act] at ha
  obtain ⟨a, h1, ha1⟩ := xv_iload_inv ha
  cases xv_nx_inv ha1
  exact xs_iload hC (hd.at rfl) h1 hG
theorem xd_iload_n {i : Fin 4} (hC : xv_Cx p R s m args meth c cc w cl aty WS stt sx sc y.cls nL n0 z0 nE zE) (hd : xv_dec cc pc (.iload_n i)) (ha : xv_act sc cp lg (.iload_n i, r, q) pc L st h = some x) (hG : xv_G p l e R s m args below meth c Q w cl rk lg nL n0 z0 x) : xv_G p l e R s m args below meth c Q w cl rk lg nL n0 z0 (pc, L, st, h) := by
  simp only [xv_act] at ha
  obtain ⟨a, h1, ha1⟩ := xv_iload_inv ha
  cases xv_nx_inv ha1
  exact xs_iload_n hC (hd.at rfl) h1 hG
theorem xd_lload {i : Nat} (hC : xv_Cx p R s m args meth c cc w cl aty WS stt sx sc y.cls nL n0 z0 nE zE) (hd : xv_dec cc pc (.lload i)) (ha : xv_act sc cp lg (.lload i, r, q) pc L st h = some x) (hG : xv_G p l e R s m args below meth c Q w cl rk lg nL n0 z0 x) : xv_G p l e R s m args below meth c Q w cl rk lg nL n0 z0 (pc, L, st, h) := by
  simp only [xv_act] at ha
  obtain ⟨a, h1, ha1⟩ := xv_lload_inv ha
  cases xv_nx_inv ha1
  exact xs_lload hC (hd.at rfl) h1 hG
theorem xd_lload_n {i : Fin 4} (hC : xv_Cx p R s m args meth c cc w cl aty WS stt sx sc y.cls nL n0 z0 nE zE) (hd : xv_dec cc pc (.lload_n i)) (ha : xv_act sc cp lg (.lload_n i, r, q) pc L st h = some x) (hG : xv_G p l e R s m args below meth c Q w cl rk lg nL n0 z0 x) : xv_G p l e R s m args below meth c Q w cl rk lg nL n0 z0 (pc, L, st, h) := by
  simp only [xv_act] at ha
  obtain ⟨a, h1, ha1⟩ := xv_lload_inv ha
  cases xv_nx_inv ha1
  exact xs_lload_n hC (hd.at rfl) h1 hG
theorem xd_aload {i : Nat} (hC : xv_Cx p R s m args meth c cc w cl aty WS stt sx sc y.cls nL n0 z0 nE zE) (hd : xv_dec cc pc (.aload i)) (ha : xv_act sc cp lg (.aload i, r, q) pc L st h = some x) (hG : xv_G p l e R s m args below meth c Q w cl rk lg nL n0 z0 x) : xv_G p l e R s m args below meth c Q w cl rk lg nL n0 z0 (pc, L, st, h) := by
  simp only [xv_act] at ha
  rcases xv_aload_inv ha with ⟨a, h1, ha1⟩ | ⟨h1, ha1⟩
  · cases xv_nx_inv ha1
    exact xs_aload hC (hd.at rfl) h1 hG
  · cases xv_nx_inv ha1
    exact xs_aloadN hC (hd.at rfl) h1 hG
theorem xd_aload_n {i : Fin 4} (hC : xv_Cx p R s m args meth c cc w cl aty WS stt sx sc y.cls nL n0 z0 nE zE) (hd : xv_dec cc pc (.aload_n i)) (ha : xv_act sc cp lg (.aload_n i, r, q) pc L st h = some x) (hG : xv_G p l e R s m args below meth c Q w cl rk lg nL n0 z0 x) : xv_G p l e R s m args below meth c Q w cl rk lg nL n0 z0 (pc, L, st, h) := by
  simp only [xv_act] at ha
  rcases xv_aload_inv ha with ⟨a, h1, ha1⟩ | ⟨h1, ha1⟩
  · cases xv_nx_inv ha1
    exact xs_aload_n hC (hd.at rfl) h1 hG
  · cases xv_nx_inv ha1
    exact xs_aload_nN hC (hd.at rfl) h1 hG
theorem xd_istore {i : Nat} (hC : xv_Cx p R s m args meth c cc w cl aty WS stt sx sc y.cls nL n0 z0 nE zE) (hd : xv_dec cc pc (.istore i)) (ha : xv_act sc cp lg (.istore i, r, q) pc L st h = some x) (hG : xv_G p l e R s m args below meth c Q w cl rk lg nL n0 z0 x) : xv_G p l e R s m args below meth c Q w cl rk lg nL n0 z0 (pc, L, st, h) := by
  simp only [xv_act] at ha
  obtain ⟨a, t, rfl, ha1⟩ := xv_i1_inv ha
  obtain ⟨h1, h2, ha2⟩ := xv_st1_inv ha1
  cases xv_nx_inv ha2
  exact xs_istore hC (hd.at rfl) h1 h2 hG
theorem xd_istore_n {i : Fin 4} (hC : xv_Cx p R s m args meth c cc w cl aty WS stt sx sc y.cls nL n0 z0 nE zE) (hd : xv_dec cc pc (.istore_n i)) (ha : xv_act sc cp lg (.istore_n i, r, q) pc L st h = some x) (hG : xv_G p l e R s m args below meth c Q w cl rk lg nL n0 z0 x) : xv_G p l e R s m args below meth c Q w cl rk lg nL n0 z0 (pc, L, st, h) := by
  simp only [xv_act] at ha
  obtain ⟨a, t, rfl, ha1⟩ := xv_i1_inv ha
  obtain ⟨h1, h2, ha2⟩ := xv_st1_inv ha1
  cases xv_nx_inv ha2
  exact xs_istore_n hC (hd.at rfl) h1 h2 hG
theorem xd_lstore {i : Nat} (hC : xv_Cx p R s m args meth c cc w cl aty WS stt sx sc y.cls nL n0 z0 nE zE) (hd : xv_dec cc pc (.lstore i)) (ha : xv_act sc cp lg (.lstore i, r, q) pc L st h = some x) (hG : xv_G p l e R s m args below meth c Q w cl rk lg nL n0 z0 x) : xv_G p l e R s m args below meth c Q w cl rk lg nL n0 z0 (pc, L, st, h) := by
  simp only [xv_act] at ha
  obtain ⟨a, t, rfl, ha1⟩ := xv_l1_inv ha
  obtain ⟨h1, h2, h3, ha2⟩ := xv_st2_inv ha1
  cases xv_nx_inv ha2
  exact xs_lstore hC (hd.at rfl) h1 h2 h3 hG
theorem xd_lstore_n {i : Fin 4} (hC : xv_Cx p R s m args meth c cc w cl aty WS stt sx sc y.cls nL n0 z0 nE zE) (hd : xv_dec cc pc (.lstore_n i)) (ha : xv_act sc cp lg (.lstore_n i, r, q) pc L st h = some x) (hG : xv_G p l e R s m args below meth c Q w cl rk lg nL n0 z0 x) : xv_G p l e R s m args below meth c Q w cl rk lg nL n0 z0 (pc, L, st, h) := by
  simp only [xv_act] at ha
  obtain ⟨a, t, rfl, ha1⟩ := xv_l1_inv ha
  obtain ⟨h1, h2, h3, ha2⟩ := xv_st2_inv ha1
  cases xv_nx_inv ha2
  exact xs_lstore_n hC (hd.at rfl) h1 h2 h3 hG
theorem xd_astore {i : Nat} (hC : xv_Cx p R s m args meth c cc w cl aty WS stt sx sc y.cls nL n0 z0 nE zE) (hd : xv_dec cc pc (.astore i)) (ha : xv_act sc cp lg (.astore i, r, q) pc L st h = some x) (hG : xv_G p l e R s m args below meth c Q w cl rk lg nL n0 z0 x) : xv_G p l e R s m args below meth c Q w cl rk lg nL n0 z0 (pc, L, st, h) := by
  simp only [xv_act] at ha
  obtain ⟨a, t, rfl, ha1⟩ := xv_q1_inv ha
  obtain ⟨h1, h2, ha2⟩ := xv_st1_inv ha1
  cases xv_nx_inv ha2
  cases a with
  | none => exact xs_astoreN hC (hd.at rfl) h1 h2 hG
  | some a => exact xs_astore hC (hd.at rfl) h1 h2 hG
theorem xd_astore_n {i : Fin 4} (hC : xv_Cx p R s m args meth c cc w cl aty WS stt sx sc y.cls nL n0 z0 nE zE) (hd : xv_dec cc pc (.astore_n i)) (ha : xv_act sc cp lg (.astore_n i, r, q) pc L st h = some x) (hG : xv_G p l e R s m args below meth c Q w cl rk lg nL n0 z0 x) : xv_G p l e R s m args below meth c Q w cl rk lg nL n0 z0 (pc, L, st, h) := by
  simp only [xv_act] at ha
  obtain ⟨a, t, rfl, ha1⟩ := xv_q1_inv ha
  obtain ⟨h1, h2, ha2⟩ := xv_st1_inv ha1
  cases xv_nx_inv ha2
  cases a with
  | none => exact xs_astore_nN hC (hd.at rfl) h1 h2 hG
  | some a => exact xs_astore_n hC (hd.at rfl) h1 h2 hG
theorem xd_iinc {i : Nat} {n : Int} (hC : xv_Cx p R s m args meth c cc w cl aty WS stt sx sc y.cls nL n0 z0 nE zE) (hd : xv_dec cc pc (.iinc i n)) (ha : xv_act sc cp lg (.iinc i n, r, q) pc L st h = some x) (hG : xv_G p l e R s m args below meth c Q w cl rk lg nL n0 z0 x) : xv_G p l e R s m args below meth c Q w cl rk lg nL n0 z0 (pc, L, st, h) := by
  simp only [xv_act] at ha
  obtain ⟨a, h0, ha1⟩ := xv_iload_inv ha
  obtain ⟨h1, h2, ha2⟩ := xv_st1_inv ha1
  cases xv_nx_inv ha2
  exact xs_iinc hC (hd.at rfl) h0 h1 h2 hG
theorem xd_goto {off : Int} (hC : xv_Cx p R s m args meth c cc w cl aty WS stt sx sc y.cls nL n0 z0 nE zE) (hd : xv_dec cc pc (.goto off)) (ha : xv_act sc cp lg (.goto off, r, q) pc L st h = some x) (hG : xv_G p l e R s m args below meth c Q w cl rk lg nL n0 z0 x) : xv_G p l e R s m args below meth c Q w cl rk lg nL n0 z0 (pc, L, st, h) := by
  simp only [xv_act] at ha
  obtain ⟨t, h1, rfl⟩ := xv_jmp_inv ha
  exact xs_goto hC (hd.at rfl) h1 hG
theorem xd_if {o : ClassFile.Cond} {off : Int} (hC : xv_Cx p R s m args meth c cc w cl aty WS stt sx sc y.cls nL n0 z0 nE zE) (hd : xv_dec cc pc (.ifCond o off)) (hj : 0 ≤ (pc : Int) + off) (ha : xv_act sc cp lg (.ifCond o off, r, q) pc L st h = some x) (hG : xv_G p l e R s m args below meth c Q w cl rk lg nL n0 z0 x) : xv_G p l e R s m args below meth c Q w cl rk lg nL n0 z0 (pc, L, st, h) := by
  simp only [xv_act] at ha
  obtain ⟨a, t, rfl, ha1⟩ := xv_i1_inv ha
  obtain ⟨tg, ht⟩ := Int.eq_ofNat_of_zero_le hj
  rcases xv_if_inv ha1 with ⟨hc, t', h1, rfl⟩ | ⟨hc, rfl⟩
  · have e : t' = tg := Int.ofNat.inj (h1.symm.trans ht)
    subst e
    cases o <;> simp only [xv_cnd, decide_eq_true_eq] at hc
    · exact xs_if_eq hC (hd.at rfl) ht (fun _ => hG) (fun z => absurd hc z)
    · exact xs_if_ne hC (hd.at rfl) ht (fun _ => hG) (fun z => absurd hc z)
    · exact xs_if_lt hC (hd.at rfl) ht (fun _ => hG) (fun z => absurd hc z)
    · exact xs_if_ge hC (hd.at rfl) ht (fun _ => hG) (fun z => absurd hc z)
    · exact xs_if_gt hC (hd.at rfl) ht (fun _ => hG) (fun z => absurd hc z)
    · exact xs_if_le hC (hd.at rfl) ht (fun _ => hG) (fun z => absurd hc z)
  · cases o <;> simp only [xv_cnd, decide_eq_false_iff_not] at hc
    · exact xs_if_eq hC (hd.at rfl) ht (fun z => absurd z hc) (fun _ => hG)
    · exact xs_if_ne hC (hd.at rfl) ht (fun z => absurd z hc) (fun _ => hG)
    · exact xs_if_lt hC (hd.at rfl) ht (fun z => absurd z hc) (fun _ => hG)
    · exact xs_if_ge hC (hd.at rfl) ht (fun z => absurd z hc) (fun _ => hG)
    · exact xs_if_gt hC (hd.at rfl) ht (fun z => absurd z hc) (fun _ => hG)
    · exact xs_if_le hC (hd.at rfl) ht (fun z => absurd z hc) (fun _ => hG)
theorem xd_icmp {o : ClassFile.Cond} {off : Int} (hC : xv_Cx p R s m args meth c cc w cl aty WS stt sx sc y.cls nL n0 z0 nE zE) (hd : xv_dec cc pc (.if_icmp o off)) (hj : 0 ≤ (pc : Int) + off) (ha : xv_act sc cp lg (.if_icmp o off, r, q) pc L st h = some x) (hG : xv_G p l e R s m args below meth c Q w cl rk lg nL n0 z0 x) : xv_G p l e R s m args below meth c Q w cl rk lg nL n0 z0 (pc, L, st, h) := by
  simp only [xv_act] at ha
  obtain ⟨a, b, t, rfl, ha1⟩ := xv_i2_inv ha
  obtain ⟨tg, ht⟩ := Int.eq_ofNat_of_zero_le hj
  rcases xv_if_inv ha1 with ⟨hc, t', h1, rfl⟩ | ⟨hc, rfl⟩
  · have e : t' = tg := Int.ofNat.inj (h1.symm.trans ht)
    subst e
    cases o <;> simp only [xv_cnd, decide_eq_true_eq] at hc
    · exact xs_icmp_eq hC (hd.at rfl) ht (fun _ => hG) (fun z => absurd hc z)
    · exact xs_icmp_ne hC (hd.at rfl) ht (fun _ => hG) (fun z => absurd hc z)
    · exact xs_icmp_lt hC (hd.at rfl) ht (fun _ => hG) (fun z => absurd hc z)
    · exact xs_icmp_ge hC (hd.at rfl) ht (fun _ => hG) (fun z => absurd hc z)
    · exact xs_icmp_gt hC (hd.at rfl) ht (fun _ => hG) (fun z => absurd hc z)
    · exact xs_icmp_le hC (hd.at rfl) ht (fun _ => hG) (fun z => absurd hc z)
  · cases o <;> simp only [xv_cnd, decide_eq_false_iff_not] at hc
    · exact xs_icmp_eq hC (hd.at rfl) ht (fun z => absurd z hc) (fun _ => hG)
    · exact xs_icmp_ne hC (hd.at rfl) ht (fun z => absurd z hc) (fun _ => hG)
    · exact xs_icmp_lt hC (hd.at rfl) ht (fun z => absurd z hc) (fun _ => hG)
    · exact xs_icmp_ge hC (hd.at rfl) ht (fun z => absurd z hc) (fun _ => hG)
    · exact xs_icmp_gt hC (hd.at rfl) ht (fun z => absurd z hc) (fun _ => hG)
    · exact xs_icmp_le hC (hd.at rfl) ht (fun z => absurd z hc) (fun _ => hG)
theorem xd_acmp {o : ClassFile.ACond} {off : Int} (hC : xv_Cx p R s m args meth c cc w cl aty WS stt sx sc y.cls nL n0 z0 nE zE) (hd : xv_dec cc pc (.if_acmp o off)) (hI : ∀ a b, xv_cmp a b → xv_al w a = xv_al w b → a = b) (hj : 0 ≤ (pc : Int) + off) (ha : xv_act sc cp lg (.if_acmp o off, r, q) pc L st h = some x) (hG : xv_G p l e R s m args below meth c Q w cl rk lg nL n0 z0 x) : xv_G p l e R s m args below meth c Q w cl rk lg nL n0 z0 (pc, L, st, h) := by
  simp only [xv_act] at ha
  obtain ⟨b, t, rfl, ha1⟩ := xv_q1_inv ha
  obtain ⟨a, t, rfl, ha2⟩ := xv_q1_inv ha1
  obtain ⟨tg, ht⟩ := Int.eq_ofNat_of_zero_le hj
  split at ha2
  · rename_i hok
    rcases xv_if_inv ha2 with ⟨hc, t', h1, rfl⟩ | ⟨hc, rfl⟩
    · have e : t' = tg := Int.ofNat.inj (h1.symm.trans ht)
      subst e
      cases o <;> simp only [decide_eq_true_eq] at hc
      · exact xs_acmp_eq hI hok hC (hd.at rfl) ht (fun _ => hG) (fun z => absurd hc z)
      · exact xs_acmp_ne hI hok hC (hd.at rfl) ht (fun _ => hG) (fun z => absurd hc z)
    · cases o <;> simp only [decide_eq_false_iff_not] at hc
      · exact xs_acmp_eq hI hok hC (hd.at rfl) ht (fun z => absurd z hc) (fun _ => hG)
      · exact xs_acmp_ne hI hok hC (hd.at rfl) ht (fun z => absurd z hc) (fun _ => hG)
  · cases ha2
theorem xd_ifnull {off : Int} (hC : xv_Cx p R s m args meth c cc w cl aty WS stt sx sc y.cls nL n0 z0 nE zE) (hd : xv_dec cc pc (.ifnull off)) (hj : 0 ≤ (pc : Int) + off) (ha : xv_act sc cp lg (.ifnull off, r, q) pc L st h = some x) (hG : xv_G p l e R s m args below meth c Q w cl rk lg nL n0 z0 x) : xv_G p l e R s m args below meth c Q w cl rk lg nL n0 z0 (pc, L, st, h) := by
  simp only [xv_act] at ha
  obtain ⟨a, t, rfl, ha1⟩ := xv_q1_inv ha
  obtain ⟨tg, ht⟩ := Int.eq_ofNat_of_zero_le hj
  rcases xv_if_inv ha1 with ⟨hc, t', h1, rfl⟩ | ⟨hc, rfl⟩
  · have e : t' = tg := Int.ofNat.inj (h1.symm.trans ht)
    subst e
    simp only [decide_eq_true_eq] at hc
    exact xs_ifnull hC (hd.at rfl) ht (fun _ => hG) (fun z => absurd hc z)
  · simp only [decide_eq_false_iff_not] at hc
    exact xs_ifnull hC (hd.at rfl) ht (fun z => absurd z hc) (fun _ => hG)
theorem xd_ifnonnull {off : Int} (hC : xv_Cx p R s m args meth c cc w cl aty WS stt sx sc y.cls nL n0 z0 nE zE) (hd : xv_dec cc pc (.ifnonnull off)) (hj : 0 ≤ (pc : Int) + off) (ha : xv_act sc cp lg (.ifnonnull off, r, q) pc L st h = some x) (hG : xv_G p l e R s m args below meth c Q w cl rk lg nL n0 z0 x) : xv_G p l e R s m args below meth c Q w cl rk lg nL n0 z0 (pc, L, st, h) := by
  simp only [xv_act] at ha
  obtain ⟨a, t, rfl, ha1⟩ := xv_q1_inv ha
  obtain ⟨tg, ht⟩ := Int.eq_ofNat_of_zero_le hj
  rcases xv_if_inv ha1 with ⟨hc, t', h1, rfl⟩ | ⟨hc, rfl⟩
  · have e : t' = tg := Int.ofNat.inj (h1.symm.trans ht)
    subst e
    simp only [decide_eq_true_eq] at hc
    exact xs_ifnonnull hC (hd.at rfl) ht (fun _ => hG) (fun z => absurd hc z)
  · simp only [decide_eq_false_iff_not] at hc
    exact xs_ifnonnull hC (hd.at rfl) ht (fun z => absurd z hc) (fun _ => hG)
theorem xd_table {dflt lo hi : Int} {offs : Array Int} (hC : xv_Cx p R s m args meth c cc w cl aty WS stt sx sc y.cls nL n0 z0 nE zE) (hd : xv_dec cc pc (.tableswitch dflt lo hi offs)) (ha : xv_act sc cp lg (.tableswitch dflt lo hi offs, r, q) pc L st h = some x) (hG : xv_G p l e R s m args below meth c Q w cl rk lg nL n0 z0 x) : xv_G p l e R s m args below meth c Q w cl rk lg nL n0 z0 (pc, L, st, h) := by
  simp only [xv_act] at ha
  obtain ⟨a, t, rfl, ha1⟩ := xv_i1_inv ha
  obtain ⟨len, hd, -⟩ := hd
  split at ha1
  · rename_i hx
    obtain ⟨t', h1, rfl⟩ := xv_jmp_inv ha1
    exact xs_tabOut hC hd hx h1 hG
  · rename_i hx
    split at ha1
    · rename_i off ho
      obtain ⟨t', h1, rfl⟩ := xv_jmp_inv ha1
      exact xs_tabIn hC hd hx ho h1 hG
    · cases ha1
end XD
