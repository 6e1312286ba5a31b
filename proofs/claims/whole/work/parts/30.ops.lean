/-! The abstract machine, goal first: what it comes to from a point. -/
def xx (sc : Nat × (Nat → Int32)) (y pc : Nat) (L : xv_L) (st : List Value) (h : xv_H) (P : Option Value → xv_H → Prop) : Prop := ∃ (f : Nat) (r : Option Value) (h' : xv_H), xt_exec sc f y pc L st h = some (r, h') ∧ P r h'
section XO
variable {sc : Nat × (Nat → Int32)} {y pc : Nat} {L : xv_L} {st : List Value} {h : xv_H} {P : Option Value → xv_H → Prop} {r q i t a b : Nat} {x z j : Int32} {u v : Int64} {n zz : Nat} {tg ln : Nat → Nat} {fr er : Nat → Nat → Option Nat} {fi ei : Nat → Nat → Int32} {el : Nat → Nat → Int64} {off : Int} {va vb vd : Value} {w : Option Nat}
theorem xx_act {ic : xv_I} {pc' : Nat} {L' : xv_L} {st' : List Value} {h1 : xv_H} (hc : xt_cd y pc = some ic) (hk : xv_kind ic.1 = 0) (ha : xv_act sc xt_cp (xt_lg y) ic pc L st h = some (pc', L', st', h1)) (k : xx sc y pc' L' st' h1 P) : xx sc y pc L st h P := by
  obtain ⟨f, r, h', e, hp⟩ := k
  refine ⟨f + 1, r, h', ?_, hp⟩
  show xv_exec sc xt_cd xt_cp xt_cs xt_lg xt_mx (f + 1) y pc L st h = _
  rw [xv_exec]
  simp only [hc, hk, ha]
  exact e
theorem xx_ret {ic : xv_I} {rv : Option Value} (hc : xt_cd y pc = some ic) (hk : xv_kind ic.1 = 1) (ha : xv_ret ic st = some rv) (hp : P rv h) : xx sc y pc L st h P := by
  refine ⟨1, rv, h, ?_, hp⟩
  show xv_exec sc xt_cd xt_cp xt_cs xt_lg xt_mx 1 y pc L st h = _
  rw [xv_exec]
  simp only [hc, hk, ha]
theorem xx_own {ic : xv_I} {pc' : Nat} {L' : xv_L} {st' : List Value} {h1 : xv_H} (hc : xt_cd y pc = some ic) (hk : xv_kind ic.1 = 2) (ha : xv_inv xt_cp xt_cs xt_lg xt_mx ic pc L st h = some (.inl (pc', L', st', h1))) (k : xx sc y pc' L' st' h1 P) : xx sc y pc L st h P := by
  obtain ⟨f, r, h', e, hp⟩ := k
  refine ⟨f + 1, r, h', ?_, hp⟩
  show xv_exec sc xt_cd xt_cp xt_cs xt_lg xt_mx (f + 1) y pc L st h = _
  rw [xv_exec]
  simp only [hc, hk, ha]
  exact e
/-- a method as its callers see it -/
def xr (sc : Nat × (Nat → Int32)) (y : Nat) (av : List Value) (h : xv_H) (P : Option Value → xv_H → Prop) : Prop := xx sc y 0 (xv_ent (xt_mx y) av) [] h P
theorem xx_call {ic : xv_I} {y' : Nat} {av rest : List Value} {pc' : Nat} {P' : Option Value → xv_H → Prop} (hc : xt_cd y pc = some ic) (hk : xv_kind ic.1 = 2) (ha : xv_inv xt_cp xt_cs xt_lg xt_mx ic pc L st h = some (.inr (y', av, rest, pc'))) (hm : xr sc y' av h P') (k : ∀ r h', P' r h' → xx sc y pc' L (r.toList ++ rest) h' P) : xx sc y pc L st h P := by
  obtain ⟨f, r, h', e, hp⟩ := hm
  obtain ⟨g, r2, h2, e2, hp2⟩ := k r h' hp
  refine ⟨max f g + 1, r2, h2, ?_, hp2⟩
  have e' := xv_exec_le e (Nat.le_max_left f g)
  have e2' := xv_exec_le e2 (Nat.le_max_right f g)
  show xv_exec sc xt_cd xt_cp xt_cs xt_lg xt_mx (max f g + 1) y pc L st h = _
  rw [xv_exec]
  simp only [hc, hk, ha, e']
  exact e2'
theorem xx_mono {P' : Option Value → xv_H → Prop} (hm : xx sc y pc L st h P') (k : ∀ r h', P' r h' → P r h') : xx sc y pc L st h P := by
  obtain ⟨f, r, h', e, hp⟩ := hm
  exact ⟨f, r, h', e, k r h' hp⟩
theorem xo_null (hc : xt_cd y pc = some (.aconst_null, r, q)) (k : xx sc y (pc + 1) (L) (.null :: st) h P) : xx sc y pc L (st) h P :=
  xx_act hc rfl (by simp [xv_act, xv_nx]) k
theorem xo_iconst (hc : xt_cd y pc = some (.iconst off, r, q)) (k : xx sc y (pc + 1) (L) (.int (Int32.ofInt off) :: st) h P) : xx sc y pc L (st) h P :=
  xx_act hc rfl (by simp [xv_act, xv_nx]) k
theorem xo_bipush (hc : xt_cd y pc = some (.bipush off, r, q)) (k : xx sc y (pc + 2) (L) (.int (Int8.ofInt off).toInt32 :: st) h P) : xx sc y pc L (st) h P :=
  xx_act hc rfl (by simp [xv_act, xv_nx]) k
theorem xo_sipush (hc : xt_cd y pc = some (.sipush off, r, q)) (k : xx sc y (pc + 3) (L) (.int (Int16.ofInt off).toInt32 :: st) h P) : xx sc y pc L (st) h P :=
  xx_act hc rfl (by simp [xv_act, xv_nx]) k
theorem xo_lconst {k0 : Fin 2} (hc : xt_cd y pc = some (.lconst k0, r, q)) (k : xx sc y (pc + 1) (L) (.long (Int64.ofNat (k0 : Nat)) :: st) h P) : xx sc y pc L (st) h P :=
  xx_act hc rfl (by simp [xv_act, xv_nx]) k
theorem xo_ldc {i0 : Nat} (hc : xt_cd y pc = some (.ldc i0, r, 0)) (k : xx sc y (pc + 2) L (.int (Int32.ofNat r) :: st) h P) : xx sc y pc L st h P :=
  xx_act hc rfl (by simp [xv_act, xv_nx]) k
theorem xo_ldcM {i0 : Nat} (hc : xt_cd y pc = some (.ldc i0, r, 1)) (k : xx sc y (pc + 2) L (.ref (xv_SB + 1) :: st) h P) : xx sc y pc L st h P :=
  xx_act hc rfl (by simp [xv_act, xv_nx]) k
theorem xo_ldc2 (hc : xt_cd y pc = some (.ldc2_w i, r, q)) (k : xx sc y (pc + 3) (L) (.long (Int64.ofNat r) :: st) h P) : xx sc y pc L (st) h P :=
  xx_act hc rfl (by simp [xv_act, xv_nx]) k
theorem xo_iload (hc : xt_cd y pc = some (.iload i, r, q)) (hl : L[i]? = some (some (.int x))) (k : xx sc y (pc + 2) (L) (.int x :: st) h P) : xx sc y pc L (st) h P :=
  xx_act hc rfl (by simp [xv_act, xv_nx, xv_iload, hl]) k
theorem xo_lload (hc : xt_cd y pc = some (.lload i, r, q)) (hl : L[i]? = some (some (.long u))) (k : xx sc y (pc + 2) (L) (.long u :: st) h P) : xx sc y pc L (st) h P :=
  xx_act hc rfl (by simp [xv_act, xv_nx, xv_lload, hl]) k
theorem xo_aload (hc : xt_cd y pc = some (.aload i, r, q)) (hl : L[i]? = some (some (.ref a))) (k : xx sc y (pc + 2) (L) (.ref a :: st) h P) : xx sc y pc L (st) h P :=
  xx_act hc rfl (by simp [xv_act, xv_nx, xv_aload, hl, va_rf]) k
theorem xo_aloadN (hc : xt_cd y pc = some (.aload i, r, q)) (hl : L[i]? = some (some .null)) (k : xx sc y (pc + 2) (L) (.null :: st) h P) : xx sc y pc L (st) h P :=
  xx_act hc rfl (by simp [xv_act, xv_nx, xv_aload, hl, va_rf]) k
theorem xo_istore (hc : xt_cd y pc = some (.istore i, r, q)) (hl : i < L.length) (hb : xv_b1 (xt_lg y) i = true) (k : xx sc y (pc + 2) (L.set i (some (.int x))) (st) h P) : xx sc y pc L (.int x :: st) h P :=
  xx_act hc rfl (by simp [xv_act, xv_nx, xv_i1, xv_st1, hl, hb, va_rf]) k
theorem xo_astore (hc : xt_cd y pc = some (.astore i, r, q)) (hl : i < L.length) (hb : xv_b1 (xt_lg y) i = true) (k : xx sc y (pc + 2) (L.set i (some (.ref a))) (st) h P) : xx sc y pc L (.ref a :: st) h P :=
  xx_act hc rfl (by simp [xv_act, xv_nx, xv_q1, xv_st1, hl, hb, va_rf]) k
theorem xo_astoreN (hc : xt_cd y pc = some (.astore i, r, q)) (hl : i < L.length) (hb : xv_b1 (xt_lg y) i = true) (k : xx sc y (pc + 2) (L.set i (some (.null))) (st) h P) : xx sc y pc L (.null :: st) h P :=
  xx_act hc rfl (by simp [xv_act, xv_nx, xv_q1, xv_st1, hl, hb, va_rf]) k
theorem xo_lstore (hc : xt_cd y pc = some (.lstore i, r, q)) (hl : i + 1 < L.length) (hb : xv_b1 (xt_lg y) i = true) (hm : (xt_lg y).contains i = true) (k : xx sc y (pc + 2) ((L.set i (some (.long u))).set (i + 1) none) st h P) : xx sc y pc L (.long u :: st) h P :=
  xx_act hc rfl (by simp only [xv_act, xv_nx, xv_l1, xv_st2]; rw [if_pos ⟨hl, hb, hm⟩]) k
theorem xo_iload_n {k0 : Fin 4} (hc : xt_cd y pc = some (.iload_n k0, r, q)) (hl : L[(k0 : Nat)]? = some (some (.int x))) (k : xx sc y (pc + 1) (L) (.int x :: st) h P) : xx sc y pc L (st) h P :=
  xx_act hc rfl (by simp [xv_act, xv_nx, xv_iload, hl]) k
theorem xo_lload_n {k0 : Fin 4} (hc : xt_cd y pc = some (.lload_n k0, r, q)) (hl : L[(k0 : Nat)]? = some (some (.long u))) (k : xx sc y (pc + 1) (L) (.long u :: st) h P) : xx sc y pc L (st) h P :=
  xx_act hc rfl (by simp [xv_act, xv_nx, xv_lload, hl]) k
theorem xo_aload_n {k0 : Fin 4} (hc : xt_cd y pc = some (.aload_n k0, r, q)) (hl : L[(k0 : Nat)]? = some (some (.ref a))) (k : xx sc y (pc + 1) (L) (.ref a :: st) h P) : xx sc y pc L (st) h P :=
  xx_act hc rfl (by simp [xv_act, xv_nx, xv_aload, hl, va_rf]) k
theorem xo_aload_nN {k0 : Fin 4} (hc : xt_cd y pc = some (.aload_n k0, r, q)) (hl : L[(k0 : Nat)]? = some (some .null)) (k : xx sc y (pc + 1) (L) (.null :: st) h P) : xx sc y pc L (st) h P :=
  xx_act hc rfl (by simp [xv_act, xv_nx, xv_aload, hl, va_rf]) k
theorem xo_istore_n {k0 : Fin 4} (hc : xt_cd y pc = some (.istore_n k0, r, q)) (hl : (k0 : Nat) < L.length) (hb : xv_b1 (xt_lg y) (k0 : Nat) = true) (k : xx sc y (pc + 1) (L.set (k0 : Nat) (some (.int x))) (st) h P) : xx sc y pc L (.int x :: st) h P :=
  xx_act hc rfl (by simp [xv_act, xv_nx, xv_i1, xv_st1, hl, hb, va_rf]) k
theorem xo_astore_n {k0 : Fin 4} (hc : xt_cd y pc = some (.astore_n k0, r, q)) (hl : (k0 : Nat) < L.length) (hb : xv_b1 (xt_lg y) (k0 : Nat) = true) (k : xx sc y (pc + 1) (L.set (k0 : Nat) (some (.ref a))) (st) h P) : xx sc y pc L (.ref a :: st) h P :=
  xx_act hc rfl (by simp [xv_act, xv_nx, xv_q1, xv_st1, hl, hb, va_rf]) k
theorem xo_astore_nN {k0 : Fin 4} (hc : xt_cd y pc = some (.astore_n k0, r, q)) (hl : (k0 : Nat) < L.length) (hb : xv_b1 (xt_lg y) (k0 : Nat) = true) (k : xx sc y (pc + 1) (L.set (k0 : Nat) (some (.null))) (st) h P) : xx sc y pc L (.null :: st) h P :=
  xx_act hc rfl (by simp [xv_act, xv_nx, xv_q1, xv_st1, hl, hb, va_rf]) k
theorem xo_lstore_n {k0 : Fin 4} (hc : xt_cd y pc = some (.lstore_n k0, r, q)) (hl : (k0 : Nat) + 1 < L.length) (hb : xv_b1 (xt_lg y) (k0 : Nat) = true) (hm : (xt_lg y).contains (k0 : Nat) = true) (k : xx sc y (pc + 1) ((L.set (k0 : Nat) (some (.long u))).set ((k0 : Nat) + 1) none) st h P) : xx sc y pc L (.long u :: st) h P :=
  xx_act hc rfl (by simp only [xv_act, xv_nx, xv_l1, xv_st2]; rw [if_pos ⟨hl, hb, hm⟩]) k
theorem xo_iinc (hc : xt_cd y pc = some (.iinc i off, r, q)) (hv : L[i]? = some (some (.int x))) (hl : i < L.length) (hb : xv_b1 (xt_lg y) i = true) (k : xx sc y (pc + 3) (L.set i (some (.int (x + Int32.ofInt off)))) st h P) : xx sc y pc L st h P :=
  xx_act hc rfl (by simp only [xv_act, xv_nx, xv_iload, hv, xv_st1]; rw [if_pos ⟨hl, hb⟩]) k
theorem xo_iadd (hc : xt_cd y pc = some (.iadd, r, q)) (k : xx sc y (pc + 1) (L) (.int (x + z) :: st) h P) : xx sc y pc L (.int z :: .int x :: st) h P :=
  xx_act hc rfl (by simp [xv_act, xv_nx, xv_i2]) k
theorem xo_isub (hc : xt_cd y pc = some (.isub, r, q)) (k : xx sc y (pc + 1) (L) (.int (x - z) :: st) h P) : xx sc y pc L (.int z :: .int x :: st) h P :=
  xx_act hc rfl (by simp [xv_act, xv_nx, xv_i2]) k
theorem xo_imul (hc : xt_cd y pc = some (.imul, r, q)) (k : xx sc y (pc + 1) (L) (.int (x * z) :: st) h P) : xx sc y pc L (.int z :: .int x :: st) h P :=
  xx_act hc rfl (by simp [xv_act, xv_nx, xv_i2]) k
theorem xo_iand (hc : xt_cd y pc = some (.iand, r, q)) (k : xx sc y (pc + 1) (L) (.int (x &&& z) :: st) h P) : xx sc y pc L (.int z :: .int x :: st) h P :=
  xx_act hc rfl (by simp [xv_act, xv_nx, xv_i2]) k
theorem xo_ior (hc : xt_cd y pc = some (.ior, r, q)) (k : xx sc y (pc + 1) (L) (.int (x ||| z) :: st) h P) : xx sc y pc L (.int z :: .int x :: st) h P :=
  xx_act hc rfl (by simp [xv_act, xv_nx, xv_i2]) k
theorem xo_ishl (hc : xt_cd y pc = some (.ishl, r, q)) (k : xx sc y (pc + 1) (L) (.int (x <<< (z &&& 31)) :: st) h P) : xx sc y pc L (.int z :: .int x :: st) h P :=
  xx_act hc rfl (by simp [xv_act, xv_nx, xv_i2]) k
theorem xo_ishr (hc : xt_cd y pc = some (.ishr, r, q)) (k : xx sc y (pc + 1) (L) (.int (x >>> (z &&& 31)) :: st) h P) : xx sc y pc L (.int z :: .int x :: st) h P :=
  xx_act hc rfl (by simp [xv_act, xv_nx, xv_i2]) k
theorem xo_idiv (hc : xt_cd y pc = some (.idiv, r, q)) (hz : ¬ z = 0) (k : xx sc y (pc + 1) (L) (.int (x / z) :: st) h P) : xx sc y pc L (.int z :: .int x :: st) h P :=
  xx_act hc rfl (by simp [xv_act, xv_nx, xv_i2, hz]) k
theorem xo_irem (hc : xt_cd y pc = some (.irem, r, q)) (hz : ¬ z = 0) (k : xx sc y (pc + 1) (L) (.int (x - x / z * z) :: st) h P) : xx sc y pc L (.int z :: .int x :: st) h P :=
  xx_act hc rfl (by simp [xv_act, xv_nx, xv_i2, hz]) k
theorem xo_ladd (hc : xt_cd y pc = some (.ladd, r, q)) (k : xx sc y (pc + 1) (L) (.long (u + v) :: st) h P) : xx sc y pc L (.long v :: .long u :: st) h P :=
  xx_act hc rfl (by simp [xv_act, xv_nx, xv_l2]) k
theorem xo_lmul (hc : xt_cd y pc = some (.lmul, r, q)) (k : xx sc y (pc + 1) (L) (.long (u * v) :: st) h P) : xx sc y pc L (.long v :: .long u :: st) h P :=
  xx_act hc rfl (by simp [xv_act, xv_nx, xv_l2]) k
theorem xo_land (hc : xt_cd y pc = some (.land, r, q)) (k : xx sc y (pc + 1) (L) (.long (u &&& v) :: st) h P) : xx sc y pc L (.long v :: .long u :: st) h P :=
  xx_act hc rfl (by simp [xv_act, xv_nx, xv_l2]) k
theorem xo_lor (hc : xt_cd y pc = some (.lor, r, q)) (k : xx sc y (pc + 1) (L) (.long (u ||| v) :: st) h P) : xx sc y pc L (.long v :: .long u :: st) h P :=
  xx_act hc rfl (by simp [xv_act, xv_nx, xv_l2]) k
theorem xo_lxor (hc : xt_cd y pc = some (.lxor, r, q)) (k : xx sc y (pc + 1) (L) (.long (u ^^^ v) :: st) h P) : xx sc y pc L (.long v :: .long u :: st) h P :=
  xx_act hc rfl (by simp [xv_act, xv_nx, xv_l2]) k
theorem xo_lshl (hc : xt_cd y pc = some (.lshl, r, q)) (k : xx sc y (pc + 1) (L) (.long (u <<< (z.toInt64 &&& 63)) :: st) h P) : xx sc y pc L (.int z :: .long u :: st) h P :=
  xx_act hc rfl (by simp [xv_act, xv_nx, xv_li]) k
theorem xo_lshr (hc : xt_cd y pc = some (.lshr, r, q)) (k : xx sc y (pc + 1) (L) (.long (u >>> (z.toInt64 &&& 63)) :: st) h P) : xx sc y pc L (.int z :: .long u :: st) h P :=
  xx_act hc rfl (by simp [xv_act, xv_nx, xv_li]) k
theorem xo_i2l (hc : xt_cd y pc = some (.i2l, r, q)) (k : xx sc y (pc + 1) (L) (.long x.toInt64 :: st) h P) : xx sc y pc L (.int x :: st) h P :=
  xx_act hc rfl (by simp [xv_act, xv_nx, xv_i1]) k
theorem xo_l2i (hc : xt_cd y pc = some (.l2i, r, q)) (k : xx sc y (pc + 1) (L) (.int u.toInt32 :: st) h P) : xx sc y pc L (.long u :: st) h P :=
  xx_act hc rfl (by simp [xv_act, xv_nx, xv_l1]) k
theorem xo_i2b (hc : xt_cd y pc = some (.i2b, r, q)) (k : xx sc y (pc + 1) (L) (.int x.toInt8.toInt32 :: st) h P) : xx sc y pc L (.int x :: st) h P :=
  xx_act hc rfl (by simp [xv_act, xv_nx, xv_i1]) k
theorem xo_pop (hc : xt_cd y pc = some (.pop, r, q)) (h1 : va.category = 1) (k : xx sc y (pc + 1) (L) (st) h P) : xx sc y pc L (va :: st) h P :=
  xx_act hc rfl (by simp [xv_act, xv_nx, xv_v1, h1]) k
theorem xo_dup (hc : xt_cd y pc = some (.dup, r, q)) (h1 : va.category = 1) (k : xx sc y (pc + 1) (L) (va :: va :: st) h P) : xx sc y pc L (va :: st) h P :=
  xx_act hc rfl (by simp [xv_act, xv_nx, xv_v1, h1]) k
theorem xo_dup_x1 (hc : xt_cd y pc = some (.dup_x1, r, q)) (h1 : va.category = 1) (h2 : vb.category = 1) (k : xx sc y (pc + 1) (L) (va :: vb :: va :: st) h P) : xx sc y pc L (va :: vb :: st) h P :=
  xx_act hc rfl (by simp [xv_act, xv_nx, xv_v1, h1, h2]) k
theorem xo_dup_x2 (hc : xt_cd y pc = some (.dup_x2, r, q)) (h1 : va.category = 1) (h2 : vb.category = 1) (h3 : vd.category = 1) (k : xx sc y (pc + 1) (L) (va :: vb :: vd :: va :: st) h P) : xx sc y pc L (va :: vb :: vd :: st) h P :=
  xx_act hc rfl (by simp [xv_act, xv_nx, xv_v1, h1, h2, h3]) k
theorem xo_dup2 (hc : xt_cd y pc = some (.dup2, r, q)) (h1 : va.category = 1) (h2 : vb.category = 1) (k : xx sc y (pc + 1) (L) (va :: vb :: va :: vb :: st) h P) : xx sc y pc L (va :: vb :: st) h P :=
  xx_act hc rfl (by simp [xv_act, xv_nx, xv_v1, h1, h2]) k
theorem xo_if_eq (hc : xt_cd y pc = some (.ifCond .eq off, r, q)) (ht : (pc : Int) + off = (t : Int)) (kt : (x = 0) → xx sc y t L st h P) (kf : ¬ (x = 0) → xx sc y (pc + 3) L st h P) : xx sc y pc L (.int x :: st) h P := by
  by_cases hp : x = 0
  · exact xx_act hc rfl (by simp only [xv_act, xv_i1, xv_if, xv_cnd, hp, ht, xv_jmp, xv_nx, decide_true, not_false_eq_true, not_true_eq_false, decide_false, if_true]) (kt hp)
  · exact xx_act hc rfl (by simp only [xv_act, xv_i1, xv_if, xv_cnd, hp, xv_nx, decide_false, Bool.false_eq_true, if_false]) (kf hp)
theorem xo_if_eqT (hc : xt_cd y pc = some (.ifCond .eq off, r, q)) (ht : (pc : Int) + off = (t : Int)) (hp : x = 0) (kt : xx sc y t L st h P) : xx sc y pc L (.int x :: st) h P := xo_if_eq hc ht (fun _ => kt) (fun z => absurd hp z)
theorem xo_if_eqF (hc : xt_cd y pc = some (.ifCond .eq off, r, q)) (ht : (pc : Int) + off = (t : Int)) (hp : ¬ (x = 0)) (kf : xx sc y (pc + 3) L st h P) : xx sc y pc L (.int x :: st) h P := xo_if_eq hc ht (fun z => absurd z hp) (fun _ => kf)
theorem xo_icmp_eq (hc : xt_cd y pc = some (.if_icmp .eq off, r, q)) (ht : (pc : Int) + off = (t : Int)) (kt : (x = z) → xx sc y t L st h P) (kf : ¬ (x = z) → xx sc y (pc + 3) L st h P) : xx sc y pc L (.int z :: .int x :: st) h P := by
  by_cases hp : x = z
  · exact xx_act hc rfl (by simp only [xv_act, xv_i2, xv_if, xv_cnd, hp, ht, xv_jmp, xv_nx, decide_true, not_false_eq_true, not_true_eq_false, decide_false, if_true]) (kt hp)
  · exact xx_act hc rfl (by simp only [xv_act, xv_i2, xv_if, xv_cnd, hp, xv_nx, decide_false, Bool.false_eq_true, if_false]) (kf hp)
theorem xo_icmp_eqT (hc : xt_cd y pc = some (.if_icmp .eq off, r, q)) (ht : (pc : Int) + off = (t : Int)) (hp : x = z) (kt : xx sc y t L st h P) : xx sc y pc L (.int z :: .int x :: st) h P := xo_icmp_eq hc ht (fun _ => kt) (fun z => absurd hp z)
theorem xo_icmp_eqF (hc : xt_cd y pc = some (.if_icmp .eq off, r, q)) (ht : (pc : Int) + off = (t : Int)) (hp : ¬ (x = z)) (kf : xx sc y (pc + 3) L st h P) : xx sc y pc L (.int z :: .int x :: st) h P := xo_icmp_eq hc ht (fun z => absurd z hp) (fun _ => kf)
theorem xo_if_ne (hc : xt_cd y pc = some (.ifCond .ne off, r, q)) (ht : (pc : Int) + off = (t : Int)) (kt : (¬ x = 0) → xx sc y t L st h P) (kf : ¬ (¬ x = 0) → xx sc y (pc + 3) L st h P) : xx sc y pc L (.int x :: st) h P := by
  by_cases hp : ¬ x = 0
  · exact xx_act hc rfl (by simp only [xv_act, xv_i1, xv_if, xv_cnd, hp, ht, xv_jmp, xv_nx, decide_true, not_false_eq_true, not_true_eq_false, decide_false, if_true]) (kt hp)
  · exact xx_act hc rfl (by simp only [xv_act, xv_i1, xv_if, xv_cnd, hp, xv_nx, decide_false, Bool.false_eq_true, if_false]) (kf hp)
theorem xo_if_neT (hc : xt_cd y pc = some (.ifCond .ne off, r, q)) (ht : (pc : Int) + off = (t : Int)) (hp : ¬ x = 0) (kt : xx sc y t L st h P) : xx sc y pc L (.int x :: st) h P := xo_if_ne hc ht (fun _ => kt) (fun z => absurd hp z)
theorem xo_if_neF (hc : xt_cd y pc = some (.ifCond .ne off, r, q)) (ht : (pc : Int) + off = (t : Int)) (hp : ¬ (¬ x = 0)) (kf : xx sc y (pc + 3) L st h P) : xx sc y pc L (.int x :: st) h P := xo_if_ne hc ht (fun z => absurd z hp) (fun _ => kf)
theorem xo_icmp_ne (hc : xt_cd y pc = some (.if_icmp .ne off, r, q)) (ht : (pc : Int) + off = (t : Int)) (kt : (¬ x = z) → xx sc y t L st h P) (kf : ¬ (¬ x = z) → xx sc y (pc + 3) L st h P) : xx sc y pc L (.int z :: .int x :: st) h P := by
  by_cases hp : ¬ x = z
  · exact xx_act hc rfl (by simp only [xv_act, xv_i2, xv_if, xv_cnd, hp, ht, xv_jmp, xv_nx, decide_true, not_false_eq_true, not_true_eq_false, decide_false, if_true]) (kt hp)
  · exact xx_act hc rfl (by simp only [xv_act, xv_i2, xv_if, xv_cnd, hp, xv_nx, decide_false, Bool.false_eq_true, if_false]) (kf hp)
theorem xo_icmp_neT (hc : xt_cd y pc = some (.if_icmp .ne off, r, q)) (ht : (pc : Int) + off = (t : Int)) (hp : ¬ x = z) (kt : xx sc y t L st h P) : xx sc y pc L (.int z :: .int x :: st) h P := xo_icmp_ne hc ht (fun _ => kt) (fun z => absurd hp z)
theorem xo_icmp_neF (hc : xt_cd y pc = some (.if_icmp .ne off, r, q)) (ht : (pc : Int) + off = (t : Int)) (hp : ¬ (¬ x = z)) (kf : xx sc y (pc + 3) L st h P) : xx sc y pc L (.int z :: .int x :: st) h P := xo_icmp_ne hc ht (fun z => absurd z hp) (fun _ => kf)
theorem xo_if_lt (hc : xt_cd y pc = some (.ifCond .lt off, r, q)) (ht : (pc : Int) + off = (t : Int)) (kt : (x < 0) → xx sc y t L st h P) (kf : ¬ (x < 0) → xx sc y (pc + 3) L st h P) : xx sc y pc L (.int x :: st) h P := by
  by_cases hp : x < 0
  · exact xx_act hc rfl (by simp only [xv_act, xv_i1, xv_if, xv_cnd, hp, ht, xv_jmp, xv_nx, decide_true, not_false_eq_true, not_true_eq_false, decide_false, if_true]) (kt hp)
  · exact xx_act hc rfl (by simp only [xv_act, xv_i1, xv_if, xv_cnd, hp, xv_nx, decide_false, Bool.false_eq_true, if_false]) (kf hp)
theorem xo_if_ltT (hc : xt_cd y pc = some (.ifCond .lt off, r, q)) (ht : (pc : Int) + off = (t : Int)) (hp : x < 0) (kt : xx sc y t L st h P) : xx sc y pc L (.int x :: st) h P := xo_if_lt hc ht (fun _ => kt) (fun z => absurd hp z)
theorem xo_if_ltF (hc : xt_cd y pc = some (.ifCond .lt off, r, q)) (ht : (pc : Int) + off = (t : Int)) (hp : ¬ (x < 0)) (kf : xx sc y (pc + 3) L st h P) : xx sc y pc L (.int x :: st) h P := xo_if_lt hc ht (fun z => absurd z hp) (fun _ => kf)
theorem xo_icmp_lt (hc : xt_cd y pc = some (.if_icmp .lt off, r, q)) (ht : (pc : Int) + off = (t : Int)) (kt : (x < z) → xx sc y t L st h P) (kf : ¬ (x < z) → xx sc y (pc + 3) L st h P) : xx sc y pc L (.int z :: .int x :: st) h P := by
  by_cases hp : x < z
  · exact xx_act hc rfl (by simp only [xv_act, xv_i2, xv_if, xv_cnd, hp, ht, xv_jmp, xv_nx, decide_true, not_false_eq_true, not_true_eq_false, decide_false, if_true]) (kt hp)
  · exact xx_act hc rfl (by simp only [xv_act, xv_i2, xv_if, xv_cnd, hp, xv_nx, decide_false, Bool.false_eq_true, if_false]) (kf hp)
theorem xo_icmp_ltT (hc : xt_cd y pc = some (.if_icmp .lt off, r, q)) (ht : (pc : Int) + off = (t : Int)) (hp : x < z) (kt : xx sc y t L st h P) : xx sc y pc L (.int z :: .int x :: st) h P := xo_icmp_lt hc ht (fun _ => kt) (fun z => absurd hp z)
theorem xo_icmp_ltF (hc : xt_cd y pc = some (.if_icmp .lt off, r, q)) (ht : (pc : Int) + off = (t : Int)) (hp : ¬ (x < z)) (kf : xx sc y (pc + 3) L st h P) : xx sc y pc L (.int z :: .int x :: st) h P := xo_icmp_lt hc ht (fun z => absurd z hp) (fun _ => kf)
theorem xo_if_ge (hc : xt_cd y pc = some (.ifCond .ge off, r, q)) (ht : (pc : Int) + off = (t : Int)) (kt : (0 ≤ x) → xx sc y t L st h P) (kf : ¬ (0 ≤ x) → xx sc y (pc + 3) L st h P) : xx sc y pc L (.int x :: st) h P := by
  by_cases hp : 0 ≤ x
  · exact xx_act hc rfl (by simp only [xv_act, xv_i1, xv_if, xv_cnd, hp, ht, xv_jmp, xv_nx, decide_true, not_false_eq_true, not_true_eq_false, decide_false, if_true]) (kt hp)
  · exact xx_act hc rfl (by simp only [xv_act, xv_i1, xv_if, xv_cnd, hp, xv_nx, decide_false, Bool.false_eq_true, if_false]) (kf hp)
theorem xo_if_geT (hc : xt_cd y pc = some (.ifCond .ge off, r, q)) (ht : (pc : Int) + off = (t : Int)) (hp : 0 ≤ x) (kt : xx sc y t L st h P) : xx sc y pc L (.int x :: st) h P := xo_if_ge hc ht (fun _ => kt) (fun z => absurd hp z)
theorem xo_if_geF (hc : xt_cd y pc = some (.ifCond .ge off, r, q)) (ht : (pc : Int) + off = (t : Int)) (hp : ¬ (0 ≤ x)) (kf : xx sc y (pc + 3) L st h P) : xx sc y pc L (.int x :: st) h P := xo_if_ge hc ht (fun z => absurd z hp) (fun _ => kf)
theorem xo_icmp_ge (hc : xt_cd y pc = some (.if_icmp .ge off, r, q)) (ht : (pc : Int) + off = (t : Int)) (kt : (z ≤ x) → xx sc y t L st h P) (kf : ¬ (z ≤ x) → xx sc y (pc + 3) L st h P) : xx sc y pc L (.int z :: .int x :: st) h P := by
  by_cases hp : z ≤ x
  · exact xx_act hc rfl (by simp only [xv_act, xv_i2, xv_if, xv_cnd, hp, ht, xv_jmp, xv_nx, decide_true, not_false_eq_true, not_true_eq_false, decide_false, if_true]) (kt hp)
  · exact xx_act hc rfl (by simp only [xv_act, xv_i2, xv_if, xv_cnd, hp, xv_nx, decide_false, Bool.false_eq_true, if_false]) (kf hp)
theorem xo_icmp_geT (hc : xt_cd y pc = some (.if_icmp .ge off, r, q)) (ht : (pc : Int) + off = (t : Int)) (hp : z ≤ x) (kt : xx sc y t L st h P) : xx sc y pc L (.int z :: .int x :: st) h P := xo_icmp_ge hc ht (fun _ => kt) (fun z => absurd hp z)
theorem xo_icmp_geF (hc : xt_cd y pc = some (.if_icmp .ge off, r, q)) (ht : (pc : Int) + off = (t : Int)) (hp : ¬ (z ≤ x)) (kf : xx sc y (pc + 3) L st h P) : xx sc y pc L (.int z :: .int x :: st) h P := xo_icmp_ge hc ht (fun z => absurd z hp) (fun _ => kf)
theorem xo_if_gt (hc : xt_cd y pc = some (.ifCond .gt off, r, q)) (ht : (pc : Int) + off = (t : Int)) (kt : (0 < x) → xx sc y t L st h P) (kf : ¬ (0 < x) → xx sc y (pc + 3) L st h P) : xx sc y pc L (.int x :: st) h P := by
  by_cases hp : 0 < x
  · exact xx_act hc rfl (by simp only [xv_act, xv_i1, xv_if, xv_cnd, hp, ht, xv_jmp, xv_nx, decide_true, not_false_eq_true, not_true_eq_false, decide_false, if_true]) (kt hp)
  · exact xx_act hc rfl (by simp only [xv_act, xv_i1, xv_if, xv_cnd, hp, xv_nx, decide_false, Bool.false_eq_true, if_false]) (kf hp)
theorem xo_if_gtT (hc : xt_cd y pc = some (.ifCond .gt off, r, q)) (ht : (pc : Int) + off = (t : Int)) (hp : 0 < x) (kt : xx sc y t L st h P) : xx sc y pc L (.int x :: st) h P := xo_if_gt hc ht (fun _ => kt) (fun z => absurd hp z)
theorem xo_if_gtF (hc : xt_cd y pc = some (.ifCond .gt off, r, q)) (ht : (pc : Int) + off = (t : Int)) (hp : ¬ (0 < x)) (kf : xx sc y (pc + 3) L st h P) : xx sc y pc L (.int x :: st) h P := xo_if_gt hc ht (fun z => absurd z hp) (fun _ => kf)
theorem xo_icmp_gt (hc : xt_cd y pc = some (.if_icmp .gt off, r, q)) (ht : (pc : Int) + off = (t : Int)) (kt : (z < x) → xx sc y t L st h P) (kf : ¬ (z < x) → xx sc y (pc + 3) L st h P) : xx sc y pc L (.int z :: .int x :: st) h P := by
  by_cases hp : z < x
  · exact xx_act hc rfl (by simp only [xv_act, xv_i2, xv_if, xv_cnd, hp, ht, xv_jmp, xv_nx, decide_true, not_false_eq_true, not_true_eq_false, decide_false, if_true]) (kt hp)
  · exact xx_act hc rfl (by simp only [xv_act, xv_i2, xv_if, xv_cnd, hp, xv_nx, decide_false, Bool.false_eq_true, if_false]) (kf hp)
theorem xo_icmp_gtT (hc : xt_cd y pc = some (.if_icmp .gt off, r, q)) (ht : (pc : Int) + off = (t : Int)) (hp : z < x) (kt : xx sc y t L st h P) : xx sc y pc L (.int z :: .int x :: st) h P := xo_icmp_gt hc ht (fun _ => kt) (fun z => absurd hp z)
theorem xo_icmp_gtF (hc : xt_cd y pc = some (.if_icmp .gt off, r, q)) (ht : (pc : Int) + off = (t : Int)) (hp : ¬ (z < x)) (kf : xx sc y (pc + 3) L st h P) : xx sc y pc L (.int z :: .int x :: st) h P := xo_icmp_gt hc ht (fun z => absurd z hp) (fun _ => kf)
theorem xo_if_le (hc : xt_cd y pc = some (.ifCond .le off, r, q)) (ht : (pc : Int) + off = (t : Int)) (kt : (x ≤ 0) → xx sc y t L st h P) (kf : ¬ (x ≤ 0) → xx sc y (pc + 3) L st h P) : xx sc y pc L (.int x :: st) h P := by
  by_cases hp : x ≤ 0
  · exact xx_act hc rfl (by simp only [xv_act, xv_i1, xv_if, xv_cnd, hp, ht, xv_jmp, xv_nx, decide_true, not_false_eq_true, not_true_eq_false, decide_false, if_true]) (kt hp)
  · exact xx_act hc rfl (by simp only [xv_act, xv_i1, xv_if, xv_cnd, hp, xv_nx, decide_false, Bool.false_eq_true, if_false]) (kf hp)
theorem xo_if_leT (hc : xt_cd y pc = some (.ifCond .le off, r, q)) (ht : (pc : Int) + off = (t : Int)) (hp : x ≤ 0) (kt : xx sc y t L st h P) : xx sc y pc L (.int x :: st) h P := xo_if_le hc ht (fun _ => kt) (fun z => absurd hp z)
theorem xo_if_leF (hc : xt_cd y pc = some (.ifCond .le off, r, q)) (ht : (pc : Int) + off = (t : Int)) (hp : ¬ (x ≤ 0)) (kf : xx sc y (pc + 3) L st h P) : xx sc y pc L (.int x :: st) h P := xo_if_le hc ht (fun z => absurd z hp) (fun _ => kf)
theorem xo_icmp_le (hc : xt_cd y pc = some (.if_icmp .le off, r, q)) (ht : (pc : Int) + off = (t : Int)) (kt : (x ≤ z) → xx sc y t L st h P) (kf : ¬ (x ≤ z) → xx sc y (pc + 3) L st h P) : xx sc y pc L (.int z :: .int x :: st) h P := by
  by_cases hp : x ≤ z
  · exact xx_act hc rfl (by simp only [xv_act, xv_i2, xv_if, xv_cnd, hp, ht, xv_jmp, xv_nx, decide_true, not_false_eq_true, not_true_eq_false, decide_false, if_true]) (kt hp)
  · exact xx_act hc rfl (by simp only [xv_act, xv_i2, xv_if, xv_cnd, hp, xv_nx, decide_false, Bool.false_eq_true, if_false]) (kf hp)
theorem xo_icmp_leT (hc : xt_cd y pc = some (.if_icmp .le off, r, q)) (ht : (pc : Int) + off = (t : Int)) (hp : x ≤ z) (kt : xx sc y t L st h P) : xx sc y pc L (.int z :: .int x :: st) h P := xo_icmp_le hc ht (fun _ => kt) (fun z => absurd hp z)
theorem xo_icmp_leF (hc : xt_cd y pc = some (.if_icmp .le off, r, q)) (ht : (pc : Int) + off = (t : Int)) (hp : ¬ (x ≤ z)) (kf : xx sc y (pc + 3) L st h P) : xx sc y pc L (.int z :: .int x :: st) h P := xo_icmp_le hc ht (fun z => absurd z hp) (fun _ => kf)
theorem xo_goto (hc : xt_cd y pc = some (.goto off, r, q)) (ht : (pc : Int) + off = (t : Int)) (k : xx sc y t L st h P) : xx sc y pc L st h P :=
  xx_act hc rfl (by simp only [xv_act, ht, xv_jmp, xv_nx]) k
theorem xo_ifnullN (hc : xt_cd y pc = some (.ifnull off, r, q)) (ht : (pc : Int) + off = (t : Int)) (k : xx sc y t L st h P) : xx sc y pc L (.null :: st) h P :=
  xx_act hc rfl (by simp [xv_act, xv_q1, xv_if, ht, xv_jmp, xv_nx]) k
theorem xo_ifnullR (hc : xt_cd y pc = some (.ifnull off, r, q)) (ht : (pc : Int) + off = (t : Int)) (k : xx sc y (pc + 3) L st h P) : xx sc y pc L (.ref a :: st) h P :=
  xx_act hc rfl (by simp [xv_act, xv_q1, xv_if, ht, xv_jmp, xv_nx]) k
theorem xo_ifnonnullN (hc : xt_cd y pc = some (.ifnonnull off, r, q)) (ht : (pc : Int) + off = (t : Int)) (k : xx sc y (pc + 3) L st h P) : xx sc y pc L (.null :: st) h P :=
  xx_act hc rfl (by simp [xv_act, xv_q1, xv_if, ht, xv_jmp, xv_nx]) k
theorem xo_ifnonnullR (hc : xt_cd y pc = some (.ifnonnull off, r, q)) (ht : (pc : Int) + off = (t : Int)) (k : xx sc y t L st h P) : xx sc y pc L (.ref a :: st) h P :=
  xx_act hc rfl (by simp [xv_act, xv_q1, xv_if, ht, xv_jmp, xv_nx]) k
theorem xo_acmp_eq {o1 o2 : Option Nat} (hc : xt_cd y pc = some (.if_acmp .eq off, r, q)) (ht : (pc : Int) + off = (t : Int)) (hk : xv_cok o1 o2 = true) (ke : o1 = o2 → xx sc y t L st h P) (kn : ¬ o1 = o2 → xx sc y (pc + 3) L st h P) : xx sc y pc L (va_rf o2 :: va_rf o1 :: st) h P := by
  by_cases hp : o1 = o2
  · refine xx_act hc rfl ?_ (ke hp)
    subst hp
    cases o1 <;> simp [xv_act, xv_q1, va_rf, hk, xv_if, ht, xv_jmp, xv_nx]
  · refine xx_act hc rfl ?_ (kn hp)
    cases o1 <;> cases o2 <;> simp [xv_act, xv_q1, va_rf, hk, xv_if, ht, xv_jmp, xv_nx] <;> simp_all
theorem xo_acmp_ne {o1 o2 : Option Nat} (hc : xt_cd y pc = some (.if_acmp .ne off, r, q)) (ht : (pc : Int) + off = (t : Int)) (hk : xv_cok o1 o2 = true) (ke : o1 = o2 → xx sc y (pc + 3) L st h P) (kn : ¬ o1 = o2 → xx sc y t L st h P) : xx sc y pc L (va_rf o2 :: va_rf o1 :: st) h P := by
  by_cases hp : o1 = o2
  · refine xx_act hc rfl ?_ (ke hp)
    subst hp
    cases o1 <;> simp [xv_act, xv_q1, va_rf, hk, xv_if, ht, xv_jmp, xv_nx]
  · refine xx_act hc rfl ?_ (kn hp)
    cases o1 <;> cases o2 <;> simp [xv_act, xv_q1, va_rf, hk, xv_if, ht, xv_jmp, xv_nx] <;> simp_all
theorem xo_tabOut {d lo hi : Int} {offs : Array Int} (hc : xt_cd y pc = some (.tableswitch d lo hi offs, r, q)) (hx : x.toInt < lo ∨ hi < x.toInt) (ht : (pc : Int) + d = (t : Int)) (k : xx sc y t L st h P) : xx sc y pc L (.int x :: st) h P :=
  xx_act hc rfl (by simp only [xv_act, xv_i1]; rw [if_pos hx]; simp only [ht, xv_jmp, xv_nx]) k
theorem xo_tabIn {d lo hi : Int} {offs : Array Int} (hc : xt_cd y pc = some (.tableswitch d lo hi offs, r, q)) (hx : ¬ (x.toInt < lo ∨ hi < x.toInt)) (ho : offs[(x.toInt - lo).toNat]? = some off) (ht : (pc : Int) + off = (t : Int)) (k : xx sc y t L st h P) : xx sc y pc L (.int x :: st) h P :=
  xx_act hc rfl (by simp only [xv_act, xv_i1]; rw [if_neg hx]; simp only [ho, ht, xv_jmp, xv_nx]) k
theorem xo_geti {i0 : Nat} (hc : xt_cd y pc = some (.getfield i0, r, q)) (hq : ¬ q = 1) (ha : a < n) (ht : tg a = r / 100) (k : xx sc y (pc + 3) L (.int (fi r a) :: st) (n, zz, tg, ln, fr, er, fi, ei, el) P) : xx sc y pc L (.ref a :: st) (n, zz, tg, ln, fr, er, fi, ei, el) P :=
  xx_act hc rfl (by simp [xv_act, xv_r1, ha, ht, hq, xv_nx]) k
theorem xo_getr {i0 : Nat} (hc : xt_cd y pc = some (.getfield i0, r, 1)) (ha : a < n) (ht : tg a = r / 100) (k : xx sc y (pc + 3) L (va_rf (fr r a) :: st) (n, zz, tg, ln, fr, er, fi, ei, el) P) : xx sc y pc L (.ref a :: st) (n, zz, tg, ln, fr, er, fi, ei, el) P :=
  xx_act hc rfl (by simp [xv_act, xv_r1, ha, ht, xv_nx]) k
/-- .. that is known -/
theorem xo_getv {i0 : Nat} (hc : xt_cd y pc = some (.getfield i0, r, 1)) (ha : a < n) (ht : tg a = r / 100) (hv : fr r a = some b) (k : xx sc y (pc + 3) L (.ref b :: st) (n, zz, tg, ln, fr, er, fi, ei, el) P) : xx sc y pc L (.ref a :: st) (n, zz, tg, ln, fr, er, fi, ei, el) P :=
  xo_getr hc ha ht (by rw [hv]; exact k)
theorem xo_puti {i0 : Nat} (hc : xt_cd y pc = some (.putfield i0, r, 0)) (ha : a < n) (ht : tg a = r / 100) (k : xx sc y (pc + 3) L st (n, zz, tg, ln, fr, er, xv_up fi r a x, ei, el) P) : xx sc y pc L (.int x :: .ref a :: st) (n, zz, tg, ln, fr, er, fi, ei, el) P :=
  xx_act hc rfl (by simp [xv_act, xv_i1, xv_r1, ha, ht, xv_nx]) k
theorem xo_putz {i0 : Nat} (hc : xt_cd y pc = some (.putfield i0, r, 2)) (ha : a < n) (ht : tg a = r / 100) (hx : x = 0 ∨ x = 1) (k : xx sc y (pc + 3) L st (n, zz, tg, ln, fr, er, xv_up fi r a x, ei, el) P) : xx sc y pc L (.int x :: .ref a :: st) (n, zz, tg, ln, fr, er, fi, ei, el) P :=
  xx_act hc rfl (by simp [xv_act, xv_i1, xv_r1, ha, ht, hx, xv_nx]) k
theorem xo_putr {i0 : Nat} (hc : xt_cd y pc = some (.putfield i0, r, 1)) (ha : a < n) (ht : tg a = r / 100) (k : xx sc y (pc + 3) L st (n, zz, tg, ln, xv_up fr r a (some b), er, fi, ei, el) P) : xx sc y pc L (.ref b :: .ref a :: st) (n, zz, tg, ln, fr, er, fi, ei, el) P :=
  xx_act hc rfl (by simp [xv_act, xv_q1, xv_r1, ha, ht, xv_nx]) k
theorem xo_putN {i0 : Nat} (hc : xt_cd y pc = some (.putfield i0, r, 1)) (ha : a < n) (ht : tg a = r / 100) (k : xx sc y (pc + 3) L st (n, zz, tg, ln, xv_up fr r a none, er, fi, ei, el) P) : xx sc y pc L (.null :: .ref a :: st) (n, zz, tg, ln, fr, er, fi, ei, el) P :=
  xx_act hc rfl (by simp [xv_act, xv_q1, xv_r1, ha, ht, xv_nx]) k
theorem xo_gets {i0 : Nat} (hc : xt_cd y pc = some (.getstatic i0, r, q)) (k : xx sc y (pc + 3) L (.ref (xv_SB + r) :: st) h P) : xx sc y pc L st h P :=
  xx_act hc rfl (by simp [xv_act, xv_nx]) k
theorem xo_iald (hc : xt_cd y pc = some (.iaload, r, q)) (ha : a < n) (h0 : 0 ≤ j) (hj : j.toNatClampNeg < ln a) (ht : tg a = 100) (hS : ¬ a = xv_SB) (k : xx sc y (pc + 1) L (.int (ei a j.toNatClampNeg) :: st) (n, zz, tg, ln, fr, er, fi, ei, el) P) : xx sc y pc L (.int j :: .ref a :: st) (n, zz, tg, ln, fr, er, fi, ei, el) P :=
  xx_act hc rfl (by simp [xv_act, xv_i1, xv_r1, xv_in, ha, h0, hj, ht, xv_nx, hS]) k
theorem xo_bald (hc : xt_cd y pc = some (.baload, r, q)) (ha : a < n) (h0 : 0 ≤ j) (hj : j.toNatClampNeg < ln a) (ht : tg a = 101) (k : xx sc y (pc + 1) L (.int (ei a j.toNatClampNeg) :: st) (n, zz, tg, ln, fr, er, fi, ei, el) P) : xx sc y pc L (.int j :: .ref a :: st) (n, zz, tg, ln, fr, er, fi, ei, el) P :=
  xx_act hc rfl (by simp [xv_act, xv_i1, xv_r1, xv_in, ha, h0, hj, ht, xv_nx]) k
theorem xo_zald (hc : xt_cd y pc = some (.baload, r, q)) (ha : a < n) (h0 : 0 ≤ j) (hj : j.toNatClampNeg < ln a) (ht : tg a = 102) (k : xx sc y (pc + 1) L (.int (ei a j.toNatClampNeg) :: st) (n, zz, tg, ln, fr, er, fi, ei, el) P) : xx sc y pc L (.int j :: .ref a :: st) (n, zz, tg, ln, fr, er, fi, ei, el) P :=
  xx_act hc rfl (by simp [xv_act, xv_i1, xv_r1, xv_in, ha, h0, hj, ht, xv_nx]) k
theorem xo_lald (hc : xt_cd y pc = some (.laload, r, q)) (ha : a < n) (h0 : 0 ≤ j) (hj : j.toNatClampNeg < ln a) (ht : tg a = 103) (k : xx sc y (pc + 1) L (.long (el a j.toNatClampNeg) :: st) (n, zz, tg, ln, fr, er, fi, ei, el) P) : xx sc y pc L (.int j :: .ref a :: st) (n, zz, tg, ln, fr, er, fi, ei, el) P :=
  xx_act hc rfl (by simp [xv_act, xv_i1, xv_r1, xv_in, ha, h0, hj, ht, xv_nx]) k
theorem xo_aald (hc : xt_cd y pc = some (.aaload, r, q)) (ha : a < n) (h0 : 0 ≤ j) (hj : j.toNatClampNeg < ln a) (ht : tg a = r) (k : xx sc y (pc + 1) L (va_rf (er a j.toNatClampNeg) :: st) (n, zz, tg, ln, fr, er, fi, ei, el) P) : xx sc y pc L (.int j :: .ref a :: st) (n, zz, tg, ln, fr, er, fi, ei, el) P :=
  xx_act hc rfl (by simp [xv_act, xv_i1, xv_r1, xv_in, ha, h0, hj, ht, xv_nx]) k
theorem xo_aaldv (hc : xt_cd y pc = some (.aaload, r, q)) (ha : a < n) (h0 : 0 ≤ j) (hj : j.toNatClampNeg < ln a) (ht : tg a = r) (hv : er a j.toNatClampNeg = some b) (k : xx sc y (pc + 1) L (.ref b :: st) (n, zz, tg, ln, fr, er, fi, ei, el) P) : xx sc y pc L (.int j :: .ref a :: st) (n, zz, tg, ln, fr, er, fi, ei, el) P := xo_aald hc ha h0 hj ht (by rw [hv]; exact k)
theorem xo_iast (hc : xt_cd y pc = some (.iastore, r, q)) (ha : a < n) (h0 : 0 ≤ j) (hj : j.toNatClampNeg < ln a) (ht : tg a = 100) (k : xx sc y (pc + 1) L st (n, zz, tg, ln, fr, er, fi, xv_up ei a j.toNatClampNeg x, el) P) : xx sc y pc L (.int x :: .int j :: .ref a :: st) (n, zz, tg, ln, fr, er, fi, ei, el) P :=
  xx_act hc rfl (by simp [xv_act, xv_i1, xv_l1, xv_q1, xv_r1, xv_in, ha, h0, hj, ht, xv_nx]) k
theorem xo_bast (hc : xt_cd y pc = some (.bastore, r, q)) (ha : a < n) (h0 : 0 ≤ j) (hj : j.toNatClampNeg < ln a) (ht : tg a = 101) (k : xx sc y (pc + 1) L st (n, zz, tg, ln, fr, er, fi, xv_up ei a j.toNatClampNeg x.toInt8.toInt32, el) P) : xx sc y pc L (.int x :: .int j :: .ref a :: st) (n, zz, tg, ln, fr, er, fi, ei, el) P :=
  xx_act hc rfl (by simp [xv_act, xv_i1, xv_l1, xv_q1, xv_r1, xv_in, ha, h0, hj, ht, xv_nx]) k
theorem xo_zast (hc : xt_cd y pc = some (.bastore, r, q)) (ha : a < n) (h0 : 0 ≤ j) (hj : j.toNatClampNeg < ln a) (ht : tg a = 102) (hx : x = 0 ∨ x = 1) (k : xx sc y (pc + 1) L st (n, zz, tg, ln, fr, er, fi, xv_up ei a j.toNatClampNeg x, el) P) : xx sc y pc L (.int x :: .int j :: .ref a :: st) (n, zz, tg, ln, fr, er, fi, ei, el) P :=
  xx_act hc rfl (by simp [xv_act, xv_i1, xv_l1, xv_q1, xv_r1, xv_in, ha, h0, hj, ht, xv_nx, hx]) k
theorem xo_last (hc : xt_cd y pc = some (.lastore, r, q)) (ha : a < n) (h0 : 0 ≤ j) (hj : j.toNatClampNeg < ln a) (ht : tg a = 103) (k : xx sc y (pc + 1) L st (n, zz, tg, ln, fr, er, fi, ei, xv_up el a j.toNatClampNeg u) P) : xx sc y pc L (.long u :: .int j :: .ref a :: st) (n, zz, tg, ln, fr, er, fi, ei, el) P :=
  xx_act hc rfl (by simp [xv_act, xv_i1, xv_l1, xv_q1, xv_r1, xv_in, ha, h0, hj, ht, xv_nx]) k
theorem xo_aastN (hc : xt_cd y pc = some (.aastore, r, q)) (ha : a < n) (h0 : 0 ≤ j) (hj : j.toNatClampNeg < ln a) (ht : tg a = r) (k : xx sc y (pc + 1) L st (n, zz, tg, ln, fr, xv_up er a j.toNatClampNeg none, fi, ei, el) P) : xx sc y pc L (.null :: .int j :: .ref a :: st) (n, zz, tg, ln, fr, er, fi, ei, el) P :=
  xx_act hc rfl (by simp [xv_act, xv_i1, xv_l1, xv_q1, xv_r1, xv_in, ha, h0, hj, ht, xv_nx, xv_ok]) k
theorem xo_aast (hc : xt_cd y pc = some (.aastore, r, q)) (ha : a < n) (h0 : 0 ≤ j) (hj : j.toNatClampNeg < ln a) (ht : tg a = r) (hb : b < n) (htb : tg b = xt_cp r) (k : xx sc y (pc + 1) L st (n, zz, tg, ln, fr, xv_up er a j.toNatClampNeg (some b), fi, ei, el) P) : xx sc y pc L (.ref b :: .int j :: .ref a :: st) (n, zz, tg, ln, fr, er, fi, ei, el) P :=
  xx_act hc rfl (by simp [xv_act, xv_i1, xv_l1, xv_q1, xv_r1, xv_in, ha, h0, hj, ht, xv_nx, xv_ok, hb, htb]) k
theorem xo_alen (hc : xt_cd y pc = some (.arraylength, r, q)) (ha : a < n) (h1 : ¬ a = xv_SB) (h2 : ¬ (a = xv_SB + 2 ∧ q = 1)) (ht : tg a = r) (k : xx sc y (pc + 1) L (.int (Int32.ofNat (ln a)) :: st) (n, zz, tg, ln, fr, er, fi, ei, el) P) : xx sc y pc L (.ref a :: st) (n, zz, tg, ln, fr, er, fi, ei, el) P :=
  xx_act hc rfl (by simp only [xv_act, xv_r1]; rw [if_neg h1, if_neg h2, if_pos ⟨ha, ht⟩]; rfl) k
theorem xo_elen (hc : xt_cd y pc = some (.arraylength, r, 1)) (k : xx sc y (pc + 1) L (.int 0 :: st) h P) : xx sc y pc L (.ref (xv_SB + 2) :: st) h P :=
  xx_act hc rfl (by simp [xv_act, xv_r1, xv_nx]) k
theorem xo_slen (hc : xt_cd y pc = some (.arraylength, r, q)) (k : xx sc y (pc + 1) L (.int (Int32.ofNat sc.1) :: st) h P) : xx sc y pc L (.ref xv_SB :: st) h P :=
  xx_act hc rfl (by simp [xv_act, xv_r1, xv_nx]) k
theorem xo_sald (hc : xt_cd y pc = some (.iaload, r, q)) (h0 : 0 ≤ j) (hj : j.toNatClampNeg < sc.1) (k : xx sc y (pc + 1) L (.int (sc.2 j.toNatClampNeg) :: st) h P) : xx sc y pc L (.int j :: .ref xv_SB :: st) h P :=
  xx_act hc rfl (by simp [xv_act, xv_i1, xv_r1, h0, hj, xv_nx]) k
theorem xo_new {i0 : Nat} (hc : xt_cd y pc = some (.new i0, r, q)) (k : xx sc y (pc + 3) L (.ref n :: st) (xv_new (n, zz, tg, ln, fr, er, fi, ei, el) r 0 q) P) : xx sc y pc L st (n, zz, tg, ln, fr, er, fi, ei, el) P :=
  xx_act hc rfl (by simp [xv_act, xv_new1, xv_nx]) k
theorem xo_newa {at_ : ClassFile.ArrayType} (hc : xt_cd y pc = some (.newarray at_, r, q)) (h0 : 0 ≤ x) (hx : x.toNatClampNeg ≤ 60000000) (k : xx sc y (pc + 2) L (.ref n :: st) (xv_new (n, zz, tg, ln, fr, er, fi, ei, el) r x.toNatClampNeg x.toNatClampNeg) P) : xx sc y pc L (.int x :: st) (n, zz, tg, ln, fr, er, fi, ei, el) P :=
  xx_act hc rfl (by simp [xv_act, xv_i1, xv_len, h0, hx, xv_new1, xv_nx]) k
theorem xo_anew {i0 : Nat} (hc : xt_cd y pc = some (.anewarray i0, r, q)) (h0 : 0 ≤ x) (hx : x.toNatClampNeg ≤ 60000000) (k : xx sc y (pc + 3) L (.ref n :: st) (xv_new (n, zz, tg, ln, fr, er, fi, ei, el) r x.toNatClampNeg x.toNatClampNeg) P) : xx sc y pc L (.int x :: st) (n, zz, tg, ln, fr, er, fi, ei, el) P :=
  xx_act hc rfl (by simp [xv_act, xv_i1, xv_len, h0, hx, xv_new1, xv_nx]) k
theorem xo_cast {i0 : Nat} (hc : xt_cd y pc = some (.checkcast i0, r, q)) (ha : a < n) (ht : tg a = r) (k : xx sc y (pc + 3) L (.ref a :: st) (n, zz, tg, ln, fr, er, fi, ei, el) P) : xx sc y pc L (.ref a :: st) (n, zz, tg, ln, fr, er, fi, ei, el) P :=
  xx_act hc rfl (by simp [xv_act, ha, ht, xv_nx]) k
theorem xo_castN {i0 : Nat} (hc : xt_cd y pc = some (.checkcast i0, r, q)) (k : xx sc y (pc + 3) L (.null :: st) h P) : xx sc y pc L (.null :: st) h P :=
  xx_act hc rfl (by simp [xv_act, xv_nx]) k
theorem xo_ireturn (hc : xt_cd y pc = some (.ireturn, r, 0)) (hp : P (some (.int x)) h) : xx sc y pc L [.int x] h P := xx_ret hc rfl (by simp [xv_ret]) hp
theorem xo_zreturn (hc : xt_cd y pc = some (.ireturn, r, 2)) (hx : x = 0 ∨ x = 1) (hp : P (some (.int x)) h) : xx sc y pc L [.int x] h P := xx_ret hc rfl (by simp [xv_ret, hx]) hp
theorem xo_lreturn (hc : xt_cd y pc = some (.lreturn, r, q)) (hp : P (some (.long u)) h) : xx sc y pc L [.long u] h P := xx_ret hc rfl (by simp [xv_ret]) hp
theorem xo_areturn (hc : xt_cd y pc = some (.areturn, r, q)) (hp : P (some (.ref a)) h) : xx sc y pc L [.ref a] h P := xx_ret hc rfl (by simp [xv_ret]) hp
theorem xo_areturnN (hc : xt_cd y pc = some (.areturn, r, q)) (hp : P (some .null) h) : xx sc y pc L [.null] h P := xx_ret hc rfl (by simp [xv_ret]) hp
theorem xo_return (hc : xt_cd y pc = some (.return_, r, q)) (hp : P none h) : xx sc y pc L [] h P := xx_ret hc rfl (by simp [xv_ret]) hp
theorem xo_init {i0 : Nat} (hc : xt_cd y pc = some (.invokespecial i0, 1001, q)) (hr : xv_room st = true) (k : xx sc y (pc + 3) L st h P) : xx sc y pc L (.ref a :: st) h P :=
  xx_own hc rfl (by simp [xv_inv, xv_r1, hr, xv_nx]) k
theorem xo_min {i0 : Nat} (hc : xt_cd y pc = some (.invokestatic i0, 1004, q)) (hr : xv_room st = true) (k : xx sc y (pc + 3) L (.int (if z < x then z else x) :: st) h P) : xx sc y pc L (.int z :: .int x :: st) h P :=
  xx_own hc rfl (by simp [xv_inv, xv_i2, hr, xv_nx]) k
theorem xo_max {i0 : Nat} (hc : xt_cd y pc = some (.invokestatic i0, 1005, q)) (hr : xv_room st = true) (k : xx sc y (pc + 3) L (.int (if x < z then z else x) :: st) h P) : xx sc y pc L (.int z :: .int x :: st) h P :=
  xx_own hc rfl (by simp [xv_inv, xv_i2, hr, xv_nx]) k
theorem xo_getC {i0 : Nat} (hc : xt_cd y pc = some (.invokevirtual i0, 1003, q)) (ha : a < n) (ht : tg a = q) (hr : xv_room st = true) (k : xx sc y (pc + 3) L (.ref (xv_SB + 1) :: st) (n, zz, tg, ln, fr, er, fi, ei, el) P) : xx sc y pc L (.ref a :: st) (n, zz, tg, ln, fr, er, fi, ei, el) P :=
  xx_own hc rfl (by simp [xv_inv, xv_r1, ha, ht, hr, xv_nx]) k
/-- calls -/
theorem xo_static {i0 : Nat} {P' : Option Value → xv_H → Prop} {av rest : List Value} (hc : xt_cd y pc = some (.invokestatic i0, r, q)) (hr : ¬ r = 1000 ∧ ¬ r = 1004 ∧ ¬ r = 1005) (hst : st = av.reverse ++ rest) (hq : av.length = q) (hf : xv_fit (xt_lg r) (xt_mx r) 0 av = true) (hR : xv_room rest = true) (hm : xr sc r av h P') (k : ∀ v h', P' v h' → xx sc y (pc + 3) L (v.toList ++ rest) h' P) : xx sc y pc L st h P := by
  subst hst; subst hq
  refine xx_call (av := av) (rest := rest) hc rfl ?_ hm k
  have e1 : (av.reverse ++ rest).take av.length = av.reverse := by rw [← List.length_reverse]; exact List.take_left' rfl
  have e2 : (av.reverse ++ rest).drop av.length = rest := by rw [← List.length_reverse]; exact List.drop_left' rfl
  simp only [xv_inv, if_neg hr.1, if_neg hr.2.1, if_neg hr.2.2]
  rw [if_neg (by simp), e1, e2, List.reverse_reverse]
  simp only [xv_call, hf, hR]
  rfl
theorem xo_special {i0 : Nat} {P' : Option Value → xv_H → Prop} {av rest : List Value} (hc : xt_cd y pc = some (.invokespecial i0, r, q)) (hr : ¬ r = 1001) (hst : st = av.reverse ++ .ref a :: rest) (hq : av.length = q) (hf : xv_fit (xt_lg r) (xt_mx r) 0 (.ref a :: av) = true) (hR : xv_room rest = true) (hm : xr sc r (.ref a :: av) h P') (k : ∀ v h', P' v h' → xx sc y (pc + 3) L (v.toList ++ rest) h' P) : xx sc y pc L st h P := by
  subst hst; subst hq
  refine xx_call (av := .ref a :: av) (rest := rest) hc rfl ?_ hm k
  have e1 : (av.reverse ++ .ref a :: rest).take av.length = av.reverse := by rw [← List.length_reverse]; exact List.take_left' rfl
  have e2 : (av.reverse ++ .ref a :: rest).drop av.length = .ref a :: rest := by rw [← List.length_reverse]; exact List.drop_left' rfl
  simp only [xv_inv, if_neg hr]
  rw [if_neg (by simp), e1, e2, List.reverse_reverse]
  simp only [xv_r1, xv_call, hf, hR]
  rfl
theorem xo_virtual {i0 : Nat} {P' : Option Value → xv_H → Prop} {av rest : List Value} (hc : xt_cd y pc = some (.invokevirtual i0, r, q)) (hr : ¬ r = 1002 ∧ ¬ r = 1003) (ha : a < n) (ht : tg a = xt_cs r) (hst : st = av.reverse ++ .ref a :: rest) (hq : av.length = q) (hf : xv_fit (xt_lg r) (xt_mx r) 0 (.ref a :: av) = true) (hR : xv_room rest = true) (hm : xr sc r (.ref a :: av) (n, zz, tg, ln, fr, er, fi, ei, el) P') (k : ∀ v h', P' v h' → xx sc y (pc + 3) L (v.toList ++ rest) h' P) : xx sc y pc L st (n, zz, tg, ln, fr, er, fi, ei, el) P := by
  subst hst; subst hq
  refine xx_call (av := .ref a :: av) (rest := rest) hc rfl ?_ hm k
  have e1 : (av.reverse ++ .ref a :: rest).take av.length = av.reverse := by rw [← List.length_reverse]; exact List.take_left' rfl
  have e2 : (av.reverse ++ .ref a :: rest).drop av.length = .ref a :: rest := by rw [← List.length_reverse]; exact List.drop_left' rfl
  simp only [xv_inv, if_neg hr.1, if_neg hr.2]
  rw [if_neg (by simp), e1, e2, List.reverse_reverse]
  simp only [xv_r1]
  rw [if_pos ⟨ha, ht⟩]
  simp only [xv_call, hf, hR]
  rfl
end XO
