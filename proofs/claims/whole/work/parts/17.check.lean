/-! A check of the tables that the kernel can run, and what it gives. -/
def xt_WS : List Jvm.Cond := lw_tbl.filter goodWord
def xt_is (p : Nat) (c : Jvm.Cond) : Bool := decide (xt_w p = some c)
theorem xt_mem {p : Nat} {c : Jvm.Cond} (h : xt_w p = some c) (hg : goodWord c = true) : c ∈ xt_WS := by
  refine List.mem_filter.mpr ⟨?_, hg⟩
  unfold xt_w at h
  unfold lw_tbl
  split at h
  · refine List.mem_append_right _ ?_
    split at h
    · rename_i l hl
      have h1 : c ∈ l := List.mem_of_getElem? h
      have h2 : l ∈ xt_tb := List.mem_of_getElem? hl
      unfold xt_tb at h2
      unfold tables_1
      simp only [List.mem_cons, List.not_mem_nil, or_false] at h2
      simp only [List.mem_append]
      rcases h2 with rfl | rfl | rfl | rfl | rfl | rfl
      · exact Or.inl h1
      · exact Or.inr (Or.inl h1)
      · exact Or.inr (Or.inr (Or.inl h1))
      · exact Or.inr (Or.inr (Or.inr (Or.inl h1)))
      · exact Or.inr (Or.inr (Or.inr (Or.inr (Or.inl h1))))
      · exact Or.inr (Or.inr (Or.inr (Or.inr (Or.inr h1))))
    · cases h
  · exact List.mem_append_left _ (List.mem_of_getElem? h)
theorem xt_got {p : Nat} {c : Jvm.Cond} (h : xt_is p c = true) (hg : goodWord c = true) : c ∈ xt_WS := xt_mem (of_decide_eq_true h) hg
def xt_chkF (y : MethodName) (r q i : Nat) (v : List Nat) : Bool := match xt_cl[r / 100]? with
  | none => false
  | some c => decide (r % 100 < c.2.2) && decide (r / 100 < 100) && decide (xt_rk r = decide (q = 1)) && (match v with
    | [p] => xt_is p (.fieldLink y.cls i (c.2.1 (r % 100)).1 (c.2.1 (r % 100)).2.1 (c.2.1 (r % 100)).2.2.1)
    | [p, p2] => xt_is p (.fieldLink y.cls i c.1 (c.2.1 (r % 100)).2.1 (c.2.1 (r % 100)).2.2.1) && xt_is p2 (.sameField c.1 (c.2.1 (r % 100)).1 (c.2.1 (r % 100)).2.1 (c.2.1 (r % 100)).2.2.1)
    | _ => false)
def xt_chkP (y : MethodName) (r q : Nat) : Bool := match xt_cl[r / 100]? with
  | none => false
  | some c => (!(c.2.1 (r % 100)).2.2.2 || ((c.2.1 (r % 100)).2.2.2 && decide (y.name = "<init>") && decide ((c.2.1 (r % 100)).1 = y.cls))) && (match q with
    | 0 => decide (xt_tyf (r / 100) (r % 100) = .int)
    | 1 => xt_isR (xt_tyf (r / 100) (r % 100))
    | 2 => decide (xt_tyf (r / 100) (r % 100) = .boolean)
    | _ => false)
def xt_obj (r : Nat) : Option String := if 104 ≤ r then (match xt_aty[r - 100]? with
  | some (.object C) => some C
  | _ => none) else none
def xt_cast (r : Nat) (C : String) : Bool := match xt_cl[xt_cp r]? with
  | none => false
  | some c => decide (xt_cp r < 100) && (decide (C = c.1) || decide ((c.1, C) ∈ xt_sx.1))
def xt_chkI (y : MethodName) (pc : Nat) (ic : xv_I) (v : List Nat) : Bool := match ic.1 with
  | .ldc i => (match v with
    | [p] => (decide (ic.2.2 = 0) && xt_is p (.constant y.cls i (Int32.ofNat ic.2.1))) || (decide (ic.2.2 = 1) && xt_is p (.classLink y.cls i "[Ljava/lang/Object;"))
    | _ => false)
  | .ldc2_w i => (match v with
    | [p] => xt_is p (.constantLong y.cls i (Int64.ofNat ic.2.1))
    | _ => false)
  | .ifCond _ off => decide (0 ≤ (pc : Int) + off)
  | .if_icmp _ off => decide (0 ≤ (pc : Int) + off)
  | .if_acmp _ off => decide (0 ≤ (pc : Int) + off)
  | .ifnull off => decide (0 ≤ (pc : Int) + off)
  | .ifnonnull off => decide (0 ≤ (pc : Int) + off)
  | .getfield i => xt_chkF y ic.2.1 ic.2.2 i v
  | .putfield i => xt_chkF y ic.2.1 ic.2.2 i v && xt_chkP y ic.2.1 ic.2.2
  | .getstatic i => (match xt_stt[ic.2.1 - 2]? with
    | some q => decide (2 ≤ ic.2.1) && (match v with
      | [p] => xt_is p (.fieldLink y.cls i q.1 q.2.1 q.2.2)
      | _ => false)
    | none => false)
  | .aaload => (xt_obj ic.2.1).isSome
  | .aastore => (match xt_obj ic.2.1 with
    | some C => xt_cast ic.2.1 C
    | none => false)
  | .arraylength => decide (100 ≤ ic.2.1) && (xt_aty[ic.2.1 - 100]?).isSome
  | .new i => (match xt_cl[ic.2.1]? with
    | some q => decide (ic.2.1 < 100) && decide (ic.2.2 = q.2.2) && (match v with
      | [p1, p2, p3] => xt_is p1 (.classLink y.cls i q.1) && xt_is p2 (.instantiable q.1 q.2.2) && xt_is p3 (.initialized q.1)
      | _ => false)
    | none => false)
  | .newarray t => decide (100 ≤ ic.2.1) && decide (xt_aty[ic.2.1 - 100]? = some (newarray.typeOf t)) && ((decide (ic.2.1 - 100 = 3) && decide (newarray.typeOf t = .long)) || (decide (ic.2.1 - 100 < 3) && decide (defaultValue (newarray.typeOf t) = .int 0) && decide (componentBytes (newarray.typeOf t) ≤ 4))) && (match v with
      | [p] => xt_is p (.arrayClass (newarray.typeOf t))
      | _ => false)
  | .anewarray i => (match xt_obj ic.2.1 with
    | some C => decide (C ∈ xt_sx.2.1) && (match v with
      | [p] => xt_is p (.classLink y.cls i C)
      | _ => false)
    | none => false)
  | .checkcast i => (match v with
    | [p] => if ic.2.1 < 100 then (match xt_cl[ic.2.1]? with
        | some q => xt_is p (.classLink y.cls i q.1)
        | none => false) else (match xt_aty[ic.2.1 - 100]? with
        | some ty => xt_is p (.classLink y.cls i ("[" ++ ty.toString))
        | none => false)
    | _ => false)
  | _ => true
theorem xt_obj_spec {r : Nat} {C : String} (h : xt_obj r = some C) : ∃ j, r = 100 + j ∧ 4 ≤ j ∧ xt_aty[j]? = some (.object C) := by
  unfold xt_obj at h
  split at h
  · rename_i hr
    split at h
    · rename_i C' hC
      cases h
      exact ⟨r - 100, by omega, by omega, hC⟩
    · cases h
  · cases h
theorem xt_chkF_spec {y : MethodName} {r q i : Nat} {v : List Nat} (h : xt_chkF y r q i v = true) : ∃ (c : vw_C) (ref : String), r / 100 < 100 ∧ xt_cl[r / 100]? = some c ∧ r % 100 < c.2.2 ∧ Jvm.Cond.fieldLink y.cls i ref (c.2.1 (r % 100)).2.1 (c.2.1 (r % 100)).2.2.1 ∈ xt_WS ∧ xv_same xt_WS ref (c.2.1 (r % 100)).1 (c.2.1 (r % 100)).2.1 (c.2.1 (r % 100)).2.2.1 ∧ xt_rk r = decide (q = 1) := by
  unfold xt_chkF at h
  split at h
  · cases h
  · rename_i c hc
    simp only [Bool.and_eq_true, decide_eq_true_eq] at h
    obtain ⟨⟨⟨h1, h2⟩, h3⟩, h4⟩ := h
    split at h4
    · exact ⟨c, _, h2, hc, h1, xt_got h4 rfl, Or.inl rfl, h3⟩
    · simp only [Bool.and_eq_true] at h4
      exact ⟨c, _, h2, hc, h1, xt_got h4.1 rfl, Or.inr (xt_got h4.2 rfl), h3⟩
    · cases h4
theorem xt_isR_spec {t : FieldType} (h : xt_isR t = true) : (∃ C, t = .object C) ∨ ∃ u, t = .array u := by
  cases t <;> first | exact Or.inl ⟨_, rfl⟩ | exact Or.inr ⟨_, rfl⟩ | cases h
theorem xt_chkI_spec {y : MethodName} {pc : Nat} {ic : xv_I} {v : List Nat} (h : xt_chkI y pc ic v = true) : xv_okI xt_sx xt_cl xt_tyf xt_rk xt_aty xt_cp xt_WS xt_stt y pc ic := by
  obtain ⟨I, r, q⟩ := ic
  cases I
  case ldc i =>
    simp only [xt_chkI] at h
    split at h
    · simp only [Bool.or_eq_true, Bool.and_eq_true, decide_eq_true_eq] at h
      rcases h with ⟨h1, h2⟩ | ⟨h1, h2⟩
      · exact Or.inl ⟨h1, xt_got h2 rfl⟩
      · exact Or.inr ⟨h1, xt_got h2 rfl⟩
    · cases h
  case ldc2_w i =>
    simp only [xt_chkI] at h
    split at h
    · exact xt_got h rfl
    · cases h
  case ifCond => simpa [xt_chkI, xv_okI] using h
  case if_icmp => simpa [xt_chkI, xv_okI] using h
  case if_acmp => simpa [xt_chkI, xv_okI] using h
  case ifnull => simpa [xt_chkI, xv_okI] using h
  case ifnonnull => simpa [xt_chkI, xv_okI] using h
  case getfield i =>
    obtain ⟨c, ref, h1, h2, h3, h4, h5, h6⟩ := xt_chkF_spec h
    exact ⟨r / 100, r % 100, c, ref, by simp only; omega, by omega, h1, h2, h3, h4, h5, h6⟩
  case putfield i =>
    simp only [xt_chkI, Bool.and_eq_true] at h
    obtain ⟨c, ref, h1, h2, h3, h4, h5, h6⟩ := xt_chkF_spec h.1
    have hp := h.2
    unfold xt_chkP at hp
    rw [h2] at hp
    simp only [Bool.and_eq_true, Bool.or_eq_true, Bool.not_eq_true', decide_eq_true_eq] at hp
    obtain ⟨p1, p2⟩ := hp
    refine ⟨r / 100, r % 100, c, ref, by simp only; omega, by omega, h1, h2, h3, h4, h5, h6, ?_, ?_, ?_, ?_⟩
    · rcases p1 with p1 | ⟨⟨p1, p3⟩, p4⟩
      · exact Or.inl p1
      · exact Or.inr ⟨p1, p3, p4⟩
    · intro hq
      simp only at hq
      subst hq
      exact xt_isR_spec p2
    · intro hq
      simp only at hq
      subst hq
      exact of_decide_eq_true p2
    · intro hq
      simp only at hq
      subst hq
      exact of_decide_eq_true p2
  case getstatic i =>
    simp only [xt_chkI] at h
    split at h
    · rename_i q0 hq0
      simp only [Bool.and_eq_true, decide_eq_true_eq] at h
      obtain ⟨h1, h2⟩ := h
      split at h2
      · exact ⟨q0, _, r - 2, by simp only; omega, hq0, xt_got h2 rfl, Or.inl rfl⟩
      · cases h2
    · cases h
  case aaload =>
    simp only [xt_chkI] at h
    obtain ⟨C, hC⟩ := Option.isSome_iff_exists.mp h
    obtain ⟨j, h1, h2, h3⟩ := xt_obj_spec hC
    exact ⟨j, C, h1, h2, h3⟩
  case aastore =>
    simp only [xt_chkI] at h
    split at h
    · rename_i C hC
      obtain ⟨j, h1, h2, h3⟩ := xt_obj_spec hC
      unfold xt_cast at h
      split at h
      · cases h
      · rename_i c hc
        simp only [Bool.and_eq_true, Bool.or_eq_true, decide_eq_true_eq] at h
        exact ⟨j, C, c, h1, h2, h3, hc, h.1, h.2⟩
    · cases h
  case arraylength =>
    simp only [xt_chkI, Bool.and_eq_true, decide_eq_true_eq] at h
    obtain ⟨ty, hty⟩ := Option.isSome_iff_exists.mp h.2
    exact ⟨r - 100, ty, by simp only; omega, hty⟩
  case new i =>
    simp only [xt_chkI] at h
    split at h
    · rename_i c hc
      simp only [Bool.and_eq_true, decide_eq_true_eq] at h
      obtain ⟨⟨h1, h2⟩, h3⟩ := h
      split at h3
      · simp only [Bool.and_eq_true] at h3
        exact ⟨c, hc, h1, h2, xt_got h3.1.1 rfl, xt_got h3.1.2 rfl, xt_got h3.2 rfl⟩
      · cases h3
    · cases h
  case newarray t =>
    simp only [xt_chkI, Bool.and_eq_true, Bool.or_eq_true, decide_eq_true_eq] at h
    obtain ⟨⟨⟨h1, h2⟩, h3⟩, h4⟩ := h
    split at h4
    · refine ⟨r - 100, by simp only; omega, h2, xt_got h4 rfl, ?_⟩
      rcases h3 with h3 | h3
      · exact Or.inl h3
      · exact Or.inr ⟨h3.1.1, h3.1.2, h3.2⟩
    · cases h4
  case anewarray i =>
    simp only [xt_chkI] at h
    split at h
    · rename_i C hC
      obtain ⟨j, h1, h2, h3⟩ := xt_obj_spec hC
      simp only [Bool.and_eq_true, decide_eq_true_eq] at h
      obtain ⟨h4, h5⟩ := h
      split at h5
      · exact ⟨j, C, h1, h2, h3, xt_got h5 rfl, h4⟩
      · cases h5
    · cases h
  case checkcast i =>
    simp only [xt_chkI] at h
    split at h
    · split at h
      · rename_i hr
        split at h
        · rename_i c hc
          exact Or.inl ⟨c, hc, hr, xt_got h rfl⟩
        · cases h
      · rename_i hr
        split at h
        · rename_i ty hty
          exact Or.inr ⟨r - 100, ty, by simp only; omega, hty, xt_got h rfl⟩
        · cases h
    · cases h
  all_goals trivial
