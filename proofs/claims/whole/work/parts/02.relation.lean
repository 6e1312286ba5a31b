/-! What the abstract heap says of the machine's: cell a is the machine's cell B0 + a; the numbers from xv_SB on are cells that were there before. -/
/-- B0; how many cells were there before; where; the tables of classes and of fields; of arrays; the heap before -/
abbrev xv_W : Type := Nat × Nat × (Nat → Nat) × va_G × (Nat → ClassId) × Heap
def xv_al (w : xv_W) (n : Nat) : Nat := if xv_SB ≤ n ∧ n < xv_SB + w.2.1 then w.2.2.1 (n - xv_SB) else w.1 + n
def xv_cv (al : Nat → Nat) (v : Value) : Value := match v with
  | .ref n => .ref (al n)
  | v => v
def xv_fv (w : xv_W) (rk : Nat → Bool) (h : xv_H) (f a : Nat) : Value := if rk f = true then xv_cv (xv_al w) (va_rf (h.2.2.2.2.1 f a)) else .int (h.2.2.2.2.2.2.1 f a)
def xv_ev (w : xv_W) (h : xv_H) (t a i : Nat) : Value := if t = 103 then .long (h.2.2.2.2.2.2.2.2 a i) else if 104 ≤ t then xv_cv (xv_al w) (va_rf (h.2.2.2.2.2.1 a i)) else .int (h.2.2.2.2.2.2.2.1 a i)
def xv_at (w : xv_W) (cl : List vw_C) (rk : Nat → Bool) (h : xv_H) (a : Nat) (cell : Cell) : Prop := cell.vm = .none ∧
  ((h.2.2.1 a < 100 ∧ cell.cls = w.2.2.2.1.1 (h.2.2.1 a) ∧ ∃ q : vw_C, cl[h.2.2.1 a]? = some q ∧ ∀ k, k < q.2.2 → cell.slots[w.2.2.2.1.2 (h.2.2.1 a) k]? = some (xv_fv w rk h (100 * h.2.2.1 a + k) a)) ∨
   (100 ≤ h.2.2.1 a ∧ cell = arrV (w.2.2.2.2.1 (h.2.2.1 a - 100)) (h.2.2.2.1 a) (fun i => xv_ev w h (h.2.2.1 a) a i)))
def xv_R (w : xv_W) (cl : List vw_C) (rk : Nat → Bool) (h : xv_H) (H : Heap) : Prop := H.size = w.1 + h.1 ∧ (∀ q, q < w.1 → H[q]? = w.2.2.2.2.2[q]?) ∧ ∀ a, a < h.1 → ∃ cell : Cell, H[w.1 + a]? = some cell ∧ xv_at w cl rk h a cell
def xv_as (al : Nat → Nat) (L : xv_L) : List (Nat × Value) := (List.range L.length).filterMap fun j => match L[j]? with
  | some (some v) => some (j, xv_cv al v)
  | _ => none
theorem xv_as_mem {al : Nat → Nat} {L : xv_L} {q : Nat × Value} : q ∈ xv_as al L ↔ ∃ v, L[q.1]? = some (some v) ∧ q.2 = xv_cv al v := by
  obtain ⟨j, u⟩ := q
  simp only [xv_as, List.mem_filterMap, List.mem_range]
  constructor
  · rintro ⟨i, hi, h⟩
    cases hL : L[i]? with
    | none => rw [hL] at h; cases h
    | some o =>
      cases o with
      | none => rw [hL] at h; cases h
      | some v =>
        rw [hL] at h
        simp only [Option.some.injEq, Prod.mk.injEq] at h
        obtain ⟨rfl, rfl⟩ := h
        exact ⟨v, hL, rfl⟩
  · rintro ⟨v, h1, h2⟩
    refine ⟨j, (List.getElem?_eq_some_iff.mp h1).1, ?_⟩
    have h1' : L[j]? = some (some v) := h1
    have h2' : u = xv_cv al v := h2
    rw [h1', h2']
theorem xv_cv_cat (al : Nat → Nat) (v : Value) : (xv_cv al v).category = v.category := by cases v <;> rfl
/-- the locals -/
def xv_ls (al : Nat → Nat) (lg : List Nat) (nL : Nat) (L : xv_L) (ls : Array Slot) : Prop := lv_has ls nL (xv_as al L) ∧ L.length = nL ∧ ∀ (j : Nat) (v : Value), L[j]? = some (some v) → v.category = 2 → j ∈ lg
theorem xv_ls.at {al : Nat → Nat} {lg : List Nat} {nL : Nat} {L : xv_L} {ls : Array Slot} (h : xv_ls al lg nL L ls) {i : Nat} {v : Value} (hi : L[i]? = some (some v)) : ls[i]? = some (.val (xv_cv al v)) :=
  h.1.2.2 (i, xv_cv al v) (xv_as_mem.mpr ⟨v, hi, rfl⟩)
theorem xv_has_sub {ls : Array Slot} {nL : Nat} {l l' : List (Nat × Value)} (h : lv_has ls nL l) (hs : ∀ q ∈ l', q ∈ l) : lv_has ls nL l' := ⟨h.1, h.2.1, fun q hq => h.2.2 q (hs q hq)⟩
theorem xv_b1_spec {lg : List Nat} {i : Nat} (h : xv_b1 lg i = true) {j : Nat} (hj : j + 1 = i) : j ∉ lg := by
  simp only [xv_b1, Bool.or_eq_true, beq_iff_eq, Bool.not_eq_true', List.contains_eq_mem] at h
  rcases h with h | h
  · omega
  · rw [show i - 1 = j by omega] at h
    simpa using h
theorem xv_ls.st1 {al : Nat → Nat} {lg : List Nat} {nL : Nat} {L : xv_L} {ls ls' : Array Slot} (h : xv_ls al lg nL L ls) {i : Nat} {v : Value} (hi : i < L.length) (hb : xv_b1 lg i = true) (hv : v.category = 1)
    (h' : lv_has ls' nL ((i, xv_cv al v) :: (xv_as al L).filter (fun q => !(q.1 == i) && !(q.1 + 1 == i && q.2.category == 2)))) : xv_ls al lg nL (L.set i (some v)) ls' := by
  refine ⟨xv_has_sub h' fun q hq => ?_, by simpa using h.2.1, fun j u hj hu => ?_⟩
  · obtain ⟨u, h1, h2⟩ := xv_as_mem.mp hq
    by_cases hqi : q.1 = i
    · rw [hqi, List.getElem?_set_self hi] at h1
      have e : u = v := by simpa using h1.symm
      subst e
      exact List.mem_cons.mpr (Or.inl (Prod.ext hqi h2))
    · rw [List.getElem?_set_ne (Ne.symm hqi)] at h1
      refine List.mem_cons_of_mem _ (List.mem_filter.mpr ⟨xv_as_mem.mpr ⟨u, h1, h2⟩, ?_⟩)
      have hc : ¬ (q.1 + 1 = i ∧ q.2.category = 2) := fun ⟨e1, e2⟩ => xv_b1_spec hb e1 (h.2.2 q.1 u h1 (by rw [h2, xv_cv_cat] at e2; exact e2))
      simp only [Bool.and_eq_true, Bool.not_eq_true', beq_eq_false_iff_ne, ne_eq, Bool.and_eq_false_imp, beq_iff_eq]
      exact ⟨hqi, fun e1 e2 => hc ⟨e1, e2⟩⟩
  · by_cases hji : j = i
    · rw [hji, List.getElem?_set_self hi] at hj
      have e : u = v := by simpa using hj.symm
      subst e
      omega
    · rw [List.getElem?_set_ne (Ne.symm hji)] at hj
      exact h.2.2 j u hj hu
theorem xv_ls.st2 {al : Nat → Nat} {lg : List Nat} {nL : Nat} {L : xv_L} {ls ls' : Array Slot} (h : xv_ls al lg nL L ls) {i : Nat} {v : Value} (hi : i + 1 < L.length) (hb : xv_b1 lg i = true) (hm : i ∈ lg)
    (h' : lv_has ls' nL ((i, xv_cv al v) :: (xv_as al L).filter (fun q => !(q.1 == i) && (!(q.1 == i + 1) && !(q.1 + 1 == i && q.2.category == 2))))) : xv_ls al lg nL ((L.set i (some v)).set (i + 1) none) ls' := by
  have key : ∀ (j : Nat) (u : Value), ((L.set i (some v)).set (i + 1) none)[j]? = some (some u) → (j = i ∧ u = v) ∨ (j ≠ i ∧ j ≠ i + 1 ∧ L[j]? = some (some u)) := by
    intro j u hj
    by_cases h1 : j = i + 1
    · subst h1
      rw [List.getElem?_set_self (by simpa using hi)] at hj
      cases hj
    · rw [List.getElem?_set_ne (Ne.symm h1)] at hj
      by_cases h2 : j = i
      · subst h2
        rw [List.getElem?_set_self (by omega)] at hj
        exact Or.inl ⟨rfl, by simpa using hj.symm⟩
      · rw [List.getElem?_set_ne (Ne.symm h2)] at hj
        exact Or.inr ⟨h2, h1, hj⟩
  refine ⟨xv_has_sub h' fun q hq => ?_, by simpa using h.2.1, fun j u hj hu => ?_⟩
  · obtain ⟨u, h1, h2⟩ := xv_as_mem.mp hq
    rcases key _ _ h1 with ⟨e1, e2⟩ | ⟨e1, e2, e3⟩
    · subst e2
      exact List.mem_cons.mpr (Or.inl (Prod.ext e1 h2))
    · refine List.mem_cons_of_mem _ (List.mem_filter.mpr ⟨xv_as_mem.mpr ⟨u, e3, h2⟩, ?_⟩)
      have hc : ¬ (q.1 + 1 = i ∧ q.2.category = 2) := fun ⟨d1, d2⟩ => xv_b1_spec hb d1 (h.2.2 q.1 u e3 (by rw [h2, xv_cv_cat] at d2; exact d2))
      simp only [Bool.and_eq_true, Bool.not_eq_true', beq_eq_false_iff_ne, ne_eq, Bool.and_eq_false_imp, beq_iff_eq]
      exact ⟨e1, e2, fun d1 d2 => hc ⟨d1, d2⟩⟩
  · rcases key _ _ hj with ⟨e1, -⟩ | ⟨-, -, e3⟩
    · rw [e1]; exact hm
    · exact h.2.2 j u e3 hu
/-- where the arguments stand -/
theorem xv_fit_spec {lg : List Nat} {n : Nat} : ∀ (av : List Value) (i : Nat), xv_fit lg n i av = true → i + (xv_sl av).length ≤ n ∧ ∀ (j : Nat) (v : Value), (xv_sl av)[j]? = some (some v) → v.category = 2 → i + j ∈ lg
  | [], i, h => ⟨by simpa [xv_fit, xv_sl] using h, fun j v hj => by simp [xv_sl] at hj⟩
  | v :: vs, i, h => by
    by_cases hc : v.category = 2
    · simp only [xv_fit, hc, if_true, Bool.and_eq_true, List.contains_eq_mem, decide_eq_true_eq] at h
      obtain ⟨h1, h2⟩ := xv_fit_spec vs (i + 2) h.2
      have e : xv_sl (v :: vs) = some v :: none :: xv_sl vs := by simp [xv_sl, hc]
      rw [e]
      refine ⟨by simp only [List.length_cons]; omega, fun j u hj hu => ?_⟩
      rcases j with _ | _ | j
      · exact h.1
      · simp at hj
      · have := h2 j u (by simpa using hj) hu
        rw [show i + (j + 1 + 1) = i + 2 + j by omega]
        exact this
    · simp only [xv_fit, hc, if_false] at h
      obtain ⟨h1, h2⟩ := xv_fit_spec vs (i + 1) h
      have e : xv_sl (v :: vs) = some v :: xv_sl vs := by simp [xv_sl, hc]
      rw [e]
      refine ⟨by simp only [List.length_cons]; omega, fun j u hj hu => ?_⟩
      rcases j with _ | j
      · exfalso
        simp at hj
        subst hj
        exact hc hu
      · have := h2 j u (by simpa using hj) hu
        rw [show i + (j + 1) = i + 1 + j by omega]
        exact this
theorem xv_sl_len (al : Nat → Nat) : ∀ av : List Value, (lg_sl (av.map (xv_cv al))).length = (xv_sl av).length
  | [] => rfl
  | v :: vs => by
    have ih := xv_sl_len al vs
    by_cases hc : v.category = 2
    · have e1 : xv_sl (v :: vs) = some v :: none :: xv_sl vs := by simp [xv_sl, hc]
      have e2 : lg_sl ((v :: vs).map (xv_cv al)) = .val (xv_cv al v) :: .second :: lg_sl (vs.map (xv_cv al)) := by simp [lg_sl, hc, xv_cv_cat]
      rw [e1, e2]; simp [ih]
    · have e1 : xv_sl (v :: vs) = some v :: xv_sl vs := by simp [xv_sl, hc]
      have e2 : lg_sl ((v :: vs).map (xv_cv al)) = .val (xv_cv al v) :: lg_sl (vs.map (xv_cv al)) := by simp [lg_sl, hc, xv_cv_cat]
      rw [e1, e2]; simp [ih]
theorem xv_sl_args (al : Nat → Nat) : ∀ (av : List Value) (i j : Nat) (v : Value), (xv_sl av)[j]? = some (some v) → (i + j, xv_cv al v) ∈ lv_args i (av.map (xv_cv al))
  | [], i, j, v, h => by simp [xv_sl] at h
  | u :: us, i, j, v, h => by
    by_cases hc : u.category = 2
    · have e1 : xv_sl (u :: us) = some u :: none :: xv_sl us := by simp [xv_sl, hc]
      rw [e1] at h
      simp only [List.map_cons, lv_args, xv_cv_cat, hc, if_true]
      rcases j with _ | _ | j
      · simp at h; subst h; exact List.mem_cons_self
      · simp at h
      · have := xv_sl_args al us (i + 2) j v (by simpa using h)
        rw [show i + (j + 1 + 1) = i + 2 + j by omega]
        exact List.mem_cons_of_mem _ this
    · have e1 : xv_sl (u :: us) = some u :: xv_sl us := by simp [xv_sl, hc]
      rw [e1] at h
      simp only [List.map_cons, lv_args, xv_cv_cat, hc, if_false]
      rcases j with _ | j
      · simp at h; subst h; exact List.mem_cons_self
      · have := xv_sl_args al us (i + 1) j v (by simpa using h)
        rw [show i + (j + 1) = i + 1 + j by omega]
        exact List.mem_cons_of_mem _ this
theorem xv_ls_entry (al : Nat → Nat) {lg : List Nat} {n : Nat} {av : List Value} (h : xv_fit lg n 0 av = true) : xv_ls al lg n (xv_ent n av) ((lg_sl (av.map (xv_cv al)) ++ List.replicate (n - (lg_sl (av.map (xv_cv al))).length) Slot.unset).toArray) := by
  obtain ⟨h1, h2⟩ := xv_fit_spec av 0 h
  have hl := lv_entry (av.map (xv_cv al)) (n := n) (by rw [xv_sl_len]; omega)
  have key : ∀ (j : Nat) (v : Value), (xv_ent n av)[j]? = some (some v) → (xv_sl av)[j]? = some (some v) := by
    intro j v hj
    by_cases hlt : j < (xv_sl av).length
    · rw [xv_ent, List.getElem?_append_left hlt] at hj
      exact hj
    · rw [xv_ent, List.getElem?_append_right (by omega)] at hj
      have := List.eq_of_mem_replicate (List.mem_of_getElem? hj)
      cases this
  refine ⟨xv_has_sub hl fun q hq => ?_, by simp [xv_ent]; omega, fun j v hj hv => ?_⟩
  · obtain ⟨v, e1, e2⟩ := xv_as_mem.mp hq
    have := xv_sl_args al av 0 q.1 v (key _ _ e1)
    rw [Nat.zero_add, ← e2] at this
    exact this
  · have := h2 j v (key _ _ hj) hv
    rwa [Nat.zero_add] at this
