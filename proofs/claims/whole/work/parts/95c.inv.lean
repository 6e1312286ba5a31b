/-! What always holds: the whole, and what follows. -/
def dcd (ti : Nat → List zI) (rm : Nat → Nat → Int32) (t : Nat) : Prop := ∀ p, p < 3 → tp (ti t) p = true → rm t p = 1 ∨ rm t p = 2
def has3 (ti : Nat → List zI) (rm : Nat → Nat → Int32) (t : Nat) : Prop := ∃ p, p < 3 ∧ tp (ti t) p = true ∧ rm t p = 3
def ysM (ms : List zM) (t q : Nat) : Prop := ∃ M, M ∈ ms ∧ M.1 = 2 ∧ M.2.1 = t ∧ M.2.2.1 = q
def ysA (tc : Nat → Nat) (cl : Nat → zC) (t q : Nat) : Prop := c_op (cl (tc t)) = t ∧ c_an (cl (tc t)) q = true
def iP1 (ti : Nat → List zI) (rm : Nat → Nat → Int32) (M : zM) : Prop := (M.1 = 3 → isRd (ti M.2.1) = true ∨ rm M.2.1 M.2.2.1 = 3) ∧ (M.1 = 2 → isRd (ti M.2.1) = true ∨ ¬ rm M.2.1 M.2.2.1 = 0) ∧ (M.1 = 4 → dcd ti rm M.2.1) ∧ (M.1 = 5 → has3 ti rm M.2.1)
def iP2 (ti : Nat → List zI) (rm : Nat → Nat → Int32) (ms : List zM) (tc : Nat → Nat) (cl : Nat → zC) (t : Nat) : Prop := (∀ q, ysA tc cl t q → ¬ rm t q = 0) ∧ (has3 ti rm t → ∃ q, q < 3 ∧ tp (ti t) q = true ∧ rm t q = 3 ∧ ¬ ysM ms t q ∧ ¬ ysA tc cl t q) ∧ (∀ p, p < 3 → tp (ti t) p = true → rm t p = 2 → dcd ti rm t)
def iP (bg : Nat) (ti : Nat → List zI) (rm : Nat → Nat → Int32) (ms : List zM) (tc : Nat → Nat) (cl : Nat → zC) : Prop := (∀ M, M ∈ ms → iP1 ti rm M) ∧ ∀ t, 1 ≤ t → t ≤ bg → isRd (ti t) = false → iP2 ti rm ms tc cl t
def iL (bg : Nat) (ti : Nat → List zI) (lk : Nat → Nat) (rm : Nat → Nat → Int32) (ce : Nat → Int32 × zN) : Prop := (∀ a, lk a ≤ bg) ∧ (∀ a, ¬ lk a = 0 → rm (lk a) (a / 8) = 1 ∧ ∃ i, i ∈ ti (lk a) ∧ i.2.1 = a) ∧ ∀ t p, rm t p = 1 → (1 ≤ t ∧ t ≤ bg) ∧ isRd (ti t) = false ∧ ∀ i, i ∈ ti t → i.2.1 / 8 = p → lk i.2.1 = t ∧ zfits i (ce i.2.1) = true
def iV (n : Nat) (ce : Nat → Int32 × zN) : Prop := ∀ a, ∃ v, (ce a).1 = Int32.ofNat v ∧ v ≤ 6 * n ∧ ((ce a).2.1 = 2 → 1 ≤ v)
def iC2 (nl : List Nat) (ti : Nat → List zI) (lk : Nat → Nat) (rm : Nat → Nat → Int32) (ce : Nat → Int32 × zN) : Prop := ∀ a, a ∈ nl → ¬ (ce a).2.1 = 0 ∨ (¬ lk a = 0 ∧ dcd ti rm (lk a) ∧ ∃ i, i ∈ ti (lk a) ∧ i.2.1 = a ∧ i.1 = 4)
def iC3 (lv : Nat → Nat) (nl : List Nat) (its : List zI) : Prop := ∀ i, i ∈ its → (i.1 = 3 ∨ i.1 = 4) → gC lv nl i.2.1 i.2.2.2 ∧ ¬ i.2.2.2.1 = 0
def iC (lv : Nat → Nat) (nl : List Nat) (bg : Nat) (ti : Nat → List zI) (lk : Nat → Nat) (rm : Nat → Nat → Int32) (ce : Nat → Int32 × zN) : Prop := (∀ a, gC lv nl a (ce a).2) ∧ iC2 nl ti lk rm ce ∧ ∀ t, 1 ≤ t → t ≤ bg → isRd (ti t) = false → dcd ti rm t → iC3 lv nl (ti t)
def iT (lv : Nat → Nat) (nl : List Nat) (bg : Nat) (tc : Nat → Nat) (ti : Nat → List zI) : Prop := ∀ t, 1 ≤ t → t ≤ bg → tc t < 2 ∧ tI lv nl (ti t)
def iM1 (lv : Nat → Nat) (nl : List Nat) (bg : Nat) (ti : Nat → List zI) (M : zM) : Prop := (M.1 = 1 ∨ M.1 = 2 ∨ M.1 = 3 ∨ M.1 = 4 ∨ M.1 = 5) ∧ (1 ≤ M.2.1 ∧ M.2.1 ≤ bg) ∧ (M.2.2.1 < 3 ∧ tp (ti M.2.1) M.2.2.1 = true) ∧ (isRd (ti M.2.1) = true → M.1 = 2 → ∃ v, M.2.2.2 = some v ∧ gC lv nl ((ti M.2.1).getD 0 zi0).2.1 v.2 ∧ (v.2.1 = 2 → 0 < v.1)) ∧ (¬ (isRd (ti M.2.1) = true ∧ M.1 = 2) → M.2.2.2 = none)
def iM (lv : Nat → Nat) (nl : List Nat) (bg : Nat) (ti : Nat → List zI) (ms : List zM) : Prop := ∀ M, M ∈ ms → iM1 lv nl bg ti M
def iK (lv : Nat → Nat) (nl : List Nat) (dn : Nat → Bool) (bg : Nat) (tc : Nat → Nat) (ti : Nat → List zI) (c : Nat) (z : zC) : Prop := bK lv nl z ∧ (¬ c_op z = 0 → c_op z ≤ bg ∧ tc (c_op z) = c ∧ dn (3 + c) = false ∧ sK lv nl z (ti (c_op z)) (c_sg z))
def pnd (z : zC) : Nat := if ¬ c_op z = 0 ∧ c_sg z = 1 then (c_lf z).length else 0
def iN (n bg : Nat) (ti : Nat → List zI) (cl : Nat → zC) : Prop := bg ≤ n ∧ nIt ti bg + pnd (cl 0) + pnd (cl 1) ≤ 3 * n
def iR (bg : Nat) (rm : Nat → Nat → Int32) : Prop := (∀ t m, rm t m = 0 ∨ rm t m = 1 ∨ rm t m = 2 ∨ rm t m = 3) ∧ ∀ t m, bg < t → rm t m = 0
def INV (lv : Nat → Nat) (nl : List Nat) (n w : Nat) (S : zS) : Prop := gB lv nl ∧ iT lv nl (s_bg S) (s_tc S) (s_ti S) ∧ iM lv nl (s_bg S) (s_ti S) (s_ms S) ∧ (∀ c, c < 2 → iK lv nl (s_dn S) (s_bg S) (s_tc S) (s_ti S) c (s_cl S c)) ∧ iP (s_bg S) (s_ti S) (s_rm S) (s_ms S) (s_tc S) (s_cl S) ∧ iL (s_bg S) (s_ti S) (s_lk S) (s_rm S) (s_ce S) ∧ iC lv nl (s_bg S) (s_ti S) (s_lk S) (s_rm S) (s_ce S) ∧ iV w (s_ce S) ∧ iN n (s_bg S) (s_ti S) (s_cl S) ∧ iR (s_bg S) (s_rm S)
def II (n : Nat) (S : zS) : Prop := ∃ lv nl, INV lv nl n (3 * n) S
section INVC
variable {lv lv2 : Nat → Nat} {nl nl2 : List Nat} {l a b i f B n w t m p c : Nat} {N X Y : zN} {k : Int32} {z z2 : zC} {x : Int32 × zN} {its : List zI} {sg : Int32} {D : zD} {S : zS} {M : zM} {ti : Nat → List zI} {rm : Nat → Nat → Int32}
theorem tp_iff : tp its m = true ↔ ∃ i, i ∈ its ∧ i.2.1 / 8 = m := by
  unfold tp
  rw [List.any_eq_true]
  constructor
  · rintro ⟨i, h1, h2⟩; exact ⟨i, h1, by simpa using h2⟩
  · rintro ⟨i, h1, h2⟩; exact ⟨i, h1, by simpa using h2⟩
theorem tI_wf (o : tI lv nl its) : (∀ i, i ∈ its → isK i.1 ∧ i.2.1 < 24) ∧ 1 ≤ its.length ∧ its.length ≤ 6 := by
  rcases o with ⟨a, h1, rfl⟩ | ⟨a, v, N, h1, rfl, _⟩ | ⟨h1, h2, h3⟩ | ⟨g, v, X, l, hg, rfl, _⟩ | ⟨a, g, p, v, w, X, Y, ha, hg, hp, rfl, _⟩
  · refine ⟨fun i hi => ?_, by decide +revert, by decide +revert⟩
    simp at hi; rw [hi]; exact ⟨Or.inl rfl, h1⟩
  · refine ⟨fun i hi => ?_, by simp, by simp⟩
    simp at hi; rw [hi]; exact ⟨Or.inr (Or.inr (Or.inl rfl)), h1⟩
  · exact ⟨fun i hi => ⟨by rw [(h3 i hi).1]; exact Or.inr (Or.inl rfl), (h3 i hi).2⟩, by omega, h2⟩
  · have := (znext_ne hg).1
    refine ⟨fun i hi => ?_, by simp, by simp⟩
    simp at hi
    rcases hi with r | r | r
    · rw [r]; exact ⟨Or.inr (Or.inr (Or.inr rfl)), hg.2⟩
    · rw [r]; exact ⟨Or.inr (Or.inr (Or.inr rfl)), this.2⟩
    · rw [r]; exact ⟨Or.inr (Or.inr (Or.inl rfl)), show 0 < 24 by decide⟩
  · refine ⟨fun i hi => ?_, by simp, by simp⟩
    simp at hi
    rcases hi with r | r | r
    · rw [r]; exact ⟨Or.inr (Or.inr (Or.inl rfl)), ha.2⟩
    · rw [r]; exact ⟨Or.inr (Or.inr (Or.inr rfl)), hg.2⟩
    · rw [r]; exact ⟨Or.inr (Or.inr (Or.inl rfl)), hp⟩
theorem getD_mem {α : Type} {L : List α} {j : Nat} {d : α} (h : j < L.length) : L.getD j d ∈ L := by
  rw [List.getD_eq_getElem?_getD, List.getElem?_eq_getElem h]
  exact List.getElem_mem h
theorem mem_getD {α : Type} {L : List α} {y d : α} (h : y ∈ L) : ∃ j, j < L.length ∧ L.getD j d = y := by
  obtain ⟨j, h1, h2⟩ := List.mem_iff_getElem.mp h
  exact ⟨j, h1, by rw [List.getD_eq_getElem?_getD, List.getElem?_eq_getElem h1]; exact h2⟩
theorem tI_wfT (o : tI lv nl its) : wfT its := fun _ hj => (tI_wf o).1 _ (getD_mem hj)
theorem tI_tp (o : tI lv nl its) : ∃ p, p < 3 ∧ tp its p = true := by
  obtain ⟨h1, h2, _⟩ := tI_wf o
  have hm := getD_mem (L := its) (j := 0) (d := zi0) (by omega)
  have := (h1 _ hm).2
  exact ⟨_, by omega, tp_iff.mpr ⟨_, hm, rfl⟩⟩
theorem tI_m (g : gr_ lv nl lv2 nl2) (o : tI lv nl its) : tI lv2 nl2 its := by
  rcases o with o | ⟨a, v, N, h1, h2, h3, h4⟩ | o | ⟨g', v, X, l, hg, e, h1, h2, h3⟩ | ⟨a, g', p, v, w, X, Y, ha, hg, hp, e, h1, h2, h3, h4⟩
  · exact Or.inl o
  · exact Or.inr (Or.inl ⟨a, v, N, h1, h2, gC_m g h3, h4⟩)
  · exact Or.inr (Or.inr (Or.inl o))
  · exact Or.inr (Or.inr (Or.inr (Or.inl ⟨g', v, X, l, hg, e, Nat.le_trans h1 g.2, gN_m g h2, h3⟩)))
  · exact Or.inr (Or.inr (Or.inr (Or.inr ⟨a, g', p, v, w, X, Y, ha, hg, hp, e, gC_m g h1, h2, gC_m g h3, h4⟩)))
theorem isRd_one (h : isRd its = true) (o : tI lv nl its) : ∃ a, a < 24 ∧ its = [(1, a, 0, z0N)] := by
  obtain ⟨r1, r2⟩ := isRd_iff.mp h
  rcases o with ⟨a, h1, h2⟩ | ⟨a, v, N, h1, rfl, _⟩ | ⟨h1, h2, h3⟩ | ⟨g, v, X, l, hg, rfl, _⟩ | ⟨a, g, p, v, w, X, Y, ha, hg, hp, rfl, _⟩
  · exact ⟨a, h1, h2⟩
  · exact absurd r2 (show ¬ (3 : Int32) = 1 by decide)
  · omega
  · exact absurd r1 (by simp)
  · exact absurd r1 (by simp)
theorem tRd_rd (h : isRd its = true) (o : tI lv nl its) : ∀ m, tp its m = true → (its.getD 0 zi0).2.1 / 8 = m := by
  obtain ⟨a, h1, rfl⟩ := isRd_one h o
  intro m hm
  obtain ⟨i, i1, i2⟩ := tp_iff.mp hm
  simp at i1
  rw [i1] at i2
  exact i2
theorem bK_m (g : gr_ lv nl lv2 nl2) (o : bK lv nl z) : bK lv2 nl2 z := ⟨o.1, gCp_m g o.2.1, o.2.2⟩
theorem lK_m (g : gr_ lv nl lv2 nl2) (o : lK lv nl z) : lK lv2 nl2 z := ⟨o.1, gPth_m g o.2.1, o.2.2⟩
theorem sK_m (g : gr_ lv nl lv2 nl2) (o : sK lv nl z its sg) : sK lv2 nl2 z its sg := by
  obtain ⟨o1, o2, o3⟩ := o
  refine ⟨o1, o2, ?_⟩
  rcases o3 with o3 | o3
  · exact Or.inl ⟨o3.1, o3.2.1, lK_m g o3.2.2⟩
  · exact Or.inr o3
theorem iM1_m {bg : Nat} (g : gr_ lv nl lv2 nl2) (o : iM1 lv nl bg ti M) : iM1 lv2 nl2 bg ti M := by
  obtain ⟨o1, o2, o3, o4, o5⟩ := o
  refine ⟨o1, o2, o3, fun r k => ?_, o5⟩
  obtain ⟨v, v1, v2, v3⟩ := o4 r k
  exact ⟨v, v1, gC_m g v2, v3⟩
theorem iC3_m (g : gr_ lv nl lv2 nl2) (o : iC3 lv nl its) : iC3 lv2 nl2 its := fun i hi w => ⟨gC_m g (o i hi w).1, (o i hi w).2⟩
theorem iK_m {dn : Nat → Bool} {bg : Nat} {tc : Nat → Nat} (g : gr_ lv nl lv2 nl2) (o : iK lv nl dn bg tc ti c z) : iK lv2 nl2 dn bg tc ti c z :=
  ⟨bK_m g o.1, fun q => ⟨(o.2 q).1, (o.2 q).2.1, (o.2 q).2.2.1, sK_m g (o.2 q).2.2.2⟩⟩
theorem INV_n {n2 w2 : Nat} (h : n ≤ n2) (hw : w ≤ w2) (o : INV lv nl n w S) : INV lv nl n2 w2 S := by
  obtain ⟨o1, o2, o3, o4, o5, o6, o7, o8, o9, o10⟩ := o
  refine ⟨o1, o2, o3, o4, o5, o6, o7, fun a => ?_, ⟨Nat.le_trans o9.1 h, ?_⟩, o10⟩
  · obtain ⟨v, v1, v2, v3⟩ := o8 a; exact ⟨v, v1, by omega, v3⟩
  · have := o9.2; omega
/-- what follows -/
theorem wfI_lt (o : INV lv nl n w S) : lv 0 ≤ 11 := gB_lv o.1
theorem INV_zlk (o : INV lv nl n w S) : ∀ a, a < 24 → ∀ q t, 1 ≤ t → t + q = s_bg S + 1 → (s_lk S a = 0 ∨ t ≤ s_lk S a) → zlk (s_rm S) (s_ti S) a q t = s_lk S a := by
  obtain ⟨l1, l2, l3⟩ := o.2.2.2.2.2.1
  intro a ha q
  induction q with
  | zero =>
    intro t h1 h2 h3
    have := l1 a
    show 0 = s_lk S a
    omega
  | succ q ih =>
    intro t h1 h2 h3
    rw [zlk]
    by_cases e : s_rm S t (a / 8) = 1 ∧ ((s_ti S t).any fun i => i.2.1 == a) = true
    · rw [if_pos e]
      obtain ⟨e1, e2⟩ := e
      rw [List.any_eq_true] at e2
      obtain ⟨i, i1, i2⟩ := e2
      have ia : i.2.1 = a := by simpa using i2
      have := ((l3 t (a / 8) e1).2.2 i i1 (by rw [ia])).1
      rw [ia] at this
      exact this.symm
    · rw [if_neg e]
      refine ih (t + 1) (by omega) (by omega) ?_
      rcases h3 with h3 | h3
      · exact Or.inl h3
      · by_cases z : s_lk S a = 0
        · exact Or.inl z
        · by_cases et : t = s_lk S a
          · exfalso
            obtain ⟨f1, i, f2, f3⟩ := l2 a z
            rw [← et] at f1 f2
            exact e ⟨f1, List.any_eq_true.mpr ⟨i, f2, by simpa using f3⟩⟩
          · exact Or.inr (by omega)
theorem INV_lk (o : INV lv nl n w S) : lkInv S := fun a ha => INV_zlk o a ha (s_bg S) 1 (Nat.le_refl _) (by omega) (by omega)
theorem INV_run (b : gB lv nl) (o : bK lv nl z) (s : sK lv nl z its sg) : runOK z := by
  refine ⟨⟨by rw [s.1.1]; decide, o.1.2, gCp_W o.2.1, gCp_walk b o.2.1⟩, s.1.2.1, s.1.2.2.2, fun i hi => s.2.1 _ (getD_mem hi)⟩
theorem INV_wS (o : INV lv nl n w S) (hn : n ≤ 511) : wS S := by
  obtain ⟨o1, o2, o3, o4, o5, o6, o7, o8, o9, o10⟩ := o
  have bn := o9.1
  refine ⟨fun c hc => ?_, fun d hd q => ((o4 d hd).2 q).2.1, fun t h1 h2 => ⟨(o2 t h1 h2).1, tI_wfT (o2 t h1 h2).2⟩, fun a => by have := o6.1 a; omega, fun i hi => ?_, fun d hd q => ?_, fun d hd => ⟨(o4 d hd).1.1.2, gCp_wfI (o4 d hd).1.2.1⟩⟩
  · by_cases e : c_op (s_cl S c) = 0
    · rw [e]; exact Nat.zero_le _
    · exact ((o4 c hc).2 e).1
  · obtain ⟨m1, m2, m3, m4, m5⟩ := o3 _ (getD_mem (d := zm0) hi)
    refine ⟨m2.1, m2.2, m3.1, fun r => tRd_rd r (o2 _ m2.1 m2.2).2 _ m3.2, fun v hv => ?_⟩
    by_cases r : isRd (s_ti S ((s_ms S).getD i zm0).2.1) = true ∧ ((s_ms S).getD i zm0).1 = 2
    · obtain ⟨v2, e, g, _⟩ := m4 r.1 r.2
      rw [hv] at e
      cases e
      obtain ⟨l, _, _, g⟩ := g
      exact gN_wfV g
    · rw [m5 r] at hv; cases hv
  · obtain ⟨b, s⟩ := o4 d hd
    obtain ⟨s1, s2, s3, s4⟩ := s q
    refine ⟨s4.1.1, ⟨s4.1.2.1, b.1.2, gCp_wfI b.2.1⟩, ?_, fun e => ?_⟩
    · rcases s4.2.2 with r | r | r
      · exact Or.inl r.1
      · exact Or.inr (Or.inl r.1)
      · exact Or.inr (Or.inr r.1)
    · rcases s4.2.2 with r | r | r
      · obtain ⟨r1, r2, r3⟩ := r
        refine ⟨fun h1 y hy => ?_, pOK_pl b.2.1 r3.1⟩
        obtain ⟨_, y2, y3, _, _, y5⟩ := r3.1.2.2.2 h1
        rw [hy] at y3
        cases y3
        exact y5
      · rw [e] at r; exact absurd r.1 (by decide)
      · rw [e] at r; exact absurd r.1 (by decide)
theorem INV_wR (o : INV lv nl n w S) (hn : n ≤ 511) : wR S := by
  obtain ⟨o1, o2, o3, o4, o5, o6, o7, o8, o9, o10⟩ := id o
  have bn := o9.1
  have bi := o9.2
  refine ⟨⟨by omega, fun t h1 h2 => ⟨tI_wfT (o2 t h1 h2).2, (tI_wf (o2 t h1 h2).2).2.2⟩⟩, INV_lk o, fun a => by have := o6.1 a; omega, o10.1, fun j hj => ?_, by omega, fun c hc => ?_⟩
  · obtain ⟨m1, m2, m3, m4, m5⟩ := o3 _ (getD_mem (d := zm0) hj)
    generalize (s_ms S).getD j zm0 = M at *
    have tt := o2 _ m2.1 m2.2
    refine ⟨m1, ⟨m2.1, m2.2, by omega, tI_wfT tt.2, (tI_wf tt.2).2.2⟩, m3.1, tt.1, fun _ he => ?_⟩
    obtain ⟨b, s⟩ := o4 _ tt.1
    have hne : ¬ c_op (s_cl S (s_tc S M.2.1)) = 0 := by rw [he]; omega
    obtain ⟨s1, s2, s3, s4⟩ := s hne
    have run := INV_run o1 b s4
    refine ⟨s3, s4.1.1, run, fun _ => m3.2, fun k2 => ⟨run, ?_, fun e => ?_, fun e => ?_⟩⟩
    · rcases s4.2.2 with r | r | r
      · exact Or.inl r.1
      · exact Or.inr (Or.inl r.1)
      · exact Or.inr (Or.inr r.1)
    · rcases s4.2.2 with r | r | r
      · obtain ⟨r1, r2, po, gp, n1, n2, n3, n4⟩ := r
        rw [he] at r2
        obtain ⟨v, v1, v2, v3⟩ := m4 (by rw [r2]; rfl) k2
        rw [r2] at v2
        have v2 : gC lv nl (zlast (c_pa (s_cl S (s_tc S M.2.1)))) v.2 := v2
        generalize s_cl S (s_tc S M.2.1) = z at *
        obtain ⟨kk, kk1, kk2⟩ := n1
        obtain ⟨l, l1, l2, gl⟩ := id v2
        refine ⟨v, v1, po, ⟨kk, kk1, kk2, fun j4 => ?_⟩, fun j2 => ?_, fun i hi => n3 _ (getD_mem hi), pOK_pl b.2.1 po, ?_, fun k0 => ?_, ⟨gl.2.2.2.1, fun k1 => (gN_leaf gl k1).2.2.1⟩, fun k2 => ⟨v3 k2, gC_ch v2 k2, gCp_walk o1 (gCp_set b.2.1 k2 v2), ?_⟩⟩
        · rw [← (n2 j4).1]; exact kk2
        · obtain ⟨_, _, h3, h4⟩ := n2 (by rw [j2]; decide)
          exact ⟨h3, h4⟩
        · rcases gl.2.2.2.2.2 with q | q | q
          · exact Or.inl q.1
          · exact Or.inr (Or.inl q.2.1)
          · exact Or.inr (Or.inr q.1)
        · rcases gl.2.2.2.2.2 with q | q | q
          · rw [q.2.1, q.2.2.1, Int32.le_iff_toInt_le, Int32.lt_iff_toInt_lt]; omega
          · have := q.2.1; rw [k0] at this; exact absurd this (by decide)
          · have := q.1; rw [k0] at this; exact absurd this (by decide)
        · obtain ⟨w1, w2, _⟩ := zw_K (put := c_jb z == 2) (k := c_go z) (gCp_set b.2.1 k2 v2) (24 - (c_pa z).length) (c_pa z) (pOK_set po (pOK_pl b.2.1 po)) gp
          have := gPth_len w2 w1
          have := gB_lv o1
          omega
      · rw [e] at r; exact absurd r.1 (by decide)
      · rw [e] at r; exact absurd r.1 (by decide)
    · rcases s4.2.2 with r | r | r
      · rw [e] at r; exact absurd r.1 (by decide)
      · rw [e] at r; exact absurd r.1 (by decide)
      · exact r.2.2
  · by_cases e : c_op (s_cl S c) = 0
    · rw [e]; exact Nat.zero_le _
    · exact ((o4 c hc).2 e).1
theorem INV_wk (o : INV lv nl n w S) (jb : Int32) : wkOK S jb := fun c hc => by
  obtain ⟨o1, o2, o3, o4, o5, o6, o7, o8, o9, o10⟩ := o
  exact ⟨(o4 c hc).1.1.2, gCp_W (o4 c hc).1.2.1, gCp_walk o1 (o4 c hc).1.2.1⟩
theorem zdec_iff {rm : Nat → Nat → Int32} : zdec rm its t = true ↔ ((∃ p, p < 3 ∧ tp its p = true ∧ rm t p = 2) ∨ ∀ p, p < 3 → tp its p = true → rm t p = 1) := by
  unfold zdec
  simp only [Bool.or_eq_true, Bool.and_eq_true, beq_iff_eq, Bool.not_eq_true']
  constructor
  · rintro (((⟨h1, h2⟩ | ⟨h1, h2⟩) | ⟨h1, h2⟩) | ⟨⟨h1, h2⟩, h3⟩)
    · exact Or.inl ⟨0, by decide, h1, h2⟩
    · exact Or.inl ⟨1, by decide, h1, h2⟩
    · exact Or.inl ⟨2, by decide, h1, h2⟩
    · refine Or.inr (fun p hp ht => ?_)
      have : p = 0 ∨ p = 1 ∨ p = 2 := by omega
      rcases this with rfl | rfl | rfl
      · exact h1.resolve_left (by rw [ht]; decide)
      · exact h2.resolve_left (by rw [ht]; decide)
      · exact h3.resolve_left (by rw [ht]; decide)
  · rintro (⟨p, hp, h1, h2⟩ | h)
    · have : p = 0 ∨ p = 1 ∨ p = 2 := by omega
      rcases this with rfl | rfl | rfl
      · exact Or.inl (Or.inl (Or.inl ⟨h1, h2⟩))
      · exact Or.inl (Or.inl (Or.inr ⟨h1, h2⟩))
      · exact Or.inl (Or.inr ⟨h1, h2⟩)
    · have key : ∀ p, p < 3 → tp its p = false ∨ rm t p = 1 := by
        intro p hp
        cases e : tp its p
        · exact Or.inl rfl
        · exact Or.inr (h p hp e)
      exact Or.inr ⟨⟨key 0 (by decide), key 1 (by decide)⟩, key 2 (by decide)⟩
theorem INV_pc (o : INV lv nl n w S) : pcOK S := by
  obtain ⟨o1, o2, o3, o4, o5, o6, o7, o8, o9, o10⟩ := o
  intro t h1 h2 hz p hp ht
  by_cases r : isRd (s_ti S t) = true
  · rcases zdec_iff.mp hz with ⟨q, q1, q2, q3⟩ | q
    · -- a READ that was committed: its one participant
      have e1 := tRd_rd r (o2 t h1 h2).2 p ht
      have e2 := tRd_rd r (o2 t h1 h2).2 q q2
      have : p = q := by omega
      rw [this, q3]; decide
    · rw [q p hp ht]; decide
  · have r' : isRd (s_ti S t) = false := by simpa using r
    rcases zdec_iff.mp hz with ⟨q, q1, q2, q3⟩ | q
    · rcases (o5.2 t h1 h2 r').2.2 q q1 q2 q3 p hp ht with e | e
      · rw [e]; decide
      · rw [e]; decide
    · rw [q p hp ht]; decide
theorem INV_len (o : INV lv nl n w S) : ∀ b, b < 24 → (s_ce S b).2.2.2.2.1.length < 60 ∧ (s_ce S b).2.2.2.2.2.length < 60 := by
  obtain ⟨o1, o2, o3, o4, o5, o6, o7, o8, o9, o10⟩ := o
  intro b hb
  obtain ⟨l, _, _, g⟩ := o7.1 b
  have := g.2.2.2.2.1
  refine ⟨by omega, ?_⟩
  rcases g.2.2.2.2.2 with q | q | q
  · rw [q.2.2.2.2]; decide
  · rw [q.2.2.2]; omega
  · rw [q.2.2.1]; omega
end INVC
