/-! What always holds: commit, abort. -/
section INVG
variable {lv lv2 : Nat → Nat} {nl nl2 : List Nat} {l a b i f B n w t u m p q c bg x : Nat} {k : Int32} {its : List zI} {S : zS} {ce : Nat → Int32 × zN} {lk : Nat → Nat} {ti : Nat → List zI} {rm rm2 : Nat → Nat → Int32} {ms : List zM} {tc : Nat → Nat} {cl : Nat → zC}
theorem fset2_eq {β : Type} {g : Nat → Nat → β} {v : β} : fset2 g t m v u p = if u = t ∧ p = m then v else g u p := rfl
theorem fset2_at {β : Type} {g : Nat → Nat → β} {v : β} : fset2 g t m v t m = v := by rw [fset2_eq, if_pos ⟨rfl, rfl⟩]
theorem fset2_ne {β : Type} {g : Nat → Nat → β} {v : β} (h : ¬ (u = t ∧ p = m)) : fset2 g t m v u p = g u p := by rw [fset2_eq, if_neg h]
theorem dcd_has3 (o : dcd ti rm t) : ¬ has3 ti rm t := by
  rintro ⟨p, h1, h2, h3⟩
  rcases o p h1 h2 with e | e
  · rw [e] at h3; exact absurd h3 (by decide)
  · rw [e] at h3; exact absurd h3 (by decide)
/-- 1 becomes 2 -/
theorem dcd_12 (h : rm t m = 1) : dcd ti (fset2 rm t m 2) u ↔ dcd ti rm u := by
  constructor
  · intro o p hp ht
    by_cases e : u = t ∧ p = m
    · rw [e.1, e.2, h]; exact Or.inl rfl
    · have := o p hp ht; rw [fset2_ne e] at this; exact this
  · intro o p hp ht
    rw [fset2_eq]
    by_cases e : u = t ∧ p = m
    · rw [if_pos e]; exact Or.inr rfl
    · rw [if_neg e]; exact o p hp ht
theorem iP_12 (o : iP bg ti rm ms tc cl) (h : rm t m = 1) (hd : dcd ti rm t) : iP bg ti (fset2 rm t m 2) ms tc cl := by
  have ne : ∀ v : Int32, ¬ v = 1 → ¬ v = 2 → ∀ u p, fset2 rm t m 2 u p = v ↔ rm u p = v := by
    intro v h1 h2 u p
    rw [fset2_eq]
    by_cases e : u = t ∧ p = m
    · rw [if_pos e, e.1, e.2, h]; exact ⟨fun q => absurd q.symm h2, fun q => absurd q.symm h1⟩
    · rw [if_neg e]
  have h3 : ∀ u, has3 ti (fset2 rm t m 2) u ↔ has3 ti rm u := by
    intro u
    unfold has3
    constructor
    · rintro ⟨p, q1, q2, q3⟩; exact ⟨p, q1, q2, (ne 3 (by decide) (by decide) u p).mp q3⟩
    · rintro ⟨p, q1, q2, q3⟩; exact ⟨p, q1, q2, (ne 3 (by decide) (by decide) u p).mpr q3⟩
  refine ⟨fun M hM => ?_, fun u h1 h2 hr => ?_⟩
  · obtain ⟨p1, p2, p3, p4⟩ := o.1 M hM
    refine ⟨fun q => ?_, fun q => ?_, fun q => (dcd_12 h).mpr (p3 q), fun q => (h3 _).mpr (p4 q)⟩
    · rcases p1 q with r | r
      · exact Or.inl r
      · exact Or.inr ((ne 3 (by decide) (by decide) _ _).mpr r)
    · rcases p2 q with r | r
      · exact Or.inl r
      · exact Or.inr (fun z => r ((ne 0 (by decide) (by decide) _ _).mp z))
  · obtain ⟨q1, q2, q3⟩ := o.2 u h1 h2 hr
    refine ⟨fun q y z => q1 q y ((ne 0 (by decide) (by decide) _ _).mp z), fun z => ?_, fun p hp ht e2 => ?_⟩
    · obtain ⟨q, e1, e2, e3, e4⟩ := q2 ((h3 u).mp z)
      exact ⟨q, e1, e2, (ne 3 (by decide) (by decide) u q).mpr e3, e4⟩
    · refine (dcd_12 h).mpr ?_
      by_cases e : u = t ∧ p = m
      · rw [e.1]; exact hd
      · rw [fset2_ne e] at e2; exact q3 p hp ht e2
/-- locks of t at m are taken away, and (t, m) is no longer in doubt -/
theorem iL_off {v : Int32} {ce2 : Nat → Int32 × zN} (o : iL bg ti lk rm ce) (h : rm t m = 1) (hv : ¬ v = 1) (hc : ∀ a, ¬ ((∃ i, i ∈ ti t ∧ i.2.1 = a) ∧ a / 8 = m) → ce2 a = ce a) : iL bg ti (zlo m 0 (ti t) lk) (fset2 rm t m v) ce2 := by
  obtain ⟨l1, l2, l3⟩ := o
  have own : ∀ a, (∃ i, i ∈ ti t ∧ i.2.1 = a) → a / 8 = m → lk a = t := by
    rintro a ⟨i, i1, i2⟩ hm
    have := ((l3 t m h).2.2 i i1 (by rw [i2]; exact hm)).1
    rw [i2] at this
    exact this
  refine ⟨fun a => ?_, fun a ha => ?_, fun u p hu => ?_⟩
  · rcases zlo_spec (a := a) (m := m) (x := 0) (ti t) lk with ⟨_, _, e⟩ | ⟨_, e⟩
    · rw [e]; exact Nat.zero_le _
    · rw [e]; exact l1 a
  · rcases zlo_spec (a := a) (m := m) (x := 0) (ti t) lk with ⟨_, _, e⟩ | ⟨ne, e⟩
    · exact absurd e ha
    · rw [e] at ha ⊢
      obtain ⟨h1, h2⟩ := l2 a ha
      refine ⟨?_, h2⟩
      rw [fset2_eq, if_neg]
      · exact h1
      · rintro ⟨e1, e2⟩
        rw [e1] at h2
        exact ne ⟨h2, e2⟩
  · by_cases e : u = t ∧ p = m
    · rw [fset2_eq, if_pos e] at hu; exact absurd hu hv
    · rw [fset2_ne e] at hu
      obtain ⟨h1, h2, h3⟩ := l3 u p hu
      refine ⟨h1, h2, fun i hi hp => ?_⟩
      obtain ⟨h4, h5⟩ := h3 i hi hp
      have ne : ¬ ((∃ j, j ∈ ti t ∧ j.2.1 = i.2.1) ∧ i.2.1 / 8 = m) := by
        rintro ⟨r1, r2⟩
        have := own _ r1 r2
        exact e ⟨by omega, by omega⟩
      rw [hc _ ne]
      rcases zlo_spec (a := i.2.1) (m := m) (x := 0) (ti t) lk with ⟨r1, r2, _⟩ | ⟨_, e2⟩
      · exact absurd ⟨r1, r2⟩ ne
      · rw [e2]; exact ⟨h4, h5⟩
theorem INV_commit (o : INV lv nl n w S) (h1 : 1 ≤ t) (h2 : t ≤ s_bg S) (nr : isRd (s_ti S t) = false) (hd : dcd (s_ti S) (s_rm S) t) : INV lv nl n (w + 1) (Zcommit t m S) ∧ dcd (s_ti (Zcommit t m S)) (s_rm (Zcommit t m S)) t ∧ s_ti (Zcommit t m S) = s_ti S ∧ s_bg (Zcommit t m S) = s_bg S := by
  unfold Zcommit
  by_cases h : s_rm S t m = 1
  · rw [if_pos h]
    obtain ⟨o1, o2, o3, o4, o5, o6, o7, o8, o9, o10⟩ := o
    have c3 := o7.2.2 t h1 h2 nr hd
    have own : ∀ a, (∃ i, i ∈ s_ti S t ∧ i.2.1 = a) → a / 8 = m → s_lk S a = t := by
      rintro a ⟨i, i1, i2⟩ hm
      have := ((o6.2.2 t m h).2.2 i i1 (by rw [i2]; exact hm)).1
      rw [i2] at this
      exact this
    refine ⟨⟨o1, o2, o3, o4, iP_12 o5 h hd, ?_, ⟨fun a => ?_, fun a ha => ?_, fun u u1 u2 hr hdu => ?_⟩, ?_, o9, ⟨fun u p => ?_, fun u p hu => ?_⟩⟩, ?_, rfl, rfl⟩
    · refine iL_off o6 h (by decide) (fun a ha => ?_)
      show zwr m (s_ti S t) (s_ce S) a = s_ce S a
      rcases zwr_spec (a := a) (m := m) (s_ti S t) (s_ce S) with ⟨i, d, r1, r2, r3, _⟩ | ⟨_, r⟩
      · exact absurd ⟨⟨i, r1, r2⟩, r3⟩ ha
      · exact r
    · show gC lv nl a (zwr m (s_ti S t) (s_ce S) a).2
      rcases zwr_spec (a := a) (m := m) (s_ti S t) (s_ce S) with ⟨i, d, r1, r2, r3, r4, r5, _⟩ | ⟨_, r⟩
      · rw [r5, ← r2]; exact (c3 i r1 r4).1
      · rw [r]; exact o7.1 a
    · show ¬ (zwr m (s_ti S t) (s_ce S) a).2.1 = 0 ∨ (¬ zlo m 0 (s_ti S t) (s_lk S) a = 0 ∧ dcd (s_ti S) (fset2 (s_rm S) t m 2) (zlo m 0 (s_ti S t) (s_lk S) a) ∧ ∃ i, i ∈ s_ti S (zlo m 0 (s_ti S t) (s_lk S) a) ∧ i.2.1 = a ∧ i.1 = 4)
      rcases zwr_spec (a := a) (m := m) (s_ti S t) (s_ce S) with ⟨i, d, r1, r2, r3, r4, r5, _⟩ | ⟨nw, r⟩
      · left; rw [r5]; exact (c3 i r1 r4).2
      · rw [r]
        rcases o7.2.1 a ha with r | ⟨r1, r2, i, i1, i2, i3⟩
        · exact Or.inl r
        · right
          rcases zlo_spec (a := a) (m := m) (x := 0) (s_ti S t) (s_lk S) with ⟨e1, e2, _⟩ | ⟨_, e⟩
          · exfalso
            rw [own a e1 e2] at i1
            exact nw i i1 i2 e2 (Or.inr i3)
          · rw [e]
            exact ⟨r1, (dcd_12 h).mpr r2, i, i1, i2, i3⟩
    · exact o7.2.2 u u1 u2 hr ((dcd_12 h).mp hdu)
    · exact iV_wr o8 (tI_wf (o2 t h1 h2).2).2.2
    · show fset2 (s_rm S) t m 2 u p = 0 ∨ fset2 (s_rm S) t m 2 u p = 1 ∨ fset2 (s_rm S) t m 2 u p = 2 ∨ fset2 (s_rm S) t m 2 u p = 3
      rw [fset2_eq]
      by_cases e : u = t ∧ p = m
      · rw [if_pos e]; exact Or.inr (Or.inr (Or.inl rfl))
      · rw [if_neg e]; exact o10.1 u p
    · have hu : s_bg S < u := hu
      show fset2 (s_rm S) t m 2 u p = 0
      rw [fset2_ne (by omega)]; exact o10.2 u p hu
    · exact (dcd_12 h).mpr hd
  · rw [if_neg h]
    exact ⟨INV_n (Nat.le_refl _) (Nat.le_succ _) o, hd, rfl, rfl⟩
/-- 0 or 1 becomes 3 at a transaction that is not decided -/
theorem iP_3 (o : iP bg ti rm ms tc cl) (hrm : ∀ u p, rm2 u p = rm u p ∨ (u = t ∧ rm2 u p = 3 ∧ (rm t p = 0 ∨ rm t p = 1))) (hb : t ≤ bg) (nd : ¬ dcd ti rm t) (h3 : has3 ti rm2 t → ∃ q, q < 3 ∧ tp (ti t) q = true ∧ rm2 t q = 3 ∧ ¬ ysM ms t q ∧ ¬ ysA tc cl t q) : iP bg ti rm2 ms tc cl := by
  have oth : ∀ u, ¬ u = t → ∀ p, rm2 u p = rm u p := fun u hu p => (hrm u p).resolve_right (fun q => hu q.1)
  have k3 : ∀ u p, rm u p = 3 → rm2 u p = 3 := by
    intro u p h
    rcases hrm u p with r | r
    · rw [r]; exact h
    · exact r.2.1
  have k0 : ∀ u p, ¬ rm u p = 0 → ¬ rm2 u p = 0 := by
    intro u p h
    rcases hrm u p with r | r
    · rw [r]; exact h
    · rw [r.2.1]; decide
  have k2 : ∀ u p, rm2 u p = 2 → rm u p = 2 := by
    intro u p h
    rcases hrm u p with r | r
    · rw [← r]; exact h
    · rw [r.2.1] at h; exact absurd h (by decide)
  refine ⟨fun M hM => ?_, fun u h1 h2 hr => ?_⟩
  · obtain ⟨p1, p2, p3, p4⟩ := o.1 M hM
    refine ⟨fun q => ?_, fun q => ?_, fun q => ?_, fun q => ?_⟩
    · rcases p1 q with r | r
      · exact Or.inl r
      · exact Or.inr (k3 _ _ r)
    · rcases p2 q with r | r
      · exact Or.inl r
      · exact Or.inr (k0 _ _ r)
    · have hne : ¬ M.2.1 = t := fun e => nd (by rw [← e]; exact p3 q)
      exact dcd_x rfl (oth _ hne) (p3 q)
    · obtain ⟨p, z1, z2, z3⟩ := p4 q
      exact ⟨p, z1, z2, k3 _ _ z3⟩
  · obtain ⟨q1, q2, q3⟩ := o.2 u h1 h2 hr
    refine ⟨fun q y => k0 _ _ (q1 q y), fun z => ?_, fun p hp ht e2 => ?_⟩
    · by_cases e : u = t
      · rw [e] at z ⊢; exact h3 z
      · obtain ⟨p, z1, z2, z3⟩ := z
        rw [oth u e] at z3
        obtain ⟨q, e1, e2, e3, e4⟩ := q2 ⟨p, z1, z2, z3⟩
        exact ⟨q, e1, e2, k3 _ _ e3, e4⟩
    · have := q3 p hp ht (k2 _ _ e2)
      by_cases e : u = t
      · rw [e] at this; exact absurd this nd
      · exact dcd_x rfl (oth u e) this
/-- what remains of the whole while a transaction is aborted -/
def INW (lv : Nat → Nat) (nl : List Nat) (n w : Nat) (S : zS) : Prop := gB lv nl ∧ iT lv nl (s_bg S) (s_tc S) (s_ti S) ∧ iM lv nl (s_bg S) (s_ti S) (s_ms S) ∧ (∀ c, c < 2 → iK lv nl (s_dn S) (s_bg S) (s_tc S) (s_ti S) c (s_cl S c)) ∧ iL (s_bg S) (s_ti S) (s_lk S) (s_rm S) (s_ce S) ∧ iC lv nl (s_bg S) (s_ti S) (s_lk S) (s_rm S) (s_ce S) ∧ iV w (s_ce S) ∧ iN n (s_bg S) (s_ti S) (s_cl S) ∧ iR (s_bg S) (s_rm S)
theorem INW_of (o : INV lv nl n w S) : INW lv nl n w S := by
  obtain ⟨o1, o2, o3, o4, o5, o6, o7, o8, o9, o10⟩ := o
  exact ⟨o1, o2, o3, o4, o6, o7, o8, o9, o10⟩
theorem INV_of (o : INW lv nl n w S) (p : iP (s_bg S) (s_ti S) (s_rm S) (s_ms S) (s_tc S) (s_cl S)) : INV lv nl n w S := by
  obtain ⟨o1, o2, o3, o4, o6, o7, o8, o9, o10⟩ := o
  exact ⟨o1, o2, o3, o4, p, o6, o7, o8, o9, o10⟩
def aRm (rm : Nat → Nat → Int32) (t m : Nat) : Nat → Nat → Int32 := if rm t m = 1 ∨ rm t m = 0 then fset2 rm t m 3 else rm
theorem aRm_eq : aRm rm t m u p = if (u = t ∧ p = m) ∧ (rm t m = 1 ∨ rm t m = 0) then 3 else rm u p := by
  unfold aRm
  by_cases q : rm t m = 1 ∨ rm t m = 0
  · rw [if_pos q, fset2_eq]
    by_cases e : u = t ∧ p = m
    · rw [if_pos e, if_pos ⟨e, q⟩]
    · rw [if_neg e, if_neg (fun z => e z.1)]
  · rw [if_neg q, if_neg (fun z => q z.2)]
theorem Zabort_c : s_rm (Zabort t m S) = aRm (s_rm S) t m ∧ s_ti (Zabort t m S) = s_ti S ∧ s_bg (Zabort t m S) = s_bg S ∧ s_ms (Zabort t m S) = s_ms S ∧ s_tc (Zabort t m S) = s_tc S ∧ s_cl (Zabort t m S) = s_cl S ∧ s_ce (Zabort t m S) = s_ce S ∧ s_dn (Zabort t m S) = s_dn S := by
  unfold Zabort aRm
  dsimp only
  by_cases h1 : s_rm S t m = 1
  · rw [if_pos h1, if_pos (Or.inl h1), if_pos (Or.inl h1)]
    exact ⟨rfl, rfl, rfl, rfl, rfl, rfl, rfl, rfl⟩
  · rw [if_neg h1]
    by_cases h0 : s_rm S t m = 0
    · rw [if_pos (Or.inr h0), if_pos (Or.inr h0)]
      exact ⟨rfl, rfl, rfl, rfl, rfl, rfl, rfl, rfl⟩
    · have : ¬ (s_rm S t m = 1 ∨ s_rm S t m = 0) := fun q => q.elim h1 h0
      rw [if_neg this, if_neg this]
      exact ⟨rfl, rfl, rfl, rfl, rfl, rfl, rfl, rfl⟩
theorem Zabort_lk : s_lk (Zabort t m S) = if s_rm S t m = 1 then zlo m 0 (s_ti S t) (s_lk S) else s_lk S := by
  unfold Zabort
  dsimp only
  by_cases h1 : s_rm S t m = 1
  · rw [if_pos h1, if_pos (Or.inl h1), if_pos h1]; rfl
  · rw [if_neg h1, if_neg h1]
    by_cases h0 : s_rm S t m = 0
    · rw [if_pos (Or.inr h0)]; rfl
    · rw [if_neg (fun q => q.elim h1 h0)]
theorem INW_abort (o : INW lv nl n w S) (h2 : t ≤ s_bg S) (hm : m < 3) (ht : tp (s_ti S t) m = true) (nd : ¬ dcd (s_ti S) (s_rm S) t) : INW lv nl n w (Zabort t m S) ∧ ¬ dcd (s_ti (Zabort t m S)) (s_rm (Zabort t m S)) t := by
  obtain ⟨o1, o2, o3, o4, o6, o7, o8, o9, o10⟩ := o
  obtain ⟨c1, c2, c3, c4, c5, c6, c7, c8⟩ := Zabort_c (t := t) (m := m) (S := S)
  have lke := Zabort_lk (t := t) (m := m) (S := S)
  have back : ∀ u, dcd (s_ti S) (aRm (s_rm S) t m) u → dcd (s_ti S) (s_rm S) u := by
    intro u o p hp hq
    have := o p hp hq
    rw [aRm_eq] at this
    by_cases e : (u = t ∧ p = m) ∧ (s_rm S t m = 1 ∨ s_rm S t m = 0)
    · rw [if_pos e] at this
      rcases this with r | r <;> exact absurd r (by decide)
    · rw [if_neg e] at this; exact this
  have oth : ∀ u, ¬ u = t → ∀ p, aRm (s_rm S) t m u p = s_rm S u p := fun u hu p => by rw [aRm_eq, if_neg (fun z => hu z.1.1)]
  refine ⟨?_, by rw [c1, c2]; exact fun q => nd (back t q)⟩
  unfold INW
  rw [c1, c2, c3, c4, c5, c6, c7, c8, lke]
  have lkne : ∀ a, ¬ s_lk S a = 0 → dcd (s_ti S) (s_rm S) (s_lk S a) → (if s_rm S t m = 1 then zlo m 0 (s_ti S t) (s_lk S) else s_lk S) a = s_lk S a := by
    intro a ha hd
    by_cases h : s_rm S t m = 1
    · rw [if_pos h]
      rcases zlo_spec (a := a) (m := m) (x := 0) (s_ti S t) (s_lk S) with ⟨⟨i, e1, e2⟩, e3, _⟩ | ⟨_, e⟩
      · exfalso
        have := ((o6.2.2 t m h).2.2 i e1 (by rw [e2]; exact e3)).1
        rw [e2] at this
        rw [this] at hd
        exact nd hd
      · exact e
    · rw [if_neg h]
  refine ⟨o1, o2, o3, o4, ?_, ⟨o7.1, fun a ha => ?_, fun u u1 u2 hr hdu => o7.2.2 u u1 u2 hr (back u hdu)⟩, o8, o9, ⟨fun u p => ?_, fun u p hu => ?_⟩⟩
  · by_cases h : s_rm S t m = 1
    · rw [if_pos h]
      have : aRm (s_rm S) t m = fset2 (s_rm S) t m 3 := by unfold aRm; rw [if_pos (Or.inl h)]
      rw [this]
      exact iL_off o6 h (by decide) (fun _ _ => rfl)
    · rw [if_neg h]
      refine ⟨o6.1, fun a ha => ?_, fun u p hu => ?_⟩
      · obtain ⟨r1, r2⟩ := o6.2.1 a ha
        refine ⟨?_, r2⟩
        rw [aRm_eq, if_neg]
        · exact r1
        · rintro ⟨⟨e1, e2⟩, _⟩
          rw [e1, e2] at r1
          exact h r1
      · rw [aRm_eq] at hu
        by_cases e : (u = t ∧ p = m) ∧ (s_rm S t m = 1 ∨ s_rm S t m = 0)
        · rw [if_pos e] at hu; exact absurd hu (by decide)
        · rw [if_neg e] at hu; exact o6.2.2 u p hu
  · rcases o7.2.1 a ha with r | ⟨r1, r2, r3⟩
    · exact Or.inl r
    · right
      rw [lkne a r1 r2]
      exact ⟨r1, dcd_x rfl (oth _ (fun e => nd (by rw [← e]; exact r2))) r2, r3⟩
  · rw [aRm_eq]
    by_cases e : (u = t ∧ p = m) ∧ (s_rm S t m = 1 ∨ s_rm S t m = 0)
    · rw [if_pos e]; exact Or.inr (Or.inr (Or.inr rfl))
    · rw [if_neg e]; exact o10.1 u p
  · rw [aRm_eq, if_neg (fun z => by omega)]
    exact o10.2 u p hu
/-- an ABORT -/
theorem INV_abort (o : INV lv nl n w S) (h1 : 1 ≤ t) (h2 : t ≤ s_bg S) (hm : m < 3) (ht : tp (s_ti S t) m = true) (nr : isRd (s_ti S t) = false) (h3 : has3 (s_ti S) (s_rm S) t) : INV lv nl n w (Zabort t m S) := by
  have nd : ¬ dcd (s_ti S) (s_rm S) t := fun q => dcd_has3 q h3
  obtain ⟨c1, c2, c3, c4, c5, c6, c7, c8⟩ := Zabort_c (t := t) (m := m) (S := S)
  refine INV_of (INW_abort (INW_of o) h2 hm ht nd).1 ?_
  rw [c1, c2, c3, c4, c5, c6]
  have o5 := o.2.2.2.2.1
  refine iP_3 o5 (t := t) (fun u p => ?_) h2 nd (fun _ => ?_)
  · rw [aRm_eq]
    by_cases e : (u = t ∧ p = m) ∧ (s_rm S t m = 1 ∨ s_rm S t m = 0)
    · rw [if_pos e]; exact Or.inr ⟨e.1.1, rfl, by rw [e.1.2]; exact e.2.symm⟩
    · rw [if_neg e]; exact Or.inl rfl
  · obtain ⟨q, e1, e2, e3, e4⟩ := (o5.2 t h1 h2 nr).2.1 h3
    refine ⟨q, e1, e2, ?_, e4⟩
    rw [aRm_eq]
    split
    · rfl
    · exact e3
end INVG
