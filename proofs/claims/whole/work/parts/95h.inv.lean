/-! What always holds: a PREPARE. -/
section INVH
variable {lv lv2 : Nat → Nat} {nl nl2 : List Nat} {l a b i f B n w t u m p q c bg : Nat} {k : Int32} {its : List zI} {S : zS} {ce : Nat → Int32 × zN} {lk : Nat → Nat} {ti : Nat → List zI} {rm rm2 : Nat → Nat → Int32} {ms : List zM} {tc : Nat → Nat} {cl : Nat → zC} {x : Option (Int32 × zN)}
theorem INV_send (o : INV lv nl n w S) (h : iM1 lv nl (s_bg S) (s_ti S) (k, t, m, x)) (h2 : iP1 (s_ti S) (s_rm S) (k, t, m, x)) (h3 : k = 2 → isRd (s_ti S t) = true ∨ ¬ s_rm S t m = 3) : INV lv nl n w (Zsend S k t m x) := by
  refine INV_ms o (fun M hM => ?_)
  rcases snd_in hM with r | r
  · exact Or.inl r
  · rw [r]; exact Or.inr ⟨h, h2, h3⟩
theorem no3 (h2 : t ≤ s_bg S) (h1 : 1 ≤ t) (hm : m < 3 ∧ tp (s_ti S t) m = true) : iM1 lv nl (s_bg S) (s_ti S) (3, t, m, none) :=
  ⟨Or.inr (Or.inr (Or.inl rfl)), ⟨h1, h2⟩, hm, fun _ q => absurd q (show ¬ (3 : Int32) = 2 by decide), fun _ => rfl⟩
theorem no3p (h : isRd (s_ti S t) = true ∨ s_rm S t m = 3) : iP1 (s_ti S) (s_rm S) (3, t, m, none) :=
  ⟨fun _ => h, fun q => absurd q (show ¬ (3 : Int32) = 2 by decide), fun q => absurd q (show ¬ (3 : Int32) = 4 by decide), fun q => absurd q (show ¬ (3 : Int32) = 5 by decide)⟩
theorem yes2 (h2 : t ≤ s_bg S) (h1 : 1 ≤ t) (hm : m < 3 ∧ tp (s_ti S t) m = true) (nr : isRd (s_ti S t) = false) : iM1 lv nl (s_bg S) (s_ti S) (2, t, m, none) :=
  ⟨Or.inr (Or.inl rfl), ⟨h1, h2⟩, hm, fun r => absurd (show isRd (s_ti S t) = true from r) (by rw [nr]; decide), fun _ => rfl⟩
theorem yes2p (h : isRd (s_ti S t) = true ∨ ¬ s_rm S t m = 0) : iP1 (s_ti S) (s_rm S) (2, t, m, x) :=
  ⟨fun q => absurd q (show ¬ (2 : Int32) = 3 by decide), fun _ => h, fun q => absurd q (show ¬ (2 : Int32) = 4 by decide), fun q => absurd q (show ¬ (2 : Int32) = 5 by decide)⟩
/-- the ghosts when (t, m) goes from 0 to v -/
theorem INV_dec {v : Int32} (o : INV lv nl n w S) (h1 : 1 ≤ t) (h2 : t ≤ s_bg S) (hm : m < 3) (ht : tp (s_ti S t) m = true) (nr : isRd (s_ti S t) = false) (r0 : s_rm S t m = 0) (can : zcan (s_ti S t) m (s_lk S) (s_ce S) = true) : ∃ lv2 nl2, gr_ lv nl lv2 nl2 ∧ gB lv2 nl2 ∧ (dcd (s_ti S) (fset2 (s_rm S) t m v) t → iC3 lv2 nl2 (s_ti S t)) ∧ ∀ a, a ∈ nl2 → a ∈ nl ∨ (dcd (s_ti S) (fset2 (s_rm S) t m v) t ∧ ∃ i, i ∈ s_ti S t ∧ i.2.1 = a ∧ i.1 = 4) := by
  obtain ⟨o1, o2, o3, o4, o5, o6, o7, o8, o9, o10⟩ := o
  have nd : ¬ dcd (s_ti S) (s_rm S) t := fun q => by
    rcases q m hm ht with r | r <;> (rw [r0] at r; exact absurd r (by decide))
  by_cases d : dcd (s_ti S) (fset2 (s_rm S) t m v) t
  · have fr : ∀ i, i ∈ s_ti S t → i.1 = 4 → ¬ i.2.1 ∈ nl := by
      intro i hi k4 hin
      have i24 := ((tI_wf (o2 t h1 h2).2).1 i hi).2
      have fit0 : zfits i (s_ce S i.2.1) = true → (s_ce S i.2.1).2.1 = 0 := by
        intro z
        unfold zfits at z
        rw [if_pos k4] at z
        exact of_decide_eq_true z
      by_cases e : i.2.1 / 8 = m
      · obtain ⟨z1, z2⟩ := zcan_iff.mp can i hi e
        rcases o7.2.1 _ hin with r | r
        · exact r (fit0 z2)
        · exact r.1 z1
      · have dd := d (i.2.1 / 8) (by omega) (tp_iff.mpr ⟨i, hi, rfl⟩)
        rw [fset2_ne (fun z => e z.2)] at dd
        rcases dd with r | r
        · obtain ⟨z1, z2⟩ := (o6.2.2 t _ r).2.2 i hi rfl
          rcases o7.2.1 _ hin with y | y
          · exact y (fit0 z2)
          · rw [z1] at y; exact nd y.2.1
        · exact nd ((o5.2 t h1 h2 nr).2.2 _ (by omega) (tp_iff.mpr ⟨i, hi, rfl⟩) r)
    obtain ⟨lv2, nl2, g1, g2, g3, g4⟩ := tI_dec o1 (o2 t h1 h2).2 nr fr
    exact ⟨lv2, nl2, g1, g2, fun _ => g3, fun a ha => (g4 a ha).imp id (fun q => ⟨d, q⟩)⟩
  · exact ⟨lv, nl, gr_refl, o1, fun q => absurd q d, fun a ha => Or.inl ha⟩
theorem iP_01 {v : Int32} (o : iP bg ti rm ms tc cl) (r0 : rm t m = 0) (hv : v = 1 ∨ v = 2) (hm : m < 3) (ht : tp (ti t) m = true) (h2 : v = 2 → dcd ti (fset2 rm t m v) t) : iP bg ti (fset2 rm t m v) ms tc cl := by
  have v0 : ¬ v = 0 ∧ ¬ v = 3 := by rcases hv with e | e <;> (rw [e]; exact ⟨by decide, by decide⟩)
  have nd : ¬ dcd ti rm t := fun q => by
    rcases q m hm ht with r | r <;> (rw [r0] at r; exact absurd r (by decide))
  have k0 : ∀ u p, ¬ rm u p = 0 → ¬ fset2 rm t m v u p = 0 := by
    intro u p h
    rw [fset2_eq]
    split
    · exact v0.1
    · exact h
  have k3 : ∀ u p, fset2 rm t m v u p = 3 ↔ rm u p = 3 := by
    intro u p
    rw [fset2_eq]
    by_cases e : u = t ∧ p = m
    · rw [if_pos e, e.1, e.2, r0]; exact ⟨fun q => absurd q v0.2, fun q => absurd q (by decide)⟩
    · rw [if_neg e]
  have oth : ∀ u, ¬ u = t → ∀ p, fset2 rm t m v u p = rm u p := fun u hu p => fset2_ne (fun z => hu z.1)
  have dk : ∀ u, dcd ti rm u → dcd ti (fset2 rm t m v) u := fun u d => dcd_x rfl (oth u (fun e => nd (by rw [← e]; exact d))) d
  refine ⟨fun M hM => ?_, fun u h1 hu hr => ?_⟩
  · obtain ⟨p1, p2, p3, p4⟩ := o.1 M hM
    refine ⟨fun q => (p1 q).imp id (fun z => (k3 _ _).mpr z), fun q => (p2 q).imp id (k0 _ _), fun q => dk _ (p3 q), fun q => ?_⟩
    obtain ⟨p, z1, z2, z3⟩ := p4 q
    exact ⟨p, z1, z2, (k3 _ _).mpr z3⟩
  · obtain ⟨q1, q2, q3⟩ := o.2 u h1 hu hr
    refine ⟨fun q y => k0 _ _ (q1 q y), fun z => ?_, fun p hp hq e2 => ?_⟩
    · obtain ⟨p, z1, z2, z3⟩ := z
      obtain ⟨q, e1, e2, e3, e4⟩ := q2 ⟨p, z1, z2, (k3 _ _).mp z3⟩
      exact ⟨q, e1, e2, (k3 _ _).mpr e3, e4⟩
    · by_cases e : u = t ∧ p = m
      · rw [e.1]
        rw [fset2_eq, if_pos e] at e2
        exact h2 e2
      · rw [fset2_ne e] at e2
        exact dk u (q3 p hp hq e2)
theorem iR_set {v : Int32} (o : iR bg rm) (hv : v = 1 ∨ v = 2 ∨ v = 3) (h2 : t ≤ bg) : iR bg (fset2 rm t m v) := by
  refine ⟨fun u p => ?_, fun u p hu => ?_⟩
  · rw [fset2_eq]
    by_cases e : u = t ∧ p = m
    · rw [if_pos e]; exact Or.inr hv
    · rw [if_neg e]; exact o.1 u p
  · rw [fset2_ne (by omega)]; exact o.2 u p hu
/-- YES: locked, of several -/
theorem INV_take (o : INV lv nl n w S) (h1 : 1 ≤ t) (h2 : t ≤ s_bg S) (hm : m < 3) (ht : tp (s_ti S t) m = true) (nr : isRd (s_ti S t) = false) (r0 : s_rm S t m = 0) (can : zcan (s_ti S t) m (s_lk S) (s_ce S) = true) : ∃ lv2 nl2, INV lv2 nl2 n w (Zlock t m t (s_rm_ S (fset2 (s_rm S) t m 1))) := by
  obtain ⟨lv2, nl2, g1, g2, g3, g4⟩ := INV_dec (v := 1) o h1 h2 hm ht nr r0 can
  obtain ⟨o1, o2, o3, o4, o5, o6, o7, o8, o9, o10⟩ := o
  have nd : ¬ dcd (s_ti S) (s_rm S) t := fun q => by
    rcases q m hm ht with r | r <;> (rw [r0] at r; exact absurd r (by decide))
  have oth : ∀ u, ¬ u = t → ∀ p, fset2 (s_rm S) t m 1 u p = s_rm S u p := fun u hu p => fset2_ne (fun z => hu z.1)
  have free : ∀ a, (∃ i, i ∈ s_ti S t ∧ i.2.1 = a) → a / 8 = m → s_lk S a = 0 := by
    rintro a ⟨i, i1, i2⟩ e
    have := (zcan_iff.mp can i i1 (by rw [i2]; exact e)).1
    rw [i2] at this
    exact this
  refine ⟨lv2, nl2, g2, fun u u1 u2 => ⟨(o2 u u1 u2).1, tI_m g1 (o2 u u1 u2).2⟩, fun M hM => iM1_m g1 (o3 M hM), fun c hc => iK_m g1 (o4 c hc), iP_01 o5 r0 (Or.inl rfl) hm ht (fun q => absurd q (by decide)), ⟨fun a => ?_, fun a ha => ?_, fun u p hu => ?_⟩, ⟨fun a => gC_m g1 (o7.1 a), fun a ha => ?_, fun u u1 u2 hr hdu => ?_⟩, o8, o9, iR_set o10 (Or.inl rfl) h2⟩
  · show zlo m t (s_ti S t) (s_lk S) a ≤ s_bg S
    rcases zlo_spec (a := a) (m := m) (x := t) (s_ti S t) (s_lk S) with ⟨_, _, e⟩ | ⟨_, e⟩
    · rw [e]; exact h2
    · rw [e]; exact o6.1 a
  · have ha : ¬ zlo m t (s_ti S t) (s_lk S) a = 0 := ha
    show fset2 (s_rm S) t m 1 (zlo m t (s_ti S t) (s_lk S) a) (a / 8) = 1 ∧ ∃ i, i ∈ s_ti S (zlo m t (s_ti S t) (s_lk S) a) ∧ i.2.1 = a
    rcases zlo_spec (a := a) (m := m) (x := t) (s_ti S t) (s_lk S) with ⟨e1, e2, e⟩ | ⟨_, e⟩
    · rw [e, e2, fset2_at]; exact ⟨rfl, e1⟩
    · rw [e] at ha ⊢
      obtain ⟨z1, z2⟩ := o6.2.1 a ha
      refine ⟨?_, z2⟩
      rw [fset2_eq]
      split
      · rfl
      · exact z1
  · have hu : fset2 (s_rm S) t m 1 u p = 1 := hu
    show (1 ≤ u ∧ u ≤ s_bg S) ∧ isRd (s_ti S u) = false ∧ ∀ i, i ∈ s_ti S u → i.2.1 / 8 = p → zlo m t (s_ti S t) (s_lk S) i.2.1 = u ∧ zfits i (s_ce S i.2.1) = true
    by_cases e : u = t ∧ p = m
    · rw [e.1, e.2]
      refine ⟨⟨h1, h2⟩, nr, fun i hi hp => ?_⟩
      rcases zlo_spec (a := i.2.1) (m := m) (x := t) (s_ti S t) (s_lk S) with ⟨_, _, z⟩ | ⟨z, _⟩
      · exact ⟨z, (zcan_iff.mp can i hi hp).2⟩
      · exact absurd ⟨⟨i, hi, rfl⟩, hp⟩ z
    · rw [fset2_ne e] at hu
      obtain ⟨z1, z2, z3⟩ := o6.2.2 u p hu
      refine ⟨z1, z2, fun i hi hp => ?_⟩
      obtain ⟨z4, z5⟩ := z3 i hi hp
      refine ⟨?_, z5⟩
      rcases zlo_spec (a := i.2.1) (m := m) (x := t) (s_ti S t) (s_lk S) with ⟨y1, y2, _⟩ | ⟨_, z⟩
      · have := free _ y1 y2; omega
      · rw [z]; exact z4
  · show ¬ (s_ce S a).2.1 = 0 ∨ (¬ zlo m t (s_ti S t) (s_lk S) a = 0 ∧ dcd (s_ti S) (fset2 (s_rm S) t m 1) (zlo m t (s_ti S t) (s_lk S) a) ∧ ∃ i, i ∈ s_ti S (zlo m t (s_ti S t) (s_lk S) a) ∧ i.2.1 = a ∧ i.1 = 4)
    rcases g4 a ha with hin | ⟨d, i, i1, i2, i3⟩
    · rcases o7.2.1 a hin with r | ⟨r1, r2, r3⟩
      · exact Or.inl r
      · right
        rcases zlo_spec (a := a) (m := m) (x := t) (s_ti S t) (s_lk S) with ⟨y1, y2, _⟩ | ⟨_, z⟩
        · exact absurd (free a y1 y2) r1
        · rw [z]
          exact ⟨r1, dcd_x rfl (oth _ (fun e => nd (by rw [← e]; exact r2))) r2, r3⟩
    · right
      have e : zlo m t (s_ti S t) (s_lk S) a = t := by
        rcases zlo_spec (a := a) (m := m) (x := t) (s_ti S t) (s_lk S) with ⟨_, _, z⟩ | ⟨y, z⟩
        · exact z
        · rw [z]
          have i24 := ((tI_wf (o2 t h1 h2).2).1 i i1).2
          have ne : ¬ a / 8 = m := fun q => y ⟨⟨i, i1, i2⟩, q⟩
          have dd := d (a / 8) (by omega) (tp_iff.mpr ⟨i, i1, by rw [i2]⟩)
          rw [fset2_ne (fun z => ne z.2)] at dd
          rcases dd with r | r
          · have := ((o6.2.2 t _ r).2.2 i i1 (by rw [i2])).1
            rw [i2] at this
            exact this
          · exact absurd ((o5.2 t h1 h2 nr).2.2 _ (by omega) (tp_iff.mpr ⟨i, i1, by rw [i2]⟩) r) nd
      rw [e]
      exact ⟨by omega, d, i, i1, i2, i3⟩
  · have hdu : dcd (s_ti S) (fset2 (s_rm S) t m 1) u := hdu
    by_cases e : u = t
    · rw [e] at hdu; rw [e]; exact g3 hdu
    · exact iC3_m g1 (o7.2.2 u u1 u2 hr (dcd_x rfl (fun p => (oth u e p).symm) hdu))
/-- YES: carried out at once -/
theorem INV_carry (o : INV lv nl n w S) (h1 : 1 ≤ t) (h2 : t ≤ s_bg S) (hm : m < 3) (ht : tp (s_ti S t) m = true) (nr : isRd (s_ti S t) = false) (r0 : s_rm S t m = 0) (can : zcan (s_ti S t) m (s_lk S) (s_ce S) = true) (sv : sev (s_ti S t) = false) : ∃ lv2 nl2, INV lv2 nl2 n (w + 1) (Zcarry t m S) := by
  obtain ⟨lv2, nl2, g1, g2, g3, g4⟩ := INV_dec (v := 2) o h1 h2 hm ht nr r0 can
  obtain ⟨o1, o2, o3, o4, o5, o6, o7, o8, o9, o10⟩ := o
  have one := sev_one hm sv ht
  have d2 : dcd (s_ti S) (fset2 (s_rm S) t m 2) t := by
    intro p hp hq
    by_cases e : p = m
    · rw [e, fset2_at]; exact Or.inr rfl
    · rw [one p hp e] at hq; cases hq
  have nd : ¬ dcd (s_ti S) (s_rm S) t := fun q => by
    rcases q m hm ht with r | r <;> (rw [r0] at r; exact absurd r (by decide))
  have oth : ∀ u, ¬ u = t → ∀ p, fset2 (s_rm S) t m 2 u p = s_rm S u p := fun u hu p => fset2_ne (fun z => hu z.1)
  have c3 := g3 d2
  have free : ∀ i, i ∈ s_ti S t → i.2.1 / 8 = m → s_lk S i.2.1 = 0 := fun i i1 e => (zcan_iff.mp can i i1 e).1
  refine ⟨lv2, nl2, g2, fun u u1 u2 => ⟨(o2 u u1 u2).1, tI_m g1 (o2 u u1 u2).2⟩, fun M hM => iM1_m g1 (o3 M hM), fun c hc => iK_m g1 (o4 c hc), iP_01 o5 r0 (Or.inr rfl) hm ht (fun _ => d2), ⟨o6.1, fun a ha => ?_, fun u p hu => ?_⟩, ⟨fun a => ?_, fun a ha => ?_, fun u u1 u2 hr hdu => ?_⟩, iV_wr o8 (tI_wf (o2 t h1 h2).2).2.2, o9, iR_set o10 (Or.inr (Or.inl rfl)) h2⟩
  · show fset2 (s_rm S) t m 2 (s_lk S a) (a / 8) = 1 ∧ ∃ i, i ∈ s_ti S (s_lk S a) ∧ i.2.1 = a
    obtain ⟨z1, z2⟩ := o6.2.1 a ha
    refine ⟨?_, z2⟩
    rw [fset2_eq, if_neg]
    · exact z1
    · rintro ⟨e1, e2⟩
      rw [e1, e2, r0] at z1; exact absurd z1 (by decide)
  · have hu : fset2 (s_rm S) t m 2 u p = 1 := hu
    show (1 ≤ u ∧ u ≤ s_bg S) ∧ isRd (s_ti S u) = false ∧ ∀ i, i ∈ s_ti S u → i.2.1 / 8 = p → s_lk S i.2.1 = u ∧ zfits i (zwr m (s_ti S t) (s_ce S) i.2.1) = true
    by_cases e : u = t ∧ p = m
    · rw [fset2_eq, if_pos e] at hu; exact absurd hu (by decide)
    · rw [fset2_ne e] at hu
      obtain ⟨z1, z2, z3⟩ := o6.2.2 u p hu
      refine ⟨z1, z2, fun i hi hp => ?_⟩
      obtain ⟨z4, z5⟩ := z3 i hi hp
      refine ⟨z4, ?_⟩
      rcases zwr_spec (a := i.2.1) (m := m) (s_ti S t) (s_ce S) with ⟨j, d, r1, r2, r3, _⟩ | ⟨_, r⟩
      · have := free j r1 (by rw [r2]; exact r3)
        rw [r2] at this
        omega
      · rw [r]; exact z5
  · show gC lv2 nl2 a (zwr m (s_ti S t) (s_ce S) a).2
    rcases zwr_spec (a := a) (m := m) (s_ti S t) (s_ce S) with ⟨i, d, r1, r2, r3, r4, r5, _⟩ | ⟨_, r⟩
    · rw [r5, ← r2]; exact (c3 i r1 r4).1
    · rw [r]; exact gC_m g1 (o7.1 a)
  · show ¬ (zwr m (s_ti S t) (s_ce S) a).2.1 = 0 ∨ (¬ s_lk S a = 0 ∧ dcd (s_ti S) (fset2 (s_rm S) t m 2) (s_lk S a) ∧ ∃ i, i ∈ s_ti S (s_lk S a) ∧ i.2.1 = a ∧ i.1 = 4)
    rcases zwr_spec (a := a) (m := m) (s_ti S t) (s_ce S) with ⟨i, d, r1, r2, r3, r4, r5, _⟩ | ⟨nw, r⟩
    · left; rw [r5]; exact (c3 i r1 r4).2
    · rw [r]
      rcases g4 a ha with hin | ⟨_, i, i1, i2, i3⟩
      · rcases o7.2.1 a hin with r | ⟨r1, r2, r3⟩
        · exact Or.inl r
        · exact Or.inr ⟨r1, dcd_x rfl (oth _ (fun e => nd (by rw [← e]; exact r2))) r2, r3⟩
      · exfalso
        have i24 := ((tI_wf (o2 t h1 h2).2).1 i i1).2
        have tpi : tp (s_ti S t) (a / 8) = true := tp_iff.mpr ⟨i, i1, by rw [i2]⟩
        have em : a / 8 = m := by
          apply Classical.byContradiction
          intro ne
          rw [one (a / 8) (by omega) ne] at tpi; cases tpi
        exact nw i i1 i2 em (Or.inr i3)
  · have hdu : dcd (s_ti S) (fset2 (s_rm S) t m 2) u := hdu
    by_cases e : u = t
    · rw [e]; exact c3
    · exact iC3_m g1 (o7.2.2 u u1 u2 hr (dcd_x rfl (fun p => (oth u e p).symm) hdu))
/-- NO: refused -/
theorem INV_refuse (o : INV lv nl n w S) (h1 : 1 ≤ t) (h2 : t ≤ s_bg S) (hm : m < 3) (ht : tp (s_ti S t) m = true) (nr : isRd (s_ti S t) = false) (r0 : s_rm S t m = 0) : INV lv nl n w (s_rm_ S (fset2 (s_rm S) t m 3)) := by
  have nd : ¬ dcd (s_ti S) (s_rm S) t := fun q => by
    rcases q m hm ht with r | r <;> (rw [r0] at r; exact absurd r (by decide))
  have e : s_rm_ S (fset2 (s_rm S) t m 3) = Zabort t m S := by
    unfold Zabort
    dsimp only
    rw [if_pos (Or.inr r0), if_neg (show ¬ s_rm S t m = 1 by rw [r0]; decide)]
  have ea : aRm (s_rm S) t m = fset2 (s_rm S) t m 3 := by unfold aRm; rw [if_pos (Or.inr r0)]
  obtain ⟨c1, c2, c3, c4, c5, c6, c7, c8⟩ := Zabort_c (t := t) (m := m) (S := S)
  rw [e]
  have o5 := o.2.2.2.2.1
  refine INV_of (INW_abort (INW_of o) h2 hm ht nd).1 ?_
  rw [c1, c2, c3, c4, c5, c6, ea]
  refine iP_3 o5 (t := t) (fun u p => ?_) h2 nd (fun _ => ⟨m, hm, ht, fset2_at, fun y => ?_, fun y => ?_⟩)
  · rw [fset2_eq]
    by_cases e : u = t ∧ p = m
    · rw [if_pos e]; exact Or.inr ⟨e.1, rfl, by rw [e.2]; exact Or.inl r0⟩
    · rw [if_neg e]; exact Or.inl rfl
  · obtain ⟨M, y1, y2, y3, y4⟩ := y
    rcases (o5.1 M y1).2.1 y2 with r | r
    · rw [y3, nr] at r; cases r
    · rw [y3, y4] at r; exact r r0
  · exact (o5.2 t h1 h2 nr).1 m y r0
theorem INV_prep (o : INV lv nl n w S) (h1 : 1 ≤ t) (h2 : t ≤ s_bg S) (hm : m < 3) (ht : tp (s_ti S t) m = true) (hw : w ≤ 100000) : ∃ lv2 nl2, INV lv2 nl2 n (w + 1) (Zprep t m S) := by
  have tt := (o.2.1 t h1 h2).2
  unfold Zprep
  cases hr : isRd (s_ti S t)
  · by_cases r0 : s_rm S t m = 0
    · cases can : zcan (s_ti S t) m (s_lk S) (s_ce S)
      · have eA : Zaccept t m S = (false, s_rm_ S (fset2 (s_rm S) t m 3)) := by
          unfold Zaccept
          rw [if_neg (by rw [hr]; decide), if_neg (fun q => q r0), if_pos can]
        rw [eA]
        dsimp only
        rw [if_neg (by decide)]
        have o1 := INV_refuse o h1 h2 hm ht hr r0
        refine ⟨lv, nl, INV_n (Nat.le_refl _) (Nat.le_succ _) (INV_send o1 (no3 h2 h1 ⟨hm, ht⟩) (no3p (Or.inr ?_)) (fun q => absurd q (by decide)))⟩
        exact fset2_at
      · cases sv : sev (s_ti S t)
        · have eA : Zaccept t m S = (true, Zcarry t m S) := by
            unfold Zaccept
            rw [if_neg (by rw [hr]; decide), if_neg (fun q => q r0), if_neg (by rw [can]; decide), if_neg (by rw [sv]; decide)]
          rw [eA]
          dsimp only
          rw [if_pos rfl]
          obtain ⟨lv2, nl2, o1⟩ := INV_carry o h1 h2 hm ht hr r0 can sv
          have sg : Zsight t (Zcarry t m S) = none := by
            show (if isRd (s_ti S t) = true then _ else none) = none
            rw [hr]; rfl
          rw [sg]
          refine ⟨lv2, nl2, INV_send o1 (yes2 h2 h1 ⟨hm, ht⟩ hr) (yes2p (Or.inr ?_)) (fun _ => Or.inr ?_)⟩
          · show ¬ fset2 (s_rm S) t m 2 t m = 0
            rw [fset2_at]; decide
          · show ¬ fset2 (s_rm S) t m 2 t m = 3
            rw [fset2_at]; decide
        · have eA : Zaccept t m S = (true, Zlock t m t (s_rm_ S (fset2 (s_rm S) t m 1))) := by
            unfold Zaccept
            rw [if_neg (by rw [hr]; decide), if_neg (fun q => q r0), if_neg (by rw [can]; decide), if_pos sv]
          rw [eA]
          dsimp only
          rw [if_pos rfl]
          obtain ⟨lv2, nl2, o1⟩ := INV_take o h1 h2 hm ht hr r0 can
          have sg : Zsight t (Zlock t m t (s_rm_ S (fset2 (s_rm S) t m 1))) = none := by
            show (if isRd (s_ti S t) = true then _ else none) = none
            rw [hr]; rfl
          rw [sg]
          refine ⟨lv2, nl2, INV_n (Nat.le_refl _) (Nat.le_succ _) (INV_send o1 (yes2 h2 h1 ⟨hm, ht⟩ hr) (yes2p (Or.inr ?_)) (fun _ => Or.inr ?_))⟩
          · show ¬ fset2 (s_rm S) t m 1 t m = 0
            rw [fset2_at]; decide
          · show ¬ fset2 (s_rm S) t m 1 t m = 3
            rw [fset2_at]; decide
    · have eA : Zaccept t m S = (decide (¬ s_rm S t m = 3), S) := by
        unfold Zaccept
        rw [if_neg (by rw [hr]; decide), if_pos r0]
      rw [eA]
      dsimp only
      by_cases r3 : s_rm S t m = 3
      · rw [decide_eq_false (fun q => q r3), if_neg (by decide)]
        exact ⟨lv, nl, INV_n (Nat.le_refl _) (Nat.le_succ _) (INV_send o (no3 h2 h1 ⟨hm, ht⟩) (no3p (Or.inr r3)) (fun q => absurd q (by decide)))⟩
      · rw [decide_eq_true r3, if_pos rfl]
        have sg : Zsight t S = none := by unfold Zsight; rw [hr]; rfl
        rw [sg]
        exact ⟨lv, nl, INV_n (Nat.le_refl _) (Nat.le_succ _) (INV_send o (yes2 h2 h1 ⟨hm, ht⟩ hr) (yes2p (Or.inr r0)) (fun _ => Or.inr r3))⟩
  · have eA : Zaccept t m S = (s_lk S ((s_ti S t).headD (0, 0, 0, z0N)).2.1 == 0, S) := by
      unfold Zaccept
      rw [if_pos hr]
    rw [eA]
    dsimp only
    obtain ⟨a, ha, e⟩ := isRd_one hr tt
    cases hl : (s_lk S ((s_ti S t).headD (0, 0, 0, z0N)).2.1 == 0)
    · rw [if_neg (by decide)]
      exact ⟨lv, nl, INV_n (Nat.le_refl _) (Nat.le_succ _) (INV_send o (no3 h2 h1 ⟨hm, ht⟩) (no3p (Or.inl hr)) (fun q => absurd q (by decide)))⟩
    · rw [if_pos rfl]
      have sg : Zsight t S = some (s_ce S a) := by unfold Zsight; rw [if_pos hr, e]; rfl
      rw [sg]
      refine ⟨lv, nl, INV_n (Nat.le_refl _) (Nat.le_succ _) (INV_send o ⟨Or.inr (Or.inl rfl), ⟨h1, h2⟩, ⟨hm, ht⟩, fun _ _ => ⟨_, rfl, ?_, fun k2 => ?_⟩, fun q => absurd ⟨hr, rfl⟩ q⟩ (yes2p (Or.inl hr)) (fun _ => Or.inl hr))⟩
      · show gC lv nl ((s_ti S t).getD 0 zi0).2.1 (s_ce S a).2
        rw [e]; exact o.2.2.2.2.2.2.1.1 a
      · obtain ⟨v, v1, v2, v3⟩ := o.2.2.2.2.2.2.2.1 a
        have := v3 k2
        rw [v1, show (0 : Int32) = Int32.ofNat 0 from rfl, i_lt (by decide) (by omega)]
        omega
end INVH
