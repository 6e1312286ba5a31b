/-! What always holds: every call keeps it. -/
section INVI
variable {lv lv2 : Nat → Nat} {nl nl2 : List Nat} {l a b i f B n w t u m p q c bg : Nat} {k : Int32} {S : zS} {x : Option (Int32 × zN)} {M : zM}
theorem INV_down {dn : Nat → Bool} (o : INV lv nl n w S) (h : ∀ c, c < 2 → s_dn S (3 + c) = false → dn (3 + c) = false) : INV lv nl n w (s_dn_ S dn) := by
  obtain ⟨o1, o2, o3, o4, o5, o6, o7, o8, o9, o10⟩ := o
  refine ⟨o1, o2, o3, fun c hc => ⟨(o4 c hc).1, fun q => ?_⟩, o5, o6, o7, o8, o9, o10⟩
  obtain ⟨s1, s2, s3, s4⟩ := (o4 c hc).2 q
  exact ⟨s1, s2, h c hc s3, s4⟩
theorem zlow_spec {rm : Nat → Nat → Int32} : ∀ f t, ¬ zlow rm m f t = 0 → rm (zlow rm m f t) m = 1 := by
  intro f
  induction f with
  | zero => intro t h; exact absurd rfl h
  | succ f ih =>
    intro t h
    rw [zlow] at h ⊢
    by_cases e : rm t m = 1
    · rw [if_pos e]; exact e
    · rw [if_neg e] at h ⊢; exact ih _ h
/-- settled -/
theorem set1_t (o : INV lv nl n w S) (h1 : 1 ≤ t) (h2 : t ≤ s_bg S) (nr : isRd (s_ti S t) = false) (hd : dcd (s_ti S) (s_rm S) t) : INV lv nl n (w + 1) (Zsettle1 t m true S) ∧ dcd (s_ti (Zsettle1 t m true S)) (s_rm (Zsettle1 t m true S)) t ∧ s_ti (Zsettle1 t m true S) = s_ti S ∧ s_bg (Zsettle1 t m true S) = s_bg S := by
  unfold Zsettle1
  by_cases e : tp (s_ti S t) m = true
  · rw [if_pos e, if_pos rfl]; exact INV_commit o h1 h2 nr hd
  · rw [if_neg e]; exact ⟨INV_n (Nat.le_refl _) (Nat.le_succ _) o, hd, rfl, rfl⟩
theorem set1_f (o : INW lv nl n w S) (h2 : t ≤ s_bg S) (hm : m < 3) (nd : ¬ dcd (s_ti S) (s_rm S) t) : INW lv nl n w (Zsettle1 t m false S) ∧ ¬ dcd (s_ti (Zsettle1 t m false S)) (s_rm (Zsettle1 t m false S)) t ∧ (∀ u p, s_rm (Zsettle1 t m false S) u p = if (u = t ∧ p = m) ∧ tp (s_ti S t) m = true ∧ (s_rm S t m = 1 ∨ s_rm S t m = 0) then 3 else s_rm S u p) ∧ s_ti (Zsettle1 t m false S) = s_ti S ∧ s_bg (Zsettle1 t m false S) = s_bg S ∧ s_ms (Zsettle1 t m false S) = s_ms S ∧ s_tc (Zsettle1 t m false S) = s_tc S ∧ s_cl (Zsettle1 t m false S) = s_cl S := by
  unfold Zsettle1
  by_cases e : tp (s_ti S t) m = true
  · rw [if_pos e, if_neg (by decide)]
    obtain ⟨c1, c2, c3, c4, c5, c6, c7, c8⟩ := Zabort_c (t := t) (m := m) (S := S)
    obtain ⟨i1, i2⟩ := INW_abort o h2 hm e nd
    refine ⟨i1, i2, fun u p => ?_, c2, c3, c4, c5, c6⟩
    rw [c1, aRm_eq]
    by_cases q : (u = t ∧ p = m) ∧ (s_rm S t m = 1 ∨ s_rm S t m = 0)
    · rw [if_pos q, if_pos ⟨q.1, e, q.2⟩]
    · rw [if_neg q, if_neg (fun z => q ⟨z.1, z.2.2⟩)]
  · rw [if_neg e]
    exact ⟨o, nd, fun u p => by rw [if_neg (fun z => e z.2.1)], rfl, rfl, rfl, rfl, rfl⟩
theorem INV_settle (o : INV lv nl n w S) (h1 : 1 ≤ t) (h2 : t ≤ s_bg S) (nr : isRd (s_ti S t) = false) : INV lv nl n (w + 3) (Zsettle S t) := by
  have o5 := o.2.2.2.2.1
  unfold Zsettle
  dsimp only
  cases hz : zdec (s_rm S) (s_ti S t) t
  · -- aborted
    have hnz : ¬ ((∃ p, p < 3 ∧ tp (s_ti S t) p = true ∧ s_rm S t p = 2) ∨ ∀ p, p < 3 → tp (s_ti S t) p = true → s_rm S t p = 1) := fun q => by rw [zdec_iff.mpr q] at hz; cases hz
    have n2 : ∀ p, p < 3 → tp (s_ti S t) p = true → ¬ s_rm S t p = 2 := fun p hp ht e => hnz (Or.inl ⟨p, hp, ht, e⟩)
    have ⟨p0, hp0, ht0, e0⟩ : ∃ p, p < 3 ∧ tp (s_ti S t) p = true ∧ ¬ s_rm S t p = 1 := by
      apply Classical.byContradiction
      intro q
      exact hnz (Or.inr (fun p hp ht => Classical.byContradiction (fun e => q ⟨p, hp, ht, e⟩)))
    have nd : ¬ dcd (s_ti S) (s_rm S) t := fun q => by
      rcases q p0 hp0 ht0 with e | e
      · exact e0 e
      · exact n2 p0 hp0 ht0 e
    obtain ⟨a1, a2, a3, a4, a5, a6, a7, a8⟩ := set1_f (m := 0) (INW_of o) h2 (by decide) nd
    generalize Zsettle1 t 0 false S = S1 at *
    obtain ⟨b1, b2, b3, b4, b5, b6, b7, b8⟩ := set1_f (m := 1) a1 (by rw [a5]; exact h2) (by decide) a2
    generalize Zsettle1 t 1 false S1 = S2 at *
    obtain ⟨c1, c2, c3, c4, c5, c6, c7, c8⟩ := set1_f (m := 2) b1 (by rw [b5, a5]; exact h2) (by decide) b2
    generalize Zsettle1 t 2 false S2 = S3 at *
    have R : ∀ u p, s_rm S3 u p = if u = t ∧ p < 3 ∧ tp (s_ti S t) p = true ∧ (s_rm S t p = 1 ∨ s_rm S t p = 0) then 3 else s_rm S u p := by
      intro u p
      have f0 : ∀ p, ¬ p = 0 → ∀ u, s_rm S1 u p = s_rm S u p := fun p hp u => by rw [a3, if_neg (fun z => hp z.1.2)]
      have f1 : ∀ p, ¬ p = 1 → ∀ u, s_rm S2 u p = s_rm S1 u p := fun p hp u => by rw [b3, if_neg (fun z => hp z.1.2)]
      have f2 : ∀ p, ¬ p = 2 → ∀ u, s_rm S3 u p = s_rm S2 u p := fun p hp u => by rw [c3, if_neg (fun z => hp z.1.2)]
      by_cases q0 : p = 0
      · subst q0
        rw [f2 0 (by decide), f1 0 (by decide), a3]
        by_cases z : (u = t ∧ 0 = 0) ∧ tp (s_ti S t) 0 = true ∧ (s_rm S t 0 = 1 ∨ s_rm S t 0 = 0)
        · rw [if_pos z, if_pos ⟨z.1.1, by decide, z.2.1, z.2.2⟩]
        · rw [if_neg z, if_neg (fun y => z ⟨⟨y.1, rfl⟩, y.2.2⟩)]
      · by_cases q1 : p = 1
        · subst q1
          rw [f2 1 (by decide), b3, a4, f0 1 (by decide), f0 1 (by decide)]
          by_cases z : (u = t ∧ 1 = 1) ∧ tp (s_ti S t) 1 = true ∧ (s_rm S t 1 = 1 ∨ s_rm S t 1 = 0)
          · rw [if_pos z, if_pos ⟨z.1.1, by decide, z.2.1, z.2.2⟩]
          · rw [if_neg z, if_neg (fun y => z ⟨⟨y.1, rfl⟩, y.2.2⟩)]
        · by_cases q2 : p = 2
          · subst q2
            rw [c3, b4, a4, f1 2 (by decide), f0 2 (by decide), f1 2 (by decide), f0 2 (by decide)]
            by_cases z : (u = t ∧ 2 = 2) ∧ tp (s_ti S t) 2 = true ∧ (s_rm S t 2 = 1 ∨ s_rm S t 2 = 0)
            · rw [if_pos z, if_pos ⟨z.1.1, by decide, z.2.1, z.2.2⟩]
            · rw [if_neg z, if_neg (fun y => z ⟨⟨y.1, rfl⟩, y.2.2⟩)]
          · rw [f2 p q2, f1 p q1, f0 p q0, if_neg (fun z => by omega)]
    refine INV_n (Nat.le_refl _) (by omega) (INV_of c1 ?_)
    rw [c4, c5, c6, c7, c8, b4, b5, b6, b7, b8, a4, a5, a6, a7, a8]
    refine iP_3 o5 (t := t) (fun u p => ?_) h2 nd (fun _ => ?_)
    · rw [R]
      by_cases z : u = t ∧ p < 3 ∧ tp (s_ti S t) p = true ∧ (s_rm S t p = 1 ∨ s_rm S t p = 0)
      · rw [if_pos z]; exact Or.inr ⟨z.1, rfl, z.2.2.2.symm⟩
      · rw [if_neg z]; exact Or.inl rfl
    · have e3 : ∀ q, q < 3 → tp (s_ti S t) q = true → (s_rm S t q = 0 ∨ s_rm S t q = 3) → s_rm S3 t q = 3 := by
        intro q h1 h2 h3
        rw [R]
        rcases h3 with h | h
        · rw [if_pos ⟨rfl, h1, h2, Or.inr h⟩]
        · split
          · rfl
          · exact h
      have z03 : s_rm S t p0 = 0 ∨ s_rm S t p0 = 3 := by
        rcases o.2.2.2.2.2.2.2.2.2.1 t p0 with r | r | r | r
        · exact Or.inl r
        · exact absurd r e0
        · exact absurd r (n2 p0 hp0 ht0)
        · exact Or.inr r
      rcases z03 with z | z
      · refine ⟨p0, hp0, ht0, e3 p0 hp0 ht0 (Or.inl z), fun y => ?_, fun y => ?_⟩
        · obtain ⟨M, y1, y2, y3, y4⟩ := y
          rcases (o5.1 M y1).2.1 y2 with r | r
          · rw [y3, nr] at r; cases r
          · rw [y3, y4] at r; exact r z
        · exact (o5.2 t h1 h2 nr).1 p0 y z
      · obtain ⟨q, y1, y2, y3, y4⟩ := (o5.2 t h1 h2 nr).2.1 ⟨p0, hp0, ht0, z⟩
        exact ⟨q, y1, y2, e3 q y1 y2 (Or.inr y3), y4⟩
  · -- committed
    have hd : dcd (s_ti S) (s_rm S) t := by
      rcases zdec_iff.mp hz with ⟨p, h1', h2', h3'⟩ | h
      · exact (o5.2 t h1 h2 nr).2.2 p h1' h2' h3'
      · exact fun p hp ht => Or.inl (h p hp ht)
    obtain ⟨a1, a2, a3, a4⟩ := set1_t (m := 0) o h1 h2 nr hd
    generalize Zsettle1 t 0 true S = S1 at *
    obtain ⟨b1, b2, b3, b4⟩ := set1_t (m := 1) a1 h1 (by rw [a4]; exact h2) (by rw [a3]; exact nr) a2
    generalize Zsettle1 t 1 true S1 = S2 at *
    obtain ⟨c1, c2, c3, c4⟩ := set1_t (m := 2) b1 h1 (by rw [b4, a4]; exact h2) (by rw [b3, a3]; exact nr) b2
    exact c1
theorem INV_reach (o : INV lv nl n w S) (hM : iM1 lv nl (s_bg S) (s_ti S) (k, t, m, x)) (hP : iP1 (s_ti S) (s_rm S) (k, t, m, x)) (hw : w ≤ 100000) : ∃ lv2 nl2, INV lv2 nl2 n (w + 1) (Zreach k t m S) := by
  obtain ⟨m1, m2, m3, m4, m5⟩ := hM
  obtain ⟨p1, p2, p3, p4⟩ := hP
  dsimp only at m1 m2 m3 m4 m5 p1 p2 p3 p4
  have tt := (o.2.1 t m2.1 m2.2).2
  unfold Zreach
  by_cases k4 : k = 4
  · rw [if_pos k4]
    refine ⟨lv, nl, ?_⟩
    cases hr : isRd (s_ti S t)
    · exact (INV_commit o m2.1 m2.2 hr (p3 k4)).1
    · unfold Zcommit
      rw [if_neg (fun q => by rw [((o.2.2.2.2.2.1).2.2 t m q).2.1] at hr; cases hr)]
      exact INV_n (Nat.le_refl _) (Nat.le_succ _) o
  · rw [if_neg k4]
    by_cases k5 : k = 5
    · rw [if_pos k5]
      refine ⟨lv, nl, INV_n (Nat.le_refl _) (Nat.le_succ _) ?_⟩
      cases hr : isRd (s_ti S t)
      · exact INV_abort o m2.1 m2.2 m3.1 m3.2 hr (p4 k5)
      · obtain ⟨p, z1, z2, z3⟩ := p4 k5
        have e1 := tRd_rd hr tt p z2
        have e2 := tRd_rd hr tt m m3.2
        have : p = m := by omega
        rw [this] at z3
        unfold Zabort
        dsimp only
        rw [if_neg (fun q => by rw [z3] at q; rcases q with q | q <;> exact absurd q (by decide)), if_neg (by rw [z3]; decide)]
        exact o
    · rw [if_neg k5]; exact INV_prep o m2.1 m2.2 m3.1 m3.2 hw
theorem INV_deliver (o : INV lv nl n w S) (hw : w ≤ 100000) (hi : i < (s_ms S).length) : ∃ lv2 nl2, INV lv2 nl2 (n + 1) (w + 1) (Zdeliver i S) := by
  unfold Zdeliver
  have hg : (s_ms S)[i]? = some (s_ms S)[i] := List.getElem?_eq_getElem hi
  have hin : (s_ms S)[i] ∈ s_ms S := List.getElem_mem hi
  rw [hg]
  have hM := o.2.2.1 _ hin
  have hP := o.2.2.2.2.1.1 _ hin
  generalize (s_ms S)[i] = M at *
  obtain ⟨k, t, m, x⟩ := M
  dsimp only
  have sub : ∀ M, M ∈ (s_ms S).eraseIdx i → M ∈ s_ms S := fun M h => List.mem_of_mem_eraseIdx h
  have o1 : INV lv nl n w (s_ms_ S ((s_ms S).eraseIdx i)) := INV_ms o (fun M h => Or.inl (sub M h))
  by_cases k23 : k = 2 ∨ k = 3
  · rw [if_pos k23]
    refine ⟨lv, nl, INV_n (Nat.le_refl _) (Nat.le_succ _) (INV_hear o1 k23 hM hP (fun k2 nr h3 => ?_))⟩
    obtain ⟨q, e1, e2, e3, e4, e5⟩ := (o.2.2.2.2.1.2 t hM.2.1.1 hM.2.1.2 nr).2.1 h3
    refine ⟨q, e1, e2, e3, fun y => ?_, e5, fun e => ?_⟩
    · obtain ⟨M, y1, y2, y3, y4⟩ := y
      exact e4 ⟨M, sub M y1, y2, y3, y4⟩
    · exact e4 ⟨(k, t, m, x), hin, k2, rfl, e.symm⟩
  · rw [if_neg k23]
    by_cases d : s_dn S m = true
    · rw [if_pos d]; exact ⟨lv, nl, INV_n (Nat.le_succ _) (Nat.le_succ _) o1⟩
    · rw [if_neg d]
      obtain ⟨lv2, nl2, o2⟩ := INV_reach o1 hM hP hw
      exact ⟨lv2, nl2, INV_n (Nat.le_succ _) (Nat.le_refl _) o2⟩
/-- the calls -/
theorem II_of {w2 : Nat} (h : w2 ≤ 3 * (n + 1)) (o : INV lv nl (n + 1) w2 S) : II (n + 1) S := ⟨lv, nl, INV_n (Nat.le_refl _) h o⟩
theorem II_n (o : II n S) : II (n + 1) S := by
  obtain ⟨lv, nl, o⟩ := o
  exact ⟨lv, nl, INV_n (Nat.le_succ _) (by omega) o⟩
theorem II_deliver {i : Int32} (o : II n S) (hn : n ≤ 600) : II (n + 1) (Xdeliver i S).2 := by
  unfold Xdeliver
  by_cases q : 0 ≤ i ∧ i < Int32.ofNat (s_ms S).length
  · rw [if_pos q]
    obtain ⟨lv, nl, o⟩ := o
    have hj : i.toNatClampNeg < (s_ms S).length := by
      have h1 := q.2
      rw [Int32.lt_iff_toInt_lt] at h1
      have h0 := q.1
      rw [Int32.le_iff_toInt_le] at h0
      have e0 : (0 : Int32).toInt = 0 := by decide
      have hle : (Int32.ofNat (s_ms S).length).toInt ≤ ((s_ms S).length : Int) := by
        by_cases z : (s_ms S).length < 2147483648
        · rw [i_toInt z]; exact Int.le_refl _
        · have := (Int32.ofNat (s_ms S).length).toInt_lt; omega
      show i.toInt.toNat < _
      omega
    obtain ⟨lv2, nl2, o2⟩ := INV_deliver o (by omega) hj
    exact II_of (by omega) o2
  · rw [if_neg q]; exact II_n o
theorem II_drop {i : Int32} (o : II n S) : II (n + 1) (Xdrop i S).2 := by
  unfold Xdrop
  by_cases q : 0 ≤ i ∧ i < Int32.ofNat (s_ms S).length
  · rw [if_pos q]
    obtain ⟨lv, nl, o⟩ := o
    exact II_n ⟨lv, nl, INV_ms o (fun M h => Or.inl (List.mem_of_mem_eraseIdx h))⟩
  · rw [if_neg q]; exact II_n o
theorem i7_of {a : Int32} (h : 0 ≤ a ∧ a < 100) : i7 a := by
  obtain ⟨h1, h2⟩ := i_nat_lt (n := 100) (by decide) h
  exact ⟨a.toNatClampNeg, by omega, h2⟩
theorem II_work {jb i a b v : Int32} (hj : isJ jb) (o : II n S) : II (n + 1) (Xwork jb i a b v S).2 := by
  unfold Xwork
  by_cases q : (0 ≤ i ∧ i < 2) ∧ (0 ≤ a ∧ a < 100) ∧ (0 ≤ b ∧ b < 100) ∧ a ≤ b ∧ s_dn S (3 + i.toNatClampNeg) = false ∧ ¬ c_st (s_cl S i.toNatClampNeg) = 1
  · rw [if_pos q]
    obtain ⟨lv, nl, o⟩ := o
    obtain ⟨q1, q2, q3, q4, q5, q6⟩ := q
    obtain ⟨hc, _⟩ := i_nat_lt (n := 2) (by decide) q1
    generalize i.toNatClampNeg = c at *
    dsimp only
    have oK := o.2.2.2.1 c hc
    have op0 : c_op (s_cl S c) = 0 := by
      apply Classical.byContradiction
      intro e
      exact q6 (oK.2 e).2.2.2.1.1
    obtain ⟨g1, g2, g3, g4, g5, g6, g7, g8, g9, g10, g11, g12⟩ := zwk_g (z := s_cl S c) (jb := jb) (a := a) (b := b) (v := v)
    have ez : Zwork S c jb a b v = Zbegin S c (Dstart (zwk (s_cl S c) jb a b v)) := rfl
    rw [ez]
    generalize zwk (s_cl S c) jb a b v = z at *
    have bz : bK lv nl z := ⟨by rw [g1]; exact oK.1.1, by rw [g12]; exact oK.1.2.1, fun _ => by rw [g2]; exact hj⟩
    have rz : rK z := ⟨g3, by rw [g2]; exact hj, by rw [g6]; exact i7_of q2, 10, by decide, by decide, g4⟩
    exact II_of (by omega) (INV_begin o hc q5 (Dstart_K bz rz) (by omega) (by rw [Dstart_op, g9]; exact op0))
  · rw [if_neg q]; exact II_n o
theorem II_resend {i : Int32} (o : II n S) : II (n + 1) (Xresend i S).2 := by
  unfold Xresend
  by_cases q : (0 ≤ i ∧ i < 2) ∧ ¬ c_op (s_cl S i.toNatClampNeg) = 0
  · rw [if_pos q]
    obtain ⟨lv, nl, o⟩ := o
    obtain ⟨hc, _⟩ := i_nat_lt (n := 2) (by decide) q.1
    have q2 := q.2
    generalize i.toNatClampNeg = c at *
    obtain ⟨s1, s2, s3, s4⟩ := (o.2.2.2.1 c hc).2 q2
    refine II_n ⟨lv, nl, INV_ms o (fun M hM => ?_)⟩
    rcases snd3_in hM with r | ⟨p, p1, p2, rfl⟩
    · exact Or.inl r
    · rw [Bool.and_eq_true] at p2
      exact Or.inr ⟨⟨Or.inl rfl, ⟨by dsimp only; omega, s1⟩, ⟨p1, p2.1⟩, fun _ q => absurd q (show ¬ (1 : Int32) = 2 by decide), fun _ => rfl⟩, ⟨fun q => absurd q (show ¬ (1 : Int32) = 3 by decide), fun q => absurd q (show ¬ (1 : Int32) = 2 by decide), fun q => absurd q (show ¬ (1 : Int32) = 4 by decide), fun q => absurd q (show ¬ (1 : Int32) = 5 by decide)⟩, fun q => absurd q (show ¬ (1 : Int32) = 2 by decide)⟩
  · rw [if_neg q]; exact II_n o
theorem II_crash {i : Int32} (o : II n S) : II (n + 1) (Xcrash i S).2 := by
  unfold Xcrash
  by_cases q : (0 ≤ i ∧ i < 5) ∧ s_dn S i.toNatClampNeg = false
  · rw [if_pos q]
    obtain ⟨lv, nl, o⟩ := o
    obtain ⟨hc, _⟩ := i_nat_lt (n := 5) (by decide) q.1
    generalize i.toNatClampNeg = y at *
    dsimp only
    refine II_n ?_
    unfold Zcrash
    by_cases h3 : y < 3
    · rw [if_pos h3]
      refine ⟨lv, nl, INV_down o (fun c hc q => ?_)⟩
      rw [fset_ne (by omega)]; exact q
    · rw [if_neg h3]
      have b := (o.2.2.2.1 (y - 3) (by omega)).1
      have bz : bK lv nl (c_cp_ (c_st_ (c_op_ (s_cl S (y - 3)) 0) 0) (fun _ => none)) := by
        unfold bK
        rw [c_hi_cp, c_hi_st, c_hi_op, c_cp_cp, c_st_cp, c_st_st]
        exact ⟨b.1, (fun a q e => by cases e), fun q => absurd rfl q⟩
      have o2 := INV_idle (c := y - 3) o (by omega) bz (by rw [c_op_cp, c_op_st, c_op_op])
      obtain ⟨o1, o2, o3, o4, o5, o6, o7, o8, o9, o10⟩ := o2
      refine ⟨lv, nl, o1, o2, o3, fun c hc => ⟨(o4 c hc).1, fun q => ?_⟩, o5, o6, o7, o8, o9, o10⟩
      obtain ⟨s1, s2, s3, s4⟩ := (o4 c hc).2 q
      refine ⟨s1, s2, ?_, s4⟩
      show fset (s_dn S) y true (3 + c) = false
      by_cases e : 3 + c = y
      · exfalso
        have : c = y - 3 := by omega
        rw [this] at q
        apply q
        show c_op (fset (s_cl S) (y - 3) _ (y - 3)) = 0
        rw [fset_at, c_op_cp, c_op_st, c_op_op]
      · rw [fset_ne e]; exact s3
  · rw [if_neg q]; exact II_n o
theorem II_restart {i : Int32} (o : II n S) : II (n + 1) (Xrestart i S).2 := by
  unfold Xrestart
  by_cases q : (0 ≤ i ∧ i < 5) ∧ s_dn S i.toNatClampNeg = true
  · rw [if_pos q]
    obtain ⟨lv, nl, o⟩ := o
    refine II_n ⟨lv, nl, INV_down o (fun c hc q => ?_)⟩
    rw [fset_eq]
    split
    · rfl
    · exact q
  · rw [if_neg q]; exact II_n o
theorem II_recover {i : Int32} (o : II n S) : II (n + 1) (Xrecover i S).2 := by
  unfold Xrecover
  by_cases q : (0 ≤ i ∧ i < 3) ∧ s_dn S i.toNatClampNeg = false
  · rw [if_pos q]
    obtain ⟨lv, nl, o⟩ := o
    generalize i.toNatClampNeg = m at *
    show II (n + 1) (Zrecover S m).2
    unfold Zrecover
    dsimp only
    generalize ht : zlow (s_rm S) m (s_bg S) 1 = t
    by_cases z : t = 0 ∨ (tp (s_ti S t) 0 && s_dn S 0) = true ∨ (tp (s_ti S t) 1 && s_dn S 1) = true ∨ (tp (s_ti S t) 2 && s_dn S 2) = true
    · rw [if_pos z]; exact II_n ⟨lv, nl, o⟩
    · rw [if_neg z]
      have t0 : ¬ t = 0 := fun e => z (Or.inl e)
      have r1 : s_rm S t m = 1 := by rw [← ht]; exact zlow_spec _ _ (by rw [ht]; exact t0)
      obtain ⟨l1, l2, _⟩ := o.2.2.2.2.2.1.2.2 t m r1
      exact II_of (by omega) (INV_n (Nat.le_succ _) (Nat.le_refl _) (INV_settle o l1.1 l1.2 l2))
  · rw [if_neg q]; exact II_n o
end INVI
