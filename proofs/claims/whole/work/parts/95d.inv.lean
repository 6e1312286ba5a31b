/-! What always holds: messages and clients. -/
section INVD
variable {lv lv2 : Nat → Nat} {nl nl2 : List Nat} {l a b i f B n w t m p c bg : Nat} {N X Y : zN} {k : Int32} {z z2 : zC} {x : Int32 × zN} {its : List zI} {sg : Int32} {D : zD} {S : zS} {M : zM} {ti ti2 : Nat → List zI} {rm rm2 : Nat → Nat → Int32} {ms : List zM} {tc tc2 : Nat → Nat} {cl cl2 : Nat → zC}
theorem snd_in {M x : zM} (h : M ∈ snd_ ms x) : M ∈ ms ∨ M = x := by
  unfold snd_ at h
  by_cases q : ms.length < 40
  · rw [if_pos q] at h
    rcases List.mem_append.mp h with r | r
    · exact Or.inl r
    · simp at r; exact Or.inr r
  · rw [if_neg q] at h; exact Or.inl h
theorem snd3_in {P : Nat → Bool} (h : M ∈ snd3 P k t ms) : M ∈ ms ∨ ∃ p, p < 3 ∧ P p = true ∧ M = (k, t, p, none) := by
  have st : ∀ (p : Nat) (L : List zM), p < 3 → M ∈ (if P p then snd_ L (k, t, p, none) else L) → M ∈ L ∨ ∃ p, p < 3 ∧ P p = true ∧ M = (k, t, p, none) := by
    intro p L hp h
    by_cases q : P p = true
    · rw [if_pos q] at h
      rcases snd_in h with r | r
      · exact Or.inl r
      · exact Or.inr ⟨p, hp, q, r⟩
    · rw [if_neg q] at h; exact Or.inl h
  unfold snd3 at h
  rcases st 2 _ (by decide) h with r | r
  · rcases st 1 _ (by decide) r with r | r
    · exact st 0 _ (by decide) r
    · exact Or.inr r
  · exact Or.inr r
theorem INV_ms (o : INV lv nl n w S) (h : ∀ M, M ∈ ms → M ∈ s_ms S ∨ (iM1 lv nl (s_bg S) (s_ti S) M ∧ iP1 (s_ti S) (s_rm S) M ∧ (M.1 = 2 → isRd (s_ti S M.2.1) = true ∨ ¬ s_rm S M.2.1 M.2.2.1 = 3))) : INV lv nl n w (s_ms_ S ms) := by
  obtain ⟨o1, o2, o3, o4, o5, o6, o7, o8, o9, o10⟩ := o
  refine ⟨o1, o2, fun M hM => ?_, o4, ⟨fun M hM => ?_, fun t h1 h2 hr => ?_⟩, o6, o7, o8, o9, o10⟩
  · rcases h M hM with r | r
    · exact o3 M r
    · exact r.1
  · rcases h M hM with r | r
    · exact o5.1 M r
    · exact r.2.1
  · obtain ⟨q1, q2, q3⟩ := o5.2 t h1 h2 hr
    refine ⟨q1, fun h3 => ?_, q3⟩
    obtain ⟨q, e1, e2, e3, e4, e5⟩ := q2 h3
    refine ⟨q, e1, e2, e3, fun y => ?_, e5⟩
    obtain ⟨M, y1, y2, y3, y4⟩ := y
    rcases h M y1 with r | r
    · exact e4 ⟨M, r, y2, y3, y4⟩
    · rcases r.2.2 y2 with u | u
      · rw [y3] at u; exact absurd (hr.symm.trans u) (by decide)
      · rw [y3, y4] at u; exact u e3
theorem fset_ne {β : Type} {g : Nat → β} {i j : Nat} {v : β} (h : ¬ j = i) : fset g i v j = g j := by rw [fset_eq, if_neg h]
theorem fset_at {β : Type} {g : Nat → β} {i : Nat} {v : β} : fset g i v i = v := by rw [fset_eq, if_pos rfl]
/-- only the client changes, and no answer is added -/
theorem iP_y (o : iP bg ti rm ms tc cl) (h : ∀ t q, 1 ≤ t → t ≤ bg → ysA tc cl2 t q → ysA tc cl t q) : iP bg ti rm ms tc cl2 := by
  refine ⟨o.1, fun t h1 h2 hr => ?_⟩
  obtain ⟨q1, q2, q3⟩ := o.2 t h1 h2 hr
  refine ⟨fun q y => q1 q (h t q h1 h2 y), fun h3 => ?_, q3⟩
  obtain ⟨q, e1, e2, e3, e4, e5⟩ := q2 h3
  exact ⟨q, e1, e2, e3, e4, fun y => e5 (h t q h1 h2 y)⟩
theorem pnd_sum (hc : c < 2) (h : pnd z ≤ pnd (cl c) + b) : pnd (fset cl c z 0) + pnd (fset cl c z 1) ≤ pnd (cl 0) + pnd (cl 1) + b := by
  have : c = 0 ∨ c = 1 := by omega
  rcases this with rfl | rfl
  · rw [fset_at, fset_ne (by decide)]; omega
  · rw [fset_at, fset_ne (by decide)]; omega
theorem INV_idle (o : INV lv nl n w S) (hc : c < 2) (b : bK lv nl z) (h0 : c_op z = 0) : INV lv nl n w (s_cl_ S (fset (s_cl S) c z)) := by
  obtain ⟨o1, o2, o3, o4, o5, o6, o7, o8, o9, o10⟩ := o
  refine ⟨o1, o2, o3, fun d hd => ?_, iP_y o5 (fun t q h1 h2 y => ?_), o6, o7, o8, ⟨o9.1, ?_⟩, o10⟩
  · show iK lv nl (s_dn S) (s_bg S) (s_tc S) (s_ti S) d (fset (s_cl S) c z d)
    by_cases e : d = c
    · subst e; rw [fset_at]; exact ⟨b, fun q => absurd h0 q⟩
    · rw [fset_ne e]; exact o4 d hd
  · have y : ysA (s_tc S) (fset (s_cl S) c z) t q := y
    unfold ysA at *
    by_cases e : s_tc S t = c
    · rw [e, fset_at, h0] at y; omega
    · rw [fset_ne e] at y; exact y
  · show nIt (s_ti S) (s_bg S) + pnd (fset (s_cl S) c z 0) + pnd (fset (s_cl S) c z 1) ≤ 3 * n
    have := pnd_sum (cl := s_cl S) (z := z) (b := 0) hc (by unfold pnd; rw [if_neg (fun q => q.1 h0)]; omega)
    have := o9.2
    omega
theorem dcd_x (h1 : ti2 t = ti t) (h2 : ∀ p, rm2 t p = rm t p) (o : dcd ti rm t) : dcd ti2 rm2 t := fun p hp ht => by
  rw [h1] at ht; rw [h2 p]; exact o p hp ht
theorem has3_x (h1 : ti2 t = ti t) (h2 : ∀ p, rm2 t p = rm t p) (o : has3 ti rm t) : has3 ti2 rm2 t := by
  obtain ⟨p, q1, q2, q3⟩ := o
  exact ⟨p, q1, by rw [h1]; exact q2, by rw [h2]; exact q3⟩
theorem iM1_x {bg2 : Nat} (h1 : ti2 M.2.1 = ti M.2.1) (hb : bg ≤ bg2) (o : iM1 lv nl bg ti M) : iM1 lv nl bg2 ti2 M := by
  unfold iM1 at *
  rw [h1]
  exact ⟨o.1, ⟨o.2.1.1, Nat.le_trans o.2.1.2 hb⟩, o.2.2⟩
theorem iP1_x (h1 : ti2 M.2.1 = ti M.2.1) (h2 : ∀ p, rm2 M.2.1 p = rm M.2.1 p) (o : iP1 ti rm M) : iP1 ti2 rm2 M := by
  unfold iP1 at *
  rw [h1, h2]
  exact ⟨o.1, o.2.1, fun q => dcd_x h1 h2 (o.2.2.1 q), fun q => has3_x h1 h2 (o.2.2.2 q)⟩
theorem nIt_x : ∀ b, (∀ t, 1 ≤ t → t ≤ b → ti2 t = ti t) → nIt ti2 b = nIt ti b := by
  intro b
  induction b with
  | zero => intro _; rfl
  | succ b ih =>
    intro h
    rw [nIt, nIt, ih (fun t h1 h2 => h t h1 (by omega)), h (b + 1) (by omega) (Nat.le_refl _)]
/-- a transaction is begun -/
theorem INV_begin (o : INV lv nl n w S) (hc : c < 2) (hd : s_dn S (3 + c) = false) (d : dK lv nl B D) (hB : B ≤ 3 + pnd (s_cl S c)) (h0 : c_op D.1 = 0) : INV lv nl (n + 1) w (Zbegin S c D) := by
  obtain ⟨w, so⟩ := D
  cases so with
  | none => exact INV_n (Nat.le_succ _) (Nat.le_refl _) (INV_idle o hc d.1 h0)
  | some r =>
    obtain ⟨its, sg⟩ := r
    obtain ⟨d1, d2, d3⟩ := d.2 its sg rfl
    have db := d.1
    dsimp only at d1 d2 d3 db h0
    obtain ⟨o1, o2, o3, o4, o5, o6, o7, o8, o9, o10⟩ := o
    generalize ht : s_bg S + 1 = t at *
    generalize hz : c_sg_ (c_an_ (c_op_ w t) (fun _ => false)) sg = z
    have zop : c_op z = t := by rw [← hz, c_op_sg, c_op_an, c_op_op]
    have zan : ∀ q, c_an z q = false := fun q => by rw [← hz, c_an_sg, c_an_an]
    have zsg : c_sg z = sg := by rw [← hz, c_sg_sg]
    have zlf : c_lf z = c_lf w := by rw [← hz, c_lf_sg, c_lf_an, c_lf_op]
    have zbK : bK lv nl z := bK_of db (by rw [← hz, c_hi_sg, c_hi_an, c_hi_op]) (by rw [← hz, c_cp_sg, c_cp_an, c_cp_op]) (by rw [← hz, c_st_sg, c_st_an, c_st_op]) (by rw [← hz, c_jb_sg, c_jb_an, c_jb_op])
    have zsK : sK lv nl z its sg := by
      have e : rK z ↔ rK w := by unfold rK; rw [← hz]; simp only [c_st_sg, c_st_an, c_st_op, c_jb_sg, c_jb_an, c_jb_op, c_fr_sg, c_fr_an, c_fr_op, c_fu_sg, c_fu_an, c_fu_op]
      have e2 : lK lv nl z ↔ lK lv nl w := by unfold lK nK; rw [← hz]; simp only [c_cp_sg, c_cp_an, c_cp_op, c_jb_sg, c_jb_an, c_jb_op, c_pa_sg, c_pa_an, c_pa_op, c_fr_sg, c_fr_an, c_fr_op, c_go_sg, c_go_an, c_go_op, c_lf_sg, c_lf_an, c_lf_op, c_re_sg, c_re_an, c_re_op, c_fo_sg, c_fo_an, c_fo_op]
      unfold sK at *
      rw [e, e2, ← hz]
      simp only [c_pa_sg, c_pa_an, c_pa_op, c_fr_sg, c_fr_an, c_fr_op, c_go_sg, c_go_an, c_go_op, c_lf_sg, c_lf_an, c_lf_op, c_re_sg, c_re_an, c_re_op, c_fo_sg, c_fo_an, c_fo_op]
      exact d2
    have eZ : Zbegin S c (w, some (its, sg)) = s_ms_ (s_ti_ (s_tc_ (s_bg_ (s_cl_ S (fset (s_cl S) c z)) t) (fset (s_tc S) t c)) (fset (s_ti S) t its)) (snd3 (tp its) 1 t (s_ms S)) := by
      rw [← hz, ← ht]; rfl
    rw [eZ]
    have tle : ∀ u, u ≤ s_bg S → fset (s_ti S) t its u = s_ti S u := fun u hu => fset_ne (by omega)
    have cle : ∀ u, u ≤ s_bg S → fset (s_tc S) t c u = s_tc S u := fun u hu => fset_ne (by omega)
    have r0 : ∀ p, s_rm S t p = 0 := fun p => o10.2 t p (by omega)
    obtain ⟨q0, q0a, q0b⟩ := tI_tp d1
    refine ⟨o1, fun u h1 h2 => ?_, fun M hM => ?_, fun d hd2 => ?_, ⟨fun M hM => ?_, fun u h1 h2 hr => ?_⟩, ⟨fun a => ?_, fun a ha => ?_, fun u p hu => ?_⟩, ⟨o7.1, fun a ha => ?_, fun u h1 h2 hr hdc => ?_⟩, fun a => ?_, ⟨?_, ?_⟩, ⟨o10.1, fun u p hu => ?_⟩⟩
    · show fset (s_tc S) t c u < 2 ∧ tI lv nl (fset (s_ti S) t its u)
      have h2 : u ≤ t := h2
      by_cases e : u = t
      · subst e; rw [fset_at, fset_at]; exact ⟨hc, d1⟩
      · rw [tle u (by omega), cle u (by omega)]; exact o2 u h1 (by omega)
    · show iM1 lv nl t (fset (s_ti S) t its) M
      rcases snd3_in (show M ∈ snd3 (tp its) 1 t (s_ms S) from hM) with r | ⟨p, p1, p2, rfl⟩
      · exact iM1_x (tle _ (o3 M r).2.1.2) (by omega) (o3 M r)
      · unfold iM1
        dsimp only
        rw [fset_at]
        exact ⟨Or.inl rfl, ⟨by omega, Nat.le_refl _⟩, ⟨p1, p2⟩, fun _ q => absurd q (by decide), fun _ => rfl⟩
    · show iK lv nl (s_dn S) t (fset (s_tc S) t c) (fset (s_ti S) t its) d (fset (s_cl S) c z d)
      by_cases e : d = c
      · subst e
        rw [fset_at]
        refine ⟨zbK, fun _ => ?_⟩
        rw [zop, fset_at, fset_at, zsg]
        exact ⟨Nat.le_refl _, rfl, hd, zsK⟩
      · rw [fset_ne e]
        refine ⟨(o4 d hd2).1, fun q => ?_⟩
        obtain ⟨s1, s2, s3, s4⟩ := (o4 d hd2).2 q
        rw [tle _ s1, cle _ s1]
        exact ⟨by omega, s2, s3, s4⟩
    · show iP1 (fset (s_ti S) t its) (s_rm S) M
      rcases snd3_in (show M ∈ snd3 (tp its) 1 t (s_ms S) from hM) with r | ⟨p, p1, p2, rfl⟩
      · exact iP1_x (tle _ (o3 M r).2.1.2) (fun _ => rfl) (o5.1 M r)
      · exact ⟨fun q => absurd q (show ¬ (1 : Int32) = 3 by decide), fun q => absurd q (show ¬ (1 : Int32) = 2 by decide), fun q => absurd q (show ¬ (1 : Int32) = 4 by decide), fun q => absurd q (show ¬ (1 : Int32) = 5 by decide)⟩
    · have hr : isRd (fset (s_ti S) t its u) = false := hr
      show iP2 (fset (s_ti S) t its) (s_rm S) (snd3 (tp its) 1 t (s_ms S)) (fset (s_tc S) t c) (fset (s_cl S) c z) u
      have h2 : u ≤ t := h2
      by_cases e : u = t
      · subst e
        refine ⟨fun q y => ?_, fun h3 => ?_, fun p hp hq e2 => ?_⟩
        · unfold ysA at y
          rw [fset_at, fset_at, zan] at y
          exact absurd y.2 (by decide)
        · obtain ⟨p, _, _, e3⟩ := h3
          rw [r0] at e3; exact absurd e3 (by decide)
        · rw [r0] at e2; exact absurd e2 (by decide)
      · have hu : u ≤ s_bg S := by omega
        rw [tle u hu] at hr
        obtain ⟨q1, q2, q3⟩ := o5.2 u h1 hu hr
        have hy : ∀ q, ysA (fset (s_tc S) t c) (fset (s_cl S) c z) u q → ysA (s_tc S) (s_cl S) u q := by
          intro q y
          unfold ysA at *
          rw [cle u hu] at y
          by_cases ec : s_tc S u = c
          · rw [ec, fset_at, zop] at y; omega
          · rw [fset_ne ec] at y; exact y
        refine ⟨fun q y => q1 q (hy q y), fun h3 => ?_, fun p hp hq e2 => ?_⟩
        · obtain ⟨q, e1, e2, e3, e4, e5⟩ := q2 (has3_x (tle u hu).symm (fun _ => rfl) h3)
          refine ⟨q, e1, by rw [tle u hu]; exact e2, e3, fun y => ?_, fun y => e5 (hy q y)⟩
          obtain ⟨M, y1, y2, y3, y4⟩ := y
          rcases snd3_in y1 with r | ⟨p, p1, p2, rfl⟩
          · exact e4 ⟨M, r, y2, y3, y4⟩
          · exact absurd y2 (show ¬ (1 : Int32) = 2 by decide)
        · rw [tle u hu] at hq
          exact dcd_x (tle u hu) (fun _ => rfl) (q3 p hp hq e2)
    · show s_lk S a ≤ t
      have := o6.1 a; omega
    · show s_rm S (s_lk S a) (a / 8) = 1 ∧ ∃ i, i ∈ fset (s_ti S) t its (s_lk S a) ∧ i.2.1 = a
      rw [tle _ (o6.1 a)]
      exact o6.2.1 a ha
    · show (1 ≤ u ∧ u ≤ t) ∧ isRd (fset (s_ti S) t its u) = false ∧ ∀ i, i ∈ fset (s_ti S) t its u → i.2.1 / 8 = p → s_lk S i.2.1 = u ∧ zfits i (s_ce S i.2.1) = true
      obtain ⟨u1, u2, u3⟩ := o6.2.2 u p hu
      rw [tle u u1.2]
      exact ⟨⟨u1.1, by omega⟩, u2, u3⟩
    · show ¬ (s_ce S a).2.1 = 0 ∨ (¬ s_lk S a = 0 ∧ dcd (fset (s_ti S) t its) (s_rm S) (s_lk S a) ∧ ∃ i, i ∈ fset (s_ti S) t its (s_lk S a) ∧ i.2.1 = a ∧ i.1 = 4)
      rw [tle _ (o6.1 a)]
      rcases o7.2.1 a ha with r | ⟨r1, r2, r3⟩
      · exact Or.inl r
      · exact Or.inr ⟨r1, dcd_x (tle _ (o6.1 a)) (fun _ => rfl) r2, r3⟩
    · have hdc : dcd (fset (s_ti S) t its) (s_rm S) u := hdc
      have hr : isRd (fset (s_ti S) t its u) = false := hr
      show iC3 lv nl (fset (s_ti S) t its u)
      have h2 : u ≤ t := h2
      by_cases e : u = t
      · exfalso
        subst e
        have := hdc q0 q0a (by rw [fset_at]; exact q0b)
        rw [r0] at this
        rcases this with e | e <;> exact absurd e (by decide)
      · have hu : u ≤ s_bg S := by omega
        rw [tle u hu] at hr ⊢
        exact o7.2.2 u h1 hu hr (dcd_x (tle u hu).symm (fun _ => rfl) hdc)
    · obtain ⟨v, v1, v2, v3⟩ := o8 a; exact ⟨v, v1, by omega, v3⟩
    · show t ≤ n + 1
      have := o9.1; omega
    · show nIt (fset (s_ti S) t its) t + pnd (fset (s_cl S) c z 0) + pnd (fset (s_cl S) c z 1) ≤ 3 * (n + 1)
      have e1 : nIt (fset (s_ti S) t its) t = nIt (s_ti S) (s_bg S) + its.length := by
        rw [← ht, nIt, ht, fset_at, nIt_x (s_bg S) (fun u _ hu => tle u hu)]
      have pz : pnd z = if sg = 1 then (c_lf w).length else 0 := by
        unfold pnd
        rw [zop, zsg, zlf]
        by_cases q : sg = 1
        · rw [if_pos q, if_pos ⟨by omega, q⟩]
        · rw [if_neg q, if_neg (fun z => q z.2)]
      have := pnd_sum (cl := s_cl S) (z := z) (b := pnd z - pnd (s_cl S c)) hc (by omega)
      have := o9.2
      have hc' : pnd (s_cl S c) ≤ pnd (s_cl S 0) + pnd (s_cl S 1) := by
        have : c = 0 ∨ c = 1 := by omega
        rcases this with rfl | rfl <;> omega
      have : pnd (fset (s_cl S) c z 0) + pnd (fset (s_cl S) c z 1) + pnd (s_cl S c) = pnd (s_cl S 0) + pnd (s_cl S 1) + pnd z := by
        have : c = 0 ∨ c = 1 := by omega
        rcases this with rfl | rfl
        · rw [fset_at, fset_ne (by decide)]; omega
        · rw [fset_at, fset_ne (by decide)]; omega
      rw [e1]
      omega
    · have hu : t < u := hu
      exact o10.2 u p (by omega)
end INVD
