/-! What always holds: an answer is heard. -/
section INVE
variable {lv lv2 : Nat → Nat} {nl nl2 : List Nat} {l a b i f B n w t m p c bg : Nat} {k : Int32} {z z2 : zC} {x : Option (Int32 × zN)} {its : List zI} {sg : Int32} {D : zD} {S : zS} {M : zM}
theorem sev_rd (h : isRd its = true) (o : tI lv nl its) : sev its = false := by
  have e := tRd_rd h o
  unfold sev
  have e01 : ¬ (tp its 0 = true ∧ tp its 1 = true) := fun q => by have := e 0 q.1; have := e 1 q.2; omega
  have e02 : ¬ (tp its 0 = true ∧ tp its 2 = true) := fun q => by have := e 0 q.1; have := e 2 q.2; omega
  have e12 : ¬ (tp its 1 = true ∧ tp its 2 = true) := fun q => by have := e 1 q.1; have := e 2 q.2; omega
  generalize tp its 0 = x0 at *
  generalize tp its 1 = x1 at *
  generalize tp its 2 = x2 at *
  revert e01 e02 e12
  cases x0 <;> cases x1 <;> cases x2 <;> decide
theorem bK_op (b : bK lv nl z) : bK lv nl (c_op_ z t) := bK_of b (c_hi_op _ _) (c_cp_op _ _) (c_st_op _ _) (c_jb_op _ _)
theorem rK_op (b : rK z) : rK (c_op_ z t) := rK_of b (c_st_op _ _) (c_jb_op _ _) (c_fr_op _ _) (c_fu_op _ _)
theorem bK_an {an : Nat → Bool} (b : bK lv nl z) : bK lv nl (c_an_ z an) := bK_of b (c_hi_an _ _) (c_cp_an _ _) (c_st_an _ _) (c_jb_an _ _)
theorem rK_an {an : Nat → Bool} (b : rK z) : rK (c_an_ z an) := rK_of b (c_st_an _ _) (c_jb_an _ _) (c_fr_an _ _) (c_fu_an _ _)
theorem lK_oa {an : Nat → Bool} (b : lK lv nl z) : lK lv nl (c_op_ (c_an_ z an) t) := by
  unfold lK nK at *
  simp only [c_cp_op, c_cp_an, c_jb_op, c_jb_an, c_pa_op, c_pa_an, c_go_op, c_go_an, c_fr_op, c_fr_an, c_lf_op, c_lf_an, c_re_op, c_re_an, c_fo_op, c_fo_an]
  exact b
theorem sK_an {an : Nat → Bool} (b : sK lv nl z its sg) : sK lv nl (c_an_ z an) its sg := by
  unfold sK lK nK at *
  simp only [c_cp_an, c_jb_an, c_pa_an, c_go_an, c_fr_an, c_lf_an, c_re_an, c_fo_an]
  exact ⟨rK_an b.1, b.2⟩
/-- a NO, a YES -/
theorem INV_hear (o : INV lv nl n w S) (hk : k = 2 ∨ k = 3) (hM : iM1 lv nl (s_bg S) (s_ti S) (k, t, m, x)) (hP : iP1 (s_ti S) (s_rm S) (k, t, m, x)) (hY : k = 2 → isRd (s_ti S t) = false → has3 (s_ti S) (s_rm S) t → ∃ q, q < 3 ∧ tp (s_ti S t) q = true ∧ s_rm S t q = 3 ∧ ¬ ysM (s_ms S) t q ∧ ¬ ysA (s_tc S) (s_cl S) t q ∧ ¬ q = m) : INV lv nl (n + 1) w (Zhear k t m x S) := by
  obtain ⟨m1, m2, m3, m4, m5⟩ := hM
  dsimp only at m1 m2 m3 m4 m5
  obtain ⟨p1, p2, p3, p4⟩ := hP
  dsimp only at p1 p2 p3 p4
  have tt := o.2.1 t m2.1 m2.2
  have hc := tt.1
  have oK := o.2.2.2.1 (s_tc S t) hc
  unfold Zhear
  dsimp only
  by_cases e : c_op (s_cl S (s_tc S t)) = t
  · rw [if_neg (fun q => q e)]
    have hne : ¬ c_op (s_cl S (s_tc S t)) = 0 := by rw [e]; omega
    obtain ⟨s1, s2, s3, s4⟩ := oK.2 hne
    rw [e] at s4
    have b := oK.1
    by_cases k3 : k = 3
    · rw [if_pos k3]
      have hs : INV lv nl n w (s_ms_ S (if sev (s_ti S t) then snd3 (fun p => tp (s_ti S t) p && p != m) 5 t (s_ms S) else s_ms S)) := by
        refine INV_ms o (fun M hM => ?_)
        by_cases sv : sev (s_ti S t) = true
        · rw [if_pos sv] at hM
          rcases snd3_in hM with r | ⟨p, q1, q2, rfl⟩
          · exact Or.inl r
          · right
            have nr : isRd (s_ti S t) = false := by
              cases hr : isRd (s_ti S t)
              · rfl
              · rw [sev_rd hr tt.2] at sv; cases sv
            rw [Bool.and_eq_true] at q2
            refine ⟨⟨Or.inr (Or.inr (Or.inr (Or.inr rfl))), m2, ⟨q1, q2.1⟩, fun _ q => absurd q (show ¬ (5 : Int32) = 2 by decide), fun _ => rfl⟩, ⟨fun q => absurd q (show ¬ (5 : Int32) = 3 by decide), fun q => absurd q (show ¬ (5 : Int32) = 2 by decide), fun q => absurd q (show ¬ (5 : Int32) = 4 by decide), fun _ => ?_⟩, fun q => absurd q (show ¬ (5 : Int32) = 2 by decide)⟩
            rcases p1 k3 with r | r
            · rw [nr] at r; cases r
            · exact ⟨m, m3.1, m3.2, r⟩
        · rw [if_neg sv] at hM; exact Or.inl hM
      exact INV_begin hs hc s3 (Dwrong_K (bK_op b) (rK_op s4.1)) (by omega) (by rw [Dwrong_op, c_op_op])
    · rw [if_neg k3]
      have k2 : k = 2 := hk.resolve_right k3
      generalize hC : c_an_ (s_cl S (s_tc S t)) (fset (c_an (s_cl S (s_tc S t))) m true) = C1
      have can : ∀ q, c_an C1 q = true → q = m ∨ c_an (s_cl S (s_tc S t)) q = true := by
        intro q hq
        rw [← hC, c_an_an, fset_eq] at hq
        by_cases r : q = m
        · exact Or.inl r
        · rw [if_neg r] at hq; exact Or.inr hq
      have cop : c_op C1 = t := by rw [← hC, c_op_an]; exact e
      have csg : c_sg C1 = c_sg (s_cl S (s_tc S t)) := by rw [← hC, c_sg_an]
      by_cases all : ((!(tp (s_ti S t) 0) || c_an C1 0) && (!(tp (s_ti S t) 1) || c_an C1 1) && (!(tp (s_ti S t) 2) || c_an C1 2)) = true
      · rw [if_pos all]
        have al : ∀ p, p < 3 → tp (s_ti S t) p = true → c_an C1 p = true := by
          intro p hp hq
          simp only [Bool.and_eq_true, Bool.or_eq_true, Bool.not_eq_true'] at all
          have : p = 0 ∨ p = 1 ∨ p = 2 := by omega
          rcases this with rfl | rfl | rfl
          · exact all.1.1.resolve_left (by rw [hq]; decide)
          · exact all.1.2.resolve_left (by rw [hq]; decide)
          · exact all.2.resolve_left (by rw [hq]; decide)
        have hs : INV lv nl n w (s_ms_ S (if sev (s_ti S t) then snd3 (tp (s_ti S t)) 4 t (s_ms S) else s_ms S)) := by
          refine INV_ms o (fun M hM => ?_)
          by_cases sv : sev (s_ti S t) = true
          · rw [if_pos sv] at hM
            rcases snd3_in hM with r | ⟨p, q1, q2, rfl⟩
            · exact Or.inl r
            · right
              have nr : isRd (s_ti S t) = false := by
                cases hr : isRd (s_ti S t)
                · rfl
                · rw [sev_rd hr tt.2] at sv; cases sv
              refine ⟨⟨Or.inr (Or.inr (Or.inr (Or.inl rfl))), m2, ⟨q1, q2⟩, fun _ q => absurd q (show ¬ (4 : Int32) = 2 by decide), fun _ => rfl⟩, ⟨fun q => absurd q (show ¬ (4 : Int32) = 3 by decide), fun q => absurd q (show ¬ (4 : Int32) = 2 by decide), fun _ => ?_, fun q => absurd q (show ¬ (4 : Int32) = 5 by decide)⟩, fun q => absurd q (show ¬ (4 : Int32) = 2 by decide)⟩
              intro u hu htp
              obtain ⟨y1, y2, y3⟩ := o.2.2.2.2.1.2 t m2.1 m2.2 nr
              have n0 : ¬ s_rm S t u = 0 := by
                rcases can u (al u hu htp) with r | r
                · rw [r]
                  rcases p2 k2 with r2 | r2
                  · rw [nr] at r2; cases r2
                  · exact r2
                · exact y1 u ⟨e, r⟩
              have n3 : ¬ s_rm S t u = 3 := by
                intro r3
                obtain ⟨q, e1, e2, e3, e4, e5, e6⟩ := hY k2 nr ⟨u, hu, htp, r3⟩
                rcases can q (al q e1 e2) with r | r
                · exact e6 r
                · exact e5 ⟨e, r⟩
              rcases o.2.2.2.2.2.2.2.2.2.1 t u with r | r | r | r
              · exact absurd r n0
              · exact Or.inl r
              · exact Or.inr r
              · exact absurd r n3
          · rw [if_neg sv] at hM; exact Or.inl hM
        have dg : dK lv nl (3 + if c_sg (c_op_ C1 0) = 1 then (c_lf (c_op_ C1 0)).length else 0) (Dgo (c_op_ C1 0) x) := by
          refine Dgo_K (bK_op (by rw [← hC]; exact bK_an b)) (rK_op (by rw [← hC]; exact rK_an s4.1)) (fun h1 => ?_)
          rw [c_sg_op, csg] at h1
          rcases s4.2.2 with r | r | r
          · obtain ⟨r1, r2, r3⟩ := r
            refine ⟨by rw [← hC]; exact lK_oa r3, ?_⟩
            obtain ⟨v, v1, v2, v3⟩ := m4 (by rw [r2]; rfl) k2
            rw [r2] at v2
            refine ⟨v, v1, ?_⟩
            rw [c_pa_op, ← hC, c_pa_an]
            exact v2
          · rw [h1] at r; exact absurd r.1 (by decide)
          · rw [h1] at r; exact absurd r.1 (by decide)
        refine INV_begin hs hc s3 dg ?_ (by rw [Dgo_op, c_op_op])
        show _ ≤ 3 + pnd (s_cl S (s_tc S t))
        unfold pnd
        rw [c_sg_op, csg, c_lf_op, ← hC, c_lf_an]
        by_cases g1 : c_sg (s_cl S (s_tc S t)) = 1
        · rw [if_pos g1, if_pos ⟨hne, g1⟩]; exact Nat.le_refl _
        · rw [if_neg g1]; omega
      · rw [if_neg all]
        refine INV_n (Nat.le_succ _) (Nat.le_refl _) ?_
        obtain ⟨o1, o2, o3, o4, o5, o6, o7, o8, o9, o10⟩ := o
        have ysn : ∀ u q, ysA (s_tc S) (fset (s_cl S) (s_tc S t) C1) u q → (u = t ∧ q = m) ∨ ysA (s_tc S) (s_cl S) u q := by
          intro u q y
          unfold ysA at *
          by_cases ec : s_tc S u = s_tc S t
          · rw [ec, fset_at, cop] at y
            rcases can q y.2 with r | r
            · exact Or.inl ⟨y.1.symm, r⟩
            · exact Or.inr (by rw [ec]; exact ⟨by rw [e]; exact y.1, r⟩)
          · rw [fset_ne ec] at y; exact Or.inr y
        refine ⟨o1, o2, o3, fun d hd => ?_, ⟨o5.1, fun u h1 h2 hr => ?_⟩, o6, o7, o8, ⟨o9.1, ?_⟩, o10⟩
        · show iK lv nl (s_dn S) (s_bg S) (s_tc S) (s_ti S) d (fset (s_cl S) (s_tc S t) C1 d)
          by_cases ed : d = s_tc S t
          · rw [ed, fset_at]
            refine ⟨by rw [← hC]; exact bK_an b, fun _ => ?_⟩
            rw [cop, csg]
            exact ⟨m2.2, rfl, s3, by rw [← hC]; exact sK_an s4⟩
          · rw [fset_ne ed]; exact o4 d hd
        · have hr : isRd (s_ti S u) = false := hr
          show iP2 (s_ti S) (s_rm S) (s_ms S) (s_tc S) (fset (s_cl S) (s_tc S t) C1) u
          obtain ⟨y1, y2, y3⟩ := o5.2 u h1 h2 hr
          refine ⟨fun q y => ?_, fun h3 => ?_, y3⟩
          · rcases ysn u q y with ⟨r1, r2⟩ | r
            · rw [r1, r2]
              rw [r1] at hr
              rcases p2 k2 with r2 | r2
              · rw [hr] at r2; cases r2
              · exact r2
            · exact y1 q r
          · by_cases eu : u = t
            · subst eu
              obtain ⟨q, e1, e2, e3, e4, e5, e6⟩ := hY k2 hr h3
              refine ⟨q, e1, e2, e3, e4, fun y => ?_⟩
              rcases ysn u q y with ⟨r1, r2⟩ | r
              · exact e6 r2
              · exact e5 r
            · obtain ⟨q, e1, e2, e3, e4, e5⟩ := y2 h3
              refine ⟨q, e1, e2, e3, e4, fun y => ?_⟩
              rcases ysn u q y with ⟨r1, r2⟩ | r
              · exact eu r1
              · exact e5 r
        · show nIt (s_ti S) (s_bg S) + pnd (fset (s_cl S) (s_tc S t) C1 0) + pnd (fset (s_cl S) (s_tc S t) C1 1) ≤ 3 * n
          have pe : pnd C1 = pnd (s_cl S (s_tc S t)) := by
            unfold pnd
            rw [cop, csg, e, ← hC, c_lf_an]
          have := pnd_sum (cl := s_cl S) (z := C1) (b := 0) hc (by omega)
          have := o9.2
          omega
  · rw [if_pos e]; exact INV_n (Nat.le_succ _) (Nat.le_refl _) o
end INVE
