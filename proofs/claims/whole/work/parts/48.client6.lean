/-! A client's walk. -/
theorem i_self {q : Int32} (h : 0 ≤ q) : q = Int32.ofNat q.toNatClampNeg := by
  apply Int32.toInt_inj.mp
  rw [Int32.le_iff_toInt_le] at h
  have h0 : (0 : Int32).toInt = 0 := rfl
  have e : (q.toNatClampNeg : Int) = q.toInt := by show (q.toInt.toNat : Int) = _; omega
  have : q.toInt < 2147483648 := Int32.toInt_lt q
  rw [i_toInt (by omega), e]
theorem zgetD_mem {l : List Int32} {i : Nat} (h : i < l.length) : l.getD i 0 ∈ l := by
  rw [List.getD_eq_getElem?_getD, List.getElem?_eq_getElem h]; exact List.getElem_mem h
theorem zchild_mem {N : zN} {k : Int32} (w : wfI N) : zchild N k ∈ N.2.2.2.2 := zgetD_mem (by have := zcng_le (k := k) (l := N.2.2.2.1); have := w.2.1; omega)
def isJ (j : Int32) : Prop := j = 1 ∨ j = 2 ∨ j = 3 ∨ j = 4
theorem isJ_ne {j : Int32} (h : isJ j) : ¬ j = 0 := by rcases h with h | h | h | h <;> rw [h] <;> decide
theorem ok_cq {h : xv_H} {p q : Nat} : cq (some (xv_SB + 2 + (p + 1))) (some (xv_SB + 3 + q)) h = some ((), h) := by
  unfold cq
  rw [if_pos]
  unfold xv_cok
  exact decide_eq_true (Or.inr (Or.inr (Or.inr ⟨by omega, by omega⟩)))
theorem ok_cqV {h : xv_H} {p q : Nat} (hp : 3 ≤ p) (hq : 3 ≤ q) : cq (some (xv_SB + p)) (some (xv_SB + q)) h = some ((), h) := by
  unfold cq
  rw [if_pos]
  unfold xv_cok
  exact decide_eq_true (Or.inr (Or.inr (Or.inr ⟨by omega, by omega⟩)))
theorem ok_cqJ {h : xv_H} {j : Int32} {q : Nat} (hj : isJ j) (hq : 3 ≤ q) : cq (some (xv_SB + 2 + j.toNatClampNeg)) (some (xv_SB + q)) h = some ((), h) := by
  rw [Nat.add_assoc]
  exact ok_cqV (by rcases hj with rfl | rfl | rfl | rfl <;> decide) hq
theorem k1_ : (some (xv_SB + 7) : Option Nat) = some (xv_SB + 6 + (1 : Int32).toNatClampNeg) := by decide
theorem J_eq {j : Int32} {k : Nat} (hj : isJ j) (hk : 1 ≤ k ∧ k ≤ 4) : (some (xv_SB + 2 + j.toNatClampNeg) = some (xv_SB + (k + 2))) ↔ j = Int32.ofNat k := by
  have hk' : k = 1 ∨ k = 2 ∨ k = 3 ∨ k = 4 := by omega
  rcases hj with rfl | rfl | rfl | rfl <;> rcases hk' with rfl | rfl | rfl | rfl <;> decide
section CL6
variable {h h0 h1 h2 : xv_H} {B c F f x K K2 x0 n : Nat} {z : zC} {e s a d w : Option Nat} {T : Option Nat × Option Nat × Option Nat × Option Nat} {y : Int32} {v u : Int32 × zN} {its : List zI} {i : zI} {an : Nat → Bool} {t : Nat}
theorem c_pa_pa2 (z : zC) (p q : List Nat) : c_pa_ (c_pa_ z p) q = c_pa_ z q := (rfl)
theorem c_pa_id (z : zC) : c_pa_ z (c_pa z) = z := (rfl)
/-- the end of a walk -/
def wEnd (h h' : xv_H) (B c : Nat) (z : zC) (e s a : Option Nat) (r : List Nat × Option (Int32 × zN)) : Prop :=
  ext 5 (XfC B) (XaC B) h h' ∧ ((∃ v x0, r.2 = some v ∧ okCell h' x0 v ∧ cs h' B c (c_pa_ z r.1) (some x0, some (xv_SB + 18), a, none)) ∨ (r.2 = none ∧ r.1.length < 24 ∧ ∃ a' d', cs h' B c (c_pa_ z r.1) (e, s, a', d') ∧ dft h h' c a' d' (some ([(1, zlast r.1, 0, z0N)], 1))) ∨ (r.2 = none ∧ ¬ r.1.length < 24 ∧ cs h' B c (c_st_ (c_pa_ z r.1) 4) (e, some (xv_SB + 11), a, none)))
theorem wEnd_tr {r : List Nat × Option (Int32 × zN)} (E : ext 0 (XfC B) (XaC B) h h1) (o : wEnd h1 h2 B c z e s a r) : wEnd h h2 B c z e s a r := by
  obtain ⟨E2, o⟩ := o
  refine ⟨ext_trans (k1 := 0) (k2 := 5) E E2, ?_⟩
  rcases o with o | o | o
  · exact Or.inl o
  · obtain ⟨q1, q2, a', d', q3, x, x1, x2, x3⟩ := o
    exact Or.inr (Or.inl ⟨q1, q2, a', d', q3, x, x1, Nat.le_trans E.1.1 x2, x3⟩)
  · exact Or.inr (Or.inr o)
theorem c36_loop (hB : isB B) (hF : 1000 ≤ F) (hj : isJ (c_jb z)) (hcp : ∀ p q, c_cp z p = some q → wfI q.2) : ∀ (f : Nat) (p : List Nat) (h : xv_H), 24 - p.length < f → hb 60 h → cs h B c (c_pa_ z p) (e, s, a, none) → tot (b36_0 F f (some B)) h (fun _ h' => wEnd h h' B c z e s a (zw (c_cp z) (c_jb z == 2) (c_go z) (24 - p.length) p)) := by
  intro f
  induction f with
  | zero => intro p h hf; omega
  | succ f ih =>
    intro p h hf g o
    obtain ⟨q1, q2, q3, q5, q4⟩ := o.1.2.2.1
    have hlast := zlast_lt o.1.2.2.1
    rw [c_pa_pa] at q1 q2 q3 q4 q5 hlast
    unfold b36_0
    rw [nn_some, mb_mr]
    refine tot_bind (cs_104 o) (tot_bind (cs_103 o) ?_)
    rw [nn_some, mb_mr]
    refine tot_bind (ok_lenV (cs_lP o).1 (cs_lP o).2) ?_
    rw [c_pa_pa]
    by_cases hc : p.length < 24
    · rw [if_neg (fun q => by rw [i_le (by omega) (by omega)] at q; omega)]
      have hz : 24 - p.length = (24 - (p.length + 1)) + 1 := by omega
      unfold b36_12
      rw [nn_some, mb_mr]
      have e19 := c19_eq (F := F) o
      rw [c_pa_pa] at e19
      refine tot_bind (cs_101 o) (tot_bind (ok_vc (cs_lB o)) (tot_bind e19 ?_))
      rw [nn_some, mb_mr]
      refine tot_bind (ok_lr (cs_lC o).1 (i_nn (by omega)) (by rw [i_nat (by omega), (cs_lC o).2]; exact hlast)) ?_
      rw [i_nat (by omega)]
      have okp := o.1.2.2.2.2 _ hlast
      rw [c_cp_pa] at okp
      cases hcp' : c_cp z (zlast p) with
      | none =>
        rw [hcp'] at okp
        have okp : Her h (B + 1) (zlast p) = none := okp
        have hw : zw (c_cp z) (c_jb z == 2) (c_go z) (24 - p.length) p = (p, none) := by rw [hz, zw, hcp']
        rw [okp, if_neg (fun q => q rfl), hw]
        unfold b36_26
        rw [nn_some, mb_mr]
        refine tot_bind (ok_vc (cs_lB o)) ?_
        refine tot_mb (c23_tot hB (hb_le g (by decide)) o) (fun r h1 q => ?_)
        obtain ⟨x, rfl, hx, E1, c1, t1, n1⟩ := q
        have e19' := c19_eq (F := F) c1
        rw [c_pa_pa] at e19'
        refine tot_bind (ok_vc (cs_lB c1)) (tot_bind e19' ?_)
        rw [nn_some, mb_mr]
        refine tot_bind (ok_vc t1.1.1) ?_
        refine tot_mb (c25_cs (i := (1, zlast p, 0, z0N)) E1 hx (cs_lt o) c1 t1 n1 (by decide) hlast k1_ (fun q => by rcases q with q | q; exact absurd (show (1 : Int32) = 3 from q) (by decide); exact absurd (show (1 : Int32) = 4 from q) (by decide)) (hb_le g (by decide))) (fun _ h2 q => ?_)
        obtain ⟨E2, c2, t2, n2⟩ := q
        exact tot_mr ⟨E2, Or.inr (Or.inl ⟨rfl, hc, _, _, c2, x, rfl, hx, rfl, t2, n2⟩)⟩
      | some u =>
        rw [hcp'] at okp
        obtain ⟨px, okp, ou⟩ := okp
        have wf := hcp _ _ hcp'
        obtain ⟨w1, w2, w3, w4, w5⟩ := id wf
        obtain ⟨pn, u1, u2, u3, u4⟩ := cell_d ou
        rw [okp, if_pos (fun q => by cases q)]
        have hmem := zchild_mem (k := c_go z) wf
        have hch := w5 _ hmem
        have STEP : zw (c_cp z) (c_jb z == 2) (c_go z) (24 - p.length) p = zw (c_cp z) (c_jb z == 2) (c_go z) (24 - (p.length + 1)) (p ++ [(zchild u.2 (c_go z)).toNatClampNeg]) → tot (b36_82 (b36_0 F f) F (some B) (some px)) h (fun _ h' => wEnd h h' B c z e s a (zw (c_cp z) (c_jb z == 2) (c_go z) (24 - p.length) p)) := by
          intro hw
          rw [hw]
          unfold b36_82
          rw [nn_some, mb_mr]
          refine tot_bind (cs_103 o) (tot_bind (cs_104 o) ?_)
          rw [nn_some, mb_mr]
          refine tot_bind u1 (tot_bind (cs_105 o) ?_)
          rw [nn_some, mb_mr, c_go_pa, c_pa_pa]
          refine tot_bind u4 (tot_bind (c37_eq u3 (by omega) w2 (by omega) hF) ?_)
          rw [nn_some, mb_mr]
          refine tot_bind (ok_si (cs_lP o).1 (i_nn (by omega)) (by rw [i_nat (by omega), (cs_lP o).2]; exact hc)) ?_
          rw [i_nat (by omega)]
          generalize e1 : Uei h (B + 5) p.length (zchild u.2 (c_go z)) = h1
          have E1 : ext 0 Xf0 (fun a => a = B + 5) h h1 := by rw [← e1]; exact ext_ei rfl
          have g4 := gi_ext E1 (fun q => q) (cs_104 o)
          rw [c_pa_pa] at g4
          refine tot_bind g4 (tot_bind (ok_pi (lv_ext E1 (cs_lB o))) ?_)
          rw [i_add1]
          have o2 := cs_paS (x := (zchild u.2 (c_go z)).toNatClampNeg) hB hch.2 (by rw [c_pa_pa]; exact hc) o
          rw [c_pa_pa, c_pa_pa2, ← i_self hch.1, e1] at o2
          generalize e2 : Ufi h1 104 B (Int32.ofNat (p.length + 1)) = h2 at *
          have E2 : ext 0 (XfC B) (XaC B) h h2 := by
            rw [← e2, ← e1]
            exact ext_fiS (ext_ei (Or.inr (Or.inr (Or.inr rfl)))) (Or.inl (Or.inl ⟨rfl, by decide⟩))
          have hlen : (p ++ [(zchild u.2 (c_go z)).toNatClampNeg]).length = p.length + 1 := by rw [List.length_append]; rfl
          have IH := ih (p ++ [(zchild u.2 (c_go z)).toNatClampNeg]) h2 (by omega) (hb_ext (K := 0) E2 (by simpa using g)) o2
          rw [hlen] at IH
          exact tot_mono IH (fun _ h' q => wEnd_tr E2 q)
        unfold b36_46
        rw [nn_some, mb_mr]
        refine tot_bind (cs_102 o) ?_
        rw [nn_some, mb_mr]
        have j3 := cs_203 o (by rw [c_jb_pa]; exact isJ_ne hj)
        rw [c_jb_pa] at j3
        refine tot_bind j3 (tot_bind (ok_cqJ hj (by decide)) ?_)
        have jj : (some (xv_SB + 2 + (c_jb z).toNatClampNeg) = some (xv_SB + 4)) ↔ c_jb z = 2 := J_eq (k := 2) hj (by decide)
        refine tot_if (fun q => STEP ?_) (fun q => ?_)
        · have q : ¬ c_jb z = 2 := fun r => q (jj.mpr r)
          have qb : (c_jb z == 2) = false := by simpa using q
          rw [qb, hz, zw, hcp']
          rfl
        · have q : c_jb z = 2 := jj.mp (Classical.not_not.mp q)
          have qb : (c_jb z == 2) = true := by simpa using q
          unfold b36_59
          rw [nn_some, mb_mr]
          refine tot_bind u1 ?_
          rw [nn_some, mb_mr]
          refine tot_bind u4 (tot_bind (c29_eq u3 (by omega)) ?_)
          by_cases h3 : u.2.2.2.2.1.length < 3
          · rw [if_pos h3, if_pos rfl]
            refine STEP ?_
            rw [qb, hz, zw, hcp']
            have : decide (3 ≤ u.2.2.2.2.1.length) = false := by simp; omega
            simp only [Bool.true_and, this, Bool.false_eq_true, if_false]
          · rw [if_neg h3, if_neg (by decide)]
            have hw : zw (c_cp z) (c_jb z == 2) (c_go z) (24 - p.length) p = (p, some u) := by
              rw [qb, hz, zw, hcp']
              have : decide (3 ≤ u.2.2.2.2.1.length) = true := by simp; omega
              simp only [Bool.true_and, this, if_true]
            rw [hw]
            unfold b36_69
            rw [nn_some, mb_mr]
            refine tot_bind (ok_pr (cs_lB o)) ?_
            have o1 := cs_end hB (some px) o
            refine tot_bind (ok_pr (cs_lB o1)) ?_
            have o2 := cs_step hB (some (xv_SB + 18)) o1
            have E2 : ext 0 (XfC B) (XaC B) h (Ufr (Ufr h 106 B (some px)) 109 B (some (xv_SB + 18))) := ext_frS (ext_fr (Or.inl ⟨rfl, by decide⟩)) (Or.inl (Or.inl ⟨rfl, by decide⟩))
            exact tot_mr ⟨ext_le E2 (by decide), Or.inl ⟨u, px, rfl, okCell_c E2 (calmC hB) ou, o2⟩⟩
    · have hw : zw (c_cp z) (c_jb z == 2) (c_go z) (24 - p.length) p = (p, none) := by rw [show 24 - p.length = 0 by omega, zw]
      rw [if_pos ((i_le (by omega) (by omega)).mpr (by omega)), hw]
      unfold b36_115
      rw [nn_some, mb_mr]
      refine tot_bind (ok_vc (cs_lB o)) ?_
      exact tot_mb (c18_tot hB o) (fun _ h2 r => tot_mr ⟨ext_le r.1 (by decide), Or.inr (Or.inr ⟨rfl, hc, r.2⟩)⟩)
theorem c36_tot (hB : isB B) (hF : 1000 ≤ F) (hj : isJ (c_jb z)) (hcp : ∀ p q, c_cp z p = some q → wfI q.2) (g : hb 60 h) (o : cs h B c z (e, s, a, none)) : tot (m36 F B) h (fun _ h' => wEnd h h' B c z e s a (zw (c_cp z) (c_jb z == 2) (c_go z) (24 - (c_pa z).length) (c_pa z))) :=
  c36_loop hB hF hj hcp F (c_pa z) h (by omega) g (by rw [c_pa_id]; exact o)
end CL6
