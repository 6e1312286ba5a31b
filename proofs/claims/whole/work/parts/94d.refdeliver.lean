/-! The reference: deliver. -/
section RDEL
variable {h h0 h1 : xv_H} {F j x p q v s a b c d n L t m : Nat} {S : zS} {P : List zI} {D : zD} {z : zC} {i : Int32}
theorem RX_any (hc : c < 2) (hd : d < 2) (o : RX h S n P c (lev (s_cl S c))) : RX h S n P d (lev (s_cl S d)) := by
  obtain ⟨q1, q2, q3, q4, q5, q6, q7, q8, q9⟩ := o
  have all : ∀ e, e < 2 → rC h e (s_cl S e) (lev (s_cl S e)) := by
    intro e he
    by_cases z : e = c
    · rw [z]; exact q8
    · exact q9 e he z
  exact ⟨q1, q2, q3, q4, q5, q6, q7, all d hd, fun e he _ => all e he⟩
theorem nIt_ag {ti ti2 : Nat → List zI} : ∀ b, (∀ t, 1 ≤ t → t ≤ b → ti2 t = ti t) → nIt ti2 b = nIt ti b := by
  intro b
  induction b with
  | zero => intro _; rfl
  | succ b ih => intro e; rw [nIt, nIt, ih (fun t t1 t2 => e t t1 (by omega)), e (b + 1) (by omega) (Nat.le_refl _)]
theorem nIt_begin : nIt (s_ti (Zbegin S c D)) (s_bg (Zbegin S c D)) = nIt (s_ti S) (s_bg S) + dlen D := by
  obtain ⟨z, D2⟩ := D
  cases D2 with
  | none => rfl
  | some r =>
    obtain ⟨its, sg⟩ := r
    show nIt (fset (s_ti S) (s_bg S + 1) its) (s_bg S + 1) = nIt (s_ti S) (s_bg S) + its.length
    rw [nIt, nIt_ag (s_bg S) (fun t t1 t2 => by rw [fset_eq, if_neg (by omega)]), fset_eq, if_pos rfl]
theorem lev_begin (hc : c < 2) : lev (s_cl (Zbegin S c D) c) = lev D.1 := by
  obtain ⟨z, D2⟩ := D
  cases D2 with
  | none =>
    show lev (fset (s_cl S) c z c) = lev z
    rw [fset_eq, if_pos rfl]
  | some r =>
    obtain ⟨its, sg⟩ := r
    show lev (fset (s_cl S) c (c_sg_ (c_an_ (c_op_ z (s_bg S + 1)) (fun _ => false)) sg) c) = lev z
    rw [fset_eq, if_pos rfl]
    unfold lev
    rw [c_st_sg, c_st_an, c_st_op]
theorem RR_EN (hc : c < 2) (o : EN h S c D (nIt (s_ti S) (s_bg S))) : RR h (Zbegin S c D) := by
  unfold RR
  rw [nIt_begin]
  refine RX_any (c := c) hc (by decide) ?_
  rw [lev_begin hc]
  exact o
theorem RR_c (hc : c < 2) (o : RR h S) : RX h S (nIt (s_ti S) (s_bg S)) [] c (lev (s_cl S c)) := RX_any (by decide) hc o
/-- what the reference asks for a message to be delivered -/
def delOK (S : zS) (M : zM) : Prop := (M.1 = 1 ∨ M.1 = 2 ∨ M.1 = 3 ∨ M.1 = 4 ∨ M.1 = 5) ∧ txOK S M.2.1 ∧ M.2.2.1 < 3 ∧ s_tc S M.2.1 < 2 ∧ (M.1 = 2 ∨ M.1 = 3 → c_op (s_cl S (s_tc S M.2.1)) = M.2.1 → s_dn S (3 + s_tc S M.2.1) = false ∧ c_st (s_cl S (s_tc S M.2.1)) = 1 ∧ runOK (s_cl S (s_tc S M.2.1)) ∧ (M.1 = 3 → tp (s_ti S M.2.1) M.2.2.1 = true) ∧ (M.1 = 2 → goOK (s_cl S (s_tc S M.2.1)) M.2.2.2))
def wR (S : zS) : Prop := tisOK S ∧ lkInv S ∧ (∀ a, s_lk S a < 1000) ∧ rmOK S ∧ (∀ j, j < (s_ms S).length → delOK S ((s_ms S).getD j zm0)) ∧ nIt (s_ti S) (s_bg S) + 6 ≤ 1600 ∧ ∀ c, c < 2 → c_op (s_cl S c) ≤ s_bg S
theorem st1_lev (e : c_st z = 1) : lev z = 3 := by unfold lev; rw [e]; rfl
theorem r129_tot (hF : 1000 ≤ F) (o : RR h S) (w : wR S) (hbg : s_bg S < 512) : tot (m129 F 37 i) h (fun r h' => r = (Xdeliver i S).1 ∧ agR h h' ∧ RR h' (Xdeliver i S).2) := by
  have rf := o.1
  obtain ⟨tk, lki, hl, rk, dl, hn, hopb⟩ := id w
  have h40 := o.2.2.2.2.2.2.1.2.1
  unfold Xdeliver m129 b129_0
  rw [nn_some, mb_mr]
  refine tot_bind (g915 rf) (tot_bind r127_eq ?_)
  rw [o.2.2.2.2.2.2.1.1]
  by_cases q : 0 ≤ i ∧ i < Int32.ofNat (s_ms S).length
  · rw [if_pos q]
    obtain ⟨hj, ei⟩ := i_nat_lt (n := (s_ms S).length) (by omega) q
    generalize i.toNatClampNeg = j at *
    subst ei
    have e1 : Int32.ofNat (s_ms S).length - 1 = Int32.ofNat ((s_ms S).length - 1) := i_sub1 (by omega) (by omega)
    have : (0 : Int32) ≤ Int32.ofNat j ∧ Int32.ofNat j ≤ Int32.ofNat (s_ms S).length - 1 := ⟨i_nn (by omega), by rw [e1, i_le (by omega) (by omega)]; omega⟩
    rw [decide_eq_true this, if_pos (by decide)]
    obtain ⟨k15, tx, m3, c2, hear⟩ := dl j hj
    have om := o.2.2.2.2.2.2.1.2.2 j hj
    unfold Zdeliver
    rw [getD_some hj]
    generalize (s_ms S).getD j zm0 = M at *
    obtain ⟨k, t, m, so⟩ := M
    dsimp only at *
    obtain ⟨m1, m2, m3', m4⟩ := om
    dsimp only at m1 m2 m3' m4
    obtain ⟨t1, t2, t3, t4, t5⟩ := id tx
    unfold b129_16
    rw [nn_some, mb_mr]
    refine tot_bind (g916 rf) ?_
    rw [nn_some, mb_mr]
    refine tot_bind (l51 rf (by omega)) (tot_bind (g917 rf) ?_)
    rw [nn_some, mb_mr]
    refine tot_bind (l52 rf (by omega)) (tot_bind (g918 rf) ?_)
    rw [nn_some, mb_mr]
    refine tot_bind (l53 rf (by omega)) (tot_bind (g919 rf) ?_)
    rw [nn_some, mb_mr]
    refine tot_bind (l54 rf (by omega)) (tot_bind (g920 rf) ?_)
    rw [nn_some, mb_mr]
    refine tot_bind (l55 rf (by omega)) (tot_bind (g921 rf) ?_)
    rw [nn_some, mb_mr, ix30]
    refine tot_bind (l56 rf (by omega)) (tot_bind (g921 rf) ?_)
    rw [nn_some, mb_mr, i_add1]
    refine tot_bind (l56 rf (by omega)) (tot_bind (g921 rf) ?_)
    rw [nn_some, mb_mr, show Int32.ofNat (3 * j) + (2 : Int32) = Int32.ofNat (3 * j + 2) from i_add (b := 2)]
    refine tot_bind (l56 rf (by omega)) (tot_bind (rF_vc rf) (tot_mb (r128_in hF o hj) (fun r h1 q1 => ?_)))
    obtain ⟨_, e1', o1⟩ := q1
    rw [m1, m2, m3']
    have hso : ∀ v, so = some v → Hei h 54 j = v.1 ∧ decN (Hel h 55 j) (Hei h 56 (3 * j)) (Hei h 56 (3 * j + 1)) (Hei h 56 (3 * j + 2)) v.2 := m4
    generalize Hei h 54 j = ver at *
    generalize Hel h 55 j = nd at *
    generalize Hei h 56 (3 * j) = va at *
    generalize Hei h 56 (3 * j + 1) = vb at *
    generalize Hei h 56 (3 * j + 2) = vd at *
    generalize hS1 : s_ms_ S ((s_ms S).eraseIdx j) = S1 at *
    have o1R : RR h1 S1 := by
      rw [← hS1] at o1 ⊢
      exact o1
    have rf1 := o1R.1
    have tx1 : txOK S1 t := by rw [← hS1]; exact tx
    have hn1 : nIt (s_ti S1) (s_bg S1) + 6 ≤ 1600 := by rw [← hS1]; exact hn
    have hcl : s_cl S1 = s_cl S := by rw [← hS1]; rfl
    have htc : s_tc S1 = s_tc S := by rw [← hS1]; rfl
    have hti : s_ti S1 = s_ti S := by rw [← hS1]; rfl
    have hrm : s_rm S1 = s_rm S := by rw [← hS1]; rfl
    have hdn : s_dn S1 = s_dn S := by rw [← hS1]; rfl
    have hbg1 : s_bg S1 < 512 := by rw [← hS1]; exact hbg
    refine tot_bind (g905 rf1) ?_
    rw [nn_some, mb_mr]
    refine tot_bind (l42 rf1 (by omega)) ?_
    have e42 : Hei h1 42 t = Int32.ofNat (s_tc S t) := by
      have := (o1R.2.2.2.1.2 t t1 tx1.2.1).1
      rw [htc] at this; exact this
    rw [e42]
    have d38 : ∀ p, p < 5 → lb 38 (Int32.ofNat p) h1 = some (b2i (s_dn S p), h1) := by
      intro p hp
      rw [l38 rf1 hp, o1R.2.1 p hp, hdn]
    -- ways through
    have fin : ∀ (h2 : xv_H) (S2 : zS), agR h h2 → RR h2 S2 → tot (b129_270 F) h2 (fun r h' => r = 1 ∧ agR h h' ∧ RR h' S2) := by
      intro h2 S2 e2 o2
      unfold b129_270
      exact tot_bind bz_1 (tot_mr ⟨rfl, e2, o2⟩)
    have w203 : ∀ (h2 : xv_H) (S2 : zS), ¬ k = 2 → ¬ k = 3 → agR h h2 → RR h2 S2 → tot (b129_203 F (some 37) k (Int32.ofNat t) (Int32.ofNat m) ver nd va vb vd (Int32.ofNat (s_tc S t))) h2 (fun r h' => r = 1 ∧ agR h h' ∧ RR h' S2) := by
      intro h2 S2 n2 n3 e2 o2
      unfold b129_203
      rw [if_neg n2]
      unfold b129_208
      rw [if_pos n3]
      exact fin h2 S2 e2 o2
    have w161 : ∀ (h2 : xv_H) (S2 : zS), ¬ k = 2 → ¬ k = 3 → ¬ k = 5 → agR h h2 → RR h2 S2 → tot (b129_161 F (some 37) k (Int32.ofNat t) (Int32.ofNat m) ver nd va vb vd (Int32.ofNat (s_tc S t))) h2 (fun r h' => r = 1 ∧ agR h h' ∧ RR h' S2) := by
      intro h2 S2 n2 n3 n5 e2 o2
      unfold b129_161
      rw [if_pos n5]
      exact w203 h2 S2 n2 n3 e2 o2
    have w124 : ∀ (h2 : xv_H) (S2 : zS), ¬ k = 2 → ¬ k = 3 → ¬ k = 4 → ¬ k = 5 → agR h h2 → RR h2 S2 → tot (b129_124 F (some 37) k (Int32.ofNat t) (Int32.ofNat m) ver nd va vb vd (Int32.ofNat (s_tc S t))) h2 (fun r h' => r = 1 ∧ agR h h' ∧ RR h' S2) := by
      intro h2 S2 n2 n3 n4 n5 e2 o2
      unfold b129_124
      rw [if_pos n4]
      exact w161 h2 S2 n2 n3 n5 e2 o2
    have hearing : (k = 2 ∨ k = 3) → tot (b129_213 F (some 37) k (Int32.ofNat t) (Int32.ofNat m) ver nd va vb vd (Int32.ofNat (s_tc S t))) h1 (fun r h' => r = 1 ∧ agR h h' ∧ RR h' (Zhear k t m so S1)) := by
      intro k23
      have hr := hear k23
      unfold Zhear
      dsimp only
      rw [htc, hcl, hti]
      generalize hcc : s_tc S t = c at *
      have oc := RR_c c2 o1R
      have e69 : Hei h1 69 c = Int32.ofNat (c_op (s_cl S c)) := by
        have := rv_at oc.2.2.2.2.2.2.2.1 (A := 69) (x := Int32.ofNat (c_op (s_cl S1 c))) (by unfold rv; simp)
        rw [hcl] at this; exact this
      have hopc := hopb c c2
      unfold b129_213
      rw [nn_some, mb_mr]
      refine tot_bind (g900 rf1) ?_
      rw [nn_some, mb_mr, show (3 : Int32) + Int32.ofNat c = Int32.ofNat (3 + c) from i_add (a := 3)]
      refine tot_bind (d38 (3 + c) (by omega)) ?_
      by_cases hop : c_op (s_cl S c) = t
      · obtain ⟨y1, y2, y3, y4, y5⟩ := hr hop
        rw [y1, if_neg (by decide), if_neg (fun z => z hop)]
        have oc3 : RX h1 S1 (nIt (s_ti S1) (s_bg S1)) [] c 3 := by
          rw [hcl, st1_lev y2] at oc; exact oc
        unfold b129_225
        rw [nn_some, mb_mr]
        refine tot_bind (g934 rf1) ?_
        rw [nn_some, mb_mr]
        refine tot_bind (l69 rf1 c2) ?_
        rw [e69, hop, if_neg (fun z => z rfl)]
        unfold b129_236
        by_cases k3 : k = 3
        · rw [if_neg (fun z => z k3), if_pos k3]
          unfold b129_241
          rw [nn_some, mb_mr]
          have t138 := r138_tot (F := F) hF c2 m3 tx1 (by rw [hcl]; exact hop) (by rw [hti]; exact y4 k3) (by omega) hbg1 oc3 (by rw [hcl]; exact y3)
          rw [hcl, hti] at t138
          refine tot_bind (rF_vc rf1) (tot_mb t138 (fun _ h2 q2 => ?_))
          refine fin h2 _ (agR_trans e1' q2.1) ?_
          exact RR_EN c2 (by rw [s_ti_ms, s_bg_ms, hti]; exact q2.2)
        · rw [if_pos k3, if_neg k3]
          have k2 : k = 2 := by rcases k23 with z | z; exact z; exact absurd z k3
          unfold b129_252
          rw [nn_some, mb_mr]
          have t162 := r162_tot (F := F) (so := so) (ver := ver) (nd := nd) (va := va) (vb := vb) (vd := vd) hF c2 m3 tx1 (by rw [hcl]; exact hop) (by omega) hbg1 oc3 hso (by rw [hcl]; exact y5 k2)
          rw [hcl, hti] at t162
          refine tot_bind (rF_vc rf1) (tot_mb t162 (fun _ h2 q2 => ?_))
          refine fin h2 _ (agR_trans e1' q2.1) ?_
          have q3 := q2.2
          rw [c_an_an]
          by_cases hall : ((!(tp (s_ti S t) 0) || fset (c_an (s_cl S c)) m true 0) && (!(tp (s_ti S t) 1) || fset (c_an (s_cl S c)) m true 1) && (!(tp (s_ti S t) 2) || fset (c_an (s_cl S c)) m true 2)) = true
          · rw [if_pos hall] at q3 ⊢
            exact RR_EN c2 (by rw [s_ti_ms, s_bg_ms, hti]; exact q3)
          · rw [if_neg hall] at q3 ⊢
            have ecl : s_cl (s_cl_ S1 (fset (s_cl S) c (c_an_ (s_cl S c) (fset (c_an (s_cl S c)) m true)))) c = c_an_ (s_cl S c) (fset (c_an (s_cl S c)) m true) := by rw [s_cl_cl, fset_eq, if_pos rfl]
            have : RX h2 (s_cl_ S1 (fset (s_cl S) c (c_an_ (s_cl S c) (fset (c_an (s_cl S c)) m true)))) (nIt (s_ti S) (s_bg S1)) [] c (lev (s_cl (s_cl_ S1 (fset (s_cl S) c (c_an_ (s_cl S c) (fset (c_an (s_cl S c)) m true)))) c)) := RX_le lev_le q3
            unfold RR
            rw [s_ti_cl, s_bg_cl, hti]
            exact RX_any c2 (by decide) this
      · rw [if_pos hop]
        cases hd : s_dn S (3 + c)
        · rw [if_neg (by decide)]
          unfold b129_225
          rw [nn_some, mb_mr]
          refine tot_bind (g934 rf1) ?_
          rw [nn_some, mb_mr]
          refine tot_bind (l69 rf1 c2) ?_
          rw [e69, if_pos (ofNat_ne (by omega) (by omega) hop)]
          exact fin h1 S1 e1' o1R
        · rw [if_pos (by decide)]
          exact fin h1 S1 e1' o1R
    by_cases k2 : k = 2
    · rw [if_pos (show ¬ k = 1 by rw [k2]; decide), if_pos (show k = 2 ∨ k = 3 from Or.inl k2)]
      unfold b129_124
      rw [if_pos (by rw [k2]; decide)]
      unfold b129_161
      rw [if_pos (by rw [k2]; decide)]
      unfold b129_203
      rw [if_pos k2]
      exact hearing (Or.inl k2)
    · by_cases k3 : k = 3
      · rw [if_pos (show ¬ k = 1 by rw [k3]; decide), if_pos (show k = 2 ∨ k = 3 from Or.inr k3)]
        unfold b129_124
        rw [if_pos (by rw [k3]; decide)]
        unfold b129_161
        rw [if_pos (by rw [k3]; decide)]
        unfold b129_203
        rw [if_neg k2]
        unfold b129_208
        rw [if_neg (fun z => z k3)]
        exact hearing (Or.inr k3)
      · have n23 : ¬ (k = 2 ∨ k = 3) := fun z => z.elim k2 k3
        rw [if_neg n23]
        have rdrm : lb 45 (Int32.ofNat (3 * t + m)) h1 = some (s_rm S t m, h1) := by
          have := rd_rm (t := t) (m := m) o1R (by omega) m3
          rw [hrm] at this; exact this
        unfold Zreach
        by_cases k4 : k = 4
        · rw [if_pos (show ¬ k = 1 by rw [k4]; decide), if_pos k4]
          have k5 : ¬ k = 5 := by rw [k4]; decide
          unfold b129_124
          rw [if_neg (fun z => z k4)]
          unfold b129_129
          rw [nn_some, mb_mr]
          refine tot_bind (g900 rf1) ?_
          rw [nn_some, mb_mr]
          refine tot_bind (d38 m (by omega)) ?_
          cases hd : s_dn S m
          · rw [if_neg (by decide), if_neg (by decide)]
            unfold b129_139
            rw [nn_some, mb_mr]
            refine tot_bind (g908 rf1) ?_
            rw [nn_some, mb_mr, ix3]
            refine tot_bind rdrm ?_
            unfold Zcommit
            rw [hrm]
            by_cases r1 : s_rm S t m = 1
            · rw [if_neg (fun z => z r1), if_pos r1]
              unfold b129_154
              rw [nn_some, mb_mr]
              refine tot_bind (rF_vc rf1) (tot_mb (r137_tot hF m3 tx1 (by omega) o1R) (fun _ h2 q2 => ?_))
              exact w161 h2 _ k2 k3 k5 (agR_trans e1' q2.1) (RX_lk q2.2)
            · rw [if_pos r1, if_neg r1]
              exact w161 h1 S1 k2 k3 k5 e1' o1R
          · rw [if_pos (by decide), if_pos rfl]
            exact w161 h1 S1 k2 k3 k5 e1' o1R
        · by_cases k5 : k = 5
          · rw [if_pos (show ¬ k = 1 by rw [k5]; decide), if_neg k4, if_pos k5]
            unfold b129_124
            rw [if_pos k4]
            unfold b129_161
            rw [if_neg (fun z => z k5)]
            unfold b129_166
            rw [nn_some, mb_mr]
            refine tot_bind (g900 rf1) ?_
            rw [nn_some, mb_mr]
            refine tot_bind (d38 m (by omega)) ?_
            cases hd : s_dn S m
            · rw [if_neg (by decide), if_neg (by decide)]
              unfold b129_176
              rw [nn_some, mb_mr]
              refine tot_bind (g908 rf1) ?_
              rw [nn_some, mb_mr, ix3]
              refine tot_bind rdrm ?_
              unfold Zabort
              dsimp only
              rw [hrm]
              by_cases r2 : (2 : Int32) ≤ s_rm S t m
              · have n1 : ¬ s_rm S t m = 1 := fun z => by rw [z] at r2; exact absurd r2 (by decide)
                have n0 : ¬ s_rm S t m = 0 := fun z => by rw [z] at r2; exact absurd r2 (by decide)
                rw [if_pos r2, if_neg n1, if_neg (fun z => z.elim n1 n0)]
                exact w203 h1 S1 k2 k3 e1' o1R
              · have r01 : s_rm S t m = 1 ∨ s_rm S t m = 0 := by
                  rcases rk t m with z | z | z | z
                  · exact Or.inr z
                  · exact Or.inl z
                  · rw [z] at r2; exact absurd (by decide) r2
                  · rw [z] at r2; exact absurd (by decide) r2
                rw [if_neg r2, if_pos r01]
                unfold b129_191
                rw [nn_some, mb_mr]
                refine tot_bind (g908 rf1) ?_
                rw [nn_some, mb_mr, ix3]
                refine tot_bind (s45 rf1 (by omega) (by decide)) ?_
                obtain ⟨e2, o2⟩ := RX_rm (w := 3) (show t < 513 by omega) m3 o1R
                refine w203 _ _ k2 k3 (agR_trans e1' (ag_R e2)) ?_
                by_cases r1 : s_rm S t m = 1
                · rw [if_pos r1]
                  exact RX_lk (lk := zlo m 0 (s_ti S1 t) (s_lk S1)) o2
                · rw [if_neg r1]
                  exact o2
            · rw [if_pos (by decide), if_pos rfl]
              exact w203 h1 S1 k2 k3 e1' o1R
          · have k1 : k = 1 := by
              rcases k15 with z | z | z | z | z
              · exact z
              · exact absurd z k2
              · exact absurd z k3
              · exact absurd z k4
              · exact absurd z k5
            rw [if_neg (show ¬ ¬ k = 1 from fun z => z k1), if_neg k4, if_neg k5]
            unfold b129_107
            rw [nn_some, mb_mr]
            refine tot_bind (g900 rf1) ?_
            rw [nn_some, mb_mr]
            refine tot_bind (d38 m (by omega)) ?_
            cases hd : s_dn S m
            · rw [if_neg (by decide), if_neg (by decide)]
              unfold b129_117
              rw [nn_some, mb_mr]
              have tk1 : tisOK S1 := by rw [← hS1]; exact tk
              have li1 : lkInv S1 := by rw [← hS1]; exact lki
              have hl1 : ∀ a, s_lk S1 a < 1000 := by rw [← hS1]; exact hl
              have rk1 : rmOK S1 := by rw [← hS1]; exact rk
              refine tot_bind (rF_vc rf1) (tot_mb (r130_tot hF o1R m3 tx1 tk1 li1 hl1 rk1 (by omega)) (fun _ h2 q2 => ?_))
              refine w124 h2 _ k2 k3 k4 k5 (agR_trans e1' q2.1) ?_
              have hz : nIt (s_ti (Zprep t m S1)) (s_bg (Zprep t m S1)) = nIt (s_ti S1) (s_bg S1) ∧ s_cl (Zprep t m S1) = s_cl S1 := by
                unfold Zprep Zsend
                rw [Zaccept_eq]
                dsimp only
                split
                · exact ⟨rfl, rfl⟩
                · exact ⟨rfl, rfl⟩
              unfold RR
              rw [hz.1, hz.2]
              exact q2.2
            · rw [if_pos (by decide), if_pos rfl]
              exact w124 h1 S1 k2 k3 k4 k5 e1' o1R
  · rw [if_neg q, decide_eq_false (r128_out o q), if_neg (by decide)]
    exact tot_bind bz_0 (tot_mr ⟨rfl, ag_R (K := fun _ _ => False) ag_refl, o⟩)
end RDEL
