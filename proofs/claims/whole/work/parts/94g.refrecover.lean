/-! The reference: recover. -/
section RREC
variable {h h0 h1 : xv_H} {F j x p q s c d n L t m : Nat} {S : zS} {P : List zI} {i : Int32}
/-- the lowest, the last place apart -/
theorem zlow_top {rm : Nat → Nat → Int32} : ∀ (q t : Nat), 1 ≤ t → zlow rm m (q + 1) t = if zlow rm m q t = 0 then (if rm (t + q) m = 1 then t + q else 0) else zlow rm m q t := by
  intro q
  induction q with
  | zero =>
    intro t ht
    show (if rm t m = 1 then t else 0) = (if (0 : Nat) = 0 then (if rm (t + 0) m = 1 then t + 0 else 0) else 0)
    rw [if_pos rfl, Nat.add_zero]
  | succ q ih =>
    intro t ht
    by_cases e : rm t m = 1
    · have e1 : zlow rm m (q + 1 + 1) t = t := by rw [zlow, if_pos e]
      have e2 : zlow rm m (q + 1) t = t := by rw [zlow, if_pos e]
      rw [e1, e2, if_neg (by omega)]
    · have e1 : zlow rm m (q + 1 + 1) t = zlow rm m (q + 1) (t + 1) := by rw [zlow, if_neg e]
      have e2 : zlow rm m (q + 1) t = zlow rm m q (t + 1) := by rw [zlow, if_neg e]
      rw [e1, e2, ih (t + 1) (by omega), show t + 1 + q = t + (q + 1) by omega]
theorem r171_low {Q : Int32 → xv_H → Prop} (o : RX h S n P c L) (hm : m < 3) (hbg : s_bg S ≤ 512) : ∀ (k f tt : Nat), k ≤ s_bg S → k < f → tot (b171_57 F (some 37) (Int32.ofNat (if zlow (s_rm S) m k 1 = 0 then tt else zlow (s_rm S) m k 1))) h Q → tot (b171_27 F f (some 37) (Int32.ofNat m) (Int32.ofNat tt) (Int32.ofNat k)) h Q := by
  have rf := o.1
  intro k
  induction k with
  | zero =>
    intro f tt h1 h2 T
    cases f with
    | zero => omega
    | succ f =>
      unfold b171_27
      rw [if_pos (by decide)]
      exact T
  | succ k ih =>
    intro f tt h1 h2 T
    cases f with
    | zero => omega
    | succ f =>
      unfold b171_27
      rw [if_neg (by rw [i_nle, show (0 : Int32) = Int32.ofNat 0 from rfl, i_lt (by decide) (by omega)]; omega)]
      unfold b171_31
      rw [nn_some, mb_mr]
      refine tot_bind (g908 rf) ?_
      rw [nn_some, mb_mr, ix3]
      refine tot_bind (rd_rm o (by omega) hm) ?_
      rw [zlow_top k 1 (Nat.le_refl 1), show 1 + k = k + 1 by omega] at T
      by_cases r : s_rm S (k + 1) m = 1
      · rw [if_neg (fun z => z r)]
        unfold b171_45 b171_50
        rw [i_m1 (by omega) (by omega), show k + 1 - 1 = k by omega]
        refine ih f (k + 1) (by omega) (by omega) ?_
        rw [if_pos r] at T
        by_cases z : zlow (s_rm S) m k 1 = 0
        · rw [if_pos z]
          rw [if_pos z, if_neg (by omega)] at T
          exact T
        · rw [if_neg z]
          rw [if_neg z, if_neg z] at T
          exact T
      · rw [if_pos r]
        unfold b171_49 b171_50
        rw [i_m1 (by omega) (by omega), show k + 1 - 1 = k by omega]
        refine ih f tt (by omega) (by omega) ?_
        rw [if_neg r] at T
        by_cases z : zlow (s_rm S) m k 1 = 0
        · rw [if_pos z]
          rw [if_pos z, if_pos rfl] at T
          exact T
        · rw [if_neg z]
          rw [if_neg z, if_neg z] at T
          exact T
/-- the participants are looked through -/
theorem r171_parts {Q : Int32 → xv_H → Prop} {q j : Nat} {al on : Bool} (hF : 1000 ≤ F) (o : RX h S n P c L) (tx : txOK S t) (hj : j < 3) (hn : n ≤ 1600) (kd : (tp (s_ti S t) j && s_dn S j) = true → Q (-1) h) (kk : (tp (s_ti S t) j && s_dn S j) = false → tot (b171_71 F q (some 37) (Int32.ofNat t) (b2i (al && (!(tp (s_ti S t) j) || s_rm S t j == 1))) (b2i (on || (tp (s_ti S t) j && s_rm S t j == 2))) (Int32.ofNat (j + 1))) h Q) : tot (b171_71 F (q + 1) (some 37) (Int32.ofNat t) (b2i al) (b2i on) (Int32.ofNat j)) h Q := by
  have rf := o.1
  obtain ⟨t1, t2, t3, t4, t5⟩ := tx
  unfold b171_71
  rw [show (3 : Int32) = Int32.ofNat 3 from rfl, if_neg (by rw [i_le (by decide) (by omega)]; omega)]
  unfold b171_77
  rw [nn_some, mb_mr]
  refine tot_bind (rF_vc rf) (tot_bind (r136_eq hF rf hj (by omega) t4 t5 hn (o.2.2.2.1.2 t t1 t2)) ?_)
  cases hp : tp (s_ti S t) j
  · rw [hp] at kk
    rw [if_pos (by decide)]
    unfold b171_151
    rw [i_add1]
    have := kk rfl
    rw [show (al && (!false || s_rm S t j == 1)) = al by cases al <;> rfl, show (on || (false && s_rm S t j == 2)) = on by cases on <;> rfl] at this
    exact this
  · rw [hp] at kk kd
    rw [if_neg (by decide)]
    unfold b171_87
    rw [nn_some, mb_mr]
    refine tot_bind (g900 rf) ?_
    rw [nn_some, mb_mr]
    refine tot_bind (l38 rf (by omega)) ?_
    rw [o.2.1 j (by omega)]
    cases hd : s_dn S j
    · rw [hd] at kk
      have kk := kk rfl
      rw [if_pos (by decide)]
      rw [show (al && (!true || s_rm S t j == 1)) = (al && (s_rm S t j == 1)) by cases al <;> rfl, show (on || (true && s_rm S t j == 2)) = (on || (s_rm S t j == 2)) by cases on <;> rfl] at kk
      -- one
      have ones : ∀ al', tot (b171_151 (b171_71 F q) F (some 37) (Int32.ofNat t) (b2i al') (b2i (on || (s_rm S t j == 2))) (Int32.ofNat j)) h Q → tot (b171_123 (b171_71 F q) F (b2i al') (some 37) (Int32.ofNat t) (b2i on) (Int32.ofNat j)) h Q := by
        intro al' T
        unfold b171_123
        cases on
        · rw [if_neg (fun z => z rfl)]
          unfold b171_129
          rw [nn_some, mb_mr]
          refine tot_bind (g908 rf) ?_
          rw [nn_some, mb_mr, ix3]
          refine tot_bind (rd_rm o (by omega) hj) ?_
          by_cases r2 : s_rm S t j = 2
          · have e2 : (s_rm S t j == 2) = true := beq_iff_eq.mpr r2
            rw [if_neg (fun z => z r2)]
            rw [e2] at T
            unfold b171_144 b171_149
            exact T
          · have e2 : (s_rm S t j == 2) = false := by
              cases hq : (s_rm S t j == 2)
              · rfl
              · exact absurd (eq_of_beq hq) r2
            rw [if_pos r2]
            rw [e2] at T
            unfold b171_148 b171_149
            exact T
        · rw [if_pos (by decide)]
          unfold b171_144 b171_149
          exact T
      have last : ∀ al', al' = (al && (s_rm S t j == 1)) → tot (b171_151 (b171_71 F q) F (some 37) (Int32.ofNat t) (b2i al') (b2i (on || (s_rm S t j == 2))) (Int32.ofNat j)) h Q := by
        intro al' e
        unfold b171_151
        rw [i_add1, e]
        exact kk
      unfold b171_99
      cases al
      · rw [if_pos (by decide)]
        unfold b171_122
        exact ones false (last false rfl)
      · rw [if_neg (by decide)]
        unfold b171_103
        rw [nn_some, mb_mr]
        refine tot_bind (g908 rf) ?_
        rw [nn_some, mb_mr, ix3]
        refine tot_bind (rd_rm o (by omega) hj) ?_
        by_cases r1 : s_rm S t j = 1
        · have e1 : (s_rm S t j == 1) = true := beq_iff_eq.mpr r1
          rw [if_neg (fun z => z r1)]
          unfold b171_118
          exact ones true (last true (by rw [e1]; rfl))
        · have e1 : (s_rm S t j == 1) = false := by
            cases hq : (s_rm S t j == 1)
            · rfl
            · exact absurd (eq_of_beq hq) r1
          rw [if_pos r1]
          unfold b171_122
          exact ones false (last false (by rw [e1]; rfl))
    · rw [hd] at kd
      rw [if_neg (by decide)]
      exact tot_mr (kd rfl)
/-- settled at one participant -/
theorem r171_set {Q : Int32 → xv_H → Prop} {q j : Nat} {al on : Bool} (hF : 1000 ≤ F) (o : RX h S n P c L) (tx : txOK S t) (hj : j < 3) (hn : n ≤ 1600) (rk : rmOK S) (h0 : (on || al) = true → tp (s_ti S t) j = true → ¬ s_rm S t j = 0) (kk : ∀ h', agR h h' → RX h' (Zsettle1 t j (on || al) S) n P c L → tot (b171_160 F q (some 37) (Int32.ofNat t) (b2i al) (b2i on) (Int32.ofNat (j + 1))) h' Q) : tot (b171_160 F (q + 1) (some 37) (Int32.ofNat t) (b2i al) (b2i on) (Int32.ofNat j)) h Q := by
  have rf := o.1
  obtain ⟨t1, t2, t3, t4, t5⟩ := id tx
  unfold b171_160
  rw [show (3 : Int32) = Int32.ofNat 3 from rfl, if_neg (by rw [i_le (by decide) (by omega)]; omega)]
  unfold b171_166
  rw [nn_some, mb_mr]
  refine tot_bind (rF_vc rf) (tot_bind (r136_eq hF rf hj (by omega) t4 t5 hn (o.2.2.2.1.2 t t1 t2)) ?_)
  have rr : agR h h := ag_R (K := fun _ _ => False) ag_refl
  have nx : ∀ (h1 : xv_H), agR h h1 → RX h1 (Zsettle1 t j (on || al) S) n P c L → tot (b171_232 (b171_160 F q) F (some 37) (Int32.ofNat t) (b2i al) (b2i on) (Int32.ofNat j)) h1 Q := by
    intro h1 e1 o1
    unfold b171_232
    rw [i_add1]
    exact kk h1 e1 o1
  clear kk
  unfold Zsettle1 at nx
  cases hp : tp (s_ti S t) j
  · rw [hp] at nx
    rw [if_pos (by decide)]
    exact nx h rr o
  · rw [hp, if_pos rfl] at nx
    rw [if_neg (by decide)]
    unfold b171_176
    rw [nn_some, mb_mr]
    refine tot_bind (g908 rf) ?_
    rw [nn_some, mb_mr, ix3]
    refine tot_bind (rd_rm o (by omega) hj) ?_
    -- was < 2: aborted
    have ab : (on || al) = false → (s_rm S t j = 1 ∨ s_rm S t j = 0) → tot (b171_214 (b171_160 F q) F (some 37) (Int32.ofNat t) (b2i al) (b2i on) (Int32.ofNat j) (s_rm S t j)) h Q := by
      intro hb r01
      rw [hb, if_neg (by decide)] at nx
      unfold b171_214
      rw [if_neg (by rcases r01 with z | z <;> rw [z] <;> decide)]
      unfold b171_220
      rw [nn_some, mb_mr]
      refine tot_bind (g908 rf) ?_
      rw [nn_some, mb_mr, ix3]
      refine tot_bind (s45 rf (by omega) (by decide)) ?_
      obtain ⟨e2, o2⟩ := RX_rm (w := 3) (show t < 513 by omega) hj o
      refine nx _ (ag_R e2) ?_
      unfold Zabort
      dsimp only
      rw [if_pos r01]
      by_cases r1 : s_rm S t j = 1
      · rw [if_pos r1]
        exact RX_lk (lk := zlo j 0 (s_ti S t) (s_lk S)) o2
      · rw [if_neg r1]
        exact o2
    have stay : ¬ s_rm S t j = 1 → ¬ s_rm S t j = 0 → tot (b171_214 (b171_160 F q) F (some 37) (Int32.ofNat t) (b2i al) (b2i on) (Int32.ofNat j) (s_rm S t j)) h Q := by
      intro n1 n0
      unfold b171_214
      rw [if_pos (by rcases rk t j with z | z | z | z <;> first | exact absurd z n0 | exact absurd z n1 | (rw [z]; decide))]
      refine nx h rr ?_
      split
      · unfold Zcommit; rw [if_neg n1]; exact o
      · unfold Zabort; dsimp only; rw [if_neg n1, if_neg (fun z => z.elim n1 n0)]; exact o
    by_cases r1 : s_rm S t j = 1
    · rw [if_neg (fun z => z r1)]
      have car : (on || al) = true → tot (b171_204 (b171_160 F q) F (some 37) (Int32.ofNat t) (b2i al) (b2i on) (Int32.ofNat j)) h Q := by
        intro hb
        rw [hb, if_pos rfl] at nx
        unfold b171_204
        rw [nn_some, mb_mr]
        refine tot_bind (rF_vc rf) (tot_mb (r137_tot hF hj tx hn o) (fun _ h2 q2 => ?_))
        refine nx h2 q2.1 ?_
        unfold Zcommit
        rw [if_pos r1]
        exact RX_lk q2.2
      unfold b171_195
      cases on
      · rw [if_neg (fun z => z rfl)]
        unfold b171_200
        cases al
        · rw [if_pos (by decide)]
          exact ab rfl (Or.inl r1)
        · rw [if_neg (by decide)]
          exact car rfl
      · rw [if_pos (by decide)]
        exact car rfl
    · rw [if_pos r1]
      by_cases r0 : s_rm S t j = 0
      · cases hb : (on || al)
        · exact ab hb (Or.inr r0)
        · exact absurd r0 (h0 hb hp)
      · exact stay r1 r0
/-- two-phase commit: none that takes part has forgotten a transaction that committed anywhere -/
def pcOK (S : zS) : Prop := ∀ t, 1 ≤ t → t ≤ s_bg S → zdec (s_rm S) (s_ti S t) t = true → ∀ p, p < 3 → tp (s_ti S t) p = true → ¬ s_rm S t p = 0
theorem Zabort_eq : Zabort t m S = if s_rm S t m = 1 then s_rm_ (Zlock t m 0 S) (fset2 (s_rm S) t m 3) else if s_rm S t m = 0 then s_rm_ S (fset2 (s_rm S) t m 3) else S := by
  unfold Zabort
  dsimp only
  by_cases r1 : s_rm S t m = 1
  · rw [if_pos r1, if_pos (Or.inl r1), if_pos r1]; rfl
  · rw [if_neg r1, if_neg r1]
    by_cases r0 : s_rm S t m = 0
    · rw [if_pos (Or.inr r0), if_pos r0]
    · rw [if_neg (fun z => z.elim r1 r0), if_neg r0]
theorem rm_s1 {b : Bool} {u : Nat} (hu : ¬ u = m) : s_rm (Zsettle1 t m b S) t u = s_rm S t u := by
  unfold Zsettle1
  split
  · split
    · unfold Zcommit
      split
      · show fset2 (s_rm S) t m 2 t u = s_rm S t u
        exact fset2_o hu t
      · rfl
    · rw [Zabort_eq]
      split
      · show fset2 (s_rm S) t m 3 t u = s_rm S t u
        exact fset2_o hu t
      · split
        · show fset2 (s_rm S) t m 3 t u = s_rm S t u
          exact fset2_o hu t
        · rfl
  · rfl
theorem rmOK_s1 {b : Bool} (rk : rmOK S) : rmOK (Zsettle1 t m b S) := by
  have f2 : ∀ w : Int32, (w = 0 ∨ w = 1 ∨ w = 2 ∨ w = 3) → ∀ a b, fset2 (s_rm S) t m w a b = 0 ∨ fset2 (s_rm S) t m w a b = 1 ∨ fset2 (s_rm S) t m w a b = 2 ∨ fset2 (s_rm S) t m w a b = 3 := by
    intro w hw a b
    show (if a = t ∧ b = m then w else s_rm S a b) = 0 ∨ (if a = t ∧ b = m then w else s_rm S a b) = 1 ∨ (if a = t ∧ b = m then w else s_rm S a b) = 2 ∨ (if a = t ∧ b = m then w else s_rm S a b) = 3
    split
    · exact hw
    · exact rk a b
  unfold Zsettle1
  split
  · split
    · unfold Zcommit
      split
      · exact f2 2 (Or.inr (Or.inr (Or.inl rfl)))
      · exact rk
    · rw [Zabort_eq]
      split
      · exact f2 3 (Or.inr (Or.inr (Or.inr rfl)))
      · split
        · exact f2 3 (Or.inr (Or.inr (Or.inr rfl)))
        · exact rk
  · exact rk
theorem txOK_s1 {b : Bool} (tx : txOK S t) : txOK (Zsettle1 x m b S) t := by
  obtain ⟨e1, e2⟩ := ti_s1 (t := x) (m := m) (b := b) (S := S)
  unfold txOK
  rw [e1, e2]
  exact tx
theorem cl_s1 {b : Bool} : s_cl (Zsettle1 t m b S) = s_cl S := by
  unfold Zsettle1
  split
  · split
    · unfold Zcommit
      split
      · rfl
      · rfl
    · rw [Zabort_eq]
      split
      · rfl
      · split
        · rfl
        · rfl
  · rfl
theorem r171_tot (hF : 1000 ≤ F) (o : RR h S) (w : wR S) (pc : pcOK S) : tot (m171 F 37 i) h (fun r h' => r = (Xrecover i S).1 ∧ agR h h' ∧ RR h' (Xrecover i S).2) := by
  obtain ⟨F', rfl⟩ : ∃ k, F = k + 4 := ⟨F - 4, by omega⟩
  have rf := o.1
  obtain ⟨tk, lki, hl, rk, dl, hn, hopb⟩ := id w
  have tk1 := tk.1
  have same : agR h h := ag_R (K := fun _ _ => False) ag_refl
  have le2 : (i ≤ 2) ↔ i < 3 := by
    rw [Int32.le_iff_toInt_le, Int32.lt_iff_toInt_lt]
    have e1 : (2 : Int32).toInt = 2 := by decide
    have e2 : (3 : Int32).toInt = 3 := by decide
    omega
  unfold Xrecover m171 b171_0
  refine tot_bind r127_eq ?_
  by_cases q : 0 ≤ i ∧ i < 3
  · rw [decide_eq_true (show 0 ≤ i ∧ i ≤ 2 from ⟨q.1, le2.mpr q.2⟩), if_neg (by decide)]
    obtain ⟨hm, ei⟩ := i_nat_lt (n := 3) (by decide) q
    clear le2
    generalize i.toNatClampNeg = m at *
    subst ei
    unfold b171_9
    rw [nn_some, mb_mr]
    refine tot_bind (g900 rf) ?_
    rw [nn_some, mb_mr]
    refine tot_bind (l38 rf (by omega)) ?_
    rw [o.2.1 m (by omega)]
    cases hd : s_dn S m
    · rw [if_pos (by decide), if_pos ⟨q, rfl⟩]
      unfold b171_20
      rw [nn_some, mb_mr]
      refine tot_bind (g904 rf) ?_
      rw [o.2.2.2.1.1]
      refine r171_low o hm tk1 (s_bg S) (F' + 4) 0 (Nat.le_refl _) (by omega) ?_
      have zb := zlow_b (rm := s_rm S) (m := m) (s_bg S) 1 (Nat.le_refl 1)
      unfold Zrecover
      dsimp only
      generalize zlow (s_rm S) m (s_bg S) 1 = t at *
      have e0 : (if t = 0 then 0 else t) = t := by split <;> omega
      rw [e0]
      unfold b171_57
      by_cases t0 : t = 0
      · rw [if_neg (fun z => z (by rw [t0]; rfl)), if_pos (Or.inl t0), if_pos rfl]
        exact tot_mr ⟨rfl, same, o⟩
      · obtain ⟨t1, t2, _⟩ := zb.resolve_left t0
        rw [if_pos (i_ne0 (by omega) t0)]
        obtain ⟨wf, h6⟩ := tk.2 t t1 (by omega)
        have tx : txOK S t := ⟨t1, by omega, tk1, wf, h6⟩
        unfold b171_63
        have down : (t = 0 ∨ (tp (s_ti S t) 0 && s_dn S 0) = true ∨ (tp (s_ti S t) 1 && s_dn S 1) = true ∨ (tp (s_ti S t) 2 && s_dn S 2) = true) → (-1 : Int32) = (if (if t = 0 ∨ (tp (s_ti S t) 0 && s_dn S 0) = true ∨ (tp (s_ti S t) 1 && s_dn S 1) = true ∨ (tp (s_ti S t) 2 && s_dn S 2) = true then (0, S) else (t, Zsettle S t)).1 = 0 then -1 else Int32.ofNat (if t = 0 ∨ (tp (s_ti S t) 0 && s_dn S 0) = true ∨ (tp (s_ti S t) 1 && s_dn S 1) = true ∨ (tp (s_ti S t) 2 && s_dn S 2) = true then (0, S) else (t, Zsettle S t)).1) ∧ agR h h ∧ RR h (if t = 0 ∨ (tp (s_ti S t) 0 && s_dn S 0) = true ∨ (tp (s_ti S t) 1 && s_dn S 1) = true ∨ (tp (s_ti S t) 2 && s_dn S 2) = true then (0, S) else (t, Zsettle S t)).2 := by
          intro z
          rw [if_pos z, if_pos rfl]
          exact ⟨rfl, same, o⟩
        refine r171_parts (j := 0) (al := true) (on := false) hF o tx (by decide) (by omega) (fun z => down (Or.inr (Or.inl z))) (fun d0 => ?_)
        refine r171_parts (j := 1) hF o tx (by decide) (by omega) (fun z => down (Or.inr (Or.inr (Or.inl z)))) (fun d1 => ?_)
        refine r171_parts (j := 2) hF o tx (by decide) (by omega) (fun z => down (Or.inr (Or.inr (Or.inr z)))) (fun d2 => ?_)
        clear down
        have nd : ¬ (t = 0 ∨ (tp (s_ti S t) 0 && s_dn S 0) = true ∨ (tp (s_ti S t) 1 && s_dn S 1) = true ∨ (tp (s_ti S t) 2 && s_dn S 2) = true) := by
          intro z
          rcases z with z | z | z | z
          · exact t0 z
          · rw [d0] at z; cases z
          · rw [d1] at z; cases z
          · rw [d2] at z; cases z
        rw [if_neg nd]
        dsimp only
        rw [if_neg t0]
        unfold b171_71
        rw [if_pos (by decide)]
        unfold b171_157
        have hdec : ((((false || (tp (s_ti S t) 0 && s_rm S t 0 == 2)) || (tp (s_ti S t) 1 && s_rm S t 1 == 2)) || (tp (s_ti S t) 2 && s_rm S t 2 == 2)) || (((true && (!(tp (s_ti S t) 0) || s_rm S t 0 == 1)) && (!(tp (s_ti S t) 1) || s_rm S t 1 == 1)) && (!(tp (s_ti S t) 2) || s_rm S t 2 == 1))) = zdec (s_rm S) (s_ti S t) t := by
          unfold zdec
          rw [Bool.false_or, Bool.true_and]
        generalize (((false || (tp (s_ti S t) 0 && s_rm S t 0 == 2)) || (tp (s_ti S t) 1 && s_rm S t 1 == 2)) || (tp (s_ti S t) 2 && s_rm S t 2 == 2)) = on at *
        generalize (((true && (!(tp (s_ti S t) 0) || s_rm S t 0 == 1)) && (!(tp (s_ti S t) 1) || s_rm S t 1 == 1)) && (!(tp (s_ti S t) 2) || s_rm S t 2 == 1)) = al at *
        have p0 := pc t t1 (by omega)
        rw [← hdec] at p0
        unfold Zsettle
        dsimp only
        rw [← hdec]
        have oR : RX h S (nIt (s_ti S) (s_bg S)) [] 0 (lev (s_cl S 0)) := o
        refine r171_set (j := 0) hF oR tx (by decide) (by omega) rk (fun a b => p0 a 0 (by decide) b) (fun h2 e2 o2 => ?_)
        refine r171_set (j := 1) hF o2 (txOK_s1 tx) (by decide) (by omega) (rmOK_s1 rk) (fun a b => by rw [rm_s1 (by decide)]; rw [ti_s1.1] at b; exact p0 a 1 (by decide) b) (fun h3 e3 o3 => ?_)
        refine r171_set (j := 2) hF o3 (txOK_s1 (txOK_s1 tx)) (by decide) (by omega) (rmOK_s1 (rmOK_s1 rk)) (fun a b => by rw [rm_s1 (by decide), rm_s1 (by decide)]; rw [ti_s1.1, ti_s1.1] at b; exact p0 a 2 (by decide) b) (fun h4 e4 o4 => ?_)
        unfold b171_160
        rw [if_pos (by decide)]
        unfold b171_238
        refine tot_mr ⟨rfl, agR_trans (agR_trans e2 e3) e4, ?_⟩
        unfold RR
        rw [(ti_s1 (m := 2)).1, (ti_s1 (m := 2)).2, (ti_s1 (m := 1)).1, (ti_s1 (m := 1)).2, (ti_s1 (m := 0)).1, (ti_s1 (m := 0)).2, cl_s1, cl_s1, cl_s1]
        exact o4
    · rw [if_neg (by decide), if_neg (fun z => by cases z.2)]
      exact tot_mr ⟨rfl, same, o⟩
  · rw [decide_eq_false (fun z => q ⟨z.1, le2.mp z.2⟩), if_pos (by decide), if_neg (fun z => q z.1)]
    exact tot_mr ⟨rfl, same, o⟩
end RREC
