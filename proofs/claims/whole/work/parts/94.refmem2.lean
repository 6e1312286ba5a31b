/-! The reference: carryOut, prepare. -/
section RMEM2
variable {h h1 : xv_H} {F i j x p q v s a b c n L t m : Nat} {S : zS} {P : List zI} {it : zI} {ce : Nat → Int32 × zN} {its : List zI}
/-- a cell is written -/
theorem r137_cell {k18 : Option Nat → Int32 → Int32 → Int32 → xm Unit} {l1 l2 : Int32} {Q : Unit → xv_H → Prop} (hF : 1000 ≤ F) (o : RX h (s_ce_ S ce) n P c L) (hp : p < 1600) (ha : it.2.1 < 24) (hk : it.1 = 3 ∨ it.1 = 4) (oi : okIt h p it) (k : ∀ h', ag (fun a i => ¬ KN a i) h h' → RX h' (s_ce_ S (fset ce it.2.1 ((ce it.2.1).1 + 1, it.2.2.2))) n P c L → tot (b137_124 k18 F (some 37) l1 l2 (Int32.ofNat p)) h' Q) : tot (b137_62 k18 F (some 37) l1 l2 (Int32.ofNat p) (Int32.ofNat it.2.1)) h Q := by
  obtain ⟨F', rfl⟩ : ∃ k, F = k + 4 := ⟨F - 4, by omega⟩
  have rf := o.1
  obtain ⟨i1, i2, i3, i4⟩ := oi
  have dd := i4 hk
  have cn := o.2.2.1
  rw [s_ce_ce] at cn
  obtain ⟨n1, n2⟩ := cn it.2.1 ha
  generalize hA : it.2.1 = A at *
  unfold b137_62
  rw [nn_some, mb_mr]
  refine tot_bind (g901 rf) (tot_bind (g913 rf) ?_)
  rw [nn_some, mb_mr]
  refine tot_bind (l49 rf hp) ?_
  rw [nn_some, mb_mr]
  refine tot_bind (s39 rf ha) ?_
  -- the node
  have a1 : ag (fun a i => ¬ KN a i) h (Uel h 39 A (Hel h 49 p)) := ag_el (by decide) (fun q => q (by unfold KN; omega))
  have v1 : ∀ i, Hei (Uel h 39 A (Hel h 49 p)) 50 i = Hei h 50 i := by intro i; rw [Hei_Uel]
  have u1 : ∀ i, Hei (Uel h 39 A (Hel h 49 p)) 41 i = Hei h 41 i ∧ Hei (Uel h 39 A (Hel h 49 p)) 40 i = Hei h 40 i ∧ Hel (Uel h 39 A (Hel h 49 p)) 39 i = if i = A then Hel h 49 p else Hel h 39 i := by
    intro i
    refine ⟨by rw [Hei_Uel], by rw [Hei_Uel], ?_⟩
    rw [Hel_Uel]
    by_cases e : i = A
    · rw [if_pos ⟨rfl, e⟩, if_pos e]
    · rw [if_neg (fun z => e z.2), if_neg e]
  generalize Uel h 39 A (Hel h 49 p) = h1 at *
  have stp : ∀ (g w : Nat) (h2 : xv_H), w < 3 → ag (fun a i => ¬ KN a i) h h2 → (∀ i, Hei h2 50 i = Hei h 50 i) → (∀ h3, ag (fun a i => ¬ KN a i) h h3 → (∀ i, Hei h3 50 i = Hei h 50 i) → (∀ i, Hei h3 41 i = if i = 3 * A + w then Hei h 50 (3 * p + w) else Hei h2 41 i) → (∀ i, Hei h3 40 i = Hei h2 40 i) → (∀ i, Hel h3 39 i = Hel h2 39 i) → tot (b137_78 k18 (F' + 4) g (some 37) l1 l2 (Int32.ofNat p) (Int32.ofNat A) (Int32.ofNat (w + 1))) h3 Q) → tot (b137_78 k18 (F' + 4) (g + 1) (some 37) l1 l2 (Int32.ofNat p) (Int32.ofNat A) (Int32.ofNat w)) h2 Q := by
    intro g w h2 hw a2 v2 kk
    have rf2 := ag_rF a2 rf
    unfold b137_78
    rw [show (3 : Int32) = Int32.ofNat 3 from rfl, if_neg (by rw [i_le (by decide) (by omega)]; omega)]
    unfold b137_84
    rw [nn_some, mb_mr]
    refine tot_bind (g903 rf2) (tot_bind (g914 rf2) ?_)
    rw [nn_some, mb_mr, ix3]
    refine tot_bind (l50 rf2 (by omega)) ?_
    rw [nn_some, mb_mr, ix3]
    refine tot_bind (s41 rf2 (by omega)) ?_
    rw [i_add1, v2]
    refine kk _ (ag_trans a2 (ag_ei (by decide) (fun q => q (by unfold KN; omega)))) (fun i => ?_) (fun i => ?_) (fun i => ?_) (fun i => ?_)
    · rw [Hei_Uei, if_neg (by omega)]; exact v2 i
    · rw [Hei_Uei]
      by_cases e : i = 3 * A + w
      · rw [if_pos ⟨rfl, e⟩, if_pos e]
      · rw [if_neg (fun z => e z.2), if_neg e]
    · rw [Hei_Uei, if_neg (by omega)]
    · rw [Hel_Uei]
  refine stp _ 0 h1 (by decide) a1 v1 (fun h2 a2 v2 w2 x2 y2 => ?_)
  refine stp _ 1 h2 (by decide) a2 v2 (fun h3 a3 v3 w3 x3 y3 => ?_)
  refine stp _ 2 h3 (by decide) a3 v3 (fun h4 a4 v4 w4 x4 y4 => ?_)
  unfold b137_78
  rw [if_pos (by decide)]
  unfold b137_113
  have rf4 := ag_rF a4 rf
  have x40 : ∀ i, Hei h4 40 i = Hei h 40 i := by intro i; rw [x4, x3, x2, (u1 i).2.1]
  have y39 : ∀ i, Hel h4 39 i = if i = A then Hel h 49 p else Hel h 39 i := by intro i; rw [y4, y3, y2]; exact (u1 i).2.2
  rw [nn_some, mb_mr]
  refine tot_bind (g902 rf4) ?_
  rw [nn_some, mb_mr]
  refine tot_bind (l40 rf4 ha) (tot_bind (s40 rf4 ha) ?_)
  rw [x40, n1]
  have a5 : ag (fun a i => ¬ KN a i) h (Uei h4 40 A ((ce A).1 + 1)) := ag_trans a4 (ag_ei (by decide) (fun q => q (by unfold KN; omega)))
  refine k _ a5 ?_
  have rn : rN (Uei h4 40 A ((ce A).1 + 1)) (fset ce A ((ce A).1 + 1, it.2.2.2)) := by
    intro b hb
    rw [fset_eq]
    have e41 : ∀ i, Hei (Uei h4 40 A ((ce A).1 + 1)) 41 i = Hei h4 41 i := by intro i; rw [Hei_Uei, if_neg (by omega)]
    rw [e41, e41, e41, Hel_Uei, y39, Hei_Uei]
    by_cases e : b = A
    · subst e
      rw [if_pos rfl, if_pos ⟨rfl, rfl⟩, if_pos rfl]
      refine ⟨rfl, ?_⟩
      have r0 : Hei h4 41 (3 * b) = Hei h 50 (3 * p) := by rw [w4, if_neg (by omega), w3, if_neg (by omega), w2, if_pos (by omega)]; rfl
      have r1 : Hei h4 41 (3 * b + 1) = Hei h 50 (3 * p + 1) := by rw [w4, if_neg (by omega), w3, if_pos (by omega)]
      have r2 : Hei h4 41 (3 * b + 2) = Hei h 50 (3 * p + 2) := by rw [w4, if_pos (by omega)]
      rw [r0, r1, r2]
      exact dd
    · rw [if_neg e, if_neg (fun z => e z.2), if_neg e, x40]
      have r : ∀ w, w < 3 → Hei h4 41 (3 * b + w) = Hei h 41 (3 * b + w) := by
        intro w hw
        rw [w4, if_neg (by omega), w3, if_neg (by omega), w2, if_neg (by omega), (u1 _).1]
      have r0 := r 0 (by decide)
      rw [show 3 * b + 0 = 3 * b by omega] at r0
      rw [r0, r 1 (by decide), r 2 (by decide)]
      exact cn b hb
  have := RX_n a5 o rn
  exact this
theorem r137_loop {f0 : Nat} (hF : 1000 ≤ F) (hm : m < 3) (ht : t < 513) (wf : wfT its) (hn : f0 + its.length ≤ 1600) : ∀ (f j : Nat) (h : xv_H) (ce : Nat → Int32 × zN), Hei h 43 t = Int32.ofNat f0 → Hei h 44 t = Int32.ofNat its.length → (∀ j, j < its.length → okIt h (f0 + j) (its.getD j zi0)) → j ≤ its.length → its.length - j < f → RX h (s_ce_ S ce) n P c L → tot (b137_18 F f (some 37) (Int32.ofNat t) (Int32.ofNat m) (Int32.ofNat (f0 + j))) h (fun _ h' => agR h h' ∧ RX h' (s_ce_ S (zwr m (its.drop j) ce)) n P c L) := by
  intro f
  induction f with
  | zero => intro j h ce _ _ _ h1 h2; omega
  | succ f ih =>
    intro j h ce e43 e44 oi h1 h2 o
    have rf := o.1
    unfold b137_18
    rw [nn_some, mb_mr]
    refine tot_bind (g906 rf) ?_
    rw [nn_some, mb_mr]
    refine tot_bind (l43 rf (by omega)) (tot_bind (g907 rf) ?_)
    rw [nn_some, mb_mr]
    refine tot_bind (l44 rf (by omega)) ?_
    rw [e43, e44, i_add]
    by_cases q : its.length ≤ j
    · rw [if_pos (by rw [i_le (by omega) (by omega)]; omega), List.drop_of_length_le q]
      exact tot_mr ⟨ag_R (K := fun _ _ => False) ag_refl, o⟩
    · rw [if_neg (by rw [i_le (by omega) (by omega)]; omega), drop_cons (by omega)]
      obtain ⟨hk, ha⟩ := wf j (by omega)
      have oj := oi j (by omega)
      generalize hi : its.getD j zi0 = it at *
      have ez : zwr m (it :: its.drop (j + 1)) ce = zwr m (its.drop (j + 1)) (if it.2.1 / 8 = m ∧ (it.1 = 3 ∨ it.1 = 4) then fset ce it.2.1 ((ce it.2.1).1 + 1, it.2.2.2) else ce) := (rfl)
      rw [ez]
      unfold b137_35
      rw [nn_some, mb_mr]
      refine tot_bind (g911 rf) ?_
      rw [nn_some, mb_mr]
      refine tot_bind (l47 rf (by omega)) (tot_bind (ok_dz (by decide)) ?_)
      rw [oj.2.1, i_div8 _ ha]
      have skip : ∀ (_ : ¬ (it.2.1 / 8 = m ∧ (it.1 = 3 ∨ it.1 = 4))), tot (b137_124 (b137_18 F f) F (some 37) (Int32.ofNat t) (Int32.ofNat m) (Int32.ofNat (f0 + j))) h (fun _ h' => agR h h' ∧ RX h' (s_ce_ S (zwr m (its.drop (j + 1)) (if it.2.1 / 8 = m ∧ (it.1 = 3 ∨ it.1 = 4) then fset ce it.2.1 ((ce it.2.1).1 + 1, it.2.2.2) else ce))) n P c L) := by
        intro ns
        rw [if_neg ns]
        unfold b137_124
        rw [i_add1, show f0 + j + 1 = f0 + (j + 1) by omega]
        exact ih (j + 1) h ce e43 e44 oi (by omega) (by omega) o
      by_cases e : it.2.1 / 8 = m
      · rw [if_neg (fun z => z (by rw [e]))]
        unfold b137_52
        rw [nn_some, mb_mr]
        refine tot_bind (g910 rf) ?_
        rw [nn_some, mb_mr]
        refine tot_bind (l46 rf (by omega)) ?_
        rw [oj.1]
        by_cases k3 : it.1 = 3 ∨ it.1 = 4
        · rw [if_neg (by rcases k3 with z | z <;> rw [z] <;> decide), if_pos ⟨e, k3⟩]
          refine r137_cell hF o (by omega) ha k3 oj (fun h2 e2 o2 => ?_)
          unfold b137_124
          rw [i_add1, show f0 + j + 1 = f0 + (j + 1) by omega]
          refine tot_mono (ih (j + 1) h2 _ ?_ ?_ (fun i hi => ?_) (by omega) (by omega) o2) (fun _ h3 q3 => ⟨agR_trans (ag_R e2) q3.1, q3.2⟩)
          · rw [(ag_e e2 (by unfold KN; omega)).1]; exact e43
          · rw [(ag_e e2 (by unfold KN; omega)).1]; exact e44
          · exact okIt_c e2 (fun a a1 a2 => by unfold KN; omega) ⟨by unfold KN; omega, by unfold KN; omega, by unfold KN; omega⟩ (oi i hi)
        · rw [if_pos (by
            rcases hk with z | z | z | z
            · rw [z]; decide
            · rw [z]; decide
            · exact absurd (Or.inl z) k3
            · exact absurd (Or.inr z) k3)]
          exact skip (fun z => k3 z.2)
      · rw [if_pos (ofNat_ne (by omega) (by omega) e)]
        exact skip (fun z => e z.1)
theorem r137_tot (hF : 1000 ≤ F) (hm : m < 3) (tx : txOK S t) (hn : n ≤ 1600) (o : RX h S n P c L) : tot (m137 F 37 (Int32.ofNat t) (Int32.ofNat m)) h (fun _ h' => agR h h' ∧ RX h' (Zcarry t m S) n P c L) := by
  have rf := o.1
  obtain ⟨t1, t2, t3, t4, t5⟩ := tx
  unfold m137 b137_0
  rw [nn_some, mb_mr]
  refine tot_bind (g908 rf) ?_
  rw [nn_some, mb_mr, ix3]
  refine tot_bind (s45 rf (by omega) (by decide)) ?_
  obtain ⟨e1, o1⟩ := RX_rm (w := 2) (show t < 513 by omega) hm o
  generalize Uei h 45 (3 * t + m) 2 = h1 at *
  have rf1 := o1.1
  obtain ⟨z1, z2, f0, z3, z4, z5⟩ := o1.2.2.2.1.2 t t1 (by rw [s_bg_rm]; exact t2)
  rw [s_ti_rm] at z2 z4 z5
  refine tot_bind (g906 rf1) ?_
  rw [nn_some, mb_mr]
  refine tot_bind (l43 rf1 (by omega)) ?_
  rw [z3]
  have id1 : s_ce_ (s_rm_ S (fset2 (s_rm S) t m 2)) (s_ce S) = s_rm_ S (fset2 (s_rm S) t m 2) := (rfl)
  have lp := r137_loop (F := F) (S := s_rm_ S (fset2 (s_rm S) t m 2)) (P := P) (c := c) (L := L) (n := n) (f0 := f0) hF hm (by omega) t4 (by omega) F 0 h1 (s_ce S) z3 z2 z5 (by omega) (by omega) (by rw [id1]; exact o1)
  rw [show f0 + 0 = f0 by omega, List.drop_zero] at lp
  refine tot_mono lp (fun _ h2 q2 => ⟨agR_trans (ag_R e1) q2.1, ?_⟩)
  exact q2.2
end RMEM2
