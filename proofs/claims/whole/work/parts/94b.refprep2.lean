/-! The reference: prepare, the whole. -/
section RPREP2
variable {h h1 : xv_H} {F i j x p q v s a b c n L t m : Nat} {S : zS} {P : List zI} {it : zI} {ce : Nat → Int32 × zN} {its : List zI}
def rmOK (S : zS) : Prop := ∀ t m, s_rm S t m = 0 ∨ s_rm S t m = 1 ∨ s_rm S t m = 2 ∨ s_rm S t m = 3
/-- the items are looked through -/
theorem r130_good {f0 : Nat} {Q : Unit → xv_H → Prop} (hF : 1000 ≤ F) (o : RX h S n P c L) (hm : m < 3) (tx : txOK S t) (tk : tisOK S) (li : lkInv S) (hl : ∀ a, s_lk S a < 1000) (hn : n ≤ 1600) (e44 : Hei h 44 t = Int32.ofNat (s_ti S t).length) (h16 : f0 + (s_ti S t).length ≤ 1600) (oi : ∀ j, j < (s_ti S t).length → okIt h (f0 + j) ((s_ti S t).getD j zi0)) : ∀ (f j : Nat) (g : Bool), j ≤ (s_ti S t).length → (s_ti S t).length - j < f → tot (b130_258 F (some 37) (Int32.ofNat t) (Int32.ofNat m) (b2i (g && zcan ((s_ti S t).drop j) m (s_lk S) (s_ce S)))) h Q → tot (b130_190 F f (some 37) (Int32.ofNat t) (Int32.ofNat m) (Int32.ofNat f0) (b2i g) (Int32.ofNat (f0 + j))) h Q := by
  have rf := o.1
  obtain ⟨t1, t2, t3, t4, t5⟩ := tx
  intro f
  induction f with
  | zero => intro j g h1 h2; omega
  | succ f ih =>
    intro j g h1 h2 tt
    unfold b130_190
    rw [nn_some, mb_mr]
    refine tot_bind (g907 rf) ?_
    rw [nn_some, mb_mr]
    refine tot_bind (l44 rf (by omega)) ?_
    rw [e44, i_add]
    by_cases q : (s_ti S t).length ≤ j
    · rw [if_pos (by rw [i_le (by omega) (by omega)]; omega)]
      rw [List.drop_of_length_le q] at tt
      have : (g && zcan [] m (s_lk S) (s_ce S)) = g := by cases g <;> rfl
      rw [this] at tt
      exact tt
    · rw [if_neg (by rw [i_le (by omega) (by omega)]; omega)]
      rw [drop_cons (by omega)] at tt
      obtain ⟨hk, ha⟩ := t4 j (by omega)
      have oj := oi j (by omega)
      generalize hi : (s_ti S t).getD j zi0 = it at *
      have ez : zcan (it :: (s_ti S t).drop (j + 1)) m (s_lk S) (s_ce S) = ((!(it.2.1 / 8 == m) || (s_lk S it.2.1 == 0 && zfits it (s_ce S it.2.1))) && zcan ((s_ti S t).drop (j + 1)) m (s_lk S) (s_ce S)) := (rfl)
      rw [ez, ← Bool.and_assoc] at tt
      have nx : ∀ g', tot (b130_258 F (some 37) (Int32.ofNat t) (Int32.ofNat m) (b2i (g' && zcan ((s_ti S t).drop (j + 1)) m (s_lk S) (s_ce S)))) h Q → tot (b130_252 (b130_190 F f) F (some 37) (Int32.ofNat t) (Int32.ofNat m) (Int32.ofNat f0) (b2i g') (Int32.ofNat (f0 + j))) h Q := by
        intro g' t'
        unfold b130_252
        rw [i_add1, show f0 + j + 1 = f0 + (j + 1) by omega]
        exact ih (j + 1) g' (by omega) (by omega) t'
      unfold b130_203
      rw [nn_some, mb_mr]
      refine tot_bind (g911 rf) ?_
      rw [nn_some, mb_mr]
      refine tot_bind (l47 rf (by omega)) (tot_bind (ok_dz (by decide)) ?_)
      rw [oj.2.1, i_div8 _ ha]
      by_cases e : it.2.1 / 8 = m
      · have eb : (it.2.1 / 8 == m) = true := by simpa using e
        rw [if_neg (fun z => z (by rw [e]))]
        rw [eb] at tt
        unfold b130_217
        cases g
        · rw [if_pos (by decide)]
          unfold b130_249 b130_250
          exact nx false tt
        · rw [if_neg (by decide)]
          unfold b130_222
          rw [nn_some, mb_mr]
          refine tot_bind (g911 rf) ?_
          rw [nn_some, mb_mr]
          refine tot_bind (l47 rf (by omega)) (tot_bind (rF_vc rf) ?_)
          rw [oj.2.1]
          refine tot_bind (r131_eq hF o tk hn ha li) ?_
          have hlk := hl it.2.1
          by_cases l0 : s_lk S it.2.1 = 0
          · have lb : (s_lk S it.2.1 == 0) = true := by simpa using l0
            rw [if_neg (fun z => z (by rw [l0]; rfl))]
            rw [lb] at tt
            unfold b130_236
            rw [nn_some, mb_mr]
            refine tot_bind (rF_vc rf) (tot_bind (r133_eq o (by omega) hk ha oj) ?_)
            cases hf : zfits it (s_ce S it.2.1)
            · rw [hf] at tt
              rw [if_pos (by decide)]
              unfold b130_249 b130_250
              exact nx false tt
            · rw [hf] at tt
              rw [if_neg (by decide)]
              unfold b130_245 b130_250
              exact nx true tt
          · have lb : (s_lk S it.2.1 == 0) = false := by simpa using l0
            rw [if_pos (i_ne0 (by omega) l0)]
            rw [lb] at tt
            unfold b130_249 b130_250
            exact nx false tt
      · have eb : (it.2.1 / 8 == m) = false := by simpa using e
        rw [if_pos (ofNat_ne (by omega) (by omega) e)]
        rw [eb] at tt
        have : (g && (!false || (s_lk S it.2.1 == 0 && zfits it (s_ce S it.2.1)))) = g := by cases g <;> rfl
        rw [this] at tt
        exact nx g tt
theorem rd_send {S1 : zS} {k : Int32} (hF : 1000 ≤ F) (o : RX h S1 n P c L) {Q : Unit → xv_H → Prop} (kk : ∀ h', agR h h' → RX h' (s_ms_ S1 (snd_ (s_ms S1) (k, t, m, none))) n P c L → Q () h') : tot (mb (nn (some 37)) fun v1 => mb (vc 9 v1) fun _ => mb (m132 F v1 k (Int32.ofNat t) (Int32.ofNat m)) fun _ => mr ()) h Q := by
  rw [nn_some, mb_mr]
  exact tot_bind (rF_vc o.1) (tot_mb (r132_tot o.1 o.2.2.2.2.2.2.1) (fun _ h1 q1 => tot_mr (kk h1 (ag_R q1.2.1) (RX_q q1.2.1 o q1.2.2))))
theorem isRd_iff {its : List zI} : isRd its = true ↔ its.length = 1 ∧ (its.getD 0 zi0).1 = 1 := by
  unfold isRd
  rw [headD_getD, Bool.and_eq_true]
  show _ ↔ _
  constructor
  · intro q; exact ⟨by simpa using q.1, by have := q.2; exact eq_of_beq this⟩
  · intro q; exact ⟨by simpa using q.1, beq_iff_eq.mpr q.2⟩
theorem r130_tot (hF : 1000 ≤ F) (o : RX h S n P c L) (hm : m < 3) (tx : txOK S t) (tk : tisOK S) (li : lkInv S) (hl : ∀ a, s_lk S a < 1000) (rk : rmOK S) (hn : n ≤ 1600) : tot (m130 F 37 (Int32.ofNat t) (Int32.ofNat m)) h (fun _ h' => agR h h' ∧ RX h' (Zprep t m S) n P c L) := by
  have rf := o.1
  obtain ⟨t1, t2, t3, t4, t5⟩ := id tx
  obtain ⟨z1, z2, f0, z3, z4, z5⟩ := o.2.2.2.1.2 t t1 t2
  have h40 := o.2.2.2.2.2.2.1.2.1
  have hne : ∀ (_ : ¬ isRd (s_ti S t) = true), tot (b130_148 F (some 37) (Int32.ofNat t) (Int32.ofNat m) (Int32.ofNat f0)) h (fun _ h' => agR h h' ∧ RX h' (Zprep t m S) n P c L) := by
    intro nr
    have hZ : Zprep t m S = if (Zaccept t m S).1 = true then Zsend (Zaccept t m S).2 2 t m none else Zsend (Zaccept t m S).2 3 t m none := by
      unfold Zprep
      have eti : s_ti (Zaccept t m S).2 = s_ti S := by rw [Zaccept_eq]; rfl
      have : Zsight t (Zaccept t m S).2 = none := by unfold Zsight; rw [eti, if_neg nr]
      rw [this]
    rw [hZ]
    unfold b130_148
    rw [nn_some, mb_mr]
    refine tot_bind (g908 rf) ?_
    rw [nn_some, mb_mr, ix3]
    refine tot_bind (rd_rm o (by omega) hm) ?_
    have hA : Zaccept t m S = (if s_rm S t m ≠ 0 then (decide (s_rm S t m ≠ 3), S) else if zcan (s_ti S t) m (s_lk S) (s_ce S) = false then (false, s_rm_ S (fset2 (s_rm S) t m 3)) else if sev (s_ti S t) then (true, Zlock t m t (s_rm_ S (fset2 (s_rm S) t m 1))) else (true, Zcarry t m S)) := by
      unfold Zaccept
      rw [if_neg nr]
    by_cases r0 : s_rm S t m = 0
    · rw [if_pos (by rw [r0]; decide)]
      rw [if_neg (fun z => z r0)] at hA
      unfold b130_184
      have oi := z5
      refine r130_good hF o hm tx tk li hl hn z2 (by omega) z5 F 0 true (by omega) (by omega) ?_
      rw [List.drop_zero, Bool.true_and]
      unfold b130_258
      have fin : ∀ (h1 : xv_H) (S1 : zS) (g : Bool), agR h h1 → RX h1 S1 n P c L → tot (b130_306 F (some 37) (Int32.ofNat t) (Int32.ofNat m) (b2i g)) h1 (fun _ h' => agR h h' ∧ RX h' (if g = true then Zsend S1 2 t m none else Zsend S1 3 t m none) n P c L) := by
        intro h1 S1 g e1 o1
        unfold b130_306
        cases g
        · rw [if_pos (by decide)]
          unfold b130_316 b130_317
          exact rd_send hF o1 (fun h' e' o' => ⟨agR_trans e1 e', o'⟩)
        · rw [if_neg (by decide)]
          unfold b130_312 b130_317
          exact rd_send hF o1 (fun h' e' o' => ⟨agR_trans e1 e', o'⟩)
      cases hz : zcan (s_ti S t) m (s_lk S) (s_ce S)
      · rw [hz, if_pos rfl] at hA
        rw [if_neg (fun z => z rfl), hA]
        unfold b130_263
        rw [nn_some, mb_mr]
        refine tot_bind (g908 rf) ?_
        rw [nn_some, mb_mr, ix3]
        refine tot_bind (s45 rf (by omega) (by decide)) ?_
        obtain ⟨e1, o1⟩ := RX_rm (w := 3) (show t < 513 by omega) hm o
        exact fin _ _ false (ag_R e1) o1
      · rw [hz, if_neg (by decide)] at hA
        rw [if_pos (by decide)]
        unfold b130_277
        rw [nn_some, mb_mr]
        refine tot_bind (rF_vc rf) (tot_bind (r135_eq hF rf (by omega) t4 t5 hn (o.2.2.2.1.2 t t1 t2)) ?_)
        cases hs : sev (s_ti S t)
        · rw [hs, if_neg (by decide)] at hA
          rw [if_pos (by rw [cnt_sev]; exact hs), hA]
          unfold b130_300
          rw [nn_some, mb_mr]
          refine tot_bind (rF_vc rf) (tot_mb (r137_tot hF hm tx hn o) (fun _ h1 q1 => ?_))
          exact fin h1 _ true q1.1 q1.2
        · rw [hs, if_pos rfl] at hA
          rw [if_neg (by rw [cnt_sev, hs]; decide), hA]
          unfold b130_286
          rw [nn_some, mb_mr]
          refine tot_bind (g908 rf) ?_
          rw [nn_some, mb_mr, ix3]
          refine tot_bind (s45 rf (by omega) (by decide)) ?_
          obtain ⟨e1, o1⟩ := RX_rm (w := 1) (show t < 513 by omega) hm o
          exact fin _ _ true (ag_R e1) (RX_lk o1)
    · rw [if_pos r0] at hA
      rw [if_neg (by rcases rk t m with z | z | z | z <;> first | exact absurd z r0 | (rw [z]; decide)), hA]
      unfold b130_165
      by_cases r3 : s_rm S t m = 3
      · rw [if_neg (fun z => z r3)]
        have e3 : decide (s_rm S t m ≠ 3) = false := decide_eq_false (fun z => z r3)
        rw [e3]
        unfold b130_172 b130_177
        exact rd_send hF o (fun h' e' o' => ⟨e', o'⟩)
      · rw [if_pos r3]
        have e3 : decide (s_rm S t m ≠ 3) = true := decide_eq_true r3
        rw [e3]
        unfold b130_176 b130_177
        exact rd_send hF o (fun h' e' o' => ⟨e', o'⟩)
  unfold m130 b130_0
  rw [nn_some, mb_mr]
  refine tot_bind (g906 rf) ?_
  rw [nn_some, mb_mr]
  refine tot_bind (l43 rf (by omega)) (tot_bind (g907 rf) ?_)
  rw [nn_some, mb_mr]
  refine tot_bind (l44 rf (by omega)) ?_
  rw [z2, z3]
  by_cases l1 : (s_ti S t).length = 1
  · rw [if_neg (fun z => z (by rw [l1]; rfl))]
    unfold b130_17
    rw [nn_some, mb_mr]
    refine tot_bind (g910 rf) ?_
    rw [nn_some, mb_mr]
    refine tot_bind (l46 rf (by omega)) ?_
    have o0 := z5 0 (by omega)
    rw [show f0 + 0 = f0 by omega] at o0
    obtain ⟨hk, ha⟩ := t4 0 (by omega)
    rw [o0.1]
    by_cases k1 : ((s_ti S t).getD 0 zi0).1 = 1
    · rw [if_neg (fun z => z k1)]
      have rd : isRd (s_ti S t) = true := isRd_iff.mpr ⟨l1, k1⟩
      generalize hA0 : ((s_ti S t).getD 0 zi0).2.1 = A at *
      have hZ : Zprep t m S = if (s_lk S A == 0) = true then Zsend S 2 t m (some (s_ce S A)) else Zsend S 3 t m none := by
        have ea : Zaccept t m S = (s_lk S A == 0, S) := by
          unfold Zaccept
          rw [if_pos rd, headD_getD]
          show (s_lk S ((s_ti S t).getD 0 zi0).2.1 == 0, S) = _
          rw [hA0]
        unfold Zprep
        rw [ea]
        dsimp only
        have es : Zsight t S = some (s_ce S A) := by
          unfold Zsight
          rw [if_pos rd, headD_getD]
          show some (s_ce S ((s_ti S t).getD 0 zi0).2.1) = _
          rw [hA0]
        rw [es]
      rw [hZ]
      unfold b130_27
      rw [nn_some, mb_mr]
      refine tot_bind (g911 rf) ?_
      rw [nn_some, mb_mr]
      refine tot_bind (l47 rf (by omega)) (tot_bind (rF_vc rf) ?_)
      rw [o0.2.1, hA0]
      refine tot_bind (r131_eq hF o tk hn ha li) ?_
      have hlk := hl A
      by_cases l0 : s_lk S A = 0
      · have lb : (s_lk S A == 0) = true := by simpa using l0
        rw [if_pos (by rw [l0]; decide), lb, if_pos rfl]
        unfold b130_48 b130_49
        rw [if_pos rfl]
        unfold b130_61 b130_62
        rw [nn_some, mb_mr]
        refine tot_bind (rF_vc rf) (tot_mb (r132_tot rf o.2.2.2.2.2.2.1) (fun r h1 q1 => ?_))
        obtain ⟨rfl, e1, q1⟩ := q1
        have o1 := RX_q e1 o q1
        unfold Zsend
        by_cases full : (s_ms S).length < 40
        · unfold snd_ at o1 ⊢
          rw [if_pos full] at o1 ⊢
          rw [if_pos full, if_neg (by rw [show (0 : Int32) = Int32.ofNat 0 from rfl, i_lt (by omega) (by decide)]; omega)]
          unfold b130_74
          rw [if_pos rfl]
          exact tot_mono (r130_bear hF o1 full ha) (fun _ h2 q2 => ⟨agR_trans (ag_R e1) q2.1, q2.2⟩)
        · unfold snd_ at o1 ⊢
          rw [if_neg full] at o1 ⊢
          rw [if_neg full, if_pos (by decide)]
          exact tot_mr ⟨ag_R e1, o1⟩
      · have lb : (s_lk S A == 0) = false := by simpa using l0
        rw [if_neg (by rw [i_nle, show (0 : Int32) = Int32.ofNat 0 from rfl, i_lt (by decide) (by omega)]; omega), lb, if_neg (by decide)]
        unfold b130_44 b130_49
        rw [if_neg n10]
        unfold b130_57 b130_62
        rw [nn_some, mb_mr]
        refine tot_bind (rF_vc rf) (tot_mb (r132_tot rf o.2.2.2.2.2.2.1) (fun r h1 q1 => ?_))
        obtain ⟨rfl, e1, q1⟩ := q1
        have o1 := RX_q e1 o q1
        by_cases full : (s_ms S).length < 40
        · rw [if_pos full, if_neg (by rw [show (0 : Int32) = Int32.ofNat 0 from rfl, i_lt (by omega) (by decide)]; omega)]
          unfold b130_74
          rw [if_neg n10]
          exact tot_mr ⟨ag_R e1, o1⟩
        · rw [if_neg full, if_pos (by decide)]
          exact tot_mr ⟨ag_R e1, o1⟩
    · rw [if_pos k1]
      exact hne (fun z => k1 (isRd_iff.mp z).2)
  · have l1' : ¬ Int32.ofNat (s_ti S t).length = 1 := ofNat_ne (b := 1) (by omega) (by decide) l1
    rw [if_pos l1']
    exact hne (fun z => l1 (isRd_iff.mp z).1)
end RPREP2
