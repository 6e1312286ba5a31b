/-! What a memory node does: accept, sight. -/
section MEM4
variable {h h1 h2 : xv_H} {F f x y c t m n K : Nat} {u : Bool} {ce : Nat → Int32 × zN} {lk : Nat → Nat} {rm : Nat → Nat → Int32} {its : List zI} {i : zI} {v : Int32 × zN}
theorem isRd_len (r : isRd its = true) : 0 < its.length := by
  unfold isRd at r
  rw [Bool.and_eq_true] at r
  have := r.1
  simp at this
  omega
/-- what accepts answers, cells, locks, remembered -/
def zacc (t m : Nat) (its : List zI) (ce : Nat → Int32 × zN) (lk : Nat → Nat) (rm : Nat → Nat → Int32) : Bool × (Nat → Int32 × zN) × (Nat → Nat) × (Nat → Nat → Int32) :=
  if isRd its = true then (lk (its.getD 0 zi0).2.1 == 0, ce, lk, rm)
  else if ¬ rm t m = 0 then (decide (¬ rm t m = 3), ce, lk, rm)
  else if zcan its m lk ce = false then (false, ce, lk, fset2 rm t m 3)
  else if sev its = true then (true, ce, zlo m t its lk, fset2 rm t m 1)
  else (true, zwr m its ce, lk, fset2 rm t m 2)
theorem c93_tot (hF : 1000 ≤ F) (hm : m < 3) (ht : t < 513) (hx : 77 ≤ x) (wf : wfT its) (hlk : ∀ a, lk a < 1000) (hrd : isRd its = true → (its.getD 0 zi0).2.1 / 8 = m) (g : hb 10 h) (o : kM h m u ce lk rm) (ot : okTx h x c t its) : tot (m93 F (6 + 4 * m) (some x)) h (fun r h' => r = b2i (zacc t m its ce lk rm).1 ∧ ext 6 Xf0 (XaM m) h h' ∧ kM h' m u (zacc t m its ce lk rm).2.1 (zacc t m its ce lk rm).2.2.1 (zacc t m its ce lk rm).2.2.2) := by
  obtain ⟨v3, _, _, m2, m3, _⟩ := kM_d o
  obtain ⟨v4, d1, _, _, _, _, d5, _⟩ := okTx_d ot
  have E0 : ext 6 Xf0 (XaM m) h h := ext_le ext_refl (by decide)
  unfold m93 b93_0 zacc
  rw [nn_some, mb_mr]
  refine tot_bind v4 (tot_bind (c94_eq ot wf) ?_)
  by_cases r : isRd its = true
  · rw [r, if_neg (by decide), if_pos rfl]
    unfold b93_7
    obtain ⟨y, y1, oy⟩ := okTx_it ot (j := 0) (isRd_len r)
    obtain ⟨hk, ha⟩ := wf 0 (isRd_len r)
    obtain ⟨_, _, g1, _⟩ := okI_d oy
    have q := hrd r
    rw [nn_some, mb_mr]
    refine tot_bind m2 ?_
    rw [nn_some, mb_mr]
    refine tot_bind d1 ?_
    rw [nn_some, mb_mr]
    refine tot_bind (show lr 107 (x + 1) 0 h = _ from y1) ?_
    rw [nn_some, mb_mr]
    refine tot_bind g1 (tot_bind (ok_dz (by decide)) ?_)
    rw [nn_some, mb_mr, i_mod8 _ ha]
    refine tot_bind (kM_lk o ha q) ?_
    have := hlk (its.getD 0 zi0).2.1
    by_cases q0 : lk (its.getD 0 zi0).2.1 = 0
    · rw [if_neg (fun z => z (by rw [q0]; rfl)), q0]
      unfold b93_27 b93_32
      exact tot_bind bz_1 (tot_mr ⟨rfl, E0, o⟩)
    · have q0b : (lk (its.getD 0 zi0).2.1 == 0) = false := by simpa using q0
      rw [if_pos (i_ne0 (by omega) q0), q0b]
      unfold b93_31 b93_32
      exact tot_bind bz_0 (tot_mr ⟨rfl, E0, o⟩)
  · have rf : isRd its = false := by simpa using r
    rw [rf, if_pos (by decide), if_neg (by decide)]
    unfold b93_33
    rw [nn_some, mb_mr]
    refine tot_bind m3 ?_
    rw [nn_some, mb_mr]
    refine tot_bind d5 ?_
    rw [nn_some, mb_mr]
    refine tot_bind (kM_rm o ht) ?_
    by_cases q0 : rm t m = 0
    · rw [if_pos q0, if_neg (fun z => z q0)]
      unfold b93_58
      rw [nn_some, mb_mr]
      refine tot_bind v3 (tot_bind (c95_eq hF hm wf hlk o ot) ?_)
      by_cases qc : zcan its m lk ce = true
      · rw [qc, if_pos (by decide), if_neg (by decide)]
        unfold b93_78
        rw [nn_some, mb_mr]
        refine tot_bind v4 (tot_bind (c79_eq ot hF) ?_)
        by_cases qs : sev its = true
        · rw [qs, if_neg (by decide), if_pos rfl]
          unfold b93_85
          rw [nn_some, mb_mr]
          refine tot_bind m3 ?_
          rw [nn_some, mb_mr]
          refine tot_bind d5 ?_
          rw [nn_some, mb_mr]
          refine tot_bind (ok_rem o hm ht (by decide)) ?_
          have o1 := kM_rmS (t := t) (w := 1) o hm
          have E1 : ext 0 Xf0 (XaM m) h (Uei h (9 + 4 * m) t 1) := ext_ei (Or.inr (Or.inr rfl))
          generalize Uei h (9 + 4 * m) t 1 = h1 at *
          have ot1 := okTx_M hm hx E1 ot
          obtain ⟨_, _, _, _, _, _, d5', _⟩ := okTx_d ot1
          refine tot_bind d5' (tot_bind (kM_d o1).1 (tot_mb (c91_tot (w := t) hF hm hx wf o1 ot1) (fun _ h2 q2 => ?_)))
          unfold b93_112
          exact tot_bind bz_1 (tot_mr ⟨rfl, ext_le (ext_trans (k1 := 0) (k2 := 0) E1 q2.1) (by decide), q2.2⟩)
        · have qf : sev its = false := by simpa using qs
          rw [qf, if_pos (by decide), if_neg (by decide)]
          unfold b93_107
          rw [nn_some, mb_mr]
          refine tot_bind v3 (tot_mb (c88_tot hF hm ht hx wf g o ot) (fun _ h2 q2 => ?_))
          unfold b93_112
          exact tot_bind bz_1 (tot_mr ⟨rfl, q2.1, q2.2⟩)
      · have qf : zcan its m lk ce = false := by simpa using qc
        rw [qf, if_neg (by decide), if_pos rfl]
        unfold b93_66
        rw [nn_some, mb_mr]
        refine tot_bind m3 ?_
        rw [nn_some, mb_mr]
        refine tot_bind d5 ?_
        rw [nn_some, mb_mr]
        refine tot_bind (ok_rem o hm ht (by decide)) ?_
        exact tot_bind bz_0 (tot_mr ⟨rfl, ext_le (ext_ei (Or.inr (Or.inr rfl))) (by decide), kM_rmS o hm⟩)
    · rw [if_neg q0, if_pos q0]
      unfold b93_47
      by_cases q3 : rm t m = 3
      · rw [if_pos q3, decide_eq_false (fun z => z q3)]
        unfold b93_56 b93_57
        exact tot_bind bz_0 (tot_mr ⟨rfl, E0, o⟩)
      · rw [if_neg q3, decide_eq_true q3]
        unfold b93_52 b93_57
        exact tot_bind bz_1 (tot_mr ⟨rfl, E0, o⟩)
/-- sightFor -/
theorem c97_eq (wf : wfT its) (hrd : isRd its = true → (its.getD 0 zi0).2.1 / 8 = m) (o : kM h m u ce lk rm) (ot : okTx h x c t its) : ∃ w, m97 F (6 + 4 * m) (some x) h = some (w, h) ∧ okO h w (if isRd its = true then some (ce (its.getD 0 zi0).2.1) else none) := by
  obtain ⟨v3, _, m1, m2, m3, _⟩ := kM_d o
  obtain ⟨v4, d1, _, _, _, _, d5, _⟩ := okTx_d ot
  unfold m97 b97_0
  by_cases r : isRd its = true
  · obtain ⟨y, y1, oy⟩ := okTx_it ot (j := 0) (isRd_len r)
    obtain ⟨hk, ha⟩ := wf 0 (isRd_len r)
    obtain ⟨_, _, g1, _⟩ := okI_d oy
    obtain ⟨xc, xc1, oxc⟩ := kM_ce o ha (hrd r)
    refine ⟨some xc, ?_, by rw [if_pos r]; exact ⟨xc, rfl, oxc⟩⟩
    rw [nn_some, mb_mr, mb_some v4, mb_some (c94_eq ot wf), r, if_neg (by decide)]
    unfold b97_7
    rw [nn_some, mb_mr, mb_some m1, nn_some, mb_mr, mb_some d1, nn_some, mb_mr, mb_some (show lr 107 (x + 1) 0 h = _ from y1), nn_some, mb_mr, mb_some g1, mb_some (ok_dz (by decide)), nn_some, mb_mr, i_mod8 _ ha, mb_some xc1]
    rfl
  · have rf : isRd its = false := by simpa using r
    refine ⟨none, ?_, by rw [if_neg r]; rfl⟩
    rw [nn_some, mb_mr, mb_some v4, mb_some (c94_eq ot wf), rf, if_pos (by decide)]
    rfl
end MEM4
