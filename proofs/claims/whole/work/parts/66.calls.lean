/-! The calls of the class: deliver, drop, work. -/
def inR (n : Nat) (i : Int32) : Prop := 0 ≤ i ∧ i < Int32.ofNat n
theorem i_nat_lt {i : Int32} {n : Nat} (hn : n < 2147483648) (h : inR n i) : i.toNatClampNeg < n ∧ i = Int32.ofNat i.toNatClampNeg := by
  have e := i_self h.1
  refine ⟨?_, e⟩
  have l : i.toNatClampNeg < 2147483648 := by
    show i.toInt.toNat < 2147483648
    have := i.toInt_lt
    omega
  have h2 := h.2
  rw [e, i_lt l hn] at h2
  exact h2
theorem inR_of {c n : Nat} (hn : n < 2147483648) (h : c < n) : inR n (Int32.ofNat c) := ⟨i_nn (by omega), by rw [i_lt (by omega) hn]; exact h⟩
theorem i_nlt {i j : Int32} : ¬ i < j ↔ j ≤ i := by rw [Int32.lt_iff_toInt_lt, Int32.le_iff_toInt_le]; omega
theorem i_nle {i j : Int32} : ¬ i ≤ j ↔ j < i := by rw [Int32.lt_iff_toInt_lt, Int32.le_iff_toInt_le]; omega
/-- what the calls of the class ask of the state -/
def cliOK (z : zC) : Prop := ¬ c_op z = 0 → c_st z = 1 ∧ okY z ∧ (c_sg z = 1 ∨ c_sg z = 2 ∨ c_sg z = 3) ∧ (c_sg z = 1 → lastOK (c_cp z) (c_pa z) ∧ (¬ (c_pa z).length = 1 → ¬ zpar (c_pa z) = zlast (c_pa z)))
def msgOK (S : zS) (M : zM) : Prop := 1 ≤ M.2.1 ∧ M.2.1 ≤ s_bg S ∧ M.2.2.1 < 3 ∧ (isRd (s_ti S M.2.1) = true → ((s_ti S M.2.1).getD 0 zi0).2.1 / 8 = M.2.2.1) ∧ ∀ v, M.2.2.2 = some v → wfV v.2
def wS (S : zS) : Prop := opOK S ∧ (∀ d, d < 2 → ¬ c_op (s_cl S d) = 0 → s_tc S (c_op (s_cl S d)) = d) ∧ (∀ t, 1 ≤ t → t ≤ s_bg S → s_tc S t < 2 ∧ wfT (s_ti S t)) ∧ (∀ a, s_lk S a < 1000) ∧ (∀ i, i < (s_ms S).length → msgOK S ((s_ms S).getD i zm0)) ∧ (∀ d, d < 2 → cliOK (s_cl S d)) ∧ (∀ d, d < 2 → c_hi (s_cl S d) < 24 ∧ ∀ p q, c_cp (s_cl S d) p = some q → wfI q.2)
theorem wS_ms {S : zS} (w : wS S) : msOK S := fun i hi => ⟨(w.2.2.2.2.1 i hi).1, (w.2.2.2.2.1 i hi).2.1⟩
section CALL
variable {h h1 h2 : xv_H} {F f x y c t m n K bg B : Nat} {T : zT} {S : zS} {z : zC} {D : zD} {i : Int32}
theorem c11_eq : m11 F i h = some (b2i (decide (0 ≤ i ∧ i < 2)), h) := by
  unfold m11 b11_0
  by_cases a : i < 0
  · rw [if_pos a, decide_eq_false (fun q => (i_nlt.mpr q.1) a)]; rfl
  · rw [if_neg a]
    unfold b11_4
    by_cases b : (2 : Int32) ≤ i
    · rw [if_pos b, decide_eq_false (fun q => (i_nle.mpr q.2) b)]; rfl
    · rw [if_neg b, decide_eq_true ⟨i_nlt.mp a, i_nle.mp b⟩]; rfl
theorem c12_eq : m12 F i h = some (b2i (decide (0 ≤ i ∧ i < 100)), h) := by
  unfold m12 b12_0
  by_cases a : i < 0
  · rw [if_pos a, decide_eq_false (fun q => (i_nlt.mpr q.1) a)]; rfl
  · rw [if_neg a]
    unfold b12_4
    by_cases b : (100 : Int32) ≤ i
    · rw [if_pos b, decide_eq_false (fun q => (i_nle.mpr q.2) b)]; rfl
    · rw [if_neg b, decide_eq_true ⟨i_nlt.mp a, i_nle.mp b⟩]; rfl
theorem c101_eq : m101 F i h = some (b2i (decide (0 ≤ i ∧ i < 5)), h) := by
  unfold m101 b101_0
  by_cases a : i < 0
  · rw [if_pos a, decide_eq_false (fun q => (i_nlt.mpr q.1) a)]; rfl
  · rw [if_neg a]
    unfold b101_4
    by_cases b : (5 : Int32) ≤ i
    · rw [if_pos b, decide_eq_false (fun q => (i_nle.mpr q.2) b)]; rfl
    · rw [if_neg b, decide_eq_true ⟨i_nlt.mp a, i_nle.mp b⟩]; rfl
theorem c106_eq : m106 F i h = some (b2i (decide (0 ≤ i ∧ i < 3)), h) := by
  unfold m106 b106_0
  by_cases a : i < 0
  · rw [if_pos a, decide_eq_false (fun q => (i_nlt.mpr q.1) a)]; rfl
  · rw [if_neg a]
    unfold b106_4
    by_cases b : (3 : Int32) ≤ i
    · rw [if_pos b, decide_eq_false (fun q => (i_nle.mpr q.2) b)]; rfl
    · rw [if_neg b, decide_eq_true ⟨i_nlt.mp a, i_nle.mp b⟩]; rfl
theorem c68_eq (o : CR h S T) : m68 F 0 i h = some (b2i (decide (0 ≤ i ∧ i < Int32.ofNat (s_ms S).length)), h) := by
  obtain ⟨z0, z1, z2, z3, z4, zv⟩ := cr_0 o
  unfold m68 b68_0
  by_cases a : i < 0
  · rw [if_pos a, decide_eq_false (fun q => (i_nlt.mpr q.1) a)]; rfl
  · rw [if_neg a]
    unfold b68_4
    rw [nn_some, mb_mr, mb_some z2, nn_some, mb_mr, mb_some (ok_vc o.2.2.2.2.2.1), mb_some (c53_eq o.2.2.2.2.2)]
    by_cases b : Int32.ofNat (s_ms S).length ≤ i
    · rw [if_pos b, decide_eq_false (fun q => (i_nle.mpr q.2) b)]; rfl
    · rw [if_neg b, decide_eq_true ⟨i_nlt.mp a, i_nle.mp b⟩]; rfl
/-- deliver, drop -/
def Xdeliver (i : Int32) (S : zS) : Int32 × zS := if 0 ≤ i ∧ i < Int32.ofNat (s_ms S).length then (1, Zdeliver i.toNatClampNeg S) else (0, S)
def Xdrop (i : Int32) (S : zS) : Int32 × zS := if 0 ≤ i ∧ i < Int32.ofNat (s_ms S).length then (1, s_ms_ S ((s_ms S).eraseIdx i.toNatClampNeg)) else (0, S)
theorem getD_some {ms : List zM} {j : Nat} (hj : j < ms.length) : ms[j]? = some (ms.getD j zm0) := by
  rw [List.getD_eq_getElem?_getD, List.getElem?_eq_getElem hj]; rfl
theorem erase_mem {ms : List zM} {j : Nat} {P : zM → Prop} (h : ∀ i, i < ms.length → P (ms.getD i zm0)) : ∀ i, i < (ms.eraseIdx j).length → P ((ms.eraseIdx j).getD i zm0) := by
  intro i hi
  rw [getD_erase]
  rw [List.length_eraseIdx] at hi
  split at hi
  · split
    · exact h _ (by omega)
    · exact h _ (by omega)
  · split
    · exact h _ (by omega)
    · omega
theorem c98_tot (o : CR h S T) (w : wS S) : tot (m98 F 0 i) h (fun r h' => r = (Xdrop i S).1 ∧ CR h' (Xdrop i S).2 T ∧ gw 100 h h') := by
  obtain ⟨z0, z1, z2, z3, z4, zv⟩ := cr_0 o
  have h40 := o.2.2.2.2.2.2.2.1
  unfold m98 b98_0 Xdrop
  rw [nn_some, mb_mr]
  refine tot_bind zv (tot_bind (c68_eq o) ?_)
  by_cases q : 0 ≤ i ∧ i < Int32.ofNat (s_ms S).length
  · rw [decide_eq_true q, if_pos (by decide), if_pos q]
    obtain ⟨hj, ei⟩ := i_nat_lt (n := (s_ms S).length) (by omega) q
    generalize i.toNatClampNeg = j at *
    subst ei
    unfold b98_10
    rw [nn_some, mb_mr]
    refine tot_bind z2 ?_
    rw [nn_some, mb_mr]
    refine tot_bind (ok_vc o.2.2.2.2.2.1) (tot_mb (c75_tot o.2.2.2.2.2 hj) (fun r h1 q1 => ?_))
    obtain ⟨x, _, E, _, kq⟩ := q1
    exact tot_bind bz_1 (tot_mr ⟨rfl, CR_q E w.1 o kq, gw_le (gw_Q E) (by decide)⟩)
  · rw [decide_eq_false q, if_neg (by decide), if_neg q]
    exact tot_bind bz_0 (tot_mr ⟨rfl, o, gw_le gw_refl (by decide)⟩)
theorem c74_tot (hF : 1000 ≤ F) (o : CR h S T) (w : wS S) (hbg : s_bg S < 512) (g : hb 400 h) : tot (m74 F 0 i) h (fun r h' => r = (Xdeliver i S).1 ∧ (∃ T', CR h' (Xdeliver i S).2 T') ∧ gw 100 h h') := by
  obtain ⟨z0, z1, z2, z3, z4, zv⟩ := cr_0 o
  have h40 := o.2.2.2.2.2.2.2.1
  obtain ⟨w1, w2, w3, w4, w5, w6, w7⟩ := id w
  unfold m74 b74_0 Xdeliver
  rw [nn_some, mb_mr]
  refine tot_bind zv (tot_bind (c68_eq o) ?_)
  by_cases q : 0 ≤ i ∧ i < Int32.ofNat (s_ms S).length
  · rw [decide_eq_true q, if_pos (by decide), if_pos q]
    obtain ⟨hj, ei⟩ := i_nat_lt (n := (s_ms S).length) (by omega) q
    generalize i.toNatClampNeg = j at *
    subst ei
    unfold b74_10
    rw [nn_some, mb_mr]
    refine tot_bind z2 ?_
    rw [nn_some, mb_mr]
    refine tot_bind (ok_vc o.2.2.2.2.2.1) (tot_mb (c75_tot o.2.2.2.2.2 hj) (fun r h1 q1 => ?_))
    obtain ⟨x, rfl, E, oM, kq⟩ := q1
    have o1 := CR_q E w1 o kq
    obtain ⟨m1, m2, m3, m4, m5⟩ := w5 j hj
    unfold Zdeliver
    rw [getD_some hj]
    generalize (s_ms S).getD j zm0 = M at *
    obtain ⟨k, t, m, so⟩ := M
    dsimp only at *
    have g1 : hb 300 h1 := hb_ext (K := 0) E (hb_le g (by decide))
    obtain ⟨y0, y1, y2, y3, y4, yv⟩ := cr_0 o1
    have wm1 : msOK (s_ms_ S ((s_ms S).eraseIdx j)) := erase_mem (P := fun M => 1 ≤ M.2.1 ∧ M.2.1 ≤ s_bg S) (wS_ms w)
    have hk := oM.2.1
    dsimp only at hk
    refine tot_bind (ok_ct oM.1) ?_
    rw [nn_some, mb_mr]
    refine tot_bind (by rw [ok_gi oM.1, hk]) ?_
    have hear : tot (b74_38 F (some 0) (some x)) h1 (fun r h' => r = 1 ∧ (∃ T', CR h' (Zhear k t m so (s_ms_ S ((s_ms S).eraseIdx j))) T') ∧ gw 100 h h') := by
      unfold b74_38 b74_66
      rw [nn_some, mb_mr]
      refine tot_bind yv (tot_mb (c77_tot (S := s_ms_ S ((s_ms S).eraseIdx j)) hF o1 w1 wm1 w2 m1 m2 hbg (w3 t m1 m2).1 m3 oM g1 (fun e => ?_) m5) (fun _ h2 q2 => ?_))
      · have e' : c_op (s_cl S (s_tc S t)) = t := e
        have := w6 (s_tc S t) (w3 t m1 m2).1 (by omega)
        exact this.2
      · obtain ⟨T', r2, G2⟩ := q2
        exact tot_bind bz_1 (tot_mr ⟨rfl, ⟨T', r2⟩, gw_le (gw_trans (gw_Q E) G2) (by decide)⟩)
    by_cases k2 : k = 2
    · rw [if_pos k2, if_pos (Or.inl k2)]
      exact hear
    · rw [if_neg k2]
      unfold b74_30
      rw [nn_some, mb_mr]
      refine tot_bind (by rw [ok_gi oM.1, hk]) ?_
      by_cases k3 : k = 3
      · rw [if_neg (fun z => z k3), if_pos (Or.inr k3)]
        exact hear
      · rw [if_pos k3, if_neg (fun z => z.elim k2 k3)]
        unfold b74_46
        rw [nn_some, mb_mr]
        refine tot_bind y0 ?_
        rw [nn_some, mb_mr]
        refine tot_bind (by rw [ok_gi oM.1, oM.2.2.2.1]) ?_
        rw [nn_some, mb_mr]
        refine tot_bind (cr_mem o1 m3) ?_
        rw [nn_some, mb_mr]
        refine tot_bind (kM_d (o1.2.1 m m3)).2.2.2.2.2 ?_
        rw [s_dn_ms]
        cases hd : s_dn S m
        · rw [if_neg (by decide), if_neg (by decide)]
          unfold b74_61 b74_66
          rw [nn_some, mb_mr]
          refine tot_bind yv (tot_mb (c86_tot hF o1 w1 m1 m2 (by rw [s_bg_ms]; omega) m3 (w3 t m1 m2).2 w4 m4 oM (hb_le g1 (by decide))) (fun _ h2 q2 => ?_))
          exact tot_bind bz_1 (tot_mr ⟨rfl, ⟨T, q2.1⟩, gw_le (gw_trans (gw_Q E) q2.2) (by decide)⟩)
        · rw [if_pos (by decide), if_pos rfl]
          exact tot_bind bz_1 (tot_mr ⟨rfl, ⟨T, o1⟩, gw_le (gw_Q E) (by decide)⟩)
  · rw [decide_eq_false q, if_neg (by decide), if_neg q]
    exact tot_bind bz_0 (tot_mr ⟨rfl, ⟨T, o⟩, gw_le gw_refl (by decide)⟩)
end CALL
