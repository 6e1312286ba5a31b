/-! The calls of the class that only look. -/
def Omessages (S : zS) : Int32 := Int32.ofNat (s_ms S).length
def Omessage (i : Int32) (S : zS) : Int32 := if 0 ≤ i ∧ i < Int32.ofNat (s_ms S).length then 10000 * ((s_ms S).getD i.toNatClampNeg zm0).1 + 10 * Int32.ofNat ((s_ms S).getD i.toNatClampNeg zm0).2.1 + Int32.ofNat ((s_ms S).getD i.toNatClampNeg zm0).2.2.1 else -1
def Owork (i : Int32) (S : zS) : Int32 := if 0 ≤ i ∧ i < 2 then c_st (s_cl S i.toNatClampNeg) else -1
def OaboutZ (w : Int32) (z : zC) : Int32 := if w = 0 then (if c_st z = 3 then c_re z else 0) else if w = 1 then (if c_st z = 0 then 0 else c_fu z) else if w = 2 then (if c_st z = 0 ∨ ¬ c_jb z = 4 then 0 else Int32.ofNat (c_lf z).length) else if w = 3 then Int32.ofNat (c_op z) else if w = 4 then Int32.ofNat (c_hi z) else -1
def Oabout (i w : Int32) (S : zS) : Int32 := if 0 ≤ i ∧ i < 2 then OaboutZ w (s_cl S i.toNatClampNeg) else -1
def Ocopy (i a : Int32) (S : zS) : Int32 := if (0 ≤ i ∧ i < 2) ∧ (0 ≤ a ∧ a < 24) then (match c_cp (s_cl S i.toNatClampNeg) a.toNatClampNeg with | none => 0 | some v => v.1) else -1
def Ocell (a w : Int32) (S : zS) : Int32 := if 0 ≤ a ∧ a < 24 then (if w = 0 then (s_ce S a.toNatClampNeg).2.1 else if w = 1 then (s_ce S a.toNatClampNeg).1 else if w = 2 then Int32.ofNat (s_lk S a.toNatClampNeg) else if w = 3 then Int32.ofNat (s_ce S a.toNatClampNeg).2.2.2.2.1.length else if w = 4 then (s_ce S a.toNatClampNeg).2.2.1 else if w = 5 then (s_ce S a.toNatClampNeg).2.2.2.1 else -1) else -1
def Okey (a i : Int32) (S : zS) : Int32 := if (0 ≤ a ∧ a < 24) ∧ (0 ≤ i ∧ i < Int32.ofNat (s_ce S a.toNatClampNeg).2.2.2.2.1.length) then (s_ce S a.toNatClampNeg).2.2.2.2.1.getD i.toNatClampNeg 0 else -1
def Oitem (a i : Int32) (S : zS) : Int32 := if (0 ≤ a ∧ a < 24) ∧ (0 ≤ i ∧ i < Int32.ofNat (s_ce S a.toNatClampNeg).2.2.2.2.2.length) then (s_ce S a.toNatClampNeg).2.2.2.2.2.getD i.toNatClampNeg 0 else 0
def Oremembers (m t : Int32) (S : zS) : Int32 := if (0 ≤ m ∧ m < 3) ∧ (1 ≤ t ∧ t ≤ Int32.ofNat (s_bg S)) then s_rm S t.toNatClampNeg m.toNatClampNeg else -1
section OBS
variable {h h1 h2 : xv_H} {F f x y c t m n K bg B : Nat} {T : zT} {S : zS} {z : zC} {i a w : Int32}
theorem c117_eq : m117 F i h = some (b2i (decide (0 ≤ i ∧ i < 24)), h) := by
  unfold m117 b117_0
  by_cases a : i < 0
  · rw [if_pos a, decide_eq_false (fun q => (i_nlt.mpr q.1) a)]; rfl
  · rw [if_neg a]
    unfold b117_4
    by_cases b : (24 : Int32) ≤ i
    · rw [if_pos b, decide_eq_false (fun q => (i_nle.mpr q.2) b)]; rfl
    · rw [if_neg b, decide_eq_true ⟨i_nlt.mp a, i_nle.mp b⟩]; rfl
theorem c66_eq (o : CR h S T) : m66 F 0 h = some (Omessages S, h) := by
  obtain ⟨z0, z1, z2, z3, z4, zv⟩ := cr_0 o
  unfold m66 b66_0
  rw [nn_some, mb_mr, mb_some z2, nn_some, mb_mr, mb_some (ok_vc o.2.2.2.2.2.1), mb_some (c53_eq o.2.2.2.2.2)]; rfl
theorem c67_eq (o : CR h S T) (w : wS S) : m67 F 0 i h = some (Omessage i S, h) := by
  obtain ⟨z0, z1, z2, z3, z4, zv⟩ := cr_0 o
  have h40 := o.2.2.2.2.2.2.2.1
  unfold m67 b67_0 Omessage
  rw [nn_some, mb_mr, mb_some zv, mb_some (c68_eq o)]
  by_cases q : 0 ≤ i ∧ i < Int32.ofNat (s_ms S).length
  · rw [decide_eq_true q, if_neg (by decide), if_pos q]
    obtain ⟨hj, ei⟩ := i_nat_lt (n := (s_ms S).length) (by omega) q
    generalize i.toNatClampNeg = j at *
    subst ei
    obtain ⟨x, e69, oM⟩ := c69_eq (F := F) o.2.2.2.2.2 hj
    obtain ⟨m1, m2, _⟩ := w.2.2.2.2.1 j hj
    obtain ⟨x7, ot⟩ := cr_tx o m1 m2
    unfold b67_8
    rw [nn_some, mb_mr, mb_some z2, nn_some, mb_mr, mb_some (ok_vc o.2.2.2.2.2.1), mb_some e69, mb_some (ok_ct oM.1), nn_some, mb_mr, mb_some (ok_vc oM.1)]
    have e73 : m73 F x h = some (10000 * ((s_ms S).getD j zm0).1 + 10 * Int32.ofNat ((s_ms S).getD j zm0).2.1 + Int32.ofNat ((s_ms S).getD j zm0).2.2.1, h) := by
      unfold m73 b73_0
      rw [nn_some, mb_mr, mb_some (ok_gi oM.1), oM.2.1, mb_some (ok_gr oM.1), oM.2.2.1, nn_some, mb_mr, mb_some (okTx_d ot).2.2.2.2.2.2.1, mb_some (ok_gi oM.1), oM.2.2.2.1]; rfl
    rw [mb_some e73]; rfl
  · rw [decide_eq_false q, if_pos (by decide), if_neg q]; rfl
theorem c111_eq (o : CR h S T) : m111 F 0 i h = some (Owork i S, h) := by
  obtain ⟨z0, z1, z2, z3, z4, zv⟩ := cr_0 o
  unfold m111 b111_0 Owork
  rw [mb_some c11_eq]
  by_cases q1 : 0 ≤ i ∧ i < 2
  · rw [decide_eq_true q1, if_neg (by decide), if_pos q1]
    obtain ⟨hc, ei⟩ := i_nat_lt (n := 2) (by decide) q1
    generalize i.toNatClampNeg = c at *
    subst ei
    obtain ⟨ek, ak, k1, k2, k3, k4, k5⟩ := o.2.2.1 c hc
    unfold b111_7
    rw [nn_some, mb_mr, mb_some z1, nn_some, mb_mr, mb_some (cr_cli o hc), nn_some, mb_mr, mb_some (cs_102 k1), nn_some, mb_mr, mb_some (cs_207 k1)]; rfl
  · rw [decide_eq_false q1, if_pos (by decide), if_neg q1]; rfl
theorem c112_eq (o : CR h S T) (w0 : opOK S) (hJ : ∀ d, d < 2 → ¬ c_st (s_cl S d) = 0 → isJ (c_jb (s_cl S d))) : m112 F 0 i w h = some (Oabout i w S, h) := by
  obtain ⟨z0, z1, z2, z3, z4, zv⟩ := cr_0 o
  unfold m112 b112_0 Oabout
  rw [mb_some c11_eq]
  by_cases q1 : 0 ≤ i ∧ i < 2
  · rw [decide_eq_true q1, if_pos (by decide), if_pos q1]
    obtain ⟨hc, ei⟩ := i_nat_lt (n := 2) (by decide) q1
    generalize i.toNatClampNeg = c at *
    subst ei
    obtain ⟨ek, ak, k1, k2, k3, k4, k5⟩ := o.2.2.1 c hc
    have hJ := hJ c hc
    have hx := cr_hx o w0 hc
    generalize s_cl S c = z at *
    unfold b112_9 OaboutZ
    rw [nn_some, mb_mr, mb_some z1, nn_some, mb_mr, mb_some (cr_cli o hc)]
    by_cases w0 : w = 0
    · rw [if_pos w0, if_pos w0]
      unfold b112_52
      rw [nn_some, mb_mr, mb_some (cs_102 k1), nn_some, mb_mr, mb_some (ok_vc (cs_lJ k1))]
      have e : m113 F (23 + 6 * c + 2) h = some (if c_st z = 3 then c_re z else 0, h) := by
        unfold m113 b113_0
        rw [nn_some, mb_mr, mb_some (cs_207 k1)]
        by_cases s3 : c_st z = 3
        · rw [if_neg (fun q => q s3), if_pos s3]
          unfold b113_8
          rw [nn_some, mb_mr, mb_some (cs_210 k1)]; rfl
        · rw [if_pos s3, if_neg s3]; rfl
      rw [mb_some e]; rfl
    · rw [if_neg w0, if_neg w0]
      by_cases w1 : w = 1
      · rw [if_pos w1, if_pos w1]
        unfold b112_60
        rw [nn_some, mb_mr, mb_some (cs_102 k1), nn_some, mb_mr, mb_some (ok_vc (cs_lJ k1))]
        have e : m114 F (23 + 6 * c + 2) h = some (if c_st z = 0 then 0 else c_fu z, h) := by
          unfold m114 b114_0
          rw [nn_some, mb_mr, mb_some (cs_207 k1)]
          by_cases s3 : c_st z = 0
          · rw [if_neg (fun q => q s3), if_pos s3]; rfl
          · rw [if_pos s3, if_neg s3]
            unfold b114_11
            rw [nn_some, mb_mr, mb_some (cs_208 k1)]; rfl
        rw [mb_some e]; rfl
      · rw [if_neg w1, if_neg w1]
        by_cases w2 : w = 2
        · rw [if_pos w2, if_pos w2]
          unfold b112_68
          rw [nn_some, mb_mr, mb_some (cs_102 k1), nn_some, mb_mr, mb_some (ok_vc (cs_lJ k1))]
          have e : m115 F (23 + 6 * c + 2) h = some (if c_st z = 0 ∨ ¬ c_jb z = 4 then 0 else Int32.ofNat (c_lf z).length, h) := by
            unfold m115 b115_0
            rw [nn_some, mb_mr, mb_some (cs_207 k1)]
            by_cases s3 : c_st z = 0
            · rw [if_pos s3, if_pos (Or.inl s3)]; rfl
            · rw [if_neg s3]
              have hj := hJ s3
              unfold b115_7
              rw [nn_some, mb_mr, mb_some (cs_203 k1 (isJ_ne hj)), mb_some (ok_cqJ hj (by decide))]
              by_cases j4 : c_jb z = 4
              · rw [if_pos ((J6 hj).mpr j4), if_neg (fun q => q.elim s3 (fun r => r j4))]
                unfold b115_21
                rw [nn_some, mb_mr, mb_some (cs_202 k1)]; rfl
              · rw [if_neg (fun q => j4 ((J6 hj).mp q)), if_pos (Or.inr j4)]; rfl
          rw [mb_some e]; rfl
        · rw [if_neg w2, if_neg w2]
          by_cases w3 : w = 3
          · rw [if_pos w3, if_pos w3]
            unfold b112_76
            rw [nn_some, mb_mr, mb_some (ok_gr (cs_lB k1)), k4]
            by_cases q0 : c_op z = 0
            · rw [if_pos q0, if_neg (fun q => q rfl), q0]; rfl
            · rw [if_neg q0, if_pos (by simp)]
              rw [if_neg q0] at k4
              unfold b112_87
              rw [nn_some, mb_mr, mb_some (ok_gr (cs_lB k1)), k4, nn_some, mb_mr, mb_some (okTx_d (hx q0).2).2.2.2.2.2.2.1]; rfl
          · rw [if_neg w3, if_neg w3]
            by_cases w4 : w = 4
            · rw [if_pos w4, if_pos w4]
              unfold b112_95
              rw [nn_some, mb_mr, mb_some (cs_108 k1)]; rfl
            · rw [if_neg w4, if_neg w4]; rfl
  · rw [decide_eq_false q1, if_neg (by decide), if_neg q1]; rfl
theorem c116_eq (o : CR h S T) : m116 F 0 i a h = some (Ocopy i a S, h) := by
  obtain ⟨z0, z1, z2, z3, z4, zv⟩ := cr_0 o
  unfold m116 b116_0 Ocopy
  rw [mb_some c11_eq]
  by_cases q1 : 0 ≤ i ∧ i < 2
  · rw [decide_eq_true q1, if_neg (by decide)]
    unfold b116_7
    rw [mb_some c117_eq]
    by_cases q2 : 0 ≤ a ∧ a < 24
    · rw [decide_eq_true q2, if_pos (by decide), if_pos ⟨q1, q2⟩]
      obtain ⟨hc, ei⟩ := i_nat_lt (n := 2) (by decide) q1
      obtain ⟨ha, ea⟩ := i_nat_lt (n := 24) (by decide) q2
      generalize i.toNatClampNeg = c at *
      generalize a.toNatClampNeg = b at *
      subst ei
      subst ea
      obtain ⟨ek, ak, k1, k2, k3, k4, k5⟩ := o.2.2.1 c hc
      have hC := cs_lC k1
      have kc := k1.1.2.2.2.2 b ha
      unfold b116_16
      rw [nn_some, mb_mr, mb_some z1, nn_some, mb_mr, mb_some (cr_cli o hc), nn_some, mb_mr, mb_some (cs_101 k1), nn_some, mb_mr, mb_some (ok_lr hC.1 (i_nn (by omega)) (by rw [i_nat (by omega), hC.2]; exact ha)), i_nat (by omega)]
      cases hcp : c_cp (s_cl S c) b with
      | none =>
        rw [hcp] at kc
        have : Her h (23 + 6 * c + 1) b = none := kc
        rw [this, if_neg (fun q => q rfl)]; rfl
      | some v =>
        rw [hcp] at kc
        obtain ⟨x, x1, ox⟩ := kc
        rw [x1, if_pos (by simp)]
        unfold b116_36
        rw [nn_some, mb_mr, mb_some (ok_gi ox.1), ox.2.1]; rfl
    · rw [decide_eq_false q2, if_neg (by decide), if_neg (fun z => q2 z.2)]; rfl
  · rw [decide_eq_false q1, if_pos (by decide), if_neg (fun z => q1 z.1)]; rfl
theorem c119_eq (o : CR h S T) {b : Nat} (hb : b < 24) : ∃ x, m119 F 0 (Int32.ofNat b) h = some (some x, h) ∧ okCell h x (s_ce S b) := by
  obtain ⟨z0, z1, z2, z3, z4, zv⟩ := cr_0 o
  have hm : b / 8 < 3 := by omega
  obtain ⟨x, x1, ox⟩ := kM_ce (o.2.1 (b / 8) hm) hb rfl
  refine ⟨x, ?_, ox⟩
  unfold m119 b119_0
  rw [nn_some, mb_mr, mb_some z0, mb_some (ok_dz (by decide)), nn_some, mb_mr, i_mod8 _ hb, i_div8 _ hb, mb_some (cr_mem o hm), nn_some, mb_mr, mb_some (kM_d (o.2.1 (b / 8) hm)).2.2.1, mb_some (ok_dz (by decide)), nn_some, mb_mr, mb_some x1]; rfl
theorem c118_eq (o : CR h S T) : m118 F 0 a w h = some (Ocell a w S, h) := by
  obtain ⟨z0, z1, z2, z3, z4, zv⟩ := cr_0 o
  unfold m118 b118_0 Ocell
  rw [mb_some c117_eq]
  by_cases q2 : 0 ≤ a ∧ a < 24
  · rw [decide_eq_true q2, if_pos (by decide), if_pos q2]
    obtain ⟨ha, ea⟩ := i_nat_lt (n := 24) (by decide) q2
    generalize a.toNatClampNeg = b at *
    subst ea
    obtain ⟨x, x1, ox⟩ := c119_eq (F := F) o ha
    obtain ⟨nb, r1, r2, on, v6⟩ := cell_d ox
    obtain ⟨kk, ii, ⟨lb, g6⟩, ⟨g0, g1, g2, g3, g4⟩, ik, ok, im1, oi⟩ := okN_d on
    unfold b118_9
    rw [nn_some, mb_mr, mb_some zv, mb_some x1]
    by_cases w0 : w = 0
    · rw [if_pos w0, if_pos w0]
      unfold b118_56
      rw [nn_some, mb_mr, mb_some r1, nn_some, mb_mr, mb_some g0]; rfl
    · rw [if_neg w0, if_neg w0]
      by_cases w1 : w = 1
      · rw [if_pos w1, if_pos w1]
        unfold b118_64
        rw [nn_some, mb_mr, mb_some r2]; rfl
      · rw [if_neg w1, if_neg w1]
        by_cases w2 : w = 2
        · rw [if_pos w2, if_pos w2]
          unfold b118_69
          have hm : b / 8 < 3 := by omega
          rw [nn_some, mb_mr, mb_some z0, mb_some (ok_dz (by decide)), nn_some, mb_mr, i_mod8 _ ha, i_div8 _ ha, mb_some (cr_mem o hm), nn_some, mb_mr, mb_some (kM_d (o.2.1 (b / 8) hm)).2.2.2.1, mb_some (ok_dz (by decide)), nn_some, mb_mr, mb_some (kM_lk (o.2.1 (b / 8) hm) ha rfl)]; rfl
        · rw [if_neg w2, if_neg w2]
          by_cases w3 : w = 3
          · rw [if_pos w3, if_pos w3]
            unfold b118_87
            rw [nn_some, mb_mr, mb_some r1, nn_some, mb_mr, mb_some g3, nn_some, mb_mr, mb_some (ok_len ok.1), ok.2.1]; rfl
          · rw [if_neg w3, if_neg w3]
            by_cases w4 : w = 4
            · rw [if_pos w4, if_pos w4]
              unfold b118_96
              rw [nn_some, mb_mr, mb_some r1, nn_some, mb_mr, mb_some g1]; rfl
            · rw [if_neg w4, if_neg w4]
              by_cases w5 : w = 5
              · rw [if_pos w5, if_pos w5]
                unfold b118_104
                rw [nn_some, mb_mr, mb_some r1, nn_some, mb_mr, mb_some g2]; rfl
              · rw [if_neg w5, if_neg w5]; rfl
  · rw [decide_eq_false q2, if_neg (by decide), if_neg q2]; rfl
theorem c120_eq (o : CR h S T) (hl : ∀ b, b < 24 → (s_ce S b).2.2.2.2.1.length < 60) : m120 F 0 a i h = some (Okey a i S, h) := by
  obtain ⟨z0, z1, z2, z3, z4, zv⟩ := cr_0 o
  unfold m120 b120_0 Okey
  rw [mb_some c117_eq]
  by_cases q2 : 0 ≤ a ∧ a < 24
  · rw [decide_eq_true q2, if_pos (by decide)]
    obtain ⟨ha, ea⟩ := i_nat_lt (n := 24) (by decide) q2
    have hl := hl _ ha
    generalize a.toNatClampNeg = b at *
    subst ea
    obtain ⟨x, x1, ox⟩ := c119_eq (F := F) o ha
    obtain ⟨nb, r1, r2, on, v6⟩ := cell_d ox
    obtain ⟨kk, ii, ⟨lb, g6⟩, ⟨g0, g1, g2, g3, g4⟩, ik, ok, im1, oi⟩ := okN_d on
    unfold b120_9
    rw [nn_some, mb_mr, mb_some zv, mb_some x1, nn_some, mb_mr, mb_some r1, nn_some, mb_mr, mb_some g3]
    by_cases n0 : i < 0
    · rw [if_pos n0, if_neg (fun z => (i_nlt.mpr z.2.1) n0)]; rfl
    · rw [if_neg n0]
      unfold b120_25
      rw [nn_some, mb_mr, mb_some (ok_len ok.1), ok.2.1]
      by_cases n1 : Int32.ofNat (s_ce S b).2.2.2.2.1.length ≤ i
      · rw [if_pos n1, if_neg (fun z => (i_nle.mpr z.2.2) n1)]; rfl
      · have qi : 0 ≤ i ∧ i < Int32.ofNat (s_ce S b).2.2.2.2.1.length := ⟨i_nlt.mp n0, i_nle.mp n1⟩
        rw [if_neg n1, if_pos ⟨q2, qi⟩]
        obtain ⟨hj, ei⟩ := i_nat_lt (by omega) qi
        generalize i.toNatClampNeg = j at *
        subst ei
        unfold b120_31
        rw [nn_some, mb_mr, mb_some (ok_li ok.1 (i_nn (by omega)) (by rw [i_nat (by omega), ok.2.1]; exact hj)), i_nat (by omega), ok.2.2 j hj]; rfl
  · rw [decide_eq_false q2, if_neg (by decide), if_neg (fun z => q2 z.1)]; rfl
theorem c121_eq (o : CR h S T) (hl : ∀ b, b < 24 → (s_ce S b).2.2.2.2.2.length < 60) : m121 F 0 a i h = some (Oitem a i S, h) := by
  obtain ⟨z0, z1, z2, z3, z4, zv⟩ := cr_0 o
  unfold m121 b121_0 Oitem
  rw [mb_some c117_eq]
  by_cases q2 : 0 ≤ a ∧ a < 24
  · rw [decide_eq_true q2, if_pos (by decide)]
    obtain ⟨ha, ea⟩ := i_nat_lt (n := 24) (by decide) q2
    have hl := hl _ ha
    generalize a.toNatClampNeg = b at *
    subst ea
    obtain ⟨x, x1, ox⟩ := c119_eq (F := F) o ha
    obtain ⟨nb, r1, r2, on, v6⟩ := cell_d ox
    obtain ⟨kk, ii, ⟨lb, g6⟩, ⟨g0, g1, g2, g3, g4⟩, ik, ok, im1, oi⟩ := okN_d on
    unfold b121_9
    rw [nn_some, mb_mr, mb_some zv, mb_some x1, nn_some, mb_mr, mb_some r1, nn_some, mb_mr, mb_some g4]
    by_cases n0 : i < 0
    · rw [if_pos n0, if_neg (fun z => (i_nlt.mpr z.2.1) n0)]; rfl
    · rw [if_neg n0]
      unfold b121_25
      rw [nn_some, mb_mr, mb_some (ok_len oi.1), oi.2.1]
      by_cases n1 : Int32.ofNat (s_ce S b).2.2.2.2.2.length ≤ i
      · rw [if_pos n1, if_neg (fun z => (i_nle.mpr z.2.2) n1)]; rfl
      · have qi : 0 ≤ i ∧ i < Int32.ofNat (s_ce S b).2.2.2.2.2.length := ⟨i_nlt.mp n0, i_nle.mp n1⟩
        rw [if_neg n1, if_pos ⟨q2, qi⟩]
        obtain ⟨hj, ei⟩ := i_nat_lt (by omega) qi
        generalize i.toNatClampNeg = j at *
        subst ei
        unfold b121_31
        rw [nn_some, mb_mr, mb_some (ok_li oi.1 (i_nn (by omega)) (by rw [i_nat (by omega), oi.2.1]; exact hj)), i_nat (by omega), oi.2.2 j hj]; rfl
  · rw [decide_eq_false q2, if_neg (by decide), if_neg (fun z => q2 z.1)]; rfl
theorem c122_eq (o : CR h S T) (hbg : s_bg S ≤ 512) : m122 F 0 a i h = some (Oremembers a i S, h) := by
  obtain ⟨z0, z1, z2, z3, z4, zv⟩ := cr_0 o
  unfold m122 b122_0 Oremembers
  rw [mb_some c106_eq]
  by_cases q2 : 0 ≤ a ∧ a < 3
  · rw [decide_eq_true q2, if_neg (by decide)]
    obtain ⟨hm, ea⟩ := i_nat_lt (n := 3) (by decide) q2
    generalize a.toNatClampNeg = m at *
    subst ea
    unfold b122_7
    by_cases n0 : i < 1
    · rw [if_pos n0, if_neg (fun z => (i_nlt.mpr z.2.1) n0)]; rfl
    · rw [if_neg n0]
      unfold b122_12
      rw [nn_some, mb_mr, mb_some z4]
      by_cases n1 : i ≤ Int32.ofNat (s_bg S)
      · rw [if_pos n1, if_pos ⟨q2, i_nlt.mp n0, n1⟩]
        have i0 : (0 : Int32) ≤ i := by
          have a1 := i_nlt.mp n0
          rw [Int32.le_iff_toInt_le] at a1 ⊢
          have e1 : (1 : Int32).toInt = 1 := by decide
          have e0 : (0 : Int32).toInt = 0 := by decide
          omega
        have ei := i_self i0
        have hj : i.toNatClampNeg < 513 := by
          have l : i.toNatClampNeg < 2147483648 := by
            show i.toInt.toNat < 2147483648
            have := i.toInt_lt
            omega
          rw [ei, i_le l (by omega)] at n1
          omega
        generalize i.toNatClampNeg = j at *
        subst ei
        unfold b122_22
        rw [nn_some, mb_mr, mb_some z0, nn_some, mb_mr, mb_some (cr_mem o hm), nn_some, mb_mr, mb_some (kM_d (o.2.1 m hm)).2.2.2.2.1, nn_some, mb_mr, mb_some (kM_rm (o.2.1 m hm) hj)]; rfl
      · rw [if_neg n1, if_neg (fun z => n1 z.2.2)]; rfl
  · rw [decide_eq_false q2, if_pos (by decide), if_neg (fun z => q2 z.1)]; rfl
end OBS
