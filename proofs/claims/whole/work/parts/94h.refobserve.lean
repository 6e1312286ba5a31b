/-! The reference: the calls that only look. -/
section ROBS
variable {h : xv_H} {F c n L t m : Nat} {S : zS} {P : List zI} {z : zC} {i a w : Int32}
theorem le2 : (i ≤ 2) ↔ i < 3 := by rw [Int32.le_iff_toInt_le, Int32.lt_iff_toInt_lt]; have e1 : (2 : Int32).toInt = 2 := by decide
                                    have e2 : (3 : Int32).toInt = 3 := by decide
                                    omega
theorem le23 : (i ≤ 23) ↔ i < 24 := by rw [Int32.le_iff_toInt_le, Int32.lt_iff_toInt_lt]; have e1 : (23 : Int32).toInt = 23 := by decide
                                       have e2 : (24 : Int32).toInt = 24 := by decide
                                       omega
theorem len1 {l : Nat} (hl : l < 1000) : (0 ≤ i ∧ i ≤ Int32.ofNat l - 1) ↔ (0 ≤ i ∧ i < Int32.ofNat l) := by
  by_cases z : l = 0
  · subst z
    have e1 : (Int32.ofNat 0 - 1).toInt = -1 := by decide
    have e2 : (Int32.ofNat 0).toInt = 0 := by decide
    have e0 : (0 : Int32).toInt = 0 := by decide
    rw [Int32.le_iff_toInt_le, Int32.le_iff_toInt_le, Int32.lt_iff_toInt_lt, e1, e2, e0]
    omega
  · rw [i_sub1 (by omega) (by omega), Int32.le_iff_toInt_le, Int32.le_iff_toInt_le, Int32.lt_iff_toInt_lt, i_toInt (by omega), i_toInt (by omega)]
    omega
theorem len0 {l : Nat} (hl : l < 1000) : (0 ≤ i ∧ i ≤ Int32.ofNat l) ↔ (0 ≤ i ∧ i < Int32.ofNat (l + 1)) := by
  rw [Int32.le_iff_toInt_le, Int32.le_iff_toInt_le, Int32.lt_iff_toInt_lt, i_toInt (by omega), i_toInt (by omega)]
  omega
theorem r125_eq (o : RR h S) : m125 F 37 h = some (Omessages S, h) := by
  unfold m125 b125_0
  rw [nn_some, mb_mr, mb_some (g915 o.1), o.2.2.2.2.2.2.1.1]; rfl
theorem r126_eq (o : RR h S) : m126 F 37 i h = some (Omessage i S, h) := by
  obtain ⟨q1, q2, q3⟩ := o.2.2.2.2.2.2.1
  have rf := o.1
  unfold m126 b126_0 Omessage
  rw [nn_some, mb_mr, mb_some (g915 rf), mb_some r127_eq, q1]
  by_cases q : 0 ≤ i ∧ i < Int32.ofNat (s_ms S).length
  · rw [decide_eq_true ((len1 (by omega)).mpr q), if_neg (by decide), if_pos q]
    obtain ⟨hj, ei⟩ := i_nat_lt (n := (s_ms S).length) (by omega) q
    generalize i.toNatClampNeg = j at *
    subst ei
    obtain ⟨m1, m2, m3, _⟩ := q3 j hj
    unfold b126_14
    rw [nn_some, mb_mr, mb_some (g916 rf), nn_some, mb_mr, mb_some (l51 rf (by omega)), mb_some (g917 rf), nn_some, mb_mr, mb_some (l52 rf (by omega)), mb_some (g918 rf), nn_some, mb_mr, mb_some (l53 rf (by omega)), m1, m2, m3]; rfl
  · rw [decide_eq_false (fun z => q ((len1 (by omega)).mp z)), if_pos (by decide), if_neg q]; rfl
theorem r181_eq (o : RR h S) : m181 F 37 i h = some (Owork i S, h) := by
  have rf := o.1
  unfold m181 b181_0 Owork
  rw [mb_some r127_eq]
  by_cases q1 : 0 ≤ i ∧ i < 2
  · rw [decide_eq_true (show 0 ≤ i ∧ i ≤ 1 from ⟨q1.1, le1.mpr q1.2⟩), if_neg (by decide), if_pos q1]
    obtain ⟨hc, ei⟩ := i_nat_lt (n := 2) (by decide) q1
    generalize i.toNatClampNeg = c at *
    subst ei
    have rc := (RR_c hc o).2.2.2.2.2.2.2.1
    have e61 : Hei h 61 c = c_st (s_cl S c) := rv_at rc (by unfold rv; simp)
    unfold b181_9
    rw [nn_some, mb_mr, mb_some (g926 rf), nn_some, mb_mr, mb_some (l61 rf hc), e61]; rfl
  · rw [decide_eq_false (fun z => q1 ⟨z.1, le1.mp z.2⟩), if_pos (by decide), if_neg q1]; rfl
theorem r182_eq (o : RR h S) : m182 F 37 i w h = some (Oabout i w S, h) := by
  have rf := o.1
  unfold m182 b182_0 Oabout
  rw [mb_some r127_eq]
  by_cases q1 : 0 ≤ i ∧ i < 2
  · rw [decide_eq_true (show 0 ≤ i ∧ i ≤ 1 from ⟨q1.1, le1.mpr q1.2⟩), if_pos (by decide), if_pos q1]
    obtain ⟨hc, ei⟩ := i_nat_lt (n := 2) (by decide) q1
    generalize i.toNatClampNeg = c at *
    subst ei
    have rc := (RR_c hc o).2.2.2.2.2.2.2.1
    generalize s_cl S c = z at *
    have e61 : Hei h 61 c = c_st z := rv_at rc (by unfold rv; simp)
    have e60 : Hei h 60 c = if c_st z = 0 then 0 else c_jb z := rv_at rc (by unfold rv; simp)
    have e62 : Hei h 62 c = if c_st z = 0 then 0 else c_fu z := rv_at rc (by unfold rv; simp)
    have e69 : Hei h 69 c = Int32.ofNat (c_op z) := rv_at rc (by unfold rv; simp)
    have e59 : Hei h 59 c = Int32.ofNat (c_hi z) := rv_at rc (by unfold rv; simp)
    unfold b182_11 OaboutZ
    by_cases w0 : w = 0
    · rw [if_pos w0, if_pos w0]
      unfold b182_48
      rw [nn_some, mb_mr, mb_some (g926 rf), nn_some, mb_mr, mb_some (l61 rf hc), e61]
      by_cases s3 : c_st z = 3
      · rw [if_neg (fun q => q s3), if_pos s3]
        have e67 : Hei h 67 c = c_re z := rv_at rc (by unfold rv lev; simp [s3])
        unfold b182_58
        rw [nn_some, mb_mr, mb_some (g932 rf), nn_some, mb_mr, mb_some (l67 rf hc), e67]; rfl
      · rw [if_pos s3, if_neg s3]; rfl
    · rw [if_neg w0, if_neg w0]
      by_cases w1 : w = 1
      · rw [if_pos w1, if_pos w1]
        unfold b182_69
        rw [nn_some, mb_mr, mb_some (g927 rf), nn_some, mb_mr, mb_some (l62 rf hc), e62]; rfl
      · rw [if_neg w1, if_neg w1]
        by_cases w2 : w = 2
        · rw [if_pos w2, if_pos w2]
          unfold b182_76
          rw [nn_some, mb_mr, mb_some (g925 rf), nn_some, mb_mr, mb_some (l60 rf hc), e60]
          by_cases s3 : c_st z = 0
          · rw [if_pos s3, if_pos (by decide), if_pos (Or.inl s3)]; rfl
          · rw [if_neg s3]
            by_cases j4 : c_jb z = 4
            · have e74 : Hei h 74 c = Int32.ofNat (c_lf z).length := rv_at rc (by
                unfold rv lev
                rw [if_neg s3]
                by_cases q1 : c_st z = 1
                · simp [s3, q1]
                · by_cases q3 : c_st z = 3
                  · simp [s3, q3]
                  · simp [s3, q1, q3])
              rw [if_neg (fun q => q j4), if_neg (fun q => q.elim s3 (fun r => r j4))]
              unfold b182_86
              rw [nn_some, mb_mr, mb_some (g939 rf), nn_some, mb_mr, mb_some (l74 rf hc), e74]; rfl
            · rw [if_pos j4, if_pos (Or.inr j4)]; rfl
        · rw [if_neg w2, if_neg w2]
          by_cases w3 : w = 3
          · rw [if_pos w3, if_pos w3]
            unfold b182_97
            rw [nn_some, mb_mr, mb_some (g934 rf), nn_some, mb_mr, mb_some (l69 rf hc), e69]; rfl
          · rw [if_neg w3, if_neg w3]
            by_cases w4 : w = 4
            · rw [if_pos w4, if_pos w4]
              unfold b182_104
              rw [nn_some, mb_mr, mb_some (g924 rf), nn_some, mb_mr, mb_some (l59 rf hc), e59]; rfl
            · rw [if_neg w4, if_neg w4]; rfl
  · rw [decide_eq_false (fun z => q1 ⟨z.1, le1.mp z.2⟩), if_neg (by decide), if_neg q1]; rfl
theorem r183_eq (o : RR h S) : m183 F 37 i a h = some (Ocopy i a S, h) := by
  have rf := o.1
  unfold m183 b183_0 Ocopy
  rw [mb_some r127_eq]
  by_cases q1 : 0 ≤ i ∧ i < 2
  · rw [decide_eq_true (show 0 ≤ i ∧ i ≤ 1 from ⟨q1.1, le1.mpr q1.2⟩), if_neg (by decide)]
    unfold b183_9
    rw [mb_some r127_eq]
    by_cases q2 : 0 ≤ a ∧ a < 24
    · rw [decide_eq_true (show 0 ≤ a ∧ a ≤ 23 from ⟨q2.1, le23.mpr q2.2⟩), if_neg (by decide), if_pos ⟨q1, q2⟩]
      obtain ⟨hc, ei⟩ := i_nat_lt (n := 2) (by decide) q1
      obtain ⟨ha, ea⟩ := i_nat_lt (n := 24) (by decide) q2
      generalize i.toNatClampNeg = c at *
      generalize a.toNatClampNeg = b at *
      subst ei
      subst ea
      have rc := (RR_c hc o).2.2.2.2.2.2.2.1.2.1 b ha
      unfold b183_19
      rw [nn_some, mb_mr, mb_some (g922 rf), nn_some, mb_mr, ix24, mb_some (l57 rf (by omega))]
      unfold rcp at rc
      cases hcp : c_cp (s_cl S c) b with
      | none => rw [hcp] at rc; rw [show Hei h 57 (24 * c + b) = 0 from rc]; rfl
      | some v => rw [hcp] at rc; rw [rc.1]; rfl
    · rw [decide_eq_false (fun z => q2 ⟨z.1, le23.mp z.2⟩), if_pos (by decide), if_neg (fun z => q2 z.2)]; rfl
  · rw [decide_eq_false (fun z => q1 ⟨z.1, le1.mp z.2⟩), if_pos (by decide), if_neg (fun z => q1 z.1)]; rfl
theorem r184_eq (hF : 1000 ≤ F) (o : RR h S) (tk : tisOK S) (hn : nIt (s_ti S) (s_bg S) ≤ 1600) (li : lkInv S) : m184 F 37 a w h = some (Ocell a w S, h) := by
  have rf := o.1
  unfold m184 b184_0 Ocell
  rw [mb_some r127_eq]
  by_cases q2 : 0 ≤ a ∧ a < 24
  · rw [decide_eq_true (show 0 ≤ a ∧ a ≤ 23 from ⟨q2.1, le23.mpr q2.2⟩), if_pos (by decide), if_pos q2]
    obtain ⟨ha, ea⟩ := i_nat_lt (n := 24) (by decide) q2
    generalize a.toNatClampNeg = b at *
    subst ea
    obtain ⟨n1, d1, d2, d3, d4, d5, d6⟩ := o.2.2.1 b ha
    unfold b184_12
    rw [nn_some, mb_mr, mb_some (g901 rf), nn_some, mb_mr, mb_some (l39 rf ha)]
    by_cases w0 : w = 0
    · rw [if_pos w0, if_pos w0]
      unfold b184_60
      rw [mb_some r134_eq, d1]; rfl
    · rw [if_neg w0, if_neg w0]
      by_cases w1 : w = 1
      · rw [if_pos w1, if_pos w1]
        unfold b184_65
        rw [nn_some, mb_mr, mb_some (g902 rf), nn_some, mb_mr, mb_some (l40 rf ha), n1]; rfl
      · rw [if_neg w1, if_neg w1]
        by_cases w2 : w = 2
        · rw [if_pos w2, if_pos w2]
          unfold b184_72
          rw [nn_some, mb_mr, mb_some (rF_vc rf), mb_some (r131_eq hF o tk hn ha li)]; rfl
        · rw [if_neg w2, if_neg w2]
          by_cases w3 : w = 3
          · rw [if_pos w3, if_pos w3]
            unfold b184_78
            rw [mb_some r146_eq, d2]; rfl
          · rw [if_neg w3, if_neg w3]
            by_cases w4 : w = 4
            · rw [if_pos w4, if_pos w4]
              unfold b184_83
              rw [mb_some r149_eq, d3]; rfl
            · rw [if_neg w4, if_neg w4]
              by_cases w5 : w = 5
              · rw [if_pos w5, if_pos w5]
                unfold b184_88
                rw [mb_some r154_eq, d4]; rfl
              · rw [if_neg w5, if_neg w5]; rfl
  · rw [decide_eq_false (fun z => q2 ⟨z.1, le23.mp z.2⟩), if_neg (by decide), if_neg q2]; rfl
theorem r185_eq (o : RR h S) : m185 F 37 a i h = some (Okey a i S, h) := by
  have rf := o.1
  unfold m185 b185_0 Okey
  rw [mb_some r127_eq]
  by_cases q2 : 0 ≤ a ∧ a < 24
  · rw [decide_eq_true (show 0 ≤ a ∧ a ≤ 23 from ⟨q2.1, le23.mpr q2.2⟩), if_neg (by decide)]
    obtain ⟨ha, ea⟩ := i_nat_lt (n := 24) (by decide) q2
    have l23 := le23.mpr q2.2
    generalize a.toNatClampNeg = b at *
    subst ea
    obtain ⟨n1, d1, d2, d3, d4, d5, d6⟩ := o.2.2.1 b ha
    have hl : (s_ce S b).2.2.2.2.1.length < 4 := by rw [d2]; exact bf_lt _ _ 2
    unfold b185_10
    rw [nn_some, mb_mr, mb_some (g901 rf), if_neg (i_nlt.mpr q2.1)]
    unfold b185_20
    rw [if_pos l23]
    unfold b185_30 b185_31
    rw [nn_some, mb_mr, mb_some (l39 rf ha), mb_some r146_eq, mb_some r127_eq, ← d2]
    by_cases qi : 0 ≤ i ∧ i < Int32.ofNat (s_ce S b).2.2.2.2.1.length
    · rw [decide_eq_true ((len1 (by omega)).mpr qi), if_neg (by decide), if_pos ⟨q2, qi⟩]
      obtain ⟨hj, ei⟩ := i_nat_lt (by omega) qi
      generalize i.toNatClampNeg = j at *
      subst ei
      unfold b185_43
      rw [nn_some, mb_mr, mb_some (g901 rf), nn_some, mb_mr, mb_some (l39 rf ha), mb_some (r148_eq (by omega)), d5 j hj]; rfl
    · rw [decide_eq_false (fun z => qi ((len1 (by omega)).mp z)), if_pos (by decide), if_neg (fun z => qi z.2)]; rfl
  · rw [decide_eq_false (fun z => q2 ⟨z.1, le23.mp z.2⟩), if_pos (by decide), if_neg (fun z => q2 z.1)]; rfl
theorem r186_eq (o : RR h S) : m186 F 37 a i h = some (Oitem a i S, h) := by
  have rf := o.1
  unfold m186 b186_0 Oitem
  rw [mb_some r127_eq]
  by_cases q2 : 0 ≤ a ∧ a < 24
  · rw [decide_eq_true (show 0 ≤ a ∧ a ≤ 23 from ⟨q2.1, le23.mpr q2.2⟩), if_pos (by decide)]
    obtain ⟨ha, ea⟩ := i_nat_lt (n := 24) (by decide) q2
    generalize a.toNatClampNeg = b at *
    subst ea
    obtain ⟨n1, d1, d2, d3, d4, d5, d6⟩ := o.2.2.1 b ha
    have hl : (s_ce S b).2.2.2.2.1.length < 4 := by rw [d2]; exact bf_lt _ _ 2
    unfold b186_12
    rw [nn_some, mb_mr, mb_some (g901 rf), nn_some, mb_mr, mb_some (l39 rf ha), mb_some r134_eq, ← d1]
    by_cases k2 : (s_ce S b).2.1 = 2
    · rw [if_pos k2] at d6
      rw [if_neg (fun q => q k2)]
      unfold b186_27
      rw [mb_some r146_eq, mb_some r127_eq, ← d2]
      by_cases qi : 0 ≤ i ∧ i < Int32.ofNat (s_ce S b).2.2.2.2.2.length
      · have qi' := qi
        rw [d6.1] at qi'
        rw [decide_eq_true ((len0 (by omega)).mpr qi'), if_neg (by decide), if_pos ⟨q2, qi⟩]
        obtain ⟨hj, ei⟩ := i_nat_lt (by omega) qi'
        generalize i.toNatClampNeg = j at *
        subst ei
        unfold b186_39
        rw [mb_some (r152_eq (by omega)), d6.2 j hj]; rfl
      · rw [if_neg (c := (0 ≤ Int32.ofNat b ∧ Int32.ofNat b < 24) ∧ _) (fun z => qi z.2)]
        rw [d6.1] at qi
        rw [decide_eq_false (fun z => qi ((len0 (by omega)).mp z)), if_pos (by decide)]; rfl
    · rw [if_neg k2] at d6
      rw [if_pos k2]
      unfold b186_49
      rw [mb_some r146_eq, mb_some r127_eq, ← d2]
      by_cases qi : 0 ≤ i ∧ i < Int32.ofNat (s_ce S b).2.2.2.2.2.length
      · have qi' := qi
        rw [d6.1] at qi'
        rw [decide_eq_true ((len1 (by omega)).mpr qi'), if_neg (by decide), if_pos ⟨q2, qi⟩]
        obtain ⟨hj, ei⟩ := i_nat_lt (by omega) qi'
        generalize i.toNatClampNeg = j at *
        subst ei
        unfold b186_63
        rw [nn_some, mb_mr, mb_some (g903 rf), nn_some, mb_mr, ix3, mb_some (l41 rf (by omega)), d6.2 j hj]
        have hj3 : j = 0 ∨ j = 1 ∨ j = 2 := by omega
        rcases hj3 with rfl | rfl | rfl <;> rfl
      · rw [if_neg (c := (0 ≤ Int32.ofNat b ∧ Int32.ofNat b < 24) ∧ _) (fun z => qi z.2)]
        rw [d6.1] at qi
        rw [decide_eq_false (fun z => qi ((len1 (by omega)).mp z)), if_pos (by decide)]; rfl
  · rw [decide_eq_false (fun z => q2 ⟨z.1, le23.mp z.2⟩), if_neg (by decide), if_neg (fun z => q2 z.1)]; rfl
theorem r187_eq (o : RR h S) (hbg : s_bg S ≤ 512) : m187 F 37 a i h = some (Oremembers a i S, h) := by
  have rf := o.1
  unfold m187 b187_0 Oremembers
  rw [mb_some r127_eq]
  by_cases q2 : 0 ≤ a ∧ a < 3
  · rw [decide_eq_true (show 0 ≤ a ∧ a ≤ 2 from ⟨q2.1, le2.mpr q2.2⟩), if_neg (by decide)]
    obtain ⟨hm, ea⟩ := i_nat_lt (n := 3) (by decide) q2
    generalize a.toNatClampNeg = m at *
    subst ea
    unfold b187_9
    rw [nn_some, mb_mr, mb_some (g904 rf), o.2.2.2.1.1, mb_some r127_eq]
    by_cases n1 : 1 ≤ i ∧ i ≤ Int32.ofNat (s_bg S)
    · rw [decide_eq_true n1, if_neg (by decide), if_pos ⟨q2, n1⟩]
      obtain ⟨n0, n1⟩ := n1
      have i0 : (0 : Int32) ≤ i := by
        rw [Int32.le_iff_toInt_le] at n0 ⊢
        have e1 : (1 : Int32).toInt = 1 := by decide
        have e0 : (0 : Int32).toInt = 0 := by decide
        omega
      have ei := i_self i0
      have hj : i.toNatClampNeg < 513 := by
        have l : i.toNatClampNeg < 2147483648 := by
          show i.toInt.toNat < 2147483648
          have := i.toInt_lt
          omega
        rw [ei, i_le l (by omega)] at n1
        omega
      generalize i.toNatClampNeg = j at *
      subst ei
      unfold b187_21
      rw [nn_some, mb_mr, mb_some (g908 rf), nn_some, mb_mr, ix3, mb_some (rd_rm o hj hm)]; rfl
    · rw [decide_eq_false n1, if_pos (by decide), if_neg (fun z => n1 z.2)]; rfl
  · rw [decide_eq_false (fun z => q2 ⟨z.1, le2.mp z.2⟩), if_pos (by decide), if_neg (fun z => q2 z.1)]; rfl
end ROBS
