/-! The reference at a leaf: without, with. -/
section RLEAF2
variable {h h1 : xv_H} {F i j x p q v s a b c n0 L : Nat} {n m : Int64} {N : zN} {k va vb vd ver : Int32} {S : zS} {P : List zI} {z : zC} {Q : Unit → xv_H → Prop}
theorem i3 (hi : i < 3) : i = 0 ∨ i = 1 ∨ i = 2 := by omega
theorem r169_loop : ∀ (f j : Nat) (cur : Int64), j ≤ 3 → 2 ≤ j + f → ∀ g, f < g → tot (b169_45 F (some 37) (Int32.ofNat c) ver (Int32.ofNat i) va vb vd (shD n f j cur)) h Q → tot (b169_16 F g (some 37) (Int32.ofNat c) ver n (Int32.ofNat i) va vb vd cur (Int32.ofNat j)) h Q := by
  intro f
  induction f with
  | zero =>
    intro j cur h3 hj g hg t
    cases g with
    | zero => omega
    | succ g =>
      unfold b169_16
      rw [show (2 : Int32) = Int32.ofNat 2 from rfl, if_pos (by rw [i_le (by decide) (by omega)]; omega)]
      exact t
  | succ f ih =>
    intro j cur h3 hj g hg t
    cases g with
    | zero => omega
    | succ g =>
      unfold b169_16
      rw [show (2 : Int32) = Int32.ofNat 2 from rfl]
      rw [shD] at t
      by_cases e : 2 ≤ j
      · rw [if_pos (by rw [i_le (by decide) (by omega)]; omega)]
        rw [if_pos e] at t
        exact t
      · rw [if_neg (by rw [i_le (by decide) (by omega)]; omega)]
        rw [if_neg e] at t
        unfold b169_22
        rw [i_add1]
        refine tot_bind (r148_eq (by omega)) (tot_bind r150_eq ?_)
        exact ih (j + 1) _ (by omega) (by omega) g (by omega) t
theorem r169_tot (hF : 1000 ≤ F) (hc : c < 2) (o : RX h S n0 P c 3) (h1 : 1 ≤ (c_pa (s_cl S c)).length) (hz : zlast (c_pa (s_cl S c)) < 24) (hn : n0 + P.length < 1600) (od : decN n va vb vd N) (k1 : ¬ N.1 = 2) (hi : i < N.2.2.2.1.length) : tot (m169 F 37 (Int32.ofNat c) ver n (Int32.ofNat i) va vb vd) h (fun _ h' => agR h h' ∧ RX h' S n0 (P ++ [(3, zlast (c_pa (s_cl S c)), ver, zwout N i)]) c 3) := by
  have rf := o.1
  have hl := dec_len od
  have e2 := od.2.1
  unfold m169 b169_0
  refine tot_bind r146_eq ?_
  rw [i_sub1 (by omega) (by omega)]
  refine tot_bind r151_eq ?_
  refine r169_loop 3 i _ (by omega) (by omega) F (by omega) ?_
  have dw := dec_wout od k1 hi
  unfold b169_45
  rw [nn_some, mb_mr]
  refine tot_bind (rF_vc rf) (tot_bind (r145_eq rf hc o.2.2.2.2.2.2.2.1 h1) ?_)
  have fin : ∀ nd a b, decN nd a b 0 (zwout N i) → tot (b169_80 F b a nd ver (Int32.ofNat (zlast (c_pa (s_cl S c)))) 3 (some 37)) h (fun _ h' => agR h h' ∧ RX h' S n0 (P ++ [(3, zlast (c_pa (s_cl S c)), ver, zwout N i)]) c 3) := by
    intro nd a b dd
    unfold b169_80
    rw [nn_some, mb_mr]
    refine tot_bind (rF_vc rf) ?_
    refine tot_mb (r_wr hF hc o h1 hz hn dd (Q := fun _ h' => agR h h' ∧ RX h' S n0 (P ++ [(3, zlast (c_pa (s_cl S c)), ver, zwout N i)]) c 3) (fun h' e r => ⟨e, r⟩)) (fun _ h' q => tot_mr q)
  have hi3 : i = 0 ∨ i = 1 ∨ i = 2 := by omega
  rcases hi3 with rfl | rfl | rfl
  · exact fin _ _ _ dw
  · exact fin _ _ _ dw
  · exact fin _ _ _ dw
/-- with: the values -/
theorem r170_end (hF : 1000 ≤ F) (hc : c < 2) (o : RX h S n0 P c 3) (h1 : 1 ≤ (c_pa (s_cl S c)).length) (hz : zlast (c_pa (s_cl S c)) < 24) (hn : n0 + P.length < 1600) {nd : Int64} {N' : zN} {t : Bool} {w : Int32} (hi : i < 3) (od : decN nd (if i = 0 then w else va) (if i = 1 then w else if i = 0 ∧ t = false then va else vb) (if i = 2 then w else if t then vd else vb) N') : tot (b170_73 F (some 37) (Int32.ofNat c) ver (Int32.ofNat i) (b2i t) va vb vd w nd) h (fun _ h' => agR h h' ∧ RX h' S n0 (P ++ [(3, zlast (c_pa (s_cl S c)), ver, N')]) c 3) := by
  have rf := o.1
  have fin : ∀ a b d, decN nd a b d N' → tot (b170_140 F d (some 37) (Int32.ofNat c) ver nd a b) h (fun _ h' => agR h h' ∧ RX h' S n0 (P ++ [(3, zlast (c_pa (s_cl S c)), ver, N')]) c 3) := by
    intro a b d dd
    unfold b170_140
    rw [nn_some, mb_mr]
    refine tot_bind (rF_vc rf) (tot_bind (r145_eq rf hc o.2.2.2.2.2.2.2.1 h1) (tot_bind (rF_vc rf) ?_))
    exact tot_mb (r_wr hF hc o h1 hz hn dd (Q := fun _ h' => agR h h' ∧ RX h' S n0 (P ++ [(3, zlast (c_pa (s_cl S c)), ver, N')]) c 3) (fun h' e r => ⟨e, r⟩)) (fun _ h' q => tot_mr q)
  rcases i3 hi with rfl | rfl | rfl <;> cases t
  · exact fin _ _ _ od
  · exact fin _ _ _ od
  · exact fin _ _ _ od
  · exact fin _ _ _ od
  · exact fin _ _ _ od
  · exact fin _ _ _ od
theorem r170_loop {w : Int32} : ∀ (j : Nat) (cur : Int64), j < 3 → i < 3 → ∀ g, j < g → tot (b170_49 F (some 37) (Int32.ofNat c) ver n (Int32.ofNat i) 0 va vb vd w (shK n i j cur)) h Q → tot (b170_19 F g (some 37) (Int32.ofNat c) ver n (Int32.ofNat i) 0 va vb vd w cur (Int32.ofNat j)) h Q := by
  intro j
  induction j with
  | zero =>
    intro cur h3 hi g hg t
    cases g with
    | zero => omega
    | succ g =>
      unfold b170_19
      rw [if_pos (by rw [i_le (by omega) (by omega)]; omega)]
      exact t
  | succ j ih =>
    intro cur h3 hi g hg t
    cases g with
    | zero => omega
    | succ g =>
      unfold b170_19
      rw [shK] at t
      by_cases e : j + 1 ≤ i
      · rw [if_pos (by rw [i_le (by omega) (by omega)]; omega)]
        rw [if_pos e] at t
        exact t
      · rw [if_neg (by rw [i_le (by omega) (by omega)]; omega)]
        rw [if_neg e] at t
        unfold b170_26
        rw [i_sub1 (by omega) (by omega), show j + 1 - 1 = j by omega]
        refine tot_bind (r148_eq (by omega)) (tot_bind r150_eq ?_)
        rw [i_m1 (by omega) (by omega), show j + 1 - 1 = j by omega]
        exact ih _ (by omega) hi g (by omega) t
theorem r170_tot {kk : Nat} (hF : 1000 ≤ F) (hc : c < 2) (o : RX h S n0 P c 3) (h1 : 1 ≤ (c_pa (s_cl S c)).length) (hz : zlast (c_pa (s_cl S c)) < 24) (hn : n0 + P.length < 1600) (od : decN n va vb vd N) (k1 : ¬ N.1 = 2) (so : srt N.2.2.2.1) (hgo : c_go (s_cl S c) = Int32.ofNat kk) (hk : kk < 128) {t : Bool} (ht : t = decide (zidx (Int32.ofNat kk) N.2.2.2.1 < N.2.2.2.1.length)) (hfull : t = false → N.2.2.2.1.length < 3) : tot (m170 F 37 (Int32.ofNat c) ver n (Int32.ofNat (zcl (Int32.ofNat kk) N.2.2.2.1)) (b2i t) va vb vd) h (fun _ h' => agR h h' ∧ RX h' S n0 (P ++ [(3, zlast (c_pa (s_cl S c)), ver, zwith N (Int32.ofNat kk) (c_wa (s_cl S c)))]) c 3) := by
  have rf := o.1
  have hl := dec_len od
  have rc := o.2.2.2.2.2.2.2.1
  have e66 : Hei h 66 c = c_wa (s_cl S c) := rv_at rc (by unfold rv; simp)
  have e63 : Hei h 63 c = Int32.ofNat kk := by rw [← hgo]; exact rv_at rc (by unfold rv; simp)
  obtain ⟨lf1, lf2⟩ := leaf_idx (k := Int32.ofNat kk) N.2.2.2.1 so
  have zle := zcl_le (Int32.ofNat kk) N.2.2.2.1
  unfold m170 b170_0
  rw [nn_some, mb_mr]
  refine tot_bind (g931 rf) ?_
  rw [nn_some, mb_mr]
  refine tot_bind (l66 rf hc) ?_
  rw [e66]
  unfold zwith
  by_cases q : zidx (Int32.ofNat kk) N.2.2.2.1 < N.2.2.2.1.length
  · have tt : t = true := by rw [ht]; exact decide_eq_true q
    subst tt
    obtain ⟨c1, c2⟩ := lf1 q
    rw [if_pos (by decide), if_pos q, c1]
    refine r170_end hF hc o h1 hz hn (by omega) ?_
    have ds := dec_set (w := c_wa (s_cl S c)) od k1 q
    have e1 : (if zidx (Int32.ofNat kk) N.2.2.2.1 = 1 then c_wa (s_cl S c) else if zidx (Int32.ofNat kk) N.2.2.2.1 = 0 ∧ true = false then va else vb) = (if zidx (Int32.ofNat kk) N.2.2.2.1 = 1 then c_wa (s_cl S c) else vb) := by
      rw [if_neg (show ¬ (zidx (Int32.ofNat kk) N.2.2.2.1 = 0 ∧ true = false) from fun z => by cases z.2)]
    rw [e1, if_pos rfl]
    exact ds
  · have tt : t = false := by rw [ht]; exact decide_eq_false q
    subst tt
    obtain ⟨c1, c2⟩ := lf2 q
    have hs := hfull rfl
    rw [if_neg (fun z => z rfl), if_neg q, c1]
    unfold b170_16
    refine r170_loop 2 n (by decide) (by omega) F (by omega) ?_
    unfold b170_49
    rw [nn_some, mb_mr]
    refine tot_bind (g928 rf) ?_
    rw [nn_some, mb_mr]
    refine tot_bind (l63 rf hc) ?_
    rw [e63]
    refine tot_bind r150_eq (tot_bind r146_eq ?_)
    rw [i_add1]
    refine tot_bind r151_eq ?_
    refine r170_end (t := false) hF hc o h1 hz hn (by omega) ?_
    have ds := dec_ins (i := zcl (Int32.ofNat kk) N.2.2.2.1) (kk := kk) (w := c_wa (s_cl S c)) od k1 hs (by omega) hk
    have e1 : (if zcl (Int32.ofNat kk) N.2.2.2.1 = 1 then c_wa (s_cl S c) else if zcl (Int32.ofNat kk) N.2.2.2.1 = 0 ∧ false = false then va else vb) = (if zcl (Int32.ofNat kk) N.2.2.2.1 = 1 then c_wa (s_cl S c) else if zcl (Int32.ofNat kk) N.2.2.2.1 = 0 then va else vb) := by
      by_cases z : zcl (Int32.ofNat kk) N.2.2.2.1 = 0
      · rw [if_pos (show zcl (Int32.ofNat kk) N.2.2.2.1 = 0 ∧ false = false from ⟨z, rfl⟩), if_pos z]
      · rw [if_neg (show ¬ (zcl (Int32.ofNat kk) N.2.2.2.1 = 0 ∧ false = false) from fun y => z y.1), if_neg z]
    rw [e1, if_neg (show ¬ false = true by decide)]
    exact ds
end RLEAF2
