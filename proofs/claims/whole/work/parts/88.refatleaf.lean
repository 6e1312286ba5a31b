/-! The reference: atLeaf. -/
section RATL
variable {h h1 : xv_H} {F i j x p q v s a b c n0 L L2 n : Nat} {nd : Int64} {N : zN} {k va vb vd ver : Int32} {S : zS} {P : List zI} {z : zC} {D : zD}
theorem EN_of {z1 : zC} (q : EN h (s_cl_ S (fset (s_cl S) c z1)) c D n0) : EN h S c D n0 := by rw [EN_cl] at q; exact q
theorem ofNat_ne {a b : Nat} (ha : a < 2147483648) (hb : b < 2147483648) (n : ¬ a = b) : ¬ Int32.ofNat a = Int32.ofNat b := fun q => n ((i_eq ha hb).mp q)
/-- found and result set -/
theorem rs_fore {f : Bool} {r : Int32} (rf : rF h) (hc : c < 2) (o : RX h S n0 P c 3) : RX (Uei (Uei h 68 c (b2i f)) 67 c r) (s_cl_ S (fset (s_cl S) c (c_re_ (c_fo_ (s_cl S c) f) r))) n0 P c 3 ∧ agC c h (Uei (Uei h 68 c (b2i f)) 67 c r) := by
  obtain ⟨e1, rc1⟩ := rs_fo f o.2.2.2.2.2.2.2.1
  obtain ⟨e2, rc2⟩ := rs_re r rc1
  exact ⟨RX_cl hc (ag_trans e1 e2) o rc2, ag_trans e1 e2⟩
theorem r167_tot {kk : Nat} (hF : 1000 ≤ F) (hc : c < 2) (o : RX h S n0 [] c 3) (hbg : s_bg S < 512) (hn : n0 + 3 ≤ 1600) (w : okW (s_cl S c)) (h1 : 1 ≤ (c_pa (s_cl S c)).length) (hz : zlast (c_pa (s_cl S c)) < 24) (od : decN nd va vb vd N) (k1 : N.1 = 1) (so : srt N.2.2.2.1) (hgo : c_go (s_cl S c) = Int32.ofNat kk) (hfr : c_fr (s_cl S c) = Int32.ofNat kk) (hk : kk < 128) (hj : isJ (c_jb (s_cl S c))) (h4 : ¬ c_jb (s_cl S c) = 4) (hre : c_jb (s_cl S c) = 2 → c_re (s_cl S c) = 0 ∧ c_fo (s_cl S c) = false) (hsp : c_jb (s_cl S c) = 2 → splOK (s_cl S c)) : tot (m167 F 37 (Int32.ofNat c) ver nd va vb vd) h (fun _ h' => agR h h' ∧ EN h' S c (Dleaf (s_cl S c) (ver, N)) n0) := by
  have rf := o.1
  have rc := o.2.2.2.2.2.2.2.1
  have hl := dec_len od
  have el := od.2.1
  have k2 : ¬ N.1 = 2 := by rw [k1]; decide
  have e63 : Hei h 63 c = Int32.ofNat kk := by rw [← hgo]; exact rv_at rc (by unfold rv; simp)
  have e60 : Hei h 60 c = c_jb (s_cl S c) := rv_at rc (by unfold rv; simp [w.1])
  obtain ⟨lf1, lf2⟩ := leaf_idx (k := Int32.ofNat kk) N.2.2.2.1 so
  have zle := zcl_le (Int32.ofNat kk) N.2.2.2.1
  have o6 := od.2.2.2.2.2
  rw [if_neg k2] at o6
  -- the rest, given whether the key is there
  have body : ∀ t : Bool, t = decide (zidx (Int32.ofNat kk) N.2.2.2.1 < N.2.2.2.1.length) → tot (b167_42 F (b2i t) (some 37) (Int32.ofNat c) ver nd va vb vd (Int32.ofNat (zcl (Int32.ofNat kk) N.2.2.2.1))) h (fun _ h' => agR h h' ∧ EN h' S c (Dleaf (s_cl S c) (ver, N)) n0) := by
    intro t ht
    have hD : Dleaf (s_cl S c) (ver, N) = (if c_jb (s_cl S c) = 2 ∧ t = false ∧ 3 ≤ N.2.2.2.1.length then Dsplit (c_re_ (c_fo_ (s_cl S c) t) (if t then N.2.2.2.2.getD (zidx (Int32.ofNat kk) N.2.2.2.1) 0 else 0)) (ver, N) else if c_jb (s_cl S c) = 2 then (c_re_ (c_fo_ (s_cl S c) t) (if t then N.2.2.2.2.getD (zidx (Int32.ofNat kk) N.2.2.2.1) 0 else 0), some ([(3, zlast (c_pa (s_cl S c)), ver, zwith N (Int32.ofNat kk) (c_wa (s_cl S c)))], 2)) else if c_jb (s_cl S c) = 3 ∧ t = true then (c_re_ (c_fo_ (s_cl S c) t) (if t then N.2.2.2.2.getD (zidx (Int32.ofNat kk) N.2.2.2.1) 0 else 0), some ([(3, zlast (c_pa (s_cl S c)), ver, zwout N (zidx (Int32.ofNat kk) N.2.2.2.1))], 2)) else (Cdone (c_re_ (c_fo_ (s_cl S c) t) (if t then N.2.2.2.2.getD (zidx (Int32.ofNat kk) N.2.2.2.1) 0 else 0)), none)) := by
      unfold Dleaf
      dsimp only
      rw [hfr, ← ht]
    have hpick : t = true → zpick (zcl (Int32.ofNat kk) N.2.2.2.1) va vb vd = N.2.2.2.2.getD (zidx (Int32.ofNat kk) N.2.2.2.1) 0 ∧ zcl (Int32.ofNat kk) N.2.2.2.1 < 3 ∧ zcl (Int32.ofNat kk) N.2.2.2.1 = zidx (Int32.ofNat kk) N.2.2.2.1 ∧ zidx (Int32.ofNat kk) N.2.2.2.1 < N.2.2.2.1.length := by
      intro tt
      rw [tt] at ht
      have q := of_decide_eq_true ht.symm
      obtain ⟨c1, c2⟩ := lf1 q
      refine ⟨?_, by omega, c1, q⟩
      rw [c1, o6.2 _ q]
    have t01 : b2i t = 0 ∨ b2i t = 1 := b2i_01 t
    -- found and result, then what
    have fore : ∀ (R : Int32), R = (if t then N.2.2.2.2.getD (zidx (Int32.ofNat kk) N.2.2.2.1) 0 else 0) → RX (Uei (Uei h 68 c (b2i t)) 67 c R) (s_cl_ S (fset (s_cl S) c (c_re_ (c_fo_ (s_cl S c) t) (if t then N.2.2.2.2.getD (zidx (Int32.ofNat kk) N.2.2.2.1) 0 else 0)))) n0 [] c 3 ∧ agC c h (Uei (Uei h 68 c (b2i t)) 67 c R) := by
      intro R hR
      rw [← hR]
      exact rs_fore rf hc o
    have e68 : agC c h (Uei h 68 c (b2i t)) := (rs_fo t rc).1
    have rf68 := ag_rF e68 rf
    generalize hd : c_re_ (c_fo_ (s_cl S c) t) (if t then N.2.2.2.2.getD (zidx (Int32.ofNat kk) N.2.2.2.1) 0 else 0) = d at *
    have ecl : s_cl (s_cl_ S (fset (s_cl S) c d)) c = d := by rw [s_cl_cl, fset_eq, if_pos rfl]
    have dpa : c_pa d = c_pa (s_cl S c) := by rw [← hd, c_pa_re, c_pa_fo]
    have dst : c_st d = c_st (s_cl S c) := by rw [← hd, c_st_re, c_st_fo]
    have dgo : c_go d = c_go (s_cl S c) := by rw [← hd, c_go_re, c_go_fo]
    have dwa : c_wa d = c_wa (s_cl S c) := by rw [← hd, c_wa_re, c_wa_fo]
    have djb : c_jb d = c_jb (s_cl S c) := by rw [← hd, c_jb_re, c_jb_fo]
    -- done
    have fin : ¬ c_jb (s_cl S c) = 2 → ¬ (c_jb (s_cl S c) = 3 ∧ t = true) → tot (b167_69 F (some 37) (Int32.ofNat c) va vb vd (Int32.ofNat (zcl (Int32.ofNat kk) N.2.2.2.1)) (b2i t)) h (fun _ h' => agR h h' ∧ EN h' S c (Dleaf (s_cl S c) (ver, N)) n0) := by
      intro n2 n3
      rw [hD, if_neg (fun q => n2 q.1), if_neg n2, if_neg n3]
      unfold b167_69
      rw [nn_some, mb_mr]
      refine tot_bind (g933 rf) ?_
      rw [nn_some, mb_mr]
      refine tot_bind (s68 rf hc t01) (tot_bind (g932 rf68) ?_)
      have ending : ∀ R, R = (if t then N.2.2.2.2.getD (zidx (Int32.ofNat kk) N.2.2.2.1) 0 else 0) → tot (b167_102 F R (Int32.ofNat c) (some 67) (some 37) (Int32.ofNat c)) (Uei h 68 c (b2i t)) (fun _ h' => agR h h' ∧ EN h' S c (Cdone d, none) n0) := by
        intro R hR
        obtain ⟨o2, e2⟩ := fore R hR
        unfold b167_102
        rw [nn_some, mb_mr]
        refine tot_bind (s67 rf68 hc) ?_
        rw [nn_some, mb_mr]
        generalize Uei (Uei h 68 c (b2i t)) 67 c R = h2 at *
        have tt := r166_tot (F := F) hc o2 (by rw [ecl, dst]; exact w.1)
        rw [ecl] at tt
        exact tot_bind (rF_vc o2.1) (tot_mb tt (fun _ h3 q3 => tot_mr ⟨agR_trans (ag_R e2) q3.1, EN_of q3.2⟩))
      cases t
      · rw [if_pos (by decide)]
        unfold b167_101
        exact ending 0 rfl
      · rw [if_neg (by decide)]
        unfold b167_87
        obtain ⟨p1, p2, p3, p4⟩ := hpick rfl
        exact tot_bind (r165_eq p2) (ending _ p1)
    -- found and result set, then a WRITE
    have wr : ¬ (c_jb (s_cl S c) = 2 ∧ t = false ∧ 3 ≤ N.2.2.2.1.length) → (c_jb (s_cl S c) = 2 ∨ (c_jb (s_cl S c) = 3 ∧ t = true)) → tot (b167_146 F (some 37) (Int32.ofNat c) ver nd va vb vd (Int32.ofNat (zcl (Int32.ofNat kk) N.2.2.2.1)) (b2i t)) h (fun _ h' => agR h h' ∧ EN h' S c (Dleaf (s_cl S c) (ver, N)) n0) := by
      intro ns hjj
      rw [hD, if_neg ns]
      unfold b167_146
      rw [nn_some, mb_mr]
      refine tot_bind (g933 rf) ?_
      rw [nn_some, mb_mr]
      refine tot_bind (s68 rf hc t01) (tot_bind (g932 rf68) ?_)
      have ending : ∀ R, R = (if t then N.2.2.2.2.getD (zidx (Int32.ofNat kk) N.2.2.2.1) 0 else 0) → tot (b167_179 F R (Int32.ofNat c) (some 67) (some 37) (Int32.ofNat c) ver nd va vb vd (Int32.ofNat (zcl (Int32.ofNat kk) N.2.2.2.1)) (b2i t)) (Uei h 68 c (b2i t)) (fun _ h' => agR h h' ∧ EN h' S c (if c_jb (s_cl S c) = 2 then (d, some ([(3, zlast (c_pa (s_cl S c)), ver, zwith N (Int32.ofNat kk) (c_wa (s_cl S c)))], 2)) else if c_jb (s_cl S c) = 3 ∧ t = true then (d, some ([(3, zlast (c_pa (s_cl S c)), ver, zwout N (zidx (Int32.ofNat kk) N.2.2.2.1))], 2)) else (Cdone d, none)) n0) := by
        intro R hR
        obtain ⟨o2, e2⟩ := fore R hR
        unfold b167_179
        rw [nn_some, mb_mr]
        refine tot_bind (s67 rf68 hc) ?_
        generalize Uei (Uei h 68 c (b2i t)) 67 c R = h2 at *
        have rf2 := o2.1
        have rc2 := o2.2.2.2.2.2.2.2.1
        rw [ecl] at rc2
        have f60 : Hei h2 60 c = c_jb (s_cl S c) := by rw [← djb]; exact rv_at rc2 (by unfold rv; simp [dst, w.1])
        rw [nn_some, mb_mr]
        refine tot_bind (g925 rf2) ?_
        rw [nn_some, mb_mr]
        refine tot_bind (l60 rf2 hc) ?_
        rw [f60]
        have beg : ∀ (h3 : xv_H) (N' : zN), agR h2 h3 → RX h3 (s_cl_ S (fset (s_cl S) c d)) n0 ([] ++ [(3, zlast (c_pa (s_cl S c)), ver, N')]) c 3 → tot (b167_225 F (some 37) (Int32.ofNat c)) h3 (fun _ h' => agR h h' ∧ EN h' S c (d, some ([(3, zlast (c_pa (s_cl S c)), ver, N')], 2)) n0) := by
          intro h3 N' e3 o3
          unfold b167_225
          rw [nn_some, mb_mr]
          have hb := r160_tot (F := F) (sg := 2) (P := [(3, zlast (c_pa (s_cl S c)), ver, N')]) hF hc o3 hbg (wfT_app (its := []) wfT_nil K3 hz) (by simp) (by simp; omega)
          rw [ecl, Zbegin_cl] at hb
          exact tot_bind (rF_vc o3.1) (tot_mb hb (fun _ h4 q4 => tot_mr ⟨agR_trans (agR_trans (ag_R e2) e3) q4.1, EN_3 q4.2⟩))
        rcases hjj with j2 | ⟨j3, tt⟩
        · rw [if_pos (by rw [j2]; decide), if_pos j2]
          unfold b167_208
          rw [nn_some, mb_mr]
          have t170 := r170_tot (F := F) (ver := ver) (t := t) (kk := kk) hF hc o2 (by rw [ecl, dpa]; exact h1) (by rw [ecl, dpa]; exact hz) (by simp; omega) od k2 so (by rw [ecl, dgo]; exact hgo) hk ht (fun tf => by
            apply Classical.byContradiction
            intro q
            exact ns ⟨j2, tf, by omega⟩)
          rw [ecl, dpa, dwa] at t170
          exact tot_bind (rF_vc rf2) (tot_mb t170 (fun _ h3 q3 => beg h3 _ q3.1 q3.2))
        · have n2 : ¬ c_jb (s_cl S c) = 2 := by rw [j3]; decide
          rw [if_neg (fun z => z j3), if_neg n2, if_pos ⟨j3, tt⟩]
          obtain ⟨p1, p2, p3, p4⟩ := hpick tt
          unfold b167_190
          rw [nn_some, mb_mr, p3]
          have t169 := r169_tot (F := F) (ver := ver) (i := zidx (Int32.ofNat kk) N.2.2.2.1) hF hc o2 (by rw [ecl, dpa]; exact h1) (by rw [ecl, dpa]; exact hz) (by simp; omega) od k2 p4
          rw [ecl, dpa] at t169
          exact tot_bind (rF_vc rf2) (tot_mb t169 (fun _ h3 q3 => beg h3 _ q3.1 q3.2))
      cases t
      · rw [if_pos (by decide)]
        unfold b167_178
        exact ending 0 rfl
      · rw [if_neg (by decide)]
        unfold b167_164
        obtain ⟨p1, p2, p3, p4⟩ := hpick rfl
        exact tot_bind (r165_eq p2) (ending _ p1)
    unfold b167_42
    rw [nn_some, mb_mr]
    refine tot_bind (g925 rf) ?_
    rw [nn_some, mb_mr]
    refine tot_bind (l60 rf hc) ?_
    rw [e60]
    rcases hj with j | j | j | j
    · rw [if_pos j]
      exact fin (by rw [j]; decide) (fun q => by rw [j] at q; exact absurd q.1 (by decide))
    · rw [if_neg (by rw [j]; decide)]
      unfold b167_54
      rw [nn_some, mb_mr]
      refine tot_bind (g925 rf) ?_
      rw [nn_some, mb_mr]
      refine tot_bind (l60 rf hc) ?_
      rw [e60, if_pos (by rw [j]; decide)]
      unfold b167_109
      rw [nn_some, mb_mr]
      refine tot_bind (g925 rf) ?_
      rw [nn_some, mb_mr]
      refine tot_bind (l60 rf hc) ?_
      rw [e60, if_neg (fun z => z j)]
      unfold b167_119
      cases t
      · rw [if_neg (fun z => z rfl)]
        unfold b167_124
        refine tot_bind r146_eq ?_
        rw [← el]
        by_cases l3 : N.2.2.2.1.length = 3
        · rw [if_neg (fun z => z (by rw [l3]; rfl)), hD, if_pos ⟨j, rfl, by omega⟩]
          obtain ⟨r1, r2⟩ := hre j
          have dz : d = s_cl S c := by
            rw [← hd]
            show c_re_ (c_fo_ (s_cl S c) false) 0 = s_cl S c
            have := c_fore_id (s_cl S c)
            rw [r1, r2] at this
            exact this
          rw [dz]
          unfold b167_132
          rw [nn_some, mb_mr]
          have dl := Dsplit_len (s_cl S c) (ver, N) (hsp j)
          refine tot_bind (rF_vc rf) (tot_mb (r168_tot hF hc o (hsp j) hbg hn od k1 l3) (fun _ h2 q2 => tot_mr ⟨q2.1, EN_3 ?_⟩))
          rw [dl]; exact q2.2
        · have l3' : ¬ Int32.ofNat N.2.2.2.1.length = 3 := ofNat_ne (b := 3) (by omega) (by decide) l3
          rw [if_pos l3']
          exact wr (fun q => l3 (by omega)) (Or.inl j)
      · rw [if_pos (by decide)]
        exact wr (fun q => by cases q.2.1) (Or.inl j)
    · rw [if_neg (by rw [j]; decide)]
      unfold b167_54
      rw [nn_some, mb_mr]
      refine tot_bind (g925 rf) ?_
      rw [nn_some, mb_mr]
      refine tot_bind (l60 rf hc) ?_
      rw [e60, if_neg (fun z => z j)]
      unfold b167_64
      cases t
      · rw [if_neg (fun z => z rfl)]
        exact fin (by rw [j]; decide) (fun q => by cases q.2)
      · rw [if_pos (by decide)]
        unfold b167_109
        rw [nn_some, mb_mr]
        refine tot_bind (g925 rf) ?_
        rw [nn_some, mb_mr]
        refine tot_bind (l60 rf hc) ?_
        rw [e60, if_pos (by rw [j]; decide)]
        exact wr (fun q => by cases q.2.1) (Or.inr ⟨j, rfl⟩)
    · exact absurd j h4
  unfold m167 b167_0
  rw [nn_some, mb_mr]
  refine tot_bind (g928 rf) ?_
  rw [nn_some, mb_mr]
  refine tot_bind (l63 rf hc) ?_
  rw [e63]
  refine tot_bind (r159_lt hF od) (tot_bind r146_eq ?_)
  rw [← el]
  by_cases q : zidx (Int32.ofNat kk) N.2.2.2.1 < N.2.2.2.1.length
  · obtain ⟨c1, c2⟩ := lf1 q
    rw [if_neg (by rw [i_le (by omega) (by omega), c1]; omega)]
    unfold b167_26
    have hkey : Int32.ofNat (zkey nd (zcl (Int32.ofNat kk) N.2.2.2.1)) = Int32.ofNat kk := by
      rw [← od.2.2.2.2.1 _ (by omega), c1]; exact c2
    refine tot_bind (r148_eq (by omega)) ?_
    rw [hkey, if_neg (fun z => z rfl)]
    exact body true (by rw [decide_eq_true q])
  · obtain ⟨c1, c2⟩ := lf2 q
    by_cases e : N.2.2.2.1.length ≤ zcl (Int32.ofNat kk) N.2.2.2.1
    · rw [if_pos (by rw [i_le (by omega) (by omega)]; exact e)]
      exact body false (by rw [decide_eq_false q])
    · rw [if_neg (by rw [i_le (by omega) (by omega)]; exact e)]
      unfold b167_26
      refine tot_bind (r148_eq (by omega)) ?_
      have hkey : ¬ Int32.ofNat (zkey nd (zcl (Int32.ofNat kk) N.2.2.2.1)) = Int32.ofNat kk := by
        rw [← od.2.2.2.2.1 _ (by omega)]
        exact c2 _ (by omega)
      rw [if_pos hkey]
      exact body false (by rw [decide_eq_false q])
end RATL
