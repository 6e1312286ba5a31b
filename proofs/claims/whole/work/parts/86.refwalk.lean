/-! The reference: walk, startWalk. -/
def dlen (D : zD) : Nat := match D.2 with
  | none => 0
  | some r => r.1.length
def cpW (cp : Nat → Option (Int32 × zN)) : Prop := ∀ a q, cp a = some q → sle q.2.2.2.2.1 ∧ ∀ i, i ∈ q.2.2.2.2.2 → 0 ≤ i ∧ 1 ≤ i.toNatClampNeg ∧ i.toNatClampNeg < 24
def pOK (cp : Nat → Option (Int32 × zN)) (put : Bool) (p : List Nat) : Prop := 1 ≤ p.length ∧ zlast p < 24 ∧ (zlast p = 0 ↔ p.length = 1) ∧ (¬ p.length = 1 → zpar p < 24 ∧ ∃ y, cp (zpar p) = some y ∧ (put = true → y.2.2.2.2.1.length < 3) ∧ sle y.2.2.2.2.1 ∧ Int32.ofNat (zlast p) ∈ y.2.2.2.2.2)
theorem no123 (q : (1 : Int32) = 2 ∨ (1 : Int32) = 3) : False := by rcases q with q | q <;> exact absurd q (by decide)
theorem no134 (q : (1 : Int32) = 3 ∨ (1 : Int32) = 4) : False := by rcases q with q | q <;> exact absurd q (by decide)
section RWALK
variable {h h1 : xv_H} {F i j x p q v s a b c n0 L : Nat} {n m : Int64} {N : zN} {k va vb vd ver : Int32} {S : zS} {P : List zI} {z : zC} {Q : Unit → xv_H → Prop}
theorem pOK_0 {cp : Nat → Option (Int32 × zN)} {put : Bool} : pOK cp put [0] := ⟨by decide, by decide, by decide, fun q => absurd rfl q⟩
theorem pOK_app {cp : Nat → Option (Int32 × zN)} {put : Bool} {p : List Nat} {y : Int32 × zN} {a : Nat} (o : pOK cp put p) (e : cp (zlast p) = some y) (hp : put = true → y.2.2.2.2.1.length < 3) (w : cpW cp) (ha : Int32.ofNat a ∈ y.2.2.2.2.2) (h1 : 1 ≤ a) (h2 : a < 24) : pOK cp put (p ++ [a]) := by
  have hl : (p ++ [a]).length = p.length + 1 := by rw [List.length_append]; rfl
  obtain ⟨o1, o2, o3, o4⟩ := o
  refine ⟨by omega, by rw [zlast_app]; exact h2, ?_, fun _ => ?_⟩
  · rw [zlast_app, hl]; omega
  · rw [zpar_app _ o1, zlast_app]
    exact ⟨o2, y, e, hp, (w _ _ e).1, ha⟩
/-- what becomes of a walk that ends in r -/
def wD (z : zC) (r : List Nat × Option (Int32 × zN)) : zD := match r.2 with
  | some x => Dsplit (c_pa_ z r.1) x
  | none => (c_pa_ z r.1, some ([(1, zlast r.1, 0, z0N)], 1))
theorem Dsplit_len (z : zC) (x : Int32 × zN) (so : splOK z) : dlen (Dsplit z x) = 3 := by
  unfold dlen Dsplit
  by_cases q : (c_pa z).length = 1
  · rw [if_pos q]; rfl
  · rw [if_neg q]
    obtain ⟨_, y, y1, _⟩ := so.2.2.2.2 q
    rw [y1]; rfl
theorem r144_loop (hF : 1000 ≤ F) (hc : c < 2) (hbg : s_bg S < 512) (hn : n0 + 3 ≤ 1600) (hst : ¬ c_st z = 0) (hh : c_hi z < 24) (w : cpW (c_cp z)) : ∀ (f : Nat) (p : List Nat) (h : xv_H), 24 - p.length < f → RX h (s_cl_ S (fset (s_cl S) c (c_pa_ z p))) n0 [] c 3 → pOK (c_cp z) (c_jb z == 2) p → (zw (c_cp z) (c_jb z == 2) (c_go z) (24 - p.length) p).1.length < 24 → tot (b144_11 F f (some 37) (Int32.ofNat c) (Int32.ofNat (24 * c + zlast p))) h (fun _ h' => agR h h' ∧ RX h' (Zbegin S c (wD z (zw (c_cp z) (c_jb z == 2) (c_go z) (24 - p.length) p))) (n0 + dlen (wD z (zw (c_cp z) (c_jb z == 2) (c_go z) (24 - p.length) p))) [] c 3) := by
  intro f
  induction f with
  | zero => intro p h h1; omega
  | succ f ih =>
    intro p h hf o po hlen
    have hp24 : p.length < 24 := by
      apply Classical.byContradiction
      intro q
      have : 24 - p.length = 0 := by omega
      rw [this, zw] at hlen
      exact q hlen
    have hfe : 24 - p.length = (24 - (p.length + 1)) + 1 := by omega
    rw [hfe, zw] at hlen ⊢
    have rf := o.1
    have ecl : s_cl (s_cl_ S (fset (s_cl S) c (c_pa_ z p))) c = c_pa_ z p := by rw [s_cl_cl, fset_eq, if_pos rfl]
    have rc := o.2.2.2.2.2.2.2.1
    rw [ecl] at rc
    obtain ⟨po1, po2, po3, po4⟩ := id po
    have rcl := rc.2.1 (zlast p) po2
    rw [c_cp_pa] at rcl
    unfold b144_11
    rw [nn_some, mb_mr]
    refine tot_bind (g922 rf) ?_
    rw [nn_some, mb_mr]
    refine tot_bind (l57 rf (by omega)) ?_
    cases hcp : c_cp z (zlast p) with
    | none =>
      rw [hcp] at rcl hlen
      have e0 : Hei h 57 (24 * c + zlast p) = 0 := rcl
      rw [e0, if_pos (by decide)]
      unfold b144_92
      rw [nn_some, mb_mr]
      have e145 : m145 F 37 (Int32.ofNat c) h = some (Int32.ofNat (zlast p), h) := by
        have := r145_eq (F := F) rf hc rc (by rw [c_pa_pa]; exact po1)
        rw [c_pa_pa] at this
        exact this
      refine tot_bind (rF_vc rf) (tot_bind e145 (tot_bind (rF_vc rf) ?_))
      refine tot_mb (r156_tot (it := (1, zlast p, 0, z0N)) o (by simp; omega) (Or.inl rfl) po2 (fun q => (no123 q).elim) (fun q => (no134 q).elim)) (fun _ h1 q1 => ?_)
      obtain ⟨e1, o1⟩ := q1
      refine tot_bind (rF_vc o1.1) ?_
      have hb := r160_tot (F := F) (sg := 1) (P := [(1, zlast p, 0, z0N)]) hF hc o1 hbg (wfT_app (its := []) wfT_nil (Or.inl rfl) po2) (by simp) (by simp; omega)
      rw [ecl, Zbegin_cl] at hb
      exact tot_mb hb (fun _ h2 q2 => tot_mr ⟨agR_trans e1 q2.1, q2.2⟩)
    | some y =>
      rw [hcp] at rcl hlen
      obtain ⟨v1, v2, v3, v4⟩ := rcl
      have hl4 := dec_len v4
      have el := v4.2.1
      rw [v1, if_neg (by rw [i_nle]; exact v2)]
      unfold b144_20
      rw [nn_some, mb_mr]
      refine tot_bind (g923 rf) ?_
      rw [nn_some, mb_mr]
      refine tot_bind (l58 rf (by omega)) (tot_bind r146_eq ?_)
      rw [← el]
      have down : ∀ (_ : ¬ ((c_jb z == 2) && decide (3 ≤ y.2.2.2.2.1.length)) = true), tot (b144_58 (b144_11 F f) F (some 37) (Int32.ofNat c) (Hel h 58 (24 * c + zlast p))) h (fun _ h' => agR h h' ∧ RX h' (Zbegin S c (wD z (if ((c_jb z == 2) && decide (3 ≤ y.2.2.2.2.1.length)) = true then (p, some y) else zw (c_cp z) (c_jb z == 2) (c_go z) (24 - (p.length + 1)) (p ++ [(zchild y.2 (c_go z)).toNatClampNeg])))) (n0 + dlen (wD z (if ((c_jb z == 2) && decide (3 ≤ y.2.2.2.2.1.length)) = true then (p, some y) else zw (c_cp z) (c_jb z == 2) (c_go z) (24 - (p.length + 1)) (p ++ [(zchild y.2 (c_go z)).toNatClampNeg])))) [] c 3) := by
        intro nb
        rw [if_neg nb]
        dsimp only at hlen
        rw [if_neg nb] at hlen
        unfold b144_58
        rw [nn_some, mb_mr]
        refine tot_bind (g928 rf) ?_
        rw [nn_some, mb_mr]
        have e63 : Hei h 63 c = c_go z := by rw [← c_go_pa z p]; exact rv_at rc (by unfold rv; simp)
        refine tot_bind (l63 rf hc) ?_
        rw [e63]
        have zg := (zcl_le (c_go z) y.2.2.2.2.1).2
        refine tot_bind (r159_le hF v4) (tot_bind (r152_eq (by omega)) ?_)
        have o6 := v4.2.2.2.2.2
        rw [if_pos v3] at o6
        have ech : zchild y.2 (c_go z) = Int32.ofNat (zchi (Hel h 58 (24 * c + zlast p)) (zcng (c_go z) y.2.2.2.2.1)) := o6.2 _ (by omega)
        have zl := zchi_lt (n := Hel h 58 (24 * c + zlast p)) (i := zcng (c_go z) y.2.2.2.2.1)
        generalize zchi (Hel h 58 (24 * c + zlast p)) (zcng (c_go z) y.2.2.2.2.1) = ch at *
        have ecn : (zchild y.2 (c_go z)).toNatClampNeg = ch := by rw [ech, i_nat (by omega)]
        have hmem : zchild y.2 (c_go z) ∈ y.2.2.2.2.2 := zgetD_mem (by rw [o6.1]; omega)
        obtain ⟨w1, w2, w3⟩ := (w _ _ hcp).2 _ hmem
        rw [ecn] at w2 w3 hlen ⊢
        refine tot_bind (rF_vc rf) (tot_mb (r143_tot rf hc rc (by rw [c_pa_pa]; exact hp24)) (fun _ h1 q1 => ?_))
        obtain ⟨e1, rc1⟩ := q1
        rw [c_pa_pa, c_pa_pa2] at rc1
        have o1 := RX_cl hc e1 o rc1
        rw [s_cl_fset2] at o1
        have rf1 := o1.1
        have e145 : m145 F 37 (Int32.ofNat c) h1 = some (Int32.ofNat ch, h1) := by
          have := r145_eq (F := F) rf1 hc rc1 (by rw [c_pa_pa, List.length_append]; exact Nat.le_trans po1 (Nat.le_add_right _ _))
          rw [c_pa_pa, zlast_app] at this
          exact this
        refine tot_bind (rF_vc rf1) (tot_bind e145 ?_)
        rw [ix24]
        have hl' : (p ++ [ch]).length = p.length + 1 := by rw [List.length_append]; rfl
        have put3 : (c_jb z == 2) = true → y.2.2.2.2.1.length < 3 := by
          intro hj
          apply Classical.byContradiction
          intro q
          exact nb (by rw [hj, decide_eq_true (by omega)]; rfl)
        have nx := ih (p ++ [ch]) h1 (by omega) o1 (pOK_app po hcp put3 w (by rw [← ech]; exact hmem) w2 w3) (by rw [hl']; exact hlen)
        rw [hl', zlast_app] at nx
        exact tot_mono nx (fun _ h2 q2 => ⟨agR_trans (ag_R e1) q2.1, q2.2⟩)
      have e60 : Hei h 60 c = c_jb z := by
        have := rv_at rc (A := 60) (x := c_jb z) (by unfold rv; simp [c_st_pa, c_jb_pa, hst])
        exact this
      by_cases q3 : y.2.2.2.2.1.length = 3
      · rw [if_neg (fun z => z (by rw [q3]; rfl))]
        unfold b144_35
        rw [nn_some, mb_mr]
        refine tot_bind (g925 rf) ?_
        rw [nn_some, mb_mr]
        refine tot_bind (l60 rf hc) ?_
        rw [e60]
        by_cases j2 : c_jb z = 2
        · have jb : (c_jb z == 2) = true := by simpa using j2
          have full : ((c_jb z == 2) && decide (3 ≤ y.2.2.2.2.1.length)) = true := by rw [jb, decide_eq_true (by omega)]; rfl
          rw [if_neg (fun z => z j2)]
          dsimp only
          rw [if_pos full]
          unfold b144_45
          rw [nn_some, mb_mr]
          refine tot_bind (g922 rf) ?_
          rw [nn_some, mb_mr]
          refine tot_bind (l57 rf (by omega)) (tot_bind (rF_vc rf) ?_)
          rw [v1]
          have so : splOK (c_pa_ z p) := by
            unfold splOK
            rw [c_hi_pa, c_pa_pa, c_cp_pa]
            refine ⟨hh, po1, po2, po3, fun q => ?_⟩
            obtain ⟨r1, r2, r3, r4, r5⟩ := po4 q
            exact ⟨r1, r2, r3, r4 jb, r5⟩
          have t := r147_tot (F := F) (ver := y.1) hF hc o (by rw [ecl]; exact so) hbg hn v4 v3 q3
          rw [ecl, Zbegin_cl] at t
          have dl := Dsplit_len (c_pa_ z p) y so
          refine tot_mb t (fun _ h1 q1 => tot_mr ⟨q1.1, ?_⟩)
          show RX h1 (Zbegin S c (Dsplit (c_pa_ z p) y)) (n0 + dlen (Dsplit (c_pa_ z p) y)) [] c 3
          rw [dl]
          exact q1.2
        · rw [if_pos j2]
          refine down (fun q => ?_)
          rw [Bool.and_eq_true] at q
          exact j2 (by simpa using q.1)
      · have q3' : ¬ Int32.ofNat y.2.2.2.2.1.length = 3 := fun z => q3 ((i_eq (b := 3) (by omega) (by decide)).mp z)
        rw [if_pos q3']
        refine down (fun q => ?_)
        rw [Bool.and_eq_true] at q
        have := of_decide_eq_true q.2
        omega
/-- a walk's end by its path's length -/
theorem Dwalk_wD (hl : (zw (c_cp z) (c_jb z == 2) (c_go z) (24 - (c_pa z).length) (c_pa z)).1.length < 24) : Dwalk z = wD z (zw (c_cp z) (c_jb z == 2) (c_go z) (24 - (c_pa z).length) (c_pa z)) := by
  unfold Dwalk wD
  dsimp only
  generalize zw (c_cp z) (c_jb z == 2) (c_go z) (24 - (c_pa z).length) (c_pa z) = r at *
  obtain ⟨r1, r2⟩ := r
  cases r2 with
  | none => dsimp only at hl ⊢; rw [if_pos hl]
  | some x => rfl
theorem r144_tot (hF : 1000 ≤ F) (hc : c < 2) (o : RX h S n0 [] c 3) (hbg : s_bg S < 512) (hn : n0 + 3 ≤ 1600) (hst : ¬ c_st (s_cl S c) = 0) (hh : c_hi (s_cl S c) < 24) (w : cpW (c_cp (s_cl S c))) (po : pOK (c_cp (s_cl S c)) (c_jb (s_cl S c) == 2) (c_pa (s_cl S c))) (hl : (zw (c_cp (s_cl S c)) (c_jb (s_cl S c) == 2) (c_go (s_cl S c)) (24 - (c_pa (s_cl S c)).length) (c_pa (s_cl S c))).1.length < 24) : tot (m144 F 37 (Int32.ofNat c)) h (fun _ h' => agR h h' ∧ RX h' (Zbegin S c (Dwalk (s_cl S c))) (n0 + dlen (Dwalk (s_cl S c))) [] c 3) := by
  have rf := o.1
  rw [Dwalk_wD hl]
  unfold m144 b144_0
  rw [nn_some, mb_mr]
  refine tot_bind (rF_vc rf) (tot_bind (r145_eq rf hc o.2.2.2.2.2.2.2.1 po.1) ?_)
  rw [ix24]
  refine r144_loop (z := s_cl S c) hF hc hbg hn hst hh w F (c_pa (s_cl S c)) h (by omega) ?_ po hl
  rw [c_pa_id, fset_id]
  exact o
/-- startWalk -/
theorem r142_tot (hF : 1000 ≤ F) (hc : c < 2) (o : RX h S n0 [] c L) (hL : 2 ≤ L) (hbg : s_bg S < 512) (hn : n0 + 3 ≤ 1600) (hst : ¬ c_st (s_cl S c) = 0) (hh : c_hi (s_cl S c) < 24) (w : cpW (c_cp (s_cl S c))) (hl : (zw (c_cp (s_cl S c)) (c_jb (s_cl S c) == 2) (c_go (s_cl S c)) 23 [0]).1.length < 24) : tot (m142 F 37 (Int32.ofNat c)) h (fun _ h' => agR h h' ∧ RX h' (Zbegin S c (Dwalk (c_pa_ (s_cl S c) [0]))) (n0 + dlen (Dwalk (c_pa_ (s_cl S c) [0]))) [] c 3) := by
  have rf := o.1
  unfold m142 b142_0
  rw [nn_some, mb_mr]
  refine tot_bind (g938 rf) ?_
  rw [nn_some, mb_mr]
  refine tot_bind (s73 rf hc) ?_
  obtain ⟨e1, rc1⟩ := rs_pa0 o.2.2.2.2.2.2.2.1 hL
  have o1 := RX_cl hc e1 o rc1
  generalize Uei h 73 c 0 = h1 at *
  refine tot_bind (rF_vc o1.1) (tot_mb (r143_tot (a := 0) o1.1 hc rc1 (by rw [c_pa_pa]; decide)) (fun _ h2 q2 => ?_))
  obtain ⟨e2, rc2⟩ := q2
  rw [c_pa_pa, c_pa_pa2] at rc2
  have o2 := RX_cl hc e2 o1 rc2
  rw [s_cl_fset2] at o2
  have ecl : s_cl (s_cl_ S (fset (s_cl S) c (c_pa_ (s_cl S c) ([] ++ [0])))) c = c_pa_ (s_cl S c) [0] := by rw [s_cl_cl, fset_eq, if_pos rfl]; rfl
  have t := r144_tot (F := F) hF hc o2 hbg hn (by rw [ecl, c_st_pa]; exact hst) (by rw [ecl, c_hi_pa]; exact hh) (by rw [ecl, c_cp_pa]; exact w) (by rw [ecl, c_cp_pa, c_pa_pa]; exact pOK_0) (by rw [ecl, c_cp_pa, c_jb_pa, c_go_pa, c_pa_pa]; exact hl)
  rw [ecl, Zbegin_cl] at t
  exact tot_bind (rF_vc o2.1) (tot_mb t (fun _ h3 q3 => tot_mr ⟨agR_trans (agR_trans (ag_R e1) (ag_R e2)) q3.1, q3.2⟩))
end RWALK
