/-! A client's advance. -/
def lastOK (cp : Nat → Option (Int32 × zN)) (p : List Nat) : Prop := ¬ p.length = 1 → ∀ q, cp (zpar p) = some q → Int32.ofNat (zlast p) ∈ q.2.2.2.2.2
theorem zlast_app (p : List Nat) (x : Nat) : zlast (p ++ [x]) = x := by
  unfold zlast
  rw [List.length_append]
  simp [List.getD_eq_getElem?_getD]
theorem zpar_app {p : List Nat} (x : Nat) (h : 1 ≤ p.length) : zpar (p ++ [x]) = zlast p := by
  unfold zlast zpar
  rw [List.length_append, show [x].length = 1 from rfl, show p.length + 1 - 2 = p.length - 1 by omega]
  simp only [List.getD_eq_getElem?_getD]
  rw [List.getElem?_append_left (by omega)]
theorem zw_last {cp : Nat → Option (Int32 × zN)} {b : Bool} {k : Int32} (hcp : ∀ p q, cp p = some q → wfI q.2) : ∀ (f : Nat) (p : List Nat), 1 ≤ p.length → lastOK cp p → lastOK cp (zw cp b k f p).1 ∧ (∀ v, (zw cp b k f p).2 = some v → cp (zlast (zw cp b k f p).1) = some v ∧ 3 ≤ v.2.2.2.2.1.length ∧ b = true) := by
  intro f
  induction f with
  | zero => intro p _ hp; exact ⟨hp, fun v q => by cases q⟩
  | succ f ih =>
    intro p h1 hp
    rw [zw]
    cases hc : cp (zlast p) with
    | none => exact ⟨hp, fun v q => by cases q⟩
    | some u =>
      by_cases hb : (b && decide (3 ≤ u.2.2.2.2.1.length)) = true
      · simp only [hb, if_true]
        refine ⟨hp, fun v q => ?_⟩
        cases q
        rw [Bool.and_eq_true] at hb
        exact ⟨hc, of_decide_eq_true hb.2, hb.1⟩
      · simp only [hb]
        refine ih _ (by rw [List.length_append]; omega) ?_
        intro _ q hq
        rw [zpar_app _ h1, hc] at hq
        cases hq
        rw [zlast_app, ← i_self ((hcp _ _ hc).2.2.2.2 _ (zchild_mem (hcp _ _ hc))).1]
        exact zchild_mem (hcp _ _ hc)
section CL8
variable {h h0 h1 h2 : xv_H} {B c F f x K K2 x0 n : Nat} {z : zC} {e s a d w : Option Nat} {v u : Int32 × zN} {D2 : Option (List zI × Int32)}
/-- the end of a call of advance -/
def AD (h h' : xv_H) (B c : Nat) (D : zD) : Prop := ∃ e' a' d', ext 60 (XfC B) (XaC B) h h' ∧ cs h' B c D.1 (e', some (xv_SB + 11), a', d') ∧ dft h h' c a' d' D.2
theorem dft_tr (E : ext K (XfC B) (XaC B) h h1) (o : dft h1 h2 c a d D2) : dft h h2 c a d D2 := by
  cases D2 with
  | none => exact o
  | some r => obtain ⟨x, x1, x2, x3⟩ := o; exact ⟨x, x1, Nat.le_trans E.1.1 x2, x3⟩
theorem dft_c {Xf : Nat → Nat → Prop} {Xa : Nat → Prop} (E : ext K Xf Xa h1 h2) (cm : calm h1 Xf Xa) (hf : ∀ f b, 400 ≤ f → f < 406 → ¬ Xf f b) (ha : ∀ b, Hn h ≤ b → ¬ Xa b) (o : dft h h1 c a d D2) : dft h h2 c a d D2 := by
  cases D2 with
  | none => exact o
  | some r =>
    obtain ⟨x, x1, x2, x3, x4, x5⟩ := o
    exact ⟨x, x1, x2, x3, okTx_c E cm (fun f f1 f2 => hf f x f1 f2) (ha _ (by omega)) (ha _ (by omega)) x4, okAn_c E x4.1.2.2.2.1.1 (ha _ (by omega)) x5⟩
theorem AD_tr {D : zD} (E : ext 0 (XfC B) (XaC B) h h1) (o : AD h1 h2 B c D) : AD h h2 B c D := by
  obtain ⟨e', a', d', E2, o2, o3⟩ := o
  exact ⟨e', a', d', ext_trans (k1 := 0) (k2 := 60) E E2, o2, dft_tr E o3⟩
/-- step = REST at the end -/
theorem a100 (hB : isB B) (E : ext K (XfC B) (XaC B) h h1) (hK : K ≤ 60) (hl0 : B + 5 < Hn h) (o : cs h1 B c z (e, s, a, d)) (od : dft h h1 c a d D2) : tot (b14_100 F (some B)) h1 (fun _ h' => AD h h' B c (z, D2)) := by
  unfold b14_100
  rw [nn_some, mb_mr]
  refine tot_bind (ok_pr (cs_lB o)) ?_
  have E1 : ext 0 (fun f b => f = 109 ∧ b = B) Xa0 h1 (Ufr h1 109 B (some (xv_SB + 11))) := ext_fr ⟨rfl, rfl⟩
  exact tot_mr ⟨e, a, d, ext_le (ext_frS E (Or.inl (Or.inl ⟨rfl, by decide⟩))) hK, cs_step hB _ o, dft_c E1 ⟨fun f b f1 f2 q => by omega, fun _ _ _ q => q⟩ (fun f b f1 f2 q => by omega) (fun _ _ q => q) od⟩
theorem cqS {p q : Nat} (hp : 3 ≤ p) (hq : 3 ≤ q) : cq (some (xv_SB + p)) (some (xv_SB + q)) h = some ((), h) := ok_cqV hp hq
theorem S_ne {p q : Nat} (hpq : ¬ p = q) : ¬ (some (xv_SB + p) : Option Nat) = some (xv_SB + q) := fun r => by injection r with r; omega
/-- not SPLIT -/
theorem a86n {sp : Nat} (hB : isB B) (E : ext K (XfC B) (XaC B) h h1) (hK : K ≤ 60) (hl0 : B + 5 < Hn h) (hs : 3 ≤ sp) (hn : ¬ sp = 18) (o : cs h1 B c z (e, some (xv_SB + sp), a, d)) (od : dft h h1 c a d D2) : tot (b14_86 F (some B)) h1 (fun _ h' => AD h h' B c (z, D2)) := by
  unfold b14_86
  rw [nn_some, mb_mr]
  refine tot_bind (cs_109 o) (tot_bind (cqS hs (by decide)) ?_)
  rw [if_pos (S_ne hn)]
  exact a100 hB E hK hl0 o od
/-- SPLIT -/
theorem a86s (hB : isB B) (hF : 1000 ≤ F) (E : ext K (XfC B) (XaC B) h h1) (hK : K ≤ 30) (hl0 : B + 5 < Hn h) (l60 : v.2.2.2.2.1.length < 60) (i60 : v.2.2.2.2.2.length < 60) (l2 : 2 ≤ v.2.2.2.2.1.length) (i2 : 2 ≤ v.2.2.2.2.2.length) (hcp : ∀ p q, c_cp z p = some q → wfI q.2) (hlo : lastOK (c_cp z) (c_pa z)) (hh : c_hi z < 24) (g : hb 200 h) (o : cs h1 B c z (some x0, some (xv_SB + 18), a, none)) (oc : okCell h1 x0 v) : tot (b14_86 F (some B)) h1 (fun _ h' => AD h h' B c (Dsplit z v)) := by
  unfold b14_86
  rw [nn_some, mb_mr]
  refine tot_bind (cs_109 o) (tot_bind (cqS (by decide) (by decide)) ?_)
  rw [if_neg (fun q => q rfl)]
  unfold b14_96
  rw [nn_some, mb_mr]
  refine tot_bind (ok_vc (cs_lB o)) ?_
  refine tot_mb (c38_tot hB hF l60 i60 l2 i2 (fun q hq n => ⟨hcp _ _ hq, hlo n q hq⟩) hh (hb_le (hb_ext (r := 80) E (hb_le g (by omega))) (by decide)) o oc) (fun _ h2 q => ?_)
  obtain ⟨s', a', d', E2, o2, dd⟩ := q
  exact a100 hB (ext_trans E E2) (by omega) hl0 o2 (dft_tr E dd)
/-- what advance asks of a client -/
def okZ (z : zC) : Prop := isJ (c_jb z) ∧ c_hi z < 24 ∧ (∀ p q, c_cp z p = some q → wfI q.2) ∧ lastOK (c_cp z) (c_pa z)
/-- WALK -/
theorem a72w (hB : isB B) (hF : 1000 ≤ F) (E : ext K (XfC B) (XaC B) h h1) (hK : K ≤ 20) (hl0 : B + 5 < Hn h) (hz : okZ z) (g : hb 200 h) (o : cs h1 B c z (e, some (xv_SB + 17), a, none)) : tot (b14_72 F (some B)) h1 (fun _ h' => AD h h' B c (Dwalk z)) := by
  obtain ⟨hj, hh, hcp, hlo⟩ := hz
  have hp1 : 1 ≤ (c_pa z).length := o.1.2.2.1.2.1
  unfold b14_72
  rw [nn_some, mb_mr]
  refine tot_bind (cs_109 o) (tot_bind (cqS (by decide) (by decide)) ?_)
  rw [if_neg (fun q => q rfl)]
  unfold b14_82
  rw [nn_some, mb_mr]
  refine tot_bind (ok_vc (cs_lB o)) ?_
  refine tot_mb (c36_tot hB hF hj hcp (hb_le (hb_ext (r := 80) E (hb_le g (by omega))) (by decide)) o) (fun _ h2 q => ?_)
  obtain ⟨E2, q⟩ := q
  have zl := zw_last (b := (c_jb z == 2)) (k := c_go z) hcp (24 - (c_pa z).length) (c_pa z) hp1 hlo
  have hD : Dwalk z = (match (zw (c_cp z) (c_jb z == 2) (c_go z) (24 - (c_pa z).length) (c_pa z)).2 with
    | some x => Dsplit (c_pa_ z (zw (c_cp z) (c_jb z == 2) (c_go z) (24 - (c_pa z).length) (c_pa z)).1) x
    | none => if (zw (c_cp z) (c_jb z == 2) (c_go z) (24 - (c_pa z).length) (c_pa z)).1.length < 24 then (c_pa_ z (zw (c_cp z) (c_jb z == 2) (c_go z) (24 - (c_pa z).length) (c_pa z)).1, some ([(1, zlast (zw (c_cp z) (c_jb z == 2) (c_go z) (24 - (c_pa z).length) (c_pa z)).1, 0, z0N)], 1)) else (c_st_ (c_pa_ z (zw (c_cp z) (c_jb z == 2) (c_go z) (24 - (c_pa z).length) (c_pa z)).1) 4, none)) := rfl
  generalize zw (c_cp z) (c_jb z == 2) (c_go z) (24 - (c_pa z).length) (c_pa z) = r at *
  rcases q with q | q | q
  · obtain ⟨v, x0, r2, oc, o2⟩ := q
    obtain ⟨y1, y2, _⟩ := zl.2 v r2
    have wf := hcp _ _ y1
    rw [hD, r2]
    refine a86s hB hF (ext_trans E E2) (by omega) hl0 wf.1 wf.2.2.1 (by omega) (by have := wf.2.1; omega) ?_ ?_ ?_ g o2 oc
    · rw [c_cp_pa]; exact hcp
    · rw [c_cp_pa, c_pa_pa]; exact zl.1
    · rw [c_hi_pa]; exact hh
  · obtain ⟨r2, r3, a', d', o2, dd⟩ := q
    rw [hD, r2]
    simp only [r3, if_true]
    exact a86n hB (ext_trans E E2) (by omega) hl0 (by decide) (by decide) o2 (dft_tr E dd)
  · obtain ⟨r2, r3, o2⟩ := q
    rw [hD, r2]
    simp only [r3, if_false]
    exact a86n hB (ext_trans E E2) (by omega) hl0 (by decide) (by decide) o2 rfl
/-- not WALK -/
theorem a72n {sp : Nat} (hs : 3 ≤ sp) (hn : ¬ sp = 17) (o : cs h1 B c z (e, some (xv_SB + sp), a, d)) {Q : Unit → xv_H → Prop} (T : tot (b14_86 F (some B)) h1 Q) : tot (b14_72 F (some B)) h1 Q := by
  unfold b14_72
  rw [nn_some, mb_mr]
  refine tot_bind (cs_109 o) (tot_bind (cqS hs (by decide)) ?_)
  rw [if_pos (S_ne hn)]
  exact T
theorem a58n {sp : Nat} (hs : 3 ≤ sp) (hn : ¬ sp = 16) (o : cs h1 B c z (e, some (xv_SB + sp), a, d)) {Q : Unit → xv_H → Prop} (T : tot (b14_72 F (some B)) h1 Q) : tot (b14_58 F (some B)) h1 Q := by
  unfold b14_58
  rw [nn_some, mb_mr]
  refine tot_bind (cs_109 o) (tot_bind (cqS hs (by decide)) ?_)
  rw [if_pos (S_ne hn)]
  exact T
theorem a28n {sp : Nat} (hs : 3 ≤ sp) (hn : ¬ sp = 16) (o : cs h1 B c z (e, some (xv_SB + sp), a, d)) {Q : Unit → xv_H → Prop} (T : tot (b14_72 F (some B)) h1 Q) : tot (b14_28 F (some B)) h1 Q := by
  unfold b14_28
  rw [nn_some, mb_mr]
  refine tot_bind (cs_109 o) (tot_bind (cqS hs (by decide)) ?_)
  rw [if_pos (S_ne hn)]
  exact a58n hs hn o T
theorem a0n {sp : Nat} (hs : 3 ≤ sp) (hn : ¬ sp = 15) (o : cs h1 B c z (e, some (xv_SB + sp), a, d)) {Q : Unit → xv_H → Prop} (T : tot (b14_28 F (some B)) h1 Q) : tot (m14 F B) h1 Q := by
  unfold m14 b14_0
  rw [nn_some, mb_mr]
  refine tot_bind (cs_109 o) (tot_bind (cqS hs (by decide)) ?_)
  rw [if_pos (S_ne hn)]
  exact T
/-- advance at REST, WALK, START, USE_LEAF -/
theorem adv_rest (hB : isB B) (o : cs h B c z (e, some (xv_SB + 11), a, none)) : tot (m14 F B) h (fun _ h' => AD h h' B c (z, none)) :=
  a0n (by decide) (by decide) o (a28n (by decide) (by decide) o (a72n (by decide) (by decide) o (a86n hB ext_refl (by decide) (cs_lt o) (by decide) (by decide) o rfl)))
theorem adv_walk (hB : isB B) (hF : 1000 ≤ F) (hz : okZ z) (g : hb 200 h) (o : cs h B c z (e, some (xv_SB + 17), a, none)) : tot (m14 F B) h (fun _ h' => AD h h' B c (Dwalk z)) :=
  a0n (by decide) (by decide) o (a28n (by decide) (by decide) o (a72w hB hF ext_refl (by decide) (cs_lt o) hz g o))
theorem lastOK_0 {cp : Nat → Option (Int32 × zN)} : lastOK cp [0] := fun n => absurd rfl n
/-- what a start asks of a client -/
def okY (z : zC) : Prop := isJ (c_jb z) ∧ c_hi z < 24 ∧ ∀ p q, c_cp z p = some q → wfI q.2
theorem okZ_Y (hz : okZ z) : okY z := ⟨hz.1, hz.2.1, hz.2.2.1⟩
theorem adv_start (hB : isB B) (hF : 1000 ≤ F) (hz : okY z) (g : hb 200 h) (o : cs h B c z (e, some (xv_SB + 15), a, none)) : tot (m14 F B) h (fun _ h' => AD h h' B c (Dstart z)) := by
  unfold m14 b14_0
  rw [nn_some, mb_mr]
  refine tot_bind (cs_109 o) (tot_bind (cqS (by decide) (by decide)) ?_)
  rw [if_neg (fun q => q rfl)]
  unfold b14_10
  rw [nn_some, mb_mr]
  refine tot_bind (cs_102 o) ?_
  rw [nn_some, mb_mr]
  refine tot_bind (ok_vc (cs_lJ o)) ?_
  refine tot_mb (c15_tot hB o) (fun _ h1 q => ?_)
  obtain ⟨E1, o1⟩ := q
  refine tot_bind (cs_102 o1) ?_
  rw [nn_some, mb_mr]
  refine tot_bind (cs_204 o1) (tot_bind (ok_vc (cs_lB o1)) ?_)
  refine tot_mb (c16_tot hB o1) (fun _ h2 q => ?_)
  obtain ⟨E2, o2⟩ := q
  have hD : Dstart z = Dwalk (c_pa_ (c_go_ (c_re_ (c_fo_ (c_lf_ z []) false) 0) (c_fr z)) [0]) := by unfold Dstart DwalkFor; rfl
  have f1 : c_fr (c_re_ (c_fo_ (c_lf_ z []) false) 0) = c_fr z := by rw [c_fr_re, c_fr_fo, c_fr_lf]
  rw [f1] at o2
  rw [hD]
  refine a28n (by decide) (by decide) o2 (a72w hB hF (ext_trans (k1 := 0) (k2 := 0) E1 E2) (by decide) (cs_lt o) ⟨?_, ?_, ?_, ?_⟩ g o2)
  · simp only [c_jb_pa, c_jb_go, c_jb_re, c_jb_fo, c_jb_lf]; exact hz.1
  · simp only [c_hi_pa, c_hi_go, c_hi_re, c_hi_fo, c_hi_lf]; exact hz.2.1
  · simp only [c_cp_pa, c_cp_go, c_cp_re, c_cp_fo, c_cp_lf]; exact hz.2.2
  · rw [c_pa_pa]; exact lastOK_0
theorem adv_leaf (hB : isB B) (hF : 1000 ≤ F) (hz : okZ z) (h60 : v.2.2.2.2.1.length < 60) (hlen : v.2.2.2.2.1.length = v.2.2.2.2.2.length) (g : hb 200 h) (o : cs h B c z (some x0, some (xv_SB + 16), a, none)) (oc : okCell h x0 v) : tot (m14 F B) h (fun _ h' => AD h h' B c (if c_jb z = 4 then Dcollect z v else Dleaf z v)) := by
  refine a0n (by decide) (by decide) o ?_
  obtain ⟨hj, hh, hcp, hlo⟩ := id hz
  unfold b14_28
  rw [nn_some, mb_mr]
  refine tot_bind (cs_109 o) (tot_bind (cqS (by decide) (by decide)) ?_)
  rw [if_neg (fun q => q rfl)]
  unfold b14_38
  rw [nn_some, mb_mr]
  refine tot_bind (cs_102 o) ?_
  rw [nn_some, mb_mr]
  refine tot_bind (cs_203 o (isJ_ne hj)) (tot_bind (ok_cqJ hj (by decide)) ?_)
  have cm := calmC (h := h) hB
  refine tot_if (fun q => ?_) (fun q => ?_)
  · have n4 : ¬ c_jb z = 4 := fun r => q ((J6 hj).mpr r)
    rw [if_neg n4]
    unfold b14_58
    rw [nn_some, mb_mr]
    refine tot_bind (cs_109 o) (tot_bind (cqS (by decide) (by decide)) ?_)
    rw [if_neg (fun q => q rfl)]
    unfold b14_68
    rw [nn_some, mb_mr]
    refine tot_bind (ok_vc (cs_lB o)) ?_
    refine tot_mb (c27_tot hB hF h60 hlen hj (hb_le g (by decide)) o oc) (fun _ h1 q => ?_)
    obtain ⟨s', a', d', z', E1, o1, q⟩ := q
    rcases q with q | q
    · obtain ⟨rfl, rfl, rfl, hz', hD, h3⟩ := q
      rw [hD]
      refine a72n (by decide) (by decide) o1 (a86s hB hF E1 (by decide) (cs_lt o) h60 (by omega) (by omega) (by omega) ?_ ?_ ?_ g o1 (okCell_c E1 cm oc))
      · rw [hz']; unfold lfSeen; rw [c_cp_re, c_cp_fo]; exact hcp
      · rw [hz']; unfold lfSeen; rw [c_cp_re, c_cp_fo, c_pa_re, c_pa_fo]; exact hlo
      · rw [hz']; unfold lfSeen; rw [c_hi_re, c_hi_fo]; exact hh
    · obtain ⟨rfl, hD, dd⟩ := q
      rw [hD]
      exact a72n (by decide) (by decide) o1 (a86n hB E1 (by decide) (cs_lt o) (by decide) (by decide) o1 dd)
  · have y4 : c_jb z = 4 := (J6 hj).mp (Classical.not_not.mp q)
    rw [if_pos y4]
    unfold b14_51
    rw [nn_some, mb_mr]
    refine tot_bind (ok_vc (cs_lB o)) ?_
    refine tot_mb (c17_tot hB hF h60 hlen (hb_le g (by decide)) o oc) (fun _ h1 q => ?_)
    obtain ⟨s', a', d', z', E1, o1, q⟩ := q
    rcases q with q | q
    · obtain ⟨rfl, rfl, rfl, hD, hj', hcp', hhi, hpa⟩ := q
      rw [hD]
      exact a72w hB hF E1 (by decide) (cs_lt o) ⟨by rw [hj']; exact hj, by rw [hhi]; exact hh, by rw [hcp']; exact hcp, by rw [hpa]; exact lastOK_0⟩ g o1
    · obtain ⟨hs, hD, dd⟩ := q
      rw [hD]
      rcases hs with rfl | rfl
      · exact a72n (by decide) (by decide) o1 (a86n hB E1 (by decide) (cs_lt o) (by decide) (by decide) o1 dd)
      · exact a72n (by decide) (by decide) o1 (a86n hB E1 (by decide) (cs_lt o) (by decide) (by decide) o1 dd)
end CL8
