/-! A client's methods: drafts of one kind of items, collecting leaves. -/
/-- what is drafted -/
def dft (h0 h : xv_H) (c : Nat) (a d : Option Nat) (D : Option (List zI × Int32)) : Prop := match D with
  | none => d = none
  | some (its, sg) => ∃ x, d = some x ∧ Hn h0 ≤ x ∧ a = some (xv_SB + 11 + sg.toNatClampNeg) ∧ okTx h x c 0 its ∧ okAn h x (fun _ => false)
section CL3
variable {h h0 h1 h2 : xv_H} {B c F f x K : Nat} {z : zC} {e s a d w : Option Nat} {T : Option Nat × Option Nat × Option Nat × Option Nat} {y : Int32} {v : Int32 × zN} {its : List zI} {i : zI} {an : Nat → Bool}
/-- include, into a draft -/
theorem c25_cs {t : Nat} {k : Option Nat} (E : ext K (XfC B) (XaC B) h0 h) (hx : Hn h0 ≤ x) (hl0 : B + 5 < Hn h0) (o : cs h B c z T) (ot : okTx h x c t its) (oa : okAn h x an) (h6 : its.length < 6) (ha : i.2.1 < 24) (hk : k = some (xv_SB + 6 + i.1.toNatClampNeg)) (ho : i.1 = 3 ∨ i.1 = 4 → ∃ n, w = some n ∧ okN h n i.2.2.2) (g : hb (K + 5) h0) : tot (m25 F x k (Int32.ofNat i.2.1) i.2.2.1 w) h (fun _ h' => ext (K + 1) (XfC B) (XaC B) h0 h' ∧ cs h' B c z T ∧ okTx h' x c t (its ++ [i]) ∧ okAn h' x an) := by
  refine tot_mono (c25_tot ot h6 ha hk ho (hb_ext E g)) (fun _ h' q => ?_)
  obtain ⟨e1, t1⟩ := q
  have l1 := ot.1.2.1.1.2.2
  have l2 := ot.1.2.2.1.1.2.2
  refine ⟨ext_trS (k1 := K) (k2 := 1) E e1 (fun f b q => Or.inr (by rw [q.1]; exact hx)) (fun b q => Or.inr (by omega)), cs_c e1 ⟨fun f b f1 f2 q => by omega, fun b _ ht q => ?_⟩ (fun f b q f1 r => by omega) ⟨fun q => by omega, fun q => by omega, fun q => by omega, fun q => by omega⟩ o, t1, okAn_c e1 ot.1.2.2.2.1.1 (fun q => by omega) oa⟩
  rcases q with q | q
  · rw [q, l1] at ht; cases ht
  · rw [q, l2] at ht; cases ht
/-- draftChange -/
theorem c33_tot {N : zN} {n x0 : Nat} (hB : isB B) (g : hb 30 h) (o : cs h B c z (some x0, s, a, d)) (oe : okCell h x0 v) (on : okN h n N) : tot (m33 F B (some n)) h (fun _ h' => ∃ a' d', ext 5 (XfC B) (XaC B) h h' ∧ cs h' B c z (some x0, s, a', d') ∧ dft h h' c a' d' (some ([(3, zlast (c_pa z), v.1, N)], 2))) := by
  have hl := cs_lt o
  unfold m33 b33_0
  rw [nn_some, mb_mr]
  refine tot_bind (ok_vc (cs_lB o)) ?_
  refine tot_mb (c23_tot hB (hb_le g (by decide)) o) (fun r h1 q => ?_)
  obtain ⟨x, rfl, hx, E1, o1, t1, n1⟩ := q
  have cm := calmC (h := h) hB
  refine tot_bind (ok_vc (cs_lB o1)) (tot_bind (c19_eq o1) (tot_bind (cs_106 o1) ?_))
  rw [nn_some, mb_mr]
  have oe1 := okCell_c E1 cm oe
  refine tot_bind (show gi 700 x0 h1 = some (v.1, h1) by rw [ok_gi oe1.1, oe1.2.1]) ?_
  rw [nn_some, mb_mr]
  refine tot_bind (ok_vc t1.1.1) ?_
  refine tot_mb (c25_cs (i := (3, zlast (c_pa z), v.1, N)) E1 hx hl o1 t1 n1 (by decide) (zlast_lt o1.1.2.2.1) (by rfl) (fun _ => ⟨n, rfl, okN_c E1 cm on⟩) (hb_le g (by decide))) (fun _ h2 q => ?_)
  obtain ⟨E2, o2, t2, n2⟩ := q
  exact tot_mr ⟨_, _, E2, o2, x, rfl, hx, rfl, t2, n2⟩
/-- draftCheck -/
theorem c22_loop (hB : isB B) (g : hb 20 h0) (hl0 : B + 5 < Hn h0) (hx : Hn h0 ≤ x) : ∀ (f i : Nat) (h : xv_H), i ≤ (c_lf z).length → (c_lf z).length - i < f → ext (4 + i) (XfC B) (XaC B) h0 h → cs h B c z T → okTx h x c 0 (((c_lf z).take i).map (fun y => (2, y.1, y.2, z0N))) → okAn h x (fun _ => false) → tot (b22_10 F f (some B) (some x) (Int32.ofNat i)) h (fun _ h' => ext 10 (XfC B) (XaC B) h0 h' ∧ cs h' B c z T ∧ okTx h' x c 0 ((c_lf z).map (fun y => (2, y.1, y.2, z0N))) ∧ okAn h' x (fun _ => false)) := by
  intro f
  induction f with
  | zero => intro i h _ hf; omega
  | succ f ih =>
    intro i h hi hf E o t n
    have h6 : (c_lf z).length ≤ 6 := o.1.2.2.2.1.1
    unfold b22_10
    rw [nn_some, mb_mr]
    refine tot_bind (cs_102 o) ?_
    rw [nn_some, mb_mr]
    refine tot_bind (cs_202 o) ?_
    by_cases hc : i < (c_lf z).length
    · rw [if_neg (fun q => by rw [i_le (by omega) (by omega)] at q; omega)]
      have hg := o.1.2.2.2.1.2.2 i hc
      unfold b22_21
      rw [nn_some, mb_mr]
      refine tot_bind (cs_102 o) ?_
      rw [nn_some, mb_mr]
      refine tot_bind (cs_200 o) ?_
      rw [nn_some, mb_mr]
      refine tot_bind (ok_li (cs_lA o).1 (i_nn (by omega)) (by rw [i_nat (by omega), (cs_lA o).2]; omega)) ?_
      rw [i_nat (by omega), hg.1]
      refine tot_bind (cs_102 o) ?_
      rw [nn_some, mb_mr]
      refine tot_bind (cs_201 o) ?_
      rw [nn_some, mb_mr]
      refine tot_bind (ok_li (cs_lV o).1 (i_nn (by omega)) (by rw [i_nat (by omega), (cs_lV o).2]; omega)) ?_
      rw [i_nat (by omega), hg.2.1, nn_some, mb_mr]
      refine tot_bind (ok_vc t.1.1) ?_
      refine tot_mb (c25_cs (i := (2, ((c_lf z).getD i (0, 0)).1, ((c_lf z).getD i (0, 0)).2, z0N)) E hx hl0 o t n (by rw [List.length_map, List.length_take]; omega) hg.2.2 (by rfl) (fun q => by rcases q with q | q; exact absurd (show (2 : Int32) = 3 from q) (by decide); exact absurd (show (2 : Int32) = 4 from q) (by decide)) (hb_le g (by omega))) (fun _ h2 q => ?_)
      obtain ⟨E2, o2, t2, n2⟩ := q
      rw [i_add1]
      refine ih (i + 1) h2 (by omega) (by omega) E2 o2 ?_ n2
      have : (c_lf z).take (i + 1) = (c_lf z).take i ++ [(c_lf z).getD i (0, 0)] := by
        rw [List.take_succ_eq_append_getElem hc, List.getD_eq_getElem?_getD, List.getElem?_eq_getElem hc]; rfl
      rw [this, List.map_append]
      exact t2
    · rw [if_pos ((i_le (by omega) (by omega)).mpr (by omega))]
      have : (c_lf z).take i = c_lf z := List.take_of_length_le (by omega)
      rw [this] at t
      exact tot_mr ⟨ext_le E (by omega), o, t, n⟩
theorem c22_tot (hB : isB B) (hF : 1000 ≤ F) (g : hb 30 h) (o : cs h B c z (e, s, a, d)) : tot (m22 F B) h (fun _ h' => ∃ a' d', ext 10 (XfC B) (XaC B) h h' ∧ cs h' B c z (e, s, a', d') ∧ dft h h' c a' d' (some ((c_lf z).map (fun y => (2, y.1, y.2, z0N)), 2))) := by
  have hl := cs_lt o
  have h6 : (c_lf z).length ≤ 6 := o.1.2.2.2.1.1
  unfold m22 b22_0
  rw [nn_some, mb_mr]
  refine tot_bind (ok_vc (cs_lB o)) ?_
  refine tot_mb (c23_tot hB (hb_le g (by decide)) o) (fun r h1 q => ?_)
  obtain ⟨x, rfl, hx, E1, o1, t1, n1⟩ := q
  refine tot_mono (c22_loop hB (hb_le g (by decide)) hl hx F 0 h1 (Nat.zero_le _) (by omega) E1 o1 (by exact t1) n1) (fun _ h2 q => ?_)
  obtain ⟨E2, o2, t2, n2⟩ := q
  exact ⟨_, _, E2, o2, x, rfl, hx, rfl, t2, n2⟩
/-- one more leaf -/
theorem cs_lfS {p : Nat} (hB : isB B) (hx : p < 24) (h6 : (c_lf z).length < 6) (o : cs h B c z T) : cs (Ufi (Uei (Uei h (B + 3) (c_lf z).length (Int32.ofNat p)) (B + 4) (c_lf z).length y) 202 (B + 2) (Int32.ofNat ((c_lf z).length + 1))) B c (c_lf_ z (c_lf z ++ [(p, y)])) T := by
  have hl := cs_lt o
  have ex : ext 0 (fun f a => f = 202 ∧ a = B + 2) (fun a => a = B + 3 ∨ a = B + 4) h (Ufi (Uei (Uei h (B + 3) (c_lf z).length (Int32.ofNat p)) (B + 4) (c_lf z).length y) 202 (B + 2) (Int32.ofNat ((c_lf z).length + 1))) := ext_fiS (ext_eiS (ext_ei (Or.inl rfl)) (Or.inl (Or.inr rfl))) (Or.inl ⟨rfl, rfl⟩)
  obtain ⟨⟨f1, f2, f3, f4, f5⟩, t⟩ := o
  obtain ⟨p1, p3, p4⟩ := f4
  have hlen : (c_lf z ++ [(p, y)]).length = (c_lf z).length + 1 := by rw [List.length_append]; rfl
  have hget : ∀ i, i < (c_lf z).length → (c_lf z ++ [(p, y)]).getD i (0, 0) = (c_lf z).getD i (0, 0) := fun i hi => by simp only [List.getD_eq_getElem?_getD]; rw [List.getElem?_append_left hi]
  refine ⟨⟨kF_c ex (fun f b q r => by omega) f1, ?_, kP_c ex hl (fun q => by omega) (fun q => by omega) f3, ?_, kC_c ex ⟨fun f a f1 f2 q => by omega, fun a i _ q => by unfold im at i; unfold isB at hB; omega⟩ (by omega) (fun q => by omega) f5⟩, ?_⟩
  · obtain ⟨a1, a2, a3, a4, a5, a6, a7, a8, a9, a0⟩ := f2
    refine ⟨?_, ?_, ?_, ?_, ?_, ?_, ?_, ?_, ?_, ?_⟩ <;> (simp [Hfi_Ufi, Hfr_Ufi, Hfi_Uei, Hfr_Uei, c_hi_lf, c_jb_lf, c_st_lf, c_fu_lf, c_go_lf, c_fr_lf, c_up_lf, c_wa_lf, c_re_lf, c_fo_lf]; assumption)
  · rw [c_lf_lf]
    refine ⟨by omega, by rw [hlen, Hfi_Ufi, if_pos ⟨rfl, rfl⟩], fun i hi => ?_⟩
    rw [hlen] at hi
    simp only [Hei_Ufi, Hei_Uei]
    by_cases hc : i = (c_lf z).length
    · have : (c_lf z ++ [(p, y)]).getD i (0, 0) = (p, y) := by subst hc; simp [List.getD_eq_getElem?_getD]
      rw [if_neg (show ¬ (B + 3 = B + 4 ∧ i = (c_lf z).length) by omega), if_pos (show True ∧ i = (c_lf z).length from ⟨trivial, hc⟩), if_pos (show True ∧ i = (c_lf z).length from ⟨trivial, hc⟩), this]
      exact ⟨rfl, rfl, hx⟩
    · simp only [hc, and_false, if_false]
      rw [hget i (by omega)]
      exact p4 i (by omega)
  · rw [← t]; rfl
/-- Job.collect: the sum -/
theorem c_fore (z : zC) (p q : Bool) (r u : Int32) : c_re_ (c_fo_ (c_re_ (c_fo_ z p) r) q) u = c_re_ (c_fo_ z q) u := (rfl)
theorem c20_loop {x0 : Nat} (hB : isB B) (h60 : v.2.2.2.2.1.length < 60) (hlen : v.2.2.2.2.1.length = v.2.2.2.2.2.length) {Q : Unit → xv_H → Prop} : ∀ (f i : Nat) (r : Bool × Int32) (h : xv_H), i ≤ v.2.2.2.2.1.length → v.2.2.2.2.1.length - i < f → cs h B c (c_re_ (c_fo_ z r.1) r.2) (e, s, a, d) → okCell h x0 v → (∀ h' r', r' = zsum (c_fr z) (c_up z) (v.2.2.2.2.1.drop i) (v.2.2.2.2.2.drop i) r → ext 0 (XfC B) (XaC B) h h' → cs h' B c (c_re_ (c_fo_ z r'.1) r'.2) (e, s, a, d) → Q () h') → tot (b20_35 F f (some (B + 2)) (some x0) (Int32.ofNat i)) h Q := by
  intro f
  induction f with
  | zero => intro i r h _ hf; omega
  | succ f ih =>
    intro i r h hi hf o oe K
    obtain ⟨oe1, oe2, nb, oe3, on⟩ := oe
    obtain ⟨kk, ii, ⟨lb, g6⟩, ⟨g0, g1, g2, g3, g4⟩, ik, ok, im1, oi⟩ := okN_d on
    have G7 : gr 701 x0 h = some (some nb, h) := by rw [ok_gr oe1, oe3]
    unfold b20_35
    rw [nn_some, mb_mr]
    refine tot_bind G7 ?_
    rw [nn_some, mb_mr]
    refine tot_bind g3 ?_
    rw [nn_some, mb_mr]
    refine tot_bind (okA_len ok) ?_
    by_cases hc : i < v.2.2.2.2.1.length
    · rw [if_neg (fun q => by rw [i_le (by omega) (by omega)] at q; omega)]
      rw [zdrop_cons hc, zdrop_cons (l := v.2.2.2.2.2) (by omega)] at K
      unfold b20_47
      rw [nn_some, mb_mr]
      refine tot_bind G7 ?_
      rw [nn_some, mb_mr]
      refine tot_bind g3 ?_
      rw [nn_some, mb_mr]
      refine tot_bind (okA_li ok (by omega) hc) ?_
      rw [nn_some, mb_mr]
      refine tot_bind (cs_204 o) ?_
      rw [c_fr_re, c_fr_fo]
      have SK : ¬ (c_fr z ≤ v.2.2.2.2.1.getD i 0 ∧ v.2.2.2.2.1.getD i 0 ≤ c_up z) → tot (b20_99 (b20_35 F f) F (some (B + 2)) (some x0) (Int32.ofNat i)) h Q := by
        intro hn
        unfold b20_99
        rw [i_add1]
        refine ih (i + 1) r h (by omega) (by omega) o ⟨oe1, oe2, nb, oe3, on⟩ (fun h' r' hr e' o' => K h' r' ?_ e' o')
        rw [zsum, if_neg hn]; exact hr
      refine tot_if (fun q => SK (fun z => by have := z.1; rw [Int32.le_iff_toInt_le] at this; rw [Int32.lt_iff_toInt_lt] at q; omega)) (fun q1 => ?_)
      unfold b20_67
      rw [nn_some, mb_mr]
      refine tot_bind (cs_205 o) ?_
      rw [c_up_re, c_up_fo]
      refine tot_if (fun q => SK (fun z => by have := z.2; rw [Int32.le_iff_toInt_le] at this; rw [Int32.lt_iff_toInt_lt] at q; omega)) (fun q2 => ?_)
      have hy : c_fr z ≤ v.2.2.2.2.1.getD i 0 ∧ v.2.2.2.2.1.getD i 0 ≤ c_up z := by
        rw [Int32.lt_iff_toInt_lt] at q1 q2
        rw [Int32.le_iff_toInt_le, Int32.le_iff_toInt_le]
        omega
      unfold b20_76
      rw [nn_some, mb_mr]
      refine tot_bind (ok_pz (cs_lJ o) (Or.inr rfl)) ?_
      have o1 := cs_fo hB true o
      have E1 : ext 0 (XfC B) (XaC B) h (Ufi h 209 (B + 2) 1) := ext_fi (Or.inr ⟨rfl, by decide⟩)
      have cm := calmC (h := h) hB
      refine tot_bind (cs_210 o1) ?_
      rw [nn_some, mb_mr]
      have oc1 := okCell_c E1 cm ⟨oe1, oe2, nb, oe3, on⟩
      refine tot_bind (gr_ext E1 (fun q => cm.1 _ _ (by decide) (by decide) q) G7) ?_
      rw [nn_some, mb_mr]
      refine tot_bind (gr_ext E1 (fun q => cm.1 _ _ (by decide) (by decide) q) g4) ?_
      rw [nn_some, mb_mr]
      refine tot_bind (okA_li (okA_ext E1 (cm.2 _ im1 oi.1.2.2) oi) (by omega) (by omega)) ?_
      refine tot_bind (ok_pi (cs_lJ o1)) ?_
      rw [c_re_fo, c_re_re]
      have o2 := cs_re hB (r.2 + v.2.2.2.2.2.getD i 0) o1
      rw [c_fore] at o2
      have E2 : ext 0 (XfC B) (XaC B) h (Ufi (Ufi h 209 (B + 2) 1) 210 (B + 2) (r.2 + v.2.2.2.2.2.getD i 0)) := ext_fiS E1 (Or.inl (Or.inr ⟨rfl, by decide⟩))
      unfold b20_99
      rw [i_add1]
      refine ih (i + 1) (true, r.2 + v.2.2.2.2.2.getD i 0) _ (by omega) (by omega) o2 (okCell_c E2 cm ⟨oe1, oe2, nb, oe3, on⟩) (fun h' r' hr e' o' => K h' r' ?_ (ext_trans (k1 := 0) (k2 := 0) E2 e') o')
      rw [zsum, if_pos hy]; exact hr
    · rw [if_pos ((i_le (by omega) (by omega)).mpr (by omega))]
      refine tot_mr (K h r ?_ ext_refl o)
      rw [List.drop_eq_nil_of_le (by omega)]; rfl
end CL3
