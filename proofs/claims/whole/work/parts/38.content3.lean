/-! Contents on the heap: the other new ones. -/
section CONT3
variable {h h1 h2 : xv_H} {b a F f t : Nat} {N : zN} {l : List Int32} {k v x : Int32} {p q r : Nat} {K : Nat} {Xf : Nat → Nat → Prop} {Xa : Nat → Prop} {w : Option Nat}
theorem gr_ext (e : ext K Xf Xa h h1) (hx : ¬ Xf f b) (g : gr f b h = some (w, h)) : gr f b h1 = some (w, h1) := by
  unfold gr at g
  split at g
  · rename_i hc
    injection g with g; injection g with g _
    have e1 := e.2.2.1 f b hc.1 hx
    have e2 := e.2.1 b hc.1
    have hl : b < h1.1 ∧ h1.2.2.1 b = f / 100 := ⟨Nat.lt_of_lt_of_le hc.1 e.1.1, e2.1.trans hc.2⟩
    unfold gr
    rw [if_pos hl]
    exact congrArg (fun z => some (z, h1)) (e1.1.trans g)
  · cases g
theorem gi_ext (e : ext K Xf Xa h h1) (hx : ¬ Xf f b) (g : gi f b h = some (x, h)) : gi f b h1 = some (x, h1) := by
  unfold gi at g
  split at g
  · rename_i hc
    injection g with g; injection g with g _
    have e1 := e.2.2.1 f b hc.1 hx
    have e2 := e.2.1 b hc.1
    have hl : b < h1.1 ∧ h1.2.2.1 b = f / 100 := ⟨Nat.lt_of_lt_of_le hc.1 e.1.1, e2.1.trans hc.2⟩
    unfold gi
    rw [if_pos hl]
    exact congrArg (fun z => some (z, h1)) (e1.2.trans g)
  · cases g
theorem gr_ext0 (e : ext K Xf0 Xa0 h h1) (g : gr f b h = some (w, h)) : gr f b h1 = some (w, h1) := gr_ext e (fun z => z) g
theorem gi_ext0 (e : ext K Xf0 Xa0 h h1) (g : gi f b h = some (x, h)) : gi f b h1 = some (x, h1) := gi_ext e (fun z => z) g
/-- Content.withEntry -/
theorem c30_tot (o : okN h b N) (hl : N.2.2.2.1.length < 60) (hi : N.2.2.2.1.length = N.2.2.2.2.length) (hF : 1000 ≤ F) (g : hb 5 h) : tot (m30 F b k v) h (fun r h' => ∃ c, r = some c ∧ ext 3 Xf0 Xa0 h h' ∧ okN h' c (zwith N k v)) := by
  obtain ⟨kk, ii, ⟨lb, g6⟩, ⟨g0, g1, g2, g3, g4⟩, ik, ok, im1, oi⟩ := okN_d o
  have hsb := g.2
  unfold m30 b30_0
  rw [nn_some, mb_mr]
  refine tot_bind g6 ?_
  refine tot_bind (c28_eq o (by omega) hF) ?_
  rw [zx_idx]
  by_cases hz : zidx k N.2.2.2.1 < N.2.2.2.1.length
  · rw [if_pos hz, Nat.zero_add, if_neg (fun z => by have := congrArg Int32.toInt z; rw [i_toInt (by omega)] at this; have e1 : (-1 : Int32).toInt = -1 := rfl; omega)]
    have ez : zwith N k v = (N.1, N.2.1, N.2.2.1, N.2.2.2.1, N.2.2.2.2.set (zidx k N.2.2.2.1) v) := by unfold zwith; rw [if_pos hz]
    rw [ez]
    have e0 : ext 1 Xf0 Xa0 h (Ucl h ii) := ext_cl (by rw [oi.2.1]; omega)
    have lc : lv (Ucl h ii) (Hn h) 100 := ⟨Nat.lt_succ_self _, by rw [SB_val]; omega, by rw [Ht_Ucl, if_pos rfl]⟩
    have nei : ¬ ii = Hn h := Nat.ne_of_lt oi.1.1
    unfold b30_11
    rw [nn_some, mb_mr]
    refine tot_bind g4 ?_
    rw [nn_some, mb_mr]
    refine tot_bind (ok_cn oi.1) (tot_bind (ok_ct lc) ?_)
    refine tot_bind (ok_si lc (i_nn (by omega)) (by rw [i_nat (by omega), Hl_Ucl, if_pos rfl, oi.2.1]; omega)) ?_
    rw [i_nat (by omega)]
    refine tot_bind ok_nw ?_
    generalize e3 : Unw (Uei (Ucl h ii) (Hn h) (zidx k N.2.2.2.1) v) 6 0 5 = h3
    have E : ext 2 Xf0 Xa0 h h3 := by
      rw [← e3]; exact ext_nwS (ext_eiS e0 (Or.inr (Nat.le_refl _))) (by decide)
    have hn3 : Hn (Uei (Ucl h ii) (Hn h) (zidx k N.2.2.2.1) v) = Hn h + 1 := by rw [Hn_Uei, Hn_Ucl]
    rw [hn3]
    have lv3 : lv h3 (Hn h + 1) 6 := by rw [← e3, ← hn3]; exact lv_Unw (by rw [hn3, SB_val]; omega)
    have oa : okA h3 (Hn h) (N.2.2.2.2.set (zidx k N.2.2.2.1) v) := by
      refine ⟨?_, ?_, ?_⟩
      · rw [← e3]; exact lv_ext (ext_nw (Xf := Xf0) (Xa := Xa0) (by decide)) (by rw [lv_Uei]; exact lc)
      · rw [← e3, Hl_Unw, hn3, if_neg (by omega), Hl_Uei, Hl_Ucl, if_pos rfl, oi.2.1, List.length_set]
      · intro i hi2
        rw [List.length_set] at hi2
        rw [zset_get (by omega), ← e3, Hei_Unw, hn3, if_neg (by omega), Hei_Uei, Hei_Ucl, if_pos rfl, if_neg nei]
        by_cases hc : i = zidx k N.2.2.2.1
        · rw [if_pos ⟨rfl, hc⟩, if_pos hc]
        · rw [if_neg (fun z => hc z.2), if_neg hc]; exact oi.2.2 i hi2
    refine tot_bind (gi_ext0 E g0) (tot_bind (gi_ext0 E g1) (tot_bind (gi_ext0 E g2) (tot_bind (gr_ext0 E g3) ?_)))
    refine tot_mb (c1_tot lv3 (okA_ext0 E ok) oa ik (im_new g)) (fun _ h4 z4 => ?_)
    exact tot_mr ⟨_, rfl, ext_le (ext_newf (k1 := 2) (k2 := 0) E z4.1 (Nat.le_succ _)) (by decide), z4.2⟩
  · rw [if_neg hz, if_pos rfl]
    have ez : zwith N k v = (N.1, N.2.1, N.2.2.1, zins N.2.2.2.1 (zcng k N.2.2.2.1) k, zins N.2.2.2.2 (zcng k N.2.2.2.1) v) := by unfold zwith; rw [if_neg hz]
    rw [ez]
    have hcg := zcng_le (k := k) (l := N.2.2.2.1)
    unfold b30_54
    rw [nn_some, mb_mr]
    refine tot_bind g6 (tot_bind (c31_eq o (by omega) hF) (tot_bind ok_nw ?_))
    have e0 : ext 1 Xf0 Xa0 h (Unw h 6 0 5) := ext_nw (by decide)
    have l0 : lv (Unw h 6 0 5) (Hn h) 6 := lv_Unw (by rw [SB_val]; omega)
    have gg := hb_ext (r := 4) e0 g
    refine tot_bind (gi_ext0 e0 g0) (tot_bind (gi_ext0 e0 g1) (tot_bind (gi_ext0 e0 g2) (tot_bind (gr_ext0 e0 g3) ?_)))
    refine tot_mb (c32_tot (okA_ext0 e0 ok) (by omega) hcg (hb_le gg (by decide))) (fun r1 h1 z1 => ?_)
    obtain ⟨rfl, e1, k1⟩ := z1
    have gg1 := hb_ext (r := 3) e1 gg
    refine tot_bind (gr_ext0 e1 (gr_ext0 e0 g4)) ?_
    refine tot_mb (c32_tot (okA_ext0 e1 (okA_ext0 e0 oi)) (by omega) (by omega) (hb_le gg1 (by decide))) (fun r2 h2 z2 => ?_)
    obtain ⟨rfl, e2, k2⟩ := z2
    refine tot_mb (c1_tot (lv_ext e2 (lv_ext e1 l0)) (okA_ext0 e2 k1) k2 (im_new gg) (im_new gg1)) (fun _ h3 z3 => ?_)
    exact tot_mr ⟨Hn h, rfl, ext_newf (k1 := 3) (k2 := 0) (ext_trans (k1 := 1) (k2 := 2) e0 (ext_trans (k1 := 1) (k2 := 1) e1 e2)) z3.1 (Nat.le_refl _), z3.2⟩
/-- Content.leftHalf -/
theorem c42_tot (o : okN h b N) (hl : N.2.2.2.1.length < 60) (hi : N.2.2.2.2.length < 60) (hl2 : 2 ≤ N.2.2.2.1.length) (hi2 : 2 ≤ N.2.2.2.2.length) (g : hb 5 h) : tot (m42 F b) h (fun r h' => ∃ c, r = some c ∧ ext 3 Xf0 Xa0 h h' ∧ okN h' c (zleft N)) := by
  obtain ⟨kk, ii, ⟨lb, g6⟩, ⟨g0, g1, g2, g3, g4⟩, ik, ok, im1, oi⟩ := okN_d o
  have hsb := g.2
  have hcut : zcut N ≤ 2 := by unfold zcut; split <;> decide
  unfold m42 b42_0
  rw [nn_some, mb_mr]
  refine tot_bind g3 ?_
  refine tot_mb (c43_tot (p := 0) (q := 1) ok (by omega) (by decide) (by omega) (hb_le g (by decide))) (fun r1 h1 z1 => ?_)
  obtain ⟨rfl, e1, k1⟩ := z1
  have gg1 := hb_ext (r := 4) e1 g
  refine tot_bind ok_nw ?_
  have e0 : ext 1 Xf0 Xa0 h1 (Unw h1 6 0 5) := ext_nw (by decide)
  have l0 : lv (Unw h1 6 0 5) (Hn h1) 6 := lv_Unw (by have := gg1.2; rw [SB_val]; omega)
  have gg := hb_ext (r := 3) e0 gg1
  have E := ext_trans e1 e0
  have o2 := okN_ext0 E o
  refine tot_bind (gi_ext0 E g0) (tot_bind (gi_ext0 E g1) (tot_bind (ok_vc (lv_ext E lb)) (tot_bind (c41_eq o2 (by omega) (by omega)) ?_)))
  refine tot_bind (gr_ext0 E g4) (tot_bind (ok_vc (lv_ext E lb)) (tot_bind (c46_eq o2) ?_))
  refine tot_mb (c43_tot (p := 0) (okA_ext0 E oi) (by omega) (Nat.zero_le _) (by omega) (hb_le gg (by decide))) (fun r2 h2 z2 => ?_)
  obtain ⟨rfl, e2, k2⟩ := z2
  refine tot_mb (c1_tot (lv_ext e2 l0) (okA_ext0 e2 (okA_ext0 e0 k1)) k2 (im_new g) (im_new gg)) (fun _ h3 z3 => ?_)
  refine tot_mr ⟨_, rfl, ext_newf (k1 := 3) (k2 := 0) (ext_trans (k1 := 2) (k2 := 1) E e2) z3.1 e1.1.1, ?_⟩
  have := z3.2
  rw [List.drop_zero, List.drop_zero, Nat.sub_zero, Nat.sub_zero] at this
  exact this
/-- Content.rightHalf -/
theorem c47_tot (o : okN h b N) (hl : N.2.2.2.1.length < 60) (hi : N.2.2.2.2.length < 60) (hl2 : 2 ≤ N.2.2.2.1.length) (hi2 : 2 ≤ N.2.2.2.2.length) (g : hb 5 h) : tot (m47 F b) h (fun r h' => ∃ c, r = some c ∧ ext 3 Xf0 Xa0 h h' ∧ okN h' c (zright N)) := by
  obtain ⟨kk, ii, ⟨lb, g6⟩, ⟨g0, g1, g2, g3, g4⟩, ik, ok, im1, oi⟩ := okN_d o
  have hsb := g.2
  have hcut : zcut N ≤ 2 := by unfold zcut; split <;> decide
  unfold m47 b47_0
  rw [nn_some, mb_mr]
  refine tot_bind g3 (tot_bind g6 (tot_bind (c46_eq o) (tot_bind g3 ?_)))
  rw [nn_some, mb_mr]
  refine tot_bind (okA_len ok) ?_
  refine tot_mb (c43_tot ok (by omega) (show zcut N ≤ N.2.2.2.1.length by omega) (Nat.le_refl _) (hb_le g (by decide))) (fun r1 h1 z1 => ?_)
  obtain ⟨rfl, e1, k1⟩ := z1
  have gg1 := hb_ext (r := 4) e1 g
  refine tot_bind ok_nw ?_
  have e0 : ext 1 Xf0 Xa0 h1 (Unw h1 6 0 5) := ext_nw (by decide)
  have l0 : lv (Unw h1 6 0 5) (Hn h1) 6 := lv_Unw (by have := gg1.2; rw [SB_val]; omega)
  have gg := hb_ext (r := 3) e0 gg1
  have E := ext_trans e1 e0
  have o2 := okN_ext0 E o
  refine tot_bind (gi_ext0 E g0) (tot_bind (ok_vc (lv_ext E lb)) (tot_bind (c41_eq o2 (by omega) (by omega)) ?_))
  refine tot_bind (gi_ext0 E g2) (tot_bind (gr_ext0 E g4) (tot_bind (ok_vc (lv_ext E lb)) (tot_bind (c46_eq o2) (tot_bind (gr_ext0 E g4) ?_))))
  rw [nn_some, mb_mr]
  refine tot_bind (okA_len (okA_ext0 E oi)) ?_
  refine tot_mb (c43_tot (okA_ext0 E oi) (by omega) (show zcut N ≤ N.2.2.2.2.length by omega) (Nat.le_refl _) (hb_le gg (by decide))) (fun r2 h2 z2 => ?_)
  obtain ⟨rfl, e2, k2⟩ := z2
  refine tot_mb (c1_tot (lv_ext e2 l0) (okA_ext0 e2 (okA_ext0 e0 k1)) k2 (im_new g) (im_new gg)) (fun _ h3 z3 => ?_)
  refine tot_mr ⟨_, rfl, ext_newf (k1 := 3) (k2 := 0) (ext_trans (k1 := 2) (k2 := 1) E e2) z3.1 e1.1.1, ?_⟩
  have := z3.2
  rw [List.take_of_length_le (by rw [List.length_drop]; exact Nat.le_refl _), List.take_of_length_le (by rw [List.length_drop]; exact Nat.le_refl _)] at this
  exact this
/-- Content.withChildBehind -/
def zb (c : Int32) : List Int32 → Nat → Nat → Nat
  | [], _, acc => acc
  | x :: l, i, acc => if x = c then zb c l (i + 1) (i + 1) else zb c l (i + 1) acc
theorem zb_none {c : Int32} : ∀ (l : List Int32) (i acc : Nat), c ∉ l → zb c l i acc = acc := by
  intro l
  induction l with
  | nil => intro i acc _; rfl
  | cons x l ih =>
    intro i acc hc
    rw [zb, if_neg (fun z => hc (by rw [z]; exact List.mem_cons_self)), ih _ _ (fun z => hc (List.mem_cons_of_mem _ z))]
theorem zb_idx {c : Int32} : ∀ (l : List Int32) (i acc : Nat), l.Nodup → c ∈ l → zb c l i acc = i + zidx c l + 1 := by
  intro l
  induction l with
  | nil => intro i acc _ hc; cases hc
  | cons x l ih =>
    intro i acc hn hc
    rw [List.nodup_cons] at hn
    by_cases hx : x = c
    · rw [zb, if_pos hx, zidx, if_pos hx, zb_none _ _ _ (by rw [← hx]; exact hn.1)]
    · have hc2 : c ∈ l := by
        cases hc with
        | head => exact absurd rfl hx
        | tail _ z => exact z
      rw [zb, if_neg hx, zidx, if_neg hx, ih _ _ hn.2 hc2]; omega
theorem zidx_mem {c : Int32} : ∀ (l : List Int32), c ∈ l → zidx c l < l.length := by
  intro l
  induction l with
  | nil => intro hc; cases hc
  | cons x l ih =>
    intro hc
    rw [zidx, List.length_cons]
    split
    · omega
    · rename_i hx
      have hc2 : c ∈ l := by
        cases hc with
        | head => exact absurd rfl hx
        | tail _ z => exact z
      have := ih hc2; omega
theorem c49_loop {c s ad : Int32} {Q : Option Nat → xv_H → Prop} (o : okN h b N) (hi : N.2.2.2.2.length < 1000) (T : tot (b49_39 F (some b) s ad (Int32.ofNat (zb c N.2.2.2.2 0 0))) h Q) : ∀ (f i acc : Nat), i ≤ N.2.2.2.2.length → N.2.2.2.2.length - i < f → zb c (N.2.2.2.2.drop i) i acc = zb c N.2.2.2.2 0 0 → tot (b49_6 F f (some b) c s ad (Int32.ofNat acc) (Int32.ofNat i)) h Q := by
  obtain ⟨kk, ii, ⟨lb, _⟩, ⟨_, _, _, _, g4⟩, _, _, _, oi⟩ := okN_d o
  intro f
  induction f with
  | zero => intro i _ _ hf; omega
  | succ f ih =>
    intro i acc hi2 hf he
    unfold b49_6
    rw [nn_some, mb_mr]
    refine tot_bind g4 ?_
    rw [nn_some, mb_mr]
    refine tot_bind (okA_len oi) ?_
    by_cases hc : i < N.2.2.2.2.length
    · rw [if_neg (fun z => by rw [i_le (by omega) (by omega)] at z; omega)]
      unfold b49_16
      rw [nn_some, mb_mr]
      refine tot_bind g4 ?_
      rw [nn_some, mb_mr]
      refine tot_bind (okA_li oi (by omega) hc) ?_
      rw [zdrop_cons hc, zb] at he
      by_cases hk : N.2.2.2.2.getD i 0 = c
      · rw [if_neg (fun z => z hk)]
        rw [if_pos hk] at he
        unfold b49_27 b49_33
        rw [i_add1]
        exact ih (i + 1) (i + 1) (by omega) (by omega) he
      · rw [if_pos hk]
        rw [if_neg hk] at he
        unfold b49_33
        rw [i_add1]
        exact ih (i + 1) acc (by omega) (by omega) he
    · rw [if_pos ((i_le (by omega) (by omega)).mpr (by omega))]
      rw [List.drop_eq_nil_of_le (by omega), zb] at he
      rw [he]
      exact T
theorem c49_tot {c s ad : Int32} (o : okN h b N) (hl : N.2.2.2.1.length < 60) (hi : N.2.2.2.2.length < 60) (hnd : N.2.2.2.2.Nodup) (hc : c ∈ N.2.2.2.2) (hF : 1000 ≤ F) (g : hb 5 h) : tot (m49 F b c s ad) h (fun r h' => ∃ c', r = some c' ∧ ext 3 Xf0 Xa0 h h' ∧ okN h' c' (zbehind N c s ad)) := by
  unfold m49 b49_0
  refine c49_loop o (by omega) ?_ F 0 0 (Nat.zero_le _) (by omega) rfl
  rw [zb_idx _ _ _ hnd hc, Nat.zero_add]
  have hx := zidx_mem _ hc
  obtain ⟨kk, ii, ⟨lb, g6⟩, ⟨g0, g1, g2, g3, g4⟩, ik, ok, im1, oi⟩ := okN_d o
  have hsb := g.2
  have hcg := zcng_le (k := s) (l := N.2.2.2.1)
  unfold b49_39
  rw [nn_some, mb_mr]
  refine tot_bind g6 (tot_bind (c31_eq o (by omega) hF) (tot_bind ok_nw ?_))
  have e0 : ext 1 Xf0 Xa0 h (Unw h 6 0 5) := ext_nw (by decide)
  have l0 : lv (Unw h 6 0 5) (Hn h) 6 := lv_Unw (by rw [SB_val]; omega)
  have gg := hb_ext (r := 4) e0 g
  refine tot_bind (gi_ext0 e0 g0) (tot_bind (gi_ext0 e0 g1) (tot_bind (gi_ext0 e0 g2) (tot_bind (gr_ext0 e0 g3) ?_)))
  refine tot_mb (c32_tot (okA_ext0 e0 ok) (by omega) hcg (hb_le gg (by decide))) (fun r1 h1 z1 => ?_)
  obtain ⟨rfl, e1, k1⟩ := z1
  have gg1 := hb_ext (r := 3) e1 gg
  refine tot_bind (gr_ext0 e1 (gr_ext0 e0 g4)) ?_
  refine tot_mb (c32_tot (okA_ext0 e1 (okA_ext0 e0 oi)) (by omega) (by omega) (hb_le gg1 (by decide))) (fun r2 h2 z2 => ?_)
  obtain ⟨rfl, e2, k2⟩ := z2
  refine tot_mb (c1_tot (lv_ext e2 (lv_ext e1 l0)) (okA_ext0 e2 k1) k2 (im_new gg) (im_new gg1)) (fun _ h3 z3 => ?_)
  exact tot_mr ⟨Hn h, rfl, ext_newf (k1 := 3) (k2 := 0) (ext_trans (k1 := 1) (k2 := 2) e0 (ext_trans (k1 := 1) (k2 := 1) e1 e2)) z3.1 (Nat.le_refl _), z3.2⟩
end CONT3
