/-! Contents on the heap: new ones. -/
section CONT2
variable {h h1 h2 : xv_H} {b a F : Nat} {N : zN} {l : List Int32} {k v x : Int32} {p q r : Nat} {K : Nat} {Xf : Nat → Nat → Prop} {Xa : Nat → Prop}
theorem ext_newf {k1 k2 : Nat} (e0 : ext k1 Xf Xa h h1) (e1 : ext k2 (fun _ a => a = b) Xa0 h1 h2) (hb : Hn h ≤ b) : ext (k1 + k2) Xf Xa h h2 :=
  ext_new e0 (ext_mono e1 (Nat.le_refl _) (fun _ a z => Or.inr (by rw [z]; exact hb)) (fun _ z => z.elim))
theorem c35_tot (o : okA h a l) (hl : l.length < 70) (hp : p < l.length) (g : hb 2 h) : tot (m35 F (some a) (Int32.ofNat p)) h (fun r h' => r = some (Hn h) ∧ ext 1 Xf0 Xa0 h h' ∧ okA h' (Hn h) (zdel l p)) := by
  have ha : a < Hn h := o.1.1
  have hne : ¬ a = Hn h := Nat.ne_of_lt ha
  have hsb := g.2
  have lv1 : lv (Unw h 100 (l.length - 1) (l.length - 1)) (Hn h) 100 := lv_Unw (by rw [SB_val]; omega)
  have lva : lv (Unw h 100 (l.length - 1) (l.length - 1)) a 100 := lv_ext (ext_nw (Xf := Xf0) (Xa := Xa0) (by omega)) o.1
  have la : Hl (Unw h 100 (l.length - 1) (l.length - 1)) a = l.length := by rw [Hl_Unw, if_neg hne]; exact o.2.1
  have lb : Hl (Unw h 100 (l.length - 1) (l.length - 1)) (Hn h) = l.length - 1 := by rw [Hl_Unw, if_pos rfl]
  unfold m35 b35_0
  rw [nn_some, mb_mr]
  refine tot_bind (okA_len o) ?_
  rw [i_sub1 (by omega) (by omega)]
  refine tot_bind (ok_na (i_nn (by omega)) (by rw [i_nat (by omega)]; omega)) ?_
  rw [i_nat (by omega)]
  refine tot_bind (ok_cyi (by (try simp only [lv_Uei, lv_Uci]); exact lva) (by (try simp only [lv_Uei, lv_Uci]); exact lv1) (by decide) (by decide) (i_nn (by omega)) (by rw [la, i_nat (by omega)]; show 0 + p ≤ _; omega) (by rw [lb, i_nat (by omega)]; show 0 + p ≤ _; omega)) ?_
  refine tot_bind (ok_lenV (n := l.length - 1) (by (try simp only [lv_Uei, lv_Uci]); exact lv1) (by (try simp only [Hl_Uei, Hl_Uci]); exact lb)) ?_
  rw [i_sub (show p ≤ l.length - 1 by omega) (by omega), i_add1]
  refine tot_bind (ok_cyi (by (try simp only [lv_Uei, lv_Uci]); exact lva) (by (try simp only [lv_Uei, lv_Uci]); exact lv1) (i_nn (by omega)) (i_nn (by omega)) (i_nn (by omega)) (by rw [i_nat (by omega), i_nat (by omega)]; (try simp only [Hl_Uei, Hl_Uci]); rw [la]; omega) (by rw [i_nat (by omega), i_nat (by omega)]; (try simp only [Hl_Uei, Hl_Uci]); rw [lb]; omega)) ?_
  refine tot_mr ⟨rfl, ?_, ?_⟩
  · refine ext_new (k1 := 1) (k2 := 0) (ext_nw (m := l.length - 1) (q := l.length - 1) (t := 100) (by omega)) ?_
    exact ext_ciS (ext_ciS ext_refl (Or.inl (Or.inr (Nat.le_refl _)))) (Or.inl (Or.inr (Nat.le_refl _)))
  · refine ⟨by simp only [lv_Uei, lv_Uci]; exact lv1, ?_, ?_⟩
    · rw [zdel_len hp]; (try simp only [Hl_Uei, Hl_Uci]); exact lb
    · intro i hi
      rw [zdel_len hp] at hi
      rw [zdel_get hp]
      simp only [Hei_Uci, Hei_Unw, i_nat (show p < 2147483648 by omega), i_nat (show p + 1 < 2147483648 by omega), i_nat (show l.length - 1 - p < 2147483648 by omega), show (0 : Int32).toNatClampNeg = 0 from rfl, true_and, hne, false_and, if_false, if_true, Nat.zero_add, Nat.sub_zero, Nat.zero_le]
      by_cases h1 : i < p
      · rw [if_neg (show ¬ (p ≤ i ∧ i < p + (l.length - 1 - p)) by omega), if_pos h1, if_pos h1]
        exact o.2.2 i (by omega)
      · rw [if_pos (show p ≤ i ∧ i < p + (l.length - 1 - p) by omega), if_neg h1, show p + 1 + (i - p) = i + 1 by omega]
        exact o.2.2 (i + 1) (by omega)
/-- Arrays.copyOfRange of ints -/
theorem c44_tot (o : okA h a l) (hl : l.length < 70) (hp : p ≤ q) (hq : q ≤ l.length) (g : hb 2 h) : tot (m44 F (some a) (Int32.ofNat p) (Int32.ofNat q)) h (fun r h' => r = some (Hn h) ∧ ext 1 Xf0 Xa0 h h' ∧ okA h' (Hn h) ((l.drop p).take (q - p))) := by
  have ha : a < Hn h := o.1.1
  have hne : ¬ a = Hn h := Nat.ne_of_lt ha
  have hsb := g.2
  have lv1 : lv (Unw h 100 (q - p) (q - p)) (Hn h) 100 := lv_Unw (by rw [SB_val]; omega)
  have lva : lv (Unw h 100 (q - p) (q - p)) a 100 := lv_ext (ext_nw (Xf := Xf0) (Xa := Xa0) (by omega)) o.1
  have la : Hl (Unw h 100 (q - p) (q - p)) a = l.length := by rw [Hl_Unw, if_neg hne]; exact o.2.1
  have lb : Hl (Unw h 100 (q - p) (q - p)) (Hn h) = q - p := by rw [Hl_Unw, if_pos rfl]
  have e45 : m45 F (Int32.ofNat p) (Int32.ofNat q) h = some ((), h) := by
    simp only [m45, b45_0]
    rw [if_pos ((i_le (by omega) (by omega)).mpr hp)]; rfl
  unfold m44 b44_0
  refine tot_bind e45 ?_
  rw [i_sub hp (by omega)]
  refine tot_bind (ok_na (i_nn (by omega)) (by rw [i_nat (by omega)]; omega)) ?_
  rw [i_nat (by omega), nn_some, mb_mr]
  refine tot_bind (ok_lenV (n := l.length) (by (try simp only [lv_Uei, lv_Uci]); exact lva) (by (try simp only [Hl_Uei, Hl_Uci]); exact la)) ?_
  rw [i_sub (show p ≤ l.length by omega) (by omega)]
  have em : (if Int32.ofNat (q - p) < Int32.ofNat (l.length - p) then Int32.ofNat (q - p) else Int32.ofNat (l.length - p)) = Int32.ofNat (q - p) := by
    by_cases hc : q - p < l.length - p
    · rw [if_pos ((i_lt (by omega) (by omega)).mpr hc)]
    · rw [if_neg (fun z => hc ((i_lt (by omega) (by omega)).mp z))]; congr 1; omega
  rw [em]
  refine tot_bind (ok_cyi (by (try simp only [lv_Uei, lv_Uci]); exact lva) (by (try simp only [lv_Uei, lv_Uci]); exact lv1) (i_nn (by omega)) (by decide) (i_nn (by omega)) (by rw [la, i_nat (by omega), i_nat (by omega)]; omega) (by rw [lb, i_nat (by omega)]; show 0 + _ ≤ _; omega)) ?_
  refine tot_mr ⟨rfl, ?_, ?_⟩
  · exact ext_new (k1 := 1) (k2 := 0) (ext_nw (m := q - p) (q := q - p) (t := 100) (by omega)) (ext_ci (Or.inr (Nat.le_refl _)))
  · have hlen : ((l.drop p).take (q - p)).length = q - p := by rw [List.length_take, List.length_drop]; omega
    refine ⟨by simp only [lv_Uei, lv_Uci]; exact lv1, ?_, ?_⟩
    · rw [hlen]; (try simp only [Hl_Uei, Hl_Uci]); exact lb
    · intro i hi
      rw [hlen] at hi
      rw [ztake_get hi, zdrop_get]
      simp only [Hei_Uci, Hei_Unw, i_nat (show p < 2147483648 by omega), i_nat (show q - p < 2147483648 by omega), show (0 : Int32).toNatClampNeg = 0 from rfl, true_and, hne, if_false, Nat.zero_add, Nat.sub_zero, Nat.zero_le, hi, if_true]
      exact o.2.2 (p + i) (by omega)
theorem c43_tot (o : okA h a l) (hl : l.length < 70) (hp : p ≤ q) (hq : q ≤ l.length) (g : hb 2 h) : tot (m43 F (some a) (Int32.ofNat p) (Int32.ofNat q)) h (fun r h' => r = some (Hn h) ∧ ext 1 Xf0 Xa0 h h' ∧ okA h' (Hn h) ((l.drop p).take (q - p))) := by
  have T : tot (b43_10 F (some a) (Int32.ofNat p) (Int32.ofNat q)) h (fun r h' => r = some (Hn h) ∧ ext 1 Xf0 Xa0 h h' ∧ okA h' (Hn h) ((l.drop p).take (q - p))) := by
    unfold b43_10
    exact tot_mb (c44_tot o hl hp hq g) (fun x h1 z => tot_mr z)
  unfold m43 b43_0
  refine tot_if (fun _ => T) (fun hz => ?_)
  have hz : p = 0 := (i_eq (b := 0) (by omega) (by omega)).mp (Classical.not_not.mp hz)
  unfold b43_4
  rw [nn_some, mb_mr]
  refine tot_bind (okA_len o) ?_
  refine tot_if (fun hc => ?_) (fun _ => T)
  have hc : q = l.length := (i_eq (by omega) (by omega)).mp hc
  have hne : ¬ a = Hn h := Nat.ne_of_lt o.1.1
  have hsb := g.2
  have lv1 : lv (Ucl h a) (Hn h) 100 := ⟨Nat.lt_succ_self _, by rw [SB_val]; omega, by rw [Ht_Ucl, if_pos rfl]⟩
  unfold b43_17
  rw [nn_some, mb_mr]
  refine tot_bind (ok_cn o.1) ?_
  refine tot_bind (ok_ct lv1) ?_
  refine tot_mr ⟨rfl, ext_cl (by rw [o.2.1]; omega), lv1, ?_, ?_⟩
  · rw [Hl_Ucl, if_pos rfl, o.2.1]; subst hz hc; rw [List.drop_zero, Nat.sub_zero, List.take_length]
  · intro i hi
    rw [Hei_Ucl, if_pos rfl, if_neg hne]
    subst hz hc
    rw [List.drop_zero, Nat.sub_zero, List.take_length] at hi ⊢
    exact o.2.2 i hi
theorem c1_tot {kk ii : Nat} {x y z : Int32} {ks is : List Int32} (hl : lv h b 6) (hk : okA h kk ks) (hi : okA h ii is) (mk : im kk) (mi : im ii) : tot (m1 F b x y z (some kk) (some ii)) h (fun _ h' => ext 0 (fun _ a => a = b) Xa0 h h' ∧ okN h' b (x, y, z, ks, is)) := by
  have e : ext 0 (fun _ a => a = b) Xa0 h (Ufr (Ufr (Ufi (Ufi (Ufi h 600 b x) 601 b y) 602 b z) 603 b (some kk)) 604 b (some ii)) := by
    exact ext_frS (ext_frS (ext_fiS (ext_fiS (ext_fiS ext_refl (Or.inl rfl)) (Or.inl rfl)) (Or.inl rfl)) (Or.inl rfl)) (Or.inl rfl)
  refine tot_eq (c1_eq hl x y z _ _) ⟨e, lv_ext e hl, ?_, ?_, ?_, ⟨kk, ?_, mk, okA_ext e (fun z => z) hk⟩, ⟨ii, ?_, mi, okA_ext e (fun z => z) hi⟩⟩ <;> simp [Hfi_Ufi, Hfi_Ufr, Hfr_Ufi, Hfr_Ufr]
theorem im_new (g : hb r h) : im (Hn h) := Or.inr g.1
/-- Content.withoutEntry -/
theorem c34_tot (o : okN h b N) (hl : N.2.2.2.1.length < 60) (hi : N.2.2.2.2.length < 60) (hp : p < N.2.2.2.1.length) (hp2 : p < N.2.2.2.2.length) (g : hb 5 h) : tot (m34 F b (Int32.ofNat p)) h (fun r h' => ∃ c, r = some c ∧ ext 3 Xf0 Xa0 h h' ∧ okN h' c (zwout N p)) := by
  have e0 : ext 1 Xf0 Xa0 h (Unw h 6 0 5) := ext_nw (by decide)
  have o0 := okN_ext0 e0 o
  have hsb := g.2
  have l0 : lv (Unw h 6 0 5) (Hn h) 6 := lv_Unw (by rw [SB_val]; omega)
  obtain ⟨kk, ii, ⟨lb, g6⟩, ⟨g0, g1, g2, g3, g4⟩, ik, ok, im1, oi⟩ := okN_d o0
  have g' : hb 4 (Unw h 6 0 5) := hb_ext e0 g
  unfold m34 b34_0
  refine tot_bind ok_nw ?_
  rw [nn_some, mb_mr]
  refine tot_bind g0 (tot_bind g1 (tot_bind g2 (tot_bind g3 ?_)))
  refine tot_mb (c35_tot ok (by omega) hp (hb_le g' (by decide))) (fun r1 h1 z1 => ?_)
  obtain ⟨rfl, e1, k1⟩ := z1
  obtain ⟨_, _, _, ⟨_, _, _, _, g4'⟩, _⟩ := okN_d (okN_ext0 e1 o0)
  have q4 : gr 604 b h1 = some (some ii, h1) := by rw [ok_gr (lv_ext e1 lb), (e1.2.2.1 604 b lb.1 (fun z => z)).1]; have := g4; rw [ok_gr lb] at this; injection this with this; injection this with this _; rw [this]
  refine tot_bind q4 ?_
  have g1' : hb 3 h1 := hb_ext e1 g'
  refine tot_mb (c35_tot (okA_ext0 e1 oi) (by omega) hp2 (hb_le g1' (by decide))) (fun r2 h2 z2 => ?_)
  obtain ⟨rfl, e2, k2⟩ := z2
  refine tot_mb (c1_tot (lv_ext e2 (lv_ext e1 l0)) (okA_ext0 e2 k1) k2 (im_new g') (im_new g1')) (fun _ h3 z3 => ?_)
  exact tot_mr ⟨Hn h, rfl, ext_newf (k1 := 3) (k2 := 0) (ext_trans (k1 := 1) (k2 := 2) e0 (ext_trans (k1 := 1) (k2 := 1) e1 e2)) z3.1 (Nat.le_refl _), z3.2⟩
end CONT2
