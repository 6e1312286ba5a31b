/-! Contents on the heap. -/
def okN (h : xv_H) (b : Nat) (N : zN) : Prop := lv h b 6 ∧ Hfi h 600 b = N.1 ∧ Hfi h 601 b = N.2.1 ∧ Hfi h 602 b = N.2.2.1 ∧ (∃ k, Hfr h 603 b = some k ∧ im k ∧ okA h k N.2.2.2.1) ∧ (∃ i, Hfr h 604 b = some i ∧ im i ∧ okA h i N.2.2.2.2)
/-- a heap that has room, and the fixed cells behind it -/
def hb (r : Nat) (h : xv_H) : Prop := 77 ≤ Hn h ∧ Hn h + r ≤ 5000000
theorem SB_val : xv_SB = 10000000 := rfl
section CONT
variable {h h1 : xv_H} {b a F : Nat} {N : zN} {l : List Int32} {k v x : Int32} {p q r : Nat} {K : Nat} {Xf : Nat → Nat → Prop} {Xa : Nat → Prop}
theorem hb_ext (e : ext K Xf Xa h h1) (g : hb (K + r) h) : hb r h1 := ⟨Nat.le_trans g.1 e.1.1, by have := e.1.2.1; have := g.2; omega⟩
theorem hb_le (g : hb r h) (hk : q ≤ r) : hb q h := ⟨g.1, by have := g.2; omega⟩
theorem okN_ext (e : ext K Xf Xa h h1) (hf : ∀ f, 600 ≤ f → f < 605 → ¬ Xf f b) (ha : ∀ a, im a → Ht h a = 100 → ¬ Xa a) (o : okN h b N) : okN h1 b N := by
  obtain ⟨o1, o2, o3, o4, ⟨kk, k1, k2, k3⟩, ⟨ii, i1, i2, i3⟩⟩ := o
  have g : ∀ f, 600 ≤ f → f < 605 → Hfr h1 f b = Hfr h f b ∧ Hfi h1 f b = Hfi h f b := fun f f1 f2 => e.2.2.1 f b o1.1 (hf f f1 f2)
  exact ⟨lv_ext e o1, (g 600 (by decide) (by decide)).2.trans o2, (g 601 (by decide) (by decide)).2.trans o3, (g 602 (by decide) (by decide)).2.trans o4, ⟨kk, (g 603 (by decide) (by decide)).1.trans k1, k2, okA_ext e (ha kk k2 k3.1.2.2) k3⟩, ⟨ii, (g 604 (by decide) (by decide)).1.trans i1, i2, okA_ext e (ha ii i2 i3.1.2.2) i3⟩⟩
theorem okN_ext0 (e : ext K Xf0 Xa0 h h1) (o : okN h b N) : okN h1 b N := okN_ext e (fun _ _ _ z => z) (fun _ _ _ z => z) o
theorem okA_ext0 (e : ext K Xf0 Xa0 h h1) (o : okA h a l) : okA h1 a l := okA_ext e (fun z => z) o
theorem okN_d (o : okN h b N) : ∃ kk ii, (lv h b 6 ∧ vc 6 b h = some ((), h)) ∧ (gi 600 b h = some (N.1, h) ∧ gi 601 b h = some (N.2.1, h) ∧ gi 602 b h = some (N.2.2.1, h) ∧ gr 603 b h = some (some kk, h) ∧ gr 604 b h = some (some ii, h)) ∧ im kk ∧ okA h kk N.2.2.2.1 ∧ im ii ∧ okA h ii N.2.2.2.2 := by
  obtain ⟨o1, o2, o3, o4, ⟨kk, k1, k2, k3⟩, ⟨ii, i1, i2, i3⟩⟩ := o
  refine ⟨kk, ii, ⟨o1, ok_vc o1⟩, ⟨?_, ?_, ?_, ?_, ?_⟩, k2, k3, i2, i3⟩
  · rw [ok_gi o1, o2]
  · rw [ok_gi o1, o3]
  · rw [ok_gi o1, o4]
  · rw [ok_gr o1, k1]
  · rw [ok_gr o1, i1]
theorem ok_lenV {t n q : Nat} (hl : lv h a t) (e : Hl h a = n) : len t q a h = some (Int32.ofNat n, h) := by rw [ok_len hl, e]
theorem okA_len (o : okA h a l) : len 100 0 a h = some (Int32.ofNat l.length, h) := by rw [ok_len o.1, o.2.1]
theorem okA_li (o : okA h a l) (hl : l.length < 2147483648) (hp : p < l.length) : li a (Int32.ofNat p) h = some (l.getD p 0, h) := by
  rw [ok_li o.1 (i_nn (by omega)) (by rw [i_nat (by omega), o.2.1]; exact hp), i_nat (by omega), o.2.2 p hp]
/-- Content.<init> -/
theorem c1_eq (hl : lv h b 6) (x y z : Int32) (kk ii : Option Nat) : m1 F b x y z kk ii h = some ((), Ufr (Ufr (Ufi (Ufi (Ufi h 600 b x) 601 b y) 602 b z) 603 b kk) 604 b ii) := by
  have l1 : lv (Ufi h 600 b x) b 6 := by rw [lv_Ufi]; exact hl
  have l2 : lv (Ufi (Ufi h 600 b x) 601 b y) b 6 := by rw [lv_Ufi]; exact l1
  have l3 : lv (Ufi (Ufi (Ufi h 600 b x) 601 b y) 602 b z) b 6 := by rw [lv_Ufi]; exact l2
  have l4 : lv (Ufr (Ufi (Ufi (Ufi h 600 b x) 601 b y) 602 b z) 603 b kk) b 6 := by rw [lv_Ufr]; exact l3
  simp only [m1, b1_0, nn_some, mr, mb, ok_pi (f := 600) hl, ok_pi (f := 601) l1, ok_pi (f := 602) l2, ok_pr (f := 603) l3, ok_pr (f := 604) l4]
/-- Content.indexOf -/
def zx (k : Int32) : List Int32 → Nat → Int32
  | [], _ => -1
  | x :: l, i => if x = k then Int32.ofNat i else zx k l (i + 1)
theorem c28_loop (o : okN h b N) (hl : N.2.2.2.1.length < 1000) : ∀ (f i : Nat), i ≤ N.2.2.2.1.length → N.2.2.2.1.length - i < f → b28_2 F f (some b) k (Int32.ofNat i) h = some (zx k (N.2.2.2.1.drop i) i, h) := by
  obtain ⟨kk, ii, ⟨lb, _⟩, ⟨_, _, _, g3, _⟩, _, ok, _, _⟩ := okN_d o
  intro f
  induction f with
  | zero => intro i _ hf; omega
  | succ f ih =>
    intro i hi hf
    simp only [b28_2, nn_some, mr, mb, g3, okA_len ok]
    by_cases hc : i < N.2.2.2.1.length
    · rw [if_neg (fun z => by rw [i_le (by omega) (by omega)] at z; omega)]
      simp only [b28_11, nn_some, mr, mb, g3, okA_li ok (by omega) hc]
      rw [zdrop_cons hc, zx]
      by_cases hk : N.2.2.2.1.getD i 0 = k
      · rw [if_neg (fun z => z hk), if_pos hk]; rfl
      · rw [if_pos hk, if_neg hk]
        simp only [b28_23]
        rw [i_add1]
        exact ih (i + 1) (by omega) (by omega)
    · rw [if_pos ((i_le (by omega) (by omega)).mpr (by omega)), List.drop_eq_nil_of_le (by omega)]
      rfl
theorem c28_eq (o : okN h b N) (hl : N.2.2.2.1.length < 1000) (hF : 1000 ≤ F) : m28 F b k h = some (zx k N.2.2.2.1 0, h) := c28_loop o hl F 0 (Nat.zero_le _) (by omega)
theorem zx_idx : ∀ (l : List Int32) (i : Nat), zx k l i = if zidx k l < l.length then Int32.ofNat (i + zidx k l) else -1 := by
  intro l
  induction l with
  | nil => intro i; rfl
  | cons x l ih =>
    intro i
    simp only [zx, zidx, List.length_cons]
    by_cases hx : x = k
    · simp [hx]
    · simp only [hx, if_false, ih]
      by_cases hz : zidx k l < l.length
      · rw [if_pos hz, if_pos (by omega)]; congr 1; omega
      · rw [if_neg hz, if_neg (by omega)]
/-- Content.countNotGreater -/
theorem c31_loop (o : okN h b N) (hl : N.2.2.2.1.length < 1000) : ∀ (f i c : Nat), i ≤ N.2.2.2.1.length → N.2.2.2.1.length - i < f → b31_4 F f (some b) k (Int32.ofNat c) (Int32.ofNat i) h = some (Int32.ofNat (c + zcng k (N.2.2.2.1.drop i)), h) := by
  obtain ⟨kk, ii, ⟨lb, _⟩, ⟨_, _, _, g3, _⟩, _, ok, _, _⟩ := okN_d o
  intro f
  induction f with
  | zero => intro i _ _ hf; omega
  | succ f ih =>
    intro i c hi hf
    simp only [b31_4, nn_some, mr, mb, g3, okA_len ok]
    by_cases hc : i < N.2.2.2.1.length
    · rw [if_neg (fun z => by rw [i_le (by omega) (by omega)] at z; omega)]
      simp only [b31_13, nn_some, mr, mb, g3, okA_li ok (by omega) hc]
      rw [zdrop_cons hc, zcng]
      by_cases hk : N.2.2.2.1.getD i 0 ≤ k
      · rw [if_neg (fun z => by rw [Int32.lt_iff_toInt_lt] at z; rw [Int32.le_iff_toInt_le] at hk; omega), if_pos hk]
        simp only [b31_23, b31_26]
        rw [i_add1, i_add1, ih (i + 1) (c + 1) (by omega) (by omega)]
        congr 3; omega
      · rw [if_pos (by rw [Int32.lt_iff_toInt_lt]; rw [Int32.le_iff_toInt_le] at hk; omega), if_neg hk]
        simp only [b31_26]
        rw [i_add1]
        exact ih (i + 1) c (by omega) (by omega)
    · rw [if_pos ((i_le (by omega) (by omega)).mpr (by omega)), List.drop_eq_nil_of_le (by omega)]
      rfl
theorem c31_eq (o : okN h b N) (hl : N.2.2.2.1.length < 1000) (hF : 1000 ≤ F) : m31 F b k h = some (Int32.ofNat (zcng k N.2.2.2.1), h) := by
  have := c31_loop (F := F) (k := k) o hl F 0 0 (Nat.zero_le _) (by omega)
  rw [Nat.zero_add, List.drop_zero] at this
  exact this
/-- Content.isFull, covers, middle, cut, childFor -/
theorem c29_eq (o : okN h b N) (hl : N.2.2.2.1.length < 1000) : m29 F b h = some (if N.2.2.2.1.length < 3 then 0 else 1, h) := by
  obtain ⟨kk, ii, ⟨lb, _⟩, ⟨_, _, _, g3, _⟩, _, ok, _, _⟩ := okN_d o
  simp only [m29, b29_0, nn_some, mr, mb, g3, okA_len ok]
  by_cases hc : N.2.2.2.1.length < 3
  · rw [if_pos (show Int32.ofNat N.2.2.2.1.length < 3 from (i_lt (b := 3) (by omega) (by omega)).mpr hc), if_pos hc]; rfl
  · rw [if_neg (fun z : Int32.ofNat N.2.2.2.1.length < 3 => hc ((i_lt (b := 3) (by omega) (by omega)).mp z)), if_neg hc]; rfl
theorem c85_eq (o : okN h b N) : m85 F b k h = some (if N.2.1 ≤ k ∧ k < N.2.2.1 then 1 else 0, h) := by
  obtain ⟨kk, ii, ⟨lb, _⟩, ⟨_, g1, g2, _, _⟩, _⟩ := okN_d o
  simp only [m85, b85_0, nn_some, mr, mb, g1]
  by_cases h1 : k < N.2.1
  · rw [if_pos h1, if_neg (fun z => by have := z.1; rw [Int32.lt_iff_toInt_lt] at h1; rw [Int32.le_iff_toInt_le] at this; omega)]; rfl
  · rw [if_neg h1]
    have h1' : N.2.1 ≤ k := by rw [Int32.lt_iff_toInt_lt] at h1; rw [Int32.le_iff_toInt_le]; omega
    simp only [b85_8, nn_some, mr, mb, g2]
    by_cases h2 : N.2.2.1 ≤ k
    · rw [if_pos h2, if_neg (fun z => by have := z.2; rw [Int32.lt_iff_toInt_lt] at this; rw [Int32.le_iff_toInt_le] at h2; omega)]; rfl
    · rw [if_neg h2, if_pos ⟨h1', by rw [Int32.lt_iff_toInt_lt]; rw [Int32.le_iff_toInt_le] at h2; omega⟩]; rfl
theorem c41_eq (o : okN h b N) (hl : N.2.2.2.1.length < 1000) (h1 : 1 < N.2.2.2.1.length) : m41 F b h = some (zmid N, h) := by
  obtain ⟨kk, ii, ⟨lb, _⟩, ⟨_, _, _, g3, _⟩, _, ok, _, _⟩ := okN_d o
  have e := okA_li ok (by omega) h1
  simp only [m41, b41_0, nn_some, mr, mb, g3]
  rw [show (1 : Int32) = Int32.ofNat 1 from rfl, e]; rfl
theorem c46_eq (o : okN h b N) : m46 F b h = some (Int32.ofNat (zcut N), h) := by
  obtain ⟨kk, ii, ⟨lb, _⟩, ⟨g0, _, _, _, _⟩, _⟩ := okN_d o
  simp only [m46, b46_0, nn_some, mr, mb, g0]
  unfold zcut
  by_cases hk : N.1 = 1
  · rw [if_neg (fun z => z hk), if_pos hk]; rfl
  · rw [if_pos hk, if_neg hk]; rfl
theorem c37_eq (o : okN h b N) (hl : N.2.2.2.1.length < 1000) (hi : N.2.2.2.1.length < N.2.2.2.2.length) (hi2 : N.2.2.2.2.length < 1000) (hF : 1000 ≤ F) : m37 F b k h = some (zchild N k, h) := by
  obtain ⟨kk, ii, ⟨lb, g6⟩, ⟨_, _, _, _, g4⟩, _, _, _, ok⟩ := okN_d o
  have := zcng_le (k := k) (l := N.2.2.2.1)
  simp only [m37, b37_0, nn_some, mr, mb, g4, g6, c31_eq o hl hF]
  simp only [okA_li ok (by omega) (show zcng k N.2.2.2.1 < N.2.2.2.2.length by omega)]
  rfl
/-- Content.inserted, removed -/
theorem c32_tot (o : okA h a l) (hl : l.length < 70) (hp : p ≤ l.length) (g : hb 2 h) : tot (m32 F (some a) (Int32.ofNat p) x) h (fun r h' => r = some (Hn h) ∧ ext 1 Xf0 Xa0 h h' ∧ okA h' (Hn h) (zins l p x)) := by
  have ha : a < Hn h := o.1.1
  have hne : ¬ a = Hn h := Nat.ne_of_lt ha
  have hsb := g.2
  have lv1 : lv (Unw h 100 (l.length + 1) (l.length + 1)) (Hn h) 100 := lv_Unw (by rw [SB_val]; omega)
  have lva : lv (Unw h 100 (l.length + 1) (l.length + 1)) a 100 := lv_ext (ext_nw (Xf := Xf0) (Xa := Xa0) (by omega)) o.1
  have la : Hl (Unw h 100 (l.length + 1) (l.length + 1)) a = l.length := by rw [Hl_Unw, if_neg hne]; exact o.2.1
  have lb : Hl (Unw h 100 (l.length + 1) (l.length + 1)) (Hn h) = l.length + 1 := by rw [Hl_Unw, if_pos rfl]
  unfold m32 b32_0
  rw [nn_some, mb_mr]
  refine tot_bind (okA_len o) ?_
  rw [i_add1]
  refine tot_bind (ok_na (i_nn (by omega)) (by rw [i_nat (by omega)]; omega)) ?_
  rw [i_nat (by omega)]
  refine tot_bind (ok_cyi (by (try simp only [lv_Uei, lv_Uci]); exact lva) (by (try simp only [lv_Uei, lv_Uci]); exact lv1) (by decide) (by decide) (i_nn (by omega)) (by rw [la, i_nat (by omega)]; show 0 + p ≤ _; omega) (by rw [lb, i_nat (by omega)]; show 0 + p ≤ _; omega)) ?_
  refine tot_bind (ok_si (by (try simp only [lv_Uei, lv_Uci]); exact lv1) (i_nn (by omega)) (by rw [i_nat (by omega)]; (try simp only [Hl_Uei, Hl_Uci]); rw [lb]; omega)) ?_
  refine tot_bind (ok_lenV (n := l.length) (by (try simp only [lv_Uei, lv_Uci]); exact lva) (by (try simp only [Hl_Uei, Hl_Uci]); exact la)) ?_
  rw [i_sub hp (by omega), i_add1]
  refine tot_bind (ok_cyi (by (try simp only [lv_Uei, lv_Uci]); exact lva) (by (try simp only [lv_Uei, lv_Uci]); exact lv1) (i_nn (by omega)) (i_nn (by omega)) (i_nn (by omega)) (by rw [i_nat (by omega), i_nat (by omega)]; (try simp only [Hl_Uei, Hl_Uci]); rw [la]; omega) (by rw [i_nat (by omega), i_nat (by omega)]; (try simp only [Hl_Uei, Hl_Uci]); rw [lb]; omega)) ?_
  refine tot_mr ⟨rfl, ?_, ?_⟩
  · refine ext_new (k1 := 1) (k2 := 0) (ext_nw (m := l.length + 1) (q := l.length + 1) (t := 100) (by omega)) ?_
    exact ext_ciS (ext_eiS (ext_ciS ext_refl (Or.inl (Or.inr (Nat.le_refl _)))) (Or.inl (Or.inr (Nat.le_refl _)))) (Or.inl (Or.inr (Nat.le_refl _)))
  · refine ⟨by simp only [lv_Uei, lv_Uci]; exact lv1, ?_, ?_⟩
    · rw [zins_len hp]; (try simp only [Hl_Uei, Hl_Uci]); exact lb
    · intro i hi
      rw [zins_len hp] at hi
      rw [zins_get hp]
      simp only [Hei_Uci, Hei_Uei, Hei_Unw, i_nat (show p < 2147483648 by omega), i_nat (show p + 1 < 2147483648 by omega), i_nat (show l.length - p < 2147483648 by omega), show (0 : Int32).toNatClampNeg = 0 from rfl, true_and, hne, false_and, if_false, if_true, Nat.zero_add, Nat.sub_zero, Nat.zero_le]
      by_cases h1 : i < p
      · rw [if_neg (show ¬ (p + 1 ≤ i ∧ i < p + 1 + (l.length - p)) by omega), if_neg (show ¬ i = p by omega), if_pos h1, if_pos h1]
        exact o.2.2 i (by omega)
      · by_cases h2 : i = p
        · rw [if_neg (show ¬ (p + 1 ≤ i ∧ i < p + 1 + (l.length - p)) by omega), if_pos h2, if_neg h1, if_pos h2]
        · rw [if_pos (show (p + 1 ≤ i ∧ i < p + 1 + (l.length - p)) by omega), if_neg h1, if_neg h2, show p + (i - (p + 1)) = i - 1 by omega]
          exact o.2.2 (i - 1) (by omega)
end CONT
