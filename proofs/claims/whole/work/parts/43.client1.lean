/-! A client's small methods. -/
section CL1
variable {h h1 h2 : xv_H} {B c F f x K : Nat} {z : zC} {e s a d : Option Nat} {T : Option Nat × Option Nat × Option Nat × Option Nat} {y : Int32}
theorem zlast_lt {p : List Nat} (o : kP h B p) : zlast p < 24 := (o.2.2.2.2 (p.length - 1) (by have := o.2.1; omega)).2
/-- endAddress -/
theorem c19_eq (o : cs h B c z T) : m19 F B h = some (Int32.ofNat (zlast (c_pa z)), h) := by
  obtain ⟨p1, p2, p3, p5, p4⟩ := o.1.2.2.1
  have e1 : li (B + 5) (Int32.ofNat ((c_pa z).length - 1)) h = some (Int32.ofNat (zlast (c_pa z)), h) := by
    rw [ok_li (cs_lP o).1 (i_nn (by omega)) (by rw [i_nat (by omega), (cs_lP o).2]; omega), i_nat (by omega), (p4 _ (by omega)).1]; rfl
  simp only [m19, b19_0, nn_some, mr, mb, cs_103 o, cs_104 o, i_sub1 p2 (show (c_pa z).length < 2147483648 by omega), e1]
/-- newAddress -/
theorem c40_tot (hB : isB B) (hh : c_hi z < 24) (o : cs h B c z (e, s, a, d)) : tot (m40 F B) h (fun r h' => r = Int32.ofNat (c_hi z) ∧ ext 0 (XfC B) (XaC B) h h' ∧ cs h' B c (c_hi_ z (znext (c_hi z))) (e, s, a, d)) := by
  have lt : (Int32.ofNat (c_hi z) < 23) ↔ c_hi z < 23 := i_lt (b := 23) (by omega) (by decide)
  unfold m40 b40_0
  rw [nn_some, mb_mr]
  refine tot_bind (cs_108 o) (tot_bind (cs_108 o) ?_)
  refine tot_if (fun g => ?_) (fun g => ?_)
  · have g := lt.mp g
    unfold b40_19
    rw [nn_some, mb_mr]
    refine tot_bind (cs_108 o) ?_
    unfold b40_25
    rw [nn_some, mb_mr, i_add1]
    refine tot_bind (ok_pi (cs_lB o)) ?_
    have e : znext (c_hi z) = c_hi z + 1 := by unfold znext; rw [if_neg (by omega)]
    rw [e]
    exact tot_mr ⟨rfl, ext_fi (Or.inl ⟨rfl, by decide⟩), cs_hi hB _ o⟩
  · have g : ¬ c_hi z < 23 := fun q => g (lt.mpr q)
    unfold b40_15 b40_25
    rw [nn_some, mb_mr]
    refine tot_bind (ok_pi (cs_lB o)) ?_
    have e : znext (c_hi z) = 1 := by unfold znext; rw [if_pos (by omega)]
    rw [e]
    exact tot_mr ⟨rfl, ext_fi (Or.inl ⟨rfl, by decide⟩), cs_hi hB 1 o⟩
/-- no leaves -/
theorem cs_lf0 (hB : isB B) (o : cs h B c z T) : cs (Ufi h 202 (B + 2) 0) B c (c_lf_ z []) T := by
  have hl := cs_lt o
  have ex : ext 0 (fun f a => f = 202 ∧ a = B + 2) Xa0 h (Ufi h 202 (B + 2) 0) := ext_fi ⟨rfl, rfl⟩
  obtain ⟨⟨f1, f2, f3, f4, f5⟩, t⟩ := o
  refine ⟨⟨kF_c ex (fun f b q r => by omega) f1, ?_, kP_c ex hl (fun q => by omega) (fun q => q) f3, ⟨by rw [c_lf_lf]; decide, by rw [Hfi_Ufi, if_pos ⟨rfl, rfl⟩]; rfl, fun i hi => absurd hi (Nat.not_lt_zero _)⟩, kC_c ex ⟨fun f a f1 f2 q => by omega, fun _ _ _ q => q⟩ (by omega) (fun q => q) f5⟩, ?_⟩
  · obtain ⟨a1, a2, a3, a4, a5, a6, a7, a8, a9, a0⟩ := f2
    refine ⟨?_, ?_, ?_, ?_, ?_, ?_, ?_, ?_, ?_, ?_⟩ <;> (simp [Hfi_Ufi, Hfr_Ufi, c_hi_lf, c_jb_lf, c_st_lf, c_fu_lf, c_go_lf, c_fr_lf, c_up_lf, c_wa_lf, c_re_lf, c_fo_lf]; assumption)
  · rw [← t]; rfl
/-- the path is its beginning -/
theorem cs_pa0 (hB : isB B) (o : cs h B c z T) : cs (Ufi h 104 B 1) B c (c_pa_ z [0]) T := by
  have hl := cs_lt o
  have ex : ext 0 (fun f a => f = 104 ∧ a = B) Xa0 h (Ufi h 104 B 1) := ext_fi ⟨rfl, rfl⟩
  obtain ⟨⟨f1, f2, f3, f4, f5⟩, t⟩ := o
  obtain ⟨p1, p2, p3, p5, p4⟩ := f3
  refine ⟨⟨kF_c ex (fun f b q r => by omega) f1, ?_, ⟨by rw [c_pa_pa]; decide, by rw [c_pa_pa]; decide, by rw [Hfi_Ufi, if_pos ⟨rfl, rfl⟩]; rfl, rfl, fun i hi => ?_⟩, kL_c ex hl (fun q => by omega) (fun q => q) (fun q => q) f4, kC_c ex ⟨fun f a f1 f2 q => by omega, fun _ _ _ q => q⟩ (by omega) (fun q => q) f5⟩, ?_⟩
  · obtain ⟨a1, a2, a3, a4, a5, a6, a7, a8, a9, a0⟩ := f2
    refine ⟨?_, ?_, ?_, ?_, ?_, ?_, ?_, ?_, ?_, ?_⟩ <;> (simp [Hfi_Ufi, Hfr_Ufi, c_hi_pa, c_jb_pa, c_st_pa, c_fu_pa, c_go_pa, c_fr_pa, c_up_pa, c_wa_pa, c_re_pa, c_fo_pa]; assumption)
  · rw [c_pa_pa] at hi ⊢
    have : i = 0 := by have : i < 1 := hi; omega
    subst this
    rw [Hei_Ufi, (p4 0 (by omega)).1, p5]
    exact ⟨rfl, by decide⟩
  · rw [← t]; rfl
/-- one more on the path -/
theorem cs_paS (hB : isB B) (hx : x < 24) (h24 : (c_pa z).length < 24) (o : cs h B c z T) : cs (Ufi (Uei h (B + 5) (c_pa z).length (Int32.ofNat x)) 104 B (Int32.ofNat ((c_pa z).length + 1))) B c (c_pa_ z (c_pa z ++ [x])) T := by
  have hl := cs_lt o
  have ex : ext 0 (fun f a => f = 104 ∧ a = B) (fun a => a = B + 5) h (Ufi (Uei h (B + 5) (c_pa z).length (Int32.ofNat x)) 104 B (Int32.ofNat ((c_pa z).length + 1))) := ext_fiS (ext_ei rfl) (Or.inl ⟨rfl, rfl⟩)
  obtain ⟨⟨f1, f2, f3, f4, f5⟩, t⟩ := o
  obtain ⟨p1, p2, p3, p5, p4⟩ := f3
  have hlen : (c_pa z ++ [x]).length = (c_pa z).length + 1 := by rw [List.length_append]; rfl
  have hget : ∀ i, i < (c_pa z).length → (c_pa z ++ [x]).getD i 0 = (c_pa z).getD i 0 := fun i hi => by simp only [List.getD_eq_getElem?_getD]; rw [List.getElem?_append_left hi]
  refine ⟨⟨kF_c ex (fun f b q r => by omega) f1, ?_, ?_, kL_c ex hl (fun q => by omega) (fun q => by omega) (fun q => by omega) f4, kC_c ex ⟨fun f a f1 f2 q => by omega, fun a i _ q => by unfold im at i; unfold isB at hB; omega⟩ (by omega) (fun q => by omega) f5⟩, ?_⟩
  · obtain ⟨a1, a2, a3, a4, a5, a6, a7, a8, a9, a0⟩ := f2
    refine ⟨?_, ?_, ?_, ?_, ?_, ?_, ?_, ?_, ?_, ?_⟩ <;> (simp [Hfi_Ufi, Hfr_Ufi, Hfi_Uei, Hfr_Uei, c_hi_pa, c_jb_pa, c_st_pa, c_fu_pa, c_go_pa, c_fr_pa, c_up_pa, c_wa_pa, c_re_pa, c_fo_pa]; assumption)
  · rw [c_pa_pa]
    refine ⟨by omega, by omega, by rw [hlen, Hfi_Ufi, if_pos ⟨rfl, rfl⟩], by rw [hget 0 (by omega)]; exact p5, fun i hi => ?_⟩
    rw [hlen] at hi
    rw [Hei_Ufi, Hei_Uei]
    by_cases hc : i = (c_pa z).length
    · have : (c_pa z ++ [x]).getD i 0 = x := by subst hc; simp [List.getD_eq_getElem?_getD]
      rw [if_pos ⟨rfl, hc⟩, this]
      exact ⟨rfl, hx⟩
    · rw [if_neg (fun q => hc q.2), hget i (by omega)]
      exact p4 i (by omega)
  · rw [← t]; rfl
/-- forgetResult -/
theorem c15_tot (hB : isB B) (o : cs h B c z (e, s, a, d)) : tot (m15 F (B + 2)) h (fun _ h' => ext 0 (XfC B) (XaC B) h h' ∧ cs h' B c (c_re_ (c_fo_ (c_lf_ z []) false) 0) (e, s, a, d)) := by
  have o1 := cs_lf0 hB o
  have o2 := cs_fo hB false o1
  have o3 := cs_re hB 0 o2
  unfold m15 b15_0
  rw [nn_some, mb_mr]
  refine tot_bind (ok_pi (cs_lJ o)) (tot_bind (ok_pz (cs_lJ o1) (Or.inl rfl)) (tot_bind (ok_pi (cs_lJ o2)) (tot_mr ⟨?_, o3⟩)))
  exact ext_fiS (ext_fiS (ext_fi (Or.inr ⟨rfl, by decide⟩)) (Or.inl (Or.inr ⟨rfl, by decide⟩))) (Or.inl (Or.inr ⟨rfl, by decide⟩))
/-- walkFor -/
theorem c16_tot (hB : isB B) (o : cs h B c z (e, s, a, d)) : tot (m16 F B y) h (fun _ h' => ext 0 (XfC B) (XaC B) h h' ∧ cs h' B c (c_pa_ (c_go_ z y) [0]) (e, some (xv_SB + 17), a, d)) := by
  have o1 := cs_go hB y o
  have o2 := cs_pa0 hB o1
  have o3 := cs_step hB (some (xv_SB + 17)) o2
  unfold m16 b16_0
  rw [nn_some, mb_mr]
  refine tot_bind (ok_pi (cs_lB o)) (tot_bind (ok_pi (cs_lB o1)) (tot_bind (ok_pr (cs_lB o2)) (tot_mr ⟨?_, o3⟩)))
  exact ext_frS (ext_fiS (ext_fi (Or.inl ⟨rfl, by decide⟩)) (Or.inl (Or.inl ⟨rfl, by decide⟩))) (Or.inl (Or.inl ⟨rfl, by decide⟩))
/-- giveUp -/
theorem c18_tot (hB : isB B) (o : cs h B c z (e, s, a, d)) : tot (m18 F B) h (fun _ h' => ext 0 (XfC B) (XaC B) h h' ∧ cs h' B c (c_st_ z 4) (e, some (xv_SB + 11), a, d)) := by
  have o1 := cs_st hB 4 o
  have o2 := cs_step hB (some (xv_SB + 11)) o1
  unfold m18 b18_0
  rw [nn_some, mb_mr]
  refine tot_bind (cs_102 o) ?_
  rw [nn_some, mb_mr]
  refine tot_bind (ok_pi (cs_lJ o)) (tot_bind (ok_pr (cs_lB o1)) (tot_mr ⟨?_, o2⟩))
  exact ext_frS (ext_fi (Or.inr ⟨rfl, by decide⟩)) (Or.inl (Or.inl ⟨rfl, by decide⟩))
/-- finish -/
theorem c21_tot (hB : isB B) (o : cs h B c z (e, s, a, d)) : tot (m21 F (B + 2)) h (fun _ h' => ext 0 (XfC B) (XaC B) h h' ∧ cs h' B c (Cdone z) (e, s, a, d)) := by
  unfold m21 b21_0
  rw [nn_some, mb_mr]
  refine tot_bind (cs_209 o) ?_
  have X : ∀ y : Int32, y = (if c_fo z = true then 3 else 2) → tot (b21_13 F y (some (B + 2))) h (fun _ h' => ext 0 (XfC B) (XaC B) h h' ∧ cs h' B c (Cdone z) (e, s, a, d)) := by
    intro y hy
    unfold b21_13
    rw [nn_some, mb_mr]
    refine tot_bind (ok_pi (cs_lJ o)) (tot_mr ⟨ext_fi (Or.inr ⟨rfl, by decide⟩), ?_⟩)
    unfold Cdone
    rw [← hy]
    exact cs_st hB y o
  refine tot_if (fun g => ?_) (fun g => ?_)
  · unfold b21_12
    have := (b2i_eq0 _).mp g
    exact X 2 (by rw [this]; rfl)
  · unfold b21_8
    have : c_fo z = true := by
      cases hc : c_fo z with
      | true => rfl
      | false => exact absurd (by rw [hc]; rfl) g
    exact X 3 (by rw [this]; rfl)
end CL1
