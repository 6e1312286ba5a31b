/-! A client's methods: assign, forgetPath, goWrong, draftFor. -/
section CL2
variable {h h1 h2 : xv_H} {B c F f x K : Nat} {z : zC} {e s a d w : Option Nat} {T : Option Nat × Option Nat × Option Nat × Option Nat} {y : Int32} {v : Option (Int32 × zN)}
theorem c13_tot {jb p q r : Int32} (hB : isB B) (o : cs h B c z (e, s, a, d)) : tot (m13 F (B + 2) (some (xv_SB + 2 + jb.toNatClampNeg)) p q r) h (fun _ h' => ext 0 (XfC B) (XaC B) h h' ∧ cs h' B c (c_fu_ (c_st_ (c_wa_ (c_up_ (c_fr_ (c_jb_ z jb) p) q) r) 1) 10) (e, s, a, d)) := by
  have o1 := cs_jb hB jb o
  have o2 := cs_fr hB p o1
  have o3 := cs_up hB q o2
  have o4 := cs_wa hB r o3
  have o5 := cs_st hB 1 o4
  have o6 := cs_fu hB 10 o5
  unfold m13 b13_0
  rw [nn_some, mb_mr]
  refine tot_bind (ok_pr (cs_lJ o)) (tot_bind (ok_pi (cs_lJ o1)) (tot_bind (ok_pi (cs_lJ o2)) (tot_bind (ok_pi (cs_lJ o3)) (tot_bind (ok_pi (cs_lJ o4)) (tot_bind (ok_pi (cs_lJ o5)) (tot_mr ⟨?_, o6⟩))))))
  have J : ∀ f, 202 ≤ f → f < 211 → XfC B f (B + 2) ∨ Hn h ≤ B + 2 := fun f f1 f2 => Or.inl (Or.inr ⟨rfl, f1, f2⟩)
  exact ext_fiS (ext_fiS (ext_fiS (ext_fiS (ext_fiS (ext_frS ext_refl (J _ (by decide) (by decide))) (J _ (by decide) (by decide))) (J _ (by decide) (by decide))) (J _ (by decide) (by decide))) (J _ (by decide) (by decide))) (J _ (by decide) (by decide))
/-- another copy -/
theorem cs_cp (hB : isB B) (hx : x < 24) (ho : okO h w v) (o : cs h B c z T) : cs (Uer h (B + 1) x w) B c (c_cp_ z (fset (c_cp z) x v)) T := by
  have hl := cs_lt o
  have ex : ext 0 Xf0 (fun a => a = B + 1) h (Uer h (B + 1) x w) := ext_er rfl
  have cm : calm h Xf0 (fun a => a = B + 1) := ⟨fun f a f1 f2 q => q, fun a i _ q => by unfold im at i; unfold isB at hB; omega⟩
  obtain ⟨⟨f1, f2, f3, f4, f5⟩, t⟩ := o
  refine ⟨⟨kF_c ex (fun f b q r => r) f1, kI_c (z := c_cp_ z (fset (c_cp z) x v)) ex (by omega) (fun f b q r => r) f2, kP_c ex hl (fun q => q) (fun q => by omega) f3, kL_c ex hl (fun q => q) (fun q => by omega) (fun q => by omega) f4, fun b hb => ?_⟩, ?_⟩
  · rw [Her_Uer, c_cp_cp]
    unfold fset
    by_cases hc : b = x
    · rw [if_pos ⟨rfl, hc⟩, if_pos hc]; exact okO_c ex cm ho
    · rw [if_neg (fun q => hc q.2), if_neg hc]; exact okO_c ex cm (f5 b hb)
  · rw [← t]; rfl
/-- forgetPath -/
theorem take_mem {p : List Nat} {i a : Nat} (hi : i < p.length) : a ∈ p.take (i + 1) ↔ a = p.getD i 0 ∨ a ∈ p.take i := by
  have : p.take (i + 1) = p.take i ++ [p.getD i 0] := by
    rw [List.take_succ_eq_append_getElem hi, List.getD_eq_getElem?_getD, List.getElem?_eq_getElem hi]; rfl
  rw [this, List.mem_append, List.mem_singleton]
  exact Or.comm
theorem c81_loop (hB : isB B) {Q : Unit → xv_H → Prop} : ∀ (f i : Nat) (h : xv_H), i ≤ (c_pa z).length → (c_pa z).length - i < f → cs h B c (c_cp_ z (fun a => if a ∈ (c_pa z).take i then none else c_cp z a)) T → (∀ h', ext 0 (XfC B) (XaC B) h h' → cs h' B c (Cforget z) T → Q () h') → tot (b81_2 F f (some B) (Int32.ofNat i)) h Q := by
  intro f
  induction f with
  | zero => intro i h _ hf; omega
  | succ f ih =>
    intro i h hi hf o K
    have hp : (c_pa z).length ≤ 24 := o.1.2.2.1.1
    have q4 := cs_104 o
    rw [c_pa_cp] at q4
    unfold b81_2
    rw [nn_some, mb_mr]
    refine tot_bind q4 ?_
    by_cases hc : i < (c_pa z).length
    · rw [if_neg (fun q => by rw [i_le (by omega) (by omega)] at q; omega)]
      unfold b81_10
      rw [nn_some, mb_mr]
      refine tot_bind (cs_101 o) (tot_bind (cs_103 o) ?_)
      rw [nn_some, mb_mr]
      have hg := o.1.2.2.1.2.2.2.2 i (by rw [c_pa_cp]; exact hc)
      rw [c_pa_cp] at hg
      refine tot_bind (ok_li (cs_lP o).1 (i_nn (by omega)) (by rw [i_nat (by omega), (cs_lP o).2]; omega)) ?_
      rw [i_nat (by omega), hg.1, nn_some, mb_mr]
      refine tot_bind (ok_sr (cs_lC o).1 (i_nn (by omega)) (by rw [i_nat (by omega), (cs_lC o).2]; omega) (fun b q => by cases q)) ?_
      rw [i_nat (by omega), i_add1]
      have o2 := cs_cp (w := none) (v := none) hB hg.2 rfl o
      have E : ext 0 (XfC B) (XaC B) h (Uer h (B + 1) ((c_pa z).getD i 0) none) := ext_er (Or.inl rfl)
      refine ih (i + 1) _ (by omega) (by omega) ?_ (fun h' e2 o3 => K h' (ext_trans (k1 := 0) (k2 := 0) E e2) o3)
      have ef : fset (c_cp (c_cp_ z (fun a => if a ∈ (c_pa z).take i then none else c_cp z a))) ((c_pa z).getD i 0) none = (fun a => if a ∈ (c_pa z).take (i + 1) then none else c_cp z a) := by
        funext b
        rw [c_cp_cp]
        unfold fset
        by_cases hb : b = (c_pa z).getD i 0
        · rw [if_pos hb, if_pos ((take_mem hc).mpr (Or.inl hb))]
        · rw [if_neg hb]
          show (if b ∈ (c_pa z).take i then none else c_cp z b) = _
          by_cases hm : b ∈ (c_pa z).take i
          · rw [if_pos hm, if_pos ((take_mem hc).mpr (Or.inr hm))]
          · rw [if_neg hm, if_neg (fun q => by rcases (take_mem hc).mp q with q | q; exact hb q; exact hm q)]
      rw [ef] at o2
      exact o2
    · rw [if_pos ((i_le (by omega) (by omega)).mpr (by omega))]
      refine tot_mr (K h ext_refl ?_)
      have : (c_pa z).take i = c_pa z := List.take_of_length_le (by omega)
      rw [this] at o
      exact o
theorem c81_tot (hB : isB B) (hF : 1000 ≤ F) (o : cs h B c z T) : tot (m81 F B) h (fun _ h' => ext 0 (XfC B) (XaC B) h h' ∧ cs h' B c (Cforget z) T) := by
  have hp : (c_pa z).length ≤ 24 := o.1.2.2.1.1
  exact c81_loop hB F 0 h (Nat.zero_le _) (by omega) (by exact o) (fun h' e o' => ⟨e, o'⟩)
/-- goWrong -/
theorem c80_tot (hB : isB B) (hF : 1000 ≤ F) (o : cs h B c z (e, s, a, d)) : tot (m80 F B) h (fun _ h' => ext 0 (XfC B) (XaC B) h h' ∧ cs h' B c (if 0 < c_fu z - 1 then c_fu_ (Cforget z) (c_fu z - 1) else c_st_ (c_fu_ (Cforget z) (c_fu z - 1)) 4) (e, some (xv_SB + (if 0 < c_fu z - 1 then 15 else 11)), a, d)) := by
  unfold m80 b80_0
  rw [nn_some, mb_mr]
  refine tot_bind (ok_vc (cs_lB o)) ?_
  refine tot_mb (c81_tot hB hF o) (fun _ h1 q1 => ?_)
  obtain ⟨e1, o1⟩ := q1
  refine tot_bind (cs_102 o1) ?_
  rw [nn_some, mb_mr]
  have fu1 : c_fu (Cforget z) = c_fu z := rfl
  refine tot_bind (cs_208 o1) ?_
  rw [fu1]
  refine tot_bind (ok_pi (cs_lJ o1)) ?_
  have o2 := cs_fu hB (c_fu z - 1) o1
  have E2 : ext 0 (XfC B) (XaC B) h (Ufi h1 208 (B + 2) (c_fu z - 1)) := ext_fiS e1 (Or.inl (Or.inr ⟨rfl, by decide⟩))
  refine tot_bind (cs_102 o2) ?_
  rw [nn_some, mb_mr]
  refine tot_bind (cs_208 o2) ?_
  rw [c_fu_fu]
  refine tot_if (fun g => ?_) (fun g => ?_)
  · have g2 : ¬ 0 < c_fu z - 1 := fun q => by rw [Int32.lt_iff_toInt_lt] at q; rw [Int32.le_iff_toInt_le] at g; omega
    rw [if_neg g2, if_neg g2]
    unfold b80_37
    rw [nn_some, mb_mr]
    refine tot_bind (ok_vc (cs_lB o2)) ?_
    exact tot_mb (c18_tot hB o2) (fun _ h3 q3 => tot_mr ⟨ext_trans (k1 := 0) (k2 := 0) E2 q3.1, q3.2⟩)
  · have g2 : 0 < c_fu z - 1 := by rw [Int32.lt_iff_toInt_lt]; rw [Int32.le_iff_toInt_le] at g; omega
    rw [if_pos g2, if_pos g2]
    unfold b80_27
    rw [nn_some, mb_mr]
    refine tot_bind (ok_pr (cs_lB o2)) ?_
    exact tot_mr ⟨ext_frS E2 (Or.inl (Or.inl ⟨rfl, by decide⟩)), cs_step hB _ o2⟩
/-- draftFor -/
theorem c23_tot (hB : isB B) (g : hb 20 h) (o : cs h B c z (e, s, a, d)) : tot (m23 F B w) h (fun r h' => ∃ x, r = some x ∧ Hn h ≤ x ∧ ext 4 (XfC B) (XaC B) h h' ∧ cs h' B c z (e, s, w, some x) ∧ okTx h' x c 0 [] ∧ okAn h' x (fun _ => false)) := by
  have hsb := g.2
  have o1 := cs_aft hB w o
  unfold m23 b23_0
  rw [nn_some, mb_mr]
  refine tot_bind (ok_pr (cs_lB o)) (tot_bind ok_nw ?_)
  generalize e1 : Ufr h 110 B w = h1 at *
  have E1 : ext 0 (XfC B) (XaC B) h h1 := by rw [← e1]; exact ext_fr (Or.inl ⟨rfl, by decide⟩)
  have n1 : Hn h1 = Hn h := by rw [← e1, Hn_Ufr]
  have e2 : ext 1 Xf0 Xa0 h1 (Unw h1 4 0 6) := ext_nw (by decide)
  have o2 := cs_c0 e2 o1
  have l2 : lv (Unw h1 4 0 6) (Hn h1) 4 := lv_Unw (by rw [n1, SB_val]; omega)
  have hl := cs_lt o1
  refine tot_bind (cs_100 o2) ?_
  refine tot_mb (c24_tot (c := c) l2 (by rw [Hn_Unw]) (by rw [Hfi_Unw, if_pos rfl]) (by rw [Hfi_Unw, if_pos rfl]) ⟨by rw [Hn_Unw]; have := g.1; omega, by rw [Hn_Unw]; omega⟩) (fun _ h3 q3 => ?_)
  obtain ⟨e3, t3, n3⟩ := q3
  have E13 : ext 4 Xf0 Xa0 h1 h3 := ext_trS (k1 := 1) (k2 := 3) e2 e3 (fun f b q => Or.inr (by rw [q.1]; exact Nat.le_refl _)) (fun b q => q.elim)
  have o3 := cs_c0 E13 o1
  refine tot_bind (ok_pr (cs_lB o3)) ?_
  have o4 := cs_drf hB (some (Hn h1)) o3
  generalize e4 : Ufr h3 112 B (some (Hn h1)) = h4 at *
  have E4 : ext 0 (fun f b => f = 112 ∧ b = B) Xa0 h3 h4 := by rw [← e4]; exact ext_fr ⟨rfl, rfl⟩
  refine tot_bind (cs_112 o4) ?_
  refine tot_mr ⟨Hn h1, rfl, Nat.le_of_eq n1.symm, ?_, o4, ?_, ?_⟩
  · exact ext_trS (k1 := 4) (k2 := 0) (ext_trans (k1 := 0) (k2 := 4) E1 (ext_any E13)) E4 (fun f b q => Or.inl (Or.inl ⟨q.2, by rw [q.1]; decide⟩)) (fun _ q => q.elim)
  · exact okTx_c E4 ⟨fun f b f1 f2 q => by omega, fun _ _ _ q => q⟩ (fun f f1 f2 q => by omega) (fun q => q) (fun q => q) t3
  · exact okAn_c E4 t3.1.2.2.2.1.1 (fun q => q) n3
end CL2
