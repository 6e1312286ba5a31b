/-! The reference's client: go, last, forget, freshAddress. -/
section RCLI
variable {h h1 h2 : xv_H} {n c d L L2 t m p i F f : Nat} {S : zS} {P : List zI} {z z2 : zC} {x : Int32}
theorem rv_at (o : rC h c z L) {A : Nat} {x : Int32} (e : rv z L A = some x) : Hei h A c = x := o.1 A x e
theorem rd_pal (o : rC h c z L) (hL : 3 ≤ L) : Hei h 73 c = Int32.ofNat (c_pa z).length := rv_at o (by unfold rv; simp [hL])
/-- last -/
theorem r145_eq (rf : rF h) (hc : c < 2) (o : rC h c z 3) (h1 : 1 ≤ (c_pa z).length) : m145 F 37 (Int32.ofNat c) h = some (Int32.ofNat (zlast (c_pa z)), h) := by
  obtain ⟨p1, p2⟩ := o.2.2.1 (by decide)
  unfold m145 b145_0
  rw [nn_some, mb_mr, mb_some (g937 rf), mb_some (g938 rf), nn_some, mb_mr, mb_some (l73 rf hc), rd_pal o (by decide), nn_some, mb_mr, ix24, i_sub1 (by omega) (by omega), mb_some (l72 rf (by omega)), show 24 * c + (c_pa z).length - 1 = 24 * c + ((c_pa z).length - 1) by omega, p2 _ (by omega)]
  rfl
/-- go -/
theorem r143_tot (rf : rF h) (hc : c < 2) (o : rC h c z 3) (h24 : (c_pa z).length < 24) {a : Nat} : tot (m143 F 37 (Int32.ofNat c) (Int32.ofNat a)) h (fun _ h' => agC c h h' ∧ rC h' c (c_pa_ z (c_pa z ++ [a])) 3) := by
  obtain ⟨p1, p2⟩ := o.2.2.1 (by decide)
  unfold m143 b143_0
  rw [nn_some, mb_mr]
  refine tot_bind (g937 rf) (tot_bind (g938 rf) ?_)
  rw [nn_some, mb_mr]
  refine tot_bind (l73 rf hc) ?_
  rw [rd_pal o (by decide), nn_some, mb_mr, ix24]
  refine tot_bind (s72 rf (by omega)) ?_
  have e1 : agC c h (Uei h 72 (24 * c + (c_pa z).length) (Int32.ofNat a)) := ag_ei (by decide) (fun q => q (by unfold KC; omega))
  have w73 : Hei (Uei h 72 (24 * c + (c_pa z).length) (Int32.ofNat a)) 73 c = Int32.ofNat (c_pa z).length := by rw [Hei_Uei, if_neg (by omega)]; exact rd_pal o (by decide)
  have wpa : ∀ j, Hei (Uei h 72 (24 * c + (c_pa z).length) (Int32.ofNat a)) 72 (24 * c + j) = if j = (c_pa z).length then Int32.ofNat a else Hei h 72 (24 * c + j) := by
    intro j
    rw [Hei_Uei]
    by_cases q : j = (c_pa z).length
    · rw [if_pos ⟨rfl, by omega⟩, if_pos q]
    · rw [if_neg (by omega), if_neg q]
  have wo : ∀ A j, ¬ A = 72 → Hei (Uei h 72 (24 * c + (c_pa z).length) (Int32.ofNat a)) A j = Hei h A j := by intro A j q; rw [Hei_Uei, if_neg (fun z => q z.1)]
  have wl : ∀ A j, Hel (Uei h 72 (24 * c + (c_pa z).length) (Int32.ofNat a)) A j = Hel h A j := by intro A j; rw [Hel_Uei]
  generalize Uei h 72 (24 * c + (c_pa z).length) (Int32.ofNat a) = h1 at *
  have rf1 := ag_rF e1 rf
  refine tot_bind (g938 rf1) ?_
  rw [nn_some, mb_mr]
  refine tot_bind (l73 rf1 hc) (tot_bind (s73 rf1 hc) (tot_mr ?_))
  rw [w73, i_add1]
  have e2 : agC c h1 (Uei h1 73 c (Int32.ofNat ((c_pa z).length + 1))) := ag_ei (by decide) (fun q => q (by unfold KC; omega))
  have hlen : (c_pa z ++ [a]).length = (c_pa z).length + 1 := by rw [List.length_append]; rfl
  refine ⟨ag_trans e1 e2, fun A x hx => ?_, fun b hb => ?_, fun _ => ?_, fun _ => ?_⟩
  · rw [Hei_Uei]
    by_cases q : A = 73
    · rw [if_pos ⟨q, rfl⟩]
      subst q
      unfold rv at hx
      simp [c_pa_pa] at hx
      rw [← i_add1]
      exact hx
    · rw [if_neg (fun z => q z.1), wo A c (rv_row hx).2.2]
      refine o.1 A x ?_
      rw [← hx]
      unfold rv
      simp only [c_hi_pa, c_st_pa, c_jb_pa, c_fu_pa, c_go_pa, c_fr_pa, c_up_pa, c_wa_pa, c_re_pa, c_fo_pa, c_op_pa, c_an_pa, c_sg_pa, c_lf_pa, q, if_false]
  · rw [c_cp_pa]
    have := o.2.1 b hb
    unfold rcp at *
    rw [Hei_Uei, if_neg (by omega), Hel_Uei, wo _ _ (by decide), wl]
    exact this
  · rw [c_pa_pa, hlen]
    refine ⟨by omega, fun j hj => ?_⟩
    rw [Hei_Uei, if_neg (by omega), wpa]
    by_cases q : j = (c_pa z).length
    · rw [if_pos q, q]
      congr 1
      rw [List.getD_eq_getElem?_getD, List.getElem?_append_right (Nat.le_refl _)]; simp
    · rw [if_neg q, p2 j (by omega)]
      congr 1
      rw [List.getD_eq_getElem?_getD, List.getD_eq_getElem?_getD, List.getElem?_append_left (by omega)]
  · rw [c_lf_pa]
    refine ⟨(o.2.2.2 (by decide)).1, fun j hj => ?_⟩
    rw [Hei_Uei, if_neg (by omega), Hei_Uei, if_neg (by omega), wo _ _ (by decide), wo _ _ (by decide)]
    exact (o.2.2.2 (by decide)).2 j hj
/-- a copy is forgotten -/
theorem rs_cp0 (hc : c < 2) (o : rC h c z L) {a : Nat} (ha : a < 24) : agC c h (Uei h 57 (24 * c + a) 0) ∧ rC (Uei h 57 (24 * c + a) 0) c (c_cp_ z (fset (c_cp z) a none)) L := by
  refine ⟨ag_ei (by decide) (fun q => q (by unfold KC; omega)), fun A x hx => ?_, fun b hb => ?_, fun q => ?_, fun q => ?_⟩
  · have := rv_row hx
    rw [Hei_Uei, if_neg (by omega)]
    refine o.1 A x ?_
    rw [← hx]
    unfold rv
    simp only [c_hi_cp, c_st_cp, c_jb_cp, c_fu_cp, c_go_cp, c_fr_cp, c_up_cp, c_wa_cp, c_re_cp, c_fo_cp, c_op_cp, c_an_cp, c_sg_cp, c_pa_cp, c_lf_cp]
  · rw [c_cp_cp, fset_eq]
    by_cases e : b = a
    · rw [if_pos e]
      unfold rcp
      rw [Hei_Uei, if_pos ⟨rfl, by omega⟩]
    · rw [if_neg e]
      have := o.2.1 b hb
      unfold rcp at *
      rw [Hei_Uei, if_neg (by omega), Hel_Uei]
      exact this
  · rw [c_pa_cp]
    refine ⟨(o.2.2.1 q).1, fun j hj => ?_⟩
    rw [Hei_Uei, if_neg (by omega)]
    exact (o.2.2.1 q).2 j hj
  · rw [c_lf_cp]
    refine ⟨(o.2.2.2 q).1, fun j hj => ?_⟩
    rw [Hei_Uei, if_neg (by omega), Hei_Uei, if_neg (by omega)]
    exact (o.2.2.2 q).2 j hj
theorem r140_loop (hc : c < 2) (h24 : ∀ i, i < (c_pa z).length → (c_pa z).getD i 0 < 24) : ∀ (f j : Nat) (h : xv_H), rF h → j ≤ (c_pa z).length → (c_pa z).length - j < f → rC h c (c_cp_ z (fun a => if a ∈ (c_pa z).take j then none else c_cp z a)) 3 → tot (b140_2 F f (some 37) (Int32.ofNat c) (Int32.ofNat j)) h (fun _ h' => agC c h h' ∧ rC h' c (Cforget z) 3) := by
  intro f
  induction f with
  | zero => intro j h rf h1 h2; omega
  | succ f ih =>
    intro j h rf h1 h2 o
    obtain ⟨p1, p2⟩ := o.2.2.1 (by decide)
    rw [c_pa_cp] at p1 p2
    have e73 := rd_pal o (by decide)
    rw [c_pa_cp] at e73
    unfold b140_2
    rw [nn_some, mb_mr]
    refine tot_bind (g938 rf) ?_
    rw [nn_some, mb_mr]
    refine tot_bind (l73 rf hc) ?_
    rw [e73]
    by_cases q : (c_pa z).length ≤ j
    · rw [if_pos (by rw [i_le (by omega) (by omega)]; exact q)]
      refine tot_mr ⟨ag_refl, ?_⟩
      unfold Cforget
      rw [List.take_of_length_le q] at o
      exact o
    · rw [if_neg (by rw [i_le (by omega) (by omega)]; exact q)]
      unfold b140_12
      rw [nn_some, mb_mr]
      refine tot_bind (g922 rf) (tot_bind (g937 rf) ?_)
      rw [nn_some, mb_mr, ix24]
      refine tot_bind (l72 rf (by omega)) ?_
      rw [p2 j (by omega), nn_some, mb_mr, ix24]
      have hj := h24 j (by omega)
      refine tot_bind (s57 rf (by omega)) ?_
      obtain ⟨e1, o1⟩ := rs_cp0 hc o hj
      rw [i_add1]
      generalize Uei h 57 (24 * c + (c_pa z).getD j 0) 0 = h1 at *
      refine tot_mono (ih (j + 1) h1 (ag_rF e1 rf) (by omega) (by omega) ?_) (fun _ h2 q2 => ⟨ag_trans e1 q2.1, q2.2⟩)
      have ef : (fset (c_cp (c_cp_ z (fun a => if a ∈ (c_pa z).take j then none else c_cp z a))) ((c_pa z).getD j 0) none) = (fun a => if a ∈ (c_pa z).take (j + 1) then none else c_cp z a) := by
        funext a
        rw [fset_eq, c_cp_cp]
        have tm := take_mem (p := c_pa z) (i := j) (a := a) (by omega)
        by_cases e1 : a = (c_pa z).getD j 0
        · rw [if_pos e1, if_pos (tm.mpr (Or.inl e1))]
        · rw [if_neg e1]
          by_cases e2 : a ∈ (c_pa z).take j
          · rw [if_pos e2, if_pos (tm.mpr (Or.inr e2))]
          · rw [if_neg e2, if_neg (fun q => (tm.mp q).elim e1 e2)]
      rw [ef, c_cpcp] at o1
      exact o1
theorem r140_tot (hF : 1000 ≤ F) (rf : rF h) (hc : c < 2) (o : rC h c z 3) (h24 : ∀ i, i < (c_pa z).length → (c_pa z).getD i 0 < 24) : tot (m140 F 37 (Int32.ofNat c)) h (fun _ h' => agC c h h' ∧ rC h' c (Cforget z) 3) := by
  have := (o.2.2.1 (by decide)).1
  unfold m140 b140_0
  refine r140_loop hc h24 F 0 h rf (by omega) (by omega) ?_
  have : (fun a => if a ∈ (c_pa z).take 0 then none else c_cp z a) = c_cp z := by
    funext a
    rw [if_neg (by simp)]
  rw [this]
  exact o
/-- freshAddress -/
theorem r155_tot (rf : rF h) (hc : c < 2) (o : rC h c z L) (hh : c_hi z < 24) : tot (m155 F 37 (Int32.ofNat c)) h (fun r h' => r = Int32.ofNat (c_hi z) ∧ agC c h h' ∧ rC h' c (c_hi_ z (znext (c_hi z))) L) := by
  have e59 : Hei h 59 c = Int32.ofNat (c_hi z) := rv_at o (by unfold rv; simp)
  unfold m155 b155_0
  rw [nn_some, mb_mr]
  refine tot_bind (g924 rf) ?_
  rw [nn_some, mb_mr]
  refine tot_bind (l59 rf hc) (tot_bind (g924 rf) ?_)
  rw [e59, show (23 : Int32) = Int32.ofNat 23 from rfl]
  obtain ⟨e1, o1⟩ := rs_hi (znext (c_hi z)) o
  by_cases q : c_hi z = 23
  · rw [if_neg (fun z => z (by rw [q]))]
    unfold b155_18 b155_25
    rw [nn_some, mb_mr]
    have ez : znext (c_hi z) = 1 := by unfold znext; rw [if_pos (by omega)]
    rw [ez] at e1 o1 ⊢
    exact tot_bind (s59 rf hc) (tot_mr ⟨rfl, e1, o1⟩)
  · rw [if_pos (fun z => q ((i_eq (by omega) (by omega)).mp z))]
    unfold b155_22 b155_25
    rw [nn_some, mb_mr, i_add1]
    have ez : znext (c_hi z) = c_hi z + 1 := by unfold znext; rw [if_neg (by omega)]
    rw [ez] at e1 o1 ⊢
    exact tot_bind (s59 rf hc) (tot_mr ⟨rfl, e1, o1⟩)
end RCLI
