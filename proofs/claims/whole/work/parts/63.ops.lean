/-! What the steps of a client leave as it was. -/
section DOP
variable (c : zC) (x : Int32 × zN)
theorem Cforget_op : c_op (Cforget c) = c_op c := by unfold Cforget; rw [c_op_cp]
theorem Cdone_op : c_op (Cdone c) = c_op c := by unfold Cdone; rw [c_op_st]
theorem Dsplit_op : c_op (Dsplit c x).1 = c_op c := by
  unfold Dsplit
  split
  · rw [c_op_hi]
  · split
    · rw [c_op_st]
    · rw [c_op_hi]
theorem Dwalk_op : c_op (Dwalk c).1 = c_op c := by
  unfold Dwalk
  dsimp only
  split
  · rw [Dsplit_op, c_op_pa]
  · split
    · rw [c_op_pa]
    · rw [c_op_st, c_op_pa]
theorem DwalkFor_op (k : Int32) : c_op (DwalkFor c k).1 = c_op c := by unfold DwalkFor; rw [Dwalk_op, c_op_pa, c_op_go]
theorem Dstart_op : c_op (Dstart c).1 = c_op c := by unfold Dstart; rw [DwalkFor_op, c_op_re, c_op_fo, c_op_lf]
theorem Dwrong_op : c_op (Dwrong c).1 = c_op c := by
  unfold Dwrong
  dsimp only
  split
  · rw [Dstart_op, c_op_fu, Cforget_op]
  · rw [c_op_st, c_op_fu, Cforget_op]
theorem Dleaf_op : c_op (Dleaf c x).1 = c_op c := by
  unfold Dleaf
  dsimp only
  split
  · rw [Dsplit_op, c_op_re, c_op_fo]
  · split
    · rw [c_op_re, c_op_fo]
    · split
      · rw [c_op_re, c_op_fo]
      · rw [Cdone_op, c_op_re, c_op_fo]
theorem Dcollect_op : c_op (Dcollect c x).1 = c_op c := by
  unfold Dcollect
  split
  · rw [c_op_st]
  · dsimp only
    split
    · rw [DwalkFor_op, c_op_re, c_op_fo, c_op_lf]
    · split
      · rw [Cdone_op, c_op_re, c_op_fo, c_op_lf]
      · rw [c_op_re, c_op_fo, c_op_lf]
theorem Dlook_op : c_op (Dlook c x).1 = c_op c := by
  unfold Dlook
  dsimp only
  have e : c_op (if x.2.1 = 2 then c_cp_ c (fset (c_cp c) (zlast (c_pa c)) (some x)) else c) = c_op c := by
    split
    · rw [c_op_cp]
    · rfl
  split
  · split
    · rw [Dwalk_op]; exact c_op_cp ..
    · split
      · rw [Dcollect_op]
      · rw [Dleaf_op]
  · rw [Dwrong_op, e]
theorem Dgo_op (y : Option (Int32 × zN)) : c_op (Dgo c y).1 = c_op c := by
  unfold Dgo
  split
  · rw [Dlook_op]
  · split
    · rw [Dstart_op, Cforget_op]
    · rw [Cdone_op]
end DOP
theorem fset_fset {β : Type} (f : Nat → β) (i : Nat) (a b : β) : fset (fset f i a) i b = fset f i b := by
  funext j
  rw [fset_eq, fset_eq, fset_eq]
  split <;> rfl
theorem fset_id {β : Type} (f : Nat → β) (i : Nat) : fset f i (f i) = f := by
  funext j
  rw [fset_eq]
  split
  · rename_i e; rw [e]
  · rfl
theorem s_bg_msc (S : zS) (f : Nat → zC) (ms : List zM) : s_bg (s_ms_ (s_cl_ S f) ms) = s_bg S := (rfl)
theorem Zbegin_over (S : zS) (c : Nat) (z : zC) (ms : List zM) (D : zD) : Zbegin (s_ms_ (s_cl_ S (fset (s_cl S) c z)) ms) c D = Zbegin (s_ms_ S ms) c D := by
  obtain ⟨d1, d2⟩ := D
  cases d2 with
  | none =>
    show s_cl_ (s_ms_ (s_cl_ S (fset (s_cl S) c z)) ms) (fset (fset (s_cl S) c z) c d1) = s_cl_ (s_ms_ S ms) (fset (s_cl S) c d1)
    rw [fset_fset]; rfl
  | some r =>
    obtain ⟨its, sg⟩ := r
    show s_ms_ (s_ti_ (s_tc_ (s_bg_ (s_cl_ (s_ms_ (s_cl_ S (fset (s_cl S) c z)) ms) (fset (fset (s_cl S) c z) c (c_sg_ (c_an_ (c_op_ d1 (s_bg S + 1)) (fun _ => false)) sg))) (s_bg S + 1)) (fset (s_tc S) (s_bg S + 1) c)) (fset (s_ti S) (s_bg S + 1) its)) (snd3 (tp its) 1 (s_bg S + 1) ms) = s_ms_ (s_ti_ (s_tc_ (s_bg_ (s_cl_ (s_ms_ S ms) (fset (s_cl S) c (c_sg_ (c_an_ (c_op_ d1 (s_bg S + 1)) (fun _ => false)) sg))) (s_bg S + 1)) (fset (s_tc S) (s_bg S + 1) c)) (fset (s_ti S) (s_bg S + 1) its)) (snd3 (tp its) 1 (s_bg S + 1) ms)
    rw [fset_fset]; rfl
