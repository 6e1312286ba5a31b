/-! The reference's client: rows set one by one. -/
theorem ix24 {c i : Nat} : (24 : Int32) * Int32.ofNat c + Int32.ofNat i = Int32.ofNat (24 * c + i) := by rw [show (24 : Int32) = Int32.ofNat 24 from rfl, ← Int32.ofNat_mul, i_add]
theorem ix6 {c i : Nat} : (6 : Int32) * Int32.ofNat c + Int32.ofNat i = Int32.ofNat (6 * c + i) := by rw [show (6 : Int32) = Int32.ofNat 6 from rfl, ← Int32.ofNat_mul, i_add]
theorem ix3 {c i : Nat} : (3 : Int32) * Int32.ofNat c + Int32.ofNat i = Int32.ofNat (3 * c + i) := by rw [show (3 : Int32) = Int32.ofNat 3 from rfl, ← Int32.ofNat_mul, i_add]
theorem ix30 {c : Nat} : (3 : Int32) * Int32.ofNat c = Int32.ofNat (3 * c) := by rw [show (3 : Int32) = Int32.ofNat 3 from rfl, ← Int32.ofNat_mul]
section RSET
variable {h h1 h2 : xv_H} {n c d L L2 t m p i F f : Nat} {S : zS} {P : List zI} {z z2 : zC} {x : Int32}
theorem rs_go (x : Int32) (o : rC h c z L) : agC c h (Uei h 63 c (x)) ∧ rC (Uei h 63 c (x)) c (c_go_ z x) L := by
  refine rC_set (by decide) o (fun B y hB hy => ?_) (fun y hy => ?_) (c_cp_go ..) (fun q => Or.inl ⟨q, c_pa_go ..⟩) (fun q => Or.inl ⟨q, c_lf_go ..⟩)
  · rw [← hy]; unfold rv; simp only [c_cp_go, c_hi_go, c_jb_go, c_st_go, c_fu_go, c_go_go, c_fr_go, c_up_go, c_wa_go, c_re_go, c_fo_go, c_op_go, c_an_go, c_sg_go, c_pa_go, c_lf_go, hB, if_false]
  · unfold rv at hy; simp [c_go_go] at hy; exact hy.symm
theorem rs_fr (x : Int32) (o : rC h c z L) : agC c h (Uei h 64 c (x)) ∧ rC (Uei h 64 c (x)) c (c_fr_ z x) L := by
  refine rC_set (by decide) o (fun B y hB hy => ?_) (fun y hy => ?_) (c_cp_fr ..) (fun q => Or.inl ⟨q, c_pa_fr ..⟩) (fun q => Or.inl ⟨q, c_lf_fr ..⟩)
  · rw [← hy]; unfold rv; simp only [c_cp_fr, c_hi_fr, c_jb_fr, c_st_fr, c_fu_fr, c_go_fr, c_fr_fr, c_up_fr, c_wa_fr, c_re_fr, c_fo_fr, c_op_fr, c_an_fr, c_sg_fr, c_pa_fr, c_lf_fr, hB, if_false]
  · unfold rv at hy; simp [c_fr_fr] at hy; exact hy.symm
theorem rs_up (x : Int32) (o : rC h c z L) : agC c h (Uei h 65 c (x)) ∧ rC (Uei h 65 c (x)) c (c_up_ z x) L := by
  refine rC_set (by decide) o (fun B y hB hy => ?_) (fun y hy => ?_) (c_cp_up ..) (fun q => Or.inl ⟨q, c_pa_up ..⟩) (fun q => Or.inl ⟨q, c_lf_up ..⟩)
  · rw [← hy]; unfold rv; simp only [c_cp_up, c_hi_up, c_jb_up, c_st_up, c_fu_up, c_go_up, c_fr_up, c_up_up, c_wa_up, c_re_up, c_fo_up, c_op_up, c_an_up, c_sg_up, c_pa_up, c_lf_up, hB, if_false]
  · unfold rv at hy; simp [c_up_up] at hy; exact hy.symm
theorem rs_wa (x : Int32) (o : rC h c z L) : agC c h (Uei h 66 c (x)) ∧ rC (Uei h 66 c (x)) c (c_wa_ z x) L := by
  refine rC_set (by decide) o (fun B y hB hy => ?_) (fun y hy => ?_) (c_cp_wa ..) (fun q => Or.inl ⟨q, c_pa_wa ..⟩) (fun q => Or.inl ⟨q, c_lf_wa ..⟩)
  · rw [← hy]; unfold rv; simp only [c_cp_wa, c_hi_wa, c_jb_wa, c_st_wa, c_fu_wa, c_go_wa, c_fr_wa, c_up_wa, c_wa_wa, c_re_wa, c_fo_wa, c_op_wa, c_an_wa, c_sg_wa, c_pa_wa, c_lf_wa, hB, if_false]
  · unfold rv at hy; simp [c_wa_wa] at hy; exact hy.symm
theorem rs_re (x : Int32) (o : rC h c z L) : agC c h (Uei h 67 c (x)) ∧ rC (Uei h 67 c (x)) c (c_re_ z x) L := by
  refine rC_set (by decide) o (fun B y hB hy => ?_) (fun y hy => ?_) (c_cp_re ..) (fun q => Or.inl ⟨q, c_pa_re ..⟩) (fun q => Or.inl ⟨q, c_lf_re ..⟩)
  · rw [← hy]; unfold rv; simp only [c_cp_re, c_hi_re, c_jb_re, c_st_re, c_fu_re, c_go_re, c_fr_re, c_up_re, c_wa_re, c_re_re, c_fo_re, c_op_re, c_an_re, c_sg_re, c_pa_re, c_lf_re, hB, if_false]
  · unfold rv at hy
    by_cases q : 2 ≤ L
    · simp [q, c_re_re] at hy; exact hy.symm
    · simp [q] at hy
theorem rs_fo (x : Bool) (o : rC h c z L) : agC c h (Uei h 68 c (b2i x)) ∧ rC (Uei h 68 c (b2i x)) c (c_fo_ z x) L := by
  refine rC_set (by decide) o (fun B y hB hy => ?_) (fun y hy => ?_) (c_cp_fo ..) (fun q => Or.inl ⟨q, c_pa_fo ..⟩) (fun q => Or.inl ⟨q, c_lf_fo ..⟩)
  · rw [← hy]; unfold rv; simp only [c_cp_fo, c_hi_fo, c_jb_fo, c_st_fo, c_fu_fo, c_go_fo, c_fr_fo, c_up_fo, c_wa_fo, c_re_fo, c_fo_fo, c_op_fo, c_an_fo, c_sg_fo, c_pa_fo, c_lf_fo, hB, if_false]
  · unfold rv at hy
    by_cases q : 2 ≤ L
    · simp [q, c_fo_fo] at hy; exact hy.symm
    · simp [q] at hy
theorem rs_hi (x : Nat) (o : rC h c z L) : agC c h (Uei h 59 c (Int32.ofNat x)) ∧ rC (Uei h 59 c (Int32.ofNat x)) c (c_hi_ z x) L := by
  refine rC_set (by decide) o (fun B y hB hy => ?_) (fun y hy => ?_) (c_cp_hi ..) (fun q => Or.inl ⟨q, c_pa_hi ..⟩) (fun q => Or.inl ⟨q, c_lf_hi ..⟩)
  · rw [← hy]; unfold rv; simp only [c_cp_hi, c_hi_hi, c_jb_hi, c_st_hi, c_fu_hi, c_go_hi, c_fr_hi, c_up_hi, c_wa_hi, c_re_hi, c_fo_hi, c_op_hi, c_an_hi, c_sg_hi, c_pa_hi, c_lf_hi, hB, if_false]
  · unfold rv at hy; simp [c_hi_hi] at hy; exact hy.symm
theorem rs_fu (x : Int32) (s : ¬ c_st z = 0) (o : rC h c z L) : agC c h (Uei h 62 c x) ∧ rC (Uei h 62 c x) c (c_fu_ z x) L := by
  refine rC_set (by decide) o (fun B y hB hy => ?_) (fun y hy => ?_) (c_cp_fu ..) (fun q => Or.inl ⟨q, c_pa_fu ..⟩) (fun q => Or.inl ⟨q, c_lf_fu ..⟩)
  · rw [← hy]; unfold rv; simp only [c_cp_fu, c_hi_fu, c_jb_fu, c_st_fu, c_fu_fu, c_go_fu, c_fr_fu, c_up_fu, c_wa_fu, c_re_fu, c_fo_fu, c_op_fu, c_an_fu, c_sg_fu, c_pa_fu, c_lf_fu, hB, if_false]
  · unfold rv at hy; simp [c_fu_fu, c_st_fu, s] at hy; exact hy.symm
/-- the state becomes another than running: level goes down -/
theorem rs_st (x : Int32) (s : ¬ c_st z = 0) (hx : ¬ x = 0) (o : rC h c z L) : agC c h (Uei h 61 c x) ∧ rC (Uei h 61 c x) c (c_st_ z x) L := by
  refine rC_set (by decide) o (fun B y hB hy => ?_) (fun y hy => ?_) (c_cp_st ..) (fun q => Or.inl ⟨q, c_pa_st ..⟩) (fun q => Or.inl ⟨q, c_lf_st ..⟩)
  · rw [← hy]; unfold rv; simp only [c_cp_st, c_hi_st, c_jb_st, c_st_st, c_fu_st, c_go_st, c_fr_st, c_up_st, c_wa_st, c_re_st, c_fo_st, c_op_st, c_an_st, c_sg_st, c_pa_st, c_lf_st, hB, if_false, s, hx]
  · unfold rv at hy; simp [c_st_st] at hy; exact hy.symm
/-- open becomes 0 -/
theorem rs_op0 (o : rC h c z L) : agC c h (Uei h 69 c 0) ∧ rC (Uei h 69 c 0) c (c_op_ z 0) L := by
  refine rC_set (by decide) o (fun B y hB hy => ?_) (fun y hy => ?_) (c_cp_op ..) (fun q => Or.inl ⟨q, c_pa_op ..⟩) (fun q => Or.inl ⟨q, c_lf_op ..⟩)
  · by_cases b0 : B = 70
    · subst b0; unfold rv at hy; simp [c_op_op] at hy
    · by_cases b1 : B = 71
      · subst b1; unfold rv at hy; simp [c_op_op] at hy
      · rw [← hy]; unfold rv; simp only [c_cp_op, c_hi_op, c_jb_op, c_st_op, c_fu_op, c_go_op, c_fr_op, c_up_op, c_wa_op, c_re_op, c_fo_op, c_op_op, c_an_op, c_sg_op, c_pa_op, c_lf_op, hB, b0, b1, if_false]
  · unfold rv at hy; simp [c_op_op] at hy; exact hy.symm
/-- an answer -/
theorem rs_an (an : Nat → Bool) (o : rC h c z L) : agC c h (Uei h 70 c (amask an)) ∧ rC (Uei h 70 c (amask an)) c (c_an_ z an) L := by
  refine rC_set (by decide) o (fun B y hB hy => ?_) (fun y hy => ?_) (c_cp_an ..) (fun q => Or.inl ⟨q, c_pa_an ..⟩) (fun q => Or.inl ⟨q, c_lf_an ..⟩)
  · rw [← hy]; unfold rv; simp only [c_cp_an, c_hi_an, c_jb_an, c_st_an, c_fu_an, c_go_an, c_fr_an, c_up_an, c_wa_an, c_re_an, c_fo_an, c_op_an, c_an_an, c_sg_an, c_pa_an, c_lf_an, hB, if_false]
  · unfold rv at hy
    by_cases q : c_op z = 0
    · simp [c_op_an, q] at hy
    · simp [c_op_an, c_an_an, q] at hy; exact hy.symm
/-- leaves become none -/
theorem rs_lf0 (s : ¬ c_st z = 0) (o : rC h c z L) : agC c h (Uei h 74 c 0) ∧ rC (Uei h 74 c 0) c (c_lf_ z []) L := by
  refine rC_set (by decide) o (fun B y hB hy => ?_) (fun y hy => ?_) (c_cp_lf ..) (fun q => Or.inl ⟨q, c_pa_lf ..⟩) (fun q => Or.inr (c_lf_lf ..))
  · rw [← hy]; unfold rv; simp only [c_cp_lf, c_hi_lf, c_jb_lf, c_st_lf, c_fu_lf, c_go_lf, c_fr_lf, c_up_lf, c_wa_lf, c_re_lf, c_fo_lf, c_op_lf, c_an_lf, c_sg_lf, c_pa_lf, c_lf_lf, hB, if_false]
  · unfold rv at hy
    by_cases q : 1 ≤ L
    · simp [c_st_lf, c_lf_lf, q, s] at hy; exact hy.symm
    · simp [c_st_lf, q, s] at hy
/-- the path becomes empty -/
theorem rs_pa0 (o : rC h c z L) (hL : 2 ≤ L) : agC c h (Uei h 73 c 0) ∧ rC (Uei h 73 c 0) c (c_pa_ z []) 3 := by
  refine rC_set (by decide) o (fun B y hB hy => ?_) (fun y hy => ?_) (c_cp_pa ..) (fun q => Or.inr (c_pa_pa ..)) (fun q => Or.inl ⟨hL, c_lf_pa ..⟩)
  · rw [← hy]; unfold rv; simp only [c_cp_pa, c_hi_pa, c_jb_pa, c_st_pa, c_fu_pa, c_go_pa, c_fr_pa, c_up_pa, c_wa_pa, c_re_pa, c_fo_pa, c_op_pa, c_an_pa, c_sg_pa, c_pa_pa, c_lf_pa, hB, if_false, hL, if_true, show 2 ≤ 3 from by decide, show 1 ≤ 3 from by decide, show 1 ≤ L from by omega]
  · unfold rv at hy; simp [c_pa_pa] at hy; exact hy.symm
end RSET
