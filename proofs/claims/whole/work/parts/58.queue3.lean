/-! Messages under way: add, send, remove. -/
theorem getD_app_lt {ms : List zM} {M : zM} {i : Nat} (h : i < ms.length) : (ms ++ [M]).getD i zm0 = ms.getD i zm0 := by
  rw [List.getD_eq_getElem?_getD, List.getD_eq_getElem?_getD, List.getElem?_append_left h]
theorem getD_app_eq {ms : List zM} {M : zM} : (ms ++ [M]).getD ms.length zm0 = M := by
  rw [List.getD_eq_getElem?_getD, List.getElem?_append_right (Nat.le_refl _)]; simp
section QU3
variable {h h0 h1 h2 : xv_H} {F f x y c t m n K ed : Nat} {T : zT} {ms : List zM} {M : zM} {Xf : Nat → Nat → Prop} {Xa : Nat → Prop}
/-- the end of an add -/
theorem c56_end {Q : Unit → xv_H → Prop} (o : kR h T ms ed) (h40 : ms.length < 40) (hl : ms.length < Hl h ed) (oM : okM h T x M) (k : ∀ h', ext 0 XfQ (isQ h) h h' → kQ h' T (ms ++ [M]) → Q () h') : tot (b56_11 F (some 35) (some x) (some ed) (Int32.ofNat ms.length)) h Q := by
  obtain ⟨o1, o2, o3, o4, r⟩ := o
  obtain ⟨r0, r1, r2, r3, r4, r5⟩ := id r
  unfold b56_11
  rw [nn_some, mb_mr]
  refine tot_bind (ok_sr r1 (i_nn (by omega)) (by rw [i_nat (by omega)]; exact hl) (fun b e => by cases e; exact oM.1)) ?_
  rw [i_nat (by omega)]
  have E1 : ext 0 XfQ (isQ h) h (Uer h ed ms.length (some x)) := ext_er ⟨r0, r1.2.2⟩
  have w : ∀ i, Her (Uer h ed ms.length (some x)) ed i = if i = ms.length then some x else Her h ed i := by
    intro i
    rw [Her_Uer]
    by_cases q : i = ms.length
    · rw [if_pos ⟨rfl, q⟩, if_pos q]
    · rw [if_neg (fun z => q z.2), if_neg q]
  have w1 : Hfr (Uer h ed ms.length (some x)) 1000 35 = Hfr h 1000 35 := by rw [Hfr_Uer]
  generalize Uer h ed ms.length (some x) = h1 at *
  rw [nn_some, mb_mr]
  refine tot_bind (ok_pi (lv_ext E1 o1)) (tot_mr ?_)
  rw [i_add1]
  have E2 : ext 0 XfQ (isQ h) h (Ufi h1 1001 35 (Int32.ofNat (ms.length + 1))) := ext_fiS E1 (Or.inl ⟨rfl, by decide⟩)
  have v1 : Hfi (Ufi h1 1001 35 (Int32.ofNat (ms.length + 1))) 1001 35 = Int32.ofNat (ms.length + 1) := by rw [Hfi_Ufi, if_pos ⟨rfl, rfl⟩]
  have v2 : Hfr (Ufi h1 1001 35 (Int32.ofNat (ms.length + 1))) 1000 35 = some ed := by rw [Hfr_Ufi, w1, o4]
  have v3 : ∀ i, Her (Ufi h1 1001 35 (Int32.ofNat (ms.length + 1))) ed i = if i = ms.length then some x else Her h ed i := by intro i; rw [Her_Ufi]; exact w i
  generalize Ufi h1 1001 35 (Int32.ofNat (ms.length + 1)) = h2 at *
  have hlen : (ms ++ [M]).length = ms.length + 1 := by rw [List.length_append]; rfl
  have el := (E2.2.1 _ r1.1).2
  refine k h2 E2 ⟨lv_ext E2 o1, by rw [hlen]; exact v1, by omega, Or.inr ⟨ed, v2, r0, lv_ext E2 r1, by rw [hlen, el]; omega, by rw [el]; exact r3, by rw [el]; exact r4, fun i hi => ?_⟩⟩
  rw [hlen] at hi
  rw [v3]
  by_cases q : i = ms.length
  · subst q
    rw [if_pos rfl, getD_app_eq]
    exact ⟨x, rfl, okM_c E2 calmQ oM⟩
  · rw [if_neg q, getD_app_lt (by omega)]
    obtain ⟨y, y1, oy⟩ := r5 i (by omega)
    exact ⟨y, y1, okM_c E2 calmQ oy⟩
theorem c55_tot (o : kQ h T ms) (g : hb 10 h) (h40 : ms.length < 40) (oM : okM h T x M) : tot (m55 F 35 (some x)) h (fun _ h' => ext 1 XfQ (isQ h) h h' ∧ kQ h' T (ms ++ [M])) := by
  unfold m55 b55_0
  rw [nn_some, mb_mr]
  refine tot_bind (ok_gi o.1) (tot_bind (ok_pi o.1) ?_)
  have E1 : ext 0 (fun f a => a = 35 ∧ f = 1002) Xa0 h (Ufi h 1002 35 (Hfi h 1002 35 + 1)) := ext_fi ⟨rfl, rfl⟩
  have o1 : kQ (Ufi h 1002 35 (Hfi h 1002 35 + 1)) T ms := by
    obtain ⟨p1, p2, p3, p4⟩ := o
    have cm : calm h (fun f a => a = 35 ∧ f = 1002) Xa0 := ⟨fun f a f1 f2 q => by omega, fun _ _ _ q => q⟩
    refine ⟨lv_ext E1 p1, by rw [Hfi_Ufi, if_neg (by omega)]; exact p2, p3, ?_⟩
    rw [Hfr_Ufi]
    rcases p4 with ⟨e, q⟩ | ⟨ed, q, r⟩
    · exact Or.inl ⟨e, q⟩
    · exact Or.inr ⟨ed, q, qRow_c E1 cm (fun q => q) r⟩
  have oM1 := okM_c E1 ⟨fun f a f1 f2 q => by omega, fun _ _ _ q => q⟩ oM
  generalize Ufi h 1002 35 (Hfi h 1002 35 + 1) = h1 at *
  have E1' : ext 0 XfQ (isQ h) h h1 := ext_mono E1 (Nat.le_refl 0) (fun f a q => ⟨q.1, by omega⟩) (fun _ q => q.elim)
  obtain ⟨p1, p2, p3, p4⟩ := id o1
  refine tot_bind (ok_gr p1) (tot_bind (by rw [ok_gi p1, p2]) (tot_bind (ok_vc p1) ?_))
  unfold m56 b56_0
  have fin : ∀ (r : Unit) (h' : xv_H), ext 1 XfQ (isQ h) h h' ∧ kQ h' T (ms ++ [M]) → tot (mb (bz (1 : Int32)) fun _ => mr (1 : Int32)) h' (fun _ h' => ext 1 XfQ (isQ h) h h' ∧ kQ h' T (ms ++ [M])) := fun _ h' q => tot_bind bz_1 (tot_mr q)
  refine tot_mb (Q1 := fun _ h' => ext 1 XfQ (isQ h) h h' ∧ kQ h' T (ms ++ [M])) ?_ fin
  rcases p4 with ⟨rfl, q⟩ | ⟨ed, q, r⟩
  · rw [q, nn_some, mb_mr]
    refine tot_bind len_SB2 ?_
    rw [if_neg (fun z => z rfl)]
    unfold b56_6
    rw [nn_some, mb_mr]
    refine tot_bind (ok_vc p1) (tot_mb (c57_tot o1 (hb_ext (K := 0) E1' (hb_le g (by decide))) (by decide) (fun _ _ => Or.inl rfl) (fun _ => q)) (fun r2 h2 q2 => ?_))
    obtain ⟨ed, rfl, E2, o2, hl⟩ := q2
    have E12 : ext 1 XfQ (isQ h) h h2 := ext_Q (k1 := 0) (k2 := 1) E1' E2
    exact c56_end o2 h40 hl (okM_c E12 calmQ oM) (fun h' E o => ⟨ext_Q (k1 := 1) (k2 := 0) E12 E, o⟩)
  · rw [q, nn_some, mb_mr]
    refine tot_bind (ok_len r.2.1) ?_
    have h60 := r.2.2.2.2.1
    by_cases qe : ms.length = Hl h1 ed
    · rw [if_neg (fun z => z (by rw [qe]))]
      unfold b56_6
      rw [nn_some, mb_mr]
      refine tot_bind (ok_vc p1) (tot_mb (c57_tot o1 (hb_ext (K := 0) E1' (hb_le g (by decide))) h40 (fun e h => ?_) (fun z => ?_)) (fun r2 h2 q2 => ?_))
      · rw [q] at h; cases h; exact Or.inr qe
      · have := r.2.2.2.1; rw [z] at qe; rw [← qe] at this; exact absurd this (by decide)
      obtain ⟨ed, rfl, E2, o2, hl⟩ := q2
      have E12 : ext 1 XfQ (isQ h) h h2 := ext_Q (k1 := 0) (k2 := 1) E1' E2
      exact c56_end o2 h40 hl (okM_c E12 calmQ oM) (fun h' E o => ⟨ext_Q (k1 := 1) (k2 := 0) E12 E, o⟩)
    · rw [if_pos (fun z => qe ((i_eq (by omega) (by omega)).mp z))]
      refine c56_end ⟨p1, p2, p3, q, r⟩ h40 (by have := r.2.2.1; omega) oM1 (fun h' E o => ⟨ext_le (ext_Q (k1 := 0) (k2 := 0) E1' E) (by decide), o⟩)
/-- send, given the tree's field -/
theorem c52_tot {s : Option Nat} (o : kQ h T ms) (lT : lv h 0 0) (fT : Hfr h 2 0 = some 35) (g : hb 20 h) (ho : okO h s M.2.2.2) : tot (m52 F 0 M.1 (some (T M.2.1)) (Int32.ofNat M.2.2.1) s) h (fun _ h' => ext 2 XfQ (isQ h) h h' ∧ kQ h' T (snd_ ms M)) := by
  have G : gr 2 0 h = some (some 35, h) := by rw [ok_gr lT, fT]
  have hsb := g.2
  have h40 := o.2.2.1
  unfold m52 b52_0 snd_
  rw [nn_some, mb_mr]
  refine tot_bind G ?_
  rw [nn_some, mb_mr]
  refine tot_bind (ok_vc o.1) (tot_bind (c53_eq o) ?_)
  rw [show (40 : Int32) = Int32.ofNat 40 from rfl]
  by_cases q : ms.length < 40
  · rw [if_neg (by rw [i_le (by decide) (by omega)]; omega), if_pos q]
    unfold b52_12
    rw [nn_some, mb_mr]
    refine tot_bind G (tot_bind ok_nw ?_)
    have E0 : ext 1 Xf0 Xa0 h (Unw h 8 0 4) := ext_nw (by decide)
    have ly : lv (Unw h 8 0 4) (Hn h) 8 := lv_Unw (by rw [SB_val]; omega)
    generalize Unw h 8 0 4 = h1 at *
    refine tot_mb (c54_tot (T := T) (k := 0) ly rfl (okO_c E0 calm0 ho)) (fun _ h2 q2 => ?_)
    obtain ⟨E2, oM⟩ := q2
    have E02 : ext 1 Xf0 Xa0 h h2 := ext_trS (k1 := 1) (k2 := 0) E0 E2 (fun f a z => Or.inr (by rw [z.1]; exact Nat.le_refl _)) (fun _ z => Or.inl z)
    have o2 : kQ h2 T ms := kQ_c E02 calm0 (fun _ _ q => q) (fun _ _ q => q) o
    rw [nn_some, mb_mr]
    refine tot_bind (ok_vc o2.1) (tot_mb (c55_tot o2 (hb_ext (K := 1) E02 (hb_le g (by decide))) q oM) (fun _ h3 q3 => ?_))
    exact tot_mr ⟨ext_Q (k1 := 1) (k2 := 1) (ext_any E02) q3.1, q3.2⟩
  · rw [if_pos (by rw [i_le (by decide) (by omega)]; omega), if_neg q]
    exact tot_mr ⟨ext_le ext_refl (by decide), o⟩
end QU3
