/-! Each side's state under the other side's steps. -/
section LAWA
variable {h h1 : xv_H} {K n c L : Nat} {T : zT} {S : zS} {P : List zI}
theorem sfR : sf h (fun f a => a = 37 ∧ 900 ≤ f) (fun a => 37 < a ∧ a < 77) :=
  ⟨⟨fun f a f1 f2 q => by omega, fun a i _ q => by unfold im at i; omega⟩, fun f b f1 f2 q => by omega, fun a a1 _ q => by omega⟩
theorem CR_R (e : agR h h1) (w : opOK S) (o : CR h S T) : CR h1 S T := by
  have E := ag_ext e
  obtain ⟨o1, o2, o3, o4, o5, o6⟩ := id o
  have sk := sfR (h := h)
  refine ⟨?_, ?_, ?_, ?_, ?_, ?_⟩
  · exact kT_c E (fun f hf q => by omega) ⟨by omega, by omega⟩ o1
  · intro m hm
    exact kM_c E sk.1 (fun f hf q => by omega) ⟨by omega, by omega, by omega⟩ (o2 m hm)
  · intro d hd
    exact kK_c (ti := s_ti S) E sk (fun f b hb hf q => by omega) (fun b b1 b2 => by omega) (cr_hx o w hd) (o3 d hd)
  · exact kB_c E (by omega) o4
  · exact kX_c E sk o5
  · exact kQ_c E sk.1 (fun f hf q => by omega) (fun a ha q => by have := ha.1; omega) o6
/-- the reference's rows under the class's steps -/
theorem gq_n (o : rF h) : 76 < Hn h := (e76 o).1.1
theorem gq_e {A i : Nat} (e : gw K h h1) (o : rF h) (a1 : 37 < A) (a2 : A < 77) : Hei h1 A i = Hei h A i ∧ Hel h1 A i = Hel h A i := by
  have := gq_n o
  exact (e.2.2.2 A i (by omega) (by omega)).2
theorem gq_f {f : Nat} (e : gw K h h1) (o : rF h) : Hfi h1 f 37 = Hfi h f 37 := by
  have := gq_n o
  exact (e.2.2.1 f 37 (by omega) (by omega)).2
theorem rtab_in : ∀ x, x ∈ rtab → 37 < x.2.1 ∧ x.2.1 < 77 := by decide
theorem gq_rF (e : gw K h h1) (o : rF h) : rF h1 := by
  have hn := gq_n o
  refine ⟨lv_ext e o.1, fun x hx => ?_⟩
  obtain ⟨q1, q2, q3⟩ := o.2 x hx
  have := rtab_in x hx
  exact ⟨(e.2.2.1 x.1 37 (by omega) (by omega)).1.trans q1, lv_ext e q2, (e.2.1 _ (by omega)).2.trans q3⟩
theorem okIt_g {p : Nat} {it : zI} (e : gw K h h1) (o : rF h) (q : okIt h p it) : okIt h1 p it := by
  unfold okIt
  rw [(gq_e e o (A := 46) (by decide) (by decide)).1, (gq_e e o (A := 47) (by decide) (by decide)).1, (gq_e e o (A := 48) (by decide) (by decide)).1, (gq_e e o (A := 49) (by decide) (by decide)).2, (gq_e e o (A := 50) (i := 3 * p) (by decide) (by decide)).1, (gq_e e o (A := 50) (i := 3 * p + 1) (by decide) (by decide)).1, (gq_e e o (A := 50) (i := 3 * p + 2) (by decide) (by decide)).1]
  exact q
theorem rC_g {d : Nat} {z : zC} (e : gw K h h1) (o : rF h) (q : rC h d z L) : rC h1 d z L := by
  obtain ⟨o1, o2, o3, o4⟩ := q
  refine ⟨fun A x hx => ?_, fun a ha => ?_, fun hL => ⟨(o3 hL).1, fun i hi => ?_⟩, fun hL => ⟨(o4 hL).1, fun i hi => ?_⟩⟩
  · have := rv_row hx
    rw [(gq_e e o (by omega) (by omega)).1]; exact o1 A x hx
  · have := o2 a ha
    unfold rcp at *
    rw [(gq_e e o (by decide) (by decide)).1, (gq_e e o (by decide) (by decide)).2]
    exact this
  · rw [(gq_e e o (by decide) (by decide)).1]; exact (o3 hL).2 i hi
  · rw [(gq_e e o (by decide) (by decide)).1, (gq_e e o (by decide) (by decide)).1]; exact (o4 hL).2 i hi
theorem RX_gw (e : gw K h h1) (q : RX h S n P c L) : RX h1 S n P c L := by
  obtain ⟨o, q2, q3, q4, q5, q6, q7, q8, q9⟩ := q
  refine ⟨gq_rF e o, fun p hp => ?_, fun a ha => ?_, ⟨?_, fun t t1 t2 => ?_⟩, ⟨?_, fun j hj => okIt_g e o (q5.2 j hj)⟩, fun t ht m hm => ?_, ⟨?_, q7.2.1, fun i hi => ?_⟩, rC_g e o q8, fun d hd hn => rC_g e o (q9 d hd hn)⟩
  · rw [(gq_e e o (by decide) (by decide)).1]; exact q2 p hp
  · rw [(gq_e e o (A := 40) (by decide) (by decide)).1, (gq_e e o (A := 39) (by decide) (by decide)).2, (gq_e e o (A := 41) (i := 3 * a) (by decide) (by decide)).1, (gq_e e o (A := 41) (i := 3 * a + 1) (by decide) (by decide)).1, (gq_e e o (A := 41) (i := 3 * a + 2) (by decide) (by decide)).1]
    exact q3 a ha
  · rw [gq_f e o]; exact q4.1
  · obtain ⟨o1, o2, f, o3, o4, o5⟩ := q4.2 t t1 t2
    exact ⟨by rw [(gq_e e o (by decide) (by decide)).1]; exact o1, by rw [(gq_e e o (by decide) (by decide)).1]; exact o2, f, by rw [(gq_e e o (by decide) (by decide)).1]; exact o3, o4, fun j hj => okIt_g e o (o5 j hj)⟩
  · rw [gq_f e o]; exact q5.1
  · rw [(gq_e e o (by decide) (by decide)).1]; exact q6 t ht m hm
  · rw [gq_f e o]; exact q7.1
  · have := q7.2.2 i hi
    unfold okMs at *
    rw [(gq_e e o (A := 51) (by decide) (by decide)).1, (gq_e e o (A := 52) (by decide) (by decide)).1, (gq_e e o (A := 53) (by decide) (by decide)).1, (gq_e e o (A := 54) (by decide) (by decide)).1, (gq_e e o (A := 55) (by decide) (by decide)).2, (gq_e e o (A := 56) (i := 3 * i) (by decide) (by decide)).1, (gq_e e o (A := 56) (i := 3 * i + 1) (by decide) (by decide)).1, (gq_e e o (A := 56) (i := 3 * i + 2) (by decide) (by decide)).1]
    exact this
theorem RR_g (e : gw K h h1) (q : RR h S) : RR h1 S := RX_gw e q
end LAWA
