/-! Messages under way: add, remove. -/
theorem q_grow : ∀ L, L < 41 → 10 ≤ L → (Int32.ofNat L + (if Int32.ofNat L + 1 - Int32.ofNat L < Int32.ofNat L >>> ((1 : Int32) &&& 31) then Int32.ofNat L >>> ((1 : Int32) &&& 31) else Int32.ofNat L + 1 - Int32.ofNat L)) = Int32.ofNat (L + L / 2) := by decide
theorem q_pos : ∀ L, L < 41 → 10 ≤ L → ¬ Int32.ofNat (L + L / 2) ≤ (0 : Int32) ∧ ¬ (2147483639 : Int32) < Int32.ofNat (L + L / 2) ∧ ¬ Int32.ofNat (L + L / 2) < Int32.ofNat L ∧ 0 < Int32.ofNat L := by decide
section QU2
variable {h h0 h1 h2 : xv_H} {F f x y c t m n K ed : Nat} {T : zT} {ms : List zM} {M : zM} {Xf : Nat → Nat → Prop} {Xa : Nat → Prop}
theorem len_SB2 : len 109 1 (xv_SB + 2) h = some (0, h) := by
  unfold len
  rw [if_pos ⟨by decide, rfl, rfl⟩]
theorem c59_eq {L : Nat} (hL : L < 41) (h10 : 10 ≤ L) : m59 F (Int32.ofNat L) (Int32.ofNat L + 1 - Int32.ofNat L) (Int32.ofNat L >>> ((1 : Int32) &&& 31)) h = some (Int32.ofNat (L + L / 2), h) := by
  obtain ⟨q1, q2, _⟩ := q_pos L hL h10
  unfold m59 b59_0
  rw [q_grow L hL h10, if_neg q1]
  unfold b59_13
  rw [if_neg q2]; rfl
/-- a list that has a row -/
def kR (h : xv_H) (T : zT) (ms : List zM) (ed : Nat) : Prop := lv h 35 10 ∧ Hfi h 1001 35 = Int32.ofNat ms.length ∧ ms.length ≤ 40 ∧ Hfr h 1000 35 = some ed ∧ qRow h T ms ed
theorem kR_Q (o : kR h T ms ed) : kQ h T ms := ⟨o.1, o.2.1, o.2.2.1, Or.inr ⟨ed, o.2.2.2⟩⟩
theorem isQ_ext (E : ext K Xf Xa h h1) {a : Nat} (ha : isQ h1 a) : isQ h a ∨ Hn h ≤ a := by
  by_cases q : a < Hn h
  · exact Or.inl ⟨ha.1, (E.2.1 a q).1.symm.trans ha.2⟩
  · exact Or.inr (by omega)
theorem ext_Q {k1 k2 : Nat} (E : ext k1 XfQ (isQ h) h h1) (E2 : ext k2 XfQ (isQ h1) h1 h2) : ext (k1 + k2) XfQ (isQ h) h h2 := ext_trS E E2 (fun _ _ q => Or.inl q) (fun _ q => isQ_ext E q)
theorem c57_tot (o : kQ h T ms) (g : hb 10 h) (h40 : ms.length < 40) (hfull : ∀ ed, Hfr h 1000 35 = some ed → ms = [] ∨ ms.length = Hl h ed) (h0' : ms = [] → Hfr h 1000 35 = some (xv_SB + 2)) : tot (m57 F 35) h (fun r h' => ∃ ed, r = some ed ∧ ext 1 XfQ (isQ h) h h' ∧ kR h' T ms ed ∧ ms.length < Hl h' ed) := by
  obtain ⟨o1, o2, o3, o4⟩ := id o
  have hsb := g.2
  unfold m57 b57_0
  rw [nn_some, mb_mr]
  refine tot_bind (by rw [ok_gi o1, o2]) (tot_bind (ok_vc o1) ?_)
  unfold m58 b58_0
  rcases o4 with ⟨rfl, q⟩ | ⟨ed, q, r⟩
  · rw [nn_some, mb_mr]
    have G : gr 1000 35 h = some (some (xv_SB + 2), h) := by rw [ok_gr o1, q]
    refine tot_mb (Q1 := fun r h' => ∃ ed, r = some ed ∧ ext 1 XfQ (isQ h) h h' ∧ kR h' T [] ed ∧ ([] : List zM).length < Hl h' ed) (tot_bind G ?_) (fun r h' q => tot_mr q)
    rw [nn_some, mb_mr]
    refine tot_bind len_SB2 ?_
    rw [if_neg (by decide)]
    unfold b58_10
    rw [nn_some, mb_mr]
    refine tot_bind G (tot_bind (show cq (some (xv_SB + 2)) (some (xv_SB + 2)) h = some ((), h) by unfold cq xv_cok; rw [if_pos (by decide)]) ?_)
    rw [if_pos rfl]
    unfold b58_45
    have e10 : (if (10 : Int32) < Int32.ofNat ([] : List zM).length + 1 then Int32.ofNat ([] : List zM).length + 1 else (10 : Int32)) = Int32.ofNat 10 := by decide
    rw [e10]
    refine tot_bind (ok_na (by decide) (by decide)) ?_
    rw [i_nat (by decide)]
    have E0 : ext 1 Xf0 Xa0 h (Unw h 109 10 10) := ext_nw (by decide)
    have ly : lv (Unw h 109 10 10) (Hn h) 109 := lv_Unw (by rw [SB_val]; omega)
    have hl : Hl (Unw h 109 10 10) (Hn h) = 10 := by rw [Hl_Unw, if_pos rfl]
    generalize Unw h 109 10 10 = h1 at *
    rw [nn_some, mb_mr]
    refine tot_bind (ok_pr (lv_ext E0 o1)) ?_
    have E1 : ext 0 XfQ Xa0 h1 (Ufr h1 1000 35 (some (Hn h))) := ext_fr ⟨rfl, by decide⟩
    have w : Hfr (Ufr h1 1000 35 (some (Hn h))) 1000 35 = some (Hn h) := by rw [Hfr_Ufr, if_pos ⟨rfl, rfl⟩]
    have w2 : Hfi (Ufr h1 1000 35 (some (Hn h))) 1001 35 = Hfi h1 1001 35 := by rw [Hfi_Ufr]
    generalize Ufr h1 1000 35 (some (Hn h)) = h2 at *
    have E : ext 1 XfQ (isQ h) h h2 := ext_trS (k1 := 1) (k2 := 0) (ext_any E0) E1 (fun _ _ q => Or.inl q) (fun _ q => q.elim)
    refine tot_mr ⟨Hn h, rfl, E, ⟨lv_ext E o1, ?_, o3, w, g.1, lv_ext E1 ly, by show 0 ≤ _; omega, ?_, ?_, fun i hi => by cases hi⟩, ?_⟩
    · rw [w2, (E0.2.2.1 _ _ o1.1 (fun q => q)).2]; exact o2
    · rw [(E1.2.1 _ ly.1).2, hl]; decide
    · rw [(E1.2.1 _ ly.1).2, hl]; decide
    · rw [(E1.2.1 _ ly.1).2, hl]; decide
  · obtain ⟨r0, r1, r2, r3, r4, r5⟩ := id r
    have hL : ms.length = Hl h ed := by
      rcases hfull ed q with rfl | e
      · have := h0' rfl
        rw [q] at this
        injection this with this
        have := r1.2.1
        omega
      · exact e
    have G : gr 1000 35 h = some (some ed, h) := by rw [ok_gr o1, q]
    obtain ⟨p1, p2, p3, p4⟩ := q_pos (Hl h ed) (by omega) r3
    rw [nn_some, mb_mr]
    refine tot_mb (Q1 := fun r h' => ∃ ed, r = some ed ∧ ext 1 XfQ (isQ h) h h' ∧ kR h' T ms ed ∧ ms.length < Hl h' ed) (tot_bind G ?_) (fun r h' q => tot_mr q)
    rw [nn_some, mb_mr]
    refine tot_bind (ok_len r1) ?_
    rw [if_pos p4]
    unfold b58_20
    rw [hL]
    refine tot_bind (c59_eq (by omega) r3) ?_
    rw [nn_some, mb_mr]
    refine tot_bind G ?_
    unfold m61 b61_0
    rw [nn_some, mb_mr]
    refine tot_mb (Q1 := fun r h' => r = some (Hn h) ∧ ext 1 Xf0 Xa0 h h' ∧ qRow h' T ms (Hn h) ∧ ms.length < Hl h' (Hn h)) (tot_bind (ok_gc r1) ?_) (fun r h' q2 => ?_)
    · unfold m62 b62_0
      refine tot_mb (Q1 := fun r h' => r = some (Hn h) ∧ ext 1 Xf0 Xa0 h h' ∧ qRow h' T ms (Hn h) ∧ ms.length < Hl h' (Hn h)) (tot_bind (show cq (some (xv_SB + 1)) (some (xv_SB + 1)) h = some ((), h) by unfold cq xv_cok; rw [if_pos (by decide)]) ?_) (fun r h' q => tot_mr q)
      rw [if_neg (fun z => z rfl)]
      unfold b62_6
      refine tot_bind (ok_na (i_nn (by omega)) (by rw [i_nat (by omega)]; omega)) ?_
      rw [i_nat (by omega)]
      have E0 : ext 1 Xf0 Xa0 h (Unw h 109 (Hl h ed + Hl h ed / 2) (Hl h ed + Hl h ed / 2)) := ext_nw (by omega)
      have ly : lv (Unw h 109 (Hl h ed + Hl h ed / 2) (Hl h ed + Hl h ed / 2)) (Hn h) 109 := lv_Unw (by rw [SB_val]; omega)
      have hl : Hl (Unw h 109 (Hl h ed + Hl h ed / 2) (Hl h ed + Hl h ed / 2)) (Hn h) = Hl h ed + Hl h ed / 2 := by rw [Hl_Unw, if_pos rfl]
      generalize Unw h 109 (Hl h ed + Hl h ed / 2) (Hl h ed + Hl h ed / 2) = h1 at *
      have hle : Hl h1 ed = Hl h ed := (E0.2.1 _ r1.1).2
      unfold b62_24
      rw [nn_some, mb_mr]
      refine tot_bind (ok_len (lv_ext E0 r1)) ?_
      rw [hle, if_neg p3, nn_some, mb_mr]
      have er : ∀ i, Her h1 ed i = Her h ed i := fun i => (E0.2.2.2 ed i r1.1 (fun q => q)).1
      refine tot_bind (ok_cyr (by decide) (lv_ext E0 r1) ly (by decide) (by decide) (i_nn (by omega)) ?_ ?_ ?_) ?_
      · rw [i_nat (by omega)]; show 0 + _ ≤ _; omega
      · rw [i_nat (by omega), hl]; show 0 + _ ≤ _; omega
      · intro i hi b hb
        rw [i_nat (by omega)] at hi
        have e0 : (0 : Int32).toNatClampNeg + i = i := by show 0 + i = i; omega
        rw [e0, er] at hb
        obtain ⟨x, x1, x2⟩ := r5 i (by omega)
        rw [x1] at hb
        cases hb
        exact lv_ext E0 x2.1
      rw [i_nat (by omega)]
      have z0 : (0 : Int32).toNatClampNeg = 0 := by decide
      rw [z0]
      have E2 : ext 1 Xf0 Xa0 h (Ucr h1 ed 0 (Hn h) 0 (Hl h ed)) := ext_crS E0 (Or.inr (Nat.le_refl _))
      have w : ∀ i, i < Hl h ed → Her (Ucr h1 ed 0 (Hn h) 0 (Hl h ed)) (Hn h) i = Her h1 ed i := by
        intro i hi
        rw [Her_Ucr, if_pos ⟨rfl, by omega, by omega⟩]
        congr 1
        omega
      have wl : Hl (Ucr h1 ed 0 (Hn h) 0 (Hl h ed)) (Hn h) = Hl h ed + Hl h ed / 2 := hl
      have wt : lv (Ucr h1 ed 0 (Hn h) 0 (Hl h ed)) (Hn h) 109 := ly
      generalize Ucr h1 ed 0 (Hn h) 0 (Hl h ed) = h2 at *
      refine tot_mr ⟨rfl, E2, ⟨g.1, wt, by omega, by omega, by omega, fun i hi => ?_⟩, by omega⟩
      obtain ⟨x, x1, x2⟩ := r5 i hi
      exact ⟨x, by rw [w i (by omega), er]; exact x1, okM_c E2 calm0 x2⟩
    · obtain ⟨rfl, E, qr, ql⟩ := q2
      refine tot_bind (ok_pr (lv_ext E o1)) ?_
      have E1 : ext 0 XfQ Xa0 h' (Ufr h' 1000 35 (some (Hn h))) := ext_fr ⟨rfl, by decide⟩
      have w : Hfr (Ufr h' 1000 35 (some (Hn h))) 1000 35 = some (Hn h) := by rw [Hfr_Ufr, if_pos ⟨rfl, rfl⟩]
      have w2 : Hfi (Ufr h' 1000 35 (some (Hn h))) 1001 35 = Hfi h' 1001 35 := by rw [Hfi_Ufr]
      generalize Ufr h' 1000 35 (some (Hn h)) = h2 at *
      have E3 : ext 1 XfQ (isQ h) h h2 := ext_trS (k1 := 1) (k2 := 0) (ext_any E) E1 (fun _ _ q => Or.inl q) (fun _ q => q.elim)
      have cm : calm h' XfQ Xa0 := ⟨(calmQ (h := h)).1, fun _ _ _ q => q⟩
      refine tot_mr ⟨Hn h, rfl, E3, ⟨lv_ext E3 o1, ?_, o3, w, qRow_c E1 cm (fun q => q) qr⟩, ?_⟩
      · rw [w2, (E.2.2.1 _ _ o1.1 (fun q => q)).2]; exact o2
      · rw [(E1.2.1 _ qr.2.1.1).2]; omega
end QU2
