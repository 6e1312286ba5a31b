/-! Transaction.include; a draft. -/
theorem i_div8 : ∀ a, a < 24 → Int32.ofNat a / 8 = Int32.ofNat (a / 8) := by decide
theorem i_mod8 : ∀ a, a < 24 → Int32.ofNat a - Int32.ofNat a / 8 * 8 = Int32.ofNat (a % 8) := by decide
theorem tp_app {its : List zI} {i : zI} {m : Nat} : tp (its ++ [i]) m = (tp its m || (i.2.1 / 8 == m)) := by
  unfold tp; rw [List.any_append]; simp
section INC
variable {h h1 h2 : xv_H} {b a F f x c t : Nat} {N : zN} {v : Int32 × zN} {its : List zI} {K : Nat} {Xf : Nat → Nat → Prop} {Xa : Nat → Prop} {i : zI} {an : Nat → Bool}
theorem c25_tot {w k : Option Nat} (o : okTx h x c t its) (h6 : its.length < 6) (ha : i.2.1 < 24) (hk : k = some (xv_SB + 6 + i.1.toNatClampNeg)) (ho : i.1 = 3 ∨ i.1 = 4 → ∃ n, w = some n ∧ okN h n i.2.2.2) (g : hb 5 h) : tot (m25 F x k (Int32.ofNat i.2.1) i.2.2.1 w) h (fun _ h' => ext 1 (fun f a => a = x ∧ f = 404) (fun a => a = x + 1 ∨ a = x + 2) h h' ∧ okTx h' x c t (its ++ [i])) := by
  obtain ⟨⟨p1, ⟨p2, p3⟩, ⟨p4, p5⟩, ⟨p6, p7⟩⟩, ⟨q1, q2, q3⟩, ⟨r1, r2, r3⟩, s1, s2, s3⟩ := o
  have hsb := g.2
  have G1 : gr 401 x h = some (some (x + 1), h) := by rw [ok_gr p1, q1]
  have G2 : gr 402 x h = some (some (x + 2), h) := by rw [ok_gr p1, q2]
  have G4 : gi 404 x h = some (Int32.ofNat its.length, h) := by rw [ok_gi p1, r2]
  unfold m25 b25_0
  rw [nn_some, mb_mr]
  refine tot_bind G4 (tot_bind G1 ?_)
  rw [nn_some, mb_mr]
  refine tot_bind (ok_lenV p2 p3) ?_
  rw [if_neg (fun z => by rw [i_le (by omega) (by omega)] at z; omega)]
  unfold b25_12
  rw [nn_some, mb_mr]
  refine tot_bind G1 (tot_bind G4 (tot_bind ok_nw ?_))
  have E0 : ext 1 Xf0 Xa0 h (Unw h 5 0 4) := ext_nw (by decide)
  have ly : lv (Unw h 5 0 4) (Hn h) 5 := lv_Unw (by rw [SB_val]; omega)
  refine tot_mb (c26_tot (i := i) ly hk (fun z => ?_)) (fun _ h1 z1 => ?_)
  · obtain ⟨n, e, on⟩ := ho z
    exact ⟨n, e, okN_ext0 E0 on⟩
  obtain ⟨e1, oy⟩ := z1
  have E1 : ext 1 Xf0 Xa0 h h1 := ext_trS (k1 := 1) (k2 := 0) E0 e1 (fun f a z => Or.inr (by rw [z.1]; exact Nat.le_refl _)) (fun _ z => Or.inl z)
  rw [nn_some, mb_mr]
  refine tot_bind (ok_sr (lv_ext E1 p2) (i_nn (by omega)) (by rw [i_nat (by omega), (E1.2.1 _ p2.1).2, p3]; exact h6) (fun b e => by cases e; exact oy.1)) ?_
  rw [i_nat (by omega)]
  generalize e2 : Uer h1 (x + 1) its.length (some (Hn h)) = h2
  have E2 : ext 0 Xf0 (fun a => a = x + 1) h1 h2 := by rw [← e2]; exact ext_er rfl
  have oy2 : okI h2 (Hn h) i := okI_c E2 ⟨fun _ _ _ _ z => z, fun a _ ht z => by rw [z] at ht; have := (lv_ext E1 p2).2.2; rw [this] at ht; cases ht⟩ oy
  have l2 := lv_ext E2 (lv_ext E1 p1)
  have G4' : gi 404 x h2 = some (Int32.ofNat its.length, h2) := gi_ext E2 (fun z => z) (gi_ext0 E1 G4)
  refine tot_bind G4' (tot_bind (ok_pi l2) ?_)
  rw [i_add1]
  generalize e3 : Ufi h2 404 x (Int32.ofNat (its.length + 1)) = h3
  have E3 : ext 0 (fun f a => a = x ∧ f = 404) Xa0 h2 h3 := by rw [← e3]; exact ext_fi ⟨rfl, rfl⟩
  have G2' : gr 402 x h3 = some (some (x + 2), h3) := gr_ext E3 (fun z => by have := z.2; omega) (gr_ext E2 (fun z => z) (gr_ext0 E1 G2))
  refine tot_bind G2' (tot_bind (ok_dz (by decide)) ?_)
  rw [nn_some, mb_mr, i_div8 _ ha]
  have l4 := lv_ext E3 (lv_ext E2 (lv_ext E1 p4))
  have hl4 : Hl h3 (x + 2) = 3 := by rw [(E3.2.1 _ (lv_ext E2 (lv_ext E1 p4)).1).2, (E2.2.1 _ (lv_ext E1 p4).1).2, (E1.2.1 _ p4.1).2]; exact p5
  refine tot_bind (ok_sz l4 (i_nn (by omega)) (by rw [i_nat (by omega), hl4]; omega) (Or.inr rfl)) ?_
  rw [i_nat (by omega)]
  generalize e4 : Uei h3 (x + 2) (i.2.1 / 8) 1 = h4
  have E4 : ext 0 Xf0 (fun a => a = x + 2) h3 h4 := by rw [← e4]; exact ext_ei rfl
  have E : ext 1 (fun f a => a = x ∧ f = 404) (fun a => a = x + 1 ∨ a = x + 2) h h4 := ext_trS (k1 := 1) (k2 := 0) (ext_trS (k1 := 1) (k2 := 0) (ext_trS (k1 := 1) (k2 := 0) (ext_any E1) E2 (fun _ _ z => z.elim) (fun a z => Or.inl (Or.inl z))) E3 (fun f a z => Or.inl z) (fun _ z => z.elim)) E4 (fun _ _ z => z.elim) (fun a z => Or.inl (Or.inr z))
  have cm : calm h (fun f a => a = x ∧ f = 404) (fun a => a = x + 1 ∨ a = x + 2) := ⟨fun f a f1 f2 z => by have := z.2; omega, fun a _ ht z => by
    rcases z with z | z
    · rw [z, p2.2.2] at ht; cases ht
    · rw [z, p4.2.2] at ht; cases ht⟩
  have gx : ∀ f, ¬ f = 404 → Hfr h4 f x = Hfr h f x ∧ Hfi h4 f x = Hfi h f x := fun f hf => E.2.2.1 f x p1.1 (fun z => hf z.2)
  have E34 : ext 0 (fun f a => a = x ∧ f = 404) (fun a => a = x + 2) h2 h4 := ext_trS (k1 := 0) (k2 := 0) (ext_mono E3 (Nat.le_refl 0) (fun _ _ z => z) (fun _ z => z.elim)) E4 (fun _ _ z => z.elim) (fun a z => Or.inl z)
  have cm2 : calm h2 (fun f a => a = x ∧ f = 404) (fun a => a = x + 2) := ⟨fun f a f1 f2 z => by have := z.2; omega, fun a _ ht z => by rw [z, (lv_ext E2 (lv_ext E1 p4)).2.2] at ht; cases ht⟩
  have hlen : (its ++ [i]).length = its.length + 1 := by rw [List.length_append]; rfl
  refine tot_mr ⟨E, ⟨lv_ext E p1, ⟨lv_ext E p2, (E.2.1 _ p2.1).2.trans p3⟩, ⟨lv_ext E p4, (E.2.1 _ p4.1).2.trans p5⟩, ⟨lv_ext E p6, (E.2.1 _ p6.1).2.trans p7⟩⟩, ⟨(gx 401 (by decide)).1.trans q1, (gx 402 (by decide)).1.trans q2, (gx 403 (by decide)).1.trans q3⟩, ⟨(gx 400 (by decide)).2.trans r1, ?_, (gx 405 (by decide)).2.trans r3⟩, by rw [hlen]; omega, fun j hj => ?_, fun m hm => ?_⟩
  · rw [hlen, (E4.2.2.1 404 x (lv_ext E3 l2).1 (fun z => z)).2, ← e3, Hfi_Ufi, if_pos ⟨rfl, rfl⟩]
  · rw [hlen] at hj
    have ej : Her h4 (x + 1) j = Her h2 (x + 1) j := (E34.2.2.2 (x + 1) j (lv_ext E2 (lv_ext E1 p2)).1 (fun z => by omega)).1
    by_cases hc : j = its.length
    · refine ⟨Hn h, by rw [ej, ← e2, Her_Uer, if_pos ⟨rfl, hc⟩], ?_⟩
      have : (its ++ [i]).getD j zi0 = i := by subst hc; simp [List.getD_eq_getElem?_getD]
      rw [this]
      exact okI_c E34 cm2 oy2
    · obtain ⟨y, y1, y2⟩ := s2 j (by omega)
      refine ⟨y, ?_, ?_⟩
      · rw [ej, ← e2, Her_Uer, if_neg (fun z => hc z.2), (E1.2.2.2 (x + 1) j p2.1 (fun z => z)).1]; exact y1
      · have : (its ++ [i]).getD j zi0 = its.getD j zi0 := by simp only [List.getD_eq_getElem?_getD]; rw [List.getElem?_append_left (by omega)]
        rw [this]
        exact okI_c E cm y2
  · rw [← e4, Hei_Uei, tp_app]
    by_cases hc : m = i.2.1 / 8
    · rw [if_pos ⟨rfl, hc⟩, hc]; simp [b2i]
    · rw [if_neg (fun z => hc z.2), (E3.2.2.2 (x + 2) m (lv_ext E2 (lv_ext E1 p4)).1 (fun z => z)).2.1, (E2.2.2.2 (x + 2) m (lv_ext E1 p4).1 (fun z => by omega)).2.1, (E1.2.2.2 (x + 2) m p4.1 (fun z => z)).2.1, s3 m hm]
      have : (i.2.1 / 8 == m) = false := by simp; omega
      rw [this, Bool.or_false]
end INC
