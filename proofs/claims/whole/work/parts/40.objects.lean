/-! Cells, items and transactions on the heap. -/
def b2i (b : Bool) : Int32 := if b then 1 else 0
theorem b2i_01 (b : Bool) : b2i b = 0 ∨ b2i b = 1 := by cases b <;> decide
theorem b2i_eq0 (b : Bool) : (b2i b = 0) ↔ b = false := by cases b <;> decide
def zi0 : zI := (0, 0, 0, z0N)
/-- changes nothing that is never changed once made -/
def calm (h : xv_H) (Xf : Nat → Nat → Prop) (Xa : Nat → Prop) : Prop := (∀ f a, 500 ≤ f → f < 900 → ¬ Xf f a) ∧ (∀ a, im a → Ht h a = 100 → ¬ Xa a)
theorem calm0 {h : xv_H} : calm h Xf0 Xa0 := ⟨fun _ _ _ _ z => z, fun _ _ _ z => z⟩
def okCell (h : xv_H) (x : Nat) (v : Int32 × zN) : Prop := lv h x 7 ∧ Hfi h 700 x = v.1 ∧ ∃ b, Hfr h 701 x = some b ∧ okN h b v.2
def okI (h : xv_H) (x : Nat) (i : zI) : Prop := lv h x 5 ∧ Hfr h 500 x = some (xv_SB + 6 + i.1.toNatClampNeg) ∧ Hfi h 501 x = Int32.ofNat i.2.1 ∧ Hfi h 502 x = i.2.2.1 ∧ (i.1 = 3 ∨ i.1 = 4 → ∃ b, Hfr h 503 x = some b ∧ okN h b i.2.2.2)
def okTx (h : xv_H) (x c t : Nat) (its : List zI) : Prop :=
  (lv h x 4 ∧ (lv h (x + 1) 107 ∧ Hl h (x + 1) = 6) ∧ (lv h (x + 2) 102 ∧ Hl h (x + 2) = 3) ∧ (lv h (x + 3) 102 ∧ Hl h (x + 3) = 3)) ∧ (Hfr h 401 x = some (x + 1) ∧ Hfr h 402 x = some (x + 2) ∧ Hfr h 403 x = some (x + 3)) ∧ (Hfi h 400 x = Int32.ofNat c ∧ Hfi h 404 x = Int32.ofNat its.length ∧ Hfi h 405 x = Int32.ofNat t) ∧ its.length ≤ 6 ∧ (∀ i, i < its.length → ∃ y, Her h (x + 1) i = some y ∧ okI h y (its.getD i zi0)) ∧ (∀ m, m < 3 → Hei h (x + 2) m = b2i (tp its m))
def okAn (h : xv_H) (x : Nat) (an : Nat → Bool) : Prop := ∀ m, m < 3 → Hei h (x + 3) m = b2i (an m)
section OBJ
variable {h h1 h2 : xv_H} {b a F f x c t : Nat} {N : zN} {v : Int32 × zN} {its : List zI} {K : Nat} {Xf : Nat → Nat → Prop} {Xa : Nat → Prop} {i : zI} {an : Nat → Bool}
theorem okN_c (e : ext K Xf Xa h h1) (cm : calm h Xf Xa) (o : okN h b N) : okN h1 b N := okN_ext e (fun f f1 f2 => cm.1 f b (by omega) (by omega)) cm.2 o
theorem okCell_c (e : ext K Xf Xa h h1) (cm : calm h Xf Xa) (o : okCell h x v) : okCell h1 x v := by
  obtain ⟨o1, o2, b, o3, o4⟩ := o
  exact ⟨lv_ext e o1, ((e.2.2.1 700 x o1.1 (cm.1 _ _ (by decide) (by decide))).2).trans o2, b, ((e.2.2.1 701 x o1.1 (cm.1 _ _ (by decide) (by decide))).1).trans o3, okN_c e cm o4⟩
theorem okI_c (e : ext K Xf Xa h h1) (cm : calm h Xf Xa) (o : okI h x i) : okI h1 x i := by
  obtain ⟨o1, o2, o3, o4, o5⟩ := o
  have g : ∀ f, 500 ≤ f → f < 900 → Hfr h1 f x = Hfr h f x ∧ Hfi h1 f x = Hfi h f x := fun f f1 f2 => e.2.2.1 f x o1.1 (cm.1 f x f1 f2)
  refine ⟨lv_ext e o1, (g 500 (by decide) (by decide)).1.trans o2, (g 501 (by decide) (by decide)).2.trans o3, (g 502 (by decide) (by decide)).2.trans o4, fun z => ?_⟩
  obtain ⟨b, e1, e2⟩ := o5 z
  exact ⟨b, (g 503 (by decide) (by decide)).1.trans e1, okN_c e cm e2⟩
theorem okTx_c (e : ext K Xf Xa h h1) (cm : calm h Xf Xa) (hf : ∀ f, 400 ≤ f → f < 406 → ¬ Xf f x) (a1 : ¬ Xa (x + 1)) (a2 : ¬ Xa (x + 2)) (o : okTx h x c t its) : okTx h1 x c t its := by
  obtain ⟨⟨p1, ⟨p2, p3⟩, ⟨p4, p5⟩, ⟨p6, p7⟩⟩, ⟨q1, q2, q3⟩, ⟨r1, r2, r3⟩, s1, s2, s3⟩ := o
  have g : ∀ f, 400 ≤ f → f < 406 → Hfr h1 f x = Hfr h f x ∧ Hfi h1 f x = Hfi h f x := fun f f1 f2 => e.2.2.1 f x p1.1 (hf f f1 f2)
  refine ⟨⟨lv_ext e p1, ⟨lv_ext e p2, (e.2.1 _ p2.1).2.trans p3⟩, ⟨lv_ext e p4, (e.2.1 _ p4.1).2.trans p5⟩, ⟨lv_ext e p6, (e.2.1 _ p6.1).2.trans p7⟩⟩, ⟨(g 401 (by decide) (by decide)).1.trans q1, (g 402 (by decide) (by decide)).1.trans q2, (g 403 (by decide) (by decide)).1.trans q3⟩, ⟨(g 400 (by decide) (by decide)).2.trans r1, (g 404 (by decide) (by decide)).2.trans r2, (g 405 (by decide) (by decide)).2.trans r3⟩, s1, fun i hi => ?_, fun m hm => ?_⟩
  · obtain ⟨y, y1, y2⟩ := s2 i hi
    exact ⟨y, (e.2.2.2 (x + 1) i p2.1 a1).1.trans y1, okI_c e cm y2⟩
  · exact (e.2.2.2 (x + 2) m p4.1 a2).2.1.trans (s3 m hm)
theorem okAn_c (e : ext K Xf Xa h h1) (hl : x + 3 < Hn h) (a3 : ¬ Xa (x + 3)) (o : okAn h x an) : okAn h1 x an := fun m hm => (e.2.2.2 (x + 3) m hl a3).2.1.trans (o m hm)
/-- Cell.<init> -/
theorem c2_tot {y : Int32} {w : Option Nat} (hl : lv h b 7) (ho : ∃ n, w = some n ∧ okN h n N) : tot (m2 F b y w) h (fun _ h' => ext 0 (fun _ a => a = b) Xa0 h h' ∧ okCell h' b (y, N)) := by
  obtain ⟨n, rfl, ho⟩ := ho
  have l1 : lv (Ufi h 700 b y) b 7 := by rw [lv_Ufi]; exact hl
  have e : ext 0 (fun _ a => a = b) Xa0 h (Ufr (Ufi h 700 b y) 701 b (some n)) := ext_frS (ext_fiS ext_refl (Or.inl rfl)) (Or.inl rfl)
  refine tot_eq (x := ()) (h1 := Ufr (Ufi h 700 b y) 701 b (some n)) ?_ ⟨e, lv_ext e hl, ?_, n, ?_, ?_⟩
  · simp only [m2, b2_0, nn_some, mr, mb, ok_pi (f := 700) hl, ok_pr (f := 701) l1]
  · rw [Hfi_Ufr, Hfi_Ufi, if_pos ⟨rfl, rfl⟩]
  · rw [Hfr_Ufr, if_pos ⟨rfl, rfl⟩]
  · exact okN_ext (Xf := fun f a => a = b ∧ 700 ≤ f) (Xa := Xa0) (ext_frS (ext_fiS ext_refl (Or.inl ⟨rfl, by decide⟩)) (Or.inl ⟨rfl, by decide⟩)) (fun f f1 f2 z => by have := z.2; omega) (fun _ _ _ z => z) ho
/-- Item.<init> -/
theorem c26_tot {w k : Option Nat} (hl : lv h b 5) (hk : k = some (xv_SB + 6 + i.1.toNatClampNeg)) (ho : i.1 = 3 ∨ i.1 = 4 → ∃ n, w = some n ∧ okN h n i.2.2.2) : tot (m26 F b k (Int32.ofNat i.2.1) i.2.2.1 w) h (fun _ h' => ext 0 (fun f a => a = b ∧ 500 ≤ f ∧ f < 504) Xa0 h h' ∧ okI h' b i) := by
  have l1 : lv (Ufr h 500 b k) b 5 := by rw [lv_Ufr]; exact hl
  have l2 : lv (Ufi (Ufr h 500 b k) 501 b (Int32.ofNat i.2.1)) b 5 := by rw [lv_Ufi]; exact l1
  have l3 : lv (Ufi (Ufi (Ufr h 500 b k) 501 b (Int32.ofNat i.2.1)) 502 b i.2.2.1) b 5 := by rw [lv_Ufi]; exact l2
  have e : ext 0 (fun f a => a = b ∧ 500 ≤ f ∧ f < 504) Xa0 h (Ufr (Ufi (Ufi (Ufr h 500 b k) 501 b (Int32.ofNat i.2.1)) 502 b i.2.2.1) 503 b w) := ext_frS (ext_fiS (ext_fiS (ext_frS ext_refl (Or.inl ⟨rfl, by decide, by decide⟩)) (Or.inl ⟨rfl, by decide, by decide⟩)) (Or.inl ⟨rfl, by decide, by decide⟩)) (Or.inl ⟨rfl, by decide, by decide⟩)
  refine tot_eq (x := ()) (h1 := Ufr (Ufi (Ufi (Ufr h 500 b k) 501 b (Int32.ofNat i.2.1)) 502 b i.2.2.1) 503 b w) ?_ ⟨e, lv_ext e hl, ?_, ?_, ?_, fun z => ?_⟩
  · simp only [m26, b26_0, nn_some, mr, mb, ok_pr (f := 500) hl, ok_pi (f := 501) l1, ok_pi (f := 502) l2, ok_pr (f := 503) l3]
  · simp [Hfr_Ufr, Hfr_Ufi, hk]
  · simp [Hfi_Ufr, Hfi_Ufi]
  · simp [Hfi_Ufr, Hfi_Ufi]
  · obtain ⟨n, rfl, o⟩ := ho z
    exact ⟨n, by simp [Hfr_Ufr, Hfr_Ufi], okN_ext e (fun f f1 f2 z => by have := z.2; omega) (fun _ _ _ z => z) o⟩
/-- Transaction.<init> -/
theorem c24_tot (hl : lv h x 4) (hn : Hn h = x + 1) (f4 : Hfi h 404 x = 0) (f5 : Hfi h 405 x = 0) (g : hb 10 h) : tot (m24 F x (Int32.ofNat c)) h (fun _ h' => ext 3 (fun f a => a = x ∧ 400 ≤ f ∧ f < 406) Xa0 h h' ∧ okTx h' x c 0 [] ∧ okAn h' x (fun _ => false)) := by
  have hsb := g.2
  unfold m24 b24_0
  rw [nn_some, mb_mr]
  refine tot_bind (ok_na (by decide) (by decide)) ?_
  rw [hn]
  refine tot_bind (ok_pr (lv_ext (ext_nw (Xf := Xf0) (Xa := Xa0) (by decide)) hl)) ?_
  generalize e1 : Ufr (Unw h 107 (6 : Int32).toNatClampNeg (6 : Int32).toNatClampNeg) 401 x (some (x + 1)) = h1
  have E1 : ext 1 (fun f a => a = x ∧ 400 ≤ f ∧ f < 406) Xa0 h h1 := by rw [← e1]; exact ext_frS (ext_nw (by decide)) (Or.inl ⟨rfl, by decide, by decide⟩)
  have n1 : Hn h1 = x + 2 := by rw [← e1, Hn_Ufr, Hn_Unw, hn]
  refine tot_bind (ok_na (by decide) (by decide)) ?_
  rw [n1]
  refine tot_bind (ok_pr (lv_ext (ext_nw (Xf := Xf0) (Xa := Xa0) (by decide)) (lv_ext E1 hl))) ?_
  generalize e2 : Ufr (Unw h1 102 (3 : Int32).toNatClampNeg (3 : Int32).toNatClampNeg) 402 x (some (x + 2)) = h2
  have E2 : ext 1 (fun f a => a = x ∧ f = 402) Xa0 h1 h2 := by rw [← e2]; exact ext_frS (ext_nw (by decide)) (Or.inl ⟨rfl, rfl⟩)
  have n2 : Hn h2 = x + 3 := by rw [← e2, Hn_Ufr, Hn_Unw, n1]
  refine tot_bind (ok_na (by decide) (by decide)) ?_
  rw [n2]
  refine tot_bind (ok_pr (lv_ext (ext_nw (Xf := Xf0) (Xa := Xa0) (by decide)) (lv_ext E2 (lv_ext E1 hl)))) ?_
  generalize e3 : Ufr (Unw h2 102 (3 : Int32).toNatClampNeg (3 : Int32).toNatClampNeg) 403 x (some (x + 3)) = h3
  have E3 : ext 1 (fun f a => a = x ∧ f = 403) Xa0 h2 h3 := by rw [← e3]; exact ext_frS (ext_nw (by decide)) (Or.inl ⟨rfl, rfl⟩)
  have l3 : lv h3 x 4 := lv_ext E3 (lv_ext E2 (lv_ext E1 hl))
  refine tot_bind (ok_pi l3) ?_
  generalize e4 : Ufi h3 400 x (Int32.ofNat c) = h4
  have E4 : ext 0 (fun f a => a = x ∧ f = 400) Xa0 h3 h4 := by rw [← e4]; exact ext_fiS ext_refl (Or.inl ⟨rfl, rfl⟩)
  have E : ext 3 (fun f a => a = x ∧ 400 ≤ f ∧ f < 406) Xa0 h h4 := ext_trS (k1 := 3) (k2 := 0) (ext_trS (k1 := 2) (k2 := 1) (ext_trS (k1 := 1) (k2 := 1) E1 E2 (fun f a z => Or.inl ⟨z.1, by omega⟩) (fun _ z => Or.inl z)) E3 (fun f a z => Or.inl ⟨z.1, by omega⟩) (fun _ z => Or.inl z)) E4 (fun f a z => Or.inl ⟨z.1, by omega⟩) (fun _ z => Or.inl z)
  have la1 : lv h1 (x + 1) 107 := by rw [← e1, lv_Ufr, ← hn]; exact lv_Unw (by rw [hn, SB_val]; omega)
  have la2 : lv h2 (x + 2) 102 := by rw [← e2, lv_Ufr, ← n1]; exact lv_Unw (by rw [n1, SB_val]; omega)
  have la3 : lv h3 (x + 3) 102 := by rw [← e3, lv_Ufr, ← n2]; exact lv_Unw (by rw [n2, SB_val]; omega)
  have k1 : Hl h1 (x + 1) = 6 := by rw [← e1, Hl_Ufr, Hl_Unw, hn, if_pos rfl]; rfl
  have k2 : Hl h2 (x + 2) = 3 := by rw [← e2, Hl_Ufr, Hl_Unw, n1, if_pos rfl]; rfl
  have k3 : Hl h3 (x + 3) = 3 := by rw [← e3, Hl_Ufr, Hl_Unw, n2, if_pos rfl]; rfl
  have z1 : Hfr h1 401 x = some (x + 1) := by rw [← e1, Hfr_Ufr, if_pos ⟨rfl, rfl⟩]
  have z2 : Hfr h2 402 x = some (x + 2) := by rw [← e2, Hfr_Ufr, if_pos ⟨rfl, rfl⟩]
  have z3 : Hfr h3 403 x = some (x + 3) := by rw [← e3, Hfr_Ufr, if_pos ⟨rfl, rfl⟩]
  have x1 : x < Hn h1 := by omega
  have x2 : x < Hn h2 := by omega
  have x3 : x < Hn h3 := by have := E3.1.1; omega
  have lb1 := lv_ext E4 (lv_ext E3 (lv_ext E2 la1))
  have lb2 := lv_ext E4 (lv_ext E3 la2)
  have lb3 := lv_ext E4 la3
  have i4 : ∀ f, 404 ≤ f → f < 406 → Hfi h4 f x = Hfi h f x := by
    intro f f1 f2
    rw [(E4.2.2.1 f x x3 (fun z => by have := z.2; omega)).2, (E3.2.2.1 f x x2 (fun z => by have := z.2; omega)).2, (E2.2.2.1 f x x1 (fun z => by have := z.2; omega)).2, ← e1, Hfi_Ufr, Hfi_Unw, hn, if_neg (by omega)]
  refine tot_mr ⟨E, ⟨⟨lv_ext E4 l3, ⟨lb1, ?_⟩, ⟨lb2, ?_⟩, ⟨lb3, ?_⟩⟩, ⟨?_, ?_, ?_⟩, ⟨?_, ?_, ?_⟩, by decide, fun i hi => absurd hi (Nat.not_lt_zero _), fun m hm => ?_⟩, fun m hm => ?_⟩
  · rw [(E4.2.1 _ (lv_ext E3 (lv_ext E2 la1)).1).2, (E3.2.1 _ (lv_ext E2 la1).1).2, (E2.2.1 _ la1.1).2]; exact k1
  · rw [(E4.2.1 _ (lv_ext E3 la2).1).2, (E3.2.1 _ la2.1).2]; exact k2
  · rw [(E4.2.1 _ la3.1).2]; exact k3
  · rw [(E4.2.2.1 401 x x3 (fun z => by have := z.2; omega)).1, (E3.2.2.1 401 x x2 (fun z => by have := z.2; omega)).1, (E2.2.2.1 401 x x1 (fun z => by have := z.2; omega)).1]; exact z1
  · rw [(E4.2.2.1 402 x x3 (fun z => by have := z.2; omega)).1, (E3.2.2.1 402 x x2 (fun z => by have := z.2; omega)).1]; exact z2
  · rw [(E4.2.2.1 403 x x3 (fun z => by have := z.2; omega)).1]; exact z3
  · rw [← e4, Hfi_Ufi, if_pos ⟨rfl, rfl⟩]
  · rw [i4 404 (by decide) (by decide), f4]; rfl
  · rw [i4 405 (by decide) (by decide), f5]; rfl
  · rw [(E4.2.2.2 (x + 2) m (lv_ext E3 la2).1 (fun z => z)).2.1, (E3.2.2.2 (x + 2) m la2.1 (fun z => z)).2.1, ← e2, Hei_Ufr, Hei_Unw, n1, if_pos rfl]; rfl
  · rw [(E4.2.2.2 (x + 3) m la3.1 (fun z => z)).2.1, ← e3, Hei_Ufr, Hei_Unw, n2, if_pos rfl]; rfl
end OBJ
