/-! Messages under way: the list on the heap. -/
abbrev zT : Type := Nat → Nat
def okM (h : xv_H) (T : zT) (x : Nat) (m : zM) : Prop := lv h x 8 ∧ Hfi h 800 x = m.1 ∧ Hfr h 801 x = some (T m.2.1) ∧ Hfi h 802 x = Int32.ofNat m.2.2.1 ∧ okO h (Hfr h 803 x) m.2.2.2
def zm0 : zM := (0, 0, 0, none)
def qRow (h : xv_H) (T : zT) (ms : List zM) (ed : Nat) : Prop := 77 ≤ ed ∧ lv h ed 109 ∧ ms.length ≤ Hl h ed ∧ 10 ≤ Hl h ed ∧ Hl h ed ≤ 60 ∧ ∀ i, i < ms.length → ∃ x, Her h ed i = some x ∧ okM h T x (ms.getD i zm0)
def kQ (h : xv_H) (T : zT) (ms : List zM) : Prop := lv h 35 10 ∧ Hfi h 1001 35 = Int32.ofNat ms.length ∧ ms.length ≤ 40 ∧ ((ms = [] ∧ Hfr h 1000 35 = some (xv_SB + 2)) ∨ ∃ ed, Hfr h 1000 35 = some ed ∧ qRow h T ms ed)
/-- rows of messages -/
def isQ (h : xv_H) (a : Nat) : Prop := 77 ≤ a ∧ Ht h a = 109
def XfQ : Nat → Nat → Prop := fun f a => a = 35 ∧ 1000 ≤ f
section QU
variable {h h0 h1 h2 : xv_H} {F f x y c t m n K : Nat} {T : zT} {ms : List zM} {M : zM} {Xf : Nat → Nat → Prop} {Xa : Nat → Prop}
theorem calmQ : calm h XfQ (isQ h) := ⟨fun f a f1 f2 q => by have := q.2; omega, fun a _ ht q => by have := q.2; omega⟩
theorem okM_c (ex : ext K Xf Xa h h1) (cm : calm h Xf Xa) (o : okM h T x M) : okM h1 T x M := by
  obtain ⟨p1, p2, p3, p4, p5⟩ := o
  have g : ∀ f, 500 ≤ f → f < 900 → Hfr h1 f x = Hfr h f x ∧ Hfi h1 f x = Hfi h f x := fun f f1 f2 => ex.2.2.1 f x p1.1 (cm.1 f x f1 f2)
  refine ⟨lv_ext ex p1, (g 800 (by decide) (by decide)).2.trans p2, (g 801 (by decide) (by decide)).1.trans p3, (g 802 (by decide) (by decide)).2.trans p4, ?_⟩
  rw [(g 803 (by decide) (by decide)).1]
  exact okO_c ex cm p5
theorem qRow_c {ed : Nat} (ex : ext K Xf Xa h h1) (cm : calm h Xf Xa) (ha : ¬ Xa ed) (o : qRow h T ms ed) : qRow h1 T ms ed := by
  obtain ⟨p0, p1, p2, p3, p4, p5⟩ := o
  have el := (ex.2.1 _ p1.1).2
  refine ⟨p0, lv_ext ex p1, by rw [el]; exact p2, by rw [el]; exact p3, by rw [el]; exact p4, fun i hi => ?_⟩
  obtain ⟨x, x1, x2⟩ := p5 i hi
  exact ⟨x, (ex.2.2.2 ed i p1.1 ha).1.trans x1, okM_c ex cm x2⟩
theorem kQ_c (ex : ext K Xf Xa h h1) (cm : calm h Xf Xa) (hf : ∀ f, 1000 ≤ f → ¬ Xf f 35) (ha : ∀ a, isQ h a → ¬ Xa a) (o : kQ h T ms) : kQ h1 T ms := by
  obtain ⟨p1, p2, p3, p4⟩ := o
  refine ⟨lv_ext ex p1, (ex.2.2.1 _ _ p1.1 (hf 1001 (by decide))).2.trans p2, p3, ?_⟩
  rcases p4 with ⟨e, q⟩ | ⟨ed, q, r⟩
  · exact Or.inl ⟨e, (ex.2.2.1 _ _ p1.1 (hf 1000 (by decide))).1.trans q⟩
  · exact Or.inr ⟨ed, (ex.2.2.1 _ _ p1.1 (hf 1000 (by decide))).1.trans q, qRow_c ex cm (ha ed ⟨r.1, r.2.1.2.2⟩) r⟩
theorem c53_eq (o : kQ h T ms) : m53 F 35 h = some (Int32.ofNat ms.length, h) := by
  unfold m53 b53_0
  rw [nn_some, mb_mr, mb_some (ok_gi o.1), o.2.1]; rfl
theorem c54_tot {k : Int32} {w s : Option Nat} (hl : lv h x 8) (hw : w = some (T M.2.1)) (ho : okO h s M.2.2.2) : tot (m54 F x M.1 w (Int32.ofNat M.2.2.1) s) h (fun _ h' => ext 0 (fun f a => a = x ∧ 800 ≤ f ∧ f < 804) Xa0 h h' ∧ okM h' T x M) := by
  unfold m54 b54_0
  rw [nn_some, mb_mr]
  refine tot_bind (ok_pi hl) ?_
  generalize e1 : Ufi h 800 x M.1 = h1
  have l1 : lv h1 x 8 := by rw [← e1, lv_Ufi]; exact hl
  refine tot_bind (ok_pr l1) ?_
  generalize e2 : Ufr h1 801 x w = h2
  have l2 : lv h2 x 8 := by rw [← e2, lv_Ufr]; exact l1
  refine tot_bind (ok_pi l2) ?_
  generalize e3 : Ufi h2 802 x (Int32.ofNat M.2.2.1) = h3
  have l3 : lv h3 x 8 := by rw [← e3, lv_Ufi]; exact l2
  refine tot_bind (ok_pr l3) ?_
  generalize e4 : Ufr h3 803 x s = h4
  have l4 : lv h4 x 8 := by rw [← e4, lv_Ufr]; exact l3
  have E : ext 0 (fun f a => a = x ∧ 800 ≤ f ∧ f < 804) Xa0 h h4 := by
    rw [← e4, ← e3, ← e2, ← e1]
    exact ext_frS (ext_fiS (ext_frS (ext_fi ⟨rfl, by decide⟩) (Or.inl ⟨rfl, by decide⟩)) (Or.inl ⟨rfl, by decide⟩)) (Or.inl ⟨rfl, by decide⟩)
  refine tot_mr ⟨E, l4, ?_, ?_, ?_, ?_⟩
  · rw [← e4, Hfi_Ufr, ← e3, Hfi_Ufi, if_neg (by omega), ← e2, Hfi_Ufr, ← e1, Hfi_Ufi, if_pos ⟨rfl, rfl⟩]
  · rw [← e4, Hfr_Ufr, if_neg (by omega), ← e3, Hfr_Ufi, ← e2, Hfr_Ufr, if_pos ⟨rfl, rfl⟩, hw]
  · rw [← e4, Hfi_Ufr, ← e3, Hfi_Ufi, if_pos ⟨rfl, rfl⟩]
  · have : Hfr h4 803 x = s := by rw [← e4, Hfr_Ufr, if_pos ⟨rfl, rfl⟩]
    rw [this]
    cases hs : M.2.2.2 with
    | none => rw [hs] at ho; exact ho
    | some v =>
      rw [hs] at ho
      obtain ⟨y, y1, oy⟩ := ho
      refine ⟨y, y1, lv_ext E oy.1, ?_, ?_⟩
      · rw [(E.2.2.1 700 y oy.1.1 (fun q => by omega)).2]; exact oy.2.1
      · obtain ⟨b, b1, ob⟩ := oy.2.2
        refine ⟨b, by rw [(E.2.2.1 701 y oy.1.1 (fun q => by omega)).1]; exact b1, okN_ext E (fun f f1 f2 q => by omega) (fun _ _ _ q => q) ob⟩
end QU
