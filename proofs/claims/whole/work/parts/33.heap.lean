/-! The abstract heap by names; when a step of a program goes well. -/
def Hn (h : xv_H) : Nat := h.1
def Hz (h : xv_H) : Nat := h.2.1
def Ht (h : xv_H) : Nat → Nat := h.2.2.1
def Hl (h : xv_H) : Nat → Nat := h.2.2.2.1
def Hfr (h : xv_H) : Nat → Nat → Option Nat := h.2.2.2.2.1
def Her (h : xv_H) : Nat → Nat → Option Nat := h.2.2.2.2.2.1
def Hfi (h : xv_H) : Nat → Nat → Int32 := h.2.2.2.2.2.2.1
def Hei (h : xv_H) : Nat → Nat → Int32 := h.2.2.2.2.2.2.2.1
def Hel (h : xv_H) : Nat → Nat → Int64 := h.2.2.2.2.2.2.2.2
def Ufr (h : xv_H) (f a : Nat) (w : Option Nat) : xv_H := (Hn h, Hz h, Ht h, Hl h, xv_up (Hfr h) f a w, Her h, Hfi h, Hei h, Hel h)
def Ufi (h : xv_H) (f a : Nat) (x : Int32) : xv_H := (Hn h, Hz h, Ht h, Hl h, Hfr h, Her h, xv_up (Hfi h) f a x, Hei h, Hel h)
def Uer (h : xv_H) (a j : Nat) (w : Option Nat) : xv_H := (Hn h, Hz h, Ht h, Hl h, Hfr h, xv_up (Her h) a j w, Hfi h, Hei h, Hel h)
def Uei (h : xv_H) (a j : Nat) (x : Int32) : xv_H := (Hn h, Hz h, Ht h, Hl h, Hfr h, Her h, Hfi h, xv_up (Hei h) a j x, Hel h)
def Uel (h : xv_H) (a j : Nat) (x : Int64) : xv_H := (Hn h, Hz h, Ht h, Hl h, Hfr h, Her h, Hfi h, Hei h, xv_up (Hel h) a j x)
def Unw (h : xv_H) (t m k : Nat) : xv_H := xv_new h t m k
def Uci (h : xv_H) (s sp d dp n : Nat) : xv_H := (Hn h, Hz h, Ht h, Hl h, Hfr h, Her h, Hfi h, xv_cpy (Hei h) s sp d dp n, Hel h)
def Ucr (h : xv_H) (s sp d dp n : Nat) : xv_H := (Hn h, Hz h, Ht h, Hl h, Hfr h, xv_cpy (Her h) s sp d dp n, Hfi h, Hei h, Hel h)
def Ucl (h : xv_H) (a : Nat) : xv_H := (Hn h + 1, Hz h + Hl h a, xv_u1 (Ht h) (Hn h) 100, xv_u1 (Hl h) (Hn h) (Hl h a), xv_freshF (Hfr h) (Hn h) none, xv_fresh (Her h) (Hn h) none, xv_freshF (Hfi h) (Hn h) 0, (fun b i => if b = Hn h then xv_fresh (Hei h) (Hn h) 0 a i else xv_fresh (Hei h) (Hn h) 0 b i), xv_fresh (Hel h) (Hn h) 0)
theorem Hn_Ufr (h : xv_H) (f a : Nat) (w : Option Nat) : Hn (Ufr h f a w) = Hn h := (rfl)
theorem Hz_Ufr (h : xv_H) (f a : Nat) (w : Option Nat) : Hz (Ufr h f a w) = Hz h := (rfl)
theorem Ht_Ufr (h : xv_H) (f a : Nat) (w : Option Nat) : Ht (Ufr h f a w) = Ht h := (rfl)
theorem Hl_Ufr (h : xv_H) (f a : Nat) (w : Option Nat) : Hl (Ufr h f a w) = Hl h := (rfl)
theorem Hfr_Ufr (h : xv_H) (f a : Nat) (w : Option Nat) (x y : Nat) : Hfr (Ufr h f a w) x y = if x = f ∧ y = a then w else Hfr h x y := (rfl)
theorem Her_Ufr (h : xv_H) (f a : Nat) (w : Option Nat) : Her (Ufr h f a w) = Her h := (rfl)
theorem Hfi_Ufr (h : xv_H) (f a : Nat) (w : Option Nat) : Hfi (Ufr h f a w) = Hfi h := (rfl)
theorem Hei_Ufr (h : xv_H) (f a : Nat) (w : Option Nat) : Hei (Ufr h f a w) = Hei h := (rfl)
theorem Hel_Ufr (h : xv_H) (f a : Nat) (w : Option Nat) : Hel (Ufr h f a w) = Hel h := (rfl)
theorem Hn_Ufi (h : xv_H) (f a : Nat) (w : Int32) : Hn (Ufi h f a w) = Hn h := (rfl)
theorem Hz_Ufi (h : xv_H) (f a : Nat) (w : Int32) : Hz (Ufi h f a w) = Hz h := (rfl)
theorem Ht_Ufi (h : xv_H) (f a : Nat) (w : Int32) : Ht (Ufi h f a w) = Ht h := (rfl)
theorem Hl_Ufi (h : xv_H) (f a : Nat) (w : Int32) : Hl (Ufi h f a w) = Hl h := (rfl)
theorem Hfr_Ufi (h : xv_H) (f a : Nat) (w : Int32) : Hfr (Ufi h f a w) = Hfr h := (rfl)
theorem Her_Ufi (h : xv_H) (f a : Nat) (w : Int32) : Her (Ufi h f a w) = Her h := (rfl)
theorem Hfi_Ufi (h : xv_H) (f a : Nat) (w : Int32) (x y : Nat) : Hfi (Ufi h f a w) x y = if x = f ∧ y = a then w else Hfi h x y := (rfl)
theorem Hei_Ufi (h : xv_H) (f a : Nat) (w : Int32) : Hei (Ufi h f a w) = Hei h := (rfl)
theorem Hel_Ufi (h : xv_H) (f a : Nat) (w : Int32) : Hel (Ufi h f a w) = Hel h := (rfl)
theorem Hn_Uer (h : xv_H) (a j : Nat) (w : Option Nat) : Hn (Uer h a j w) = Hn h := (rfl)
theorem Hz_Uer (h : xv_H) (a j : Nat) (w : Option Nat) : Hz (Uer h a j w) = Hz h := (rfl)
theorem Ht_Uer (h : xv_H) (a j : Nat) (w : Option Nat) : Ht (Uer h a j w) = Ht h := (rfl)
theorem Hl_Uer (h : xv_H) (a j : Nat) (w : Option Nat) : Hl (Uer h a j w) = Hl h := (rfl)
theorem Hfr_Uer (h : xv_H) (a j : Nat) (w : Option Nat) : Hfr (Uer h a j w) = Hfr h := (rfl)
theorem Her_Uer (h : xv_H) (a j : Nat) (w : Option Nat) (x y : Nat) : Her (Uer h a j w) x y = if x = a ∧ y = j then w else Her h x y := (rfl)
theorem Hfi_Uer (h : xv_H) (a j : Nat) (w : Option Nat) : Hfi (Uer h a j w) = Hfi h := (rfl)
theorem Hei_Uer (h : xv_H) (a j : Nat) (w : Option Nat) : Hei (Uer h a j w) = Hei h := (rfl)
theorem Hel_Uer (h : xv_H) (a j : Nat) (w : Option Nat) : Hel (Uer h a j w) = Hel h := (rfl)
theorem Hn_Uei (h : xv_H) (a j : Nat) (w : Int32) : Hn (Uei h a j w) = Hn h := (rfl)
theorem Hz_Uei (h : xv_H) (a j : Nat) (w : Int32) : Hz (Uei h a j w) = Hz h := (rfl)
theorem Ht_Uei (h : xv_H) (a j : Nat) (w : Int32) : Ht (Uei h a j w) = Ht h := (rfl)
theorem Hl_Uei (h : xv_H) (a j : Nat) (w : Int32) : Hl (Uei h a j w) = Hl h := (rfl)
theorem Hfr_Uei (h : xv_H) (a j : Nat) (w : Int32) : Hfr (Uei h a j w) = Hfr h := (rfl)
theorem Her_Uei (h : xv_H) (a j : Nat) (w : Int32) : Her (Uei h a j w) = Her h := (rfl)
theorem Hfi_Uei (h : xv_H) (a j : Nat) (w : Int32) : Hfi (Uei h a j w) = Hfi h := (rfl)
theorem Hei_Uei (h : xv_H) (a j : Nat) (w : Int32) (x y : Nat) : Hei (Uei h a j w) x y = if x = a ∧ y = j then w else Hei h x y := (rfl)
theorem Hel_Uei (h : xv_H) (a j : Nat) (w : Int32) : Hel (Uei h a j w) = Hel h := (rfl)
theorem Hn_Uel (h : xv_H) (a j : Nat) (w : Int64) : Hn (Uel h a j w) = Hn h := (rfl)
theorem Hz_Uel (h : xv_H) (a j : Nat) (w : Int64) : Hz (Uel h a j w) = Hz h := (rfl)
theorem Ht_Uel (h : xv_H) (a j : Nat) (w : Int64) : Ht (Uel h a j w) = Ht h := (rfl)
theorem Hl_Uel (h : xv_H) (a j : Nat) (w : Int64) : Hl (Uel h a j w) = Hl h := (rfl)
theorem Hfr_Uel (h : xv_H) (a j : Nat) (w : Int64) : Hfr (Uel h a j w) = Hfr h := (rfl)
theorem Her_Uel (h : xv_H) (a j : Nat) (w : Int64) : Her (Uel h a j w) = Her h := (rfl)
theorem Hfi_Uel (h : xv_H) (a j : Nat) (w : Int64) : Hfi (Uel h a j w) = Hfi h := (rfl)
theorem Hei_Uel (h : xv_H) (a j : Nat) (w : Int64) : Hei (Uel h a j w) = Hei h := (rfl)
theorem Hel_Uel (h : xv_H) (a j : Nat) (w : Int64) (x y : Nat) : Hel (Uel h a j w) x y = if x = a ∧ y = j then w else Hel h x y := (rfl)
theorem Hn_Uci (h : xv_H) (s sp d dp n : Nat) : Hn (Uci h s sp d dp n) = Hn h := (rfl)
theorem Hz_Uci (h : xv_H) (s sp d dp n : Nat) : Hz (Uci h s sp d dp n) = Hz h := (rfl)
theorem Ht_Uci (h : xv_H) (s sp d dp n : Nat) : Ht (Uci h s sp d dp n) = Ht h := (rfl)
theorem Hl_Uci (h : xv_H) (s sp d dp n : Nat) : Hl (Uci h s sp d dp n) = Hl h := (rfl)
theorem Hfr_Uci (h : xv_H) (s sp d dp n : Nat) : Hfr (Uci h s sp d dp n) = Hfr h := (rfl)
theorem Her_Uci (h : xv_H) (s sp d dp n : Nat) : Her (Uci h s sp d dp n) = Her h := (rfl)
theorem Hfi_Uci (h : xv_H) (s sp d dp n : Nat) : Hfi (Uci h s sp d dp n) = Hfi h := (rfl)
theorem Hei_Uci (h : xv_H) (s sp d dp n : Nat) (x y : Nat) : Hei (Uci h s sp d dp n) x y = if x = d ∧ dp ≤ y ∧ y < dp + n then Hei h s (sp + (y - dp)) else Hei h x y := (rfl)
theorem Hel_Uci (h : xv_H) (s sp d dp n : Nat) : Hel (Uci h s sp d dp n) = Hel h := (rfl)
theorem Hn_Ucr (h : xv_H) (s sp d dp n : Nat) : Hn (Ucr h s sp d dp n) = Hn h := (rfl)
theorem Hz_Ucr (h : xv_H) (s sp d dp n : Nat) : Hz (Ucr h s sp d dp n) = Hz h := (rfl)
theorem Ht_Ucr (h : xv_H) (s sp d dp n : Nat) : Ht (Ucr h s sp d dp n) = Ht h := (rfl)
theorem Hl_Ucr (h : xv_H) (s sp d dp n : Nat) : Hl (Ucr h s sp d dp n) = Hl h := (rfl)
theorem Hfr_Ucr (h : xv_H) (s sp d dp n : Nat) : Hfr (Ucr h s sp d dp n) = Hfr h := (rfl)
theorem Her_Ucr (h : xv_H) (s sp d dp n : Nat) (x y : Nat) : Her (Ucr h s sp d dp n) x y = if x = d ∧ dp ≤ y ∧ y < dp + n then Her h s (sp + (y - dp)) else Her h x y := (rfl)
theorem Hfi_Ucr (h : xv_H) (s sp d dp n : Nat) : Hfi (Ucr h s sp d dp n) = Hfi h := (rfl)
theorem Hei_Ucr (h : xv_H) (s sp d dp n : Nat) : Hei (Ucr h s sp d dp n) = Hei h := (rfl)
theorem Hel_Ucr (h : xv_H) (s sp d dp n : Nat) : Hel (Ucr h s sp d dp n) = Hel h := (rfl)
theorem Hn_Unw (h : xv_H) (t m k : Nat) : Hn (Unw h t m k) = Hn h + 1 := (rfl)
theorem Hz_Unw (h : xv_H) (t m k : Nat) : Hz (Unw h t m k) = Hz h + k := (rfl)
theorem Ht_Unw (h : xv_H) (t m k : Nat) (x : Nat) : Ht (Unw h t m k) x = if x = Hn h then t else Ht h x := (rfl)
theorem Hl_Unw (h : xv_H) (t m k : Nat) (x : Nat) : Hl (Unw h t m k) x = if x = Hn h then m else Hl h x := (rfl)
theorem Hfr_Unw (h : xv_H) (t m k : Nat) (x y : Nat) : Hfr (Unw h t m k) x y = if y = Hn h then none else Hfr h x y := (rfl)
theorem Her_Unw (h : xv_H) (t m k : Nat) (x y : Nat) : Her (Unw h t m k) x y = if x = Hn h then none else Her h x y := (rfl)
theorem Hfi_Unw (h : xv_H) (t m k : Nat) (x y : Nat) : Hfi (Unw h t m k) x y = if y = Hn h then 0 else Hfi h x y := (rfl)
theorem Hei_Unw (h : xv_H) (t m k : Nat) (x y : Nat) : Hei (Unw h t m k) x y = if x = Hn h then 0 else Hei h x y := (rfl)
theorem Hel_Unw (h : xv_H) (t m k : Nat) (x y : Nat) : Hel (Unw h t m k) x y = if x = Hn h then 0 else Hel h x y := (rfl)
theorem Hn_Ucl (h : xv_H) (c : Nat) : Hn (Ucl h c) = Hn h + 1 := (rfl)
theorem Hz_Ucl (h : xv_H) (c : Nat) : Hz (Ucl h c) = Hz h + Hl h c := (rfl)
theorem Ht_Ucl (h : xv_H) (c : Nat) (x : Nat) : Ht (Ucl h c) x = if x = Hn h then 100 else Ht h x := (rfl)
theorem Hl_Ucl (h : xv_H) (c : Nat) (x : Nat) : Hl (Ucl h c) x = if x = Hn h then Hl h c else Hl h x := (rfl)
theorem Hfr_Ucl (h : xv_H) (c : Nat) (x y : Nat) : Hfr (Ucl h c) x y = if y = Hn h then none else Hfr h x y := (rfl)
theorem Her_Ucl (h : xv_H) (c : Nat) (x y : Nat) : Her (Ucl h c) x y = if x = Hn h then none else Her h x y := (rfl)
theorem Hfi_Ucl (h : xv_H) (c : Nat) (x y : Nat) : Hfi (Ucl h c) x y = if y = Hn h then 0 else Hfi h x y := (rfl)
theorem Hei_Ucl (h : xv_H) (c x y : Nat) : Hei (Ucl h c) x y = if x = Hn h then (if c = Hn h then 0 else Hei h c y) else Hei h x y := by
  show (if x = Hn h then xv_fresh (Hei h) (Hn h) 0 c y else xv_fresh (Hei h) (Hn h) 0 x y) = _
  unfold xv_fresh
  by_cases g : x = Hn h
  · rw [if_pos g, if_pos g]
  · rw [if_neg g, if_neg g, if_neg g]
theorem Hel_Ucl (h : xv_H) (c : Nat) (x y : Nat) : Hel (Ucl h c) x y = if x = Hn h then 0 else Hel h x y := (rfl)
/-- a live cell of that tag -/
def lv (h : xv_H) (a t : Nat) : Prop := a < Hn h ∧ a < xv_SB ∧ Ht h a = t
theorem lv_Ufr (h : xv_H) (f a : Nat) (w : Option Nat) (b t : Nat) : lv (Ufr h f a w) b t = lv h b t := (rfl)
theorem lv_Ufi (h : xv_H) (f a : Nat) (w : Int32) (b t : Nat) : lv (Ufi h f a w) b t = lv h b t := (rfl)
theorem lv_Uer (h : xv_H) (f a : Nat) (w : Option Nat) (b t : Nat) : lv (Uer h f a w) b t = lv h b t := (rfl)
theorem lv_Uei (h : xv_H) (f a : Nat) (w : Int32) (b t : Nat) : lv (Uei h f a w) b t = lv h b t := (rfl)
theorem lv_Uel (h : xv_H) (f a : Nat) (w : Int64) (b t : Nat) : lv (Uel h f a w) b t = lv h b t := (rfl)
theorem lv_Uci (h : xv_H) (s sp d dp n : Nat) (b t : Nat) : lv (Uci h s sp d dp n) b t = lv h b t := (rfl)
theorem lv_Ucr (h : xv_H) (s sp d dp n : Nat) (b t : Nat) : lv (Ucr h s sp d dp n) b t = lv h b t := (rfl)
section HOK
variable {h : xv_H} {a f t d s : Nat} {j x n dp sp : Int32} {w : Option Nat} {u : Int64} {α β : Type}
theorem nn_some (a : Nat) : nn (some a) = mr a := rfl
theorem mb_mr (x : α) (k : α → xm β) : mb (mr x) k = k x := rfl
theorem mb_assoc {γ : Type} (p : xm α) (k : α → xm β) (k2 : β → xm γ) : mb (mb p k) k2 = mb p (fun x => mb (k x) k2) := by
  funext h
  unfold mb
  cases p h <;> rfl
theorem ok_gi (hl : lv h a (f / 100)) : gi f a h = some (Hfi h f a, h) := if_pos ⟨hl.1, hl.2.2⟩
theorem ok_gr (hl : lv h a (f / 100)) : gr f a h = some (Hfr h f a, h) := if_pos ⟨hl.1, hl.2.2⟩
theorem ok_pi (hl : lv h a (f / 100)) : pi_ f a x h = some ((), Ufi h f a x) := if_pos ⟨hl.1, hl.2.2⟩
theorem ok_pz (hl : lv h a (f / 100)) (hx : x = 0 ∨ x = 1) : pz f a x h = some ((), Ufi h f a x) := if_pos ⟨⟨hl.1, hl.2.2⟩, hx⟩
theorem ok_pr (hl : lv h a (f / 100)) : pr f a w h = some ((), Ufr h f a w) := if_pos ⟨hl.1, hl.2.2⟩
theorem ok_li (hl : lv h a 100) (h0 : 0 ≤ j) (h1 : j.toNatClampNeg < Hl h a) : li a j h = some (Hei h a j.toNatClampNeg, h) := if_pos ⟨hl.1, h0, h1, hl.2.2, Nat.ne_of_lt hl.2.1⟩
theorem ok_lb (hl : lv h a 101) (h0 : 0 ≤ j) (h1 : j.toNatClampNeg < Hl h a) : lb a j h = some (Hei h a j.toNatClampNeg, h) := if_pos ⟨hl.1, h0, h1, Or.inl hl.2.2⟩
theorem ok_lz (hl : lv h a 102) (h0 : 0 ≤ j) (h1 : j.toNatClampNeg < Hl h a) : lb a j h = some (Hei h a j.toNatClampNeg, h) := if_pos ⟨hl.1, h0, h1, Or.inr hl.2.2⟩
theorem ok_ll (hl : lv h a 103) (h0 : 0 ≤ j) (h1 : j.toNatClampNeg < Hl h a) : ll a j h = some (Hel h a j.toNatClampNeg, h) := if_pos ⟨hl.1, h0, h1, hl.2.2⟩
theorem ok_lr (hl : lv h a t) (h0 : 0 ≤ j) (h1 : j.toNatClampNeg < Hl h a) : lr t a j h = some (Her h a j.toNatClampNeg, h) := if_pos ⟨hl.1, h0, h1, hl.2.2⟩
theorem ok_si (hl : lv h a 100) (h0 : 0 ≤ j) (h1 : j.toNatClampNeg < Hl h a) : si a j x h = some ((), Uei h a j.toNatClampNeg x) := if_pos ⟨hl.1, h0, h1, hl.2.2⟩
theorem ok_sb (hl : lv h a 101) (h0 : 0 ≤ j) (h1 : j.toNatClampNeg < Hl h a) : sb a j x h = some ((), Uei h a j.toNatClampNeg x.toInt8.toInt32) := by
  unfold sb
  rw [if_pos ⟨hl.1, h0, h1⟩, if_pos (show h.2.2.1 a = 101 from hl.2.2)]
  rfl
theorem ok_sz (hl : lv h a 102) (h0 : 0 ≤ j) (h1 : j.toNatClampNeg < Hl h a) (hx : x = 0 ∨ x = 1) : sb a j x h = some ((), Uei h a j.toNatClampNeg x) := by
  unfold sb
  rw [if_pos ⟨hl.1, h0, h1⟩, if_neg (fun z => by rw [show h.2.2.1 a = 102 from hl.2.2] at z; cases z), if_pos ⟨hl.2.2, hx⟩]
  rfl
theorem ok_sl (hl : lv h a 103) (h0 : 0 ≤ j) (h1 : j.toNatClampNeg < Hl h a) : sl a j u h = some ((), Uel h a j.toNatClampNeg u) := if_pos ⟨hl.1, h0, h1, hl.2.2⟩
theorem ok_sr (hl : lv h a t) (h0 : 0 ≤ j) (h1 : j.toNatClampNeg < Hl h a) (hw : ∀ b, w = some b → lv h b (xt_cp t)) : sr t a j w h = some ((), Uer h a j.toNatClampNeg w) := by
  have hk : xv_ok xt_cp h a w = true := by
    cases w with
    | none => rfl
    | some b => exact decide_eq_true ⟨(hw b rfl).1, by rw [show h.2.2.1 a = t from hl.2.2]; exact (hw b rfl).2.2⟩
  exact if_pos ⟨hl.1, h0, h1, hl.2.2, hk⟩
theorem ok_len {q : Nat} (hl : lv h a t) : len t q a h = some (Int32.ofNat (Hl h a), h) := by
  have n1 : ¬ a = xv_SB := Nat.ne_of_lt hl.2.1
  have n2 : ¬ (a = xv_SB + 2) := fun z => by have := hl.2.1; omega
  unfold len
  rw [if_neg (fun z => n2 z.2.1), if_pos ⟨n1, fun z => n2 z.1, hl.1, hl.2.2⟩]
  rfl
theorem ok_nw {q : Nat} : nw t q h = some (Hn h, Unw h t 0 q) := rfl
theorem ok_na (h0 : 0 ≤ x) (h1 : x.toNatClampNeg ≤ 60000000) : na t x h = some (Hn h, Unw h t x.toNatClampNeg x.toNatClampNeg) := if_pos ⟨h0, h1⟩
theorem ok_ct (hl : lv h a t) : ct t (some a) h = some ((), h) := if_pos ⟨hl.1, hl.2.2⟩
theorem ct_none : ct t none h = some ((), h) := rfl
theorem ok_vc (hl : lv h a t) : vc t a h = some ((), h) := if_pos ⟨hl.1, hl.2.2⟩
theorem ok_gc (hl : lv h a t) : gc t a h = some ((), h) := if_pos ⟨hl.1, hl.2.2⟩
theorem bz_0 : bz 0 h = some ((), h) := rfl
theorem bz_1 : bz 1 h = some ((), h) := rfl
theorem ok_bz (hx : x = 0 ∨ x = 1) : bz x h = some ((), h) := if_pos hx
theorem ok_dz (hx : ¬ x = 0) : dz x h = some ((), h) := if_neg hx
theorem ok_cyi (h1 : lv h s 100) (h2 : lv h d 100) (h3 : 0 ≤ sp) (h4 : 0 ≤ dp) (h5 : 0 ≤ n) (h6 : sp.toNatClampNeg + n.toNatClampNeg ≤ Hl h s) (h7 : dp.toNatClampNeg + n.toNatClampNeg ≤ Hl h d) : cy 100 n dp d sp s h = some ((), Uci h s sp.toNatClampNeg d dp.toNatClampNeg n.toNatClampNeg) := by
  have e : xv_copy xt_cp 100 0 [] h n dp d sp s [] = some (0, [], [], Uci h s sp.toNatClampNeg d dp.toNatClampNeg n.toNatClampNeg) := by
    unfold xv_copy
    rw [if_pos ⟨⟨h1.1, h2.1⟩, ⟨h3, h4, h5⟩, ⟨h6, h7⟩, rfl⟩, if_pos ⟨h1.2.2, h2.2.2, rfl⟩]
    rfl
  unfold cy
  rw [e]
theorem ok_cyr (ht : 104 ≤ t) (h1 : lv h s t) (h2 : lv h d t) (h3 : 0 ≤ sp) (h4 : 0 ≤ dp) (h5 : 0 ≤ n) (h6 : sp.toNatClampNeg + n.toNatClampNeg ≤ Hl h s) (h7 : dp.toNatClampNeg + n.toNatClampNeg ≤ Hl h d) (hw : ∀ i, i < n.toNatClampNeg → ∀ b, Her h s (sp.toNatClampNeg + i) = some b → lv h b (xt_cp t)) : cy t n dp d sp s h = some ((), Ucr h s sp.toNatClampNeg d dp.toNatClampNeg n.toNatClampNeg) := by
  have e : xv_copy xt_cp t 0 [] h n dp d sp s [] = some (0, [], [], Ucr h s sp.toNatClampNeg d dp.toNatClampNeg n.toNatClampNeg) := by
    have hq : ∀ i, i < n.toNatClampNeg → xv_ok xt_cp h d (h.2.2.2.2.2.1 s (sp.toNatClampNeg + i)) = true := by
      intro i hi
      cases hb : Her h s (sp.toNatClampNeg + i) with
      | none => rw [show h.2.2.2.2.2.1 s (sp.toNatClampNeg + i) = none from hb]; rfl
      | some b =>
        rw [show h.2.2.2.2.2.1 s (sp.toNatClampNeg + i) = some b from hb]
        exact decide_eq_true ⟨(hw i hi b hb).1, by rw [show h.2.2.1 d = t from h2.2.2]; exact (hw i hi b hb).2.2⟩
    unfold xv_copy
    rw [if_pos ⟨⟨h1.1, h2.1⟩, ⟨h3, h4, h5⟩, ⟨h6, h7⟩, rfl⟩, if_neg (fun z => by omega), if_pos ⟨h1.2.2, h2.2.2, ht, hq⟩]
    rfl
  unfold cy
  rw [e]
theorem ok_cn (h1 : lv h a 100) : cn a h = some (Hn h, Ucl h a) := by
  have e : xv_clone 0 [] h a [] = some (0, [], [.ref h.1], Ucl h a) := by
    unfold xv_clone
    rw [if_pos ⟨h1.1, h1.2.2, rfl⟩]
    rfl
  unfold cn
  rw [e]
  rfl
/-- goes well, with such an end -/
def tot (p : xm α) (h : xv_H) (Q : α → xv_H → Prop) : Prop := ∃ r h', p h = some (r, h') ∧ Q r h'
theorem tot_mr {x : α} {Q : α → xv_H → Prop} (q : Q x h) : tot (mr x) h Q := ⟨x, h, rfl, q⟩
theorem tot_eq {p : xm α} {x : α} {h1 : xv_H} {Q : α → xv_H → Prop} (e : p h = some (x, h1)) (q : Q x h1) : tot p h Q := ⟨x, h1, e, q⟩
theorem tot_bind {p : xm α} {k : α → xm β} {x : α} {h1 : xv_H} {Q : β → xv_H → Prop} (e : p h = some (x, h1)) (q : tot (k x) h1 Q) : tot (mb p k) h Q := by
  obtain ⟨r, h', e2, q2⟩ := q
  exact ⟨r, h', by rw [mb_some e]; exact e2, q2⟩
theorem tot_mb {p : xm α} {k : α → xm β} {Q1 : α → xv_H → Prop} {Q : β → xv_H → Prop} (t1 : tot p h Q1) (q : ∀ x h1, Q1 x h1 → tot (k x) h1 Q) : tot (mb p k) h Q := by
  obtain ⟨x, h1, e, q1⟩ := t1
  exact tot_bind e (q x h1 q1)
theorem tot_mono {p : xm α} {Q1 Q : α → xv_H → Prop} (t1 : tot p h Q1) (q : ∀ x h1, Q1 x h1 → Q x h1) : tot p h Q := by
  obtain ⟨x, h1, e, q1⟩ := t1
  exact ⟨x, h1, e, q x h1 q1⟩
theorem tot_if {c : Prop} [Decidable c] {A B : xm α} {Q : α → xv_H → Prop} (t1 : c → tot A h Q) (t2 : ¬ c → tot B h Q) : tot (if c then A else B) h Q := by
  by_cases g : c
  · rw [if_pos g]; exact t1 g
  · rw [if_neg g]; exact t2 g
end HOK
