/-! Ints that are counts; what is kept from heap to heap; rows of ints. -/
section INTS
variable {a b : Nat}
theorem i_toInt (h : a < 2147483648) : (Int32.ofNat a).toInt = (a : Int) := nI_toInt (n := a) h
theorem i_nat (h : a < 2147483648) : (Int32.ofNat a).toNatClampNeg = a := by
  have e := i_toInt h
  show (Int32.ofNat a).toInt.toNat = a
  rw [e]; rfl
theorem i_le (ha : a < 2147483648) (hb : b < 2147483648) : (Int32.ofNat a ≤ Int32.ofNat b) ↔ a ≤ b := by
  rw [Int32.le_iff_toInt_le, i_toInt ha, i_toInt hb]; omega
theorem i_lt (ha : a < 2147483648) (hb : b < 2147483648) : (Int32.ofNat a < Int32.ofNat b) ↔ a < b := by
  rw [Int32.lt_iff_toInt_lt, i_toInt ha, i_toInt hb]; omega
theorem i_eq (ha : a < 2147483648) (hb : b < 2147483648) : (Int32.ofNat a = Int32.ofNat b) ↔ a = b := by
  constructor
  · intro e
    have e2 := congrArg Int32.toInt e
    rw [i_toInt ha, i_toInt hb] at e2; omega
  · intro e; rw [e]
theorem i_nn (ha : a < 2147483648) : (0 : Int32) ≤ Int32.ofNat a := (i_le (a := 0) (by decide) ha).mpr (Nat.zero_le _)
theorem i_nn0 (ha : a < 2147483648) : ¬ (Int32.ofNat a < (0 : Int32)) := fun z => by have := (i_lt (b := 0) ha (by decide)).mp z; omega
theorem i_add : Int32.ofNat a + Int32.ofNat b = Int32.ofNat (a + b) := (Int32.ofNat_add a b).symm
theorem i_add1 : Int32.ofNat a + 1 = Int32.ofNat (a + 1) := (Int32.ofNat_add a 1).symm
theorem i_sub (h : b ≤ a) (ha : a < 2147483648) : Int32.ofNat a - Int32.ofNat b = Int32.ofNat (a - b) := by
  have e : Int32.ofNat a = Int32.ofNat (a - b) + Int32.ofNat b := by rw [i_add]; congr 1; omega
  rw [e, Int32.add_sub_cancel]
theorem i_sub1 (h : 1 ≤ a) (ha : a < 2147483648) : Int32.ofNat a - 1 = Int32.ofNat (a - 1) := i_sub (b := 1) h ha
end INTS
/-- kept but for some fields and rows; at most so many new cells -/
def ext (k : Nat) (Xf : Nat → Nat → Prop) (Xa : Nat → Prop) (h h' : xv_H) : Prop :=
  (Hn h ≤ Hn h' ∧ Hn h' ≤ Hn h + k ∧ Hz h' ≤ Hz h + 80 * k) ∧ (∀ a, a < Hn h → Ht h' a = Ht h a ∧ Hl h' a = Hl h a) ∧ (∀ f a, a < Hn h → ¬ Xf f a → Hfr h' f a = Hfr h f a ∧ Hfi h' f a = Hfi h f a) ∧ (∀ a i, a < Hn h → ¬ Xa a → Her h' a i = Her h a i ∧ Hei h' a i = Hei h a i ∧ Hel h' a i = Hel h a i)
def Xf0 : Nat → Nat → Prop := fun _ _ => False
def Xa0 : Nat → Prop := fun _ => False
section EXT
variable {k k1 k2 : Nat} {Xf Yf : Nat → Nat → Prop} {Xa Ya : Nat → Prop} {h h1 h2 : xv_H}
theorem ext_refl : ext 0 Xf Xa h h := ⟨⟨Nat.le_refl _, Nat.le_refl _, Nat.le_refl _⟩, fun _ _ => ⟨rfl, rfl⟩, fun _ _ _ _ => ⟨rfl, rfl⟩, fun _ _ _ _ => ⟨rfl, rfl, rfl⟩⟩
theorem ext_trans (e1 : ext k1 Xf Xa h h1) (e2 : ext k2 Xf Xa h1 h2) : ext (k1 + k2) Xf Xa h h2 := by
  obtain ⟨⟨a1, a2, a3⟩, b, c, d⟩ := e1
  obtain ⟨⟨p1, p2, p3⟩, q, r, s⟩ := e2
  refine ⟨⟨by omega, by omega, by omega⟩, ?_, ?_, ?_⟩
  · intro a ha
    have := q a (by omega)
    exact ⟨this.1.trans (b a ha).1, this.2.trans (b a ha).2⟩
  · intro f a ha hx
    have := r f a (by omega) hx
    exact ⟨this.1.trans (c f a ha hx).1, this.2.trans (c f a ha hx).2⟩
  · intro a i ha hx
    have := s a i (by omega) hx
    have t := d a i ha hx
    exact ⟨this.1.trans t.1, this.2.1.trans t.2.1, this.2.2.trans t.2.2⟩
theorem ext_mono (e1 : ext k1 Xf Xa h h1) (hk : k1 ≤ k2) (hf : ∀ f a, Xf f a → Yf f a) (ha : ∀ a, Xa a → Ya a) : ext k2 Yf Ya h h1 := by
  obtain ⟨⟨a1, a2, a3⟩, b, c, d⟩ := e1
  exact ⟨⟨a1, by omega, by omega⟩, b, fun f a g x => c f a g (fun z => x (hf f a z)), fun a i g x => d a i g (fun z => x (ha a z))⟩
theorem ext_le (e1 : ext k1 Xf Xa h h1) (hk : k1 ≤ k2) : ext k2 Xf Xa h h1 := ext_mono e1 hk (fun _ _ z => z) (fun _ z => z)
/-- from nothing changed to something changed -/
theorem ext_any (e1 : ext k1 Xf0 Xa0 h h1) : ext k1 Xf Xa h h1 := ext_mono e1 (Nat.le_refl _) (fun _ _ z => z.elim) (fun _ z => z.elim)
theorem ext_fi {f a : Nat} {x : Int32} (hx : Xf f a) : ext 0 Xf Xa h (Ufi h f a x) := by
  refine ⟨⟨Nat.le_refl _, Nat.le_refl _, Nat.le_refl _⟩, fun _ _ => ⟨rfl, rfl⟩, fun g b _ n => ⟨rfl, ?_⟩, fun _ _ _ _ => ⟨rfl, rfl, rfl⟩⟩
  rw [Hfi_Ufi, if_neg]
  intro z; apply n; rw [z.1, z.2]; exact hx
theorem ext_fr {f a : Nat} {x : Option Nat} (hx : Xf f a) : ext 0 Xf Xa h (Ufr h f a x) := by
  refine ⟨⟨Nat.le_refl _, Nat.le_refl _, Nat.le_refl _⟩, fun _ _ => ⟨rfl, rfl⟩, fun g b _ n => ⟨?_, rfl⟩, fun _ _ _ _ => ⟨rfl, rfl, rfl⟩⟩
  rw [Hfr_Ufr, if_neg]
  intro z; apply n; rw [z.1, z.2]; exact hx
theorem ext_er {a j : Nat} {x : Option Nat} (hx : Xa a) : ext 0 Xf Xa h (Uer h a j x) := by
  refine ⟨⟨Nat.le_refl _, Nat.le_refl _, Nat.le_refl _⟩, fun _ _ => ⟨rfl, rfl⟩, fun g b _ n => ⟨rfl, rfl⟩, fun b i _ n => ⟨?_, rfl, rfl⟩⟩
  rw [Her_Uer, if_neg]
  intro z; apply n; rw [z.1]; exact hx
theorem ext_ei {a j : Nat} {x : Int32} (hx : Xa a) : ext 0 Xf Xa h (Uei h a j x) := by
  refine ⟨⟨Nat.le_refl _, Nat.le_refl _, Nat.le_refl _⟩, fun _ _ => ⟨rfl, rfl⟩, fun g b _ n => ⟨rfl, rfl⟩, fun b i _ n => ⟨rfl, ?_, rfl⟩⟩
  rw [Hei_Uei, if_neg]
  intro z; apply n; rw [z.1]; exact hx
theorem ext_el {a j : Nat} {x : Int64} (hx : Xa a) : ext 0 Xf Xa h (Uel h a j x) := by
  refine ⟨⟨Nat.le_refl _, Nat.le_refl _, Nat.le_refl _⟩, fun _ _ => ⟨rfl, rfl⟩, fun g b _ n => ⟨rfl, rfl⟩, fun b i _ n => ⟨rfl, rfl, ?_⟩⟩
  rw [Hel_Uel, if_neg]
  intro z; apply n; rw [z.1]; exact hx
theorem ext_ci {s sp d dp n : Nat} (hx : Xa d) : ext 0 Xf Xa h (Uci h s sp d dp n) := by
  refine ⟨⟨Nat.le_refl _, Nat.le_refl _, Nat.le_refl _⟩, fun _ _ => ⟨rfl, rfl⟩, fun g b _ n => ⟨rfl, rfl⟩, fun b i _ nx => ⟨rfl, ?_, rfl⟩⟩
  rw [Hei_Uci, if_neg]
  intro z; apply nx; rw [z.1]; exact hx
theorem ext_cr {s sp d dp n : Nat} (hx : Xa d) : ext 0 Xf Xa h (Ucr h s sp d dp n) := by
  refine ⟨⟨Nat.le_refl _, Nat.le_refl _, Nat.le_refl _⟩, fun _ _ => ⟨rfl, rfl⟩, fun g b _ n => ⟨rfl, rfl⟩, fun b i _ nx => ⟨?_, rfl, rfl⟩⟩
  rw [Her_Ucr, if_neg]
  intro z; apply nx; rw [z.1]; exact hx
theorem ext_nw {t m q : Nat} (hq : q ≤ 80) : ext 1 Xf Xa h (Unw h t m q) := by
  refine ⟨⟨Nat.le_succ _, Nat.le_refl _, by rw [Hz_Unw]; omega⟩, fun a g => ?_, fun f a g n => ?_, fun a i g n => ?_⟩
  · have n : ¬ a = Hn h := Nat.ne_of_lt g
    rw [Ht_Unw, Hl_Unw, if_neg n, if_neg n]; exact ⟨rfl, rfl⟩
  · have n : ¬ a = Hn h := Nat.ne_of_lt g
    rw [Hfr_Unw, Hfi_Unw, if_neg n, if_neg n]; exact ⟨rfl, rfl⟩
  · have n : ¬ a = Hn h := Nat.ne_of_lt g
    rw [Her_Unw, Hei_Unw, Hel_Unw, if_neg n, if_neg n, if_neg n]; exact ⟨rfl, rfl, rfl⟩
theorem ext_cl {c : Nat} (hq : Hl h c ≤ 80) : ext 1 Xf Xa h (Ucl h c) := by
  refine ⟨⟨Nat.le_succ _, Nat.le_refl _, by rw [Hz_Ucl]; omega⟩, fun a g => ?_, fun f a g n => ?_, fun a i g n => ?_⟩
  · have n : ¬ a = Hn h := Nat.ne_of_lt g
    rw [Ht_Ucl, Hl_Ucl, if_neg n, if_neg n]; exact ⟨rfl, rfl⟩
  · have n : ¬ a = Hn h := Nat.ne_of_lt g
    rw [Hfr_Ucl, Hfi_Ucl, if_neg n, if_neg n]; exact ⟨rfl, rfl⟩
  · have n : ¬ a = Hn h := Nat.ne_of_lt g
    rw [Her_Ucl, Hei_Ucl, Hel_Ucl, if_neg n, if_neg n, if_neg n]; exact ⟨rfl, rfl, rfl⟩
/-- what is done to a cell made since counts for nothing -/
theorem ext_new (e0 : ext k1 Xf Xa h h1) (e1 : ext k2 (fun f a => Xf f a ∨ Hn h ≤ a) (fun a => Xa a ∨ Hn h ≤ a) h1 h2) : ext (k1 + k2) Xf Xa h h2 := by
  obtain ⟨⟨a1, a2, a3⟩, b, c, d⟩ := e0
  obtain ⟨⟨p1, p2, p3⟩, q, r, s⟩ := e1
  refine ⟨⟨by omega, by omega, by omega⟩, ?_, ?_, ?_⟩
  · intro a ha
    have := q a (by omega)
    exact ⟨this.1.trans (b a ha).1, this.2.trans (b a ha).2⟩
  · intro f a ha hx
    have := r f a (by omega) (fun z => z.elim hx (fun z => by omega))
    exact ⟨this.1.trans (c f a ha hx).1, this.2.trans (c f a ha hx).2⟩
  · intro a i ha hx
    have := s a i (by omega) (fun z => z.elim hx (fun z => by omega))
    have t := d a i ha hx
    exact ⟨this.1.trans t.1, this.2.1.trans t.2.1, this.2.2.trans t.2.2⟩
/-- changes at the end: of what may be changed, or of what was made since -/
theorem ext_trS (e0 : ext k1 Xf Xa h h1) (e1 : ext k2 Yf Ya h1 h2) (hf : ∀ f a, Yf f a → Xf f a ∨ Hn h ≤ a) (ha : ∀ a, Ya a → Xa a ∨ Hn h ≤ a) : ext (k1 + k2) Xf Xa h h2 := ext_new e0 (ext_mono e1 (Nat.le_refl _) hf ha)
theorem ext_fiS {f a : Nat} {x : Int32} (e : ext k Xf Xa h h1) (hx : Xf f a ∨ Hn h ≤ a) : ext k Xf Xa h (Ufi h1 f a x) := ext_new (k2 := 0) e (ext_fi hx)
theorem ext_frS {f a : Nat} {x : Option Nat} (e : ext k Xf Xa h h1) (hx : Xf f a ∨ Hn h ≤ a) : ext k Xf Xa h (Ufr h1 f a x) := ext_new (k2 := 0) e (ext_fr hx)
theorem ext_erS {a j : Nat} {x : Option Nat} (e : ext k Xf Xa h h1) (hx : Xa a ∨ Hn h ≤ a) : ext k Xf Xa h (Uer h1 a j x) := ext_new (k2 := 0) e (ext_er hx)
theorem ext_eiS {a j : Nat} {x : Int32} (e : ext k Xf Xa h h1) (hx : Xa a ∨ Hn h ≤ a) : ext k Xf Xa h (Uei h1 a j x) := ext_new (k2 := 0) e (ext_ei hx)
theorem ext_elS {a j : Nat} {x : Int64} (e : ext k Xf Xa h h1) (hx : Xa a ∨ Hn h ≤ a) : ext k Xf Xa h (Uel h1 a j x) := ext_new (k2 := 0) e (ext_el hx)
theorem ext_ciS {s sp d dp n : Nat} (e : ext k Xf Xa h h1) (hx : Xa d ∨ Hn h ≤ d) : ext k Xf Xa h (Uci h1 s sp d dp n) := ext_new (k2 := 0) e (ext_ci hx)
theorem ext_crS {s sp d dp n : Nat} (e : ext k Xf Xa h h1) (hx : Xa d ∨ Hn h ≤ d) : ext k Xf Xa h (Ucr h1 s sp d dp n) := ext_new (k2 := 0) e (ext_cr hx)
theorem ext_nwS {t m q : Nat} (e : ext k Xf Xa h h1) (hq : q ≤ 80) : ext (k + 1) Xf Xa h (Unw h1 t m q) := ext_trans e (ext_nw hq)
theorem lv_ext {a t : Nat} (e : ext k Xf Xa h h1) (l : lv h a t) : lv h1 a t := ⟨Nat.lt_of_lt_of_le l.1 e.1.1, l.2.1, (e.2.1 a l.1).1.trans l.2.2⟩
theorem lv_Unw {t m q : Nat} (hb : Hn h < xv_SB) : lv (Unw h t m q) (Hn h) t := ⟨Nat.lt_succ_self _, hb, by rw [Ht_Unw, if_pos rfl]⟩
end EXT
/-- a row of ints -/
def okA (h : xv_H) (a : Nat) (l : List Int32) : Prop := lv h a 100 ∧ Hl h a = l.length ∧ ∀ i, i < l.length → Hei h a i = l.getD i 0
/-- not one of the rows that are written -/
def im (a : Nat) : Prop := (a = 2 ∨ a = 3 ∨ a = 20 ∨ a = 21) ∨ 77 ≤ a
theorem okA_ext {k : Nat} {Xf : Nat → Nat → Prop} {Xa : Nat → Prop} {h h1 : xv_H} {a : Nat} {l : List Int32} (e : ext k Xf Xa h h1) (hx : ¬ Xa a) (o : okA h a l) : okA h1 a l :=
  ⟨lv_ext e o.1, (e.2.1 a o.1.1).2.trans o.2.1, fun i hi => ((e.2.2.2 a i o.1.1 hx).2.1).trans (o.2.2 i hi)⟩
