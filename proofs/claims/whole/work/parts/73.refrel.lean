/-! The reference's state on the heap. -/
def zpick (i : Nat) (x y z : Int32) : Int32 := if i = 0 then x else if i = 1 then y else z
def decN (n : Int64) (x y z : Int32) (N : zN) : Prop := N.1 = Int32.ofNat (bf n 0 2) ∧ N.2.2.2.1.length = bf n 2 2 ∧ N.2.1 = Int32.ofNat (bf n 4 7) ∧ N.2.2.1 = Int32.ofNat (bf n 11 7) ∧ (∀ i, i < N.2.2.2.1.length → N.2.2.2.1.getD i 0 = Int32.ofNat (zkey n i)) ∧ (if N.1 = 2 then N.2.2.2.2.length = N.2.2.2.1.length + 1 ∧ ∀ i, i < N.2.2.2.1.length + 1 → N.2.2.2.2.getD i 0 = Int32.ofNat (zchi n i) else N.2.2.2.2.length = N.2.2.2.1.length ∧ ∀ i, i < N.2.2.2.1.length → N.2.2.2.2.getD i 0 = zpick i x y z)
def rG (h : xv_H) (dn : Nat → Bool) : Prop := ∀ p, p < 5 → Hei h 38 p = b2i (dn p)
def rN (h : xv_H) (ce : Nat → Int32 × zN) : Prop := ∀ a, a < 24 → Hei h 40 a = (ce a).1 ∧ decN (Hel h 39 a) (Hei h 41 (3 * a)) (Hei h 41 (3 * a + 1)) (Hei h 41 (3 * a + 2)) (ce a).2
def okIt (h : xv_H) (p : Nat) (i : zI) : Prop := Hei h 46 p = i.1 ∧ Hei h 47 p = Int32.ofNat i.2.1 ∧ (i.1 = 2 ∨ i.1 = 3 → Hei h 48 p = i.2.2.1) ∧ (i.1 = 3 ∨ i.1 = 4 → decN (Hel h 49 p) (Hei h 50 (3 * p)) (Hei h 50 (3 * p + 1)) (Hei h 50 (3 * p + 2)) i.2.2.2)
def rTx (h : xv_H) (n t : Nat) (c : Nat) (its : List zI) : Prop := Hei h 42 t = Int32.ofNat c ∧ Hei h 44 t = Int32.ofNat its.length ∧ ∃ f, Hei h 43 t = Int32.ofNat f ∧ f + its.length ≤ n ∧ ∀ j, j < its.length → okIt h (f + j) (its.getD j zi0)
def rT (h : xv_H) (bg : Nat) (tc : Nat → Nat) (ti : Nat → List zI) (n : Nat) : Prop := Hfi h 904 37 = Int32.ofNat bg ∧ ∀ t, 1 ≤ t → t ≤ bg → rTx h n t (tc t) (ti t)
def rP (h : xv_H) (n : Nat) (P : List zI) : Prop := Hfi h 909 37 = Int32.ofNat (n + P.length) ∧ ∀ j, j < P.length → okIt h (n + j) (P.getD j zi0)
def rR (h : xv_H) (rm : Nat → Nat → Int32) : Prop := ∀ t, t < 513 → ∀ m, m < 3 → Hei h 45 (3 * t + m) = rm t m
def okMs (h : xv_H) (i : Nat) (M : zM) : Prop := Hei h 51 i = M.1 ∧ Hei h 52 i = Int32.ofNat M.2.1 ∧ Hei h 53 i = Int32.ofNat M.2.2.1 ∧ ∀ v, M.2.2.2 = some v → Hei h 54 i = v.1 ∧ decN (Hel h 55 i) (Hei h 56 (3 * i)) (Hei h 56 (3 * i + 1)) (Hei h 56 (3 * i + 2)) v.2
def rQ (h : xv_H) (ms : List zM) : Prop := Hfi h 915 37 = Int32.ofNat ms.length ∧ ms.length ≤ 40 ∧ ∀ i, i < ms.length → okMs h i (ms.getD i zm0)
def amask (an : Nat → Bool) : Int32 := (if an 0 then 1 else 0) + (if an 1 then 2 else 0) + (if an 2 then 4 else 0)
/-- what a row holds at a client -/
def rv (z : zC) (L A : Nat) : Option Int32 :=
  if A = 59 then some (Int32.ofNat (c_hi z)) else if A = 60 then some (if c_st z = 0 then 0 else c_jb z) else if A = 61 then some (c_st z) else if A = 62 then some (if c_st z = 0 then 0 else c_fu z) else if A = 63 then some (c_go z) else if A = 64 then some (c_fr z) else if A = 65 then some (c_up z) else if A = 66 then some (c_wa z) else if A = 67 then (if 2 ≤ L then some (c_re z) else none) else if A = 68 then (if 2 ≤ L then some (b2i (c_fo z)) else none) else if A = 69 then some (Int32.ofNat (c_op z)) else if A = 70 then (if c_op z = 0 then none else some (amask (c_an z))) else if A = 71 then (if c_op z = 0 then none else some (c_sg z)) else if A = 73 then (if 3 ≤ L then some (Int32.ofNat (c_pa z).length) else none) else if A = 74 then (if c_st z = 0 then some 0 else if 1 ≤ L then some (Int32.ofNat (c_lf z).length) else none) else none
def rcp (h : xv_H) (q : Nat) (w : Option (Int32 × zN)) : Prop := match w with
  | none => Hei h 57 q = 0
  | some v => Hei h 57 q = v.1 ∧ 0 < v.1 ∧ v.2.1 = 2 ∧ decN (Hel h 58 q) 0 0 0 v.2
def rC (h : xv_H) (c : Nat) (z : zC) (L : Nat) : Prop := (∀ A x, rv z L A = some x → Hei h A c = x) ∧ (∀ a, a < 24 → rcp h (24 * c + a) (c_cp z a)) ∧ (3 ≤ L → (c_pa z).length ≤ 24 ∧ ∀ i, i < (c_pa z).length → Hei h 72 (24 * c + i) = Int32.ofNat ((c_pa z).getD i 0)) ∧ (2 ≤ L → (c_lf z).length ≤ 6 ∧ ∀ i, i < (c_lf z).length → Hei h 75 (6 * c + i) = Int32.ofNat ((c_lf z).getD i (0, 0)).1 ∧ Hei h 76 (6 * c + i) = ((c_lf z).getD i (0, 0)).2)
def lev (z : zC) : Nat := if c_st z = 0 then 0 else if c_st z = 1 then 3 else if c_st z = 3 then 2 else 1
def RX (h : xv_H) (S : zS) (n : Nat) (P : List zI) (c L : Nat) : Prop := rF h ∧ rG h (s_dn S) ∧ rN h (s_ce S) ∧ rT h (s_bg S) (s_tc S) (s_ti S) n ∧ rP h n P ∧ rR h (s_rm S) ∧ rQ h (s_ms S) ∧ rC h c (s_cl S c) L ∧ ∀ d, d < 2 → ¬ d = c → rC h d (s_cl S d) (lev (s_cl S d))
/-- the rows of each part -/
def KG (a i : Nat) : Prop := a = 38
def KN (a i : Nat) : Prop := a = 39 ∨ a = 40 ∨ a = 41
def KT (n a i : Nat) : Prop := (a = 37 ∧ i = 904) ∨ a = 42 ∨ a = 43 ∨ a = 44 ∨ (46 ≤ a ∧ a < 50 ∧ i < n) ∨ (a = 50 ∧ i < 3 * n)
def KP (n a i : Nat) : Prop := (a = 37 ∧ i = 909) ∨ (46 ≤ a ∧ a < 50 ∧ i < n) ∨ (a = 50 ∧ i < 3 * n)
def KR (a i : Nat) : Prop := a = 45
def KQ (a i : Nat) : Prop := (a = 37 ∧ i = 915) ∨ (51 ≤ a ∧ a ≤ 56)
def KC (c a i : Nat) : Prop := ((a = 57 ∨ a = 58 ∨ a = 72) ∧ 24 * c ≤ i ∧ i < 24 * c + 24) ∨ (59 ≤ a ∧ a ≤ 74 ∧ ¬ a = 72 ∧ i = c) ∨ ((a = 75 ∨ a = 76) ∧ 6 * c ≤ i ∧ i < 6 * c + 6)
section RREL
variable {h h1 h2 : xv_H} {n c d L L2 t m p i : Nat} {S : zS} {P : List zI} {z z2 : zC} {ce : Nat → Int32 × zN} {rm : Nat → Nat → Int32} {dn : Nat → Bool} {ms : List zM} {M : zM} {K : Nat → Nat → Prop} {tc : Nat → Nat} {ti : Nat → List zI} {bg : Nat} {it : zI}
theorem rG_c (e : ag K h h1) (k : ∀ a i, KG a i → K a i) (o : rG h dn) : rG h1 dn := fun p hp => by rw [(ag_e e (k 38 p rfl)).1]; exact o p hp
theorem rN_c (e : ag K h h1) (k : ∀ a i, KN a i → K a i) (o : rN h ce) : rN h1 ce := fun a ha => by
  rw [(ag_e e (k 40 a (Or.inr (Or.inl rfl)))).1, (ag_e e (k 39 a (Or.inl rfl))).2, (ag_e e (k 41 (3 * a) (Or.inr (Or.inr rfl)))).1, (ag_e e (k 41 (3 * a + 1) (Or.inr (Or.inr rfl)))).1, (ag_e e (k 41 (3 * a + 2) (Or.inr (Or.inr rfl)))).1]
  exact o a ha
theorem okIt_c (e : ag K h h1) (k : ∀ a, 46 ≤ a → a < 50 → K a p) (k2 : K 50 (3 * p) ∧ K 50 (3 * p + 1) ∧ K 50 (3 * p + 2)) (o : okIt h p it) : okIt h1 p it := by
  unfold okIt
  rw [(ag_e e (k 46 (by decide) (by decide))).1, (ag_e e (k 47 (by decide) (by decide))).1, (ag_e e (k 48 (by decide) (by decide))).1, (ag_e e (k 49 (by decide) (by decide))).2, (ag_e e k2.1).1, (ag_e e k2.2.1).1, (ag_e e k2.2.2).1]
  exact o
theorem rTx_c {its : List zI} (e : ag K h h1) (k : ∀ a i, KT n a i → K a i) (o : rTx h n t c its) : rTx h1 n t c its := by
  obtain ⟨o1, o2, f, o3, o4, o5⟩ := o
  refine ⟨by rw [(ag_e e (k 42 t (by unfold KT; omega))).1]; exact o1, by rw [(ag_e e (k 44 t (by unfold KT; omega))).1]; exact o2, f, by rw [(ag_e e (k 43 t (by unfold KT; omega))).1]; exact o3, o4, fun j hj => okIt_c e (fun a a1 a2 => k a _ (by unfold KT; omega)) ⟨k _ _ (by unfold KT; omega), k _ _ (by unfold KT; omega), k _ _ (by unfold KT; omega)⟩ (o5 j hj)⟩
theorem rT_c (e : ag K h h1) (k : ∀ a i, KT n a i → K a i) (o : rT h bg tc ti n) : rT h1 bg tc ti n :=
  ⟨by rw [ag_f e (k 37 904 (Or.inl ⟨rfl, rfl⟩))]; exact o.1, fun t t1 t2 => rTx_c e k (o.2 t t1 t2)⟩
theorem rP_c (e : ag K h h1) (k : ∀ a i, KP (n + P.length) a i → K a i) (o : rP h n P) : rP h1 n P :=
  ⟨by rw [ag_f e (k 37 909 (Or.inl ⟨rfl, rfl⟩))]; exact o.1, fun j hj => okIt_c e (fun a a1 a2 => k a _ (by unfold KP; omega)) ⟨k _ _ (by unfold KP; omega), k _ _ (by unfold KP; omega), k _ _ (by unfold KP; omega)⟩ (o.2 j hj)⟩
theorem rR_c (e : ag K h h1) (k : ∀ a i, KR a i → K a i) (o : rR h rm) : rR h1 rm := fun t ht m hm => by rw [(ag_e e (k 45 (3 * t + m) rfl)).1]; exact o t ht m hm
theorem okMs_c (e : ag K h h1) (k : ∀ a i, KQ a i → K a i) (o : okMs h i M) : okMs h1 i M := by
  unfold okMs
  rw [(ag_e e (k 51 i (by unfold KQ; omega))).1, (ag_e e (k 52 i (by unfold KQ; omega))).1, (ag_e e (k 53 i (by unfold KQ; omega))).1, (ag_e e (k 54 i (by unfold KQ; omega))).1, (ag_e e (k 55 i (by unfold KQ; omega))).2, (ag_e e (k 56 (3 * i) (by unfold KQ; omega))).1, (ag_e e (k 56 (3 * i + 1) (by unfold KQ; omega))).1, (ag_e e (k 56 (3 * i + 2) (by unfold KQ; omega))).1]
  exact o
theorem rQ_c (e : ag K h h1) (k : ∀ a i, KQ a i → K a i) (o : rQ h ms) : rQ h1 ms :=
  ⟨by rw [ag_f e (k 37 915 (Or.inl ⟨rfl, rfl⟩))]; exact o.1, o.2.1, fun i hi => okMs_c e k (o.2.2 i hi)⟩
theorem rv_row {A : Nat} {x : Int32} (e : rv z L A = some x) : 59 ≤ A ∧ A ≤ 74 ∧ ¬ A = 72 := by
  unfold rv at e
  by_cases q : 59 ≤ A ∧ A ≤ 74 ∧ ¬ A = 72
  · exact q
  · rw [if_neg (by omega), if_neg (by omega), if_neg (by omega), if_neg (by omega), if_neg (by omega), if_neg (by omega), if_neg (by omega), if_neg (by omega), if_neg (by omega), if_neg (by omega), if_neg (by omega), if_neg (by omega), if_neg (by omega), if_neg (by omega), if_neg (by omega)] at e
    cases e
theorem rcp_c {q : Nat} {w : Option (Int32 × zN)} (e : ag K h h1) (k1 : K 57 q) (k2 : K 58 q) (o : rcp h q w) : rcp h1 q w := by
  unfold rcp
  rw [(ag_e e k1).1, (ag_e e k2).2]
  exact o
theorem rC_c (e : ag K h h1) (k : ∀ a i, KC c a i → K a i) (o : rC h c z L) : rC h1 c z L := by
  obtain ⟨o1, o2, o3, o4⟩ := o
  refine ⟨fun A x hx => ?_, fun a ha => rcp_c e (k _ _ (by unfold KC; omega)) (k _ _ (by unfold KC; omega)) (o2 a ha), fun hL => ⟨(o3 hL).1, fun i hi => ?_⟩, fun hL => ⟨(o4 hL).1, fun i hi => ?_⟩⟩
  · have := rv_row hx
    rw [(ag_e e (k A c (by unfold KC; omega))).1]; exact o1 A x hx
  · have := (o3 hL).1
    rw [(ag_e e (k 72 (24 * c + i) (by unfold KC; omega))).1]; exact (o3 hL).2 i hi
  · have := (o4 hL).1
    rw [(ag_e e (k 75 (6 * c + i) (by unfold KC; omega))).1, (ag_e e (k 76 (6 * c + i) (by unfold KC; omega))).1]; exact (o4 hL).2 i hi
theorem rv_le {A : Nat} {x : Int32} (hL : L2 ≤ L) (e : rv z L2 A = some x) : rv z L A = some x := by
  rw [← e]
  unfold rv at *
  by_cases a : A = 67
  · subst a
    by_cases q : 2 ≤ L2
    · simp [q, show 2 ≤ L by omega]
    · simp [q] at e
  · by_cases b : A = 68
    · subst b
      by_cases q : 2 ≤ L2
      · simp [q, show 2 ≤ L by omega]
      · simp [q] at e
    · by_cases d : A = 73
      · subst d
        by_cases q : 3 ≤ L2
        · simp [q, show 3 ≤ L by omega]
        · simp [q] at e
      · by_cases f : A = 74
        · subst f
          by_cases q : 1 ≤ L2
          · simp [q, show 1 ≤ L by omega]
          · by_cases s : c_st z = 0
            · simp [s]
            · simp [q, s] at e
        · simp [a, b, d, f]
theorem rC_le (hL : L2 ≤ L) (o : rC h c z L) : rC h c z L2 := ⟨fun A x hx => o.1 A x (rv_le hL hx), o.2.1, fun q => o.2.2.1 (by omega), fun q => o.2.2.2 (by omega)⟩
/-- everything but a client's part is as it was -/
def agC (c : Nat) (h h1 : xv_H) : Prop := ag (fun a i => ¬ KC c a i) h h1
theorem RX_cl (hc : c < 2) (e : agC c h h1) (o : RX h S n P c L) (o2 : rC h1 c z L2) : RX h1 (s_cl_ S (fset (s_cl S) c z)) n P c L2 := by
  obtain ⟨q1, q2, q3, q4, q5, q6, q7, q8, q9⟩ := o
  refine ⟨ag_rF e q1, ?_, ?_, ?_, ?_, ?_, ?_, ?_, ?_⟩
  · rw [s_dn_cl]; exact rG_c e (fun a i q => by unfold KG at q; unfold KC; omega) q2
  · rw [s_ce_cl]; exact rN_c e (fun a i q => by unfold KN at q; unfold KC; omega) q3
  · rw [s_bg_cl, s_tc_cl, s_ti_cl]; exact rT_c e (fun a i q => by unfold KT at q; unfold KC; omega) q4
  · exact rP_c e (fun a i q => by unfold KP at q; unfold KC; omega) q5
  · rw [s_rm_cl]; exact rR_c e (fun a i q => by unfold KR at q; unfold KC; omega) q6
  · rw [s_ms_cl]; exact rQ_c e (fun a i q => by unfold KQ at q; unfold KC; omega) q7
  · rw [s_cl_cl, fset_eq, if_pos rfl]; exact o2
  · intro d hd hn
    rw [s_cl_cl, fset_eq, if_neg hn]
    exact rC_c e (fun a i q => by unfold KC at q; unfold KC; omega) (q9 d hd hn)
/-- a client's row is set -/
theorem rC_set {A : Nat} {x : Int32} (hA : 59 ≤ A ∧ A ≤ 74 ∧ ¬ A = 72) (o : rC h c z L) (ho : ∀ B y, ¬ B = A → rv z2 L2 B = some y → rv z L B = some y) (hx : ∀ y, rv z2 L2 A = some y → y = x) (hcp : c_cp z2 = c_cp z) (hpa : 3 ≤ L2 → (3 ≤ L ∧ c_pa z2 = c_pa z) ∨ c_pa z2 = []) (hlf : 2 ≤ L2 → (2 ≤ L ∧ c_lf z2 = c_lf z) ∨ c_lf z2 = []) : agC c h (Uei h A c x) ∧ rC (Uei h A c x) c z2 L2 := by
  obtain ⟨o1, o2, o3, o4⟩ := o
  have e : agC c h (Uei h A c x) := ag_ei (by omega) (fun q => q (by unfold KC; omega))
  refine ⟨e, fun B y hy => ?_, fun a ha => ?_, fun hL => ?_, fun hL => ?_⟩
  · rw [Hei_Uei]
    by_cases q : B = A
    · rw [if_pos ⟨q, rfl⟩]
      rw [q] at hy
      exact (hx y hy).symm
    · rw [if_neg (fun z => q z.1)]
      exact o1 B y (ho B y q hy)
  · rw [hcp]
    have := o2 a ha
    unfold rcp at *
    rw [Hei_Uei, if_neg (by omega), Hel_Uei]
    exact this
  · rcases hpa hL with ⟨q1, q2⟩ | q
    · rw [q2]
      refine ⟨(o3 q1).1, fun i hi => ?_⟩
      rw [Hei_Uei, if_neg (by omega)]
      exact (o3 q1).2 i hi
    · rw [q]; exact ⟨by decide, fun i hi => by cases hi⟩
  · rcases hlf hL with ⟨q1, q2⟩ | q
    · rw [q2]
      refine ⟨(o4 q1).1, fun i hi => ?_⟩
      rw [Hei_Uei, if_neg (by omega), Hei_Uei, if_neg (by omega)]
      exact (o4 q1).2 i hi
    · rw [q]; exact ⟨by decide, fun i hi => by cases hi⟩
end RREL
