/-! The class's state on the heap. -/
def kT (h : xv_H) (bg : Nat) : Prop := (lv h 0 0 ∧ Hfr h 0 0 = some 5 ∧ Hfr h 1 0 = some 22 ∧ Hfr h 2 0 = some 35 ∧ Hfr h 3 0 = some 36 ∧ Hfi h 4 0 = Int32.ofNat bg) ∧ (lv h 5 104 ∧ Hl h 5 = 3 ∧ ∀ m, m < 3 → Her h 5 m = some (6 + 4 * m)) ∧ (lv h 22 105 ∧ Hl h 22 = 2 ∧ ∀ c, c < 2 → Her h 22 c = some (23 + 6 * c))
def kK (h : xv_H) (T : zT) (c : Nat) (dn : Bool) (z : zC) : Prop := ∃ e a, cs h (23 + 6 * c) c z (e, some (xv_SB + 11), a, none) ∧ (¬ c_op z = 0 → a = some (xv_SB + 11 + (c_sg z).toNatClampNeg)) ∧ Hfi h 107 (23 + 6 * c) = b2i (!dn) ∧ Hfr h 111 (23 + 6 * c) = (if c_op z = 0 then none else some (T (c_op z))) ∧ (¬ c_op z = 0 → okAn h (T (c_op z)) (c_an z))
def kB (h : xv_H) (T : zT) (bg : Nat) : Prop := lv h 36 106 ∧ Hl h 36 = 513 ∧ ∀ t, 1 ≤ t → t ≤ bg → Her h 36 t = some (T t)
def kX (h : xv_H) (T : zT) (bg : Nat) (tc : Nat → Nat) (ti : Nat → List zI) : Prop := ∀ t, 1 ≤ t → t ≤ bg → 77 ≤ T t ∧ okTx h (T t) (tc t) t (ti t)
def CR (h : xv_H) (S : zS) (T : zT) : Prop := kT h (s_bg S) ∧ (∀ m, m < 3 → kM h m (!(s_dn S m)) (s_ce S) (s_lk S) (s_rm S)) ∧ (∀ c, c < 2 → kK h T c (s_dn S (3 + c)) (s_cl S c)) ∧ kB h T (s_bg S) ∧ kX h T (s_bg S) (s_tc S) (s_ti S) ∧ kQ h T (s_ms S)
/-- what moves nothing that has been made -/
def sf (h : xv_H) (Xf : Nat → Nat → Prop) (Xa : Nat → Prop) : Prop := calm h Xf Xa ∧ (∀ f b, 400 ≤ f → f < 406 → ¬ Xf f b) ∧ (∀ a, 77 ≤ a → Ht h a = 107 ∨ Ht h a = 102 → ¬ Xa a)
section CLS
variable {h h1 h2 : xv_H} {F f x y c t m n K bg : Nat} {T : zT} {S : zS} {z : zC} {dn : Bool} {tc : Nat → Nat} {ti : Nat → List zI} {Xf : Nat → Nat → Prop} {Xa : Nat → Prop}
theorem kT_c (ex : ext K Xf Xa h h1) (hf : ∀ f, f < 10 → ¬ Xf f 0) (ha : ¬ Xa 5 ∧ ¬ Xa 22) (o : kT h bg) : kT h1 bg := by
  obtain ⟨⟨p1, p2, p3, p4, p5, p6⟩, ⟨q1, q2, q3⟩, ⟨r1, r2, r3⟩⟩ := o
  have g : ∀ f, f < 10 → Hfr h1 f 0 = Hfr h f 0 ∧ Hfi h1 f 0 = Hfi h f 0 := fun f f1 => ex.2.2.1 f _ p1.1 (hf f f1)
  refine ⟨⟨lv_ext ex p1, (g 0 (by decide)).1.trans p2, (g 1 (by decide)).1.trans p3, (g 2 (by decide)).1.trans p4, (g 3 (by decide)).1.trans p5, (g 4 (by decide)).2.trans p6⟩, ⟨lv_ext ex q1, (ex.2.1 _ q1.1).2.trans q2, fun m hm => (ex.2.2.2 _ _ q1.1 ha.1).1.trans (q3 m hm)⟩, ⟨lv_ext ex r1, (ex.2.1 _ r1.1).2.trans r2, fun m hm => (ex.2.2.2 _ _ r1.1 ha.2).1.trans (r3 m hm)⟩⟩
theorem kB_c (ex : ext K Xf Xa h h1) (ha : ¬ Xa 36) (o : kB h T bg) : kB h1 T bg :=
  ⟨lv_ext ex o.1, (ex.2.1 _ o.1.1).2.trans o.2.1, fun t t1 t2 => (ex.2.2.2 _ _ o.1.1 ha).1.trans (o.2.2 t t1 t2)⟩
theorem kX_c (ex : ext K Xf Xa h h1) (sa : sf h Xf Xa) (o : kX h T bg tc ti) : kX h1 T bg tc ti := by
  intro t t1 t2
  obtain ⟨q1, q2⟩ := o t t1 t2
  exact ⟨q1, okTx_c ex sa.1 (fun f f1 f2 => sa.2.1 f _ f1 f2) (sa.2.2 _ (by omega) (Or.inl q2.1.2.1.1.2.2)) (sa.2.2 _ (by omega) (Or.inr q2.1.2.2.1.1.2.2)) q2⟩
theorem kK_c (ex : ext K Xf Xa h h1) (sa : sf h Xf Xa) (hf : ∀ f b, (b = 23 + 6 * c ∨ b = 23 + 6 * c + 2) → f < 300 → ¬ Xf f b) (ha : ∀ b, 23 + 6 * c < b → b < 23 + 6 * c + 6 → ¬ Xa b) (hx : ¬ c_op z = 0 → 77 ≤ T (c_op z) ∧ okTx h (T (c_op z)) n t (ti t)) (o : kK h T c dn z) : kK h1 T c dn z := by
  obtain ⟨e, a, o1, o2, o3, o4, o5⟩ := o
  have hl := cs_lt o1
  refine ⟨e, a, cs_c ex sa.1 hf ⟨ha _ (by omega) (by omega), ha _ (by omega) (by omega), ha _ (by omega) (by omega), ha _ (by omega) (by omega)⟩ o1, o2, (ex.2.2.1 _ _ (by omega) (hf 107 _ (Or.inl rfl) (by decide))).2.trans o3, (ex.2.2.1 _ _ (by omega) (hf 111 _ (Or.inl rfl) (by decide))).1.trans o4, fun q => ?_⟩
  obtain ⟨q1, q2⟩ := hx q
  exact okAn_c ex q2.1.2.2.2.1.1 (sa.2.2 _ (by omega) (Or.inr q2.1.2.2.2.1.2.2)) (o5 q)
/-- the open transaction of a client is one that has begun -/
def opOK (S : zS) : Prop := ∀ c, c < 2 → c_op (s_cl S c) ≤ s_bg S
theorem cr_hx (o : CR h S T) (w : opOK S) (hc : c < 2) (q : ¬ c_op (s_cl S c) = 0) : 77 ≤ T (c_op (s_cl S c)) ∧ okTx h (T (c_op (s_cl S c))) (s_tc S (c_op (s_cl S c))) (c_op (s_cl S c)) (s_ti S (c_op (s_cl S c))) := o.2.2.2.2.1 _ (by omega) (w c hc)
theorem sfM (hm : m < 3) : sf h Xf0 (XaM m) := ⟨calmM hm, fun _ _ _ _ q => q, fun a h _ q => by unfold XaM at q; omega⟩
theorem sfQ : sf h XfQ (isQ h) := ⟨calmQ, fun f b f1 f2 q => by have := q.2; omega, fun a h1 h2 q => by have := q.2; omega⟩
def XfK (B : Nat) : Nat → Nat → Prop := fun f a => (a = B ∧ 104 ≤ f ∧ f < 113) ∨ (a = B + 2 ∧ 202 ≤ f ∧ f < 211)
theorem XfC_K {B f a : Nat} (q : XfC B f a) : XfK B f a := by unfold XfC at q; unfold XfK; omega
theorem sfK (hc : c < 2) : sf h (XfK (23 + 6 * c)) (XaC (23 + 6 * c)) := by
  refine ⟨⟨fun f a f1 f2 q => by unfold XfK at q; omega, fun a i _ q => by unfold im at i; unfold XaC at q; omega⟩, fun f b f1 f2 q => by unfold XfK at q; omega, fun a h1 _ q => by unfold XaC at q; omega⟩
/-- messages changed -/
theorem CR_q {ms : List zM} (E : ext K XfQ (isQ h) h h1) (w : opOK S) (o : CR h S T) (q : kQ h1 T ms) : CR h1 (s_ms_ S ms) T := by
  obtain ⟨o1, o2, o3, o4, o5, o6⟩ := id o
  have nq : ∀ a, a < 77 → ¬ isQ h a := fun a ha q => by have := q.1; omega
  refine ⟨?_, ?_, ?_, ?_, ?_, q⟩
  · rw [s_bg_ms]; exact kT_c E (fun f hf q => by have := q.2; omega) ⟨nq _ (by decide), nq _ (by decide)⟩ o1
  · intro m hm
    rw [s_dn_ms, s_ce_ms, s_lk_ms, s_rm_ms]
    exact kM_c E calmQ (fun f hf q => by have := q.2; omega) ⟨nq _ (by omega), nq _ (by omega), nq _ (by omega)⟩ (o2 m hm)
  · intro c hc
    rw [s_dn_ms, s_cl_ms]
    exact kK_c (ti := s_ti S) E sfQ (fun f b _ hf q => by have := q.2; omega) (fun b _ _ => nq _ (by omega)) (cr_hx o w hc) (o3 c hc)
  · rw [s_bg_ms]; exact kB_c E (nq _ (by decide)) o4
  · rw [s_bg_ms, s_tc_ms, s_ti_ms]; exact kX_c E sfQ o5
/-- a client changed -/
theorem CR_k {z : zC} {dn : Nat → Bool} (hc : c < 2) (E : ext K (XfK (23 + 6 * c)) (XaC (23 + 6 * c)) h h1) (w : opOK S) (o : CR h S T) (hdn : ∀ p, ¬ p = 3 + c → dn p = s_dn S p) (q : kK h1 T c (dn (3 + c)) z) : CR h1 (s_dn_ (s_cl_ S (fset (s_cl S) c z)) dn) T := by
  obtain ⟨o1, o2, o3, o4, o5, o6⟩ := id o
  have sk := sfK (h := h) hc
  refine ⟨?_, ?_, ?_, ?_, ?_, ?_⟩
  · rw [s_bg_dn, s_bg_cl]; exact kT_c E (fun f hf q => by unfold XfK at q; omega) ⟨by unfold XaC; omega, by unfold XaC; omega⟩ o1
  · intro m hm
    rw [s_dn_dn, s_ce_dn, s_lk_dn, s_rm_dn, s_ce_cl, s_lk_cl, s_rm_cl, hdn m (by omega)]
    exact kM_c E sk.1 (fun f hf q => by unfold XfK at q; omega) ⟨by unfold XaC; omega, by unfold XaC; omega, by unfold XaC; omega⟩ (o2 m hm)
  · intro d hd
    rw [s_dn_dn, s_cl_dn, s_cl_cl, fset_eq]
    by_cases e : d = c
    · rw [if_pos e, e]; exact q
    · rw [if_neg e, hdn _ (by omega)]
      exact kK_c (ti := s_ti S) E sk (fun f b hb hf q => by unfold XfK at q; omega) (fun b b1 b2 => by unfold XaC; omega) (cr_hx o w hd) (o3 d hd)
  · rw [s_bg_dn, s_bg_cl]; exact kB_c E (by unfold XaC; omega) o4
  · rw [s_bg_dn, s_tc_dn, s_ti_dn, s_bg_cl, s_tc_cl, s_ti_cl]; exact kX_c E sk o5
  · rw [s_ms_dn, s_ms_cl]; exact kQ_c E sk.1 (fun f hf q => by unfold XfK at q; omega) (fun a ha q => by have := ha.1; unfold XaC at q; omega) o6
theorem kM_ag {u : Bool} {ce ce2 : Nat → Int32 × zN} {lk lk2 : Nat → Nat} {rm rm2 : Nat → Nat → Int32} (o : kM h m u ce lk rm) (e1 : ∀ i, i < 8 → ce2 (8 * m + i) = ce (8 * m + i)) (e2 : ∀ i, i < 8 → lk2 (8 * m + i) = lk (8 * m + i)) (e3 : ∀ t, t < 513 → rm2 t m = rm t m) : kM h m u ce2 lk2 rm2 := by
  obtain ⟨p, q, r1, r2, r3⟩ := o
  exact ⟨p, q, fun i hi => by rw [e1 i hi]; exact r1 i hi, fun i hi => by rw [e2 i hi]; exact r2 i hi, fun t ht => by rw [e3 t ht]; exact r3 t ht⟩
/-- a memory node changed -/
theorem CR_m {ce : Nat → Int32 × zN} {lk : Nat → Nat} {rm : Nat → Nat → Int32} (hm : m < 3) (E : ext K Xf0 (XaM m) h h1) (w : opOK S) (o : CR h S T) (q : kM h1 m (!(s_dn S m)) ce lk rm) (e1 : ∀ a, ¬ a / 8 = m → ce a = s_ce S a) (e2 : ∀ a, ¬ a / 8 = m → lk a = s_lk S a) (e3 : ∀ t p, ¬ p = m → rm t p = s_rm S t p) : CR h1 (s_rm_ (s_lk_ (s_ce_ S ce) lk) rm) T := by
  obtain ⟨o1, o2, o3, o4, o5, o6⟩ := id o
  have sk := sfM (h := h) hm
  refine ⟨?_, ?_, ?_, ?_, ?_, ?_⟩
  · rw [s_bg_rm, s_bg_lk, s_bg_ce]; exact kT_c E (fun f hf q => q) ⟨by unfold XaM; omega, by unfold XaM; omega⟩ o1
  · intro p hp
    rw [s_dn_rm, s_dn_lk, s_dn_ce, s_ce_rm, s_ce_lk, s_ce_ce, s_lk_rm, s_lk_lk, s_rm_rm]
    by_cases e : p = m
    · rw [e]; exact q
    · exact kM_ag (kM_c E sk.1 (fun f hf q => q) ⟨by unfold XaM; omega, by unfold XaM; omega, by unfold XaM; omega⟩ (o2 p hp)) (fun i hi => e1 _ (by omega)) (fun i hi => e2 _ (by omega)) (fun t _ => e3 t p e)
  · intro c hc
    rw [s_dn_rm, s_dn_lk, s_dn_ce, s_cl_rm, s_cl_lk, s_cl_ce]
    exact kK_c (ti := s_ti S) E sk (fun f b _ hf q => q) (fun b b1 b2 => by unfold XaM; omega) (cr_hx o w hc) (o3 c hc)
  · rw [s_bg_rm, s_bg_lk, s_bg_ce]; exact kB_c E (by unfold XaM; omega) o4
  · rw [s_bg_rm, s_bg_lk, s_bg_ce, s_tc_rm, s_tc_lk, s_tc_ce, s_ti_rm, s_ti_lk, s_ti_ce]; exact kX_c E sk o5
  · rw [s_ms_rm, s_ms_lk, s_ms_ce]; exact kQ_c E sk.1 (fun f hf q => q) (fun a ha q => by have := ha.1; unfold XaM at q; omega) o6
end CLS
