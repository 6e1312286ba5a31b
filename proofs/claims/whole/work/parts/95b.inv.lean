/-! What always holds: walks, the clients' steps. -/
def gCp (lv : Nat → Nat) (nl : List Nat) (cp : Nat → Option (Int32 × zN)) : Prop := ∀ a q, cp a = some q → q.2.1 = 2 ∧ gC lv nl a q.2
def gPth (lv : Nat → Nat) (nl : List Nat) (p : List Nat) : Prop := (∀ x, x ∈ p → x < 24) ∧ (¬ zlast p = 0 → zlast p ∈ nl ∧ p.length + lv (zlast p) ≤ 1 + lv 0)
def gB (lv : Nat → Nat) (nl : List Nat) : Prop := nl.Nodup ∧ (∀ a, a ∈ nl → 1 ≤ a ∧ a < 24) ∧ 2 * lv 0 ≤ nl.length
/-- what a transaction is -/
def tRd (its : List zI) : Prop := ∃ a, a < 24 ∧ its = [(1, a, 0, z0N)]
def tWr (lv : Nat → Nat) (nl : List Nat) (its : List zI) : Prop := ∃ a v N, a < 24 ∧ its = [(3, a, v, N)] ∧ gC lv nl a N ∧ N.1 = 1
def tSc (its : List zI) : Prop := 2 ≤ its.length ∧ its.length ≤ 6 ∧ ∀ i, i ∈ its → i.1 = 2 ∧ i.2.1 < 24
def tS0 (lv : Nat → Nat) (nl : List Nat) (its : List zI) : Prop := ∃ g v X l, (1 ≤ g ∧ g < 24) ∧ its = [(4, g, 0, zleft X), (4, znext g, 0, zright X), (3, 0, v, (2, 0, 100, [zmid X], [Int32.ofNat g, Int32.ofNat (znext g)]))] ∧ l ≤ lv 0 ∧ gN lv nl l X ∧ ¬ X.1 = 0 ∧ 3 ≤ X.2.2.2.1.length
def tS1 (lv : Nat → Nat) (nl : List Nat) (its : List zI) : Prop := ∃ a g p v w X Y, (1 ≤ a ∧ a < 24) ∧ (1 ≤ g ∧ g < 24) ∧ p < 24 ∧ its = [(3, a, v, zleft X), (4, g, 0, zright X), (3, p, w, zbehind Y (Int32.ofNat a) (zmid X) (Int32.ofNat g))] ∧ gC lv nl a X ∧ (¬ X.1 = 0 ∧ 3 ≤ X.2.2.2.1.length) ∧ gC lv nl p Y ∧ Y.1 = 2 ∧ Y.2.2.2.1.length < 3 ∧ Int32.ofNat a ∈ Y.2.2.2.2
def tI (lv : Nat → Nat) (nl : List Nat) (its : List zI) : Prop := tRd its ∨ tWr lv nl its ∨ tSc its ∨ tS0 lv nl its ∨ tS1 lv nl its
/-- clients -/
def bK (lv : Nat → Nat) (nl : List Nat) (z : zC) : Prop := (1 ≤ c_hi z ∧ c_hi z < 24) ∧ gCp lv nl (c_cp z) ∧ (¬ c_st z = 0 → isJ (c_jb z))
def rK (z : zC) : Prop := c_st z = 1 ∧ isJ (c_jb z) ∧ i7 (c_fr z) ∧ (∃ f, 1 ≤ f ∧ f ≤ 10 ∧ c_fu z = Int32.ofNat f)
def nK (z : zC) : Prop := i7 (c_go z) ∧ (¬ c_jb z = 4 → c_go z = c_fr z ∧ c_lf z = [] ∧ c_re z = 0 ∧ c_fo z = false) ∧ (∀ x, x ∈ c_lf z → x.1 < 24) ∧ (c_lf z).length ≤ 6
def lK (lv : Nat → Nat) (nl : List Nat) (z : zC) : Prop := pOK (c_cp z) (c_jb z == 2) (c_pa z) ∧ gPth lv nl (c_pa z) ∧ nK z
def sK (lv : Nat → Nat) (nl : List Nat) (z : zC) (its : List zI) (sg : Int32) : Prop := rK z ∧ (∀ x, x ∈ c_pa z → x < 24) ∧ ((sg = 1 ∧ its = [(1, zlast (c_pa z), 0, z0N)] ∧ lK lv nl z) ∨ (sg = 2 ∧ isRd its = false) ∨ (sg = 3 ∧ isRd its = false ∧ c_lf z = [] ∧ c_fo z = false ∧ c_re z = 0 ∧ c_go z = c_fr z))
def dK (lv : Nat → Nat) (nl : List Nat) (B : Nat) (D : zD) : Prop := bK lv nl D.1 ∧ ∀ its sg, D.2 = some (its, sg) → tI lv nl its ∧ sK lv nl D.1 its sg ∧ its.length + (if sg = 1 then (c_lf D.1).length else 0) ≤ B
section INVB
variable {lv lv2 : Nat → Nat} {nl nl2 : List Nat} {l a b i f B : Nat} {N X Y : zN} {k : Int32} {cp cp2 : Nat → Option (Int32 × zN)} {put : Bool} {p : List Nat} {z z2 : zC} {x : Int32 × zN} {its : List zI} {sg : Int32} {D : zD}
theorem gB_lv (o : gB lv nl) : lv 0 ≤ 11 := by
  have : nl.length ≤ (List.range' 1 23).length := List.Nodup.length_le_of_subset o.1 (fun a ha => by
    have := o.2.1 a ha
    rw [List.mem_range'_1]; omega)
  rw [List.length_range'] at this
  have := o.2.2
  omega
theorem gCp_m (g : gr_ lv nl lv2 nl2) (o : gCp lv nl cp) : gCp lv2 nl2 cp := fun a q e => ⟨(o a q e).1, gC_m g (o a q e).2⟩
theorem gCp_sub (o : gCp lv nl cp) (h : ∀ a q, cp2 a = some q → cp a = some q) : gCp lv nl cp2 := fun a q e => o a q (h a q e)
theorem gCp_set {x : Int32 × zN} (o : gCp lv nl cp) (k2 : x.2.1 = 2) (g : gC lv nl a x.2) : gCp lv nl (fset cp a (some x)) := by
  intro b q e
  rw [fset_eq] at e
  by_cases r : b = a
  · rw [if_pos r] at e; cases e; rw [r]; exact ⟨k2, g⟩
  · rw [if_neg r] at e; exact o b q e
theorem gCp_wfI (o : gCp lv nl cp) : ∀ p q, cp p = some q → wfI q.2 := fun p q e => by
  obtain ⟨k2, l, _, _, g⟩ := o p q e
  exact gN_wfI g k2
theorem gC_ch (g : gC lv nl a N) (k2 : N.1 = 2) : ∀ i, i ∈ N.2.2.2.2 → 0 ≤ i ∧ 1 ≤ i.toNatClampNeg ∧ i.toNatClampNeg < 24 := by
  obtain ⟨l, _, _, g⟩ := g
  intro i hi
  obtain ⟨b, b1, b2, b3, _⟩ := (gN_inn g k2).2.2.2.2 i hi
  rw [b1, i_nat (by omega)]
  exact ⟨i_nn (by omega), b2, b3⟩
theorem gCp_W (o : gCp lv nl cp) : cpW cp := fun a q e => by
  obtain ⟨k2, g⟩ := o a q e
  refine ⟨?_, gC_ch g k2⟩
  obtain ⟨l, _, _, g⟩ := g
  exact g.2.2.2.1
theorem gPth_m (g : gr_ lv nl lv2 nl2) (o : gPth lv nl p) : gPth lv2 nl2 p := by
  refine ⟨o.1, fun q => ?_⟩
  obtain ⟨h1, h2⟩ := o.2 q
  have := (g.1 _ h1).2
  have := g.2
  exact ⟨(g.1 _ h1).1, by omega⟩
theorem gPth_0 : gPth lv nl [0] := ⟨fun x hx => by simp at hx; omega, fun q => absurd rfl q⟩
/-- a walk keeps the path -/
theorem zw_K (o : gCp lv nl cp) : ∀ (f : Nat) (p : List Nat), pOK cp put p → gPth lv nl p → pOK cp put (zw cp put k f p).1 ∧ gPth lv nl (zw cp put k f p).1 ∧ ∀ v, (zw cp put k f p).2 = some v → cp (zlast (zw cp put k f p).1) = some v ∧ 3 ≤ v.2.2.2.2.1.length ∧ put = true := by
  intro f
  induction f with
  | zero => intro p h1 h2; exact ⟨h1, h2, fun v q => by cases q⟩
  | succ f ih =>
    intro p h1 h2
    rw [zw]
    cases hcp : cp (zlast p) with
    | none => exact ⟨h1, h2, fun v q => by cases q⟩
    | some y =>
      dsimp only
      by_cases full : (put && decide (3 ≤ y.2.2.2.2.1.length)) = true
      · rw [if_pos full]
        rw [Bool.and_eq_true, decide_eq_true_eq] at full
        exact ⟨h1, h2, fun v q => by cases q; exact ⟨hcp, full.2, full.1⟩⟩
      · rw [if_neg full]
        obtain ⟨k2, l, l1, l2, g⟩ := o _ _ hcp
        have hi := gN_inn g k2
        have hm : zchild y.2 k ∈ y.2.2.2.2.2 := zchild_mem (gN_wfI g k2)
        obtain ⟨b, b1, b2, b3, b4, b5⟩ := hi.2.2.2.2 _ hm
        rw [b1, i_nat (by omega)]
        rw [b1] at hm
        refine ih _ (pOK_app h1 hcp (fun hp => ?_) (gCp_W o) hm b2 b3) ⟨fun x hx => ?_, fun _ => ?_⟩
        · apply Classical.byContradiction
          intro q
          exact full (by rw [hp, decide_eq_true (by omega)]; rfl)
        · rcases List.mem_append.mp hx with r | r
          · exact h2.1 x r
          · simp at r; omega
        · rw [zlast_app, List.length_append, show [b].length = 1 from rfl]
          refine ⟨b4, ?_⟩
          by_cases e : zlast p = 0
          · have := l1 e
            have := h1.2.2.1.mp e
            omega
          · have := (l2 e).1
            have := (h2.2 e).2
            omega
theorem gPth_len (o : gPth lv nl p) (h : pOK cp put p) : p.length ≤ 1 + lv 0 := by
  by_cases e : zlast p = 0
  · have := h.2.2.1.mp e; omega
  · have := (o.2 e).2; omega
theorem gCp_walk (b : gB lv nl) (o : gCp lv nl cp) : walkOK cp put := by
  intro cp2 hs k
  obtain ⟨h1, h2, _⟩ := zw_K (put := put) (k := k) (gCp_sub o hs) 23 [0] pOK_0 gPth_0
  have := gPth_len h2 h1
  have := gB_lv b
  omega
theorem pOK_pl (o : gCp lv nl cp) (h : pOK cp put p) : ¬ p.length = 1 → ¬ zpar p = zlast p := by
  intro q e
  obtain ⟨h1, y, y1, _, _, y4⟩ := h.2.2.2 q
  obtain ⟨k2, l, l1, l2, g⟩ := o _ _ y1
  obtain ⟨b, b1, b2, b3, b4, b5⟩ := (gN_inn g k2).2.2.2.2 _ y4
  have hz : zlast p = b := by
    have := congrArg Int32.toNatClampNeg b1
    rw [i_nat (by have := h.2.1; omega), i_nat (by omega)] at this
    exact this
  have : ¬ zpar p = 0 := by omega
  have := (l2 this).1
  rw [e, hz] at this
  omega
theorem znext_ne (h : 1 ≤ a ∧ a < 24) : (1 ≤ znext a ∧ znext a < 24) ∧ ¬ znext a = a := by
  unfold znext
  split <;> omega
/-- clients that differ elsewhere -/
theorem bK_of (o : bK lv nl z) (e1 : c_hi z2 = c_hi z) (e2 : c_cp z2 = c_cp z) (e3 : c_st z2 = c_st z) (e4 : c_jb z2 = c_jb z) : bK lv nl z2 := by
  unfold bK; rw [e1, e2, e3, e4]; exact o
theorem bK_hi (o : bK lv nl z) (h : 1 ≤ a ∧ a < 24) : bK lv nl (c_hi_ z a) := by
  unfold bK; rw [c_hi_hi, c_cp_hi, c_st_hi, c_jb_hi]; exact ⟨h, o.2⟩
theorem bK_st (o : bK lv nl z) (r : isJ (c_jb z)) : bK lv nl (c_st_ z k) := by
  unfold bK; rw [c_hi_st, c_cp_st, c_jb_st]; exact ⟨o.1, o.2.1, fun _ => r⟩
theorem rK_of (o : rK z) (e1 : c_st z2 = c_st z) (e2 : c_jb z2 = c_jb z) (e3 : c_fr z2 = c_fr z) (e4 : c_fu z2 = c_fu z) : rK z2 := by
  unfold rK; rw [e1, e2, e3, e4]; exact o
theorem dK_none {z : zC} (o : bK lv nl z) : dK lv nl B (z, none) := ⟨o, fun _ _ q => by cases q⟩
theorem dK_le {B2 : Nat} (h : B ≤ B2) (o : dK lv nl B D) : dK lv nl B2 D := ⟨o.1, fun its sg e => ⟨(o.2 its sg e).1, (o.2 its sg e).2.1, Nat.le_trans (o.2 its sg e).2.2 h⟩⟩
theorem Dsplit_K (b : bK lv nl z) (r : rK z) (po : pOK (c_cp z) true (c_pa z)) (gp : gPth lv nl (c_pa z)) (g : gC lv nl (zlast (c_pa z)) x.2) (f : ¬ x.2.1 = 0) (h3 : 3 ≤ x.2.2.2.2.1.length) (n : c_lf z = [] ∧ c_fo z = false ∧ c_re z = 0 ∧ c_go z = c_fr z) : dK lv nl 3 (Dsplit z x) := by
  have hh := znext_ne b.1
  unfold Dsplit
  by_cases q : (c_pa z).length = 1
  · rw [if_pos q]
    have z0 := po.2.2.1.mpr q
    rw [z0] at g
    obtain ⟨l, l1, _, gl⟩ := g
    refine ⟨bK_hi b (znext_ne hh.1).1, fun its sg e => ?_⟩
    simp only [Option.some.injEq, Prod.mk.injEq] at e
    obtain ⟨rfl, rfl⟩ := e
    refine ⟨Or.inr (Or.inr (Or.inr (Or.inl ⟨c_hi z, x.1, x.2, l, b.1, rfl, l1 rfl, gl, f, h3⟩))), ⟨rK_of r (c_st_hi _ _) (c_jb_hi _ _) (c_fr_hi _ _) (c_fu_hi _ _), ?_, Or.inr (Or.inr ⟨rfl, rfl, ?_⟩)⟩, by rw [if_neg (by decide)]; exact Nat.le_refl _⟩
    · dsimp only; rw [c_pa_hi]; exact gp.1
    · dsimp only; rw [c_lf_hi, c_fo_hi, c_re_hi, c_go_hi, c_fr_hi]; exact n
  · rw [if_neg q]
    obtain ⟨p1, y, y1, y2, y3, y4⟩ := po.2.2.2 q
    rw [y1]
    have hz : ¬ zlast (c_pa z) = 0 := fun e => q (po.2.2.1.mp e)
    refine ⟨bK_hi b hh.1, fun its sg e => ?_⟩
    simp only [Option.some.injEq, Prod.mk.injEq] at e
    obtain ⟨rfl, rfl⟩ := e
    obtain ⟨k2, gy⟩ := b.2.1 _ _ y1
    refine ⟨Or.inr (Or.inr (Or.inr (Or.inr ⟨zlast (c_pa z), c_hi z, zpar (c_pa z), x.1, y.1, x.2, y.2, ⟨by omega, po.2.1⟩, b.1, p1, rfl, g, ⟨f, h3⟩, gy, k2, y2 rfl, y4⟩))), ⟨rK_of r (c_st_hi _ _) (c_jb_hi _ _) (c_fr_hi _ _) (c_fu_hi _ _), ?_, Or.inr (Or.inr ⟨rfl, rfl, ?_⟩)⟩, by rw [if_neg (by decide)]; exact Nat.le_refl _⟩
    · dsimp only; rw [c_pa_hi]; exact gp.1
    · dsimp only; rw [c_lf_hi, c_fo_hi, c_re_hi, c_go_hi, c_fr_hi]; exact n
theorem nK_of (o : nK z) (e1 : c_go z2 = c_go z) (e2 : c_jb z2 = c_jb z) (e3 : c_fr z2 = c_fr z) (e4 : c_lf z2 = c_lf z) (e5 : c_re z2 = c_re z) (e6 : c_fo z2 = c_fo z) : nK z2 := by
  unfold nK; rw [e1, e2, e3, e4, e5, e6]; exact o
theorem rd_one {a : Nat} : isRd [((1 : Int32), a, (0 : Int32), z0N)] = true := rfl
theorem Dwalk_K (b : bK lv nl z) (r : rK z) (o : lK lv nl z) (h3 : 3 ≤ B) (hB : (c_lf z).length + 1 ≤ B) : dK lv nl B (Dwalk z) := by
  obtain ⟨po, gp, n⟩ := o
  obtain ⟨w1, w2, w3⟩ := zw_K (put := c_jb z == 2) (k := c_go z) b.2.1 (24 - (c_pa z).length) (c_pa z) po gp
  unfold Dwalk
  generalize zw (c_cp z) (c_jb z == 2) (c_go z) (24 - (c_pa z).length) (c_pa z) = rr at *
  obtain ⟨p, so⟩ := rr
  dsimp only at *
  have b1 : bK lv nl (c_pa_ z p) := bK_of b (c_hi_pa _ _) (c_cp_pa _ _) (c_st_pa _ _) (c_jb_pa _ _)
  have r1 : rK (c_pa_ z p) := rK_of r (c_st_pa _ _) (c_jb_pa _ _) (c_fr_pa _ _) (c_fu_pa _ _)
  cases so with
  | some x =>
    dsimp only
    obtain ⟨v1, v2, v3⟩ := w3 x rfl
    obtain ⟨k2, g⟩ := b.2.1 _ _ v1
    have j2 : c_jb z = 2 := by simpa using v3
    obtain ⟨n1, n2, n3, n4⟩ := n.2.1 (by rw [j2]; decide)
    refine dK_le h3 (Dsplit_K b1 r1 ?_ ?_ ?_ (by rw [k2]; decide) v2 ⟨?_, ?_, ?_, ?_⟩)
    · rw [c_cp_pa, c_pa_pa, ← v3]; exact w1
    · rw [c_pa_pa]; exact w2
    · rw [c_pa_pa]; exact g
    · rw [c_lf_pa]; exact n2
    · rw [c_fo_pa]; exact n4
    · rw [c_re_pa]; exact n3
    · rw [c_go_pa, c_fr_pa]; exact n1
  | none =>
    dsimp only
    by_cases q : p.length < 24
    · rw [if_pos q]
      refine ⟨b1, fun its sg e => ?_⟩
      simp only [Option.some.injEq, Prod.mk.injEq] at e
      obtain ⟨rfl, rfl⟩ := e
      refine ⟨Or.inl ⟨zlast p, w1.2.1, rfl⟩, ⟨r1, ?_, Or.inl ⟨rfl, ?_, ?_, ?_, nK_of n (c_go_pa _ _) (c_jb_pa _ _) (c_fr_pa _ _) (c_lf_pa _ _) (c_re_pa _ _) (c_fo_pa _ _)⟩⟩, ?_⟩
      · dsimp only; rw [c_pa_pa]; exact w2.1
      · dsimp only; rw [c_pa_pa]
      · dsimp only; rw [c_pa_pa, c_cp_pa, c_jb_pa]; exact w1
      · dsimp only; rw [c_pa_pa]; exact w2
      · dsimp only; rw [c_lf_pa, if_pos rfl]; show 1 + _ ≤ B; omega
    · rw [if_neg q]
      exact dK_none (bK_st b1 (by rw [c_jb_pa]; exact r.2.1))
theorem DwalkFor_K (b : bK lv nl z) (r : rK z) (h7 : i7 k) (hn : ¬ c_jb z = 4 → k = c_fr z ∧ c_lf z = [] ∧ c_re z = 0 ∧ c_fo z = false) (hl : ∀ x, x ∈ c_lf z → x.1 < 24) (h6 : (c_lf z).length ≤ 6) (h3 : 3 ≤ B) (hB : (c_lf z).length + 1 ≤ B) : dK lv nl B (DwalkFor z k) := by
  unfold DwalkFor
  refine Dwalk_K (bK_of b ?_ ?_ ?_ ?_) (rK_of r ?_ ?_ ?_ ?_) ⟨?_, ?_, ?_⟩ h3 ?_
  · rw [c_hi_pa, c_hi_go]
  · rw [c_cp_pa, c_cp_go]
  · rw [c_st_pa, c_st_go]
  · rw [c_jb_pa, c_jb_go]
  · rw [c_st_pa, c_st_go]
  · rw [c_jb_pa, c_jb_go]
  · rw [c_fr_pa, c_fr_go]
  · rw [c_fu_pa, c_fu_go]
  · rw [c_pa_pa]; exact pOK_0
  · rw [c_pa_pa]; exact gPth_0
  · unfold nK
    rw [c_go_pa, c_go_go, c_jb_pa, c_jb_go, c_fr_pa, c_fr_go, c_lf_pa, c_lf_go, c_re_pa, c_re_go, c_fo_pa, c_fo_go]
    exact ⟨h7, hn, hl, h6⟩
  · rw [c_lf_pa, c_lf_go]; exact hB
theorem Dstart_K (b : bK lv nl z) (r : rK z) : dK lv nl 3 (Dstart z) := by
  unfold Dstart
  have el : c_lf (c_re_ (c_fo_ (c_lf_ z []) false) 0) = [] := by rw [c_lf_re, c_lf_fo, c_lf_lf]
  refine DwalkFor_K (bK_of b ?_ ?_ ?_ ?_) (rK_of r ?_ ?_ ?_ ?_) r.2.2.1 (fun _ => ⟨?_, el, ?_, ?_⟩) ?_ ?_ (Nat.le_refl _) ?_
  · rw [c_hi_re, c_hi_fo, c_hi_lf]
  · rw [c_cp_re, c_cp_fo, c_cp_lf]
  · rw [c_st_re, c_st_fo, c_st_lf]
  · rw [c_jb_re, c_jb_fo, c_jb_lf]
  · rw [c_st_re, c_st_fo, c_st_lf]
  · rw [c_jb_re, c_jb_fo, c_jb_lf]
  · rw [c_fr_re, c_fr_fo, c_fr_lf]
  · rw [c_fu_re, c_fu_fo, c_fu_lf]
  · rw [c_fr_re, c_fr_fo, c_fr_lf]
  · rw [c_re_re]
  · rw [c_fo_re, c_fo_fo]
  · rw [el]; intro x hx; cases hx
  · rw [el]; decide
  · rw [el]; decide
theorem Cforget_cp : ∀ a q, c_cp (Cforget z) a = some q → c_cp z a = some q := by
  intro a q e
  unfold Cforget at e
  rw [c_cp_cp] at e
  by_cases h : a ∈ c_pa z
  · rw [if_pos h] at e; cases e
  · rw [if_neg h] at e; exact e
theorem Cforget_b (b : bK lv nl z) : bK lv nl (Cforget z) := by
  refine ⟨?_, gCp_sub b.2.1 Cforget_cp, ?_⟩
  · unfold Cforget; rw [c_hi_cp]; exact b.1
  · unfold Cforget; rw [c_st_cp, c_jb_cp]; exact b.2.2
theorem Cforget_r (r : rK z) : rK (Cforget z) := by
  unfold Cforget
  exact rK_of r (c_st_cp _ _) (c_jb_cp _ _) (c_fr_cp _ _) (c_fu_cp _ _)
theorem Dwrong_K (b : bK lv nl z) (r : rK z) : dK lv nl 3 (Dwrong z) := by
  unfold Dwrong
  dsimp only
  have b1 : bK lv nl (c_fu_ (Cforget z) (c_fu z - 1)) := bK_of (Cforget_b b) (c_hi_fu _ _) (c_cp_fu _ _) (c_st_fu _ _) (c_jb_fu _ _)
  have r1 := Cforget_r r
  obtain ⟨f, f1, f2, f3⟩ := r.2.2.2
  have ef : c_fu z - 1 = Int32.ofNat (f - 1) := by rw [f3, i_sub1 f1 (by omega)]
  by_cases q : 0 < c_fu z - 1
  · rw [if_pos q]
    refine Dstart_K b1 ⟨?_, ?_, ?_, f - 1, ?_, by omega, ?_⟩
    · rw [c_st_fu]; exact r1.1
    · rw [c_jb_fu]; exact r1.2.1
    · rw [c_fr_fu]; exact r1.2.2.1
    · rw [ef, show (0 : Int32) = Int32.ofNat 0 from rfl, i_lt (by decide) (by omega)] at q; omega
    · rw [c_fu_fu]; exact ef
  · rw [if_neg q]
    exact dK_none (bK_st b1 (by rw [c_jb_fu]; exact r1.2.1))
theorem Cdone_b (b : bK lv nl z) (r : isJ (c_jb z)) : bK lv nl (Cdone z) := by unfold Cdone; exact bK_st b r
theorem tWr_mk (ha : a < 24) (g : gC lv nl a X) (k1 : X.1 = 1) {N : zN} {v : Int32} (h : ∀ l, gN lv nl l X → gN lv nl l N ∧ N.1 = 1) : tWr lv nl [(3, a, v, N)] := by
  obtain ⟨l, l1, l2, g⟩ := g
  obtain ⟨h1, h2⟩ := h l g
  exact ⟨a, v, N, ha, rfl, ⟨l, l1, fun q => ⟨(l2 q).1, fun _ => (l2 q).2 (by rw [k1]; decide)⟩, h1⟩, h2⟩
theorem Dleaf_K (b : bK lv nl z) (r : rK z) (o : lK lv nl z) (j4 : ¬ c_jb z = 4) (g : gC lv nl (zlast (c_pa z)) x.2) (k1 : x.2.1 = 1) : dK lv nl 3 (Dleaf z x) := by
  obtain ⟨po, gp, n⟩ := o
  obtain ⟨n1, n2, n3, n4⟩ := n.2.1 j4
  unfold Dleaf
  dsimp only
  generalize ht : decide (zidx (c_fr z) x.2.2.2.2.1 < x.2.2.2.2.1.length) = th
  generalize hv : (if th = true then x.2.2.2.2.2.getD (zidx (c_fr z) x.2.2.2.2.1) 0 else 0) = vv
  have b1 : bK lv nl (c_re_ (c_fo_ z th) vv) := bK_of b (by rw [c_hi_re, c_hi_fo]) (by rw [c_cp_re, c_cp_fo]) (by rw [c_st_re, c_st_fo]) (by rw [c_jb_re, c_jb_fo])
  have r1 : rK (c_re_ (c_fo_ z th) vv) := rK_of r (by rw [c_st_re, c_st_fo]) (by rw [c_jb_re, c_jb_fo]) (by rw [c_fr_re, c_fr_fo]) (by rw [c_fu_re, c_fu_fo])
  have ej : c_jb (c_re_ (c_fo_ z th) vv) = c_jb z := by rw [c_jb_re, c_jb_fo]
  have ep : c_pa (c_re_ (c_fo_ z th) vv) = c_pa z := by rw [c_pa_re, c_pa_fo]
  have ec : c_cp (c_re_ (c_fo_ z th) vv) = c_cp z := by rw [c_cp_re, c_cp_fo]
  by_cases q1 : c_jb z = 2 ∧ th = false ∧ 3 ≤ x.2.2.2.2.1.length
  · rw [if_pos q1]
    obtain ⟨j2, t0, h3⟩ := q1
    refine Dsplit_K b1 r1 ?_ (by rw [ep]; exact gp) (by rw [ep]; exact g) (by rw [k1]; decide) h3 ⟨?_, ?_, ?_, ?_⟩
    · rw [ec, ep]
      have : (c_jb z == 2) = true := by rw [j2]; rfl
      rw [← this]; exact po
    · rw [c_lf_re, c_lf_fo]; exact n2
    · rw [c_fo_re, c_fo_fo]; exact t0
    · rw [c_re_re, ← hv, t0]; rfl
    · rw [c_go_re, c_go_fo, c_fr_re, c_fr_fo]; exact n1
  · rw [if_neg q1]
    by_cases j2 : c_jb z = 2
    · rw [if_pos j2]
      refine ⟨b1, fun its sg e => ?_⟩
      simp only [Option.some.injEq, Prod.mk.injEq] at e
      obtain ⟨rfl, rfl⟩ := e
      refine ⟨Or.inr (Or.inl (tWr_mk po.2.1 g k1 (fun l gl => gN_with gl k1 r.2.2.1 ?_))), ⟨r1, by rw [ep]; exact gp.1, Or.inr (Or.inl ⟨rfl, rfl⟩)⟩, by rw [if_neg (by decide)]; show 1 + 0 ≤ 3; decide⟩
      by_cases q3 : x.2.2.2.2.1.length < 3
      · exact Or.inr q3
      · refine Or.inl ((zidx_iff _).mpr ?_)
        cases th
        · exact absurd ⟨j2, rfl, by omega⟩ q1
        · exact of_decide_eq_true ht
    · rw [if_neg j2]
      by_cases q3 : c_jb z = 3 ∧ th = true
      · rw [if_pos q3]
        refine ⟨b1, fun its sg e => ?_⟩
        simp only [Option.some.injEq, Prod.mk.injEq] at e
        obtain ⟨rfl, rfl⟩ := e
        refine ⟨Or.inr (Or.inl (tWr_mk po.2.1 g k1 (fun l gl => gN_out gl k1 ?_))), ⟨r1, by rw [ep]; exact gp.1, Or.inr (Or.inl ⟨rfl, rfl⟩)⟩, by rw [if_neg (by decide)]; show 1 + 0 ≤ 3; decide⟩
        rw [q3.2] at ht
        exact of_decide_eq_true ht
      · rw [if_neg q3]
        exact dK_none (Cdone_b b1 (by rw [ej]; exact r.2.1))
theorem Dcollect_K (b : bK lv nl z) (r : rK z) (o : lK lv nl z) (j4 : c_jb z = 4) (g : gC lv nl (zlast (c_pa z)) x.2) : dK lv nl (3 + (c_lf z).length) (Dcollect z x) := by
  obtain ⟨po, gp, n⟩ := o
  unfold Dcollect
  by_cases q6 : 6 ≤ (c_lf z).length
  · rw [if_pos q6]
    exact dK_none (bK_st b r.2.1)
  · rw [if_neg q6]
    dsimp only
    generalize zsum (c_fr z) (c_up z) x.2.2.2.2.1 x.2.2.2.2.2 (c_fo z, c_re z) = rr
    have b1 : bK lv nl (c_re_ (c_fo_ (c_lf_ z (c_lf z ++ [(zlast (c_pa z), x.1)])) rr.1) rr.2) := bK_of b (by rw [c_hi_re, c_hi_fo, c_hi_lf]) (by rw [c_cp_re, c_cp_fo, c_cp_lf]) (by rw [c_st_re, c_st_fo, c_st_lf]) (by rw [c_jb_re, c_jb_fo, c_jb_lf])
    have r1 : rK (c_re_ (c_fo_ (c_lf_ z (c_lf z ++ [(zlast (c_pa z), x.1)])) rr.1) rr.2) := rK_of r (by rw [c_st_re, c_st_fo, c_st_lf]) (by rw [c_jb_re, c_jb_fo, c_jb_lf]) (by rw [c_fr_re, c_fr_fo, c_fr_lf]) (by rw [c_fu_re, c_fu_fo, c_fu_lf])
    have ej : c_jb (c_re_ (c_fo_ (c_lf_ z (c_lf z ++ [(zlast (c_pa z), x.1)])) rr.1) rr.2) = c_jb z := by rw [c_jb_re, c_jb_fo, c_jb_lf]
    have ep : c_pa (c_re_ (c_fo_ (c_lf_ z (c_lf z ++ [(zlast (c_pa z), x.1)])) rr.1) rr.2) = c_pa z := by rw [c_pa_re, c_pa_fo, c_pa_lf]
    have el : c_lf (c_re_ (c_fo_ (c_lf_ z (c_lf z ++ [(zlast (c_pa z), x.1)])) rr.1) rr.2) = c_lf z ++ [(zlast (c_pa z), x.1)] := by rw [c_lf_re, c_lf_fo, c_lf_lf]
    generalize c_re_ (c_fo_ (c_lf_ z (c_lf z ++ [(zlast (c_pa z), x.1)])) rr.1) rr.2 = d at *
    have ell : (c_lf d).length = (c_lf z).length + 1 := by rw [el, List.length_append]; rfl
    have hl : ∀ y, y ∈ c_lf d → y.1 < 24 := by
      intro y hy
      rw [el] at hy
      rcases List.mem_append.mp hy with q | q
      · exact n.2.2.1 y q
      · simp at q; rw [q]; exact po.2.1
    by_cases q1 : x.2.2.2.1 ≤ c_up z
    · rw [if_pos q1]
      refine DwalkFor_K b1 r1 ?_ (fun q => absurd (by rw [ej]; exact j4) q) hl (by omega) (by omega) (by omega)
      obtain ⟨l, _, _, g⟩ := g
      exact g.2.1
    · rw [if_neg q1]
      by_cases q2 : (c_lf d).length = 1
      · rw [if_pos q2]
        exact dK_none (Cdone_b b1 (by rw [ej]; exact r.2.1))
      · rw [if_neg q2]
        refine ⟨b1, fun its sg e => ?_⟩
        simp only [Option.some.injEq, Prod.mk.injEq] at e
        obtain ⟨rfl, rfl⟩ := e
        have lm : ((c_lf d).map (fun y => ((2 : Int32), y.1, y.2, z0N))).length = (c_lf d).length := List.length_map ..
        refine ⟨Or.inr (Or.inr (Or.inl ⟨by rw [lm]; omega, by rw [lm]; omega, fun i hi => ?_⟩)), ⟨r1, by rw [ep]; exact gp.1, Or.inr (Or.inl ⟨rfl, ?_⟩)⟩, by rw [if_neg (by decide), lm]; omega⟩
        · obtain ⟨y, y1, rfl⟩ := List.mem_map.mp hi
          exact ⟨rfl, hl y y1⟩
        · unfold isRd
          have : ((((c_lf d).map (fun y => ((2 : Int32), y.1, y.2, z0N))).length == 1) = false) := by rw [lm]; simpa using q2
          rw [this]; rfl
theorem Dlook_K (b : bK lv nl z) (r : rK z) (o : lK lv nl z) (g : gC lv nl (zlast (c_pa z)) x.2) : dK lv nl (3 + (c_lf z).length) (Dlook z x) := by
  obtain ⟨po, gp, n⟩ := o
  unfold Dlook
  dsimp only
  by_cases k2 : x.2.1 = 2
  · rw [if_pos k2]
    have b1 : bK lv nl (c_cp_ z (fset (c_cp z) (zlast (c_pa z)) (some x))) := by
      unfold bK
      rw [c_hi_cp, c_cp_cp, c_st_cp, c_jb_cp]
      exact ⟨b.1, gCp_set b.2.1 k2 g, b.2.2⟩
    have r1 : rK (c_cp_ z (fset (c_cp z) (zlast (c_pa z)) (some x))) := rK_of r (c_st_cp _ _) (c_jb_cp _ _) (c_fr_cp _ _) (c_fu_cp _ _)
    by_cases q : x.2.2.1 ≤ c_go z ∧ c_go z < x.2.2.2.1
    · rw [if_pos q, if_pos k2]
      refine Dwalk_K b1 r1 ⟨?_, by rw [c_pa_cp]; exact gp, nK_of n (c_go_cp _ _) (c_jb_cp _ _) (c_fr_cp _ _) (c_lf_cp _ _) (c_re_cp _ _) (c_fo_cp _ _)⟩ (by omega) (by rw [c_lf_cp]; omega)
      rw [c_cp_cp, c_jb_cp, c_pa_cp]
      exact pOK_set po (pOK_pl b.2.1 po)
    · rw [if_neg q, if_pos k2]
      exact dK_le (by omega) (Dwrong_K b1 r1)
  · rw [if_neg k2]
    by_cases q : x.2.2.1 ≤ c_go z ∧ c_go z < x.2.2.2.1
    · rw [if_pos q, if_neg k2]
      have k1 : x.2.1 = 1 := by
        obtain ⟨l, _, _, gl⟩ := g
        rcases gl.2.2.2.2.2 with e | e | e
        · exfalso
          obtain ⟨e0, e1, e2, _⟩ := e
          rw [e1, e2, Int32.le_iff_toInt_le, Int32.lt_iff_toInt_lt] at q
          omega
        · exact e.2.1
        · exact absurd e.1 k2
      by_cases j4 : c_jb z = 4
      · rw [if_pos j4]; exact Dcollect_K b r ⟨po, gp, n⟩ j4 g
      · rw [if_neg j4]; exact dK_le (by omega) (Dleaf_K b r ⟨po, gp, n⟩ j4 g k1)
    · rw [if_neg q, if_neg k2]
      exact dK_le (by omega) (Dwrong_K b r)
theorem Dgo_K {so : Option (Int32 × zN)} (b : bK lv nl z) (r : rK z) (h1 : c_sg z = 1 → lK lv nl z ∧ ∃ v, so = some v ∧ gC lv nl (zlast (c_pa z)) v.2) : dK lv nl (3 + if c_sg z = 1 then (c_lf z).length else 0) (Dgo z so) := by
  unfold Dgo
  by_cases s1 : c_sg z = 1
  · rw [if_pos s1, if_pos s1]
    obtain ⟨o, v, rfl, g⟩ := h1 s1
    exact Dlook_K b r o g
  · rw [if_neg s1, if_neg s1]
    dsimp only
    by_cases s3 : c_sg z = 3
    · rw [if_pos s3]; exact Dstart_K (Cforget_b b) (Cforget_r r)
    · rw [if_neg s3]; exact dK_none (Cdone_b b r.2.1)
end INVB
