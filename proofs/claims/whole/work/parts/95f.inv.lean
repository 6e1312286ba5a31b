/-! What always holds: a transaction is decided; writes and locks. -/
section INVF
variable {lv lv2 : Nat → Nat} {nl nl2 : List Nat} {l a b i f B n w t m p c bg x : Nat} {k : Int32} {its : List zI} {S : zS} {ce : Nat → Int32 × zN} {lk : Nat → Nat} {X Y N : zN}
theorem ofNat_in {a b : Nat} (ha : a < 24) (hb : b < 24) (h : Int32.ofNat a = Int32.ofNat b) : a = b := by
  have := congrArg Int32.toNatClampNeg h
  rw [i_nat (by omega), i_nat (by omega)] at this
  exact this
theorem tI_dec (gb : gB lv nl) (o : tI lv nl its) (nr : isRd its = false) (fr : ∀ i, i ∈ its → i.1 = 4 → ¬ i.2.1 ∈ nl) : ∃ lv2 nl2, gr_ lv nl lv2 nl2 ∧ gB lv2 nl2 ∧ iC3 lv2 nl2 its ∧ ∀ a, a ∈ nl2 → a ∈ nl ∨ ∃ i, i ∈ its ∧ i.2.1 = a ∧ i.1 = 4 := by
  rcases o with ⟨a, h1, rfl⟩ | ⟨a, v, N, h1, rfl, h3, h4⟩ | ⟨h1, h2, h3⟩ | ⟨g, v, X, l, hg, rfl, hl, gX, f, l3⟩ | ⟨a, g, p, v, w, X, Y, ha, hg, hp, rfl, gX, ⟨f, l3⟩, gY, k2, y3, y4⟩
  · exact absurd nr (by simp [isRd])
  · refine ⟨lv, nl, gr_refl, gb, fun i hi _ => ?_, fun a q => Or.inl q⟩
    simp at hi; rw [hi]
    exact ⟨h3, by rw [h4]; decide⟩
  · refine ⟨lv, nl, gr_refl, gb, fun i hi q => ?_, fun a q => Or.inl q⟩
    rw [(h3 i hi).1] at q
    rcases q with q | q <;> exact absurd q (by decide)
  · obtain ⟨hn1, hn2⟩ := znext_ne hg
    have f1 : ¬ g ∈ nl := fr (4, g, 0, zleft X) (by simp) rfl
    have f2 : ¬ znext g ∈ nl := fr (4, znext g, 0, zright X) (by simp) rfl
    generalize znext g = g2 at *
    generalize hlv : (fun y : Nat => if y = 0 then lv 0 + 1 else if y = g ∨ y = g2 then l else lv y) = lv2
    have e0 : lv2 0 = lv 0 + 1 := by rw [← hlv]; rfl
    have eg : lv2 g = l := by rw [← hlv]; dsimp only; rw [if_neg (by omega), if_pos (Or.inl rfl)]
    have eg2 : lv2 g2 = l := by rw [← hlv]; dsimp only; rw [if_neg (by omega), if_pos (Or.inr rfl)]
    have gr : gr_ lv nl lv2 (g :: g2 :: nl) := by
      refine ⟨fun a ha => ⟨List.mem_cons_of_mem _ (List.mem_cons_of_mem _ ha), ?_⟩, by omega⟩
      rw [← hlv]; dsimp only
      have := gb.2.1 a ha
      rw [if_neg (by omega), if_neg]
      rintro (r | r)
      · rw [r] at ha; exact f1 ha
      · rw [r] at ha; exact f2 ha
    have mg : g ∈ g :: g2 :: nl := List.mem_cons_self ..
    have mg2 : g2 ∈ g :: g2 :: nl := List.mem_cons_of_mem _ (List.mem_cons_self ..)
    obtain ⟨⟨hL, hR⟩, hm⟩ := gN_half (gN_m gr gX) f l3
    refine ⟨lv2, g :: g2 :: nl, gr, ⟨?_, fun a ha => ?_, ?_⟩, fun i hi _ => ?_, fun a ha => ?_⟩
    · refine List.nodup_cons.mpr ⟨fun q => ?_, List.nodup_cons.mpr ⟨f2, gb.1⟩⟩
      rcases List.mem_cons.mp q with r | r
      · exact hn2 r.symm
      · exact f1 r
    · rcases List.mem_cons.mp ha with r | r
      · rw [r]; exact hg
      · rcases List.mem_cons.mp r with r | r
        · rw [r]; exact hn1
        · exact gb.2.1 a r
    · have := gb.2.2
      simp only [List.length_cons]
      omega
    · simp only [List.mem_cons, List.not_mem_nil, or_false] at hi
      rcases hi with r | r | r
      · rw [r]
        exact ⟨⟨l, fun q => absurd q (show ¬ g = 0 by omega), fun _ => ⟨eg.symm, fun _ => mg⟩, hL⟩, f⟩
      · rw [r]
        exact ⟨⟨l, fun q => absurd q (show ¬ g2 = 0 by omega), fun _ => ⟨eg2.symm, fun _ => mg2⟩, hR⟩, f⟩
      · rw [r]
        refine ⟨⟨l + 1, fun _ => by omega, fun q => absurd rfl q, gN_root ⟨g, rfl, hg.1, hg.2, mg, by omega⟩ ⟨g2, rfl, hn1.1, hn1.2, mg2, by omega⟩ (fun q => hn2 (ofNat_in hg.2 hn1.2 q).symm) hm⟩, show ¬ (2 : Int32) = 0 by decide⟩
    · rcases List.mem_cons.mp ha with r | r
      · exact Or.inr ⟨(4, g, 0, zleft X), by simp, r.symm, rfl⟩
      · rcases List.mem_cons.mp r with r | r
        · exact Or.inr ⟨(4, g2, 0, zright X), by simp, r.symm, rfl⟩
        · exact Or.inl r
  · have f1 : ¬ g ∈ nl := fr (4, g, 0, zright X) (by simp) rfl
    generalize hlv : (fun y : Nat => if y = g then lv a else lv y) = lv2
    have eg : lv2 g = lv a := by rw [← hlv]; dsimp only; rw [if_pos rfl]
    have e0 : lv2 0 = lv 0 := by rw [← hlv]; dsimp only; rw [if_neg (by omega)]
    have gr : gr_ lv nl lv2 (g :: nl) := by
      refine ⟨fun a ha => ⟨List.mem_cons_of_mem _ ha, ?_⟩, by omega⟩
      rw [← hlv]; dsimp only
      rw [if_neg (fun r => by rw [r] at ha; exact f1 ha)]
    have mg : g ∈ g :: nl := List.mem_cons_self ..
    have an : a ∈ nl := by
      obtain ⟨l, _, l2, _⟩ := gX
      exact (l2 (by omega)).2 f
    have ea : lv2 a = lv a := (gr.1 a an).2
    obtain ⟨l, l1, l2, gl⟩ := gC_m gr gX
    have el : l = lv a := by rw [(l2 (by omega)).1, ea]
    obtain ⟨⟨hL, hR⟩, hm⟩ := gN_half gl f l3
    have nq : ¬ Int32.ofNat g ∈ Y.2.2.2.2 := by
      intro q
      obtain ⟨ly, _, _, gly⟩ := gY
      obtain ⟨b, b1, b2, b3, b4, b5⟩ := (gN_inn gly k2).2.2.2.2 _ q
      rw [ofNat_in hg.2 b3 b1] at f1
      exact f1 b4
    obtain ⟨ly, ly1, ly2, gly⟩ := gC_m gr gY
    have ely : lv2 a + 1 = ly := by
      obtain ⟨b, b1, b2, b3, b4, b5⟩ := (gN_inn gly k2).2.2.2.2 _ y4
      rw [ofNat_in ha.2 b3 b1]; exact b5
    refine ⟨lv2, g :: nl, gr, ⟨List.nodup_cons.mpr ⟨f1, gb.1⟩, fun a ha => ?_, ?_⟩, fun i hi _ => ?_, fun a ha => ?_⟩
    · rcases List.mem_cons.mp ha with r | r
      · rw [r]; exact hg
      · exact gb.2.1 a r
    · have := gb.2.2
      simp only [List.length_cons]
      omega
    · simp only [List.mem_cons, List.not_mem_nil, or_false] at hi
      rcases hi with r | r | r
      · rw [r]
        exact ⟨⟨l, l1, fun q => ⟨(l2 q).1, fun _ => (gr.1 a an).1⟩, hL⟩, f⟩
      · rw [r]
        exact ⟨⟨l, fun q => absurd q (show ¬ g = 0 by omega), fun _ => ⟨by rw [el]; exact eg.symm, fun _ => mg⟩, hR⟩, f⟩
      · rw [r]
        obtain ⟨h1, h2⟩ := gN_behind (v := Int32.ofNat a) gly k2 y3 hm ⟨g, rfl, hg.1, hg.2, mg, by omega⟩ nq
        refine ⟨⟨ly, ly1, fun q => ⟨(ly2 q).1, fun _ => (ly2 q).2 (by rw [k2]; decide)⟩, h1⟩, ?_⟩
        show ¬ (zbehind Y (Int32.ofNat a) (zmid X) (Int32.ofNat g)).1 = 0
        rw [h2]; decide
    · rcases List.mem_cons.mp ha with r | r
      · exact Or.inr ⟨(4, g, 0, zright X), by simp, r.symm, rfl⟩
      · exact Or.inl r
/-- locks -/
theorem zlo_cons {j : zI} : zlo m x (j :: its) lk = zlo m x its (if j.2.1 / 8 = m then fset lk j.2.1 x else lk) := rfl
theorem zlo_spec : ∀ (its : List zI) (lk : Nat → Nat), ((∃ i, i ∈ its ∧ i.2.1 = a) ∧ a / 8 = m ∧ zlo m x its lk a = x) ∨ (¬ ((∃ i, i ∈ its ∧ i.2.1 = a) ∧ a / 8 = m) ∧ zlo m x its lk a = lk a) := by
  intro its
  induction its with
  | nil => intro lk; exact Or.inr ⟨(fun q => by obtain ⟨⟨i, h, _⟩, _⟩ := q; cases h), rfl⟩
  | cons j its ih =>
    intro lk
    rw [zlo_cons]
    rcases ih (if j.2.1 / 8 = m then fset lk j.2.1 x else lk) with ⟨⟨i, h1, h2⟩, h3, h4⟩ | ⟨h1, h2⟩
    · exact Or.inl ⟨⟨i, List.mem_cons_of_mem _ h1, h2⟩, h3, h4⟩
    · by_cases e : j.2.1 = a ∧ a / 8 = m
      · refine Or.inl ⟨⟨j, List.mem_cons_self .., e.1⟩, e.2, ?_⟩
        rw [h2, if_pos (by rw [e.1]; exact e.2), e.1, fset_at]
      · refine Or.inr ⟨?_, ?_⟩
        · rintro ⟨⟨i, r1, r2⟩, r3⟩
          rcases List.mem_cons.mp r1 with r | r
          · rw [r] at r2; exact e ⟨r2, r3⟩
          · exact h1 ⟨⟨i, r, r2⟩, r3⟩
        · rw [h2]
          by_cases g : j.2.1 / 8 = m
          · rw [if_pos g]
            by_cases g2 : a = j.2.1
            · exact absurd ⟨g2.symm, by rw [g2]; exact g⟩ e
            · rw [fset_ne g2]
          · rw [if_neg g]
/-- writes -/
theorem zwr_cons {j : zI} : zwr m (j :: its) ce = zwr m its (if j.2.1 / 8 = m ∧ (j.1 = 3 ∨ j.1 = 4) then fset ce j.2.1 ((ce j.2.1).1 + 1, j.2.2.2) else ce) := rfl
theorem zwr_spec : ∀ (its : List zI) (ce : Nat → Int32 × zN), (∃ i d, i ∈ its ∧ i.2.1 = a ∧ a / 8 = m ∧ (i.1 = 3 ∨ i.1 = 4) ∧ (zwr m its ce a).2 = i.2.2.2 ∧ 1 ≤ d ∧ d ≤ its.length ∧ (zwr m its ce a).1 = (ce a).1 + Int32.ofNat d) ∨ ((∀ i, i ∈ its → i.2.1 = a → a / 8 = m → ¬ (i.1 = 3 ∨ i.1 = 4)) ∧ zwr m its ce a = ce a) := by
  intro its
  induction its with
  | nil => intro ce; exact Or.inr ⟨(fun i h => by cases h), rfl⟩
  | cons j its ih =>
    intro ce
    rw [zwr_cons]
    have key : ∀ ce2 : Nat → Int32 × zN, ce2 = (if j.2.1 / 8 = m ∧ (j.1 = 3 ∨ j.1 = 4) then fset ce j.2.1 ((ce j.2.1).1 + 1, j.2.2.2) else ce) → (j.2.1 = a ∧ a / 8 = m ∧ (j.1 = 3 ∨ j.1 = 4) ∧ ce2 a = ((ce a).1 + 1, j.2.2.2)) ∨ (¬ (j.2.1 = a ∧ a / 8 = m ∧ (j.1 = 3 ∨ j.1 = 4)) ∧ ce2 a = ce a) := by
      intro ce2 e2
      by_cases e : j.2.1 = a ∧ a / 8 = m ∧ (j.1 = 3 ∨ j.1 = 4)
      · refine Or.inl ⟨e.1, e.2.1, e.2.2, ?_⟩
        rw [e2, if_pos ⟨by rw [e.1]; exact e.2.1, e.2.2⟩, e.1, fset_at]
      · refine Or.inr ⟨e, ?_⟩
        rw [e2]
        by_cases g : j.2.1 / 8 = m ∧ (j.1 = 3 ∨ j.1 = 4)
        · rw [if_pos g]
          by_cases g2 : a = j.2.1
          · exact absurd ⟨g2.symm, by rw [g2]; exact g.1, g.2⟩ e
          · rw [fset_ne g2]
        · rw [if_neg g]
    generalize hce : (if j.2.1 / 8 = m ∧ (j.1 = 3 ∨ j.1 = 4) then fset ce j.2.1 ((ce j.2.1).1 + 1, j.2.2.2) else ce) = ce2
    have key := key ce2 hce.symm
    rcases ih ce2 with ⟨i, d, h1, h2, h3, h4, h5, h6, h7, h8⟩ | ⟨h1, h2⟩
    · rcases key with ⟨q1, q2, q3, q4⟩ | ⟨q1, q2⟩
      · refine Or.inl ⟨i, d + 1, List.mem_cons_of_mem _ h1, h2, h3, h4, h5, by omega, by rw [List.length_cons]; omega, ?_⟩
        rw [h8, q4]
        show (ce a).1 + 1 + Int32.ofNat d = (ce a).1 + Int32.ofNat (d + 1)
        rw [Int32.add_assoc, show (1 : Int32) + Int32.ofNat d = Int32.ofNat (1 + d) from i_add (a := 1), Nat.add_comm]
      · refine Or.inl ⟨i, d, List.mem_cons_of_mem _ h1, h2, h3, h4, h5, h6, by rw [List.length_cons]; omega, ?_⟩
        rw [h8, q2]
    · rcases key with ⟨q1, q2, q3, q4⟩ | ⟨q1, q2⟩
      · refine Or.inl ⟨j, 1, List.mem_cons_self .., q1, q2, q3, ?_, Nat.le_refl _, by rw [List.length_cons]; omega, ?_⟩
        · rw [h2, q4]
        · rw [h2, q4]; rfl
      · refine Or.inr ⟨fun i hi e1 e2 e3 => ?_, by rw [h2, q2]⟩
        rcases List.mem_cons.mp hi with r | r
        · rw [r] at e1 e3; exact q1 ⟨e1, e2, e3⟩
        · exact h1 i r e1 e2 e3
theorem zcan_iff : zcan its m lk ce = true ↔ ∀ i, i ∈ its → i.2.1 / 8 = m → lk i.2.1 = 0 ∧ zfits i (ce i.2.1) = true := by
  unfold zcan
  rw [List.all_eq_true]
  constructor
  · intro h i hi hm
    have := h i hi
    simp [hm] at this
    exact this
  · intro h i hi
    by_cases hm : i.2.1 / 8 = m
    · obtain ⟨h1, h2⟩ := h i hi hm
      simp [h1, h2]
    · simp [hm]
/-- versions -/
theorem iV_wr (o : iV w ce) (hl : its.length ≤ 6) : iV (w + 1) (zwr m its ce) := by
  intro a
  obtain ⟨v, v1, v2, v3⟩ := o a
  rcases zwr_spec (a := a) (m := m) its ce with ⟨i, d, h1, h2, h3, h4, h5, h6, h7, h8⟩ | ⟨h1, h2⟩
  · exact ⟨v + d, by rw [h8, v1, i_add], by omega, fun _ => by omega⟩
  · rw [h2]; exact ⟨v, v1, by omega, v3⟩
end INVF
