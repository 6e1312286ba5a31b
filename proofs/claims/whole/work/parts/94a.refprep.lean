/-! The reference: prepare. -/
def KM (a i : Nat) : Prop := 51 ≤ a ∧ a ≤ 56
section RPREP
variable {h h1 : xv_H} {F i j x p q v s a b c n L t m : Nat} {S : zS} {P : List zI} {it : zI} {ce : Nat → Int32 × zN} {its : List zI}
/-- what a YES for a READ bears -/
theorem r130_bear (hF : 1000 ≤ F) (o : RX h (s_ms_ S (s_ms S ++ [(2, t, m, none)])) n P c L) (h40 : (s_ms S).length < 40) (ha : a < 24) : tot (b130_80 F (some 37) (Int32.ofNat a) (Int32.ofNat (s_ms S).length)) h (fun _ h' => agR h h' ∧ RX h' (s_ms_ S (s_ms S ++ [(2, t, m, some (s_ce S a))])) n P c L) := by
  obtain ⟨F', rfl⟩ : ∃ k, F = k + 4 := ⟨F - 4, by omega⟩
  have rf := o.1
  have cn := o.2.2.1
  rw [s_ce_ms] at cn
  obtain ⟨n1, n2⟩ := cn a ha
  have rq := o.2.2.2.2.2.2.1
  rw [s_ms_ms] at rq
  generalize hq : (s_ms S).length = q at *
  unfold b130_80
  rw [nn_some, mb_mr]
  refine tot_bind (g919 rf) (tot_bind (g902 rf) ?_)
  rw [nn_some, mb_mr]
  refine tot_bind (l40 rf ha) ?_
  rw [nn_some, mb_mr]
  refine tot_bind (s54 rf h40) ?_
  rw [n1]
  have a1 : ag (fun a i => ¬ KM a i) h (Uei h 54 q (s_ce S a).1) := ag_ei (by decide) (fun r => r (by unfold KM; omega))
  have w1 : ∀ A i, Hei (Uei h 54 q (s_ce S a).1) A i = if A = 54 ∧ i = q then (s_ce S a).1 else Hei h A i := by intro A i; rw [Hei_Uei]
  have x1 : ∀ A i, Hel (Uei h 54 q (s_ce S a).1) A i = Hel h A i := by intro A i; rw [Hel_Uei]
  generalize Uei h 54 q (s_ce S a).1 = h1 at *
  have rf1 := ag_rF a1 rf
  refine tot_bind (g920 rf1) (tot_bind (g901 rf1) ?_)
  rw [nn_some, mb_mr]
  refine tot_bind (l39 rf1 ha) ?_
  rw [nn_some, mb_mr]
  refine tot_bind (s55 rf1 h40) ?_
  rw [x1]
  have a2 : ag (fun a i => ¬ KM a i) h (Uel h1 55 q (Hel h 39 a)) := ag_trans a1 (ag_el (by decide) (fun r => r (by unfold KM; omega)))
  have w2 : ∀ A i, Hei (Uel h1 55 q (Hel h 39 a)) A i = if A = 54 ∧ i = q then (s_ce S a).1 else Hei h A i := by intro A i; rw [Hei_Uel]; exact w1 A i
  have x2 : ∀ A i, Hel (Uel h1 55 q (Hel h 39 a)) A i = if A = 55 ∧ i = q then Hel h 39 a else Hel h A i := by intro A i; rw [Hel_Uel, x1]
  generalize Uel h1 55 q (Hel h 39 a) = h2 at *
  have stp : ∀ (g w : Nat) (h3 : xv_H) (Q : Unit → xv_H → Prop), w < 3 → ag (fun a i => ¬ KM a i) h h3 → (∀ h4, ag (fun a i => ¬ KM a i) h h4 → (∀ A i, Hei h4 A i = if A = 56 ∧ i = 3 * q + w then Hei h 41 (3 * a + w) else Hei h3 A i) → (∀ A i, Hel h4 A i = Hel h3 A i) → tot (b130_111 (F' + 4) g (some 37) (Int32.ofNat a) (Int32.ofNat q) (Int32.ofNat (w + 1))) h4 Q) → tot (b130_111 (F' + 4) (g + 1) (some 37) (Int32.ofNat a) (Int32.ofNat q) (Int32.ofNat w)) h3 Q := by
    intro g w h3 Q hw a3 kk
    have rf3 := ag_rF a3 rf
    unfold b130_111
    rw [show (3 : Int32) = Int32.ofNat 3 from rfl, if_neg (by rw [i_le (by decide) (by omega)]; omega)]
    unfold b130_117
    rw [nn_some, mb_mr]
    refine tot_bind (g921 rf3) (tot_bind (g903 rf3) ?_)
    rw [nn_some, mb_mr, ix3]
    refine tot_bind (l41 rf3 (by omega)) ?_
    rw [nn_some, mb_mr, ix3]
    refine tot_bind (s56 rf3 (by omega)) ?_
    rw [i_add1, (ag_e a3 (by unfold KM; omega)).1]
    exact kk _ (ag_trans a3 (ag_ei (by decide) (fun r => r (by unfold KM; omega)))) (fun A i => by rw [Hei_Uei]) (fun A i => by rw [Hel_Uei])
  refine stp _ 0 h2 _ (by decide) a2 (fun h3 a3 w3 x3 => ?_)
  refine stp _ 1 h3 _ (by decide) a3 (fun h4 a4 w4 x4 => ?_)
  refine stp _ 2 h4 _ (by decide) a4 (fun h5 a5 w5 x5 => ?_)
  unfold b130_111
  rw [if_pos (by decide)]
  unfold b130_147
  refine tot_mr ⟨ag_R a5, ?_⟩
  have W : ∀ A i, Hei h5 A i = if A = 56 ∧ i = 3 * q + 2 then Hei h 41 (3 * a + 2) else if A = 56 ∧ i = 3 * q + 1 then Hei h 41 (3 * a + 1) else if A = 56 ∧ i = 3 * q + 0 then Hei h 41 (3 * a + 0) else if A = 54 ∧ i = q then (s_ce S a).1 else Hei h A i := by intro A i; rw [w5, w4, w3, w2]
  have X : ∀ A i, Hel h5 A i = if A = 55 ∧ i = q then Hel h 39 a else Hel h A i := by intro A i; rw [x5, x4, x3, x2]
  have r := RX_q (ms := s_ms S ++ [(2, t, m, some (s_ce S a))]) (ag_mono a5 (fun a i q z => q (by unfold KM at z; unfold KQ; omega))) o ?_
  · rw [s_ms_ms2] at r; exact r
  · obtain ⟨r1, r2, r3⟩ := rq
    have hl1 : (s_ms S ++ [(2, t, m, some (s_ce S a))]).length = q + 1 := by rw [List.length_append, hq]; rfl
    have hl2 : (s_ms S ++ [((2 : Int32), t, m, (none : Option (Int32 × zN)))]).length = q + 1 := by rw [List.length_append, hq]; rfl
    rw [hl2] at r1 r2 r3
    rw [show rQ h5 (s_ms S ++ [(2, t, m, some (s_ce S a))]) = (Hfi h5 915 37 = Int32.ofNat (s_ms S ++ [(2, t, m, some (s_ce S a))]).length ∧ (s_ms S ++ [(2, t, m, some (s_ce S a))]).length ≤ 40 ∧ ∀ i, i < (s_ms S ++ [(2, t, m, some (s_ce S a))]).length → okMs h5 i ((s_ms S ++ [(2, t, m, some (s_ce S a))]).getD i zm0)) from rfl, hl1]
    refine ⟨?_, r2, fun i hi => ?_⟩
    · rw [ag_f a5 (by unfold KM; omega)]; exact r1
    · have old := r3 i hi
      by_cases e : i = q
      · subst e
        have g1 : (s_ms S ++ [(2, t, m, some (s_ce S a))]).getD i zm0 = (2, t, m, some (s_ce S a)) := by rw [← hq]; exact getD_app_eq
        have g2 : (s_ms S ++ [((2 : Int32), t, m, (none : Option (Int32 × zN)))]).getD i zm0 = (2, t, m, none) := by rw [← hq]; exact getD_app_eq
        rw [g1]
        rw [g2] at old
        obtain ⟨p1, p2, p3, p4⟩ := old
        refine ⟨?_, ?_, ?_, fun v hv => ?_⟩
        · rw [W, if_neg (by omega), if_neg (by omega), if_neg (by omega), if_neg (by omega)]; exact p1
        · rw [W, if_neg (by omega), if_neg (by omega), if_neg (by omega), if_neg (by omega)]; exact p2
        · rw [W, if_neg (by omega), if_neg (by omega), if_neg (by omega), if_neg (by omega)]; exact p3
        · cases hv
          refine ⟨?_, ?_⟩
          · rw [W, if_neg (by omega), if_neg (by omega), if_neg (by omega), if_pos ⟨rfl, rfl⟩]
          · have c0 : Hei h5 56 (3 * i) = Hei h 41 (3 * a) := by rw [W, if_neg (by omega), if_neg (by omega), if_pos ⟨rfl, by omega⟩]; rfl
            have c1 : Hei h5 56 (3 * i + 1) = Hei h 41 (3 * a + 1) := by rw [W, if_neg (by omega), if_pos ⟨rfl, by omega⟩]
            have c2 : Hei h5 56 (3 * i + 2) = Hei h 41 (3 * a + 2) := by rw [W, if_pos ⟨rfl, by omega⟩]
            rw [c0, c1, c2, X, if_pos ⟨rfl, rfl⟩]
            exact n2
      · have g1 : (s_ms S ++ [(2, t, m, some (s_ce S a))]).getD i zm0 = (s_ms S).getD i zm0 := getD_app_lt (by omega)
        have g2 : (s_ms S ++ [((2 : Int32), t, m, (none : Option (Int32 × zN)))]).getD i zm0 = (s_ms S).getD i zm0 := getD_app_lt (by omega)
        rw [g1]
        rw [g2] at old
        have Wo : ∀ A j, ¬ (A = 54 ∧ j = q) → ¬ (A = 56 ∧ 3 * q ≤ j ∧ j < 3 * q + 3) → Hei h5 A j = Hei h A j := by
          intro A j z1 z2
          rw [W, if_neg (by omega), if_neg (by omega), if_neg (by omega), if_neg z1]
        unfold okMs at *
        rw [Wo 51 i (by omega) (by omega), Wo 52 i (by omega) (by omega), Wo 53 i (by omega) (by omega), Wo 54 i (by omega) (by omega), Wo 56 _ (by omega) (by omega), Wo 56 _ (by omega) (by omega), Wo 56 _ (by omega) (by omega), X, if_neg (by omega)]
        exact old
end RPREP
