/-! The reference: drop. -/
section RDROP
variable {h h0 h1 : xv_H} {F i j k x p q v s a b c n L t m : Nat} {S : zS} {P : List zI} {ms : List zM}
/-- where a message comes from once those from j on to k have moved -/
def shq (j k i : Nat) : Nat := if j ≤ i ∧ i < k then i + 1 else i
def mvd (h0 h : xv_H) (j k : Nat) : Prop := ∀ i, (∀ A, 51 ≤ A → A ≤ 54 → Hei h A i = Hei h0 A (shq j k i)) ∧ Hel h 55 i = Hel h0 55 (shq j k i) ∧ (∀ w, w < 3 → Hei h 56 (3 * i + w) = Hei h0 56 (3 * shq j k i + w))
theorem shq_ge (h : k ≤ i) : shq j k i = i := by unfold shq; rw [if_neg (by omega)]
theorem mvd_ok {M : zM} (m : mvd h0 h j k) (o : okMs h0 (shq j k i) M) : okMs h i M := by
  obtain ⟨m1, m2, m3⟩ := m i
  unfold okMs
  have e0 := m3 0 (by decide)
  rw [Nat.add_zero, Nat.add_zero] at e0
  rw [m1 51 (by decide) (by decide), m1 52 (by decide) (by decide), m1 53 (by decide) (by decide), m1 54 (by decide) (by decide), m2, e0, m3 1 (by decide), m3 2 (by decide)]
  exact o
theorem r128_val {k28 : Option Nat → Int32 → xm Int32} {k : Nat} {Q : Int32 → xv_H → Prop} (hk : k + 1 < 40) : ∀ (f w : Nat) (h : xv_H), rF h → w ≤ 3 → 3 - w < f → (∀ h', ag (fun a i => ¬ KM a i) h h' → (∀ A i, ¬ (A = 56 ∧ 3 * k + w ≤ i ∧ i < 3 * k + 3) → Hei h' A i = Hei h A i) → (∀ A i, Hel h' A i = Hel h A i) → (∀ u, w ≤ u → u < 3 → Hei h' 56 (3 * k + u) = Hei h 56 (3 * k + 3 + u)) → tot (b128_141 k28 F (some 37) (Int32.ofNat k)) h' Q) → tot (b128_108 k28 F f (some 37) (Int32.ofNat k) (Int32.ofNat w)) h Q := by
  intro f
  induction f with
  | zero => intro w h _ h1 h2; omega
  | succ f ih =>
    intro w h rf h1 h2 kk
    unfold b128_108
    rw [show (3 : Int32) = Int32.ofNat 3 from rfl]
    by_cases e : 3 ≤ w
    · rw [if_pos (by rw [i_le (by decide) (by omega)]; exact e)]
      exact kk h ag_refl (fun _ _ _ => rfl) (fun _ _ => rfl) (fun u _ _ => by omega)
    · rw [if_neg (by rw [i_le (by decide) (by omega)]; exact e)]
      unfold b128_113
      rw [nn_some, mb_mr]
      refine tot_bind (g921 rf) (tot_bind (g921 rf) ?_)
      rw [nn_some, mb_mr, ix30, show (3 : Int32) = Int32.ofNat 3 from rfl, i_add, i_add]
      refine tot_bind (l56 rf (by omega)) ?_
      rw [mb_mr, i_add]
      refine tot_bind (s56 rf (by omega)) ?_
      rw [i_add1]
      have a1 : ag (fun a i => ¬ KM a i) h (Uei h 56 (3 * k + w) (Hei h 56 (3 * k + 3 + w))) := ag_ei (by decide) (fun r => r (by unfold KM; omega))
      have w1 : ∀ A i, Hei (Uei h 56 (3 * k + w) (Hei h 56 (3 * k + 3 + w))) A i = if A = 56 ∧ i = 3 * k + w then Hei h 56 (3 * k + 3 + w) else Hei h A i := by intro A i; rw [Hei_Uei]
      have x1 : ∀ A i, Hel (Uei h 56 (3 * k + w) (Hei h 56 (3 * k + 3 + w))) A i = Hel h A i := by intro A i; rw [Hel_Uei]
      generalize Uei h 56 (3 * k + w) (Hei h 56 (3 * k + 3 + w)) = h2 at *
      refine ih (w + 1) h2 (ag_rF a1 rf) (by omega) (by omega) (fun h' e' w' x' u' => ?_)
      refine kk h' (ag_trans a1 e') (fun A i z => ?_) (fun A i => by rw [x', x1]) (fun u u1 u2 => ?_)
      · rw [w' A i (by omega), w1, if_neg (by omega)]
      · by_cases eu : u = w
        · subst eu
          rw [w' 56 _ (by omega), w1, if_pos ⟨rfl, rfl⟩]
        · rw [u' u (by omega) u2, w1, if_neg (by omega)]
theorem r128_loop {Q : Int32 → xv_H → Prop} {l : Nat} (hF : 1000 ≤ F) (hl : l < 40) (rf0 : rF h0) : ∀ (f k : Nat) (h : xv_H), ag (fun a i => ¬ KM a i) h0 h → Hfi h 915 37 = Int32.ofNat l → j ≤ k → k ≤ l → l - k < f → mvd h0 h j k → (∀ h', ag (fun a i => ¬ KM a i) h0 h' → mvd h0 h' j l → Q 1 h') → tot (b128_28 F f (some 37) (Int32.ofNat k)) h Q := by
  intro f
  induction f with
  | zero => intro k h _ _ _ h1 h2; omega
  | succ f ih =>
    intro k h a0 e915 hjk h1 h2 mv kk
    have rf := ag_rF a0 rf0
    unfold b128_28
    rw [nn_some, mb_mr]
    refine tot_bind (g915 rf) ?_
    rw [e915]
    by_cases e : l ≤ k
    · rw [if_pos (by rw [i_le (by omega) (by omega)]; exact e)]
      have : k = l := by omega
      subst this
      unfold b128_147
      exact tot_bind bz_1 (tot_mr (kk h a0 mv))
    · rw [if_neg (by rw [i_le (by omega) (by omega)]; exact e)]
      unfold b128_36
      rw [nn_some, mb_mr]
      -- kind
      refine tot_bind (g916 rf) (tot_bind (g916 rf) ?_)
      rw [nn_some, mb_mr, i_add1]
      refine tot_bind (l51 rf (by omega)) ?_
      rw [mb_mr]
      refine tot_bind (s51 rf (by omega)) ?_
      have a1 : ag (fun a i => ¬ KM a i) h (Uei h 51 k (Hei h 51 (k + 1))) := ag_ei (by decide) (fun r => r (by unfold KM; omega))
      have w1 : ∀ A i, Hei (Uei h 51 k (Hei h 51 (k + 1))) A i = if A = 51 ∧ i = k then Hei h A (k + 1) else Hei h A i := by
        intro A i; rw [Hei_Uei]; split
        · rename_i z; rw [z.1]
        · rfl
      have x1 : ∀ A i, Hel (Uei h 51 k (Hei h 51 (k + 1))) A i = Hel h A i := by intro A i; rw [Hel_Uei]
      generalize Uei h 51 k (Hei h 51 (k + 1)) = h2 at *
      have rf1 := ag_rF a1 rf
      -- about
      refine tot_bind (g917 rf1) (tot_bind (g917 rf1) ?_)
      rw [nn_some, mb_mr]
      refine tot_bind (l52 rf1 (by omega)) ?_
      rw [mb_mr]
      refine tot_bind (s52 rf1 (by omega)) ?_
      have a2 : ag (fun a i => ¬ KM a i) h (Uei h2 52 k (Hei h2 52 (k + 1))) := ag_trans a1 (ag_ei (by decide) (fun r => r (by unfold KM; omega)))
      have w2 : ∀ A i, Hei (Uei h2 52 k (Hei h2 52 (k + 1))) A i = if (A = 51 ∨ A = 52) ∧ i = k then Hei h A (k + 1) else Hei h A i := by
        intro A i
        rw [Hei_Uei]
        by_cases z : A = 52 ∧ i = k
        · rw [if_pos z, w1, if_neg (by omega), if_pos ⟨Or.inr z.1, z.2⟩, z.1]
        · rw [if_neg z, w1]
          by_cases y : A = 51 ∧ i = k
          · rw [if_pos y, if_pos ⟨Or.inl y.1, y.2⟩]
          · rw [if_neg y, if_neg (by omega)]
      have x2 : ∀ A i, Hel (Uei h2 52 k (Hei h2 52 (k + 1))) A i = Hel h A i := by intro A i; rw [Hel_Uei]; exact x1 A i
      generalize Uei h2 52 k (Hei h2 52 (k + 1)) = h3 at *
      have rf2 := ag_rF a2 rf
      -- place
      refine tot_bind (g918 rf2) (tot_bind (g918 rf2) ?_)
      rw [nn_some, mb_mr]
      refine tot_bind (l53 rf2 (by omega)) ?_
      rw [mb_mr]
      refine tot_bind (s53 rf2 (by omega)) ?_
      have a3 : ag (fun a i => ¬ KM a i) h (Uei h3 53 k (Hei h3 53 (k + 1))) := ag_trans a2 (ag_ei (by decide) (fun r => r (by unfold KM; omega)))
      have w3 : ∀ A i, Hei (Uei h3 53 k (Hei h3 53 (k + 1))) A i = if (51 ≤ A ∧ A ≤ 53) ∧ i = k then Hei h A (k + 1) else Hei h A i := by
        intro A i
        rw [Hei_Uei]
        by_cases z : A = 53 ∧ i = k
        · rw [if_pos z, w2, if_neg (by omega), if_pos ⟨by omega, z.2⟩, z.1]
        · rw [if_neg z, w2]
          by_cases y : (A = 51 ∨ A = 52) ∧ i = k
          · rw [if_pos y, if_pos ⟨by omega, y.2⟩]
          · rw [if_neg y, if_neg (by omega)]
      have x3 : ∀ A i, Hel (Uei h3 53 k (Hei h3 53 (k + 1))) A i = Hel h A i := by intro A i; rw [Hel_Uei]; exact x2 A i
      generalize Uei h3 53 k (Hei h3 53 (k + 1)) = h4 at *
      have rf3 := ag_rF a3 rf
      -- bearVersion
      refine tot_bind (g919 rf3) (tot_bind (g919 rf3) ?_)
      rw [nn_some, mb_mr]
      refine tot_bind (l54 rf3 (by omega)) ?_
      rw [mb_mr]
      refine tot_bind (s54 rf3 (by omega)) ?_
      have a4 : ag (fun a i => ¬ KM a i) h (Uei h4 54 k (Hei h4 54 (k + 1))) := ag_trans a3 (ag_ei (by decide) (fun r => r (by unfold KM; omega)))
      have w4 : ∀ A i, Hei (Uei h4 54 k (Hei h4 54 (k + 1))) A i = if (51 ≤ A ∧ A ≤ 54) ∧ i = k then Hei h A (k + 1) else Hei h A i := by
        intro A i
        rw [Hei_Uei]
        by_cases z : A = 54 ∧ i = k
        · rw [if_pos z, w3, if_neg (by omega), if_pos ⟨by omega, z.2⟩, z.1]
        · rw [if_neg z, w3]
          by_cases y : (51 ≤ A ∧ A ≤ 53) ∧ i = k
          · rw [if_pos y, if_pos ⟨by omega, y.2⟩]
          · rw [if_neg y, if_neg (by omega)]
      have x4 : ∀ A i, Hel (Uei h4 54 k (Hei h4 54 (k + 1))) A i = Hel h A i := by intro A i; rw [Hel_Uei]; exact x3 A i
      generalize Uei h4 54 k (Hei h4 54 (k + 1)) = h5 at *
      have rf4 := ag_rF a4 rf
      -- bearNode
      refine tot_bind (g920 rf4) (tot_bind (g920 rf4) ?_)
      rw [nn_some, mb_mr]
      refine tot_bind (l55 rf4 (by omega)) ?_
      rw [mb_mr]
      refine tot_bind (s55 rf4 (by omega)) ?_
      have a5 : ag (fun a i => ¬ KM a i) h (Uel h5 55 k (Hel h5 55 (k + 1))) := ag_trans a4 (ag_el (by decide) (fun r => r (by unfold KM; omega)))
      have w5 : ∀ A i, Hei (Uel h5 55 k (Hel h5 55 (k + 1))) A i = if (51 ≤ A ∧ A ≤ 54) ∧ i = k then Hei h A (k + 1) else Hei h A i := by intro A i; rw [Hei_Uel]; exact w4 A i
      have x5 : ∀ i, Hel (Uel h5 55 k (Hel h5 55 (k + 1))) 55 i = if i = k then Hel h 55 (k + 1) else Hel h 55 i := by
        intro i
        rw [Hel_Uel, x4, x4]
        by_cases z : i = k
        · rw [if_pos ⟨rfl, z⟩, if_pos z]
        · rw [if_neg (fun y => z y.2), if_neg z]
      generalize Uel h5 55 k (Hel h5 55 (k + 1)) = h6 at *
      refine r128_val (by omega) F 0 h6 (ag_rF a5 rf) (by omega) (by omega) (fun h7 e7 w7 x7 u7 => ?_)
      unfold b128_141
      rw [i_add1]
      have a7 : ag (fun a i => ¬ KM a i) h0 h7 := ag_trans a0 (ag_trans a5 e7)
      refine ih (k + 1) h7 a7 ?_ (by omega) (by omega) (by omega) (fun i => ?_) kk
      · rw [ag_f (ag_trans a5 e7) (by unfold KM; omega)]; exact e915
      · obtain ⟨m1, m2, m3⟩ := mv i
        obtain ⟨q1, q2, q3⟩ := mv (k + 1)
        rw [shq_ge (by omega)] at q1 q2 q3
        by_cases z : i = k
        · subst z
          have es : shq j (i + 1) i = i + 1 := by unfold shq; rw [if_pos (by omega)]
          rw [es]
          refine ⟨fun A A1 A2 => ?_, ?_, fun w hw => ?_⟩
          · rw [w7 A i (by omega), w5, if_pos ⟨by omega, rfl⟩]; exact q1 A A1 A2
          · rw [x7, x5, if_pos rfl]; exact q2
          · rw [u7 w (by omega) hw, w5, if_neg (by omega), show 3 * i + 3 + w = 3 * (i + 1) + w by omega]; exact q3 w hw
        · have es : shq j (k + 1) i = shq j k i := by
            unfold shq
            by_cases y : j ≤ i ∧ i < k
            · rw [if_pos y, if_pos (by omega)]
            · rw [if_neg y, if_neg (by omega)]
          rw [es]
          refine ⟨fun A A1 A2 => ?_, ?_, fun w hw => ?_⟩
          · rw [w7 A i (by omega), w5, if_neg (by omega)]; exact m1 A A1 A2
          · rw [x7, x5, if_neg z]; exact m2
          · rw [w7 56 _ (by omega), w5, if_neg (by omega)]; exact m3 w hw
/-- drop, a message that is there -/
theorem r128_in (hF : 1000 ≤ F) (o : RX h S n P c L) (hj : j < (s_ms S).length) : tot (m128 F 37 (Int32.ofNat j)) h (fun r h' => r = 1 ∧ agR h h' ∧ RX h' (s_ms_ S ((s_ms S).eraseIdx j)) n P c L) := by
  have rf := o.1
  obtain ⟨q1, q2, q3⟩ := o.2.2.2.2.2.2.1
  generalize hl : (s_ms S).length - 1 = l at *
  have e1 : Int32.ofNat (s_ms S).length - 1 = Int32.ofNat l := by rw [i_sub1 (by omega) (by omega), hl]
  unfold m128 b128_0
  rw [nn_some, mb_mr]
  refine tot_bind (g915 rf) (tot_bind r127_eq ?_)
  rw [q1, e1]
  have : (0 : Int32) ≤ Int32.ofNat j ∧ Int32.ofNat j ≤ Int32.ofNat l := ⟨i_nn (by omega), by rw [i_le (by omega) (by omega)]; omega⟩
  rw [decide_eq_true this, if_pos (by decide)]
  unfold b128_16
  rw [nn_some, mb_mr]
  refine tot_bind (g915 rf) (tot_bind (p915 rf) ?_)
  rw [q1, e1]
  have a1 : ag (fun a i => ¬ KQ a i) h (Ufi h 915 37 (Int32.ofNat l)) := ag_fi (by decide) (fun r => r (by unfold KQ; omega))
  have f1 : Hfi (Ufi h 915 37 (Int32.ofNat l)) 915 37 = Int32.ofNat l := by rw [Hfi_Ufi, if_pos ⟨rfl, rfl⟩]
  have w1 : ∀ A i, Hei (Ufi h 915 37 (Int32.ofNat l)) A i = Hei h A i := by intro A i; rw [Hei_Ufi]
  have x1 : ∀ A i, Hel (Ufi h 915 37 (Int32.ofNat l)) A i = Hel h A i := by intro A i; rw [Hel_Ufi]
  generalize Ufi h 915 37 (Int32.ofNat l) = h1 at *
  refine r128_loop (l := l) (j := j) hF (by omega) (ag_rF a1 rf) F j h1 ag_refl f1 (Nat.le_refl _) (by omega) (by omega) (fun i => ?_) (fun h2 a2 mv => ⟨rfl, agR_trans (ag_R a1) (ag_R a2), ?_⟩)
  · have : shq j j i = i := by unfold shq; rw [if_neg (by omega)]
    rw [this]
    exact ⟨fun _ _ _ => rfl, rfl, fun _ _ => rfl⟩
  · have e02 : ag (fun a i => ¬ KQ a i) h h2 := ag_trans a1 (ag_mono a2 (fun a i q z => q (by unfold KM at z; unfold KQ; omega)))
    refine RX_q e02 o ⟨?_, ?_, fun i hi => ?_⟩
    · rw [ag_f a2 (by unfold KM; omega), f1, List.length_eraseIdx, if_pos hj, hl]
    · rw [List.length_eraseIdx, if_pos hj]; omega
    · rw [List.length_eraseIdx, if_pos hj] at hi
      rw [getD_erase]
      have old : ∀ p, okMs h p ((s_ms S).getD p zm0) → okMs h1 p ((s_ms S).getD p zm0) := by
        intro p op
        unfold okMs at *
        rw [w1, w1, w1, w1, w1, w1, w1, x1]
        exact op
      refine mvd_ok mv ?_
      unfold shq
      by_cases z : i < j
      · rw [if_pos z, if_neg (by omega)]
        exact old i (q3 i (by omega))
      · rw [if_neg z, if_pos (by omega)]
        exact old (i + 1) (q3 (i + 1) (by omega))
theorem r128_out {i : Int32} (o : RX h S n P c L) (hi : ¬ (0 ≤ i ∧ i < Int32.ofNat (s_ms S).length)) : (0 ≤ i ∧ i ≤ Int32.ofNat (s_ms S).length - 1) → False := by
  have h40 := o.2.2.2.2.2.2.1.2.1
  intro q
  apply hi
  refine ⟨q.1, ?_⟩
  by_cases z : (s_ms S).length = 0
  · exfalso
    rw [z] at q
    have := q.2
    have := q.1
    rw [Int32.le_iff_toInt_le] at *
    have e1 : (Int32.ofNat 0 - 1).toInt = -1 := by decide
    have e0 : (0 : Int32).toInt = 0 := by decide
    omega
  · have := q.2
    rw [i_sub1 (by omega) (by omega), Int32.le_iff_toInt_le, i_toInt (by omega)] at this
    rw [Int32.lt_iff_toInt_lt, i_toInt (by omega)]
    omega
theorem r128_tot {i : Int32} (hF : 1000 ≤ F) (o : RX h S n P c L) : tot (m128 F 37 i) h (fun r h' => r = (Xdrop i S).1 ∧ agR h h' ∧ RX h' (Xdrop i S).2 n P c L) := by
  have rf := o.1
  have h40 := o.2.2.2.2.2.2.1.2.1
  unfold Xdrop
  by_cases q : 0 ≤ i ∧ i < Int32.ofNat (s_ms S).length
  · rw [if_pos q]
    obtain ⟨hj, ei⟩ := i_nat_lt (n := (s_ms S).length) (by omega) q
    generalize i.toNatClampNeg = j at *
    subst ei
    exact r128_in hF o hj
  · rw [if_neg q]
    unfold m128 b128_0
    rw [nn_some, mb_mr]
    refine tot_bind (g915 rf) (tot_bind r127_eq ?_)
    rw [o.2.2.2.2.2.2.1.1, decide_eq_false (r128_out o q), if_neg (by decide)]
    exact tot_bind bz_0 (tot_mr ⟨rfl, ag_R (K := fun _ _ => False) ag_refl, o⟩)
end RDROP
