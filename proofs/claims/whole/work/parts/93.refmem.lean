/-! The reference: locks, carryOut. -/
/-- the first transaction in doubt that holds an address -/
def zlk (rm : Nat → Nat → Int32) (ti : Nat → List zI) (a : Nat) : Nat → Nat → Nat
  | 0, _ => 0
  | f + 1, t => if rm t (a / 8) = 1 ∧ (ti t).any (fun i => i.2.1 == a) = true then t else zlk rm ti a f (t + 1)
def lkInv (S : zS) : Prop := ∀ a, a < 24 → zlk (s_rm S) (s_ti S) a (s_bg S) 1 = s_lk S a
def tisOK (S : zS) : Prop := s_bg S ≤ 512 ∧ ∀ t, 1 ≤ t → t ≤ s_bg S → wfT (s_ti S t) ∧ (s_ti S t).length ≤ 6
section RMEM
variable {h h1 : xv_H} {F i j x p q v s a b c n L t m : Nat} {S : zS} {P : List zI} {it : zI} {ce : Nat → Int32 × zN} {its : List zI}
theorem RX_n (e : ag (fun a i => ¬ KN a i) h h1) (o : RX h S n P c L) (q : rN h1 ce) : RX h1 (s_ce_ S ce) n P c L := by
  obtain ⟨q1, q2, q3, q4, q5, q6, q7, q8, q9⟩ := o
  refine ⟨ag_rF e q1, ?_, q, ?_, ?_, ?_, ?_, ?_, ?_⟩
  · rw [s_dn_ce]; exact rG_c e (fun a i q => by unfold KG at q; unfold KN; omega) q2
  · rw [s_bg_ce, s_tc_ce, s_ti_ce]; exact rT_c e (fun a i q => by unfold KT at q; unfold KN; omega) q4
  · exact rP_c e (fun a i q => by unfold KP at q; unfold KN; omega) q5
  · rw [s_rm_ce]; exact rR_c e (fun a i q => by unfold KR at q; unfold KN; omega) q6
  · rw [s_ms_ce]; exact rQ_c e (fun a i q => by unfold KQ at q; unfold KN; omega) q7
  · rw [s_cl_ce]; exact rC_c e (fun a i q => by unfold KC at q; unfold KN; omega) q8
  · intro d hd hn
    rw [s_cl_ce]
    exact rC_c e (fun a i q => by unfold KC at q; unfold KN; omega) (q9 d hd hn)
theorem RX_r {rm : Nat → Nat → Int32} (e : ag (fun a i => ¬ KR a i) h h1) (o : RX h S n P c L) (q : rR h1 rm) : RX h1 (s_rm_ S rm) n P c L := by
  obtain ⟨q1, q2, q3, q4, q5, q6, q7, q8, q9⟩ := o
  refine ⟨ag_rF e q1, ?_, ?_, ?_, ?_, q, ?_, ?_, ?_⟩
  · rw [s_dn_rm]; exact rG_c e (fun a i q => by unfold KG at q; unfold KR; omega) q2
  · rw [s_ce_rm]; exact rN_c e (fun a i q => by unfold KN at q; unfold KR; omega) q3
  · rw [s_bg_rm, s_tc_rm, s_ti_rm]; exact rT_c e (fun a i q => by unfold KT at q; unfold KR; omega) q4
  · exact rP_c e (fun a i q => by unfold KP at q; unfold KR; omega) q5
  · rw [s_ms_rm]; exact rQ_c e (fun a i q => by unfold KQ at q; unfold KR; omega) q7
  · rw [s_cl_rm]; exact rC_c e (fun a i q => by unfold KC at q; unfold KR; omega) q8
  · intro d hd hn
    rw [s_cl_rm]
    exact rC_c e (fun a i q => by unfold KC at q; unfold KR; omega) (q9 d hd hn)
theorem RX_lk {lk : Nat → Nat} (o : RX h S n P c L) : RX h (s_lk_ S lk) n P c L := by
  unfold RX at *
  simp only [s_dn_lk, s_ce_lk, s_bg_lk, s_tc_lk, s_ti_lk, s_rm_lk, s_ms_lk, s_cl_lk]
  exact o
/-- remembered[3t+m] = w -/
theorem RX_rm {w : Int32} (ht : t < 513) (hm : m < 3) (o : RX h S n P c L) : ag (fun a i => ¬ KR a i) h (Uei h 45 (3 * t + m) w) ∧ RX (Uei h 45 (3 * t + m) w) (s_rm_ S (fset2 (s_rm S) t m w)) n P c L := by
  have e : ag (fun a i => ¬ KR a i) h (Uei h 45 (3 * t + m) w) := ag_ei (by decide) (fun q => q rfl)
  refine ⟨e, RX_r e o (fun t' ht' m' hm' => ?_)⟩
  rw [Hei_Uei]
  show _ = if t' = t ∧ m' = m then w else s_rm S t' m'
  by_cases q : t' = t ∧ m' = m
  · rw [if_pos q, if_pos ⟨rfl, by omega⟩]
  · rw [if_neg q, if_neg (by omega)]; exact o.2.2.2.2.2.1 t' ht' m' hm'
theorem rd_rm (o : RX h S n P c L) (ht : t < 513) (hm : m < 3) : lb 45 (Int32.ofNat (3 * t + m)) h = some (s_rm S t m, h) := by rw [l45 o.1 (by omega), o.2.2.2.2.2.1 t ht m hm]
theorem any_drop {its : List zI} {j : Nat} (hj : j < its.length) : (its.drop j).any (fun i => i.2.1 == a) = ((its.getD j zi0).2.1 == a || (its.drop (j + 1)).any (fun i => i.2.1 == a)) := by
  rw [drop_cons hj]; rfl
/-- lockOf: the items of one transaction -/
theorem r131_in {k10 : Option Nat → Int32 → Int32 → Int32 → Int32 → xm Int32} {f0 : Nat} {mm : Int32} (rf : rF h) (ht : t < 513) (wf : wfT its) (ha : a < 24) (e43 : Hei h 43 t = Int32.ofNat f0) (e44 : Hei h 44 t = Int32.ofNat its.length) (hn : f0 + its.length ≤ 1600) (oi : ∀ j, j < its.length → okIt h (f0 + j) (its.getD j zi0)) : ∀ (f j l : Nat), j ≤ its.length → its.length - j < f → b131_47 k10 F f (some 37) (Int32.ofNat a) mm (Int32.ofNat l) (Int32.ofNat t) (Int32.ofNat (f0 + j)) h = b131_91 k10 F (some 37) (Int32.ofNat a) mm (Int32.ofNat (if (its.drop j).any (fun i => i.2.1 == a) then t else l)) (Int32.ofNat t) h := by
  intro f
  induction f with
  | zero => intro j l h1 h2; omega
  | succ f ih =>
    intro j l h1 h2
    unfold b131_47
    rw [nn_some, mb_mr, mb_some (g906 rf), nn_some, mb_mr, mb_some (l43 rf (by omega)), mb_some (g907 rf), nn_some, mb_mr, mb_some (l44 rf (by omega)), e43, e44, i_add]
    by_cases q : its.length ≤ j
    · rw [if_pos (by rw [i_le (by omega) (by omega)]; omega), List.drop_of_length_le q]; rfl
    · rw [if_neg (by rw [i_le (by omega) (by omega)]; omega), any_drop (by omega)]
      obtain ⟨hk, hb⟩ := wf j (by omega)
      unfold b131_67
      rw [nn_some, mb_mr, mb_some (g911 rf), nn_some, mb_mr, mb_some (l47 rf (by omega)), (oi j (by omega)).2.1]
      by_cases e : (its.getD j zi0).2.1 = a
      · have eb : ((its.getD j zi0).2.1 == a) = true := by simpa using e
        rw [if_neg (fun z => z (by rw [e])), eb]
        unfold b131_78 b131_84
        rw [i_add1, show f0 + j + 1 = f0 + (j + 1) by omega, ih (j + 1) t (by omega) (by omega)]
        cases (its.drop (j + 1)).any (fun i => i.2.1 == a) <;> rfl
      · have eb : ((its.getD j zi0).2.1 == a) = false := by simpa using e
        rw [if_pos (ofNat_ne (by omega) (by omega) e), eb]
        unfold b131_83 b131_84
        rw [i_add1, show f0 + j + 1 = f0 + (j + 1) by omega, ih (j + 1) l (by omega) (by omega)]
        rfl
theorem r131_loop (hF : 1000 ≤ F) (o : RX h S n P c L) (tk : tisOK S) (hn : n ≤ 1600) (ha : a < 24) : ∀ (f q t : Nat), 1 ≤ t → t + q = s_bg S + 1 → q + 1 < f → b131_10 F f (some 37) (Int32.ofNat a) (Int32.ofNat (a / 8)) 0 (Int32.ofNat t) h = some (Int32.ofNat (zlk (s_rm S) (s_ti S) a q t), h) := by
  have rf := o.1
  obtain ⟨tk1, tk2⟩ := tk
  have e904 : gi 904 37 h = some (Int32.ofNat (s_bg S), h) := by rw [g904 rf, o.2.2.2.1.1]
  intro f
  induction f with
  | zero => intro q t h0 h1 h2; omega
  | succ f ih =>
    intro q t h0 h1 h2
    unfold b131_10
    rw [nn_some, mb_mr, mb_some e904]
    cases q with
    | zero => rw [if_pos (by rw [i_lt (by omega) (by omega)]; omega)]; rfl
    | succ q =>
      rw [if_neg (by rw [i_lt (by omega) (by omega)]; omega), zlk]
      unfold b131_19
      rw [if_neg (fun z => z rfl)]
      unfold b131_23
      rw [nn_some, mb_mr, mb_some (g908 rf), nn_some, mb_mr, ix3, mb_some (rd_rm o (by omega) (by omega))]
      have nx := ih q (t + 1) (by omega) (by omega) (by omega)
      by_cases r : s_rm S t (a / 8) = 1
      · rw [if_neg (fun z => z r)]
        unfold b131_38
        obtain ⟨o1, o2, f0, o3, o4, o5⟩ := o.2.2.2.1.2 t h0 (by omega)
        obtain ⟨wf, h6⟩ := tk2 t h0 (by omega)
        rw [nn_some, mb_mr, mb_some (g906 rf), nn_some, mb_mr, mb_some (l43 rf (by omega)), o3]
        have inn := r131_in (F := F) (k10 := b131_10 F f) (mm := Int32.ofNat (a / 8)) rf (by omega) wf ha o3 o2 (by omega) o5 F 0 0 (by omega) (by omega)
        rw [show f0 + 0 = f0 by omega, List.drop_zero] at inn
        rw [show (0 : Int32) = Int32.ofNat 0 from rfl, inn]
        unfold b131_91
        rw [i_add1]
        cases hany : (s_ti S t).any (fun i => i.2.1 == a)
        · rw [if_neg (by decide), if_neg (fun z => by cases z.2)]
          exact nx
        · rw [if_pos rfl, if_pos ⟨r, rfl⟩]
          -- one more turn: the lock is found
          cases f with
          | zero => omega
          | succ f =>
            unfold b131_10
            rw [nn_some, mb_mr, mb_some e904]
            by_cases z : s_bg S < t + 1
            · rw [if_pos (by rw [i_lt (by omega) (by omega)]; exact z)]; rfl
            · rw [if_neg (by rw [i_lt (by omega) (by omega)]; exact z)]
              unfold b131_19
              rw [if_pos (i_ne0 (by omega) (by omega))]; rfl
      · rw [if_pos r, if_neg (fun z => r z.1)]
        unfold b131_91
        rw [i_add1]
        exact nx
theorem r131_eq (hF : 1000 ≤ F) (o : RX h S n P c L) (tk : tisOK S) (hn : n ≤ 1600) (ha : a < 24) (li : lkInv S) : m131 F 37 (Int32.ofNat a) h = some (Int32.ofNat (s_lk S a), h) := by
  have tk1 := tk.1
  unfold m131 b131_0
  rw [mb_some (ok_dz (by decide)), i_div8 _ ha]
  have := r131_loop (F := F) hF o tk hn ha F (s_bg S) 1 (Nat.le_refl 1) (by omega) (by omega)
  rw [li a ha] at this
  exact this
/-- fits -/
theorem r133_eq (o : RX h S n P c L) (hp : p < 1600) (hk : isK it.1) (ha : it.2.1 < 24) (oi : okIt h p it) : m133 F 37 (Int32.ofNat p) h = some (b2i (zfits it (s_ce S it.2.1)), h) := by
  have rf := o.1
  obtain ⟨i1, i2, i3, i4⟩ := oi
  obtain ⟨n1, n2⟩ := o.2.2.1 it.2.1 ha
  unfold m133 b133_0 zfits
  rw [nn_some, mb_mr, mb_some (g911 rf), nn_some, mb_mr, mb_some (l47 rf hp), i2, mb_some (g910 rf), nn_some, mb_mr, mb_some (l46 rf hp), i1]
  by_cases k1 : it.1 = 1
  · rw [if_pos k1, if_neg (by rw [k1]; decide), decide_eq_true (Or.inl k1)]; rfl
  · rw [if_neg k1]
    unfold b133_19
    by_cases k4 : it.1 = 4
    · rw [if_neg (fun z => z k4), if_pos k4]
      unfold b133_24
      rw [nn_some, mb_mr, mb_some (g901 rf), nn_some, mb_mr, mb_some (l39 rf ha), mb_some r134_eq, ← n2.1]
      by_cases z : (s_ce S it.2.1).2.1 = 0
      · rw [if_neg (fun q => q z), decide_eq_true z]; rfl
      · rw [if_pos z, decide_eq_false z]; rfl
    · rw [if_pos k4, if_neg k4]
      unfold b133_39
      have k23 : it.1 = 2 ∨ it.1 = 3 := by
        rcases hk with e | e | e | e
        · exact absurd e k1
        · exact Or.inl e
        · exact Or.inr e
        · exact absurd e k4
      rw [nn_some, mb_mr, mb_some (g902 rf), nn_some, mb_mr, mb_some (l40 rf ha), mb_some (g912 rf), nn_some, mb_mr, mb_some (l48 rf hp), n1, i3 k23]
      by_cases z : (s_ce S it.2.1).1 = it.2.2.1
      · rw [if_neg (fun q => q z), decide_eq_true (Or.inr z)]; rfl
      · rw [if_pos z, decide_eq_false (fun q => q.elim k1 z)]; rfl
end RMEM
