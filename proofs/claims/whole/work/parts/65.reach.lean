/-! A message reaches a memory node. -/
theorem zwr_o {m a : Nat} (ha : ¬ a / 8 = m) : ∀ (its : List zI) (ce : Nat → Int32 × zN), zwr m its ce a = ce a := by
  intro its
  induction its with
  | nil => intro ce; rfl
  | cons i its ih =>
    intro ce
    show zwr m its _ a = ce a
    rw [ih]
    dsimp only
    split
    · rename_i q; rw [fset_eq, if_neg (fun e => ha (by rw [e]; exact q.1))]
    · rfl
theorem zlo_o {m a x : Nat} (ha : ¬ a / 8 = m) : ∀ (its : List zI) (lk : Nat → Nat), zlo m x its lk a = lk a := by
  intro its
  induction its with
  | nil => intro lk; rfl
  | cons i its ih =>
    intro lk
    show zlo m x its _ a = lk a
    rw [ih]
    dsimp only
    split
    · rename_i q; rw [fset_eq, if_neg (fun e => ha (by rw [e]; exact q))]
    · rfl
theorem fset2_o {rm : Nat → Nat → Int32} {t m p : Nat} {w : Int32} (hp : ¬ p = m) (s : Nat) : fset2 rm t m w s p = rm s p := by
  show (if s = t ∧ p = m then w else rm s p) = rm s p
  rw [if_neg (fun q => hp q.2)]
section REACH
variable {h h1 h2 : xv_H} {F f x y c t m n K bg B : Nat} {T : zT} {S : zS} {z : zC} {D : zD}
theorem Zaccept_eq : Zaccept t m S = ((zacc t m (s_ti S t) (s_ce S) (s_lk S) (s_rm S)).1, s_rm_ (s_lk_ (s_ce_ S (zacc t m (s_ti S t) (s_ce S) (s_lk S) (s_rm S)).2.1) (zacc t m (s_ti S t) (s_ce S) (s_lk S) (s_rm S)).2.2.1) (zacc t m (s_ti S t) (s_ce S) (s_lk S) (s_rm S)).2.2.2) := by
  unfold Zaccept zacc
  rw [headD_getD]
  by_cases a : isRd (s_ti S t) = true
  · rw [if_pos a, if_pos a]; rfl
  · rw [if_neg a, if_neg a]
    by_cases b : s_rm S t m = 0
    · rw [if_neg (show ¬ (s_rm S t m ≠ 0) from fun z => z b)]
      try rw [if_neg (show ¬ ¬ (s_rm S t m = 0) from fun z => z b)]
      by_cases d : zcan (s_ti S t) m (s_lk S) (s_ce S) = false
      · rw [if_pos d, if_pos d]; rfl
      · rw [if_neg d, if_neg d]
        by_cases e : sev (s_ti S t) = true
        · rw [if_pos e, if_pos e]; rfl
        · rw [if_neg e, if_neg e]; rfl
    · rw [if_pos (show s_rm S t m ≠ 0 from b)]
      try rw [if_pos (show ¬ (s_rm S t m = 0) from b)]
      rfl
theorem zacc_o {its : List zI} {ce : Nat → Int32 × zN} {lk : Nat → Nat} {rm : Nat → Nat → Int32} : (∀ a, ¬ a / 8 = m → (zacc t m its ce lk rm).2.1 a = ce a) ∧ (∀ a, ¬ a / 8 = m → (zacc t m its ce lk rm).2.2.1 a = lk a) ∧ (∀ s p, ¬ p = m → (zacc t m its ce lk rm).2.2.2 s p = rm s p) := by
  unfold zacc
  by_cases a : isRd its = true
  · rw [if_pos a]; exact ⟨fun _ _ => rfl, fun _ _ => rfl, fun _ _ _ => rfl⟩
  · rw [if_neg a]
    by_cases b : ¬ rm t m = 0
    · rw [if_pos b]; exact ⟨fun _ _ => rfl, fun _ _ => rfl, fun _ _ _ => rfl⟩
    · rw [if_neg b]
      by_cases d : zcan its m lk ce = false
      · rw [if_pos d]; exact ⟨fun _ _ => rfl, fun _ _ => rfl, fun s p q => fset2_o q s⟩
      · rw [if_neg d]
        by_cases e : sev its = true
        · rw [if_pos e]; exact ⟨fun _ _ => rfl, fun a q => zlo_o q its lk, fun s p q => fset2_o q s⟩
        · rw [if_neg e]; exact ⟨fun a q => zwr_o q its ce, fun _ _ => rfl, fun s p q => fset2_o q s⟩
theorem opOK_rlc {ce : Nat → Int32 × zN} {lk : Nat → Nat} {rm : Nat → Nat → Int32} (w : opOK S) : opOK (s_rm_ (s_lk_ (s_ce_ S ce) lk) rm) := w
/-- commit at m -/
theorem cr_commit (hF : 1000 ≤ F) (hm : m < 3) (o : CR h S T) (w : opOK S) (t1 : 1 ≤ t) (t2 : t ≤ s_bg S) (hbg : s_bg S ≤ 512) (wf : wfT (s_ti S t)) (g : hb 10 h) : tot (m87 F (6 + 4 * m) (some (T t))) h (fun _ h' => ext 6 Xf0 (XaM m) h h' ∧ CR h' (Zcommit t m S) T) := by
  obtain ⟨x7, ot⟩ := cr_tx o t1 t2
  refine tot_mono (c87_tot hF hm (by omega) x7 wf g (o.2.1 m hm) ot) (fun _ h1 q => ⟨q.1, ?_⟩)
  obtain ⟨E, q⟩ := q
  unfold Zcommit
  by_cases r : s_rm S t m = 1
  · rw [if_pos r, if_pos r, if_pos r] at q
    rw [if_pos r]
    exact CR_m hm E w o q (fun a ha => zwr_o ha _ _) (fun a ha => zlo_o ha _ _) (fun s p hp => fset2_o hp s)
  · rw [if_neg r, if_neg r, if_neg r] at q
    rw [if_neg r]
    exact CR_m hm E w o q (fun _ _ => rfl) (fun _ _ => rfl) (fun _ _ _ => rfl)
theorem cr_abort (hF : 1000 ≤ F) (hm : m < 3) (o : CR h S T) (w : opOK S) (t1 : 1 ≤ t) (t2 : t ≤ s_bg S) (hbg : s_bg S ≤ 512) (wf : wfT (s_ti S t)) : tot (m92 F (6 + 4 * m) (some (T t))) h (fun _ h' => ext 0 Xf0 (XaM m) h h' ∧ CR h' (Zabort t m S) T) := by
  obtain ⟨x7, ot⟩ := cr_tx o t1 t2
  refine tot_mono (c92_tot hF hm (by omega) x7 wf (o.2.1 m hm) ot) (fun _ h1 q => ⟨q.1, ?_⟩)
  obtain ⟨E, q⟩ := q
  unfold Zabort
  dsimp only
  by_cases r : s_rm S t m = 1
  · rw [if_pos r, if_pos (Or.inl r)] at q
    rw [if_pos r, if_pos (Or.inl r)]
    exact CR_m hm E w o q (fun _ _ => rfl) (fun a ha => zlo_o ha _ _) (fun s p hp => fset2_o hp s)
  · rw [if_neg r] at q
    rw [if_neg r]
    by_cases r0 : s_rm S t m = 0
    · rw [if_pos (Or.inr r0)] at q
      rw [if_pos (Or.inr r0)]
      exact CR_m hm E w o q (fun _ _ => rfl) (fun _ _ => rfl) (fun s p hp => fset2_o hp s)
    · rw [if_neg (fun z => z.elim r r0)] at q
      rw [if_neg (fun z => z.elim r r0)]
      exact CR_m hm E w o q (fun _ _ => rfl) (fun _ _ => rfl) (fun _ _ _ => rfl)
theorem cr_mem (o : CR h S T) (hm : m < 3) : lr 104 5 (Int32.ofNat m) h = some (some (6 + 4 * m), h) := by
  obtain ⟨_, ⟨q1, q2, q3⟩, _⟩ := o.1
  rw [ok_lr q1 (i_nn (by omega)) (by rw [i_nat (by omega), q2]; exact hm), i_nat (by omega), q3 m hm]
theorem cr_cli (o : CR h S T) (hc : c < 2) : lr 105 22 (Int32.ofNat c) h = some (some (23 + 6 * c), h) := by
  obtain ⟨_, _, ⟨q1, q2, q3⟩⟩ := o.1
  rw [ok_lr q1 (i_nn (by omega)) (by rw [i_nat (by omega), q2]; exact hc), i_nat (by omega), q3 c hc]
theorem cr_0 (o : CR h S T) : gr 0 0 h = some (some 5, h) ∧ gr 1 0 h = some (some 22, h) ∧ gr 2 0 h = some (some 35, h) ∧ gr 3 0 h = some (some 36, h) ∧ gi 4 0 h = some (Int32.ofNat (s_bg S), h) ∧ vc 0 0 h = some ((), h) := by
  obtain ⟨⟨a1, a2, a3, a4, a5, a6⟩, _⟩ := o.1
  exact ⟨by rw [ok_gr a1, a2], by rw [ok_gr a1, a3], by rw [ok_gr a1, a4], by rw [ok_gr a1, a5], by rw [ok_gi a1, a6], ok_vc a1⟩
theorem c86_tot {k : Int32} {so : Option (Int32 × zN)} (hF : 1000 ≤ F) (o : CR h S T) (w : opOK S) (t1 : 1 ≤ t) (t2 : t ≤ s_bg S) (hbg : s_bg S ≤ 512) (hm : m < 3) (wf : wfT (s_ti S t)) (hlk : ∀ a, s_lk S a < 1000) (hrd : isRd (s_ti S t) = true → ((s_ti S t).getD 0 zi0).2.1 / 8 = m) (oM : okM h T x (k, t, m, so)) (g : hb 60 h) : tot (m86 F 0 (some x)) h (fun _ h' => CR h' (Zreach k t m S) T ∧ gw 10 h h') := by
  obtain ⟨z0, z1, z2, z3, z4, zv⟩ := cr_0 o
  obtain ⟨M1, M2, M3, M4, M5⟩ := id oM
  dsimp only at M2 M3 M4 M5
  have v3 := (kM_d (o.2.1 m hm)).1
  unfold m86 b86_0
  rw [nn_some, mb_mr]
  refine tot_bind z0 ?_
  rw [nn_some, mb_mr]
  refine tot_bind (by rw [ok_gi M1, M4]) ?_
  rw [nn_some, mb_mr]
  refine tot_bind (cr_mem o hm) (tot_bind (by rw [ok_gr M1, M3]) (tot_bind (by rw [ok_gi M1, M2]) ?_))
  unfold Zreach
  by_cases k4 : k = 4
  · rw [if_neg (fun z => z k4), if_pos k4]
    unfold b86_23
    rw [nn_some, mb_mr]
    refine tot_bind v3 (tot_mb (cr_commit hF hm o w t1 t2 hbg wf (hb_le g (by decide))) (fun _ h1 q => tot_mr ⟨q.2, gw_le (gw_M hm q.1) (by decide)⟩))
  · rw [if_pos k4, if_neg k4]
    unfold b86_31
    rw [nn_some, mb_mr]
    refine tot_bind (by rw [ok_gi M1, M2]) ?_
    by_cases k5 : k = 5
    · rw [if_neg (fun z => z k5), if_pos k5]
      unfold b86_39
      rw [nn_some, mb_mr]
      refine tot_bind v3 (tot_mb (cr_abort hF hm o w t1 t2 hbg wf) (fun _ h1 q => tot_mr ⟨q.2, gw_le (gw_M hm q.1) (by decide)⟩))
    · rw [if_pos k5, if_neg k5]
      unfold b86_47
      rw [nn_some, mb_mr]
      obtain ⟨x7, ot⟩ := cr_tx o t1 t2
      refine tot_bind v3 (tot_mb (c93_tot hF hm (by omega) x7 wf hlk hrd (hb_le g (by decide)) (o.2.1 m hm) ot) (fun r h1 q => ?_))
      obtain ⟨rfl, E1, q1⟩ := q
      have zo := zacc_o (t := t) (m := m) (its := s_ti S t) (ce := s_ce S) (lk := s_lk S) (rm := s_rm S)
      have r1 := CR_m hm E1 w o q1 zo.1 zo.2.1 zo.2.2
      unfold Zprep
      have ea := Zaccept_eq (t := t) (m := m) (S := S)
      rw [ea]
      dsimp only
      have w1 : opOK (s_rm_ (s_lk_ (s_ce_ S (zacc t m (s_ti S t) (s_ce S) (s_lk S) (s_rm S)).2.1) (zacc t m (s_ti S t) (s_ce S) (s_lk S) (s_rm S)).2.2.1) (zacc t m (s_ti S t) (s_ce S) (s_lk S) (s_rm S)).2.2.2) := w
      have eti : s_ti (s_rm_ (s_lk_ (s_ce_ S (zacc t m (s_ti S t) (s_ce S) (s_lk S) (s_rm S)).2.1) (zacc t m (s_ti S t) (s_ce S) (s_lk S) (s_rm S)).2.2.1) (zacc t m (s_ti S t) (s_ce S) (s_lk S) (s_rm S)).2.2.2) = s_ti S := (rfl)
      have ece : s_ce (s_rm_ (s_lk_ (s_ce_ S (zacc t m (s_ti S t) (s_ce S) (s_lk S) (s_rm S)).2.1) (zacc t m (s_ti S t) (s_ce S) (s_lk S) (s_rm S)).2.2.1) (zacc t m (s_ti S t) (s_ce S) (s_lk S) (s_rm S)).2.2.2) = (zacc t m (s_ti S t) (s_ce S) (s_lk S) (s_rm S)).2.1 := (rfl)
      generalize hS1 : s_rm_ (s_lk_ (s_ce_ S (zacc t m (s_ti S t) (s_ce S) (s_lk S) (s_rm S)).2.1) (zacc t m (s_ti S t) (s_ce S) (s_lk S) (s_rm S)).2.2.1) (zacc t m (s_ti S t) (s_ce S) (s_lk S) (s_rm S)).2.2.2 = S1 at *
      have oM1 := okM_c E1 (calmM hm) oM
      have g1 : hb 50 h1 := hb_ext (K := 6) E1 (hb_le g (by decide))
      cases hz : (zacc t m (s_ti S t) (s_ce S) (s_lk S) (s_rm S)).1
      · rw [if_pos (by decide), if_neg (by decide)]
        unfold b86_73
        rw [nn_some, mb_mr]
        refine tot_bind (by rw [ok_gi oM1.1, oM1.2.2.2.1]) ?_
        rw [nn_some, mb_mr]
        refine tot_bind (ok_vc r1.1.1.1) (tot_mb (cr_send (t := t) (m := m) (so := none) r1 w1 (hb_le g1 (by decide)) rfl) (fun _ h2 q2 => tot_mr ⟨q2.2, gw_le (gw_trans (gw_M hm E1) (gw_Q q2.1)) (by decide)⟩))
      · rw [if_neg (by decide), if_pos rfl]
        unfold b86_55
        rw [nn_some, mb_mr]
        refine tot_bind (by rw [ok_gi oM1.1, oM1.2.2.2.1]) ?_
        rw [nn_some, mb_mr]
        obtain ⟨_, ot1⟩ := cr_tx (t := t) r1 t1 (by rw [← hS1]; exact t2)
        rw [eti] at ot1
        obtain ⟨sw, e97, osw⟩ := c97_eq (F := F) wf hrd q1 ot1
        have vm := (kM_d q1).1
        refine tot_bind vm (tot_bind e97 ?_)
        rw [nn_some, mb_mr]
        have es : (if isRd (s_ti S t) = true then some ((zacc t m (s_ti S t) (s_ce S) (s_lk S) (s_rm S)).2.1 ((s_ti S t).getD 0 zi0).2.1) else none) = Zsight t S1 := by
          unfold Zsight
          rw [eti, ece, headD_getD]; rfl
        rw [es] at osw
        refine tot_bind (ok_vc r1.1.1.1) (tot_mb (cr_send (t := t) (m := m) (so := Zsight t S1) r1 w1 (hb_le g1 (by decide)) osw) (fun _ h2 q2 => tot_mr ⟨q2.2, gw_le (gw_trans (gw_M hm E1) (gw_Q q2.1)) (by decide)⟩))
end REACH
