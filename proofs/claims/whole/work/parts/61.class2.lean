/-! The class sends. -/
def gw (k : Nat) (h h1 : xv_H) : Prop := ext k (fun _ a => a < 37 ∨ 77 ≤ a) (fun a => a < 37 ∨ 77 ≤ a) h h1
section CL2
variable {h h1 h2 : xv_H} {F f x y c t m n K bg : Nat} {T : zT} {S : zS} {an : Nat → Bool}
theorem gw_refl : gw 0 h h := ext_refl
theorem gw_trans {k1 k2 : Nat} (e1 : gw k1 h h1) (e2 : gw k2 h1 h2) : gw (k1 + k2) h h2 := ext_trans e1 e2
theorem gw_le {k1 k2 : Nat} (e1 : gw k1 h h1) (hk : k1 ≤ k2) : gw k2 h h1 := ext_le e1 hk
theorem gw_M (hm : m < 3) (e : ext K Xf0 (XaM m) h h1) : gw K h h1 := ext_mono e (Nat.le_refl _) (fun _ _ q => q.elim) (fun a q => by unfold XaM at q; omega)
theorem gw_Q (e : ext K XfQ (isQ h) h h1) : gw K h h1 := ext_mono e (Nat.le_refl _) (fun _ a q => by have := q.1; omega) (fun a q => by have := q.1; omega)
theorem gw_K (hc : c < 2) (e : ext K (XfK (23 + 6 * c)) (XaC (23 + 6 * c)) h h1) : gw K h h1 := ext_mono e (Nat.le_refl _) (fun f a q => by unfold XfK at q; omega) (fun a q => by unfold XaC at q; omega)
theorem hb_gw {r : Nat} (e : gw K h h1) (g : hb (K + r) h) : hb r h1 := hb_ext e g
theorem opOK_ms {ms : List zM} (w : opOK S) : opOK (s_ms_ S ms) := fun c hc => by rw [s_cl_ms, s_bg_ms]; exact w c hc
theorem cr_send {k : Int32} {s : Option Nat} {so : Option (Int32 × zN)} (o : CR h S T) (w : opOK S) (g : hb 20 h) (ho : okO h s so) : tot (m52 F 0 k (some (T t)) (Int32.ofNat m) s) h (fun _ h' => ext 2 XfQ (isQ h) h h' ∧ CR h' (s_ms_ S (snd_ (s_ms S) (k, t, m, so))) T) :=
  tot_mono (c52_tot (M := (k, t, m, so)) o.2.2.2.2.2 o.1.1.1 o.1.1.2.2.2.1 g ho) (fun _ _ q => ⟨q.1, CR_q q.1 w o q.2⟩)
theorem okAn_Q {its : List zI} (e : ext K XfQ (isQ h) h h1) (ot : okTx h x c t its) (oa : okAn h x an) : okAn h1 x an := okAn_c e ot.1.2.2.2.1.1 (fun q => by have := q.2; have := ot.1.2.2.2.1.2.2; omega) oa
theorem cr_tx (o : CR h S T) (t1 : 1 ≤ t) (t2 : t ≤ s_bg S) : 77 ≤ T t ∧ okTx h (T t) (s_tc S t) t (s_ti S t) := o.2.2.2.2.1 t t1 t2
/-- sendPrepare, one step -/
theorem c51_step {Q : Int32 → xv_H → Prop} {q j : Nat} {n : Int32} (hj : j < 3) (t1 : 1 ≤ t) (t2 : t ≤ s_bg S) (o : CR h S T) (w : opOK S) (g : hb 20 h) (oa : okAn h (T t) an) (k : ∀ h', ext 2 XfQ (isQ h) h h' → CR h' (s_ms_ S (if tp (s_ti S t) j && !(an j) then snd_ (s_ms S) (1, t, j, none) else s_ms S)) T → okAn h' (T t) an → tot (b51_4 F q (some 0) (some (T t)) (if tp (s_ti S t) j && !(an j) then n + 1 else n) (Int32.ofNat (j + 1))) h' Q) : tot (b51_4 F (q + 1) (some 0) (some (T t)) n (Int32.ofNat j)) h Q := by
  obtain ⟨x7, ot⟩ := cr_tx o t1 t2
  obtain ⟨v4, d1, d2, d3, _, d4, _, d6⟩ := okTx_d ot
  unfold b51_4
  rw [show (3 : Int32) = Int32.ofNat 3 from rfl, if_neg (by rw [i_le (by decide) (by omega)]; omega)]
  unfold b51_9
  rw [nn_some, mb_mr]
  refine tot_bind d2 ?_
  rw [nn_some, mb_mr]
  refine tot_bind (okTx_tp ot hj) ?_
  have id1 : s_ms_ S (s_ms S) = S := (rfl)
  cases hp : tp (s_ti S t) j
  · rw [hp] at k
    rw [if_pos (by decide)]
    unfold b51_38
    rw [i_add1]
    exact k h (ext_le ext_refl (by decide)) o oa
  · rw [if_neg (by decide)]
    unfold b51_18
    rw [nn_some, mb_mr]
    refine tot_bind d3 ?_
    rw [nn_some, mb_mr]
    refine tot_bind (okTx_an ot oa hj) ?_
    cases ha : an j
    · rw [hp, ha] at k
      rw [if_neg (by decide)]
      unfold b51_27 b51_38
      rw [nn_some, mb_mr]
      refine tot_bind (ok_vc o.1.1.1) (tot_mb (cr_send (t := t) (m := j) (so := none) o w g rfl) (fun _ h1 q1 => ?_))
      rw [i_add1]
      exact k h1 q1.1 q1.2 (okAn_Q q1.1 ot oa)
    · rw [hp, ha] at k
      rw [if_pos (by decide)]
      unfold b51_38
      rw [i_add1]
      exact k h (ext_le ext_refl (by decide)) o oa
theorem snd3_eq (P : Nat → Bool) (k : Int32) (t : Nat) (ms : List zM) : snd3 P k t ms = if P 2 then snd_ (if P 1 then snd_ (if P 0 then snd_ ms (k, t, 0, none) else ms) (k, t, 1, none) else (if P 0 then snd_ ms (k, t, 0, none) else ms)) (k, t, 2, none) else (if P 1 then snd_ (if P 0 then snd_ ms (k, t, 0, none) else ms) (k, t, 1, none) else (if P 0 then snd_ ms (k, t, 0, none) else ms)) := (rfl)
theorem cnt3_eq (P : Nat → Bool) : (if P 2 then (if P 1 then (if P 0 then (0 : Int32) + 1 else 0) + 1 else (if P 0 then 0 + 1 else 0)) + 1 else (if P 1 then (if P 0 then 0 + 1 else 0) + 1 else (if P 0 then 0 + 1 else 0))) = cnt3 P := by unfold cnt3; cases P 0 <;> cases P 1 <;> cases P 2 <;> decide
theorem s_ms_ms2 (S : zS) (a b : List zM) : s_ms_ (s_ms_ S a) b = s_ms_ S b := (rfl)
theorem c51_tot (hF : 1000 ≤ F) (t1 : 1 ≤ t) (t2 : t ≤ s_bg S) (o : CR h S T) (w : opOK S) (g : hb 40 h) (oa : okAn h (T t) an) : tot (m51 F 0 (some (T t))) h (fun r h' => r = cnt3 (fun p => tp (s_ti S t) p && !(an p)) ∧ ext 6 XfQ (isQ h) h h' ∧ CR h' (s_ms_ S (snd3 (fun p => tp (s_ti S t) p && !(an p)) 1 t (s_ms S))) T) := by
  obtain ⟨F', rfl⟩ : ∃ k, F = k + 4 := ⟨F - 4, by omega⟩
  unfold m51 b51_0
  refine c51_step (j := 0) (by decide) t1 t2 o w (hb_le g (by decide)) oa (fun h1 E1 o1 oa1 => ?_)
  have w1 := opOK_ms (ms := if tp (s_ti S t) 0 && !(an 0) then snd_ (s_ms S) (1, t, 0, none) else s_ms S) w
  refine c51_step (j := 1) (by decide) t1 (by rw [s_bg_ms]; exact t2) o1 w1 (hb_ext (K := 2) E1 (hb_le g (by decide))) oa1 (fun h2 E2 o2 oa2 => ?_)
  have E12 : ext 4 XfQ (isQ h) h h2 := ext_Q (k1 := 2) (k2 := 2) E1 E2
  refine c51_step (j := 2) (by decide) t1 (by rw [s_bg_ms, s_bg_ms]; exact t2) o2 (opOK_ms w1) (hb_ext (K := 4) E12 (hb_le g (by decide))) oa2 (fun h3 E3 o3 oa3 => ?_)
  unfold b51_4
  rw [if_pos (by decide)]
  refine tot_mr ⟨?_, ext_Q (k1 := 4) (k2 := 2) E12 E3, ?_⟩
  · rw [s_ti_ms, s_ti_ms]
    exact cnt3_eq (fun p => tp (s_ti S t) p && !(an p))
  · rw [snd3_eq]
    rw [s_ms_ms2, s_ms_ms2, s_ti_ms, s_ti_ms, s_ms_ms, s_ms_ms] at o3
    exact o3
/-- sendVerdict, one step; lo: the place left out, 3 if none -/
theorem c78_step {Q : Unit → xv_H → Prop} {q j lo : Nat} {v : Int32} {li : Int32} (hlo : lo = 3 ∧ li = -1 ∨ lo < 3 ∧ li = Int32.ofNat lo) (hj : j < 3) (t1 : 1 ≤ t) (t2 : t ≤ s_bg S) (o : CR h S T) (w : opOK S) (g : hb 20 h) (k : ∀ h', ext 2 XfQ (isQ h) h h' → CR h' (s_ms_ S (if tp (s_ti S t) j && j != lo then snd_ (s_ms S) (v, t, j, none) else s_ms S)) T → tot (b78_11 F q (some 0) v (some (T t)) li (Int32.ofNat (j + 1))) h' Q) : tot (b78_11 F (q + 1) (some 0) v (some (T t)) li (Int32.ofNat j)) h Q := by
  obtain ⟨x7, ot⟩ := cr_tx o t1 t2
  obtain ⟨v4, d1, d2, d3, _, d4, _, d6⟩ := okTx_d ot
  unfold b78_11
  rw [show (3 : Int32) = Int32.ofNat 3 from rfl, if_neg (by rw [i_le (by decide) (by omega)]; omega)]
  unfold b78_17
  rw [nn_some, mb_mr]
  refine tot_bind d2 ?_
  rw [nn_some, mb_mr]
  refine tot_bind (okTx_tp ot hj) ?_
  cases hp : tp (s_ti S t) j
  · rw [hp] at k
    rw [if_pos (by decide)]
    unfold b78_42
    rw [i_add1]
    exact k h (ext_le ext_refl (by decide)) o
  · rw [if_neg (by decide)]
    unfold b78_27
    by_cases e : j = lo
    · have ei : Int32.ofNat j = li := by
        rcases hlo with ⟨a, b⟩ | ⟨a, b⟩
        · omega
        · rw [b, e]
      have eb : (j != lo) = false := by simpa using e
      rw [hp, eb] at k
      rw [if_pos ei]
      unfold b78_42
      rw [i_add1]
      exact k h (ext_le ext_refl (by decide)) o
    · have ei : ¬ Int32.ofNat j = li := by
        intro z
        rcases hlo with ⟨a, b⟩ | ⟨a, b⟩
        · rw [b] at z
          have : j = 0 ∨ j = 1 ∨ j = 2 := by omega
          rcases this with rfl | rfl | rfl <;> exact absurd z (by decide)
        · rw [b] at z; exact e ((i_eq (by omega) (by omega)).mp z)
      have eb : (j != lo) = true := by simpa using e
      rw [hp, eb] at k
      rw [if_neg ei]
      unfold b78_33 b78_42
      rw [nn_some, mb_mr]
      refine tot_bind (ok_vc o.1.1.1) (tot_mb (cr_send (t := t) (m := j) (so := none) o w g rfl) (fun _ h1 q1 => ?_))
      rw [i_add1]
      exact k h1 q1.1 q1.2
theorem c78_tot {lo : Nat} {v li : Int32} (hF : 1000 ≤ F) (hlo : lo = 3 ∧ li = -1 ∨ lo < 3 ∧ li = Int32.ofNat lo) (t1 : 1 ≤ t) (t2 : t ≤ s_bg S) (o : CR h S T) (w : opOK S) (g : hb 40 h) : tot (m78 F 0 v (some (T t)) li) h (fun _ h' => ext 6 XfQ (isQ h) h h' ∧ CR h' (s_ms_ S (if sev (s_ti S t) then snd3 (fun p => tp (s_ti S t) p && p != lo) v t (s_ms S) else s_ms S)) T) := by
  obtain ⟨F', rfl⟩ : ∃ k, F = k + 4 := ⟨F - 4, by omega⟩
  obtain ⟨x7, ot⟩ := cr_tx o t1 t2
  unfold m78 b78_0
  rw [nn_some, mb_mr]
  refine tot_bind (okTx_d ot).1 (tot_bind (c79_eq ot hF) ?_)
  cases hs : sev (s_ti S t)
  · rw [if_neg (by decide)]
    exact tot_mr ⟨ext_le ext_refl (by decide), o⟩
  rw [if_pos (by decide)]
  unfold b78_8
  refine c78_step (j := 0) hlo (by decide) t1 t2 o w (hb_le g (by decide)) (fun h1 E1 o1 => ?_)
  have w1 := opOK_ms (ms := if tp (s_ti S t) 0 && 0 != lo then snd_ (s_ms S) (v, t, 0, none) else s_ms S) w
  refine c78_step (j := 1) hlo (by decide) t1 (by rw [s_bg_ms]; exact t2) o1 w1 (hb_ext (K := 2) E1 (hb_le g (by decide))) (fun h2 E2 o2 => ?_)
  have E12 : ext 4 XfQ (isQ h) h h2 := ext_Q (k1 := 2) (k2 := 2) E1 E2
  refine c78_step (j := 2) hlo (by decide) t1 (by rw [s_bg_ms, s_bg_ms]; exact t2) o2 (opOK_ms w1) (hb_ext (K := 4) E12 (hb_le g (by decide))) (fun h3 E3 o3 => ?_)
  unfold b78_11
  rw [if_pos (by decide)]
  refine tot_mr ⟨ext_Q (k1 := 4) (k2 := 2) E12 E3, ?_⟩
  rw [if_pos rfl, snd3_eq]
  rw [s_ms_ms2, s_ms_ms2, s_ti_ms, s_ti_ms, s_ms_ms, s_ms_ms] at o3
  exact o3
end CL2
