/-! The start: both constructors, run. -/
def hZ : xv_H := (0, 0, fun _ => 0, fun _ => 0, fun _ _ => none, fun _ _ => none, fun _ _ => 0, fun _ _ => 0, fun _ _ => 0)
def runB : Option ((Nat × Nat) × xv_H) := (mb (nw 0 5) fun v1 => mb (m0 2000 v1) fun _ => mb (nw 9 42) fun v2 => mb (m123 2000 v2) fun _ => mr (v1, v2)) hZ
def hB : xv_H := match runB with
  | some r => r.2
  | none => hZ
def C0 (n : Nat) : zC := (fun _ => none, n, 0, 0, 0, 0, 0, 0, 0, 0, false, 0, fun _ => false, 0, [0], [])
def S0 : zS := (fun _ => false, fun a => if a = 0 then (0, (1, 0, 100, [], [])) else (0, z0N), fun _ => 0, 0, fun _ => 0, fun _ => [], fun _ _ => 0, [], fun c => C0 (if c = 0 then 1 else 9))
theorem runB_p : (runB.map Prod.fst) = some (0, 37) := by decide +kernel
theorem runB_eq : runB = some ((0, 37), hB) := by
  have h := runB_p
  unfold hB
  cases e : runB with
  | none => rw [e] at h; cases h
  | some r =>
    rw [e] at h
    obtain ⟨p, q⟩ := r
    simp only [Option.map_some, Option.some.injEq] at h
    rw [h]
theorem hB_n : Hn hB = 77 ∧ Hz hB ≤ 30000 := by decide +kernel
theorem hB_T : kT hB 0 := by unfold kT lv; decide +kernel
theorem hB_4 : okCell hB 4 (0, z0N) := by
  refine ⟨by unfold lv; decide +kernel, by decide +kernel, 1, by decide +kernel, by unfold lv; decide +kernel, by decide +kernel, by decide +kernel, by decide +kernel, ⟨2, by decide +kernel, by unfold im; decide, ?_⟩, ⟨3, by decide +kernel, by unfold im; decide, ?_⟩⟩
  · unfold okA lv; decide +kernel
  · unfold okA lv; decide +kernel
theorem hB_18 : okCell hB 18 (0, (1, 0, 100, [], [])) := by
  refine ⟨by unfold lv; decide +kernel, by decide +kernel, 19, by decide +kernel, by unfold lv; decide +kernel, by decide +kernel, by decide +kernel, by decide +kernel, ⟨20, by decide +kernel, by unfold im; decide, ?_⟩, ⟨21, by decide +kernel, by unfold im; decide, ?_⟩⟩
  · unfold okA lv; decide +kernel
  · unfold okA lv; decide +kernel
theorem hB_c : ∀ m, m < 3 → ∀ i, i < 8 → Her hB (7 + 4 * m) i = some (if 8 * m + i = 0 then 18 else 4) := by decide +kernel
theorem hB_M : ∀ m, m < 3 → (lv hB (6 + 4 * m) 3 ∧ (lv hB (7 + 4 * m) 108 ∧ Hl hB (7 + 4 * m) = 8) ∧ (lv hB (8 + 4 * m) 100 ∧ Hl hB (8 + 4 * m) = 8) ∧ (lv hB (9 + 4 * m) 101 ∧ Hl hB (9 + 4 * m) = 513)) ∧ (Hfi hB 300 (6 + 4 * m) = Int32.ofNat m ∧ Hfr hB 301 (6 + 4 * m) = some (7 + 4 * m) ∧ Hfr hB 302 (6 + 4 * m) = some (8 + 4 * m) ∧ Hfr hB 303 (6 + 4 * m) = some (9 + 4 * m) ∧ Hfi hB 304 (6 + 4 * m) = 1) := by unfold lv; decide +kernel
theorem hB_M2 : ∀ m, m < 3 → (∀ i, i < 8 → Hei hB (8 + 4 * m) i = 0) ∧ ∀ t, t < 513 → Hei hB (9 + 4 * m) t = 0 := by decide +kernel
theorem hB_F : ∀ c, c < 2 → kF hB (23 + 6 * c) c := by unfold kF lv; decide +kernel
theorem hB_I : ∀ c, c < 2 → Hfi hB 108 (23 + 6 * c) = Int32.ofNat (if c = 0 then 1 else 9) ∧ Hfi hB 207 (23 + 6 * c + 2) = 0 ∧ Hfi hB 208 (23 + 6 * c + 2) = 0 ∧ Hfi hB 105 (23 + 6 * c) = 0 ∧ Hfi hB 204 (23 + 6 * c + 2) = 0 ∧ Hfi hB 205 (23 + 6 * c + 2) = 0 ∧ Hfi hB 206 (23 + 6 * c + 2) = 0 ∧ Hfi hB 210 (23 + 6 * c + 2) = 0 ∧ Hfi hB 209 (23 + 6 * c + 2) = 0 := by decide +kernel
theorem hB_P : ∀ c, c < 2 → Hfi hB 104 (23 + 6 * c) = 1 ∧ Hei hB (23 + 6 * c + 5) 0 = 0 ∧ Hfi hB 202 (23 + 6 * c + 2) = 0 ∧ ∀ a, a < 24 → Her hB (23 + 6 * c + 1) a = none := by decide +kernel
theorem hB_t : ∀ c, c < 2 → tr hB (23 + 6 * c) = (none, some (xv_SB + 11), some (xv_SB + 11), none) ∧ Hfi hB 107 (23 + 6 * c) = 1 ∧ Hfr hB 111 (23 + 6 * c) = none := by decide +kernel
theorem hB_B : lv hB 36 106 ∧ Hl hB 36 = 513 := by unfold lv; decide +kernel
theorem hB_Q : lv hB 35 10 ∧ Hfi hB 1001 35 = 0 ∧ Hfr hB 1000 35 = some (xv_SB + 2) := by unfold lv; decide +kernel
theorem CR_0 : CR hB S0 (fun _ => 0) := by
  refine ⟨hB_T, fun m hm => ?_, fun c hc => ?_, ⟨hB_B.1, hB_B.2, fun t t1 t2 => ?_⟩, fun t t1 t2 => ?_, ⟨hB_Q.1, hB_Q.2.1, by decide, Or.inl ⟨rfl, hB_Q.2.2⟩⟩⟩
  · obtain ⟨a1, a2⟩ := hB_M m hm
    refine ⟨a1, a2, fun i hi => ⟨_, hB_c m hm i hi, ?_⟩, fun i hi => (hB_M2 m hm).1 i hi, fun t ht => (hB_M2 m hm).2 t ht⟩
    show okCell hB (if 8 * m + i = 0 then 18 else 4) (if 8 * m + i = 0 then (0, (1, 0, 100, [], [])) else (0, z0N))
    by_cases e : 8 * m + i = 0
    · rw [if_pos e, if_pos e]; exact hB_18
    · rw [if_neg e, if_neg e]; exact hB_4
  · obtain ⟨i1, i2, i3, i4, i5, i6, i7, i8, i9⟩ := hB_I c hc
    obtain ⟨p1, p2, p3, p4⟩ := hB_P c hc
    obtain ⟨t1, t2, t3⟩ := hB_t c hc
    refine ⟨none, some (xv_SB + 11), ⟨⟨hB_F c hc, ⟨i1, fun q => absurd rfl q, i2, i3, i4, i5, i6, i7, i8, i9⟩, ⟨?_, ?_, p1, rfl, fun i hi => ?_⟩, ⟨?_, p3, fun i hi => ?_⟩, fun a ha => p4 a ha⟩, t1⟩, fun q => absurd rfl q, t2, t3, fun q => absurd rfl q⟩
    · show 1 ≤ 24; decide
    · show 1 ≤ 1; decide
    · have hi : i < 1 := hi
      have : i = 0 := by omega
      subst this
      exact ⟨p2, by show 0 < 24; decide⟩
    · show 0 ≤ 6; decide
    · have hi : i < 0 := hi
      omega
  · have t2 : t ≤ 0 := t2
    omega
  · have t2 : t ≤ 0 := t2
    omega
theorem rB_F : rF hB := by unfold rF lv; decide +kernel
theorem rB_G : ∀ p, p < 5 → Hei hB 38 p = 0 := by decide +kernel
theorem rB_N : ∀ a, a < 24 → Hei hB 40 a = 0 ∧ Hel hB 39 a = (if a = 0 then 204801 else 0) := by decide +kernel
theorem rB_T : Hfi hB 904 37 = 0 ∧ Hfi hB 909 37 = 0 ∧ Hfi hB 915 37 = 0 := by decide +kernel
theorem rB_R : ∀ t, t < 513 → ∀ m, m < 3 → Hei hB 45 (3 * t + m) = 0 := by decide +kernel
theorem rB_C : ∀ c, c < 2 → Hei hB 59 c = Int32.ofNat (if c = 0 then 1 else 9) ∧ (∀ A, A < 75 → 59 < A → ¬ A = 72 → Hei hB A c = 0) ∧ ∀ a, a < 24 → Hei hB 57 (24 * c + a) = 0 := by decide +kernel
theorem decN_0 {x y z : Int32} : decN 0 x y z z0N := by
  unfold decN z0N
  refine ⟨by decide +kernel, by decide +kernel, by decide +kernel, by decide +kernel, fun i hi => ?_, ?_⟩
  · have hi : i < 0 := hi
    omega
  · rw [if_neg (by decide)]
    exact ⟨rfl, fun i hi => by have hi : i < 0 := hi; omega⟩
theorem decN_1 {x y z : Int32} : decN 204801 x y z (1, 0, 100, [], []) := by
  unfold decN
  refine ⟨by decide +kernel, by decide +kernel, by decide +kernel, by decide +kernel, fun i hi => ?_, ?_⟩
  · have hi : i < 0 := hi
    omega
  · rw [if_neg (by decide)]
    exact ⟨rfl, fun i hi => by have hi : i < 0 := hi; omega⟩
theorem rB_cl (c : Nat) (hc : c < 2) : rC hB c (s_cl S0 c) 0 := by
  obtain ⟨c1, c2, c3⟩ := rB_C c hc
  refine ⟨fun A x hx => ?_, fun a ha => c3 a ha, fun q => absurd q (by decide), fun q => absurd q (by decide)⟩
  have rr := rv_row hx
  by_cases e : A = 59
  · subst e
    have : rv (s_cl S0 c) 0 59 = some (Int32.ofNat (if c = 0 then 1 else 9)) := rfl
    rw [this] at hx
    cases hx
    exact c1
  · rw [c2 A (by omega) (by omega) rr.2.2]
    have key : ∀ A, A < 75 → 59 < A → rv (C0 (if c = 0 then 1 else 9)) 0 A = none ∨ rv (C0 (if c = 0 then 1 else 9)) 0 A = some 0 := by
      have : c = 0 ∨ c = 1 := by omega
      rcases this with rfl | rfl <;> decide +kernel
    rcases key A (by omega) (by omega) with k | k
    · rw [show rv (s_cl S0 c) 0 A = none from k] at hx; cases hx
    · rw [show rv (s_cl S0 c) 0 A = some 0 from k] at hx; cases hx; rfl
theorem RR_0 : RR hB S0 := by
  refine ⟨rB_F, fun p hp => rB_G p hp, fun a ha => ?_, ⟨rB_T.1, fun t t1 t2 => ?_⟩, ⟨rB_T.2.1, fun j hj => ?_⟩, fun t ht m hm => rB_R t ht m hm, ⟨rB_T.2.2, by decide, fun i hi => ?_⟩, rB_cl 0 (by decide), fun d hd _ => rB_cl d hd⟩
  · obtain ⟨n1, n2⟩ := rB_N a ha
    rw [n1, n2]
    show 0 = (if a = 0 then ((0 : Int32), ((1, 0, 100, [], []) : zN)) else (0, z0N)).1 ∧ decN _ _ _ _ (if a = 0 then ((0 : Int32), ((1, 0, 100, [], []) : zN)) else (0, z0N)).2
    by_cases e : a = 0
    · rw [if_pos e, if_pos e]; exact ⟨rfl, decN_1⟩
    · rw [if_neg e, if_neg e]; exact ⟨rfl, decN_0⟩
  · have t2 : t ≤ 0 := t2
    omega
  · have hj : j < 0 := hj
    omega
  · have hi : i < 0 := hi
    omega
theorem II_0 : II 0 S0 := by
  refine ⟨fun _ => 0, [], ⟨List.nodup_nil, (fun a ha => by cases ha), by decide⟩, fun t t1 t2 => ?_, (fun M hM => by cases hM), fun c hc => ?_, ⟨(fun M hM => by cases hM), fun t t1 t2 => ?_⟩, ⟨fun a => Nat.le_refl _, fun a ha => absurd rfl ha, fun t p hp => ?_⟩, ⟨fun a => ?_, (fun a ha => by cases ha), fun t t1 t2 => ?_⟩, fun a => ?_, ⟨Nat.le_refl _, by decide⟩, ⟨fun t m => Or.inl rfl, fun t m _ => rfl⟩⟩
  · have t2 : t ≤ 0 := t2
    omega
  · refine ⟨⟨?_, (fun a q e => by cases e), fun q => absurd rfl q⟩, fun q => absurd rfl q⟩
    have : c = 0 ∨ c = 1 := by omega
    rcases this with rfl | rfl <;> decide
  · have t2 : t ≤ 0 := t2
    omega
  · have hp : (0 : Int32) = 1 := hp
    exact absurd hp (by decide)
  · show gC (fun _ => 0) [] a (if a = 0 then ((0 : Int32), ((1, 0, 100, [], []) : zN)) else (0, z0N)).2
    by_cases e : a = 0
    · rw [if_pos e]
      exact ⟨0, fun _ => Nat.le_refl _, fun q => absurd e q, ⟨0, by decide, rfl⟩, ⟨100, by decide, rfl⟩, (fun k hk => by cases hk), List.Pairwise.nil, by decide, Or.inr (Or.inl ⟨rfl, rfl, List.Pairwise.nil, rfl⟩)⟩
    · rw [if_neg e]
      exact ⟨0, fun q => absurd q e, fun _ => ⟨rfl, fun q => absurd rfl q⟩, ⟨0, by decide, rfl⟩, ⟨0, by decide, rfl⟩, (fun k hk => by cases hk), List.Pairwise.nil, by decide, Or.inl ⟨rfl, rfl, rfl, rfl, rfl⟩⟩
  · have t2 : t ≤ 0 := t2
    omega
  · refine ⟨0, ?_, Nat.zero_le _, fun q => ?_⟩
    · show (if a = 0 then ((0 : Int32), ((1, 0, 100, [], []) : zN)) else (0, z0N)).1 = Int32.ofNat 0
      by_cases e : a = 0
      · rw [if_pos e]; rfl
      · rw [if_neg e]; rfl
    · have q : (if a = 0 then ((0 : Int32), ((1, 0, 100, [], []) : zN)) else (0, z0N)).2.1 = 2 := q
      by_cases e : a = 0
      · rw [if_pos e] at q; exact absurd q (show ¬ (1 : Int32) = 2 by decide)
      · rw [if_neg e] at q; exact absurd q (show ¬ (0 : Int32) = 2 by decide)
