/-! The reference at a leaf: with, without. -/
section RLEAF
variable {h h1 : xv_H} {F i j x p q v s a b c n0 L : Nat} {n m : Int64} {N : zN} {k va vb vd ver : Int32} {S : zS} {P : List zI} {z : zC}
theorem zcl_zero {k : Int32} : ∀ l : List Int32, (∀ y, y ∈ l → ¬ y < k) → zcl k l = 0 := by
  intro l
  induction l with
  | nil => intro _; rfl
  | cons y l ih =>
    intro hy
    rw [zcl, if_neg (hy y (List.mem_cons_self ..))]
    exact ih (fun z hz => hy z (List.mem_cons_of_mem _ hz))
theorem leaf_idx {k : Int32} : ∀ l, srt l → (zidx k l < l.length → zcl k l = zidx k l ∧ l.getD (zidx k l) 0 = k) ∧ (¬ zidx k l < l.length → zcng k l = zcl k l ∧ ∀ j, j < l.length → ¬ l.getD j 0 = k) := by
  intro l
  induction l with
  | nil => intro _; exact ⟨(fun h => by cases h), (fun _ => ⟨rfl, (fun j hj => by cases hj)⟩)⟩
  | cons x l ih =>
    intro hs
    have hs' := List.pairwise_cons.mp hs
    obtain ⟨i1, i2⟩ := ih hs'.2
    rw [zidx, zcl, zcng]
    by_cases e : x = k
    · rw [if_pos e]
      refine ⟨fun _ => ⟨?_, by simpa using e⟩, fun q => absurd (by simp) q⟩
      rw [if_neg (by rw [e, Int32.lt_iff_toInt_lt]; omega)]
      exact zcl_zero l (fun y hy q => by
        have := hs'.1 y hy
        rw [e, Int32.lt_iff_toInt_lt] at this
        rw [Int32.lt_iff_toInt_lt] at q
        omega)
    · rw [if_neg e]
      have ne : ¬ x.toInt = k.toInt := fun q => e (Int32.toInt_inj.mp q)
      constructor
      · intro q
        have ql : zidx k l < l.length := by simpa using q
        obtain ⟨c1, c2⟩ := i1 ql
        have xk : x < k := by
          have : l.getD (zidx k l) 0 ∈ l := zgetD_mem ql
          have := hs'.1 _ this
          rw [c2] at this
          exact this
        rw [if_pos xk, c1]
        exact ⟨rfl, by simpa using c2⟩
      · intro q
        have ql : ¬ zidx k l < l.length := by simpa using q
        obtain ⟨c1, c2⟩ := i2 ql
        refine ⟨?_, fun j hj => ?_⟩
        · rw [c1]
          by_cases a : x < k
          · rw [if_pos a, if_pos (by rw [Int32.le_iff_toInt_le]; rw [Int32.lt_iff_toInt_lt] at a; omega)]
          · rw [if_neg a, if_neg (by rw [Int32.le_iff_toInt_le]; rw [Int32.lt_iff_toInt_lt] at a; omega)]
        · cases j with
          | zero => simpa using e
          | succ j => have := c2 j (by simpa using hj); simpa using this
theorem r165_eq {x y z : Int32} (hi : i < 3) : m165 F (Int32.ofNat i) x y z h = some (zpick i x y z, h) := by
  have : i = 0 ∨ i = 1 ∨ i = 2 := by omega
  rcases this with rfl | rfl | rfl <;> rfl
/-- with, the key there -/
theorem dec_set (o : decN n va vb vd N) (k1 : ¬ N.1 = 2) (hi : i < N.2.2.2.1.length) {w : Int32} : decN n (if i = 0 then w else va) (if i = 1 then w else vb) (if i = 2 then w else vd) (N.1, N.2.1, N.2.2.1, N.2.2.2.1, N.2.2.2.2.set i w) := by
  obtain ⟨o1, o2, o3, o4, o5, o6⟩ := id o
  rw [if_neg k1] at o6
  obtain ⟨o6, o7⟩ := o6
  have hl := dec_len o
  refine ⟨o1, o2, o3, o4, o5, ?_⟩
  dsimp only
  rw [if_neg k1, List.length_set]
  refine ⟨o6, fun j hj => ?_⟩
  rw [zset_get (by omega), o7 j hj]
  unfold zpick
  have : j = 0 ∨ j = 1 ∨ j = 2 := by omega
  have : i = 0 ∨ i = 1 ∨ i = 2 := by omega
  rcases ‹j = 0 ∨ j = 1 ∨ j = 2› with rfl | rfl | rfl <;> rcases ‹i = 0 ∨ i = 1 ∨ i = 2› with rfl | rfl | rfl <;> rfl
/-- with, a new key -/
theorem dec_ins {kk : Nat} (o : decN n va vb vd N) (k1 : ¬ N.1 = 2) (hs : N.2.2.2.1.length < 3) (hi : i ≤ N.2.2.2.1.length) (hk : kk < 128) {w : Int32} : decN (Ws (Wk (shK n i 2 n) i kk) (bf n 2 2 + 1)) (if i = 0 then w else va) (if i = 1 then w else if i = 0 then va else vb) (if i = 2 then w else vb) (N.1, N.2.1, N.2.2.1, zins N.2.2.2.1 i (Int32.ofNat kk), zins N.2.2.2.2 i w) := by
  obtain ⟨o1, o2, o3, o4, o5, o6⟩ := id o
  rw [if_neg k1] at o6
  obtain ⟨o6, o7⟩ := o6
  obtain ⟨d1, d2, d3, d4⟩ := fWs (n := Wk (shK n i 2 n) i kk) (x := bf n 2 2 + 1) (by omega)
  obtain ⟨f1, f2, f3, f4⟩ := fWk (n := shK n i 2 n) (i := i) (by omega) hk
  have sk : ∀ q v, q + v ≤ 64 → (q + v ≤ 18 ∨ 39 ≤ q) → bf (shK n i 2 n) q v = bf n q v := fun q v h1 h2 => shK_o _ _ (by omega) h1 h2
  have li : (zins N.2.2.2.1 i (Int32.ofNat kk)).length = N.2.2.2.1.length + 1 := zins_len hi
  have lii : (zins N.2.2.2.2 i w).length = N.2.2.2.2.length + 1 := zins_len (by omega)
  refine ⟨?_, ?_, ?_, ?_, fun j hj => ?_, ?_⟩
  · rw [d1, f1, sk _ _ (by decide) (by decide)]; exact o1
  · rw [d2]
    show (zins N.2.2.2.1 i (Int32.ofNat kk)).length = _
    omega
  · rw [d3, f3, sk _ _ (by decide) (by decide)]; exact o3
  · rw [d4, f4, sk _ _ (by decide) (by decide)]; exact o4
  · dsimp only at hj ⊢
    rw [li] at hj
    rw [zins_get hi, Ws_key (by omega) (by omega), Wk_key (by omega) (by omega) hk, shK_key _ _ (by omega) (by omega)]
    by_cases g1 : j < i
    · rw [if_pos g1, if_neg (by omega), if_neg (by omega)]; exact o5 j (by omega)
    · rw [if_neg g1]
      by_cases g2 : j = i
      · rw [if_pos g2, if_pos g2]
      · rw [if_neg g2, if_neg g2, if_pos (by omega)]; exact o5 (j - 1) (by omega)
  · dsimp only
    rw [if_neg k1, li, lii]
    refine ⟨by omega, fun j hj => ?_⟩
    rw [zins_get (by omega)]
    have : j = 0 ∨ j = 1 ∨ j = 2 := by omega
    have : i = 0 ∨ i = 1 ∨ i = 2 := by omega
    have p0 : 0 < N.2.2.2.1.length → N.2.2.2.2.getD 0 0 = va := fun q => o7 0 q
    have p1 : 1 < N.2.2.2.1.length → N.2.2.2.2.getD 1 0 = vb := fun q => o7 1 q
    unfold zpick
    rcases ‹j = 0 ∨ j = 1 ∨ j = 2› with rfl | rfl | rfl <;> rcases ‹i = 0 ∨ i = 1 ∨ i = 2› with rfl | rfl | rfl
    · rfl
    · simp; exact p0 (by omega)
    · simp; exact p0 (by omega)
    · simp; exact p0 (by omega)
    · rfl
    · simp; exact p1 (by omega)
    · simp; exact p1 (by omega)
    · simp; exact p1 (by omega)
    · rfl
/-- addItem of a WRITE at the end of the path -/
theorem r_wr {nd : Int64} (hF : 1000 ≤ F) (hc : c < 2) (o : RX h S n0 P c 3) (h1 : 1 ≤ (c_pa (s_cl S c)).length) (hz : zlast (c_pa (s_cl S c)) < 24) (hn : n0 + P.length < 1600) (od : decN nd va vb vd N) {Q : Unit → xv_H → Prop} (k : ∀ h', agR h h' → RX h' S n0 (P ++ [(3, zlast (c_pa (s_cl S c)), ver, N)]) c 3 → Q () h') : tot (m156 F 37 3 (Int32.ofNat (zlast (c_pa (s_cl S c)))) ver nd va vb vd) h Q :=
  tot_mono (r156_tot (it := (3, zlast (c_pa (s_cl S c)), ver, N)) o hn (Or.inr (Or.inr (Or.inl rfl))) hz (fun _ => rfl) (fun _ => od)) (fun _ h' q => k h' q.1 q.2)
end RLEAF
