/-! What always holds: contents, and a level for every address. -/
def i7 (k : Int32) : Prop := ∃ n, n < 128 ∧ k = Int32.ofNat n
def chOK (lv : Nat → Nat) (nl : List Nat) (l : Nat) (q : Int32) : Prop := ∃ b, q = Int32.ofNat b ∧ 1 ≤ b ∧ b < 24 ∧ b ∈ nl ∧ lv b + 1 = l
def gLeaf (N : zN) : Prop := N.1 = 1 ∧ srt N.2.2.2.1 ∧ N.2.2.2.2.length = N.2.2.2.1.length
def gInn (lv : Nat → Nat) (nl : List Nat) (l : Nat) (N : zN) : Prop := N.1 = 2 ∧ 1 ≤ N.2.2.2.1.length ∧ N.2.2.2.2.length = N.2.2.2.1.length + 1 ∧ N.2.2.2.2.Nodup ∧ ∀ q, q ∈ N.2.2.2.2 → chOK lv nl l q
def gFree (N : zN) : Prop := N.1 = 0 ∧ N.2.1 = 0 ∧ N.2.2.1 = 0 ∧ N.2.2.2.1 = [] ∧ N.2.2.2.2 = []
def gN (lv : Nat → Nat) (nl : List Nat) (l : Nat) (N : zN) : Prop := i7 N.2.1 ∧ i7 N.2.2.1 ∧ (∀ k, k ∈ N.2.2.2.1 → i7 k) ∧ sle N.2.2.2.1 ∧ N.2.2.2.1.length ≤ 3 ∧ (gFree N ∨ (l = 0 ∧ gLeaf N) ∨ gInn lv nl l N)
def gC (lv : Nat → Nat) (nl : List Nat) (a : Nat) (N : zN) : Prop := ∃ l, (a = 0 → l ≤ lv 0) ∧ (¬ a = 0 → l = lv a ∧ (¬ N.1 = 0 → a ∈ nl)) ∧ gN lv nl l N
/-- the ghosts grow -/
def gr_ (lv : Nat → Nat) (nl : List Nat) (lv2 : Nat → Nat) (nl2 : List Nat) : Prop := (∀ a, a ∈ nl → a ∈ nl2 ∧ lv2 a = lv a) ∧ lv 0 ≤ lv2 0
section INVA
variable {lv lv2 lv3 : Nat → Nat} {nl nl2 nl3 : List Nat} {l l2 a b i : Nat} {N X Y : zN} {k v q x y : Int32} {L L2 : List Int32}
theorem gr_refl : gr_ lv nl lv nl := ⟨fun _ q => ⟨q, rfl⟩, Nat.le_refl _⟩
theorem gr_tr (g : gr_ lv nl lv2 nl2) (g2 : gr_ lv2 nl2 lv3 nl3) : gr_ lv nl lv3 nl3 := ⟨fun a q => ⟨(g2.1 a (g.1 a q).1).1, by rw [(g2.1 a (g.1 a q).1).2, (g.1 a q).2]⟩, Nat.le_trans g.2 g2.2⟩
theorem chOK_m (g : gr_ lv nl lv2 nl2) (o : chOK lv nl l q) : chOK lv2 nl2 l q := by
  obtain ⟨b, b1, b2, b3, b4, b5⟩ := o
  exact ⟨b, b1, b2, b3, (g.1 b b4).1, by rw [(g.1 b b4).2]; exact b5⟩
theorem gN_m (g : gr_ lv nl lv2 nl2) (o : gN lv nl l N) : gN lv2 nl2 l N := by
  obtain ⟨o1, o2, o3, o4, o5, o6⟩ := o
  refine ⟨o1, o2, o3, o4, o5, ?_⟩
  rcases o6 with q | q | q
  · exact Or.inl q
  · exact Or.inr (Or.inl q)
  · exact Or.inr (Or.inr ⟨q.1, q.2.1, q.2.2.1, q.2.2.2.1, fun x hx => chOK_m g (q.2.2.2.2 x hx)⟩)
theorem gC_m (g : gr_ lv nl lv2 nl2) (o : gC lv nl a N) : gC lv2 nl2 a N := by
  obtain ⟨l, o1, o2, o3⟩ := o
  by_cases e : a = 0
  · exact ⟨l, fun q => Nat.le_trans (o1 q) g.2, fun q => absurd e q, gN_m g o3⟩
  · by_cases f : N.1 = 0
    · refine ⟨lv2 a, fun q => absurd q e, fun _ => ⟨rfl, fun q => absurd f q⟩, ?_⟩
      obtain ⟨o1, o2, o3, o4, o5, o6⟩ := o3
      refine ⟨o1, o2, o3, o4, o5, ?_⟩
      rcases o6 with q | q | q
      · exact Or.inl q
      · have := q.2.1; rw [f] at this; cases this
      · have := q.1; rw [f] at this; cases this
    · obtain ⟨h1, h2⟩ := o2 e
      exact ⟨l, fun q => absurd q e, fun _ => ⟨by rw [(g.1 a (h2 f)).2]; exact h1, fun _ => (g.1 a (h2 f)).1⟩, gN_m g o3⟩
/-- insertion -/
theorem zins_perm : (zins L i x).Perm (x :: L) := by
  have : (zins L i x).Perm (x :: (L.take i ++ L.drop i)) := List.perm_middle
  rw [List.take_append_drop] at this
  exact this
theorem zins_mem : y ∈ zins L i x ↔ y = x ∨ y ∈ L := by rw [zins_perm.mem_iff, List.mem_cons]
theorem zins_ln : (zins L i x).length = L.length + 1 := by rw [zins_perm.length_eq, List.length_cons]
theorem zins_sle : ∀ L, sle L → sle (zins L (zcng k L) k) := by
  intro L
  induction L with
  | nil => intro _; exact List.pairwise_singleton ..
  | cons x L ih =>
    intro hs
    have hs' := List.pairwise_cons.mp hs
    by_cases b : x ≤ k
    · have e : zins (x :: L) (zcng k (x :: L)) k = x :: zins L (zcng k L) k := by rw [zcng, if_pos b]; rfl
      rw [e]
      refine List.pairwise_cons.mpr ⟨fun y hy => ?_, ih hs'.2⟩
      rcases zins_mem.mp hy with q | q
      · rw [q]; exact b
      · exact hs'.1 y q
    · have z : zcng k (x :: L) = 0 := zcng_0 _ (fun y hy q => by
        rcases List.mem_cons.mp hy with r | r
        · subst r; exact b q
        · have := hs'.1 y r
          rw [Int32.le_iff_toInt_le] at this q b
          omega)
      rw [z]
      show sle (k :: x :: L)
      refine List.pairwise_cons.mpr ⟨fun y hy => ?_, hs⟩
      rcases List.mem_cons.mp hy with r | r
      · subst r
        rw [Int32.le_iff_toInt_le] at b ⊢
        omega
      · have := hs'.1 y r
        rw [Int32.le_iff_toInt_le] at b this ⊢
        omega
theorem srt_sle (h : srt L) : sle L := List.Pairwise.imp (fun q => by rw [Int32.lt_iff_toInt_lt] at q; rw [Int32.le_iff_toInt_le]; omega) h
theorem zins_srt : ∀ L, srt L → ¬ k ∈ L → srt (zins L (zcng k L) k) := by
  intro L
  induction L with
  | nil => intro _ _; exact List.pairwise_singleton ..
  | cons x L ih =>
    intro hs hk
    have hs' := List.pairwise_cons.mp hs
    have nx : ¬ x = k := fun q => hk (by rw [q]; exact List.mem_cons_self ..)
    have nl : ¬ k ∈ L := fun q => hk (List.mem_cons_of_mem _ q)
    by_cases b : x ≤ k
    · have e : zins (x :: L) (zcng k (x :: L)) k = x :: zins L (zcng k L) k := by rw [zcng, if_pos b]; rfl
      rw [e]
      refine List.pairwise_cons.mpr ⟨fun y hy => ?_, ih hs'.2 nl⟩
      rcases zins_mem.mp hy with q | q
      · rw [q]
        rw [Int32.le_iff_toInt_le] at b
        rw [Int32.lt_iff_toInt_lt]
        have : ¬ x.toInt = k.toInt := fun r => nx (Int32.toInt_inj.mp r)
        omega
      · exact hs'.1 y q
    · have z : zcng k (x :: L) = 0 := zcng_0 _ (fun y hy q => by
        rcases List.mem_cons.mp hy with r | r
        · subst r; exact b q
        · have := hs'.1 y r
          rw [Int32.lt_iff_toInt_lt] at this
          rw [Int32.le_iff_toInt_le] at q b
          omega)
      rw [z]
      show srt (k :: x :: L)
      refine List.pairwise_cons.mpr ⟨fun y hy => ?_, hs⟩
      rcases List.mem_cons.mp hy with r | r
      · subst r
        rw [Int32.le_iff_toInt_le] at b
        rw [Int32.lt_iff_toInt_lt]
        omega
      · have := hs'.1 y r
        rw [Int32.le_iff_toInt_le] at b
        rw [Int32.lt_iff_toInt_lt] at this ⊢
        omega
theorem zidx_iff : ∀ L, k ∈ L ↔ zidx k L < L.length := by
  intro L
  induction L with
  | nil => simp [zidx]
  | cons x L ih =>
    rw [List.mem_cons, zidx, List.length_cons]
    by_cases e : x = k
    · rw [if_pos e]; exact ⟨fun _ => Nat.succ_pos _, fun _ => Or.inl e.symm⟩
    · rw [if_neg e, ih]
      constructor
      · rintro (q | q)
        · exact absurd q.symm e
        · omega
      · intro q; exact Or.inr (by omega)
theorem zdel_sub : (zdel L i).Sublist L := by
  have h1 : (L.take i ++ L.drop (i + 1)).Sublist (L.take i ++ L.drop i) := List.Sublist.append (List.Sublist.refl _) (by
    rw [← List.drop_drop]
    exact List.drop_sublist ..)
  rw [List.take_append_drop] at h1
  exact h1
/-- three keys -/
theorem ilen3 (h : L.length = 3) : ∃ a b c, L = [a, b, c] := by
  match L, h with
  | [a, b, c], _ => exact ⟨a, b, c, rfl⟩
theorem ilen4 (h : L.length = 4) : ∃ a b c d, L = [a, b, c, d] := by
  match L, h with
  | [a, b, c, d], _ => exact ⟨a, b, c, d, rfl⟩
theorem gN_half (o : gN lv nl l X) (f : ¬ X.1 = 0) (h3 : 3 ≤ X.2.2.2.1.length) : (gN lv nl l (zleft X) ∧ gN lv nl l (zright X)) ∧ i7 (zmid X) := by
  obtain ⟨o1, o2, o3, o4, o5, o6⟩ := o
  obtain ⟨kd, lo, hi, ks, is⟩ := X
  dsimp only at *
  obtain ⟨k0, k1, k2, rfl⟩ := ilen3 (L := ks) (by omega)
  have m0 : i7 k0 := o3 k0 (by simp)
  have m1 : i7 k1 := o3 k1 (by simp)
  have m2 : i7 k2 := o3 k2 (by simp)
  have hm : zmid (kd, lo, hi, [k0, k1, k2], is) = k1 := rfl
  rcases o6 with q | q | q
  · exact absurd q.1 f
  · obtain ⟨q0, q1, q2, q3⟩ := q
    dsimp only at q1 q2 q3
    subst q1
    obtain ⟨v0, v1, v2, rfl⟩ := ilen3 (L := is) q3
    have hl : zleft (1, lo, hi, [k0, k1, k2], [v0, v1, v2]) = (1, lo, k1, [k0], [v0]) := rfl
    have hr : zright (1, lo, hi, [k0, k1, k2], [v0, v1, v2]) = (1, k1, hi, [k1, k2], [v1, v2]) := rfl
    rw [hl, hr, hm]
    refine ⟨⟨⟨o1, m1, by simpa using m0, List.pairwise_singleton .., by simp, Or.inr (Or.inl ⟨q0, rfl, List.pairwise_singleton .., rfl⟩)⟩, ⟨m1, o2, by simp; exact ⟨m1, m2⟩, (List.pairwise_cons.mp o4).2, by simp, Or.inr (Or.inl ⟨q0, rfl, (List.pairwise_cons.mp q2).2, rfl⟩)⟩⟩, m1⟩
  · obtain ⟨q1, q2, q3, q4, q5⟩ := q
    dsimp only at q1 q2 q3 q4 q5
    subst q1
    obtain ⟨v0, v1, v2, v3, rfl⟩ := ilen4 (L := is) q3
    have hl : zleft (2, lo, hi, [k0, k1, k2], [v0, v1, v2, v3]) = (2, lo, k1, [k0], [v0, v1]) := rfl
    have hr : zright (2, lo, hi, [k0, k1, k2], [v0, v1, v2, v3]) = (2, k1, hi, [k2], [v2, v3]) := rfl
    rw [hl, hr, hm]
    have n4 : [v0, v1].Nodup ∧ [v2, v3].Nodup := by
      have s1 : [v0, v1].Sublist [v0, v1, v2, v3] := List.sublist_append_left [v0, v1] [v2, v3]
      have s2 : [v2, v3].Sublist [v0, v1, v2, v3] := List.sublist_append_right [v0, v1] [v2, v3]
      exact ⟨List.Nodup.sublist s1 q4, List.Nodup.sublist s2 q4⟩
    refine ⟨⟨⟨o1, m1, by simpa using m0, List.pairwise_singleton .., by simp, Or.inr (Or.inr ⟨rfl, by simp, rfl, n4.1, fun q hq => q5 q ?_⟩)⟩, ⟨m1, o2, by simpa using m2, List.pairwise_singleton .., by simp, Or.inr (Or.inr ⟨rfl, by simp, rfl, n4.2, fun q hq => q5 q ?_⟩)⟩⟩, m1⟩
    · simp at hq ⊢; rcases hq with r | r <;> simp [r]
    · simp at hq ⊢; rcases hq with r | r <;> simp [r]
theorem half_kind : (zleft X).1 = X.1 ∧ (zright X).1 = X.1 := ⟨rfl, rfl⟩
theorem gN_leaf (o : gN lv nl l X) (k1 : X.1 = 1) : l = 0 ∧ gLeaf X := by
  rcases o.2.2.2.2.2 with q | q | q
  · rw [q.1] at k1; cases k1
  · exact q
  · rw [q.1] at k1; cases k1
theorem gN_inn (o : gN lv nl l X) (k1 : X.1 = 2) : gInn lv nl l X := by
  rcases o.2.2.2.2.2 with q | q | q
  · rw [q.1] at k1; cases k1
  · rw [q.2.1] at k1; cases k1
  · exact q
theorem gN_with (o : gN lv nl l X) (k1 : X.1 = 1) (hk : i7 k) (hs : k ∈ X.2.2.2.1 ∨ X.2.2.2.1.length < 3) : gN lv nl l (zwith X k v) ∧ (zwith X k v).1 = 1 := by
  obtain ⟨l0, q1, q2, q3⟩ := gN_leaf o k1
  obtain ⟨o1, o2, o3, o4, o5, o6⟩ := o
  unfold zwith
  by_cases e : zidx k X.2.2.2.1 < X.2.2.2.1.length
  · rw [if_pos e]
    exact ⟨⟨o1, o2, o3, o4, o5, Or.inr (Or.inl ⟨l0, k1, q2, by dsimp only; rw [List.length_set]; exact q3⟩)⟩, k1⟩
  · rw [if_neg e]
    have nk : ¬ k ∈ X.2.2.2.1 := fun q => e ((zidx_iff _).mp q)
    have hs3 : X.2.2.2.1.length < 3 := hs.resolve_left nk
    refine ⟨⟨o1, o2, fun y hy => ?_, zins_sle _ o4, ?_, Or.inr (Or.inl ⟨l0, k1, zins_srt _ q2 nk, ?_⟩)⟩, k1⟩
    · rcases zins_mem.mp hy with r | r
      · rw [r]; exact hk
      · exact o3 y r
    · show (zins X.2.2.2.1 _ k).length ≤ 3
      rw [zins_ln]; omega
    · show (zins X.2.2.2.2 _ v).length = (zins X.2.2.2.1 _ k).length
      rw [zins_ln, zins_ln, q3]
theorem gN_out (o : gN lv nl l X) (k1 : X.1 = 1) (hi : i < X.2.2.2.1.length) : gN lv nl l (zwout X i) ∧ (zwout X i).1 = 1 := by
  obtain ⟨l0, q1, q2, q3⟩ := gN_leaf o k1
  obtain ⟨o1, o2, o3, o4, o5, o6⟩ := o
  unfold zwout
  refine ⟨⟨o1, o2, fun y hy => o3 y (zdel_sub.subset hy), List.Pairwise.sublist zdel_sub o4, ?_, Or.inr (Or.inl ⟨l0, k1, List.Pairwise.sublist zdel_sub q2, ?_⟩)⟩, k1⟩
  · show (zdel X.2.2.2.1 i).length ≤ 3
    rw [zdel_len hi]; omega
  · show (zdel X.2.2.2.2 i).length = (zdel X.2.2.2.1 i).length
    rw [zdel_len hi, zdel_len (by omega), q3]
theorem gN_behind (o : gN lv nl l Y) (k2 : Y.1 = 2) (hs : Y.2.2.2.1.length < 3) (hk : i7 k) (hq : chOK lv nl l q) (nq : ¬ q ∈ Y.2.2.2.2) : gN lv nl l (zbehind Y v k q) ∧ (zbehind Y v k q).1 = 2 := by
  obtain ⟨q1, q2, q3, q4, q5⟩ := gN_inn o k2
  obtain ⟨o1, o2, o3, o4, o5, o6⟩ := o
  unfold zbehind
  refine ⟨⟨o1, o2, fun y hy => ?_, zins_sle _ o4, ?_, Or.inr (Or.inr ⟨k2, ?_, ?_, ?_, fun y hy => ?_⟩)⟩, k2⟩
  · rcases zins_mem.mp hy with r | r
    · rw [r]; exact hk
    · exact o3 y r
  · show (zins Y.2.2.2.1 _ k).length ≤ 3
    rw [zins_ln]; omega
  · show 1 ≤ (zins Y.2.2.2.1 _ k).length
    rw [zins_ln]; omega
  · show (zins Y.2.2.2.2 _ q).length = (zins Y.2.2.2.1 _ k).length + 1
    rw [zins_ln, zins_ln, q3]
  · show (zins Y.2.2.2.2 _ q).Nodup
    rw [zins_perm.nodup_iff]
    exact List.nodup_cons.mpr ⟨nq, q4⟩
  · rcases zins_mem.mp hy with r | r
    · rw [r]; exact hq
    · exact q5 y r
theorem gN_root (ha : chOK lv nl l x) (hb : chOK lv nl l y) (n : ¬ x = y) (hk : i7 k) : gN lv nl l (2, 0, 100, [k], [x, y]) := by
  refine ⟨⟨0, by decide, rfl⟩, ⟨100, by decide, rfl⟩, by simpa using hk, List.pairwise_singleton .., by simp, Or.inr (Or.inr ⟨rfl, by simp, rfl, ?_, fun q hq => ?_⟩)⟩
  · exact List.nodup_cons.mpr ⟨by simpa using n, List.nodup_cons.mpr ⟨by simp, List.nodup_nil⟩⟩
  · simp at hq; rcases hq with r | r
    · rw [r]; exact ha
    · rw [r]; exact hb
/-- the class's own notions -/
theorem gN_wfI (o : gN lv nl l X) (k2 : X.1 = 2) : wfI X := by
  obtain ⟨q1, q2, q3, q4, q5⟩ := gN_inn o k2
  have := o.2.2.2.2.1
  refine ⟨by omega, by omega, by omega, q4, fun q hq => ?_⟩
  obtain ⟨b, b1, b2, b3, _⟩ := q5 q hq
  rw [b1]
  exact ⟨i_nn (by omega), by rw [i_nat (by omega)]; exact b3⟩
theorem gN_wfV (o : gN lv nl l X) : wfV X := by
  unfold wfV
  have := o.2.2.2.2.1
  by_cases k2 : X.1 = 2
  · rw [if_pos k2]; exact gN_wfI o k2
  · rw [if_neg k2]
    rcases o.2.2.2.2.2 with q | q | q
    · rw [q.2.2.2.1, q.2.2.2.2]; exact ⟨by decide, rfl⟩
    · exact ⟨by omega, q.2.2.2.symm⟩
    · exact absurd q.1 k2
end INVA
