/-! The reference's nodes: what comes out. -/
section RND2
variable {h : xv_H} {F i j x p q v s : Nat} {n m : Int64} {N : zN} {k va vb vd : Int32}
theorem fWc (hi : i < 4) (hx : x < 32) : bf (Wc n i x) 0 2 = bf n 0 2 ∧ bf (Wc n i x) 2 2 = bf n 2 2 ∧ bf (Wc n i x) 4 7 = bf n 4 7 ∧ bf (Wc n i x) 11 7 = bf n 11 7 := ⟨Wc_o hi hx (by omega) (by omega), Wc_o hi hx (by omega) (by omega), Wc_o hi hx (by omega) (by omega), Wc_o hi hx (by omega) (by omega)⟩
theorem fWk (hi : i < 3) (hx : x < 128) : bf (Wk n i x) 0 2 = bf n 0 2 ∧ bf (Wk n i x) 2 2 = bf n 2 2 ∧ bf (Wk n i x) 4 7 = bf n 4 7 ∧ bf (Wk n i x) 11 7 = bf n 11 7 := ⟨Wk_o hi hx (by omega) (by omega), Wk_o hi hx (by omega) (by omega), Wk_o hi hx (by omega) (by omega), Wk_o hi hx (by omega) (by omega)⟩
theorem fWs (hx : x < 4) : bf (Ws n x) 0 2 = bf n 0 2 ∧ bf (Ws n x) 2 2 = x ∧ bf (Ws n x) 4 7 = bf n 4 7 ∧ bf (Ws n x) 11 7 = bf n 11 7 := ⟨Ws_o hx (by omega) (by omega), Ws_same hx, Ws_o hx (by omega) (by omega), Ws_o hx (by omega) (by omega)⟩
theorem Ws_key (hx : x < 4) (hj : j < 3) : zkey (Ws n x) j = zkey n j := Ws_o hx (by omega) (by omega)
theorem Ws_chi (hx : x < 4) (hj : j < 4) : zchi (Ws n x) j = zchi n j := Ws_o hx (by omega) (by omega)
/-- an inner node of one key -/
def W1 (l u k0 c0 c1 : Nat) : Int64 := Wc (Wc (Ws (Wk (Wp 2 l u) 0 k0) 1) 0 c0) 1 c1
theorem dec_W1 {l u k0 c0 c1 : Nat} (hl : l < 128) (hu : u < 128) (hk : k0 < 128) (h0 : c0 < 32) (h1 : c1 < 32) : decN (W1 l u k0 c0 c1) va vb vd (2, Int32.ofNat l, Int32.ofNat u, [Int32.ofNat k0], [Int32.ofNat c0, Int32.ofNat c1]) := by
  obtain ⟨p1, p2, p3, p4⟩ := Wp_f (k := 2) (by decide) hl hu
  obtain ⟨a1, a2, a3, a4⟩ := fWk (n := Wp 2 l u) (i := 0) (by decide) hk
  obtain ⟨b1, b2, b3, b4⟩ := fWs (n := Wk (Wp 2 l u) 0 k0) (x := 1) (by decide)
  obtain ⟨c1', c2, c3, c4⟩ := fWc (n := Ws (Wk (Wp 2 l u) 0 k0) 1) (i := 0) (by decide) h0
  obtain ⟨d1, d2, d3, d4⟩ := fWc (n := Wc (Ws (Wk (Wp 2 l u) 0 k0) 1) 0 c0) (i := 1) (by decide) h1
  unfold W1
  refine ⟨?_, ?_, ?_, ?_, fun i hi => ?_, ?_⟩
  · rw [d1, c1', b1, a1, p1]; rfl
  · rw [d2, c2, b2]; rfl
  · rw [d3, c3, b3, a3, p3]
  · rw [d4, c4, b4, a4, p4]
  · have : i = 0 := by have : i < 1 := hi; omega
    subst this
    rw [Wc_key (by decide) (by decide) h1, Wc_key (by decide) (by decide) h0, Ws_key (by decide) (by decide), Wk_same (by decide) hk]; rfl
  · rw [if_pos rfl]
    refine ⟨rfl, fun i hi => ?_⟩
    have : i = 0 ∨ i = 1 := by have : i < 2 := hi; omega
    rcases this with rfl | rfl
    · rw [Wc_chi (by decide) (by decide) h1, if_neg (by decide), Wc_same (by decide) h0]; rfl
    · rw [Wc_same (by decide) h1]; rfl
theorem len3 {l : List Int32} (h : l.length = 3) : ∃ a b c, l = [a, b, c] := by
  match l, h with
  | [a, b, c], _ => exact ⟨a, b, c, rfl⟩
theorem len4 {l : List Int32} (h : l.length = 4) : ∃ a b c d, l = [a, b, c, d] := by
  match l, h with
  | [a, b, c, d], _ => exact ⟨a, b, c, d, rfl⟩
/-- the halves of a full inner node -/
theorem dec_leftI (o : decN n va vb vd N) (k2 : N.1 = 2) (l3 : N.2.2.2.1.length = 3) : decN (W1 (bf n 4 7) (zkey n 1) (zkey n 0) (zchi n 0) (zchi n 1)) 0 0 0 (zleft N) ∧ decN (W1 (zkey n 1) (bf n 11 7) (zkey n 2) (zchi n 2) (zchi n 3)) 0 0 0 (zright N) := by
  obtain ⟨o1, o2, o3, o4, o5, o6⟩ := o
  rw [if_pos k2] at o6
  obtain ⟨kd, lo, hi, ks, is⟩ := N
  dsimp only at *
  obtain ⟨ka, kb, kc, rfl⟩ := len3 l3
  obtain ⟨i0, i1, i2, i3, rfl⟩ := len4 (l := is) (by rw [o6.1]; rfl)
  have e0 : ka = Int32.ofNat (zkey n 0) := o5 0 (by simp)
  have e1 : kb = Int32.ofNat (zkey n 1) := o5 1 (by simp)
  have e2 : kc = Int32.ofNat (zkey n 2) := o5 2 (by simp)
  have f0 : i0 = Int32.ofNat (zchi n 0) := o6.2 0 (by simp)
  have f1 : i1 = Int32.ofNat (zchi n 1) := o6.2 1 (by simp)
  have f2 : i2 = Int32.ofNat (zchi n 2) := o6.2 2 (by simp)
  have f3 : i3 = Int32.ofNat (zchi n 3) := o6.2 3 (by simp)
  have b7 := bf_lt n 4 7
  have b11 := bf_lt n 11 7
  have z1 : zcut (kd, lo, hi, [ka, kb, kc], [i0, i1, i2, i3]) = 2 := by unfold zcut; dsimp only; rw [k2]; rfl
  constructor
  · have := dec_W1 (va := 0) (vb := 0) (vd := 0) (l := bf n 4 7) (u := zkey n 1) (k0 := zkey n 0) (c0 := zchi n 0) (c1 := zchi n 1) b7 zkey_lt zkey_lt zchi_lt zchi_lt
    unfold zleft
    rw [z1, k2]
    rw [← o3, ← e1, ← e0, ← f0, ← f1] at this
    exact this
  · have := dec_W1 (va := 0) (vb := 0) (vd := 0) (l := zkey n 1) (u := bf n 11 7) (k0 := zkey n 2) (c0 := zchi n 2) (c1 := zchi n 3) zkey_lt b11 zkey_lt zchi_lt zchi_lt
    unfold zright
    rw [z1, k2]
    rw [← o4, ← e1, ← e2, ← f2, ← f3] at this
    exact this
/-- the halves of a full leaf -/
def WL (l u k0 : Nat) : Int64 := Ws (Wk (Wp 1 l u) 0 k0) 1
def WR (l u k0 k1 : Nat) : Int64 := Ws (Wk (Wk (Wp 1 l u) 0 k0) 1 k1) 2
theorem dec_WL {l u k0 : Nat} (hl : l < 128) (hu : u < 128) (hk : k0 < 128) : decN (WL l u k0) va vb vd (1, Int32.ofNat l, Int32.ofNat u, [Int32.ofNat k0], [va]) := by
  obtain ⟨p1, p2, p3, p4⟩ := Wp_f (k := 1) (by decide) hl hu
  obtain ⟨a1, a2, a3, a4⟩ := fWk (n := Wp 1 l u) (i := 0) (by decide) hk
  obtain ⟨b1, b2, b3, b4⟩ := fWs (n := Wk (Wp 1 l u) 0 k0) (x := 1) (by decide)
  unfold WL
  refine ⟨?_, ?_, ?_, ?_, fun i hi => ?_, ?_⟩
  · rw [b1, a1, p1]; rfl
  · rw [b2]; rfl
  · rw [b3, a3, p3]
  · rw [b4, a4, p4]
  · have : i = 0 := by have : i < 1 := hi; omega
    subst this
    rw [Ws_key (by decide) (by decide), Wk_same (by decide) hk]; rfl
  · rw [if_neg (show ¬ (1 : Int32) = 2 by decide)]
    refine ⟨rfl, fun i hi => ?_⟩
    have : i = 0 := by have : i < 1 := hi; omega
    subst this
    rfl
theorem dec_WR {l u k0 k1 : Nat} (hl : l < 128) (hu : u < 128) (hk : k0 < 128) (hk1 : k1 < 128) : decN (WR l u k0 k1) va vb vd (1, Int32.ofNat l, Int32.ofNat u, [Int32.ofNat k0, Int32.ofNat k1], [va, vb]) := by
  obtain ⟨p1, p2, p3, p4⟩ := Wp_f (k := 1) (by decide) hl hu
  obtain ⟨a1, a2, a3, a4⟩ := fWk (n := Wp 1 l u) (i := 0) (by decide) hk
  obtain ⟨c1, c2, c3, c4⟩ := fWk (n := Wk (Wp 1 l u) 0 k0) (i := 1) (by decide) hk1
  obtain ⟨b1, b2, b3, b4⟩ := fWs (n := Wk (Wk (Wp 1 l u) 0 k0) 1 k1) (x := 2) (by decide)
  unfold WR
  refine ⟨?_, ?_, ?_, ?_, fun i hi => ?_, ?_⟩
  · rw [b1, c1, a1, p1]; rfl
  · rw [b2]; rfl
  · rw [b3, c3, a3, p3]
  · rw [b4, c4, a4, p4]
  · have : i = 0 ∨ i = 1 := by have : i < 2 := hi; omega
    rcases this with rfl | rfl
    · rw [Ws_key (by decide) (by decide), Wk_key (by decide) (by decide) hk1, if_neg (by decide), Wk_same (by decide) hk]; rfl
    · rw [Ws_key (by decide) (by decide), Wk_same (by decide) hk1]; rfl
  · rw [if_neg (show ¬ (1 : Int32) = 2 by decide)]
    refine ⟨rfl, fun i hi => ?_⟩
    have : i = 0 ∨ i = 1 := by have : i < 2 := hi; omega
    rcases this with rfl | rfl
    · rfl
    · rfl
theorem dec_leftL (o : decN n va vb vd N) (k1 : N.1 = 1) (l3 : N.2.2.2.1.length = 3) : decN (WL (bf n 4 7) (zkey n 1) (zkey n 0)) va 0 0 (zleft N) ∧ decN (WR (zkey n 1) (bf n 11 7) (zkey n 1) (zkey n 2)) vb vd 0 (zright N) := by
  obtain ⟨o1, o2, o3, o4, o5, o6⟩ := o
  rw [if_neg (by rw [k1]; decide)] at o6
  obtain ⟨kd, lo, hi, ks, is⟩ := N
  dsimp only at *
  obtain ⟨ka, kb, kc, rfl⟩ := len3 l3
  obtain ⟨i0, i1, i2, rfl⟩ := len3 (l := is) (by rw [o6.1]; rfl)
  have e0 : ka = Int32.ofNat (zkey n 0) := o5 0 (by simp)
  have e1 : kb = Int32.ofNat (zkey n 1) := o5 1 (by simp)
  have e2 : kc = Int32.ofNat (zkey n 2) := o5 2 (by simp)
  have f0 : i0 = va := o6.2 0 (by simp)
  have f1 : i1 = vb := o6.2 1 (by simp)
  have f2 : i2 = vd := o6.2 2 (by simp)
  have b7 := bf_lt n 4 7
  have b11 := bf_lt n 11 7
  have z1 : zcut (kd, lo, hi, [ka, kb, kc], [i0, i1, i2]) = 1 := by unfold zcut; dsimp only; rw [k1]; rfl
  constructor
  · have := dec_WL (va := va) (vb := 0) (vd := 0) (l := bf n 4 7) (u := zkey n 1) (k0 := zkey n 0) b7 zkey_lt zkey_lt
    unfold zleft
    rw [z1, k1]
    rw [← o3, ← e1, ← e0] at this
    rw [f0]
    exact this
  · have := dec_WR (va := vb) (vb := vd) (vd := 0) (l := zkey n 1) (u := bf n 11 7) (k0 := zkey n 1) (k1 := zkey n 2) zkey_lt b11 zkey_lt zkey_lt
    unfold zright
    rw [z1, k1]
    rw [← o4, ← e1, ← e2] at this
    rw [f1, f2]
    exact this
/-- insertion at either end of a run -/
def srt (l : List Int32) : Prop := l.Pairwise (· < ·)
theorem zcl_le (k : Int32) : ∀ l, zcl k l ≤ zcng k l ∧ zcng k l ≤ l.length := by
  intro l
  induction l with
  | nil => exact ⟨Nat.le_refl _, Nat.le_refl _⟩
  | cons x l ih =>
    rw [zcl, zcng]
    by_cases a : x < k
    · have b : x ≤ k := by rw [Int32.le_iff_toInt_le]; rw [Int32.lt_iff_toInt_lt] at a; omega
      rw [if_pos a, if_pos b]
      simp only [List.length_cons]; omega
    · rw [if_neg a]
      simp only [List.length_cons]
      split <;> omega
def sle (l : List Int32) : Prop := l.Pairwise (· ≤ ·)
theorem zcl_0 {k : Int32} : ∀ l : List Int32, (∀ y, y ∈ l → ¬ y < k) → zcl k l = 0 := by
  intro l
  induction l with
  | nil => intro _; rfl
  | cons y l ih =>
    intro hy
    rw [zcl, if_neg (hy y (List.mem_cons_self ..))]
    exact ih (fun z hz => hy z (List.mem_cons_of_mem _ hz))
theorem zcng_0 {k : Int32} : ∀ l : List Int32, (∀ y, y ∈ l → ¬ y ≤ k) → zcng k l = 0 := by
  intro l
  induction l with
  | nil => intro _; rfl
  | cons y l ih =>
    intro hy
    rw [zcng, if_neg (hy y (List.mem_cons_self ..))]
    exact ih (fun z hz => hy z (List.mem_cons_of_mem _ hz))
theorem zins_cl {k : Int32} : ∀ l, sle l → zins l (zcng k l) k = zins l (zcl k l) k := by
  intro l
  induction l with
  | nil => intro _; rfl
  | cons x l ih =>
    intro hs
    have hs' := List.pairwise_cons.mp hs
    rw [zcl, zcng]
    by_cases a : x < k
    · have b : x ≤ k := by rw [Int32.le_iff_toInt_le]; rw [Int32.lt_iff_toInt_lt] at a; omega
      rw [if_pos a, if_pos b]
      show x :: zins l (zcng k l) k = x :: zins l (zcl k l) k
      rw [ih hs'.2]
    · rw [if_neg a]
      have z0 : zcl k l = 0 := zcl_0 l (fun y hy q => by
        have := hs'.1 y hy
        rw [Int32.lt_iff_toInt_lt] at q a
        rw [Int32.le_iff_toInt_le] at this
        omega)
      by_cases b : x ≤ k
      · rw [if_pos b]
        have e : x = k := by
          apply Int32.toInt_inj.mp
          rw [Int32.le_iff_toInt_le] at b
          rw [Int32.lt_iff_toInt_lt] at a
          omega
        subst e
        show x :: zins l (zcng x l) x = zins (x :: l) (zcl x l) x
        rw [ih hs'.2, z0]; rfl
      · rw [if_neg b, z0]
        have : zcng k l = 0 := zcng_0 l (fun y hy q => by
          have := hs'.1 y hy
          rw [Int32.le_iff_toInt_le] at this q b
          omega)
        rw [this]
end RND2
