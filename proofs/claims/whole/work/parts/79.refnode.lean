/-! The reference's nodes: before, grown, halves. -/
/-- how many are less than k -/
def zcl (k : Int32) : List Int32 → Nat
  | [] => 0
  | x :: l => if x < k then zcl k l + 1 else zcl k l
theorem zcl_take {l : List Int32} {k : Int32} {j : Nat} (h : j < l.length) : zcl k (l.take (j + 1)) = if l.getD j 0 < k then zcl k (l.take j) + 1 else zcl k (l.take j) := by
  induction l generalizing j with
  | nil => cases h
  | cons x l ih =>
    cases j with
    | zero => rfl
    | succ j =>
      have := ih (j := j) (by simpa using h)
      show (if x < k then zcl k (l.take (j + 1)) + 1 else zcl k (l.take (j + 1))) = if l.getD j 0 < k then (if x < k then zcl k (l.take j) + 1 else zcl k (l.take j)) + 1 else (if x < k then zcl k (l.take j) + 1 else zcl k (l.take j))
      rw [this]
      split <;> split <;> rfl
theorem zcng_take {l : List Int32} {k : Int32} {j : Nat} (h : j < l.length) : zcng k (l.take (j + 1)) = if l.getD j 0 ≤ k then zcng k (l.take j) + 1 else zcng k (l.take j) := by
  induction l generalizing j with
  | nil => cases h
  | cons x l ih =>
    cases j with
    | zero => rfl
    | succ j =>
      have := ih (j := j) (by simpa using h)
      show (if x ≤ k then zcng k (l.take (j + 1)) + 1 else zcng k (l.take (j + 1))) = if l.getD j 0 ≤ k then (if x ≤ k then zcng k (l.take j) + 1 else zcng k (l.take j)) + 1 else (if x ≤ k then zcng k (l.take j) + 1 else zcng k (l.take j))
      rw [this]
      split <;> split <;> rfl
section RNODE
variable {h : xv_H} {F i j x p q v s : Nat} {n cur : Int64} {N : zN} {k va vb vd : Int32}
theorem dec_len (o : decN n va vb vd N) : N.2.2.2.1.length < 4 := by
  have := bf_lt n 2 2
  rw [o.2.1]; exact this
theorem r159_loop (o : decN n va vb vd N) (b : Bool) : ∀ (f j : Nat), j ≤ N.2.2.2.1.length → N.2.2.2.1.length - j < f → b159_6 F f n k (b2i b) (Int32.ofNat (if b then zcng k (N.2.2.2.1.take j) else zcl k (N.2.2.2.1.take j))) (Int32.ofNat j) h = some (Int32.ofNat (if b then zcng k N.2.2.2.1 else zcl k N.2.2.2.1), h) := by
  have hl := dec_len o
  intro f
  induction f with
  | zero => intro j h1 h2; omega
  | succ f ih =>
    intro j h1 h2
    unfold b159_6
    rw [mb_some r146_eq, ← o.2.1]
    by_cases e : N.2.2.2.1.length ≤ j
    · rw [if_pos (by rw [i_le (by omega) (by omega)]; exact e), List.take_of_length_le e]; rfl
    · rw [if_neg (by rw [i_le (by omega) (by omega)]; exact e)]
      have hk := o.2.2.2.2.1 j (by omega)
      have nx := ih (j + 1) (by omega) (by omega)
      unfold b159_15
      rw [mb_some (r148_eq (by omega)), ← hk]
      rw [zcng_take (by omega), zcl_take (by omega)] at nx
      cases b
      · simp only [Bool.false_eq_true, if_false] at nx ⊢
        by_cases c1 : N.2.2.2.1.getD j 0 < k
        · rw [if_pos c1] at nx ⊢
          unfold b159_39 b159_48
          rw [i_add1, i_add1]; exact nx
        · rw [if_neg c1] at nx ⊢
          unfold b159_25
          rw [if_pos (by decide)]
          unfold b159_46 b159_48
          rw [i_add1]; exact nx
      · simp only [if_true] at nx ⊢
        by_cases c1 : N.2.2.2.1.getD j 0 < k
        · rw [if_pos (by rw [Int32.le_iff_toInt_le]; rw [Int32.lt_iff_toInt_lt] at c1; omega)] at nx
          rw [if_pos c1]
          unfold b159_39 b159_48
          rw [i_add1, i_add1]; exact nx
        · rw [if_neg c1]
          unfold b159_25
          rw [if_neg (by decide)]
          unfold b159_29
          rw [mb_some (r148_eq (by omega)), ← hk]
          by_cases c2 : N.2.2.2.1.getD j 0 = k
          · rw [if_pos (by rw [c2, Int32.le_iff_toInt_le]; omega)] at nx
            rw [if_neg (fun z => z c2)]
            unfold b159_39 b159_48
            rw [i_add1, i_add1]; exact nx
          · rw [if_neg (fun z => by
              have c3 : ¬ (N.2.2.2.1.getD j 0).toInt = k.toInt := fun e => c2 (Int32.toInt_inj.mp e)
              rw [Int32.le_iff_toInt_le] at z; rw [Int32.lt_iff_toInt_lt] at c1; omega)] at nx
            rw [if_pos c2]
            unfold b159_46 b159_48
            rw [i_add1]; exact nx
theorem r159_le (hF : 1000 ≤ F) (o : decN n va vb vd N) : m159 F n k 1 h = some (Int32.ofNat (zcng k N.2.2.2.1), h) := by
  have := dec_len o
  unfold m159 b159_0
  have e := r159_loop (F := F) (k := k) (h := h) o true F 0 (by omega) (by omega)
  exact e
theorem r159_lt (hF : 1000 ≤ F) (o : decN n va vb vd N) : m159 F n k 0 h = some (Int32.ofNat (zcl k N.2.2.2.1), h) := by
  have := dec_len o
  unfold m159 b159_0
  have e := r159_loop (F := F) (k := k) (h := h) o false F 0 (by omega) (by omega)
  exact e
/-- keys moved up -/
def shK (n : Int64) (i : Nat) : Nat → Int64 → Int64
  | 0, cur => cur
  | j + 1, cur => if j + 1 ≤ i then cur else shK n i j (Wk cur (j + 1) (zkey n j))
theorem zkey_lt : zkey n i < 128 := bf_lt n _ 7
theorem zchi_lt : zchi n i < 32 := bf_lt n _ 5
theorem shK_key : ∀ (j : Nat) (cur : Int64), j < 3 → p < 3 → zkey (shK n i j cur) p = if i < p ∧ p ≤ j then zkey n (p - 1) else zkey cur p := by
  intro j
  induction j with
  | zero => intro cur _ _; rw [if_neg (by omega)]; rfl
  | succ j ih =>
    intro cur hj hp
    rw [shK]
    by_cases e : j + 1 ≤ i
    · rw [if_pos e, if_neg (by omega)]
    · rw [if_neg e, ih _ (by omega) hp, Wk_key (by omega) hp zkey_lt]
      by_cases c1 : i < p ∧ p ≤ j
      · rw [if_pos c1, if_pos (by omega)]
      · rw [if_neg c1]
        by_cases c2 : p = j + 1
        · rw [if_pos c2, if_pos (by omega), c2]; rfl
        · rw [if_neg c2, if_neg (by omega)]
theorem shK_o : ∀ (j : Nat) (cur : Int64), j < 3 → q + v ≤ 64 → (q + v ≤ 18 ∨ 39 ≤ q) → bf (shK n i j cur) q v = bf cur q v := by
  intro j
  induction j with
  | zero => intro cur _ _ _; rfl
  | succ j ih =>
    intro cur hj hq hd
    rw [shK]
    by_cases e : j + 1 ≤ i
    · rw [if_pos e]
    · rw [if_neg e, ih _ (by omega) hq hd, Wk_o (by omega) zkey_lt hq (by omega)]
/-- children moved up -/
def shC (n : Int64) (w : Nat) : Nat → Int64 → Int64
  | 0, cur => cur
  | j + 1, cur => if j + 1 ≤ w + 1 then cur else shC n w j (Wc cur (j + 1) (zchi n j))
theorem shC_chi {w : Nat} : ∀ (j : Nat) (cur : Int64), j < 4 → p < 4 → zchi (shC n w j cur) p = if w + 1 < p ∧ p ≤ j then zchi n (p - 1) else zchi cur p := by
  intro j
  induction j with
  | zero => intro cur _ _; rw [if_neg (by omega)]; rfl
  | succ j ih =>
    intro cur hj hp
    rw [shC]
    by_cases e : j + 1 ≤ w + 1
    · rw [if_pos e, if_neg (by omega)]
    · rw [if_neg e, ih _ (by omega) hp, Wc_chi (by omega) hp zchi_lt]
      by_cases c1 : w + 1 < p ∧ p ≤ j
      · rw [if_pos c1, if_pos (by omega)]
      · rw [if_neg c1]
        by_cases c2 : p = j + 1
        · rw [if_pos c2, if_pos (by omega), c2]; rfl
        · rw [if_neg c2, if_neg (by omega)]
theorem shC_o {w : Nat} : ∀ (j : Nat) (cur : Int64), j < 4 → q + v ≤ 39 → bf (shC n w j cur) q v = bf cur q v := by
  intro j
  induction j with
  | zero => intro cur _ _; rfl
  | succ j ih =>
    intro cur hj hq
    rw [shC]
    by_cases e : j + 1 ≤ w + 1
    · rw [if_pos e]
    · rw [if_neg e, ih _ (by omega) hq, Wc_o (by omega) zchi_lt (by omega) (by omega)]
/-- the first place of a child from s on downwards -/
def ownC (n : Int64) (a : Nat) : Nat → Nat → Nat
  | 0, w => if zchi n 0 = a then 0 else w
  | j + 1, w => ownC n a j (if zchi n (j + 1) = a then j + 1 else w)
theorem sz_lt : bf n 2 2 < 4 := bf_lt n 2 2
theorem i_m1 {a : Nat} (h : 1 ≤ a) (ha : a < 2147483648) : Int32.ofNat a + (-1 : Int32) = Int32.ofNat (a - 1) := by
  have : Int32.ofNat a + (-1 : Int32) = Int32.ofNat a - 1 := by rw [Int32.sub_eq_add_neg]
  rw [this, i_sub1 h ha]
/-- grown -/
theorem r158_c {w b : Nat} : ∀ (f j : Nat) (cur : Int64), j < 4 → w < 3 → j < f → b158_113 F f n (Int32.ofNat b) cur (Int32.ofNat w) (Int32.ofNat j) h = some (Wc (shC n w j cur) (w + 1) b, h) := by
  intro f
  induction f with
  | zero => intro j cur _ _ h3; omega
  | succ f ih =>
    intro j cur h1 h2 h3
    unfold b158_113
    rw [i_add1]
    cases j with
    | zero =>
      rw [if_pos (by rw [i_le (by omega) (by omega)]; omega)]
      unfold b158_145
      rw [i_add1]; rfl
    | succ j =>
      by_cases e : j + 1 ≤ w + 1
      · rw [if_pos (by rw [i_le (by omega) (by omega)]; omega)]
        unfold b158_145
        rw [i_add1, shC, if_pos e]; rfl
      · rw [if_neg (by rw [i_le (by omega) (by omega)]; omega), shC, if_neg e]
        unfold b158_122
        rw [i_sub1 (by omega) (by omega), show j + 1 - 1 = j by omega, mb_some (r152_eq (by omega)), mb_some r153_eq, i_m1 (by omega) (by omega), show j + 1 - 1 = j by omega]
        exact ih j _ (by omega) h2 (by omega)
theorem r158_b {a b : Nat} (hF : 1000 ≤ F) (ha : a < 32) (hs : bf n 2 2 < 3) : ∀ (f j w : Nat) (cur : Int64), j < 4 → w < 3 → j ≤ 2 → j + 1 < f → b158_75 F f n (Int32.ofNat a) (Int32.ofNat b) cur (Int32.ofNat w) (Int32.ofNat j) h = some (Wc (shC n (ownC n a j w) (bf n 2 2 + 1) cur) (ownC n a j w + 1) b, h) := by
  intro f
  induction f with
  | zero => intro j w cur _ _ _ h3; omega
  | succ f ih =>
    intro j w cur h1 h2 h22 h3
    unfold b158_75
    rw [if_neg (by rw [show (0 : Int32) = Int32.ofNat 0 from rfl, i_lt (by omega) (by omega)]; omega)]
    unfold b158_80
    rw [mb_some (r152_eq h1)]
    have fin : ∀ w, w < 3 → b158_105 F n (Int32.ofNat b) cur (Int32.ofNat w) h = some (Wc (shC n w (bf n 2 2 + 1) cur) (w + 1) b, h) := by
      intro w hw
      unfold b158_105
      rw [mb_some r146_eq, i_add1]
      exact r158_c F (bf n 2 2 + 1) cur (by omega) hw (by omega)
    have step : ∀ w', w' < 3 → w' = (if zchi n j = a then j else w) → b158_97 (b158_75 F f) F (Int32.ofNat w') n (Int32.ofNat a) (Int32.ofNat b) cur (Int32.ofNat j) h = some (Wc (shC n (ownC n a j w) (bf n 2 2 + 1) cur) (ownC n a j w + 1) b, h) := by
      intro w' hw' ew
      unfold b158_97
      cases j with
      | zero =>
        rw [ownC, ← ew]
        cases f with
        | zero => omega
        | succ f =>
          unfold b158_75
          rw [if_pos (by decide)]
          exact fin w' hw'
      | succ j =>
        rw [ownC, ← ew, i_m1 (by omega) (by omega), show j + 1 - 1 = j by omega]
        exact ih j w' cur (by omega) hw' (by omega) (by omega)
    have zl := zchi_lt (n := n) (i := j)
    by_cases e : zchi n j = a
    · rw [if_neg (fun z => z (by rw [e]))]
      unfold b158_90
      exact step j (by omega) (by rw [if_pos e])
    · rw [if_pos (fun z => e ((i_eq (by omega) (by omega)).mp z))]
      unfold b158_95
      exact step w h2 (by rw [if_neg e])
theorem r158_a {a b m : Nat} (hF : 1000 ≤ F) (ha : a < 32) (hs : bf n 2 2 < 3) : ∀ (f j : Nat) (cur : Int64), j < 3 → i < 3 → j < f → b158_17 F f n (Int32.ofNat m) (Int32.ofNat a) (Int32.ofNat b) (Int32.ofNat i) cur (Int32.ofNat j) h = some (Wc (shC n (ownC n a (bf n 2 2) 0) (bf n 2 2 + 1) (Ws (Wk (shK n i j cur) i m) (bf n 2 2 + 1))) (ownC n a (bf n 2 2) 0 + 1) b, h) := by
  have fin : ∀ cur, b158_47 F n (Int32.ofNat m) (Int32.ofNat a) (Int32.ofNat b) (Int32.ofNat i) cur h = some (Wc (shC n (ownC n a (bf n 2 2) 0) (bf n 2 2 + 1) (Ws (Wk cur i m) (bf n 2 2 + 1))) (ownC n a (bf n 2 2) 0 + 1) b, h) := by
    intro cur
    unfold b158_47
    rw [mb_some r150_eq, mb_some r146_eq, i_add1, mb_some r151_eq, mb_some r146_eq]
    exact r158_b hF ha hs F (bf n 2 2) 0 _ (by omega) (by decide) (by omega) (by omega)
  intro f
  induction f with
  | zero => intro j cur _ _ h3; omega
  | succ f ih =>
    intro j cur h1 h2 h3
    unfold b158_17
    cases j with
    | zero =>
      rw [if_pos (by rw [i_le (by omega) (by omega)]; omega)]
      exact fin cur
    | succ j =>
      by_cases e : j + 1 ≤ i
      · rw [if_pos (by rw [i_le (by omega) (by omega)]; omega), shK, if_pos e]
        exact fin cur
      · rw [if_neg (by rw [i_le (by omega) (by omega)]; omega), shK, if_neg e]
        unfold b158_24
        rw [i_sub1 (by omega) (by omega), show j + 1 - 1 = j by omega, mb_some (r148_eq (by omega)), mb_some r150_eq, i_m1 (by omega) (by omega), show j + 1 - 1 = j by omega]
        exact ih j _ (by omega) h2 (by omega)
end RNODE
