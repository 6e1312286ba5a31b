/-! The reference's nodes: grown, with, without. -/
section RND3
variable {h : xv_H} {F i j x p q v s a b : Nat} {n m : Int64} {N : zN} {k va vb vd : Int32}
theorem ofNat_inj {a b : Nat} (ha : a < 128) (hb : b < 128) : Int32.ofNat a = Int32.ofNat b ↔ a = b := i_eq (by omega) (by omega)
/-- the first place -/
theorem zidx_first {k : Int32} : ∀ (l : List Int32) (w : Nat), w < l.length → l.getD w 0 = k → (∀ j, j < w → ¬ l.getD j 0 = k) → zidx k l = w := by
  intro l
  induction l with
  | nil => intro w h; cases h
  | cons x l ih =>
    intro w hw e hf
    rw [zidx]
    cases w with
    | zero => rw [if_pos (by simpa using e)]
    | succ w =>
      have h0 := hf 0 (by omega)
      rw [if_neg (by simpa using h0), ih w (by simpa using hw) (by simpa using e) (fun j hj => by have := hf (j + 1) (by omega); simpa using this)]
theorem ownC_spec : ∀ (s w : Nat), (∃ j, j ≤ s ∧ zchi n j = a) → ownC n a s w ≤ s ∧ zchi n (ownC n a s w) = a ∧ ∀ j, j < ownC n a s w → ¬ zchi n j = a := by
  intro s
  induction s with
  | zero =>
    intro w e
    obtain ⟨j, j1, j2⟩ := e
    have : j = 0 := by omega
    subst this
    rw [ownC, if_pos j2]
    exact ⟨Nat.le_refl _, j2, fun j hj => by omega⟩
  | succ s ih =>
    intro w e
    rw [ownC]
    by_cases q : ∃ j, j ≤ s ∧ zchi n j = a
    · obtain ⟨r1, r2, r3⟩ := ih (if zchi n (s + 1) = a then s + 1 else w) q
      exact ⟨by omega, r2, r3⟩
    · obtain ⟨j, j1, j2⟩ := e
      have : j = s + 1 := by
        apply Classical.byContradiction
        intro ne
        exact q ⟨j, by omega, j2⟩
      subst this
      rw [if_pos j2]
      have nn : ∀ (t w : Nat), t ≤ s → ownC n a t w = w := by
        intro t
        induction t with
        | zero => intro w ht; rw [ownC, if_neg (fun z => q ⟨0, by omega, z⟩)]
        | succ t iht => intro w ht; rw [ownC, if_neg (fun z => q ⟨t + 1, by omega, z⟩)]; exact iht w (by omega)
      rw [nn s _ (Nat.le_refl _)]
      exact ⟨Nat.le_refl _, j2, fun j hj z => q ⟨j, by omega, z⟩⟩
theorem r158_tot {mm : Nat} (hF : 1000 ≤ F) (o : decN n va vb vd N) (k2 : N.1 = 2) (hs : N.2.2.2.1.length < 3) (so : sle N.2.2.2.1) (ha : a < 32) (hb : b < 32) (hm : mm < 128) (own : Int32.ofNat a ∈ N.2.2.2.2) : ∃ G, m158 F n (Int32.ofNat mm) (Int32.ofNat a) (Int32.ofNat b) h = some (G, h) ∧ decN G 0 0 0 (zbehind N (Int32.ofNat a) (Int32.ofNat mm) (Int32.ofNat b)) := by
  obtain ⟨o1, o2, o3, o4, o5, o6⟩ := id o
  rw [if_pos k2] at o6
  obtain ⟨o6, o7⟩ := o6
  have hs2 : bf n 2 2 < 3 := by omega
  have zl := zcl_le (Int32.ofNat mm) N.2.2.2.1
  have zi : zcl (Int32.ofNat mm) N.2.2.2.1 < 3 := by omega
  have ex : ∃ j, j ≤ bf n 2 2 ∧ zchi n j = a := by
    obtain ⟨j, hj, e⟩ := List.getElem_of_mem own
    refine ⟨j, by omega, ?_⟩
    have e2 := o7 j (by omega)
    rw [List.getD_eq_getElem?_getD, List.getElem?_eq_getElem hj] at e2
    have zz := zchi_lt (n := n) (i := j)
    have e3 : Int32.ofNat a = Int32.ofNat (zchi n j) := by rw [← e]; exact e2
    exact ((ofNat_inj (by omega) (by omega)).mp e3).symm
  obtain ⟨w1, w2, w3⟩ := ownC_spec (bf n 2 2) 0 ex
  refine ⟨Wc (shC n (ownC n a (bf n 2 2) 0) (bf n 2 2 + 1) (Ws (Wk (shK n (zcl (Int32.ofNat mm) N.2.2.2.1) (bf n 2 2) n) (zcl (Int32.ofNat mm) N.2.2.2.1) mm) (bf n 2 2 + 1))) (ownC n a (bf n 2 2) 0 + 1) b, ?_, ?_⟩
  · unfold m158 b158_0
    rw [mb_some (r159_lt hF o), mb_some r146_eq]
    exact r158_a hF ha hs2 F (bf n 2 2) n hs2 zi (by omega)
  · generalize hw : ownC n a (bf n 2 2) 0 = w at *
    generalize hz : zcl (Int32.ofNat mm) N.2.2.2.1 = z at *
    have hwi : zidx (Int32.ofNat a) N.2.2.2.2 = w := by
      refine zidx_first _ w (by omega) ?_ (fun j hj => ?_)
      · rw [o7 w (by omega), w2]
      · rw [o7 j (by omega)]
        have zz := zchi_lt (n := n) (i := j)
        exact fun q => w3 j hj ((ofNat_inj (by omega) (by omega)).mp q)
    obtain ⟨c1, c2, c3, c4⟩ := fWc (n := shC n w (bf n 2 2 + 1) (Ws (Wk (shK n z (bf n 2 2) n) z mm) (bf n 2 2 + 1))) (i := w + 1) (by omega) hb
    obtain ⟨d1, d2, d3, d4⟩ := fWs (n := Wk (shK n z (bf n 2 2) n) z mm) (x := bf n 2 2 + 1) (by omega)
    obtain ⟨f1, f2, f3, f4⟩ := fWk (n := shK n z (bf n 2 2) n) (i := z) (by omega) hm
    have sc : ∀ q v, q + v ≤ 39 → bf (shC n w (bf n 2 2 + 1) (Ws (Wk (shK n z (bf n 2 2) n) z mm) (bf n 2 2 + 1))) q v = bf (Ws (Wk (shK n z (bf n 2 2) n) z mm) (bf n 2 2 + 1)) q v := fun q v hq => shC_o _ _ (by omega) hq
    have sk : ∀ q v, q + v ≤ 64 → (q + v ≤ 18 ∨ 39 ≤ q) → bf (shK n z (bf n 2 2) n) q v = bf n q v := fun q v h1 h2 => shK_o _ _ (by omega) h1 h2
    unfold zbehind
    rw [hwi, zins_cl _ so, hz]
    have li : (zins N.2.2.2.1 z (Int32.ofNat mm)).length = N.2.2.2.1.length + 1 := zins_len (by omega)
    refine ⟨?_, ?_, ?_, ?_, fun j hj => ?_, ?_⟩
    · rw [c1, sc _ _ (by decide), d1, f1, sk _ _ (by decide) (by decide)]; exact o1
    · rw [c2, sc _ _ (by decide), d2]
      show (zins N.2.2.2.1 z (Int32.ofNat mm)).length = _
      omega
    · rw [c3, sc _ _ (by decide), d3, f3, sk _ _ (by decide) (by decide)]; exact o3
    · rw [c4, sc _ _ (by decide), d4, f4, sk _ _ (by decide) (by decide)]; exact o4
    · dsimp only at hj ⊢
      rw [li] at hj
      rw [zins_get (by omega), Wc_key (by omega) (by omega) hb]
      have e1 : zkey (shC n w (bf n 2 2 + 1) (Ws (Wk (shK n z (bf n 2 2) n) z mm) (bf n 2 2 + 1))) j = zkey (Ws (Wk (shK n z (bf n 2 2) n) z mm) (bf n 2 2 + 1)) j := sc _ _ (by omega)
      rw [e1, Ws_key (by omega) (by omega), Wk_key (by omega) (by omega) hm, shK_key _ _ (by omega) (by omega)]
      by_cases g1 : j < z
      · rw [if_pos g1, if_neg (by omega), if_neg (by omega)]; exact o5 j (by omega)
      · rw [if_neg g1]
        by_cases g2 : j = z
        · rw [if_pos g2, if_pos g2]
        · rw [if_neg g2, if_neg g2, if_pos (by omega)]; exact o5 (j - 1) (by omega)
    · dsimp only
      rw [if_pos k2]
      have lii : (zins N.2.2.2.2 (w + 1) (Int32.ofNat b)).length = N.2.2.2.2.length + 1 := zins_len (by omega)
      rw [li, lii]
      refine ⟨by omega, fun p hp => ?_⟩
      rw [zins_get (by omega), Wc_chi (by omega) (by omega) hb, shC_chi _ _ (by omega) (by omega), Ws_chi (by omega) (by omega), Wk_chi (by omega) (by omega) hm]
      have e1 : zchi (shK n z (bf n 2 2) n) p = zchi n p := sk _ _ (by omega) (by omega)
      rw [e1]
      by_cases g1 : p < w + 1
      · rw [if_pos g1, if_neg (by omega), if_neg (by omega)]; exact o7 p (by omega)
      · rw [if_neg g1]
        by_cases g2 : p = w + 1
        · rw [if_pos g2, if_pos g2]
        · rw [if_neg g2, if_neg g2, if_pos (by omega)]; exact o7 (p - 1) (by omega)
/-- keys moved down -/
def shD (n : Int64) : Nat → Nat → Int64 → Int64
  | 0, _, cur => cur
  | f + 1, j, cur => if 2 ≤ j then cur else shD n f (j + 1) (Wk cur j (zkey n (j + 1)))
theorem shD_key : ∀ (f j : Nat) (cur : Int64), 2 ≤ j + f → p < 3 → zkey (shD n f j cur) p = if j ≤ p ∧ p < 2 then zkey n (p + 1) else zkey cur p := by
  intro f
  induction f with
  | zero => intro j cur hj hp; rw [shD, if_neg (by omega)]
  | succ f ih =>
    intro j cur hj hp
    rw [shD]
    by_cases e : 2 ≤ j
    · rw [if_pos e, if_neg (by omega)]
    · rw [if_neg e, ih _ _ (by omega) hp, Wk_key (by omega) hp zkey_lt]
      by_cases c1 : j + 1 ≤ p ∧ p < 2
      · rw [if_pos c1, if_pos (by omega)]
      · rw [if_neg c1]
        by_cases c2 : p = j
        · rw [if_pos c2, if_pos (by omega), c2]
        · rw [if_neg c2, if_neg (by omega)]
theorem shD_o : ∀ (f j : Nat) (cur : Int64), q + v ≤ 18 → bf (shD n f j cur) q v = bf cur q v := by
  intro f
  induction f with
  | zero => intro j cur hq; rfl
  | succ f ih =>
    intro j cur hq
    rw [shD]
    by_cases e : 2 ≤ j
    · rw [if_pos e]
    · rw [if_neg e, ih _ _ hq, Wk_o (by omega) zkey_lt (by omega) (by omega)]
/-- without: the node -/
theorem dec_wout (o : decN n va vb vd N) (k1 : ¬ N.1 = 2) (hi : i < N.2.2.2.1.length) : decN (shD n 3 i (Ws n (bf n 2 2 - 1))) (if i = 0 then vb else va) (if i ≤ 1 then vd else vb) 0 (zwout N i) := by
  obtain ⟨o1, o2, o3, o4, o5, o6⟩ := id o
  rw [if_neg k1] at o6
  obtain ⟨o6, o7⟩ := o6
  have hl := dec_len o
  obtain ⟨d1, d2, d3, d4⟩ := fWs (n := n) (x := bf n 2 2 - 1) (by omega)
  unfold zwout
  have li : (zdel N.2.2.2.1 i).length = N.2.2.2.1.length - 1 := zdel_len hi
  have lii : (zdel N.2.2.2.2 i).length = N.2.2.2.2.length - 1 := zdel_len (by omega)
  refine ⟨?_, ?_, ?_, ?_, fun j hj => ?_, ?_⟩
  · rw [shD_o _ _ _ (by decide), d1]; exact o1
  · rw [shD_o _ _ _ (by decide), d2]
    show (zdel N.2.2.2.1 i).length = _
    omega
  · rw [shD_o _ _ _ (by decide), d3]; exact o3
  · rw [shD_o _ _ _ (by decide), d4]; exact o4
  · dsimp only at hj ⊢
    rw [li] at hj
    rw [zdel_get hi, shD_key _ _ _ (by omega) (by omega), Ws_key (by omega) (by omega)]
    by_cases g1 : j < i
    · rw [if_pos g1, if_neg (by omega)]; exact o5 j (by omega)
    · rw [if_neg g1, if_pos (by omega)]; exact o5 (j + 1) (by omega)
  · dsimp only
    rw [if_neg k1, li, lii]
    refine ⟨by omega, fun j hj => ?_⟩
    rw [zdel_get (by omega)]
    by_cases g1 : j < i
    · rw [if_pos g1, o7 j (by omega)]
      unfold zpick
      have : j = 0 ∨ j = 1 := by omega
      rcases this with rfl | rfl
      · rw [if_pos rfl, if_pos rfl, if_neg (by omega)]
      · rw [if_neg (by decide), if_pos rfl, if_neg (by decide), if_pos rfl, if_neg (by omega)]
    · rw [if_neg g1, o7 (j + 1) (by omega)]
      unfold zpick
      have : j = 0 ∨ j = 1 := by omega
      rcases this with rfl | rfl
      · rw [if_neg (by decide), if_pos rfl, if_pos rfl, if_pos (by omega)]
      · rw [if_neg (by decide), if_neg (by decide), if_neg (by decide), if_pos rfl, if_pos (by omega)]
end RND3
