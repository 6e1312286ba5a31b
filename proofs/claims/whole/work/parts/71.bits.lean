/-! Nodes as longs: fields of bits. -/
/-- w bits from p on -/
def bf (n : Int64) (p w : Nat) : Nat := (n.toBitVec.toNat >>> p) % 2 ^ w
theorem bf_lt (n : Int64) (p w : Nat) : bf n p w < 2 ^ w := Nat.mod_lt _ (Nat.two_pow_pos w)
theorem bf_bit (n : Int64) (p w j : Nat) : (bf n p w).testBit j = (decide (j < w) && n.toBitVec.getLsbD (p + j)) := by
  unfold bf
  rw [Nat.testBit_mod_two_pow, Nat.testBit_shiftRight, BitVec.testBit_toNat]
/-- a shift by a number that is known -/
def shOK (s : Int64) (p : Nat) : Prop := (s.toBitVec.smod 64).toNat = p ∧ p < 64
def mkOK (m : Int64) (w : Nat) : Prop := ∀ j, m.toBitVec.getLsbD j = decide (j < w)
theorem rd_bf {n s m : Int64} {p w : Nat} (hs : shOK s p) (hm : mkOK m w) (hp : p + w ≤ 64) (hw : w ≤ 31) : ((n >>> s) &&& m).toInt32 = Int32.ofNat (bf n p w) := by
  apply Int32.toBitVec.inj
  apply BitVec.eq_of_getLsbD_eq
  intro j hj
  show _ = (BitVec.ofNat 32 (bf n p w)).getLsbD j
  rw [Int64.toBitVec_toInt32, BitVec.getLsbD_signExtend, BitVec.getLsbD_ofNat, bf_bit, Int64.toBitVec_and, BitVec.getLsbD_and, hm j, Int64.toBitVec_shiftRight, BitVec.sshiftRight_eq', hs.1, BitVec.getLsbD_sshiftRight]
  rw [decide_eq_true hj, if_pos (by omega), Bool.true_and, Bool.true_and]
  by_cases q : j < w
  · rw [decide_eq_true q, if_pos (by omega), Bool.and_true, Bool.true_and]
    rw [decide_eq_false (by omega)]; rfl
  · rw [decide_eq_false q, Bool.and_false, Bool.false_and]
theorem rd_k {n : Int64} : (n &&& (3 : Int64)).toInt32 = Int32.ofNat (bf n 0 2) := by
  have e : n >>> (0 : Int64) = n := by
    apply Int64.toBitVec.inj
    rw [Int64.toBitVec_shiftRight, BitVec.sshiftRight_eq']
    exact BitVec.sshiftRight_zero
  have := rd_bf (n := n) (s := 0) (m := 3) (p := 0) (w := 2) ⟨by decide, by decide⟩ (fun j => ?_) (by decide) (by decide)
  · rw [e] at this; exact this
  · by_cases q : j < 64
    · revert j; decide
    · rw [BitVec.getLsbD_of_ge _ _ (by omega), decide_eq_false (by omega)]
theorem mk_3 : mkOK 3 2 := fun j => by
  by_cases q : j < 64
  · revert j; decide
  · rw [BitVec.getLsbD_of_ge _ _ (by omega), decide_eq_false (by omega)]
theorem mk_127 : mkOK 127 7 := fun j => by
  by_cases q : j < 64
  · revert j; decide
  · rw [BitVec.getLsbD_of_ge _ _ (by omega), decide_eq_false (by omega)]
theorem mk_31 : mkOK 31 5 := fun j => by
  by_cases q : j < 64
  · revert j; decide
  · rw [BitVec.getLsbD_of_ge _ _ (by omega), decide_eq_false (by omega)]
theorem nat_bits {x w j : Nat} (hx : x < 2 ^ w) (hj : w ≤ j) : x.testBit j = false := Nat.testBit_lt_two_pow (Nat.lt_of_lt_of_le hx (Nat.pow_le_pow_right (by decide) hj))
/-- the long of a small int -/
theorem k64_bit {x j : Nat} (hx : x < 2 ^ 31) (hj : j < 64) : (Int32.ofNat x).toInt64.toBitVec.getLsbD j = x.testBit j := by
  rw [Int32.toBitVec_toInt64, BitVec.getLsbD_signExtend, decide_eq_true hj, Bool.true_and]
  have e : (Int32.ofNat x).toBitVec = BitVec.ofNat 32 x := rfl
  rw [e]
  by_cases q : j < 32
  · rw [if_pos q, BitVec.getLsbD_ofNat, decide_eq_true q, Bool.true_and]
  · rw [if_neg q, nat_bits hx (by omega), BitVec.msb_eq_getLsbD_last, BitVec.getLsbD_ofNat, nat_bits hx (by decide)]
    rfl
/-- a field written -/
theorem wr_bit {n s m : Int64} {p w x j : Nat} (hs : shOK s p) (hm : mkOK m w) (hp : p + w ≤ 64) (hw : w ≤ 31) (hx : x < 2 ^ w) (hj : j < 64) : ((n &&& ((m <<< s) ^^^ (-1))) ||| ((Int32.ofNat x).toInt64 <<< s)).toBitVec.getLsbD j = if p ≤ j ∧ j < p + w then x.testBit (j - p) else n.toBitVec.getLsbD j := by
  have h31 : x < 2 ^ 31 := Nat.lt_of_lt_of_le hx (Nat.pow_le_pow_right (by decide) hw)
  have em : ((-1 : Int64)).toBitVec.getLsbD j = true := by revert j; decide
  rw [Int64.toBitVec_or, BitVec.getLsbD_or, Int64.toBitVec_and, BitVec.getLsbD_and, Int64.toBitVec_xor, BitVec.getLsbD_xor, em, Int64.toBitVec_shiftLeft, Int64.toBitVec_shiftLeft]
  have sl : ∀ b : BitVec 64, (b <<< s.toBitVec.smod 64).getLsbD j = (decide (j < 64) && !decide (j < p) && b.getLsbD (j - p)) := by
    intro b
    rw [BitVec.shiftLeft_eq', hs.1, BitVec.getLsbD_shiftLeft]
  rw [sl, sl, hm (j - p), k64_bit h31 (by omega), decide_eq_true hj]
  by_cases a : p ≤ j
  · rw [decide_eq_false (show ¬ j < p by omega)]
    by_cases b : j < p + w
    · rw [decide_eq_true (show j - p < w by omega), if_pos ⟨a, b⟩]
      cases x.testBit (j - p) <;> cases n.toBitVec.getLsbD j <;> rfl
    · rw [decide_eq_false (show ¬ j - p < w by omega), if_neg (by omega), nat_bits hx (by omega)]
      cases n.toBitVec.getLsbD j <;> rfl
  · rw [decide_eq_true (show j < p by omega), if_neg (by omega)]
    cases n.toBitVec.getLsbD j <;> rfl
theorem wr_same {n s m : Int64} {p w x : Nat} (hs : shOK s p) (hm : mkOK m w) (hp : p + w ≤ 64) (hw : w ≤ 31) (hx : x < 2 ^ w) : bf ((n &&& ((m <<< s) ^^^ (-1))) ||| ((Int32.ofNat x).toInt64 <<< s)) p w = x := by
  apply Nat.eq_of_testBit_eq
  intro j
  rw [bf_bit]
  by_cases q : j < w
  · rw [decide_eq_true q, Bool.true_and, wr_bit hs hm hp hw hx (by omega), if_pos (by omega)]
    congr 1
    omega
  · rw [decide_eq_false q, Bool.false_and, nat_bits hx (by omega)]
theorem wr_other {n s m : Int64} {p w x q v : Nat} (hs : shOK s p) (hm : mkOK m w) (hp : p + w ≤ 64) (hw : w ≤ 31) (hx : x < 2 ^ w) (hq : q + v ≤ 64) (hd : q + v ≤ p ∨ p + w ≤ q) : bf ((n &&& ((m <<< s) ^^^ (-1))) ||| ((Int32.ofNat x).toInt64 <<< s)) q v = bf n q v := by
  apply Nat.eq_of_testBit_eq
  intro j
  rw [bf_bit, bf_bit]
  by_cases r : j < v
  · rw [decide_eq_true r, Bool.true_and, Bool.true_and, wr_bit hs hm hp hw hx (by omega), if_neg (by omega)]
  · rw [decide_eq_false r, Bool.false_and, Bool.false_and]
theorem sh_key {i : Nat} (hi : i < 3) : shOK (((18 : Int32) + ((7 : Int32) * Int32.ofNat i)).toInt64 &&& 63) (18 + 7 * i) := by
  have : i = 0 ∨ i = 1 ∨ i = 2 := by omega
  rcases this with rfl | rfl | rfl <;> exact ⟨by decide, by decide⟩
theorem sh_chi {i : Nat} (hi : i < 4) : shOK (((39 : Int32) + ((5 : Int32) * Int32.ofNat i)).toInt64 &&& 63) (39 + 5 * i) := by
  have : i = 0 ∨ i = 1 ∨ i = 2 ∨ i = 3 := by omega
  rcases this with rfl | rfl | rfl | rfl <;> exact ⟨by decide, by decide⟩
section BITM
variable {h : xv_H} {F i x : Nat} {n : Int64}
def zsz (n : Int64) : Nat := bf n 2 2
def zkey (n : Int64) (i : Nat) : Nat := bf n (18 + 7 * i) 7
def zchi (n : Int64) (i : Nat) : Nat := bf n (39 + 5 * i) 5
theorem r134_eq : m134 F n h = some (Int32.ofNat (bf n 0 2), h) := by unfold m134 b134_0; rw [rd_k]; rfl
theorem r146_eq : m146 F n h = some (Int32.ofNat (bf n 2 2), h) := by unfold m146 b146_0; rw [rd_bf (p := 2) (w := 2) ⟨by decide, by decide⟩ mk_3 (by decide) (by decide)]; rfl
theorem r149_eq : m149 F n h = some (Int32.ofNat (bf n 4 7), h) := by unfold m149 b149_0; rw [rd_bf (p := 4) (w := 7) ⟨by decide, by decide⟩ mk_127 (by decide) (by decide)]; rfl
theorem r154_eq : m154 F n h = some (Int32.ofNat (bf n 11 7), h) := by unfold m154 b154_0; rw [rd_bf (p := 11) (w := 7) ⟨by decide, by decide⟩ mk_127 (by decide) (by decide)]; rfl
theorem r148_eq (hi : i < 3) : m148 F n (Int32.ofNat i) h = some (Int32.ofNat (zkey n i), h) := by unfold m148 b148_0 zkey; rw [rd_bf (sh_key hi) mk_127 (by omega) (by decide)]; rfl
theorem r152_eq (hi : i < 4) : m152 F n (Int32.ofNat i) h = some (Int32.ofNat (zchi n i), h) := by unfold m152 b152_0 zchi; rw [rd_bf (sh_chi hi) mk_31 (by omega) (by decide)]; rfl
/-- withKey, withChild, sized -/
def Wk (n : Int64) (i x : Nat) : Int64 := ((n &&& (((127 : Int64) <<< (((18 : Int32) + ((7 : Int32) * Int32.ofNat i)).toInt64 &&& 63)) ^^^ (-1 : Int64))) ||| ((Int32.ofNat x).toInt64 <<< (((18 : Int32) + ((7 : Int32) * Int32.ofNat i)).toInt64 &&& 63)))
def Wc (n : Int64) (i x : Nat) : Int64 := ((n &&& (((31 : Int64) <<< (((39 : Int32) + ((5 : Int32) * Int32.ofNat i)).toInt64 &&& 63)) ^^^ (-1 : Int64))) ||| ((Int32.ofNat x).toInt64 <<< (((39 : Int32) + ((5 : Int32) * Int32.ofNat i)).toInt64 &&& 63)))
def Ws (n : Int64) (x : Nat) : Int64 := ((n &&& (((3 : Int64) <<< ((2 : Int32).toInt64 &&& 63)) ^^^ (-1 : Int64))) ||| ((Int32.ofNat x).toInt64 <<< ((2 : Int32).toInt64 &&& 63)))
theorem r150_eq : m150 F n (Int32.ofNat i) (Int32.ofNat x) h = some (Wk n i x, h) := rfl
theorem r153_eq : m153 F n (Int32.ofNat i) (Int32.ofNat x) h = some (Wc n i x, h) := rfl
theorem r151_eq : m151 F n (Int32.ofNat x) h = some (Ws n x, h) := by
  unfold m151 b151_0 Ws
  rw [show (-13 : Int64) = ((3 : Int64) <<< ((2 : Int32).toInt64 &&& 63)) ^^^ (-1 : Int64) by decide]; rfl
theorem Wk_same (hi : i < 3) (hx : x < 128) : zkey (Wk n i x) i = x := wr_same (sh_key hi) mk_127 (by omega) (by decide) hx
theorem Wk_o {q v : Nat} (hi : i < 3) (hx : x < 128) (hq : q + v ≤ 64) (hd : q + v ≤ 18 + 7 * i ∨ 18 + 7 * i + 7 ≤ q) : bf (Wk n i x) q v = bf n q v := wr_other (sh_key hi) mk_127 (by omega) (by decide) hx hq hd
theorem Wk_key {j : Nat} (hi : i < 3) (hj : j < 3) (hx : x < 128) : zkey (Wk n i x) j = if j = i then x else zkey n j := by
  by_cases e : j = i
  · rw [if_pos e, e]; exact Wk_same hi hx
  · rw [if_neg e]; exact Wk_o hi hx (by omega) (by omega)
theorem Wk_chi {j : Nat} (hi : i < 3) (hj : j < 4) (hx : x < 128) : zchi (Wk n i x) j = zchi n j := Wk_o hi hx (by omega) (by omega)
theorem Wc_same (hi : i < 4) (hx : x < 32) : zchi (Wc n i x) i = x := wr_same (sh_chi hi) mk_31 (by omega) (by decide) hx
theorem Wc_o {q v : Nat} (hi : i < 4) (hx : x < 32) (hq : q + v ≤ 64) (hd : q + v ≤ 39 + 5 * i ∨ 39 + 5 * i + 5 ≤ q) : bf (Wc n i x) q v = bf n q v := wr_other (sh_chi hi) mk_31 (by omega) (by decide) hx hq hd
theorem Wc_chi {j : Nat} (hi : i < 4) (hj : j < 4) (hx : x < 32) : zchi (Wc n i x) j = if j = i then x else zchi n j := by
  by_cases e : j = i
  · rw [if_pos e, e]; exact Wc_same hi hx
  · rw [if_neg e]; exact Wc_o hi hx (by omega) (by omega)
theorem Wc_key {j : Nat} (hi : i < 4) (hj : j < 3) (hx : x < 32) : zkey (Wc n i x) j = zkey n j := Wc_o hi hx (by omega) (by omega)
theorem sh_2 : shOK ((2 : Int32).toInt64 &&& 63) 2 := ⟨by decide, by decide⟩
theorem Ws_same (hx : x < 4) : bf (Ws n x) 2 2 = x := wr_same sh_2 mk_3 (by decide) (by decide) hx
theorem Ws_o {q v : Nat} (hx : x < 4) (hq : q + v ≤ 64) (hd : q + v ≤ 2 ∨ 4 ≤ q) : bf (Ws n x) q v = bf n q v := wr_other sh_2 mk_3 (by decide) (by decide) hx hq hd
/-- plain -/
def Wp (k l u : Nat) : Int64 := Int64.ofNat (k + 16 * l + 2048 * u)
theorem toI64 {x : Nat} (hx : x < 2 ^ 31) : (Int32.ofNat x).toInt64 = Int64.ofNat x := by
  apply Int64.toBitVec.inj
  apply BitVec.eq_of_getLsbD_eq
  intro j hj
  rw [k64_bit hx hj]
  show _ = (BitVec.ofNat 64 x).getLsbD j
  rw [BitVec.getLsbD_ofNat, decide_eq_true hj, Bool.true_and]
theorem r124_eq {k l u : Nat} (hk : k < 2 ^ 31) (hl : l < 2 ^ 31) (hu : u < 2 ^ 31) : m124 F (Int32.ofNat k) (Int32.ofNat l) (Int32.ofNat u) h = some (Wp k l u, h) := by
  unfold m124 b124_0 Wp
  rw [toI64 hk, toI64 hl, toI64 hu, show (16 : Int64) = Int64.ofNat 16 from rfl, show (2048 : Int64) = Int64.ofNat 2048 from rfl, ← Int64.ofNat_mul, ← Int64.ofNat_mul, ← Int64.ofNat_add, ← Int64.ofNat_add]; rfl
theorem bf_of {N p w : Nat} (hN : N < 2 ^ 64) : bf (Int64.ofNat N) p w = (N >>> p) % 2 ^ w := by
  unfold bf
  show ((BitVec.ofNat 64 N).toNat >>> p) % 2 ^ w = _
  rw [BitVec.toNat_ofNat, Nat.mod_eq_of_lt hN]
theorem Wp_f {k l u : Nat} (hk : k < 4) (hl : l < 128) (hu : u < 128) : bf (Wp k l u) 0 2 = k ∧ bf (Wp k l u) 2 2 = 0 ∧ bf (Wp k l u) 4 7 = l ∧ bf (Wp k l u) 11 7 = u := by
  unfold Wp
  have hN : k + 16 * l + 2048 * u < 2 ^ 64 := by omega
  refine ⟨?_, ?_, ?_, ?_⟩ <;> rw [bf_of hN, Nat.shiftRight_eq_div_pow] <;> omega
end BITM
