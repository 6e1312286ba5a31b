/-! What it needs for an instruction to go on. -/
section XI
variable {β : Type} {st : List Value} {b : β} {L : xv_L} {i : Nat} {lg : List Nat} {h : xv_H}
theorem xv_i1_inv {f : Int32 → List Value → Option β} (q : xv_i1 st f = some b) : ∃ x r, st = .int x :: r ∧ f x r = some b := by
  unfold xv_i1 at q
  split at q
  · exact ⟨_, _, rfl, q⟩
  · cases q
theorem xv_i2_inv {f : Int32 → Int32 → List Value → Option β} (q : xv_i2 st f = some b) : ∃ x y r, st = .int y :: .int x :: r ∧ f x y r = some b := by
  unfold xv_i2 at q
  split at q
  · exact ⟨_, _, _, rfl, q⟩
  · cases q
theorem xv_l1_inv {f : Int64 → List Value → Option β} (q : xv_l1 st f = some b) : ∃ x r, st = .long x :: r ∧ f x r = some b := by
  unfold xv_l1 at q
  split at q
  · exact ⟨_, _, rfl, q⟩
  · cases q
theorem xv_l2_inv {f : Int64 → Int64 → List Value → Option β} (q : xv_l2 st f = some b) : ∃ x y r, st = .long y :: .long x :: r ∧ f x y r = some b := by
  unfold xv_l2 at q
  split at q
  · exact ⟨_, _, _, rfl, q⟩
  · cases q
theorem xv_li_inv {f : Int64 → Int32 → List Value → Option β} (q : xv_li st f = some b) : ∃ x y r, st = .int y :: .long x :: r ∧ f x y r = some b := by
  unfold xv_li at q
  split at q
  · exact ⟨_, _, _, rfl, q⟩
  · cases q
theorem xv_r1_inv {f : Nat → List Value → Option β} (q : xv_r1 st f = some b) : ∃ a r, st = .ref a :: r ∧ f a r = some b := by
  unfold xv_r1 at q
  split at q
  · exact ⟨_, _, rfl, q⟩
  · cases q
theorem xv_q1_inv {f : Option Nat → List Value → Option β} (q : xv_q1 st f = some b) : ∃ o r, st = va_rf o :: r ∧ f o r = some b := by
  unfold xv_q1 at q
  split at q
  · exact ⟨some _, _, rfl, q⟩
  · exact ⟨none, _, rfl, q⟩
  · cases q
theorem xv_v1_inv {f : Value → List Value → Option β} (q : xv_v1 st f = some b) : ∃ v r, st = v :: r ∧ v.category = 1 ∧ f v r = some b := by
  unfold xv_v1 at q
  split at q
  · split at q
    · rename_i hc
      exact ⟨_, _, rfl, hc, q⟩
    · cases q
  · cases q
theorem xv_in_inv {x : Int32} {a : Nat} {k : Option β} (q : xv_in h x a k = some b) : a < h.1 ∧ 0 ≤ x ∧ x.toNatClampNeg < h.2.2.2.1 a ∧ k = some b := by
  unfold xv_in at q
  split at q
  · rename_i hc
    exact ⟨hc.1, hc.2.1, hc.2.2, q⟩
  · cases q
theorem xv_iload_inv {f : Int32 → Option β} (q : xv_iload L i f = some b) : ∃ x, L[i]? = some (some (.int x)) ∧ f x = some b := by
  unfold xv_iload at q
  split at q
  · rename_i hc
    exact ⟨_, hc, q⟩
  · cases q
theorem xv_lload_inv {f : Int64 → Option β} (q : xv_lload L i f = some b) : ∃ x, L[i]? = some (some (.long x)) ∧ f x = some b := by
  unfold xv_lload at q
  split at q
  · rename_i hc
    exact ⟨_, hc, q⟩
  · cases q
theorem xv_aload_inv {f : Option Nat → Option β} (q : xv_aload L i f = some b) : (∃ x, L[i]? = some (some (.ref x)) ∧ f (some x) = some b) ∨ (L[i]? = some (some .null) ∧ f none = some b) := by
  unfold xv_aload at q
  split at q
  · rename_i hc
    exact Or.inl ⟨_, hc, q⟩
  · rename_i hc
    exact Or.inr ⟨hc, q⟩
  · cases q
theorem xv_st1_inv {v : Value} {f : xv_L → Option β} (q : xv_st1 lg L i v f = some b) : i < L.length ∧ xv_b1 lg i = true ∧ f (L.set i (some v)) = some b := by
  unfold xv_st1 at q
  split at q
  · rename_i hc
    exact ⟨hc.1, hc.2, q⟩
  · cases q
theorem xv_st2_inv {v : Value} {f : xv_L → Option β} (q : xv_st2 lg L i v f = some b) : i + 1 < L.length ∧ xv_b1 lg i = true ∧ i ∈ lg ∧ f ((L.set i (some v)).set (i + 1) none) = some b := by
  unfold xv_st2 at q
  split at q
  · rename_i hc
    exact ⟨hc.1, hc.2.1, by simpa using hc.2.2, q⟩
  · cases q
theorem xv_len_inv {n : Int32} {k : Option β} (q : xv_len n k = some b) : 0 ≤ n ∧ n.toNatClampNeg ≤ 60000000 ∧ k = some b := by
  unfold xv_len at q
  split at q
  · rename_i hc
    exact ⟨hc.1, hc.2, q⟩
  · cases q
end XI
theorem xv_nx_inv {pc : Nat} {L : xv_L} {st : List Value} {h : xv_H} {x : xv_N} (q : xv_nx pc L st h = some x) : x = (pc, L, st, h) := (Option.some.inj q).symm
theorem xv_jmp_inv {pc : Nat} {off : Int} {L : xv_L} {st : List Value} {h : xv_H} {x : xv_N} (q : xv_jmp pc off L st h = some x) : ∃ t : Nat, (pc : Int) + off = (t : Int) ∧ x = (t, L, st, h) := by
  unfold xv_jmp at q
  split at q
  · rename_i t ht
    exact ⟨t, ht, xv_nx_inv q⟩
  · cases q
theorem xv_if_inv {c : Bool} {pc : Nat} {off : Int} {L : xv_L} {st : List Value} {h : xv_H} {x : xv_N} (q : xv_if c pc off L st h = some x) : (c = true ∧ ∃ t : Nat, (pc : Int) + off = (t : Int) ∧ x = (t, L, st, h)) ∨ (c = false ∧ x = (pc + 3, L, st, h)) := by
  unfold xv_if at q
  split at q
  · rename_i hc
    exact Or.inl ⟨hc, xv_jmp_inv q⟩
  · rename_i hc
    exact Or.inr ⟨by simpa using hc, xv_nx_inv q⟩
