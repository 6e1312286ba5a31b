/-! The state as a mathematical object, and its steps. -/
/-- kind, address, version, content -/
abbrev zI : Type := Int32 × Nat × Int32 × zN
/-- kind, transaction, memory, what it bears -/
abbrev zM : Type := Int32 × Nat × Nat × Option (Int32 × zN)
def z0N : zN := (0, 0, 0, [], [])
def fset {β : Type} (f : Nat → β) (i : Nat) (v : β) : Nat → β := fun j => if j = i then v else f j
def fset2 {β : Type} (f : Nat → Nat → β) (i j : Nat) (v : β) : Nat → Nat → β := fun a b => if a = i ∧ b = j then v else f a b
abbrev zC : Type := (Nat → Option (Int32 × zN)) × Nat × Int32 × Int32 × Int32 × Int32 × Int32 × Int32 × Int32 × Int32 × Bool × Nat × (Nat → Bool) × Int32 × List Nat × List (Nat × Int32)
def c_cp (s : zC) : Nat → Option (Int32 × zN) := s.1
def c_hi (s : zC) : Nat := s.2.1
def c_jb (s : zC) : Int32 := s.2.2.1
def c_st (s : zC) : Int32 := s.2.2.2.1
def c_fu (s : zC) : Int32 := s.2.2.2.2.1
def c_go (s : zC) : Int32 := s.2.2.2.2.2.1
def c_fr (s : zC) : Int32 := s.2.2.2.2.2.2.1
def c_up (s : zC) : Int32 := s.2.2.2.2.2.2.2.1
def c_wa (s : zC) : Int32 := s.2.2.2.2.2.2.2.2.1
def c_re (s : zC) : Int32 := s.2.2.2.2.2.2.2.2.2.1
def c_fo (s : zC) : Bool := s.2.2.2.2.2.2.2.2.2.2.1
def c_op (s : zC) : Nat := s.2.2.2.2.2.2.2.2.2.2.2.1
def c_an (s : zC) : Nat → Bool := s.2.2.2.2.2.2.2.2.2.2.2.2.1
def c_sg (s : zC) : Int32 := s.2.2.2.2.2.2.2.2.2.2.2.2.2.1
def c_pa (s : zC) : List Nat := s.2.2.2.2.2.2.2.2.2.2.2.2.2.2.1
def c_lf (s : zC) : List (Nat × Int32) := s.2.2.2.2.2.2.2.2.2.2.2.2.2.2.2
def c_cp_ (s : zC) (x : Nat → Option (Int32 × zN)) : zC := (x, c_hi s, c_jb s, c_st s, c_fu s, c_go s, c_fr s, c_up s, c_wa s, c_re s, c_fo s, c_op s, c_an s, c_sg s, c_pa s, c_lf s)
def c_hi_ (s : zC) (x : Nat) : zC := (c_cp s, x, c_jb s, c_st s, c_fu s, c_go s, c_fr s, c_up s, c_wa s, c_re s, c_fo s, c_op s, c_an s, c_sg s, c_pa s, c_lf s)
def c_jb_ (s : zC) (x : Int32) : zC := (c_cp s, c_hi s, x, c_st s, c_fu s, c_go s, c_fr s, c_up s, c_wa s, c_re s, c_fo s, c_op s, c_an s, c_sg s, c_pa s, c_lf s)
def c_st_ (s : zC) (x : Int32) : zC := (c_cp s, c_hi s, c_jb s, x, c_fu s, c_go s, c_fr s, c_up s, c_wa s, c_re s, c_fo s, c_op s, c_an s, c_sg s, c_pa s, c_lf s)
def c_fu_ (s : zC) (x : Int32) : zC := (c_cp s, c_hi s, c_jb s, c_st s, x, c_go s, c_fr s, c_up s, c_wa s, c_re s, c_fo s, c_op s, c_an s, c_sg s, c_pa s, c_lf s)
def c_go_ (s : zC) (x : Int32) : zC := (c_cp s, c_hi s, c_jb s, c_st s, c_fu s, x, c_fr s, c_up s, c_wa s, c_re s, c_fo s, c_op s, c_an s, c_sg s, c_pa s, c_lf s)
def c_fr_ (s : zC) (x : Int32) : zC := (c_cp s, c_hi s, c_jb s, c_st s, c_fu s, c_go s, x, c_up s, c_wa s, c_re s, c_fo s, c_op s, c_an s, c_sg s, c_pa s, c_lf s)
def c_up_ (s : zC) (x : Int32) : zC := (c_cp s, c_hi s, c_jb s, c_st s, c_fu s, c_go s, c_fr s, x, c_wa s, c_re s, c_fo s, c_op s, c_an s, c_sg s, c_pa s, c_lf s)
def c_wa_ (s : zC) (x : Int32) : zC := (c_cp s, c_hi s, c_jb s, c_st s, c_fu s, c_go s, c_fr s, c_up s, x, c_re s, c_fo s, c_op s, c_an s, c_sg s, c_pa s, c_lf s)
def c_re_ (s : zC) (x : Int32) : zC := (c_cp s, c_hi s, c_jb s, c_st s, c_fu s, c_go s, c_fr s, c_up s, c_wa s, x, c_fo s, c_op s, c_an s, c_sg s, c_pa s, c_lf s)
def c_fo_ (s : zC) (x : Bool) : zC := (c_cp s, c_hi s, c_jb s, c_st s, c_fu s, c_go s, c_fr s, c_up s, c_wa s, c_re s, x, c_op s, c_an s, c_sg s, c_pa s, c_lf s)
def c_op_ (s : zC) (x : Nat) : zC := (c_cp s, c_hi s, c_jb s, c_st s, c_fu s, c_go s, c_fr s, c_up s, c_wa s, c_re s, c_fo s, x, c_an s, c_sg s, c_pa s, c_lf s)
def c_an_ (s : zC) (x : Nat → Bool) : zC := (c_cp s, c_hi s, c_jb s, c_st s, c_fu s, c_go s, c_fr s, c_up s, c_wa s, c_re s, c_fo s, c_op s, x, c_sg s, c_pa s, c_lf s)
def c_sg_ (s : zC) (x : Int32) : zC := (c_cp s, c_hi s, c_jb s, c_st s, c_fu s, c_go s, c_fr s, c_up s, c_wa s, c_re s, c_fo s, c_op s, c_an s, x, c_pa s, c_lf s)
def c_pa_ (s : zC) (x : List Nat) : zC := (c_cp s, c_hi s, c_jb s, c_st s, c_fu s, c_go s, c_fr s, c_up s, c_wa s, c_re s, c_fo s, c_op s, c_an s, c_sg s, x, c_lf s)
def c_lf_ (s : zC) (x : List (Nat × Int32)) : zC := (c_cp s, c_hi s, c_jb s, c_st s, c_fu s, c_go s, c_fr s, c_up s, c_wa s, c_re s, c_fo s, c_op s, c_an s, c_sg s, c_pa s, x)
theorem c_cp_cp (s : zC) (x : Nat → Option (Int32 × zN)) : c_cp (c_cp_ s x) = x := (rfl)
theorem c_hi_cp (s : zC) (x : Nat → Option (Int32 × zN)) : c_hi (c_cp_ s x) = c_hi s := (rfl)
theorem c_jb_cp (s : zC) (x : Nat → Option (Int32 × zN)) : c_jb (c_cp_ s x) = c_jb s := (rfl)
theorem c_st_cp (s : zC) (x : Nat → Option (Int32 × zN)) : c_st (c_cp_ s x) = c_st s := (rfl)
theorem c_fu_cp (s : zC) (x : Nat → Option (Int32 × zN)) : c_fu (c_cp_ s x) = c_fu s := (rfl)
theorem c_go_cp (s : zC) (x : Nat → Option (Int32 × zN)) : c_go (c_cp_ s x) = c_go s := (rfl)
theorem c_fr_cp (s : zC) (x : Nat → Option (Int32 × zN)) : c_fr (c_cp_ s x) = c_fr s := (rfl)
theorem c_up_cp (s : zC) (x : Nat → Option (Int32 × zN)) : c_up (c_cp_ s x) = c_up s := (rfl)
theorem c_wa_cp (s : zC) (x : Nat → Option (Int32 × zN)) : c_wa (c_cp_ s x) = c_wa s := (rfl)
theorem c_re_cp (s : zC) (x : Nat → Option (Int32 × zN)) : c_re (c_cp_ s x) = c_re s := (rfl)
theorem c_fo_cp (s : zC) (x : Nat → Option (Int32 × zN)) : c_fo (c_cp_ s x) = c_fo s := (rfl)
theorem c_op_cp (s : zC) (x : Nat → Option (Int32 × zN)) : c_op (c_cp_ s x) = c_op s := (rfl)
theorem c_an_cp (s : zC) (x : Nat → Option (Int32 × zN)) : c_an (c_cp_ s x) = c_an s := (rfl)
theorem c_sg_cp (s : zC) (x : Nat → Option (Int32 × zN)) : c_sg (c_cp_ s x) = c_sg s := (rfl)
theorem c_pa_cp (s : zC) (x : Nat → Option (Int32 × zN)) : c_pa (c_cp_ s x) = c_pa s := (rfl)
theorem c_lf_cp (s : zC) (x : Nat → Option (Int32 × zN)) : c_lf (c_cp_ s x) = c_lf s := (rfl)
theorem c_cp_hi (s : zC) (x : Nat) : c_cp (c_hi_ s x) = c_cp s := (rfl)
theorem c_hi_hi (s : zC) (x : Nat) : c_hi (c_hi_ s x) = x := (rfl)
theorem c_jb_hi (s : zC) (x : Nat) : c_jb (c_hi_ s x) = c_jb s := (rfl)
theorem c_st_hi (s : zC) (x : Nat) : c_st (c_hi_ s x) = c_st s := (rfl)
theorem c_fu_hi (s : zC) (x : Nat) : c_fu (c_hi_ s x) = c_fu s := (rfl)
theorem c_go_hi (s : zC) (x : Nat) : c_go (c_hi_ s x) = c_go s := (rfl)
theorem c_fr_hi (s : zC) (x : Nat) : c_fr (c_hi_ s x) = c_fr s := (rfl)
theorem c_up_hi (s : zC) (x : Nat) : c_up (c_hi_ s x) = c_up s := (rfl)
theorem c_wa_hi (s : zC) (x : Nat) : c_wa (c_hi_ s x) = c_wa s := (rfl)
theorem c_re_hi (s : zC) (x : Nat) : c_re (c_hi_ s x) = c_re s := (rfl)
theorem c_fo_hi (s : zC) (x : Nat) : c_fo (c_hi_ s x) = c_fo s := (rfl)
theorem c_op_hi (s : zC) (x : Nat) : c_op (c_hi_ s x) = c_op s := (rfl)
theorem c_an_hi (s : zC) (x : Nat) : c_an (c_hi_ s x) = c_an s := (rfl)
theorem c_sg_hi (s : zC) (x : Nat) : c_sg (c_hi_ s x) = c_sg s := (rfl)
theorem c_pa_hi (s : zC) (x : Nat) : c_pa (c_hi_ s x) = c_pa s := (rfl)
theorem c_lf_hi (s : zC) (x : Nat) : c_lf (c_hi_ s x) = c_lf s := (rfl)
theorem c_cp_jb (s : zC) (x : Int32) : c_cp (c_jb_ s x) = c_cp s := (rfl)
theorem c_hi_jb (s : zC) (x : Int32) : c_hi (c_jb_ s x) = c_hi s := (rfl)
theorem c_jb_jb (s : zC) (x : Int32) : c_jb (c_jb_ s x) = x := (rfl)
theorem c_st_jb (s : zC) (x : Int32) : c_st (c_jb_ s x) = c_st s := (rfl)
theorem c_fu_jb (s : zC) (x : Int32) : c_fu (c_jb_ s x) = c_fu s := (rfl)
theorem c_go_jb (s : zC) (x : Int32) : c_go (c_jb_ s x) = c_go s := (rfl)
theorem c_fr_jb (s : zC) (x : Int32) : c_fr (c_jb_ s x) = c_fr s := (rfl)
theorem c_up_jb (s : zC) (x : Int32) : c_up (c_jb_ s x) = c_up s := (rfl)
theorem c_wa_jb (s : zC) (x : Int32) : c_wa (c_jb_ s x) = c_wa s := (rfl)
theorem c_re_jb (s : zC) (x : Int32) : c_re (c_jb_ s x) = c_re s := (rfl)
theorem c_fo_jb (s : zC) (x : Int32) : c_fo (c_jb_ s x) = c_fo s := (rfl)
theorem c_op_jb (s : zC) (x : Int32) : c_op (c_jb_ s x) = c_op s := (rfl)
theorem c_an_jb (s : zC) (x : Int32) : c_an (c_jb_ s x) = c_an s := (rfl)
theorem c_sg_jb (s : zC) (x : Int32) : c_sg (c_jb_ s x) = c_sg s := (rfl)
theorem c_pa_jb (s : zC) (x : Int32) : c_pa (c_jb_ s x) = c_pa s := (rfl)
theorem c_lf_jb (s : zC) (x : Int32) : c_lf (c_jb_ s x) = c_lf s := (rfl)
theorem c_cp_st (s : zC) (x : Int32) : c_cp (c_st_ s x) = c_cp s := (rfl)
theorem c_hi_st (s : zC) (x : Int32) : c_hi (c_st_ s x) = c_hi s := (rfl)
theorem c_jb_st (s : zC) (x : Int32) : c_jb (c_st_ s x) = c_jb s := (rfl)
theorem c_st_st (s : zC) (x : Int32) : c_st (c_st_ s x) = x := (rfl)
theorem c_fu_st (s : zC) (x : Int32) : c_fu (c_st_ s x) = c_fu s := (rfl)
theorem c_go_st (s : zC) (x : Int32) : c_go (c_st_ s x) = c_go s := (rfl)
theorem c_fr_st (s : zC) (x : Int32) : c_fr (c_st_ s x) = c_fr s := (rfl)
theorem c_up_st (s : zC) (x : Int32) : c_up (c_st_ s x) = c_up s := (rfl)
theorem c_wa_st (s : zC) (x : Int32) : c_wa (c_st_ s x) = c_wa s := (rfl)
theorem c_re_st (s : zC) (x : Int32) : c_re (c_st_ s x) = c_re s := (rfl)
theorem c_fo_st (s : zC) (x : Int32) : c_fo (c_st_ s x) = c_fo s := (rfl)
theorem c_op_st (s : zC) (x : Int32) : c_op (c_st_ s x) = c_op s := (rfl)
theorem c_an_st (s : zC) (x : Int32) : c_an (c_st_ s x) = c_an s := (rfl)
theorem c_sg_st (s : zC) (x : Int32) : c_sg (c_st_ s x) = c_sg s := (rfl)
theorem c_pa_st (s : zC) (x : Int32) : c_pa (c_st_ s x) = c_pa s := (rfl)
theorem c_lf_st (s : zC) (x : Int32) : c_lf (c_st_ s x) = c_lf s := (rfl)
theorem c_cp_fu (s : zC) (x : Int32) : c_cp (c_fu_ s x) = c_cp s := (rfl)
theorem c_hi_fu (s : zC) (x : Int32) : c_hi (c_fu_ s x) = c_hi s := (rfl)
theorem c_jb_fu (s : zC) (x : Int32) : c_jb (c_fu_ s x) = c_jb s := (rfl)
theorem c_st_fu (s : zC) (x : Int32) : c_st (c_fu_ s x) = c_st s := (rfl)
theorem c_fu_fu (s : zC) (x : Int32) : c_fu (c_fu_ s x) = x := (rfl)
theorem c_go_fu (s : zC) (x : Int32) : c_go (c_fu_ s x) = c_go s := (rfl)
theorem c_fr_fu (s : zC) (x : Int32) : c_fr (c_fu_ s x) = c_fr s := (rfl)
theorem c_up_fu (s : zC) (x : Int32) : c_up (c_fu_ s x) = c_up s := (rfl)
theorem c_wa_fu (s : zC) (x : Int32) : c_wa (c_fu_ s x) = c_wa s := (rfl)
theorem c_re_fu (s : zC) (x : Int32) : c_re (c_fu_ s x) = c_re s := (rfl)
theorem c_fo_fu (s : zC) (x : Int32) : c_fo (c_fu_ s x) = c_fo s := (rfl)
theorem c_op_fu (s : zC) (x : Int32) : c_op (c_fu_ s x) = c_op s := (rfl)
theorem c_an_fu (s : zC) (x : Int32) : c_an (c_fu_ s x) = c_an s := (rfl)
theorem c_sg_fu (s : zC) (x : Int32) : c_sg (c_fu_ s x) = c_sg s := (rfl)
theorem c_pa_fu (s : zC) (x : Int32) : c_pa (c_fu_ s x) = c_pa s := (rfl)
theorem c_lf_fu (s : zC) (x : Int32) : c_lf (c_fu_ s x) = c_lf s := (rfl)
theorem c_cp_go (s : zC) (x : Int32) : c_cp (c_go_ s x) = c_cp s := (rfl)
theorem c_hi_go (s : zC) (x : Int32) : c_hi (c_go_ s x) = c_hi s := (rfl)
theorem c_jb_go (s : zC) (x : Int32) : c_jb (c_go_ s x) = c_jb s := (rfl)
theorem c_st_go (s : zC) (x : Int32) : c_st (c_go_ s x) = c_st s := (rfl)
theorem c_fu_go (s : zC) (x : Int32) : c_fu (c_go_ s x) = c_fu s := (rfl)
theorem c_go_go (s : zC) (x : Int32) : c_go (c_go_ s x) = x := (rfl)
theorem c_fr_go (s : zC) (x : Int32) : c_fr (c_go_ s x) = c_fr s := (rfl)
theorem c_up_go (s : zC) (x : Int32) : c_up (c_go_ s x) = c_up s := (rfl)
theorem c_wa_go (s : zC) (x : Int32) : c_wa (c_go_ s x) = c_wa s := (rfl)
theorem c_re_go (s : zC) (x : Int32) : c_re (c_go_ s x) = c_re s := (rfl)
theorem c_fo_go (s : zC) (x : Int32) : c_fo (c_go_ s x) = c_fo s := (rfl)
theorem c_op_go (s : zC) (x : Int32) : c_op (c_go_ s x) = c_op s := (rfl)
theorem c_an_go (s : zC) (x : Int32) : c_an (c_go_ s x) = c_an s := (rfl)
theorem c_sg_go (s : zC) (x : Int32) : c_sg (c_go_ s x) = c_sg s := (rfl)
theorem c_pa_go (s : zC) (x : Int32) : c_pa (c_go_ s x) = c_pa s := (rfl)
theorem c_lf_go (s : zC) (x : Int32) : c_lf (c_go_ s x) = c_lf s := (rfl)
theorem c_cp_fr (s : zC) (x : Int32) : c_cp (c_fr_ s x) = c_cp s := (rfl)
theorem c_hi_fr (s : zC) (x : Int32) : c_hi (c_fr_ s x) = c_hi s := (rfl)
theorem c_jb_fr (s : zC) (x : Int32) : c_jb (c_fr_ s x) = c_jb s := (rfl)
theorem c_st_fr (s : zC) (x : Int32) : c_st (c_fr_ s x) = c_st s := (rfl)
theorem c_fu_fr (s : zC) (x : Int32) : c_fu (c_fr_ s x) = c_fu s := (rfl)
theorem c_go_fr (s : zC) (x : Int32) : c_go (c_fr_ s x) = c_go s := (rfl)
theorem c_fr_fr (s : zC) (x : Int32) : c_fr (c_fr_ s x) = x := (rfl)
theorem c_up_fr (s : zC) (x : Int32) : c_up (c_fr_ s x) = c_up s := (rfl)
theorem c_wa_fr (s : zC) (x : Int32) : c_wa (c_fr_ s x) = c_wa s := (rfl)
theorem c_re_fr (s : zC) (x : Int32) : c_re (c_fr_ s x) = c_re s := (rfl)
theorem c_fo_fr (s : zC) (x : Int32) : c_fo (c_fr_ s x) = c_fo s := (rfl)
theorem c_op_fr (s : zC) (x : Int32) : c_op (c_fr_ s x) = c_op s := (rfl)
theorem c_an_fr (s : zC) (x : Int32) : c_an (c_fr_ s x) = c_an s := (rfl)
theorem c_sg_fr (s : zC) (x : Int32) : c_sg (c_fr_ s x) = c_sg s := (rfl)
theorem c_pa_fr (s : zC) (x : Int32) : c_pa (c_fr_ s x) = c_pa s := (rfl)
theorem c_lf_fr (s : zC) (x : Int32) : c_lf (c_fr_ s x) = c_lf s := (rfl)
theorem c_cp_up (s : zC) (x : Int32) : c_cp (c_up_ s x) = c_cp s := (rfl)
theorem c_hi_up (s : zC) (x : Int32) : c_hi (c_up_ s x) = c_hi s := (rfl)
theorem c_jb_up (s : zC) (x : Int32) : c_jb (c_up_ s x) = c_jb s := (rfl)
theorem c_st_up (s : zC) (x : Int32) : c_st (c_up_ s x) = c_st s := (rfl)
theorem c_fu_up (s : zC) (x : Int32) : c_fu (c_up_ s x) = c_fu s := (rfl)
theorem c_go_up (s : zC) (x : Int32) : c_go (c_up_ s x) = c_go s := (rfl)
theorem c_fr_up (s : zC) (x : Int32) : c_fr (c_up_ s x) = c_fr s := (rfl)
theorem c_up_up (s : zC) (x : Int32) : c_up (c_up_ s x) = x := (rfl)
theorem c_wa_up (s : zC) (x : Int32) : c_wa (c_up_ s x) = c_wa s := (rfl)
theorem c_re_up (s : zC) (x : Int32) : c_re (c_up_ s x) = c_re s := (rfl)
theorem c_fo_up (s : zC) (x : Int32) : c_fo (c_up_ s x) = c_fo s := (rfl)
theorem c_op_up (s : zC) (x : Int32) : c_op (c_up_ s x) = c_op s := (rfl)
theorem c_an_up (s : zC) (x : Int32) : c_an (c_up_ s x) = c_an s := (rfl)
theorem c_sg_up (s : zC) (x : Int32) : c_sg (c_up_ s x) = c_sg s := (rfl)
theorem c_pa_up (s : zC) (x : Int32) : c_pa (c_up_ s x) = c_pa s := (rfl)
theorem c_lf_up (s : zC) (x : Int32) : c_lf (c_up_ s x) = c_lf s := (rfl)
theorem c_cp_wa (s : zC) (x : Int32) : c_cp (c_wa_ s x) = c_cp s := (rfl)
theorem c_hi_wa (s : zC) (x : Int32) : c_hi (c_wa_ s x) = c_hi s := (rfl)
theorem c_jb_wa (s : zC) (x : Int32) : c_jb (c_wa_ s x) = c_jb s := (rfl)
theorem c_st_wa (s : zC) (x : Int32) : c_st (c_wa_ s x) = c_st s := (rfl)
theorem c_fu_wa (s : zC) (x : Int32) : c_fu (c_wa_ s x) = c_fu s := (rfl)
theorem c_go_wa (s : zC) (x : Int32) : c_go (c_wa_ s x) = c_go s := (rfl)
theorem c_fr_wa (s : zC) (x : Int32) : c_fr (c_wa_ s x) = c_fr s := (rfl)
theorem c_up_wa (s : zC) (x : Int32) : c_up (c_wa_ s x) = c_up s := (rfl)
theorem c_wa_wa (s : zC) (x : Int32) : c_wa (c_wa_ s x) = x := (rfl)
theorem c_re_wa (s : zC) (x : Int32) : c_re (c_wa_ s x) = c_re s := (rfl)
theorem c_fo_wa (s : zC) (x : Int32) : c_fo (c_wa_ s x) = c_fo s := (rfl)
theorem c_op_wa (s : zC) (x : Int32) : c_op (c_wa_ s x) = c_op s := (rfl)
theorem c_an_wa (s : zC) (x : Int32) : c_an (c_wa_ s x) = c_an s := (rfl)
theorem c_sg_wa (s : zC) (x : Int32) : c_sg (c_wa_ s x) = c_sg s := (rfl)
theorem c_pa_wa (s : zC) (x : Int32) : c_pa (c_wa_ s x) = c_pa s := (rfl)
theorem c_lf_wa (s : zC) (x : Int32) : c_lf (c_wa_ s x) = c_lf s := (rfl)
theorem c_cp_re (s : zC) (x : Int32) : c_cp (c_re_ s x) = c_cp s := (rfl)
theorem c_hi_re (s : zC) (x : Int32) : c_hi (c_re_ s x) = c_hi s := (rfl)
theorem c_jb_re (s : zC) (x : Int32) : c_jb (c_re_ s x) = c_jb s := (rfl)
theorem c_st_re (s : zC) (x : Int32) : c_st (c_re_ s x) = c_st s := (rfl)
theorem c_fu_re (s : zC) (x : Int32) : c_fu (c_re_ s x) = c_fu s := (rfl)
theorem c_go_re (s : zC) (x : Int32) : c_go (c_re_ s x) = c_go s := (rfl)
theorem c_fr_re (s : zC) (x : Int32) : c_fr (c_re_ s x) = c_fr s := (rfl)
theorem c_up_re (s : zC) (x : Int32) : c_up (c_re_ s x) = c_up s := (rfl)
theorem c_wa_re (s : zC) (x : Int32) : c_wa (c_re_ s x) = c_wa s := (rfl)
theorem c_re_re (s : zC) (x : Int32) : c_re (c_re_ s x) = x := (rfl)
theorem c_fo_re (s : zC) (x : Int32) : c_fo (c_re_ s x) = c_fo s := (rfl)
theorem c_op_re (s : zC) (x : Int32) : c_op (c_re_ s x) = c_op s := (rfl)
theorem c_an_re (s : zC) (x : Int32) : c_an (c_re_ s x) = c_an s := (rfl)
theorem c_sg_re (s : zC) (x : Int32) : c_sg (c_re_ s x) = c_sg s := (rfl)
theorem c_pa_re (s : zC) (x : Int32) : c_pa (c_re_ s x) = c_pa s := (rfl)
theorem c_lf_re (s : zC) (x : Int32) : c_lf (c_re_ s x) = c_lf s := (rfl)
theorem c_cp_fo (s : zC) (x : Bool) : c_cp (c_fo_ s x) = c_cp s := (rfl)
theorem c_hi_fo (s : zC) (x : Bool) : c_hi (c_fo_ s x) = c_hi s := (rfl)
theorem c_jb_fo (s : zC) (x : Bool) : c_jb (c_fo_ s x) = c_jb s := (rfl)
theorem c_st_fo (s : zC) (x : Bool) : c_st (c_fo_ s x) = c_st s := (rfl)
theorem c_fu_fo (s : zC) (x : Bool) : c_fu (c_fo_ s x) = c_fu s := (rfl)
theorem c_go_fo (s : zC) (x : Bool) : c_go (c_fo_ s x) = c_go s := (rfl)
theorem c_fr_fo (s : zC) (x : Bool) : c_fr (c_fo_ s x) = c_fr s := (rfl)
theorem c_up_fo (s : zC) (x : Bool) : c_up (c_fo_ s x) = c_up s := (rfl)
theorem c_wa_fo (s : zC) (x : Bool) : c_wa (c_fo_ s x) = c_wa s := (rfl)
theorem c_re_fo (s : zC) (x : Bool) : c_re (c_fo_ s x) = c_re s := (rfl)
theorem c_fo_fo (s : zC) (x : Bool) : c_fo (c_fo_ s x) = x := (rfl)
theorem c_op_fo (s : zC) (x : Bool) : c_op (c_fo_ s x) = c_op s := (rfl)
theorem c_an_fo (s : zC) (x : Bool) : c_an (c_fo_ s x) = c_an s := (rfl)
theorem c_sg_fo (s : zC) (x : Bool) : c_sg (c_fo_ s x) = c_sg s := (rfl)
theorem c_pa_fo (s : zC) (x : Bool) : c_pa (c_fo_ s x) = c_pa s := (rfl)
theorem c_lf_fo (s : zC) (x : Bool) : c_lf (c_fo_ s x) = c_lf s := (rfl)
theorem c_cp_op (s : zC) (x : Nat) : c_cp (c_op_ s x) = c_cp s := (rfl)
theorem c_hi_op (s : zC) (x : Nat) : c_hi (c_op_ s x) = c_hi s := (rfl)
theorem c_jb_op (s : zC) (x : Nat) : c_jb (c_op_ s x) = c_jb s := (rfl)
theorem c_st_op (s : zC) (x : Nat) : c_st (c_op_ s x) = c_st s := (rfl)
theorem c_fu_op (s : zC) (x : Nat) : c_fu (c_op_ s x) = c_fu s := (rfl)
theorem c_go_op (s : zC) (x : Nat) : c_go (c_op_ s x) = c_go s := (rfl)
theorem c_fr_op (s : zC) (x : Nat) : c_fr (c_op_ s x) = c_fr s := (rfl)
theorem c_up_op (s : zC) (x : Nat) : c_up (c_op_ s x) = c_up s := (rfl)
theorem c_wa_op (s : zC) (x : Nat) : c_wa (c_op_ s x) = c_wa s := (rfl)
theorem c_re_op (s : zC) (x : Nat) : c_re (c_op_ s x) = c_re s := (rfl)
theorem c_fo_op (s : zC) (x : Nat) : c_fo (c_op_ s x) = c_fo s := (rfl)
theorem c_op_op (s : zC) (x : Nat) : c_op (c_op_ s x) = x := (rfl)
theorem c_an_op (s : zC) (x : Nat) : c_an (c_op_ s x) = c_an s := (rfl)
theorem c_sg_op (s : zC) (x : Nat) : c_sg (c_op_ s x) = c_sg s := (rfl)
theorem c_pa_op (s : zC) (x : Nat) : c_pa (c_op_ s x) = c_pa s := (rfl)
theorem c_lf_op (s : zC) (x : Nat) : c_lf (c_op_ s x) = c_lf s := (rfl)
theorem c_cp_an (s : zC) (x : Nat → Bool) : c_cp (c_an_ s x) = c_cp s := (rfl)
theorem c_hi_an (s : zC) (x : Nat → Bool) : c_hi (c_an_ s x) = c_hi s := (rfl)
theorem c_jb_an (s : zC) (x : Nat → Bool) : c_jb (c_an_ s x) = c_jb s := (rfl)
theorem c_st_an (s : zC) (x : Nat → Bool) : c_st (c_an_ s x) = c_st s := (rfl)
theorem c_fu_an (s : zC) (x : Nat → Bool) : c_fu (c_an_ s x) = c_fu s := (rfl)
theorem c_go_an (s : zC) (x : Nat → Bool) : c_go (c_an_ s x) = c_go s := (rfl)
theorem c_fr_an (s : zC) (x : Nat → Bool) : c_fr (c_an_ s x) = c_fr s := (rfl)
theorem c_up_an (s : zC) (x : Nat → Bool) : c_up (c_an_ s x) = c_up s := (rfl)
theorem c_wa_an (s : zC) (x : Nat → Bool) : c_wa (c_an_ s x) = c_wa s := (rfl)
theorem c_re_an (s : zC) (x : Nat → Bool) : c_re (c_an_ s x) = c_re s := (rfl)
theorem c_fo_an (s : zC) (x : Nat → Bool) : c_fo (c_an_ s x) = c_fo s := (rfl)
theorem c_op_an (s : zC) (x : Nat → Bool) : c_op (c_an_ s x) = c_op s := (rfl)
theorem c_an_an (s : zC) (x : Nat → Bool) : c_an (c_an_ s x) = x := (rfl)
theorem c_sg_an (s : zC) (x : Nat → Bool) : c_sg (c_an_ s x) = c_sg s := (rfl)
theorem c_pa_an (s : zC) (x : Nat → Bool) : c_pa (c_an_ s x) = c_pa s := (rfl)
theorem c_lf_an (s : zC) (x : Nat → Bool) : c_lf (c_an_ s x) = c_lf s := (rfl)
theorem c_cp_sg (s : zC) (x : Int32) : c_cp (c_sg_ s x) = c_cp s := (rfl)
theorem c_hi_sg (s : zC) (x : Int32) : c_hi (c_sg_ s x) = c_hi s := (rfl)
theorem c_jb_sg (s : zC) (x : Int32) : c_jb (c_sg_ s x) = c_jb s := (rfl)
theorem c_st_sg (s : zC) (x : Int32) : c_st (c_sg_ s x) = c_st s := (rfl)
theorem c_fu_sg (s : zC) (x : Int32) : c_fu (c_sg_ s x) = c_fu s := (rfl)
theorem c_go_sg (s : zC) (x : Int32) : c_go (c_sg_ s x) = c_go s := (rfl)
theorem c_fr_sg (s : zC) (x : Int32) : c_fr (c_sg_ s x) = c_fr s := (rfl)
theorem c_up_sg (s : zC) (x : Int32) : c_up (c_sg_ s x) = c_up s := (rfl)
theorem c_wa_sg (s : zC) (x : Int32) : c_wa (c_sg_ s x) = c_wa s := (rfl)
theorem c_re_sg (s : zC) (x : Int32) : c_re (c_sg_ s x) = c_re s := (rfl)
theorem c_fo_sg (s : zC) (x : Int32) : c_fo (c_sg_ s x) = c_fo s := (rfl)
theorem c_op_sg (s : zC) (x : Int32) : c_op (c_sg_ s x) = c_op s := (rfl)
theorem c_an_sg (s : zC) (x : Int32) : c_an (c_sg_ s x) = c_an s := (rfl)
theorem c_sg_sg (s : zC) (x : Int32) : c_sg (c_sg_ s x) = x := (rfl)
theorem c_pa_sg (s : zC) (x : Int32) : c_pa (c_sg_ s x) = c_pa s := (rfl)
theorem c_lf_sg (s : zC) (x : Int32) : c_lf (c_sg_ s x) = c_lf s := (rfl)
theorem c_cp_pa (s : zC) (x : List Nat) : c_cp (c_pa_ s x) = c_cp s := (rfl)
theorem c_hi_pa (s : zC) (x : List Nat) : c_hi (c_pa_ s x) = c_hi s := (rfl)
theorem c_jb_pa (s : zC) (x : List Nat) : c_jb (c_pa_ s x) = c_jb s := (rfl)
theorem c_st_pa (s : zC) (x : List Nat) : c_st (c_pa_ s x) = c_st s := (rfl)
theorem c_fu_pa (s : zC) (x : List Nat) : c_fu (c_pa_ s x) = c_fu s := (rfl)
theorem c_go_pa (s : zC) (x : List Nat) : c_go (c_pa_ s x) = c_go s := (rfl)
theorem c_fr_pa (s : zC) (x : List Nat) : c_fr (c_pa_ s x) = c_fr s := (rfl)
theorem c_up_pa (s : zC) (x : List Nat) : c_up (c_pa_ s x) = c_up s := (rfl)
theorem c_wa_pa (s : zC) (x : List Nat) : c_wa (c_pa_ s x) = c_wa s := (rfl)
theorem c_re_pa (s : zC) (x : List Nat) : c_re (c_pa_ s x) = c_re s := (rfl)
theorem c_fo_pa (s : zC) (x : List Nat) : c_fo (c_pa_ s x) = c_fo s := (rfl)
theorem c_op_pa (s : zC) (x : List Nat) : c_op (c_pa_ s x) = c_op s := (rfl)
theorem c_an_pa (s : zC) (x : List Nat) : c_an (c_pa_ s x) = c_an s := (rfl)
theorem c_sg_pa (s : zC) (x : List Nat) : c_sg (c_pa_ s x) = c_sg s := (rfl)
theorem c_pa_pa (s : zC) (x : List Nat) : c_pa (c_pa_ s x) = x := (rfl)
theorem c_lf_pa (s : zC) (x : List Nat) : c_lf (c_pa_ s x) = c_lf s := (rfl)
theorem c_cp_lf (s : zC) (x : List (Nat × Int32)) : c_cp (c_lf_ s x) = c_cp s := (rfl)
theorem c_hi_lf (s : zC) (x : List (Nat × Int32)) : c_hi (c_lf_ s x) = c_hi s := (rfl)
theorem c_jb_lf (s : zC) (x : List (Nat × Int32)) : c_jb (c_lf_ s x) = c_jb s := (rfl)
theorem c_st_lf (s : zC) (x : List (Nat × Int32)) : c_st (c_lf_ s x) = c_st s := (rfl)
theorem c_fu_lf (s : zC) (x : List (Nat × Int32)) : c_fu (c_lf_ s x) = c_fu s := (rfl)
theorem c_go_lf (s : zC) (x : List (Nat × Int32)) : c_go (c_lf_ s x) = c_go s := (rfl)
theorem c_fr_lf (s : zC) (x : List (Nat × Int32)) : c_fr (c_lf_ s x) = c_fr s := (rfl)
theorem c_up_lf (s : zC) (x : List (Nat × Int32)) : c_up (c_lf_ s x) = c_up s := (rfl)
theorem c_wa_lf (s : zC) (x : List (Nat × Int32)) : c_wa (c_lf_ s x) = c_wa s := (rfl)
theorem c_re_lf (s : zC) (x : List (Nat × Int32)) : c_re (c_lf_ s x) = c_re s := (rfl)
theorem c_fo_lf (s : zC) (x : List (Nat × Int32)) : c_fo (c_lf_ s x) = c_fo s := (rfl)
theorem c_op_lf (s : zC) (x : List (Nat × Int32)) : c_op (c_lf_ s x) = c_op s := (rfl)
theorem c_an_lf (s : zC) (x : List (Nat × Int32)) : c_an (c_lf_ s x) = c_an s := (rfl)
theorem c_sg_lf (s : zC) (x : List (Nat × Int32)) : c_sg (c_lf_ s x) = c_sg s := (rfl)
theorem c_pa_lf (s : zC) (x : List (Nat × Int32)) : c_pa (c_lf_ s x) = c_pa s := (rfl)
theorem c_lf_lf (s : zC) (x : List (Nat × Int32)) : c_lf (c_lf_ s x) = x := (rfl)
theorem c_ext {s s2 : zC} (e0 : c_cp s = c_cp s2) (e1 : c_hi s = c_hi s2) (e2 : c_jb s = c_jb s2) (e3 : c_st s = c_st s2) (e4 : c_fu s = c_fu s2) (e5 : c_go s = c_go s2) (e6 : c_fr s = c_fr s2) (e7 : c_up s = c_up s2) (e8 : c_wa s = c_wa s2) (e9 : c_re s = c_re s2) (e10 : c_fo s = c_fo s2) (e11 : c_op s = c_op s2) (e12 : c_an s = c_an s2) (e13 : c_sg s = c_sg s2) (e14 : c_pa s = c_pa s2) (e15 : c_lf s = c_lf s2) : s = s2 := by
  obtain ⟨a0, a1, a2, a3, a4, a5, a6, a7, a8, a9, a10, a11, a12, a13, a14, a15⟩ := s
  obtain ⟨b0, b1, b2, b3, b4, b5, b6, b7, b8, b9, b10, b11, b12, b13, b14, b15⟩ := s2
  simp only [c_cp, c_hi, c_jb, c_st, c_fu, c_go, c_fr, c_up, c_wa, c_re, c_fo, c_op, c_an, c_sg, c_pa, c_lf] at *
  subst e0 e1 e2 e3 e4 e5 e6 e7 e8 e9 e10 e11 e12 e13 e14 e15
  rfl
abbrev zS : Type := (Nat → Bool) × (Nat → Int32 × zN) × (Nat → Nat) × Nat × (Nat → Nat) × (Nat → List zI) × (Nat → Nat → Int32) × List zM × (Nat → zC)
def s_dn (s : zS) : Nat → Bool := s.1
def s_ce (s : zS) : Nat → Int32 × zN := s.2.1
def s_lk (s : zS) : Nat → Nat := s.2.2.1
def s_bg (s : zS) : Nat := s.2.2.2.1
def s_tc (s : zS) : Nat → Nat := s.2.2.2.2.1
def s_ti (s : zS) : Nat → List zI := s.2.2.2.2.2.1
def s_rm (s : zS) : Nat → Nat → Int32 := s.2.2.2.2.2.2.1
def s_ms (s : zS) : List zM := s.2.2.2.2.2.2.2.1
def s_cl (s : zS) : Nat → zC := s.2.2.2.2.2.2.2.2
def s_dn_ (s : zS) (x : Nat → Bool) : zS := (x, s_ce s, s_lk s, s_bg s, s_tc s, s_ti s, s_rm s, s_ms s, s_cl s)
def s_ce_ (s : zS) (x : Nat → Int32 × zN) : zS := (s_dn s, x, s_lk s, s_bg s, s_tc s, s_ti s, s_rm s, s_ms s, s_cl s)
def s_lk_ (s : zS) (x : Nat → Nat) : zS := (s_dn s, s_ce s, x, s_bg s, s_tc s, s_ti s, s_rm s, s_ms s, s_cl s)
def s_bg_ (s : zS) (x : Nat) : zS := (s_dn s, s_ce s, s_lk s, x, s_tc s, s_ti s, s_rm s, s_ms s, s_cl s)
def s_tc_ (s : zS) (x : Nat → Nat) : zS := (s_dn s, s_ce s, s_lk s, s_bg s, x, s_ti s, s_rm s, s_ms s, s_cl s)
def s_ti_ (s : zS) (x : Nat → List zI) : zS := (s_dn s, s_ce s, s_lk s, s_bg s, s_tc s, x, s_rm s, s_ms s, s_cl s)
def s_rm_ (s : zS) (x : Nat → Nat → Int32) : zS := (s_dn s, s_ce s, s_lk s, s_bg s, s_tc s, s_ti s, x, s_ms s, s_cl s)
def s_ms_ (s : zS) (x : List zM) : zS := (s_dn s, s_ce s, s_lk s, s_bg s, s_tc s, s_ti s, s_rm s, x, s_cl s)
def s_cl_ (s : zS) (x : Nat → zC) : zS := (s_dn s, s_ce s, s_lk s, s_bg s, s_tc s, s_ti s, s_rm s, s_ms s, x)
theorem s_dn_dn (s : zS) (x : Nat → Bool) : s_dn (s_dn_ s x) = x := (rfl)
theorem s_ce_dn (s : zS) (x : Nat → Bool) : s_ce (s_dn_ s x) = s_ce s := (rfl)
theorem s_lk_dn (s : zS) (x : Nat → Bool) : s_lk (s_dn_ s x) = s_lk s := (rfl)
theorem s_bg_dn (s : zS) (x : Nat → Bool) : s_bg (s_dn_ s x) = s_bg s := (rfl)
theorem s_tc_dn (s : zS) (x : Nat → Bool) : s_tc (s_dn_ s x) = s_tc s := (rfl)
theorem s_ti_dn (s : zS) (x : Nat → Bool) : s_ti (s_dn_ s x) = s_ti s := (rfl)
theorem s_rm_dn (s : zS) (x : Nat → Bool) : s_rm (s_dn_ s x) = s_rm s := (rfl)
theorem s_ms_dn (s : zS) (x : Nat → Bool) : s_ms (s_dn_ s x) = s_ms s := (rfl)
theorem s_cl_dn (s : zS) (x : Nat → Bool) : s_cl (s_dn_ s x) = s_cl s := (rfl)
theorem s_dn_ce (s : zS) (x : Nat → Int32 × zN) : s_dn (s_ce_ s x) = s_dn s := (rfl)
theorem s_ce_ce (s : zS) (x : Nat → Int32 × zN) : s_ce (s_ce_ s x) = x := (rfl)
theorem s_lk_ce (s : zS) (x : Nat → Int32 × zN) : s_lk (s_ce_ s x) = s_lk s := (rfl)
theorem s_bg_ce (s : zS) (x : Nat → Int32 × zN) : s_bg (s_ce_ s x) = s_bg s := (rfl)
theorem s_tc_ce (s : zS) (x : Nat → Int32 × zN) : s_tc (s_ce_ s x) = s_tc s := (rfl)
theorem s_ti_ce (s : zS) (x : Nat → Int32 × zN) : s_ti (s_ce_ s x) = s_ti s := (rfl)
theorem s_rm_ce (s : zS) (x : Nat → Int32 × zN) : s_rm (s_ce_ s x) = s_rm s := (rfl)
theorem s_ms_ce (s : zS) (x : Nat → Int32 × zN) : s_ms (s_ce_ s x) = s_ms s := (rfl)
theorem s_cl_ce (s : zS) (x : Nat → Int32 × zN) : s_cl (s_ce_ s x) = s_cl s := (rfl)
theorem s_dn_lk (s : zS) (x : Nat → Nat) : s_dn (s_lk_ s x) = s_dn s := (rfl)
theorem s_ce_lk (s : zS) (x : Nat → Nat) : s_ce (s_lk_ s x) = s_ce s := (rfl)
theorem s_lk_lk (s : zS) (x : Nat → Nat) : s_lk (s_lk_ s x) = x := (rfl)
theorem s_bg_lk (s : zS) (x : Nat → Nat) : s_bg (s_lk_ s x) = s_bg s := (rfl)
theorem s_tc_lk (s : zS) (x : Nat → Nat) : s_tc (s_lk_ s x) = s_tc s := (rfl)
theorem s_ti_lk (s : zS) (x : Nat → Nat) : s_ti (s_lk_ s x) = s_ti s := (rfl)
theorem s_rm_lk (s : zS) (x : Nat → Nat) : s_rm (s_lk_ s x) = s_rm s := (rfl)
theorem s_ms_lk (s : zS) (x : Nat → Nat) : s_ms (s_lk_ s x) = s_ms s := (rfl)
theorem s_cl_lk (s : zS) (x : Nat → Nat) : s_cl (s_lk_ s x) = s_cl s := (rfl)
theorem s_dn_bg (s : zS) (x : Nat) : s_dn (s_bg_ s x) = s_dn s := (rfl)
theorem s_ce_bg (s : zS) (x : Nat) : s_ce (s_bg_ s x) = s_ce s := (rfl)
theorem s_lk_bg (s : zS) (x : Nat) : s_lk (s_bg_ s x) = s_lk s := (rfl)
theorem s_bg_bg (s : zS) (x : Nat) : s_bg (s_bg_ s x) = x := (rfl)
theorem s_tc_bg (s : zS) (x : Nat) : s_tc (s_bg_ s x) = s_tc s := (rfl)
theorem s_ti_bg (s : zS) (x : Nat) : s_ti (s_bg_ s x) = s_ti s := (rfl)
theorem s_rm_bg (s : zS) (x : Nat) : s_rm (s_bg_ s x) = s_rm s := (rfl)
theorem s_ms_bg (s : zS) (x : Nat) : s_ms (s_bg_ s x) = s_ms s := (rfl)
theorem s_cl_bg (s : zS) (x : Nat) : s_cl (s_bg_ s x) = s_cl s := (rfl)
theorem s_dn_tc (s : zS) (x : Nat → Nat) : s_dn (s_tc_ s x) = s_dn s := (rfl)
theorem s_ce_tc (s : zS) (x : Nat → Nat) : s_ce (s_tc_ s x) = s_ce s := (rfl)
theorem s_lk_tc (s : zS) (x : Nat → Nat) : s_lk (s_tc_ s x) = s_lk s := (rfl)
theorem s_bg_tc (s : zS) (x : Nat → Nat) : s_bg (s_tc_ s x) = s_bg s := (rfl)
theorem s_tc_tc (s : zS) (x : Nat → Nat) : s_tc (s_tc_ s x) = x := (rfl)
theorem s_ti_tc (s : zS) (x : Nat → Nat) : s_ti (s_tc_ s x) = s_ti s := (rfl)
theorem s_rm_tc (s : zS) (x : Nat → Nat) : s_rm (s_tc_ s x) = s_rm s := (rfl)
theorem s_ms_tc (s : zS) (x : Nat → Nat) : s_ms (s_tc_ s x) = s_ms s := (rfl)
theorem s_cl_tc (s : zS) (x : Nat → Nat) : s_cl (s_tc_ s x) = s_cl s := (rfl)
theorem s_dn_ti (s : zS) (x : Nat → List zI) : s_dn (s_ti_ s x) = s_dn s := (rfl)
theorem s_ce_ti (s : zS) (x : Nat → List zI) : s_ce (s_ti_ s x) = s_ce s := (rfl)
theorem s_lk_ti (s : zS) (x : Nat → List zI) : s_lk (s_ti_ s x) = s_lk s := (rfl)
theorem s_bg_ti (s : zS) (x : Nat → List zI) : s_bg (s_ti_ s x) = s_bg s := (rfl)
theorem s_tc_ti (s : zS) (x : Nat → List zI) : s_tc (s_ti_ s x) = s_tc s := (rfl)
theorem s_ti_ti (s : zS) (x : Nat → List zI) : s_ti (s_ti_ s x) = x := (rfl)
theorem s_rm_ti (s : zS) (x : Nat → List zI) : s_rm (s_ti_ s x) = s_rm s := (rfl)
theorem s_ms_ti (s : zS) (x : Nat → List zI) : s_ms (s_ti_ s x) = s_ms s := (rfl)
theorem s_cl_ti (s : zS) (x : Nat → List zI) : s_cl (s_ti_ s x) = s_cl s := (rfl)
theorem s_dn_rm (s : zS) (x : Nat → Nat → Int32) : s_dn (s_rm_ s x) = s_dn s := (rfl)
theorem s_ce_rm (s : zS) (x : Nat → Nat → Int32) : s_ce (s_rm_ s x) = s_ce s := (rfl)
theorem s_lk_rm (s : zS) (x : Nat → Nat → Int32) : s_lk (s_rm_ s x) = s_lk s := (rfl)
theorem s_bg_rm (s : zS) (x : Nat → Nat → Int32) : s_bg (s_rm_ s x) = s_bg s := (rfl)
theorem s_tc_rm (s : zS) (x : Nat → Nat → Int32) : s_tc (s_rm_ s x) = s_tc s := (rfl)
theorem s_ti_rm (s : zS) (x : Nat → Nat → Int32) : s_ti (s_rm_ s x) = s_ti s := (rfl)
theorem s_rm_rm (s : zS) (x : Nat → Nat → Int32) : s_rm (s_rm_ s x) = x := (rfl)
theorem s_ms_rm (s : zS) (x : Nat → Nat → Int32) : s_ms (s_rm_ s x) = s_ms s := (rfl)
theorem s_cl_rm (s : zS) (x : Nat → Nat → Int32) : s_cl (s_rm_ s x) = s_cl s := (rfl)
theorem s_dn_ms (s : zS) (x : List zM) : s_dn (s_ms_ s x) = s_dn s := (rfl)
theorem s_ce_ms (s : zS) (x : List zM) : s_ce (s_ms_ s x) = s_ce s := (rfl)
theorem s_lk_ms (s : zS) (x : List zM) : s_lk (s_ms_ s x) = s_lk s := (rfl)
theorem s_bg_ms (s : zS) (x : List zM) : s_bg (s_ms_ s x) = s_bg s := (rfl)
theorem s_tc_ms (s : zS) (x : List zM) : s_tc (s_ms_ s x) = s_tc s := (rfl)
theorem s_ti_ms (s : zS) (x : List zM) : s_ti (s_ms_ s x) = s_ti s := (rfl)
theorem s_rm_ms (s : zS) (x : List zM) : s_rm (s_ms_ s x) = s_rm s := (rfl)
theorem s_ms_ms (s : zS) (x : List zM) : s_ms (s_ms_ s x) = x := (rfl)
theorem s_cl_ms (s : zS) (x : List zM) : s_cl (s_ms_ s x) = s_cl s := (rfl)
theorem s_dn_cl (s : zS) (x : Nat → zC) : s_dn (s_cl_ s x) = s_dn s := (rfl)
theorem s_ce_cl (s : zS) (x : Nat → zC) : s_ce (s_cl_ s x) = s_ce s := (rfl)
theorem s_lk_cl (s : zS) (x : Nat → zC) : s_lk (s_cl_ s x) = s_lk s := (rfl)
theorem s_bg_cl (s : zS) (x : Nat → zC) : s_bg (s_cl_ s x) = s_bg s := (rfl)
theorem s_tc_cl (s : zS) (x : Nat → zC) : s_tc (s_cl_ s x) = s_tc s := (rfl)
theorem s_ti_cl (s : zS) (x : Nat → zC) : s_ti (s_cl_ s x) = s_ti s := (rfl)
theorem s_rm_cl (s : zS) (x : Nat → zC) : s_rm (s_cl_ s x) = s_rm s := (rfl)
theorem s_ms_cl (s : zS) (x : Nat → zC) : s_ms (s_cl_ s x) = s_ms s := (rfl)
theorem s_cl_cl (s : zS) (x : Nat → zC) : s_cl (s_cl_ s x) = x := (rfl)
theorem s_ext {s s2 : zS} (e0 : s_dn s = s_dn s2) (e1 : s_ce s = s_ce s2) (e2 : s_lk s = s_lk s2) (e3 : s_bg s = s_bg s2) (e4 : s_tc s = s_tc s2) (e5 : s_ti s = s_ti s2) (e6 : s_rm s = s_rm s2) (e7 : s_ms s = s_ms s2) (e8 : s_cl s = s_cl s2) : s = s2 := by
  obtain ⟨a0, a1, a2, a3, a4, a5, a6, a7, a8⟩ := s
  obtain ⟨b0, b1, b2, b3, b4, b5, b6, b7, b8⟩ := s2
  simp only [s_dn, s_ce, s_lk, s_bg, s_tc, s_ti, s_rm, s_ms, s_cl] at *
  subst e0 e1 e2 e3 e4 e5 e6 e7 e8
  rfl
/-- takes part -/
def tp (its : List zI) (m : Nat) : Bool := its.any (fun i => i.2.1 / 8 == m)
def sev (its : List zI) : Bool := decide (1 < (if tp its 0 then 1 else 0) + (if tp its 1 then 1 else 0) + (if tp its 2 then 1 else 0))
def isRd (its : List zI) : Bool := its.length == 1 && (its.headD (0, 0, 0, z0N)).1 == 1
def snd_ (ms : List zM) (x : zM) : List zM := if ms.length < 40 then ms ++ [x] else ms
def snd3 (P : Nat → Bool) (k : Int32) (t : Nat) (ms : List zM) : List zM :=
  let a := if P 0 then snd_ ms (k, t, 0, none) else ms
  let b := if P 1 then snd_ a (k, t, 1, none) else a
  if P 2 then snd_ b (k, t, 2, none) else b
def cnt3 (P : Nat → Bool) : Int32 := (if P 0 then 1 else 0) + (if P 1 then 1 else 0) + (if P 2 then 1 else 0)
def zfits (i : zI) (x : Int32 × zN) : Bool := if i.1 = 4 then decide (x.2.1 = 0) else decide (i.1 = 1 ∨ x.1 = i.2.2.1)
def zcan (its : List zI) (m : Nat) (lk : Nat → Nat) (ce : Nat → Int32 × zN) : Bool := its.all (fun i => !(i.2.1 / 8 == m) || (lk i.2.1 == 0 && zfits i (ce i.2.1)))
def zwr (m : Nat) (its : List zI) (ce : Nat → Int32 × zN) : Nat → Int32 × zN := its.foldl (fun ce i => if i.2.1 / 8 = m ∧ (i.1 = 3 ∨ i.1 = 4) then fset ce i.2.1 ((ce i.2.1).1 + 1, i.2.2.2) else ce) ce
def zlo (m x : Nat) (its : List zI) (lk : Nat → Nat) : Nat → Nat := its.foldl (fun lk i => if i.2.1 / 8 = m then fset lk i.2.1 x else lk) lk
/-- carry out, commit, abort at a memory node -/
def Zcarry (t m : Nat) (S : zS) : zS := s_rm_ (s_ce_ S (zwr m (s_ti S t) (s_ce S))) (fset2 (s_rm S) t m 2)
def Zlock (t m x : Nat) (S : zS) : zS := s_lk_ S (zlo m x (s_ti S t) (s_lk S))
def Zcommit (t m : Nat) (S : zS) : zS := if s_rm S t m = 1 then Zlock t m 0 (Zcarry t m S) else S
def Zabort (t m : Nat) (S : zS) : zS :=
  let A := if s_rm S t m = 1 then Zlock t m 0 S else S
  if s_rm S t m = 1 ∨ s_rm S t m = 0 then s_rm_ A (fset2 (s_rm A) t m 3) else A
/-- does a memory node accept a PREPARE, and what becomes of it -/
def Zaccept (t m : Nat) (S : zS) : Bool × zS :=
  if isRd (s_ti S t) then (s_lk S ((s_ti S t).headD (0, 0, 0, z0N)).2.1 == 0, S)
  else if s_rm S t m ≠ 0 then (decide (s_rm S t m ≠ 3), S)
  else if zcan (s_ti S t) m (s_lk S) (s_ce S) = false then (false, s_rm_ S (fset2 (s_rm S) t m 3))
  else if sev (s_ti S t) then (true, Zlock t m t (s_rm_ S (fset2 (s_rm S) t m 1)))
  else (true, Zcarry t m S)
def Zsight (t : Nat) (S : zS) : Option (Int32 × zN) := if isRd (s_ti S t) then some (s_ce S ((s_ti S t).headD (0, 0, 0, z0N)).2.1) else none
def Zsend (S : zS) (k : Int32) (t m : Nat) (x : Option (Int32 × zN)) : zS := s_ms_ S (snd_ (s_ms S) (k, t, m, x))
def Zprep (t m : Nat) (S : zS) : zS := if (Zaccept t m S).1 then Zsend (Zaccept t m S).2 2 t m (Zsight t (Zaccept t m S).2) else Zsend (Zaccept t m S).2 3 t m none
def Zreach (k : Int32) (t m : Nat) (S : zS) : zS := if k = 4 then Zcommit t m S else if k = 5 then Zabort t m S else Zprep t m S
/-- a client's steps: the client, and the transaction that it wants to begin: items and what it is for (1 look, 2 last, 3 split) -/
abbrev zD : Type := zC × Option (List zI × Int32)
def zlast (p : List Nat) : Nat := p.getD (p.length - 1) 0
def zpar (p : List Nat) : Nat := p.getD (p.length - 2) 0
def zw (cp : Nat → Option (Int32 × zN)) (put : Bool) (k : Int32) : Nat → List Nat → List Nat × Option (Int32 × zN)
  | 0, p => (p, none)
  | f + 1, p => match cp (zlast p) with
    | none => (p, none)
    | some x => if put && decide (3 ≤ x.2.2.2.2.1.length) then (p, some x) else zw cp put k f (p ++ [(zchild x.2 k).toNatClampNeg])
def znext (a : Nat) : Nat := if 23 ≤ a then 1 else a + 1
def Dsplit (c : zC) (x : Int32 × zN) : zD :=
  if (c_pa c).length = 1 then
    (c_hi_ c (znext (znext (c_hi c))), some ([(4, c_hi c, 0, zleft x.2), (4, znext (c_hi c), 0, zright x.2), (3, 0, x.1, (2, 0, 100, [zmid x.2], [Int32.ofNat (c_hi c), Int32.ofNat (znext (c_hi c))]))], 3))
  else match c_cp c (zpar (c_pa c)) with
    | none => (c_st_ c 4, none)
    | some y => (c_hi_ c (znext (c_hi c)), some ([(3, zlast (c_pa c), x.1, zleft x.2), (4, c_hi c, 0, zright x.2), (3, zpar (c_pa c), y.1, zbehind y.2 (Int32.ofNat (zlast (c_pa c))) (zmid x.2) (Int32.ofNat (c_hi c)))], 3))
def Dwalk (c : zC) : zD :=
  let r := zw (c_cp c) (c_jb c == 2) (c_go c) (24 - (c_pa c).length) (c_pa c)
  match r.2 with
  | some x => Dsplit (c_pa_ c r.1) x
  | none => if r.1.length < 24 then (c_pa_ c r.1, some ([(1, zlast r.1, 0, z0N)], 1)) else (c_st_ (c_pa_ c r.1) 4, none)
def DwalkFor (c : zC) (k : Int32) : zD := Dwalk (c_pa_ (c_go_ c k) [0])
def Cforget (c : zC) : zC := c_cp_ c (fun a => if a ∈ c_pa c then none else c_cp c a)
def Dstart (c : zC) : zD := DwalkFor (c_re_ (c_fo_ (c_lf_ c []) false) 0) (c_fr c)
def Dwrong (c : zC) : zD :=
  let d := c_fu_ (Cforget c) (c_fu c - 1)
  if 0 < c_fu c - 1 then Dstart d else (c_st_ d 4, none)
def Cdone (c : zC) : zC := c_st_ c (if c_fo c then 3 else 2)
def Dleaf (c : zC) (x : Int32 × zN) : zD :=
  let i := zidx (c_fr c) x.2.2.2.2.1
  let there := decide (i < x.2.2.2.2.1.length)
  let d := c_re_ (c_fo_ c there) (if there then x.2.2.2.2.2.getD i 0 else 0)
  if c_jb c = 2 ∧ there = false ∧ 3 ≤ x.2.2.2.2.1.length then Dsplit d x
  else if c_jb c = 2 then (d, some ([(3, zlast (c_pa c), x.1, zwith x.2 (c_fr c) (c_wa c))], 2))
  else if c_jb c = 3 ∧ there = true then (d, some ([(3, zlast (c_pa c), x.1, zwout x.2 i)], 2))
  else (Cdone d, none)
/-- found and sum over a leaf -/
def zsum (a b : Int32) : List Int32 → List Int32 → Bool × Int32 → Bool × Int32
  | k :: ks, v :: vs, x => zsum a b ks vs (if a ≤ k ∧ k ≤ b then (true, x.2 + v) else x)
  | _, _, x => x
def Dcollect (c : zC) (x : Int32 × zN) : zD :=
  if 6 ≤ (c_lf c).length then (c_st_ c 4, none)
  else
    let r := zsum (c_fr c) (c_up c) x.2.2.2.2.1 x.2.2.2.2.2 (c_fo c, c_re c)
    let d := c_re_ (c_fo_ (c_lf_ c (c_lf c ++ [(zlast (c_pa c), x.1)])) r.1) r.2
    if x.2.2.2.1 ≤ c_up c then DwalkFor d x.2.2.2.1
    else if (c_lf d).length = 1 then (Cdone d, none)
    else (d, some ((c_lf d).map (fun y => (2, y.1, y.2, z0N)), 2))
def Dlook (c : zC) (x : Int32 × zN) : zD :=
  let d := if x.2.1 = 2 then c_cp_ c (fset (c_cp c) (zlast (c_pa c)) (some x)) else c
  if x.2.2.1 ≤ c_go c ∧ c_go c < x.2.2.2.1 then
    (if x.2.1 = 2 then Dwalk d else if c_jb c = 4 then Dcollect d x else Dleaf d x)
  else Dwrong d
def Dgo (c : zC) (x : Option (Int32 × zN)) : zD :=
  match (if c_sg c = 1 then x else none) with
  | some y => Dlook c y
  | none => if c_sg c = 3 then Dstart (Cforget c) else (Cdone c, none)
/-- the transaction that a client wants is begun -/
def Zbegin (S : zS) (c : Nat) (D : zD) : zS := match D.2 with
  | none => s_cl_ S (fset (s_cl S) c D.1)
  | some (its, sg) =>
    let t := s_bg S + 1
    s_ms_ (s_ti_ (s_tc_ (s_bg_ (s_cl_ S (fset (s_cl S) c (c_sg_ (c_an_ (c_op_ D.1 t) (fun _ => false)) sg))) t) (fset (s_tc S) t c)) (fset (s_ti S) t its)) (snd3 (tp its) 1 t (s_ms S))
def Zhear (k : Int32) (t m : Nat) (x : Option (Int32 × zN)) (S : zS) : zS :=
  let c := s_tc S t
  let C := s_cl S c
  if c_op C ≠ t then S
  else if k = 3 then
    let S1 := s_ms_ S (if sev (s_ti S t) then snd3 (fun p => tp (s_ti S t) p && p != m) 5 t (s_ms S) else s_ms S)
    Zbegin S1 c (Dwrong (c_op_ C 0))
  else
    let C1 := c_an_ C (fset (c_an C) m true)
    if (!(tp (s_ti S t) 0) || c_an C1 0) && (!(tp (s_ti S t) 1) || c_an C1 1) && (!(tp (s_ti S t) 2) || c_an C1 2) then
      let S1 := s_ms_ S (if sev (s_ti S t) then snd3 (tp (s_ti S t)) 4 t (s_ms S) else s_ms S)
      Zbegin S1 c (Dgo (c_op_ C1 0) x)
    else s_cl_ S (fset (s_cl S) c C1)
def Zdeliver (i : Nat) (S : zS) : zS := match (s_ms S)[i]? with
  | none => S
  | some (k, t, m, x) =>
    let S1 := s_ms_ S ((s_ms S).eraseIdx i)
    if k = 2 ∨ k = 3 then Zhear k t m x S1 else if s_dn S m then S1 else Zreach k t m S1
/-- a piece of work -/
def Zwork (S : zS) (c : Nat) (jb a b v : Int32) : zS := Zbegin S c (Dstart (c_wa_ (c_up_ (c_fr_ (c_fu_ (c_st_ (c_jb_ (s_cl S c) jb) 1) 10) a) b) v))
def Zresend (S : zS) (c : Nat) : zS := s_ms_ S (snd3 (fun p => tp (s_ti S (c_op (s_cl S c))) p && !(c_an (s_cl S c) p)) 1 (c_op (s_cl S c)) (s_ms S))
def Zcrash (S : zS) (x : Nat) : zS := if x < 3 then s_dn_ S (fset (s_dn S) x true) else s_cl_ (s_dn_ S (fset (s_dn S) x true)) (fset (s_cl S) (x - 3) (c_cp_ (c_st_ (c_op_ (s_cl S (x - 3)) 0) 0) (fun _ => none)))
def Zrestart (S : zS) (x : Nat) : zS := s_dn_ S (fset (s_dn S) x false)
/-- the lowest transaction in doubt at m among 1..n, 0 if none -/
def zlow (rm : Nat → Nat → Int32) (m : Nat) : Nat → Nat → Nat
  | 0, _ => 0
  | f + 1, t => if rm t m = 1 then t else zlow rm m f (t + 1)
def zdec (rm : Nat → Nat → Int32) (its : List zI) (t : Nat) : Bool :=
  ((tp its 0 && rm t 0 == 2) || (tp its 1 && rm t 1 == 2) || (tp its 2 && rm t 2 == 2)) || ((!(tp its 0) || rm t 0 == 1) && (!(tp its 1) || rm t 1 == 1) && (!(tp its 2) || rm t 2 == 1))
def Zsettle1 (t m : Nat) (b : Bool) (S : zS) : zS := if tp (s_ti S t) m then (if b then Zcommit t m S else Zabort t m S) else S
def Zsettle (S : zS) (t : Nat) : zS :=
  let b := zdec (s_rm S) (s_ti S t) t
  Zsettle1 t 2 b (Zsettle1 t 1 b (Zsettle1 t 0 b S))
def Zrecover (S : zS) (m : Nat) : Nat × zS :=
  let t := zlow (s_rm S) m (s_bg S) 1
  if t = 0 ∨ (tp (s_ti S t) 0 && s_dn S 0) = true ∨ (tp (s_ti S t) 1 && s_dn S 1) = true ∨ (tp (s_ti S t) 2 && s_dn S 2) = true then (0, S) else (t, Zsettle S t)
