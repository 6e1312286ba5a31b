/-! The reference's rows. -/
def rtab : List (Nat × Nat × Nat × Nat) := [(900, 38, 102, 5), (901, 39, 103, 24), (902, 40, 100, 24), (903, 41, 100, 72), (905, 42, 100, 520), (906, 43, 100, 520), (907, 44, 100, 520), (908, 45, 101, 1560), (910, 46, 101, 1600), (911, 47, 101, 1600), (912, 48, 100, 1600), (913, 49, 103, 1600), (914, 50, 100, 4800), (916, 51, 100, 40), (917, 52, 100, 40), (918, 53, 100, 40), (919, 54, 100, 40), (920, 55, 103, 40), (921, 56, 100, 120), (922, 57, 100, 48), (923, 58, 103, 48), (924, 59, 100, 2), (925, 60, 100, 2), (926, 61, 100, 2), (927, 62, 100, 2), (928, 63, 100, 2), (929, 64, 100, 2), (930, 65, 100, 2), (931, 66, 100, 2), (932, 67, 100, 2), (933, 68, 102, 2), (934, 69, 100, 2), (935, 70, 100, 2), (936, 71, 100, 2), (937, 72, 100, 48), (938, 73, 100, 2), (939, 74, 100, 2), (940, 75, 100, 12), (941, 76, 100, 12)]
def rF (h : xv_H) : Prop := lv h 37 9 ∧ ∀ e, e ∈ rtab → Hfr h e.1 37 = some e.2.1 ∧ lv h e.2.1 e.2.2.1 ∧ Hl h e.2.1 = e.2.2.2
section RROW
variable {h h1 h2 : xv_H} {i : Nat} {x : Int32} {u : Int64}
theorem rF_vc (o : rF h) : vc 9 37 h = some ((), h) := ok_vc o.1
theorem g900 (o : rF h) : gr 900 37 h = some (some 38, h) := by rw [ok_gr o.1, (o.2 (900, 38, 102, 5) (by decide)).1]
theorem e38 (o : rF h) : lv h 38 102 ∧ Hl h 38 = 5 := (o.2 (900, 38, 102, 5) (by decide)).2
theorem l38 (o : rF h) (hi : i < 5) : lb 38 (Int32.ofNat i) h = some (Hei h 38 i, h) := by rw [ok_lz (e38 o).1 (i_nn (by omega)) (by rw [i_nat (by omega), (e38 o).2]; exact hi), i_nat (by omega)]
theorem s38 (o : rF h) (hi : i < 5) (hx : x = 0 ∨ x = 1) : sb 38 (Int32.ofNat i) x h = some ((), Uei h 38 i x) := by rw [ok_sz (e38 o).1 (i_nn (by omega)) (by rw [i_nat (by omega), (e38 o).2]; exact hi) hx, i_nat (by omega)]
theorem g901 (o : rF h) : gr 901 37 h = some (some 39, h) := by rw [ok_gr o.1, (o.2 (901, 39, 103, 24) (by decide)).1]
theorem e39 (o : rF h) : lv h 39 103 ∧ Hl h 39 = 24 := (o.2 (901, 39, 103, 24) (by decide)).2
theorem l39 (o : rF h) (hi : i < 24) : ll 39 (Int32.ofNat i) h = some (Hel h 39 i, h) := by rw [ok_ll (e39 o).1 (i_nn (by omega)) (by rw [i_nat (by omega), (e39 o).2]; exact hi), i_nat (by omega)]
theorem s39 (o : rF h) (hi : i < 24) : sl 39 (Int32.ofNat i) u h = some ((), Uel h 39 i u) := by rw [ok_sl (e39 o).1 (i_nn (by omega)) (by rw [i_nat (by omega), (e39 o).2]; exact hi), i_nat (by omega)]
theorem g902 (o : rF h) : gr 902 37 h = some (some 40, h) := by rw [ok_gr o.1, (o.2 (902, 40, 100, 24) (by decide)).1]
theorem e40 (o : rF h) : lv h 40 100 ∧ Hl h 40 = 24 := (o.2 (902, 40, 100, 24) (by decide)).2
theorem l40 (o : rF h) (hi : i < 24) : li 40 (Int32.ofNat i) h = some (Hei h 40 i, h) := by rw [ok_li (e40 o).1 (i_nn (by omega)) (by rw [i_nat (by omega), (e40 o).2]; exact hi), i_nat (by omega)]
theorem s40 (o : rF h) (hi : i < 24) : si 40 (Int32.ofNat i) x h = some ((), Uei h 40 i x) := by rw [ok_si (e40 o).1 (i_nn (by omega)) (by rw [i_nat (by omega), (e40 o).2]; exact hi), i_nat (by omega)]
theorem g903 (o : rF h) : gr 903 37 h = some (some 41, h) := by rw [ok_gr o.1, (o.2 (903, 41, 100, 72) (by decide)).1]
theorem e41 (o : rF h) : lv h 41 100 ∧ Hl h 41 = 72 := (o.2 (903, 41, 100, 72) (by decide)).2
theorem l41 (o : rF h) (hi : i < 72) : li 41 (Int32.ofNat i) h = some (Hei h 41 i, h) := by rw [ok_li (e41 o).1 (i_nn (by omega)) (by rw [i_nat (by omega), (e41 o).2]; exact hi), i_nat (by omega)]
theorem s41 (o : rF h) (hi : i < 72) : si 41 (Int32.ofNat i) x h = some ((), Uei h 41 i x) := by rw [ok_si (e41 o).1 (i_nn (by omega)) (by rw [i_nat (by omega), (e41 o).2]; exact hi), i_nat (by omega)]
theorem g905 (o : rF h) : gr 905 37 h = some (some 42, h) := by rw [ok_gr o.1, (o.2 (905, 42, 100, 520) (by decide)).1]
theorem e42 (o : rF h) : lv h 42 100 ∧ Hl h 42 = 520 := (o.2 (905, 42, 100, 520) (by decide)).2
theorem l42 (o : rF h) (hi : i < 520) : li 42 (Int32.ofNat i) h = some (Hei h 42 i, h) := by rw [ok_li (e42 o).1 (i_nn (by omega)) (by rw [i_nat (by omega), (e42 o).2]; exact hi), i_nat (by omega)]
theorem s42 (o : rF h) (hi : i < 520) : si 42 (Int32.ofNat i) x h = some ((), Uei h 42 i x) := by rw [ok_si (e42 o).1 (i_nn (by omega)) (by rw [i_nat (by omega), (e42 o).2]; exact hi), i_nat (by omega)]
theorem g906 (o : rF h) : gr 906 37 h = some (some 43, h) := by rw [ok_gr o.1, (o.2 (906, 43, 100, 520) (by decide)).1]
theorem e43 (o : rF h) : lv h 43 100 ∧ Hl h 43 = 520 := (o.2 (906, 43, 100, 520) (by decide)).2
theorem l43 (o : rF h) (hi : i < 520) : li 43 (Int32.ofNat i) h = some (Hei h 43 i, h) := by rw [ok_li (e43 o).1 (i_nn (by omega)) (by rw [i_nat (by omega), (e43 o).2]; exact hi), i_nat (by omega)]
theorem s43 (o : rF h) (hi : i < 520) : si 43 (Int32.ofNat i) x h = some ((), Uei h 43 i x) := by rw [ok_si (e43 o).1 (i_nn (by omega)) (by rw [i_nat (by omega), (e43 o).2]; exact hi), i_nat (by omega)]
theorem g907 (o : rF h) : gr 907 37 h = some (some 44, h) := by rw [ok_gr o.1, (o.2 (907, 44, 100, 520) (by decide)).1]
theorem e44 (o : rF h) : lv h 44 100 ∧ Hl h 44 = 520 := (o.2 (907, 44, 100, 520) (by decide)).2
theorem l44 (o : rF h) (hi : i < 520) : li 44 (Int32.ofNat i) h = some (Hei h 44 i, h) := by rw [ok_li (e44 o).1 (i_nn (by omega)) (by rw [i_nat (by omega), (e44 o).2]; exact hi), i_nat (by omega)]
theorem s44 (o : rF h) (hi : i < 520) : si 44 (Int32.ofNat i) x h = some ((), Uei h 44 i x) := by rw [ok_si (e44 o).1 (i_nn (by omega)) (by rw [i_nat (by omega), (e44 o).2]; exact hi), i_nat (by omega)]
theorem g908 (o : rF h) : gr 908 37 h = some (some 45, h) := by rw [ok_gr o.1, (o.2 (908, 45, 101, 1560) (by decide)).1]
theorem e45 (o : rF h) : lv h 45 101 ∧ Hl h 45 = 1560 := (o.2 (908, 45, 101, 1560) (by decide)).2
theorem l45 (o : rF h) (hi : i < 1560) : lb 45 (Int32.ofNat i) h = some (Hei h 45 i, h) := by rw [ok_lb (e45 o).1 (i_nn (by omega)) (by rw [i_nat (by omega), (e45 o).2]; exact hi), i_nat (by omega)]
theorem s45 (o : rF h) (hi : i < 1560) (hx : x.toInt8.toInt32 = x) : sb 45 (Int32.ofNat i) x h = some ((), Uei h 45 i x) := by rw [ok_sb (e45 o).1 (i_nn (by omega)) (by rw [i_nat (by omega), (e45 o).2]; exact hi), i_nat (by omega), hx]
theorem g910 (o : rF h) : gr 910 37 h = some (some 46, h) := by rw [ok_gr o.1, (o.2 (910, 46, 101, 1600) (by decide)).1]
theorem e46 (o : rF h) : lv h 46 101 ∧ Hl h 46 = 1600 := (o.2 (910, 46, 101, 1600) (by decide)).2
theorem l46 (o : rF h) (hi : i < 1600) : lb 46 (Int32.ofNat i) h = some (Hei h 46 i, h) := by rw [ok_lb (e46 o).1 (i_nn (by omega)) (by rw [i_nat (by omega), (e46 o).2]; exact hi), i_nat (by omega)]
theorem s46 (o : rF h) (hi : i < 1600) (hx : x.toInt8.toInt32 = x) : sb 46 (Int32.ofNat i) x h = some ((), Uei h 46 i x) := by rw [ok_sb (e46 o).1 (i_nn (by omega)) (by rw [i_nat (by omega), (e46 o).2]; exact hi), i_nat (by omega), hx]
theorem g911 (o : rF h) : gr 911 37 h = some (some 47, h) := by rw [ok_gr o.1, (o.2 (911, 47, 101, 1600) (by decide)).1]
theorem e47 (o : rF h) : lv h 47 101 ∧ Hl h 47 = 1600 := (o.2 (911, 47, 101, 1600) (by decide)).2
theorem l47 (o : rF h) (hi : i < 1600) : lb 47 (Int32.ofNat i) h = some (Hei h 47 i, h) := by rw [ok_lb (e47 o).1 (i_nn (by omega)) (by rw [i_nat (by omega), (e47 o).2]; exact hi), i_nat (by omega)]
theorem s47 (o : rF h) (hi : i < 1600) (hx : x.toInt8.toInt32 = x) : sb 47 (Int32.ofNat i) x h = some ((), Uei h 47 i x) := by rw [ok_sb (e47 o).1 (i_nn (by omega)) (by rw [i_nat (by omega), (e47 o).2]; exact hi), i_nat (by omega), hx]
theorem g912 (o : rF h) : gr 912 37 h = some (some 48, h) := by rw [ok_gr o.1, (o.2 (912, 48, 100, 1600) (by decide)).1]
theorem e48 (o : rF h) : lv h 48 100 ∧ Hl h 48 = 1600 := (o.2 (912, 48, 100, 1600) (by decide)).2
theorem l48 (o : rF h) (hi : i < 1600) : li 48 (Int32.ofNat i) h = some (Hei h 48 i, h) := by rw [ok_li (e48 o).1 (i_nn (by omega)) (by rw [i_nat (by omega), (e48 o).2]; exact hi), i_nat (by omega)]
theorem s48 (o : rF h) (hi : i < 1600) : si 48 (Int32.ofNat i) x h = some ((), Uei h 48 i x) := by rw [ok_si (e48 o).1 (i_nn (by omega)) (by rw [i_nat (by omega), (e48 o).2]; exact hi), i_nat (by omega)]
theorem g913 (o : rF h) : gr 913 37 h = some (some 49, h) := by rw [ok_gr o.1, (o.2 (913, 49, 103, 1600) (by decide)).1]
theorem e49 (o : rF h) : lv h 49 103 ∧ Hl h 49 = 1600 := (o.2 (913, 49, 103, 1600) (by decide)).2
theorem l49 (o : rF h) (hi : i < 1600) : ll 49 (Int32.ofNat i) h = some (Hel h 49 i, h) := by rw [ok_ll (e49 o).1 (i_nn (by omega)) (by rw [i_nat (by omega), (e49 o).2]; exact hi), i_nat (by omega)]
theorem s49 (o : rF h) (hi : i < 1600) : sl 49 (Int32.ofNat i) u h = some ((), Uel h 49 i u) := by rw [ok_sl (e49 o).1 (i_nn (by omega)) (by rw [i_nat (by omega), (e49 o).2]; exact hi), i_nat (by omega)]
theorem g914 (o : rF h) : gr 914 37 h = some (some 50, h) := by rw [ok_gr o.1, (o.2 (914, 50, 100, 4800) (by decide)).1]
theorem e50 (o : rF h) : lv h 50 100 ∧ Hl h 50 = 4800 := (o.2 (914, 50, 100, 4800) (by decide)).2
theorem l50 (o : rF h) (hi : i < 4800) : li 50 (Int32.ofNat i) h = some (Hei h 50 i, h) := by rw [ok_li (e50 o).1 (i_nn (by omega)) (by rw [i_nat (by omega), (e50 o).2]; exact hi), i_nat (by omega)]
theorem s50 (o : rF h) (hi : i < 4800) : si 50 (Int32.ofNat i) x h = some ((), Uei h 50 i x) := by rw [ok_si (e50 o).1 (i_nn (by omega)) (by rw [i_nat (by omega), (e50 o).2]; exact hi), i_nat (by omega)]
theorem g916 (o : rF h) : gr 916 37 h = some (some 51, h) := by rw [ok_gr o.1, (o.2 (916, 51, 100, 40) (by decide)).1]
theorem e51 (o : rF h) : lv h 51 100 ∧ Hl h 51 = 40 := (o.2 (916, 51, 100, 40) (by decide)).2
theorem l51 (o : rF h) (hi : i < 40) : li 51 (Int32.ofNat i) h = some (Hei h 51 i, h) := by rw [ok_li (e51 o).1 (i_nn (by omega)) (by rw [i_nat (by omega), (e51 o).2]; exact hi), i_nat (by omega)]
theorem s51 (o : rF h) (hi : i < 40) : si 51 (Int32.ofNat i) x h = some ((), Uei h 51 i x) := by rw [ok_si (e51 o).1 (i_nn (by omega)) (by rw [i_nat (by omega), (e51 o).2]; exact hi), i_nat (by omega)]
theorem g917 (o : rF h) : gr 917 37 h = some (some 52, h) := by rw [ok_gr o.1, (o.2 (917, 52, 100, 40) (by decide)).1]
theorem e52 (o : rF h) : lv h 52 100 ∧ Hl h 52 = 40 := (o.2 (917, 52, 100, 40) (by decide)).2
theorem l52 (o : rF h) (hi : i < 40) : li 52 (Int32.ofNat i) h = some (Hei h 52 i, h) := by rw [ok_li (e52 o).1 (i_nn (by omega)) (by rw [i_nat (by omega), (e52 o).2]; exact hi), i_nat (by omega)]
theorem s52 (o : rF h) (hi : i < 40) : si 52 (Int32.ofNat i) x h = some ((), Uei h 52 i x) := by rw [ok_si (e52 o).1 (i_nn (by omega)) (by rw [i_nat (by omega), (e52 o).2]; exact hi), i_nat (by omega)]
theorem g918 (o : rF h) : gr 918 37 h = some (some 53, h) := by rw [ok_gr o.1, (o.2 (918, 53, 100, 40) (by decide)).1]
theorem e53 (o : rF h) : lv h 53 100 ∧ Hl h 53 = 40 := (o.2 (918, 53, 100, 40) (by decide)).2
theorem l53 (o : rF h) (hi : i < 40) : li 53 (Int32.ofNat i) h = some (Hei h 53 i, h) := by rw [ok_li (e53 o).1 (i_nn (by omega)) (by rw [i_nat (by omega), (e53 o).2]; exact hi), i_nat (by omega)]
theorem s53 (o : rF h) (hi : i < 40) : si 53 (Int32.ofNat i) x h = some ((), Uei h 53 i x) := by rw [ok_si (e53 o).1 (i_nn (by omega)) (by rw [i_nat (by omega), (e53 o).2]; exact hi), i_nat (by omega)]
theorem g919 (o : rF h) : gr 919 37 h = some (some 54, h) := by rw [ok_gr o.1, (o.2 (919, 54, 100, 40) (by decide)).1]
theorem e54 (o : rF h) : lv h 54 100 ∧ Hl h 54 = 40 := (o.2 (919, 54, 100, 40) (by decide)).2
theorem l54 (o : rF h) (hi : i < 40) : li 54 (Int32.ofNat i) h = some (Hei h 54 i, h) := by rw [ok_li (e54 o).1 (i_nn (by omega)) (by rw [i_nat (by omega), (e54 o).2]; exact hi), i_nat (by omega)]
theorem s54 (o : rF h) (hi : i < 40) : si 54 (Int32.ofNat i) x h = some ((), Uei h 54 i x) := by rw [ok_si (e54 o).1 (i_nn (by omega)) (by rw [i_nat (by omega), (e54 o).2]; exact hi), i_nat (by omega)]
theorem g920 (o : rF h) : gr 920 37 h = some (some 55, h) := by rw [ok_gr o.1, (o.2 (920, 55, 103, 40) (by decide)).1]
theorem e55 (o : rF h) : lv h 55 103 ∧ Hl h 55 = 40 := (o.2 (920, 55, 103, 40) (by decide)).2
theorem l55 (o : rF h) (hi : i < 40) : ll 55 (Int32.ofNat i) h = some (Hel h 55 i, h) := by rw [ok_ll (e55 o).1 (i_nn (by omega)) (by rw [i_nat (by omega), (e55 o).2]; exact hi), i_nat (by omega)]
theorem s55 (o : rF h) (hi : i < 40) : sl 55 (Int32.ofNat i) u h = some ((), Uel h 55 i u) := by rw [ok_sl (e55 o).1 (i_nn (by omega)) (by rw [i_nat (by omega), (e55 o).2]; exact hi), i_nat (by omega)]
theorem g921 (o : rF h) : gr 921 37 h = some (some 56, h) := by rw [ok_gr o.1, (o.2 (921, 56, 100, 120) (by decide)).1]
theorem e56 (o : rF h) : lv h 56 100 ∧ Hl h 56 = 120 := (o.2 (921, 56, 100, 120) (by decide)).2
theorem l56 (o : rF h) (hi : i < 120) : li 56 (Int32.ofNat i) h = some (Hei h 56 i, h) := by rw [ok_li (e56 o).1 (i_nn (by omega)) (by rw [i_nat (by omega), (e56 o).2]; exact hi), i_nat (by omega)]
theorem s56 (o : rF h) (hi : i < 120) : si 56 (Int32.ofNat i) x h = some ((), Uei h 56 i x) := by rw [ok_si (e56 o).1 (i_nn (by omega)) (by rw [i_nat (by omega), (e56 o).2]; exact hi), i_nat (by omega)]
theorem g922 (o : rF h) : gr 922 37 h = some (some 57, h) := by rw [ok_gr o.1, (o.2 (922, 57, 100, 48) (by decide)).1]
theorem e57 (o : rF h) : lv h 57 100 ∧ Hl h 57 = 48 := (o.2 (922, 57, 100, 48) (by decide)).2
theorem l57 (o : rF h) (hi : i < 48) : li 57 (Int32.ofNat i) h = some (Hei h 57 i, h) := by rw [ok_li (e57 o).1 (i_nn (by omega)) (by rw [i_nat (by omega), (e57 o).2]; exact hi), i_nat (by omega)]
theorem s57 (o : rF h) (hi : i < 48) : si 57 (Int32.ofNat i) x h = some ((), Uei h 57 i x) := by rw [ok_si (e57 o).1 (i_nn (by omega)) (by rw [i_nat (by omega), (e57 o).2]; exact hi), i_nat (by omega)]
theorem g923 (o : rF h) : gr 923 37 h = some (some 58, h) := by rw [ok_gr o.1, (o.2 (923, 58, 103, 48) (by decide)).1]
theorem e58 (o : rF h) : lv h 58 103 ∧ Hl h 58 = 48 := (o.2 (923, 58, 103, 48) (by decide)).2
theorem l58 (o : rF h) (hi : i < 48) : ll 58 (Int32.ofNat i) h = some (Hel h 58 i, h) := by rw [ok_ll (e58 o).1 (i_nn (by omega)) (by rw [i_nat (by omega), (e58 o).2]; exact hi), i_nat (by omega)]
theorem s58 (o : rF h) (hi : i < 48) : sl 58 (Int32.ofNat i) u h = some ((), Uel h 58 i u) := by rw [ok_sl (e58 o).1 (i_nn (by omega)) (by rw [i_nat (by omega), (e58 o).2]; exact hi), i_nat (by omega)]
theorem g924 (o : rF h) : gr 924 37 h = some (some 59, h) := by rw [ok_gr o.1, (o.2 (924, 59, 100, 2) (by decide)).1]
theorem e59 (o : rF h) : lv h 59 100 ∧ Hl h 59 = 2 := (o.2 (924, 59, 100, 2) (by decide)).2
theorem l59 (o : rF h) (hi : i < 2) : li 59 (Int32.ofNat i) h = some (Hei h 59 i, h) := by rw [ok_li (e59 o).1 (i_nn (by omega)) (by rw [i_nat (by omega), (e59 o).2]; exact hi), i_nat (by omega)]
theorem s59 (o : rF h) (hi : i < 2) : si 59 (Int32.ofNat i) x h = some ((), Uei h 59 i x) := by rw [ok_si (e59 o).1 (i_nn (by omega)) (by rw [i_nat (by omega), (e59 o).2]; exact hi), i_nat (by omega)]
theorem g925 (o : rF h) : gr 925 37 h = some (some 60, h) := by rw [ok_gr o.1, (o.2 (925, 60, 100, 2) (by decide)).1]
theorem e60 (o : rF h) : lv h 60 100 ∧ Hl h 60 = 2 := (o.2 (925, 60, 100, 2) (by decide)).2
theorem l60 (o : rF h) (hi : i < 2) : li 60 (Int32.ofNat i) h = some (Hei h 60 i, h) := by rw [ok_li (e60 o).1 (i_nn (by omega)) (by rw [i_nat (by omega), (e60 o).2]; exact hi), i_nat (by omega)]
theorem s60 (o : rF h) (hi : i < 2) : si 60 (Int32.ofNat i) x h = some ((), Uei h 60 i x) := by rw [ok_si (e60 o).1 (i_nn (by omega)) (by rw [i_nat (by omega), (e60 o).2]; exact hi), i_nat (by omega)]
theorem g926 (o : rF h) : gr 926 37 h = some (some 61, h) := by rw [ok_gr o.1, (o.2 (926, 61, 100, 2) (by decide)).1]
theorem e61 (o : rF h) : lv h 61 100 ∧ Hl h 61 = 2 := (o.2 (926, 61, 100, 2) (by decide)).2
theorem l61 (o : rF h) (hi : i < 2) : li 61 (Int32.ofNat i) h = some (Hei h 61 i, h) := by rw [ok_li (e61 o).1 (i_nn (by omega)) (by rw [i_nat (by omega), (e61 o).2]; exact hi), i_nat (by omega)]
theorem s61 (o : rF h) (hi : i < 2) : si 61 (Int32.ofNat i) x h = some ((), Uei h 61 i x) := by rw [ok_si (e61 o).1 (i_nn (by omega)) (by rw [i_nat (by omega), (e61 o).2]; exact hi), i_nat (by omega)]
theorem g927 (o : rF h) : gr 927 37 h = some (some 62, h) := by rw [ok_gr o.1, (o.2 (927, 62, 100, 2) (by decide)).1]
theorem e62 (o : rF h) : lv h 62 100 ∧ Hl h 62 = 2 := (o.2 (927, 62, 100, 2) (by decide)).2
theorem l62 (o : rF h) (hi : i < 2) : li 62 (Int32.ofNat i) h = some (Hei h 62 i, h) := by rw [ok_li (e62 o).1 (i_nn (by omega)) (by rw [i_nat (by omega), (e62 o).2]; exact hi), i_nat (by omega)]
theorem s62 (o : rF h) (hi : i < 2) : si 62 (Int32.ofNat i) x h = some ((), Uei h 62 i x) := by rw [ok_si (e62 o).1 (i_nn (by omega)) (by rw [i_nat (by omega), (e62 o).2]; exact hi), i_nat (by omega)]
theorem g928 (o : rF h) : gr 928 37 h = some (some 63, h) := by rw [ok_gr o.1, (o.2 (928, 63, 100, 2) (by decide)).1]
theorem e63 (o : rF h) : lv h 63 100 ∧ Hl h 63 = 2 := (o.2 (928, 63, 100, 2) (by decide)).2
theorem l63 (o : rF h) (hi : i < 2) : li 63 (Int32.ofNat i) h = some (Hei h 63 i, h) := by rw [ok_li (e63 o).1 (i_nn (by omega)) (by rw [i_nat (by omega), (e63 o).2]; exact hi), i_nat (by omega)]
theorem s63 (o : rF h) (hi : i < 2) : si 63 (Int32.ofNat i) x h = some ((), Uei h 63 i x) := by rw [ok_si (e63 o).1 (i_nn (by omega)) (by rw [i_nat (by omega), (e63 o).2]; exact hi), i_nat (by omega)]
theorem g929 (o : rF h) : gr 929 37 h = some (some 64, h) := by rw [ok_gr o.1, (o.2 (929, 64, 100, 2) (by decide)).1]
theorem e64 (o : rF h) : lv h 64 100 ∧ Hl h 64 = 2 := (o.2 (929, 64, 100, 2) (by decide)).2
theorem l64 (o : rF h) (hi : i < 2) : li 64 (Int32.ofNat i) h = some (Hei h 64 i, h) := by rw [ok_li (e64 o).1 (i_nn (by omega)) (by rw [i_nat (by omega), (e64 o).2]; exact hi), i_nat (by omega)]
theorem s64 (o : rF h) (hi : i < 2) : si 64 (Int32.ofNat i) x h = some ((), Uei h 64 i x) := by rw [ok_si (e64 o).1 (i_nn (by omega)) (by rw [i_nat (by omega), (e64 o).2]; exact hi), i_nat (by omega)]
theorem g930 (o : rF h) : gr 930 37 h = some (some 65, h) := by rw [ok_gr o.1, (o.2 (930, 65, 100, 2) (by decide)).1]
theorem e65 (o : rF h) : lv h 65 100 ∧ Hl h 65 = 2 := (o.2 (930, 65, 100, 2) (by decide)).2
theorem l65 (o : rF h) (hi : i < 2) : li 65 (Int32.ofNat i) h = some (Hei h 65 i, h) := by rw [ok_li (e65 o).1 (i_nn (by omega)) (by rw [i_nat (by omega), (e65 o).2]; exact hi), i_nat (by omega)]
theorem s65 (o : rF h) (hi : i < 2) : si 65 (Int32.ofNat i) x h = some ((), Uei h 65 i x) := by rw [ok_si (e65 o).1 (i_nn (by omega)) (by rw [i_nat (by omega), (e65 o).2]; exact hi), i_nat (by omega)]
theorem g931 (o : rF h) : gr 931 37 h = some (some 66, h) := by rw [ok_gr o.1, (o.2 (931, 66, 100, 2) (by decide)).1]
theorem e66 (o : rF h) : lv h 66 100 ∧ Hl h 66 = 2 := (o.2 (931, 66, 100, 2) (by decide)).2
theorem l66 (o : rF h) (hi : i < 2) : li 66 (Int32.ofNat i) h = some (Hei h 66 i, h) := by rw [ok_li (e66 o).1 (i_nn (by omega)) (by rw [i_nat (by omega), (e66 o).2]; exact hi), i_nat (by omega)]
theorem s66 (o : rF h) (hi : i < 2) : si 66 (Int32.ofNat i) x h = some ((), Uei h 66 i x) := by rw [ok_si (e66 o).1 (i_nn (by omega)) (by rw [i_nat (by omega), (e66 o).2]; exact hi), i_nat (by omega)]
theorem g932 (o : rF h) : gr 932 37 h = some (some 67, h) := by rw [ok_gr o.1, (o.2 (932, 67, 100, 2) (by decide)).1]
theorem e67 (o : rF h) : lv h 67 100 ∧ Hl h 67 = 2 := (o.2 (932, 67, 100, 2) (by decide)).2
theorem l67 (o : rF h) (hi : i < 2) : li 67 (Int32.ofNat i) h = some (Hei h 67 i, h) := by rw [ok_li (e67 o).1 (i_nn (by omega)) (by rw [i_nat (by omega), (e67 o).2]; exact hi), i_nat (by omega)]
theorem s67 (o : rF h) (hi : i < 2) : si 67 (Int32.ofNat i) x h = some ((), Uei h 67 i x) := by rw [ok_si (e67 o).1 (i_nn (by omega)) (by rw [i_nat (by omega), (e67 o).2]; exact hi), i_nat (by omega)]
theorem g933 (o : rF h) : gr 933 37 h = some (some 68, h) := by rw [ok_gr o.1, (o.2 (933, 68, 102, 2) (by decide)).1]
theorem e68 (o : rF h) : lv h 68 102 ∧ Hl h 68 = 2 := (o.2 (933, 68, 102, 2) (by decide)).2
theorem l68 (o : rF h) (hi : i < 2) : lb 68 (Int32.ofNat i) h = some (Hei h 68 i, h) := by rw [ok_lz (e68 o).1 (i_nn (by omega)) (by rw [i_nat (by omega), (e68 o).2]; exact hi), i_nat (by omega)]
theorem s68 (o : rF h) (hi : i < 2) (hx : x = 0 ∨ x = 1) : sb 68 (Int32.ofNat i) x h = some ((), Uei h 68 i x) := by rw [ok_sz (e68 o).1 (i_nn (by omega)) (by rw [i_nat (by omega), (e68 o).2]; exact hi) hx, i_nat (by omega)]
theorem g934 (o : rF h) : gr 934 37 h = some (some 69, h) := by rw [ok_gr o.1, (o.2 (934, 69, 100, 2) (by decide)).1]
theorem e69 (o : rF h) : lv h 69 100 ∧ Hl h 69 = 2 := (o.2 (934, 69, 100, 2) (by decide)).2
theorem l69 (o : rF h) (hi : i < 2) : li 69 (Int32.ofNat i) h = some (Hei h 69 i, h) := by rw [ok_li (e69 o).1 (i_nn (by omega)) (by rw [i_nat (by omega), (e69 o).2]; exact hi), i_nat (by omega)]
theorem s69 (o : rF h) (hi : i < 2) : si 69 (Int32.ofNat i) x h = some ((), Uei h 69 i x) := by rw [ok_si (e69 o).1 (i_nn (by omega)) (by rw [i_nat (by omega), (e69 o).2]; exact hi), i_nat (by omega)]
theorem g935 (o : rF h) : gr 935 37 h = some (some 70, h) := by rw [ok_gr o.1, (o.2 (935, 70, 100, 2) (by decide)).1]
theorem e70 (o : rF h) : lv h 70 100 ∧ Hl h 70 = 2 := (o.2 (935, 70, 100, 2) (by decide)).2
theorem l70 (o : rF h) (hi : i < 2) : li 70 (Int32.ofNat i) h = some (Hei h 70 i, h) := by rw [ok_li (e70 o).1 (i_nn (by omega)) (by rw [i_nat (by omega), (e70 o).2]; exact hi), i_nat (by omega)]
theorem s70 (o : rF h) (hi : i < 2) : si 70 (Int32.ofNat i) x h = some ((), Uei h 70 i x) := by rw [ok_si (e70 o).1 (i_nn (by omega)) (by rw [i_nat (by omega), (e70 o).2]; exact hi), i_nat (by omega)]
theorem g936 (o : rF h) : gr 936 37 h = some (some 71, h) := by rw [ok_gr o.1, (o.2 (936, 71, 100, 2) (by decide)).1]
theorem e71 (o : rF h) : lv h 71 100 ∧ Hl h 71 = 2 := (o.2 (936, 71, 100, 2) (by decide)).2
theorem l71 (o : rF h) (hi : i < 2) : li 71 (Int32.ofNat i) h = some (Hei h 71 i, h) := by rw [ok_li (e71 o).1 (i_nn (by omega)) (by rw [i_nat (by omega), (e71 o).2]; exact hi), i_nat (by omega)]
theorem s71 (o : rF h) (hi : i < 2) : si 71 (Int32.ofNat i) x h = some ((), Uei h 71 i x) := by rw [ok_si (e71 o).1 (i_nn (by omega)) (by rw [i_nat (by omega), (e71 o).2]; exact hi), i_nat (by omega)]
theorem g937 (o : rF h) : gr 937 37 h = some (some 72, h) := by rw [ok_gr o.1, (o.2 (937, 72, 100, 48) (by decide)).1]
theorem e72 (o : rF h) : lv h 72 100 ∧ Hl h 72 = 48 := (o.2 (937, 72, 100, 48) (by decide)).2
theorem l72 (o : rF h) (hi : i < 48) : li 72 (Int32.ofNat i) h = some (Hei h 72 i, h) := by rw [ok_li (e72 o).1 (i_nn (by omega)) (by rw [i_nat (by omega), (e72 o).2]; exact hi), i_nat (by omega)]
theorem s72 (o : rF h) (hi : i < 48) : si 72 (Int32.ofNat i) x h = some ((), Uei h 72 i x) := by rw [ok_si (e72 o).1 (i_nn (by omega)) (by rw [i_nat (by omega), (e72 o).2]; exact hi), i_nat (by omega)]
theorem g938 (o : rF h) : gr 938 37 h = some (some 73, h) := by rw [ok_gr o.1, (o.2 (938, 73, 100, 2) (by decide)).1]
theorem e73 (o : rF h) : lv h 73 100 ∧ Hl h 73 = 2 := (o.2 (938, 73, 100, 2) (by decide)).2
theorem l73 (o : rF h) (hi : i < 2) : li 73 (Int32.ofNat i) h = some (Hei h 73 i, h) := by rw [ok_li (e73 o).1 (i_nn (by omega)) (by rw [i_nat (by omega), (e73 o).2]; exact hi), i_nat (by omega)]
theorem s73 (o : rF h) (hi : i < 2) : si 73 (Int32.ofNat i) x h = some ((), Uei h 73 i x) := by rw [ok_si (e73 o).1 (i_nn (by omega)) (by rw [i_nat (by omega), (e73 o).2]; exact hi), i_nat (by omega)]
theorem g939 (o : rF h) : gr 939 37 h = some (some 74, h) := by rw [ok_gr o.1, (o.2 (939, 74, 100, 2) (by decide)).1]
theorem e74 (o : rF h) : lv h 74 100 ∧ Hl h 74 = 2 := (o.2 (939, 74, 100, 2) (by decide)).2
theorem l74 (o : rF h) (hi : i < 2) : li 74 (Int32.ofNat i) h = some (Hei h 74 i, h) := by rw [ok_li (e74 o).1 (i_nn (by omega)) (by rw [i_nat (by omega), (e74 o).2]; exact hi), i_nat (by omega)]
theorem s74 (o : rF h) (hi : i < 2) : si 74 (Int32.ofNat i) x h = some ((), Uei h 74 i x) := by rw [ok_si (e74 o).1 (i_nn (by omega)) (by rw [i_nat (by omega), (e74 o).2]; exact hi), i_nat (by omega)]
theorem g940 (o : rF h) : gr 940 37 h = some (some 75, h) := by rw [ok_gr o.1, (o.2 (940, 75, 100, 12) (by decide)).1]
theorem e75 (o : rF h) : lv h 75 100 ∧ Hl h 75 = 12 := (o.2 (940, 75, 100, 12) (by decide)).2
theorem l75 (o : rF h) (hi : i < 12) : li 75 (Int32.ofNat i) h = some (Hei h 75 i, h) := by rw [ok_li (e75 o).1 (i_nn (by omega)) (by rw [i_nat (by omega), (e75 o).2]; exact hi), i_nat (by omega)]
theorem s75 (o : rF h) (hi : i < 12) : si 75 (Int32.ofNat i) x h = some ((), Uei h 75 i x) := by rw [ok_si (e75 o).1 (i_nn (by omega)) (by rw [i_nat (by omega), (e75 o).2]; exact hi), i_nat (by omega)]
theorem g941 (o : rF h) : gr 941 37 h = some (some 76, h) := by rw [ok_gr o.1, (o.2 (941, 76, 100, 12) (by decide)).1]
theorem e76 (o : rF h) : lv h 76 100 ∧ Hl h 76 = 12 := (o.2 (941, 76, 100, 12) (by decide)).2
theorem l76 (o : rF h) (hi : i < 12) : li 76 (Int32.ofNat i) h = some (Hei h 76 i, h) := by rw [ok_li (e76 o).1 (i_nn (by omega)) (by rw [i_nat (by omega), (e76 o).2]; exact hi), i_nat (by omega)]
theorem s76 (o : rF h) (hi : i < 12) : si 76 (Int32.ofNat i) x h = some ((), Uei h 76 i x) := by rw [ok_si (e76 o).1 (i_nn (by omega)) (by rw [i_nat (by omega), (e76 o).2]; exact hi), i_nat (by omega)]
theorem g904 (o : rF h) : gi 904 37 h = some (Hfi h 904 37, h) := ok_gi o.1
theorem p904 (o : rF h) : pi_ 904 37 x h = some ((), Ufi h 904 37 x) := ok_pi o.1
theorem g909 (o : rF h) : gi 909 37 h = some (Hfi h 909 37, h) := ok_gi o.1
theorem p909 (o : rF h) : pi_ 909 37 x h = some ((), Ufi h 909 37 x) := ok_pi o.1
theorem g915 (o : rF h) : gi 915 37 h = some (Hfi h 915 37, h) := ok_gi o.1
theorem p915 (o : rF h) : pi_ 915 37 x h = some ((), Ufi h 915 37 x) := ok_pi o.1
/-- the reference's parts K are as they were; nothing else but its ints changed -/
def ag (K : Nat → Nat → Prop) (h h1 : xv_H) : Prop := (Hn h1 = Hn h ∧ Hz h1 = Hz h ∧ Ht h1 = Ht h ∧ Hl h1 = Hl h ∧ Hfr h1 = Hfr h ∧ Her h1 = Her h) ∧ (∀ f a, Hfi h1 f a = Hfi h f a ∨ ((a = 37 ∧ 900 ≤ f) ∧ ¬ K 37 f)) ∧ (∀ a i, (Hei h1 a i = Hei h a i ∧ Hel h1 a i = Hel h a i) ∨ ((37 < a ∧ a < 77) ∧ ¬ K a i))
variable {K K2 : Nat → Nat → Prop}
theorem ag_refl : ag K h h := ⟨⟨rfl, rfl, rfl, rfl, rfl, rfl⟩, fun _ _ => Or.inl rfl, fun _ _ => Or.inl ⟨rfl, rfl⟩⟩
theorem ag_trans (e1 : ag K h h1) (e2 : ag K h1 h2) : ag K h h2 := by
  obtain ⟨⟨a1, a2, a3, a4, a5, a6⟩, b, c⟩ := e1
  obtain ⟨⟨d1, d2, d3, d4, d5, d6⟩, e, f⟩ := e2
  refine ⟨⟨d1.trans a1, d2.trans a2, d3.trans a3, d4.trans a4, d5.trans a5, d6.trans a6⟩, fun p q => ?_, fun p q => ?_⟩
  · rcases e p q with x | x
    · rcases b p q with y | y
      · exact Or.inl (x.trans y)
      · exact Or.inr y
    · exact Or.inr x
  · rcases f p q with x | x
    · rcases c p q with y | y
      · exact Or.inl ⟨x.1.trans y.1, x.2.trans y.2⟩
      · exact Or.inr y
    · exact Or.inr x
theorem ag_mono (e : ag K h h1) (k : ∀ a i, K2 a i → K a i) : ag K2 h h1 := by
  refine ⟨e.1, fun p q => ?_, fun p q => ?_⟩
  · rcases e.2.1 p q with x | x
    · exact Or.inl x
    · exact Or.inr ⟨x.1, fun z => x.2 (k _ _ z)⟩
  · rcases e.2.2 p q with x | x
    · exact Or.inl x
    · exact Or.inr ⟨x.1, fun z => x.2 (k _ _ z)⟩
theorem ag_ei {a j : Nat} (h0 : 37 < a ∧ a < 77) (hk : ¬ K a j) : ag K h (Uei h a j x) := by
  refine ⟨⟨Hn_Uei .., Hz_Uei .., Ht_Uei .., Hl_Uei .., Hfr_Uei .., Her_Uei ..⟩, fun p q => Or.inl (by rw [Hfi_Uei]), fun p q => ?_⟩
  by_cases e : p = a ∧ q = j
  · exact Or.inr (by rw [e.1, e.2]; exact ⟨h0, hk⟩)
  · exact Or.inl ⟨by rw [Hei_Uei, if_neg e], by rw [Hel_Uei]⟩
theorem ag_el {a j : Nat} (h0 : 37 < a ∧ a < 77) (hk : ¬ K a j) : ag K h (Uel h a j u) := by
  refine ⟨⟨Hn_Uel .., Hz_Uel .., Ht_Uel .., Hl_Uel .., Hfr_Uel .., Her_Uel ..⟩, fun p q => Or.inl (by rw [Hfi_Uel]), fun p q => ?_⟩
  by_cases e : p = a ∧ q = j
  · exact Or.inr (by rw [e.1, e.2]; exact ⟨h0, hk⟩)
  · exact Or.inl ⟨by rw [Hei_Uel], by rw [Hel_Uel, if_neg e]⟩
theorem ag_fi {f : Nat} (h9 : 900 ≤ f) (hk : ¬ K 37 f) : ag K h (Ufi h f 37 x) := by
  refine ⟨⟨Hn_Ufi .., Hz_Ufi .., Ht_Ufi .., Hl_Ufi .., Hfr_Ufi .., Her_Ufi ..⟩, fun p q => ?_, fun p q => Or.inl ⟨by rw [Hei_Ufi], by rw [Hel_Ufi]⟩⟩
  by_cases e : p = f ∧ q = 37
  · exact Or.inr ⟨⟨e.2, by rw [e.1]; exact h9⟩, by rw [e.1]; exact hk⟩
  · exact Or.inl (by rw [Hfi_Ufi, if_neg e])
theorem ag_e {a j : Nat} (e : ag K h h1) (k : K a j) : Hei h1 a j = Hei h a j ∧ Hel h1 a j = Hel h a j := by
  rcases e.2.2 a j with x | x
  · exact x
  · exact absurd k x.2
theorem ag_f {f : Nat} (e : ag K h h1) (k : K 37 f) : Hfi h1 f 37 = Hfi h f 37 := by
  rcases e.2.1 f 37 with x | x
  · exact x
  · exact absurd k x.2
theorem ag_rF (e : ag K h h1) (o : rF h) : rF h1 := by
  obtain ⟨⟨a1, a2, a3, a4, a5, a6⟩, _⟩ := e
  unfold rF lv at *
  rw [a1, a3, a4, a5]
  exact o
theorem ag_ext (e : ag K h h1) : ext 0 (fun f a => a = 37 ∧ 900 ≤ f) (fun a => 37 < a ∧ a < 77) h h1 := by
  obtain ⟨⟨a1, a2, a3, a4, a5, a6⟩, b, c⟩ := e
  refine ⟨⟨by rw [a1]; exact Nat.le_refl _, by rw [a1]; exact Nat.le_refl _, by rw [a2]; exact Nat.le_refl _⟩, fun a _ => by rw [a3, a4]; exact ⟨rfl, rfl⟩, fun f a _ n => ⟨by rw [a5], (b f a).resolve_right (fun q => n q.1)⟩, fun a i _ n => ⟨by rw [a6], (c a i).resolve_right (fun q => n q.1)⟩⟩
end RROW
