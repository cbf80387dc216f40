/-! THE SMALL MACHINE, 17: the world behind the constructors (written by wip/whole/gen/world_part.py); switches. -/
section MMS
def SH : mm_S := [(0, 6, 6), (0, 1, 4), (0, 4, 6), (1, 1, 2048), (0, 0, 11), (1, 0, 24), (1, 0, 24), (1, 0, 24), (1, 0, 24), (1, 0, 16), (1, 0, 16), (1, 0, 16), (0, 2, 4), (1, 0, 12), (1, 0, 12), (1, 0, 4), (0, 5, 5), (1, 0, 252), (0, 3, 2), (1, 1, 448), (0, 7, 36), (1, 0, 2048), (1, 0, 48), (1, 0, 48), (1, 0, 48), (1, 0, 48), (1, 0, 17), (1, 0, 17), (1, 0, 17), (1, 0, 12), (1, 0, 4096), (1, 0, 1024), (1, 0, 12), (1, 0, 12), (1, 0, 12), (1, 0, 4), (1, 0, 4), (2, 0, 1)]
def RF0 : RfM := (mm_nw (mm_up (mm_nw (mm_up (mm_nw (mm_up (mm_nw (mm_up (mm_nw (mm_up (mm_nw (mm_up (mm_nw (mm_up (mm_nw (mm_up (mm_nw (mm_up (mm_nw (mm_up (mm_nw (mm_up (mm_nw (mm_up (mm_nw (mm_up (mm_nw (mm_up (mm_nw (mm_up (mm_nw (mm_up (mm_nw (mm_nw (mm_up (mm_up (mm_nw (mm_nw (mm_up (mm_up (mm_nw (mm_nw (mm_up (mm_up (mm_nw (mm_up (mm_nw (mm_up (mm_nw (mm_nw (mm_up (mm_up (mm_up (mm_up (mm_up (mm_nw (mm_up (mm_nw (mm_up (mm_nw (mm_up (mm_nw (mm_up (mm_nw (mm_up (mm_nw (mm_up (mm_nw (mm_nw (mm_up (mm_up (mm_nw (mm_nw (mm_nw (mm_nw law_m0.2.1 0 none) 1 none) 2 none) 3 none) 2 0 (some 3)) 1 0 (some 2)) 4 none) 5 none) 4 4 (some 5)) 6 none) 4 5 (some 6)) 7 none) 4 6 (some 7)) 8 none) 4 7 (some 8)) 9 none) 4 8 (some 9)) 10 none) 4 9 (some 10)) 11 none) 4 10 (some 11)) 1 1 (some 4)) 0 0 (some 1)) 0 1 (some 2)) 0 2 (some 4)) 12 none) 13 none) 12 0 (some 13)) 14 none) 12 1 (some 14)) 15 none) 12 2 (some 15)) 0 3 (some 12)) 16 none) 17 none) 16 0 (some 17)) 0 4 (some 16)) 18 none) 19 none) 18 0 (some 19)) 0 5 (some 18)) 20 none) 21 none) 20 2 (some 21)) 22 none) 20 10 (some 22)) 23 none) 20 11 (some 23)) 24 none) 20 12 (some 24)) 25 none) 20 13 (some 25)) 26 none) 20 14 (some 26)) 27 none) 20 15 (some 27)) 28 none) 20 16 (some 28)) 29 none) 20 22 (some 29)) 30 none) 20 24 (some 30)) 31 none) 20 30 (some 31)) 32 none) 20 31 (some 32)) 33 none) 20 32 (some 33)) 34 none) 20 33 (some 34)) 35 none) 20 34 (some 35)) 36 none) 20 35 (some 36)) 37 none)
def MI0 : Mem := (mm_nw (mm_nw (mm_nw (mm_nw (mm_nw (mm_nw (mm_nw (mm_nw (mm_nw (mm_nw (mm_nw (mm_nw (mm_nw (mm_nw (mm_nw (mm_nw (mm_nw (mm_nw (mm_nw (mm_nw (mm_up (mm_nw (mm_nw (mm_nw (mm_nw (mm_nw (mm_nw (mm_nw (mm_nw (mm_nw (mm_nw (mm_nw (mm_nw (mm_nw (mm_nw (mm_nw (mm_nw (mm_nw (mm_nw law_m0.1 0 0) 1 0) 2 0) 3 0) 4 0) 5 0) 6 0) 7 0) 8 0) 9 0) 10 0) 11 0) 12 0) 13 0) 14 0) 15 0) 16 0) 17 0) 16 3 (-1)) 18 0) 19 0) 20 0) 21 0) 22 0) 23 0) 24 0) 25 0) 26 0) 27 0) 28 0) 29 0) 30 0) 31 0) 32 0) 33 0) 34 0) 35 0) 36 0) 37 0)
def LG0 : LgM := (mm_nw (mm_nw (mm_nw (mm_nw (mm_nw (mm_nw (mm_nw (mm_nw (mm_nw (mm_nw (mm_nw (mm_nw (mm_nw (mm_nw (mm_nw (mm_nw (mm_nw (mm_nw (mm_nw (mm_nw (mm_nw (mm_nw (mm_nw (mm_nw (mm_nw (mm_nw (mm_nw (mm_nw (mm_nw (mm_nw law_m0.2.2 3 0) 5 0) 6 0) 7 0) 8 0) 9 0) 10 0) 11 0) 13 0) 14 0) 15 0) 17 0) 19 0) 21 0) 22 0) 23 0) 24 0) 25 0) 26 0) 27 0) 28 0) 29 0) 30 0) 31 0) 32 0) 33 0) 34 0) 35 0) 36 0) 37 0)
variable {E : mm_V} {mi : Nat} {α : Type} {K : α → mm_O → Prop} {x : Int32} {t t' : Option α} {S : mm_T}
theorem ct_case {v : Int32} (ht : x = v → CT E mi S K t) (hf : ¬ x = v → CT E mi S K t') : CT E mi S K (if x = v then t else t') := by
  by_cases h : x = v
  · rw [if_pos h]; exact ht h
  · rw [if_neg h]; exact hf h
theorem sw_out2 (h0 : ¬ x = 0) (h1 : ¬ x = 1) (h2 : ¬ x = 2) : x.toInt < 0 ∨ (2 : Int) < x.toInt := by
  by_cases h : x.toInt < 0 ∨ (2 : Int) < x.toInt
  · exact h
  · exfalso
    have e0 : ¬ x.toInt = 0 := fun e => h0 (Int32.toInt_inj.mp (e.trans (by decide)))
    have e1 : ¬ x.toInt = 1 := fun e => h1 (Int32.toInt_inj.mp (e.trans (by decide)))
    have e2 : ¬ x.toInt = 2 := fun e => h2 (Int32.toInt_inj.mp (e.trans (by decide)))
    omega
theorem sw_out7 (h0 : ¬ x = 0) (h1 : ¬ x = 1) (h2 : ¬ x = 2) (h3 : ¬ x = 3) (h4 : ¬ x = 4) (h5 : ¬ x = 5) (h6 : ¬ x = 6) (h7 : ¬ x = 7) : x.toInt < 0 ∨ (7 : Int) < x.toInt := by
  by_cases h : x.toInt < 0 ∨ (7 : Int) < x.toInt
  · exact h
  · exfalso
    have e0 : ¬ x.toInt = 0 := fun e => h0 (Int32.toInt_inj.mp (e.trans (by decide)))
    have e1 : ¬ x.toInt = 1 := fun e => h1 (Int32.toInt_inj.mp (e.trans (by decide)))
    have e2 : ¬ x.toInt = 2 := fun e => h2 (Int32.toInt_inj.mp (e.trans (by decide)))
    have e3 : ¬ x.toInt = 3 := fun e => h3 (Int32.toInt_inj.mp (e.trans (by decide)))
    have e4 : ¬ x.toInt = 4 := fun e => h4 (Int32.toInt_inj.mp (e.trans (by decide)))
    have e5 : ¬ x.toInt = 5 := fun e => h5 (Int32.toInt_inj.mp (e.trans (by decide)))
    have e6 : ¬ x.toInt = 6 := fun e => h6 (Int32.toInt_inj.mp (e.trans (by decide)))
    have e7 : ¬ x.toInt = 7 := fun e => h7 (Int32.toInt_inj.mp (e.trans (by decide)))
    omega
theorem sw_out16 (h0 : ¬ x = 0) (h1 : ¬ x = 1) (h2 : ¬ x = 2) (h3 : ¬ x = 3) (h4 : ¬ x = 4) (h5 : ¬ x = 5) (h6 : ¬ x = 6) (h7 : ¬ x = 7) (h8 : ¬ x = 8) (h9 : ¬ x = 9) (h10 : ¬ x = 10) (h11 : ¬ x = 11) (h12 : ¬ x = 12) (h13 : ¬ x = 13) (h14 : ¬ x = 14) (h15 : ¬ x = 15) (h16 : ¬ x = 16) : x.toInt < 0 ∨ (16 : Int) < x.toInt := by
  by_cases h : x.toInt < 0 ∨ (16 : Int) < x.toInt
  · exact h
  · exfalso
    have e0 : ¬ x.toInt = 0 := fun e => h0 (Int32.toInt_inj.mp (e.trans (by decide)))
    have e1 : ¬ x.toInt = 1 := fun e => h1 (Int32.toInt_inj.mp (e.trans (by decide)))
    have e2 : ¬ x.toInt = 2 := fun e => h2 (Int32.toInt_inj.mp (e.trans (by decide)))
    have e3 : ¬ x.toInt = 3 := fun e => h3 (Int32.toInt_inj.mp (e.trans (by decide)))
    have e4 : ¬ x.toInt = 4 := fun e => h4 (Int32.toInt_inj.mp (e.trans (by decide)))
    have e5 : ¬ x.toInt = 5 := fun e => h5 (Int32.toInt_inj.mp (e.trans (by decide)))
    have e6 : ¬ x.toInt = 6 := fun e => h6 (Int32.toInt_inj.mp (e.trans (by decide)))
    have e7 : ¬ x.toInt = 7 := fun e => h7 (Int32.toInt_inj.mp (e.trans (by decide)))
    have e8 : ¬ x.toInt = 8 := fun e => h8 (Int32.toInt_inj.mp (e.trans (by decide)))
    have e9 : ¬ x.toInt = 9 := fun e => h9 (Int32.toInt_inj.mp (e.trans (by decide)))
    have e10 : ¬ x.toInt = 10 := fun e => h10 (Int32.toInt_inj.mp (e.trans (by decide)))
    have e11 : ¬ x.toInt = 11 := fun e => h11 (Int32.toInt_inj.mp (e.trans (by decide)))
    have e12 : ¬ x.toInt = 12 := fun e => h12 (Int32.toInt_inj.mp (e.trans (by decide)))
    have e13 : ¬ x.toInt = 13 := fun e => h13 (Int32.toInt_inj.mp (e.trans (by decide)))
    have e14 : ¬ x.toInt = 14 := fun e => h14 (Int32.toInt_inj.mp (e.trans (by decide)))
    have e15 : ¬ x.toInt = 15 := fun e => h15 (Int32.toInt_inj.mp (e.trans (by decide)))
    have e16 : ¬ x.toInt = 16 := fun e => h16 (Int32.toInt_inj.mp (e.trans (by decide)))
    omega
end MMS
