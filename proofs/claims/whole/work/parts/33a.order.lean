/-! THE PAIR judge (written by wip/whole/gen/judge_part.py). -/
section MMYB
/-- the order: by size, then by the lowest gap that differs -/
def rv (n : Nat) : Nat := 512 * (n % 2) + 256 * (n / 2 % 2) + 128 * (n / 4 % 2) + 64 * (n / 8 % 2) + 32 * (n / 16 % 2) + 16 * (n / 32 % 2) + 8 * (n / 64 % 2) + 4 * (n / 128 % 2) + 2 * (n / 256 % 2) + 1 * (n / 512 % 2)
def key (n : Nat) : Nat := pc10 n * 1024 + (1023 - rv n)
def lowd (d : Nat) : Nat := (if d % 2 = 1 then 1 else (if d / 2 % 2 = 1 then 2 else (if d / 4 % 2 = 1 then 4 else (if d / 8 % 2 = 1 then 8 else (if d / 16 % 2 = 1 then 16 else (if d / 32 % 2 = 1 then 32 else (if d / 64 % 2 = 1 then 64 else (if d / 128 % 2 = 1 then 128 else (if d / 256 % 2 = 1 then 256 else (if d / 512 % 2 = 1 then 512 else 0))))))))))
theorem rv_le (n : Nat) : rv n ≤ 1023 := by
  unfold rv
  have l0 : n % 2 < 2 := Nat.mod_lt _ (by decide)
  have l1 : n / 2 % 2 < 2 := Nat.mod_lt _ (by decide)
  have l2 : n / 4 % 2 < 2 := Nat.mod_lt _ (by decide)
  have l3 : n / 8 % 2 < 2 := Nat.mod_lt _ (by decide)
  have l4 : n / 16 % 2 < 2 := Nat.mod_lt _ (by decide)
  have l5 : n / 32 % 2 < 2 := Nat.mod_lt _ (by decide)
  have l6 : n / 64 % 2 < 2 := Nat.mod_lt _ (by decide)
  have l7 : n / 128 % 2 < 2 := Nat.mod_lt _ (by decide)
  have l8 : n / 256 % 2 < 2 := Nat.mod_lt _ (by decide)
  have l9 : n / 512 % 2 < 2 := Nat.mod_lt _ (by decide)
  generalize n % 2 = a0 at *
  generalize n / 2 % 2 = a1 at *
  generalize n / 4 % 2 = a2 at *
  generalize n / 8 % 2 = a3 at *
  generalize n / 16 % 2 = a4 at *
  generalize n / 32 % 2 = a5 at *
  generalize n / 64 % 2 = a6 at *
  generalize n / 128 % 2 = a7 at *
  generalize n / 256 % 2 = a8 at *
  generalize n / 512 % 2 = a9 at *
  omega
theorem pc_le (n : Nat) : pc10 n ≤ 10 := by
  unfold pc10
  have l0 : n % 2 < 2 := Nat.mod_lt _ (by decide)
  have l1 : n / 2 % 2 < 2 := Nat.mod_lt _ (by decide)
  have l2 : n / 4 % 2 < 2 := Nat.mod_lt _ (by decide)
  have l3 : n / 8 % 2 < 2 := Nat.mod_lt _ (by decide)
  have l4 : n / 16 % 2 < 2 := Nat.mod_lt _ (by decide)
  have l5 : n / 32 % 2 < 2 := Nat.mod_lt _ (by decide)
  have l6 : n / 64 % 2 < 2 := Nat.mod_lt _ (by decide)
  have l7 : n / 128 % 2 < 2 := Nat.mod_lt _ (by decide)
  have l8 : n / 256 % 2 < 2 := Nat.mod_lt _ (by decide)
  have l9 : n / 512 % 2 < 2 := Nat.mod_lt _ (by decide)
  generalize n % 2 = a0 at *
  generalize n / 2 % 2 = a1 at *
  generalize n / 4 % 2 = a2 at *
  generalize n / 8 % 2 = a3 at *
  generalize n / 16 % 2 = a4 at *
  generalize n / 32 % 2 = a5 at *
  generalize n / 64 % 2 = a6 at *
  generalize n / 128 % 2 = a7 at *
  generalize n / 256 % 2 = a8 at *
  generalize n / 512 % 2 = a9 at *
  omega
theorem low_ok : ∀ d, d < 1024 → nI d &&& (-(nI d)) = nI (lowd d) := by decide +kernel
theorem bit_x (a b j : Nat) : (a ^^^ b) / 2 ^ j % 2 = (a / 2 ^ j % 2 + b / 2 ^ j % 2) % 2 := by
  have h := Nat.testBit_xor a b j
  rw [Nat.testBit_eq_decide_div_mod_eq, Nat.testBit_eq_decide_div_mod_eq, Nat.testBit_eq_decide_div_mod_eq] at h
  have h1 := Nat.mod_lt ((a ^^^ b) / 2 ^ j) (y := 2) (by decide)
  have h2 := Nat.mod_lt (a / 2 ^ j) (y := 2) (by decide)
  have h3 := Nat.mod_lt (b / 2 ^ j) (y := 2) (by decide)
  generalize (a ^^^ b) / 2 ^ j % 2 = u at *
  generalize a / 2 ^ j % 2 = v at *
  generalize b / 2 ^ j % 2 = w at *
  have hu : u = 0 ∨ u = 1 := by omega
  have hv : v = 0 ∨ v = 1 := by omega
  have hw : w = 0 ∨ w = 1 := by omega
  rcases hu with rfl | rfl <;> rcases hv with rfl | rfl <;> rcases hw with rfl | rfl <;> simp at h ⊢
theorem and_p (a j : Nat) : a &&& 2 ^ j = 2 ^ j * (a / 2 ^ j % 2) := by
  have h2 := Nat.mod_lt (a / 2 ^ j) (y := 2) (by decide)
  have hv : a / 2 ^ j % 2 = 0 ∨ a / 2 ^ j % 2 = 1 := by omega
  rcases hv with hv | hv
  · rw [hv, Nat.mul_zero]
    apply Nat.eq_of_testBit_eq
    intro i
    rw [Nat.testBit_and, Nat.testBit_two_pow, Nat.zero_testBit]
    by_cases e : j = i
    · subst e
      simp [Nat.testBit_eq_decide_div_mod_eq, hv]
    · simp [e]
  · rw [hv, Nat.mul_one]
    apply Nat.eq_of_testBit_eq
    intro i
    rw [Nat.testBit_and, Nat.testBit_two_pow]
    by_cases e : j = i
    · subst e
      simp [Nat.testBit_eq_decide_div_mod_eq, hv]
    · simp [e]
set_option maxHeartbeats 4000000 in
/-- of two sets of one size the one is first that has the lowest gap that differs -/
theorem lexo_ok {a b : Nat} (ha : a < 1024) (hb : b < 1024) (hp : pc10 a = pc10 b) : a &&& lowd (a ^^^ b) = 0 ↔ ¬ key a < key b := by
  unfold key
  rw [hp]
  have k : (pc10 b * 1024 + (1023 - rv a) < pc10 b * 1024 + (1023 - rv b)) ↔ rv b < rv a := by
    have r1 := rv_le a
    have r2 := rv_le b
    omega
  rw [k]
  clear k hp
  have x0 : (a ^^^ b) % 2 = (a % 2 + b % 2) % 2 := by have := bit_x a b 0; simpa using this
  have x1 : (a ^^^ b) / 2 % 2 = (a / 2 % 2 + b / 2 % 2) % 2 := by have := bit_x a b 1; simpa using this
  have x2 : (a ^^^ b) / 4 % 2 = (a / 4 % 2 + b / 4 % 2) % 2 := by have := bit_x a b 2; simpa using this
  have x3 : (a ^^^ b) / 8 % 2 = (a / 8 % 2 + b / 8 % 2) % 2 := by have := bit_x a b 3; simpa using this
  have x4 : (a ^^^ b) / 16 % 2 = (a / 16 % 2 + b / 16 % 2) % 2 := by have := bit_x a b 4; simpa using this
  have x5 : (a ^^^ b) / 32 % 2 = (a / 32 % 2 + b / 32 % 2) % 2 := by have := bit_x a b 5; simpa using this
  have x6 : (a ^^^ b) / 64 % 2 = (a / 64 % 2 + b / 64 % 2) % 2 := by have := bit_x a b 6; simpa using this
  have x7 : (a ^^^ b) / 128 % 2 = (a / 128 % 2 + b / 128 % 2) % 2 := by have := bit_x a b 7; simpa using this
  have x8 : (a ^^^ b) / 256 % 2 = (a / 256 % 2 + b / 256 % 2) % 2 := by have := bit_x a b 8; simpa using this
  have x9 : (a ^^^ b) / 512 % 2 = (a / 512 % 2 + b / 512 % 2) % 2 := by have := bit_x a b 9; simpa using this
  have n0 : a &&& 1 = 1 * (a % 2) := by have := and_p a 0; simpa using this
  have n1 : a &&& 2 = 2 * (a / 2 % 2) := by have := and_p a 1; simpa using this
  have n2 : a &&& 4 = 4 * (a / 4 % 2) := by have := and_p a 2; simpa using this
  have n3 : a &&& 8 = 8 * (a / 8 % 2) := by have := and_p a 3; simpa using this
  have n4 : a &&& 16 = 16 * (a / 16 % 2) := by have := and_p a 4; simpa using this
  have n5 : a &&& 32 = 32 * (a / 32 % 2) := by have := and_p a 5; simpa using this
  have n6 : a &&& 64 = 64 * (a / 64 % 2) := by have := and_p a 6; simpa using this
  have n7 : a &&& 128 = 128 * (a / 128 % 2) := by have := and_p a 7; simpa using this
  have n8 : a &&& 256 = 256 * (a / 256 % 2) := by have := and_p a 8; simpa using this
  have n9 : a &&& 512 = 512 * (a / 512 % 2) := by have := and_p a 9; simpa using this
  unfold lowd rv
  have la0 : a % 2 < 2 := Nat.mod_lt _ (by decide)
  have la1 : a / 2 % 2 < 2 := Nat.mod_lt _ (by decide)
  have la2 : a / 4 % 2 < 2 := Nat.mod_lt _ (by decide)
  have la3 : a / 8 % 2 < 2 := Nat.mod_lt _ (by decide)
  have la4 : a / 16 % 2 < 2 := Nat.mod_lt _ (by decide)
  have la5 : a / 32 % 2 < 2 := Nat.mod_lt _ (by decide)
  have la6 : a / 64 % 2 < 2 := Nat.mod_lt _ (by decide)
  have la7 : a / 128 % 2 < 2 := Nat.mod_lt _ (by decide)
  have la8 : a / 256 % 2 < 2 := Nat.mod_lt _ (by decide)
  have la9 : a / 512 % 2 < 2 := Nat.mod_lt _ (by decide)
  have lb0 : b % 2 < 2 := Nat.mod_lt _ (by decide)
  have lb1 : b / 2 % 2 < 2 := Nat.mod_lt _ (by decide)
  have lb2 : b / 4 % 2 < 2 := Nat.mod_lt _ (by decide)
  have lb3 : b / 8 % 2 < 2 := Nat.mod_lt _ (by decide)
  have lb4 : b / 16 % 2 < 2 := Nat.mod_lt _ (by decide)
  have lb5 : b / 32 % 2 < 2 := Nat.mod_lt _ (by decide)
  have lb6 : b / 64 % 2 < 2 := Nat.mod_lt _ (by decide)
  have lb7 : b / 128 % 2 < 2 := Nat.mod_lt _ (by decide)
  have lb8 : b / 256 % 2 < 2 := Nat.mod_lt _ (by decide)
  have lb9 : b / 512 % 2 < 2 := Nat.mod_lt _ (by decide)
  rw [x0]
  rw [x1]
  rw [x2]
  rw [x3]
  rw [x4]
  rw [x5]
  rw [x6]
  rw [x7]
  rw [x8]
  rw [x9]
  generalize a % 2 = a0 at *
  generalize a / 2 % 2 = a1 at *
  generalize a / 4 % 2 = a2 at *
  generalize a / 8 % 2 = a3 at *
  generalize a / 16 % 2 = a4 at *
  generalize a / 32 % 2 = a5 at *
  generalize a / 64 % 2 = a6 at *
  generalize a / 128 % 2 = a7 at *
  generalize a / 256 % 2 = a8 at *
  generalize a / 512 % 2 = a9 at *
  generalize b % 2 = b0 at *
  generalize b / 2 % 2 = b1 at *
  generalize b / 4 % 2 = b2 at *
  generalize b / 8 % 2 = b3 at *
  generalize b / 16 % 2 = b4 at *
  generalize b / 32 % 2 = b5 at *
  generalize b / 64 % 2 = b6 at *
  generalize b / 128 % 2 = b7 at *
  generalize b / 256 % 2 = b8 at *
  generalize b / 512 % 2 = b9 at *
  clear x0 x1 x2 x3 x4 x5 x6 x7 x8 x9
  by_cases e0 : a0 = b0
  · rw [if_neg (show ¬ (a0 + b0) % 2 = 1 from by omega)]
    subst e0
    by_cases e1 : a1 = b1
    · rw [if_neg (show ¬ (a1 + b1) % 2 = 1 from by omega)]
      subst e1
      by_cases e2 : a2 = b2
      · rw [if_neg (show ¬ (a2 + b2) % 2 = 1 from by omega)]
        subst e2
        by_cases e3 : a3 = b3
        · rw [if_neg (show ¬ (a3 + b3) % 2 = 1 from by omega)]
          subst e3
          by_cases e4 : a4 = b4
          · rw [if_neg (show ¬ (a4 + b4) % 2 = 1 from by omega)]
            subst e4
            by_cases e5 : a5 = b5
            · rw [if_neg (show ¬ (a5 + b5) % 2 = 1 from by omega)]
              subst e5
              by_cases e6 : a6 = b6
              · rw [if_neg (show ¬ (a6 + b6) % 2 = 1 from by omega)]
                subst e6
                by_cases e7 : a7 = b7
                · rw [if_neg (show ¬ (a7 + b7) % 2 = 1 from by omega)]
                  subst e7
                  by_cases e8 : a8 = b8
                  · rw [if_neg (show ¬ (a8 + b8) % 2 = 1 from by omega)]
                    subst e8
                    by_cases e9 : a9 = b9
                    · rw [if_neg (show ¬ (a9 + b9) % 2 = 1 from by omega)]
                      subst e9
                      rw [Nat.and_zero]
                      constructor
                      · intro _; omega
                      · intro _; rfl
                    · rw [if_pos (show (a9 + b9) % 2 = 1 from by omega), n9]
                      omega
                  · rw [if_pos (show (a8 + b8) % 2 = 1 from by omega), n8]
                    omega
                · rw [if_pos (show (a7 + b7) % 2 = 1 from by omega), n7]
                  omega
              · rw [if_pos (show (a6 + b6) % 2 = 1 from by omega), n6]
                omega
            · rw [if_pos (show (a5 + b5) % 2 = 1 from by omega), n5]
              omega
          · rw [if_pos (show (a4 + b4) % 2 = 1 from by omega), n4]
            omega
        · rw [if_pos (show (a3 + b3) % 2 = 1 from by omega), n3]
          omega
      · rw [if_pos (show (a2 + b2) % 2 = 1 from by omega), n2]
        omega
    · rw [if_pos (show (a1 + b1) % 2 = 1 from by omega), n1]
      omega
  · rw [if_pos (show (a0 + b0) % 2 = 1 from by omega), n0]
    omega
theorem g151_ok {a b : Nat} {M : Mem} (ha : a < 1024) (hb : b < 1024) : g_151 (nI a) (nI b) M = some (if key a < key b then 1 else 0) := by
  have r1 := rv_le a
  have r2 := rv_le b
  have p1 := pc_le a
  have p2 := pc_le b
  have g1 : ∀ {x : Nat}, x < 1024 → g_152 (nI x) M = some (nI (pc10 x)) := fun hx => by rw [g152_ok (by omega), pcn_10 hx]
  unfold g_151
  rw [g1 ha, Option.bind_some, g1 hb, Option.bind_some]
  by_cases hp : pc10 a = pc10 b
  · rw [if_pos (show nI (pc10 a) = nI (pc10 b) from by rw [hp]), nx_x, low_ok _ (Nat.xor_lt_two_pow (n := 10) ha hb), nx_a]
    have l := lexo_ok ha hb hp
    have hlt : a &&& lowd (a ^^^ b) < 1024 := Nat.lt_of_le_of_lt Nat.and_le_left ha
    by_cases h : a &&& lowd (a ^^^ b) = 0
    · rw [if_pos (show nI (a &&& lowd (a ^^^ b)) = 0 from by rw [h]; rfl), if_neg (l.mp h)]
    · rw [if_neg (nI_ne0 (by omega) (by omega)), if_pos (Classical.not_not.mp (fun q => h (l.mpr q)))]
  · rw [if_neg (show ¬ nI (pc10 a) = nI (pc10 b) from fun q => hp ((nI_eq (by omega) (by omega)).mp q)), Option.bind_some, Option.bind_some]
    unfold key
    by_cases h : pc10 b ≤ pc10 a
    · rw [if_pos (nI_le h (by omega)), if_neg (by omega)]
    · rw [if_neg (nI_ge (by omega) (by omega)), if_pos (by omega)]
end MMYB
