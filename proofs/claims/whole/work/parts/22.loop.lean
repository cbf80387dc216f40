/-! THE LAW's LOOP over pure programs: from pairs of calls that agree, and keep V, to law_goal (written by wip/whole/gen/loop_part.py). -/
section MMV
theorem ix_nI {α : Type} {a n : Nat} (h : a < n) (hn : n < 2 ^ 31) (T : Nat → Option α) : ix (nI a) n T = T a := by
  unfold ix
  rw [if_neg (nI_in h hn), nI_clamp (by omega)]
/-- a wrapper and the reference's call: they agree, and V holds behind them -/
def pW (V : Mem → Prop) (g : Option (Int32 × Nat × Mem × LgM)) (h : Mem → Option (Int32 × Mem)) : Prop := ∃ v w, g = some v ∧ h v.2.2.1 = some w ∧ w.2 20 0 = v.1 ∧ (v.1 = 0 → lg_cmp (v.2.2.2 37 0) w.1.toInt64 = 0) ∧ v.2.1 ≤ 1 ∧ V w.2
def p_0 (V : Mem → Prop) : Prop := ∀ (a b c d : Int32) (I : Mem) (LG : LgM), V I → pW V (g_1 a b c d I LG) (g_108 a b c d)
def p_1 (V : Mem → Prop) : Prop := ∀ (a : Int32) (I : Mem) (LG : LgM), V I → pW V (g_2 a I LG) (g_110 a)
def p_2 (V : Mem → Prop) : Prop := ∀ (I : Mem) (LG : LgM), V I → pW V (g_3  I LG) (g_112 )
def p_3 (V : Mem → Prop) : Prop := ∀ (a : Int32) (I : Mem) (LG : LgM), V I → pW V (g_4 a I LG) (g_133 a)
def p_4 (V : Mem → Prop) : Prop := ∀ (a : Int32) (I : Mem) (LG : LgM), V I → pW V (g_5 a I LG) (g_134 a)
def p_5 (V : Mem → Prop) : Prop := ∀ (I : Mem) (LG : LgM), V I → pW V (g_6  I LG) (g_135 )
def p_6 (V : Mem → Prop) : Prop := ∀ (a b : Int32) (I : Mem) (LG : LgM), V I → pW V (g_7 a b I LG) (g_142 a b)
def p_7 (V : Mem → Prop) : Prop := ∀ (a b : Int32) (I : Mem) (LG : LgM), V I → pW V (g_8 a b I LG) (g_143 a b)
def p_8 (V : Mem → Prop) : Prop := ∀ (I : Mem) (LG : LgM), V I → pW V (g_9  I LG) (g_144 )
def p_10 (V : Mem → Prop) : Prop := ∀ (a : Int32) (I : Mem) (LG : LgM), a = 0 ∨ a = 1 → V I → pW V (g_10 a I LG) (g_148 a)
def p_11 (V : Mem → Prop) : Prop := ∀ (a : Int32) (I : Mem) (LG : LgM), V I → pW V (g_11 a I LG) (g_153 a)
def p_12 (V : Mem → Prop) : Prop := ∀ (a : Int32) (I : Mem) (LG : LgM), V I → pW V (g_12 a I LG) (g_154 a)
def p_13 (V : Mem → Prop) : Prop := ∀ (I : Mem) (LG : LgM), V I → pW V (g_13  I LG) (g_155 )
def p_14 (V : Mem → Prop) : Prop := ∀ (a : Int32) (I : Mem) (LG : LgM), V I → pW V (g_14 a I LG) (g_161 a)
def p_9 (V : Mem → Prop) : Prop := ∀ I : Mem, V I → ∃ (a : Int32) (w : Int32 × Mem), g_22 I = some a ∧ g_147 I = some w ∧ a = w.1 ∧ V w.2
def p_15 (V : Mem → Prop) : Prop := ∀ I : Mem, V I → ∃ v w : Int32 × Mem, g_23 I = some v ∧ g_162 v.2 = some w ∧ v.1 = w.1 ∧ V w.2
def p_16 (V : Mem → Prop) : Prop := ∀ (a : Int32) (I : Mem), V I → ∃ (v : Int32) (w : Int32 × Mem), g_25 a I = some v ∧ g_163 a I = some w ∧ v = w.1 ∧ V w.2
def pairs (V : Mem → Prop) : Prop := p_0 V ∧ p_1 V ∧ p_2 V ∧ p_3 V ∧ p_4 V ∧ p_5 V ∧ p_6 V ∧ p_7 V ∧ p_8 V ∧ p_9 V ∧ p_10 V ∧ p_11 V ∧ p_12 V ∧ p_13 V ∧ p_14 V ∧ p_15 V ∧ p_16 V
theorem law_c {L i : Nat} (hL : L ≤ 10000) (hi : i ≤ 10000) : (Int32.ofNat L - (5 : Int32)) < nI i ↔ L < i + 5 := by
  have e0 : (Int32.ofNat L).toInt = (L : Int) := nI_toInt (n := L) (by omega)
  have e5 : ((5 : Int32)).toInt = 5 := by decide
  have e1 : (Int32.ofNat L - (5 : Int32)).toInt = (L : Int) - 5 := pk_sub_toInt (a := L) (b := 5) (by omega) (by omega)
  rw [Int32.lt_iff_toInt_lt, e1, nI_toInt (by omega)]
  omega
theorem nI_p (a b : Nat) {k : Int32} (hk : k = nI b) : nI a + k = nI (a + b) := by rw [hk]; exact nI_add a b
set_option maxHeartbeats 4000000 in
theorem law_step {V : Mem → Prop} (hp : pairs V) {E : mm_V} (hL : E.1.1 ≤ 2560) {i c : Nat} {I : Mem} {LG : LgM} (hi : i + 5 ≤ E.1.1) (hV : V I) : ∃ (J : Mem) (LG' : LgM) (t : Nat), t ≤ 1 ∧ V J ∧ ∀ n, l_0_23 E (n + 1) (nI i) I LG c = l_0_23 E n (nI (i + 5)) J LG' (c + t) := by
  obtain ⟨q0, q1, q2, q3, q4, q5, q6, q7, q8, q9, q10, q11, q12, q13, q14, q15, q16⟩ := hp
  have hc : ¬ (Int32.ofNat E.1.1 - (5 : Int32)) < nI i := by rw [law_c (by omega) (by omega)]; omega
  have x1 : nI i + 1 = nI (i + 1) := nI_p i 1 rfl
  have x2 : nI i + 2 = nI (i + 2) := nI_p i 2 rfl
  have x3 : nI i + 3 = nI (i + 3) := nI_p i 3 rfl
  have x4 : nI i + 4 = nI (i + 4) := nI_p i 4 rfl
  have x5 : nI i + 5 = nI (i + 5) := nI_p i 5 rfl
  have a0 : ∀ {α : Type} (T : Nat → Option α), ix (nI i) E.1.1 T = T i := fun T => ix_nI (by omega) (by omega) T
  have a1 : ∀ {α : Type} (T : Nat → Option α), ix (nI (i + 1)) E.1.1 T = T (i + 1) := fun T => ix_nI (by omega) (by omega) T
  have a2 : ∀ {α : Type} (T : Nat → Option α), ix (nI (i + 2)) E.1.1 T = T (i + 2) := fun T => ix_nI (by omega) (by omega) T
  have a3 : ∀ {α : Type} (T : Nat → Option α), ix (nI (i + 3)) E.1.1 T = T (i + 3) := fun T => ix_nI (by omega) (by omega) T
  have a4 : ∀ {α : Type} (T : Nat → Option α), ix (nI (i + 4)) E.1.1 T = T (i + 4) := fun T => ix_nI (by omega) (by omega) T
  have th : ∀ J : Mem, g_107 J = some (J 20 0) := fun J => rfl
  have un : ∀ n, l_0_23 E (n + 1) (nI i) I LG c = _ := fun n => by rw [l_0_23, if_neg hc, a0]
  by_cases h0 : E.1.2 i &&& (31 : Int32) = 0
  · obtain ⟨v, w, e1, e2, e3, e4, e5, e6⟩ := q0 (E.1.2 (i + 1)) (E.1.2 (i + 2)) (E.1.2 (i + 3)) (E.1.2 (i + 4)) I LG hV
    refine ⟨w.2, v.2.2.2, v.2.1, e5, e6, fun n => ?_⟩
    rw [un, if_pos h0]
    simp only [x1, x2, x3, x4, a1, a2, a3, a4, e1, Option.bind_some, e2, th, e3, if_true, x5]
    by_cases hv : v.1 = 0
    · rw [if_pos hv, if_pos (e4 hv)]
    · rw [if_neg hv]
  by_cases h1 : E.1.2 i &&& (31 : Int32) = 1
  · obtain ⟨v, w, e1, e2, e3, e4, e5, e6⟩ := q1 (E.1.2 (i + 1)) I LG hV
    refine ⟨w.2, v.2.2.2, v.2.1, e5, e6, fun n => ?_⟩
    rw [un, if_neg h0, if_pos h1]
    simp only [x1, a1, a2, a3, a4, e1, Option.bind_some, e2, th, e3, if_true, x5]
    by_cases hv : v.1 = 0
    · rw [if_pos hv, if_pos (e4 hv)]
    · rw [if_neg hv]
  by_cases h2 : E.1.2 i &&& (31 : Int32) = 2
  · obtain ⟨v, w, e1, e2, e3, e4, e5, e6⟩ := q2  I LG hV
    refine ⟨w.2, v.2.2.2, v.2.1, e5, e6, fun n => ?_⟩
    rw [un, if_neg h0, if_neg h1, if_pos h2]
    simp only [a1, a2, a3, a4, e1, Option.bind_some, e2, th, e3, if_true, x5]
    by_cases hv : v.1 = 0
    · rw [if_pos hv, if_pos (e4 hv)]
    · rw [if_neg hv]
  by_cases h3 : E.1.2 i &&& (31 : Int32) = 3
  · obtain ⟨v, w, e1, e2, e3, e4, e5, e6⟩ := q3 (E.1.2 (i + 1)) I LG hV
    refine ⟨w.2, v.2.2.2, v.2.1, e5, e6, fun n => ?_⟩
    rw [un, if_neg h0, if_neg h1, if_neg h2, if_pos h3]
    simp only [x1, a1, a2, a3, a4, e1, Option.bind_some, e2, th, e3, if_true, x5]
    by_cases hv : v.1 = 0
    · rw [if_pos hv, if_pos (e4 hv)]
    · rw [if_neg hv]
  by_cases h4 : E.1.2 i &&& (31 : Int32) = 4
  · obtain ⟨v, w, e1, e2, e3, e4, e5, e6⟩ := q4 (E.1.2 (i + 1)) I LG hV
    refine ⟨w.2, v.2.2.2, v.2.1, e5, e6, fun n => ?_⟩
    rw [un, if_neg h0, if_neg h1, if_neg h2, if_neg h3, if_pos h4]
    simp only [x1, a1, a2, a3, a4, e1, Option.bind_some, e2, th, e3, if_true, x5]
    by_cases hv : v.1 = 0
    · rw [if_pos hv, if_pos (e4 hv)]
    · rw [if_neg hv]
  by_cases h5 : E.1.2 i &&& (31 : Int32) = 5
  · obtain ⟨v, w, e1, e2, e3, e4, e5, e6⟩ := q5  I LG hV
    refine ⟨w.2, v.2.2.2, v.2.1, e5, e6, fun n => ?_⟩
    rw [un, if_neg h0, if_neg h1, if_neg h2, if_neg h3, if_neg h4, if_pos h5]
    simp only [a1, a2, a3, a4, e1, Option.bind_some, e2, th, e3, if_true, x5]
    by_cases hv : v.1 = 0
    · rw [if_pos hv, if_pos (e4 hv)]
    · rw [if_neg hv]
  by_cases h6 : E.1.2 i &&& (31 : Int32) = 6
  · obtain ⟨v, w, e1, e2, e3, e4, e5, e6⟩ := q6 (E.1.2 (i + 1)) (E.1.2 (i + 2)) I LG hV
    refine ⟨w.2, v.2.2.2, v.2.1, e5, e6, fun n => ?_⟩
    rw [un, if_neg h0, if_neg h1, if_neg h2, if_neg h3, if_neg h4, if_neg h5, if_pos h6]
    simp only [x1, x2, a1, a2, a3, a4, e1, Option.bind_some, e2, th, e3, if_true, x5]
    by_cases hv : v.1 = 0
    · rw [if_pos hv, if_pos (e4 hv)]
    · rw [if_neg hv]
  by_cases h7 : E.1.2 i &&& (31 : Int32) = 7
  · obtain ⟨v, w, e1, e2, e3, e4, e5, e6⟩ := q7 (E.1.2 (i + 1)) (E.1.2 (i + 2)) I LG hV
    refine ⟨w.2, v.2.2.2, v.2.1, e5, e6, fun n => ?_⟩
    rw [un, if_neg h0, if_neg h1, if_neg h2, if_neg h3, if_neg h4, if_neg h5, if_neg h6, if_pos h7]
    simp only [x1, x2, a1, a2, a3, a4, e1, Option.bind_some, e2, th, e3, if_true, x5]
    by_cases hv : v.1 = 0
    · rw [if_pos hv, if_pos (e4 hv)]
    · rw [if_neg hv]
  by_cases h8 : E.1.2 i &&& (31 : Int32) = 8
  · obtain ⟨v, w, e1, e2, e3, e4, e5, e6⟩ := q8  I LG hV
    refine ⟨w.2, v.2.2.2, v.2.1, e5, e6, fun n => ?_⟩
    rw [un, if_neg h0, if_neg h1, if_neg h2, if_neg h3, if_neg h4, if_neg h5, if_neg h6, if_neg h7, if_pos h8]
    simp only [a1, a2, a3, a4, e1, Option.bind_some, e2, th, e3, if_true, x5]
    by_cases hv : v.1 = 0
    · rw [if_pos hv, if_pos (e4 hv)]
    · rw [if_neg hv]
  by_cases h9 : E.1.2 i &&& (31 : Int32) = 9
  · obtain ⟨a, w, e1, e2, e3, e4⟩ := q9 I hV
    refine ⟨w.2, LG, 0, Nat.zero_le _, e4, fun n => ?_⟩
    rw [un, if_neg h0, if_neg h1, if_neg h2, if_neg h3, if_neg h4, if_neg h5, if_neg h6, if_neg h7, if_neg h8, if_pos h9, e1]
    simp only [Option.bind_some, e2, e3, if_true, x5, Nat.add_zero]
  by_cases h10 : E.1.2 i &&& (31 : Int32) = 10
  · by_cases hz : E.1.2 (i + 1) = 0
    · obtain ⟨v, w, e1, e2, e3, e4, e5, e6⟩ := q10 0 I LG (Or.inl rfl) hV
      refine ⟨w.2, v.2.2.2, v.2.1, e5, e6, fun n => ?_⟩
      rw [un, if_neg h0, if_neg h1, if_neg h2, if_neg h3, if_neg h4, if_neg h5, if_neg h6, if_neg h7, if_neg h8, if_neg h9, if_pos h10, x1, a1, if_pos hz, e1]
      simp only [Option.bind_some, a1]
      rw [if_pos hz, e2]
      simp only [Option.bind_some, th, e3, if_true, x5]
      by_cases hv : v.1 = 0
      · rw [if_pos hv, if_pos (e4 hv)]
      · rw [if_neg hv]
    · obtain ⟨v, w, e1, e2, e3, e4, e5, e6⟩ := q10 1 I LG (Or.inr rfl) hV
      refine ⟨w.2, v.2.2.2, v.2.1, e5, e6, fun n => ?_⟩
      rw [un, if_neg h0, if_neg h1, if_neg h2, if_neg h3, if_neg h4, if_neg h5, if_neg h6, if_neg h7, if_neg h8, if_neg h9, if_pos h10, x1, a1, if_neg hz, e1]
      simp only [Option.bind_some, a1]
      rw [if_neg hz, e2]
      simp only [Option.bind_some, th, e3, if_true, x5]
      by_cases hv : v.1 = 0
      · rw [if_pos hv, if_pos (e4 hv)]
      · rw [if_neg hv]
  by_cases h11 : E.1.2 i &&& (31 : Int32) = 11
  · obtain ⟨v, w, e1, e2, e3, e4, e5, e6⟩ := q11 (E.1.2 (i + 1)) I LG hV
    refine ⟨w.2, v.2.2.2, v.2.1, e5, e6, fun n => ?_⟩
    rw [un, if_neg h0, if_neg h1, if_neg h2, if_neg h3, if_neg h4, if_neg h5, if_neg h6, if_neg h7, if_neg h8, if_neg h9, if_neg h10, if_pos h11]
    simp only [x1, a1, a2, a3, a4, e1, Option.bind_some, e2, th, e3, if_true, x5]
    by_cases hv : v.1 = 0
    · rw [if_pos hv, if_pos (e4 hv)]
    · rw [if_neg hv]
  by_cases h12 : E.1.2 i &&& (31 : Int32) = 12
  · obtain ⟨v, w, e1, e2, e3, e4, e5, e6⟩ := q12 (E.1.2 (i + 1)) I LG hV
    refine ⟨w.2, v.2.2.2, v.2.1, e5, e6, fun n => ?_⟩
    rw [un, if_neg h0, if_neg h1, if_neg h2, if_neg h3, if_neg h4, if_neg h5, if_neg h6, if_neg h7, if_neg h8, if_neg h9, if_neg h10, if_neg h11, if_pos h12]
    simp only [x1, a1, a2, a3, a4, e1, Option.bind_some, e2, th, e3, if_true, x5]
    by_cases hv : v.1 = 0
    · rw [if_pos hv, if_pos (e4 hv)]
    · rw [if_neg hv]
  by_cases h13 : E.1.2 i &&& (31 : Int32) = 13
  · obtain ⟨v, w, e1, e2, e3, e4, e5, e6⟩ := q13  I LG hV
    refine ⟨w.2, v.2.2.2, v.2.1, e5, e6, fun n => ?_⟩
    rw [un, if_neg h0, if_neg h1, if_neg h2, if_neg h3, if_neg h4, if_neg h5, if_neg h6, if_neg h7, if_neg h8, if_neg h9, if_neg h10, if_neg h11, if_neg h12, if_pos h13]
    simp only [a1, a2, a3, a4, e1, Option.bind_some, e2, th, e3, if_true, x5]
    by_cases hv : v.1 = 0
    · rw [if_pos hv, if_pos (e4 hv)]
    · rw [if_neg hv]
  by_cases h14 : E.1.2 i &&& (31 : Int32) = 14
  · obtain ⟨v, w, e1, e2, e3, e4, e5, e6⟩ := q14 (E.1.2 (i + 1)) I LG hV
    refine ⟨w.2, v.2.2.2, v.2.1, e5, e6, fun n => ?_⟩
    rw [un, if_neg h0, if_neg h1, if_neg h2, if_neg h3, if_neg h4, if_neg h5, if_neg h6, if_neg h7, if_neg h8, if_neg h9, if_neg h10, if_neg h11, if_neg h12, if_neg h13, if_pos h14]
    simp only [x1, a1, a2, a3, a4, e1, Option.bind_some, e2, th, e3, if_true, x5]
    by_cases hv : v.1 = 0
    · rw [if_pos hv, if_pos (e4 hv)]
    · rw [if_neg hv]
  by_cases h15 : E.1.2 i &&& (31 : Int32) = 15
  · obtain ⟨v, w, e1, e2, e3, e4⟩ := q15 I hV
    refine ⟨w.2, LG, 0, Nat.zero_le _, e4, fun n => ?_⟩
    rw [un, if_neg h0, if_neg h1, if_neg h2, if_neg h3, if_neg h4, if_neg h5, if_neg h6, if_neg h7, if_neg h8, if_neg h9, if_neg h10, if_neg h11, if_neg h12, if_neg h13, if_neg h14, if_pos h15, e1]
    simp only [Option.bind_some, e2, e3, if_true, x5, Nat.add_zero]
  by_cases h16 : E.1.2 i &&& (31 : Int32) = 16
  · obtain ⟨v, w, e1, e2, e3, e4⟩ := q16 (E.1.2 (i + 1)) I hV
    refine ⟨w.2, LG, 0, Nat.zero_le _, e4, fun n => ?_⟩
    rw [un, if_neg h0, if_neg h1, if_neg h2, if_neg h3, if_neg h4, if_neg h5, if_neg h6, if_neg h7, if_neg h8, if_neg h9, if_neg h10, if_neg h11, if_neg h12, if_neg h13, if_neg h14, if_neg h15, if_pos h16, x1, a1, e1]
    simp only [Option.bind_some, a1, e2, e3, if_true, x5, Nat.add_zero]
  refine ⟨I, LG, 0, Nat.zero_le _, hV, fun n => ?_⟩
  rw [un, if_neg h0, if_neg h1, if_neg h2, if_neg h3, if_neg h4, if_neg h5, if_neg h6, if_neg h7, if_neg h8, if_neg h9, if_neg h10, if_neg h11, if_neg h12, if_neg h13, if_neg h14, if_neg h15, if_neg h16, x5]
  rfl
theorem law_run {V : Mem → Prop} (hp : pairs V) {E : mm_V} (hL : E.1.1 ≤ 2560) : ∀ (m i c : Nat) (I : Mem) (LG : LgM), E.1.1 < i + 5 * m + 5 → i ≤ E.1.1 + 5 → V I → ∃ (n t : Nat) (J : Mem) (LG' : LgM), t ≤ m ∧ l_0_23 E n (nI i) I LG c = some (1, c + t, J, LG') := by
  intro m
  induction m with
  | zero =>
    intro i c I LG h1 h2 hV
    refine ⟨1, 0, I, LG, Nat.le_refl _, ?_⟩
    rw [l_0_23, if_pos ((law_c (by omega) (by omega)).mpr (by omega))]
    rfl
  | succ m ih =>
    intro i c I LG h1 h2 hV
    by_cases hi : i + 5 ≤ E.1.1
    · obtain ⟨J, LG', t, ht, hJ, hs⟩ := law_step hp hL (c := c) (LG := LG) hi hV
      obtain ⟨n, t', J', LG'', h3, h4⟩ := ih (i + 5) (c + t) J LG' (by omega) (by omega) hJ
      refine ⟨n + 1, t + t', J', LG'', by omega, ?_⟩
      rw [hs, h4, Nat.add_assoc]
    · refine ⟨1, 0, I, LG, Nat.zero_le _, ?_⟩
      rw [l_0_23, if_pos ((law_c (by omega) (by omega)).mpr (by omega))]
      rfl
theorem law_pure {V : Mem → Prop} (hp : pairs V) (h0 : V MI0) : law_goal := by
  intro E hL hE
  obtain ⟨n, t, J, LG', h1, h2⟩ := law_run hp hL 512 0 0 MI0 LG0 (by omega) (by omega) h0
  refine ⟨SH, (J, RF0, LG'), 38 + (0 + t), 10462 + 6 * (0 + t), ?_, by omega, by omega⟩
  exact st_law (d_0_23 hE n 0 MI0 LG0 0 _ _ h2 rfl)
end MMV
