/-! THE TIE of the class and the reference: INV, rules of lockstep, and the pairs that need no loop (written by wip/whole/gen/inv_part.py). -/
section MMW
/-- a byte, signed in the class and unsigned in the reference -/
def byt (x y : Int32) : Prop := ∃ b : Nat, b < 256 ∧ y = nI b ∧ x = (nI b).toInt8.toInt32
def tT (I M : Mem) : Prop := ∃ n : Nat, n ≤ 2048 ∧ I 2 1 = nI n ∧ M 20 1 = nI n ∧ ∀ i, i < n → byt (I 3 i) (M 21 i)
def tF (I M : Mem) : Prop := I 1 2 = M 20 3 ∧ I 1 3 = M 20 4
/-- an action's kind, place, value -/
def vA (q p v : Int32) : Prop := (q = nI 2 ∧ p = -1 ∧ v = -1) ∨ ∃ p' v' : Nat, p' < 4 ∧ p = nI p' ∧ v = nI v' ∧ (q = nI 0 ∧ v' ≤ 99 ∨ q = nI 1 ∧ v' ≤ 9)
def rA (t : Nat) (ow : Nat → Nat) (I M : Mem) (k : Nat) : Prop := ow k < t ∧ I 5 k = nI (ow k) ∧ M 22 k = nI (ow k) ∧ I 6 k = M 23 k ∧ I 7 k = M 24 k ∧ I 8 k = M 25 k ∧ vA (M 23 k) (M 24 k) (M 25 k)
/-- a term's thread, name, number -/
def vT (h w v : Int32) : Prop := ∃ w' v' : Nat, w = nI w' ∧ v = nI v' ∧ v' ≤ 99 ∧ (h = -1 ∧ w' < 4 ∨ ∃ h' : Nat, h' < 4 ∧ h = nI h' ∧ w' ≤ 9)
def rTm (I M : Mem) (k : Nat) : Prop := I 9 k = M 26 k ∧ I 10 k = M 27 k ∧ I 11 k = M 28 k ∧ vT (M 26 k) (M 27 k) (M 28 k)
/-- the program's rows on both sides -/
def PR (t a m c : Nat) (ow : Nat → Nat) (I M : Mem) : Prop := (t ≤ 4 ∧ a ≤ 24 ∧ m ≤ 16 ∧ c ≤ 2) ∧ (I 4 0 = nI t ∧ M 20 6 = nI t) ∧ (I 4 1 = nI a ∧ M 20 7 = nI a) ∧ (I 4 2 = nI m ∧ M 20 8 = nI m) ∧ (I 4 3 = nI c ∧ M 20 9 = nI c) ∧ (∀ k, k < a → rA t ow I M k) ∧ (∀ k, k + 1 < a → ow k ≤ ow (k + 1)) ∧ (∀ k, k < m → rTm I M k)
def tP (I M : Mem) : Prop := ∃ (t a m c : Nat) (ow : Nat → Nat), PR t a m c ow I M ∧ M 20 5 = if t = 0 then 0 else 1
def tE (I M : Mem) : Prop := ∃ e : Nat, e ≤ 12 ∧ I 12 3 = nI e ∧ M 20 21 = nI e ∧ ∀ k, k < e → I 13 k = M 29 k ∧ ∃ q : Nat, q ≤ 10 ∧ M 29 k = nI q
def tO (I M : Mem) : Prop := ∃ p : Nat, p ≤ 448 ∧ I 18 1 = nI p ∧ M 20 23 = nI p ∧ ∀ k, k < p → ∃ b : Nat, b < 128 ∧ I 19 k = nI b ∧ M 30 k = nI b
def pc10 (n : Nat) : Nat := n % 2 + n / 2 % 2 + n / 4 % 2 + n / 8 % 2 + n / 16 % 2 + n / 32 % 2 + n / 64 % 2 + n / 128 % 2 + n / 256 % 2 + n / 512 % 2
/-- the search: the known sets, and the set that is asked -/
def SI (g k : Nat) (M : Mem) : Prop := ∃ L : Nat → Nat, (∀ i, i < k → M 31 i = nI (L i) ∧ L i < 2 ^ g) ∧ (∀ i j, i < k → j < k → i ≠ j → L i &&& L j ≠ L i) ∧ (M 20 27 = -1 ∨ ∃ s : Nat, s < 2 ^ g ∧ M 20 27 = nI s ∧ ∀ i, i < k → L i &&& s ≠ L i ∧ pc10 (L i) ≤ pc10 s)
def tS (I M : Mem) : Prop := ∃ k : Nat, k ≤ 252 ∧ I 16 1 = nI k ∧ M 20 29 = nI k ∧ (∀ i, i < k → I 17 i = M 31 i) ∧ I 16 2 = M 20 28 ∧ ((M 20 25 = 0 ∧ I 16 3 = -1) ∨ (M 20 25 = 1 ∧ I 16 3 = M 20 27 ∧ ∃ g : Nat, g ≤ 10 ∧ I 16 4 = nI g ∧ M 20 26 = nI g ∧ SI g k M))
def INV (I : Mem) : Prop := tT I I ∧ tF I I ∧ tP I I ∧ tE I I ∧ tO I I ∧ tS I I
theorem INV0 : INV MI0 :=
  ⟨⟨0, Nat.zero_le _, rfl, rfl, fun i h => absurd h (Nat.not_lt_zero i)⟩, ⟨rfl, rfl⟩,
    ⟨0, 0, 0, 0, fun _ => 0, ⟨⟨Nat.zero_le _, Nat.zero_le _, Nat.zero_le _, Nat.zero_le _⟩, ⟨rfl, rfl⟩, ⟨rfl, rfl⟩, ⟨rfl, rfl⟩, ⟨rfl, rfl⟩, fun k h => absurd h (Nat.not_lt_zero k), fun k h => absurd h (Nat.not_lt_zero _), fun k h => absurd h (Nat.not_lt_zero k)⟩, rfl⟩,
    ⟨0, Nat.zero_le _, rfl, rfl, fun k h => absurd h (Nat.not_lt_zero k)⟩, ⟨0, Nat.zero_le _, rfl, rfl, fun k h => absurd h (Nat.not_lt_zero k)⟩,
    ⟨0, Nat.zero_le _, rfl, rfl, fun k h => absurd h (Nat.not_lt_zero k), rfl, Or.inl ⟨rfl, rfl⟩⟩⟩
theorem k_ge {x y : Int32} {a b : Nat} (hx : x = nI b) (hy : y = nI a) (h : a < b) (hb : b < 2 ^ 31) : ¬ x ≤ y := by subst hx hy; exact nI_ge h hb
theorem k_le {x y : Int32} {a b : Nat} (hx : x = nI a) (hy : y = nI b) (h : a ≤ b) (hb : b < 2 ^ 31) : x ≤ y := by subst hx hy; exact nI_le h hb
theorem k_lt {x y : Int32} {a b : Nat} (hx : x = nI a) (hy : y = nI b) (h : a < b) (hb : b < 2 ^ 31) : x < y := by subst hx hy; exact nI_lt h hb
theorem k_nlt {x y : Int32} {a b : Nat} (hx : x = nI a) (hy : y = nI b) (h : b ≤ a) (hb : a < 2 ^ 31) : ¬ x < y := by subst hx hy; exact nI_nlt h hb
theorem s_10 : ((1 : Int32) = 0) = False := eq_false (by decide)
theorem s_n10 : (nI 1 = 0) = False := eq_false (by decide)
theorem s_n00 : (nI 0 = 0) = True := eq_true (by decide)
theorem s_a : ((-1 : Int32) = 10) = False := eq_false (by decide)
theorem s_b : ((-1 : Int32) = 32) = False := eq_false (by decide)
theorem s_c : ((0 : Int32) ≤ -1) = False := eq_false (by decide)
theorem s_d : ((-1 : Int32) < 0) = True := eq_true (by decide)
theorem s_e : ((-1 : Int32) = -1) = True := eq_true rfl
theorem nr0 {α : Type} (t : Option α) : nr .boolean 0 t = t := by
  unfold nr
  rw [if_pos (by first | rfl | decide | decide +kernel)]
theorem nr1 {α : Type} (t : Option α) : nr .boolean 1 t = t := by
  unfold nr
  rw [if_pos (by first | rfl | decide | decide +kernel)]
theorem lg_self (x : Int64) : lg_cmp x x = 0 := by
  unfold lg_cmp
  simp
/-- a pair whose calls both come back -/
theorem pw_ok {V : Mem → Prop} {g : Option (Int32 × Nat × Mem × LgM)} {h : Mem → Option (Int32 × Mem)} {J K : Mem} {r : Int32} {LG : LgM} (e : g = some (0, 0, J, mm_up LG 37 0 r.toInt64)) (e2 : h J = some (r, K)) (h0 : K 20 0 = 0) (hV : V K) : pW V g h :=
  ⟨_, _, e, e2, h0, fun _ => lg_self r.toInt64, Nat.zero_le 1, hV⟩
/-- a pair whose calls both throw -/
theorem pw_ex {V : Mem → Prop} {g : Option (Int32 × Nat × Mem × LgM)} {h : Mem → Option (Int32 × Mem)} {J K : Mem} {c z : Int32} {LG : LgM} (hc : ¬ c = 0) (e : g = some (c, 1, J, LG)) (e2 : h J = some (z, K)) (h0 : K 20 0 = c) (hV : V K) : pW V g h :=
  ⟨_, _, e, e2, h0, fun q => absurd q hc, Nat.le_refl 1, hV⟩
theorem cLe {x y : Int32} {a b : Nat} (hx : x = nI a) (hy : y = nI b) (ha : a < 2 ^ 31) (hb : b < 2 ^ 31) : x ≤ y ↔ a ≤ b := by subst hx hy; exact nI_leI ha hb
theorem cLt {x y : Int32} {a b : Nat} (hx : x = nI a) (hy : y = nI b) (ha : a < 2 ^ 31) (hb : b < 2 ^ 31) : x < y ↔ a < b := by subst hx hy; exact nI_ltI ha hb
theorem cEq {x y : Int32} {a b : Nat} (hx : x = nI a) (hy : y = nI b) (ha : a < 2 ^ 31) (hb : b < 2 ^ 31) : x = y ↔ a = b := by subst hx hy; exact nI_eq ha hb
theorem up_same {f : Mem} {k j : Nat} {x : Int32} : mm_up f k j x k j = x := by rw [mm_up_at, if_pos rfl]
theorem up_other {f : Mem} {k j b : Nat} {x : Int32} (h : b ≠ j) : mm_up f k j x k b = f k b := by rw [mm_up_at, if_neg h]
/-- a parameter that a table of n rows has: below 0, from n on, or a row -/
theorem in_range (x : Int32) {n : Nat} (hn : n < 2 ^ 31) (h : ¬ x < 0) (h2 : ¬ nI n ≤ x) : ∃ j : Nat, j < n ∧ x = nI j := by
  rcases pk_ix x hn with h1 | h1 | h1
  · exact absurd h1 h
  · exact absurd h1 h2
  · exact h1
theorem in_range2 (x : Int32) {n : Nat} (hn : n < 2 ^ 31) (h : ¬ x < 0) (h2 : x < nI n) : ∃ j : Nat, j < n ∧ x = nI j := in_range x hn h (Int32.not_le.mpr h2)
/-- below the reference's own bound n - 1 -/
theorem low_m1 {x : Int32} {n : Nat} (hn : n < 2 ^ 30) (h : ¬ x < 0) : nI n - 1 < x ↔ nI n ≤ x := by
  obtain ⟨j, hj, rfl⟩ := nI_of h
  have e1 : (nI n - (1 : Int32)).toInt = (n : Int) - 1 := pk_sub_toInt (a := n) (b := 1) hn (by omega)
  rw [Int32.lt_iff_toInt_lt, e1, Int32.le_iff_toInt_le, nI_toInt hj, nI_toInt (by omega)]
  omega

theorem pr_3 : p_3 INV := by
  intro a I LG ⟨hT, hF, hP, hE, hO, hS⟩
  by_cases h0 : a = 0
  · refine pw_ok (J := I) (K := mm_up I 20 0 0) (r := I 1 2) (LG := LG) (by unfold g_4 g_67; rw [if_pos h0, if_pos h0]; rfl) ?_ rfl ⟨hT, hF, hP, hE, hO, hS⟩
    unfold g_133
    rw [if_pos h0, hF.1]
  by_cases h1 : a = 1
  · refine pw_ok (J := I) (K := mm_up I 20 0 0) (r := I 1 3) (LG := LG) (by unfold g_4 g_67; rw [if_neg h0, if_pos h1, if_neg h0]; rfl) ?_ rfl ⟨hT, hF, hP, hE, hO, hS⟩
    unfold g_133
    rw [if_neg h0, if_pos h1, hF.2]
  exact pw_ex (V := INV) (J := I) (K := (mm_up (mm_up I 20 0 0) 20 0 (1))) (z := 0) (c := 1) (LG := LG) (by decide) (by unfold g_4 g_67; rw [if_neg h0, if_neg h1]; rfl) (by unfold g_133; rw [if_neg h0, if_neg h1]; rfl) rfl ⟨hT, hF, hP, hE, hO, hS⟩
theorem pr_1 : p_1 INV := by
  intro a I LG ⟨hT, hF, hP, hE, hO, hS⟩
  by_cases h0 : a < 0
  · exact pw_ex (V := INV) (J := I) (K := (mm_up (mm_up I 20 0 0) 20 0 (1))) (z := 0) (c := 1) (LG := LG) (by decide) (by unfold g_2 g_28; rw [if_pos h0]; rfl) (by unfold g_110 g_111; rw [if_pos h0]; rfl) rfl ⟨hT, hF, hP, hE, hO, hS⟩
  by_cases h1 : a ≤ 16
  · have h1' : ¬ (16 : Int32) < a := Int32.not_lt.mpr h1
    obtain ⟨n, hn, t1, t2, t3⟩ := hT
    by_cases h2 : (16 : Int32) ≤ I 2 1
    · have h2' : (16 : Int32) ≤ I 20 1 := by rw [t2, ← t1]; exact h2
      have h16 : 16 ≤ n := (cLe (b := n) (a := 16) rfl t1 (by omega) (by omega)).mp h2
      obtain ⟨j, hj, rfl⟩ := in_range2 a (n := 17) (by omega) h0 (Int32.lt_of_le_of_lt h1 (by decide))
      have e1 : nI n - 16 + nI j = nI (n - 16 + j) := by
        rw [show nI n - (16 : Int32) = nI (n - 16) from pk_sub (a := n) (b := 16) h16, nI_add]
      have e2 : nI n + (nI j - 16) = nI (n - 16 + j) := by
        rw [← e1, Int32.sub_eq_add_neg, Int32.sub_eq_add_neg, Int32.add_assoc, Int32.add_comm (nI j)]
      refine pw_ok (J := mm_up I 2 1 (nI (n - 16 + j))) (K := mm_up (mm_up (mm_up I 2 1 (nI (n - 16 + j))) 20 0 0) 20 1 (nI (n - 16 + j))) (r := nI (n - 16 + j)) (LG := LG) (by unfold g_2 g_28; rw [if_neg h0, if_pos h1, if_pos h2, t1, e1]; rfl) ?_ rfl ⟨⟨n - 16 + j, by omega, rfl, rfl, ?_⟩, hF, hP, hE, hO, hS⟩
      · have t2' : mm_up I 2 1 (nI (n - 16 + j)) 20 1 = nI n := t2
        unfold g_110 g_111
        rw [if_neg h0, if_neg h1', Option.bind_some, if_neg (by decide), t2', if_pos (by rw [← t2]; exact h2'), e2]
      · exact fun i hi => t3 i (by omega)
    · have h2' : ¬ (16 : Int32) ≤ I 20 1 := by rw [t2, ← t1]; exact h2
      have hT : tT I I := ⟨n, hn, t1, t2, t3⟩
      exact pw_ex (V := INV) (J := I) (K := (mm_up (mm_up I 20 0 0) 20 0 (2))) (z := 0) (c := 2) (LG := LG) (by decide) (by unfold g_2 g_28; rw [if_neg h0, if_pos h1, if_neg h2]; rfl) (by unfold g_110 g_111; rw [if_neg h0, if_neg h1']; try simp only [Option.bind_some, nr0, nr1, s_10, s_n10, s_n00, s_a, s_b, s_c, s_d, s_e, ↓reduceIte]; rw [if_neg h2']; rfl) rfl ⟨hT, hF, hP, hE, hO, hS⟩
  · have h1' : (16 : Int32) < a := Int32.not_le.mp h1
    exact pw_ex (V := INV) (J := I) (K := (mm_up (mm_up I 20 0 0) 20 0 (1))) (z := 0) (c := 1) (LG := LG) (by decide) (by unfold g_2 g_28; rw [if_neg h0, if_neg h1]; rfl) (by unfold g_110 g_111; rw [if_neg h0, if_pos h1']; rfl) rfl ⟨hT, hF, hP, hE, hO, hS⟩
theorem pr_4 : p_4 INV := by
  intro a I LG ⟨hT, hF, hP, hE, hO, hS⟩
  by_cases h0 : a < 0
  · exact pw_ex (V := INV) (J := I) (K := (mm_up (mm_up I 20 0 0) 20 0 (1))) (z := 0) (c := 1) (LG := LG) (by decide) (by unfold g_5 g_68; rw [if_pos h0]; rfl) (by unfold g_134 g_111; rw [if_pos h0]; rfl) rfl ⟨hT, hF, hP, hE, hO, hS⟩
  by_cases h1 : a ≤ 10
  · have h1' : ¬ (10 : Int32) < a := Int32.not_lt.mpr h1
    obtain ⟨j, hj, rfl⟩ := in_range2 a (n := 11) (by omega) h0 (Int32.lt_of_le_of_lt h1 (by decide))
    obtain ⟨e, he, t1, t2, t3⟩ := hE
    by_cases h2 : e < 12
    · have c1 : I 12 3 < 12 := (cLt (a := e) (b := 12) t1 rfl (by omega) (by omega)).mpr h2
      have c2 : ¬ (12 : Int32) ≤ I 12 3 := Int32.not_le.mpr c1
      have c3 : ¬ I 20 21 = 12 := fun q => by have := (cEq (a := e) (b := 12) t2 rfl (by omega) (by omega)).mp q; omega
      refine pw_ok (J := mm_up (mm_up I 13 e (nI j)) 12 3 (nI e + 1)) (K := mm_up (mm_up (mm_up (mm_up (mm_up I 13 e (nI j)) 12 3 (nI e + 1)) 20 0 0) 29 e (nI j)) 20 21 (nI e + 1)) (r := nI e + 1) (LG := LG) ?_ ?_ rfl ⟨hT, hF, hP, ⟨e + 1, by omega, nI_1 e, nI_1 e, ?_⟩, hO, hS⟩
      · unfold g_5 g_68
        rw [if_neg h0, if_pos h1, if_pos c1]
        unfold g_69
        rw [if_neg c2, t1, ix_nI h2 (by omega)]
        rfl
      · have t2' : mm_up (mm_up I 13 e (nI j)) 12 3 (nI e + 1) 20 21 = nI e := t2
        unfold g_134 g_111
        rw [if_neg h0, if_neg h1', Option.bind_some, if_neg (by decide), t2', if_neg (by rw [← t2]; exact c3), ix_nI h2 (by omega)]
      · intro k hk
        show mm_up I 13 e (nI j) 13 k = mm_up I 29 e (nI j) 29 k ∧ ∃ q : Nat, q ≤ 10 ∧ mm_up I 29 e (nI j) 29 k = nI q
        by_cases hke : k = e
        · rw [hke, up_same, up_same]
          exact ⟨rfl, j, by omega, rfl⟩
        · rw [up_other hke, up_other hke]
          exact t3 k (by omega)
    · have c1 : ¬ I 12 3 < 12 := fun q => h2 ((cLt (a := e) (b := 12) t1 rfl (by omega) (by omega)).mp q)
      have c3 : I 20 21 = 12 := (cEq (a := e) (b := 12) t2 rfl (by omega) (by omega)).mpr (by omega)
      have hE : tE I I := ⟨e, he, t1, t2, t3⟩
      exact pw_ex (V := INV) (J := I) (K := (mm_up (mm_up I 20 0 0) 20 0 (2))) (z := 0) (c := 2) (LG := LG) (by decide) (by unfold g_5 g_68; rw [if_neg h0, if_pos h1, if_neg c1]; rfl) (by unfold g_134 g_111; rw [if_neg h0, if_neg h1']; try simp only [Option.bind_some, nr0, nr1, s_10, s_n10, s_n00, s_a, s_b, s_c, s_d, s_e, ↓reduceIte]; rw [if_pos c3]; rfl) rfl ⟨hT, hF, hP, hE, hO, hS⟩
  · have h1' : (10 : Int32) < a := Int32.not_le.mp h1
    exact pw_ex (V := INV) (J := I) (K := (mm_up (mm_up I 20 0 0) 20 0 (1))) (z := 0) (c := 1) (LG := LG) (by decide) (by unfold g_5 g_68; rw [if_neg h0, if_neg h1]; rfl) (by unfold g_134 g_111; rw [if_neg h0, if_pos h1']; rfl) rfl ⟨hT, hF, hP, hE, hO, hS⟩
theorem pr_9 : p_9 INV := by
  intro I ⟨hT, hF, hP, hE, hO, k, hk, s1, s2, s3, s4, s5⟩
  rcases s5 with ⟨q1, q2⟩ | ⟨q1, q2, q3⟩
  · refine ⟨I 16 3, (-1, mm_up I 20 0 0), rfl, ?_, q2, hT, hF, hP, hE, hO, k, hk, s1, s2, s3, s4, Or.inl ⟨q1, q2⟩⟩
    unfold g_147
    rw [if_pos q1]
  · refine ⟨I 16 3, (I 20 27, mm_up I 20 0 0), rfl, ?_, q2, hT, hF, hP, hE, hO, k, hk, s1, s2, s3, s4, Or.inr ⟨q1, q2, q3⟩⟩
    unfold g_147
    rw [if_neg (by rw [q1]; decide)]
theorem pr_16 : p_16 INV := by
  intro a I ⟨⟨n, hn, t1, t2, t3⟩, hF, ⟨t, x, m, c, ow, ⟨p0, p1, p2, p3, p4, p5⟩, p6⟩, ⟨e, he, e1, e2, e3⟩, ⟨p, hp, o1, o2, o3⟩, k, hk, s1, s2, s3, s4, s5⟩
  have hV : INV (mm_up I 20 0 0) := ⟨⟨n, hn, t1, t2, t3⟩, hF, ⟨t, x, m, c, ow, ⟨p0, p1, p2, p3, p4, p5⟩, p6⟩, ⟨e, he, e1, e2, e3⟩, ⟨p, hp, o1, o2, o3⟩, k, hk, s1, s2, s3, s4, s5⟩
  unfold g_25 g_163
  by_cases h0 : a = 0
  · rw [if_pos h0, if_pos h0]; exact ⟨_, _, rfl, rfl, by rw [t1, t2], hV⟩
  by_cases h1 : a = 1
  · rw [if_neg h0, if_neg h0, if_pos h1, if_pos h1]; exact ⟨_, _, rfl, rfl, by rw [p1.1, p1.2], hV⟩
  by_cases h2 : a = 2
  · rw [if_neg h0, if_neg h0, if_neg h1, if_neg h1, if_pos h2, if_pos h2]; exact ⟨_, _, rfl, rfl, by rw [p2.1, p2.2], hV⟩
  by_cases h3 : a = 3
  · rw [if_neg h0, if_neg h0, if_neg h1, if_neg h1, if_neg h2, if_neg h2, if_pos h3, if_pos h3]; exact ⟨_, _, rfl, rfl, by rw [p3.1, p3.2], hV⟩
  by_cases h4 : a = 4
  · rw [if_neg h0, if_neg h0, if_neg h1, if_neg h1, if_neg h2, if_neg h2, if_neg h3, if_neg h3, if_pos h4, if_pos h4]; exact ⟨_, _, rfl, rfl, by rw [p4.1, p4.2], hV⟩
  by_cases h5 : a = 5
  · rw [if_neg h0, if_neg h0, if_neg h1, if_neg h1, if_neg h2, if_neg h2, if_neg h3, if_neg h3, if_neg h4, if_neg h4, if_pos h5, if_pos h5]; exact ⟨_, _, rfl, rfl, by rw [e1, e2], hV⟩
  by_cases h6 : a = 6
  · rw [if_neg h0, if_neg h0, if_neg h1, if_neg h1, if_neg h2, if_neg h2, if_neg h3, if_neg h3, if_neg h4, if_neg h4, if_neg h5, if_neg h5, if_pos h6, if_pos h6]; exact ⟨_, _, rfl, rfl, by rw [o1, o2], hV⟩
  by_cases h7 : a = 7
  · rw [if_neg h0, if_neg h0, if_neg h1, if_neg h1, if_neg h2, if_neg h2, if_neg h3, if_neg h3, if_neg h4, if_neg h4, if_neg h5, if_neg h5, if_neg h6, if_neg h6, if_pos h7, if_pos h7]; exact ⟨_, _, rfl, rfl, s4, hV⟩
  rw [if_neg h0, if_neg h0, if_neg h1, if_neg h1, if_neg h2, if_neg h2, if_neg h3, if_neg h3, if_neg h4, if_neg h4, if_neg h5, if_neg h5, if_neg h6, if_neg h6, if_neg h7, if_neg h7]
  exact ⟨_, _, rfl, rfl, rfl, hV⟩
/-- the reference's test of a row's number -/
theorem row_no {x : Int32} {n : Nat} {I : Mem} (hn : n < 2 ^ 30) (h : x < 0 ∨ nI n ≤ x) : g_111 x 0 (nI n - 1) I = some 0 := by
  unfold g_111
  by_cases h0 : x < 0
  · rw [if_pos h0]
  · rw [if_neg h0, if_pos ((low_m1 hn h0).mpr (h.resolve_left h0))]
theorem row_in {x n : Nat} {I : Mem} (hn : n < 2 ^ 30) (h : x < n) : g_111 (nI x) 0 (nI n - 1) I = some 1 := by
  have h0 : ¬ nI x < 0 := nI_pos (by omega)
  unfold g_111
  rw [if_neg h0, if_neg (fun q => by rw [low_m1 hn h0, nI_leI (by omega) (by omega)] at q; omega)]

theorem pr_11 : p_11 INV := by
  intro a I LG hV
  have hV' := hV
  obtain ⟨hT, hF, hP, hE, hO, hS⟩ := hV
  obtain ⟨n, hn, l1, l2, l3, _⟩ := id hS
  by_cases h0 : a < 0
  · exact pw_ex (V := INV) (J := I) (K := (mm_up (mm_up I 20 0 0) 20 0 (1))) (z := 0) (c := 1) (LG := LG) (by decide) (by unfold g_11 g_91; rw [if_pos h0]; rfl) (by unfold g_153; rw [l2, row_no (by omega) (Or.inl h0)]; rfl) rfl ⟨hT, hF, hP, hE, hO, hS⟩
  by_cases h1 : a < I 16 1
  · obtain ⟨j, hj, rfl⟩ := in_range2 a (n := n) (by omega) h0 (by rw [← l1]; exact h1)
    refine pw_ok (J := I) (K := mm_up I 20 0 0) (r := I 17 j) (LG := LG) ?_ ?_ rfl hV'
    · unfold g_11 g_91
      rw [if_neg h0, if_pos h1, ix_nI (by omega) (by omega)]
      rfl
    · unfold g_153
      rw [l2, row_in (by omega) hj, Option.bind_some, if_neg (by decide), ix_nI (by omega) (by omega), l3 j hj]
  · have h2 : nI n ≤ a := by rw [← l1]; exact Int32.not_lt.mp h1
    exact pw_ex (V := INV) (J := I) (K := (mm_up (mm_up I 20 0 0) 20 0 (1))) (z := 0) (c := 1) (LG := LG) (by decide) (by unfold g_11 g_91; rw [if_neg h0, if_neg h1]; rfl) (by unfold g_153; rw [l2, row_no (by omega) (Or.inr h2)]; rfl) rfl ⟨hT, hF, hP, hE, hO, hS⟩

theorem pr_14 : p_14 INV := by
  intro a I LG hV
  have hV' := hV
  obtain ⟨hT, hF, hP, hE, hO, hS⟩ := hV
  obtain ⟨n, hn, l1, l2, l3'⟩ := id hO
  have l3 : ∀ k, k < n → I 19 k = I 30 k := fun k hk => by obtain ⟨b, _, e1, e2⟩ := l3' k hk; rw [e1, e2]
  by_cases h0 : a < 0
  · exact pw_ex (V := INV) (J := I) (K := (mm_up (mm_up I 20 0 0) 20 0 (1))) (z := 0) (c := 1) (LG := LG) (by decide) (by unfold g_14 g_105; rw [if_pos h0]; rfl) (by unfold g_161; rw [l2, row_no (by omega) (Or.inl h0)]; rfl) rfl ⟨hT, hF, hP, hE, hO, hS⟩
  by_cases h1 : a < I 18 1
  · obtain ⟨j, hj, rfl⟩ := in_range2 a (n := n) (by omega) h0 (by rw [← l1]; exact h1)
    refine pw_ok (J := I) (K := mm_up I 20 0 0) (r := I 19 j) (LG := LG) ?_ ?_ rfl hV'
    · unfold g_14 g_105
      rw [if_neg h0, if_pos h1, ix_nI (by omega) (by omega)]
      rfl
    · unfold g_161
      rw [l2, row_in (by omega) hj, Option.bind_some, if_neg (by decide), ix_nI (by omega) (by omega), l3 j hj]
  · have h2 : nI n ≤ a := by rw [← l1]; exact Int32.not_lt.mp h1
    exact pw_ex (V := INV) (J := I) (K := (mm_up (mm_up I 20 0 0) 20 0 (1))) (z := 0) (c := 1) (LG := LG) (by decide) (by unfold g_14 g_105; rw [if_neg h0, if_neg h1]; rfl) (by unfold g_161; rw [l2, row_no (by omega) (Or.inr h2)]; rfl) rfl ⟨hT, hF, hP, hE, hO, hS⟩

theorem pr_6 : p_6 INV := by
  intro a b I LG hV
  have hV' := hV
  obtain ⟨hT, hF, hP, hE, hO, hS⟩ := hV
  obtain ⟨_, n, _, _, ow, ⟨pb, p0, p1, p2, p3, p4, p5, p6⟩, _⟩ := id hP
  have l1 := p1.1
  have l2 := p1.2
  have hn := pb.2.1
  by_cases h0 : a < 0
  · exact pw_ex (V := INV) (J := I) (K := (mm_up (mm_up I 20 0 0) 20 0 (1))) (z := 0) (c := 1) (LG := LG) (by decide) (by unfold g_7 g_81; rw [if_pos h0]; rfl) (by unfold g_142; rw [l2, row_no (by omega) (Or.inl h0)]; rfl) rfl ⟨hT, hF, hP, hE, hO, hS⟩
  by_cases h1 : I 4 1 ≤ a
  · have h2 : nI n ≤ a := by rw [← l1]; exact h1
    exact pw_ex (V := INV) (J := I) (K := (mm_up (mm_up I 20 0 0) 20 0 (1))) (z := 0) (c := 1) (LG := LG) (by decide) (by unfold g_7 g_81; rw [if_neg h0, if_pos h1]; rfl) (by unfold g_142; rw [l2, row_no (by omega) (Or.inr h2)]; rfl) rfl ⟨hT, hF, hP, hE, hO, hS⟩
  obtain ⟨j, hj, rfl⟩ := in_range a (n := n) (by omega) h0 (by rw [← l1]; exact h1)
  by_cases h2 : b < 0
  · exact pw_ex (V := INV) (J := I) (K := (mm_up (mm_up I 20 0 0) 20 0 (1))) (z := 0) (c := 1) (LG := LG) (by decide) (by unfold g_7 g_81; rw [if_neg h0, if_neg h1, if_pos h2]; rfl) (by unfold g_142; rw [l2, row_in (by omega) hj]; try simp only [Option.bind_some, nr0, nr1, s_10, s_n10, s_n00, s_a, s_b, s_c, s_d, s_e, ↓reduceIte]; unfold g_111; rw [if_pos h2]; rfl) rfl ⟨hT, hF, hP, hE, hO, hS⟩
  by_cases h3 : b ≤ 3
  · have h3' : ¬ (3 : Int32) < b := Int32.not_lt.mpr h3
    obtain ⟨w, hw, rfl⟩ := in_range2 b (n := 4) (by omega) h2 (Int32.lt_of_le_of_lt h3 (by decide))
    have hr := p4 j hj
    have hm : ∀ r : Int32, (if nI w = 0 then ix (nI j) 48 (fun j7 => some (I 22 j7, mm_up I 20 0 0)) else (if nI w = 1 then ix (nI j) 48 (fun j6 => some (I 23 j6, mm_up I 20 0 0)) else (if nI w = 2 then ix (nI j) 48 (fun j6 => some (I 24 j6, mm_up I 20 0 0)) else ix (nI j) 48 (fun j4 => some (I 25 j4, mm_up I 20 0 0))))) = some (r, mm_up I 20 0 0) → g_142 (nI j) (nI w) I = some (r, mm_up I 20 0 0) := by
      intro r hr
      unfold g_142
      rw [l2, row_in (by omega) hj]
      try simp only [Option.bind_some, nr0, nr1, s_10, s_n10, s_n00, s_a, s_b, s_c, s_d, s_e, ↓reduceIte]
      unfold g_111
      rw [if_neg h2, if_neg h3']
      try simp only [Option.bind_some, nr0, nr1, s_10, s_n10, s_n00, s_a, s_b, s_c, s_d, s_e, ↓reduceIte]
      exact hr
    match w, hw with
    | 0, _ =>
      refine pw_ok (J := I) (K := mm_up I 20 0 0) (r := I 5 j) (LG := LG) ?_ (hm _ ?_) rfl hV'
      · unfold g_7 g_81
        rw [if_neg h0, if_neg h1, if_neg h2, if_pos h3, if_pos (by decide), ix_nI (by omega) (by omega)]
        rfl
      · rw [if_pos (by decide), ix_nI (by omega) (by omega), hr.2.1, hr.2.2.1]
    | 1, _ =>
      refine pw_ok (J := I) (K := mm_up I 20 0 0) (r := I 6 j) (LG := LG) ?_ (hm _ ?_) rfl hV'
      · unfold g_7 g_81
        rw [if_neg h0, if_neg h1, if_neg h2, if_pos h3, if_neg (by decide), if_pos (by decide), ix_nI (by omega) (by omega)]
        rfl
      · rw [if_neg (by decide), if_pos (by decide), ix_nI (by omega) (by omega), hr.2.2.2.1]
    | 2, _ =>
      refine pw_ok (J := I) (K := mm_up I 20 0 0) (r := I 7 j) (LG := LG) ?_ (hm _ ?_) rfl hV'
      · unfold g_7 g_81
        rw [if_neg h0, if_neg h1, if_neg h2, if_pos h3, if_neg (by decide), if_neg (by decide), if_pos (by decide), ix_nI (by omega) (by omega)]
        rfl
      · rw [if_neg (by decide), if_neg (by decide), if_pos (by decide), ix_nI (by omega) (by omega), hr.2.2.2.2.1]
    | 3, _ =>
      refine pw_ok (J := I) (K := mm_up I 20 0 0) (r := I 8 j) (LG := LG) ?_ (hm _ ?_) rfl hV'
      · unfold g_7 g_81
        rw [if_neg h0, if_neg h1, if_neg h2, if_pos h3, if_neg (by decide), if_neg (by decide), if_neg (by decide), ix_nI (by omega) (by omega)]
        rfl
      · rw [if_neg (by decide), if_neg (by decide), if_neg (by decide), ix_nI (by omega) (by omega), hr.2.2.2.2.2.1]
    | w + 4, hw => exact absurd hw (by omega)
  · have h3' : (3 : Int32) < b := Int32.not_le.mp h3
    exact pw_ex (V := INV) (J := I) (K := (mm_up (mm_up I 20 0 0) 20 0 (1))) (z := 0) (c := 1) (LG := LG) (by decide) (by unfold g_7 g_81; rw [if_neg h0, if_neg h1, if_neg h2, if_neg h3]; rfl) (by unfold g_142; rw [l2, row_in (by omega) hj]; try simp only [Option.bind_some, nr0, nr1, s_10, s_n10, s_n00, s_a, s_b, s_c, s_d, s_e, ↓reduceIte]; unfold g_111; rw [if_neg h2, if_pos h3']; rfl) rfl ⟨hT, hF, hP, hE, hO, hS⟩

theorem pr_7 : p_7 INV := by
  intro a b I LG hV
  have hV' := hV
  obtain ⟨hT, hF, hP, hE, hO, hS⟩ := hV
  obtain ⟨_, _, n, _, _, ⟨pb, p0, p1, p2, p3, p4, p5, p6⟩, _⟩ := id hP
  have l1 := p2.1
  have l2 := p2.2
  have hn := pb.2.2.1
  by_cases h0 : a < 0
  · exact pw_ex (V := INV) (J := I) (K := (mm_up (mm_up I 20 0 0) 20 0 (1))) (z := 0) (c := 1) (LG := LG) (by decide) (by unfold g_8 g_82; rw [if_pos h0]; rfl) (by unfold g_143; rw [l2, row_no (by omega) (Or.inl h0)]; rfl) rfl ⟨hT, hF, hP, hE, hO, hS⟩
  by_cases h1 : I 4 2 ≤ a
  · have h2 : nI n ≤ a := by rw [← l1]; exact h1
    exact pw_ex (V := INV) (J := I) (K := (mm_up (mm_up I 20 0 0) 20 0 (1))) (z := 0) (c := 1) (LG := LG) (by decide) (by unfold g_8 g_82; rw [if_neg h0, if_pos h1]; rfl) (by unfold g_143; rw [l2, row_no (by omega) (Or.inr h2)]; rfl) rfl ⟨hT, hF, hP, hE, hO, hS⟩
  obtain ⟨j, hj, rfl⟩ := in_range a (n := n) (by omega) h0 (by rw [← l1]; exact h1)
  by_cases h2 : b < 0
  · exact pw_ex (V := INV) (J := I) (K := (mm_up (mm_up I 20 0 0) 20 0 (1))) (z := 0) (c := 1) (LG := LG) (by decide) (by unfold g_8 g_82; rw [if_neg h0, if_neg h1, if_pos h2]; rfl) (by unfold g_143; rw [l2, row_in (by omega) hj]; try simp only [Option.bind_some, nr0, nr1, s_10, s_n10, s_n00, s_a, s_b, s_c, s_d, s_e, ↓reduceIte]; unfold g_111; rw [if_pos h2]; rfl) rfl ⟨hT, hF, hP, hE, hO, hS⟩
  by_cases h3 : b ≤ 2
  · have h3' : ¬ (2 : Int32) < b := Int32.not_lt.mpr h3
    obtain ⟨w, hw, rfl⟩ := in_range2 b (n := 3) (by omega) h2 (Int32.lt_of_le_of_lt h3 (by decide))
    have hr := p6 j hj
    have hm : ∀ r : Int32, (if nI w = 0 then ix (nI j) 17 (fun j7 => some (I 26 j7, mm_up I 20 0 0)) else (if nI w = 1 then ix (nI j) 17 (fun j6 => some (I 27 j6, mm_up I 20 0 0)) else ix (nI j) 17 (fun j4 => some (I 28 j4, mm_up I 20 0 0)))) = some (r, mm_up I 20 0 0) → g_143 (nI j) (nI w) I = some (r, mm_up I 20 0 0) := by
      intro r hr
      unfold g_143
      rw [l2, row_in (by omega) hj]
      try simp only [Option.bind_some, nr0, nr1, s_10, s_n10, s_n00, s_a, s_b, s_c, s_d, s_e, ↓reduceIte]
      unfold g_111
      rw [if_neg h2, if_neg h3']
      try simp only [Option.bind_some, nr0, nr1, s_10, s_n10, s_n00, s_a, s_b, s_c, s_d, s_e, ↓reduceIte]
      exact hr
    match w, hw with
    | 0, _ =>
      refine pw_ok (J := I) (K := mm_up I 20 0 0) (r := I 9 j) (LG := LG) ?_ (hm _ ?_) rfl hV'
      · unfold g_8 g_82
        rw [if_neg h0, if_neg h1, if_neg h2, if_pos h3, if_pos (by decide), ix_nI (by omega) (by omega)]
        rfl
      · rw [if_pos (by decide), ix_nI (by omega) (by omega), hr.1]
    | 1, _ =>
      refine pw_ok (J := I) (K := mm_up I 20 0 0) (r := I 10 j) (LG := LG) ?_ (hm _ ?_) rfl hV'
      · unfold g_8 g_82
        rw [if_neg h0, if_neg h1, if_neg h2, if_pos h3, if_neg (by decide), if_pos (by decide), ix_nI (by omega) (by omega)]
        rfl
      · rw [if_neg (by decide), if_pos (by decide), ix_nI (by omega) (by omega), hr.2.1]
    | 2, _ =>
      refine pw_ok (J := I) (K := mm_up I 20 0 0) (r := I 11 j) (LG := LG) ?_ (hm _ ?_) rfl hV'
      · unfold g_8 g_82
        rw [if_neg h0, if_neg h1, if_neg h2, if_pos h3, if_neg (by decide), if_neg (by decide), ix_nI (by omega) (by omega)]
        rfl
      · rw [if_neg (by decide), if_neg (by decide), ix_nI (by omega) (by omega), hr.2.2.1]
    | w + 3, hw => exact absurd hw (by omega)
  · have h3' : (2 : Int32) < b := Int32.not_le.mp h3
    exact pw_ex (V := INV) (J := I) (K := (mm_up (mm_up I 20 0 0) 20 0 (1))) (z := 0) (c := 1) (LG := LG) (by decide) (by unfold g_8 g_82; rw [if_neg h0, if_neg h1, if_neg h2, if_neg h3]; rfl) (by unfold g_143; rw [l2, row_in (by omega) hj]; try simp only [Option.bind_some, nr0, nr1, s_10, s_n10, s_n00, s_a, s_b, s_c, s_d, s_e, ↓reduceIte]; unfold g_111; rw [if_neg h2, if_pos h3']; rfl) rfl ⟨hT, hF, hP, hE, hO, hS⟩
end MMW
