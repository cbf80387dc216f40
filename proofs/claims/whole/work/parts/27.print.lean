/-! THE PAIR print: both sides put out the same bytes (written by wip/whole/gen/print_part.py). -/
section MMAA
/-- g puts out the bytes l and answers with ret: lc lp is the count of bytes, bc holds them; F is what stays -/
def OUT {α : Type} (F : Mem → Prop) (lc lp bc : Nat) (ret : Mem → α) (g : Mem → Option α) (l : List Nat) : Prop := (∀ b, b ∈ l → b < 128) ∧ ∀ p I, F I → I lc lp = nI p → p + l.length ≤ 448 → ∃ J, g I = some (ret J) ∧ F J ∧ J lc lp = nI (p + l.length) ∧ (∀ k, k < p → J bc k = I bc k) ∧ ∀ i, i < l.length → J bc (p + i) = nI (l.getD i 0)
theorem out_end {α : Type} {F : Mem → Prop} {lc lp bc : Nat} {ret : Mem → α} {g : Mem → Option α} (e : ∀ I, F I → g I = some (ret I)) : OUT F lc lp bc ret g [] := ⟨fun b h => absurd h List.not_mem_nil, fun p I hF hp _ => ⟨I, e I hF, hF, hp, fun _ _ => rfl, fun i hi => absurd hi (Nat.not_lt_zero i)⟩⟩
theorem out_nil {F : Mem → Prop} {lc lp bc : Nat} : OUT F lc lp bc id some [] := out_end (fun _ _ => rfl)
theorem out_bind {α β : Type} {F : Mem → Prop} {lc lp bc : Nat} {r1 : Mem → α} {r2 : Mem → β} {g : Mem → Option α} {h : α → Option β} {l1 l2 : List Nat} (h1 : OUT F lc lp bc r1 g l1) (h2 : OUT F lc lp bc r2 (fun J => h (r1 J)) l2) : OUT F lc lp bc r2 (fun I => (g I).bind h) (l1 ++ l2) := by
  refine ⟨fun b hb => (List.mem_append.mp hb).elim (h1.1 b) (h2.1 b), fun p I hF hp hl => ?_⟩
  rw [List.length_append] at hl
  obtain ⟨J, e1, f1, p1, k1, b1⟩ := h1.2 p I hF hp (by omega)
  obtain ⟨K, e2, f2, p2, k2, b2⟩ := h2.2 (p + l1.length) J f1 p1 (by omega)
  refine ⟨K, ?_, f2, ?_, fun k hk => ?_, fun i hi => ?_⟩
  · try simp only [Option.bind_some, nr0, nr1, s_10, s_n10, s_n00, s_a, s_b, s_c, s_d, s_e, ↓reduceIte]
    rw [e1]
    exact e2
  · rw [p2, List.length_append, Nat.add_assoc]
  · rw [k2 k (by omega), k1 k hk]
  · rw [List.length_append] at hi
    rw [List.getD_eq_getElem?_getD]
    by_cases h : i < l1.length
    · rw [k2 (p + i) (by omega), b1 i h, List.getElem?_append_left h, List.getD_eq_getElem?_getD]
    · have := b2 (i - l1.length) (by omega)
      rw [show p + l1.length + (i - l1.length) = p + i from by omega] at this
      rw [this, List.getElem?_append_right (by omega), List.getD_eq_getElem?_getD]
theorem out_seq {β : Type} {F : Mem → Prop} {lc lp bc : Nat} {r2 : Mem → β} {g : Mem → Option Mem} {h : Mem → Option β} {l1 l2 : List Nat} (h1 : OUT F lc lp bc id g l1) (h2 : OUT F lc lp bc r2 h l2) : OUT F lc lp bc r2 (fun I => (g I).bind h) (l1 ++ l2) := out_bind (r1 := id) h1 h2
theorem out_ix {α : Type} {F : Mem → Prop} {lc lp bc : Nat} {ret : Mem → α} {T : Nat → Mem → Option α} {l : List Nat} {x : Int32} {n : Nat} (k : Nat) (hx : x = nI k) (hk : k < n) (hn : n < 2 ^ 31) (h : OUT F lc lp bc ret (T k) l) : OUT F lc lp bc ret (fun I => ix x n (fun j => T j I)) l := by
  subst hx
  have e : (fun I => ix (nI k) n (fun j => T j I)) = T k := by
    funext I
    exact ix_nI hk hn _
  rw [e]
  exact h
/-- a program that is another one where F holds -/
theorem out_at {α : Type} {F : Mem → Prop} {lc lp bc : Nat} {ret : Mem → α} {g h : Mem → Option α} {l : List Nat} (e : ∀ I, F I → g I = h I) (k : OUT F lc lp bc ret h l) : OUT F lc lp bc ret g l := ⟨k.1, fun p I hF hp hl => by rw [e I hF]; exact k.2 p I hF hp hl⟩
theorem out_t {α : Type} {F : Mem → Prop} {lc lp bc : Nat} {ret : Mem → α} {g h : Mem → Option α} {l : List Nat} {c : Mem → Prop} [∀ I, Decidable (c I)] (hc : ∀ I, F I → c I) (k : OUT F lc lp bc ret g l) : OUT F lc lp bc ret (fun I => if c I then g I else h I) l := out_at (fun I hI => if_pos (hc I hI)) k
theorem out_f {α : Type} {F : Mem → Prop} {lc lp bc : Nat} {ret : Mem → α} {g h : Mem → Option α} {l : List Nat} {c : Mem → Prop} [∀ I, Decidable (c I)] (hc : ∀ I, F I → ¬ c I) (k : OUT F lc lp bc ret h l) : OUT F lc lp bc ret (fun I => if c I then g I else h I) l := out_at (fun I hI => if_neg (hc I hI)) k
def FC (I0 I : Mem) : Prop := ∀ b, b ≠ 18 → b ≠ 19 → I b = I0 b
def FO (M0 M : Mem) : Prop := (∀ b, b ≠ 20 → b ≠ 30 → M b = M0 b) ∧ ∀ b, b ≠ 23 → M 20 b = M0 20 b
theorem byte7 : ∀ b, b < 128 → (nI b).toInt8.toInt32.toInt8.toInt32 = nI b := by decide +kernel
theorem out1C {I0 : Mem} {x : Int32} (b : Nat) (hx : x = nI b) (hb : b < 128) : OUT (FC I0) 18 1 19 id (g_100 x) [b] := by
  subst hx
  refine ⟨fun c hc => by rw [List.mem_singleton.mp hc]; exact hb, fun p I hF hp hl => ?_⟩
  rw [List.length_singleton] at hl ⊢
  refine ⟨mm_up (mm_up I 19 p (nI b)) 18 1 (nI p + 1), ?_, fun c h1 h2 => ?_, ?_, fun k hk => ?_, fun i hi => ?_⟩
  · unfold g_100
    rw [hp, if_neg (k_ge (b := 448) (by rfl) (by rfl) (by omega) (by omega)), ix_nI (by omega) (by omega), byte7 b hb]
    rfl
  · rw [mm_up_ne h1, mm_up_ne h2]; exact hF c h1 h2
  · show nI p + 1 = _
    rw [nI_1]
  · show mm_up I 19 p (nI b) 19 k = _
    rw [up_other (by omega)]
  · have hi : i = 0 := by omega
    subst hi
    show mm_up I 19 p (nI b) 19 p = _
    rw [up_same]
    rfl
theorem out1M {M0 : Mem} {x : Int32} (b : Nat) (hx : x = nI b) (hb : b < 128) : OUT (FO M0) 20 23 30 id (g_156 x) [b] := by
  subst hx
  refine ⟨fun c hc => by rw [List.mem_singleton.mp hc]; exact hb, fun p I hF hp hl => ?_⟩
  rw [List.length_singleton] at hl ⊢
  refine ⟨mm_up (mm_up I 30 p (nI b)) 20 23 (nI p + 1), ?_, ⟨fun c h1 h2 => ?_, fun c h1 => ?_⟩, ?_, fun k hk => ?_, fun i hi => ?_⟩
  · unfold g_156
    rw [hp, ix_nI (by omega) (by omega)]
    rfl
  · rw [mm_up_ne h1, mm_up_ne h2]; exact hF.1 c h1 h2
  · rw [up_other h1]; exact hF.2 c h1
  · show nI p + 1 = _
    rw [nI_1]
  · show mm_up I 30 p (nI b) 30 k = _
    rw [up_other (by omega)]
  · have hi : i = 0 := by omega
    subst hi
    show mm_up I 30 p (nI b) 30 p = _
    rw [up_same]
    rfl
theorem out_str {F : Mem → Prop} {lc lp bc : Nat} {g48 : Mem → Option Int32} {g50 : Int32 → Mem → Option Int32} {lo : Nat → Int32 → Mem → Option Mem} {g1 : Int32 → Mem → Option Mem}
    (hl : ∀ n x I, lo (n + 1) x I = (g48 I).bind (fun w1 => (if w1 ≤ x then (some I) else ((g50 x I).bind (fun w2 => ((g1 w2 I).bind (fun w3 => (lo n (x + (1 : Int32)) w3))))))))
    (L : List Nat) (hL : L.length < 100) (h48 : ∀ I, g48 I = some (nI L.length)) (h50 : ∀ k, k < L.length → ∀ I, g50 (nI k) I = some (nI (L.getD k 0))) (h1 : ∀ b, b ∈ L → OUT F lc lp bc id (g1 (nI b)) [b]) : ∀ (r q : List Nat) (n : Nat), L = q ++ r → r.length < n → OUT F lc lp bc id (lo n (nI q.length)) r := by
  intro r
  induction r with
  | nil =>
    intro q n hq hn
    obtain ⟨n, rfl⟩ : ∃ m', n = m' + 1 := ⟨n - 1, by omega⟩
    have hlen : L.length = q.length := by rw [hq, List.append_nil]
    refine out_end (fun I hF => ?_)
    rw [hl, h48]
    try simp only [Option.bind_some, nr0, nr1, s_10, s_n10, s_n00, s_a, s_b, s_c, s_d, s_e, ↓reduceIte]
    rw [if_pos (nI_le (by omega) (by omega))]
    rfl
  | cons b r ih =>
    intro q n hq hn
    rw [List.length_cons] at hn
    obtain ⟨n, rfl⟩ : ∃ m', n = m' + 1 := ⟨n - 1, by omega⟩
    have hlen : L.length = q.length + (r.length + 1) := by rw [hq, List.length_append, List.length_cons]
    have hb : L.getD q.length 0 = b := by rw [hq, List.getD_eq_getElem?_getD, List.getElem?_append_right (Nat.le_refl _), Nat.sub_self]; rfl
    have k := ih (q ++ [b]) n (by rw [hq, List.append_assoc]; rfl) (by omega)
    rw [List.length_append, List.length_singleton] at k
    refine out_at (h := fun I => (g1 (nI b) I).bind (lo n (nI (q.length + 1)))) (fun I hF => ?_) (out_seq (l1 := [b]) (h1 b (by rw [hq]; exact List.mem_append_right _ List.mem_cons_self)) k)
    rw [hl, h48]
    try simp only [Option.bind_some, nr0, nr1, s_10, s_n10, s_n00, s_a, s_b, s_c, s_d, s_e, ↓reduceIte]
    rw [if_neg (nI_ge (by omega) (by omega)), h50 q.length (by omega), hb, nI_1]
    rfl
theorem os_21 {I0 : Mem} : OUT (FC I0) 18 1 19 id g_102_s21 [32, 102, 59] := by
  have k := out_str (F := FC I0) (lc := 18) (lp := 1) (bc := 19) (g48 := g_48_s21) (g50 := g_50_s21) (lo := l_102_s21_2) (g1 := g_100) (fun n x I => by rw [l_102_s21_2]) [32, 102, 59] (by decide) (fun _ => rfl) (fun k hk I => by
    match k, hk with
    | 0, _ => rfl
    | 1, _ => rfl
    | 2, _ => rfl
    | k + 3, hk => exact absurd hk (by simp)) (fun b hb => out1C b rfl (by revert b; decide)) [32, 102, 59] [] 5000 rfl (by decide)
  rw [List.length_nil, nI_0] at k
  exact k
theorem os_22 {I0 : Mem} : OUT (FC I0) 18 1 19 id g_102_s22 [32, 119, 32] := by
  have k := out_str (F := FC I0) (lc := 18) (lp := 1) (bc := 19) (g48 := g_48_s22) (g50 := g_50_s22) (lo := l_102_s22_2) (g1 := g_100) (fun n x I => by rw [l_102_s22_2]) [32, 119, 32] (by decide) (fun _ => rfl) (fun k hk I => by
    match k, hk with
    | 0, _ => rfl
    | 1, _ => rfl
    | 2, _ => rfl
    | k + 3, hk => exact absurd hk (by simp)) (fun b hb => out1C b rfl (by revert b; decide)) [32, 119, 32] [] 5000 rfl (by decide)
  rw [List.length_nil, nI_0] at k
  exact k
theorem os_23 {I0 : Mem} : OUT (FC I0) 18 1 19 id g_102_s23 [32, 114, 32] := by
  have k := out_str (F := FC I0) (lc := 18) (lp := 1) (bc := 19) (g48 := g_48_s23) (g50 := g_50_s23) (lo := l_102_s23_2) (g1 := g_100) (fun n x I => by rw [l_102_s23_2]) [32, 114, 32] (by decide) (fun _ => rfl) (fun k hk I => by
    match k, hk with
    | 0, _ => rfl
    | 1, _ => rfl
    | 2, _ => rfl
    | k + 3, hk => exact absurd hk (by simp)) (fun b hb => out1C b rfl (by revert b; decide)) [32, 114, 32] [] 5000 rfl (by decide)
  rw [List.length_nil, nI_0] at k
  exact k
theorem os_24 {I0 : Mem} : OUT (FC I0) 18 1 19 id g_102_s24 [101, 120, 105, 115, 116, 115, 32, 40] := by
  have k := out_str (F := FC I0) (lc := 18) (lp := 1) (bc := 19) (g48 := g_48_s24) (g50 := g_50_s24) (lo := l_102_s24_2) (g1 := g_100) (fun n x I => by rw [l_102_s24_2]) [101, 120, 105, 115, 116, 115, 32, 40] (by decide) (fun _ => rfl) (fun k hk I => by
    match k, hk with
    | 0, _ => rfl
    | 1, _ => rfl
    | 2, _ => rfl
    | 3, _ => rfl
    | 4, _ => rfl
    | 5, _ => rfl
    | 6, _ => rfl
    | 7, _ => rfl
    | k + 8, hk => exact absurd hk (by simp)) (fun b hb => out1C b rfl (by revert b; decide)) [101, 120, 105, 115, 116, 115, 32, 40] [] 5000 rfl (by decide)
  rw [List.length_nil, nI_0] at k
  exact k
theorem os_25 {I0 : Mem} : OUT (FC I0) 18 1 19 id g_102_s25 [102, 111, 114, 97, 108, 108, 32, 40] := by
  have k := out_str (F := FC I0) (lc := 18) (lp := 1) (bc := 19) (g48 := g_48_s25) (g50 := g_50_s25) (lo := l_102_s25_2) (g1 := g_100) (fun n x I => by rw [l_102_s25_2]) [102, 111, 114, 97, 108, 108, 32, 40] (by decide) (fun _ => rfl) (fun k hk I => by
    match k, hk with
    | 0, _ => rfl
    | 1, _ => rfl
    | 2, _ => rfl
    | 3, _ => rfl
    | 4, _ => rfl
    | 5, _ => rfl
    | 6, _ => rfl
    | 7, _ => rfl
    | k + 8, hk => exact absurd hk (by simp)) (fun b hb => out1C b rfl (by revert b; decide)) [102, 111, 114, 97, 108, 108, 32, 40] [] 5000 rfl (by decide)
  rw [List.length_nil, nI_0] at k
  exact k
theorem os_26 {I0 : Mem} : OUT (FC I0) 18 1 19 id g_102_s26 [32, 38, 32] := by
  have k := out_str (F := FC I0) (lc := 18) (lp := 1) (bc := 19) (g48 := g_48_s26) (g50 := g_50_s26) (lo := l_102_s26_2) (g1 := g_100) (fun n x I => by rw [l_102_s26_2]) [32, 38, 32] (by decide) (fun _ => rfl) (fun k hk I => by
    match k, hk with
    | 0, _ => rfl
    | 1, _ => rfl
    | 2, _ => rfl
    | k + 3, hk => exact absurd hk (by simp)) (fun b hb => out1C b rfl (by revert b; decide)) [32, 38, 32] [] 5000 rfl (by decide)
  rw [List.length_nil, nI_0] at k
  exact k
theorem os_27 {I0 : Mem} : OUT (FC I0) 18 1 19 id g_102_s27 [32, 61, 32] := by
  have k := out_str (F := FC I0) (lc := 18) (lp := 1) (bc := 19) (g48 := g_48_s27) (g50 := g_50_s27) (lo := l_102_s27_2) (g1 := g_100) (fun n x I => by rw [l_102_s27_2]) [32, 61, 32] (by decide) (fun _ => rfl) (fun k hk I => by
    match k, hk with
    | 0, _ => rfl
    | 1, _ => rfl
    | 2, _ => rfl
    | k + 3, hk => exact absurd hk (by simp)) (fun b hb => out1C b rfl (by revert b; decide)) [32, 61, 32] [] 5000 rfl (by decide)
  rw [List.length_nil, nI_0] at k
  exact k
theorem os_28 {I0 : Mem} : OUT (FC I0) 18 1 19 id g_102_s28 [41, 10] := by
  have k := out_str (F := FC I0) (lc := 18) (lp := 1) (bc := 19) (g48 := g_48_s28) (g50 := g_50_s28) (lo := l_102_s28_2) (g1 := g_100) (fun n x I => by rw [l_102_s28_2]) [41, 10] (by decide) (fun _ => rfl) (fun k hk I => by
    match k, hk with
    | 0, _ => rfl
    | 1, _ => rfl
    | k + 2, hk => exact absurd hk (by simp)) (fun b hb => out1C b rfl (by revert b; decide)) [41, 10] [] 5000 rfl (by decide)
  rw [List.length_nil, nI_0] at k
  exact k
/-- a number of one or two digits -/
def num (v : Nat) : List Nat := if v ≤ 9 then [48 + v] else [48 + v / 10, 48 + v % 10]
theorem num_C {Z : Mem} {x : Int32} (v : Nat) (hx : x = nI v) (hv : v ≤ 99) : OUT (FC Z) 18 1 19 id (g_103 x) (num v) := by
  subst hx
  have e1 : nI v - nI v / (10 : Int32) * (10 : Int32) = nI (v % 10) := pk_rem (d := 10) (by omega) (by omega) (by omega)
  have e2 : nI v / (10 : Int32) = nI (v / 10) := pk_div (d := 10) (by omega) (by omega) (by omega)
  unfold num
  by_cases h : v ≤ 9
  · rw [if_pos h]
    refine out_at (h := fun I => (g_100 (nI (48 + v)) I).bind some) (fun I _ => ?_) (out_seq (l1 := [48 + v]) (l2 := []) (out1C (48 + v) rfl (by omega)) out_nil)
    unfold g_103 nz
    rw [if_pos (k_le (b := 9) (by rfl) (by rfl) h (by omega)), if_neg (by decide), e1, show (48 : Int32) + nI (v % 10) = nI (48 + v) from by rw [show v % 10 = v from by omega]; exact nI_add 48 v]
    try rfl
  · rw [if_neg h]
    refine out_at (h := fun I => (g_100 (nI (48 + v / 10)) I).bind (fun w => (g_100 (nI (48 + v % 10)) w).bind some)) (fun I _ => ?_) (out_seq (l1 := [48 + v / 10]) (l2 := [48 + v % 10]) (out1C _ rfl (by omega)) (out_seq (l1 := [48 + v % 10]) (l2 := []) (out1C _ rfl (by omega)) out_nil))
    unfold g_103 nz
    rw [if_neg (k_ge (a := 9) (by rfl) (by rfl) (by omega) (by omega)), if_neg (by decide), e1, e2, show (48 : Int32) + nI (v / 10) = nI (48 + v / 10) from nI_add 48 _, show (48 : Int32) + nI (v % 10) = nI (48 + v % 10) from nI_add 48 _]
    simp only [if_neg (show ¬ (10 : Int32) = 0 from by decide)]
    try rfl
theorem num_M {Z : Mem} {x : Int32} (v : Nat) (hx : x = nI v) (hv : v ≤ 99) : OUT (FO Z) 20 23 30 id (g_157 x) (num v) := by
  subst hx
  have e1 : nI v - nI v / (10 : Int32) * (10 : Int32) = nI (v % 10) := pk_rem (d := 10) (by omega) (by omega) (by omega)
  have e2 : nI v / (10 : Int32) = nI (v / 10) := pk_div (d := 10) (by omega) (by omega) (by omega)
  unfold num
  by_cases h : v ≤ 9
  · rw [if_pos h]
    refine out_at (h := fun I => (g_156 (nI (48 + v)) I).bind some) (fun I _ => ?_) (out_seq (l1 := [48 + v]) (l2 := []) (out1M (48 + v) rfl (by omega)) out_nil)
    unfold g_157 nz
    rw [if_pos (k_le (b := 9) (by rfl) (by rfl) h (by omega)), if_neg (by decide), e1, show (48 : Int32) + nI (v % 10) = nI (48 + v) from by rw [show v % 10 = v from by omega]; exact nI_add 48 v]
    try rfl
  · rw [if_neg h]
    refine out_at (h := fun I => (g_156 (nI (48 + v / 10)) I).bind (fun w => (g_156 (nI (48 + v % 10)) w).bind some)) (fun I _ => ?_) (out_seq (l1 := [48 + v / 10]) (l2 := [48 + v % 10]) (out1M _ rfl (by omega)) (out_seq (l1 := [48 + v % 10]) (l2 := []) (out1M _ rfl (by omega)) out_nil))
    unfold g_157 nz
    rw [if_neg (k_ge (a := 9) (by rfl) (by rfl) (by omega) (by omega)), if_neg (by decide), e1, e2, show (48 : Int32) + nI (v / 10) = nI (48 + v / 10) from nI_add 48 _, show (48 : Int32) + nI (v % 10) = nI (48 + v % 10) from nI_add 48 _]
    simp only [if_neg (show ¬ (10 : Int32) = 0 from by decide)]
    try rfl
theorem num_len (v : Nat) : (num v).length ≤ 2 := by
  unfold num
  split <;> simp
theorem num_9 {v : Nat} (h : v ≤ 9) : num v = [48 + v] := by
  unfold num
  rw [if_pos h]
theorem two_C {I0 : Mem} {x y : Int32} (c v : Nat) (hx : x = nI c) (hc : c < 128) (hy : y = nI v) (hv : v ≤ 9) : OUT (FC I0) 18 1 19 id (g_99 x y) [c, 48 + v] := by
  subst hx hy
  refine out_at (h := fun I => (g_100 (nI c) I).bind (fun w => (g_100 (nI (48 + v)) w).bind some)) (fun I _ => ?_) (out_seq (l1 := [c]) (l2 := [48 + v]) (out1C _ rfl hc) (out_seq (l1 := [48 + v]) (l2 := []) (out1C _ rfl (by omega)) out_nil))
  unfold g_99
  rw [show (48 : Int32) + nI v = nI (48 + v) from nI_add 48 _]
  try rfl
/-- an action's bytes -/
def actL (q p v : Nat) : List Nat := if q = 2 then [32, 102, 59] else if q = 0 then [32, 119, 32, 97 + p, 32] ++ (num v ++ [59]) else [32, 114, 32, 97 + p, 32, 114] ++ (num v ++ [59])
theorem act_len {q p v : Nat} (h : q = 0 ∨ q = 1 ∧ v ≤ 9 ∨ q = 2) : (actL q p v).length ≤ 8 := by
  have := num_len v
  unfold actL
  rcases h with h | h | h
  · rw [if_neg (by omega), if_pos h]
    simp only [List.length_append, List.length_cons, List.length_nil]
    omega
  · rw [if_neg (by omega), if_neg (by omega), num_9 h.2]
    simp
  · rw [if_pos h]
    simp
theorem act_0 (p v : Nat) : actL 0 p v = [32] ++ ([119] ++ ([32] ++ ([97 + p] ++ ([32] ++ (num v ++ ([59] ++ [])))))) := rfl
theorem act_1 {p v : Nat} (hv : v ≤ 9) : actL 1 p v = [32] ++ ([114] ++ ([32] ++ ([97 + p] ++ ([32] ++ ([114] ++ ([48 + v] ++ ([59] ++ []))))))) := by
  unfold actL
  rw [if_neg (by decide), if_neg (by decide), num_9 hv]
  rfl
theorem act_C {I0 : Mem} {x y z : Int32} (q p v : Nat) (h : x = nI 2 ∧ q = 2 ∨ p < 4 ∧ y = nI p ∧ z = nI v ∧ (x = nI 0 ∧ q = 0 ∧ v ≤ 99 ∨ x = nI 1 ∧ q = 1 ∧ v ≤ 9)) : OUT (FC I0) 18 1 19 id (g_101 x y z) (actL q p v) := by
  rcases h with ⟨rfl, rfl⟩ | ⟨hp, rfl, rfl, ⟨rfl, rfl, hv⟩ | ⟨rfl, rfl, hv⟩⟩
  · refine out_at (h := fun I => (g_102_s21 I).bind some) (fun I _ => ?_) (out_seq (l1 := [32, 102, 59]) (l2 := []) os_21 out_nil)
    unfold g_101
    rw [if_pos (by decide)]
    try rfl
  · refine out_at (h := fun I => (g_102_s22 I).bind (fun w8 => (g_100 (nI (97 + p)) w8).bind (fun w9 => (g_100 32 w9).bind (fun w10 => (g_103 (nI v) w10).bind (fun w13 => (g_100 59 w13).bind some))))) (fun I _ => ?_) (out_seq (l1 := [32, 119, 32]) (l2 := [97 + p] ++ ([32] ++ (num v ++ ([59] ++ [])))) os_22 (out_seq (out1C _ rfl (by omega)) (out_seq (out1C 32 rfl (by omega)) (out_seq (num_C v rfl hv) (out_seq (out1C 59 rfl (by omega)) out_nil)))))
    unfold g_101
    rw [if_neg (by decide), if_pos (by decide), show (97 : Int32) + nI p = nI (97 + p) from nI_add 97 _]
    rfl
  · refine out_at (h := fun I => (g_102_s23 I).bind (fun w8 => (g_100 (nI (97 + p)) w8).bind (fun w9 => (g_100 32 w9).bind (fun w10 => (g_99 114 (nI v) w10).bind (fun w13 => (g_100 59 w13).bind some))))) (fun I _ => ?_) ?_
    · unfold g_101
      rw [if_neg (by decide), if_neg (by decide), show (97 : Int32) + nI p = nI (97 + p) from nI_add 97 _]
      rfl
    · rw [act_1 hv]
      exact out_seq (l1 := [32, 114, 32]) (l2 := [97 + p] ++ ([32] ++ ([114, 48 + v] ++ ([59] ++ [])))) (os_23 (I0 := I0)) (out_seq (out1C (97 + p) rfl (by omega)) (out_seq (out1C 32 rfl (by omega)) (out_seq (two_C 114 v rfl (by omega) rfl hv) (out_seq (out1C 59 rfl (by omega)) out_nil))))
set_option maxHeartbeats 1000000 in
theorem act_M {M0 : Mem} {k : Nat} (hk : k < 48) (q p v : Nat) (h : M0 23 k = nI 2 ∧ q = 2 ∨ p < 4 ∧ M0 24 k = nI p ∧ M0 25 k = nI v ∧ (M0 23 k = nI 0 ∧ q = 0 ∧ v ≤ 99 ∨ M0 23 k = nI 1 ∧ q = 1 ∧ v ≤ 9)) : OUT (FO M0) 20 23 30 id (g_158 (nI k)) (actL q p v) := by
  have r3 : ∀ I, FO M0 I → I 23 k = M0 23 k := fun I hI => by rw [hI.1 23 (by decide) (by decide)]
  have r4 : ∀ I, FO M0 I → I 24 k = M0 24 k := fun I hI => by rw [hI.1 24 (by decide) (by decide)]
  have r5 : ∀ I, FO M0 I → I 25 k = M0 25 k := fun I hI => by rw [hI.1 25 (by decide) (by decide)]
  show OUT (FO M0) 20 23 30 id (fun I => g_158 (nI k) I) (actL q p v)
  unfold g_158
  rcases h with ⟨h3, rfl⟩ | ⟨hp, h4, h5, ⟨h3, rfl, hv⟩ | ⟨h3, rfl, hv⟩⟩
  · show OUT _ _ _ _ _ _ ([32] ++ ([102] ++ ([59] ++ [])))
    refine out_seq (l1 := [32]) (out1M 32 rfl (by omega)) ?_
    refine out_ix k rfl hk (by omega) ?_
    refine out_f (fun I hI => by show ¬ I 23 k = 0; rw [r3 I hI, h3]; decide) ?_
    refine out_ix k rfl hk (by omega) ?_
    refine out_f (fun I hI => by show ¬ I 23 k = 1; rw [r3 I hI, h3]; decide) ?_
    refine out_seq (l1 := [102]) (out1M 102 rfl (by omega)) ?_
    refine out_ix k rfl hk (by omega) ?_
    refine out_t (fun I hI => by show (2 : Int32) ≤ I 23 k; rw [r3 I hI, h3]; decide) ?_
    refine out_seq (l1 := [59]) (out1M 59 rfl (by omega)) ?_
    exact out_nil
  · rw [act_0]
    refine out_seq (l1 := [32]) (out1M 32 rfl (by omega)) ?_
    refine out_ix k rfl hk (by omega) ?_
    refine out_t (fun I hI => by show I 23 k = 0; rw [r3 I hI, h3]; decide) ?_
    refine out_seq (l1 := [119]) (out1M 119 rfl (by omega)) ?_
    refine out_ix k rfl hk (by omega) ?_
    refine out_f (fun I hI => by show ¬ (2 : Int32) ≤ I 23 k; rw [r3 I hI, h3]; decide) ?_
    refine out_seq (l1 := [32]) (out1M 32 rfl (by omega)) ?_
    refine out_ix k rfl hk (by omega) ?_
    refine out_seq (l1 := [97 + p]) (out_at (h := g_156 (nI (97 + p))) (fun I hI => by show g_156 (97 + I 24 k) I = _; rw [r4 I hI, h4, show (97 : Int32) + nI p = nI (97 + p) from nI_add 97 _]) (out1M _ rfl (by omega))) ?_
    refine out_seq (l1 := [32]) (out1M 32 rfl (by omega)) ?_
    refine out_ix k rfl hk (by omega) ?_
    refine out_f (fun I hI => by show ¬ I 23 k = 1; rw [r3 I hI, h3]; decide) ?_
    refine out_ix k rfl hk (by omega) ?_
    refine out_seq (l1 := num v) (out_at (h := g_157 (nI v)) (fun I hI => by show g_157 (I 25 k) I = _; rw [r5 I hI, h5]) (num_M v rfl (by omega))) ?_
    refine out_seq (l1 := [59]) (out1M 59 rfl (by omega)) ?_
    exact out_nil
  · rw [act_1 hv]
    refine out_seq (l1 := [32]) (out1M 32 rfl (by omega)) ?_
    refine out_ix k rfl hk (by omega) ?_
    refine out_f (fun I hI => by show ¬ I 23 k = 0; rw [r3 I hI, h3]; decide) ?_
    refine out_ix k rfl hk (by omega) ?_
    refine out_t (fun I hI => by show I 23 k = 1; rw [r3 I hI, h3]; decide) ?_
    refine out_seq (l1 := [114]) (out1M 114 rfl (by omega)) ?_
    refine out_ix k rfl hk (by omega) ?_
    refine out_f (fun I hI => by show ¬ (2 : Int32) ≤ I 23 k; rw [r3 I hI, h3]; decide) ?_
    refine out_seq (l1 := [32]) (out1M 32 rfl (by omega)) ?_
    refine out_ix k rfl hk (by omega) ?_
    refine out_seq (l1 := [97 + p]) (out_at (h := g_156 (nI (97 + p))) (fun I hI => by show g_156 (97 + I 24 k) I = _; rw [r4 I hI, h4, show (97 : Int32) + nI p = nI (97 + p) from nI_add 97 _]) (out1M _ rfl (by omega))) ?_
    refine out_seq (l1 := [32]) (out1M 32 rfl (by omega)) ?_
    refine out_ix k rfl hk (by omega) ?_
    refine out_t (fun I hI => by show I 23 k = 1; rw [r3 I hI, h3]; decide) ?_
    refine out_seq (l1 := [114]) (out1M 114 rfl (by omega)) ?_
    refine out_ix k rfl hk (by omega) ?_
    refine out_seq (l1 := [48 + v]) (out_at (h := g_157 (nI v)) (fun I hI => by show g_157 (I 25 k) I = _; rw [r5 I hI, h5]) (by rw [← num_9 hv]; exact num_M v rfl (by omega))) ?_
    refine out_seq (l1 := [59]) (out1M 59 rfl (by omega)) ?_
    exact out_nil

/-- a term's bytes -/
def trmL (f : Bool) (h w v : Nat) : List Nat := if f then [97 + w] ++ ([32] ++ ([61] ++ ([32] ++ num v))) else [116] ++ ([48 + h] ++ ([58] ++ ([114] ++ ([48 + w] ++ ([32] ++ ([61] ++ ([32] ++ num v)))))))
theorem trm_len (f : Bool) (h w v : Nat) : (trmL f h w v).length ≤ 10 := by
  have := num_len v
  unfold trmL
  cases f
  · rw [if_neg (by decide)]
    simp only [List.length_append, List.length_cons, List.length_nil]
    omega
  · rw [if_pos rfl]
    simp only [List.length_append, List.length_cons, List.length_nil]
    omega
def tls (T : Nat → List Nat) : Nat → Nat → List Nat
  | _, 0 => [41] ++ ([10] ++ [])
  | k, d + 1 => (if k = 0 then [] else [32] ++ ([38] ++ ([32] ++ []))) ++ (T k ++ tls T (k + 1) d)
theorem tls_len {T : Nat → List Nat} (hT : ∀ k, (T k).length ≤ 10) : ∀ d k, (tls T k d).length ≤ 13 * d + 2 := by
  intro d
  induction d with
  | zero => intro k; exact Nat.le_refl _
  | succ d ih =>
    intro k
    have h1 := ih (k + 1)
    have h2 := hT k
    unfold tls
    by_cases h : k = 0
    · rw [if_pos h]
      simp only [List.length_append, List.length_nil]
      omega
    · rw [if_neg h]
      simp only [List.length_append, List.length_cons, List.length_nil]
      omega
def vt (f : Bool) (h w v : Nat) (x y z : Int32) : Prop := y = nI w ∧ z = nI v ∧ v ≤ 99 ∧ (f = true ∧ x = -1 ∧ w < 4 ∨ f = false ∧ x = nI h ∧ h < 4 ∧ w ≤ 9)
set_option maxHeartbeats 1000000 in
theorem trm_M {M0 : Mem} {k : Nat} (hk : k < 17) (f : Bool) (h w v : Nat) (hr : vt f h w v (M0 26 k) (M0 27 k) (M0 28 k)) : OUT (FO M0) 20 23 30 id (g_160 (nI k)) (trmL f h w v) := by
  have r6 : ∀ I, FO M0 I → I 26 k = M0 26 k := fun I hI => by rw [hI.1 26 (by decide) (by decide)]
  have r7 : ∀ I, FO M0 I → I 27 k = M0 27 k := fun I hI => by rw [hI.1 27 (by decide) (by decide)]
  have r8 : ∀ I, FO M0 I → I 28 k = M0 28 k := fun I hI => by rw [hI.1 28 (by decide) (by decide)]
  obtain ⟨h7, h8, hv, ⟨rfl, h6, hw⟩ | ⟨rfl, h6, hh, hw⟩⟩ := hr
  · show OUT (FO M0) 20 23 30 id (fun I => g_160 (nI k) I) ([97 + w] ++ ([32] ++ ([61] ++ ([32] ++ num v))))
    unfold g_160
    refine out_ix k rfl hk (by omega) ?_
    refine out_t (fun I hI => by show I 26 k < 0; rw [r6 I hI, h6]; decide) ?_
    refine out_ix k rfl hk (by omega) ?_
    refine out_seq (l1 := [97 + w]) (out_at (h := g_156 (nI (97 + w))) (fun I hI => by show g_156 (97 + I 27 k) I = _; rw [r7 I hI, h7, show (97 : Int32) + nI w = nI (97 + w) from nI_add 97 _]) (out1M _ rfl (by omega))) ?_
    refine out_seq (l1 := [32]) (out1M 32 rfl (by omega)) ?_
    refine out_seq (l1 := [61]) (out1M 61 rfl (by omega)) ?_
    refine out_seq (l1 := [32]) (out1M 32 rfl (by omega)) ?_
    refine out_ix k rfl hk (by omega) ?_
    refine out_at (h := g_157 (nI v)) (fun I hI => ?_) (num_M v rfl hv)
    change Option.bind (g_157 (I 28 k) I) some = _
    rw [r8 I hI, h8]
    generalize g_157 (nI v) I = zz
    cases zz <;> rfl
  · show OUT (FO M0) 20 23 30 id (fun I => g_160 (nI k) I) ([116] ++ ([48 + h] ++ ([58] ++ ([114] ++ ([48 + w] ++ ([32] ++ ([61] ++ ([32] ++ num v))))))))
    unfold g_160
    refine out_ix k rfl hk (by omega) ?_
    refine out_f (fun I hI => by show ¬ I 26 k < 0; rw [r6 I hI, h6]; exact nI_pos (by omega)) ?_
    refine out_seq (l1 := [116]) (out1M 116 rfl (by omega)) ?_
    refine out_ix k rfl hk (by omega) ?_
    refine out_seq (l1 := [48 + h]) (out_at (h := g_157 (nI h)) (fun I hI => by show g_157 (I 26 k) I = _; rw [r6 I hI, h6]) (by rw [← num_9 (show h ≤ 9 from by omega)]; exact num_M h rfl (by omega))) ?_
    refine out_seq (l1 := [58]) (out1M 58 rfl (by omega)) ?_
    refine out_seq (l1 := [114]) (out1M 114 rfl (by omega)) ?_
    refine out_ix k rfl hk (by omega) ?_
    refine out_seq (l1 := [48 + w]) (out_at (h := g_157 (nI w)) (fun I hI => by show g_157 (I 27 k) I = _; rw [r7 I hI, h7]) (by rw [← num_9 (show w ≤ 9 from by omega)]; exact num_M w rfl (by omega))) ?_
    refine out_seq (l1 := [32]) (out1M 32 rfl (by omega)) ?_
    refine out_seq (l1 := [61]) (out1M 61 rfl (by omega)) ?_
    refine out_seq (l1 := [32]) (out1M 32 rfl (by omega)) ?_
    refine out_ix k rfl hk (by omega) ?_
    refine out_at (h := g_157 (nI v)) (fun I hI => ?_) (num_M v rfl hv)
    change Option.bind (g_157 (I 28 k) I) some = _
    rw [r8 I hI, h8]
    generalize g_157 (nI v) I = zz
    cases zz <;> rfl
theorem ne1 (s : Nat) (h : s < 2 ^ 31) : ¬ nI s = -1 := fun q => by
  have := congrArg Int32.toInt q
  rw [nI_toInt h] at this
  have e : (-1 : Int32).toInt = -1 := by decide
  omega
set_option maxHeartbeats 2000000 in
theorem trms_C {I0 : Mem} {m : Nat} (hm : m ≤ 16) (h42 : I0 4 2 = nI m) (F : Nat → Bool) (H Wn V : Nat → Nat) (hr : ∀ k, k < m → vt (F k) (H k) (Wn k) (V k) (I0 9 k) (I0 10 k) (I0 11 k)) : ∀ (d k n : Nat), k + d = m → d < n → OUT (FC I0) 18 1 19 id (l_104_21 n (nI k)) (tls (fun k => trmL (F k) (H k) (Wn k) (V k)) k d) := by
  have r42 : ∀ I, FC I0 I → I 4 2 = nI m := fun I hI => by rw [hI 4 (by decide) (by decide)]; exact h42
  intro d
  induction d with
  | zero =>
    intro k n hk hn
    obtain ⟨n, rfl⟩ : ∃ m', n = m' + 1 := ⟨n - 1, by omega⟩
    show OUT (FC I0) 18 1 19 id (fun I => l_104_21 (n + 1) (nI k) I) ([41, 10] ++ [])
    simp only [l_104_21]
    refine out_t (fun I hI => by show I 4 2 ≤ nI k; rw [r42 I hI]; exact nI_le (by omega) (by omega)) ?_
    exact out_seq os_28 out_nil
  | succ d ih =>
    intro k n hkd hn
    obtain ⟨n, rfl⟩ : ∃ m', n = m' + 1 := ⟨n - 1, by omega⟩
    have kk := ih (k + 1) n (by omega) (by omega)
    have hk : k < 16 := by omega
    have r9 : ∀ I, FC I0 I → I 9 k = I0 9 k := fun I hI => by rw [hI 9 (by decide) (by decide)]
    have r10 : ∀ I, FC I0 I → I 10 k = I0 10 k := fun I hI => by rw [hI 10 (by decide) (by decide)]
    have r11 : ∀ I, FC I0 I → I 11 k = I0 11 k := fun I hI => by rw [hI 11 (by decide) (by decide)]
    show OUT (FC I0) 18 1 19 id (fun I => l_104_21 (n + 1) (nI k) I) ((if k = 0 then [] else [32] ++ ([38] ++ ([32] ++ []))) ++ (trmL (F k) (H k) (Wn k) (V k) ++ tls (fun k => trmL (F k) (H k) (Wn k) (V k)) (k + 1) d))
    simp only [l_104_21]
    refine out_f (fun I hI => by show ¬ I 4 2 ≤ nI k; rw [r42 I hI]; exact nI_ge (by omega) (by omega)) ?_
    obtain ⟨h10, h11, hv, hrest⟩ := hr k (by omega)
    generalize F k = f at *
    generalize H k = h at *
    generalize Wn k = w at *
    generalize V k = v at *
    by_cases k0 : k = 0
    · rw [if_pos k0]
      refine out_t (fun I hI => by show nI k ≤ 0; rw [k0]; decide) ?_
      obtain ⟨rfl, h9, hw⟩ | ⟨rfl, h9, hh, hw⟩ := hrest
      · rw [show trmL true h w v ++ tls (fun k => trmL (F k) (H k) (Wn k) (V k)) (k + 1) d = [97 + w] ++ ([32, 61, 32] ++ (num v ++ tls (fun k => trmL (F k) (H k) (Wn k) (V k)) (k + 1) d)) from by unfold trmL; simp]
        show OUT _ _ _ _ _ _ (_ ++ _)
        rw [List.nil_append]
        refine out_ix k rfl hk (by omega) ?_
        refine out_t (fun I hI => by show I 9 k = -1; rw [r9 I hI, h9]) ?_
        refine out_ix k rfl hk (by omega) ?_
        refine out_seq (l1 := [97 + w]) (out_at (h := g_100 (nI (97 + w))) (fun I hI => by show g_100 (97 + I 10 k) I = _; rw [r10 I hI, h10, show (97 : Int32) + nI w = nI (97 + w) from nI_add 97 _]) (out1C _ rfl (by omega))) ?_
        refine out_seq (l1 := [32, 61, 32]) os_27 ?_
        refine out_ix k rfl hk (by omega) ?_
        refine out_seq (l1 := num v) (out_at (h := g_103 (nI v)) (fun I hI => by show g_103 (I 11 k) I = _; rw [r11 I hI, h11]) (num_C v rfl hv)) ?_
        rw [← nI_1] at kk
        exact kk
      · rw [show trmL false h w v ++ tls (fun k => trmL (F k) (H k) (Wn k) (V k)) (k + 1) d = [116, 48 + h] ++ ([58] ++ ([114, 48 + w] ++ ([32, 61, 32] ++ (num v ++ tls (fun k => trmL (F k) (H k) (Wn k) (V k)) (k + 1) d)))) from by unfold trmL; simp]
        rw [List.nil_append]
        refine out_ix k rfl hk (by omega) ?_
        refine out_f (fun I hI => by show ¬ I 9 k = -1; rw [r9 I hI, h9]; exact ne1 h (by omega)) ?_
        refine out_ix k rfl hk (by omega) ?_
        refine out_seq (l1 := [116, 48 + h]) (out_at (h := g_99 116 (nI h)) (fun I hI => by show g_99 116 (I 9 k) I = _; rw [r9 I hI, h9]) (two_C 116 h rfl (by omega) rfl (by omega))) ?_
        refine out_seq (l1 := [58]) (out1C 58 rfl (by omega)) ?_
        refine out_ix k rfl hk (by omega) ?_
        refine out_seq (l1 := [114, 48 + w]) (out_at (h := g_99 114 (nI w)) (fun I hI => by show g_99 114 (I 10 k) I = _; rw [r10 I hI, h10]) (two_C 114 w rfl (by omega) rfl (by omega))) ?_
        refine out_seq (l1 := [32, 61, 32]) os_27 ?_
        refine out_ix k rfl hk (by omega) ?_
        refine out_seq (l1 := num v) (out_at (h := g_103 (nI v)) (fun I hI => by show g_103 (I 11 k) I = _; rw [r11 I hI, h11]) (num_C v rfl hv)) ?_
        rw [← nI_1] at kk
        exact kk
    · rw [if_neg k0]
      refine out_f (fun I hI => by show ¬ nI k ≤ 0; exact nI_nle (by omega) (by omega)) ?_
      refine out_seq (l1 := [32, 38, 32]) os_26 ?_
      obtain ⟨rfl, h9, hw⟩ | ⟨rfl, h9, hh, hw⟩ := hrest
      · rw [show trmL true h w v ++ tls (fun k => trmL (F k) (H k) (Wn k) (V k)) (k + 1) d = [97 + w] ++ ([32, 61, 32] ++ (num v ++ tls (fun k => trmL (F k) (H k) (Wn k) (V k)) (k + 1) d)) from by unfold trmL; simp]
        refine out_ix k rfl hk (by omega) ?_
        refine out_t (fun I hI => by show I 9 k = -1; rw [r9 I hI, h9]) ?_
        refine out_ix k rfl hk (by omega) ?_
        refine out_seq (l1 := [97 + w]) (out_at (h := g_100 (nI (97 + w))) (fun I hI => by show g_100 (97 + I 10 k) I = _; rw [r10 I hI, h10, show (97 : Int32) + nI w = nI (97 + w) from nI_add 97 _]) (out1C _ rfl (by omega))) ?_
        refine out_seq (l1 := [32, 61, 32]) os_27 ?_
        refine out_ix k rfl hk (by omega) ?_
        refine out_seq (l1 := num v) (out_at (h := g_103 (nI v)) (fun I hI => by show g_103 (I 11 k) I = _; rw [r11 I hI, h11]) (num_C v rfl hv)) ?_
        rw [← nI_1] at kk
        exact kk
      · rw [show trmL false h w v ++ tls (fun k => trmL (F k) (H k) (Wn k) (V k)) (k + 1) d = [116, 48 + h] ++ ([58] ++ ([114, 48 + w] ++ ([32, 61, 32] ++ (num v ++ tls (fun k => trmL (F k) (H k) (Wn k) (V k)) (k + 1) d)))) from by unfold trmL; simp]
        refine out_ix k rfl hk (by omega) ?_
        refine out_f (fun I hI => by show ¬ I 9 k = -1; rw [r9 I hI, h9]; exact ne1 h (by omega)) ?_
        refine out_ix k rfl hk (by omega) ?_
        refine out_seq (l1 := [116, 48 + h]) (out_at (h := g_99 116 (nI h)) (fun I hI => by show g_99 116 (I 9 k) I = _; rw [r9 I hI, h9]) (two_C 116 h rfl (by omega) rfl (by omega))) ?_
        refine out_seq (l1 := [58]) (out1C 58 rfl (by omega)) ?_
        refine out_ix k rfl hk (by omega) ?_
        refine out_seq (l1 := [114, 48 + w]) (out_at (h := g_99 114 (nI w)) (fun I hI => by show g_99 114 (I 10 k) I = _; rw [r10 I hI, h10]) (two_C 114 w rfl (by omega) rfl (by omega))) ?_
        refine out_seq (l1 := [32, 61, 32]) os_27 ?_
        refine out_ix k rfl hk (by omega) ?_
        refine out_seq (l1 := num v) (out_at (h := g_103 (nI v)) (fun I hI => by show g_103 (I 11 k) I = _; rw [r11 I hI, h11]) (num_C v rfl hv)) ?_
        rw [← nI_1] at kk
        exact kk
set_option maxHeartbeats 2000000 in
theorem trms_M {M0 : Mem} {m : Nat} (hm : m ≤ 16) (h28 : M0 20 8 = nI m) (F : Nat → Bool) (H Wn V : Nat → Nat) (hr : ∀ k, k < m → vt (F k) (H k) (Wn k) (V k) (M0 26 k) (M0 27 k) (M0 28 k)) : ∀ (d k n : Nat), k + d = m → d < n → OUT (FO M0) 20 23 30 (fun J => (J 20 23, J)) (l_155_118 n (nI k)) (tls (fun k => trmL (F k) (H k) (Wn k) (V k)) k d) := by
  have r8 : ∀ I, FO M0 I → I 20 8 = nI m := fun I hI => by rw [hI.2 8 (by decide)]; exact h28
  intro d
  induction d with
  | zero =>
    intro k n hk hn
    obtain ⟨n, rfl⟩ : ∃ m', n = m' + 1 := ⟨n - 1, by omega⟩
    show OUT (FO M0) 20 23 30 (fun J => (J 20 23, J)) (fun I => l_155_118 (n + 1) (nI k) I) ([41] ++ ([10] ++ []))
    simp only [l_155_118]
    refine out_t (fun I hI => by show I 20 8 ≤ nI k; rw [r8 I hI]; exact nI_le (by omega) (by omega)) ?_
    exact out_seq (l1 := [41]) (out1M 41 rfl (by omega)) (out_seq (l1 := [10]) (out1M 10 rfl (by omega)) (out_end (fun I _ => rfl)))
  | succ d ih =>
    intro k n hkd hn
    obtain ⟨n, rfl⟩ : ∃ m', n = m' + 1 := ⟨n - 1, by omega⟩
    have kk := ih (k + 1) n (by omega) (by omega)
    rw [← nI_1] at kk
    have tm := trm_M (M0 := M0) (k := k) (by omega) (F k) (H k) (Wn k) (V k) (hr k (by omega))
    show OUT (FO M0) 20 23 30 (fun J => (J 20 23, J)) (fun I => l_155_118 (n + 1) (nI k) I) ((if k = 0 then [] else [32] ++ ([38] ++ ([32] ++ []))) ++ (trmL (F k) (H k) (Wn k) (V k) ++ tls (fun k => trmL (F k) (H k) (Wn k) (V k)) (k + 1) d))
    simp only [l_155_118]
    refine out_f (fun I hI => by show ¬ I 20 8 ≤ nI k; rw [r8 I hI]; exact nI_ge (by omega) (by omega)) ?_
    by_cases k0 : k = 0
    · rw [if_pos k0, List.nil_append]
      refine out_t (fun I hI => by show nI k ≤ 0; rw [k0]; decide) ?_
      exact out_seq tm kk
    · rw [if_neg k0]
      refine out_f (fun I hI => by show ¬ nI k ≤ 0; exact nI_nle (by omega) (by omega)) ?_
      show OUT _ _ _ _ _ _ ([32] ++ ([38] ++ ([32] ++ (trmL (F k) (H k) (Wn k) (V k) ++ _))))
      exact out_seq (l1 := [32]) (out1M 32 rfl (by omega)) (out_seq (l1 := [38]) (out1M 38 rfl (by omega)) (out_seq (l1 := [32]) (out1M 32 rfl (by omega)) (out_seq tm kk)))
/-- the condition's bytes -/
def cndL (c : Nat) (t : List Nat) : List Nat := if c = 0 then [] else (if c = 1 then [101, 120, 105, 115, 116, 115, 32, 40] else [102, 111, 114, 97, 108, 108, 32, 40]) ++ t
theorem cnd_C {I0 : Mem} {m c : Nat} (hm : m ≤ 16) (hc : c ≤ 2) (h42 : I0 4 2 = nI m) (h43 : I0 4 3 = nI c) (F : Nat → Bool) (H Wn V : Nat → Nat) (hr : ∀ k, k < m → vt (F k) (H k) (Wn k) (V k) (I0 9 k) (I0 10 k) (I0 11 k)) : OUT (FC I0) 18 1 19 id (fun I => if I 4 3 = 0 then some I else (g_104 I).bind (fun w1 => some w1)) (cndL c (tls (fun k => trmL (F k) (H k) (Wn k) (V k)) 0 m)) := by
  have r43 : ∀ I, FC I0 I → I 4 3 = nI c := fun I hI => by rw [hI 4 (by decide) (by decide)]; exact h43
  have tm := trms_C hm h42 F H Wn V hr m 0 5000 (by omega) (by omega)
  rw [nI_0] at tm
  unfold cndL
  by_cases c0 : c = 0
  · rw [if_pos c0]
    exact out_t (fun I hI => by show I 4 3 = 0; rw [r43 I hI, c0]; rfl) out_nil
  · rw [if_neg c0]
    refine out_f (fun I hI => by show ¬ I 4 3 = 0; rw [r43 I hI]; exact nI_ne0 (by omega) (by omega)) ?_
    rw [← List.append_nil (_ ++ _)]
    refine out_seq ?_ out_nil
    show OUT (FC I0) 18 1 19 id (fun I => g_104 I) _
    unfold g_104
    by_cases c1 : c = 1
    · rw [if_pos c1]
      refine out_t (fun I hI => by show I 4 3 = 1; rw [r43 I hI, c1]; rfl) ?_
      exact out_seq os_24 tm
    · rw [if_neg c1]
      refine out_f (fun I hI => by show ¬ I 4 3 = 1; rw [r43 I hI]; exact fun q => c1 ((nI_eq (b := 1) (by omega) (by omega)).mp q)) ?_
      exact out_seq os_25 tm
theorem wrd_M {M0 : Mem} {c : Nat} (hc : c = 1 ∨ c = 2) (h9 : M0 20 9 = nI c) : OUT (FO M0) 20 23 30 id g_159 (if c = 1 then [101] ++ ([120] ++ ([105] ++ ([115] ++ ([116] ++ ([115] ++ []))))) else [102] ++ ([111] ++ ([114] ++ ([97] ++ ([108] ++ ([108] ++ [])))))) := by
  have r9 : ∀ I, FO M0 I → I 20 9 = nI c := fun I hI => by rw [hI.2 9 (by decide)]; exact h9
  show OUT (FO M0) 20 23 30 id (fun I => g_159 I) _
  unfold g_159 j_159_13 j_159_26 j_159_41 j_159_56 j_159_71 j_159_86
  rcases hc with rfl | rfl
  · rw [if_pos rfl]
    refine out_t (fun I hI => by show I 20 9 = 1; rw [r9 I hI]; rfl) ?_
    refine out_f (fun I hI => by decide) ?_
    refine out_seq (l1 := [101]) (out1M 101 rfl (by omega)) ?_
    refine out_f (fun I hI => by decide) ?_
    refine out_seq (l1 := [120]) (out1M 120 rfl (by omega)) ?_
    refine out_f (fun I hI => by decide) ?_
    refine out_seq (l1 := [105]) (out1M 105 rfl (by omega)) ?_
    refine out_f (fun I hI => by decide) ?_
    refine out_seq (l1 := [115]) (out1M 115 rfl (by omega)) ?_
    refine out_f (fun I hI => by decide) ?_
    refine out_seq (l1 := [116]) (out1M 116 rfl (by omega)) ?_
    refine out_f (fun I hI => by decide) ?_
    refine out_seq (l1 := [115]) (out1M 115 rfl (by omega)) ?_
    exact out_nil
  · rw [if_neg (by decide)]
    refine out_f (fun I hI => by show ¬ I 20 9 = 1; rw [r9 I hI]; decide) ?_
    refine out_t (fun I hI => by decide) ?_
    refine out_seq (l1 := [102]) (out1M 102 rfl (by omega)) ?_
    refine out_t (fun I hI => by decide) ?_
    refine out_seq (l1 := [111]) (out1M 111 rfl (by omega)) ?_
    refine out_t (fun I hI => by decide) ?_
    refine out_seq (l1 := [114]) (out1M 114 rfl (by omega)) ?_
    refine out_t (fun I hI => by decide) ?_
    refine out_seq (l1 := [97]) (out1M 97 rfl (by omega)) ?_
    refine out_t (fun I hI => by decide) ?_
    refine out_seq (l1 := [108]) (out1M 108 rfl (by omega)) ?_
    refine out_t (fun I hI => by decide) ?_
    refine out_seq (l1 := [108]) (out1M 108 rfl (by omega)) ?_
    exact out_nil
/-- the rows of one thread, from row k on -/
def fil (A : Nat → List Nat) (ow : Nat → Nat) (th : Nat) : Nat → Nat → List Nat
  | _, 0 => []
  | k, d + 1 => (if ow k = th then A k else []) ++ fil A ow th (k + 1) d
theorem fil_skip {A : Nat → List Nat} {ow : Nat → Nat} {th : Nat} : ∀ (s k d : Nat), (∀ j, k ≤ j → j < k + s → ow j ≠ th) → fil A ow th k (s + d) = fil A ow th (k + s) d := by
  intro s
  induction s with
  | zero => intro k d _; rw [Nat.zero_add]; rfl
  | succ s ih =>
    intro k d h
    rw [show s + 1 + d = (s + d) + 1 from by omega, fil, if_neg (h k (Nat.le_refl _) (by omega)), List.nil_append, ih (k + 1) d (fun j h1 h2 => h j (by omega) (by omega)), show k + 1 + s = k + (s + 1) from by omega]
theorem fil_nil {A : Nat → List Nat} {ow : Nat → Nat} {th : Nat} (d k : Nat) (h : ∀ j, k ≤ j → j < k + d → ow j ≠ th) : fil A ow th k d = [] := by
  have := fil_skip (A := A) (ow := ow) (th := th) d k 0 h
  exact this
theorem row_C {I0 : Mem} {a t th : Nat} {ow : Nat → Nat} {A : Nat → List Nat} (ha : a ≤ 24) (ht : t ≤ 4) (h41 : I0 4 1 = nI a) (h5 : ∀ k, k < a → I0 5 k = nI (ow k) ∧ ow k < t) (hA : ∀ k, k < a → OUT (FC I0) 18 1 19 id (g_101 (I0 6 k) (I0 7 k) (I0 8 k)) (A k)) (hl : ∀ k, k < a → (A k).length ≤ 8) (hth : th < t) (mono : ∀ k, k + 1 < a → ow k ≤ ow (k + 1)) : ∀ (d s n : Nat), s + d = a → d < n → (∀ k, s ≤ k → k < a → th ≤ ow k) → ∃ e, s ≤ e ∧ e ≤ a ∧ (∀ k, s ≤ k → k < e → ow k = th) ∧ (∀ k, e ≤ k → k < a → th < ow k) ∧ OUT (FC I0) 18 1 19 (fun J => (nI e, nI th, J)) (l_98_30 n (nI s) (nI th)) (fil A ow th s d) ∧ (fil A ow th s d).length ≤ 8 * (e - s) := by
  have r41 : ∀ I, FC I0 I → I 4 1 = nI a := fun I hI => by rw [hI 4 (by decide) (by decide)]; exact h41
  intro d
  induction d with
  | zero =>
    intro s n hs hn hge
    obtain ⟨n, rfl⟩ : ∃ m', n = m' + 1 := ⟨n - 1, by omega⟩
    refine ⟨s, Nat.le_refl _, by omega, fun k h1 h2 => by omega, fun k h1 h2 => by omega, out_end (fun I hI => ?_), Nat.zero_le _⟩
    rw [l_98_30, r41 I hI, if_pos (nI_le (by omega) (by omega))]
  | succ d ih =>
    intro s n hs hn hge
    obtain ⟨n, rfl⟩ : ∃ m', n = m' + 1 := ⟨n - 1, by omega⟩
    obtain ⟨o1, o2⟩ := h5 s (by omega)
    by_cases hsth : ow s = th
    · obtain ⟨e, e1, e2, e3, e4, e5, e6⟩ := ih (s + 1) n (by omega) (by omega) (fun k h1 h2 => hge k (by omega) h2)
      have hl' := hl s (by omega)
      refine ⟨e, by omega, e2, fun k h1 h2 => ?_, e4, ?_, ?_⟩
      · by_cases hk : k = s
        · rw [hk]; exact hsth
        · exact e3 k (by omega) h2
      · rw [fil, if_pos hsth]
        refine out_at (h := fun I => (g_101 (I0 6 s) (I0 7 s) (I0 8 s) I).bind (l_98_30 n (nI (s + 1)) (nI th))) (fun I hI => ?_) (out_seq (hA s (by omega)) e5)
        rw [l_98_30, r41 I hI, if_neg (nI_ge (by omega) (by omega)), ix_nI (by omega) (by omega), hI 5 (by decide) (by decide), o1, hsth, if_pos rfl, ix_nI (by omega) (by omega), ix_nI (by omega) (by omega), ix_nI (by omega) (by omega), hI 6 (by decide) (by decide), hI 7 (by decide) (by decide), hI 8 (by decide) (by decide), nI_1]
      · rw [fil, if_pos hsth, List.length_append]
        omega
    · have hgt : th < ow s := by have := hge s (Nat.le_refl _) (by omega); omega
      have hall : ∀ k, s ≤ k → k < a → th < ow k := by
        intro k h1
        induction k with
        | zero => intro h2; rw [show (0 : Nat) = s from by omega]; exact hgt
        | succ k ihk =>
          intro h2
          by_cases hks : k + 1 = s
          · rw [hks]; exact hgt
          · have := ihk (by omega) (by omega)
            have := mono k h2
            omega
      refine ⟨s, Nat.le_refl _, by omega, fun k h1 h2 => by omega, hall, ?_, ?_⟩
      · rw [fil_nil (d + 1) s (fun j h1 h2 => by have := hall j h1 (by omega); omega)]
        refine out_end (fun I hI => ?_)
        rw [l_98_30, r41 I hI, if_neg (nI_ge (by omega) (by omega)), ix_nI (by omega) (by omega), hI 5 (by decide) (by decide), o1, if_neg (fun q => hsth ((nI_eq (by omega) (by omega)).mp q))]
      · rw [fil_nil (d + 1) s (fun j h1 h2 => by have := hall j h1 (by omega); omega)]
        exact Nat.zero_le _
theorem row_M {M0 : Mem} {a t th : Nat} {ow : Nat → Nat} {A : Nat → List Nat} (ha : a ≤ 24) (ht : t ≤ 4) (h7 : M0 20 7 = nI a) (h5 : ∀ k, k < a → M0 22 k = nI (ow k) ∧ ow k < t) (hA : ∀ k, k < a → OUT (FO M0) 20 23 30 id (g_158 (nI k)) (A k)) (hth : th < t) : ∀ (d s n : Nat), s + d = a → d < n → OUT (FO M0) 20 23 30 (fun J => (nI th, nI a, J)) (l_155_52 n (nI th) (nI s)) (fil A ow th s d) := by
  have r7 : ∀ I, FO M0 I → I 20 7 = nI a := fun I hI => by rw [hI.2 7 (by decide)]; exact h7
  intro d
  induction d with
  | zero =>
    intro s n hs hn
    obtain ⟨n, rfl⟩ : ∃ m', n = m' + 1 := ⟨n - 1, by omega⟩
    have hs : s = a := by omega
    subst hs
    refine out_end (fun I hI => ?_)
    rw [l_155_52, r7 I hI, if_pos (nI_le (by omega) (by omega))]
  | succ d ih =>
    intro s n hs hn
    obtain ⟨n, rfl⟩ : ∃ m', n = m' + 1 := ⟨n - 1, by omega⟩
    obtain ⟨o1, o2⟩ := h5 s (by omega)
    have k := ih (s + 1) n (by omega) (by omega)
    rw [fil]
    by_cases hsth : ow s = th
    · rw [if_pos hsth]
      refine out_at (h := fun I => (g_158 (nI s) I).bind (l_155_52 n (nI th) (nI (s + 1)))) (fun I hI => ?_) (out_seq (hA s (by omega)) k)
      rw [l_155_52, r7 I hI, if_neg (nI_ge (by omega) (by omega)), ix_nI (by omega) (by omega), hI.1 22 (by decide) (by decide), o1, hsth, if_pos rfl, nI_1]
    · rw [if_neg hsth, List.nil_append]
      refine out_at (fun I hI => ?_) k
      rw [l_155_52, r7 I hI, if_neg (nI_ge (by omega) (by omega)), ix_nI (by omega) (by omega), hI.1 22 (by decide) (by decide), o1, if_neg (fun q => hsth ((nI_eq (by omega) (by omega)).mp q)), nI_1]
def thl (A : Nat → List Nat) (ow : Nat → Nat) (a : Nat) (c : List Nat) : Nat → Nat → List Nat
  | _, 0 => c
  | th, d + 1 => [116] ++ ([48 + th] ++ ([58] ++ (fil A ow th 0 a ++ ([10] ++ thl A ow a c (th + 1) d))))
set_option maxHeartbeats 1000000 in
theorem thr_C {I0 : Mem} {a t : Nat} {ow : Nat → Nat} {A : Nat → List Nat} {cl : List Nat} (ha : a ≤ 24) (ht : t ≤ 4) (h40 : I0 4 0 = nI t) (h41 : I0 4 1 = nI a) (h5 : ∀ k, k < a → I0 5 k = nI (ow k) ∧ ow k < t) (hA : ∀ k, k < a → OUT (FC I0) 18 1 19 id (g_101 (I0 6 k) (I0 7 k) (I0 8 k)) (A k)) (hl : ∀ k, k < a → (A k).length ≤ 8) (mono : ∀ k, k + 1 < a → ow k ≤ ow (k + 1)) (hc : OUT (FC I0) 18 1 19 id (fun I => if I 4 3 = 0 then some I else (g_104 I).bind (fun w1 => some w1)) cl) : ∀ (d th s n : Nat), th + d = t → d < n → s ≤ a → (∀ k, k < s → ow k < th) → (∀ k, s ≤ k → k < a → th ≤ ow k) → OUT (FC I0) 18 1 19 id (l_98_9 n (nI s) (nI th)) (thl A ow a cl th d) ∧ (thl A ow a cl th d).length ≤ 4 * d + 8 * (a - s) + cl.length := by
  have r40 : ∀ I, FC I0 I → I 4 0 = nI t := fun I hI => by rw [hI 4 (by decide) (by decide)]; exact h40
  intro d
  induction d with
  | zero =>
    intro th s n hth hn hs h1 h2
    obtain ⟨n, rfl⟩ : ∃ m', n = m' + 1 := ⟨n - 1, by omega⟩
    refine ⟨?_, by show cl.length ≤ _; omega⟩
    show OUT (FC I0) 18 1 19 id (fun I => l_98_9 (n + 1) (nI s) (nI th) I) cl
    simp only [l_98_9]
    exact out_t (fun I hI => by show I 4 0 ≤ nI th; rw [r40 I hI]; exact nI_le (by omega) (by omega)) hc
  | succ d ih =>
    intro th s n hth hn hs h1 h2
    obtain ⟨n, rfl⟩ : ∃ m', n = m' + 1 := ⟨n - 1, by omega⟩
    obtain ⟨e, e1, e2, e3, e4, e5, e6⟩ := row_C (th := th) ha ht h41 h5 hA hl (by omega) mono (a - s) s 5000 (by omega) (by omega) h2
    have es : fil A ow th 0 a = fil A ow th s (a - s) := by
      have := fil_skip (A := A) (ow := ow) (th := th) s 0 (a - s) (fun j _ hj => by have := h1 j (by omega); omega)
      rw [show s + (a - s) = a from by omega, Nat.zero_add] at this
      exact this
    obtain ⟨k1, k2⟩ := ih (th + 1) e n (by omega) (by omega) e2 (fun k hk => by
      by_cases hks : k < s
      · have := h1 k hks; omega
      · have := e3 k (by omega) hk; omega) (fun k hk1 hk2 => by have := e4 k hk1 hk2; omega)
    refine ⟨?_, ?_⟩
    · show OUT (FC I0) 18 1 19 id (fun I => l_98_9 (n + 1) (nI s) (nI th) I) ([116, 48 + th] ++ ([58] ++ (fil A ow th 0 a ++ ([10] ++ thl A ow a cl (th + 1) d))))
      rw [es]
      simp only [l_98_9]
      refine out_f (fun I hI => by show ¬ I 4 0 ≤ nI th; rw [r40 I hI]; exact nI_ge (by omega) (by omega)) ?_
      refine out_seq (l1 := [116, 48 + th]) (two_C 116 th rfl (by omega) rfl (by omega)) ?_
      refine out_seq (l1 := [58]) (out1C 58 rfl (by omega)) ?_
      refine out_bind e5 ?_
      change OUT (FC I0) 18 1 19 id (fun J => (g_100 10 J).bind (fun w5 => l_98_9 n (nI e) (nI th + 1) w5)) _
      refine out_seq (l1 := [10]) (out1C 10 rfl (by omega)) ?_
      rw [← nI_1] at k1
      exact k1
    · show ([116] ++ ([48 + th] ++ ([58] ++ (fil A ow th 0 a ++ ([10] ++ thl A ow a cl (th + 1) d))))).length ≤ _
      rw [es]
      simp only [List.length_append, List.length_cons, List.length_nil]
      omega
set_option maxHeartbeats 1000000 in
theorem thr_M {M0 : Mem} {a t : Nat} {ow : Nat → Nat} {A : Nat → List Nat} {cl : List Nat} (ha : a ≤ 24) (ht : t ≤ 4) (h6 : M0 20 6 = nI t) (h7 : M0 20 7 = nI a) (h5 : ∀ k, k < a → M0 22 k = nI (ow k) ∧ ow k < t) (hA : ∀ k, k < a → OUT (FO M0) 20 23 30 id (g_158 (nI k)) (A k)) (hc : OUT (FO M0) 20 23 30 (fun J => (J 20 23, J)) (fun I => if I 20 9 ≤ 0 then some (I 20 23, I) else (g_159 I).bind (fun w1 => (g_156 32 w1).bind (fun w2 => (g_156 40 w2).bind (fun w3 => l_155_118 5000 0 w3)))) cl) : ∀ (d th n : Nat), th + d = t → d < n → OUT (FO M0) 20 23 30 (fun J => (J 20 23, J)) (l_155_25 n (nI th)) (thl A ow a cl th d) := by
  have r6 : ∀ I, FO M0 I → I 20 6 = nI t := fun I hI => by rw [hI.2 6 (by decide)]; exact h6
  intro d
  induction d with
  | zero =>
    intro th n hth hn
    obtain ⟨n, rfl⟩ : ∃ m', n = m' + 1 := ⟨n - 1, by omega⟩
    show OUT (FO M0) 20 23 30 (fun J => (J 20 23, J)) (fun I => l_155_25 (n + 1) (nI th) I) cl
    simp only [l_155_25]
    exact out_t (fun I hI => by show I 20 6 ≤ nI th; rw [r6 I hI]; exact nI_le (by omega) (by omega)) hc
  | succ d ih =>
    intro th n hth hn
    obtain ⟨n, rfl⟩ : ∃ m', n = m' + 1 := ⟨n - 1, by omega⟩
    have k1 := ih (th + 1) n (by omega) (by omega)
    show OUT (FO M0) 20 23 30 (fun J => (J 20 23, J)) (fun I => l_155_25 (n + 1) (nI th) I) ([116] ++ ([48 + th] ++ ([58] ++ (fil A ow th 0 a ++ ([10] ++ thl A ow a cl (th + 1) d)))))
    simp only [l_155_25]
    refine out_f (fun I hI => by show ¬ I 20 6 ≤ nI th; rw [r6 I hI]; exact nI_ge (by omega) (by omega)) ?_
    refine out_seq (l1 := [116]) (out1M 116 rfl (by omega)) ?_
    refine out_seq (l1 := [48 + th]) (by rw [← num_9 (show th ≤ 9 from by omega)]; exact num_M th rfl (by omega)) ?_
    refine out_seq (l1 := [58]) (out1M 58 rfl (by omega)) ?_
    have rm := row_M (th := th) ha ht h7 h5 hA (by omega) a 0 5000 (by omega) (by omega)
    rw [nI_0] at rm
    refine out_bind rm ?_
    change OUT (FO M0) 20 23 30 (fun J => (J 20 23, J)) (fun J => (g_156 10 J).bind (fun w8 => l_155_25 n (nI th + 1) w8)) _
    refine out_seq (l1 := [10]) (out1M 10 rfl (by omega)) ?_
    rw [← nI_1] at k1
    exact k1
theorem cnd_M {M0 : Mem} {m c : Nat} (hm : m ≤ 16) (hc : c ≤ 2) (h8 : M0 20 8 = nI m) (h9 : M0 20 9 = nI c) (F : Nat → Bool) (H Wn V : Nat → Nat) (hr : ∀ k, k < m → vt (F k) (H k) (Wn k) (V k) (M0 26 k) (M0 27 k) (M0 28 k)) : OUT (FO M0) 20 23 30 (fun J => (J 20 23, J)) (fun I => if I 20 9 ≤ 0 then some (I 20 23, I) else (g_159 I).bind (fun w1 => (g_156 32 w1).bind (fun w2 => (g_156 40 w2).bind (fun w3 => l_155_118 5000 0 w3)))) (cndL c (tls (fun k => trmL (F k) (H k) (Wn k) (V k)) 0 m)) := by
  have r9 : ∀ I, FO M0 I → I 20 9 = nI c := fun I hI => by rw [hI.2 9 (by decide)]; exact h9
  have tm := trms_M hm h8 F H Wn V hr m 0 5000 (by omega) (by omega)
  rw [nI_0] at tm
  unfold cndL
  by_cases c0 : c = 0
  · rw [if_pos c0]
    exact out_t (fun I hI => by show I 20 9 ≤ 0; rw [r9 I hI, c0]; decide) (out_end (fun I _ => rfl))
  · rw [if_neg c0]
    refine out_f (fun I hI => by show ¬ I 20 9 ≤ 0; rw [r9 I hI]; exact nI_nle (by omega) (by omega)) ?_
    have wd := wrd_M (M0 := M0) (c := c) (by omega) h9
    have k := out_seq wd (out_seq (l1 := [32]) (out1M 32 rfl (by omega)) (out_seq (l1 := [40]) (out1M 40 rfl (by omega)) tm))
    by_cases c1 : c = 1
    · rw [if_pos c1]
      rw [if_pos c1] at k
      exact k
    · rw [if_neg c1]
      rw [if_neg c1] at k
      exact k
def nt (x : Int32) : Nat := x.toNatClampNeg
theorem nt_nI {n : Nat} (h : n < 2 ^ 31) : nt (nI n) = n := nI_clamp h
set_option maxHeartbeats 1000000 in
theorem pr_13 : p_13 INV := by
  intro I LG ⟨hT, hF, hP, hE, hO, hS⟩
  obtain ⟨t, a, m, c, ow, h, h5⟩ := id hP
  obtain ⟨p0, p1, p2, p3, p4, p5, p6, p7⟩ := id h
  have e2 := g60_ok h
  by_cases h0 : t = 0
  · rw [if_pos h0] at e2 h5
    exact pw_ex (V := INV) (J := I) (K := mm_up (mm_up I 20 0 0) 20 0 1) (z := 0) (c := 1) (LG := LG) (by decide) (by unfold g_13 g_97; rw [e2]; rfl) (by unfold g_155; rw [if_pos h5]; rfl) rfl ⟨hT, hF, hP, hE, hO, hS⟩
  rw [if_neg h0] at e2 h5
  have h5' : ¬ I 20 5 = 0 := by rw [h5]; decide
  have vr : ∀ k, k < m → vt (decide (I 26 k = -1)) (nt (I 26 k)) (nt (I 27 k)) (nt (I 28 k)) (I 26 k) (I 27 k) (I 28 k) := by
    intro k hk
    obtain ⟨w', v', q1, q2, q3, q4⟩ := (p7 k hk).2.2.2
    rcases q4 with ⟨q5, q6⟩ | ⟨h', q5, q6, q7⟩
    · refine ⟨?_, ?_, ?_, Or.inl ⟨by rw [q5]; rfl, q5, ?_⟩⟩
      · rw [q1, nt_nI (by omega)]
      · rw [q2, nt_nI (by omega)]
      · rw [q2, nt_nI (by omega)]; exact q3
      · rw [q1, nt_nI (by omega)]; exact q6
    · refine ⟨?_, ?_, ?_, Or.inr ⟨?_, ?_, ?_, ?_⟩⟩
      · rw [q1, nt_nI (by omega)]
      · rw [q2, nt_nI (by omega)]
      · rw [q2, nt_nI (by omega)]; exact q3
      · rw [q6]; exact decide_eq_false (ne1 h' (by omega))
      · rw [q6, nt_nI (by omega)]
      · rw [q6, nt_nI (by omega)]; exact q5
      · rw [q1, nt_nI (by omega)]; exact q7
  have va : ∀ k, k < a → I 23 k = nI 2 ∧ nt (I 23 k) = 2 ∨ nt (I 24 k) < 4 ∧ I 24 k = nI (nt (I 24 k)) ∧ I 25 k = nI (nt (I 25 k)) ∧ (I 23 k = nI 0 ∧ nt (I 23 k) = 0 ∧ nt (I 25 k) ≤ 99 ∨ I 23 k = nI 1 ∧ nt (I 23 k) = 1 ∧ nt (I 25 k) ≤ 9) := by
    intro k hk
    rcases (p5 k hk).2.2.2.2.2.2 with ⟨q1, _, _⟩ | ⟨p', v', q1, q2, q3, q4⟩
    · exact Or.inl ⟨q1, by rw [q1]; exact nt_nI (by omega)⟩
    · refine Or.inr ⟨?_, ?_, ?_, ?_⟩
      · rw [q2, nt_nI (by omega)]; exact q1
      · rw [q2, nt_nI (by omega)]
      · rcases q4 with ⟨_, q5⟩ | ⟨_, q5⟩ <;> rw [q3, nt_nI (by omega)]
      · rcases q4 with ⟨q4, q5⟩ | ⟨q4, q5⟩
        · refine Or.inl ⟨q4, ?_, ?_⟩
          · rw [q4]; exact nt_nI (by omega)
          · rw [q3, nt_nI (by omega)]; exact q5
        · refine Or.inr ⟨q4, ?_, ?_⟩
          · rw [q4]; exact nt_nI (by omega)
          · rw [q3, nt_nI (by omega)]; exact q5
  have al : ∀ k, k < a → (actL (nt (I 23 k)) (nt (I 24 k)) (nt (I 25 k))).length ≤ 8 := by
    intro k hk
    apply act_len
    rcases va k hk with ⟨_, q⟩ | ⟨_, _, _, ⟨_, q, _⟩ | ⟨_, q1, q2⟩⟩
    · exact Or.inr (Or.inr q)
    · exact Or.inl q
    · exact Or.inr (Or.inl ⟨q1, q2⟩)
  have cc : OUT (FC (mm_up I 18 1 0)) 18 1 19 id (fun Z => if Z 4 3 = 0 then some Z else (g_104 Z).bind (fun w1 => some w1)) (cndL c (tls (fun k => trmL (decide (I 26 k = -1)) (nt (I 26 k)) (nt (I 27 k)) (nt (I 28 k))) 0 m)) := cnd_C (I0 := mm_up I 18 1 0) p0.2.2.1 p0.2.2.2 p3.1 p4.1 (fun k => decide (I 26 k = -1)) (fun k => nt (I 26 k)) (fun k => nt (I 27 k)) (fun k => nt (I 28 k)) (fun k hk => by
    show vt _ _ _ _ (I 9 k) (I 10 k) (I 11 k)
    rw [(p7 k hk).1, (p7 k hk).2.1, (p7 k hk).2.2.1]
    exact vr k hk)
  obtain ⟨c1, c2⟩ := thr_C (I0 := mm_up I 18 1 0) (A := fun k => actL (nt (I 23 k)) (nt (I 24 k)) (nt (I 25 k))) p0.2.1 p0.1 p1.1 p2.1 (fun k hk => ⟨(p5 k hk).2.1, (p5 k hk).1⟩) (fun k hk => by
    show OUT _ _ _ _ _ (g_101 (I 6 k) (I 7 k) (I 8 k)) _
    rw [(p5 k hk).2.2.2.1, (p5 k hk).2.2.2.2.1, (p5 k hk).2.2.2.2.2.1]
    exact act_C _ _ _ (va k hk)) al p6 cc t 0 0 5000 (by omega) (by omega) (Nat.zero_le _) (fun k hk => absurd hk (Nat.not_lt_zero k)) (fun k _ _ => Nat.zero_le _)
  generalize hL : thl (fun k => actL (nt (I 23 k)) (nt (I 24 k)) (nt (I 25 k))) ow a (cndL c (tls (fun k => trmL (decide (I 26 k = -1)) (nt (I 26 k)) (nt (I 27 k)) (nt (I 28 k))) 0 m)) 0 t = L at c1 c2
  have cl : (cndL c (tls (fun k => trmL (decide (I 26 k = -1)) (nt (I 26 k)) (nt (I 27 k)) (nt (I 28 k))) 0 m)).length ≤ 8 + (13 * m + 2) := by
    have := tls_len (T := fun k => trmL (decide (I 26 k = -1)) (nt (I 26 k)) (nt (I 27 k)) (nt (I 28 k))) (fun k => trm_len _ _ _ _) m 0
    unfold cndL
    by_cases c0 : c = 0
    · rw [if_pos c0]; exact Nat.zero_le _
    · rw [if_neg c0, List.length_append]
      by_cases c1 : c = 1
      · rw [if_pos c1]; simp only [List.length_cons, List.length_nil]; omega
      · rw [if_neg c1]; simp only [List.length_cons, List.length_nil]; omega
  have hlen : L.length ≤ 448 := by have := p0.1; have := p0.2.1; have := p0.2.2.1; omega
  obtain ⟨J, j1, j2, j3, _, j5⟩ := c1.2 0 (mm_up I 18 1 0) (fun _ _ _ => rfl) rfl (by omega)
  rw [Nat.zero_add] at j3
  have jI : ∀ b, b ≠ 18 → b ≠ 19 → J b = I b := fun b b1 b2 => by rw [j2 b b1 b2, mm_up_ne b1]
  have cm : OUT (FO (mm_up (mm_up J 20 0 0) 20 23 0)) 20 23 30 (fun Z => (Z 20 23, Z)) (fun Z => if Z 20 9 ≤ 0 then some (Z 20 23, Z) else (g_159 Z).bind (fun w1 => (g_156 32 w1).bind (fun w2 => (g_156 40 w2).bind (fun w3 => l_155_118 5000 0 w3)))) (cndL c (tls (fun k => trmL (decide (I 26 k = -1)) (nt (I 26 k)) (nt (I 27 k)) (nt (I 28 k))) 0 m)) := cnd_M (M0 := mm_up (mm_up J 20 0 0) 20 23 0) (m := m) (c := c) p0.2.2.1 p0.2.2.2 (by show J 20 8 = _; rw [jI 20 (by decide) (by decide)]; exact p3.2) (by show J 20 9 = _; rw [jI 20 (by decide) (by decide)]; exact p4.2) (fun k => decide (I 26 k = -1)) (fun k => nt (I 26 k)) (fun k => nt (I 27 k)) (fun k => nt (I 28 k)) (fun k hk => by
    show vt _ _ _ _ (J 26 k) (J 27 k) (J 28 k)
    rw [jI 26 (by decide) (by decide), jI 27 (by decide) (by decide), jI 28 (by decide) (by decide)]
    exact vr k hk)
  have m1 := thr_M (M0 := mm_up (mm_up J 20 0 0) 20 23 0) (A := fun k => actL (nt (I 23 k)) (nt (I 24 k)) (nt (I 25 k))) (a := a) (t := t) (ow := ow) p0.2.1 p0.1 (by show J 20 6 = _; rw [jI 20 (by decide) (by decide)]; exact p1.2) (by show J 20 7 = _; rw [jI 20 (by decide) (by decide)]; exact p2.2) (fun k hk => by
    show J 22 k = _ ∧ _
    rw [jI 22 (by decide) (by decide)]
    exact ⟨(p5 k hk).2.2.1, (p5 k hk).1⟩) (fun k hk => by
    refine act_M (by have := p0.2.1; omega) _ _ _ ?_
    show J 23 k = _ ∧ _ ∨ _ ∧ J 24 k = _ ∧ J 25 k = _ ∧ (J 23 k = _ ∧ _ ∨ J 23 k = _ ∧ _)
    rw [jI 23 (by decide) (by decide), jI 24 (by decide) (by decide), jI 25 (by decide) (by decide)]
    exact va k hk) cm t 0 5000 (by omega) (by have := p0.1; omega)
  rw [hL] at m1
  obtain ⟨K, k1, k2, k3, _, k5⟩ := m1.2 0 (mm_up (mm_up J 20 0 0) 20 23 0) ⟨fun _ _ _ => rfl, fun _ _ => rfl⟩ rfl (by omega)
  rw [Nat.zero_add] at k3
  have kI : ∀ b, b ≠ 18 → b ≠ 19 → b ≠ 20 → b ≠ 30 → K b = I b := fun b b1 b2 b3 b4 => by rw [k2.1 b b3 b4, mm_up_ne b3, mm_up_ne b3, jI b b1 b2]
  have k20 : ∀ b, b ≠ 0 → b ≠ 23 → K 20 b = I 20 b := fun b b1 b2 => by rw [k2.2 b b2, up_other b2, up_other b1, jI 20 (by decide) (by decide)]
  refine pw_ok (J := J) (K := K) (r := nI L.length) (LG := LG) ?_ ?_ ?_ ⟨?_, ?_, ?_, ?_, ⟨L.length, hlen, ?_, k3, ?_⟩, ?_⟩
  · unfold g_13 g_97
    rw [e2]
    try simp only [Option.bind_some, nr0, nr1, s_10, s_n10, s_n00, s_a, s_b, s_c, s_d, s_e, ↓reduceIte]
    unfold g_98
    rw [nI_0] at j1
    rw [show l_98_9 5000 0 0 (mm_up I 18 1 0) = some J from j1]
    show some (0, 0, J, mm_up LG 37 0 (J 18 1).toInt64) = _
    rw [j3]
  · unfold g_155
    rw [show J 20 5 = I 20 5 from by rw [jI 20 (by decide) (by decide)], if_neg h5']
    rw [nI_0] at k1
    rw [show l_155_25 5000 0 (mm_up (mm_up J 20 0 0) 20 23 0) = some (K 20 23, K) from k1, k3]
  · rw [k2.2 0 (by decide)]
    rfl
  · exact tT_c hT (by rw [kI 2 (by decide) (by decide) (by decide) (by decide)]) (kI 3 (by decide) (by decide) (by decide) (by decide)) (k20 1 (by decide) (by decide)) (kI 21 (by decide) (by decide) (by decide) (by decide))
  · unfold tF
    rw [kI 1 (by decide) (by decide) (by decide) (by decide), k20 3 (by decide) (by decide), k20 4 (by decide) (by decide)]
    exact hF
  · exact tP_c hP (fun b b1 b2 => kI b (by omega) (by omega) (by omega) (by omega)) (fun b b1 b2 => kI b (by omega) (by omega) (by omega) (by omega)) (fun b b1 b2 => k20 b (by omega) (by omega))
  · exact tE_c hE (kI 12 (by decide) (by decide) (by decide) (by decide)) (kI 13 (by decide) (by decide) (by decide) (by decide)) (k20 21 (by decide) (by decide)) (kI 29 (by decide) (by decide) (by decide) (by decide))
  · rw [k2.1 18 (by decide) (by decide)]
    exact j3
  · intro k hk
    have b1 := j5 k hk
    have b2 := k5 k hk
    rw [Nat.zero_add] at b1 b2
    refine ⟨L.getD k 0, c1.1 _ ?_, ?_, b2⟩
    · rw [List.getD_eq_getElem?_getD, List.getElem?_eq_getElem hk]
      exact List.getElem_mem hk
    · rw [k2.1 19 (by decide) (by decide)]
      exact b1
  · exact tS_c hS (kI 16 (by decide) (by decide) (by decide) (by decide)) (kI 17 (by decide) (by decide) (by decide) (by decide)) (fun b b1 => k20 b (by omega) (by omega)) (kI 31 (by decide) (by decide) (by decide) (by decide))
end MMAA
