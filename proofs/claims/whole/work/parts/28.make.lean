/-! THE PAIR make, 1: is it a ring; where its rows of places begin; the numbers (written by wip/whole/gen/make_part.py). -/
section MMAB
def a1 (q : Nat) : Int32 := t_A1.getD q 0
def a2 (q : Nat) : Int32 := t_A2.getD q 0
theorem a2_01 : ∀ q, q < 11 → a2 q = 0 ∨ a2 q = 1 := by decide +kernel
theorem g137_t : ∀ q, q < 11 → g_137 (nI q) (fun _ _ => 0) = some (a1 q) := by decide +kernel
theorem g139_t : ∀ q, q < 11 → g_139 (nI q) (fun _ _ => 0) = some (a2 q) := by decide +kernel
theorem g137_ok {q : Nat} (h : q ≤ 10) (M : Mem) : g_137 (nI q) M = some (a1 q) := (show g_137 (nI q) M = g_137 (nI q) (fun _ _ => 0) from rfl).trans (g137_t q (by omega))
theorem g139_ok {q : Nat} (h : q ≤ 10) (M : Mem) : g_139 (nI q) M = some (a2 q) := (show g_139 (nI q) M = g_139 (nI q) (fun _ _ => 0) from rfl).trans (g139_t q (by omega))
/-- edges between threads, and within one, ahead of edge i -/
def rTh (K : Nat → Nat) : Nat → Nat
  | 0 => 0
  | i + 1 => rTh K i + (if K i ≤ 2 then 1 else 0)
def rLo (K : Nat → Nat) : Nat → Nat
  | 0 => 0
  | i + 1 => rLo K i + (if K i ≤ 2 then 0 else 1)
theorem th_lo (K : Nat → Nat) (i : Nat) : rTh K i + rLo K i = i := by
  induction i with
  | zero => rfl
  | succ i ih =>
    show rTh K i + (if K i ≤ 2 then 1 else 0) + (rLo K i + (if K i ≤ 2 then 0 else 1)) = i + 1
    split <;> omega
theorem th_s1 {K : Nat → Nat} {i : Nat} (h : K i ≤ 2) : rTh K (i + 1) = rTh K i + 1 ∧ rLo K (i + 1) = rLo K i := by
  constructor
  · show rTh K i + (if K i ≤ 2 then 1 else 0) = _
    rw [if_pos h]
  · show rLo K i + (if K i ≤ 2 then 0 else 1) = _
    rw [if_pos h]
    rfl
theorem th_s0 {K : Nat → Nat} {i : Nat} (h : ¬ K i ≤ 2) : rTh K (i + 1) = rTh K i ∧ rLo K (i + 1) = rLo K i + 1 := by
  constructor
  · show rTh K i + (if K i ≤ 2 then 1 else 0) = _
    rw [if_neg h]
    rfl
  · show rLo K i + (if K i ≤ 2 then 0 else 1) = _
    rw [if_neg h]
theorem th_mono (K : Nat → Nat) {i j : Nat} (h : i ≤ j) : rTh K i ≤ rTh K j ∧ rLo K i ≤ rLo K j := by
  obtain ⟨d, rfl⟩ : ∃ d, j = i + d := ⟨j - i, by omega⟩
  clear h
  induction d with
  | zero => exact ⟨Nat.le_refl _, Nat.le_refl _⟩
  | succ d ih =>
    by_cases c : K (i + d) ≤ 2
    · have := th_s1 c
      rw [show i + (d + 1) = i + d + 1 from rfl, this.1, this.2]
      omega
    · have := th_s0 c
      rw [show i + (d + 1) = i + d + 1 from rfl, this.1, this.2]
      omega
def RC (e : Nat) (K : Nat → Nat) (I : Mem) : Prop := e ≤ 12 ∧ I 12 3 = nI e ∧ ∀ k, k < e → K k ≤ 10 ∧ I 13 k = nI (K k)
def RM (e : Nat) (K : Nat → Nat) (M : Mem) : Prop := e ≤ 12 ∧ M 20 21 = nI e ∧ ∀ k, k < e → K k ≤ 10 ∧ M 29 k = nI (K k)
theorem g72_ok {e k : Nat} {K : Nat → Nat} {I : Mem} (h : RC e K I) (hk : k < e) : g_72 (nI k) I = some (if K k ≤ 2 then 1 else 0) := by
  have he := h.1
  have h1 := (h.2.2 k hk).1
  unfold g_72
  rw [if_neg (nI_pos (by omega)), h.2.1, if_neg (nI_ge hk (by omega)), ix_nI (by omega) (by omega), (h.2.2 k hk).2]
  by_cases c : K k ≤ 2
  · rw [if_neg (k_nlt (a := 2) (by rfl) (by rfl) c (by omega)), if_pos c]
  · rw [if_pos (k_lt (a := 2) (by rfl) (by rfl) (by omega) (by omega)), if_neg c]
def nxt (e k : Nat) : Nat := if k + 1 < e then k + 1 else 0
def okr (e : Nat) (K : Nat → Nat) (k : Nat) : Prop := a1 (K k) = a2 (K (nxt e k))
def FINr (e : Nat) (K : Nat → Nat) : Prop := 2 ≤ rTh K e ∧ rTh K e ≤ 4 ∧ 2 ≤ rLo K e ∧ rLo K e ≤ 4 ∧ K (e - 1) ≤ 2
theorem ringC_s {e k n : Nat} {K : Nat → Nat} {I : Mem} (h : RC e K I) (hk : k < e) : (okr e K k → l_71_4 (n + 1) (nI (rTh K k)) (nI k) I = l_71_4 n (nI (rTh K (k + 1))) (nI (k + 1)) I) ∧ (¬ okr e K k → l_71_4 (n + 1) (nI (rTh K k)) (nI k) I = some 0) := by
  have he := h.1
  have z : ∀ T : Nat → Option Int32, ix (0 : Int32) 12 T = T 0 := fun T => ix_nI (a := 0) (by omega) (by omega) T
  have k1 := (h.2.2 k hk).1
  have tail : Option.bind (g_72 (nI k) I) (fun w6 => if w6 = 0 then l_71_4 n (nI (rTh K k)) (nI k + 1) I else l_71_4 n (nI (rTh K k) + 1) (nI k + 1) I) = l_71_4 n (nI (rTh K (k + 1))) (nI (k + 1)) I := by
    rw [g72_ok h hk, nI_1, nI_1]
    by_cases c : K k ≤ 2
    · rw [if_pos c, (th_s1 c).1]; rfl
    · rw [if_neg c, (th_s0 c).1]; rfl
  rw [l_71_4, h.2.1, if_neg (nI_ge hk (by omega)), nI_1]
  by_cases last : k + 1 < e
  · have k2 := (h.2.2 (k + 1) last).1
    have en : nxt e k = k + 1 := if_pos last
    rw [if_neg (nI_ge last (by omega)), ix_nI (by omega) (by omega), (h.2.2 k hk).2, ix_nI (by omega) (by omega), ix_nI (by omega) (by omega), (h.2.2 (k + 1) last).2, ix_nI (by omega) (by omega)]
    constructor
    · intro q
      unfold okr at q
      rw [en] at q
      rw [if_pos (show t_A1.getD (K k) 0 = t_A2.getD (K (k + 1)) 0 from q)]
      rw [nI_1] at tail
      exact tail
    · intro q
      unfold okr at q
      rw [en] at q
      rw [if_neg (show ¬ t_A1.getD (K k) 0 = t_A2.getD (K (k + 1)) 0 from q)]
  · have k2 := (h.2.2 0 (by omega)).1
    have en : nxt e k = 0 := if_neg last
    rw [if_pos (nI_le (by omega) (by omega)), ix_nI (by omega) (by omega), (h.2.2 k hk).2, ix_nI (by omega) (by omega), z, (h.2.2 0 (by omega)).2, ix_nI (by omega) (by omega)]
    constructor
    · intro q
      unfold okr at q
      rw [en] at q
      rw [if_pos (show t_A1.getD (K k) 0 = t_A2.getD (K 0) 0 from q)]
      rw [nI_1] at tail
      exact tail
    · intro q
      unfold okr at q
      rw [en] at q
      rw [if_neg (show ¬ t_A1.getD (K k) 0 = t_A2.getD (K 0) 0 from q)]
theorem ringC_e {e n : Nat} {K : Nat → Nat} {I : Mem} (h : RC e K I) : (FINr e K → l_71_4 (n + 1) (nI (rTh K e)) (nI e) I = some 1) ∧ (¬ FINr e K → l_71_4 (n + 1) (nI (rTh K e)) (nI e) I = some 0) := by
  have he := h.1
  have tl := th_lo K e
  unfold FINr
  rw [l_71_4, h.2.1, if_pos (nI_le (Nat.le_refl _) (by omega)), pk_sub (a := e) (b := rTh K e) (by omega), show e - rTh K e = rLo K e from by omega]
  by_cases c1 : rTh K e < 2
  · rw [if_pos (k_lt (b := 2) (by rfl) (by rfl) c1 (by omega))]
    exact ⟨fun q => by omega, fun _ => rfl⟩
  rw [if_neg (k_nlt (b := 2) (by rfl) (by rfl) (by omega) (by omega))]
  by_cases c2 : 4 < rTh K e
  · rw [if_pos (k_lt (a := 4) (by rfl) (by rfl) c2 (by omega))]
    exact ⟨fun q => by omega, fun _ => rfl⟩
  rw [if_neg (k_nlt (a := 4) (by rfl) (by rfl) (by omega) (by omega))]
  by_cases c3 : rLo K e < 2
  · rw [if_pos (k_lt (b := 2) (by rfl) (by rfl) c3 (by omega))]
    exact ⟨fun q => by omega, fun _ => rfl⟩
  rw [if_neg (k_nlt (b := 2) (by rfl) (by rfl) (by omega) (by omega))]
  by_cases c4 : 4 < rLo K e
  · rw [if_pos (k_lt (a := 4) (by rfl) (by rfl) c4 (by omega))]
    exact ⟨fun q => by omega, fun _ => rfl⟩
  rw [if_neg (k_nlt (a := 4) (by rfl) (by rfl) (by omega) (by omega)), show nI e - (1 : Int32) = nI (e - 1) from pk_sub (a := e) (b := 1) (by omega), g72_ok h (by omega)]
  by_cases c5 : K (e - 1) ≤ 2
  · rw [if_pos c5]
    exact ⟨fun _ => rfl, fun q => absurd ⟨by omega, by omega, by omega, by omega, c5⟩ q⟩
  · rw [if_neg c5]
    exact ⟨fun q => absurd q.2.2.2.2 c5, fun _ => rfl⟩
theorem ringC {e : Nat} {K : Nat → Nat} {I : Mem} (h : RC e K I) : ∀ (d k n : Nat), k + d = e → d < n → ((∀ j, k ≤ j → j < e → okr e K j) ∧ FINr e K → l_71_4 n (nI (rTh K k)) (nI k) I = some 1) ∧ (¬ ((∀ j, k ≤ j → j < e → okr e K j) ∧ FINr e K) → l_71_4 n (nI (rTh K k)) (nI k) I = some 0) := by
  intro d
  induction d with
  | zero =>
    intro k n hk hn
    obtain ⟨n, rfl⟩ : ∃ m', n = m' + 1 := ⟨n - 1, by omega⟩
    have hk : k = e := by omega
    subst hk
    exact ⟨fun q => (ringC_e h).1 q.2, fun q => (ringC_e h).2 (fun r => q ⟨fun j h1 h2 => absurd h2 (by omega), r⟩)⟩
  | succ d ih =>
    intro k n hk hn
    obtain ⟨n, rfl⟩ : ∃ m', n = m' + 1 := ⟨n - 1, by omega⟩
    obtain ⟨s1, s2⟩ := ringC_s (n := n) h (show k < e from by omega)
    obtain ⟨i1, i2⟩ := ih (k + 1) n (by omega) (by omega)
    constructor
    · intro q
      rw [s1 (q.1 k (Nat.le_refl _) (by omega))]
      exact i1 ⟨fun j h1 h2 => q.1 j (by omega) h2, q.2⟩
    · intro q
      by_cases c : okr e K k
      · rw [s1 c]
        refine i2 (fun r => q ⟨fun j h1 h2 => ?_, r.2⟩)
        by_cases hj : j = k
        · rw [hj]; exact c
        · exact r.1 j (by omega) h2
      · exact s2 c
theorem mod2 {a e : Nat} (h : a < 2 * e) : a % e = if a < e then a else a - e := by
  by_cases c : a < e
  · rw [if_pos c, Nat.mod_eq_of_lt c]
  · rw [if_neg c, Nat.mod_eq_sub_mod (by omega), Nat.mod_eq_of_lt (by omega)]
theorem ringM_s {e k n : Nat} {K : Nat → Nat} {M : Mem} (h : RM e K M) (hk : k < e) : l_136_17 (n + 1) (nI (rTh K k)) 0 (nI k) M = l_136_17 n (nI (rTh K (k + 1))) 0 (nI (k + 1)) M ∧ (okr e K k → l_136_17 (n + 1) (nI (rTh K k)) 1 (nI k) M = l_136_17 n (nI (rTh K (k + 1))) 1 (nI (k + 1)) M) ∧ (¬ okr e K k → l_136_17 (n + 1) (nI (rTh K k)) 1 (nI k) M = l_136_17 n (nI (rTh K (k + 1))) 0 (nI (k + 1)) M) := by
  have he := h.1
  have k1 := (h.2.2 k hk).1
  have k2 : K (nxt e k) ≤ 10 := by unfold nxt; split; exact (h.2.2 (k + 1) (by omega)).1; exact (h.2.2 0 (by omega)).1
  have k3 : M 29 (nxt e k) = nI (K (nxt e k)) := by unfold nxt; split; exact (h.2.2 (k + 1) (by omega)).2; exact (h.2.2 0 (by omega)).2
  have k4 : nxt e k < 12 := by unfold nxt; split <;> omega
  have er : nI (k + 1) - nI (k + 1) / nI e * nI e = nI (nxt e k) := by
    rw [pk_rem (by omega) (by omega) (by omega), mod2 (by omega)]
    unfold nxt
    by_cases c : k + 1 < e
    · rw [if_pos c, if_pos c]
    · rw [if_neg c, if_neg c, show k + 1 - e = 0 from by omega]
  have nz0 : ¬ nI e = 0 := nI_ne0 (by omega) (by omega)
  have z0 : nI (rTh K k) + 0 = nI (rTh K k) := by rw [Int32.add_zero]
  have f0 : l_136_17 (n + 1) (nI (rTh K k)) 0 (nI k) M = l_136_17 n (nI (rTh K (k + 1))) 0 (nI (k + 1)) M := by
    rw [l_136_17, h.2.1, if_neg (nI_ge hk (by omega)), ix_nI (by omega) (by omega), (h.2.2 k hk).2, nI_1]
    by_cases c : K k ≤ 2
    · rw [if_neg (k_ge (b := 3) (by rfl) (by rfl) (by omega) (by omega)), if_pos rfl, nI_1, (th_s1 c).1]
    · rw [if_pos (k_le (a := 3) (by rfl) (by rfl) (by omega) (by omega)), if_pos rfl, z0, (th_s0 c).1]
  have f1 : l_136_17 (n + 1) (nI (rTh K k)) 1 (nI k) M = if a1 (K k) = a2 (K (nxt e k)) then l_136_17 n (nI (rTh K (k + 1))) 1 (nI (k + 1)) M else l_136_17 n (nI (rTh K (k + 1))) 0 (nI (k + 1)) M := by
    rw [l_136_17, h.2.1, if_neg (nI_ge hk (by omega)), ix_nI (by omega) (by omega), (h.2.2 k hk).2, nI_1]
    by_cases c : K k ≤ 2
    · rw [if_neg (k_ge (b := 3) (by rfl) (by rfl) (by omega) (by omega)), if_neg (by decide), ix_nI (by omega) (by omega), (h.2.2 k hk).2, g137_ok k1, Option.bind_some]
      unfold nz
      rw [if_neg nz0, er, ix_nI k4 (by omega), k3, g139_ok k2, Option.bind_some, nI_1, (th_s1 c).1]
    · rw [if_pos (k_le (a := 3) (by rfl) (by rfl) (by omega) (by omega)), if_neg (by decide), ix_nI (by omega) (by omega), (h.2.2 k hk).2, g137_ok k1, Option.bind_some]
      unfold nz
      rw [if_neg nz0, er, ix_nI k4 (by omega), k3, g139_ok k2, Option.bind_some, z0, (th_s0 c).1]
  exact ⟨f0, fun q => f1.trans (if_pos q), fun q => f1.trans (if_neg q)⟩
theorem g111_ok {x lo hi : Nat} {M : Mem} (hx : x < 2 ^ 31) (hl : lo < 2 ^ 31) (hh : hi < 2 ^ 31) : g_111 (nI x) (nI lo) (nI hi) M = some (if lo ≤ x ∧ x ≤ hi then 1 else 0) := by
  unfold g_111
  by_cases c1 : lo ≤ x
  · rw [if_neg (nI_nlt c1 hx)]
    by_cases c2 : x ≤ hi
    · rw [if_neg (nI_nlt c2 hh), if_pos ⟨c1, c2⟩]
    · rw [if_pos (nI_lt (by omega) hx), if_neg (fun q => c2 q.2)]
  · rw [if_pos (nI_lt (by omega) hl), if_neg (fun q => c1 q.1)]
theorem ringM_e {e n : Nat} {K : Nat → Nat} {M : Mem} (h : RM e K M) (h0 : 0 < e) : l_136_17 (n + 1) (nI (rTh K e)) 0 (nI e) M = some 0 ∧ (FINr e K → l_136_17 (n + 1) (nI (rTh K e)) 1 (nI e) M = some 1) ∧ (¬ FINr e K → l_136_17 (n + 1) (nI (rTh K e)) 1 (nI e) M = some 0) := by
  have he := h.1
  have tl := th_lo K e
  have k1 := (h.2.2 (e - 1) (by omega)).1
  unfold FINr
  have p0 : l_136_17 (n + 1) (nI (rTh K e)) 0 (nI e) M = some 0 := by
    rw [l_136_17, h.2.1, if_pos (nI_le (Nat.le_refl _) (by omega)), if_pos rfl]
  have g1 : g_111 (nI (rTh K e)) 2 4 M = some (if 2 ≤ rTh K e ∧ rTh K e ≤ 4 then 1 else 0) := g111_ok (lo := 2) (hi := 4) (by omega) (by omega) (by omega)
  have g2 : g_111 (nI (rLo K e)) 2 4 M = some (if 2 ≤ rLo K e ∧ rLo K e ≤ 4 then 1 else 0) := g111_ok (lo := 2) (hi := 4) (by omega) (by omega) (by omega)
  have p1 : l_136_17 (n + 1) (nI (rTh K e)) 1 (nI e) M = if K (e - 1) ≤ 2 ∧ (2 ≤ rTh K e ∧ rTh K e ≤ 4) ∧ (2 ≤ rLo K e ∧ rLo K e ≤ 4) then some 1 else some 0 := by
    rw [l_136_17, h.2.1, if_pos (nI_le (Nat.le_refl _) (by omega)), if_neg (by decide), show nI e - (1 : Int32) = nI (e - 1) from pk_sub (a := e) (b := 1) (by omega), ix_nI (by omega) (by omega), (h.2.2 (e - 1) (by omega)).2, pk_sub (a := e) (b := rTh K e) (by omega), show e - rTh K e = rLo K e from by omega]
    by_cases c5 : K (e - 1) ≤ 2
    · rw [if_neg (k_ge (b := 3) (by rfl) (by rfl) (by omega) (by omega)), g1, Option.bind_some]
      by_cases c1 : 2 ≤ rTh K e ∧ rTh K e ≤ 4
      · rw [if_pos c1, if_neg (by decide), g2, Option.bind_some]
        by_cases c2 : 2 ≤ rLo K e ∧ rLo K e ≤ 4
        · rw [if_pos c2, if_neg (by decide), if_pos ⟨c5, c1, c2⟩]
        · rw [if_neg c2, if_pos rfl, if_neg (fun q => c2 q.2.2)]
      · rw [if_neg c1, if_pos rfl, if_neg (fun q => c1 q.2.1)]
    · rw [if_pos (k_le (a := 3) (by rfl) (by rfl) (by omega) (by omega)), if_neg (fun q => c5 q.1)]
  refine ⟨p0, fun q => p1.trans (if_pos ⟨q.2.2.2.2, ⟨q.1, q.2.1⟩, ⟨q.2.2.1, q.2.2.2.1⟩⟩), fun q => p1.trans (if_neg (fun r => q ⟨r.2.1.1, r.2.1.2, r.2.2.1, r.2.2.2, r.1⟩))⟩
theorem ringM {e : Nat} {K : Nat → Nat} {M : Mem} (h : RM e K M) (h0 : 0 < e) : ∀ (d k n : Nat), k + d = e → d < n → l_136_17 n (nI (rTh K k)) 0 (nI k) M = some 0 ∧ ((∀ j, k ≤ j → j < e → okr e K j) ∧ FINr e K → l_136_17 n (nI (rTh K k)) 1 (nI k) M = some 1) ∧ (¬ ((∀ j, k ≤ j → j < e → okr e K j) ∧ FINr e K) → l_136_17 n (nI (rTh K k)) 1 (nI k) M = some 0) := by
  intro d
  induction d with
  | zero =>
    intro k n hk hn
    obtain ⟨n, rfl⟩ : ∃ m', n = m' + 1 := ⟨n - 1, by omega⟩
    have hk : k = e := by omega
    subst hk
    obtain ⟨e1, e2, e3⟩ := ringM_e (n := n) h h0
    exact ⟨e1, fun q => e2 q.2, fun q => e3 (fun r => q ⟨fun j h1 h2 => absurd h2 (by omega), r⟩)⟩
  | succ d ih =>
    intro k n hk hn
    obtain ⟨n, rfl⟩ : ∃ m', n = m' + 1 := ⟨n - 1, by omega⟩
    obtain ⟨s0, s1, s2⟩ := ringM_s (n := n) h (show k < e from by omega)
    obtain ⟨i0, i1, i2⟩ := ih (k + 1) n (by omega) (by omega)
    refine ⟨by rw [s0]; exact i0, ?_, ?_⟩
    · intro q
      rw [s1 (q.1 k (Nat.le_refl _) (by omega))]
      exact i1 ⟨fun j h1 h2 => q.1 j (by omega) h2, q.2⟩
    · intro q
      by_cases c : okr e K k
      · rw [s1 c]
        refine i2 (fun r => q ⟨fun j h1 h2 => ?_, r.2⟩)
        by_cases hj : j = k
        · rw [hj]; exact c
        · exact r.1 j (by omega) h2
      · rw [s2 c]; exact i0
/-- both sides find the same: no ring, or a ring -/
theorem ring_eq {e : Nat} {K : Nat → Nat} {I M : Mem} (h : RC e K I) (h' : RM e K M) : (g_71 I = some 0 ∧ g_136 M = some 0) ∨ (g_71 I = some 1 ∧ g_136 M = some 1 ∧ FINr e K) := by
  have he := h.1
  have c := ringC h e 0 5000 (by omega) (by omega)
  by_cases h0 : 0 < e
  · have m := ringM h' h0 e 0 5000 (by omega) (by omega)
    have em : g_136 M = l_136_17 5000 0 1 0 M := by
      unfold g_136
      rw [h'.2.1, if_neg (nI_nle h0 (by omega))]
    by_cases q : (∀ j, 0 ≤ j → j < e → okr e K j) ∧ FINr e K
    · exact Or.inr ⟨c.1 q, em.trans (m.2.1 q), q.2⟩
    · exact Or.inl ⟨c.2 q, em.trans (m.2.2 q)⟩
  · have e0 : e = 0 := by omega
    refine Or.inl ⟨c.2 (fun q => by have := q.2.1; rw [e0] at this; exact absurd this (show ¬ 2 ≤ 0 from by decide)), ?_⟩
    unfold g_136
    rw [h'.2.1, e0, if_pos (by decide), l_136_17, h'.2.1, e0, if_pos (by decide), if_pos rfl]
/-- a ring, and where its first row of places begins -/
def RG (e f : Nat) (K : Nat → Nat) : Prop := FINr e K ∧ 1 ≤ f ∧ f < e ∧ 2 < K (f - 1) ∧ ∀ j, f ≤ j → j < e → K j ≤ 2
theorem firstC {e : Nat} {K : Nat → Nat} {I : Mem} (h : RC e K I) : ∀ (x n : Nat), x < e → x < n → (∀ j, x ≤ j → j < e → K j ≤ 2) → (∃ j, j < x ∧ 2 < K j) → ∃ f, l_76_7 n (nI x) I = some (nI f) ∧ 1 ≤ f ∧ f ≤ x ∧ 2 < K (f - 1) ∧ ∀ j, f ≤ j → j < e → K j ≤ 2 := by
  have he := h.1
  intro x
  induction x with
  | zero => intro n _ _ _ ⟨j, hj, _⟩; omega
  | succ x ih =>
    intro n hx hn hall hex
    obtain ⟨n, rfl⟩ : ∃ m', n = m' + 1 := ⟨n - 1, by omega⟩
    have neg : (if nI (x + 1) < (0 : Int32) then (0 : Int32) else nI (x + 1)) = nI (x + 1) := if_neg (nI_pos (by omega))
    rw [l_76_7, if_neg (nI_nle (by omega) (by omega)), nI_pred, g72_ok h (by omega), neg, pk_m1]
    by_cases c : K x ≤ 2
    · rw [if_pos c]
      obtain ⟨f, f1, f2, f3, f4⟩ := ih n (by omega) (by omega) (fun j h1 h2 => by
        by_cases hj : j = x
        · rw [hj]; exact c
        · exact hall j (by omega) h2) (by
        obtain ⟨j, h1, h2⟩ := hex
        refine ⟨j, ?_, h2⟩
        by_cases hj : j = x
        · rw [hj] at h2; omega
        · omega)
      exact ⟨f, f1, f2, by omega, f4⟩
    · rw [if_neg c]
      exact ⟨x + 1, rfl, by omega, Nat.le_refl _, by show 2 < K x; omega, hall⟩
theorem lo_const {e f : Nat} {K : Nat → Nat} (h : ∀ j, f ≤ j → j < e → K j ≤ 2) : ∀ d, f + d ≤ e → rLo K (f + d) = rLo K f := by
  intro d
  induction d with
  | zero => intro _; rfl
  | succ d ih =>
    intro hd
    rw [show f + (d + 1) = f + d + 1 from rfl, (th_s1 (h (f + d) (by omega) (by omega))).2]
    exact ih (by omega)
theorem lo_ex {e : Nat} {K : Nat → Nat} (h : 0 < rLo K e) : ∃ j, j < e ∧ 2 < K j := by
  induction e with
  | zero => exact absurd h (show ¬ 0 < 0 from by decide)
  | succ e ih =>
    by_cases c : K e ≤ 2
    · rw [(th_s1 c).2] at h
      obtain ⟨j, h1, h2⟩ := ih h
      exact ⟨j, by omega, h2⟩
    · exact ⟨e, by omega, by omega⟩
theorem first_ok {e : Nat} {K : Nat → Nat} {I : Mem} (h : RC e K I) (hf : FINr e K) : ∃ f, g_76 I = some (nI f) ∧ RG e f K := by
  have he := h.1
  have tl := th_lo K e
  obtain ⟨j, h1, h2⟩ := lo_ex (K := K) (e := e) (by have := hf.2.2.1; omega)
  obtain ⟨f, f1, f2, f3, f4, f5⟩ := firstC h (e - 1) 5000 (by have := hf.1; omega) (by omega) (fun j h1 h2 => by rw [show j = e - 1 from by omega]; exact hf.2.2.2.2) ⟨j, by
    have : j ≠ e - 1 := fun q => by rw [q] at h2; have := hf.2.2.2.2; omega
    omega, h2⟩
  refine ⟨f, ?_, hf, f2, by have := hf.1; omega, f4, f5⟩
  unfold g_76
  rw [h.2.1, show nI e - (1 : Int32) = nI (e - 1) from pk_sub (a := e) (b := 1) (by have := hf.1; omega)]
  exact f1
theorem rg_uni {e f f' : Nat} {K : Nat → Nat} (h : RG e f K) (h1 : 1 ≤ f') (h2 : f' < e) (h3 : 2 < K (f' - 1)) (h4 : ∀ j, f' ≤ j → j < e → K j ≤ 2) : f' = f := by
  obtain ⟨_, g1, g2, g3, g4⟩ := h
  rcases Nat.lt_trichotomy f' f with c | c | c
  · have := h4 (f - 1) (by omega) (by omega); omega
  · exact c
  · have := g4 (f' - 1) (by omega) (by omega); omega
/-- the class counts its places -/
theorem placesC {e : Nat} {K : Nat → Nat} {I : Mem} (h : RC e K I) (h4 : rLo K e ≤ 4) : ∀ (d k n : Nat), k + d = e → d < n → l_74_4 n (nI (rLo K k)) (nI k) I = some (nI (rLo K e)) := by
  have he := h.1
  intro d
  induction d with
  | zero =>
    intro k n hk hn
    obtain ⟨n, rfl⟩ : ∃ m', n = m' + 1 := ⟨n - 1, by omega⟩
    have hk : k = e := by omega
    subst hk
    rw [l_74_4, h.2.1, if_pos (nI_le (Nat.le_refl _) (by omega)), if_neg (k_nlt (a := 4) (by rfl) (by rfl) h4 (by omega))]
  | succ d ih =>
    intro k n hk hn
    obtain ⟨n, rfl⟩ : ∃ m', n = m' + 1 := ⟨n - 1, by omega⟩
    have i := ih (k + 1) n (by omega) (by omega)
    rw [l_74_4, h.2.1, if_neg (nI_ge (by omega) (by omega)), g72_ok h (by omega), nI_1, nI_1]
    by_cases c : K k ≤ 2
    · rw [if_pos c]
      rw [(th_s1 c).2] at i
      exact i
    · rw [if_neg c]
      rw [(th_s0 c).2] at i
      exact i
def rPl (K : Nat → Nat) (P i : Nat) : Nat := rLo K i % P
theorem pl_s1 {K : Nat → Nat} {P i : Nat} (h : K i ≤ 2) : rPl K P (i + 1) = rPl K P i := by
  unfold rPl
  rw [(th_s1 h).2]
theorem pl_s0 {K : Nat → Nat} {P i : Nat} (hP : 2 ≤ P ∧ P ≤ 4) (h : ¬ K i ≤ 2) : rPl K P (i + 1) = (rPl K P i + 1) % P := by
  unfold rPl
  rw [(th_s0 h).2, Nat.mod_add_mod]
theorem pl_s0' {K : Nat → Nat} {P i : Nat} (hP : 2 ≤ P ∧ P ≤ 4) (h : ¬ K i ≤ 2) : rPl K P (i + 1) = if P ≤ rPl K P i + 1 then 0 else rPl K P i + 1 := by
  have h1 : rPl K P i < P := Nat.mod_lt _ (by omega)
  rw [pl_s0 hP h]
  by_cases c : P ≤ rPl K P i + 1
  · rw [if_pos c, show rPl K P i + 1 = P from by omega, Nat.mod_self]
  · rw [if_neg c, Nat.mod_eq_of_lt (by omega)]
/-- the reference counts its places, and lays its events out -/
theorem placesM {e : Nat} {K : Nat → Nat} {M : Mem} {x1 x2 x4 : Int32} (h : RM e K M) : ∀ (d k n : Nat), k + d = e → d < n → l_140_12 n x1 x2 (nI (rLo K k)) x4 (nI k) M = l_140_49 5000 x1 x2 (nI (rLo K e)) x4 0 M := by
  have he := h.1
  intro d
  induction d with
  | zero =>
    intro k n hk hn
    obtain ⟨n, rfl⟩ : ∃ m', n = m' + 1 := ⟨n - 1, by omega⟩
    have hk : k = e := by omega
    subst hk
    rw [l_140_12, h.2.1, if_pos (nI_le (Nat.le_refl _) (by omega))]
  | succ d ih =>
    intro k n hk hn
    obtain ⟨n, rfl⟩ : ∃ m', n = m' + 1 := ⟨n - 1, by omega⟩
    have i := ih (k + 1) n (by omega) (by omega)
    have k1 := (h.2.2 k (by omega)).1
    rw [l_140_12, h.2.1, if_neg (nI_ge (by omega) (by omega)), ix_nI (by omega) (by omega), (h.2.2 k (by omega)).2, nI_1]
    by_cases c : K k ≤ 2
    · rw [if_pos (k_le (b := 2) (by rfl) (by rfl) c (by omega)), Int32.add_zero]
      rw [(th_s1 c).2] at i
      exact i
    · rw [if_neg (k_ge (a := 2) (by rfl) (by rfl) (by omega) (by omega)), nI_1]
      rw [(th_s0 c).2] at i
      exact i
set_option maxHeartbeats 1000000 in
theorem layM {e f P : Nat} {K : Nat → Nat} {M : Mem} (h : RM e K M) (hr : RG e f K) (hP : P = rLo K e) : ∀ (d k n : Nat) (v : Int32) (N : Mem), k + d = e → d < n → (∀ b, b ≠ 32 → b ≠ 33 → N b = M b) → (∀ i, i < k → N 32 i = nI (rTh K i) ∧ N 33 i = nI (rPl K P i)) → ((v = -1 ∧ ∀ j, j < k → K j ≤ 2) ∨ ∃ q : Nat, v = nI q ∧ 1 ≤ q ∧ q ≤ k ∧ q < e ∧ 2 < K (q - 1) ∧ ∀ j, q ≤ j → j < k → K j ≤ 2) → ∃ N', (∀ b, b ≠ 32 → b ≠ 33 → N' b = M b) ∧ (∀ i, i < e → N' 32 i = nI (rTh K i) ∧ N' 33 i = nI (rPl K P i)) ∧ l_140_49 n (nI (rTh K k)) (nI (rPl K P k)) (nI P) v (nI k) N = l_140_148 5000 (nI (rTh K e)) (nI (rPl K P e)) (nI P) (nI f) 0 0 N' := by
  have he := h.1
  have hP2 : 2 ≤ P ∧ P ≤ 4 := by rw [hP]; exact ⟨hr.1.2.2.1, hr.1.2.2.2.1⟩
  intro d
  induction d with
  | zero =>
    intro k n v N hk hn hN h3 hv
    obtain ⟨n, rfl⟩ : ∃ m', n = m' + 1 := ⟨n - 1, by omega⟩
    have hk : k = e := by omega
    subst hk
    refine ⟨N, hN, h3, ?_⟩
    rw [l_140_49, hN 20 (by decide) (by decide), h.2.1, if_pos (nI_le (Nat.le_refl _) (by omega))]
    rcases hv with ⟨_, q⟩ | ⟨q, rfl, q1, q2, q3, q4, q5⟩
    · have := q (f - 1) (by have := hr.2.2.1; omega)
      have := hr.2.2.2.1
      omega
    · rw [rg_uni hr q1 q3 q4 q5]
  | succ d ih =>
    intro k n v N hk hn hN h3 hv
    obtain ⟨n, rfl⟩ : ∃ m', n = m' + 1 := ⟨n - 1, by omega⟩
    have k1 := (h.2.2 k (by omega)).1
    have nP : ¬ nI P = 0 := nI_ne0 (by omega) (by omega)
    have nE : ¬ nI e = 0 := nI_ne0 (by omega) (by omega)
    have pm : rPl K P k < P := Nat.mod_lt _ (by omega)
    have hN' : ∀ b, b ≠ 32 → b ≠ 33 → mm_up (mm_up N 32 k (nI (rTh K k))) 33 k (nI (rPl K P k)) b = M b := fun b b1 b2 => by rw [mm_up_ne b2, mm_up_ne b1, hN b b1 b2]
    have h3' : ∀ i, i < k + 1 → mm_up (mm_up N 32 k (nI (rTh K k))) 33 k (nI (rPl K P k)) 32 i = nI (rTh K i) ∧ mm_up (mm_up N 32 k (nI (rTh K k))) 33 k (nI (rPl K P k)) 33 i = nI (rPl K P i) := by
      intro i hi
      show mm_up N 32 k (nI (rTh K k)) 32 i = _ ∧ mm_up (mm_up N 32 k (nI (rTh K k))) 33 k (nI (rPl K P k)) 33 i = _
      by_cases hik : i = k
      · rw [hik, up_same, up_same]; exact ⟨rfl, rfl⟩
      · rw [up_other hik, up_other hik]; exact h3 i (by omega)
    rw [l_140_49, hN 20 (by decide) (by decide), h.2.1, if_neg (nI_ge (by omega) (by omega)), ix_nI (by omega) (by omega), ix_nI (by omega) (by omega), ix_nI (by omega) (by omega), hN 29 (by decide) (by decide), (h.2.2 k (by omega)).2]
    by_cases c : K k ≤ 2
    · rw [if_neg (k_ge (b := 3) (by rfl) (by rfl) (by omega) (by omega)), ix_nI (by omega) (by omega), (h.2.2 k (by omega)).2, if_neg (k_ge (b := 3) (by rfl) (by rfl) (by omega) (by omega)), ix_nI (by omega) (by omega), (h.2.2 k (by omega)).2, if_pos (k_le (b := 2) (by rfl) (by rfl) c (by omega)), nI_1, nI_1]
      obtain ⟨N', n1, n2, n3⟩ := ih (k + 1) n v _ (by omega) (by omega) hN' h3' (by
        rcases hv with ⟨q0, q⟩ | ⟨q, q0, q1, q2, q3, q4, q5⟩
        · exact Or.inl ⟨q0, fun j hj => by
            by_cases hjk : j = k
            · rw [hjk]; exact c
            · exact q j (by omega)⟩
        · exact Or.inr ⟨q, q0, q1, by omega, q3, q4, fun j h1 h2 => by
            by_cases hjk : j = k
            · rw [hjk]; exact c
            · exact q5 j h1 (by omega)⟩)
      refine ⟨N', n1, n2, ?_⟩
      rw [← n3, (th_s1 c).1, pl_s1 c]
    · have hke : k + 1 < e := by
        have : k ≠ e - 1 := fun q => c (by rw [q]; exact hr.1.2.2.2.2)
        omega
      rw [if_pos (k_le (a := 3) (by rfl) (by rfl) (by omega) (by omega)), ix_nI (by omega) (by omega), (h.2.2 k (by omega)).2, if_pos (k_le (a := 3) (by rfl) (by rfl) (by omega) (by omega))]
      unfold nz
      rw [if_neg nP, ix_nI (by omega) (by omega), (h.2.2 k (by omega)).2, if_neg (k_ge (a := 2) (by rfl) (by rfl) (by omega) (by omega)), if_neg nE, nI_1, nI_1, Int32.add_zero, pk_rem (a := rPl K P k + 1) (d := P) (by omega) (by omega) (by omega), pk_rem (a := k + 1) (d := e) (by omega) (by omega) (by omega), Nat.mod_eq_of_lt hke]
      obtain ⟨N', n1, n2, n3⟩ := ih (k + 1) n (nI (k + 1)) _ (by omega) (by omega) hN' h3' (Or.inr ⟨k + 1, rfl, by omega, Nat.le_refl _, hke, by show 2 < K k; omega, fun j h1 h2 => by omega⟩)
      refine ⟨N', n1, n2, ?_⟩
      rw [← n3, (th_s0 c).1, pl_s0 hP2 c]
/-- the j-th event from f on, round the ring -/
def rix (e f j : Nat) : Nat := if f + j < e then f + j else f + j - e
def rps (e f i : Nat) : Nat := if f ≤ i then i - f else i + e - f
/-- the greatest number of a write of place p among the first j -/
def MX (e f P j p g : Nat) (K val : Nat → Nat) : Prop := (∀ i, i < e → rps e f i < j → a2 (K i) = 0 → rPl K P i = p → val i ≤ g) ∧ (g = 0 ∨ ∃ i, i < e ∧ rps e f i < j ∧ a2 (K i) = 0 ∧ rPl K P i = p ∧ val i = g)
theorem MX_uni {e f P j p g g' : Nat} {K val : Nat → Nat} (h : MX e f P j p g K val) (h' : MX e f P j p g' K val) : g = g' := by
  have k1 : g ≤ g' := by
    rcases h.2 with q | ⟨i, q1, q2, q3, q4, q5⟩
    · omega
    · have := h'.1 i q1 q2 q3 q4; omega
  have k2 : g' ≤ g := by
    rcases h'.2 with q | ⟨i, q1, q2, q3, q4, q5⟩
    · omega
    · have := h.1 i q1 q2 q3 q4; omega
  omega
/-- what holds ahead of the j-th event of the numbering -/
def NB (e f P j s z r : Nat) (K val : Nat → Nat) (I M I0 M0 : Mem) : Prop :=
  (∀ b, b ≠ 14 → b ≠ 15 → I b = I0 b) ∧ (∀ b, b ≠ 34 → M b = M0 b) ∧ (∀ i, i < e → rps e f i < j → I 14 i = nI (val i) ∧ M 34 i = nI (val i) ∧ val i ≤ j) ∧ s ≤ j ∧ z ≤ j ∧
  (j < e → r = rPl K P (rix e f j) ∧ s = (if K (if rix e f j = 0 then e - 1 else rix e f j - 1) ≤ 2 then z else 0)) ∧ (j = e → r = P) ∧ (∀ i, i < e → rps e f i < j → rPl K P i ≤ r) ∧
  (∀ p, p < r → p < P → ∃ g, g ≤ j ∧ I 15 p = nI g ∧ MX e f P j p g K val) ∧ (r < P → MX e f P j r s K val)
end MMAB
