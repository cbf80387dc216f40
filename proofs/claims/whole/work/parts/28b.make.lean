/-! THE PAIR make, 2: the numbers, on both sides at once (written by wip/whole/gen/make2_part.py). -/
section MMAC
set_option maxHeartbeats 2000000 in
theorem numC {e P r s x j n : Nat} {K : Nat → Nat} {I : Mem} (h : RC e K I) (hx : x < e) (hj : j < e) (hP : P ≤ 4) (hr : r < P) (hs : s ≤ 12) : l_75_13 (n + 1) (nI P) (nI r) (nI s) (nI x) (nI j) I = l_75_13 n (nI P) (nI (if K x ≤ 2 then r else r + 1)) (nI (if K x ≤ 2 then (if a2 (K x) = 0 then s + 1 else s) else 0)) (nI (nxt e x)) (nI (j + 1)) (if K x ≤ 2 then mm_up I 14 x (nI (if a2 (K x) = 0 then s + 1 else s)) else mm_up (mm_up I 14 x (nI (if a2 (K x) = 0 then s + 1 else s))) 15 r (nI (if a2 (K x) = 0 then s + 1 else s))) := by
  have he := h.1
  have k1 := (h.2.2 x hx).1
  rw [l_75_13, h.2.1, if_neg (nI_ge hj (by omega)), ix_nI (by omega) (by omega), (h.2.2 x hx).2, ix_nI (by omega) (by omega), nI_1, nI_1, nI_1, nI_1]
  by_cases wr : a2 (K x) = 0
  · rw [if_pos (show t_A2.getD (K x) 0 = 0 from wr), if_pos wr, ix_nI (by omega) (by omega)]
    have hM : RC e K (mm_up I 14 x (nI (s + 1))) := h
    try simp only [Option.bind_some, nr0, nr1, s_10, s_n10, s_n00, s_a, s_b, s_c, s_d, s_e, ↓reduceIte]
    rw [g72_ok (I := mm_up I 14 x (nI (s + 1))) hM hx]
    by_cases c : K x ≤ 2
    · rw [if_pos c, if_pos c, if_pos c, if_pos c]
      try simp only [Option.bind_some, nr0, nr1, s_10, s_n10, s_n00, s_a, s_b, s_c, s_d, s_e, ↓reduceIte]
      by_cases w : x + 1 < e
      · rw [if_neg (nI_ge w (by omega)), show nxt e x = x + 1 from if_pos w]
      · rw [if_pos (nI_le (by omega) (by omega)), show nxt e x = 0 from if_neg w]
        rfl
    · rw [if_neg c, if_neg c, if_neg c, if_neg c]
      try simp only [Option.bind_some, nr0, nr1, s_10, s_n10, s_n00, s_a, s_b, s_c, s_d, s_e, ↓reduceIte]
      rw [if_neg (nI_ge hr (by omega)), ix_nI (by omega) (by omega)]
      by_cases w : x + 1 < e
      · rw [if_neg (nI_ge w (by omega)), show nxt e x = x + 1 from if_pos w]
        rfl
      · rw [if_pos (nI_le (by omega) (by omega)), show nxt e x = 0 from if_neg w]
        rfl
  · rw [if_neg (show ¬ t_A2.getD (K x) 0 = 0 from wr), if_neg wr, ix_nI (by omega) (by omega)]
    have hM : RC e K (mm_up I 14 x (nI s)) := h
    try simp only [Option.bind_some, nr0, nr1, s_10, s_n10, s_n00, s_a, s_b, s_c, s_d, s_e, ↓reduceIte]
    rw [g72_ok (I := mm_up I 14 x (nI (s))) hM hx]
    by_cases c : K x ≤ 2
    · rw [if_pos c, if_pos c, if_pos c, if_pos c]
      try simp only [Option.bind_some, nr0, nr1, s_10, s_n10, s_n00, s_a, s_b, s_c, s_d, s_e, ↓reduceIte]
      by_cases w : x + 1 < e
      · rw [if_neg (nI_ge w (by omega)), show nxt e x = x + 1 from if_pos w]
      · rw [if_pos (nI_le (by omega) (by omega)), show nxt e x = 0 from if_neg w]
        rfl
    · rw [if_neg c, if_neg c, if_neg c, if_neg c]
      try simp only [Option.bind_some, nr0, nr1, s_10, s_n10, s_n00, s_a, s_b, s_c, s_d, s_e, ↓reduceIte]
      rw [if_neg (nI_ge hr (by omega)), ix_nI (by omega) (by omega)]
      by_cases w : x + 1 < e
      · rw [if_neg (nI_ge w (by omega)), show nxt e x = x + 1 from if_pos w]
        rfl
      · rw [if_pos (nI_le (by omega) (by omega)), show nxt e x = 0 from if_neg w]
        rfl
set_option maxHeartbeats 2000000 in
theorem numM {e f z j n : Nat} {x1 x2 x3 : Int32} {K : Nat → Nat} {M : Mem} (h : RM e K M) (hf : f < e) (hj : j < e) (hz : z ≤ 12) : l_140_148 (n + 1) x1 x2 x3 (nI f) (nI z) (nI j) M = l_140_148 n x1 x2 x3 (nI f) (nI (if a2 (K (rix e f j)) = 0 then (if K (if rix e f j = 0 then e - 1 else rix e f j - 1) ≤ 2 then z else 0) + 1 else (if K (if rix e f j = 0 then e - 1 else rix e f j - 1) ≤ 2 then z else 0))) (nI (j + 1)) (mm_up M 34 (rix e f j) (nI (if a2 (K (rix e f j)) = 0 then (if K (if rix e f j = 0 then e - 1 else rix e f j - 1) ≤ 2 then z else 0) + 1 else (if K (if rix e f j = 0 then e - 1 else rix e f j - 1) ≤ 2 then z else 0)))) := by
  have he := h.1
  have nE : ¬ nI e = 0 := nI_ne0 (by omega) (by omega)
  have hx : rix e f j < e := by unfold rix; split <;> omega
  have e1 : nI f + nI j - (nI f + nI j) / nI e * nI e = nI (rix e f j) := by
    rw [nI_add, pk_rem (by omega) (by omega) (by omega), mod2 (by omega)]
    rfl
  have hp : (if rix e f j = 0 then e - 1 else rix e f j - 1) < e := by split <;> omega
  have e2 : nI (rix e f j) + nI e - 1 - (nI (rix e f j) + nI e - 1) / nI e * nI e = nI (if rix e f j = 0 then e - 1 else rix e f j - 1) := by
    rw [nI_add, show nI (rix e f j + e) - (1 : Int32) = nI (rix e f j + e - 1) from pk_sub (a := rix e f j + e) (b := 1) (by omega), pk_rem (by omega) (by omega) (by omega), mod2 (by omega)]
    by_cases c : rix e f j = 0
    · rw [if_pos c, if_pos (by omega), c]
      rw [show 0 + e - 1 = e - 1 from by omega]
    · rw [if_neg c, if_neg (by omega), show rix e f j + e - 1 - e = rix e f j - 1 from by omega]
  generalize hxx : rix e f j = x at *
  generalize hpp : (if x = 0 then e - 1 else x - 1) = p at *
  have k1 := (h.2.2 x hx).1
  have k2 := (h.2.2 p hp).1
  have X : ∀ {α : Type} (T : Nat → Option α), ix (nI x) 12 T = T x := fun T => ix_nI (by omega) (by omega) T
  rw [l_140_148, h.2.1, if_neg (nI_ge hj (by omega))]
  unfold nz
  rw [if_neg nE, if_neg nE, e1, e2, ix_nI (by omega) (by omega), (h.2.2 p hp).2]
  simp only [X, (h.2.2 x hx).2, g139_ok k1, Option.bind_some, nI_1]
  by_cases c : K p ≤ 2
  · rw [if_pos (k_le (b := 2) (by rfl) (by rfl) c (by omega)), if_pos c]
    try simp only [Option.bind_some, nr0, nr1, s_10, s_n10, s_n00, s_a, s_b, s_c, s_d, s_e, ↓reduceIte]
    try simp only [X]
    by_cases w : a2 (K x) = 0
    · rw [if_pos w, if_pos w]
    · rw [if_neg w, if_neg w]
  · rw [if_neg (k_ge (a := 2) (by rfl) (by rfl) (by omega) (by omega)), if_neg c]
    try simp only [Option.bind_some, nr0, nr1, s_10, s_n10, s_n00, s_a, s_b, s_c, s_d, s_e, ↓reduceIte]
    try simp only [X]
    by_cases w : a2 (K x) = 0
    · rw [if_pos w, if_pos w]
      rfl
    · rw [if_neg w, if_neg w]
      rfl
theorem rps_rix {e f j : Nat} (hf : f < e) (hj : j < e) : rps e f (rix e f j) = j ∧ rix e f j < e := by
  unfold rps rix
  by_cases c : f + j < e
  · rw [if_pos c, if_pos (by omega)]; omega
  · rw [if_neg c, if_neg (by omega)]; omega
theorem rps_lt {e f i j : Nat} (hf : f < e) (hi : i < e) (h : rps e f i < j + 1) (hj : j < e) : rps e f i < j ∨ i = rix e f j := by
  unfold rps rix at *
  by_cases c : f ≤ i
  · rw [if_pos c] at h ⊢
    by_cases d : f + j < e
    · rw [if_pos d]; omega
    · rw [if_neg d]; omega
  · rw [if_neg c] at h ⊢
    by_cases d : f + j < e
    · rw [if_pos d]; omega
    · rw [if_neg d]; omega
theorem rix_s {e f j : Nat} (hf : f < e) (hj : j + 1 < e) : rix e f (j + 1) = nxt e (rix e f j) ∧ (if rix e f (j + 1) = 0 then e - 1 else rix e f (j + 1) - 1) = rix e f j := by
  unfold rix nxt
  by_cases c : f + j < e
  · rw [if_pos c]
    by_cases d : f + (j + 1) < e
    · rw [if_pos d, if_pos (by omega)]
      refine ⟨by omega, ?_⟩
      rw [if_neg (by omega)]
      omega
    · rw [if_neg d, if_neg (by omega)]
      refine ⟨by omega, ?_⟩
      rw [if_pos (by omega)]
      omega
  · rw [if_neg c, if_neg (by omega), if_pos (by omega)]
    refine ⟨by omega, ?_⟩
    rw [if_neg (by omega)]
    omega
theorem MX_step {e f P j r s : Nat} {K val : Nat → Nat} (hf : f < e) (hj : j < e) (hr : rPl K P (rix e f j) = r) (h : MX e f P j r s K val) : MX e f P (j + 1) r (if a2 (K (rix e f j)) = 0 then s + 1 else s) K (fun i => if i = rix e f j then (if a2 (K (rix e f j)) = 0 then s + 1 else s) else val i) := by
  obtain ⟨q1, q2⟩ := rps_rix hf hj
  constructor
  · intro i hi hl hw hp
    show (if i = rix e f j then _ else val i) ≤ _
    by_cases c : i = rix e f j
    · rw [if_pos c]; exact Nat.le_refl _
    · rw [if_neg c]
      have := h.1 i hi ((rps_lt hf hi hl hj).resolve_right c) hw hp
      split <;> omega
  · by_cases w : a2 (K (rix e f j)) = 0
    · exact Or.inr ⟨rix e f j, q2, by omega, w, hr, by show (if rix e f j = rix e f j then _ else _) = _; rw [if_pos rfl]⟩
    · rw [if_neg w]
      rcases h.2 with k | ⟨i, i1, i2, i3, i4, i5⟩
      · exact Or.inl k
      · refine Or.inr ⟨i, i1, by omega, i3, i4, ?_⟩
        show (if i = rix e f j then _ else val i) = s
        rw [if_neg (fun q => by rw [q, q1] at i2; omega)]
        exact i5
theorem MX_keep {e f P j p g v : Nat} {K val : Nat → Nat} (hf : f < e) (hj : j < e) (hp : rPl K P (rix e f j) ≠ p) (h : MX e f P j p g K val) : MX e f P (j + 1) p g K (fun i => if i = rix e f j then v else val i) := by
  obtain ⟨q1, q2⟩ := rps_rix hf hj
  constructor
  · intro i hi hl hw hpp
    show (if i = rix e f j then _ else val i) ≤ _
    have c : ¬ i = rix e f j := fun q => hp (by rw [← q]; exact hpp)
    rw [if_neg c]
    exact h.1 i hi ((rps_lt hf hi hl hj).resolve_right c) hw hpp
  · rcases h.2 with k | ⟨i, i1, i2, i3, i4, i5⟩
    · exact Or.inl k
    · refine Or.inr ⟨i, i1, by omega, i3, i4, ?_⟩
      show (if i = rix e f j then _ else val i) = g
      rw [if_neg (fun q => by rw [q, q1] at i2; omega)]
      exact i5
set_option maxHeartbeats 2000000 in
theorem NB_step {e f P j s z r : Nat} {K val : Nat → Nat} {I M I0 M0 : Mem} (he : e ≤ 12) (hr : RG e f K) (hP : P = rLo K e) (hj : j < e) (h : NB e f P j s z r K val I M I0 M0) : ∃ val', NB e f P (j + 1) (if K (rix e f j) ≤ 2 then (if a2 (K (rix e f j)) = 0 then s + 1 else s) else 0) (if a2 (K (rix e f j)) = 0 then s + 1 else s) (if K (rix e f j) ≤ 2 then r else r + 1) K val' (if K (rix e f j) ≤ 2 then mm_up I 14 (rix e f j) (nI (if a2 (K (rix e f j)) = 0 then s + 1 else s)) else mm_up (mm_up I 14 (rix e f j) (nI (if a2 (K (rix e f j)) = 0 then s + 1 else s))) 15 r (nI (if a2 (K (rix e f j)) = 0 then s + 1 else s))) (mm_up M 34 (rix e f j) (nI (if a2 (K (rix e f j)) = 0 then s + 1 else s))) I0 M0 := by
  obtain ⟨n1, n2, n3, n4, n5, n6, n7, n8, n9, n10⟩ := h
  have hf := hr.2.2.1
  have hP2 : 2 ≤ P ∧ P ≤ 4 := by rw [hP]; exact ⟨hr.1.2.2.1, hr.1.2.2.2.1⟩
  obtain ⟨q1, q2⟩ := rps_rix hf hj
  obtain ⟨r1, _⟩ := n6 hj
  have rP : r < P := by rw [r1]; exact Nat.mod_lt _ (by omega)
  have mx := MX_step hf hj r1.symm (n10 rP)
  have hv : (if a2 (K (rix e f j)) = 0 then s + 1 else s) ≤ j + 1 := by split <;> omega
  have ix3 : ∀ N : Mem, ∀ i, i < e → rps e f i < j + 1 → (∀ i, rps e f i < j → i < e → N i = N i) → True := fun _ _ _ _ _ => trivial
  refine ⟨fun i => if i = rix e f j then (if a2 (K (rix e f j)) = 0 then s + 1 else s) else val i, ?_⟩
  generalize hvv : (if a2 (K (rix e f j)) = 0 then s + 1 else s) = v at *
  have loF : rLo K f = P := by
    have := lo_const hr.2.2.2.2 (e - f) (by omega)
    rw [show f + (e - f) = e from by omega] at this
    rw [hP, this]
  have m34 : ∀ b, b ≠ 34 → mm_up M 34 (rix e f j) (nI v) b = M0 b := fun b hb => by rw [mm_up_ne hb, n2 b hb]
  by_cases c : K (rix e f j) ≤ 2
  · rw [if_pos c, if_pos c, if_pos c]
    refine ⟨fun b b1 b2 => by rw [mm_up_ne b1, n1 b b1 b2], m34, fun i hi hl => ?_, hv, hv, fun hj1 => ?_, fun hje => ?_, fun i hi hl => ?_, fun p p1 p2 => ?_, fun _ => mx⟩
    · show mm_up I 14 (rix e f j) (nI v) 14 i = nI (if i = rix e f j then v else val i) ∧ mm_up M 34 (rix e f j) (nI v) 34 i = nI (if i = rix e f j then v else val i) ∧ (if i = rix e f j then v else val i) ≤ j + 1
      by_cases d : i = rix e f j
      · rw [d, up_same, up_same, if_pos rfl]; exact ⟨rfl, rfl, hv⟩
      · rw [up_other d, up_other d, if_neg d]
        obtain ⟨a, b, g⟩ := n3 i hi ((rps_lt hf hi hl hj).resolve_right d)
        exact ⟨a, b, by omega⟩
    · obtain ⟨s1, s2⟩ := rix_s hf hj1
      rw [s2, if_pos c]
      refine ⟨?_, rfl⟩
      rw [s1, r1]
      unfold nxt
      by_cases w : rix e f j + 1 < e
      · rw [if_pos w, pl_s1 c]
      · rw [if_neg w]
        have e1 : rix e f j + 1 = e := by omega
        have := (th_s1 c).2
        rw [e1] at this
        unfold rPl
        rw [← this, ← hP, Nat.mod_self]
        exact (Nat.zero_mod P).symm
    · exfalso
      have h1f := hr.2.1
      have : rix e f j = f - 1 := by unfold rix; rw [if_neg (by omega)]; omega
      rw [this] at c
      have := hr.2.2.2.1
      omega
    · rcases rps_lt hf hi hl hj with d | d
      · exact n8 i hi d
      · rw [d, r1]; exact Nat.le_refl _
    · obtain ⟨g, g1, g2, g3⟩ := n9 p p1 p2
      exact ⟨g, by omega, g2, MX_keep hf hj (by omega) g3⟩
  · rw [if_neg c, if_neg c, if_neg c]
    refine ⟨fun b b1 b2 => by rw [mm_up_ne b2, mm_up_ne b1, n1 b b1 b2], m34, fun i hi hl => ?_, Nat.zero_le _, hv, fun hj1 => ?_, fun hje => ?_, fun i hi hl => ?_, fun p p1 p2 => ?_, fun r2 => ?_⟩
    · show mm_up I 14 (rix e f j) (nI v) 14 i = nI (if i = rix e f j then v else val i) ∧ mm_up M 34 (rix e f j) (nI v) 34 i = nI (if i = rix e f j then v else val i) ∧ (if i = rix e f j then v else val i) ≤ j + 1
      by_cases d : i = rix e f j
      · rw [d, up_same, up_same, if_pos rfl]; exact ⟨rfl, rfl, hv⟩
      · rw [up_other d, up_other d, if_neg d]
        obtain ⟨a, b, g⟩ := n3 i hi ((rps_lt hf hi hl hj).resolve_right d)
        exact ⟨a, b, by omega⟩
    · obtain ⟨s1, s2⟩ := rix_s hf hj1
      rw [s2, if_neg c]
      refine ⟨?_, rfl⟩
      have lt : rix e f j < f := by
        rcases Nat.lt_or_ge (rix e f j) f with q | q
        · exact q
        · exact absurd (hr.2.2.2.2 _ q q2) c
      have lt2 : rix e f j + 1 < f := by
        have : rix e f j ≠ f - 1 := fun q => by
          have := (rps_rix hf hj).1
          rw [q] at this
          unfold rps at this
          rw [if_neg (by omega)] at this
          omega
        omega
      rw [s1, show nxt e (rix e f j) = rix e f j + 1 from if_pos (by omega), pl_s0' hP2 c, ← r1]
      rw [if_neg ?_]
      have b1 := (th_s0 c).2
      have b2 := (th_mono K (show rix e f j + 1 ≤ f - 1 from by omega)).2
      have b3 := (th_s0 (K := K) (i := f - 1) (by have := hr.2.2.2.1; omega)).2
      rw [show f - 1 + 1 = f from by omega, loF] at b3
      have b4 : r = rLo K (rix e f j) := by rw [r1]; unfold rPl; exact Nat.mod_eq_of_lt (by omega)
      omega
    · have : rix e f j = f - 1 := by unfold rix; rw [if_neg (by have := hr.2.1; omega)]; omega
      have b3 := (th_s0 (K := K) (i := f - 1) (by have := hr.2.2.2.1; omega)).2
      rw [show f - 1 + 1 = f from by have := hr.2.1; omega, loF] at b3
      have b4 : r = rLo K (f - 1) := by rw [r1, this]; unfold rPl; exact Nat.mod_eq_of_lt (by omega)
      omega
    · rcases rps_lt hf hi hl hj with d | d
      · have := n8 i hi d; omega
      · rw [d, ← r1]; omega
    · by_cases d : p = r
      · refine ⟨v, hv, ?_, by rw [d]; exact mx⟩
        show mm_up (mm_up I 14 (rix e f j) (nI v)) 15 r (nI v) 15 p = _
        rw [d, up_same]
      · obtain ⟨g, g1, g2, g3⟩ := n9 p (by omega) p2
        refine ⟨g, by omega, ?_, MX_keep hf hj (by omega) g3⟩
        show mm_up (mm_up I 14 (rix e f j) (nI v)) 15 r (nI v) 15 p = _
        rw [up_other d]
        exact g2
    · refine ⟨fun i hi hl _ hp => ?_, Or.inl rfl⟩
      exfalso
      rcases rps_lt hf hi hl hj with d | d
      · have := n8 i hi d; omega
      · rw [d, ← r1] at hp; omega
theorem numb {e f P : Nat} {x1 x2 x3 : Int32} {K : Nat → Nat} {I0 M0 : Mem} (hc : RC e K I0) (hm : RM e K M0) (hr : RG e f K) (hP : P = rLo K e) : ∀ (d j n n' s z r : Nat) (val : Nat → Nat) (I M : Mem), j + d = e → d < n → d < n' → NB e f P j s z r K val I M I0 M0 → ∃ (I' M' : Mem) (val' : Nat → Nat) (s' z' r' : Nat), l_75_13 n (nI P) (nI r) (nI s) (nI (rix e f j)) (nI j) I = some I' ∧ l_140_148 n' x1 x2 x3 (nI f) (nI z) (nI j) M = some M' ∧ NB e f P e s' z' r' K val' I' M' I0 M0 := by
  have he := hc.1
  have hf := hr.2.2.1
  have hP2 : 2 ≤ P ∧ P ≤ 4 := by rw [hP]; exact ⟨hr.1.2.2.1, hr.1.2.2.2.1⟩
  intro d
  induction d with
  | zero =>
    intro j n n' s z r val I M hj hn hn' h
    obtain ⟨n, rfl⟩ : ∃ m', n = m' + 1 := ⟨n - 1, by omega⟩
    obtain ⟨n', rfl⟩ : ∃ m', n' = m' + 1 := ⟨n' - 1, by omega⟩
    have hj : j = e := by omega
    subst hj
    refine ⟨I, M, val, s, z, r, ?_, ?_, h⟩
    · rw [l_75_13, h.1 12 (by decide) (by decide), hc.2.1, if_pos (nI_le (Nat.le_refl _) (by omega))]
    · rw [l_140_148, h.2.1 20 (by decide), hm.2.1, if_pos (nI_le (Nat.le_refl _) (by omega))]
  | succ d ih =>
    intro j n n' s z r val I M hj hn hn' h
    obtain ⟨n, rfl⟩ : ∃ m', n = m' + 1 := ⟨n - 1, by omega⟩
    obtain ⟨n', rfl⟩ : ∃ m', n' = m' + 1 := ⟨n' - 1, by omega⟩
    have hjl : j < e := by omega
    obtain ⟨q1, q2⟩ := rps_rix hf hjl
    have rc : RC e K I := ⟨he, by rw [h.1 12 (by decide) (by decide)]; exact hc.2.1, fun k hk => by rw [h.1 13 (by decide) (by decide)]; exact hc.2.2 k hk⟩
    have rm : RM e K M := ⟨he, by rw [h.2.1 20 (by decide)]; exact hm.2.1, fun k hk => by rw [h.2.1 29 (by decide)]; exact hm.2.2 k hk⟩
    obtain ⟨r1, s1⟩ := h.2.2.2.2.2.1 hjl
    have rP : r < P := by rw [r1]; exact Nat.mod_lt _ (by omega)
    have hs := h.2.2.2.1
    have hz := h.2.2.2.2.1
    obtain ⟨val', nb⟩ := NB_step he hr hP hjl h
    obtain ⟨I', M', val2, s', z', r', g1, g2, g3⟩ := ih (j + 1) n n' _ _ _ val' _ _ (by omega) (by omega) (by omega) nb
    refine ⟨I', M', val2, s', z', r', ?_, ?_, g3⟩
    · rw [numC rc q2 hjl hP2.2 rP (by omega)]
      rw [← g1]
      by_cases last : j + 1 < e
      · rw [(rix_s hf last).1]
      · obtain ⟨n, rfl⟩ : ∃ m', n = m' + 1 := ⟨n - 1, by omega⟩
        have je : j + 1 = e := by omega
        have i12 : (if K (rix e f j) ≤ 2 then mm_up I 14 (rix e f j) (nI (if a2 (K (rix e f j)) = 0 then s + 1 else s)) else mm_up (mm_up I 14 (rix e f j) (nI (if a2 (K (rix e f j)) = 0 then s + 1 else s))) 15 r (nI (if a2 (K (rix e f j)) = 0 then s + 1 else s))) 12 3 = nI e := by
          rw [nb.1 12 (by decide) (by decide)]
          exact hc.2.1
        rw [l_75_13, l_75_13, i12, if_pos (nI_le (by omega) (by omega)), if_pos (nI_le (by omega) (by omega))]
    · rw [numM rm hf hjl (by omega), ← s1]
      exact g2
end MMAC
