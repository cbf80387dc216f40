/-! THE PAIR read, 4: threads, terms, the whole text (written by wip/whole/gen/read2_part.py). -/
section MMAI
theorem bad_64 {I0 M0 I M : Mem} {x : Int32} {f : Nat} (h : BAD I0 M0 I M) : l_119_64 (f + 1) x M = some M := by
  rw [l_119_64, if_neg (bad_n0 h).1]
theorem bad_70 {I0 M0 I M : Mem} {x1 x2 : Int32} (h : BAD I0 M0 I M) : j_126_70 x1 x2 M = some M := by
  unfold j_126_70
  rw [if_neg (bad_n0 h).2.1]
set_option maxHeartbeats 2000000 in
theorem acts_ok {n : Nat} {b : Nat → Nat} {I0 M0 : Mem} {t m c : Nat} (ht : 1 ≤ t) : ∀ (d a y f f' : Nat) (ow : Nat → Nat) (k p q v : Nat) (I M : Mem), a + d = 24 → d < f → d + 1 < f' → y ≤ a → SL n b I0 M0 k p q v I M → PR t a m c ow I M → (∃ (k' p' q' v' a' : Nat) (ow' : Nat → Nat) (I' M' : Mem), l_41_33 f (nI y) I = some (1, I') ∧ l_119_64 f' (nI (t - 1)) M = some M' ∧ SL n b I0 M0 k' p' q' v' I' M' ∧ PR t a' m c ow' I' M') ∨ (∃ I' M', l_41_33 f (nI y) I = some (0, I') ∧ l_119_64 f' (nI (t - 1)) M = some M' ∧ BAD I0 M0 I' M') := by
  intro d
  induction d with
  | zero =>
    intro a y f f' ow k p q v I M hd hf hf' hy h hP
    obtain ⟨f, rfl⟩ : ∃ m', f = m' + 1 := ⟨f - 1, by omega⟩
    obtain ⟨f', rfl⟩ : ∃ m', f' = m' + 2 := ⟨f' - 2, by omega⟩
    have ha : a = 24 := by omega
    subst ha
    rw [l_41_33, if_neg (k_nlt (a := 24) (by rfl) (by rfl) (by omega) (by omega)), l_119_64, if_pos h.2.2.1.2.2.1]
    rcases t_kind h.1 h.2.1 with ⟨e0, e1, e2, e3⟩ | ⟨x, hx, e0, k0, hk⟩
    · rw [e0, e1]
      try simp only [Option.bind_some, nr0, nr1, s_10, s_n10, s_n00, s_a, s_b, s_c, s_d, s_e, ↓reduceIte]
      rw [e2]
      try simp only [Option.bind_some, nr0, nr1, s_10, s_n10, s_n00, s_a, s_b, s_c, s_d, s_e, ↓reduceIte]
      rw [e3]
      exact Or.inl ⟨k, p, q, v, 24, ow, I, M, (by first | rfl | simp only [Option.bind_some, nr0, nr1, s_10, ↓reduceIte]), (by first | rfl | simp only [Option.bind_some, nr0, nr1, s_10, ↓reduceIte]), h, hP⟩
    · have eM : g_126 (nI (t - 1)) M = j_126_40 (nI (t - 1)) (nI x) M := by
        unfold g_126
        rcases hk with ⟨rfl, q1⟩ | ⟨rfl, q1, q2⟩ | ⟨rfl, q1, q2, q3⟩
        · rw [q1, Option.bind_some, if_neg (by decide)]; rfl
        · rw [q1, Option.bind_some, if_pos rfl, q2, Option.bind_some, if_neg (by decide)]; rfl
        · rw [q1, Option.bind_some, if_pos rfl, q2, Option.bind_some, if_pos rfl, q3, Option.bind_some, if_neg (by decide)]; rfl
      have eL : (Option.bind (g_125 119 M) (fun w4 => (if w4 = 0 then ((g_125 (114 : Int32) M).bind (fun w6 => (if w6 = 0 then ((g_125 (102 : Int32) M).bind (fun w8 => (if w8 = 0 then (some M) else ((g_126 (nI (t - 1)) M).bind (fun w9 => (l_119_64 (f' + 1) (nI (t - 1)) w9)))))) else ((g_126 (nI (t - 1)) M).bind (fun w7 => (l_119_64 (f' + 1) (nI (t - 1)) w7)))))) else ((g_126 (nI (t - 1)) M).bind (fun w5 => (l_119_64 (f' + 1) (nI (t - 1)) w5)))))) = Option.bind (j_126_40 (nI (t - 1)) (nI x) M) (l_119_64 (f' + 1) (nI (t - 1))) := by
        rw [eM]
        rcases hk with ⟨rfl, q1⟩ | ⟨rfl, q1, q2⟩ | ⟨rfl, q1, q2, q3⟩
        · rw [q1, Option.bind_some, if_neg (by decide)]
        · rw [q1, Option.bind_some, if_pos rfl, q2, Option.bind_some, if_neg (by decide)]
        · rw [q1, Option.bind_some, if_pos rfl, q2, Option.bind_some, if_pos rfl, q3, Option.bind_some, if_neg (by decide)]
      rw [eL, e0]
      obtain ⟨t1, t2, t3⟩ := tell_ok (I0 := I0) (M0 := M0) (I := I) (M := M) 4 p (by omega) h.2.2.1.2.2.1 h.2.2.2.1 h.2.2.2.2
      refine Or.inr ⟨_, _, ?_, ?_, t3⟩
      · try simp only [Option.bind_some, nr0, nr1, s_10, s_n10, s_n00, s_a, s_b, s_c, s_d, s_e, ↓reduceIte]
        rw [if_neg (ne1 x (by omega)), if_neg (by rw [hP.2.2.1.1]; decide), h.2.1.1, show g_45 4 (nI p) I = _ from t1]
        first | rfl | simp only [Option.bind_some, nr0, nr1, s_10, ↓reduceIte]
      · unfold j_126_40
        rw [if_pos (nI_pos' (by omega)), if_pos (by rw [hP.2.2.1.2]; rfl), h.2.1.2.1, show g_123 4 (nI p) M = _ from t2]
        try simp only [Option.bind_some, nr0, nr1, s_10, s_n10, s_n00, s_a, s_b, s_c, s_d, s_e, ↓reduceIte]
        rw [bad_70 t3]
        exact bad_64 t3
  | succ d ih =>
    intro a y f f' ow k p q v I M hd hf hf' hy h hP
    obtain ⟨f, rfl⟩ : ∃ m', f = m' + 1 := ⟨f - 1, by omega⟩
    obtain ⟨f', rfl⟩ : ∃ m', f' = m' + 1 := ⟨f' - 1, by omega⟩
    rw [l_41_33, if_neg (k_nlt (a := 24) (by rfl) (by rfl) (by omega) (by omega)), l_119_64, if_pos h.2.2.1.2.2.1]
    rcases t_kind h.1 h.2.1 with ⟨e0, e1, e2, e3⟩ | ⟨x, hx, e0, k0, hk⟩
    · rw [e0, e1]
      try simp only [Option.bind_some, nr0, nr1, s_10, s_n10, s_n00, s_a, s_b, s_c, s_d, s_e, ↓reduceIte]
      rw [e2]
      try simp only [Option.bind_some, nr0, nr1, s_10, s_n10, s_n00, s_a, s_b, s_c, s_d, s_e, ↓reduceIte]
      rw [e3]
      exact Or.inl ⟨k, p, q, v, a, ow, I, M, (by first | rfl | simp only [Option.bind_some, nr0, nr1, s_10, ↓reduceIte]), (by first | rfl | simp only [Option.bind_some, nr0, nr1, s_10, ↓reduceIte]), h, hP⟩
    · have eM : g_126 (nI (t - 1)) M = j_126_40 (nI (t - 1)) (nI x) M := by
        unfold g_126
        rcases hk with ⟨rfl, q1⟩ | ⟨rfl, q1, q2⟩ | ⟨rfl, q1, q2, q3⟩
        · rw [q1, Option.bind_some, if_neg (by decide)]; rfl
        · rw [q1, Option.bind_some, if_pos rfl, q2, Option.bind_some, if_neg (by decide)]; rfl
        · rw [q1, Option.bind_some, if_pos rfl, q2, Option.bind_some, if_pos rfl, q3, Option.bind_some, if_neg (by decide)]; rfl
      have eL : (Option.bind (g_125 119 M) (fun w4 => (if w4 = 0 then ((g_125 (114 : Int32) M).bind (fun w6 => (if w6 = 0 then ((g_125 (102 : Int32) M).bind (fun w8 => (if w8 = 0 then (some M) else ((g_126 (nI (t - 1)) M).bind (fun w9 => (l_119_64 f' (nI (t - 1)) w9)))))) else ((g_126 (nI (t - 1)) M).bind (fun w7 => (l_119_64 f' (nI (t - 1)) w7)))))) else ((g_126 (nI (t - 1)) M).bind (fun w5 => (l_119_64 f' (nI (t - 1)) w5)))))) = Option.bind (j_126_40 (nI (t - 1)) (nI x) M) (l_119_64 f' (nI (t - 1))) := by
        rw [eM]
        rcases hk with ⟨rfl, q1⟩ | ⟨rfl, q1, q2⟩ | ⟨rfl, q1, q2, q3⟩
        · rw [q1, Option.bind_some, if_neg (by decide)]
        · rw [q1, Option.bind_some, if_pos rfl, q2, Option.bind_some, if_neg (by decide)]
        · rw [q1, Option.bind_some, if_pos rfl, q2, Option.bind_some, if_pos rfl, q3, Option.bind_some, if_neg (by decide)]
      have ej : j_126_40 (nI (t - 1)) (nI x) M = j_126_70 (nI (t - 1)) (nI x) M := by
        unfold j_126_40
        rw [if_pos (nI_pos' (by omega)), if_neg (by rw [hP.2.2.1.2]; exact fun r => by have := (nI_eq (b := 24) (by omega) (by omega)).mp r; omega)]
      obtain ⟨w4, g1, g2⟩ := act_ok h hP ht (by omega) x hx
      have eC : (Option.bind (g_46 I) (fun w3 => (if w3 = (-1 : Int32) then (some ((1 : Int32), I)) else (if (I 4 1) < (24 : Int32) then ((g_34 I).bind (fun w4 => ((g_55 w3 w4).bind (fun w5 => (if w5.1 = 0 then (some ((0 : Int32), w5.2)) else ((g_42 (59 : Int32) w5.2).bind (fun w6 => (if w6.1 = 0 then (some ((0 : Int32), w6.2)) else (l_41_33 f (nI y + (1 : Int32)) w6.2))))))))) else ((g_45 (4 : Int32) (I 2 3) I).bind (fun w7 => (nr .boolean w7.1 (some (w7.1, w7.2))))))))) = ((g_55 (nI x) w4).bind (fun w5 => (if w5.1 = 0 then (some ((0 : Int32), w5.2)) else ((g_42 (59 : Int32) w5.2).bind (fun w6 => (if w6.1 = 0 then (some ((0 : Int32), w6.2)) else (l_41_33 f (nI (y + 1)) w6.2))))))) := by
        rw [e0]
        try simp only [Option.bind_some, nr0, nr1, s_10, s_n10, s_n00, s_a, s_b, s_c, s_d, s_e, ↓reduceIte]
        rw [if_neg (ne1 x (by omega)), if_pos (by rw [hP.2.2.1.1]; exact k_lt (b := 24) (by rfl) (by rfl) (by omega) (by omega)), g1, nI_1]
        first | rfl | simp only [Option.bind_some, nr0, nr1, s_10, ↓reduceIte]
      rw [eL, ej, eC]
      rcases g2 with ⟨w5, w6, M', k', p', q', v', ow', a1, a2, a3, a4, a5⟩ | ⟨w5, M', a1, a2, a3⟩ | ⟨w5, w6, M', a1, a2, a3, a4⟩
      · rw [a1, a3]
        try simp only [Option.bind_some, nr0, nr1, s_10, s_n10, s_n00, s_a, s_b, s_c, s_d, s_e, ↓reduceIte]
        rw [a2]
        exact ih (a + 1) (y + 1) f f' ow' k' p' q' v' w6 M' (by omega) (by omega) (by omega) (by omega) a4 a5
      · rw [a1, a2]
        obtain ⟨f', rfl⟩ : ∃ m', f' = m' + 1 := ⟨f' - 1, by omega⟩
        exact Or.inr ⟨w5, M', (by first | rfl | simp only [Option.bind_some, nr0, nr1, s_10, ↓reduceIte]), bad_64 a3, a3⟩
      · rw [a1, a3]
        obtain ⟨f', rfl⟩ : ∃ m', f' = m' + 1 := ⟨f' - 1, by omega⟩
        refine Or.inr ⟨w6, M', ?_, bad_64 a4, a4⟩
        try simp only [Option.bind_some, nr0, nr1, s_10, s_n10, s_n00, s_a, s_b, s_c, s_d, s_e, ↓reduceIte]
        rw [a2]
        first | rfl | simp only [Option.bind_some, nr0, nr1, s_10, ↓reduceIte]
theorem PR_thr {t a m c : Nat} {ow : Nat → Nat} {I M : Mem} (h : PR t a m c ow I M) (ht : t < 4) : PR (t + 1) a m c ow (mm_up I 4 0 (nI (t + 1))) (mm_up M 20 6 (nI (t + 1))) := by
  obtain ⟨p0, p1, p2, p3, p4, p5, p6, p7⟩ := h
  exact ⟨⟨by omega, p0.2⟩, ⟨rfl, rfl⟩, p2, p3, p4, fun k hk => ⟨by have := (p5 k hk).1; omega, (p5 k hk).2⟩, p6, p7⟩
/-- a thread -/
theorem thread_ok {n : Nat} {b : Nat → Nat} {I0 M0 : Mem} {k p q v : Nat} {I M : Mem} {t a m c : Nat} {ow : Nat → Nat} (h : SL n b I0 M0 k p q v I M) (hP : PR t a m c ow I M) (ht : t < 4) : (∃ (k' p' q' v' a' : Nat) (ow' : Nat → Nat) (I' M' : Mem), g_41 I = some (1, I') ∧ Option.bind (g_115 M) (fun w2 => Option.bind (g_124 58 w2) (fun w3 => l_119_64 5000 (nI t) (mm_up w3 20 6 (w3 20 6 + 1)))) = some M' ∧ SL n b I0 M0 k' p' q' v' I' M' ∧ PR (t + 1) a' m c ow' I' M') ∨ (∃ I' M', g_41 I = some (0, I') ∧ Option.bind (g_115 M) (fun w2 => Option.bind (g_124 58 w2) (fun w3 => l_119_64 5000 (nI t) (mm_up w3 20 6 (w3 20 6 + 1)))) = some M' ∧ BAD I0 M0 I' M') := by
  have ha := hP.1.2.1
  unfold g_41
  rw [hP.2.1.1, nI_1]
  obtain ⟨k1, p1, q1, v1, I1, M1, e1, e2, e3, e4, e5⟩ := next_ok (SL_c (J := mm_up I 4 0 (nI (t + 1))) h (fun x hx => mm_up_ne (by omega)))
  rw [e1, e2]
  try simp only [Option.bind_some, nr0, nr1, s_10, s_n10, s_n00, s_a, s_b, s_c, s_d, s_e, ↓reduceIte]
  rcases take_ok e3 58 (by omega) with ⟨k2, p2, q2, v2, I2, M2, f1, f2, f3, f4, f5⟩ | ⟨I2, M2, f1, f2, f3⟩
  · rw [show g_42 58 I1 = _ from f1, show g_124 58 M1 = _ from f2]
    have m6 : M2 20 6 = nI t := by rw [f5.2 6 (by omega), e5.2 6 (by omega)]; exact hP.2.1.2
    have hP2 : PR (t + 1) a m c ow I2 (mm_up M2 20 6 (nI (t + 1))) := by
      refine PR_x (PR_thr hP ht) (fun x _ _ => by rw [f4.1 x (by omega), e4.1 x (by omega)]) (fun x _ _ => by rw [mm_up_ne (by omega), mm_up_ne (by omega), f5.1 x (by omega), e5.1 x (by omega)]) (fun x x1 x2 => ?_)
      by_cases c6 : x = 6
      · rw [c6, up_same, up_same]
      · rw [up_other c6, up_other c6, f5.2 x (by omega), e5.2 x (by omega)]
    have hS2 : SL n b I0 M0 k2 p2 q2 v2 I2 (mm_up M2 20 6 (nI (t + 1))) := SL_m f3 (fun x hx => mm_up_ne (by omega)) (fun x hx => up_other (by omega))
    have r := acts_ok (t := t + 1) (by omega) (24 - a) a 0 5000 5000 ow k2 p2 q2 v2 I2 (mm_up M2 20 6 (nI (t + 1))) (by omega) (by omega) (by omega) (Nat.zero_le _) hS2 hP2
    try simp only [Option.bind_some, nr0, nr1, s_10, s_n10, s_n00, s_a, s_b, s_c, s_d, s_e, ↓reduceIte]
    rw [m6, nI_1]
    exact r
  · rw [show g_42 58 I1 = _ from f1, show g_124 58 M1 = _ from f2]
    refine Or.inr ⟨I2, mm_up M2 20 6 (M2 20 6 + 1), (by first | rfl | simp only [Option.bind_some, nr0, nr1, s_10, ↓reduceIte]), ?_, BAD_m f3 (fun x hx => mm_up_ne (by omega)) (fun x hx => up_other (by omega))⟩
    try simp only [Option.bind_some, nr0, nr1, s_10, s_n10, s_n00, s_a, s_b, s_c, s_d, s_e, ↓reduceIte]
    exact bad_64 (f := 4999) (BAD_m f3 (N := mm_up M2 20 6 (M2 20 6 + 1)) (fun x hx => mm_up_ne (by omega)) (fun x hx => up_other (by omega)))
/-- which registers a thread reads into -/
theorem reads_1 {a : Nat} {x y : Int32} {M : Mem} (ha : a ≤ 24) (h : M 20 7 = nI a) : ∀ (d k f : Nat), k + d = a → d < f → l_132_5 f x y 1 (nI k) M = some 1 := by
  intro d
  induction d with
  | zero =>
    intro k f hk hf
    obtain ⟨f, rfl⟩ : ∃ m', f = m' + 1 := ⟨f - 1, by omega⟩
    rw [l_132_5, h, if_pos (nI_le (by omega) (by omega))]
    first | rfl | simp only [Option.bind_some, nr0, nr1, s_10, ↓reduceIte]
  | succ d ih =>
    intro k f hk hf
    obtain ⟨f, rfl⟩ : ∃ m', f = m' + 1 := ⟨f - 1, by omega⟩
    rw [l_132_5, h, if_neg (nI_ge (by omega) (by omega)), if_neg (by decide), nI_1]
    exact ih (k + 1) f (by omega) (by omega)
theorem reads_l {a : Nat} {x y : Int32} {I M : Mem} (ha : a ≤ 24) (h : M 20 7 = nI a) (h1 : I 4 1 = nI a) (h5 : ∀ k, k < a → I 5 k = M 22 k ∧ I 6 k = M 23 k ∧ I 8 k = M 25 k) : ∀ (d k f f' : Nat), k + d = a → d < f → d < f' → ∃ r : Int32, (r = 0 ∨ r = 1) ∧ l_64_2 f x y (nI k) I = some r ∧ l_132_5 f' x y 0 (nI k) M = some r := by
  intro d
  induction d with
  | zero =>
    intro k f f' hk hf hf'
    obtain ⟨f, rfl⟩ : ∃ m', f = m' + 1 := ⟨f - 1, by omega⟩
    obtain ⟨f', rfl⟩ : ∃ m', f' = m' + 1 := ⟨f' - 1, by omega⟩
    refine ⟨0, Or.inl rfl, ?_, ?_⟩
    · rw [l_64_2, h1, if_pos (nI_le (by omega) (by omega))]
    · rw [l_132_5, h, if_pos (nI_le (by omega) (by omega))]
      first | rfl | simp only [Option.bind_some, nr0, nr1, s_10, ↓reduceIte]
  | succ d ih =>
    intro k f f' hk hf hf'
    obtain ⟨f, rfl⟩ : ∃ m', f = m' + 1 := ⟨f - 1, by omega⟩
    obtain ⟨f', rfl⟩ : ∃ m', f' = m' + 1 := ⟨f' - 1, by omega⟩
    obtain ⟨c5, c6, c8⟩ := h5 k (by omega)
    have i := ih (k + 1) f f' (by omega) (by omega) (by omega)
    have X24 : ∀ {α : Type} (T : Nat → Option α), ix (nI k) 24 T = T k := fun T => ix_nI (by omega) (by omega) T
    have X48 : ∀ {α : Type} (T : Nat → Option α), ix (nI k) 48 T = T k := fun T => ix_nI (by omega) (by omega) T
    rw [l_64_2, h1, if_neg (nI_ge (by omega) (by omega)), l_132_5, h, if_neg (nI_ge (by omega) (by omega)), if_pos rfl, nI_1]
    simp only [X24, X48, c5, c6, c8]
    by_cases d1 : M 22 k = x
    · rw [if_pos d1, if_pos d1]
      by_cases d2 : M 23 k = 1
      · rw [if_pos d2, if_pos d2]
        by_cases d3 : M 25 k = y
        · rw [if_pos d3, if_pos d3]
          exact ⟨1, Or.inr rfl, rfl, reads_1 ha h d (k + 1) f' (by omega) (by omega)⟩
        · rw [if_neg d3, if_neg d3]; exact i
      · rw [if_neg d2, if_neg d2]; exact i
    · rw [if_neg d1, if_neg d1]; exact i
theorem reads_ok {t a m c : Nat} {ow : Nat → Nat} {I M : Mem} (hP : PR t a m c ow I M) (x y : Int32) : ∃ r : Int32, (r = 0 ∨ r = 1) ∧ g_64 x y I = some r ∧ g_132 x y M = some r := by
  have ha := hP.1.2.1
  obtain ⟨h5, h6⟩ := pr_owner hP
  exact reads_l ha hP.2.2.1.2 hP.2.2.1.1 (fun k hk => ⟨h5 k hk, h6 k hk, (hP.2.2.2.2.2.1 k hk).2.2.2.2.2.1⟩) a 0 5000 5000 (by omega) (by omega) (by omega)
/-- = and a number -/
def cval (x y : Int32) (J : Mem) : Option (Int32 × Mem) := ((g_42 (61 : Int32) J).bind (fun w4 => (if w4.1 = 0 then (some ((0 : Int32), w4.2)) else ((g_59 w4.2).bind (fun w5 => (if w5.1 = 0 then (some ((0 : Int32), w5.2)) else ((g_65 x y (w5.2 2 5) w5.2).bind (fun w6 => ((g_34 w6).bind (fun w7 => (some ((1 : Int32), w7))))))))))))
def TRM (n : Nat) (b : Nat → Nat) (I0 M0 : Mem) (t a m c : Nat) (ow : Nat → Nat) (C : Option (Int32 × Mem)) (N : Option Mem) : Prop := (∃ (k' p' q' v' : Nat) (I' M' : Mem), C = some (1, I') ∧ N = some M' ∧ SL n b I0 M0 k' p' q' v' I' M' ∧ PR t a (m + 1) c ow I' M' ∧ m < 16) ∨ (∃ I' M', C = some (0, I') ∧ N = some M' ∧ BAD I0 M0 I' M')
set_option maxHeartbeats 1000000 in
theorem val_ok {n : Nat} {b : Nat → Nat} {I0 M0 : Mem} {k p q v : Nat} {I M : Mem} {t a m c : Nat} {ow : Nat → Nat} {x y x3 : Int32} (h : SL n b I0 M0 k p q v I M) (hP : PR t a m c ow I M) (hm : m < 16) (hv : ∀ z, z ≤ 99 → vT x y (nI z)) : TRM n b I0 M0 t a m c ow (cval x y I) (j_131_144 x y x3 M) := by
  unfold cval j_131_144
  rcases take_ok h 61 (by omega) with ⟨k1, p1, q1, v1, I1, M1, e1, e2, e3, e4, e5⟩ | ⟨I1, M1, e1, e2, e3⟩
  · rw [show g_42 61 I = _ from e1, show g_124 61 M = _ from e2]
    have hP1 := PR_xx hP e4 e5
    try simp only [Option.bind_some, nr0, nr1, s_10, s_n10, s_n00, s_a, s_b, s_c, s_d, s_e, ↓reduceIte]
    rw [if_pos (by rw [e3.2.2.1.2.2.1]; decide)]
    rcases num_ok e3 with ⟨k2, p2, q2, v2, M2, I2, a1, a2, a3, a4, a5, a6, a7, a8⟩ | ⟨I2, M2, y2, b1, b2, b3, b4, b5⟩
    · rw [a3, a5]
      try simp only [Option.bind_some, nr0, nr1, s_10, s_n10, s_n00, s_a, s_b, s_c, s_d, s_e, ↓reduceIte]
      have hP2 := PR_xx hP1 (FxC_r I1) a8
      rw [a2, g65_ok hP1.2.2.2.1.1 hm, hP2.2.2.2.1.2, ix_nI (by omega) (by omega), ix_nI (by omega) (by omega), ix_nI (by omega) (by omega), nI_1]
      try simp only [Option.bind_some, nr0, nr1, s_10, s_n10, s_n00, s_a, s_b, s_c, s_d, s_e, ↓reduceIte]
      -- the class reads on behind its row
      obtain ⟨k3, p3, q3, v3, I3, M3, f1, f2, f3, f4, f5⟩ := next_ok (SL_c e3 (ctrm_f (m := m) (x := x) (y := y) (z := nI v1)))
      have em : M3 = M2 := by
        have r := a5
        unfold g_128 at r
        rcases lx_1 e3.2.1 with ⟨r1, r2, r3, r4, r5⟩ | ⟨_, r2⟩
        · rw [if_pos r2, r5, if_pos (k_le (b := 99) (by rfl) (by rfl) a1 (by omega)), f2] at r
          exact congrArg Prod.snd (Option.some.inj r)
        · rw [if_neg r2] at r
          obtain ⟨_, M9, _, z2, z3⟩ := misfit_ok e3
          rw [z2] at r
          have q3 : M9 = M2 := congrArg Prod.snd (Option.some.inj r)
          exact absurd (q3 ▸ a6.2.2.1.2.2.1) (bad_n0 z3).1
      subst em
      rw [f1]
      refine Or.inl ⟨k3, p3, q3, v3, I3, mtrm m x y (nI v1) M3, (by first | rfl | simp only [Option.bind_some, nr0, nr1, s_10, ↓reduceIte]), (by first | rfl | simp only [Option.bind_some, nr0, nr1, s_10, ↓reduceIte]), SL_m f3 mtrm_f.1 mtrm_f.2, PR_x (PR_trm hP2 hm (hv v1 a1)) (fun z _ _ => f4.1 z (by omega)) (fun _ _ _ => rfl) (fun _ _ _ => rfl), hm⟩
    · rw [b1, b2]
      try simp only [Option.bind_some, nr0, nr1, s_10, s_n10, s_n00, s_a, s_b, s_c, s_d, s_e, ↓reduceIte]
      rw [b5 8 (by omega) (by omega), hP1.2.2.2.1.2, ix_nI (by omega) (by omega), ix_nI (by omega) (by omega), ix_nI (by omega) (by omega), nI_1]
      exact Or.inr ⟨I2, mtrm m x y y2 M2, (by first | rfl | simp only [Option.bind_some, nr0, nr1, s_10, ↓reduceIte]), (by first | rfl | simp only [Option.bind_some, nr0, nr1, s_10, ↓reduceIte]), BAD_m b3 mtrm_f.1 (fun z hz => mtrm_f.2 z (by omega))⟩
  · rw [show g_42 61 I = _ from e1, show g_124 61 M = _ from e2]
    refine Or.inr ⟨I1, M1, (by first | rfl | simp only [Option.bind_some, nr0, nr1, s_10, ↓reduceIte]), ?_, e3⟩
    try simp only [Option.bind_some, nr0, nr1, s_10, s_n10, s_n00, s_a, s_b, s_c, s_d, s_e, ↓reduceIte]
    rw [if_neg (bad_n0 e3).2.1]
theorem bad_69 {I0 M0 I M : Mem} {x1 x2 x3 : Int32} (h : BAD I0 M0 I M) : j_131_69 x1 x2 x3 M = some M := by
  unfold j_131_69
  rw [if_neg (bad_n0 h).2.1]
-- a thread's register in a term
set_option maxHeartbeats 2000000 in
theorem reg_ok {n : Nat} {b : Nat → Nat} {I0 M0 : Mem} {k p q v : Nat} {I M : Mem} {t a m c g : Nat} {ow : Nat → Nat} (h : SL n b I0 M0 k p q v I M) (hP : PR t a m c ow I M) (hm : m < 16) (hg : g < 4) (hgt : g < t) : TRM n b I0 M0 t a m c ow ((g_63 (nI g) I).bind (fun w8 => (if w8.1 = 0 then (some ((0 : Int32), w8.2)) else ((g_40 (114 : Int32) w8.2).bind (fun w9 => ((g_34 w8.2).bind (fun w10 => cval (nI g) w9 w10))))))) (j_131_69 (nI g) (-1) (nI p) M) := by
  have ht := hP.1.1
  unfold g_63 j_131_69
  rw [hP.2.1.1, if_pos (nI_lt hgt (by omega)), if_pos (by rw [h.2.2.1.2.2.1]; decide), h.2.1.1]
  obtain ⟨k1, p1, q1, v1, I1, M1, e1, e2, e3, e4, e5⟩ := next_ok h
  rw [e1, e2]
  try simp only [Option.bind_some, nr0, nr1, s_10, s_n10, s_n00, s_a, s_b, s_c, s_d, s_e, ↓reduceIte]
  rw [if_neg (nI_pos (by omega))]
  rcases take_ok e3 58 (by omega) with ⟨k2, p2, q2, v2, I2, M2, f1, f2, f3, f4, f5⟩ | ⟨I2, M2, f1, f2, f3⟩
  · have hP2 := PR_xx (PR_xx hP e4 e5) f4 f5
    rw [show g_42 58 I1 = _ from f1, show g_124 58 M1 = _ from f2]
    try simp only [Option.bind_some, nr0, nr1, s_10, s_n10, s_n00, s_a, s_b, s_c, s_d, s_e, ↓reduceIte]
    rw [if_pos (by rw [f3.2.2.1.2.2.1]; decide)]
    obtain ⟨z, z1, z2, z3⟩ := t_named f3.1 f3.2.1 114 (by omega)
    rw [show g_40 114 I2 = some z from z1, show g_120 114 M2 = some z from z2]
    try simp only [Option.bind_some, nr0, nr1, s_10, s_n10, s_n00, s_a, s_b, s_c, s_d, s_e, ↓reduceIte]
    rcases z3 with rfl | ⟨r, hr, rfl, _, _, _⟩
    · obtain ⟨I3, M3, g1, g2, g3⟩ := misfit_ok f3
      rw [if_pos rfl, if_neg (by decide), g1, g2]
      refine Or.inr ⟨I3, M3, (by first | rfl | simp only [Option.bind_some, nr0, nr1, s_10, ↓reduceIte]), ?_, g3⟩
      try simp only [Option.bind_some, nr0, nr1, s_10, s_n10, s_n00, s_a, s_b, s_c, s_d, s_e, ↓reduceIte]
      unfold j_131_132
      rw [if_neg (bad_n0 g3).2.1]
    · rw [if_neg (ne1 r (by omega)), if_pos (nI_pos' (by omega))]
      obtain ⟨rr, rr0, g1, g2⟩ := reads_ok hP2 (nI g) (nI r)
      rw [g1, g2]
      rcases rr0 with rfl | rfl
      · obtain ⟨t1, t2, t3⟩ := tell_ok (I0 := I0) (M0 := M0) (I := I2) (M := M2) 5 p (by omega) f3.2.2.1.2.2.1 f3.2.2.2.1 f3.2.2.2.2
        try simp only [Option.bind_some, nr0, nr1, s_10, s_n10, s_n00, s_a, s_b, s_c, s_d, s_e, ↓reduceIte]
        rw [show g_45 5 (nI p) I2 = _ from t1, show g_123 5 (nI p) M2 = _ from t2]
        refine Or.inr ⟨_, _, (by first | rfl | simp only [Option.bind_some, nr0, nr1, s_10, ↓reduceIte]), ?_, t3⟩
        try simp only [Option.bind_some, nr0, nr1, s_10, s_n10, s_n00, s_a, s_b, s_c, s_d, s_e, ↓reduceIte]
        unfold j_131_132
        rw [if_neg (bad_n0 t3).2.1]
      · try simp only [Option.bind_some, nr0, nr1, s_10, s_n10, s_n00, s_a, s_b, s_c, s_d, s_e, ↓reduceIte]
        unfold j_131_132
        obtain ⟨k3, p3, q3, v3, I3, M3, h1, h2, h3, h4, h5⟩ := next_ok f3
        rw [show g_40 114 I2 = some (nI r) from z1, if_pos (by rw [f3.2.2.1.2.2.1]; decide), h2]
        try simp only [Option.bind_some, nr0, nr1, s_10, s_n10, s_n00, s_a, s_b, s_c, s_d, s_e, ↓reduceIte]
        rw [h1]
        exact val_ok h3 (PR_xx hP2 h4 h5) hm (fun z hz => ⟨r, z, (by first | rfl | simp only [Option.bind_some, nr0, nr1, s_10, ↓reduceIte]), (by first | rfl | simp only [Option.bind_some, nr0, nr1, s_10, ↓reduceIte]), hz, Or.inr ⟨g, hg, (by first | rfl | simp only [Option.bind_some, nr0, nr1, s_10, ↓reduceIte]), by omega⟩⟩)
  · rw [show g_42 58 I1 = _ from f1, show g_124 58 M1 = _ from f2]
    refine Or.inr ⟨I2, M2, (by first | rfl | simp only [Option.bind_some, nr0, nr1, s_10, ↓reduceIte]), ?_, f3⟩
    try simp only [Option.bind_some, nr0, nr1, s_10, s_n10, s_n00, s_a, s_b, s_c, s_d, s_e, ↓reduceIte]
    rw [if_neg (bad_n0 f3).2.1]
set_option maxHeartbeats 2000000 in
theorem term_ok {n : Nat} {b : Nat → Nat} {I0 M0 : Mem} {k p q v : Nat} {I M : Mem} {t a m c : Nat} {ow : Nat → Nat} (h : SL n b I0 M0 k p q v I M) (hP : PR t a m c ow I M) (ht : 1 ≤ t) : TRM n b I0 M0 t a m c ow (g_62 I) (g_131 M) := by
  have hb := hP.1
  obtain ⟨y, y1, y2, y3⟩ := t_place h.1 h.2.1
  obtain ⟨x, x1, x2, x3⟩ := t_named h.1 h.2.1 116 (by omega)
  obtain ⟨T1, T2, T3⟩ := tell_ok (I0 := I0) (M0 := M0) (I := I) (M := M) 4 p (by omega) h.2.2.1.2.2.1 h.2.2.2.1 h.2.2.2.2
  obtain ⟨F1, F2, F3⟩ := tell_ok (I0 := I0) (M0 := M0) (I := I) (M := M) 5 p (by omega) h.2.2.1.2.2.1 h.2.2.2.1 h.2.2.2.2
  obtain ⟨G1, G2, g1, g2, g3⟩ := misfit_ok h
  unfold g_62 g_131
  rw [y1, show g_120 116 M = some x from x2]
  try simp only [Option.bind_some, nr0, nr1, s_10, s_n10, s_n00, s_a, s_b, s_c, s_d, s_e, ↓reduceIte]
  rw [show g_40 116 I = some x from x1, y2, h.2.1.1, h.2.1.2.1, hP.2.2.2.1.1]
  try simp only [Option.bind_some, nr0, nr1, s_10, s_n10, s_n00, s_a, s_b, s_c, s_d, s_e, ↓reduceIte]
  have full : m = 16 → ∀ s r : Int32, j_131_37 s r (nI p) M = some (mm_up (mm_up M 20 3 (nI 4)) 20 4 (nI p)) := by
    intro h16 s r
    unfold j_131_37
    rw [if_pos (by rw [hP.2.2.2.1.2, h16]; rfl), show g_123 4 (nI p) M = _ from T2]
    exact bad_69 T3
  have room : m < 16 → ¬ M 20 8 = 16 := fun hm r => by rw [hP.2.2.2.1.2] at r; have := (nI_eq (b := 16) (by omega) (by omega)).mp r; omega
  have unfit : TRM n b I0 M0 t a m c ow ((g_44 I).bind (fun w16 => (nr .boolean w16.1 (some (w16.1, w16.2))))) (j_131_26 x (-1) (nI p) M) := by
    refine Or.inr ⟨G1, G2, ?_, ?_, g3⟩
    · rw [g1]; (first | rfl | simp only [Option.bind_some, nr0, nr1, s_10, ↓reduceIte])
    · unfold j_131_26
      rw [if_neg (by decide), g2]
      exact bad_69 g3
  rcases y3 with rfl | ⟨d, hd, rfl, k0, ql⟩
  · rw [if_pos rfl]
    rcases x3 with rfl | ⟨g, hg, rfl, _⟩
    · rw [if_pos rfl, if_pos (by decide)]
      exact unfit
    · rw [if_neg (ne1 g (by omega)), if_neg (nI_pos (by omega))]
      by_cases g4 : g < 4
      · rw [if_pos (show nI g < (4 : Int32) from k_lt (b := 4) (by rfl) (by rfl) g4 (by omega)), if_pos (show nI g < (4 : Int32) from k_lt (b := 4) (by rfl) (by rfl) g4 (by omega))]
        by_cases hm : m < 16
        · rw [if_pos (show nI m < (16 : Int32) from k_lt (b := 16) (by rfl) (by rfl) hm (by omega)), if_pos rfl]
          unfold j_131_37
          rw [if_neg (room hm), hP.2.1.2]
          by_cases hgt : g < t
          · rw [if_pos (nI_lt hgt (by omega))]
            exact reg_ok h hP hm g4 hgt
          · rw [if_neg (nI_nlt (by omega) (by omega)), show g_123 5 (nI p) M = _ from F2]
            refine Or.inr ⟨_, _, ?_, bad_69 F3, F3⟩
            unfold g_63
            rw [hP.2.1.1, if_neg (nI_nlt (by omega) (by omega)), h.2.1.1, show g_45 5 (nI p) I = _ from F1]
            first | rfl | simp only [Option.bind_some, nr0, nr1, s_10, ↓reduceIte]
        · rw [if_neg (show ¬ nI m < (16 : Int32) from k_nlt (b := 16) (by rfl) (by rfl) (by omega) (by omega)), show g_45 4 (nI p) I = _ from T1, full (by omega)]
          exact Or.inr ⟨_, _, (by first | rfl | simp only [Option.bind_some, nr0, nr1, s_10, ↓reduceIte]), (by first | rfl | simp only [Option.bind_some, nr0, nr1, s_10, ↓reduceIte]), T3⟩
      · rw [if_neg (show ¬ nI g < (4 : Int32) from k_nlt (b := 4) (by rfl) (by rfl) (by omega) (by omega)), if_neg (show ¬ nI g < (4 : Int32) from k_nlt (b := 4) (by rfl) (by rfl) (by omega) (by omega))]
        exact unfit
  · have ex : x = -1 := by
      rcases x3 with r | ⟨_, _, _, _, q2, _⟩
      · exact r
      · omega
    subst ex
    rw [if_neg (ne1 d (by omega)), if_pos (show (-1 : Int32) < 0 from by decide)]
    unfold j_131_26
    rw [if_pos (nI_pos' (by omega))]
    by_cases hm : m < 16
    · rw [if_pos (show nI m < (16 : Int32) from k_lt (b := 16) (by rfl) (by rfl) hm (by omega)), if_neg (ne1 d (by omega))]
      unfold j_131_37
      rw [if_neg (room hm), hP.2.1.2, if_pos (by
        have : (-1 : Int32).toInt = -1 := by decide
        rw [Int32.lt_iff_toInt_lt, this, nI_toInt (by omega)]
        omega)]
      unfold j_131_69
      obtain ⟨k1, p1, q1, v1, I1, M1, e1, e2, e3, e4, e5⟩ := next_ok h
      rw [if_pos (by rw [h.2.2.1.2.2.1]; decide), e1, e2]
      try simp only [Option.bind_some, nr0, nr1, s_10, s_n10, s_n00, s_a, s_b, s_c, s_d, s_e, ↓reduceIte]
      exact val_ok e3 (PR_xx hP e4 e5) hm (fun z hz => ⟨d, z, (by first | rfl | simp only [Option.bind_some, nr0, nr1, s_10, ↓reduceIte]), (by first | rfl | simp only [Option.bind_some, nr0, nr1, s_10, ↓reduceIte]), hz, Or.inl ⟨rfl, hd⟩⟩)
    · rw [if_neg (show ¬ nI m < (16 : Int32) from k_nlt (b := 16) (by rfl) (by rfl) (by omega) (by omega)), show g_45 4 (nI p) I = _ from T1, full (by omega)]
      exact Or.inr ⟨_, _, (by first | rfl | simp only [Option.bind_some, nr0, nr1, s_10, ↓reduceIte]), (by first | rfl | simp only [Option.bind_some, nr0, nr1, s_10, ↓reduceIte]), T3⟩
/-- what a text comes to: its fault, or its program -/
def GOOD (n : Nat) (b : Nat → Nat) (I0 M0 : Mem) (I M : Mem) : Prop := ∃ (k p q v t a m c : Nat) (ow : Nat → Nat), SL n b I0 M0 k p q v I M ∧ PR t a m c ow I M ∧ 1 ≤ t
def CND (n : Nat) (b : Nat → Nat) (I0 M0 : Mem) (C : Option (Int32 × Mem)) (N : Option Mem) : Prop := (∃ I' M', C = some (0, I') ∧ N = some M' ∧ BAD I0 M0 I' M') ∨ (∃ I1 I' M', C = some (1, I1) ∧ g_66 I1 = some (0, I') ∧ N = some M' ∧ BAD I0 M0 I' M') ∨ (∃ I1 M', C = some (1, I1) ∧ g_66 I1 = some (1, I1) ∧ N = some M' ∧ GOOD n b I0 M0 I1 M')
theorem bad_85 {I0 M0 I M : Mem} {f : Nat} (h : BAD I0 M0 I M) : l_114_85 (f + 1) M = some M := by
  rw [l_114_85, if_neg (bad_n0 h).1, if_neg (bad_n0 h).1, if_neg (bad_n0 h).1]
/-- the end of the text -/
theorem end_ok {n : Nat} {b : Nat → Nat} {I0 M0 : Mem} {k p q v : Nat} {I M : Mem} {t a m c : Nat} {ow : Nat → Nat} (h : SL n b I0 M0 k p q v I M) (hP : PR t a m c ow I M) (ht : 1 ≤ t) : (∃ I' M', g_66 I = some (0, I') ∧ (if M 20 17 = 0 then some M else (g_122 M).bind (fun w => some w)) = some M' ∧ BAD I0 M0 I' M') ∨ (g_66 I = some (1, I) ∧ (if M 20 17 = 0 then some M else (g_122 M).bind (fun w => some w)) = some M ∧ GOOD n b I0 M0 I M) := by
  unfold g_66
  rcases lx_4 h.2.1 with ⟨_, a1, a2⟩ | ⟨_, a1, a2⟩
  · rw [if_pos a1, if_pos a2]
    exact Or.inr ⟨rfl, (by first | rfl | simp only [Option.bind_some, nr0, nr1, s_10, ↓reduceIte]), k, p, q, v, t, a, m, c, ow, h, hP, ht⟩
  · rw [if_neg a1, if_neg a2]
    obtain ⟨I', M', e1, e2, e3⟩ := misfit_ok h
    rw [e1, e2]
    exact Or.inl ⟨I', M', (by first | rfl | simp only [Option.bind_some, nr0, nr1, s_10, ↓reduceIte]), (by first | rfl | simp only [Option.bind_some, nr0, nr1, s_10, ↓reduceIte]), e3⟩
set_option maxHeartbeats 2000000 in
theorem terms_ok {n : Nat} {b : Nat → Nat} {I0 M0 : Mem} {t a c : Nat} {ow : Nat → Nat} (ht : 1 ≤ t) : ∀ (d m y f f' : Nat) (k p q v : Nat) (I M : Mem), m + d = 17 → d < f → d + 1 < f' → y ≤ m → m ≤ 16 → SL n b I0 M0 k p q v I M → PR t a m c ow I M → CND n b I0 M0 (l_61_68 f (nI y) I) (Option.bind (g_131 M) (l_114_85 f')) := by
  intro d
  induction d with
  | zero => intro m y f f' k p q v I M h1 _ _ _ h2; omega
  | succ d ih =>
    intro m y f f' k p q v I M hd hf hf' hy hm h hP
    obtain ⟨f, rfl⟩ : ∃ m', f = m' + 1 := ⟨f - 1, by omega⟩
    obtain ⟨f', rfl⟩ : ∃ m', f' = m' + 1 := ⟨f' - 1, by omega⟩
    rw [l_61_68, if_neg (k_nlt (a := 16) (by rfl) (by rfl) (by omega) (by omega))]
    rcases term_ok h hP ht with ⟨k1, p1, q1, v1, I1, M1, e1, e2, e3, e4, e5⟩ | ⟨I1, M1, e1, e2, e3⟩
    · rw [e1, e2]
      try simp only [Option.bind_some, nr0, nr1, s_10, s_n10, s_n00, s_a, s_b, s_c, s_d, s_e, ↓reduceIte]
      rw [l_114_85, if_pos e3.2.2.1.2.2.1]
      rcases t_sign e3.1 e3.2.1 38 (by omega) with ⟨a1, a2⟩ | ⟨a1, a2⟩
      · obtain ⟨k2, p2, q2, v2, I2, M2, f1, f2, f3, f4, f5⟩ := next_ok e3
        rw [show g_43 38 I1 = some 1 from a2, if_pos (show M1 20 17 = 38 from a1), f2]
        try simp only [Option.bind_some, nr0, nr1, s_10, s_n10, s_n00, s_a, s_b, s_c, s_d, s_e, ↓reduceIte]
        rw [f1]
        try simp only [Option.bind_some, nr0, nr1, s_10, s_n10, s_n00, s_a, s_b, s_c, s_d, s_e, ↓reduceIte]
        rw [nI_1]
        exact ih (m + 1) (y + 1) f f' k2 p2 q2 v2 I2 M2 (by omega) (by omega) (by omega) (by omega) (by omega) f3 (PR_xx e4 f4 f5)
      · rw [show g_43 38 I1 = some 0 from a2, if_neg (show ¬ M1 20 17 = 38 from a1), if_pos e3.2.2.1.2.2.1]
        try simp only [Option.bind_some, nr0, nr1, s_10, s_n10, s_n00, s_a, s_b, s_c, s_d, s_e, ↓reduceIte]
        rcases take_ok e3 41 (by omega) with ⟨k2, p2, q2, v2, I2, M2, f1, f2, f3, f4, f5⟩ | ⟨I2, M2, f1, f2, f3⟩
        · rw [show g_42 41 I1 = _ from f1, show g_124 41 M1 = _ from f2]
          have c1 : Option.bind (some ((1 : Int32), I2)) (fun w8 : Int32 × Mem => nr .boolean w8.1 (some (w8.1, w8.2))) = some (1, I2) := by simp only [Option.bind_some, nr1]
          rw [c1]
          try simp only [Option.bind_some, nr0, nr1, s_10, s_n10, s_n00, s_a, s_b, s_c, s_d, s_e, ↓reduceIte]
          rw [if_pos f3.2.2.1.2.2.1]
          rcases end_ok f3 (PR_xx e4 f4 f5) ht with ⟨I3, M3, g1, g2, g3⟩ | ⟨g1, g2, g3⟩
          · exact Or.inr (Or.inl ⟨I2, I3, M3, (by first | rfl | simp only [Option.bind_some, nr0, nr1, s_10, ↓reduceIte]), g1, g2, g3⟩)
          · exact Or.inr (Or.inr ⟨I2, M2, (by first | rfl | simp only [Option.bind_some, nr0, nr1, s_10, ↓reduceIte]), g1, g2, g3⟩)
        · rw [show g_42 41 I1 = _ from f1, show g_124 41 M1 = _ from f2]
          refine Or.inl ⟨I2, M2, (by first | rfl | simp only [Option.bind_some, nr0, nr1, s_10, ↓reduceIte]), ?_, f3⟩
          try simp only [Option.bind_some, nr0, nr1, s_10, s_n10, s_n00, s_a, s_b, s_c, s_d, s_e, ↓reduceIte]
          rw [if_neg (bad_n0 f3).1]
    · rw [e1, e2]
      exact Or.inl ⟨I1, M1, (by first | rfl | simp only [Option.bind_some, nr0, nr1, s_10, ↓reduceIte]), bad_85 e3, e3⟩
/-- the condition, behind its word -/
theorem cond_ok {n : Nat} {b : Nat → Nat} {I0 M0 : Mem} {k p q v : Nat} {I M : Mem} {t a : Nat} {ow : Nat → Nat} (h : SL n b I0 M0 k p q v I M) (hP : PR t a 0 0 ow I M) (ht : 1 ≤ t) (x : Nat) (hx : x = 1 ∨ x = 2) : CND n b I0 M0 ((g_34 (mm_up I 4 3 (nI x))).bind (fun w3 => ((g_42 (40 : Int32) w3).bind (fun w4 => (if w4.1 = 0 then (some ((0 : Int32), w4.2)) else (l_61_68 5000 (0 : Int32) w4.2)))))) ((g_115 (mm_up M 20 9 (nI x))).bind (fun w4 => ((g_124 (40 : Int32) w4).bind (fun w5 => (if (w5 20 3) = 0 then ((g_131 w5).bind (fun w6 => (l_114_85 5000 w6))) else (l_114_85 5000 w5)))))) := by
  have hS1 : SL n b I0 M0 k p q v (mm_up I 4 3 (nI x)) (mm_up M 20 9 (nI x)) := SL_m (SL_c h (fun z hz => mm_up_ne (by omega))) (fun z hz => mm_up_ne (by omega)) (fun z hz => up_other (by omega))
  have hP1 : PR t a 0 x ow (mm_up I 4 3 (nI x)) (mm_up M 20 9 (nI x)) := by
    obtain ⟨p0, p1, p2, p3, p4, p5, p6, p7⟩ := hP
    exact ⟨⟨p0.1, p0.2.1, p0.2.2.1, by omega⟩, p1, p2, p3, ⟨rfl, rfl⟩, p5, p6, p7⟩
  obtain ⟨k1, p1, q1, v1, I1, M1, e1, e2, e3, e4, e5⟩ := next_ok hS1
  have hP2 := PR_xx hP1 e4 e5
  rw [e1, e2]
  try simp only [Option.bind_some, nr0, nr1, s_10, s_n10, s_n00, s_a, s_b, s_c, s_d, s_e, ↓reduceIte]
  rcases take_ok e3 40 (by omega) with ⟨k2, p2, q2, v2, I2, M2, f1, f2, f3, f4, f5⟩ | ⟨I2, M2, f1, f2, f3⟩
  · rw [show g_42 40 I1 = _ from f1, show g_124 40 M1 = _ from f2]
    try simp only [Option.bind_some, nr0, nr1, s_10, s_n10, s_n00, s_a, s_b, s_c, s_d, s_e, ↓reduceIte]
    rw [if_pos f3.2.2.1.2.2.1]
    exact terms_ok ht 17 0 0 5000 5000 k2 p2 q2 v2 I2 M2 (by omega) (by omega) (by omega) (Nat.le_refl _) (by omega) f3 (PR_xx hP2 f4 f5)
  · rw [show g_42 40 I1 = _ from f1, show g_124 40 M1 = _ from f2]
    refine Or.inl ⟨I2, M2, (by first | rfl | simp only [Option.bind_some, nr0, nr1, s_10, ↓reduceIte]), ?_, f3⟩
    try simp only [Option.bind_some, nr0, nr1, s_10, s_n10, s_n00, s_a, s_b, s_c, s_d, s_e, ↓reduceIte]
    rw [if_neg (bad_n0 f3).1]
    exact bad_85 (f := 4999) f3
/-- the whole text, from the class's threads on -/
def OUTC (n : Nat) (b : Nat → Nat) (I0 M0 : Mem) (C : Option (Int32 × Mem)) (N : Option Mem) : Prop := (∃ I' M', C = some (0, I') ∧ N = some M' ∧ BAD I0 M0 I' M') ∨ (∃ I1, C = some (1, I1) ∧ CND n b I0 M0 (g_61 I1) N)
theorem bad_13 {I0 M0 I M : Mem} {f : Nat} (h : BAD I0 M0 I M) : l_114_13 (f + 1) M = some M := by
  rw [l_114_13, if_neg (bad_n0 h).1, if_pos (bad_n0 h).2.2]
/-- what stands behind a thread: the end, a condition, a thread more, or a fault -/
theorem g61_no {n : Nat} {b : Nat → Nat} {I0 M0 : Mem} {k p q v : Nat} {I M : Mem} (e6 : g_47_s6 I = some 0) (e7 : g_47_s7 I = some 0) : g_61 I = some (1, I) := by
  unfold g_61
  rw [e6, Option.bind_some, if_pos rfl, e7, Option.bind_some, if_pos rfl]
set_option maxHeartbeats 4000000 in
theorem rest_ok {n : Nat} {b : Nat → Nat} {I0 M0 : Mem} {k p q v : Nat} {I M : Mem} {t a f' : Nat} {ow : Nat → Nat} (h : SL n b I0 M0 k p q v I M) (hP : PR t a 0 0 ow I M) (ht : 1 ≤ t) (x : Int32) (hx : g_120 116 M = some x) (hxq : x = -1 ∨ q - p = 2) (ne : ¬ x = nI t) : CND n b I0 M0 (g_61 I) (l_114_13 (f' + 2) M) := by
  have h3 := h.2.2.1.2.2.1
  rw [l_114_13, if_pos h3]
  rcases lx_4 h.2.1 with ⟨k4, a1, a2⟩ | ⟨k4, a1, a2⟩
  · rw [if_pos a2, if_neg (by rw [h3]; decide), if_pos a2]
    have w : g_47_s6 I = some 0 ∧ g_47_s7 I = some 0 := by
      have h0 : k ≠ 0 := by omega
      constructor
      · rcases tw_6 h.1 h.2.1 with ⟨w, _⟩ | ⟨_, e⟩
        · exact absurd w.1 h0
        · exact e
      · rcases tw_7 h.1 h.2.1 with ⟨w, _⟩ | ⟨_, e⟩
        · exact absurd w.1 h0
        · exact e
    refine Or.inr (Or.inr ⟨I, M, g61_no (n := n) (b := b) (I0 := I0) (M0 := M0) (k := k) (p := p) (q := q) (v := v) (M := M) w.1 w.2, ?_, rfl, k, p, q, v, t, a, 0, 0, ow, h, hP, ht⟩)
    unfold g_66
    rw [if_pos a1]
  · rw [if_neg a2]
    rcases t_cond h.1 h.2.1 with ⟨e6, eg, ql⟩ | ⟨e6, e7, eg, ql⟩ | ⟨e6, e7, eg⟩
    · have r := cond_ok h hP ht 1 (Or.inl rfl)
      have c : g_61 I = ((g_34 (mm_up I 4 3 (nI 1))).bind (fun w3 => ((g_42 (40 : Int32) w3).bind (fun w4 => (if w4.1 = 0 then (some ((0 : Int32), w4.2)) else (l_61_68 5000 (0 : Int32) w4.2)))))) := by
        unfold g_61
        rw [e6, Option.bind_some, if_neg (by decide)]
        rfl
      rw [c, eg, Option.bind_some, if_neg (by decide), if_neg (by rw [h3]; decide), if_neg a2, Option.bind_some]
      exact r
    · have r := cond_ok h hP ht 2 (Or.inr rfl)
      have c : g_61 I = ((g_34 (mm_up I 4 3 (nI 2))).bind (fun w3 => ((g_42 (40 : Int32) w3).bind (fun w4 => (if w4.1 = 0 then (some ((0 : Int32), w4.2)) else (l_61_68 5000 (0 : Int32) w4.2)))))) := by
        unfold g_61
        rw [e6, Option.bind_some, if_pos rfl, e7, Option.bind_some, if_neg (by decide)]
        rfl
      rw [c, eg, Option.bind_some, if_neg (by decide), if_neg (by rw [h3]; decide), if_neg a2, Option.bind_some]
      exact r
    · obtain ⟨I', M', g1, g2, g3⟩ := misfit_ok h
      rw [eg, Option.bind_some, if_pos rfl, g61_no (n := n) (b := b) (I0 := I0) (M0 := M0) (k := k) (p := p) (q := q) (v := v) (M := M) e6 e7]
      have g66 : g_66 I = some (0, I') := by
        unfold g_66
        rw [if_neg a1, g1]
        rfl
      refine Or.inr (Or.inl ⟨I, I', M', rfl, g66, ?_, g3⟩)
      unfold g_119
      rw [hx, Option.bind_some, hP.2.1.2, if_neg ne, g2, Option.bind_some, if_neg (bad_n0 g3).2.1, Option.bind_some]
      exact bad_13 g3
/-- a thread more, in the reference -/
theorem g119_in {n : Nat} {b : Nat → Nat} {I0 M0 : Mem} {k p q v : Nat} {I M : Mem} {t a m c : Nat} {ow : Nat → Nat} (h : SL n b I0 M0 k p q v I M) (hP : PR t a m c ow I M) (ht : t < 4) (hx : g_120 116 M = some (nI t)) : g_119 M = Option.bind (g_115 M) (fun w2 => Option.bind (g_124 58 w2) (fun w3 => l_119_64 5000 (nI t) (mm_up w3 20 6 (w3 20 6 + 1)))) := by
  unfold g_119
  rw [hx, Option.bind_some, hP.2.1.2, if_pos rfl, if_neg (show ¬ nI t = (4 : Int32) from fun r => by have := (nI_eq (b := 4) (by omega) (by omega)).mp r; omega), if_pos (by rw [h.2.2.1.2.2.1]; decide)]
/-- the lexeme is a word, no end and no condition: the reference's loop takes a thread -/
theorem l13_thr {n : Nat} {b : Nat → Nat} {I0 M0 : Mem} {k p q v : Nat} {I M : Mem} {f' : Nat} {x : Nat} (h : SL n b I0 M0 k p q v I M) (hk : k = 0) (ql : q - p = 2) : l_114_13 (f' + 1) M = Option.bind (g_119 M) (l_114_13 f') := by
  rw [l_114_13, if_pos h.2.2.1.2.2.1]
  rcases lx_4 h.2.1 with ⟨k4, _, _⟩ | ⟨_, _, a2⟩
  · omega
  · rw [if_neg a2]
    rcases t_cond h.1 h.2.1 with ⟨_, _, q6⟩ | ⟨_, _, _, q6⟩ | ⟨_, _, eg⟩
    · omega
    · omega
    · rw [eg, Option.bind_some, if_pos rfl]
set_option maxHeartbeats 4000000 in
theorem threads_ok {n : Nat} {b : Nat → Nat} {I0 M0 : Mem} : ∀ (d t f f' : Nat) (a : Nat) (ow : Nat → Nat) (k p q v : Nat) (I M : Mem), t + d = 4 → 1 ≤ t → d < f → d + 2 < f' → SL n b I0 M0 k p q v I M → PR t a 0 0 ow I M → OUTC n b I0 M0 (l_39_2 f (nI t) I) (l_114_13 f' M) := by
  intro d
  induction d with
  | zero =>
    intro t f f' a ow k p q v I M hd ht hf hf' h hP
    obtain ⟨f, rfl⟩ : ∃ m', f = m' + 1 := ⟨f - 1, by omega⟩
    obtain ⟨f', rfl⟩ : ∃ m', f' = m' + 2 := ⟨f' - 2, by omega⟩
    have t4 : t = 4 := by omega
    subst t4
    obtain ⟨x, x1, x2, x3⟩ := t_named h.1 h.2.1 116 (by omega)
    have e60 := g60_ok hP
    rw [if_neg (by omega)] at e60
    have eC : l_39_2 (f + 1) (nI 4) I = (if x = 4 then ((g_45 (4 : Int32) (I 2 3) I).bind (fun w3 => (nr .boolean w3.1 (some (w3.1, w3.2))))) else some (1, I)) := by
      rw [l_39_2, if_pos (by decide), e60, Option.bind_some, if_pos rfl, if_pos (show I 4 0 = (4 : Int32) from hP.2.1.1), show g_40 116 I = some x from x1, Option.bind_some]
    rw [eC]
    by_cases e4 : x = 4
    · rw [if_pos e4]
      obtain ⟨t1, t2, t3⟩ := tell_ok (I0 := I0) (M0 := M0) (I := I) (M := M) 4 p (by omega) h.2.2.1.2.2.1 h.2.2.2.1 h.2.2.2.2
      rcases x3 with r | ⟨g, _, _, k0, ql, _⟩
      · rw [r] at e4; exact absurd e4 (by decide)
      · refine Or.inl ⟨_, _, ?_, ?_, t3⟩
        · rw [h.2.1.1, show g_45 4 (nI p) I = _ from t1, Option.bind_some, nr0]
        · rw [l13_thr (x := 0) h k0 ql]
          unfold g_119
          rw [show g_120 116 M = some x from x2, Option.bind_some, hP.2.1.2, if_pos (show x = nI 4 from e4), if_pos e4, h.2.1.2.1, show g_123 4 (nI p) M = _ from t2, Option.bind_some, if_neg (bad_n0 t3).2.1, Option.bind_some]
          exact bad_13 t3
    · rw [if_neg e4]
      exact Or.inr ⟨I, rfl, rest_ok h hP ht x x2 (x3.elim Or.inl (fun ⟨_, _, _, _, ql, _⟩ => Or.inr ql)) e4⟩
  | succ d ih =>
    intro t f f' a ow k p q v I M hd ht hf hf' h hP
    obtain ⟨f, rfl⟩ : ∃ m', f = m' + 1 := ⟨f - 1, by omega⟩
    obtain ⟨f', rfl⟩ : ∃ m', f' = m' + 2 := ⟨f' - 2, by omega⟩
    obtain ⟨x, x1, x2, x3⟩ := t_named h.1 h.2.1 116 (by omega)
    have e60 := g60_ok hP
    rw [if_neg (by omega)] at e60
    have n4 : ¬ I 4 0 = 4 := by rw [hP.2.1.1]; exact fun r => by have := (nI_eq (b := 4) (by omega) (by omega)).mp r; omega
    have eC : l_39_2 (f + 1) (nI t) I = (if x = nI t then ((g_41 I).bind (fun w10 => (if w10.1 = 0 then (some ((0 : Int32), w10.2)) else (l_39_2 f (nI (t + 1)) w10.2)))) else some (1, I)) := by
      rw [l_39_2, if_neg (k_ge (b := 4) (by rfl) (by rfl) (by omega) (by omega)), show g_40 116 I = some x from x1, Option.bind_some, nI_1, e60, Option.bind_some, if_pos (show (0 : Int32) = 0 from rfl), if_neg n4]
    rw [eC]
    by_cases ex : x = nI t
    · rw [if_pos ex]
      subst ex
      have kq : k = 0 ∧ q - p = 2 := by
        rcases x3 with r | ⟨_, _, _, k0, ql, _⟩
        · exact absurd r (ne1 t (by omega))
        · exact ⟨k0, ql⟩
      rw [l13_thr (x := 0) h kq.1 kq.2, g119_in h hP (by omega) x2]
      rcases thread_ok h hP (by omega) with ⟨k', p', q', v', a', ow', I', M', e1, e2, e3, e4⟩ | ⟨I', M', e1, e2, e3⟩
      · rw [e1, e2]
        simp only [Option.bind_some, s_10, ↓reduceIte]
        exact ih (t + 1) f (f' + 1) a' ow' k' p' q' v' I' M' (by omega) (by omega) (by omega) (by omega) e3 e4
      · rw [e1, e2]
        simp only [Option.bind_some, s_10, ↓reduceIte]
        exact Or.inl ⟨I', M', rfl, bad_13 e3, e3⟩
    · rw [if_neg ex]
      exact Or.inr ⟨I, rfl, rest_ok h hP ht x x2 (x3.elim Or.inl (fun ⟨_, _, _, _, ql, _⟩ => Or.inr ql)) ex⟩
theorem start_ok {n : Nat} {b : Nat → Nat} {I0 M0 : Mem} {k p q v : Nat} {I M : Mem} {ow : Nat → Nat} (h : SL n b I0 M0 k p q v I M) (hP : PR 0 0 0 0 ow I M) : OUTC n b I0 M0 (g_39 I) ((g_119 M).bind (fun w2 => l_114_13 5000 w2)) := by
  obtain ⟨x, x1, x2, x3⟩ := t_named h.1 h.2.1 116 (by omega)
  have e60 := g60_ok hP
  rw [if_pos rfl] at e60
  have eC : g_39 I = (if x = nI 0 then ((g_41 I).bind (fun w10 => (if w10.1 = 0 then (some ((0 : Int32), w10.2)) else (l_39_2 4999 (nI (0 + 1)) w10.2)))) else ((g_44 I).bind (fun w9 => (nr .boolean w9.1 (some (w9.1, w9.2)))))) := by
    have eF : ∀ f, l_39_2 (f + 1) (nI 0) I = (if x = nI 0 then ((g_41 I).bind (fun w10 => (if w10.1 = 0 then (some ((0 : Int32), w10.2)) else (l_39_2 f (nI (0 + 1)) w10.2)))) else ((g_44 I).bind (fun w9 => (nr .boolean w9.1 (some (w9.1, w9.2)))))) := by
      intro f
      rw [l_39_2, if_neg (by decide), show g_40 116 I = some x from x1, Option.bind_some, nI_1, e60, Option.bind_some, if_neg (show ¬ (1 : Int32) = 0 from by decide)]
    exact eF 4999
  rw [eC]
  by_cases ex : x = nI 0
  · rw [if_pos ex]
    subst ex
    rw [g119_in h hP (by omega) x2]
    rcases thread_ok h hP (by omega) with ⟨k', p', q', v', a', ow', I', M', e1, e2, e3, e4⟩ | ⟨I', M', e1, e2, e3⟩
    · rw [e1, e2]
      simp only [Option.bind_some, s_10, ↓reduceIte]
      exact threads_ok 3 1 4999 5000 a' ow' k' p' q' v' I' M' (by omega) (by omega) (by omega) (by omega) e3 e4
    · rw [e1, e2]
      simp only [Option.bind_some, s_10, ↓reduceIte]
      exact Or.inl ⟨I', M', rfl, bad_13 (f := 4999) e3, e3⟩
  · rw [if_neg ex]
    obtain ⟨I', M', g1, g2, g3⟩ := misfit_ok h
    refine Or.inl ⟨I', M', ?_, ?_, g3⟩
    · rw [g1, Option.bind_some, nr0]
    · unfold g_119
      rw [show g_120 116 M = some x from x2, Option.bind_some, hP.2.1.2, if_neg ex, g2, Option.bind_some, if_neg (bad_n0 g3).2.1, Option.bind_some]
      exact bad_13 (f := 4999) g3
end MMAI
