/-! THE PAIR read, 2: what both sides ask of a lexeme (written by wip/whole/gen/test_part.py). -/
section MMAG
theorem cS_b {b : Nat} (h : cS b = true) : 38 ≤ b ∧ b ≤ 61 := by
  unfold cS at h
  have := of_decide_eq_true h
  omega
theorem lx_0 {n : Nat} {b : Nat → Nat} {k p q v : Nat} {I M : Mem} (h : LX n b k p q v I M) : (k = 0 ∧ I 2 2 = 0 ∧ M 20 17 = 1 ∧ p < q ∧ cL (b p) = true) ∨ (k ≠ 0 ∧ ¬ I 2 2 = 0 ∧ ¬ M 20 17 = 1) := by
  obtain ⟨_, _, _, _, _, _, h | ⟨a1, a2, a3, _⟩ | ⟨a1, a2, _, a3, a4⟩ | ⟨a1, a2, a3⟩ | ⟨a1, a2, a3⟩⟩ := h
  · exact Or.inl h
  · exact Or.inr ⟨by omega, by rw [a2]; decide, by rw [a3]; decide⟩
  · have := cS_b a4
    exact Or.inr ⟨by omega, by rw [a2]; decide, by rw [a3]; exact fun q => by have := (nI_eq (b := 1) (by omega) (by omega)).mp q; omega⟩
  · exact Or.inr ⟨by omega, by rw [a2]; decide, by rw [a3]; decide⟩
  · exact Or.inr ⟨by omega, by rw [a2]; decide, by rw [a3]; decide⟩
theorem lx_1 {n : Nat} {b : Nat → Nat} {k p q v : Nat} {I M : Mem} (h : LX n b k p q v I M) : (I 2 2 = 1 ∧ M 20 17 = 2 ∧ v ≤ 999 ∧ I 2 5 = nI (if 100 < v then 100 else v) ∧ M 20 20 = nI v) ∨ (¬ I 2 2 = 1 ∧ ¬ M 20 17 = 2) := by
  obtain ⟨_, _, _, _, _, _, ⟨a1, a2, a3, _⟩ | ⟨a1, a2, a3, a4⟩ | ⟨a1, a2, _, a3, a4⟩ | ⟨a1, a2, a3⟩ | ⟨a1, a2, a3⟩⟩ := h
  · exact Or.inr ⟨by rw [a2]; decide, by rw [a3]; decide⟩
  · exact Or.inl ⟨a2, a3, a4⟩
  · have := cS_b a4
    exact Or.inr ⟨by rw [a2]; decide, by rw [a3]; exact fun q => by have := (nI_eq (b := 2) (by omega) (by omega)).mp q; omega⟩
  · exact Or.inr ⟨by rw [a2]; decide, by rw [a3]; decide⟩
  · exact Or.inr ⟨by rw [a2]; decide, by rw [a3]; decide⟩
theorem lx_3 {n : Nat} {b : Nat → Nat} {k p q v : Nat} {I M : Mem} (h : LX n b k p q v I M) : (I 2 2 = 3 ∧ M 20 17 = 3) ∨ (¬ I 2 2 = 3 ∧ ¬ M 20 17 = 3) := by
  obtain ⟨_, _, _, _, _, _, ⟨a1, a2, a3, _⟩ | ⟨a1, a2, a3, a4⟩ | ⟨a1, a2, _, a3, a4⟩ | ⟨a1, a2, a3⟩ | ⟨a1, a2, a3⟩⟩ := h
  · exact Or.inr ⟨by rw [a2]; decide, by rw [a3]; decide⟩
  · exact Or.inr ⟨by rw [a2]; decide, by rw [a3]; decide⟩
  · have := cS_b a4
    exact Or.inr ⟨by rw [a2]; decide, by rw [a3]; exact fun q => by have := (nI_eq (b := 3) (by omega) (by omega)).mp q; omega⟩
  · exact Or.inl ⟨a2, a3⟩
  · exact Or.inr ⟨by rw [a2]; decide, by rw [a3]; decide⟩
theorem lx_4 {n : Nat} {b : Nat → Nat} {k p q v : Nat} {I M : Mem} (h : LX n b k p q v I M) : (k = 4 ∧ I 2 2 = 4 ∧ M 20 17 = 0) ∨ (k ≠ 4 ∧ ¬ I 2 2 = 4 ∧ ¬ M 20 17 = 0) := by
  obtain ⟨_, _, _, _, _, _, ⟨a1, a2, a3, _⟩ | ⟨a1, a2, a3, a4⟩ | ⟨a1, a2, _, a3, a4⟩ | ⟨a1, a2, a3⟩ | ⟨a1, a2, a3⟩⟩ := h
  · exact Or.inr ⟨by omega, by rw [a2]; decide, by rw [a3]; decide⟩
  · exact Or.inr ⟨by omega, by rw [a2]; decide, by rw [a3]; decide⟩
  · have := cS_b a4
    exact Or.inr ⟨by omega, by rw [a2]; decide, by rw [a3]; exact nI_ne0 (by omega) (by omega)⟩
  · exact Or.inr ⟨by omega, by rw [a2]; decide, by rw [a3]; decide⟩
  · exact Or.inl ⟨a1, a2, a3⟩
/-- a sign -/
theorem t_sign {n : Nat} {b : Nat → Nat} {k p q v : Nat} {I M : Mem} (hT : TX n b I M) (h : LX n b k p q v I M) (c : Nat) (hc : 38 ≤ c ∧ c < 128) : (M 20 17 = nI c ∧ g_43 (nI c) I = some 1) ∨ (¬ M 20 17 = nI c ∧ g_43 (nI c) I = some 0) := by
  have hn := hT.1
  have sm : ∀ d, d < 4 → ¬ nI d = nI c := fun d hd q => by have := (nI_eq (by omega) (by omega)).mp q; omega
  unfold g_43
  obtain ⟨h1, h2, h3, h4, h5, h6, ⟨a1, a2, a3, _⟩ | ⟨a1, a2, a3, a4⟩ | ⟨a1, a2, a0, a3, a4⟩ | ⟨a1, a2, a3⟩ | ⟨a1, a2, a3⟩⟩ := h
  · exact Or.inr ⟨by rw [a3]; exact sm 1 (by omega), by rw [if_neg (by rw [a2]; decide)]⟩
  · exact Or.inr ⟨by rw [a3]; exact sm 2 (by omega), by rw [if_neg (by rw [a2]; decide)]⟩
  · obtain ⟨b1, b2, b3⟩ := hT.2.2.2 p a0
    rw [if_pos a2, hT.2.1, h1, if_neg (nI_ge a0 (by omega)), ix_nI (by omega) (by omega), b2, a3]
    by_cases e : b p = c
    · exact Or.inl ⟨by rw [e], by rw [if_pos ((sg_eq b1 (by omega)).mpr e)]⟩
    · exact Or.inr ⟨fun q => e ((nI_eq (by omega) (by omega)).mp q), by rw [if_neg (fun q => e ((sg_eq b1 (by omega)).mp q))]⟩
  · exact Or.inr ⟨by rw [a3]; exact sm 3 (by omega), by rw [if_neg (by rw [a2]; decide)]⟩
  · exact Or.inr ⟨by rw [a3]; exact sm 0 (by omega), by rw [if_neg (by rw [a2]; decide)]⟩
theorem g121_ok {n : Nat} {b : Nat → Nat} {k p q v : Nat} {I M : Mem} (h : LX n b k p q v I M) (hn : n ≤ 2048) (L : Nat) (hL : L < 100) : (k = 0 ∧ q - p = L ∧ g_121 (nI L) M = some 1) ∨ (¬ (k = 0 ∧ q - p = L) ∧ g_121 (nI L) M = some 0) := by
  have h0 := lx_0 h
  obtain ⟨h1, h2, h3, h4, h5, h6, _⟩ := h
  unfold g_121
  rcases h0 with ⟨k0, _, a3, _⟩ | ⟨k0, _, a3⟩
  · rw [if_pos a3, h4, h2, pk_sub (a := q) (b := p) h5]
    by_cases e : q - p = L
    · exact Or.inl ⟨k0, e, by rw [if_pos (by rw [e])]⟩
    · exact Or.inr ⟨fun r => e r.2, by rw [if_neg (fun r => e ((nI_eq (by omega) (by omega)).mp r))]⟩
  · exact Or.inr ⟨fun r => k0 r.1, by rw [if_neg a3]⟩
/-- a letter and a digit -/
theorem t_named {n : Nat} {b : Nat → Nat} {k p q v : Nat} {I M : Mem} (hT : TX n b I M) (h : LX n b k p q v I M) (c : Nat) (hc : c < 128) : ∃ x, g_40 (nI c) I = some x ∧ g_120 (nI c) M = some x ∧ ((x = -1) ∨ ∃ d, d < 10 ∧ x = nI d ∧ k = 0 ∧ q - p = 2 ∧ b p = c) := by
  have hn := hT.1
  have h0 := lx_0 h
  have e121 := g121_ok h hn 2 (by omega)
  obtain ⟨h1, h2, h3, h4, h5, h6, _⟩ := h
  unfold g_40 g_120
  rcases e121 with ⟨k0, ql, e1⟩ | ⟨nk, e1⟩
  · have a2 : I 2 2 = 0 := by
      rcases h0 with ⟨_, a, _⟩ | ⟨k1, _⟩
      · exact a
      · exact absurd k0 k1
    obtain ⟨b1, b2, b3⟩ := hT.2.2.2 p (by omega)
    obtain ⟨d1, d2, d3⟩ := hT.2.2.2 (p + 1) (by omega)
    rw [if_pos a2, h3, h1, pk_sub (a := q) (b := p) h5, if_pos (show nI (q - p) = (2 : Int32) from by rw [ql]; rfl), hT.2.1, if_neg (nI_nlt h6 (by omega)), ix_nI (by omega) (by omega), b2, nI_1, ix_nI (by omega) (by omega), ix_nI (by omega) (by omega), d2, g36_ok d1]
    rw [show g_121 2 M = some 1 from e1]
    try simp only [Option.bind_some, nr0, nr1, s_10, s_n10, s_n00, s_a, s_b, s_c, s_d, s_e, ↓reduceIte]
    rw [h2, ix_nI (by omega) (by omega), b3, nI_1, ix_nI (by omega) (by omega), ix_nI (by omega) (by omega), d3, g118_ok d1]
    by_cases e : b p = c
    · rw [if_pos ((sg_eq b1 hc).mpr e), if_pos (show nI (b p) = nI c from by rw [e])]
      by_cases hD : cD (b (p + 1)) = true
      · obtain ⟨d, hd, ed⟩ := dig_t _ d1 hD
        rw [if_pos hD, ed]
        refine ⟨nI d, ?_, ?_, Or.inr ⟨d, hd, rfl, k0, ql, e⟩⟩
        · show some (sg (48 + d) - 48) = _
          rw [sg_low (48 + d) (by omega)]
          exact congrArg some ((pk_sub (a := 48 + d) (b := 48) (by omega)).trans (by rw [show 48 + d - 48 = d from by omega]))
        · show some (nI (48 + d) - 48) = _
          exact congrArg some ((pk_sub (a := 48 + d) (b := 48) (by omega)).trans (by rw [show 48 + d - 48 = d from by omega]))
      · rw [if_neg hD]
        exact ⟨-1, rfl, rfl, Or.inl rfl⟩
    · rw [if_neg (fun r => e ((sg_eq b1 hc).mp r)), if_neg (fun r => e ((nI_eq (by omega) (by omega)).mp r))]
      exact ⟨-1, rfl, rfl, Or.inl rfl⟩
  · refine ⟨-1, ?_, ?_, Or.inl rfl⟩
    · rcases h0 with ⟨k0, a2, _⟩ | ⟨_, a2, _⟩
      · rw [if_pos a2, h3, h1, pk_sub (a := q) (b := p) h5, if_neg (show ¬ nI (q - p) = (2 : Int32) from fun r => nk ⟨k0, (nI_eq (b := 2) (by omega) (by omega)).mp r⟩)]
      · rw [if_neg a2]
    · rw [show g_121 2 M = some 0 from e1]
      rfl
/-- a place -/
theorem t_place {n : Nat} {b : Nat → Nat} {k p q v : Nat} {I M : Mem} (hT : TX n b I M) (h : LX n b k p q v I M) : ∃ x, g_58 I = some x ∧ g_127 M = some x ∧ ((x = -1) ∨ ∃ d, d < 4 ∧ x = nI d ∧ k = 0 ∧ q - p = 1) := by
  have hn := hT.1
  have h0 := lx_0 h
  have e121 := g121_ok h hn 1 (by omega)
  obtain ⟨h1, h2, h3, h4, h5, h6, _⟩ := h
  unfold g_58 g_127
  rcases e121 with ⟨k0, ql, e1⟩ | ⟨nk, e1⟩
  · have a2 : I 2 2 = 0 ∧ cL (b p) = true := by
      rcases h0 with ⟨_, a, _, _, c⟩ | ⟨k1, _⟩
      · exact ⟨a, c⟩
      · exact absurd k0 k1
    have lb : 97 ≤ b p ∧ b p ≤ 122 := by have := a2.2; unfold cL at this; exact of_decide_eq_true this
    obtain ⟨b1, b2, b3⟩ := hT.2.2.2 p (by omega)
    have e97 : sg (b p) - (97 : Int32) = nI (b p - 97) := by rw [sg_low (b p) (by omega)]; exact pk_sub (a := b p) (b := 97) (by omega)
    have e97' : nI (b p) - (97 : Int32) = nI (b p - 97) := pk_sub (a := b p) (b := 97) (by omega)
    have eg : g_111 (nI (b p)) 97 100 M = some (if 97 ≤ b p ∧ b p ≤ 100 then 1 else 0) := g111_ok (lo := 97) (hi := 100) (by omega) (by omega) (by omega)
    rw [if_pos a2.1, h3, h1, pk_sub (a := q) (b := p) h5, if_pos (show nI (q - p) = (1 : Int32) from by rw [ql]; rfl), hT.2.1, if_neg (nI_nlt h6 (by omega)), ix_nI (by omega) (by omega), ix_nI (by omega) (by omega), b2, e97]
    rw [show g_121 1 M = some 1 from e1]
    try simp only [Option.bind_some, nr0, nr1, s_10, s_n10, s_n00, s_a, s_b, s_c, s_d, s_e, ↓reduceIte]
    rw [h2, ix_nI (by omega) (by omega), b3, eg]
    by_cases e : b p ≤ 100
    · rw [if_pos (k_lt (b := 4) (by rfl) (by rfl) (by omega) (by omega)), if_pos ⟨lb.1, e⟩]
      refine ⟨nI (b p - 97), rfl, ?_, Or.inr ⟨b p - 97, by omega, rfl, k0, ql⟩⟩
      try simp only [Option.bind_some, nr0, nr1, s_10, s_n10, s_n00, s_a, s_b, s_c, s_d, s_e, ↓reduceIte]
      rw [ix_nI (by omega) (by omega), b3, e97']
    · rw [if_neg (k_nlt (b := 4) (by rfl) (by rfl) (by omega) (by omega)), if_neg (fun r => e r.2)]
      exact ⟨-1, rfl, rfl, Or.inl rfl⟩
  · refine ⟨-1, ?_, ?_, Or.inl rfl⟩
    · rcases h0 with ⟨k0, a2, _⟩ | ⟨_, a2, _⟩
      · rw [if_pos a2, h3, h1, pk_sub (a := q) (b := p) h5, if_neg (show ¬ nI (q - p) = (1 : Int32) from fun r => nk ⟨k0, (nI_eq (b := 1) (by omega) (by omega)).mp r⟩)]
      · rw [if_neg a2]
    · rw [show g_121 1 M = some 0 from e1]
      rfl
/-- a word of the class, letter by letter -/
def Wd (b : Nat → Nat) (k p q : Nat) (L : List Nat) : Prop := k = 0 ∧ q - p = L.length ∧ ∀ i, i < L.length → b (p + i) = L.getD i 0
theorem t_word {n : Nat} {b : Nat → Nat} {k p q v : Nat} {I M : Mem} (hT : TX n b I M) (h : LX n b k p q v I M) {g47 : Mem → Option Int32} {g48 : Mem → Option Int32} {g50 : Int32 → Mem → Option Int32} {lo : Nat → Int32 → Mem → Option Int32}
    (hg : ∀ I : Mem, g47 I = (if (I 2 2) = 0 then ((g48 I).bind (fun w1 => (if ((I 2 4) - (I 2 3)) = w1 then (if (I 2 4) ≤ (I 2 1) then (lo 5000 (0 : Int32) I) else (some (0 : Int32))) else (some (0 : Int32))))) else (some (0 : Int32))))
    (hl : ∀ (m : Nat) (x2 : Int32) (I : Mem), lo (m + 1) x2 I = ((g48 I).bind (fun w2 => (if w2 ≤ x2 then (some (1 : Int32)) else (ix ((I 2 3) + x2) 2048 (fun j3 => ((g50 x2 I).bind (fun w4 => (if (I 3 j3) = w4 then (lo m (x2 + (1 : Int32)) I) else (some (0 : Int32)))))))))))
    (L : List Nat) (hL : L.length < 100) (hb : ∀ i, i < L.length → L.getD i 0 < 128) (h48 : ∀ I, g48 I = some (nI L.length)) (h50 : ∀ i, i < L.length → ∀ I, g50 (nI i) I = some (nI (L.getD i 0))) : (Wd b k p q L ∧ g47 I = some 1) ∨ (¬ Wd b k p q L ∧ g47 I = some 0) := by
  have hn := hT.1
  have h0 := lx_0 h
  obtain ⟨h1, h2, h3, h4, h5, h6, _⟩ := h
  rw [hg, h48]
  rcases h0 with ⟨k0, a2, _⟩ | ⟨k0, a2, _⟩
  · rw [if_pos a2]
    show (_ ∧ (if _ = nI L.length then _ else _) = _) ∨ (_ ∧ (if _ = nI L.length then _ else _) = _)
    rw [h3, h1, pk_sub (a := q) (b := p) h5]
    by_cases ql : q - p = L.length
    · rw [if_pos (by rw [ql]), hT.2.1, if_pos (nI_le h6 (by omega))]
      have main : ∀ (d i m : Nat), i + d = L.length → d < m → (∀ j, j < i → b (p + j) = L.getD j 0) → (Wd b k p q L ∧ lo m (nI i) I = some 1) ∨ (¬ Wd b k p q L ∧ lo m (nI i) I = some 0) := by
        intro d
        induction d with
        | zero =>
          intro i m hi hm hj
          obtain ⟨m, rfl⟩ : ∃ m', m = m' + 1 := ⟨m - 1, by omega⟩
          refine Or.inl ⟨⟨k0, ql, fun j hj2 => hj j (by omega)⟩, ?_⟩
          rw [hl, h48]
          try simp only [Option.bind_some, nr0, nr1, s_10, s_n10, s_n00, s_a, s_b, s_c, s_d, s_e, ↓reduceIte]
          rw [if_pos (nI_le (by omega) (by omega))]
        | succ d ih =>
          intro i m hi hm hj
          obtain ⟨m, rfl⟩ : ∃ m', m = m' + 1 := ⟨m - 1, by omega⟩
          obtain ⟨b1, b2, b3⟩ := hT.2.2.2 (p + i) (by omega)
          have hbi := hb i (by omega)
          rw [hl, h48]
          show (_ ∧ (if _ then _ else _) = _) ∨ (_ ∧ (if _ then _ else _) = _)
          rw [if_neg (nI_ge (by omega) (by omega)), h1, nI_add, ix_nI (by omega) (by omega), b2, h50 i (by omega)]
          show (_ ∧ (if _ then _ else _) = _) ∨ (_ ∧ (if _ then _ else _) = _)
          by_cases e : b (p + i) = L.getD i 0
          · rw [if_pos ((sg_eq b1 hbi).mpr e), nI_1]
            refine ih (i + 1) m (by omega) (by omega) (fun j hj2 => ?_)
            by_cases c : j = i
            · rw [c]; exact e
            · exact hj j (by omega)
          · rw [if_neg (fun r => e ((sg_eq b1 hbi).mp r))]
            exact Or.inr ⟨fun r => e (r.2.2 i (by omega)), rfl⟩
      exact main L.length 0 5000 (by omega) (by omega) (fun j hj => absurd hj (Nat.not_lt_zero j))
    · rw [if_neg (fun r => ql ((nI_eq (by omega) (by omega)).mp r))]
      exact Or.inr ⟨fun r => ql r.2.1, rfl⟩
  · rw [if_neg a2]
    exact Or.inr ⟨fun r => k0 r.1, rfl⟩
theorem tw_3 {n : Nat} {b : Nat → Nat} {k p q v : Nat} {I M : Mem} (hT : TX n b I M) (h : LX n b k p q v I M) : (Wd b k p q [119] ∧ g_47_s3 I = some 1) ∨ (¬ Wd b k p q [119] ∧ g_47_s3 I = some 0) := by
  refine t_word hT h (g48 := g_48_s3) (g50 := g_50_s3) (lo := l_47_s3_38) (fun _ => rfl) (fun _ _ _ => rfl) [119] (by decide) (by decide) (fun _ => rfl) (fun i hi I => ?_)
  match i, hi with
  | 0, _ => rfl
  | i + 1, hi => exact absurd hi (by simp)
theorem tw_4 {n : Nat} {b : Nat → Nat} {k p q v : Nat} {I M : Mem} (hT : TX n b I M) (h : LX n b k p q v I M) : (Wd b k p q [114] ∧ g_47_s4 I = some 1) ∨ (¬ Wd b k p q [114] ∧ g_47_s4 I = some 0) := by
  refine t_word hT h (g48 := g_48_s4) (g50 := g_50_s4) (lo := l_47_s4_38) (fun _ => rfl) (fun _ _ _ => rfl) [114] (by decide) (by decide) (fun _ => rfl) (fun i hi I => ?_)
  match i, hi with
  | 0, _ => rfl
  | i + 1, hi => exact absurd hi (by simp)
theorem tw_5 {n : Nat} {b : Nat → Nat} {k p q v : Nat} {I M : Mem} (hT : TX n b I M) (h : LX n b k p q v I M) : (Wd b k p q [102] ∧ g_47_s5 I = some 1) ∨ (¬ Wd b k p q [102] ∧ g_47_s5 I = some 0) := by
  refine t_word hT h (g48 := g_48_s5) (g50 := g_50_s5) (lo := l_47_s5_38) (fun _ => rfl) (fun _ _ _ => rfl) [102] (by decide) (by decide) (fun _ => rfl) (fun i hi I => ?_)
  match i, hi with
  | 0, _ => rfl
  | i + 1, hi => exact absurd hi (by simp)
theorem tw_6 {n : Nat} {b : Nat → Nat} {k p q v : Nat} {I M : Mem} (hT : TX n b I M) (h : LX n b k p q v I M) : (Wd b k p q [101, 120, 105, 115, 116, 115] ∧ g_47_s6 I = some 1) ∨ (¬ Wd b k p q [101, 120, 105, 115, 116, 115] ∧ g_47_s6 I = some 0) := by
  refine t_word hT h (g48 := g_48_s6) (g50 := g_50_s6) (lo := l_47_s6_38) (fun _ => rfl) (fun _ _ _ => rfl) [101, 120, 105, 115, 116, 115] (by decide) (by decide) (fun _ => rfl) (fun i hi I => ?_)
  match i, hi with
  | 0, _ => rfl
  | 1, _ => rfl
  | 2, _ => rfl
  | 3, _ => rfl
  | 4, _ => rfl
  | 5, _ => rfl
  | i + 6, hi => exact absurd hi (by simp)
theorem tw_7 {n : Nat} {b : Nat → Nat} {k p q v : Nat} {I M : Mem} (hT : TX n b I M) (h : LX n b k p q v I M) : (Wd b k p q [102, 111, 114, 97, 108, 108] ∧ g_47_s7 I = some 1) ∨ (¬ Wd b k p q [102, 111, 114, 97, 108, 108] ∧ g_47_s7 I = some 0) := by
  refine t_word hT h (g48 := g_48_s7) (g50 := g_50_s7) (lo := l_47_s7_38) (fun _ => rfl) (fun _ _ _ => rfl) [102, 111, 114, 97, 108, 108] (by decide) (by decide) (fun _ => rfl) (fun i hi I => ?_)
  match i, hi with
  | 0, _ => rfl
  | 1, _ => rfl
  | 2, _ => rfl
  | 3, _ => rfl
  | 4, _ => rfl
  | 5, _ => rfl
  | i + 6, hi => exact absurd hi (by simp)

/-- one letter, in the reference -/
theorem t_one {n : Nat} {b : Nat → Nat} {k p q v : Nat} {I M : Mem} (hT : TX n b I M) (h : LX n b k p q v I M) (c : Nat) (hc : c < 128) : (Wd b k p q [c] ∧ g_125 (nI c) M = some 1) ∨ (¬ Wd b k p q [c] ∧ g_125 (nI c) M = some 0) := by
  have hn := hT.1
  have e121 := g121_ok h hn 1 (by omega)
  obtain ⟨h1, h2, h3, h4, h5, h6, _⟩ := h
  unfold g_125
  rcases e121 with ⟨k0, ql, e1⟩ | ⟨nk, e1⟩
  · obtain ⟨b1, b2, b3⟩ := hT.2.2.2 p (by omega)
    rw [show g_121 1 M = some 1 from e1]
    try simp only [Option.bind_some, nr0, nr1, s_10, s_n10, s_n00, s_a, s_b, s_c, s_d, s_e, ↓reduceIte]
    rw [h2, ix_nI (by omega) (by omega), b3]
    by_cases e : b p = c
    · rw [if_pos (by rw [e])]
      exact Or.inl ⟨⟨k0, ql, fun i hi => by have : i = 0 := by simp at hi; exact hi
                                            subst this; exact e⟩, rfl⟩
    · rw [if_neg (fun r => e ((nI_eq (by omega) (by omega)).mp r))]
      exact Or.inr ⟨fun r => e (r.2.2 0 (by simp)), rfl⟩
  · rw [show g_121 1 M = some 0 from e1]
    exact Or.inr ⟨fun r => nk ⟨r.1, r.2.1⟩, rfl⟩
/-- the kind of an action: both sides look for w, r, f -/
theorem t_kind {n : Nat} {b : Nat → Nat} {k p q v : Nat} {I M : Mem} (hT : TX n b I M) (h : LX n b k p q v I M) : (g_46 I = some (-1) ∧ g_125 119 M = some 0 ∧ g_125 114 M = some 0 ∧ g_125 102 M = some 0) ∨ ∃ x, x < 3 ∧ g_46 I = some (nI x) ∧ k = 0 ∧ ((x = 0 ∧ g_125 119 M = some 1) ∨ (x = 1 ∧ g_125 119 M = some 0 ∧ g_125 114 M = some 1) ∨ (x = 2 ∧ g_125 119 M = some 0 ∧ g_125 114 M = some 0 ∧ g_125 102 M = some 1)) := by
  unfold g_46
  rcases tw_3 hT h with ⟨w, e⟩ | ⟨w, e⟩
  · refine Or.inr ⟨0, by omega, ?_, w.1, Or.inl ⟨rfl, ?_⟩⟩
    · rw [e]; rfl
    · rcases t_one hT h 119 (by omega) with ⟨_, e2⟩ | ⟨w2, _⟩
      · exact e2
      · exact absurd w w2
  · have f1 : g_125 119 M = some 0 := by
      rcases t_one hT h 119 (by omega) with ⟨w2, _⟩ | ⟨_, e2⟩
      · exact absurd w2 w
      · exact e2
    rw [e]
    try simp only [Option.bind_some, nr0, nr1, s_10, s_n10, s_n00, s_a, s_b, s_c, s_d, s_e, ↓reduceIte]
    rcases tw_4 hT h with ⟨w2, e2⟩ | ⟨w2, e2⟩
    · refine Or.inr ⟨1, by omega, ?_, w2.1, Or.inr (Or.inl ⟨rfl, f1, ?_⟩)⟩
      · rw [e2]; rfl
      · rcases t_one hT h 114 (by omega) with ⟨_, e3⟩ | ⟨w3, _⟩
        · exact e3
        · exact absurd w2 w3
    · have f2 : g_125 114 M = some 0 := by
        rcases t_one hT h 114 (by omega) with ⟨w3, _⟩ | ⟨_, e3⟩
        · exact absurd w3 w2
        · exact e3
      rw [e2]
      try simp only [Option.bind_some, nr0, nr1, s_10, s_n10, s_n00, s_a, s_b, s_c, s_d, s_e, ↓reduceIte]
      rcases tw_5 hT h with ⟨w3, e3⟩ | ⟨w3, e3⟩
      · refine Or.inr ⟨2, by omega, ?_, w3.1, Or.inr (Or.inr ⟨rfl, f1, f2, ?_⟩)⟩
        · rw [e3]; rfl
        · rcases t_one hT h 102 (by omega) with ⟨_, e4⟩ | ⟨w4, _⟩
          · exact e4
          · exact absurd w3 w4
      · refine Or.inl ⟨by rw [e3]; rfl, f1, f2, ?_⟩
        rcases t_one hT h 102 (by omega) with ⟨w4, _⟩ | ⟨_, e4⟩
        · exact absurd w4 w3
        · exact e4
/-- six letters as one number, in the reference -/
theorem lg_step {z x : Nat} (hz : z < 2 ^ 40) (hx : x < 256) : ((lN z) <<< ((8 : Int32).toInt64 &&& 63)) ||| (nI x).toInt64 = lN (z * 256 + x) := by
  rw [nI_l (by omega)]
  apply Int64.toBitVec_inj.1
  show (BitVec.ofNat 64 z <<< (((8 : Int32).toInt64 &&& 63).toBitVec.smod 64).toNat) ||| BitVec.ofNat 64 x = BitVec.ofNat 64 (z * 256 + x)
  rw [show (((8 : Int32).toInt64 &&& 63).toBitVec.smod 64).toNat = 8 from by decide]
  apply BitVec.eq_of_toNat_eq
  rw [BitVec.toNat_or, BitVec.toNat_shiftLeft, BitVec.toNat_ofNat, BitVec.toNat_ofNat, BitVec.toNat_ofNat, Nat.mod_eq_of_lt (show z < 2 ^ 64 from by omega), Nat.mod_eq_of_lt (show x < 2 ^ 64 from by omega), Nat.mod_eq_of_lt (show z * 256 + x < 2 ^ 64 from by omega), Nat.shiftLeft_eq, Nat.mod_eq_of_lt (show z * 2 ^ 8 < 2 ^ 64 from by omega), ← Nat.shiftLeft_eq, ← Nat.shiftLeft_add_eq_or_of_lt (show x < 2 ^ 8 from by omega), Nat.shiftLeft_eq]
theorem lg_eq0 {x y : Nat} (hx : x < 2 ^ 63) (hy : y < 2 ^ 63) : lg_cmp (lN x) (lN y) = 0 ↔ x = y := by
  constructor
  · intro h
    unfold lg_cmp at h
    by_cases e : x = y
    · exact e
    · exfalso
      have ne : ¬ lN x = lN y := fun q => e ((pk_lEQ hx hy).mp q)
      by_cases g : lN y < lN x
      · rw [if_pos g] at h; exact absurd h (by decide)
      · rw [if_neg g, if_neg ne] at h; exact absurd h (by decide)
  · intro h
    rw [h]
    exact lg_self _
theorem t_cond {n : Nat} {b : Nat → Nat} {k p q v : Nat} {I M : Mem} (hT : TX n b I M) (h : LX n b k p q v I M) : (g_47_s6 I = some 1 ∧ g_130 M = some 1 ∧ q - p = 6) ∨ (g_47_s6 I = some 0 ∧ g_47_s7 I = some 1 ∧ g_130 M = some 2 ∧ q - p = 6) ∨ (g_47_s6 I = some 0 ∧ g_47_s7 I = some 0 ∧ g_130 M = some 0) := by
  have hn := hT.1
  have e121 := g121_ok h hn 6 (by omega)
  have x6 := tw_6 hT h
  have x7 := tw_7 hT h
  obtain ⟨h1, h2, h3, h4, h5, h6, _⟩ := h
  unfold g_130
  rcases e121 with ⟨k0, ql, e1⟩ | ⟨nk, e1⟩
  · rw [show g_121 6 M = some 1 from e1]
    try simp only [Option.bind_some, nr0, nr1, s_10, s_n10, s_n00, s_a, s_b, s_c, s_d, s_e, ↓reduceIte]
    rw [h2]
    have st : ∀ i, i < 6 → ∀ m z, z < 2 ^ 40 → l_130_18 (m + 1) (nI (p + i)) (lN z) M = l_130_18 m (nI (p + (i + 1))) (lN (z * 256 + b (p + i))) M := by
      intro i hi m z hz
      obtain ⟨b1, b2, b3⟩ := hT.2.2.2 (p + i) (by omega)
      rw [l_130_18, h4, if_neg (nI_ge (by omega) (by omega)), ix_nI (by omega) (by omega), b3, lg_step hz b1, nI_1]
      rfl
    have d0 := (hT.2.2.2 (p + 0) (by omega)).1
    have d1 := (hT.2.2.2 (p + 1) (by omega)).1
    have d2 := (hT.2.2.2 (p + 2) (by omega)).1
    have d3 := (hT.2.2.2 (p + 3) (by omega)).1
    have d4 := (hT.2.2.2 (p + 4) (by omega)).1
    have d5 := (hT.2.2.2 (p + 5) (by omega)).1
    have fin : l_130_18 5000 (nI p) (Int64.ofNat (0 : Fin 2).val) M = l_130_18 4994 (nI (p + 6)) (lN ((((((0 * 256 + b (p + 0)) * 256 + b (p + 1)) * 256 + b (p + 2)) * 256 + b (p + 3)) * 256 + b (p + 4)) * 256 + b (p + 5))) M :=
      (st 0 (by omega) 4999 0 (by omega)).trans ((st 1 (by omega) 4998 _ (by omega)).trans ((st 2 (by omega) 4997 _ (by omega)).trans ((st 3 (by omega) 4996 _ (by omega)).trans ((st 4 (by omega) 4995 _ (by omega)).trans (st 5 (by omega) 4994 _ (by omega))))))
    rw [fin, l_130_18, h4, if_pos (nI_le (by omega) (by omega))]
    generalize hz : (((((0 * 256 + b (p + 0)) * 256 + b (p + 1)) * 256 + b (p + 2)) * 256 + b (p + 3)) * 256 + b (p + 4)) * 256 + b (p + 5) = z
    have zl : z < 2 ^ 63 := by omega
    have c1 : lg_cmp (lN z) (111567839655027 : Int64) = 0 ↔ z = 111567839655027 := lg_eq0 (y := 111567839655027) zl (by omega)
    have c2 : lg_cmp (lN z) (112628846390380 : Int64) = 0 ↔ z = 112628846390380 := lg_eq0 (y := 112628846390380) zl (by omega)
    by_cases e6 : z = 111567839655027
    · rw [if_pos (c1.mpr e6)]
      left
      rcases x6 with ⟨_, q⟩ | ⟨q, _⟩
      · exact ⟨q, rfl, ql⟩
      · exfalso
        apply q
        refine ⟨k0, ql, fun i hi => ?_⟩
        match i, hi with
        | 0, _ => show b (p + 0) = 101; omega
        | 1, _ => show b (p + 1) = 120; omega
        | 2, _ => show b (p + 2) = 105; omega
        | 3, _ => show b (p + 3) = 115; omega
        | 4, _ => show b (p + 4) = 116; omega
        | 5, _ => show b (p + 5) = 115; omega
        | i + 6, hi => exact absurd hi (by simp)
    · rw [if_neg (fun r => e6 (c1.mp r))]
      have n6 : g_47_s6 I = some 0 := by
        rcases x6 with ⟨q, _⟩ | ⟨_, q⟩
        · exfalso
          apply e6
          have w0 : b (p + 0) = 101 := q.2.2 0 (by simp)
          have w1 : b (p + 1) = 120 := q.2.2 1 (by simp)
          have w2 : b (p + 2) = 105 := q.2.2 2 (by simp)
          have w3 : b (p + 3) = 115 := q.2.2 3 (by simp)
          have w4 : b (p + 4) = 116 := q.2.2 4 (by simp)
          have w5 : b (p + 5) = 115 := q.2.2 5 (by simp)
          omega
        · exact q
      by_cases e7 : z = 112628846390380
      · rw [if_pos (c2.mpr e7)]
        right; left
        rcases x7 with ⟨_, q⟩ | ⟨q, _⟩
        · exact ⟨n6, q, rfl, ql⟩
        · exfalso
          apply q
          refine ⟨k0, ql, fun i hi => ?_⟩
          match i, hi with
          | 0, _ => show b (p + 0) = 102; omega
          | 1, _ => show b (p + 1) = 111; omega
          | 2, _ => show b (p + 2) = 114; omega
          | 3, _ => show b (p + 3) = 97; omega
          | 4, _ => show b (p + 4) = 108; omega
          | 5, _ => show b (p + 5) = 108; omega
          | i + 6, hi => exact absurd hi (by simp)
      · rw [if_neg (fun r => e7 (c2.mp r))]
        right; right
        refine ⟨n6, ?_, rfl⟩
        rcases x7 with ⟨q, _⟩ | ⟨_, q⟩
        · exfalso
          apply e7
          have w0 : b (p + 0) = 102 := q.2.2 0 (by simp)
          have w1 : b (p + 1) = 111 := q.2.2 1 (by simp)
          have w2 : b (p + 2) = 114 := q.2.2 2 (by simp)
          have w3 : b (p + 3) = 97 := q.2.2 3 (by simp)
          have w4 : b (p + 4) = 108 := q.2.2 4 (by simp)
          have w5 : b (p + 5) = 108 := q.2.2 5 (by simp)
          omega
        · exact q
  · rw [show g_121 6 M = some 0 from e1]
    right; right
    refine ⟨?_, ?_, rfl⟩
    · rcases x6 with ⟨q, _⟩ | ⟨_, q⟩
      · exact absurd ⟨q.1, q.2.1⟩ nk
      · exact q
    · rcases x7 with ⟨q, _⟩ | ⟨_, q⟩
      · exact absurd ⟨q.1, q.2.1⟩ nk
      · exact q
end MMAG
