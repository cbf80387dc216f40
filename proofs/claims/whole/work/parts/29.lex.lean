/-! THE PAIR read, 1: both sides cut the text into the same lexemes (written by wip/whole/gen/lex_part.py). -/
section MMAF
def sg (b : Nat) : Int32 := (nI b).toInt8.toInt32
def cL (b : Nat) : Bool := decide (97 ≤ b ∧ b ≤ 122)
def cD (b : Nat) : Bool := decide (48 ≤ b ∧ b ≤ 57)
def cS (b : Nat) : Bool := decide (b = 58 ∨ b = 59 ∨ b = 61 ∨ b = 38 ∨ b = 40 ∨ b = 41)
theorem g35_t : ∀ b, b < 256 → g_35 (sg b) (fun _ _ => 0) = some (if cL b = true then 1 else 0) := by decide +kernel
theorem g36_t : ∀ b, b < 256 → g_36 (sg b) (fun _ _ => 0) = some (if cD b = true then 1 else 0) := by decide +kernel
theorem g38_t : ∀ b, b < 256 → g_38 (sg b) (fun _ _ => 0) = some (if cS b = true then 1 else 0) := by decide +kernel
theorem g117_t : ∀ b, b < 256 → g_117 (nI b) (fun _ _ => 0) = some (if cL b = true then 1 else 0) := by decide +kernel
theorem g118_t : ∀ b, b < 256 → g_118 (nI b) (fun _ _ => 0) = some (if cD b = true then 1 else 0) := by decide +kernel
theorem g35_ok {b : Nat} (h : b < 256) (I : Mem) : g_35 (sg b) I = some (if cL b = true then 1 else 0) := g35_t b h
theorem g36_ok {b : Nat} (h : b < 256) (I : Mem) : g_36 (sg b) I = some (if cD b = true then 1 else 0) := g36_t b h
theorem g38_ok {b : Nat} (h : b < 256) (I : Mem) : g_38 (sg b) I = some (if cS b = true then 1 else 0) := g38_t b h
theorem g117_ok {b : Nat} (h : b < 256) (I : Mem) : g_117 (nI b) I = some (if cL b = true then 1 else 0) := g117_t b h
theorem g118_ok {b : Nat} (h : b < 256) (I : Mem) : g_118 (nI b) I = some (if cD b = true then 1 else 0) := g118_t b h
theorem g117_m (I : Mem) : g_117 (-1) I = some 0 := (by decide +kernel : g_117 (-1) (fun _ _ => 0) = some 0)
theorem g118_m (I : Mem) : g_118 (-1) I = some 0 := (by decide +kernel : g_118 (-1) (fun _ _ => 0) = some 0)
theorem sg_inj {b c : Nat} (hb : b < 256) (hc : c < 256) (h : sg b = sg c) : b = c := by
  have k1 := sc_k8 b hb
  have k2 := sc_k8 c hc
  unfold sg at h
  rw [h, k2] at k1
  exact ((nI_eq (by omega) (by omega)).mp k1).symm
theorem sg_low : ∀ c, c < 128 → sg c = nI c := by decide +kernel
theorem sg_eq {b c : Nat} (hb : b < 256) (hc : c < 128) : sg b = nI c ↔ b = c := by
  rw [← sg_low c hc]
  exact ⟨sg_inj hb (by omega), fun h => by rw [h]⟩
/-- the text -/
def TX (n : Nat) (b : Nat → Nat) (I M : Mem) : Prop := n ≤ 2048 ∧ I 2 1 = nI n ∧ M 20 1 = nI n ∧ ∀ i, i < n → b i < 256 ∧ I 3 i = sg (b i) ∧ M 21 i = nI (b i)
def FxC (I J : Mem) : Prop := (∀ b, b ≠ 2 → J b = I b) ∧ J 2 1 = I 2 1
def FxM (M N : Mem) : Prop := (∀ b, b ≠ 20 → N b = M b) ∧ ∀ b, b < 17 ∨ 20 < b → N 20 b = M 20 b
theorem TX_f {n : Nat} {b : Nat → Nat} {I M J N : Mem} (h : TX n b I M) (h1 : FxC I J) (h2 : FxM M N) : TX n b J N := by
  obtain ⟨t1, t2, t3, t4⟩ := h
  refine ⟨t1, by rw [h1.2]; exact t2, by rw [h2.2 1 (by omega)]; exact t3, fun i hi => ?_⟩
  rw [h1.1 3 (by decide), h2.1 21 (by decide)]
  exact t4 i hi
theorem FxC_t {I J K : Mem} (h : FxC I J) (k : FxC J K) : FxC I K := ⟨fun b hb => by rw [k.1 b hb, h.1 b hb], by rw [k.2, h.2]⟩
theorem FxM_t {I J K : Mem} (h : FxM I J) (k : FxM J K) : FxM I K := ⟨fun b hb => by rw [k.1 b hb, h.1 b hb], fun b hb => by rw [k.2 b hb, h.2 b hb]⟩
theorem FxC_u {I : Mem} {j : Nat} {x : Int32} (h : j ≠ 1) : FxC I (mm_up I 2 j x) := ⟨fun b hb => mm_up_ne hb, up_other (fun q => h q.symm)⟩
theorem FxM_u {M : Mem} {j : Nat} {x : Int32} (h : 17 ≤ j ∧ j ≤ 20) : FxM M (mm_up M 20 j x) := ⟨fun b hb => mm_up_ne hb, fun b hb => up_other (by omega)⟩
theorem FxC_r (I : Mem) : FxC I I := ⟨fun _ _ => rfl, rfl⟩
theorem FxM_r (M : Mem) : FxM M M := ⟨fun _ _ => rfl, fun _ _ => rfl⟩
theorem g116_in {n : Nat} {b : Nat → Nat} {I M : Mem} (h : TX n b I M) {q : Nat} (hq : q < n) : g_116 (nI q) M = some (nI (b q)) := by
  have h1 := h.1
  unfold g_116
  rw [h.2.2.1, if_neg (nI_ge hq (by omega)), ix_nI (by omega) (by omega), (h.2.2.2 q hq).2.2]
theorem g116_end {n : Nat} {b : Nat → Nat} {I M : Mem} (h : TX n b I M) : g_116 (nI n) M = some (-1) := by
  have h1 := h.1
  unfold g_116
  rw [h.2.2.1, if_pos (nI_le (Nat.le_refl _) (by omega))]
/-- words -/
theorem word_l {n : Nat} {b : Nat → Nat} {x : Int32} : ∀ (d q f f' : Nat) (I M : Mem), q + d = n → d < f → d < f' → TX n b I M → I 2 4 = nI q → M 20 19 = nI q → ∃ (q' : Nat) (I' M' : Mem), l_34_99 f I = some I' ∧ l_115_83 f' x M = some (mm_up M' 20 17 1) ∧ (q ≤ q' ∧ (q < n → cL (b q) = true → q < q')) ∧ q' ≤ n ∧ I' 2 4 = nI q' ∧ M' 20 19 = nI q' ∧ (∀ a, a ≠ 2 → I' a = I a) ∧ (∀ a, a ≠ 4 → I' 2 a = I 2 a) ∧ (∀ a, a ≠ 20 → M' a = M a) ∧ ∀ a, a ≠ 19 → M' 20 a = M 20 a := by
  intro d
  induction d with
  | zero =>
    intro q f f' I M hq hf hf' hT h4 h9
    obtain ⟨f, rfl⟩ : ∃ m', f = m' + 1 := ⟨f - 1, by omega⟩
    obtain ⟨f', rfl⟩ : ∃ m', f' = m' + 1 := ⟨f' - 1, by omega⟩
    have hn := hT.1
    have hq : q = n := by omega
    subst hq
    refine ⟨q, I, M, ?_, ?_, ⟨Nat.le_refl _, fun k => absurd k (by omega)⟩, Nat.le_refl _, h4, h9, fun _ _ => rfl, fun _ _ => rfl, fun _ _ => rfl, fun _ _ => rfl⟩
    · rw [l_34_99, hT.2.1, h4, if_pos (nI_le (Nat.le_refl _) (by omega))]
    · rw [l_115_83, h9, g116_end hT]
      try simp only [Option.bind_some, nr0, nr1, s_10, s_n10, s_n00, s_a, s_b, s_c, s_d, s_e, ↓reduceIte]
      rw [g117_m]
      try simp only [Option.bind_some, nr0, nr1, s_10, s_n10, s_n00, s_a, s_b, s_c, s_d, s_e, ↓reduceIte]
      try rw [g116_end hT]
      try simp only [Option.bind_some, nr0, nr1, s_10, s_n10, s_n00, s_a, s_b, s_c, s_d, s_e, ↓reduceIte]
      rw [g118_m]
      try simp only [Option.bind_some, nr0, nr1, s_10, s_n10, s_n00, s_a, s_b, s_c, s_d, s_e, ↓reduceIte]
  | succ d ih =>
    intro q f f' I M hq hf hf' hT h4 h9
    obtain ⟨f, rfl⟩ : ∃ m', f = m' + 1 := ⟨f - 1, by omega⟩
    obtain ⟨f', rfl⟩ : ∃ m', f' = m' + 1 := ⟨f' - 1, by omega⟩
    have hn := hT.1
    have hql : q < n := by omega
    obtain ⟨b1, b2, b3⟩ := hT.2.2.2 q hql
    have go : (cL (b q) = true ∨ cD (b q) = true) → ∃ (q' : Nat) (I' M' : Mem), l_34_99 f (mm_up I 2 4 (nI (q + 1))) = some I' ∧ l_115_83 f' x (mm_up M 20 19 (nI (q + 1))) = some (mm_up M' 20 17 1) ∧ (q ≤ q' ∧ (q < n → cL (b q) = true → q < q')) ∧ q' ≤ n ∧ I' 2 4 = nI q' ∧ M' 20 19 = nI q' ∧ (∀ a, a ≠ 2 → I' a = I a) ∧ (∀ a, a ≠ 4 → I' 2 a = I 2 a) ∧ (∀ a, a ≠ 20 → M' a = M a) ∧ ∀ a, a ≠ 19 → M' 20 a = M 20 a := by
      intro _
      obtain ⟨q', I', M', e1, e2, e3, e4, e5, e6, e7, e8, e9, e10⟩ := ih (q + 1) f f' (mm_up I 2 4 (nI (q + 1))) (mm_up M 20 19 (nI (q + 1))) (by omega) (by omega) (by omega) (TX_f hT (FxC_u (by decide)) (FxM_u (by decide))) up_same up_same
      exact ⟨q', I', M', e1, e2, ⟨by omega, fun _ _ => by omega⟩, e4, e5, e6, fun a ha => by rw [e7 a ha, mm_up_ne ha], fun a ha => by rw [e8 a ha, up_other ha], fun a ha => by rw [e9 a ha, mm_up_ne ha], fun a ha => by rw [e10 a ha, up_other ha]⟩
    have eC : l_34_99 (f + 1) I = if cL (b q) = true ∨ cD (b q) = true then l_34_99 f (mm_up I 2 4 (nI (q + 1))) else some I := by
      rw [l_34_99, hT.2.1, h4, if_neg (nI_ge hql (by omega)), ix_nI (by omega) (by omega), b2, g35_ok b1, nI_1]
      by_cases hL : cL (b q) = true
      · rw [if_pos hL, if_pos (Or.inl hL)]
        rfl
      · rw [if_neg hL]
        try simp only [Option.bind_some, nr0, nr1, s_10, s_n10, s_n00, s_a, s_b, s_c, s_d, s_e, ↓reduceIte]
        rw [ix_nI (by omega) (by omega), b2, g36_ok b1]
        by_cases hD : cD (b q) = true
        · rw [if_pos hD, if_pos (Or.inr hD)]
          rfl
        · rw [if_neg hD, if_neg (fun k => k.elim hL hD)]
          rfl
    have eM : l_115_83 (f' + 1) x M = if cL (b q) = true ∨ cD (b q) = true then l_115_83 f' x (mm_up M 20 19 (nI (q + 1))) else some (mm_up M 20 17 1) := by
      rw [l_115_83, h9, g116_in hT hql, nI_1]
      try simp only [Option.bind_some, nr0, nr1, s_10, s_n10, s_n00, s_a, s_b, s_c, s_d, s_e, ↓reduceIte]
      rw [g117_ok b1]
      by_cases hL : cL (b q) = true
      · rw [if_pos hL, if_pos (Or.inl hL)]
        rfl
      · rw [if_neg hL]
        try rw [g116_in hT hql]
        try simp only [Option.bind_some, nr0, nr1, s_10, s_n10, s_n00, s_a, s_b, s_c, s_d, s_e, ↓reduceIte]
        rw [g118_ok b1]
        by_cases hD : cD (b q) = true
        · rw [if_pos hD, if_pos (Or.inr hD)]
          rfl
        · rw [if_neg hD, if_neg (fun k => k.elim hL hD)]
          rfl
    rw [eC, eM]
    by_cases h : cL (b q) = true ∨ cD (b q) = true
    · rw [if_pos h, if_pos h]
      exact go h
    · rw [if_neg h, if_neg h]
      exact ⟨q, I, M, rfl, rfl, ⟨Nat.le_refl _, fun _ k => absurd (Or.inl k) h⟩, by omega, h4, h9, fun _ _ => rfl, fun _ _ => rfl, fun _ _ => rfl, fun _ _ => rfl⟩
theorem dig_t : ∀ b, b < 256 → cD b = true → ∃ d, d < 10 ∧ b = 48 + d := fun b _ h => ⟨b - 48, by unfold cD at h; have := of_decide_eq_true h; omega, by unfold cD at h; have := of_decide_eq_true h; omega⟩
/-- numbers -/
theorem numb_l {n : Nat} {b : Nat → Nat} {x : Int32} : ∀ (d q v f f' : Nat) (I M : Mem), q + d = n → d < f → d < f' → TX n b I M → I 2 4 = nI q → M 20 19 = nI q → v ≤ 999 → I 2 5 = nI (if 100 < v then 100 else v) → M 20 20 = nI v → ∃ (q' v' : Nat) (I' M' : Mem), l_34_178 f I = some I' ∧ l_115_144 f' x M = some (mm_up M' 20 17 2) ∧ q ≤ q' ∧ q' ≤ n ∧ I' 2 4 = nI q' ∧ M' 20 19 = nI q' ∧ v' ≤ 999 ∧ I' 2 5 = nI (if 100 < v' then 100 else v') ∧ M' 20 20 = nI v' ∧ (∀ a, a ≠ 2 → I' a = I a) ∧ (∀ a, a ≠ 4 → a ≠ 5 → I' 2 a = I 2 a) ∧ (∀ a, a ≠ 20 → M' a = M a) ∧ ∀ a, a ≠ 19 → a ≠ 20 → M' 20 a = M 20 a := by
  intro d
  induction d with
  | zero =>
    intro q v f f' I M hq hf hf' hT h4 h9 hv hv1 hv2
    obtain ⟨f, rfl⟩ : ∃ m', f = m' + 1 := ⟨f - 1, by omega⟩
    obtain ⟨f', rfl⟩ : ∃ m', f' = m' + 1 := ⟨f' - 1, by omega⟩
    have hn := hT.1
    have hq : q = n := by omega
    subst hq
    refine ⟨q, v, I, M, ?_, ?_, Nat.le_refl _, Nat.le_refl _, h4, h9, hv, hv1, hv2, fun _ _ => rfl, fun _ _ _ => rfl, fun _ _ => rfl, fun _ _ _ => rfl⟩
    · rw [l_34_178, hT.2.1, h4, if_pos (nI_le (Nat.le_refl _) (by omega))]
    · rw [l_115_144, h9, g116_end hT]
      try simp only [Option.bind_some, nr0, nr1, s_10, s_n10, s_n00, s_a, s_b, s_c, s_d, s_e, ↓reduceIte]
      rw [g118_m]
      try simp only [Option.bind_some, nr0, nr1, s_10, s_n10, s_n00, s_a, s_b, s_c, s_d, s_e, ↓reduceIte]
  | succ d ih =>
    intro q v f f' I M hq hf hf' hT h4 h9 hv hv1 hv2
    obtain ⟨f, rfl⟩ : ∃ m', f = m' + 1 := ⟨f - 1, by omega⟩
    obtain ⟨f', rfl⟩ : ∃ m', f' = m' + 1 := ⟨f' - 1, by omega⟩
    have hn := hT.1
    have hql : q < n := by omega
    obtain ⟨b1, b2, b3⟩ := hT.2.2.2 q hql
    by_cases hD : cD (b q) = true
    · obtain ⟨g, hg, eg⟩ := dig_t (b q) b1 hD
      have s48 : sg (b q) = nI (48 + g) := by rw [eg]; exact sg_low _ (by omega)
      -- the class's number
      have nc : nI (if 100 < v then 100 else v) * (10 : Int32) + sg (b q) - (48 : Int32) = nI ((if 100 < v then 100 else v) * 10 + g) := by
        rw [s48, show nI (if 100 < v then 100 else v) * (10 : Int32) = nI ((if 100 < v then 100 else v) * 10) from pk_mul _ 10, nI_add]
        exact (pk_sub (a := (if 100 < v then 100 else v) * 10 + (48 + g)) (b := 48) (by omega)).trans (by rw [show (if 100 < v then 100 else v) * 10 + (48 + g) - 48 = (if 100 < v then 100 else v) * 10 + g from by omega])
      have lim : (if 100 < v then 100 else v) ≤ 100 := by split <;> omega
      have mx : (if (100 : Int32) < nI ((if 100 < v then 100 else v) * 10 + g) then (100 : Int32) else nI ((if 100 < v then 100 else v) * 10 + g)) = nI (if 100 < (if 100 < v then 100 else v) * 10 + g then 100 else (if 100 < v then 100 else v) * 10 + g) := by
        by_cases c : 100 < (if 100 < v then 100 else v) * 10 + g
        · rw [if_pos (k_lt (a := 100) (by rfl) (by rfl) c (by omega)), if_pos c]; rfl
        · rw [if_neg (k_nlt (a := 100) (by rfl) (by rfl) (by omega) (by omega)), if_neg c]
      have eC : l_34_178 (f + 1) I = l_34_178 f (mm_up (mm_up I 2 5 (nI (if 100 < (if 100 < v then 100 else v) * 10 + g then 100 else (if 100 < v then 100 else v) * 10 + g))) 2 4 (nI (q + 1))) := by
        rw [l_34_178, hT.2.1, h4, if_neg (nI_ge hql (by omega)), ix_nI (by omega) (by omega), b2, g36_ok b1, if_pos hD]
        try simp only [Option.bind_some, nr0, nr1, s_10, s_n10, s_n00, s_a, s_b, s_c, s_d, s_e, ↓reduceIte]
        rw [ix_nI (by omega) (by omega), b2, hv1, nc, mx, nI_1]
      have eM : l_115_144 (f' + 1) x M = l_115_144 f' x (mm_up (mm_up M 20 20 (nI (if v ≤ 99 then 10 * v + g else 100))) 20 19 (nI (q + 1))) := by
        rw [l_115_144, h9, g116_in hT hql]
        try simp only [Option.bind_some, nr0, nr1, s_10, s_n10, s_n00, s_a, s_b, s_c, s_d, s_e, ↓reduceIte]
        rw [g118_ok b1, if_pos hD]
        try simp only [Option.bind_some, nr0, nr1, s_10, s_n10, s_n00, s_a, s_b, s_c, s_d, s_e, ↓reduceIte]
        rw [hv2, ix_nI (by omega) (by omega), b3, nI_1]
        by_cases c : v ≤ 99
        · rw [if_pos (k_le (b := 99) (by rfl) (by rfl) c (by omega)), if_pos c, eg]
          rw [show (10 : Int32) * nI v = nI (10 * v) from pk_mul 10 v, nI_add, show nI (10 * v + (48 + g)) - (48 : Int32) = nI (10 * v + g) from (pk_sub (a := 10 * v + (48 + g)) (b := 48) (by omega)).trans (by rw [show 10 * v + (48 + g) - 48 = 10 * v + g from by omega])]
        · rw [if_neg (k_ge (a := 99) (by rfl) (by rfl) (by omega) (by omega)), if_neg c]
          rfl
      obtain ⟨q', v', I', M', e1, e2, e3, e4, e5, e6, e7, e8, e9, e10, e11, e12, e13⟩ := ih (q + 1) (if v ≤ 99 then 10 * v + g else 100) f f' (mm_up (mm_up I 2 5 (nI (if 100 < (if 100 < v then 100 else v) * 10 + g then 100 else (if 100 < v then 100 else v) * 10 + g))) 2 4 (nI (q + 1))) (mm_up (mm_up M 20 20 (nI (if v ≤ 99 then 10 * v + g else 100))) 20 19 (nI (q + 1))) (by omega) (by omega) (by omega) (TX_f hT (FxC_t (FxC_u (by decide)) (FxC_u (by decide))) (FxM_t (FxM_u (by decide)) (FxM_u (by decide)))) up_same up_same (by split <;> omega) (by
          show nI (if 100 < (if 100 < v then 100 else v) * 10 + g then 100 else (if 100 < v then 100 else v) * 10 + g) = _
          congr 1
          by_cases c : v ≤ 99
          · rw [if_neg (show ¬ 100 < v from by omega), if_pos c]
            by_cases c2 : 100 < v * 10 + g
            · rw [if_pos c2, if_pos (by omega)]
            · rw [if_neg c2, if_neg (by omega)]; omega
          · rw [if_neg c, if_neg (show ¬ 100 < 100 from by omega), if_pos (by split <;> omega)]) rfl
      refine ⟨q', v', I', M', by rw [eC]; exact e1, by rw [eM]; exact e2, by omega, e4, e5, e6, e7, e8, e9, fun a ha => by rw [e10 a ha, mm_up_ne ha, mm_up_ne ha], fun a a4 a5 => by rw [e11 a a4 a5, up_other a4, up_other a5], fun a ha => by rw [e12 a ha, mm_up_ne ha, mm_up_ne ha], fun a a1 a2 => by rw [e13 a a1 a2, up_other a1, up_other a2]⟩
    · refine ⟨q, v, I, M, ?_, ?_, Nat.le_refl _, by omega, h4, h9, hv, hv1, hv2, fun _ _ => rfl, fun _ _ _ => rfl, fun _ _ => rfl, fun _ _ _ => rfl⟩
      · rw [l_34_178, hT.2.1, h4, if_neg (nI_ge hql (by omega)), ix_nI (by omega) (by omega), b2, g36_ok b1, if_neg hD]
        rfl
      · rw [l_115_144, h9, g116_in hT hql]
        try simp only [Option.bind_some, nr0, nr1, s_10, s_n10, s_n00, s_a, s_b, s_c, s_d, s_e, ↓reduceIte]
        rw [g118_ok b1, if_neg hD]
        rfl
/-- a lexeme, on both sides: k 0 a word, 1 a number, 2 a sign, 3 strange, 4 the end -/
def LX (n : Nat) (b : Nat → Nat) (k p q v : Nat) (I M : Mem) : Prop := I 2 3 = nI p ∧ M 20 18 = nI p ∧ I 2 4 = nI q ∧ M 20 19 = nI q ∧ p ≤ q ∧ q ≤ n ∧
  ((k = 0 ∧ I 2 2 = 0 ∧ M 20 17 = 1 ∧ p < q ∧ cL (b p) = true) ∨
   (k = 1 ∧ I 2 2 = 1 ∧ M 20 17 = 2 ∧ v ≤ 999 ∧ I 2 5 = nI (if 100 < v then 100 else v) ∧ M 20 20 = nI v) ∨
   (k = 2 ∧ I 2 2 = 2 ∧ p < n ∧ M 20 17 = nI (b p) ∧ cS (b p) = true) ∨
   (k = 3 ∧ I 2 2 = 3 ∧ M 20 17 = 3) ∨
   (k = 4 ∧ I 2 2 = 4 ∧ M 20 17 = 0))
theorem lexC_in {n : Nat} {b : Nat → Nat} {I M : Mem} {p f : Nat} (hT : TX n b I M) (h4 : I 2 4 = nI p) (hp : p < n) : l_34_0 (f + 1) I = if b p = 10 ∨ b p = 32 then l_34_0 f (mm_up I 2 4 (nI (p + 1))) else if cL (b p) = true then l_34_99 5000 (mm_up (mm_up I 2 3 (nI p)) 2 2 0) else if cD (b p) = true then l_34_178 5000 (mm_up (mm_up (mm_up I 2 3 (nI p)) 2 2 1) 2 5 0) else if cS (b p) = true then some (mm_up (mm_up (mm_up I 2 3 (nI p)) 2 2 2) 2 4 (nI (p + 1))) else some (mm_up (mm_up (mm_up I 2 3 (nI p)) 2 2 3) 2 4 (nI (p + 1))) := by
  have hn := hT.1
  obtain ⟨b1, b2, b3⟩ := hT.2.2.2 p hp
  have X : ∀ {α : Type} (T : Nat → Option α), ix (nI p) 2048 T = T p := fun T => ix_nI (by omega) (by omega) T
  rw [l_34_0, hT.2.1, h4, if_neg (nI_ge hp (by omega)), X, b2, nI_1]
  by_cases c10 : b p = 10
  · rw [if_pos (show sg (b p) = (10 : Int32) from (sg_eq (c := 10) b1 (by omega)).mpr c10), if_pos (Or.inl c10)]
  rw [if_neg (show ¬ sg (b p) = (10 : Int32) from fun q => c10 ((sg_eq (c := 10) b1 (by omega)).mp q)), X, b2]
  by_cases c32 : b p = 32
  · rw [if_pos (show sg (b p) = (32 : Int32) from (sg_eq (c := 32) b1 (by omega)).mpr c32), if_pos (Or.inr c32)]
  rw [if_neg (show ¬ sg (b p) = (32 : Int32) from fun q => c32 ((sg_eq (c := 32) b1 (by omega)).mp q)), if_pos (nI_lt hp (by omega)), if_neg (fun q : b p = 10 ∨ b p = 32 => q.elim c10 c32), X, b2, g35_ok b1]
  by_cases hL : cL (b p) = true
  · rw [if_pos hL, if_pos hL]
    rfl
  rw [if_neg hL, if_neg hL]
  try simp only [Option.bind_some, nr0, nr1, s_10, s_n10, s_n00, s_a, s_b, s_c, s_d, s_e, ↓reduceIte]
  rw [X, b2, g36_ok b1]
  by_cases hD : cD (b p) = true
  · rw [if_pos hD, if_pos hD]
    rfl
  rw [if_neg hD, if_neg hD]
  try simp only [Option.bind_some, nr0, nr1, s_10, s_n10, s_n00, s_a, s_b, s_c, s_d, s_e, ↓reduceIte]
  rw [X, b2, g38_ok b1]
  by_cases hS : cS (b p) = true
  · rw [if_pos hS, if_pos hS]
    rfl
  · rw [if_neg hS, if_neg hS]
    rfl
theorem lexM_in {n : Nat} {b : Nat → Nat} {I M : Mem} {p f : Nat} (hT : TX n b I M) (h8 : M 20 18 = nI p) (hp : p < n) : l_115_8 (f + 1) M = if b p = 10 ∨ b p = 32 then l_115_8 f (mm_up M 20 18 (nI (p + 1))) else if cL (b p) = true then l_115_83 5000 (nI (b p)) (mm_up M 20 19 (nI p)) else if cD (b p) = true then l_115_144 5000 (nI (b p)) (mm_up (mm_up M 20 19 (nI p)) 20 20 0) else if cS (b p) = true then some (mm_up (mm_up (mm_up M 20 19 (nI p)) 20 19 (nI (p + 1))) 20 17 (nI (b p))) else some (mm_up (mm_up (mm_up M 20 19 (nI p)) 20 19 (nI (p + 1))) 20 17 3) := by
  have hn := hT.1
  obtain ⟨b1, b2, b3⟩ := hT.2.2.2 p hp
  have e16 := g116_in hT hp
  have eq : ∀ c, c < 128 → (nI (b p) = nI c ↔ b p = c) := fun c hc => nI_eq (by omega) (by omega)
  rw [l_115_8, h8, e16, nI_1]
  try simp only [Option.bind_some, nr0, nr1, s_10, s_n10, s_n00, s_a, s_b, s_c, s_d, s_e, ↓reduceIte]
  by_cases c10 : b p = 10
  · rw [if_pos (show nI (b p) = (10 : Int32) from (eq 10 (by omega)).mpr c10), if_pos (Or.inl c10)]
  rw [if_neg (show ¬ nI (b p) = (10 : Int32) from fun q => c10 ((eq 10 (by omega)).mp q))]
  try simp only [Option.bind_some, nr0, nr1, s_10, s_n10, s_n00, s_a, s_b, s_c, s_d, s_e, ↓reduceIte]
  by_cases c32 : b p = 32
  · rw [if_pos (show nI (b p) = (32 : Int32) from (eq 32 (by omega)).mpr c32), if_pos (Or.inr c32)]
  rw [if_neg (show ¬ nI (b p) = (32 : Int32) from fun q => c32 ((eq 32 (by omega)).mp q)), if_neg (fun q => q.elim c10 c32), show g_116 (nI p) (mm_up M 20 19 (nI p)) = some (nI (b p)) from e16]
  try simp only [Option.bind_some, nr0, nr1, s_10, s_n10, s_n00, s_a, s_b, s_c, s_d, s_e, ↓reduceIte]
  rw [if_pos (nI_pos' (by omega)), g117_ok b1]
  by_cases hL : cL (b p) = true
  · rw [if_pos hL, if_pos hL]
    rfl
  rw [if_neg hL, if_neg hL]
  try simp only [Option.bind_some, nr0, nr1, s_10, s_n10, s_n00, s_a, s_b, s_c, s_d, s_e, ↓reduceIte]
  rw [g118_ok b1]
  by_cases hD : cD (b p) = true
  · rw [if_pos hD, if_pos hD]
    rfl
  rw [if_neg hD, if_neg hD]
  try simp only [Option.bind_some, nr0, nr1, s_10, s_n10, s_n00, s_a, s_b, s_c, s_d, s_e, ↓reduceIte]
  have es : cS (b p) = true ↔ b p = 58 ∨ b p = 59 ∨ b p = 61 ∨ b p = 38 ∨ b p = 40 ∨ b p = 41 := by unfold cS; exact decide_eq_true_iff
  by_cases h58 : b p = 58
  · rw [if_pos (show nI (b p) = (58 : Int32) from (eq 58 (by omega)).mpr h58), if_pos (es.mpr (Or.inl h58))]
  rw [if_neg (show ¬ nI (b p) = (58 : Int32) from fun q => h58 ((eq 58 (by omega)).mp q))]
  by_cases h59 : b p = 59
  · rw [if_pos (show nI (b p) = (59 : Int32) from (eq 59 (by omega)).mpr h59), if_pos (es.mpr (Or.inr (Or.inl h59)))]
  rw [if_neg (show ¬ nI (b p) = (59 : Int32) from fun q => h59 ((eq 59 (by omega)).mp q))]
  by_cases h61 : b p = 61
  · rw [if_pos (show nI (b p) = (61 : Int32) from (eq 61 (by omega)).mpr h61), if_pos (es.mpr (Or.inr (Or.inr (Or.inl h61))))]
  rw [if_neg (show ¬ nI (b p) = (61 : Int32) from fun q => h61 ((eq 61 (by omega)).mp q))]
  by_cases h38 : b p = 38
  · rw [if_pos (show nI (b p) = (38 : Int32) from (eq 38 (by omega)).mpr h38), if_pos (es.mpr (Or.inr (Or.inr (Or.inr (Or.inl h38)))))]
  rw [if_neg (show ¬ nI (b p) = (38 : Int32) from fun q => h38 ((eq 38 (by omega)).mp q))]
  by_cases h40 : b p = 40
  · rw [if_pos (show nI (b p) = (40 : Int32) from (eq 40 (by omega)).mpr h40), if_pos (es.mpr (Or.inr (Or.inr (Or.inr (Or.inr (Or.inl h40))))))]
  rw [if_neg (show ¬ nI (b p) = (40 : Int32) from fun q => h40 ((eq 40 (by omega)).mp q))]
  by_cases h41 : b p = 41
  · rw [if_pos (show nI (b p) = (41 : Int32) from (eq 41 (by omega)).mpr h41), if_pos (es.mpr (Or.inr (Or.inr (Or.inr (Or.inr (Or.inr (h41)))))))]
  rw [if_neg (show ¬ nI (b p) = (41 : Int32) from fun q => h41 ((eq 41 (by omega)).mp q))]
  rw [if_neg (fun q => by rcases es.mp q with k | k | k | k | k | k <;> contradiction)]
set_option maxHeartbeats 1000000 in
theorem lex_l {n : Nat} {b : Nat → Nat} : ∀ (d p f f' : Nat) (I M : Mem), p + d = n → d < f → d < f' → TX n b I M → I 2 4 = nI p → M 20 18 = nI p → ∃ (k p' q v : Nat) (I' M' : Mem), l_34_0 f I = some I' ∧ l_115_8 f' M = some M' ∧ LX n b k p' q v I' M' ∧ FxC I I' ∧ FxM M M' := by
  intro d
  induction d with
  | zero =>
    intro p f f' I M hp hf hf' hT h4 h8
    obtain ⟨f, rfl⟩ : ∃ m', f = m' + 1 := ⟨f - 1, by omega⟩
    obtain ⟨f', rfl⟩ : ∃ m', f' = m' + 1 := ⟨f' - 1, by omega⟩
    have hn := hT.1
    have hp : p = n := by omega
    subst hp
    refine ⟨4, p, p, 0, mm_up (mm_up I 2 3 (nI p)) 2 2 4, mm_up (mm_up M 20 19 (nI p)) 20 17 0, ?_, ?_, ⟨rfl, h8, h4, rfl, Nat.le_refl _, Nat.le_refl _, Or.inr (Or.inr (Or.inr (Or.inr ⟨rfl, rfl, rfl⟩)))⟩, FxC_t (FxC_u (by decide)) (FxC_u (by decide)), FxM_t (FxM_u (by decide)) (FxM_u (by decide))⟩
    · rw [l_34_0, hT.2.1, h4, if_pos (nI_le (Nat.le_refl _) (by omega)), if_neg (nI_nlt (Nat.le_refl _) (by omega))]
    · rw [l_115_8, h8, g116_end hT]
      try simp only [Option.bind_some, nr0, nr1, s_10, s_n10, s_n00, s_a, s_b, s_c, s_d, s_e, ↓reduceIte]
      try rw [g116_end hT]
      try simp only [Option.bind_some, nr0, nr1, s_10, s_n10, s_n00, s_a, s_b, s_c, s_d, s_e, ↓reduceIte]
      rw [show g_116 (nI p) (mm_up M 20 19 (nI p)) = some (-1) from g116_end hT]
      simp only [Option.bind_some, s_a, s_b, s_c, ↓reduceIte]
  | succ d ih =>
    intro p f f' I M hp hf hf' hT h4 h8
    obtain ⟨f, rfl⟩ : ∃ m', f = m' + 1 := ⟨f - 1, by omega⟩
    obtain ⟨f', rfl⟩ : ∃ m', f' = m' + 1 := ⟨f' - 1, by omega⟩
    have hn := hT.1
    have hpl : p < n := by omega
    rw [lexC_in hT h4 hpl, lexM_in hT h8 hpl]
    by_cases sp : b p = 10 ∨ b p = 32
    · rw [if_pos sp, if_pos sp]
      obtain ⟨k, p', q, v, I', M', e1, e2, e3, e4, e5⟩ := ih (p + 1) f f' (mm_up I 2 4 (nI (p + 1))) (mm_up M 20 18 (nI (p + 1))) (by omega) (by omega) (by omega) (TX_f hT (FxC_u (by decide)) (FxM_u (by decide))) up_same up_same
      exact ⟨k, p', q, v, I', M', e1, e2, e3, FxC_t (FxC_u (by decide)) e4, FxM_t (FxM_u (by decide)) e5⟩
    rw [if_neg sp, if_neg sp]
    by_cases hL : cL (b p) = true
    · rw [if_pos hL, if_pos hL]
      obtain ⟨q', I', M', e1, e2, e3, e4, e5, e6, e7, e8, e9, e10⟩ := word_l (x := nI (b p)) (n := n) (b := b) (n - p) p 5000 5000 (mm_up (mm_up I 2 3 (nI p)) 2 2 0) (mm_up M 20 19 (nI p)) (by omega) (by omega) (by omega) (TX_f hT (FxC_t (FxC_u (by decide)) (FxC_u (by decide))) (FxM_u (by decide))) h4 up_same
      have hq := e3.2 hpl hL
      refine ⟨0, p, q', 0, I', mm_up M' 20 17 1, e1, e2, ⟨by rw [e8 3 (by decide)]; rfl, ?_, e5, ?_, by omega, e4, Or.inl ⟨rfl, by rw [e8 2 (by decide)]; rfl, rfl, hq, hL⟩⟩, ⟨fun a ha => by rw [e7 a ha, mm_up_ne ha, mm_up_ne ha], by rw [e8 1 (by decide)]; rfl⟩, ⟨fun a ha => by rw [mm_up_ne ha, e9 a ha, mm_up_ne ha], fun a ha => by rw [up_other (by omega), e10 a (by omega), up_other (by omega)]⟩⟩
      · show M' 20 18 = _
        rw [e10 18 (by decide)]
        exact h8
      · exact e6
    rw [if_neg hL, if_neg hL]
    by_cases hD : cD (b p) = true
    · rw [if_pos hD, if_pos hD]
      obtain ⟨q', v', I', M', e1, e2, e3, e4, e5, e6, e7, e8, e9, e10, e11, e12, e13⟩ := numb_l (x := nI (b p)) (n := n) (b := b) (n - p) p 0 5000 5000 (mm_up (mm_up (mm_up I 2 3 (nI p)) 2 2 1) 2 5 0) (mm_up (mm_up M 20 19 (nI p)) 20 20 0) (by omega) (by omega) (by omega) (TX_f hT (FxC_t (FxC_u (by decide)) (FxC_t (FxC_u (by decide)) (FxC_u (by decide)))) (FxM_t (FxM_u (by decide)) (FxM_u (by decide)))) h4 rfl (by omega) rfl rfl
      refine ⟨1, p, q', v', I', mm_up M' 20 17 2, e1, e2, ⟨by rw [e11 3 (by decide) (by decide)]; rfl, ?_, e5, e6, by omega, e4, Or.inr (Or.inl ⟨rfl, by rw [e11 2 (by decide) (by decide)]; rfl, rfl, e7, e8, e9⟩)⟩, ⟨fun a ha => by rw [e10 a ha, mm_up_ne ha, mm_up_ne ha, mm_up_ne ha], by rw [e11 1 (by decide) (by decide)]; rfl⟩, ⟨fun a ha => by rw [mm_up_ne ha, e12 a ha, mm_up_ne ha, mm_up_ne ha], fun a ha => by rw [up_other (by omega), e13 a (by omega) (by omega), up_other (by omega), up_other (by omega)]⟩⟩
      show M' 20 18 = _
      rw [e13 18 (by decide) (by decide)]
      exact h8
    rw [if_neg hD, if_neg hD]
    by_cases hS : cS (b p) = true
    · rw [if_pos hS, if_pos hS]
      exact ⟨2, p, p + 1, 0, _, _, rfl, rfl, ⟨rfl, h8, rfl, rfl, by omega, by omega, Or.inr (Or.inr (Or.inl ⟨rfl, rfl, hpl, rfl, hS⟩))⟩, FxC_t (FxC_u (by decide)) (FxC_t (FxC_u (by decide)) (FxC_u (by decide))), FxM_t (FxM_u (by decide)) (FxM_t (FxM_u (by decide)) (FxM_u (by decide)))⟩
    · rw [if_neg hS, if_neg hS]
      exact ⟨3, p, p + 1, 0, _, _, rfl, rfl, ⟨rfl, h8, rfl, rfl, by omega, by omega, Or.inr (Or.inr (Or.inr (Or.inl ⟨rfl, rfl, rfl⟩)))⟩, FxC_t (FxC_u (by decide)) (FxC_t (FxC_u (by decide)) (FxC_u (by decide))), FxM_t (FxM_u (by decide)) (FxM_t (FxM_u (by decide)) (FxM_u (by decide)))⟩
theorem g34_l (I : Mem) : g_34 I = l_34_0 5001 I := rfl
/-- the next lexeme -/
theorem lex_ok {n : Nat} {b : Nat → Nat} {I M : Mem} {q : Nat} (hT : TX n b I M) (h4 : I 2 4 = nI q) (h9 : M 20 19 = nI q) (hq : q ≤ n) : ∃ (k p' q' v : Nat) (I' M' : Mem), g_34 I = some I' ∧ g_115 M = some M' ∧ LX n b k p' q' v I' M' ∧ FxC I I' ∧ FxM M M' := by
  have hn := hT.1
  obtain ⟨k, p', q', v, I', M', e1, e2, e3, e4, e5⟩ := lex_l (n - q) q 5001 5000 I (mm_up M 20 18 (M 20 19)) (by omega) (by omega) (by omega) (TX_f hT (FxC_r I) (FxM_u (by decide))) h4 (by show M 20 19 = _; exact h9)
  exact ⟨k, p', q', v, I', M', by rw [g34_l]; exact e1, e2, e3, e4, FxM_t (FxM_u (by decide)) e5⟩
end MMAF
