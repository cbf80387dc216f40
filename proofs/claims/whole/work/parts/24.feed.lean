/-! THE PAIRS feed, again and fences (written by wip/whole/gen/feed_part.py). -/
section MMX
/-- what each piece of INV looks at -/
theorem tP_c {I M J N : Mem} (h : tP I M) (hc : ∀ a, 4 ≤ a → a ≤ 11 → J a = I a) (hm : ∀ a, 22 ≤ a → a ≤ 28 → N a = M a) (hf : ∀ b, 5 ≤ b → b ≤ 9 → N 20 b = M 20 b) : tP J N := by
  obtain ⟨t, a, m, c, ow, ⟨p0, p1, p2, p3, p4, p5, p6, p7⟩, p8⟩ := h
  refine ⟨t, a, m, c, ow, ⟨p0, ?_, ?_, ?_, ?_, ?_, p6, ?_⟩, ?_⟩
  · rw [hc 4 (by decide) (by decide), hf 6 (by decide) (by decide)]; exact p1
  · rw [hc 4 (by decide) (by decide), hf 7 (by decide) (by decide)]; exact p2
  · rw [hc 4 (by decide) (by decide), hf 8 (by decide) (by decide)]; exact p3
  · rw [hc 4 (by decide) (by decide), hf 9 (by decide) (by decide)]; exact p4
  · intro k hk
    unfold rA
    rw [hc 5 (by decide) (by decide), hc 6 (by decide) (by decide), hc 7 (by decide) (by decide), hc 8 (by decide) (by decide), hm 22 (by decide) (by decide), hm 23 (by decide) (by decide), hm 24 (by decide) (by decide), hm 25 (by decide) (by decide)]
    exact p5 k hk
  · intro k hk
    unfold rTm
    rw [hc 9 (by decide) (by decide), hc 10 (by decide) (by decide), hc 11 (by decide) (by decide), hm 26 (by decide) (by decide), hm 27 (by decide) (by decide), hm 28 (by decide) (by decide)]
    exact p7 k hk
  · rw [hf 5 (by decide) (by decide)]; exact p8
theorem tT_c {I M J N : Mem} (h : tT I M) (h1 : J 2 1 = I 2 1) (h2 : J 3 = I 3) (h3 : N 20 1 = M 20 1) (h4 : N 21 = M 21) : tT J N := by
  unfold tT
  rw [h1, h2, h3, h4]
  exact h
theorem tE_c {I M J N : Mem} (h : tE I M) (h1 : J 12 = I 12) (h2 : J 13 = I 13) (h3 : N 20 21 = M 20 21) (h4 : N 29 = M 29) : tE J N := by
  unfold tE
  rw [h1, h2, h3, h4]
  exact h
theorem tO_c {I M J N : Mem} (h : tO I M) (h1 : J 18 = I 18) (h2 : J 19 = I 19) (h3 : N 20 23 = M 20 23) (h4 : N 30 = M 30) : tO J N := by
  unfold tO
  rw [h1, h2, h3, h4]
  exact h
theorem tS_c {I M J N : Mem} (h : tS I M) (h1 : J 16 = I 16) (h2 : J 17 = I 17) (h3 : ∀ b, 25 ≤ b → N 20 b = M 20 b) (h4 : N 31 = M 31) : tS J N := by
  unfold tS SI
  rw [h1, h2, h4, h3 29 (by decide), h3 28 (by decide), h3 25 (by decide), h3 27 (by decide), h3 26 (by decide)]
  exact h
/-- what the class writes of a word, and what the reference writes -/
def sb (x s : Int32) : Int32 := (x.toUInt32 >>> (s.toUInt32 &&& Int32.toUInt32 31)).toInt32.toInt8.toInt32.toInt8.toInt32
theorem toNat8 (z : Int32) : z.toInt8.toBitVec.toNat = z.toBitVec.toNat % 256 := by
  show (z.toBitVec.signExtend 8).toNat = _
  rw [BitVec.signExtend_eq_setWidth_of_le _ (by decide), BitVec.toNat_setWidth]
theorem eq8 {x y : Int32} (h : x.toBitVec.toNat % 256 = y.toBitVec.toNat % 256) : x.toInt8 = y.toInt8 := by
  apply Int8.toBitVec_inj.mp
  apply BitVec.eq_of_toNat_eq
  rw [toNat8, toNat8, h]
theorem int_or (x : Int32) : x.toBitVec.toNat < 4294967296 ∧ (x.toInt = (x.toBitVec.toNat : Int) ∨ x.toInt = (x.toBitVec.toNat : Int) - 4294967296) := by
  refine ⟨x.toBitVec.isLt, ?_⟩
  have h : x.toInt = x.toBitVec.toInt := rfl
  rw [h, BitVec.toInt_eq_toNat_cond]
  split
  · exact Or.inl rfl
  · exact Or.inr rfl
theorem sb_byt (x : Int32) (s : Nat) (hs : s = 24 ∨ s = 16 ∨ s = 8 ∨ s = 0) : byt (sb x (nI s)) ((x >>> (nI s &&& 31)) &&& 255) := by
  have e1 := pk_and (x >>> (nI s &&& 31)) (m := 255) 8 (by decide)
  refine ⟨(x >>> (nI s &&& 31)).toBitVec.toNat % 2 ^ 8, Nat.mod_lt _ (by decide), e1, ?_⟩
  unfold sb
  rw [Int8.toInt8_toInt32]
  congr 1
  apply eq8
  rw [pk_tn (n := (x >>> (nI s &&& 31)).toBitVec.toNat % 2 ^ 8) (by have := Nat.mod_lt (x >>> (nI s &&& 31)).toBitVec.toNat (y := 2 ^ 8) (by decide); omega)]
  have k1 := int_or x
  have k2 := int_or (x >>> (nI s &&& 31))
  rcases hs with h | h | h | h
  · subst h
    have k3 := pk_ushr x (nI 24) 24 (by decide)
    have k4 := pk_shr x (nI 24 &&& 31) 24 (by decide)
    rw [Int.shiftRight_eq_div_pow] at k4
    omega
  · subst h
    have k3 := pk_ushr x (nI 16) 16 (by decide)
    have k4 := pk_shr x (nI 16 &&& 31) 16 (by decide)
    rw [Int.shiftRight_eq_div_pow] at k4
    omega
  · subst h
    have k3 := pk_ushr x (nI 8) 8 (by decide)
    have k4 := pk_shr x (nI 8 &&& 31) 8 (by decide)
    rw [Int.shiftRight_eq_div_pow] at k4
    omega
  · subst h
    have k3 := pk_ushr x (nI 0) 0 (by decide)
    have k4 := pk_shr x (nI 0 &&& 31) 0 (by decide)
    rw [Int.shiftRight_eq_div_pow] at k4
    omega
/-- bytes behind the first n -/
def FD (I J : Mem) (n k : Nat) (B : Nat → Int32) : Prop := J 2 1 = nI (n + k) ∧ (∀ a, a ≠ 2 → a ≠ 3 → J a = I a) ∧ (∀ i, i < n → J 3 i = I 3 i) ∧ ∀ i, i < k → J 3 (n + i) = B i
theorem fd_step {I J : Mem} {n k : Nat} {B : Nat → Int32} (x : Int32) (s : Int32) (m : Nat) (h : FD I J n k B) (hn : n + k < 2048) (hs : ¬ s < 0) (hB : B k = sb x s) : ∃ J', FD I J' n (k + 1) B ∧ l_27_3 (m + 1) x s J = l_27_3 m x (s + (-8)) J' := by
  obtain ⟨h1, h2, h3, h4⟩ := h
  refine ⟨mm_up (mm_up J 3 (n + k) (sb x s)) 2 1 (nI (n + k) + 1), ⟨?_, ?_, ?_, ?_⟩, ?_⟩
  · show nI (n + k) + 1 = _
    rw [nI_1]
    rfl
  · intro a a1 a2
    rw [mm_up_ne a1, mm_up_ne a2, h2 a a1 a2]
  · intro i hi
    show mm_up J 3 (n + k) (sb x s) 3 i = _
    rw [up_other (by omega), h3 i hi]
  · intro i hi
    show mm_up J 3 (n + k) (sb x s) 3 (n + i) = _
    by_cases hk : i = k
    · rw [hk, up_same, hB]
    · rw [up_other (by omega), h4 i (by omega)]
  · rw [l_27_3, if_neg hs, if_neg (fun q => by rw [h1] at q; exact k_ge (b := 2048) (by rfl) (by rfl) hn (by omega) q), h1, ix_nI hn (by omega)]
    rfl
theorem fd_word {I J : Mem} {n k : Nat} {B : Nat → Int32} (x : Int32) (h : FD I J n k B) (hn : n + k + 4 ≤ 2048) (b0 : B k = sb x 24) (b1 : B (k + 1) = sb x 16) (b2 : B (k + 2) = sb x 8) (b3 : B (k + 3) = sb x 0) : ∃ J', FD I J' n (k + 4) B ∧ g_27 x J = some J' := by
  obtain ⟨J1, f1, e1⟩ := fd_step x 24 4999 h (by omega) (by decide) b0
  obtain ⟨J2, f2, e2⟩ := fd_step x 16 4998 f1 (by omega) (by decide) b1
  obtain ⟨J3, f3, e3⟩ := fd_step x 8 4997 f2 (by omega) (by decide) b2
  obtain ⟨J4, f4, e4⟩ := fd_step x 0 4996 f3 (by omega) (by decide) b3
  refine ⟨J4, f4, ?_⟩
  unfold g_27
  exact e1.trans (e2.trans (e3.trans (e4.trans (by rw [l_27_3, if_pos (by decide)]))))
def wd (x1 x2 x3 x4 : Int32) (k : Nat) : Int32 := if k < 4 then x1 else if k < 8 then x2 else if k < 12 then x3 else x4
def mb (x1 x2 x3 x4 : Int32) (k : Nat) : Int32 := ((wd x1 x2 x3 x4 k) >>> (((24 : Int32) - ((8 : Int32) * (nI k - nI k / (4 : Int32) * (4 : Int32)))) &&& 31)) &&& (255 : Int32)
def FM (I J : Mem) (n k : Nat) (C : Nat → Int32) : Prop := (∀ a, a ≠ 21 → J a = I a) ∧ (∀ i, i < n → J 21 i = I 21 i) ∧ ∀ i, i < k → J 21 (n + i) = C i
theorem fm_loop (x1 x2 x3 x4 : Int32) {I : Mem} {n : Nat} (hI : I 20 1 = nI n) (hn : n + 16 ≤ 2048) : ∀ (d k m : Nat) (J : Mem), k + d = 16 → d < m → FM I J n k (mb x1 x2 x3 x4) → ∃ J', FM I J' n 16 (mb x1 x2 x3 x4) ∧ l_108_27 m x1 x2 x3 x4 (nI k) J = some (nI (n + 16), mm_up J' 20 1 (nI (n + 16))) := by
  intro d
  induction d with
  | zero =>
    intro k m J hk hm hJ
    obtain ⟨m, rfl⟩ : ∃ m', m = m' + 1 := ⟨m - 1, by omega⟩
    have hk : k = 16 := by omega
    subst hk
    refine ⟨J, hJ, ?_⟩
    have e : J 20 1 = nI n := by rw [hJ.1 20 (by decide), hI]
    rw [l_108_27, if_pos (by decide), e, show nI n + (16 : Int32) = nI (n + 16) from nI_add n 16]
  | succ d ih =>
    intro k m J hk hm hJ
    obtain ⟨m, rfl⟩ : ∃ m', m = m' + 1 := ⟨m - 1, by omega⟩
    have e : J 20 1 + nI k = nI (n + k) := by rw [hJ.1 20 (by decide), hI, nI_add]
    have hs : FM I (mm_up J 21 (n + k) (mb x1 x2 x3 x4 k)) n (k + 1) (mb x1 x2 x3 x4) := by
      obtain ⟨j1, j2, j3⟩ := hJ
      refine ⟨fun a ha => by rw [mm_up_ne ha, j1 a ha], fun i hi => by rw [up_other (by omega), j2 i hi], fun i hi => ?_⟩
      by_cases hik : i = k
      · rw [hik, up_same]
      · rw [up_other (by omega), j3 i (by omega)]
    obtain ⟨J', f, e'⟩ := ih (k + 1) m _ (by omega) (by omega) hs
    refine ⟨J', f, ?_⟩
    rw [← e', l_108_27, if_neg (k_ge (b := 16) (by rfl) (by rfl) (by omega) (by omega))]
    by_cases c4 : k < 4
    · rw [if_neg (k_ge (b := 4) (by rfl) (by rfl) c4 (by omega)), e]
      unfold nz
      rw [if_neg (by decide), ix_nI (by omega) (by omega), nI_1]
      unfold mb wd
      rw [if_pos c4]
    · rw [if_pos (k_le (a := 4) (by rfl) (by rfl) (by omega) (by omega))]
      by_cases c8 : k < 8
      · rw [if_neg (k_ge (b := 8) (by rfl) (by rfl) c8 (by omega)), e]
        unfold nz
        rw [if_neg (by decide), ix_nI (by omega) (by omega), nI_1]
        unfold mb wd
        rw [if_neg c4, if_pos c8]
      · rw [if_pos (k_le (a := 8) (by rfl) (by rfl) (by omega) (by omega))]
        by_cases c12 : k < 12
        · rw [if_neg (k_ge (b := 12) (by rfl) (by rfl) c12 (by omega)), e]
          unfold nz
          rw [if_neg (by decide), ix_nI (by omega) (by omega), nI_1]
          unfold mb wd
          rw [if_neg c4, if_neg c8, if_pos c12]
        · rw [if_pos (k_le (a := 12) (by rfl) (by rfl) (by omega) (by omega)), e]
          unfold nz
          rw [if_neg (by decide), ix_nI (by omega) (by omega), nI_1]
          unfold mb wd
          rw [if_neg c4, if_neg c8, if_neg c12]
theorem mb_sh : ∀ k, k < 16 → (24 : Int32) - ((8 : Int32) * (nI k - nI k / (4 : Int32) * (4 : Int32))) = nI (24 - 8 * (k % 4)) := by decide +kernel
def cb (x1 x2 x3 x4 : Int32) (k : Nat) : Int32 := sb (wd x1 x2 x3 x4 k) (nI (24 - 8 * (k % 4)))
theorem cb_mb (x1 x2 x3 x4 : Int32) {k : Nat} (hk : k < 16) : byt (cb x1 x2 x3 x4 k) (mb x1 x2 x3 x4 k) := by
  unfold cb mb
  rw [mb_sh k hk]
  exact sb_byt _ _ (by omega)
set_option maxHeartbeats 1000000 in
theorem pr_0 : p_0 INV := by
  intro x1 x2 x3 x4 I LG ⟨hT, hF, hP, hE, hO, hS⟩
  obtain ⟨n, hn, t1, t2, t3⟩ := hT
  have e1 : I 2 1 + 16 = nI (n + 16) := by rw [t1]; exact nI_add n 16
  have e2 : I 20 1 + 16 = nI (n + 16) := by rw [t2]; exact nI_add n 16
  by_cases h : n + 16 ≤ 2048
  · have c1 : I 2 1 + 16 ≤ (2048 : Int32) := (cLe (b := 2048) e1 rfl (by omega) (by omega)).mpr h
    have c2 : I 20 1 + 16 ≤ (2048 : Int32) := (cLe (b := 2048) e2 rfl (by omega) (by omega)).mpr h
    have f0 : FD I I n 0 (cb x1 x2 x3 x4) := ⟨t1, fun _ _ _ => rfl, fun _ _ => rfl, fun i hi => absurd hi (Nat.not_lt_zero i)⟩
    obtain ⟨J1, f1, g1⟩ := fd_word x1 f0 (by omega) rfl rfl rfl rfl
    obtain ⟨J2, f2, g2⟩ := fd_word x2 f1 (by omega) rfl rfl rfl rfl
    obtain ⟨J3, f3, g3⟩ := fd_word x3 f2 (by omega) rfl rfl rfl rfl
    obtain ⟨J4, ⟨q1, q2, q3, q4⟩, g4⟩ := fd_word x4 f3 (by omega) rfl rfl rfl rfl
    have t2' : (mm_up J4 20 0 0) 20 1 = nI n := by
      show J4 20 1 = _
      rw [q2 20 (by decide) (by decide), t2]
    obtain ⟨K, ⟨m1, m2, m3⟩, k4⟩ := fm_loop x1 x2 x3 x4 t2' h 16 0 5000 (mm_up J4 20 0 0) (by omega) (by omega) ⟨fun _ _ => rfl, fun _ _ => rfl, fun i hi => absurd hi (Nat.not_lt_zero i)⟩
    have fr : ∀ a, a ≠ 2 → a ≠ 3 → a ≠ 20 → a ≠ 21 → mm_up K 20 1 (nI (n + 16)) a = I a := fun a a1 a2 a3 a4 => by rw [mm_up_ne a3, m1 a a4, mm_up_ne a3, q2 a a1 a2]
    have fr2 : ∀ b, b ≠ 0 → b ≠ 1 → mm_up K 20 1 (nI (n + 16)) 20 b = I 20 b := fun b b0 b1 => by rw [up_other b1, m1 20 (by decide), up_other b0, q2 20 (by decide) (by decide)]
    refine pw_ok (J := J4) (K := mm_up K 20 1 (nI (n + 16))) (r := nI (n + 16)) (LG := LG) ?_ ?_ ?_ ⟨⟨n + 16, h, ?_, ?_, ?_⟩, ?_, ?_, ?_, ?_, ?_⟩
    · unfold g_1 g_26
      rw [if_pos c1, g1]
      try simp only [Option.bind_some, nr0, nr1, s_10, s_n10, s_n00, s_a, s_b, s_c, s_d, s_e, ↓reduceIte]
      rw [g2]
      try simp only [Option.bind_some, nr0, nr1, s_10, s_n10, s_n00, s_a, s_b, s_c, s_d, s_e, ↓reduceIte]
      rw [g3]
      try simp only [Option.bind_some, nr0, nr1, s_10, s_n10, s_n00, s_a, s_b, s_c, s_d, s_e, ↓reduceIte]
      rw [g4]
      show some (0, 0, J4, mm_up LG 37 0 (J4 2 1).toInt64) = _
      rw [q1]
    · unfold g_108
      rw [q2 20 (by decide) (by decide), if_pos c2]
      exact k4
    · show K 20 0 = 0
      rw [m1 20 (by decide)]
      rfl
    · show K 2 1 = _
      rw [m1 2 (by decide)]
      exact q1
    · rfl
    · intro i hi
      show byt (K 3 i) (K 21 i)
      rw [m1 3 (by decide)]
      show byt (J4 3 i) (K 21 i)
      by_cases hi2 : i < n
      · rw [q3 i hi2, m2 i hi2]
        show byt (I 3 i) (J4 21 i)
        rw [q2 21 (by decide) (by decide)]
        exact t3 i hi2
      · obtain ⟨d, rfl⟩ : ∃ d, i = n + d := ⟨i - n, by omega⟩
        rw [q4 d (by omega), m3 d (by omega)]
        exact cb_mb x1 x2 x3 x4 (by omega)
    · unfold tF
      rw [fr 1 (by decide) (by decide) (by decide) (by decide), fr2 3 (by decide) (by decide), fr2 4 (by decide) (by decide)]
      exact hF
    · exact tP_c hP (fun a a1 a2 => fr a (by omega) (by omega) (by omega) (by omega)) (fun a a1 a2 => fr a (by omega) (by omega) (by omega) (by omega)) (fun b b1 b2 => fr2 b (by omega) (by omega))
    · exact tE_c hE (fr 12 (by decide) (by decide) (by decide) (by decide)) (fr 13 (by decide) (by decide) (by decide) (by decide)) (fr2 21 (by decide) (by decide)) (fr 29 (by decide) (by decide) (by decide) (by decide))
    · exact tO_c hO (fr 18 (by decide) (by decide) (by decide) (by decide)) (fr 19 (by decide) (by decide) (by decide) (by decide)) (fr2 23 (by decide) (by decide)) (fr 30 (by decide) (by decide) (by decide) (by decide))
    · exact tS_c hS (fr 16 (by decide) (by decide) (by decide) (by decide)) (fr 17 (by decide) (by decide) (by decide) (by decide)) (fun b b1 => fr2 b (by omega) (by omega)) (fr 31 (by decide) (by decide) (by decide) (by decide))
  · have c1 : ¬ I 2 1 + 16 ≤ (2048 : Int32) := fun q => h ((cLe (b := 2048) e1 rfl (by omega) (by omega)).mp q)
    have c2 : ¬ I 20 1 + 16 ≤ (2048 : Int32) := fun q => h ((cLe (b := 2048) e2 rfl (by omega) (by omega)).mp q)
    exact pw_ex (V := INV) (J := I) (K := mm_up (mm_up I 20 0 0) 20 0 1) (z := 0) (c := 1) (LG := LG) (by decide) (by unfold g_1 g_26; rw [if_neg c1]; rfl) (by unfold g_108; rw [if_neg c2]; rfl) rfl ⟨⟨n, hn, t1, t2, t3⟩, hF, hP, hE, hO, hS⟩

theorem ag_c {I : Mem} {p : Nat} (hp : p ≤ 448) (h18 : I 18 1 = nI p) : ∀ (d k m : Nat) (J : Mem), k + d = p → d < m → J 2 1 = nI k → (∀ a, a ≠ 2 → a ≠ 3 → J a = I a) → (∀ i, i < k → J 3 i = (I 19 i).toInt8.toInt32) → ∃ J', l_24_7 m (nI k) J = some J' ∧ J' 2 1 = nI p ∧ (∀ a, a ≠ 2 → a ≠ 3 → J' a = I a) ∧ ∀ i, i < p → J' 3 i = (I 19 i).toInt8.toInt32 := by
  intro d
  induction d with
  | zero =>
    intro k m J hk hm j1 j2 j3
    obtain ⟨m, rfl⟩ : ∃ m', m = m' + 1 := ⟨m - 1, by omega⟩
    have hk : k = p := by omega
    subst hk
    refine ⟨J, ?_, j1, j2, j3⟩
    rw [l_24_7, j2 18 (by decide) (by decide), h18, if_pos (nI_le (Nat.le_refl _) (by omega))]
  | succ d ih =>
    intro k m J hk hm j1 j2 j3
    obtain ⟨m, rfl⟩ : ∃ m', m = m' + 1 := ⟨m - 1, by omega⟩
    obtain ⟨J', f1, f2⟩ := ih (k + 1) m (mm_up (mm_up J 3 k (J 19 k).toInt8.toInt32) 2 1 (J 2 1 + 1)) (by omega) (by omega) (by show J 2 1 + 1 = _; rw [j1, nI_1]) (fun a a1 a2 => by rw [mm_up_ne a1, mm_up_ne a2, j2 a a1 a2]) (fun i hi => by
      show mm_up J 3 k (J 19 k).toInt8.toInt32 3 i = _
      by_cases hik : i = k
      · rw [hik, up_same, j2 19 (by decide) (by decide)]
      · rw [up_other hik, j3 i (by omega)])
    refine ⟨J', ?_, f2⟩
    rw [l_24_7, j2 18 (by decide) (by decide), h18, if_neg (nI_ge (by omega) (by omega)), if_neg (k_ge (b := 2048) (by rfl) (by rfl) (by omega) (by omega)), ix_nI (by omega) (by omega), ix_nI (by omega) (by omega), nI_1]
    exact f1
theorem ag_m {I : Mem} {p : Nat} (hp : p ≤ 448) (h23 : I 20 23 = nI p) : ∀ (d k m : Nat) (J : Mem), k + d = p → d < m → (∀ a, a ≠ 21 → J a = I a) → (∀ i, i < k → J 21 i = I 30 i) → ∃ J', l_162_7 m (nI k) J = some (nI p, mm_up J' 20 1 (nI p)) ∧ (∀ a, a ≠ 21 → J' a = I a) ∧ ∀ i, i < p → J' 21 i = I 30 i := by
  intro d
  induction d with
  | zero =>
    intro k m J hk hm j2 j3
    obtain ⟨m, rfl⟩ : ∃ m', m = m' + 1 := ⟨m - 1, by omega⟩
    have hk : k = p := by omega
    subst hk
    refine ⟨J, ?_, j2, j3⟩
    rw [l_162_7, j2 20 (by decide), h23, if_pos (nI_le (Nat.le_refl _) (by omega))]
  | succ d ih =>
    intro k m J hk hm j2 j3
    obtain ⟨m, rfl⟩ : ∃ m', m = m' + 1 := ⟨m - 1, by omega⟩
    obtain ⟨J', f1, f2⟩ := ih (k + 1) m (mm_up J 21 k (J 30 k)) (by omega) (by omega) (fun a a1 => by rw [mm_up_ne a1, j2 a a1]) (fun i hi => by
      by_cases hik : i = k
      · rw [hik, up_same, j2 30 (by decide)]
      · rw [up_other hik, j3 i (by omega)])
    refine ⟨J', ?_, f2⟩
    rw [l_162_7, j2 20 (by decide), h23, if_neg (nI_ge (by omega) (by omega)), ix_nI (by omega) (by omega), ix_nI (by omega) (by omega), nI_1]
    exact f1
theorem pr_15 : p_15 INV := by
  intro I ⟨hT, hF, hP, hE, hO, hS⟩
  obtain ⟨p, hp, o1, o2, o3⟩ := id hO
  obtain ⟨J, g1, q1, q2, q3⟩ := ag_c (I := I) hp o1 p 0 5000 (mm_up I 2 1 0) (by omega) (by omega) rfl (fun a a1 _ => mm_up_ne a1) (fun i hi => absurd hi (Nat.not_lt_zero i))
  have h23 : (mm_up J 20 0 0) 20 23 = nI p := by
    show J 20 23 = _
    rw [q2 20 (by decide) (by decide), o2]
  obtain ⟨K, g2, m1, m2⟩ := ag_m (I := mm_up J 20 0 0) hp h23 p 0 5000 (mm_up J 20 0 0) (by omega) (by omega) (fun _ _ => rfl) (fun i hi => absurd hi (Nat.not_lt_zero i))
  have fr : ∀ a, a ≠ 2 → a ≠ 3 → a ≠ 20 → a ≠ 21 → mm_up K 20 1 (nI p) a = I a := fun a a1 a2 a3 a4 => by rw [mm_up_ne a3, m1 a a4, mm_up_ne a3, q2 a a1 a2]
  have fr2 : ∀ b, b ≠ 0 → b ≠ 1 → mm_up K 20 1 (nI p) 20 b = I 20 b := fun b b0 b1 => by rw [up_other b1, m1 20 (by decide), up_other b0, q2 20 (by decide) (by decide)]
  refine ⟨(J 2 1, J), (nI p, mm_up K 20 1 (nI p)), ?_, g2, q1, ⟨⟨p, by omega, ?_, rfl, ?_⟩, ?_, ?_, ?_, ?_, ?_⟩⟩
  · unfold g_23 g_24
    rw [show l_24_7 5000 0 (mm_up I 2 1 0) = some J from g1]
    rfl
  · show K 2 1 = _
    rw [m1 2 (by decide)]
    exact q1
  · intro i hi
    show byt (K 3 i) (K 21 i)
    rw [m1 3 (by decide), m2 i hi]
    show byt (J 3 i) (J 30 i)
    rw [q3 i hi, q2 30 (by decide) (by decide)]
    obtain ⟨b, hb, e1, e2⟩ := o3 i hi
    rw [e1, e2]
    exact ⟨b, by omega, rfl, rfl⟩
  · show tF (mm_up K 20 1 (nI p)) (mm_up K 20 1 (nI p))
    unfold tF
    rw [fr 1 (by decide) (by decide) (by decide) (by decide), fr2 3 (by decide) (by decide), fr2 4 (by decide) (by decide)]
    exact hF
  · exact tP_c hP (fun a a1 a2 => fr a (by omega) (by omega) (by omega) (by omega)) (fun a a1 a2 => fr a (by omega) (by omega) (by omega) (by omega)) (fun b b1 b2 => fr2 b (by omega) (by omega))
  · exact tE_c hE (fr 12 (by decide) (by decide) (by decide) (by decide)) (fr 13 (by decide) (by decide) (by decide) (by decide)) (fr2 21 (by decide) (by decide)) (fr 29 (by decide) (by decide) (by decide) (by decide))
  · exact tO_c hO (fr 18 (by decide) (by decide) (by decide) (by decide)) (fr 19 (by decide) (by decide) (by decide) (by decide)) (fr2 23 (by decide) (by decide)) (fr 30 (by decide) (by decide) (by decide) (by decide))
  · exact tS_c hS (fr 16 (by decide) (by decide) (by decide) (by decide)) (fr 17 (by decide) (by decide) (by decide) (by decide)) (fun b b1 => fr2 b (by omega) (by omega)) (fr 31 (by decide) (by decide) (by decide) (by decide))
/-- gaps -/
def gp (a : Nat) (f g : Nat → Int32) (k : Nat) : Nat := if k + 1 < a ∧ f k = f (k + 1) ∧ ¬ g k = 2 ∧ ¬ g (k + 1) = 2 then 1 else 0
def gs (a : Nat) (f g : Nat → Int32) : Nat → Nat
  | 0 => 0
  | k + 1 => gs a f g k + gp a f g k
theorem gp_le (a : Nat) (f g : Nat → Int32) (k : Nat) : gp a f g k ≤ 1 := by
  unfold gp
  split <;> omega
theorem gs_le (a : Nat) (f g : Nat → Int32) (k : Nat) : gs a f g k ≤ k := by
  induction k with
  | zero => exact Nat.le_refl _
  | succ k ih => have := gp_le a f g k; unfold gs; omega
theorem gp_m {a : Nat} {M : Mem} (ha : a ≤ 24) (h : M 20 7 = nI a) {k : Nat} (hk : k < a) : g_146 (nI k) M = some (nI (gp a (M 22) (M 23) k)) := by
  unfold g_146 gp
  rw [h, nI_1]
  by_cases h1 : k + 1 < a
  · rw [if_neg (nI_ge h1 (by omega)), ix_nI (by omega) (by omega), ix_nI (by omega) (by omega)]
    by_cases h2 : M 22 k = M 22 (k + 1)
    · rw [if_pos h2, ix_nI (by omega) (by omega)]
      by_cases h3 : M 23 k = 2
      · rw [if_pos h3, if_neg (fun q => q.2.2.1 h3)]; rfl
      · rw [if_neg h3, ix_nI (by omega) (by omega)]
        by_cases h4 : M 23 (k + 1) = 2
        · rw [if_pos h4, if_neg (fun q => q.2.2.2 h4)]; rfl
        · rw [if_neg h4, if_pos ⟨h1, h2, h3, h4⟩]; rfl
    · rw [if_neg h2, if_neg (fun q => h2 q.2.1)]; rfl
  · rw [if_pos (nI_le (by omega) (by omega)), if_neg (fun q => h1 q.1)]; rfl
theorem gp_c {a : Nat} {I M : Mem} (ha : a ≤ 24) (h : I 4 1 = nI a) (h5 : ∀ k, k < a → I 5 k = M 22 k) (h6 : ∀ k, k < a → I 6 k = M 23 k) {k : Nat} (hk : k < a) : g_85 (nI k) I = some (nI (gp a (M 22) (M 23) k)) := by
  unfold g_85 gp
  rw [if_neg (nI_pos (by omega)), h, nI_1]
  by_cases h1 : k + 1 < a
  · rw [if_neg (nI_ge h1 (by omega)), ix_nI (by omega) (by omega), ix_nI (by omega) (by omega), h5 k hk, h5 (k + 1) h1]
    by_cases h2 : M 22 k = M 22 (k + 1)
    · rw [if_pos h2, ix_nI (by omega) (by omega), h6 k hk]
      by_cases h3 : M 23 k = 2
      · rw [if_pos h3, if_neg (fun q => q.2.2.1 h3)]; rfl
      · rw [if_neg h3, ix_nI (by omega) (by omega), h6 (k + 1) h1]
        by_cases h4 : M 23 (k + 1) = 2
        · rw [if_pos h4, if_neg (fun q => q.2.2.2 h4)]; rfl
        · rw [if_neg h4, if_pos ⟨h1, h2, h3, h4⟩]; rfl
    · rw [if_neg h2, if_neg (fun q => h2 q.2.1)]; rfl
  · rw [if_pos (nI_le (by omega) (by omega)), if_neg (fun q => h1 q.1)]; rfl
theorem gs_m {a : Nat} {M : Mem} (ha : a ≤ 24) (h : M 20 7 = nI a) : ∀ (d k n : Nat), k + d = a → d < n → l_145_4 n (nI (gs a (M 22) (M 23) k)) (nI k) M = some (nI (gs a (M 22) (M 23) a)) := by
  intro d
  induction d with
  | zero =>
    intro k n hk hn
    obtain ⟨n, rfl⟩ : ∃ m', n = m' + 1 := ⟨n - 1, by omega⟩
    have hk : k = a := by omega
    subst hk
    rw [l_145_4, h, if_pos (nI_le (Nat.le_refl _) (by omega))]
  | succ d ih =>
    intro k n hk hn
    obtain ⟨n, rfl⟩ : ∃ m', n = m' + 1 := ⟨n - 1, by omega⟩
    have e0 : gs a (M 22) (M 23) (k + 1) = gs a (M 22) (M 23) k + gp a (M 22) (M 23) k := rfl
    rw [l_145_4, h, if_neg (nI_ge (by omega) (by omega)), gp_m ha h (by omega)]
    try simp only [Option.bind_some, nr0, nr1, s_10, s_n10, s_n00, s_a, s_b, s_c, s_d, s_e, ↓reduceIte]
    have e := ih (k + 1) n (by omega) (by omega)
    have g1 := gp_le a (M 22) (M 23) k
    by_cases h0 : gp a (M 22) (M 23) k = 0
    · rw [if_pos (by rw [h0]; rfl), nI_1, show nI (gs a (M 22) (M 23) k) + 0 = nI (gs a (M 22) (M 23) (k + 1)) from by rw [e0, h0]; exact nI_add _ 0]
      exact e
    · have h1 : gp a (M 22) (M 23) k = 1 := by omega
      rw [if_neg (by rw [h1]; decide), nI_1, nI_1, show gs a (M 22) (M 23) k + 1 = gs a (M 22) (M 23) (k + 1) from by omega]
      exact e
theorem gs_c {a : Nat} {I M : Mem} (ha : a ≤ 24) (h : I 4 1 = nI a) (h5 : ∀ k, k < a → I 5 k = M 22 k) (h6 : ∀ k, k < a → I 6 k = M 23 k) : ∀ (d k n : Nat), k + d = a → d < n → l_84_4 n (nI (gs a (M 22) (M 23) k)) (nI k) I = some (nI (gs a (M 22) (M 23) a)) := by
  intro d
  induction d with
  | zero =>
    intro k n hk hn
    obtain ⟨n, rfl⟩ : ∃ m', n = m' + 1 := ⟨n - 1, by omega⟩
    have hk : k = a := by omega
    subst hk
    rw [l_84_4, h, nI_1, if_pos (nI_le (by omega) (by omega))]
  | succ d ih =>
    intro k n hk hn
    obtain ⟨n, rfl⟩ : ∃ m', n = m' + 1 := ⟨n - 1, by omega⟩
    have e0 : gs a (M 22) (M 23) (k + 1) = gs a (M 22) (M 23) k + gp a (M 22) (M 23) k := rfl
    by_cases hl : k + 1 = a
    · have g0 : gp a (M 22) (M 23) k = 0 := by unfold gp; rw [if_neg (fun q => by have := q.1; omega)]
      have e : gs a (M 22) (M 23) a = gs a (M 22) (M 23) k := by rw [hl] at e0; omega
      rw [l_84_4, h, nI_1, if_pos (nI_le (by omega) (by omega)), e]
    rw [l_84_4, h, nI_1, if_neg (nI_ge (by omega) (by omega)), gp_c ha h h5 h6 (by omega)]
    try simp only [Option.bind_some, nr0, nr1, s_10, s_n10, s_n00, s_a, s_b, s_c, s_d, s_e, ↓reduceIte]
    have e := ih (k + 1) n (by omega) (by omega)
    have g1 := gp_le a (M 22) (M 23) k
    by_cases h0 : gp a (M 22) (M 23) k = 0
    · rw [if_pos (by rw [h0]; rfl), show gs a (M 22) (M 23) k = gs a (M 22) (M 23) (k + 1) from by omega]
      exact e
    · have h1 : gp a (M 22) (M 23) k = 1 := by omega
      rw [if_neg (by rw [h1]; decide), nI_1, show gs a (M 22) (M 23) k + 1 = gs a (M 22) (M 23) (k + 1) from by omega]
      exact e
theorem pr_owner {t a m c : Nat} {ow : Nat → Nat} {I M : Mem} (h : PR t a m c ow I M) : (∀ k, k < a → I 5 k = M 22 k) ∧ (∀ k, k < a → I 6 k = M 23 k) := by
  obtain ⟨p0, p1, p2, p3, p4, p5, p6, p7⟩ := h
  exact ⟨fun k hk => by rw [(p5 k hk).2.1, (p5 k hk).2.2.1], fun k hk => (p5 k hk).2.2.2.1⟩
theorem g84_ok {t a m c : Nat} {ow : Nat → Nat} {I M : Mem} (h : PR t a m c ow I M) : g_84 I = some (nI (gs a (M 22) (M 23) a)) := by
  obtain ⟨h5, h6⟩ := pr_owner h
  exact gs_c h.1.2.1 h.2.2.1.1 h5 h6 a 0 5000 (by omega) (by have := h.1.2.1; omega)
theorem g145_ok {a : Nat} {M : Mem} (ha : a ≤ 24) (h : M 20 7 = nI a) : g_145 M = some (nI (gs a (M 22) (M 23) a)) := gs_m ha h a 0 5000 (by omega) (by omega)
theorem g60_ok {t a m c : Nat} {ow : Nat → Nat} {I M : Mem} (h : PR t a m c ow I M) : g_60 I = some (if t = 0 then 1 else 0) := by
  have ht := h.1.1
  unfold g_60
  rw [h.2.1.1]
  by_cases h0 : t = 0
  · rw [if_pos (by rw [h0]; rfl), if_pos h0]
  · rw [if_neg (nI_ne0 (by omega) (by omega)), if_neg h0]
set_option maxHeartbeats 1000000 in
theorem pr_8 : p_8 INV := by
  intro I LG ⟨hT, hF, hP, hE, hO, hS⟩
  obtain ⟨t, a, m, c, ow, h, h5⟩ := id hP
  have hb := h.1
  have e1 := g84_ok h
  have e2 := g60_ok h
  have e3 : g_145 (mm_up I 20 0 0) = some (nI (gs a (I 22) (I 23) a)) := g145_ok (M := mm_up I 20 0 0) hb.2.1 h.2.2.1.2
  have gl := gs_le a (I 22) (I 23) a
  by_cases h0 : t = 0
  · rw [if_pos h0] at e2 h5
    exact pw_ex (V := INV) (J := I) (K := mm_up (mm_up I 20 0 0) 20 0 1) (z := 0) (c := 1) (LG := LG) (by decide) (by unfold g_9 g_83; rw [e1]; try simp only [Option.bind_some, nr0, nr1, s_10, s_n10, s_n00, s_a, s_b, s_c, s_d, s_e, ↓reduceIte]; rw [e2]; rfl) (by unfold g_144; rw [if_pos h5]; rfl) rfl ⟨hT, hF, hP, hE, hO, hS⟩
  rw [if_neg h0] at e2 h5
  have h5' : ¬ I 20 5 = 0 := by rw [h5]; decide
  by_cases h1 : gs a (I 22) (I 23) a ≤ 10
  · have c1 : nI (gs a (I 22) (I 23) a) ≤ 10 := k_le (b := 10) (by rfl) (by rfl) h1 (by omega)
    refine pw_ok (J := mm_up (mm_up (mm_up (mm_up I 16 1 0) 16 2 0) 16 3 0) 16 4 (nI (gs a (I 22) (I 23) a))) (K := mm_up (mm_up (mm_up (mm_up (mm_up (mm_up (mm_up (mm_up (mm_up (mm_up I 16 1 0) 16 2 0) 16 3 0) 16 4 (nI (gs a (I 22) (I 23) a))) 20 0 0) 20 26 (nI (gs a (I 22) (I 23) a))) 20 25 1) 20 29 0) 20 28 0) 20 27 0) (r := nI (gs a (I 22) (I 23) a)) (LG := LG) ?_ ?_ rfl ⟨hT, hF, hP, hE, hO, 0, by omega, rfl, rfl, fun i hi => absurd hi (Nat.not_lt_zero i), rfl, Or.inr ⟨rfl, rfl, gs a (I 22) (I 23) a, h1, rfl, rfl, fun _ => 0, fun i hi => absurd hi (Nat.not_lt_zero i), fun i j hi => absurd hi (Nat.not_lt_zero i), Or.inr ⟨0, Nat.pos_of_ne_zero (by simp), rfl, fun i hi => absurd hi (Nat.not_lt_zero i)⟩⟩⟩
    · unfold g_9 g_83
      rw [e1]
      try simp only [Option.bind_some, nr0, nr1, s_10, s_n10, s_n00, s_a, s_b, s_c, s_d, s_e, ↓reduceIte]
      rw [e2]
      try simp only [Option.bind_some, nr0, nr1, s_10, s_n10, s_n00, s_a, s_b, s_c, s_d, s_e, ↓reduceIte]
      rw [if_pos c1]
      rfl
    · unfold g_144
      rw [if_neg (show ¬ (mm_up (mm_up (mm_up (mm_up I 16 1 0) 16 2 0) 16 3 0) 16 4 (nI (gs a (I 22) (I 23) a))) 20 5 = 0 from h5')]
      rw [show g_145 (mm_up (mm_up (mm_up (mm_up (mm_up I 16 1 0) 16 2 0) 16 3 0) 16 4 (nI (gs a (I 22) (I 23) a))) 20 0 0) = some (nI (gs a (I 22) (I 23) a)) from g145_ok (M := mm_up (mm_up (mm_up (mm_up (mm_up I 16 1 0) 16 2 0) 16 3 0) 16 4 (nI (gs a (I 22) (I 23) a))) 20 0 0) hb.2.1 h.2.2.1.2]
      try simp only [Option.bind_some, nr0, nr1, s_10, s_n10, s_n00, s_a, s_b, s_c, s_d, s_e, ↓reduceIte]
      rw [if_pos c1]
      rfl
  · have c1 : ¬ nI (gs a (I 22) (I 23) a) ≤ 10 := k_ge (a := 10) (by rfl) (by rfl) (by omega) (by omega)
    refine pw_ex (V := INV) (J := I) (K := mm_up (mm_up I 20 0 0) 20 0 1) (z := 0) (c := 1) (LG := LG) (by decide) ?_ ?_ rfl ⟨hT, hF, hP, hE, hO, hS⟩
    · unfold g_9 g_83
      rw [e1]
      try simp only [Option.bind_some, nr0, nr1, s_10, s_n10, s_n00, s_a, s_b, s_c, s_d, s_e, ↓reduceIte]
      rw [e2]
      try simp only [Option.bind_some, nr0, nr1, s_10, s_n10, s_n00, s_a, s_b, s_c, s_d, s_e, ↓reduceIte]
      rw [if_neg c1]
      rfl
    · unfold g_144
      rw [if_neg h5', e3]
      try simp only [Option.bind_some, nr0, nr1, s_10, s_n10, s_n00, s_a, s_b, s_c, s_d, s_e, ↓reduceIte]
      rw [if_neg c1]
      rfl
end MMX
