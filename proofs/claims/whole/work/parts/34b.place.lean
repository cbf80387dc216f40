/-! THE PAIR place, 2: fences set from the last gap to the first (written by wip/whole/gen/place_part.py). -/
section MMZB
/-- a row pushed in behind row k -/
def ins (a k : Nat) (v : Int32) (f : Nat → Int32) (i : Nat) : Int32 := if i ≤ k then f i else if i = k + 1 then v else if i ≤ a then f (i - 1) else f i
def shf (a j : Nat) (f : Nat → Int32) (i : Nat) : Int32 := if j < i ∧ i ≤ a then f (i - 1) else f i
theorem shf_up {a j : Nat} {f : Nat → Int32} (hj : j + 1 ≤ a) : (fun i => if i = j + 1 then shf a (j + 1) f j else shf a (j + 1) f i) = shf a j f := by
  funext i
  unfold shf
  by_cases h : i = j + 1
  · subst h
    rw [if_pos rfl, if_neg (by omega), if_pos (by omega)]
    rfl
  · rw [if_neg h]
    by_cases h2 : j + 1 < i ∧ i ≤ a
    · rw [if_pos h2, if_pos (by omega)]
    · rw [if_neg h2, if_neg (by omega)]
theorem shf_ins {a k : Nat} {v : Int32} {f : Nat → Int32} : (fun i => if i = k + 1 then v else shf a (k + 1) f i) = ins a k v f := by
  funext i
  unfold shf ins
  by_cases h : i = k + 1
  · rw [if_pos h, if_neg (by omega), if_pos h]
  · rw [if_neg h, if_neg h]
    by_cases h2 : i ≤ k
    · rw [if_pos h2, if_neg (by omega)]
    · rw [if_neg h2]
      by_cases h3 : i ≤ a
      · rw [if_pos h3, if_pos (by omega)]
      · rw [if_neg h3, if_neg (by omega)]
theorem up_fn {f : Mem} {k j : Nat} {x : Int32} : mm_up f k j x k = fun b => if b = j then x else f k b := by
  funext b
  exact mm_up_at
theorem shf_id {a : Nat} {f : Nat → Int32} : shf a a f = f := by
  funext i
  unfold shf
  rw [if_neg (by omega)]
theorem insC_l {a k : Nat} {I : Mem} (ha : a < 24) (hk : k + 1 ≤ a) : ∀ (d j n : Nat) (J : Mem), j = k + 1 + d → j ≤ a → d < n → J 5 = shf a j (I 5) → J 6 = shf a j (I 6) → J 7 = shf a j (I 7) → J 8 = shf a j (I 8) → J 4 1 = nI a → (∀ b, b < 4 ∨ 8 < b → J b = I b) → (∀ b, b ≠ 1 → J 4 b = I 4 b) → ∃ J', l_95_27 n (nI k) (nI j) J = some J' ∧ J' 5 = ins a k (I 5 k) (I 5) ∧ J' 6 = ins a k 2 (I 6) ∧ J' 7 = ins a k (-1) (I 7) ∧ J' 8 = ins a k (-1) (I 8) ∧ J' 4 1 = nI (a + 1) ∧ (∀ b, b < 4 ∨ 8 < b → J' b = I b) ∧ ∀ b, b ≠ 1 → J' 4 b = I 4 b := by
  intro d
  induction d with
  | zero =>
    intro j n J hj hja hn j5 j6 j7 j8 j4 jf jg
    obtain ⟨n, rfl⟩ : ∃ m', n = m' + 1 := ⟨n - 1, by omega⟩
    have hj : j = k + 1 := by omega
    subst hj
    have e5 : J 5 k = I 5 k := by rw [j5]; unfold shf; rw [if_neg (by omega)]
    refine ⟨mm_up (mm_up (mm_up (mm_up (mm_up J 5 (k + 1) (J 5 k)) 6 (k + 1) 2) 7 (k + 1) (-1)) 8 (k + 1) (-1)) 4 1 (J 4 1 + 1), ?_, ?_, ?_, ?_, ?_, ?_, ?_, ?_⟩
    · rw [l_95_27, nI_1, if_pos (nI_le (Nat.le_refl _) (by omega)), ix_nI (by omega) (by omega)]
      unfold g_57
      rw [ix_nI (by omega) (by omega), ix_nI (by omega) (by omega), ix_nI (by omega) (by omega), ix_nI (by omega) (by omega)]
      rfl
    · show mm_up J 5 (k + 1) (J 5 k) 5 = _
      rw [up_fn, e5, j5]; exact shf_ins
    · show mm_up J 6 (k + 1) 2 6 = _
      rw [up_fn, j6]; exact shf_ins
    · show mm_up J 7 (k + 1) (-1) 7 = _
      rw [up_fn, j7]; exact shf_ins
    · show mm_up J 8 (k + 1) (-1) 8 = _
      rw [up_fn, j8]; exact shf_ins
    · show J 4 1 + 1 = _
      rw [j4, nI_1]
    · intro b hb
      rw [mm_up_ne (by omega), mm_up_ne (by omega), mm_up_ne (by omega), mm_up_ne (by omega), mm_up_ne (by omega), jf b hb]
    · intro b hb
      rw [up_other hb]
      exact jg b hb
  | succ d ih =>
    intro j n J hj hja hn j5 j6 j7 j8 j4 jf jg
    obtain ⟨n, rfl⟩ : ∃ m', n = m' + 1 := ⟨n - 1, by omega⟩
    obtain ⟨j, rfl⟩ : ∃ j', j = j' + 1 := ⟨j - 1, by omega⟩
    obtain ⟨J', f1, f2⟩ := ih j n (mm_up (mm_up (mm_up (mm_up J 5 (j + 1) (J 5 j)) 6 (j + 1) (J 6 j)) 7 (j + 1) (J 7 j)) 8 (j + 1) (J 8 j)) (by omega) (by omega) (by omega)
      (by show mm_up J 5 (j + 1) (J 5 j) 5 = _; rw [up_fn, j5]; exact shf_up (by omega))
      (by show mm_up J 6 (j + 1) (J 6 j) 6 = _; rw [up_fn, j6]; exact shf_up (by omega))
      (by show mm_up J 7 (j + 1) (J 7 j) 7 = _; rw [up_fn, j7]; exact shf_up (by omega))
      (by show mm_up J 8 (j + 1) (J 8 j) 8 = _; rw [up_fn, j8]; exact shf_up (by omega))
      j4 (fun b hb => by rw [mm_up_ne (by omega), mm_up_ne (by omega), mm_up_ne (by omega), mm_up_ne (by omega), jf b hb]) (fun b hb => jg b hb)
    refine ⟨J', ?_, f2⟩
    rw [l_95_27, nI_1, if_neg (nI_ge (by omega) (by omega)), nI_pred, ix_nI (by omega) (by omega), ix_nI (by omega) (by omega), ix_nI (by omega) (by omega), ix_nI (by omega) (by omega)]
    unfold g_57
    rw [ix_nI (by omega) (by omega), ix_nI (by omega) (by omega), ix_nI (by omega) (by omega), ix_nI (by omega) (by omega), pk_m1]
    exact f1
theorem insM_l {a k : Nat} {x1 x2 x3 x4 x6 : Int32} {I : Mem} (ha : a < 24) (hk : k + 1 ≤ a) : ∀ (d j n : Nat) (J : Mem), j = k + 1 + d → j ≤ a → d < n → J 22 = shf a j (I 22) → J 23 = shf a j (I 23) → J 24 = shf a j (I 24) → J 25 = shf a j (I 25) → (∀ b, b < 22 ∨ 25 < b → J b = I b) → ∃ J' z, l_154_120 n x1 x2 x3 x4 (nI k) x6 (nI j) J = some (x1, x2, x3, x4, nI k, x6, z, J') ∧ J' 22 = shf a (k + 1) (I 22) ∧ J' 23 = shf a (k + 1) (I 23) ∧ J' 24 = shf a (k + 1) (I 24) ∧ J' 25 = shf a (k + 1) (I 25) ∧ (∀ b, b < 22 ∨ 25 < b → J' b = I b) := by
  intro d
  induction d with
  | zero =>
    intro j n J hj hja hn j5 j6 j7 j8 jf
    obtain ⟨n, rfl⟩ : ∃ m', n = m' + 1 := ⟨n - 1, by omega⟩
    have hj : j = k + 1 := by omega
    subst hj
    exact ⟨J, nI (k + 1), by rw [l_154_120, nI_1, if_pos (nI_le (Nat.le_refl _) (by omega))], j5, j6, j7, j8, jf⟩
  | succ d ih =>
    intro j n J hj hja hn j5 j6 j7 j8 jf
    obtain ⟨n, rfl⟩ : ∃ m', n = m' + 1 := ⟨n - 1, by omega⟩
    obtain ⟨j, rfl⟩ : ∃ j', j = j' + 1 := ⟨j - 1, by omega⟩
    obtain ⟨J', z, f1, f2⟩ := ih j n (mm_up (mm_up (mm_up (mm_up J 22 (j + 1) (J 22 j)) 23 (j + 1) (J 23 j)) 24 (j + 1) (J 24 j)) 25 (j + 1) (J 25 j)) (by omega) (by omega) (by omega)
      (by show mm_up J 22 (j + 1) (J 22 j) 22 = _; rw [up_fn, j5]; exact shf_up (by omega))
      (by show mm_up J 23 (j + 1) (J 23 j) 23 = _; rw [up_fn, j6]; exact shf_up (by omega))
      (by show mm_up J 24 (j + 1) (J 24 j) 24 = _; rw [up_fn, j7]; exact shf_up (by omega))
      (by show mm_up J 25 (j + 1) (J 25 j) 25 = _; rw [up_fn, j8]; exact shf_up (by omega))
      (fun b hb => by rw [mm_up_ne (by omega), mm_up_ne (by omega), mm_up_ne (by omega), mm_up_ne (by omega), jf b hb])
    refine ⟨J', z, ?_, f2⟩
    rw [l_154_120, nI_1, if_neg (nI_ge (by omega) (by omega)), nI_pred, ix_nI (by omega) (by omega), ix_nI (by omega) (by omega), ix_nI (by omega) (by omega), ix_nI (by omega) (by omega), ix_nI (by omega) (by omega), ix_nI (by omega) (by omega), ix_nI (by omega) (by omega), ix_nI (by omega) (by omega), pk_m1]
    exact f1
def FrC (I J : Mem) : Prop := ∀ b, b < 4 ∨ 8 < b → J b = I b
def FrM (M N : Mem) : Prop := (∀ b, b < 20 ∨ b = 21 ∨ 25 < b → N b = M b) ∧ ∀ b, b ≠ 7 → N 20 b = M 20 b
def zk (k : Nat) : Int32 := if k = 0 then -1 else nI (k - 1)
theorem zk_s (k : Nat) : zk (k + 1) = nI k := by
  unfold zk
  rw [if_neg (by omega)]
  rfl
theorem zk_p (k : Nat) : nI k + (-1) = zk k := by
  unfold zk
  by_cases h : k = 0
  · rw [if_pos h, h]; decide
  · rw [if_neg h, sb_m1 (by omega)]
theorem gs_eq {a a' : Nat} {f g f' g' : Nat → Int32} {k : Nat} (hf : ∀ i, i ≤ k → f' i = f i) (hg : ∀ i, i ≤ k → g' i = g i) (ha : k < a) (ha' : k < a') : ∀ j, j ≤ k → gs a' f' g' j = gs a f g j := by
  intro j
  induction j with
  | zero => intro _; rfl
  | succ j ih =>
    intro hj
    show gs a' f' g' j + gp a' f' g' j = gs a f g j + gp a f g j
    rw [ih (by omega)]
    unfold gp
    rw [hf j (by omega), hf (j + 1) hj, hg j (by omega), hg (j + 1) hj]
    by_cases h : f j = f (j + 1) ∧ ¬ g j = 2 ∧ ¬ g (j + 1) = 2
    · rw [if_pos ⟨by omega, h⟩, if_pos ⟨by omega, h⟩]
    · rw [if_neg (fun q => h q.2), if_neg (fun q => h q.2)]
/-- a fence behind row k, on both sides -/
theorem ins_pr {t a m c k : Nat} {ow : Nat → Nat} {I M J N : Mem} (h : PR t a m c ow I M) (ha : a < 24) (hk : k + 1 < a)
    (c5 : J 5 = ins a k (I 5 k) (I 5)) (c6 : J 6 = ins a k 2 (I 6)) (c7 : J 7 = ins a k (-1) (I 7)) (c8 : J 8 = ins a k (-1) (I 8)) (c4 : J 4 1 = nI (a + 1)) (cf : FrC I J) (cg : ∀ b, b ≠ 1 → J 4 b = I 4 b)
    (m2 : N 22 = ins a k (M 22 k) (M 22)) (m3 : N 23 = ins a k 2 (M 23)) (m4 : N 24 = ins a k (-1) (M 24)) (m5 : N 25 = ins a k (-1) (M 25)) (m7 : N 20 7 = nI (a + 1)) (mf : FrM M N) : PR t (a + 1) m c (fun i => if i ≤ k then ow i else if i = k + 1 then ow k else ow (i - 1)) J N := by
  obtain ⟨p0, p1, p2, p3, p4, p5, p6, p7⟩ := h
  refine ⟨⟨p0.1, by omega, p0.2.2.1, p0.2.2.2⟩, ⟨by rw [cg 0 (by decide)]; exact p1.1, by rw [mf.2 6 (by decide)]; exact p1.2⟩, ⟨c4, m7⟩, ⟨by rw [cg 2 (by decide)]; exact p3.1, by rw [mf.2 8 (by decide)]; exact p3.2⟩, ⟨by rw [cg 3 (by decide)]; exact p4.1, by rw [mf.2 9 (by decide)]; exact p4.2⟩, ?_, ?_, ?_⟩
  · intro i hi
    unfold rA
    rw [c5, c6, c7, c8, m2, m3, m4, m5]
    unfold ins
    by_cases h1 : i ≤ k
    · simp only [if_pos h1]
      exact p5 i (by omega)
    · simp only [if_neg h1]
      by_cases h2 : i = k + 1
      · simp only [if_pos h2]
        obtain ⟨r1, r2, r3, _⟩ := p5 k (by omega)
        exact ⟨r1, r2, r3, (by first | rfl | trivial), (by first | rfl | trivial), (by first | rfl | trivial), Or.inl ⟨(by first | rfl | trivial), (by first | rfl | trivial), (by first | rfl | trivial)⟩⟩
      · simp only [if_neg h2]
        simp only [if_pos (show i ≤ a from by omega)]
        exact p5 (i - 1) (by omega)
  · intro i hi
    show (if i ≤ k then ow i else if i = k + 1 then ow k else ow (i - 1)) ≤ (if i + 1 ≤ k then ow (i + 1) else if i + 1 = k + 1 then ow k else ow (i + 1 - 1))
    by_cases h1 : i + 1 ≤ k
    · rw [if_pos (by omega), if_pos h1]; exact p6 i (by omega)
    · rw [if_neg h1]
      by_cases h2 : i = k
      · rw [if_pos (by omega), if_pos (by omega), h2]; exact Nat.le_refl _
      · rw [if_neg (show ¬ i ≤ k from by omega), if_neg (show ¬ i + 1 = k + 1 from by omega)]
        by_cases h3 : i = k + 1
        · rw [if_pos h3, h3]; exact p6 k (by omega)
        · rw [if_neg h3]
          have := p6 (i - 1) (by omega)
          rw [show i - 1 + 1 = i from by omega] at this
          exact this
  · intro i hi
    unfold rTm
    rw [cf 9 (by omega), cf 10 (by omega), cf 11 (by omega), mf.1 26 (by omega), mf.1 27 (by omega), mf.1 28 (by omega)]
    exact p7 i hi
theorem bit_c {x k : Nat} (hx : x < 2 ^ 31) (hk : k < 32) : ((nI x).toUInt32 >>> ((nI k).toUInt32 &&& Int32.toUInt32 31)).toInt32 &&& 1 = nI (x / 2 ^ k % 2) := by
  have hs : ∀ n, n < 32 → (((nI n).toUInt32 &&& Int32.toUInt32 31).toBitVec % 32).toNat = n := by decide +kernel
  rw [pk_ushrN (by omega) (nI k) k (hs k hk)]
  exact pk_andN (Nat.lt_of_le_of_lt (Nat.div_le_self _ _) (by omega)) 1 (by decide)
theorem stopC {n : Nat} {x y z : Int32} {I : Mem} (h : z < 0) : l_94_12 (n + 1) x y z I = some I := by rw [l_94_12, if_pos h]
theorem stopM {n : Nat} {x1 x2 x3 x4 z : Int32} {M : Mem} (h : z < 0) : l_154_71 (n + 1) x1 x2 x3 x4 z M = some (x3, M) := by rw [l_154_71, if_pos h]
theorem sC0 {n k : Nat} {x q : Int32} {I : Mem} (hk : k < 2 ^ 31) (e : g_85 (nI k) I = some (nI 0)) : l_94_12 (n + 1) x q (nI k) I = l_94_12 n x q (zk k) I := by
  rw [l_94_12, if_neg (nI_pos hk), e, Option.bind_some, if_pos (by decide), zk_p]
theorem sC1 {n k q x z : Nat} {I : Mem} (hk : k < 2 ^ 31) (hq : q < 32) (hx : x < 2 ^ 31) (e : g_85 (nI k) I = some (nI 1)) (hz : x / 2 ^ q % 2 = z) : l_94_12 (n + 1) (nI x) (nI (q + 1)) (nI k) I = if nI z = 0 then l_94_12 n (nI x) (nI q) (zk k) I else (g_95 (nI k) I).bind (fun w3 => l_94_12 n (nI x) (nI q) (zk k) w3) := by
  rw [l_94_12, if_neg (nI_pos hk), e, Option.bind_some, if_neg (by decide), pk_m1, bit_c hx hq, zk_p, hz]
theorem sM0 {n k : Nat} {x1 x2 x3 x4 : Int32} {M : Mem} (hk : k < 2 ^ 31) (e : g_146 (nI k) M = some (nI 0)) : l_154_71 (n + 1) x1 x2 x3 x4 (nI k) M = l_154_71 n x1 x2 x3 x4 (zk k) M := by
  rw [l_154_71, if_neg (nI_pos hk), e, Option.bind_some, if_pos (by decide), if_pos (by decide), Int32.sub_zero, zk_p]
theorem sM1 {n k q x : Nat} {x2 x3 : Int32} {M : Mem} (hk : k < 2 ^ 31) (hq : q < 32) (hx : x < 2 ^ 31) (e : g_146 (nI k) M = some (nI 1)) (hz : x / 2 ^ q % 2 = 0) : l_154_71 (n + 1) (nI x) x2 x3 (nI (q + 1)) (nI k) M = l_154_71 n (nI x) x2 x3 (nI q) (zk k) M := by
  rw [l_154_71, if_neg (nI_pos hk), e, Option.bind_some, if_neg (by decide), if_neg (by decide), nI_pred, bit_m hx hq, hz, if_neg (by decide), zk_p]
theorem sM2 {n k q x a : Nat} {x2 x3 z : Int32} {M N : Mem} (hk : k + 1 < 48) (hq : q < 32) (hx : x < 2 ^ 31) (e : g_146 (nI k) M = some (nI 1)) (hz : x / 2 ^ q % 2 = 1) (h7 : M 20 7 = nI a) (n1 : l_154_120 5000 (nI x) x2 x3 (nI q) (nI k) (nI 1) (nI a) M = some (nI x, x2, x3, nI q, nI k, nI 1, z, N)) : l_154_71 (n + 1) (nI x) x2 x3 (nI (q + 1)) (nI k) M = l_154_71 n (nI x) x2 x3 (nI q) (zk k) (mm_up (mm_up (mm_up (mm_up (mm_up N 23 (k + 1) 2) 22 (k + 1) (N 22 k)) 24 (k + 1) (-1)) 25 (k + 1) (-1)) 20 7 (N 20 7 + 1)) := by
  have X1 : ∀ {α : Type} (T : Nat → Option α), ix (nI (k + 1)) 48 T = T (k + 1) := fun T => ix_nI hk (by omega) T
  have X0 : ∀ {α : Type} (T : Nat → Option α), ix (nI k) 48 T = T k := fun T => ix_nI (by omega) (by omega) T
  rw [l_154_71, if_neg (nI_pos (by omega)), e, Option.bind_some, if_neg (by decide), if_neg (by decide), nI_pred, bit_m hx hq, hz, if_pos (by decide), h7, n1, Option.bind_some]
  simp only [nI_1, X1, X0, zk_p]
theorem insC_ok {t a m c k : Nat} {ow : Nat → Nat} {I M : Mem} (h : PR t a m c ow I M) (ha : a < 24) (hk : k + 1 < a) : ∃ J, g_95 (nI k) I = some J ∧ J 5 = ins a k (I 5 k) (I 5) ∧ J 6 = ins a k 2 (I 6) ∧ J 7 = ins a k (-1) (I 7) ∧ J 8 = ins a k (-1) (I 8) ∧ J 4 1 = nI (a + 1) ∧ FrC I J ∧ ∀ b, b ≠ 1 → J 4 b = I 4 b := by
  obtain ⟨J, j1, j2⟩ := insC_l (I := I) ha (k := k) (by omega) (a - (k + 1)) a 5000 I (by omega) (Nat.le_refl _) (by omega) shf_id.symm shf_id.symm shf_id.symm shf_id.symm h.2.2.1.1 (fun _ _ => rfl) (fun _ _ => rfl)
  refine ⟨J, ?_, j2⟩
  unfold g_95
  rw [if_neg (nI_pos (by omega)), h.2.2.1.1, if_neg (nI_ge (by omega) (by omega)), if_pos (k_lt (b := 24) (by rfl) (by rfl) ha (by omega)), j1]
/-- the reference's rows behind its fence -/
theorem insM_ok {a k : Nat} {x1 x2 x3 x4 x6 : Int32} {M : Mem} (ha : a < 24) (hk : k + 1 < a) (h7 : M 20 7 = nI a) : ∃ N z, l_154_120 5000 x1 x2 x3 x4 (nI k) x6 (nI a) M = some (x1, x2, x3, x4, nI k, x6, z, N) ∧ ∃ W, W = (mm_up (mm_up (mm_up (mm_up (mm_up N 23 (k + 1) 2) 22 (k + 1) (N 22 k)) 24 (k + 1) (-1)) 25 (k + 1) (-1)) 20 7 (N 20 7 + 1)) ∧ W 22 = ins a k (M 22 k) (M 22) ∧ W 23 = ins a k 2 (M 23) ∧ W 24 = ins a k (-1) (M 24) ∧ W 25 = ins a k (-1) (M 25) ∧ W 20 7 = nI (a + 1) ∧ FrM M W := by
  obtain ⟨N, z, n1, n2, n3, n4, n5, nf⟩ := insM_l (x1 := x1) (x2 := x2) (x3 := x3) (x4 := x4) (x6 := x6) (I := M) ha (k := k) (by omega) (a - (k + 1)) a 5000 M (by omega) (Nat.le_refl _) (by omega) shf_id.symm shf_id.symm shf_id.symm shf_id.symm (fun _ _ => rfl)
  have nk : N 22 k = M 22 k := by rw [n2]; unfold shf; rw [if_neg (by omega)]
  refine ⟨N, z, n1, _, rfl, ?_, ?_, ?_, ?_, ?_, fun b hb => ?_, fun b hb => ?_⟩
  · show mm_up N 22 (k + 1) (N 22 k) 22 = _
    rw [up_fn, nk, n2]; exact shf_ins
  · show mm_up N 23 (k + 1) 2 23 = _
    rw [up_fn, n3]; exact shf_ins
  · show mm_up N 24 (k + 1) (-1) 24 = _
    rw [up_fn, n4]; exact shf_ins
  · show mm_up N 25 (k + 1) (-1) 25 = _
    rw [up_fn, n5]; exact shf_ins
  · show N 20 7 + 1 = _
    rw [nf 20 (by omega), h7, nI_1]
  · rw [mm_up_ne (by omega), mm_up_ne (by omega), mm_up_ne (by omega), mm_up_ne (by omega), mm_up_ne (by omega), nf b (by omega)]
  · rw [up_other hb]
    show N 20 b = _
    rw [nf 20 (by omega)]
theorem gp_01 (a : Nat) (f g : Nat → Int32) (k : Nat) : gp a f g k = 0 ∨ gp a f g k = 1 := by
  have := gp_le a f g k
  omega
theorem bit_01 (x q : Nat) : x / 2 ^ q % 2 = 0 ∨ x / 2 ^ q % 2 = 1 := by
  have := Nat.mod_lt (x / 2 ^ q) (y := 2) (by decide)
  generalize x / 2 ^ q % 2 = z at *
  omega
theorem fen_l {x t m c : Nat} {x2 x3 : Int32} (hx : x < 2 ^ 31) : ∀ (k n n' a : Nat) (ow : Nat → Nat) (I M : Mem), PR t a m c ow I M → (k = 0 ∨ k < a) → a + pcn x (gs a (M 22) (M 23) k) ≤ 24 → k < n → k < n' → ∃ (I' M' : Mem) (a' : Nat) (ow' : Nat → Nat), l_94_12 n (nI x) (nI (gs a (M 22) (M 23) k)) (zk k) I = some I' ∧ l_154_71 n' (nI x) x2 x3 (nI (gs a (M 22) (M 23) k)) (zk k) M = some (x3, M') ∧ PR t a' m c ow' I' M' ∧ FrC I I' ∧ FrM M M' := by
  intro k
  induction k with
  | zero =>
    intro n n' a ow I M h hk hb hn hn'
    obtain ⟨n, rfl⟩ : ∃ m', n = m' + 1 := ⟨n - 1, by omega⟩
    obtain ⟨n', rfl⟩ : ∃ m', n' = m' + 1 := ⟨n' - 1, by omega⟩
    have z0 : zk 0 < 0 := by decide
    exact ⟨I, M, a, ow, stopC z0, stopM z0, h, fun _ _ => rfl, fun _ _ => rfl, fun _ _ => rfl⟩
  | succ k ih =>
    intro n n' a ow I M h hk hb hn hn'
    obtain ⟨n, rfl⟩ : ∃ m', n = m' + 1 := ⟨n - 1, by omega⟩
    obtain ⟨n', rfl⟩ : ∃ m', n' = m' + 1 := ⟨n' - 1, by omega⟩
    have ha := h.1.2.1
    have hka : k + 1 < a := by omega
    obtain ⟨h5, h6⟩ := pr_owner h
    have e1 := gp_c (I := I) (M := M) ha h.2.2.1.1 h5 h6 (k := k) (by omega)
    have e2 := gp_m (M := M) ha h.2.2.1.2 (k := k) (by omega)
    have e0 : gs a (M 22) (M 23) (k + 1) = gs a (M 22) (M 23) k + gp a (M 22) (M 23) k := rfl
    have gl := gs_le a (M 22) (M 23) k
    rw [zk_s]
    rcases gp_01 a (M 22) (M 23) k with hg | hg
    · rw [hg] at e0 e1 e2
      rw [Nat.add_zero] at e0
      rw [e0] at hb ⊢
      obtain ⟨I', M', a', ow', f1, f2, f3⟩ := ih n n' a ow I M h (by omega) hb (by omega) (by omega)
      exact ⟨I', M', a', ow', (sC0 (by omega) e1).trans f1, (sM0 (by omega) e2).trans f2, f3⟩
    · rw [hg] at e0 e1 e2
      rw [e0] at hb ⊢
      have hpc : pcn x (gs a (M 22) (M 23) k + 1) = pcn x (gs a (M 22) (M 23) k) + x / 2 ^ (gs a (M 22) (M 23) k) % 2 := rfl
      rw [hpc] at hb
      rcases bit_01 x (gs a (M 22) (M 23) k) with hbit | hbit
      · rw [hbit] at hb
        obtain ⟨I', M', a', ow', f1, f2, f3⟩ := ih n n' a ow I M h (by omega) (by omega) (by omega) (by omega)
        refine ⟨I', M', a', ow', ?_, (sM1 (by omega) (by omega) hx e2 hbit).trans f2, f3⟩
        rw [sC1 (by omega) (by omega) hx e1 hbit, if_pos (by decide)]
        exact f1
      · rw [hbit] at hb
        have ha24 : a < 24 := by omega
        obtain ⟨J, j1, j5, j6, j7, j8, j4, jf, jg⟩ := insC_ok h ha24 hka
        obtain ⟨N, z, n1, W, hW, w2, w3, w4, w5, w7, wf⟩ := insM_ok (x1 := nI x) (x2 := x2) (x3 := x3) (x4 := nI (gs a (M 22) (M 23) k)) (x6 := nI 1) ha24 hka h.2.2.1.2
        have h' := ins_pr h ha24 hka j5 j6 j7 j8 j4 jf jg w2 w3 w4 w5 w7 wf
        have eg : gs (a + 1) (W 22) (W 23) k = gs a (M 22) (M 23) k := by
          rw [w2, w3]
          refine gs_eq (k := k) (fun i hi => ?_) (fun i hi => ?_) (by omega) (by omega) k (Nat.le_refl _)
          · unfold ins; rw [if_pos hi]
          · unfold ins; rw [if_pos hi]
        obtain ⟨I', M', a', ow', f1, f2, f3, f4, f5⟩ := ih n n' (a + 1) _ J W h' (by omega) (by rw [eg]; omega) (by omega) (by omega)
        rw [eg] at f1 f2
        refine ⟨I', M', a', ow', ?_, ?_, f3, fun b hb => (f4 b hb).trans (jf b hb), fun b hb => (f5.1 b hb).trans (wf.1 b hb), fun b hb => (f5.2 b hb).trans (wf.2 b hb)⟩
        · rw [sC1 (by omega) (by omega) hx e1 hbit, if_neg (by decide), j1, Option.bind_some]
          exact f1
        · rw [sM2 (by omega) (by omega) hx e2 hbit h.2.2.1.2 n1, ← hW]
          exact f2
theorem int_neg {x : Int32} (h : x.toInt < 0) : 2147483648 ≤ x.toBitVec.toNat := by
  have e : x.toInt = x.toBitVec.toInt := rfl
  rw [e, BitVec.toInt_eq_toNat_cond] at h
  split at h
  · omega
  · rename_i c
    omega
theorem stepM {n a : Nat} {x1 x2 x3 x4 : Int32} {M : Mem} (ha : a ≤ 24) (h0 : 0 < a) (h7 : M 20 7 = nI a) : l_154_71 (n + 1) x1 x2 x3 x4 (nI (a - 1)) M = l_154_71 n x1 x2 x3 x4 (zk (a - 1)) M := by
  have g0 : gp a (M 22) (M 23) (a - 1) = 0 := by unfold gp; rw [if_neg (fun q => by have := q.1; omega)]
  rw [l_154_71, if_neg (nI_pos (by omega)), gp_m (M := M) ha h7 (k := a - 1) (by omega), g0, Option.bind_some, if_pos (by decide), if_pos (by decide), Int32.sub_zero, zk_p]
set_option maxHeartbeats 4000000 in
theorem pr_12 : p_12 INV := by
  intro x I LG ⟨hT, hF, hP, hE, hO, hS⟩
  obtain ⟨t, a, m, c, ow, h, h5⟩ := id hP
  have hb := h.1
  have e1 := g84_ok h
  have e2 := g60_ok h
  have e3 : g_145 (mm_up I 20 0 0) = some (nI (gs a (I 22) (I 23) a)) := g145_ok (M := mm_up I 20 0 0) hb.2.1 h.2.2.1.2
  have gl := gs_le a (I 22) (I 23) a
  have hs : ∀ n, n < 32 → (((nI n).toUInt32 &&& Int32.toUInt32 31).toBitVec % 32).toNat = n := by decide +kernel
  have hV : INV (mm_up (mm_up I 20 0 0) 20 0 1) := ⟨hT, hF, hP, hE, hO, hS⟩
  by_cases h0 : t = 0
  · rw [if_pos h0] at e2 h5
    refine pw_ex (V := INV) (J := I) (K := mm_up (mm_up I 20 0 0) 20 0 1) (z := 0) (c := 1) (LG := LG) (by decide) (by unfold g_12 g_92; rw [e2]; rfl) ?_ rfl hV
    unfold g_154
    rw [e3]
    try simp only [Option.bind_some, nr0, nr1, s_10, s_n10, s_n00, s_a, s_b, s_c, s_d, s_e, ↓reduceIte]
    rw [if_pos h5]
    rfl
  rw [if_neg h0] at e2 h5
  have h5' : ¬ I 20 5 = 0 := by rw [h5]; decide
  have bad : ((x.toUInt32 >>> ((nI (gs a (I 22) (I 23) a)).toUInt32 &&& Int32.toUInt32 31)).toInt32 = 0 → False) → g_12 x I LG = some (1, 1, I, LG) := by
    intro hz
    unfold g_12 g_92
    rw [e2]
    try simp only [Option.bind_some, nr0, nr1, s_10, s_n10, s_n00, s_a, s_b, s_c, s_d, s_e, ↓reduceIte]
    rw [e1]
    try simp only [Option.bind_some, nr0, nr1, s_10, s_n10, s_n00, s_a, s_b, s_c, s_d, s_e, ↓reduceIte]
    rw [if_neg hz]
    rfl
  by_cases hneg : x < 0
  · refine pw_ex (V := INV) (J := I) (K := mm_up (mm_up I 20 0 0) 20 0 1) (z := 0) (c := 1) (LG := LG) (by decide) (bad fun q => ?_) ?_ rfl hV
    · have k3 := pk_ushr x (nI (gs a (I 22) (I 23) a)) (gs a (I 22) (I 23) a) (hs _ (by omega))
      rw [q] at k3
      have k2 : x.toInt < 0 := by have := Int32.lt_iff_toInt_lt.mp hneg; exact this
      have k1 := int_neg k2
      have k4 : (0 : Int32).toBitVec.toNat = 0 := by decide
      rw [k4] at k3
      have k5 : 2 ^ (gs a (I 22) (I 23) a) ≤ 2 ^ 24 := Nat.pow_le_pow_right (by decide) (by omega)
      have k6 : 0 < x.toBitVec.toNat / 2 ^ (gs a (I 22) (I 23) a) := Nat.div_pos (by omega) (Nat.pos_of_ne_zero (by simp))
      rw [← k3] at k6
      exact absurd k6 (Nat.lt_irrefl 0)
    · unfold g_154
      rw [e3]
      try simp only [Option.bind_some, nr0, nr1, s_10, s_n10, s_n00, s_a, s_b, s_c, s_d, s_e, ↓reduceIte]
      rw [if_neg h5', if_pos hneg]
      rfl
  obtain ⟨y, hy, rfl⟩ := nI_of hneg
  have u1 := pk_ushrN (n := y) (by omega) (nI (gs a (I 22) (I 23) a)) (gs a (I 22) (I 23) a) (hs _ (by omega))
  have u2 := pk_shrN (n := y) hy (nI (gs a (I 22) (I 23) a) &&& 31) (gs a (I 22) (I 23) a) (sh_l _ (by omega))
  have dl : y / 2 ^ (gs a (I 22) (I 23) a) < 2 ^ 31 := Nat.lt_of_le_of_lt (Nat.div_le_self _ _) hy
  by_cases hz : y / 2 ^ (gs a (I 22) (I 23) a) = 0
  · have k5 : 2 ^ (gs a (I 22) (I 23) a) ≤ 2 ^ 24 := Nat.pow_le_pow_right (by decide) (by omega)
    have hy2 : y < 2 ^ (gs a (I 22) (I 23) a) := by
      rcases Nat.lt_or_ge y (2 ^ (gs a (I 22) (I 23) a)) with q | q
      · exact q
      · have := Nat.div_pos q (Nat.pos_of_ne_zero (by simp))
        omega
    have w1 := g93_ok (x := y) (by omega) I
    have w2 := g152_ok (x := y) (M := mm_up I 20 0 0) hy
    have pl := pcn_le y 24
    have hpg : pcn y (gs a (I 22) (I 23) a) = pcn y 24 := by
      have : ∀ d, pcn y (gs a (I 22) (I 23) a + d) = pcn y (gs a (I 22) (I 23) a) := by
        intro d
        induction d with
        | zero => rfl
        | succ d ih =>
          show pcn y (gs a (I 22) (I 23) a + d) + y / 2 ^ (gs a (I 22) (I 23) a + d) % 2 = _
          rw [ih, Nat.pow_add, ← Nat.div_div_eq_div_mul, hz, Nat.zero_div]
          rfl
      have := this (24 - gs a (I 22) (I 23) a)
      rw [show gs a (I 22) (I 23) a + (24 - gs a (I 22) (I 23) a) = 24 from by omega] at this
      exact this.symm
    by_cases hfit : a + pcn y 24 ≤ 24
    · have hlast : gs a (I 22) (I 23) a = gs a (I 22) (I 23) (a - 1) := by
        by_cases ha0 : a = 0
        · rw [ha0]
        · have g0 : gp a (I 22) (I 23) (a - 1) = 0 := by unfold gp; rw [if_neg (fun q => by have := q.1; omega)]
          have : gs a (I 22) (I 23) (a - 1 + 1) = gs a (I 22) (I 23) (a - 1) + gp a (I 22) (I 23) (a - 1) := rfl
          rw [show a - 1 + 1 = a from by omega] at this
          omega
      have hb24 : a + pcn y (gs a (I 22) (I 23) (a - 1)) ≤ 24 := by rw [← hlast, hpg]; exact hfit
      have main : ∀ M : Mem, M 20 7 = I 20 7 → M 20 6 = I 20 6 → M 20 8 = I 20 8 → M 20 9 = I 20 9 → (∀ b, 21 < b → M b = I b) → ∃ (I' M' : Mem) (a' : Nat) (ow' : Nat → Nat), g_94 (nI y) I = some I' ∧ l_154_71 5000 (nI y) (nI (gs a (I 22) (I 23) a)) (nI (pcn y 24)) (nI (gs a (I 22) (I 23) a)) (M 20 7 - 1) M = some (nI (pcn y 24), M') ∧ PR t a' m c ow' I' M' ∧ FrC I I' ∧ FrM M M' := by
        intro M r7 r6 r8 r9 rb
        have h' : PR t a m c ow I M := by
          obtain ⟨p0, p1, p2, p3, p4, p5, p6, p7⟩ := h
          refine ⟨p0, ⟨p1.1, by rw [r6]; exact p1.2⟩, ⟨p2.1, by rw [r7]; exact p2.2⟩, ⟨p3.1, by rw [r8]; exact p3.2⟩, ⟨p4.1, by rw [r9]; exact p4.2⟩, fun k hk => ?_, p6, fun k hk => ?_⟩
          · unfold rA; rw [rb 22 (by omega), rb 23 (by omega), rb 24 (by omega), rb 25 (by omega)]; exact p5 k hk
          · unfold rTm; rw [rb 26 (by omega), rb 27 (by omega), rb 28 (by omega)]; exact p7 k hk
        have b22 : M 22 = I 22 := rb 22 (by omega)
        have b23 : M 23 = I 23 := rb 23 (by omega)
        obtain ⟨I', M', a', ow', f1, f2, f3⟩ := fen_l (x2 := nI (gs a (I 22) (I 23) a)) (x3 := nI (pcn y 24)) hy (a - 1) 5000 4999 a ow I M h' (by omega) (by rw [b22, b23]; exact hb24) (by omega) (by omega)
        rw [b22, b23, ← hlast] at f1 f2
        refine ⟨I', M', a', ow', ?_, ?_, f3⟩
        · unfold g_94
          rw [e1]
          try simp only [Option.bind_some, nr0, nr1, s_10, s_n10, s_n00, s_a, s_b, s_c, s_d, s_e, ↓reduceIte]
          by_cases ha0 : a = 0
          · rw [h.2.2.1.1, ha0]
            rw [ha0] at f1
            exact (stopC (n := 4999) (z := nI 0 - 2) (by decide)).trans ((stopC (n := 4999) (z := zk (0 - 1)) (by decide)).symm.trans f1)
          · rw [h.2.2.1.1, show nI a - 2 = zk (a - 1) from ?_]
            · exact f1
            · unfold zk
              by_cases ha1 : a = 1
              · rw [ha1]; decide
              · rw [if_neg (by omega)]
                exact (pk_sub (a := a) (b := 2) (by omega)).trans (by rw [show a - 2 = a - 1 - 1 from by omega])
        · rw [r7, h.2.2.1.2]
          by_cases ha0 : a = 0
          · rw [ha0]
            rw [ha0] at f2
            exact (stopM (n := 4999) (z := nI 0 - 1) (by decide)).trans ((stopM (n := 4998) (z := zk (0 - 1)) (by decide)).symm.trans f2)
          · rw [show nI a - 1 = nI (a - 1) from pk_sub (a := a) (b := 1) (by omega)]
            exact (stepM (n := 4999) hb.2.1 (by omega) (by rw [r7]; exact h.2.2.1.2)).trans f2
      obtain ⟨J, _, _, _, j1, _, _, jf, _⟩ := main I rfl rfl rfl rfl (fun _ _ => rfl)
      obtain ⟨J', N, a', ow', j1', j2, j3, j4, j5⟩ := main (mm_up (mm_up (mm_up J 16 3 (-1)) 20 0 0) 20 25 0) (by show J 20 7 = _; rw [jf 20 (by omega)]) (by show J 20 6 = _; rw [jf 20 (by omega)]) (by show J 20 8 = _; rw [jf 20 (by omega)]) (by show J 20 9 = _; rw [jf 20 (by omega)]) (fun b hb => by rw [mm_up_ne (by omega), mm_up_ne (by omega), mm_up_ne (by omega), jf b (by omega)])
      have ej : J' = J := by rw [j1] at j1'; injection j1' with q; exact q.symm
      subst ej
      have fa : ∀ b, b < 4 ∨ 8 < b → b ≠ 16 → b < 20 ∨ b = 21 ∨ 25 < b → N b = I b := fun b b1 b2 b3 => by rw [j5.1 b b3, mm_up_ne (by omega), mm_up_ne (by omega), mm_up_ne (by omega), jf b b1]
      have fb : ∀ b, b ≠ 0 → b ≠ 7 → b ≠ 25 → N 20 b = I 20 b := fun b b0 b7 b25 => by
        rw [j5.2 b b7, up_other b25, up_other b0]
        show J' 20 b = _
        rw [jf 20 (by omega)]
      refine pw_ok (J := mm_up J' 16 3 (-1)) (K := N) (r := nI (pcn y 24)) (LG := LG) ?_ ?_ ?_ ⟨?_, ?_, ⟨t, a', m, c, ow', ?_, ?_⟩, ?_, ?_, ?_⟩
      · unfold g_12 g_92
        rw [e2]
        try simp only [Option.bind_some, nr0, nr1, s_10, s_n10, s_n00, s_a, s_b, s_c, s_d, s_e, ↓reduceIte]
        rw [e1]
        try simp only [Option.bind_some, nr0, nr1, s_10, s_n10, s_n00, s_a, s_b, s_c, s_d, s_e, ↓reduceIte]
        rw [u1, hz, if_pos (by decide), w1]
        try simp only [Option.bind_some, nr0, nr1, s_10, s_n10, s_n00, s_a, s_b, s_c, s_d, s_e, ↓reduceIte]
        rw [h.2.2.1.1, nI_add, if_pos (k_le (b := 24) (by rfl) (by rfl) hfit (by omega)), j1]
        rfl
      · unfold g_154
        have q7 : (mm_up J' 16 3 (-1)) 20 7 = nI a := by show J' 20 7 = _; rw [jf 20 (by omega)]; exact h.2.2.1.2
        have q5 : (mm_up J' 16 3 (-1)) 20 5 = I 20 5 := by show J' 20 5 = _; rw [jf 20 (by omega)]
        have e4 : g_145 (mm_up (mm_up J' 16 3 (-1)) 20 0 0) = some (nI (gs a (I 22) (I 23) a)) := by
          rw [g145_ok (M := mm_up (mm_up J' 16 3 (-1)) 20 0 0) hb.2.1 q7]
          show some (nI (gs a (J' 22) (J' 23) a)) = _
          rw [jf 22 (by omega), jf 23 (by omega)]
        rw [e4]
        try simp only [Option.bind_some, nr0, nr1, s_10, s_n10, s_n00, s_a, s_b, s_c, s_d, s_e, ↓reduceIte]
        rw [q5, if_neg h5', if_neg hneg, u2, hz, if_pos (by decide), g152_ok hy]
        show (if (mm_up J' 16 3 (-1)) 20 7 + nI (pcn y 24) ≤ 24 then bo 0 _ else _) = _
        rw [q7, nI_add, if_pos (k_le (b := 24) (by rfl) (by rfl) hfit (by omega))]
        unfold bo
        rw [if_pos (Or.inl rfl), ← q7]
        exact j2
      · rw [j5.2 0 (by decide)]
        rfl
      · exact tT_c hT (by rw [fa 2 (by omega) (by omega) (by omega)]) (fa 3 (by omega) (by omega) (by omega)) (fb 1 (by omega) (by omega) (by omega)) (fa 21 (by omega) (by omega) (by omega))
      · unfold tF
        rw [fa 1 (by omega) (by omega) (by omega), fb 3 (by omega) (by omega) (by omega), fb 4 (by omega) (by omega) (by omega)]
        exact hF
      · obtain ⟨p0, p1, p2, p3, p4, p5, p6, p7⟩ := j3
        have lo : ∀ b, b < 16 → N b = J' b := fun b hb => by rw [j5.1 b (by omega), mm_up_ne (by omega), mm_up_ne (by omega), mm_up_ne (by omega)]
        refine ⟨p0, ⟨by rw [lo 4 (by omega)]; exact p1.1, p1.2⟩, ⟨by rw [lo 4 (by omega)]; exact p2.1, p2.2⟩, ⟨by rw [lo 4 (by omega)]; exact p3.1, p3.2⟩, ⟨by rw [lo 4 (by omega)]; exact p4.1, p4.2⟩, fun k hk => ?_, p6, fun k hk => ?_⟩
        · unfold rA; rw [lo 5 (by omega), lo 6 (by omega), lo 7 (by omega), lo 8 (by omega)]; exact p5 k hk
        · unfold rTm; rw [lo 9 (by omega), lo 10 (by omega), lo 11 (by omega)]; exact p7 k hk
      · rw [fb 5 (by omega) (by omega) (by omega), h5, if_neg h0]
      · exact tE_c hE (fa 12 (by omega) (by omega) (by omega)) (fa 13 (by omega) (by omega) (by omega)) (fb 21 (by omega) (by omega) (by omega)) (fa 29 (by omega) (by omega) (by omega))
      · exact tO_c hO (fa 18 (by omega) (by omega) (by omega)) (fa 19 (by omega) (by omega) (by omega)) (fb 23 (by omega) (by omega) (by omega)) (fa 30 (by omega) (by omega) (by omega))
      · obtain ⟨k, hk, s1, s2, s3, s4, s5⟩ := hS
        have n16 : ∀ b, b ≠ 3 → N 16 b = I 16 b := fun b hb => by
          rw [j5.1 16 (by omega)]
          show mm_up J' 16 3 (-1) 16 b = _
          rw [up_other hb, jf 16 (by omega)]
        refine ⟨k, hk, by rw [n16 1 (by decide)]; exact s1, by rw [fb 29 (by omega) (by omega) (by omega)]; exact s2, fun i hi => by rw [fa 17 (by omega) (by omega) (by omega), fa 31 (by omega) (by omega) (by omega)]; exact s3 i hi, by rw [n16 2 (by decide), fb 28 (by omega) (by omega) (by omega)]; exact s4, Or.inl ⟨?_, ?_⟩⟩
        · rw [j5.2 25 (by decide)]
          rfl
        · rw [j5.1 16 (by omega)]
          rfl
    · refine pw_ex (V := INV) (J := I) (K := mm_up (mm_up I 20 0 0) 20 0 2) (z := 0) (c := 2) (LG := LG) (by decide) ?_ ?_ rfl ⟨hT, hF, hP, hE, hO, hS⟩
      · unfold g_12 g_92
        rw [e2]
        try simp only [Option.bind_some, nr0, nr1, s_10, s_n10, s_n00, s_a, s_b, s_c, s_d, s_e, ↓reduceIte]
        rw [e1]
        try simp only [Option.bind_some, nr0, nr1, s_10, s_n10, s_n00, s_a, s_b, s_c, s_d, s_e, ↓reduceIte]
        rw [u1, hz, if_pos (by decide), w1]
        try simp only [Option.bind_some, nr0, nr1, s_10, s_n10, s_n00, s_a, s_b, s_c, s_d, s_e, ↓reduceIte]
        rw [h.2.2.1.1, nI_add, if_neg (k_ge (a := 24) (by rfl) (by rfl) (by omega) (by omega))]
        rfl
      · unfold g_154
        rw [e3]
        try simp only [Option.bind_some, nr0, nr1, s_10, s_n10, s_n00, s_a, s_b, s_c, s_d, s_e, ↓reduceIte]
        rw [if_neg h5', if_neg hneg, u2, hz, if_pos (by decide), w2]
        try simp only [Option.bind_some, nr0, nr1, s_10, s_n10, s_n00, s_a, s_b, s_c, s_d, s_e, ↓reduceIte]
        rw [h.2.2.1.2, nI_add, if_neg (k_ge (a := 24) (by rfl) (by rfl) (by omega) (by omega))]
        rfl
  · refine pw_ex (V := INV) (J := I) (K := mm_up (mm_up I 20 0 0) 20 0 1) (z := 0) (c := 1) (LG := LG) (by decide) (bad fun q => ?_) ?_ rfl hV
    · rw [u1] at q
      exact nI_ne0 (Nat.pos_of_ne_zero hz) dl q
    · unfold g_154
      rw [e3]
      try simp only [Option.bind_some, nr0, nr1, s_10, s_n10, s_n00, s_a, s_b, s_c, s_d, s_e, ↓reduceIte]
      rw [if_neg h5', if_neg hneg, u2, if_neg (nI_ne0 (Nat.pos_of_ne_zero hz) dl)]
      rfl
end MMZB
