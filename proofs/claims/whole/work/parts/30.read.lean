/-! THE PAIR read, 3: lexers in step, faults, rows (written by wip/whole/gen/read_part.py). -/
section MMAH
def FrA (I0 I : Mem) : Prop := ∀ x, x = 0 ∨ x = 3 ∨ 11 < x → I x = I0 x
def FrB (M0 M : Mem) : Prop := (∀ x, x < 20 ∨ x = 21 ∨ 28 < x → M x = M0 x) ∧ ∀ x, x < 3 ∨ x = 5 ∨ (9 < x ∧ x < 17) ∨ 20 < x → M 20 x = M0 20 x
/-- no fault yet: text, lexeme, what stays -/
def SL (n : Nat) (b : Nat → Nat) (I0 M0 : Mem) (k p q v : Nat) (I M : Mem) : Prop := TX n b I M ∧ LX n b k p q v I M ∧ (I 1 2 = 0 ∧ I 1 3 = 0 ∧ M 20 3 = 0 ∧ M 20 4 = 0) ∧ FrA I0 I ∧ FrB M0 M
/-- a fault, the same on both sides -/
def BAD (I0 M0 I M : Mem) : Prop := FrA I0 I ∧ FrB M0 M ∧ ∃ f pl : Nat, 1 ≤ f ∧ f ≤ 5 ∧ I 1 2 = nI f ∧ M 20 3 = nI f ∧ I 1 3 = nI pl ∧ M 20 4 = nI pl
theorem FrA_x {I0 I J : Mem} (h : FrA I0 I) (k : FxC I J) : FrA I0 J := fun x hx => by rw [k.1 x (by omega), h x hx]
theorem FrB_x {M0 M N : Mem} (h : FrB M0 M) (k : FxM M N) : FrB M0 N := ⟨fun x hx => by rw [k.1 x (by omega), h.1 x hx], fun x hx => by rw [k.2 x (by omega), h.2 x hx]⟩
theorem next_ok {n : Nat} {b : Nat → Nat} {I0 M0 : Mem} {k p q v : Nat} {I M : Mem} (h : SL n b I0 M0 k p q v I M) : ∃ (k' p' q' v' : Nat) (I' M' : Mem), g_34 I = some I' ∧ g_115 M = some M' ∧ SL n b I0 M0 k' p' q' v' I' M' ∧ FxC I I' ∧ FxM M M' := by
  obtain ⟨hT, hL, hF, hA, hB⟩ := h
  obtain ⟨k', p', q', v', I', M', e1, e2, e3, e4, e5⟩ := lex_ok hT hL.2.2.1 hL.2.2.2.1 hL.2.2.2.2.2.1
  exact ⟨k', p', q', v', I', M', e1, e2, ⟨TX_f hT e4 e5, e3, ⟨by rw [e4.1 1 (by decide)]; exact hF.1, by rw [e4.1 1 (by decide)]; exact hF.2.1, by rw [e5.2 3 (by omega)]; exact hF.2.2.1, by rw [e5.2 4 (by omega)]; exact hF.2.2.2⟩, FrA_x hA e4, FrB_x hB e5⟩, e4, e5⟩
/-- the class's program changes -/
theorem SL_c {n : Nat} {b : Nat → Nat} {I0 M0 : Mem} {k p q v : Nat} {I M J : Mem} (h : SL n b I0 M0 k p q v I M) (hJ : ∀ x, x < 4 ∨ 11 < x → J x = I x) : SL n b I0 M0 k p q v J M := by
  obtain ⟨⟨t1, t2, t3, t4⟩, ⟨l1, l2, l3, l4, l5, l6, l7⟩, ⟨f1, f2, f3, f4⟩, hA, hB⟩ := h
  have j2 := hJ 2 (by omega)
  have j3 := hJ 3 (by omega)
  have j1 := hJ 1 (by omega)
  refine ⟨⟨t1, by rw [j2]; exact t2, t3, fun i hi => by rw [j3]; exact t4 i hi⟩, ⟨by rw [j2]; exact l1, l2, by rw [j2]; exact l3, l4, l5, l6, by rw [j2]; exact l7⟩, ⟨by rw [j1]; exact f1, by rw [j1]; exact f2, f3, f4⟩, fun x hx => by rw [hJ x (by omega), hA x hx], hB⟩
/-- the reference's program changes -/
theorem SL_m {n : Nat} {b : Nat → Nat} {I0 M0 : Mem} {k p q v : Nat} {I M N : Mem} (h : SL n b I0 M0 k p q v I M) (hN : ∀ x, x < 20 ∨ x = 21 ∨ 28 < x → N x = M x) (hN2 : ∀ x, x < 6 ∨ 9 < x → N 20 x = M 20 x) : SL n b I0 M0 k p q v I N := by
  obtain ⟨⟨t1, t2, t3, t4⟩, ⟨l1, l2, l3, l4, l5, l6, l7⟩, ⟨f1, f2, f3, f4⟩, hA, hB⟩ := h
  refine ⟨⟨t1, t2, by rw [hN2 1 (by omega)]; exact t3, fun i hi => by rw [hN 21 (by omega)]; exact t4 i hi⟩, ⟨l1, by rw [hN2 18 (by omega)]; exact l2, l3, by rw [hN2 19 (by omega)]; exact l4, l5, l6, by rw [hN2 17 (by omega), hN2 20 (by omega)]; exact l7⟩, ⟨f1, f2, by rw [hN2 3 (by omega)]; exact f3, by rw [hN2 4 (by omega)]; exact f4⟩, hA, ⟨fun x hx => by rw [hN x (by omega), hB.1 x hx], fun x hx => by rw [hN2 x (by omega), hB.2 x hx]⟩⟩
theorem tell_ok {I0 M0 I M : Mem} (f pl : Nat) (hf : 1 ≤ f ∧ f ≤ 5) (h3 : M 20 3 = 0) (hA : FrA I0 I) (hB : FrB M0 M) : g_45 (nI f) (nI pl) I = some (0, mm_up (mm_up I 1 2 (nI f)) 1 3 (nI pl)) ∧ g_123 (nI f) (nI pl) M = some (mm_up (mm_up M 20 3 (nI f)) 20 4 (nI pl)) ∧ BAD I0 M0 (mm_up (mm_up I 1 2 (nI f)) 1 3 (nI pl)) (mm_up (mm_up M 20 3 (nI f)) 20 4 (nI pl)) := by
  refine ⟨rfl, ?_, fun x hx => by rw [mm_up_ne (by omega), mm_up_ne (by omega), hA x hx], ⟨fun x hx => by rw [mm_up_ne (by omega), mm_up_ne (by omega), hB.1 x hx], fun x hx => by rw [up_other (by omega), up_other (by omega), hB.2 x hx]⟩, f, pl, hf.1, hf.2, rfl, rfl, rfl, rfl⟩
  unfold g_123
  rw [if_pos (by rw [h3]; decide)]
theorem bad_n0 {I0 M0 I M : Mem} (h : BAD I0 M0 I M) : ¬ M 20 3 = 0 ∧ ¬ M 20 3 ≤ 0 ∧ 0 < M 20 3 := by
  obtain ⟨_, _, f, pl, h1, h2, _, h4, _⟩ := h
  rw [h4]
  exact ⟨nI_ne0 (by omega) (by omega), nI_nle (by omega) (by omega), k_lt (a := 0) (by rfl) (by rfl) (by omega) (by omega)⟩
/-- the reference goes on behind a fault -/
theorem BAD_m {I0 M0 I M N : Mem} (h : BAD I0 M0 I M) (hN : ∀ x, x < 20 ∨ x = 21 ∨ 28 < x → N x = M x) (hN2 : ∀ x, x < 6 ∨ 9 < x ∧ x < 17 ∨ 20 < x → N 20 x = M 20 x) : BAD I0 M0 I N := by
  obtain ⟨hA, hB, f, pl, h1, h2, h3, h4, h5, h6⟩ := h
  exact ⟨hA, ⟨fun x hx => by rw [hN x (by omega), hB.1 x hx], fun x hx => by rw [hN2 x (by omega), hB.2 x hx]⟩, f, pl, h1, h2, h3, by rw [hN2 3 (by omega)]; exact h4, h5, by rw [hN2 4 (by omega)]; exact h6⟩
theorem misfit_2 {n : Nat} {b : Nat → Nat} {I0 M0 : Mem} {k p q v : Nat} {I M : Mem} (h : SL n b I0 M0 k p q v I M) : ∃ I' M', g_44 I = some (0, I') ∧ g_122 M = some M' ∧ BAD I0 M0 I' M' ∧ (∀ x, x ≠ 20 → M' x = M x) ∧ ∀ x, x ≠ 3 → x ≠ 4 → M' 20 x = M 20 x := by
  obtain ⟨hT, hL, hF, hA, hB⟩ := h
  have l3 := lx_3 hL
  unfold g_44 g_122
  rw [hL.1, hL.2.1]
  rcases l3 with ⟨a1, a2⟩ | ⟨a1, a2⟩
  · rw [if_pos a1, if_pos a2]
    obtain ⟨e1, e2, e3⟩ := tell_ok (I0 := I0) (M0 := M0) (I := I) (M := M) 1 p (by omega) hF.2.2.1 hA hB
    refine ⟨_, _, ?_, ?_, e3, fun x hx => by rw [mm_up_ne hx, mm_up_ne hx], fun x h3 h4 => by rw [up_other h4, up_other h3]⟩
    · rw [show g_45 1 (nI p) I = _ from e1]
      first | rfl | simp only [Option.bind_some, nr0, nr1, s_10, ↓reduceIte]
    · rw [show g_123 1 (nI p) M = _ from e2]
      first | rfl | simp only [Option.bind_some, nr0, nr1, s_10, ↓reduceIte]
  · rw [if_neg a1, if_neg a2]
    obtain ⟨e1, e2, e3⟩ := tell_ok (I0 := I0) (M0 := M0) (I := I) (M := M) 2 p (by omega) hF.2.2.1 hA hB
    refine ⟨_, _, ?_, ?_, e3, fun x hx => by rw [mm_up_ne hx, mm_up_ne hx], fun x h3 h4 => by rw [up_other h4, up_other h3]⟩
    · rw [show g_45 2 (nI p) I = _ from e1]
      first | rfl | simp only [Option.bind_some, nr0, nr1, s_10, ↓reduceIte]
    · rw [show g_123 2 (nI p) M = _ from e2]
      first | rfl | simp only [Option.bind_some, nr0, nr1, s_10, ↓reduceIte]
theorem misfit_ok {n : Nat} {b : Nat → Nat} {I0 M0 : Mem} {k p q v : Nat} {I M : Mem} (h : SL n b I0 M0 k p q v I M) : ∃ I' M', g_44 I = some (0, I') ∧ g_122 M = some M' ∧ BAD I0 M0 I' M' := by
  obtain ⟨I', M', e1, e2, e3, _⟩ := misfit_2 h
  exact ⟨I', M', e1, e2, e3⟩
theorem take_ok {n : Nat} {b : Nat → Nat} {I0 M0 : Mem} {k p q v : Nat} {I M : Mem} (h : SL n b I0 M0 k p q v I M) (c : Nat) (hc : 38 ≤ c ∧ c < 128) : (∃ (k' p' q' v' : Nat) (I' M' : Mem), g_42 (nI c) I = some (1, I') ∧ g_124 (nI c) M = some M' ∧ SL n b I0 M0 k' p' q' v' I' M' ∧ FxC I I' ∧ FxM M M') ∨ (∃ I' M', g_42 (nI c) I = some (0, I') ∧ g_124 (nI c) M = some M' ∧ BAD I0 M0 I' M') := by
  unfold g_42 g_124
  rcases t_sign h.1 h.2.1 c hc with ⟨a1, a2⟩ | ⟨a1, a2⟩
  · obtain ⟨k', p', q', v', I', M', e1, e2, e3, e4, e5⟩ := next_ok h
    refine Or.inl ⟨k', p', q', v', I', M', ?_, ?_, e3, e4, e5⟩
    · rw [a2]
      try simp only [Option.bind_some, nr0, nr1, s_10, s_n10, s_n00, s_a, s_b, s_c, s_d, s_e, ↓reduceIte]
      rw [e1]
      first | rfl | simp only [Option.bind_some, nr0, nr1, s_10, ↓reduceIte]
    · rw [if_pos a1, e2]
      first | rfl | simp only [Option.bind_some, nr0, nr1, s_10, ↓reduceIte]
  · obtain ⟨I', M', e1, e2, e3⟩ := misfit_ok h
    refine Or.inr ⟨I', M', ?_, ?_, e3⟩
    · rw [a2]
      try simp only [Option.bind_some, nr0, nr1, s_10, s_n10, s_n00, s_a, s_b, s_c, s_d, s_e, ↓reduceIte]
      rw [e1]
      first | rfl | simp only [Option.bind_some, nr0, nr1, s_10, ↓reduceIte]
    · rw [if_neg a1, e2]
      first | rfl | simp only [Option.bind_some, nr0, nr1, s_10, ↓reduceIte]
theorem PR_x {t a m c : Nat} {ow : Nat → Nat} {I M J N : Mem} (h : PR t a m c ow I M) (h1 : ∀ x, 4 ≤ x → x ≤ 11 → J x = I x) (h2 : ∀ x, 22 ≤ x → x ≤ 28 → N x = M x) (h3 : ∀ x, 6 ≤ x → x ≤ 9 → N 20 x = M 20 x) : PR t a m c ow J N := by
  obtain ⟨p0, p1, p2, p3, p4, p5, p6, p7⟩ := h
  have j4 := h1 4 (by omega) (by omega)
  refine ⟨p0, ⟨by rw [j4]; exact p1.1, by rw [h3 6 (by omega) (by omega)]; exact p1.2⟩, ⟨by rw [j4]; exact p2.1, by rw [h3 7 (by omega) (by omega)]; exact p2.2⟩, ⟨by rw [j4]; exact p3.1, by rw [h3 8 (by omega) (by omega)]; exact p3.2⟩, ⟨by rw [j4]; exact p4.1, by rw [h3 9 (by omega) (by omega)]; exact p4.2⟩, fun k hk => ?_, p6, fun k hk => ?_⟩
  · unfold rA
    rw [h1 5 (by omega) (by omega), h1 6 (by omega) (by omega), h1 7 (by omega) (by omega), h1 8 (by omega) (by omega), h2 22 (by omega) (by omega), h2 23 (by omega) (by omega), h2 24 (by omega) (by omega), h2 25 (by omega) (by omega)]
    exact p5 k hk
  · unfold rTm
    rw [h1 9 (by omega) (by omega), h1 10 (by omega) (by omega), h1 11 (by omega) (by omega), h2 26 (by omega) (by omega), h2 27 (by omega) (by omega), h2 28 (by omega) (by omega)]
    exact p7 k hk
theorem PR_xx {t a m c : Nat} {ow : Nat → Nat} {I M J N : Mem} (h : PR t a m c ow I M) (h1 : FxC I J) (h2 : FxM M N) : PR t a m c ow J N := PR_x h (fun x _ _ => h1.1 x (by omega)) (fun x _ _ => h2.1 x (by omega)) (fun x _ _ => h2.2 x (by omega))
/-- an action more -/
def cadd (a : Nat) (o q p v : Int32) (I : Mem) : Mem := mm_up (mm_up (mm_up (mm_up (mm_up I 5 a o) 6 a q) 7 a p) 8 a v) 4 1 (nI (a + 1))
def madd (a : Nat) (o q p v : Int32) (M : Mem) : Mem := mm_up (mm_up (mm_up (mm_up (mm_up M 22 a o) 23 a q) 24 a p) 25 a v) 20 7 (nI (a + 1))
theorem g56_ok {t a : Nat} {q p v : Int32} {I : Mem} (h1 : I 4 1 = nI a) (ha : a < 24) (h0 : I 4 0 = nI t) (ht : 1 ≤ t) : g_56 q p v I = some (cadd a (nI (t - 1)) q p v I) := by
  unfold g_56
  rw [h1, if_neg (k_ge (b := 24) (by rfl) (by rfl) ha (by omega)), h0, show nI t - (1 : Int32) = nI (t - 1) from pk_sub (a := t) (b := 1) ht]
  unfold g_57
  rw [ix_nI ha (by omega), ix_nI ha (by omega), ix_nI ha (by omega), ix_nI ha (by omega)]
  show some (mm_up _ 4 1 (I 4 1 + 1)) = _
  rw [h1, nI_1]
  first | rfl | simp only [Option.bind_some, nr0, nr1, s_10, ↓reduceIte]
theorem g129_ok {a : Nat} {o q p v : Int32} {M : Mem} (h1 : M 20 7 = nI a) (ha : a < 24) : g_129 o q p v M = some (madd a o q p v M) := by
  unfold g_129
  rw [h1, ix_nI (by omega) (by omega), ix_nI (by omega) (by omega), ix_nI (by omega) (by omega), ix_nI (by omega) (by omega), nI_1]
  first | rfl | simp only [Option.bind_some, nr0, nr1, s_10, ↓reduceIte]
theorem PR_add {t a m c : Nat} {ow : Nat → Nat} {I M : Mem} {q p v : Int32} (h : PR t a m c ow I M) (ht : 1 ≤ t) (ha : a < 24) (hv : vA q p v) : PR t (a + 1) m c (fun k => if k = a then t - 1 else ow k) (cadd a (nI (t - 1)) q p v I) (madd a (nI (t - 1)) q p v M) := by
  obtain ⟨p0, p1, p2, p3, p4, p5, p6, p7⟩ := h
  refine ⟨⟨p0.1, by omega, p0.2.2.1, p0.2.2.2⟩, p1, ⟨rfl, rfl⟩, p3, p4, fun k hk => ?_, fun k hk => ?_, p7⟩
  · show (if k = a then t - 1 else ow k) < t ∧ mm_up I 5 a (nI (t - 1)) 5 k = nI (if k = a then t - 1 else ow k) ∧ mm_up M 22 a (nI (t - 1)) 22 k = nI (if k = a then t - 1 else ow k) ∧ mm_up I 6 a q 6 k = mm_up M 23 a q 23 k ∧ mm_up I 7 a p 7 k = mm_up M 24 a p 24 k ∧ mm_up I 8 a v 8 k = mm_up M 25 a v 25 k ∧ vA (mm_up M 23 a q 23 k) (mm_up M 24 a p 24 k) (mm_up M 25 a v 25 k)
    by_cases e : k = a
    · rw [e, if_pos rfl, up_same, up_same, up_same, up_same, up_same, up_same, up_same, up_same]
      exact ⟨by omega, rfl, rfl, rfl, rfl, rfl, hv⟩
    · rw [if_neg e, up_other e, up_other e, up_other e, up_other e, up_other e, up_other e, up_other e, up_other e]
      exact p5 k (by omega)
  · show (if k = a then t - 1 else ow k) ≤ (if k + 1 = a then t - 1 else ow (k + 1))
    rw [if_neg (by omega)]
    by_cases e : k + 1 = a
    · rw [if_pos e]
      have := (p5 k (by omega)).1
      omega
    · rw [if_neg e]; exact p6 k (by omega)
/-- a term more -/
def ctrm (m : Nat) (x y z : Int32) (I : Mem) : Mem := mm_up (mm_up (mm_up (mm_up I 9 m x) 10 m y) 11 m z) 4 2 (nI (m + 1))
def mtrm (m : Nat) (x y z : Int32) (M : Mem) : Mem := mm_up (mm_up (mm_up (mm_up M 26 m x) 27 m y) 28 m z) 20 8 (nI (m + 1))
theorem g65_ok {m : Nat} {x y z : Int32} {I : Mem} (h1 : I 4 2 = nI m) (hm : m < 16) : g_65 x y z I = some (ctrm m x y z I) := by
  unfold g_65
  rw [h1, if_neg (k_ge (b := 16) (by rfl) (by rfl) hm (by omega)), ix_nI hm (by omega), ix_nI hm (by omega), ix_nI hm (by omega), nI_1]
  first | rfl | simp only [Option.bind_some, nr0, nr1, s_10, ↓reduceIte]
theorem PR_trm {t a m c : Nat} {ow : Nat → Nat} {I M : Mem} {x y z : Int32} (h : PR t a m c ow I M) (hm : m < 16) (hv : vT x y z) : PR t a (m + 1) c ow (ctrm m x y z I) (mtrm m x y z M) := by
  obtain ⟨p0, p1, p2, p3, p4, p5, p6, p7⟩ := h
  refine ⟨⟨p0.1, p0.2.1, by omega, p0.2.2.2⟩, p1, p2, ⟨rfl, rfl⟩, p4, p5, p6, fun k hk => ?_⟩
  show mm_up I 9 m x 9 k = mm_up M 26 m x 26 k ∧ mm_up I 10 m y 10 k = mm_up M 27 m y 27 k ∧ mm_up I 11 m z 11 k = mm_up M 28 m z 28 k ∧ vT (mm_up M 26 m x 26 k) (mm_up M 27 m y 27 k) (mm_up M 28 m z 28 k)
  by_cases e : k = m
  · rw [e, up_same, up_same, up_same, up_same, up_same, up_same]
    exact ⟨rfl, rfl, rfl, hv⟩
  · rw [up_other e, up_other e, up_other e, up_other e, up_other e, up_other e]
    exact p7 k (by omega)
theorem cadd_f {a : Nat} {o q p v : Int32} {I : Mem} : ∀ x, x < 4 ∨ 11 < x → cadd a o q p v I x = I x := fun x hx => by
  unfold cadd
  rw [mm_up_ne (by omega), mm_up_ne (by omega), mm_up_ne (by omega), mm_up_ne (by omega), mm_up_ne (by omega)]
theorem ctrm_f {m : Nat} {x y z : Int32} {I : Mem} : ∀ k, k < 4 ∨ 11 < k → ctrm m x y z I k = I k := fun k hk => by
  unfold ctrm
  rw [mm_up_ne (by omega), mm_up_ne (by omega), mm_up_ne (by omega), mm_up_ne (by omega)]
theorem madd_f {a : Nat} {o q p v : Int32} {M : Mem} : (∀ x, x < 20 ∨ x = 21 ∨ 28 < x → madd a o q p v M x = M x) ∧ ∀ x, x < 6 ∨ 9 < x → madd a o q p v M 20 x = M 20 x := by
  unfold madd
  refine ⟨fun x hx => by rw [mm_up_ne (by omega), mm_up_ne (by omega), mm_up_ne (by omega), mm_up_ne (by omega), mm_up_ne (by omega)], fun x hx => ?_⟩
  rw [up_other (by omega)]
  first | rfl | simp only [Option.bind_some, nr0, nr1, s_10, ↓reduceIte]
theorem mtrm_f {m : Nat} {x y z : Int32} {M : Mem} : (∀ k, k < 20 ∨ k = 21 ∨ 28 < k → mtrm m x y z M k = M k) ∧ ∀ k, k < 6 ∨ 9 < k → mtrm m x y z M 20 k = M 20 k := by
  unfold mtrm
  refine ⟨fun k hk => by rw [mm_up_ne (by omega), mm_up_ne (by omega), mm_up_ne (by omega), mm_up_ne (by omega)], fun k hk => ?_⟩
  rw [up_other (by omega)]
  first | rfl | simp only [Option.bind_some, nr0, nr1, s_10, ↓reduceIte]
/-- behind an action: its ; -/
theorem tail_ok {n : Nat} {b : Nat → Nat} {I0 M0 : Mem} {k p q v : Nat} {J N I1 : Mem} {t a m c : Nat} {ow : Nat → Nat} {kq pl vv : Int32} (h : SL n b I0 M0 k p q v J N) (hP : PR t a m c ow I1 N) (hJ : FxC (cadd a (nI (t - 1)) kq pl vv I1) J) (ht : 1 ≤ t) (ha : a < 24) (hv : vA kq pl vv) : (∃ (k' p' q' v' : Nat) (I' M' : Mem) (ow' : Nat → Nat), g_42 59 J = some (1, I') ∧ j_126_147 (nI (t - 1)) kq pl vv N = some M' ∧ SL n b I0 M0 k' p' q' v' I' M' ∧ PR t (a + 1) m c ow' I' M') ∨ (∃ I' M', g_42 59 J = some (0, I') ∧ j_126_147 (nI (t - 1)) kq pl vv N = some M' ∧ BAD I0 M0 I' M') := by
  unfold j_126_147
  rw [if_pos h.2.2.1.2.2.1]
  rcases take_ok h 59 (by omega) with ⟨k', p', q', v', I', M', e1, e2, e3, e4, e5⟩ | ⟨I', M', e1, e2, e3⟩
  · have hP2 : PR t a m c ow I1 M' := PR_xx hP (FxC_r I1) e5
    have hP3 := PR_add hP2 ht ha hv
    refine Or.inl ⟨k', p', q', v', I', madd a (nI (t - 1)) kq pl vv M', _, e1, ?_, SL_m e3 madd_f.1 madd_f.2, PR_x hP3 (fun x x1 x2 => by rw [e4.1 x (by omega), hJ.1 x (by omega)]) (fun _ _ _ => rfl) (fun _ _ _ => rfl)⟩
    rw [show g_124 59 N = some M' from e2]
    try simp only [Option.bind_some, nr0, nr1, s_10, s_n10, s_n00, s_a, s_b, s_c, s_d, s_e, ↓reduceIte]
    unfold j_126_160
    rw [if_pos e3.2.2.1.2.2.1, g129_ok hP2.2.2.1.2 ha]
    first | rfl | simp only [Option.bind_some, nr0, nr1, s_10, ↓reduceIte]
  · refine Or.inr ⟨I', M', e1, ?_, e3⟩
    rw [show g_124 59 N = some M' from e2]
    try simp only [Option.bind_some, nr0, nr1, s_10, s_n10, s_n00, s_a, s_b, s_c, s_d, s_e, ↓reduceIte]
    unfold j_126_160
    rw [if_neg (bad_n0 e3).1]
/-- what an action comes to -/
def ACT (n : Nat) (b : Nat → Nat) (I0 M0 : Mem) (t a m c : Nat) (x : Int32) (w4 : Mem) (N : Option Mem) : Prop :=
  (∃ (w5 w6 M' : Mem) (k' p' q' v' : Nat) (ow' : Nat → Nat), g_55 x w4 = some (1, w5) ∧ g_42 59 w5 = some (1, w6) ∧ N = some M' ∧ SL n b I0 M0 k' p' q' v' w6 M' ∧ PR t (a + 1) m c ow' w6 M') ∨
  (∃ w5 M', g_55 x w4 = some (0, w5) ∧ N = some M' ∧ BAD I0 M0 w5 M') ∨
  (∃ w5 w6 M', g_55 x w4 = some (1, w5) ∧ g_42 59 w5 = some (0, w6) ∧ N = some M' ∧ BAD I0 M0 w6 M')
theorem tail_act {n : Nat} {b : Nat → Nat} {I0 M0 : Mem} {k p q v : Nat} {J N I1 w4 : Mem} {t a m c : Nat} {ow : Nat → Nat} {kq pl vv x : Int32} (h : SL n b I0 M0 k p q v J N) (hP : PR t a m c ow I1 N) (hJ : FxC (cadd a (nI (t - 1)) kq pl vv I1) J) (ht : 1 ≤ t) (ha : a < 24) (hv : vA kq pl vv) (h55 : g_55 x w4 = some (1, J)) : ACT n b I0 M0 t a m c x w4 (j_126_147 (nI (t - 1)) kq pl vv N) := by
  rcases tail_ok h hP hJ ht ha hv with ⟨k', p', q', v', I', M', ow', e1, e2, e3, e4⟩ | ⟨I', M', e1, e2, e3⟩
  · exact Or.inl ⟨J, I', M', k', p', q', v', ow', h55, e1, e2, e3, e4⟩
  · exact Or.inr (Or.inr ⟨J, I', M', h55, e1, e2, e3⟩)
theorem bad_147 {I0 M0 I M : Mem} {x1 x2 x3 x4 : Int32} (h : BAD I0 M0 I M) : j_126_147 x1 x2 x3 x4 M = some M := by
  unfold j_126_147
  rw [if_neg (bad_n0 h).1]
  unfold j_126_160
  rw [if_neg (bad_n0 h).1]
/-- the reference's number, as the class sees it -/
theorem num_ok {n : Nat} {b : Nat → Nat} {I0 M0 : Mem} {k p q v : Nat} {I M : Mem} (h : SL n b I0 M0 k p q v I M) : (∃ (k' p' q' v' : Nat) (M' : Mem) (I' : Mem), v ≤ 99 ∧ I 2 5 = nI v ∧ g_59 I = some (1, I) ∧ g_34 I = some I' ∧ g_128 M = some (nI v, M') ∧ SL n b I0 M0 k' p' q' v' I' M' ∧ FxC I I' ∧ FxM M M') ∨ (∃ (I' M' : Mem) (y : Int32), g_59 I = some (0, I') ∧ g_128 M = some (y, M') ∧ BAD I0 M0 I' M' ∧ (∀ x, 22 ≤ x → x ≤ 28 → M' x = M x) ∧ ∀ x, 6 ≤ x → x ≤ 9 → M' 20 x = M 20 x) := by
  unfold g_59 g_128
  rcases lx_1 h.2.1 with ⟨a1, a2, a3, a4, a5⟩ | ⟨a1, a2⟩
  · rw [if_pos a1, if_pos a2, a4, a5]
    obtain ⟨k', p', q', v', I', M', e1, e2, e3, e4, e5⟩ := next_ok h
    by_cases hv : v ≤ 99
    · rw [if_neg (show ¬ 100 < v from by omega), if_pos (k_le (b := 99) (by rfl) (by rfl) hv (by omega)), if_pos (k_le (b := 99) (by rfl) (by rfl) hv (by omega)), e2]
      exact Or.inl ⟨k', p', q', v', M', I', hv, rfl, rfl, e1, rfl, e3, e4, e5⟩
    · rw [if_neg (k_ge (a := 99) (by rfl) (by rfl) (by split <;> omega) (by split <;> omega)), if_neg (k_ge (a := 99) (by rfl) (by rfl) (by omega) (by omega)), h.2.1.1, h.2.1.2.1]
      obtain ⟨t1, t2, t3⟩ := tell_ok (I0 := I0) (M0 := M0) (I := I) (M := M) 3 p (by omega) h.2.2.1.2.2.1 h.2.2.2.1 h.2.2.2.2
      -- the reference reads on behind its fault
      have hT2 : TX n b I (mm_up (mm_up M 20 3 (nI 3)) 20 4 (nI p)) := h.1
      obtain ⟨_, _, _, _, _, M2, _, f2, _, _, f5⟩ := lex_ok (I := I) hT2 h.2.1.2.2.1 (show (mm_up (mm_up M 20 3 (nI 3)) 20 4 (nI p)) 20 19 = nI q from h.2.1.2.2.2.1) h.2.1.2.2.2.2.2.1
      refine Or.inr ⟨mm_up (mm_up I 1 2 (nI 3)) 1 3 (nI p), M2, nI v, ?_, ?_, BAD_m t3 (fun x hx => f5.1 x (by omega)) (fun x hx => f5.2 x (by omega)), fun x x1 x2 => by rw [f5.1 x (by omega), mm_up_ne (by omega), mm_up_ne (by omega)], fun x x1 x2 => by rw [f5.2 x (by omega), up_other (by omega), up_other (by omega)]⟩
      · rw [show g_45 3 (nI p) I = _ from t1]
        first | rfl | simp only [Option.bind_some, nr0, nr1, s_10, ↓reduceIte]
      · rw [show g_123 3 (nI p) M = _ from t2]
        try simp only [Option.bind_some, nr0, nr1, s_10, s_n10, s_n00, s_a, s_b, s_c, s_d, s_e, ↓reduceIte]
        rw [f2]
        first | rfl | simp only [Option.bind_some, nr0, nr1, s_10, ↓reduceIte]
  · rw [if_neg a1, if_neg a2]
    obtain ⟨I', M', e1, e2, e3, e4, e5⟩ := misfit_2 h
    refine Or.inr ⟨I', M', 0, ?_, ?_, e3, fun x x1 x2 => e4 x (by omega), fun x x1 x2 => e5 x (by omega) (by omega)⟩
    · rw [e1]; (first | rfl | simp only [Option.bind_some, nr0, nr1, s_10, ↓reduceIte])
    · rw [e2]; (first | rfl | simp only [Option.bind_some, nr0, nr1, s_10, ↓reduceIte])
set_option maxHeartbeats 2000000 in
theorem act_ok {n : Nat} {b : Nat → Nat} {I0 M0 : Mem} {k p q v : Nat} {I M : Mem} {t a m c : Nat} {ow : Nat → Nat} (h : SL n b I0 M0 k p q v I M) (hP : PR t a m c ow I M) (ht : 1 ≤ t) (ha : a < 24) (x : Nat) (hx : x < 3) : ∃ w4, g_34 I = some w4 ∧ ACT n b I0 M0 t a m c (nI x) w4 (j_126_70 (nI (t - 1)) (nI x) M) := by
  obtain ⟨k4, p4, q4, v4, w4, M4, e1, e2, e3, e4, e5⟩ := next_ok h
  have hP4 := PR_xx hP e4 e5
  refine ⟨w4, e1, ?_⟩
  unfold j_126_70
  rw [if_pos (by rw [h.2.2.1.2.2.1]; decide), e2]
  try simp only [Option.bind_some, nr0, nr1, s_10, s_n10, s_n00, s_a, s_b, s_c, s_d, s_e, ↓reduceIte]
  by_cases x2 : x = 2
  · subst x2
    rw [if_pos (by decide)]
    refine tail_act (J := cadd a (nI (t - 1)) 2 (-1) (-1) w4) (I1 := w4) (SL_c e3 cadd_f) hP4 (FxC_r _) ht ha (Or.inl ⟨rfl, rfl, rfl⟩) ?_
    unfold g_55
    rw [if_pos (by decide), g56_ok hP4.2.2.1.1 ha hP4.2.1.1 ht]
    first | rfl | simp only [Option.bind_some, nr0, nr1, s_10, ↓reduceIte]
  · rw [if_neg (k_ge (b := 2) (by rfl) (by rfl) (by omega) (by omega))]
    have nx2 : ¬ nI x = 2 := fun r => x2 ((nI_eq (b := 2) (by omega) (by omega)).mp r)
    obtain ⟨y, y1, y2, y3⟩ := t_place e3.1 e3.2.1
    rw [y2]
    try simp only [Option.bind_some, nr0, nr1, s_10, s_n10, s_n00, s_a, s_b, s_c, s_d, s_e, ↓reduceIte]
    rcases y3 with rfl | ⟨d, hd, rfl, _, _⟩
    · obtain ⟨I', M', f1, f2, f3⟩ := misfit_ok e3
      rw [if_neg (by decide), f2]
      refine Or.inr (Or.inl ⟨I', M', ?_, rfl, f3⟩)
      unfold g_55
      rw [if_neg nx2, y1]
      try simp only [Option.bind_some, nr0, nr1, s_10, s_n10, s_n00, s_a, s_b, s_c, s_d, s_e, ↓reduceIte]
      rw [f1]
      first | rfl | simp only [Option.bind_some, nr0, nr1, s_10, ↓reduceIte]
    · rw [if_pos (nI_pos' (by omega))]
      obtain ⟨k6, p6, q6, v6, w6, M6, g1, g2, g3, g4, g5⟩ := next_ok e3
      have hP6 := PR_xx hP4 g4 g5
      have nd : ¬ nI d = -1 := ne1 d (by omega)
      rw [g2]
      try simp only [Option.bind_some, nr0, nr1, s_10, s_n10, s_n00, s_a, s_b, s_c, s_d, s_e, ↓reduceIte]
      have c55 : ∀ r, (if nI x = 0 then ((g_59 w6).bind (fun w7 => (if w7.1 = 0 then (some ((0 : Int32), w7.2)) else ((g_56 (0 : Int32) (nI d) (w7.2 2 5) w7.2).bind (fun w8 => ((g_34 w8).bind (fun w9 => (some ((1 : Int32), w9))))))))) else ((g_40 (114 : Int32) w6).bind (fun w3 => (if w3 = (-1 : Int32) then ((g_44 w6).bind (fun w6' => (nr .boolean w6'.1 (some (w6'.1, w6'.2))))) else ((g_56 (1 : Int32) (nI d) w3 w6).bind (fun w4' => ((g_34 w4').bind (fun w5 => (some ((1 : Int32), w5)))))))))) = r → g_55 (nI x) w4 = r := by
        intro r hr
        unfold g_55
        rw [if_neg nx2, y1]
        try simp only [Option.bind_some, nr0, nr1, s_10, s_n10, s_n00, s_a, s_b, s_c, s_d, s_e, ↓reduceIte]
        rw [if_neg nd, g1]
        exact hr
      by_cases x0 : x = 0
      · subst x0
        rw [if_pos (by decide)] at c55 ⊢
        rcases num_ok g3 with ⟨k7, p7, q7, v7, M7, w7, a1, a2, a3, a4, a5, a6, a7, a8⟩ | ⟨I', M', y, b1, b2, b3, _, _⟩
        · rw [a5]
          try simp only [Option.bind_some, nr0, nr1, s_10, s_n10, s_n00, s_a, s_b, s_c, s_d, s_e, ↓reduceIte]
          -- the class puts its row in ahead of reading on
          obtain ⟨k8, p8, q8, v8, w8, M8, h1, h2, h3, h4, h5⟩ := next_ok (SL_c g3 (cadd_f (a := a) (o := nI (t - 1)) (q := 0) (p := nI d) (v := nI v6)))
          have em : M8 = M7 := by
            have q := a5
            unfold g_128 at q
            rcases lx_1 g3.2.1 with ⟨r1, r2, r3, r4, r5⟩ | ⟨_, r2⟩
            · rw [if_pos r2, r5, if_pos (k_le (b := 99) (by rfl) (by rfl) a1 (by omega)), h2] at q
              have q2 := Option.some.inj q
              exact congrArg Prod.snd q2
            · rw [if_neg r2] at q
              obtain ⟨_, M9, _, z2, z3⟩ := misfit_ok g3
              rw [z2] at q
              have q2 := Option.some.inj q
              have q3 : M9 = M7 := congrArg Prod.snd q2
              exact absurd (q3 ▸ a6.2.2.1.2.2.1) (bad_n0 z3).1
          subst em
          have hP7 := PR_xx hP6 (FxC_r w6) h5
          refine tail_act (J := w8) (I1 := w6) h3 hP7 h4 ht ha (Or.inr ⟨d, v6, hd, rfl, rfl, Or.inl ⟨rfl, a1⟩⟩) (c55 _ ?_)
          rw [a3]
          try simp only [Option.bind_some, nr0, nr1, s_10, s_n10, s_n00, s_a, s_b, s_c, s_d, s_e, ↓reduceIte]
          rw [a2, g56_ok hP6.2.2.1.1 ha hP6.2.1.1 ht]
          try simp only [Option.bind_some, nr0, nr1, s_10, s_n10, s_n00, s_a, s_b, s_c, s_d, s_e, ↓reduceIte]
          rw [h1]
          first | rfl | simp only [Option.bind_some, nr0, nr1, s_10, ↓reduceIte]
        · rw [b2]
          try simp only [Option.bind_some, nr0, nr1, s_10, s_n10, s_n00, s_a, s_b, s_c, s_d, s_e, ↓reduceIte]
          rw [bad_147 b3]
          refine Or.inr (Or.inl ⟨I', M', c55 _ ?_, rfl, b3⟩)
          rw [b1]
          first | rfl | simp only [Option.bind_some, nr0, nr1, s_10, ↓reduceIte]
      · have nx0 : ¬ nI x = 0 := nI_ne0 (by omega) (by omega)
        have x1 : x = 1 := by omega
        subst x1
        rw [if_neg (by decide)] at c55 ⊢
        obtain ⟨z, z1, z2, z3⟩ := t_named g3.1 g3.2.1 114 (by omega)
        rw [show g_120 114 M6 = some z from z2]
        try simp only [Option.bind_some, nr0, nr1, s_10, s_n10, s_n00, s_a, s_b, s_c, s_d, s_e, ↓reduceIte]
        rcases z3 with rfl | ⟨g, hg, rfl, _, _, _⟩
        · obtain ⟨I', M', f1, f2, f3⟩ := misfit_ok g3
          rw [if_neg (by decide), f2]
          try simp only [Option.bind_some, nr0, nr1, s_10, s_n10, s_n00, s_a, s_b, s_c, s_d, s_e, ↓reduceIte]
          rw [bad_147 f3]
          refine Or.inr (Or.inl ⟨I', M', c55 _ ?_, rfl, f3⟩)
          rw [show g_40 114 w6 = some (-1) from z1]
          try simp only [Option.bind_some, nr0, nr1, s_10, s_n10, s_n00, s_a, s_b, s_c, s_d, s_e, ↓reduceIte]
          rw [f1]
          first | rfl | simp only [Option.bind_some, nr0, nr1, s_10, ↓reduceIte]
        · rw [if_pos (nI_pos' (by omega))]
          obtain ⟨k8, p8, q8, v8, w8, M8, h1, h2, h3, h4, h5⟩ := next_ok (SL_c g3 (cadd_f (a := a) (o := nI (t - 1)) (q := 1) (p := nI d) (v := nI g)))
          rw [h2]
          try simp only [Option.bind_some, nr0, nr1, s_10, s_n10, s_n00, s_a, s_b, s_c, s_d, s_e, ↓reduceIte]
          have hP7 := PR_xx hP6 (FxC_r w6) h5
          refine tail_act (J := w8) (I1 := w6) h3 hP7 h4 ht ha (Or.inr ⟨d, g, hd, rfl, rfl, Or.inr ⟨rfl, by omega⟩⟩) (c55 _ ?_)
          rw [show g_40 114 w6 = some (nI g) from z1]
          try simp only [Option.bind_some, nr0, nr1, s_10, s_n10, s_n00, s_a, s_b, s_c, s_d, s_e, ↓reduceIte]
          rw [if_neg (ne1 g (by omega)), g56_ok hP6.2.2.1.1 ha hP6.2.1.1 ht]
          try simp only [Option.bind_some, nr0, nr1, s_10, s_n10, s_n00, s_a, s_b, s_c, s_d, s_e, ↓reduceIte]
          rw [h1]
          first | rfl | simp only [Option.bind_some, nr0, nr1, s_10, ↓reduceIte]
end MMAH
