/-! THE PAIR make, 4: the pair (written by wip/whole/gen/make4_part.py). -/
section MMAE
set_option maxHeartbeats 4000000 in
/-- a ring, told on both sides: the same rows, the same terms -/
theorem make_ok {e : Nat} {K : Nat → Nat} {I M : Mem} (hc : RC e K I) (hm : RM e K M) (hf : FINr e K) (h7 : M 20 7 = 0) (h8 : M 20 8 = 0) : ∃ (J N W : Mem) (l : List Rw) (lt : List Tw), g_73 I = some (mm_up J 4 3 (if lt.length = 0 then 0 else 1)) ∧ g_140 M = some W ∧ W 20 21 = nI e ∧ g_141 (mm_up W 20 6 (W 32 (e - 1) + 1)) = some (mm_up N 20 9 (if lt.length = 0 then 0 else 1)) ∧ rwC l J ∧ rwM l N ∧ rtC lt J ∧ rtM lt N ∧ J 4 0 = nI (rTh K e) ∧ N 20 6 = nI (rTh K e) ∧ l.length ≤ 16 ∧ lt.length ≤ 12 ∧ Gd (rTh K e - 1) l ∧ Gt lt ∧ (∀ b, b < 4 ∨ 11 < b → b ≠ 14 → b ≠ 15 → J b = I b) ∧ (∀ b, b < 20 ∨ b = 21 ∨ 28 < b → b < 32 → N b = M b) ∧ (∀ b, b ≠ 6 → b ≠ 7 → b ≠ 8 → N 20 b = M 20 b) := by
  have tl := th_lo K e
  obtain ⟨f1, f2, f3, f4, f5⟩ := id hf
  have he : e ≤ 8 := by omega
  obtain ⟨f, ef, hr⟩ := first_ok hc hf
  have hP : rLo K e = rLo K e := rfl
  have hfe := hr.2.2.1
  -- the reference lays out
  obtain ⟨N1, n1, n2, n3⟩ := layM (P := rLo K e) hm hr rfl e 0 5000 (-1) M (by omega) (by omega) (fun _ _ _ => rfl) (fun i hi => absurd hi (Nat.not_lt_zero i)) (Or.inl ⟨rfl, fun j hj => absurd hj (Nat.not_lt_zero j)⟩)
  have hm1 : RM e K N1 := ⟨hm.1, by rw [n1 20 (by decide) (by decide)]; exact hm.2.1, fun k hk => by rw [n1 29 (by decide) (by decide)]; exact hm.2.2 k hk⟩
  -- the numbers
  have r0 : rix e f 0 = f := by unfold rix; rw [if_pos (by omega)]; rfl
  have nb0 : NB e f (rLo K e) 0 0 0 0 K (fun _ => 0) I N1 I N1 := by
    refine ⟨fun _ _ _ => rfl, fun _ _ => rfl, fun i _ h => absurd h (Nat.not_lt_zero _), Nat.le_refl _, Nat.le_refl _, fun _ => ?_, fun q => by omega, fun i _ h => absurd h (Nat.not_lt_zero _), fun p h => absurd h (Nat.not_lt_zero p), fun _ => ⟨fun i _ h => absurd h (Nat.not_lt_zero _), Or.inl rfl⟩⟩
    rw [r0]
    constructor
    · unfold rPl
      have := lo_const hr.2.2.2.2 (e - f) (by omega)
      rw [show f + (e - f) = e from by omega] at this
      rw [← this, Nat.mod_self]
    · simp
  obtain ⟨I1, M1, val, s', z', r', k1, k2, nb⟩ := numb (x1 := nI (rTh K e)) (x2 := nI (rPl K (rLo K e) e)) (x3 := nI (rLo K e)) hc hm1 hr rfl e 0 5000 5000 0 0 0 (fun _ => 0) I N1 (by omega) (by omega) (by omega) nb0
  rw [r0] at k1
  obtain ⟨b1, b2, b3, b4, b5, b6, b7, b8, b9, b10⟩ := nb
  have all : ∀ i, i < e → rps e f i < e := fun i hi => by unfold rps; split <;> omega
  have hv : ∀ i, i < e → val i ≤ 12 := fun i hi => by have := (b3 i hi (all i hi)).2.2; omega
  have c14 : ∀ i, i < e → I1 14 i = nI (val i) := fun i hi => (b3 i hi (all i hi)).1
  have c34 : ∀ i, i < e → M1 34 i = nI (val i) := fun i hi => (b3 i hi (all i hi)).2.1
  have rP := b7 rfl
  have hG : ∀ p, p < rLo K e → rLW K (rLo K e) val p e ≤ 12 ∧ I1 15 p = nI (rLW K (rLo K e) val p e) := by
    intro p hp
    obtain ⟨g, g1, g2, g3⟩ := b9 p (by omega) hp
    rw [lw_eq hfe g3]
    exact ⟨by omega, g2⟩
  -- the class: its cleared program, its actions, its terms
  have hc1 : RC e K (mm_up (mm_up (mm_up (mm_up (mm_up I1 4 0 0) 4 1 0) 4 2 0) 4 3 0) 4 0 1) := ⟨hc.1, by show I1 12 3 = _; rw [b1 12 (by decide) (by decide)]; exact hc.2.1, fun k hk => by show _ ∧ I1 13 k = _; rw [b1 13 (by decide) (by decide)]; exact hc.2.2 k hk⟩
  obtain ⟨J1, a1, a2', a3, a4, a5⟩ := actsC (P := rLo K e) (val := val) hc1 he f5 f2 ⟨f3, f4⟩ c14 e 0 5000 0 _ (by omega) (by omega) (fun _ _ => rfl) (fun _ _ _ => rfl) ⟨rfl, fun k hk => absurd hk (Nat.not_lt_zero k)⟩ (fun _ => ⟨rfl, rfl⟩) (fun q => by omega)
  have c14' : ∀ i, i < e → J1 14 i = nI (val i) := fun i hi => by rw [a2' 14 (by omega)]; exact c14 i hi
  have hc2 : RC e K J1 := ⟨hc.1, by rw [a2' 12 (by omega)]; exact hc1.2.1, fun k hk => by rw [a2' 13 (by omega)]; exact hc1.2.2 k hk⟩
  obtain ⟨J2, t1, t2, t3, t4⟩ := trmsC (val := val) hc2 he c14' e 0 5000 J1 (by omega) (by omega) (fun _ _ _ => rfl) (fun _ _ => rfl) ⟨by rw [a3 2 (by decide) (by decide)]; rfl, fun k hk => absurd hk (Nat.not_lt_zero k)⟩
  have tlen := trms_len K val e
  have hG2 : ∀ p, p < rLo K e → rLW K (rLo K e) val p e ≤ 12 ∧ J2 15 p = nI (rLW K (rLo K e) val p e) := fun p hp => ⟨(hG p hp).1, by rw [t2 15 (by decide) (by omega), a2' 15 (by omega)]; exact (hG p hp).2⟩
  obtain ⟨J3, u1, u2, u3, u4⟩ := ptrC (P := rLo K e) (G := fun p => rLW K (rLo K e) val p e) (l := trms K val e) (I0 := J2) f4 (by omega) hG2 (rLo K e) 0 5000 J2 (by omega) (by omega) (fun _ _ _ => rfl) (fun _ _ => rfl) t4
  have ptop : ptr (fun p => rLW K (rLo K e) val p e) (trms K val e) 4 = ptr (fun p => rLW K (rLo K e) val p e) (trms K val e) (rLo K e) := by
    have := ptr_top (G := fun p => rLW K (rLo K e) val p e) (l := trms K val e) (P := rLo K e) (4 - rLo K e) (fun p h1 h2 => lw_top (by omega) h1)
    rw [show rLo K e + (4 - rLo K e) = 4 from by omega] at this
    exact this
  -- the reference tells the ring
  have w21 : M1 20 21 = nI e := by rw [b2 20 (by decide), n1 20 (by decide) (by decide)]; exact hm.2.1
  have c32 : M1 32 (e - 1) + 1 = nI (rTh K e) := by
    rw [b2 32 (by decide), (n2 (e - 1) (by omega)).1, nI_1]
    have := (th_s1 f5).1
    rw [show e - 1 + 1 = e from by omega] at this
    rw [this]
  obtain ⟨Z, z1, z2, z3⟩ := zeroM (M0 := mm_up M1 20 6 (M1 32 (e - 1) + 1)) 4 0 5000 (mm_up M1 20 6 (M1 32 (e - 1) + 1)) (by omega) (by omega) (fun _ _ _ => rfl) (fun q hq => absurd hq (Nat.not_lt_zero q))
  have zz : ∀ b, b ≠ 20 → b ≠ 35 → b ≠ 36 → Z b = M1 b := fun b h1 h2 h3 => by rw [z2 b h2 h3, mm_up_ne h1]
  have z20 : ∀ b, b ≠ 6 → Z 20 b = M1 20 b := fun b hb => by rw [z2 20 (by decide) (by decide), up_other hb]
  have hmZ : RM e K Z := ⟨hm.1, by rw [z20 21 (by decide)]; exact w21, fun k hk => by rw [zz 29 (by decide) (by decide) (by decide), b2 29 (by decide)]; exact hm1.2.2 k hk⟩
  have m7 : M1 20 7 = 0 := by rw [b2 20 (by decide), n1 20 (by decide) (by decide)]; exact h7
  have m8 : M1 20 8 = 0 := by rw [b2 20 (by decide), n1 20 (by decide) (by decide)]; exact h8
  obtain ⟨Y, y1, y2, y3, y4, y5⟩ := tellM (P := rLo K e) (val := val) hmZ he f5 f2 ⟨f3, f4⟩ (fun i hi => ⟨by rw [zz 32 (by decide) (by decide) (by decide), b2 32 (by decide)]; exact (n2 i hi).1, by rw [zz 33 (by decide) (by decide) (by decide), b2 33 (by decide)]; exact (n2 i hi).2, by rw [zz 34 (by decide) (by decide) (by decide)]; exact c34 i hi⟩) hv e 0 5000 Z (by omega) (by omega) ⟨fun _ _ _ _ => rfl, fun _ _ _ => rfl⟩ ⟨by rw [z20 7 (by decide), m7]; rfl, fun k hk => absurd hk (Nat.not_lt_zero k)⟩ ⟨by rw [z20 8 (by decide), m8]; rfl, fun k hk => absurd hk (Nat.not_lt_zero k)⟩ (fun p hp => (z3 p hp).2) (fun _ => ⟨(z3 0 (by omega)).1, fun t _ ht => (z3 t ht).1⟩)
  obtain ⟨X, x1, x2, x3, x4⟩ := ptrM (G := fun p => rLW K (rLo K e) val p e) (l := trms K val e) (M0 := Y) (by omega) (fun p hp => ⟨lw_le hv, y5 p hp⟩) 4 0 5000 Y (by omega) (by omega) (fun _ _ _ => rfl) (fun _ _ => rfl) y4
  have pl := ptr_len (fun p => rLW K (rLo K e) val p e) (trms K val e) 4
  refine ⟨J3, X, M1, acts K (rLo K e) val e, ptr (fun p => rLW K (rLo K e) val p e) (trms K val e) 4, ?_, ?_, w21, ?_, ?_, ?_, ?_, x4, ?_, ?_, by have := acts_len K (rLo K e) val e; omega, by omega, ?_, ptr_good (trms_good he f2 f5 hv e (Nat.le_refl _)) (fun p _ => lw_le hv) 4 (by omega), ?_, ?_, ?_⟩
  · unfold g_73
    rw [show g_74 I = some (nI (rLo K e)) from placesC hc f4 e 0 5000 (by omega) (by omega)]
    try simp only [Option.bind_some, nr0, nr1, s_10, s_n10, s_n00, s_a, s_b, s_c, s_d, s_e, ↓reduceIte]
    unfold g_75
    rw [ef]
    try simp only [Option.bind_some, nr0, nr1, s_10, s_n10, s_n00, s_a, s_b, s_c, s_d, s_e, ↓reduceIte]
    rw [show l_75_13 5000 (nI (rLo K e)) 0 0 (nI f) 0 I = some I1 from k1]
    simp only [Option.bind_some]
    rw [show g_32 I1 = some (mm_up (mm_up (mm_up (mm_up I1 4 0 0) 4 1 0) 4 2 0) 4 3 0) from rfl, Option.bind_some]
    unfold g_78
    rw [show l_78_13 5000 (nI (rLo K e)) 0 0 0 (mm_up (mm_up (mm_up (mm_up (mm_up I1 4 0 0) 4 1 0) 4 2 0) 4 3 0) 4 0 1) = some J1 from a1]
    try simp only [Option.bind_some, nr0, nr1, s_10, s_n10, s_n00, s_a, s_b, s_c, s_d, s_e, ↓reduceIte]
    unfold g_79
    rw [show l_79_7 5000 0 0 0 J1 = some J2 from t1]
    try simp only [Option.bind_some, nr0, nr1, s_10, s_n10, s_n00, s_a, s_b, s_c, s_d, s_e, ↓reduceIte]
    unfold g_80
    rw [show l_80_2 5000 (nI (rLo K e)) 0 J2 = some J3 from u1]
    try simp only [Option.bind_some, nr0, nr1, s_10, s_n10, s_n00, s_a, s_b, s_c, s_d, s_e, ↓reduceIte]
    rw [u4.1, ptop]
    by_cases c : (ptr (fun p => rLW K (rLo K e) val p e) (trms K val e) (rLo K e)).length = 0
    · rw [if_pos (by rw [c]; decide), if_pos c]
    · rw [if_neg (nI_nle (by omega) (by rw [ptop] at pl; omega)), if_neg c]
  · unfold g_140
    rw [show l_140_12 5000 0 0 0 (-1) 0 M = l_140_49 5000 0 0 (nI (rLo K e)) (-1) 0 M from placesM hm e 0 5000 (by omega) (by omega), show l_140_49 5000 0 0 (nI (rLo K e)) (-1) 0 M = l_140_148 5000 (nI (rTh K e)) (nI (rPl K (rLo K e) e)) (nI (rLo K e)) (nI f) 0 0 N1 from (by
      have : rPl K (rLo K e) 0 = 0 := Nat.zero_mod _
      rw [this] at n3
      exact n3)]
    exact k2
  · unfold g_141
    rw [show l_141_2 5000 0 (mm_up M1 20 6 (M1 32 (e - 1) + 1)) = l_141_29 5000 0 Z from z1, show l_141_29 5000 0 Z = l_141_232 5000 0 Y from y1]
    exact x1
  · exact ⟨by rw [u3 1 (by decide), t3 1 (by decide)]; exact a4.1, fun k hk => by rw [u2 5 (by decide) (by omega), u2 6 (by decide) (by omega), u2 7 (by decide) (by omega), u2 8 (by decide) (by omega), t2 5 (by decide) (by omega), t2 6 (by decide) (by omega), t2 7 (by decide) (by omega), t2 8 (by decide) (by omega)]; exact a4.2 k hk⟩
  · exact ⟨by rw [x3 7 (by decide)]; exact y3.1, fun k hk => by rw [x2 22 (by decide) (by omega), x2 23 (by decide) (by omega), x2 24 (by decide) (by omega), x2 25 (by decide) (by omega)]; exact y3.2 k hk⟩
  · rw [ptop]; exact u4
  · rw [u3 0 (by decide), t3 0 (by decide)]; exact a5
  · rw [x3 6 (by decide), y2.2 6 (by decide) (by decide), z2 20 (by decide) (by decide), up_same]
    exact c32
  · have := acts_good (P := rLo K e) (val := val) he (fun k hk => (hc.2.2 k hk).1) ⟨f3, f4⟩ hv e (Nat.le_refl _)
    have ts := (th_s1 f5).1
    rw [show e - 1 + 1 = e from by omega] at ts
    rw [ts, show rTh K (e - 1) + 1 - 1 = rTh K (e - 1) from by omega]
    exact this
  · intro b hb h1 h2
    rw [u2 b (by omega) (by omega), t2 b (by omega) (by omega), a2' b (by omega)]
    rw [mm_up_ne (by omega), mm_up_ne (by omega), mm_up_ne (by omega), mm_up_ne (by omega), mm_up_ne (by omega), b1 b h1 h2]
  · intro b hb h1
    rw [x2 b (by omega) (by omega), y2.1 b hb (by omega) (by omega), zz b (by omega) (by omega) (by omega), b2 b (by omega), n1 b (by omega) (by omega)]
  · intro b h6 h7 h8
    rw [x3 b h8, y2.2 b h7 h8, z20 b h6, b2 20 (by decide), n1 20 (by decide) (by decide)]
theorem list_PR {t : Nat} {l : List Rw} {lt : List Tw} {I M : Mem} (ht : 1 ≤ t ∧ t ≤ 4) (hl : l.length ≤ 16) (hlt : lt.length ≤ 12) (w1 : rwC l I) (w2 : rwM l M) (t1 : rtC lt I) (t2 : rtM lt M) (h0 : I 4 0 = nI t) (h6 : M 20 6 = nI t) (h3 : I 4 3 = if lt.length = 0 then 0 else 1) (h9 : M 20 9 = if lt.length = 0 then 0 else 1) (hg : Gd (t - 1) l) (hgt : Gt lt) : PR t l.length lt.length (if lt.length = 0 then 0 else 1) (fun k => nt (l.getD k (0, 0, 0, 0)).1) I M := by
  have e3 : (if lt.length = 0 then (0 : Int32) else 1) = nI (if lt.length = 0 then 0 else 1) := by split <;> rfl
  refine ⟨⟨ht.2, by omega, by omega, by split <;> omega⟩, ⟨h0, h6⟩, ⟨w1.1, w2.1⟩, ⟨t1.1, t2.1⟩, ⟨by rw [h3, e3], by rw [h9, e3]⟩, fun k hk => ?_, hg.2, fun k hk => ?_⟩
  · have c := w1.2 k hk
    have m := w2.2 k hk
    obtain ⟨g1, g2, g3⟩ := hg.1 k hk
    have c1 := congrArg Prod.fst c
    have c2 := congrArg (fun z : Rw => z.2.1) c
    have c3 := congrArg (fun z : Rw => z.2.2.1) c
    have c4 := congrArg (fun z : Rw => z.2.2.2) c
    have m1 := congrArg Prod.fst m
    have m2 := congrArg (fun z : Rw => z.2.1) m
    have m3 := congrArg (fun z : Rw => z.2.2.1) m
    have m4 := congrArg (fun z : Rw => z.2.2.2) m
    dsimp only at c1 c2 c3 c4 m1 m2 m3 m4
    refine ⟨by show nt _ < t; omega, c1.trans g2, m1.trans g2, c2.trans m2.symm, c3.trans m3.symm, c4.trans m4.symm, ?_⟩
    rw [m2, m3, m4]
    exact g3
  · have c := t1.2 k hk
    have m := t2.2 k hk
    have g := hgt k hk
    have c1 := congrArg Prod.fst c
    have c2 := congrArg (fun z : Tw => z.2.1) c
    have c3 := congrArg (fun z : Tw => z.2.2) c
    have m1 := congrArg Prod.fst m
    have m2 := congrArg (fun z : Tw => z.2.1) m
    have m3 := congrArg (fun z : Tw => z.2.2) m
    dsimp only at c1 c2 c3 m1 m2 m3
    refine ⟨c1.trans m1.symm, c2.trans m2.symm, c3.trans m3.symm, ?_⟩
    rw [m1, m2, m3]
    exact g
set_option maxHeartbeats 4000000 in
theorem pr_5 : p_5 INV := by
  intro I LG ⟨hT, hF, hP, hE, hO, hS⟩
  obtain ⟨e, he, e1, e2, e3⟩ := id hE
  have hc : RC e (fun k => nt (I 29 k)) I := ⟨he, e1, fun k hk => by
    obtain ⟨q1, q, q2, q3⟩ := e3 k hk
    show nt (I 29 k) ≤ 10 ∧ I 13 k = nI (nt (I 29 k))
    rw [q1, q3, nt_nI (by omega)]
    exact ⟨q2, rfl⟩⟩
  have hm : ∀ M : Mem, M 20 21 = I 20 21 → M 29 = I 29 → RM e (fun k => nt (I 29 k)) M := fun M h1 h2 => ⟨he, by rw [h1]; exact e2, fun k hk => by
    obtain ⟨q1, q, q2, q3⟩ := e3 k hk
    show nt (I 29 k) ≤ 10 ∧ M 29 k = nI (nt (I 29 k))
    rw [h2, q3, nt_nI (by omega)]
    exact ⟨q2, rfl⟩⟩
  rcases ring_eq hc (hm (mm_up (mm_up I 12 3 0) 20 0 0) rfl rfl) with ⟨r1, r2⟩ | ⟨r1, r2, hf⟩
  · refine pw_ex (V := INV) (J := mm_up I 12 3 0) (K := mm_up (mm_up (mm_up (mm_up I 12 3 0) 20 0 0) 20 21 0) 20 0 1) (z := 0) (c := 1) (LG := LG) (by decide) ?_ ?_ rfl ⟨hT, hF, hP, ⟨0, Nat.zero_le _, rfl, rfl, fun k hk => absurd hk (Nat.not_lt_zero k)⟩, hO, hS⟩
    · unfold g_6 g_70
      rw [r1]
      rfl
    · unfold g_135
      rw [r2]
      rfl
  · have tl := th_lo (fun k => nt (I 29 k)) e
    obtain ⟨J0, _, _, _, lt0, j0, _, _, _, _, _, _, _, _, _, _, _, _, _, fJ0, _⟩ := make_ok hc (hm (mm_up (mm_up I 20 7 0) 20 8 0) rfl rfl) hf rfl rfl
    -- the class's memory behind its call
    generalize hD : mm_up J0 4 3 (if lt0.length = 0 then 0 else 1) = D at j0
    have fD : ∀ b, 11 < b → b ≠ 14 → b ≠ 15 → D b = I b := fun b b1 b2 b3 => by rw [← hD, mm_up_ne (by omega), fJ0 b (by omega) b2 b3]
    have fD1 : ∀ b, b < 4 → D b = I b := fun b b1 => by rw [← hD, mm_up_ne (by omega), fJ0 b (by omega) (by omega) (by omega)]
    generalize hJ : mm_up (mm_up (mm_up (mm_up D 16 1 0) 16 2 0) 16 3 (-1)) 12 3 0 = J
    have fJ : ∀ b, b ≠ 12 → b ≠ 16 → J b = D b := fun b b1 b2 => by rw [← hJ, mm_up_ne b1, mm_up_ne b2, mm_up_ne b2, mm_up_ne b2]
    have J20 : J 20 = I 20 := by rw [fJ 20 (by decide) (by decide), fD 20 (by decide) (by decide) (by decide)]
    have J29 : J 29 = I 29 := by rw [fJ 29 (by decide) (by decide), fD 29 (by decide) (by decide) (by decide)]
    have rr : g_136 (mm_up J 20 0 0) = some 1 := by
      rcases ring_eq hc (hm (mm_up J 20 0 0) (by show J 20 21 = _; rw [J20]) (by show J 29 = _; exact J29)) with ⟨q, _⟩ | ⟨_, q, _⟩
      · rw [r1] at q; exact absurd (Option.some.inj q) (by decide)
      · exact q
    obtain ⟨J1, N, W, l, lt, j1, w1, w2, w3, x1, x2, x3, x4, x5, x6, x7, x8, x9, x10, _, fN, fN20⟩ := make_ok hc (hm (mm_up (mm_up (mm_up (mm_up (mm_up (mm_up (mm_up (mm_up J 20 0 0) 20 6 0) 20 7 0) 20 8 0) 20 9 0) 20 25 0) 20 29 0) 20 28 0) (by show J 20 21 = _; rw [J20]) (by show J 29 = _; exact J29)) hf rfl rfl
    have ed : D = mm_up J1 4 3 (if lt.length = 0 then 0 else 1) := by rw [j1] at j0; exact (Option.some.inj j0).symm
    have T1 := hf.1
    have T2 := hf.2.1
    generalize hK : mm_up (mm_up (mm_up N 20 9 (if lt.length = 0 then 0 else 1)) 20 5 1) 20 21 0 = K
    have kN : ∀ b, b ≠ 20 → K b = N b := fun b hb => by rw [← hK, mm_up_ne hb, mm_up_ne hb, mm_up_ne hb]
    have k20 : ∀ b, b ≠ 9 → b ≠ 5 → b ≠ 21 → K 20 b = N 20 b := fun b b1 b2 b3 => by rw [← hK, up_other b3, up_other b2, up_other b1]
    have kJ : ∀ b, b < 20 ∨ b = 21 ∨ 28 < b ∧ b < 32 → K b = J b := fun b hb => by
      rw [kN b (by omega), fN b (by omega) (by omega), mm_up_ne (by omega), mm_up_ne (by omega), mm_up_ne (by omega), mm_up_ne (by omega), mm_up_ne (by omega), mm_up_ne (by omega), mm_up_ne (by omega), mm_up_ne (by omega)]
    have kI : ∀ b, b ≠ 0 → b < 5 ∨ 9 < b → b ≠ 21 → b ≠ 25 → b ≠ 28 → b ≠ 29 → K 20 b = I 20 b := fun b h0 h1 h2 h3 h4 h5 => by
      rw [k20 b (by omega) (by omega) h2, fN20 b (by omega) (by omega) (by omega), up_other h4, up_other h5, up_other h3, up_other (by omega), up_other (by omega), up_other (by omega), up_other (by omega), up_other h0, J20]
    have kD : ∀ b, 4 ≤ b → b ≤ 11 → K b = mm_up J1 4 3 (if lt.length = 0 then 0 else 1) b := fun b b1 b2 => by rw [kJ b (by omega), fJ b (by omega) (by omega), ed]
    have kl : ∀ b, b < 4 ∨ b = 13 ∨ 16 < b ∧ b < 20 ∨ b = 21 ∨ 28 < b ∧ b < 32 → K b = I b := fun b hb => by
      rw [kJ b (by omega), fJ b (by omega) (by omega)]
      by_cases c : b < 4
      · exact fD1 b c
      · exact fD b (by omega) (by omega) (by omega)
    have pr := list_PR (t := rTh (fun k => nt (I 29 k)) e) (l := l) (lt := lt) (I := K) (M := K) ⟨by omega, T2⟩ x7 x8 ⟨by rw [kD 4 (by omega) (by omega)]; exact x1.1, fun k hk => by rw [kD 5 (by omega) (by omega), kD 6 (by omega) (by omega), kD 7 (by omega) (by omega), kD 8 (by omega) (by omega)]; exact x1.2 k hk⟩ ⟨by rw [k20 7 (by decide) (by decide) (by decide)]; exact x2.1, fun k hk => by rw [kN 22 (by decide), kN 23 (by decide), kN 24 (by decide), kN 25 (by decide)]; exact x2.2 k hk⟩ ⟨by rw [kD 4 (by omega) (by omega)]; exact x3.1, fun k hk => by rw [kD 9 (by omega) (by omega), kD 10 (by omega) (by omega), kD 11 (by omega) (by omega)]; exact x3.2 k hk⟩ ⟨by rw [k20 8 (by decide) (by decide) (by decide)]; exact x4.1, fun k hk => by rw [kN 26 (by decide), kN 27 (by decide), kN 28 (by decide)]; exact x4.2 k hk⟩ (by rw [kD 4 (by omega) (by omega)]; exact x5) (by rw [k20 6 (by decide) (by decide) (by decide)]; exact x6) (by rw [kD 4 (by omega) (by omega), up_same]) (by rw [← hK]; rfl) x9 x10
    refine pw_ok (J := J) (K := K) (r := nI l.length) (LG := LG) ?_ ?_ ?_ ⟨?_, ?_, ⟨_, _, _, _, _, pr, ?_⟩, ⟨0, Nat.zero_le _, ?_, ?_, fun k hk => absurd hk (Nat.not_lt_zero k)⟩, ?_, ⟨0, Nat.zero_le _, ?_, ?_, fun k hk => absurd hk (Nat.not_lt_zero k), ?_, Or.inl ⟨?_, ?_⟩⟩⟩
    · unfold g_6 g_70
      rw [r1]
      try simp only [Option.bind_some, nr0, nr1, s_10, s_n10, s_n00, s_a, s_b, s_c, s_d, s_e, ↓reduceIte]
      rw [j0]
      show some (0, 0, mm_up (mm_up (mm_up (mm_up D 16 1 0) 16 2 0) 16 3 (-1)) 12 3 0, mm_up LG 37 0 (D 4 1).toInt64) = _
      rw [hJ, ed]
      show some (0, 0, J, mm_up LG 37 0 (J1 4 1).toInt64) = _
      rw [x1.1]
    · unfold g_135
      rw [rr]
      try simp only [Option.bind_some, nr0, nr1, s_10, s_n10, s_n00, s_a, s_b, s_c, s_d, s_e, ↓reduceIte]
      unfold g_113 bo
      rw [if_pos (Or.inl rfl)]
      try simp only [Option.bind_some, nr0, nr1, s_10, s_n10, s_n00, s_a, s_b, s_c, s_d, s_e, ↓reduceIte]
      rw [w1]
      try simp only [Option.bind_some, nr0, nr1, s_10, s_n10, s_n00, s_a, s_b, s_c, s_d, s_e, ↓reduceIte]
      rw [w2, show nI e - (1 : Int32) = nI (e - 1) from pk_sub (a := e) (b := 1) (by omega), ix_nI (by omega) (by omega)]
      try simp only [Option.bind_some, nr0, nr1, s_10, s_n10, s_n00, s_a, s_b, s_c, s_d, s_e, ↓reduceIte]
      rw [w3]
      try simp only [Option.bind_some, nr0, nr1, s_10, s_n10, s_n00, s_a, s_b, s_c, s_d, s_e, ↓reduceIte]
      rw [if_pos (Or.inr trivial), hK, show mm_up N 20 9 (if lt.length = 0 then 0 else 1) 20 7 = nI l.length from x2.1]
    · rw [k20 0 (by decide) (by decide) (by decide), fN20 0 (by decide) (by decide) (by decide)]
      rfl
    · exact tT_c hT (by rw [kl 2 (by omega)]) (kl 3 (by omega)) (kI 1 (by omega) (by omega) (by omega) (by omega) (by omega) (by omega)) (kl 21 (by omega))
    · unfold tF
      rw [kl 1 (by omega), kI 3 (by omega) (by omega) (by omega) (by omega) (by omega) (by omega), kI 4 (by omega) (by omega) (by omega) (by omega) (by omega) (by omega)]
      exact hF
    · rw [if_neg (by omega), ← hK]
      rfl
    · rw [kJ 12 (by omega), ← hJ]
      rfl
    · rw [← hK]
      rfl
    · exact tO_c hO (kl 18 (by omega)) (kl 19 (by omega)) (kI 23 (by omega) (by omega) (by omega) (by omega) (by omega) (by omega)) (kl 30 (by omega))
    · rw [kJ 16 (by omega), ← hJ]
      rfl
    · rw [k20 29 (by decide) (by decide) (by decide), fN20 29 (by decide) (by decide) (by decide)]
      rfl
    · rw [kJ 16 (by omega), ← hJ, k20 28 (by decide) (by decide) (by decide), fN20 28 (by decide) (by decide) (by decide)]
      rfl
    · rw [k20 25 (by decide) (by decide) (by decide), fN20 25 (by decide) (by decide) (by decide)]
      rfl
    · rw [kJ 16 (by omega), ← hJ]
      rfl
end MMAE
