/-! THE PAIR read, 5: the pair (written by wip/whole/gen/read3_part.py). -/
section MMAJ
/-- what stands behind a text, on both sides -/
def REL (I M J K : Mem) : Prop := (J 2 1 = 0 ∧ K 20 1 = 0) ∧ tF J K ∧ tP J K ∧ (J 16 1 = 0 ∧ J 16 2 = 0 ∧ J 16 3 = -1 ∧ K 20 25 = 0 ∧ K 20 28 = 0 ∧ K 20 29 = 0) ∧ (∀ x, x = 0 ∨ x = 3 ∨ 11 < x → x ≠ 16 → J x = I x) ∧ (∀ x, x < 20 ∨ x = 21 ∨ 28 < x → K x = M x) ∧ (K 20 21 = M 20 21 ∧ K 20 23 = M 20 23)
theorem tT_b {I M : Mem} (h : tT I M) : ∃ (n : Nat) (b : Nat → Nat), TX n b I M := by
  obtain ⟨n, hn, t1, t2, t3⟩ := h
  refine ⟨n, fun i => nt (M 21 i), hn, t1, t2, fun i hi => ?_⟩
  obtain ⟨c, c1, c2, c3⟩ := t3 i hi
  show nt (M 21 i) < 256 ∧ I 3 i = sg (nt (M 21 i)) ∧ M 21 i = nI (nt (M 21 i))
  rw [c2, nt_nI (by omega)]
  exact ⟨c1, c3, rfl⟩
/-- a fault behind all: both sides clear their programs -/
theorem bad_end {I M I' M' : Mem} (h : BAD (mm_up (mm_up (mm_up (mm_up (mm_up (mm_up (mm_up (mm_up (mm_up (mm_up I 16 1 0) 16 2 0) 16 3 (-1)) 4 0 0) 4 1 0) 4 2 0) 4 3 0) 1 2 0) 1 3 0) 2 4 0) (mm_up (mm_up (mm_up (mm_up (mm_up (mm_up (mm_up (mm_up (mm_up (mm_up (mm_up M 20 0 0) 20 3 0) 20 4 0) 20 6 0) 20 7 0) 20 8 0) 20 9 0) 20 25 0) 20 29 0) 20 28 0) 20 19 0) I' M') : REL I M (mm_up (mm_up (mm_up (mm_up (mm_up I' 2 1 0) 4 0 0) 4 1 0) 4 2 0) 4 3 0) (mm_up (mm_up (mm_up (mm_up (mm_up (mm_up (mm_up (mm_up (mm_up (mm_up M' 20 1 0) 20 5 0) 20 6 0) 20 7 0) 20 8 0) 20 9 0) 20 25 0) 20 29 0) 20 28 0) 20 0 1) := by
  obtain ⟨hA, hB, f, pl, f1, f2, f3, f4, f5, f6⟩ := h
  refine ⟨⟨rfl, rfl⟩, ⟨f3.trans f4.symm, f5.trans f6.symm⟩, ⟨0, 0, 0, 0, fun _ => 0, ⟨⟨Nat.zero_le _, Nat.zero_le _, Nat.zero_le _, Nat.zero_le _⟩, ⟨rfl, rfl⟩, ⟨rfl, rfl⟩, ⟨rfl, rfl⟩, ⟨rfl, rfl⟩, fun k h => absurd h (Nat.not_lt_zero k), fun k h => absurd h (Nat.not_lt_zero _), fun k h => absurd h (Nat.not_lt_zero k)⟩, rfl⟩, ⟨?_, ?_, ?_, rfl, rfl, rfl⟩, fun x hx x16 => ?_, fun x hx => ?_, ?_, ?_⟩
  · show I' 16 1 = 0
    rw [hA 16 (by omega)]
    rfl
  · show I' 16 2 = 0
    rw [hA 16 (by omega)]
    rfl
  · show I' 16 3 = -1
    rw [hA 16 (by omega)]
    rfl
  · rw [mm_up_ne (by omega), mm_up_ne (by omega), mm_up_ne (by omega), mm_up_ne (by omega), mm_up_ne (by omega), hA x hx, mm_up_ne (by omega), mm_up_ne (by omega), mm_up_ne (by omega), mm_up_ne (by omega), mm_up_ne (by omega), mm_up_ne (by omega), mm_up_ne (by omega), mm_up_ne (by omega), mm_up_ne (by omega), mm_up_ne (by omega)]
  · rw [mm_up_ne (by omega), mm_up_ne (by omega), mm_up_ne (by omega), mm_up_ne (by omega), mm_up_ne (by omega), mm_up_ne (by omega), mm_up_ne (by omega), mm_up_ne (by omega), mm_up_ne (by omega), mm_up_ne (by omega), hB.1 x hx, mm_up_ne (by omega), mm_up_ne (by omega), mm_up_ne (by omega), mm_up_ne (by omega), mm_up_ne (by omega), mm_up_ne (by omega), mm_up_ne (by omega), mm_up_ne (by omega), mm_up_ne (by omega), mm_up_ne (by omega), mm_up_ne (by omega)]
  · show M' 20 21 = _
    rw [hB.2 21 (by omega)]
    rfl
  · show M' 20 23 = _
    rw [hB.2 23 (by omega)]
    rfl
theorem good_end {n : Nat} {b : Nat → Nat} {I M I' M' : Mem} (h : GOOD n b (mm_up (mm_up (mm_up (mm_up (mm_up (mm_up (mm_up (mm_up (mm_up (mm_up I 16 1 0) 16 2 0) 16 3 (-1)) 4 0 0) 4 1 0) 4 2 0) 4 3 0) 1 2 0) 1 3 0) 2 4 0) (mm_up (mm_up (mm_up (mm_up (mm_up (mm_up (mm_up (mm_up (mm_up (mm_up (mm_up M 20 0 0) 20 3 0) 20 4 0) 20 6 0) 20 7 0) 20 8 0) 20 9 0) 20 25 0) 20 29 0) 20 28 0) 20 19 0) I' M') : REL I M (mm_up I' 2 1 0) (mm_up (mm_up M' 20 1 0) 20 5 1) ∧ I' 4 1 = M' 20 7 ∧ M' 20 3 = 0 ∧ M' 20 0 = 0 := by
  obtain ⟨k, p, q, v, t, a, m, c, ow, ⟨_, _, hF, hA, hB⟩, hP, ht⟩ := h
  refine ⟨⟨⟨rfl, rfl⟩, ⟨hF.1.trans hF.2.2.1.symm, hF.2.1.trans hF.2.2.2.symm⟩, ⟨t, a, m, c, ow, hP, ?_⟩, ⟨?_, ?_, ?_, ?_, ?_, ?_⟩, fun x hx x16 => ?_, fun x hx => ?_, ?_, ?_⟩, ?_, hF.2.2.1, ?_⟩
  · rw [if_neg (by omega)]
    rfl
  · show I' 16 1 = 0
    rw [hA 16 (by omega)]
    rfl
  · show I' 16 2 = 0
    rw [hA 16 (by omega)]
    rfl
  · show I' 16 3 = -1
    rw [hA 16 (by omega)]
    rfl
  · show M' 20 25 = 0
    rw [hB.2 25 (by omega)]
    rfl
  · show M' 20 28 = 0
    rw [hB.2 28 (by omega)]
    rfl
  · show M' 20 29 = 0
    rw [hB.2 29 (by omega)]
    rfl
  · rw [mm_up_ne (by omega), hA x hx, mm_up_ne (by omega), mm_up_ne (by omega), mm_up_ne (by omega), mm_up_ne (by omega), mm_up_ne (by omega), mm_up_ne (by omega), mm_up_ne (by omega), mm_up_ne (by omega), mm_up_ne (by omega), mm_up_ne (by omega)]
  · rw [mm_up_ne (by omega), mm_up_ne (by omega), hB.1 x hx, mm_up_ne (by omega), mm_up_ne (by omega), mm_up_ne (by omega), mm_up_ne (by omega), mm_up_ne (by omega), mm_up_ne (by omega), mm_up_ne (by omega), mm_up_ne (by omega), mm_up_ne (by omega), mm_up_ne (by omega), mm_up_ne (by omega)]
  · show M' 20 21 = _
    rw [hB.2 21 (by omega)]
    rfl
  · show M' 20 23 = _
    rw [hB.2 23 (by omega)]
    rfl
  · rw [hP.2.2.1.1, hP.2.2.1.2]
  · rw [hB.2 0 (by omega)]
    rfl
set_option maxHeartbeats 4000000 in
theorem read_all {I M : Mem} (hT : tT I M) : (∃ J K z, g_29 I = some (2, 0, J) ∧ g_112 M = some (z, K) ∧ K 20 0 = 1 ∧ REL I M J K) ∨ (∃ J K r, g_29 I = some (0, r, J) ∧ g_112 M = some (r, K) ∧ K 20 0 = 0 ∧ REL I M J K) := by
  obtain ⟨n, b, hX⟩ := tT_b hT
  have hX1 : TX n b (mm_up (mm_up (mm_up (mm_up (mm_up (mm_up (mm_up (mm_up (mm_up (mm_up I 16 1 0) 16 2 0) 16 3 (-1)) 4 0 0) 4 1 0) 4 2 0) 4 3 0) 1 2 0) 1 3 0) 2 4 0) (mm_up (mm_up (mm_up (mm_up (mm_up (mm_up (mm_up (mm_up (mm_up (mm_up (mm_up M 20 0 0) 20 3 0) 20 4 0) 20 6 0) 20 7 0) 20 8 0) 20 9 0) 20 25 0) 20 29 0) 20 28 0) 20 19 0) := hX
  obtain ⟨k, p, q, v, I1, M1, e1, e2, e3, e4, e5⟩ := lex_ok (q := 0) hX1 rfl rfl (Nat.zero_le _)
  have hP0 : PR 0 0 0 0 (fun _ => 0) (mm_up (mm_up (mm_up (mm_up (mm_up (mm_up (mm_up (mm_up (mm_up (mm_up I 16 1 0) 16 2 0) 16 3 (-1)) 4 0 0) 4 1 0) 4 2 0) 4 3 0) 1 2 0) 1 3 0) 2 4 0) (mm_up (mm_up (mm_up (mm_up (mm_up (mm_up (mm_up (mm_up (mm_up (mm_up (mm_up M 20 0 0) 20 3 0) 20 4 0) 20 6 0) 20 7 0) 20 8 0) 20 9 0) 20 25 0) 20 29 0) 20 28 0) 20 19 0) := ⟨⟨Nat.zero_le _, Nat.zero_le _, Nat.zero_le _, Nat.zero_le _⟩, ⟨rfl, rfl⟩, ⟨rfl, rfl⟩, ⟨rfl, rfl⟩, ⟨rfl, rfl⟩, fun k h => absurd h (Nat.not_lt_zero k), fun k h => absurd h (Nat.not_lt_zero _), fun k h => absurd h (Nat.not_lt_zero k)⟩
  have hS : SL n b (mm_up (mm_up (mm_up (mm_up (mm_up (mm_up (mm_up (mm_up (mm_up (mm_up I 16 1 0) 16 2 0) 16 3 (-1)) 4 0 0) 4 1 0) 4 2 0) 4 3 0) 1 2 0) 1 3 0) 2 4 0) (mm_up (mm_up (mm_up (mm_up (mm_up (mm_up (mm_up (mm_up (mm_up (mm_up (mm_up M 20 0 0) 20 3 0) 20 4 0) 20 6 0) 20 7 0) 20 8 0) 20 9 0) 20 25 0) 20 29 0) 20 28 0) 20 19 0) k p q v I1 M1 := ⟨TX_f hX1 e4 e5, e3, ⟨by rw [e4.1 1 (by decide)]; rfl, by rw [e4.1 1 (by decide)]; rfl, by rw [e5.2 3 (by omega)]; rfl, by rw [e5.2 4 (by omega)]; rfl⟩, FrA_x (fun _ _ => rfl) e4, FrB_x ⟨fun _ _ => rfl, fun _ _ => rfl⟩ e5⟩
  have hP := PR_xx hP0 e4 e5
  have r := start_ok hS hP
  -- both sides, up to their first lexeme
  have c29 : g_29 I = ((g_39 I1).bind (fun w3 => (if w3.1 = 0 then (if (0 : Int32) = 0 then ((g_32 (mm_up w3.2 2 1 (0 : Int32))).bind (fun w4 => (some (2, 0, w4)))) else (some (0, (w3.2 4 1), (mm_up w3.2 2 1 (0 : Int32))))) else ((g_61 w3.2).bind (fun w5 => (if w5.1 = 0 then (if (0 : Int32) = 0 then ((g_32 (mm_up w5.2 2 1 (0 : Int32))).bind (fun w6 => (some (2, 0, w6)))) else (some (0, (w5.2 4 1), (mm_up w5.2 2 1 (0 : Int32))))) else ((g_66 w5.2).bind (fun w7 => (if w7.1 = 0 then (if (0 : Int32) = 0 then ((g_32 (mm_up w7.2 2 1 (0 : Int32))).bind (fun w8 => (some (2, 0, w8)))) else (some (0, (w7.2 4 1), (mm_up w7.2 2 1 (0 : Int32))))) else (if (1 : Int32) = 0 then ((g_32 (mm_up w7.2 2 1 (0 : Int32))).bind (fun w9 => (some (2, 0, w9)))) else (some (0, (w7.2 4 1), (mm_up w7.2 2 1 (0 : Int32)))))))))))))) := by
    unfold g_29
    rw [show g_30 I = some (mm_up (mm_up (mm_up I 16 1 0) 16 2 0) 16 3 (-1)) from rfl, Option.bind_some]
    unfold g_31
    rw [show g_32 (mm_up (mm_up (mm_up I 16 1 0) 16 2 0) 16 3 (-1)) = some (mm_up (mm_up (mm_up (mm_up (mm_up (mm_up (mm_up I 16 1 0) 16 2 0) 16 3 (-1)) 4 0 0) 4 1 0) 4 2 0) 4 3 0) from rfl, Option.bind_some]
    unfold g_33
    rw [e1, Option.bind_some, Option.bind_some, Option.bind_some]
  have m112 : ∀ N, ((g_119 M1).bind (fun w2 => l_114_13 5000 w2)) = some N → g_112 M = (if (N 20 3) = 0 then (bo (1 : Int32) (if (1 : Int32) = 0 then ((g_113 (mm_up (mm_up N 20 1 (0 : Int32)) 20 5 (1 : Int32))).bind (fun w5 => ((g_109 (1 : Int32) w5).bind (fun w6 => (some (w6.1, w6.2)))))) else (some ((N 20 7), (mm_up (mm_up N 20 1 (0 : Int32)) 20 5 (1 : Int32)))))) else (bo (0 : Int32) (if (0 : Int32) = 0 then ((g_113 (mm_up (mm_up N 20 1 (0 : Int32)) 20 5 (0 : Int32))).bind (fun w3 => ((g_109 (1 : Int32) w3).bind (fun w4 => (some (w4.1, w4.2)))))) else (some ((N 20 7), (mm_up (mm_up N 20 1 (0 : Int32)) 20 5 (0 : Int32))))))) := by
    intro N hN
    unfold g_112
    rw [show g_113 (mm_up (mm_up (mm_up M 20 0 0) 20 3 0) 20 4 0) = some (mm_up (mm_up (mm_up (mm_up (mm_up (mm_up (mm_up (mm_up (mm_up (mm_up M 20 0 0) 20 3 0) 20 4 0) 20 6 0) 20 7 0) 20 8 0) 20 9 0) 20 25 0) 20 29 0) 20 28 0) from by unfold g_113 bo; rw [if_pos (Or.inl rfl)], Option.bind_some]
    unfold g_114
    rw [e2, Option.bind_some, hN, Option.bind_some]
  have bad : ∀ I' M', ((g_119 M1).bind (fun w2 => l_114_13 5000 w2)) = some M' → BAD (mm_up (mm_up (mm_up (mm_up (mm_up (mm_up (mm_up (mm_up (mm_up (mm_up I 16 1 0) 16 2 0) 16 3 (-1)) 4 0 0) 4 1 0) 4 2 0) 4 3 0) 1 2 0) 1 3 0) 2 4 0) (mm_up (mm_up (mm_up (mm_up (mm_up (mm_up (mm_up (mm_up (mm_up (mm_up (mm_up M 20 0 0) 20 3 0) 20 4 0) 20 6 0) 20 7 0) 20 8 0) 20 9 0) 20 25 0) 20 29 0) 20 28 0) 20 19 0) I' M' → ∃ K z, g_112 M = some (z, K) ∧ K 20 0 = 1 ∧ REL I M (mm_up (mm_up (mm_up (mm_up (mm_up I' 2 1 0) 4 0 0) 4 1 0) 4 2 0) 4 3 0) K := by
    intro I' M' hM hb
    refine ⟨_, 0, ?_, rfl, bad_end hb⟩
    rw [m112 M' hM, if_neg (bad_n0 hb).1]
    unfold bo
    rw [if_pos (Or.inl rfl), if_pos rfl]
    unfold g_113 bo
    rw [if_pos (Or.inl rfl), Option.bind_some]
    rfl
  rcases r with ⟨I', M', a1, a2, a3⟩ | ⟨I2, a1, ⟨I', M', b1, b2, b3⟩ | ⟨I3, I', M', b1, b2, b3, b4⟩ | ⟨I3, M', b1, b2, b3, b4⟩⟩
  · obtain ⟨K, z, k1, k2, k3⟩ := bad I' M' a2 a3
    refine Or.inl ⟨_, K, z, ?_, k1, k2, k3⟩
    rw [c29, a1]
    rfl
  · obtain ⟨K, z, k1, k2, k3⟩ := bad I' M' b2 b3
    refine Or.inl ⟨_, K, z, ?_, k1, k2, k3⟩
    rw [c29, a1]
    simp only [Option.bind_some, s_10, ↓reduceIte]
    rw [b1]
    rfl
  · obtain ⟨K, z, k1, k2, k3⟩ := bad I' M' b3 b4
    refine Or.inl ⟨_, K, z, ?_, k1, k2, k3⟩
    rw [c29, a1]
    simp only [Option.bind_some, s_10, ↓reduceIte]
    rw [b1]
    simp only [Option.bind_some, s_10, ↓reduceIte]
    rw [b2]
    rfl
  · obtain ⟨g1, g2, g3, g4⟩ := good_end b4
    refine Or.inr ⟨mm_up I3 2 1 0, mm_up (mm_up M' 20 1 0) 20 5 1, M' 20 7, ?_, ?_, g4, g1⟩
    · rw [c29, a1]
      simp only [Option.bind_some, s_10, ↓reduceIte]
      rw [b1]
      simp only [Option.bind_some, s_10, ↓reduceIte]
      rw [b2]
      simp only [Option.bind_some, s_10, ↓reduceIte]
      rw [g2]
    · rw [m112 M' b3, if_pos g3]
      unfold bo
      rw [if_pos (Or.inr rfl), if_neg (by decide)]
/-- INV again, the class's cells being the same -/
theorem rel_inv {I J K : Mem} (h : INV I) (hr : REL I J J K) (hJ : ∀ x, 11 < x → x ≠ 16 → J x = I x) : INV K := by
  obtain ⟨⟨r1, r2⟩, r3, r4, ⟨s1, s2, s3, s4, s5, s6⟩, r5, r6, r7, r8⟩ := hr
  obtain ⟨hT, hF, hP, hE, hO, hS⟩ := h
  refine ⟨⟨0, Nat.zero_le _, ?_, r2, fun i hi => absurd hi (Nat.not_lt_zero i)⟩, ?_, ?_, ?_, ?_, ⟨0, Nat.zero_le _, ?_, s6, fun i hi => absurd hi (Nat.not_lt_zero i), ?_, Or.inl ⟨s4, ?_⟩⟩⟩
  · rw [r6 2 (by omega)]; exact r1
  · unfold tF
    rw [r6 1 (by omega)]
    exact r3
  · exact tP_c r4 (fun a _ _ => r6 a (by omega)) (fun _ _ _ => rfl) (fun _ _ _ => rfl)
  · exact tE_c hE (by rw [r6 12 (by omega), hJ 12 (by omega) (by omega)]) (by rw [r6 13 (by omega), hJ 13 (by omega) (by omega)]) (by rw [r7, hJ 20 (by omega) (by omega)]) (by rw [r6 29 (by omega), hJ 29 (by omega) (by omega)])
  · exact tO_c hO (by rw [r6 18 (by omega), hJ 18 (by omega) (by omega)]) (by rw [r6 19 (by omega), hJ 19 (by omega) (by omega)]) (by rw [r8, hJ 20 (by omega) (by omega)]) (by rw [r6 30 (by omega), hJ 30 (by omega) (by omega)])
  · rw [r6 16 (by omega)]; exact s1
  · rw [r6 16 (by omega), s2, s5]
  · rw [r6 16 (by omega)]; exact s3
theorem pr_2 : p_2 INV := by
  intro I LG h
  -- the class's call, once; then the reference behind it
  have first : ∃ J e r, g_29 I = some (e, r, J) ∧ ∀ x, x = 0 ∨ x = 3 ∨ 11 < x → x ≠ 16 → J x = I x := by
    rcases read_all h.1 with ⟨J, K, z, e1, _, _, e4⟩ | ⟨J, K, r, e1, _, _, e4⟩
    · exact ⟨J, _, _, e1, e4.2.2.2.2.1⟩
    · exact ⟨J, _, _, e1, e4.2.2.2.2.1⟩
  obtain ⟨J, e, r, hJ, fJ⟩ := first
  have hT : tT I J := tT_c h.1 rfl rfl (by rw [fJ 20 (by omega) (by omega)]) (fJ 21 (by omega) (by omega))
  have inv : ∀ K, REL I J J K → INV K := fun K hr => rel_inv h hr (fun x x1 x2 => fJ x (by omega) x2)
  rcases read_all hT with ⟨J', K, z, e1, e2, e3, e4⟩ | ⟨J', K, r', e1, e2, e3, e4⟩
  · have ej : J' = J := by
      rw [e1] at hJ
      have q := Option.some.inj hJ
      exact congrArg (fun w : Nat × Int32 × Mem => w.2.2) q
    subst ej
    refine pw_ex (V := INV) (J := J') (K := K) (z := z) (c := 1) (LG := LG) (by decide) ?_ e2 e3 (inv K e4)
    unfold g_3
    rw [e1]
    rfl
  · have ej : J' = J := by
      rw [e1] at hJ
      have q := Option.some.inj hJ
      exact congrArg (fun w : Nat × Int32 × Mem => w.2.2) q
    subst ej
    refine pw_ok (J := J') (K := K) (r := r') (LG := LG) ?_ e2 e3 (inv K e4)
    unfold g_3
    rw [e1]
    rfl
end MMAJ
