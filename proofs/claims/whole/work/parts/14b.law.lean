/-! THE SMALL MACHINE, 15: the law's entry is a state of the small machine. -/
section MMLB
theorem mm_st_of {n d : String} {s : State} {args : Array Value} {A : Nat → Prop} (hl : (Cond.laysStatic Bundle.tN n d).before args s = true) (hr : (Cond.isRef (.static Bundle.tN n d)).before args s = true) (hA : ∀ a : Nat, a < s.heap.size → ¬ A a) : mm_st n d A s s.heap := by
  obtain ⟨c, k, i, f, a, cell, hc, hi, hst, ha, hcell, hs, hcls, hlt, hty⟩ := Cond.laysStatic_spec hl
  cases hv : (Term.static Bundle.tN n d).eval args s none [] s with
  | none => simp [Cond.before, Cond.holds, Cond.value, hv] at hr
  | some w =>
    obtain ⟨hst', a', cell', ha', hcell', -, hslot⟩ := Term.static_spec hi hv
    cases ha.symm.trans ha'
    cases hcell.symm.trans hcell'
    have hw : w.isRef = true := by
      simp only [Cond.before, Cond.holds, Cond.value, hv] at hr
      cases w <;> simp_all [Value.isRef]
    exact ⟨c, k, i, f, a, cell, w, hc, hi, hst, ha, hty, hcell, hs, hcls, hlt, hslot, hw, hA a (Array.getElem?_eq_some_iff.mp hcell).1⟩
set_option maxRecDepth 100000 in
theorem t_STn : ∀ n, n < 30 → (t_STl.getD n (0, 0, 0)) ∈ t_STl ∧ (t_STl.getD n (0, 0, 0)).2.2 = n := by decide +kernel
set_option maxRecDepth 100000 in
theorem t_STq : ∀ q ∈ t_STl, q.2.2 < 30 ∧ t_STl.getD q.2.2 (0, 0, 0) = q := by decide +kernel
set_option maxRecDepth 100000 in
theorem t_SBl : ∀ n, n < 30 → (t_SB.getD n []).length < 2 ^ 31 := by decide +kernel
def law_ax (b t1 t2 tz : Nat) (ad : Nat → Nat × Nat) (k : Nat) : Nat := if k = 1000 then b else if k = 1001 then t1 else if k = 1002 then t2 else if k = 1999 then tz else if k < 2100 then (ad (k - 2000)).1 else (ad (k - 2100)).2
theorem law_E {s : State} {b L : Nat} {xs : Nat → Int32} (hts : ∀ w ∈ lw_tbl, w.before #[Value.ref b] s = true) (hX : va_X b L xs s s.heap) (hb : b < s.heap.size) (hg : (Jvm.Cond.and given_1 narrow_1).before #[Value.ref b] s = true) :
    ∃ (ax : Nat → Nat) (z : Value), (z = .null ∨ z = .ref 1999) ∧ ax 1000 = b ∧ mm_E ((L, xs), z) ax (fun q => s.heap.size ≤ q) s s.heap := by
  have hA : ∀ a : Nat, a < s.heap.size → ¬ (s.heap.size ≤ a) := fun a h => by omega
  have hs := flat_of_before _ hg
  have hstr : ∀ q ∈ t_STl, ∀ w ∈ nr_blk q, w.before #[Value.ref b] s = true := fun q hq w hw => hs w (List.mem_of_mem_drop (i := 83) (by rw [nr_str]; exact List.mem_flatMap.mpr ⟨q, hq, hw⟩))
  have harr : ∀ w ∈ nr_arr "LEADS_TO" t_A1 ++ nr_arr "COMES_FROM" t_A2, w.before #[Value.ref b] s = true := fun w hw => hs w (List.mem_of_mem_drop (i := 11) (List.mem_of_mem_take (i := 28) (by rw [nr_ars]; exact hw)))
  have hfew : ∀ w ∈ [Cond.isRef (.static Bundle.tN "UNASSIGNED_STACK" Bundle.steD), Cond.isRef (.static Bundle.tN "SUPPRESSED_SENTINEL" Bundle.listD), Cond.eq (.static "java/lang/String" "COMPACT_STRINGS" "Z") (.int 1), Cond.isRef (.static "jdk/internal/util/Preconditions" "SIOOBE_FORMATTER" "Ljava/util/function/BiFunction;"), Cond.not (.castable (t_EN 0) (t_EN 1)), Cond.not (.castable (t_EN 3) (t_EN 1))], w.before #[Value.ref b] s = true := fun w hw => hs w (by
    have := List.all_eq_true.mp nr_few w hw
    exact List.contains_iff_mem.mp this)
  -- the two static arrays
  have arr1 : ∀ (n : String) (l : List Int32), (∀ w ∈ nr_arr n l, w.before #[Value.ref b] s = true) → l.length < 2 ^ 31 → ∃ t : Nat, (Term.static "LitmusRows$Ring" n "[I").eval #[Value.ref b] s none [] s = some (.ref t) ∧ va_T .int t l.length (fun j => .int (l.getD j 0)) (fun q => s.heap.size ≤ q) s s.heap := by
    intro n l h hl
    refine va_Tof hl (h _ ?_) (va_eqt (h _ ?_)) (fun j hj => va_eqt (h _ ?_)) hA
    · exact List.mem_cons_of_mem _ List.mem_cons_self
    · exact List.mem_cons_of_mem _ (List.mem_cons_of_mem _ List.mem_cons_self)
    · exact List.mem_cons_of_mem _ (List.mem_cons_of_mem _ (List.mem_cons_of_mem _ (List.mem_map.mpr ⟨j, List.mem_range.mpr hj, rfl⟩)))
  obtain ⟨t1, e1, T1⟩ := arr1 "LEADS_TO" t_A1 (fun w hw => harr w (List.mem_append_left _ hw)) (by decide)
  obtain ⟨t2, e2, T2⟩ := arr1 "COMES_FROM" t_A2 (fun w hw => harr w (List.mem_append_right _ hw)) (by decide)
  -- the texts
  have h0 : ∀ n : Nat, ∃ q : Nat × Nat, n < 30 → (nr_t (t_STl.getD n (0, 0, 0))).eval #[Value.ref b] s none [] s = some (.ref q.1) ∧ va_O "java/lang/String" q.1 (fun q => s.heap.size ≤ q) s s.heap ∧ va_OF "java/lang/String" "coder" "B" (.int 0) q.1 (fun q => s.heap.size ≤ q) s s.heap ∧ va_OF "java/lang/String" "value" "[B" (.ref q.2) q.1 (fun q => s.heap.size ≤ q) s s.heap ∧ va_T .byte q.2 (t_SB.getD n []).length (fun j => .int ((t_SB.getD n []).getD j 0)) (fun q => s.heap.size ≤ q) s s.heap := by
    intro n
    by_cases hn : n < 30
    · obtain ⟨hq, hqn⟩ := t_STn n hn
      have hw := hstr _ hq
      generalize ht : t_STl.getD n (0, 0, 0) = q at hw hqn
      subst hqn
      have hex : (Cond.exactly (nr_t q) "java/lang/String").before #[Value.ref b] s = true := hw _ List.mem_cons_self
      obtain ⟨a, c, cA, kA, q1, q2, q3, q4, q5, q6, -⟩ := Cond.exactly_spec (args := #[Value.ref b]) (first := s) (o := none) (s := s) (idx := []) (t := nr_t q) (cls := "java/lang/String") hex
      obtain ⟨t, ht, hT⟩ := va_Tof (f := fun j => .int ((t_SB.getD q.2.2 []).getD j 0)) (A := fun q => s.heap.size ≤ q) (t_SBl _ hn) (hw _ (List.mem_cons_of_mem _ (List.mem_cons_of_mem _ List.mem_cons_self))) (va_eqt (hw _ (List.mem_cons_of_mem _ (List.mem_cons_of_mem _ (List.mem_cons_of_mem _ List.mem_cons_self))))) (fun j hj => va_eqt (hw _ (List.mem_cons_of_mem _ (List.mem_cons_of_mem _ (List.mem_cons_of_mem _ (List.mem_cons_of_mem _ (List.mem_map.mpr ⟨j, List.mem_range.mpr hj, rfl⟩))))))) hA
      exact ⟨(a, t), fun _ => ⟨q1, ⟨cA, q3, q5, by rw [q6]; exact q2, hA a (Array.getElem?_eq_some_iff.mp q3).1⟩, vk_OFof q1 (va_eqt (hw _ (List.mem_cons_of_mem _ List.mem_cons_self))) hA, vk_OFof q1 ht hA, hT⟩⟩
    · exact ⟨(0, 0), fun h => absurd h hn⟩
  obtain ⟨ad, had⟩ := Classical.axiomOfChoice h0
  -- the unknown static
  have hzq := va_Zqof (hts _ ly_sf) (hts _ in_sf) (hfew _ (List.mem_cons_of_mem _ (List.mem_cons_of_mem _ (List.mem_cons_of_mem _ List.mem_cons_self)))) hA
  have main : ∀ (tz : Nat) (z : Value), (z = .null ∨ z = .ref 1999) → va_Z "jdk/internal/util/Preconditions" "SIOOBE_FORMATTER" "Ljava/util/function/BiFunction;" (mm_v (law_ax b t1 t2 tz ad) z) (fun q => s.heap.size ≤ q) s s.heap → mm_E ((L, xs), z) (law_ax b t1 t2 tz ad) (fun q => s.heap.size ≤ q) s s.heap := by
    intro tz z hz hZ
    have a1 : ∀ n, n < 30 → law_ax b t1 t2 tz ad (2000 + n) = (ad n).1 := by
      intro n hn
      unfold law_ax
      rw [if_neg (by omega), if_neg (by omega), if_neg (by omega), if_neg (by omega), if_pos (by omega), show 2000 + n - 2000 = n by omega]
    have a2 : ∀ n, n < 30 → law_ax b t1 t2 tz ad (2100 + n) = (ad n).2 := by
      intro n hn
      unfold law_ax
      rw [if_neg (by omega), if_neg (by omega), if_neg (by omega), if_neg (by omega), if_neg (by omega), show 2100 + n - 2100 = n by omega]
    refine ⟨?_, ?_, ?_, ?_, ?_, ?_, ?_, ?_, ?_, ?_, ?_⟩
    · intro a x hx
      unfold mm_xi at hx
      split at hx
      · cases hx
        obtain ⟨scr, g1, g2, g3, g4, g5⟩ := hX
        exact ⟨scr, g1, g2, g3, Nat.le_of_eq g4.symm, congrArg Nat.toInt32 g4, g5, hA b hb⟩
      · cases hx; exact T1
      · cases hx; exact T2
      · cases hx
    · intro n hn
      match n, hn with
      | 0, _ => exact va_Zof (hts _ ly_l2) (hts _ in_l2) e1 hA
      | 1, _ => exact va_Zof (hts _ ly_cf) (hts _ in_l2) e2 hA
      | 2, _ => exact va_Zof (hts _ ly_cs) (hts _ in_cs) (va_eqi (hfew _ (List.mem_cons_of_mem _ (List.mem_cons_of_mem _ List.mem_cons_self)))) hA
      | 3, _ => exact hZ
    · intro n hn
      unfold mm_tx
      rw [a1 n hn, a2 n hn]
      exact (had n hn).2
    · intro q hq
      obtain ⟨tx, htx⟩ := lt_str q hq
      obtain ⟨h30, hq2⟩ := t_STq q hq
      refine ⟨tx, vk_R.of (hts _ htx) ?_⟩
      rw [a1 _ h30]
      have := (had _ h30).1
      rw [hq2] at this
      exact this
    · intro q hq
      exact va_Nw.of rfl (hts _ (lt_nl q hq))
    · exact mm_st_of (hts _ ly_us) (hfew _ List.mem_cons_self) hA
    · exact mm_st_of (hts _ ly_ss) (hfew _ (List.mem_cons_of_mem _ List.mem_cons_self)) hA
    · exact fun x hx => va_Nw.of rfl (hts _ (lt_ca x hx))
    · exact fun Y hY => va_Nw.of rfl (hts _ (lt_de Y hY))
    · exact va_Nc.of (hfew _ (List.mem_cons_of_mem _ (List.mem_cons_of_mem _ (List.mem_cons_of_mem _ (List.mem_cons_of_mem _ List.mem_cons_self)))))
    · exact va_Nc.of (hfew _ (List.mem_cons_of_mem _ (List.mem_cons_of_mem _ (List.mem_cons_of_mem _ (List.mem_cons_of_mem _ (List.mem_cons_of_mem _ List.mem_cons_self))))))
  rcases hzq with hz | ⟨t, hz⟩
  · exact ⟨law_ax b t1 t2 0 ad, .null, Or.inl rfl, rfl, main 0 .null (Or.inl rfl) hz⟩
  · exact ⟨law_ax b t1 t2 t ad, .ref 1999, Or.inr rfl, rfl, main t (.ref 1999) (Or.inr rfl) hz⟩
end MMLB
