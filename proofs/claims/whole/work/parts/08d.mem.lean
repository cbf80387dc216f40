/-! THE SMALL MACHINE, 7: all memory instructions at once. -/
section MMI
theorem t_CCd : ∀ co, co < 14 → ((t_CL[t_CC co]?).map (fun q => q.1)).getD (t_ON co) = t_ON co := by decide +kernel
theorem t_CCok {co : Nat} {q : vw_C} (h : t_CL[t_CC co]? = some q) : q.1 = t_ON co := by
  by_cases hc : co < 14
  · have := t_CCd co hc
    rw [h] at this
    exact this
  · have h9 : t_CC co = 99 := by
      unfold t_CC
      rw [List.getD_eq_getElem?_getD, List.getElem?_eq_none (show t_CCl.length ≤ co from by show 14 ≤ co; omega)]
      rfl
    rw [h9] at h
    simp [t_CL] at h
theorem mm_okv_w {n n' : Nat} (h : n ≤ n') {v : Value} (hv : mm_okv n v) : mm_okv n' v := by
  cases v <;> first | exact trivial | skip
  rcases hv with h1 | h1
  · exact Or.inl (Nat.lt_of_lt_of_le h1 h)
  · exact Or.inr h1
theorem t_SFv : ∀ n, n < t_SFl.length → (t_SF n).2.2.2 = .ref 1001 ∨ (t_SF n).2.2.2 = .ref 1002 ∨ (t_SF n).2.2.2 = .int 1 ∨ (t_SF n).2.2.2 = .ref 1999 := by decide +kernel
theorem mm_sf {E : mm_V} (hE : E.2 = .null ∨ E.2 = .ref 1999) {n : Nat} (hn : n < t_SFl.length) : mm_zz E (t_SF n).2.2.2 = .null ∨ (∃ i, mm_zz E (t_SF n).2.2.2 = .int i) ∨ ∃ k, 1000 ≤ k ∧ mm_zz E (t_SF n).2.2.2 = .ref k := by
  rcases t_SFv n hn with h | h | h | h
  · rw [h]; exact Or.inr (Or.inr ⟨1001, by decide, rfl⟩)
  · rw [h]; exact Or.inr (Or.inr ⟨1002, by decide, rfl⟩)
  · rw [h]; exact Or.inr (Or.inl ⟨1, rfl⟩)
  · rw [h]
    show E.2 = _ ∨ _
    rcases hE with h1 | h1
    · exact Or.inl h1
    · exact Or.inr (Or.inr ⟨1999, by decide, h1⟩)
variable {p : Program} {l : Launch} {e : Env} {R : Room} {s : State} {m : MethodId} {args : Array Value} {below : List Frame} {meth : Method} {c : Code} {H : Heap} {locs : List Loc} {cells slots : Nat} {Q : State → Prop}
variable {pc mi : Nat} {ls : Array Slot} {D : va_G} {A : Nat → Prop} {E : mm_V} {ax ad : Nat → Nat} {ac : Nat → ClassId} {sh : mm_S} {me : mm_M}
set_option maxHeartbeats 8000000 in
theorem mm_mem_W (hE : E.2 = .null ∨ E.2 = .ref 1999) (X : mm_X p s m args meth c mi D A E ax) (I : mm_I D ad ac sh me A ax s H locs) (hls : ls.size = t_ML mi) {q : mm_P} {st st' : List Value} {sh' : mm_S} {me' : mm_M} {dc ds : Nat} (hm : mm_mem E mi q st sh me = some (st', sh', me', dc, ds)) (hst : ∀ v ∈ st, mm_okv sh.length v)
    (hd : decode (t_BC mi) pc = .ok (q.1, mm_len q.1)) (hv : mm_rsv (t_CO mi) q = true) (hrm : mm_rm mi (pc, q) = true) (hfr : t_FR mi ≤ R.frames) (hlo : t_LO mi ≤ R.locals) (hc1 : cells + dc ≤ R.cells) (hs1 : slots + ds ≤ R.slots)
    (kk : ∀ (H1 : Heap) (locs1 : List Loc) (ad' : Nat → Nat) (ac' : Nat → ClassId), (∀ k, mm_okr sh.length k → ad' k = ad k) → (∀ k, k < sh.length → ac' k = ac k) → mm_I D ad' ac' sh' me' A ax s H1 locs1 → (∀ v ∈ st', mm_okv sh'.length v) → sh.length ≤ sh'.length → W p l e R s m args below meth c H1 locs1 (cells + dc) (slots + ds) Q (F0 m (pc + mm_len q.1) ls (st'.map (mm_v ad')))) :
    W p l e R s m args below meth c H locs cells slots Q (F0 m pc ls (st.map (mm_v ad))) := by
  obtain ⟨i, a0, b0, d0, k0, v0⟩ := q
  dsimp only at hd hv hrm kk
  have same : ∀ {st'' : List Value} {me'' : mm_M} {H1 : Heap} {locs1 : List Loc}, (∀ (H1 : Heap) (locs1 : List Loc) (ad' : Nat → Nat) (ac' : Nat → ClassId), (∀ k, mm_okr sh.length k → ad' k = ad k) → (∀ k, k < sh.length → ac' k = ac k) → mm_I D ad' ac' sh me'' A ax s H1 locs1 → (∀ v ∈ st'', mm_okv sh.length v) → sh.length ≤ sh.length → W p l e R s m args below meth c H1 locs1 (cells + 0) (slots + 0) Q (F0 m (pc + mm_len i) ls (st''.map (mm_v ad')))) → mm_I D ad ac sh me'' A ax s H1 locs1 → (∀ v ∈ st'', mm_okv sh.length v) → W p l e R s m args below meth c H1 locs1 cells slots Q (F0 m (pc + mm_len i) ls (st''.map (mm_v ad))) :=
    fun k I' hv' => k _ _ ad ac (fun _ _ => rfl) (fun _ _ => rfl) I' hv' (Nat.le_refl _)
  unfold mm_mem at hm
  split at hm
  · -- getfield
    rename_i x heq
    obtain rfl : i = .getfield x := heq
    try dsimp only at hm hd hv kk same
    split at hm
    · rename_i sd a r
      have hr : ∀ v ∈ r, mm_okv sh.length v := fun v h => hst v (List.mem_cons_of_mem _ h)
      cases hb : mm_isO sh[a]? a0 b0 with
      | true =>
        rw [hb] at hm
        cases hm
        obtain ⟨n, hs, hj⟩ := mm_isO_of hb
        have h50 : Nat.beq a0 50 = false := by
          cases h5 : Nat.beq a0 50 with
          | false => rfl
          | true =>
            have := Nat.eq_of_beq_eq_true h5
            subst this
            obtain ⟨n2, hs2⟩ : ∃ n2, t_CL[50]? = some n2 := by
              obtain ⟨r1, h1, -⟩ := I.1 a _ (mm_w_at hs)
              exact ⟨r1, h1⟩
            simp [t_CL] at hs2
        have hf : mm_fin2 t_FDl (t_CO mi) x = some (a0, b0) := by
          have hv : (bif Nat.beq a0 50 then decide (mm_fin2 t_XFl (t_CO mi) x = some b0) else decide (mm_fin2 t_FDl (t_CO mi) x = some (a0, b0))) = true := hv
          rw [h50] at hv
          exact of_decide_eq_true hv
        refine mm_getf X I hf hs hj hd (same kk I ?_)
        intro v hv'
        rcases List.mem_cons.mp hv' with rfl | hv'
        · unfold mm_gv
          cases t_RF a0 b0 with
          | false => exact trivial
          | true =>
            cases hq : me.2.1 a b0 with
            | none => exact trivial
            | some r9 => exact I.2.2.2.2.1 a b0 r9 (List.getElem?_eq_some_iff.mp hs).1 hq
        · exact hr v hv'
      | false =>
        rw [hb] at hm
        dsimp only [cond] at hm
        cases hb2 : (Nat.beq a0 50 && mm_xs a) with
        | false => rw [hb2] at hm; cases hm
        | true =>
          rw [hb2] at hm
          obtain ⟨h5, hxs⟩ := mm_andb hb2
          have hf : mm_fin2 t_XFl (t_CO mi) x = some b0 := by
            have hv : (bif Nat.beq a0 50 then decide (mm_fin2 t_XFl (t_CO mi) x = some b0) else decide (mm_fin2 t_FDl (t_CO mi) x = some (a0, b0))) = true := hv
            rw [h5] at hv
            exact of_decide_eq_true hv
          cases hb3 : Nat.beq b0 0 with
          | true =>
            rw [hb3] at hm
            cases hm
            refine mm_xget X I hf hxs (v := .ref (a + 100)) (by rw [hb3]; rfl) hd (same kk I ?_)
            intro v hv'
            rcases List.mem_cons.mp hv' with rfl | hv'
            · obtain ⟨n9, -, rfl⟩ := mm_xs_of hxs
              exact Or.inr (by omega)
            · exact hr v hv'
          | false =>
            rw [hb3] at hm
            cases hm
            refine mm_xget X I hf hxs (v := .int 0) (by rw [hb3]; rfl) hd (same kk I ?_)
            intro v hv'
            rcases List.mem_cons.mp hv' with rfl | hv'
            · exact trivial
            · exact hr v hv'
    · cases hm
  · -- putfield
    rename_i x heq
    obtain rfl : i = .putfield x := heq
    try dsimp only at hm hd hv kk same
    split at hm
    · rename_i sd y a r
      have hr : ∀ v ∈ r, mm_okv sh.length v := fun v h => hst v (List.mem_cons_of_mem _ (List.mem_cons_of_mem _ h))
      obtain ⟨h1, h2⟩ := mm_bif1 hm
      cases h2
      obtain ⟨h3, h4⟩ := mm_andb h1
      obtain ⟨h5, h6⟩ := mm_andb h4
      obtain ⟨h7, h8⟩ := mm_andb h6
      obtain ⟨n, hs, hj⟩ := mm_isO_of h3
      refine mm_putf X I (of_decide_eq_true hv) hs hj (by simpa using h5) (by simpa using h7) h8 hd (fun H1 locs1 I' => same kk I' hr)
    · rename_i sd y a r
      have hr : ∀ v ∈ r, mm_okv sh.length v := fun v h => hst v (List.mem_cons_of_mem _ (List.mem_cons_of_mem _ h))
      obtain ⟨h1, h2⟩ := mm_bif1 hm
      cases h2
      obtain ⟨h3, h4⟩ := mm_andb h1
      obtain ⟨h5, h6⟩ := mm_andb h4
      obtain ⟨h7, h8⟩ := mm_andb h6
      obtain ⟨h9, h10⟩ := mm_andb h8
      obtain ⟨n, hs, hj⟩ := mm_isO_of h3
      refine mm_putr X I (of_decide_eq_true hv) hs hj h5 h7 h9 (Nat.eq_of_beq_eq_true h10) (hst _ List.mem_cons_self) hd (fun q hq => t_CCok hq) (fun H1 locs1 I' => same kk I' hr)
    · cases hm
  · -- iaload
    rename_i heq
    obtain rfl : i = .iaload := heq
    try dsimp only at hm hd hv kk same
    split at hm
    · rename_i j a r
      have hr : ∀ v ∈ r, mm_okv sh.length v := fun v h => hst v (List.mem_cons_of_mem _ (List.mem_cons_of_mem _ h))
      have hk : ∀ {x : Value}, mm_okv sh.length x → ∀ v ∈ x :: r, mm_okv sh.length v := fun hx v h => (List.mem_cons.mp h).elim (fun q => by rw [q]; exact hx) (hr v)
      split at hm
      · rename_i n hA
        split at hm
        · cases hm
        · rename_i hj
          cases hm
          exact mm_iald X I (mm_isA_of hA) hj hd (same kk I (hk trivial))
      · split at hm
        · rename_i x hX
          split at hm
          · cases hm
          · rename_i hj
            cases hm
            exact mm_xald X I hX hj hd (same kk I (hk trivial))
        · cases hm
    · cases hm
  · -- baload
    rename_i heq
    obtain rfl : i = .baload := heq
    try dsimp only at hm hd hv kk same
    split at hm
    · rename_i j a r
      have hr : ∀ v ∈ r, mm_okv sh.length v := fun v h => hst v (List.mem_cons_of_mem _ (List.mem_cons_of_mem _ h))
      have hk : ∀ {x : Value}, mm_okv sh.length x → ∀ v ∈ x :: r, mm_okv sh.length v := fun hx v h => (List.mem_cons.mp h).elim (fun q => by rw [q]; exact hx) (hr v)
      split at hm
      · rename_i n hA
        split at hm
        · cases hm
        · rename_i hj
          cases hm
          exact mm_bald X I (mm_isA_of hA) hj hd (same kk I (hk trivial))
      · split at hm
        · rename_i x hX
          split at hm
          · cases hm
          · rename_i hj
            cases hm
            exact mm_xbld X I hX hj hd (same kk I (hk trivial))
        · cases hm
    · cases hm
  · -- laload
    rename_i heq
    obtain rfl : i = .laload := heq
    try dsimp only at hm hd hv kk same
    split at hm
    · rename_i j a r
      have hr : ∀ v ∈ r, mm_okv sh.length v := fun v h => hst v (List.mem_cons_of_mem _ (List.mem_cons_of_mem _ h))
      have hk : ∀ {x : Value}, mm_okv sh.length x → ∀ v ∈ x :: r, mm_okv sh.length v := fun hx v h => (List.mem_cons.mp h).elim (fun q => by rw [q]; exact hx) (hr v)
      split at hm
      · rename_i n hA
        split at hm
        · cases hm
        · rename_i hj
          cases hm
          exact mm_lald X I (mm_isA_of hA) hj hd (same kk I (hk trivial))
      · cases hm
    · cases hm
  · -- iastore
    rename_i heq
    obtain rfl : i = .iastore := heq
    try dsimp only at hm hd hv kk same
    split at hm
    · rename_i y j a r
      have hr : ∀ v ∈ r, mm_okv sh.length v := fun v h => hst v (List.mem_cons_of_mem _ (List.mem_cons_of_mem _ (List.mem_cons_of_mem _ h)))
      split at hm
      · rename_i n hA
        split at hm
        · cases hm
        · rename_i hj
          cases hm
          exact mm_iast X I (mm_isA_of hA) hj hd (fun H1 locs1 I' => same kk I' hr)
      · cases hm
    · cases hm
  · -- bastore
    rename_i heq
    obtain rfl : i = .bastore := heq
    try dsimp only at hm hd hv kk same
    split at hm
    · rename_i y j a r
      have hr : ∀ v ∈ r, mm_okv sh.length v := fun v h => hst v (List.mem_cons_of_mem _ (List.mem_cons_of_mem _ (List.mem_cons_of_mem _ h)))
      split at hm
      · rename_i n hA
        split at hm
        · cases hm
        · rename_i hj
          cases hm
          exact mm_bast X I (mm_isA_of hA) hj hd (fun H1 locs1 I' => same kk I' hr)
      · cases hm
    · cases hm
  · -- lastore
    rename_i heq
    obtain rfl : i = .lastore := heq
    try dsimp only at hm hd hv kk same
    split at hm
    · rename_i y j a r
      have hr : ∀ v ∈ r, mm_okv sh.length v := fun v h => hst v (List.mem_cons_of_mem _ (List.mem_cons_of_mem _ (List.mem_cons_of_mem _ h)))
      split at hm
      · rename_i n hA
        split at hm
        · cases hm
        · rename_i hj
          cases hm
          exact mm_last X I (mm_isA_of hA) hj hd (fun H1 locs1 I' => same kk I' hr)
      · cases hm
    · cases hm
  · -- arraylength
    rename_i heq
    obtain rfl : i = .arraylength := heq
    try dsimp only at hm hd hv kk same
    split at hm
    · rename_i a r
      have hr : ∀ v ∈ r, mm_okv sh.length v := fun v h => hst v (List.mem_cons_of_mem _ h)
      have hk : ∀ {x : Value}, mm_okv sh.length x → ∀ v ∈ x :: r, mm_okv sh.length v := fun hx v h => (List.mem_cons.mp h).elim (fun q => by rw [q]; exact hx) (hr v)
      split at hm
      · rename_i n hA
        cases hm
        exact mm_alen X I (mm_isA_of hA) hd (same kk I (hk trivial))
      · split at hm
        · rename_i n hA
          cases hm
          exact mm_alen X I (mm_isA_of hA) hd (same kk I (hk trivial))
        · split at hm
          · rename_i x hX
            cases hm
            exact mm_xalen X I hX hd (same kk I (hk trivial))
          · split at hm
            · rename_i x hX
              cases hm
              exact mm_xblen X I hX hd (same kk I (hk trivial))
            · cases hm
    · cases hm
  · -- newarray
    rename_i ty heq
    obtain rfl : i = .newarray ty := heq
    try dsimp only at hm hd hv kk same
    split at hm
    · rename_i sd n r
      have hr : ∀ v ∈ r, mm_okv sh.length v := fun v h => hst v (List.mem_cons_of_mem _ h)
      split at hm
      · cases hm
      · rename_i h0
        cases hm
        have hn1 : ¬ n < 0 := fun q => h0 (Or.inl q)
        have hn2 : ¬ 100000 ≤ n.toNatClampNeg := fun q => h0 (Or.inr (Or.inl q))
        have hn3 : ¬ 900 ≤ sh.length := fun q => h0 (Or.inr (Or.inr q))
        refine mm_newa X I hr (of_decide_eq_true hv) hn1 (by omega) (by omega) hc1 hs1 hd (fun H1 q cA I' => kk H1 locs _ _ (mm_ad_up (by omega)) (fun k hk => by unfold va_up; rw [if_neg (by omega)]) I' ?_ (by simp))
        intro v hv'
        rcases List.mem_cons.mp hv' with rfl | hv'
        · exact Or.inl (by simp)
        · exact mm_okv_w (by simp) (hr v hv')
    · cases hm
  · -- new
    rename_i x heq
    obtain rfl : i = .new x := heq
    try dsimp only at hm hd hv kk same
    obtain ⟨h1, h2⟩ := mm_bif1 hm
    cases h2
    obtain ⟨h3, h4⟩ := mm_andb h1
    have h4 := Nat.blt_eq.mp h4
    refine mm_newo X I hst (of_decide_eq_true hv) (Nat.blt_eq.mp h3) h4 hc1 hs1 hd (fun H1 q cA I' => kk H1 locs _ _ (mm_ad_up (by omega)) (fun k hk => by unfold va_up; rw [if_neg (by omega)]) I' ?_ (by simp))
    intro v hv'
    rcases List.mem_cons.mp hv' with rfl | hv'
    · exact Or.inl (by simp)
    · exact mm_okv_w (by simp) (hst v hv')
  · -- getstatic
    rename_i x heq
    obtain rfl : i = .getstatic x := heq
    try dsimp only at hm hd hv kk same
    cases hm
    have hv : (match mm_fin2 t_GSl (t_CO mi) x with | some n => decide (n < t_SFl.length ∧ (t_SF n).2.2.2 = v0) | none => false) = true := hv
    cases hg : mm_fin2 t_GSl (t_CO mi) x with
    | none => rw [hg] at hv; cases hv
    | some n =>
      rw [hg] at hv
      obtain ⟨hn, rfl⟩ := of_decide_eq_true hv
      have hs := mm_sf hE hn
      refine mm_gets X I hg hn ?_ hd (same kk I ?_)
      · rcases hs with h | ⟨i, h⟩ | ⟨k, hk, h⟩
        · rw [h]; rfl
        · rw [h]; rfl
        · rw [h]
          show Value.ref (ad k) = Value.ref (ax k)
          rw [I.2.2.2.2.2 k hk]
      · intro v hv'
        rcases List.mem_cons.mp hv' with rfl | hv'
        · rcases hs with h | ⟨i, h⟩ | ⟨k, hk, h⟩
          · rw [h]; exact trivial
          · rw [h]; exact trivial
          · rw [h]; exact Or.inr hk
        · exact hst v hv'
  · -- ldc
    rename_i x heq
    obtain rfl : i = .ldc x := heq
    try dsimp only at hm hd hv kk same
    have hv : (match mm_fin2 t_STl (t_CO mi) x with | some n => decide (n < 30 ∧ v0 = .ref (2000 + n)) | none => decide (mm_fin2 t_CNl (t_CO mi) x = some v0)) = true := hv
    have hk : ∀ {x : Value}, mm_okv sh.length x → ∀ v ∈ x :: st, mm_okv sh.length v := fun hx v h => (List.mem_cons.mp h).elim (fun q => by rw [q]; exact hx) (hst v)
    split at hm
    · cases hm
      cases hg : mm_fin2 t_STl (t_CO mi) x with
      | some n => rw [hg] at hv; cases (of_decide_eq_true hv).2
      | none =>
        rw [hg] at hv
        rcases cn_all _ (mm_fin2_in (of_decide_eq_true hv)) with ⟨w, h1, h2⟩ | ⟨w, h1, h2⟩
        · cases h1
          exact lv_ldc X.1 X.2.1 X.2.2.2.1 (X.2.2.2.2.1 _ h2) hd (same kk I (hk trivial))
        · cases h1
    · cases hm
      cases hg : mm_fin2 t_STl (t_CO mi) x with
      | some n =>
        rw [hg] at hv
        cases (of_decide_eq_true hv).2
        exact mm_ldcS X I hg hd (same kk I (hk (Or.inr (by omega))))
      | none =>
        rw [hg] at hv
        rcases cn_all _ (mm_fin2_in (of_decide_eq_true hv)) with ⟨w, h1, h2⟩ | ⟨w, h1, h2⟩ <;> cases h1
    · cases hm
  · -- ldc_w
    rename_i x heq
    obtain rfl : i = .ldc_w x := heq
    try dsimp only at hm hd hv kk same
    have hk : ∀ {x : Value}, mm_okv sh.length x → ∀ v ∈ x :: st, mm_okv sh.length v := fun hx v h => (List.mem_cons.mp h).elim (fun q => by rw [q]; exact hx) (hst v)
    split at hm
    · cases hm
      rcases cn_all _ (mm_fin2_in (of_decide_eq_true hv)) with ⟨w, h1, h2⟩ | ⟨w, h1, h2⟩
      · cases h1
        exact lv_ldcw X.1 X.2.1 X.2.2.2.1 (X.2.2.2.2.1 _ h2) hd (same kk I (hk trivial))
      · cases h1
    · cases hm
  · -- ldc2_w
    rename_i x heq
    obtain rfl : i = .ldc2_w x := heq
    try dsimp only at hm hd hv kk same
    have hk : ∀ {x : Value}, mm_okv sh.length x → ∀ v ∈ x :: st, mm_okv sh.length v := fun hx v h => (List.mem_cons.mp h).elim (fun q => by rw [q]; exact hx) (hst v)
    split at hm
    · cases hm
      rcases cn_all _ (mm_fin2_in (of_decide_eq_true hv)) with ⟨w, h1, h2⟩ | ⟨w, h1, h2⟩
      · cases h1
      · cases h1
        exact lv_ldc2 X.1 X.2.1 X.2.2.2.1 (X.2.2.2.2.1 _ h2) hd (same kk I (hk trivial))
    · cases hm
  · -- Object's constructor
    rename_i x heq
    obtain rfl : i = .invokespecial x := heq
    try dsimp only at hm hd hv hrm kk same
    cases h5 : Nat.beq b0 5 with
    | false => rw [h5] at hm; cases hm
    | true =>
      rw [h5] at hm
      have hb5 := Nat.eq_of_beq_eq_true h5
      subst hb5
      dsimp only [cond] at hm
      split at hm
      · rename_i a r
        obtain ⟨h1, h2⟩ := mm_bif1 hm
        cases h2
        have hr : ∀ v ∈ st', mm_okv sh.length v := fun v h => hst v (List.mem_cons_of_mem _ h)
        have hv : (Nat.beq 5 9 || decide (mm_fin2 t_IVl (t_CO mi) x = some (a0, 5, d0))) = true := hv
        have hv : mm_fin2 t_IVl (t_CO mi) x = some (a0, 5, d0) := of_decide_eq_true hv
        have hw : mm_iv5 (t_CO mi) x := (iv_all _ (mm_fin2_in hv)).2
        have hrm : (Nat.ble 1 (t_FR mi) && Nat.ble 20 (t_LO mi)) = true := hrm
        obtain ⟨g1, g2⟩ := mm_andb hrm
        have g1 := Nat.le_of_ble_eq_true g1
        have g2 := Nat.le_of_ble_eq_true g2
        have h1 : mm_cats st' ≤ 8 := Nat.le_of_ble_eq_true h1
        have e1 : ((st'.map (mm_v ad)).map fun v => v.category).sum = mm_cats st' := by
          unfold mm_cats
          rw [List.map_map]
          congr 1
          exact List.map_congr_left fun v _ => mm_v_cat ad v
        refine W.objInit X.1 X.2.1 X.2.2.2.1 (X.2.2.2.2.1 _ hw) (X.2.2.2.2.1 _ ob_i) (X.2.2.2.2.1 _ ob_c) (g := F0 m pc ls ((Value.ref a :: st').map (mm_v ad))) rfl (by rw [X.2.2.1]; exact hls) (rest := st'.map (mm_v ad)) rfl hd (by omega) (by
          show 2 * 0 + ((st'.map (mm_v ad)).map fun v => v.category).sum + 12 ≤ _
          rw [e1]
          omega) ?_
        exact same kk I hr
      · cases hm
  · -- Math.min, Math.max
    rename_i x heq
    obtain rfl : i = .invokestatic x := heq
    try dsimp only at hm hd hv hrm kk same
    have hcat : ∀ r : List Value, ((r.map (mm_v ad)).map fun v => v.category).sum = mm_cats r := fun r => by
      unfold mm_cats
      rw [List.map_map]
      congr 1
      exact List.map_congr_left fun v _ => mm_v_cat ad v
    cases h6 : Nat.beq b0 6 with
    | true =>
      rw [h6] at hm
      have hb6 := Nat.eq_of_beq_eq_true h6
      subst hb6
      dsimp only [cond] at hm
      split at hm
      · rename_i y z r
        obtain ⟨h1, h2⟩ := mm_bif1 hm
        cases h2
        have hr : ∀ v ∈ r, mm_okv sh.length v := fun v h => hst v (List.mem_cons_of_mem _ (List.mem_cons_of_mem _ h))
        have hk : ∀ {x : Value}, mm_okv sh.length x → ∀ v ∈ x :: r, mm_okv sh.length v := fun hx v h => (List.mem_cons.mp h).elim (fun q => by rw [q]; exact hx) (hr v)
        have hv : mm_fin2 t_IVl (t_CO mi) x = some (a0, 6, d0) := of_decide_eq_true (mm_andb hv).1
        have hw : mm_iv6 (t_CO mi) x := (iv_all _ (mm_fin2_in hv)).2
        obtain ⟨g1, g2⟩ := mm_andb (show (Nat.ble 1 (t_FR mi) && Nat.ble 21 (t_LO mi)) = true from hrm)
        have g1 := Nat.le_of_ble_eq_true g1
        have g2 := Nat.le_of_ble_eq_true g2
        have h1 : mm_cats r ≤ 8 := Nat.le_of_ble_eq_true h1
        exact va_mmin X.1 X.2.1 (by rw [X.2.2.1, hls]) X.2.2.2.1 (X.2.2.2.2.1 _ hw) (X.2.2.2.2.1 _ mth_min.1) (X.2.2.2.2.1 _ mth_i) (X.2.2.2.2.1 _ mth_min.2) (by omega) (by rw [hcat]; omega) (by omega) (by omega) hd (same kk I (hk trivial))
      · cases hm
    | false =>
      rw [h6] at hm
      dsimp only [cond] at hm
      cases h7 : Nat.beq b0 7 with
      | false => rw [h7] at hm; cases hm
      | true =>
        rw [h7] at hm
        have hb7 := Nat.eq_of_beq_eq_true h7
        subst hb7
        dsimp only [cond] at hm
        split at hm
        · rename_i y z r
          obtain ⟨h1, h2⟩ := mm_bif1 hm
          cases h2
          have hr : ∀ v ∈ r, mm_okv sh.length v := fun v h => hst v (List.mem_cons_of_mem _ (List.mem_cons_of_mem _ h))
          have hk : ∀ {x : Value}, mm_okv sh.length x → ∀ v ∈ x :: r, mm_okv sh.length v := fun hx v h => (List.mem_cons.mp h).elim (fun q => by rw [q]; exact hx) (hr v)
          have hv : mm_fin2 t_IVl (t_CO mi) x = some (a0, 7, d0) := of_decide_eq_true (mm_andb hv).1
          have hw : mm_iv7 (t_CO mi) x := (iv_all _ (mm_fin2_in hv)).2
          obtain ⟨g1, g2⟩ := mm_andb (show (Nat.ble 1 (t_FR mi) && Nat.ble 21 (t_LO mi)) = true from hrm)
          have g1 := Nat.le_of_ble_eq_true g1
          have g2 := Nat.le_of_ble_eq_true g2
          have h1 : mm_cats r ≤ 8 := Nat.le_of_ble_eq_true h1
          exact va_mmax X.1 X.2.1 (by rw [X.2.2.1, hls]) X.2.2.2.1 (X.2.2.2.2.1 _ hw) (X.2.2.2.2.1 _ mth_max.1) (X.2.2.2.2.1 _ mth_i) (X.2.2.2.2.1 _ mth_max.2) (by omega) (by rw [hcat]; omega) (by omega) (by omega) hd (same kk I (hk trivial))
        · cases hm
  · cases hm
end MMI
