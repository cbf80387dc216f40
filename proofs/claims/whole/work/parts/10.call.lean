/-! THE SMALL MACHINE, 9: calls. mm_SIM: with fuel f the machine follows a run to its end. -/
section MMK
def mm_SIM (l : Launch) (E : mm_V) (f : Nat) : Prop := ∀ (mi : Nat) (S : mm_T) (o : mm_O), mm_run E f mi S = some o →
  ∀ (p : Program) (e : Env) (R : Room) (s : State) (m : MethodId) (args : Array Value) (below : List Frame) (meth : Method) (c : Code) (D : va_G) (A : Nat → Prop) (ax ad : Nat → Nat) (ac : Nat → ClassId) (H : Heap) (locs : List Loc) (ls : Array Slot) (Q : State → Prop),
    mm_X p s m args meth c mi D A E ax → t_FR mi ≤ R.frames → t_LO mi ≤ R.locals → o.2.2.2.1 ≤ R.cells → o.2.2.2.2 ≤ R.slots → c.exceptionTable.toList = tableOf (t_HD mi) →
    mm_I D ad ac S.2.2.2.1 S.2.2.2.2.1 A ax s H locs → lv_has ls (t_ML mi) (mm_l ad S.2.1) → S.2.1.length = t_ML mi → (∀ v ∈ S.2.2.1, mm_okv S.2.2.2.1.length v) → (∀ v, some v ∈ S.2.1 → mm_okv S.2.2.2.1.length v) →
    (∀ (S' : mm_T) (q : mm_P) (H' : Heap) (locs' : List Loc) (ad' : Nat → Nat) (ac' : Nat → ClassId) (ls' : Array Slot), t_OP mi S'.1 = some q → mm_end mi q S' = some o → (∀ k, mm_okr S.2.2.2.1.length k → ad' k = ad k) → (∀ k, k < S.2.2.2.1.length → ac' k = ac k) → mm_I D ad' ac' S'.2.2.2.1 S'.2.2.2.2.1 A ax s H' locs' → ls'.size = t_ML mi → S.2.2.2.1.length ≤ S'.2.2.2.1.length → (∀ v ∈ S'.2.2.1, mm_okv S'.2.2.2.1.length v) →
      W p l e R s m args below meth c H' locs' S'.2.2.2.2.2.1 S'.2.2.2.2.2.2 Q (F0 m S'.1 ls' (S'.2.2.1.map (mm_v ad')))) →
    W p l e R s m args below meth c H locs S.2.2.2.2.2.1 S.2.2.2.2.2.2 Q (F0 m S.1 ls (S.2.2.1.map (mm_v ad)))
/-- cells of the world are no statics -/
theorem mm_noSt {D : va_G} {ad : Nat → Nat} {ac : Nat → ClassId} {sh : mm_S} {me : mm_M} {H : Heap} (hP : va_P D t_CL (mm_w ad ac sh me) H) : ∀ (q : Nat) (cell : Cell), va_A (mm_w ad ac sh me) H.size q → H[q]? = some cell → cell.vm.isStatics = false := by
  intro q cell hq hc
  rcases hq with ⟨k, e, hk⟩ | hq
  · have h1 := hP k _ hk
    unfold va_at at h1
    cases e with
    | inl a =>
      have h1 : H[q]? = some (vp_cell a.1 a.2) := h1
      rw [h1] at hc
      cases hc
      obtain ⟨c9, n9, f | f | f | f | f⟩ := a <;> rfl
    | inr o =>
      obtain ⟨r, -, cl, g1, g2, g3, -⟩ := h1
      rw [g1] at hc
      cases hc
      rw [g3]
      rfl
  · rw [Array.getElem?_eq_none hq] at hc
    cases hc
/-- a callee without handlers that returns: its contract -/
theorem mm_met {l : Launch} {E : mm_V} {f : Nat} (ih : mm_SIM l E f) {y : Nat} {as : List Value} {sh sh' : mm_S} {me me' : mm_M} {v : Option Value} {dc ds : Nat} (hrun : mm_run E f y (0, mm_entry y as, [], sh, me, 0, 0) = some (.inl v, sh', me', dc, ds)) (hmt : mm_mt y) (hhd : t_HD y = []) (hha : mm_args y as = true) (hok : ∀ v ∈ as, mm_okv sh.length v) (hm : mm_okm sh me)
    (D : va_G) (ad : Nat → Nat) (ac : Nat → ClassId) (ax : Nat → Nat) (sz : Nat) (hax : ∀ k, 1000 ≤ k → ad k = ax k) :
    Met l (t_MN y) (Cond.code (t_MN y) (t_BC y) (t_ML y) (t_RT y) :: t_WS) { frames := t_FR y, cells := dc, slots := ds, locals := t_LO y } (mm_Pre D ad ac sh me E ax as sz) (mm_Post D ad ac sh.length ax (va_A (mm_w ad ac sh me) sz) v sh' me') dc ds (va_A (mm_w ad ac sh me) sz) := by
  refine Met.ofW (cc := t_BC y) (maxL := t_ML y) (ret := t_RT y) hmt.1 rfl ?_
  intro p e s m args below meth c s₁ B hml hv
  obtain ⟨rfl, hsz, hP, hD0, hKn, hka, hEE⟩ := hv
  have hts := atoms_spec (ws := Cond.code (t_MN y) (t_BC y) (t_ML y) (t_RT y) :: t_WS) B.pre
  have hown : s.vm.findClass (t_MN y).cls = some m.cls := findClass_of_methodNamed B.named
  subst hsz
  have hX : mm_X p s m (as.map (mm_v ad)).toArray meth c y D (va_A (mm_w ad ac sh me) s.heap.size) E ax :=
    ⟨B.exec, B.bytes, hml, by rw [hmt.2.2.2.2.1]; exact hown, fun w hw => hts w (List.mem_cons_of_mem _ hw), fun hin => by
      rw [(name_of_methodNamed B.named B.method).1]
      exact eq_of_beq hin, hKn, fun q h => Or.inr h, hEE, B.notSynchronized, mm_noSt hP⟩
  have hI : mm_I D ad ac sh me (va_A (mm_w ad ac sh me) s.heap.size) ax s s.heap [] := ⟨hP, hD0.self, va_S.rf, hka, hm, hax⟩
  have hent := mm_entry_has (ad := ad) hha
  have htb : c.exceptionTable.toList = tableOf (t_HD y) := by
    have h1 := B.noHandlers (hts _ List.mem_cons_self)
    rw [hhd, Array.isEmpty_iff.mp h1]
    rfl
  rw [lg_entry_eq]
  refine ih y (0, mm_entry y as, [], sh, me, 0, 0) _ hrun p e _ s m _ below meth c D _ ax ad ac s.heap [] _ _ hX (Nat.le_refl _) (Nat.le_refl _) (Nat.le_refl _) (Nat.le_refl _) htb hI hent.1 hent.2 (fun v h => by cases h) (mm_entry_ok hok) ?_
  intro S' q H' locs' ad' ac' ls' hq he g1 g2 I' _ g3 _
  have ho := mm_end_eq he
  refine mm_end_W hX B.returns hq he ?_ I'.2.2.1.2.2
  intro t ht hW
  have e1 : sh' = S'.2.2.2.1 := ho.1
  have e2 : me' = S'.2.2.2.2.1 := ho.2.1
  refine ⟨⟨_, rfl, ad', ac', g1, g2, rfl, by rw [ht, e1, e2]; exact I'.1, by rw [e1, e2]; exact I'.2.1, by rw [e1]; exact mm_ka.moved hW.alike I'.2.2.2.1, by rw [e1, e2]; exact I'.2.2.2.2.1, mm_end_v he _, by rw [e1]; exact g3, I'.2.2.2.2.2⟩, I'.2.2.1.F ht⟩
variable {p : Program} {l : Launch} {e : Env} {R : Room} {s : State} {m : MethodId} {args : Array Value} {below : List Frame} {meth : Method} {c : Code} {H : Heap} {locs : List Loc} {cells slots : Nat} {Q : State → Prop}
variable {pc mi : Nat} {ls : Array Slot} {D : va_G} {A : Nat → Prop} {E : mm_V} {ax ad : Nat → Nat} {ac : Nat → ClassId} {sh : mm_S} {me : mm_M}
theorem mm_cat_map (r : List Value) : ((r.map (mm_v ad)).map fun v => v.category).sum = mm_cats r := by
  unfold mm_cats
  rw [List.map_map]
  congr 1
  exact List.map_congr_left fun v _ => mm_v_cat ad v
theorem mm_good {w : Cond} (h : w ∈ t_WS) : w ∈ t_WS ∧ ((w.onTables && w.keeps) = true ∨ ∃ ty, w = .arrayClass ty) := mm_wsg w h
/-- the receiver of a call -/
theorem mm_rcv_of (X : mm_X p s m args meth c mi D A E ax) (I : mm_I D ad ac sh me A ax s H locs) {a y : Nat} (hmt : mm_mt y) (h : mm_rcv sh a y = true) : ∃ cellB : Cell, H[ad a]? = some cellB ∧ cellB.vm.isStatics = false ∧ s.vm.findClass (t_MN y).cls = some cellB.cls := by
  unfold mm_rcv at h
  split at h
  · rename_i ci n hs
    have e1 := Nat.eq_of_beq_eq_true h
    subst e1
    obtain ⟨z, hz, -⟩ := I.1 a _ (mm_w_at hs)
    have h2 := va_recv (mm_K0 X) I.1 hz (mm_w_at hs)
    rw [t_CCok hz, hmt.2.2.2.2.1] at h2
    exact h2
  · cases h
  · obtain ⟨h1, h2⟩ := mm_andb h
    obtain ⟨n, hn, rfl⟩ := mm_xs_of h1
    have h2 := Nat.eq_of_beq_eq_true h2
    have e1 : ad (2000 + n) = ax (2000 + n) := I.2.2.2.2.2 _ (by omega)
    obtain ⟨cell, k1, k2, k3, -⟩ := (X.2.2.2.2.2.2.2.2.1.2.2.1 n hn).1.kept I.2.2.1.2.1
    have e2 : (t_MN y).cls = "java/lang/String" := by
      rw [← hmt.2.2.2.2.1, h2]
      rfl
    rw [e1, e2]
    exact ⟨cell, k1, k2, k3⟩
theorem mm_drop_split {st r : List Value} {d a : Nat} (h : st.drop d = .ref a :: r) : st = st.take d ++ .ref a :: r := by
  rw [← h, List.take_append_drop]
/-- a virtual call -/
theorem mm_callV {f : Nat} (ih : mm_SIM l E f) (X : mm_X p s m args meth c mi D A E ax) (I : mm_I D ad ac sh me A ax s H locs) (hls : ls.size = t_ML mi) {x y na a : Nat} {st r : List Value} {v : Option Value} {sh' : mm_S} {me' : mm_M} {dc ds : Nat} (hst : ∀ v ∈ st, mm_okv sh.length v)
    (hsp : st.drop na = .ref a :: r) (hcat : mm_cats r ≤ 8) (hrc : mm_rcv sh a y = true) (hha : mm_args y (.ref a :: (st.take na).reverse) = true) (hiv : mm_iv0 (t_CO mi) x y) (hna : t_NA y = na) (hhd : t_HD y = []) (hd : decode (t_BC mi) pc = .ok (.invokevirtual x, 3)) (hfr : t_FR y + 1 ≤ R.frames) (hlo : 8 + (t_ML y + 11) + t_LO y ≤ R.locals) (hc1 : cells + dc ≤ R.cells) (hs1 : slots + ds ≤ R.slots)
    (hrun : mm_run E f y (0, mm_entry y (.ref a :: (st.take na).reverse), [], sh, me, 0, 0) = some (.inl v, sh', me', dc, ds))
    (kk : ∀ (H1 : Heap) (locs1 : List Loc) (ad' : Nat → Nat) (ac' : Nat → ClassId), (∀ k, mm_okr sh.length k → ad' k = ad k) → (∀ k, k < sh.length → ac' k = ac k) → mm_I D ad' ac' sh' me' A ax s H1 locs1 → (∀ w ∈ v.toList ++ r, mm_okv sh'.length w) → sh.length ≤ sh'.length → W p l e R s m args below meth c H1 locs1 (cells + dc) (slots + ds) Q (F0 m (pc + 3) ls ((v.toList ++ r).map (mm_v ad')))) :
    W p l e R s m args below meth c H locs cells slots Q (F0 m pc ls (st.map (mm_v ad))) := by
  have hsp2 := mm_drop_split hsp
  have hmem : ∀ w ∈ Value.ref a :: (st.take na).reverse, mm_okv sh.length w := by
    intro w hw
    rcases List.mem_cons.mp hw with rfl | hw
    · exact hst _ (by rw [hsp2]; simp)
    · exact hst _ (by rw [hsp2]; exact List.mem_append_left _ (List.mem_reverse.mp hw))
  have hr : ∀ w ∈ r, mm_okv sh.length w := fun w hw => hst _ (by rw [hsp2]; simp [hw])
  obtain ⟨hmt, hcd, hl1, hl2, hl3⟩ := hiv
  have hM := mm_met ih hrun hmt hhd hha hmem I.2.2.2.2.1 D ad ac ax H.size I.2.2.2.2.2
  have hlen : (st.take na).length = na := by
    rw [List.length_take]
    have := congrArg List.length hsp
    simp at this
    omega
  refine mm_back X I hr (va_runV (As := ((st.take na).reverse).map (mm_v ad)) (b := ad a) (rest := r.map (mm_v ad)) ⟨X.1, X.2.1, X.2.2.1, X.2.2.2.1, X.2.2.2.2.1⟩ hM (cwV na X.2.2.2.2.1 ?_ rfl rfl rfl ⟨rfl, hmt.2.1, hmt.2.2.1, by rw [← hna]; exact hmt.2.2.2.1⟩ ⟨hfr, hlo⟩) ⟨mm_Pre_blind, mm_rcv_of X I hmt hrc, fun U hU hW => mm_Pre_at X I (as := .ref a :: (st.take na).reverse) U hU hW⟩ rfl ?_ hls ?_ (lv_room (by rw [mm_cat_map]; exact hcat)) hd ⟨hc1, hs1⟩) kk
  · intro w hw
    unfold wsV at hw
    rcases List.mem_append.mp hw with h | h
    · simp only [List.mem_cons, List.not_mem_nil, or_false] at h
      rcases h with rfl | rfl | rfl | rfl
      · exact mm_good hl1
      · exact mm_good hl2
      · exact mm_good hl3
      · exact mm_good hmt.2.2.2.2.2
    · rcases List.mem_cons.mp h with rfl | h
      · exact mm_good hcd
      · exact mm_good h
  · rw [List.length_map, List.length_reverse, hlen]
  · show st.map (mm_v ad) = _
    conv => lhs; rw [hsp2]
    rw [List.map_append, List.map_cons, ← List.map_reverse, List.reverse_reverse]
    rfl
/-- a constructor's call -/
theorem mm_callI {f : Nat} (ih : mm_SIM l E f) (X : mm_X p s m args meth c mi D A E ax) (I : mm_I D ad ac sh me A ax s H locs) (hls : ls.size = t_ML mi) {x y na a : Nat} {st r : List Value} {v : Option Value} {sh' : mm_S} {me' : mm_M} {dc ds : Nat} (hst : ∀ v ∈ st, mm_okv sh.length v)
    (hsp : st.drop na = .ref a :: r) (hcat : mm_cats r ≤ 8) (hha : mm_args y (.ref a :: (st.take na).reverse) = true) (hiv : mm_iv1 (t_CO mi) x y) (hna : t_NA y = na) (hhd : t_HD y = []) (hd : decode (t_BC mi) pc = .ok (.invokespecial x, 3)) (hfr : t_FR y + 1 ≤ R.frames) (hlo : 8 + (t_ML y + 11) + t_LO y ≤ R.locals) (hc1 : cells + dc ≤ R.cells) (hs1 : slots + ds ≤ R.slots)
    (hrun : mm_run E f y (0, mm_entry y (.ref a :: (st.take na).reverse), [], sh, me, 0, 0) = some (.inl v, sh', me', dc, ds))
    (kk : ∀ (H1 : Heap) (locs1 : List Loc) (ad' : Nat → Nat) (ac' : Nat → ClassId), (∀ k, mm_okr sh.length k → ad' k = ad k) → (∀ k, k < sh.length → ac' k = ac k) → mm_I D ad' ac' sh' me' A ax s H1 locs1 → (∀ w ∈ v.toList ++ r, mm_okv sh'.length w) → sh.length ≤ sh'.length → W p l e R s m args below meth c H1 locs1 (cells + dc) (slots + ds) Q (F0 m (pc + 3) ls ((v.toList ++ r).map (mm_v ad')))) :
    W p l e R s m args below meth c H locs cells slots Q (F0 m pc ls (st.map (mm_v ad))) := by
  have hsp2 := mm_drop_split hsp
  have hmem : ∀ w ∈ Value.ref a :: (st.take na).reverse, mm_okv sh.length w := by
    intro w hw
    rcases List.mem_cons.mp hw with rfl | hw
    · exact hst _ (by rw [hsp2]; simp)
    · exact hst _ (by rw [hsp2]; exact List.mem_append_left _ (List.mem_reverse.mp hw))
  have hr : ∀ w ∈ r, mm_okv sh.length w := fun w hw => hst _ (by rw [hsp2]; simp [hw])
  obtain ⟨hmt, hcd, hl1, hl2, hnm, hrt⟩ := hiv
  have hM := mm_met ih hrun hmt hhd hha hmem I.2.2.2.2.1 D ad ac ax H.size I.2.2.2.2.2
  rw [hrt] at hM
  have hcd : Cond.code (t_MN y) (t_BC y) (t_ML y) none ∈ t_WS := by rw [← hrt]; exact hcd
  have hG : GoodIn t_WS (Cond.code (t_MN y) (t_BC y) (t_ML y) none :: t_WS) := by
    intro w hw
    rcases List.mem_cons.mp hw with rfl | h
    · exact mm_good hcd
    · exact mm_good h
  have hlen : (st.take na).length = na := by
    rw [List.length_take]
    have := congrArg List.length hsp
    simp at this
    omega
  refine mm_back X I hr (va_runI (As := ((st.take na).reverse).map (mm_v ad)) (b := ad a) (rest := r.map (mm_v ad)) ⟨X.1, X.2.1, X.2.2.1, X.2.2.2.1, X.2.2.2.2.1⟩ hM (cwI na X.2.2.2.2.1 hG rfl rfl rfl (X.2.2.2.2.1 _ hmt.2.2.2.2.2) (X.2.2.2.2.1 _ hl1) (X.2.2.2.2.1 _ hl2) hnm ⟨hmt.2.1, hmt.2.2.1, by rw [← hna]; exact hmt.2.2.2.1⟩ ⟨hfr, hlo⟩) ⟨mm_Pre_blind, fun U hU hW => mm_Pre_at X I (as := .ref a :: (st.take na).reverse) U hU hW⟩ rfl ?_ hls ?_ (lv_room (by rw [mm_cat_map]; exact hcat)) hd ⟨hc1, hs1⟩) kk
  · rw [List.length_map, List.length_reverse, hlen]
  · show st.map (mm_v ad) = _
    conv => lhs; rw [hsp2]
    rw [List.map_append, List.map_cons, ← List.map_reverse, List.reverse_reverse]
    rfl
/-- a constructor's call (of a private nested class) -/
theorem mm_callN {f : Nat} (ih : mm_SIM l E f) (X : mm_X p s m args meth c mi D A E ax) (I : mm_I D ad ac sh me A ax s H locs) (hls : ls.size = t_ML mi) {x y na a : Nat} {st r : List Value} {v : Option Value} {sh' : mm_S} {me' : mm_M} {dc ds : Nat} (hst : ∀ v ∈ st, mm_okv sh.length v)
    (hsp : st.drop na = .ref a :: r) (hcat : mm_cats r ≤ 8) (hha : mm_args y (.ref a :: (st.take na).reverse) = true) (hiv : mm_iv3 (t_CO mi) x y) (hna : t_NA y = na) (hhd : t_HD y = []) (hd : decode (t_BC mi) pc = .ok (.invokespecial x, 3)) (hfr : t_FR y + 1 ≤ R.frames) (hlo : 8 + (t_ML y + 11) + t_LO y ≤ R.locals) (hc1 : cells + dc ≤ R.cells) (hs1 : slots + ds ≤ R.slots)
    (hrun : mm_run E f y (0, mm_entry y (.ref a :: (st.take na).reverse), [], sh, me, 0, 0) = some (.inl v, sh', me', dc, ds))
    (kk : ∀ (H1 : Heap) (locs1 : List Loc) (ad' : Nat → Nat) (ac' : Nat → ClassId), (∀ k, mm_okr sh.length k → ad' k = ad k) → (∀ k, k < sh.length → ac' k = ac k) → mm_I D ad' ac' sh' me' A ax s H1 locs1 → (∀ w ∈ v.toList ++ r, mm_okv sh'.length w) → sh.length ≤ sh'.length → W p l e R s m args below meth c H1 locs1 (cells + dc) (slots + ds) Q (F0 m (pc + 3) ls ((v.toList ++ r).map (mm_v ad')))) :
    W p l e R s m args below meth c H locs cells slots Q (F0 m pc ls (st.map (mm_v ad))) := by
  have hsp2 := mm_drop_split hsp
  have hmem : ∀ w ∈ Value.ref a :: (st.take na).reverse, mm_okv sh.length w := by
    intro w hw
    rcases List.mem_cons.mp hw with rfl | hw
    · exact hst _ (by rw [hsp2]; simp)
    · exact hst _ (by rw [hsp2]; exact List.mem_append_left _ (List.mem_reverse.mp hw))
  have hr : ∀ w ∈ r, mm_okv sh.length w := fun w hw => hst _ (by rw [hsp2]; simp [hw])
  obtain ⟨hmt, hcd, hl1, hl2, hnm, hrt⟩ := hiv
  have hM := mm_met ih hrun hmt hhd hha hmem I.2.2.2.2.1 D ad ac ax H.size I.2.2.2.2.2
  rw [hrt] at hM
  have hcd : Cond.code (t_MN y) (t_BC y) (t_ML y) none ∈ t_WS := by rw [← hrt]; exact hcd
  have hG : GoodIn t_WS (Cond.code (t_MN y) (t_BC y) (t_ML y) none :: t_WS) := by
    intro w hw
    rcases List.mem_cons.mp hw with rfl | h
    · exact mm_good hcd
    · exact mm_good h
  have hlen : (st.take na).length = na := by
    rw [List.length_take]
    have := congrArg List.length hsp
    simp at this
    omega
  have hnl : va_Nw (Cond.methodLinkNest (t_ON (t_CO mi)) x (t_MN y) "LitmusRows") s := X.2.2.2.2.2.2.2.2.1.2.2.2.2.1 (t_CO mi, x, y) hl1
  have hini := X.2.2.2.2.1 _ hmt.2.2.2.2.2
  have hd3 : (t_MN y).cls ≠ "java/lang/invoke/MethodHandle" ∧ (t_MN y).cls ≠ "java/lang/invoke/VarHandle" ∧ (parseMethodDescriptor (t_MN y).desc).map (fun d => d.parameters.length) = some na := ⟨hmt.2.1, hmt.2.2.1, by rw [← hna]; exact hmt.2.2.2.1⟩
  have hcn := va_cnB (R := R) (rm := { frames := t_FR y, cells := dc, slots := ds, locals := t_LO y }) (mc := dc) (ms := ds) na X.2.2.2.2.1 hG rfl rfl rfl hnl hini hd3 ⟨hfr, hlo⟩
  refine mm_back X I hr (va_runIN (As := ((st.take na).reverse).map (mm_v ad)) (b := ad a) (rest := r.map (mm_v ad)) ⟨X.1, X.2.1, X.2.2.1, X.2.2.2.1, X.2.2.2.2.1⟩ hM ⟨hcn, hnm, X.2.2.2.2.1 _ hl2⟩ ⟨mm_Pre_blind, fun U hU hW => mm_Pre_at X I (as := .ref a :: (st.take na).reverse) U hU hW⟩ rfl ?_ hls ?_ (lv_room (by rw [mm_cat_map]; exact hcat)) hd ⟨hc1, hs1⟩) kk
  · rw [List.length_map, List.length_reverse, hlen]
  · show st.map (mm_v ad) = _
    conv => lhs; rw [hsp2]
    rw [List.map_append, List.map_cons, ← List.map_reverse, List.reverse_reverse]
    rfl
/-- a static call -/
theorem mm_callS {f : Nat} (ih : mm_SIM l E f) (X : mm_X p s m args meth c mi D A E ax) (I : mm_I D ad ac sh me A ax s H locs) (hls : ls.size = t_ML mi) {x y na : Nat} {st : List Value} {v : Option Value} {sh' : mm_S} {me' : mm_M} {dc ds : Nat} (hst : ∀ v ∈ st, mm_okv sh.length v)
    (hle : na ≤ st.length) (hcat : mm_cats (st.drop na) ≤ 8) (hha : mm_args y (st.take na).reverse = true) (hiv : mm_iv2 (t_CO mi) x y) (hna : t_NA y = na) (hhd : t_HD y = []) (hcd : mm_cd y) (hd : decode (t_BC mi) pc = .ok (.invokestatic x, 3)) (hfr : t_FR y + 1 ≤ R.frames) (hlo : 8 + (t_ML y + 11) + t_LO y ≤ R.locals) (hc1 : cells + dc ≤ R.cells) (hs1 : slots + ds ≤ R.slots)
    (hrun : mm_run E f y (0, mm_entry y (st.take na).reverse, [], sh, me, 0, 0) = some (.inl v, sh', me', dc, ds))
    (kk : ∀ (H1 : Heap) (locs1 : List Loc) (ad' : Nat → Nat) (ac' : Nat → ClassId), (∀ k, mm_okr sh.length k → ad' k = ad k) → (∀ k, k < sh.length → ac' k = ac k) → mm_I D ad' ac' sh' me' A ax s H1 locs1 → (∀ w ∈ v.toList ++ st.drop na, mm_okv sh'.length w) → sh.length ≤ sh'.length → W p l e R s m args below meth c H1 locs1 (cells + dc) (slots + ds) Q (F0 m (pc + 3) ls ((v.toList ++ st.drop na).map (mm_v ad')))) :
    W p l e R s m args below meth c H locs cells slots Q (F0 m pc ls (st.map (mm_v ad))) := by
  have hmem : ∀ w ∈ (st.take na).reverse, mm_okv sh.length w := fun w hw => hst _ (List.mem_of_mem_take (List.mem_reverse.mp hw))
  have hr : ∀ w ∈ st.drop na, mm_okv sh.length w := fun w hw => hst _ (List.mem_of_mem_drop hw)
  obtain ⟨hmt, -, hl1, hl2⟩ := hiv
  have hM := mm_met ih hrun hmt hhd hha hmem I.2.2.2.2.1 D ad ac ax H.size I.2.2.2.2.2
  have hlen : (st.take na).length = na := by rw [List.length_take]; omega
  refine mm_back X I hr (va_runS (As := ((st.take na).reverse).map (mm_v ad)) (rest := (st.drop na).map (mm_v ad)) ⟨X.1, X.2.1, X.2.2.1, X.2.2.2.1, X.2.2.2.2.1⟩ hM (va_cwS na X.2.2.2.2.1 ?_ rfl rfl rfl ⟨hmt.2.1, hmt.2.2.1, by rw [← hna]; exact hmt.2.2.2.1⟩ ⟨hfr, hlo⟩) ⟨mm_Pre_blind, fun U hU hW => mm_Pre_at X I (as := (st.take na).reverse) U hU hW⟩ rfl ?_ hls ?_ (lv_room (by rw [mm_cat_map]; exact hcat)) hd ⟨hc1, hs1⟩) kk
  · intro w hw
    unfold va_wsS at hw
    rcases List.mem_append.mp hw with h | h
    · simp only [List.mem_cons, List.not_mem_nil, or_false] at h
      rcases h with rfl | rfl | rfl
      · exact mm_good hl1
      · exact mm_good hl2
      · exact mm_good hmt.2.2.2.2.2
    · rcases List.mem_cons.mp h with rfl | h
      · exact mm_good hcd
      · exact mm_good h
  · rw [List.length_map, List.length_reverse, hlen]
  · show st.map (mm_v ad) = _
    conv => lhs; rw [← List.take_append_drop na st]
    rw [List.map_append, ← List.map_reverse, List.reverse_reverse]
end MMK
