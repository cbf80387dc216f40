/-! THE SMALL MACHINE, 10 (c): a call that is caught. -/
section MMZ
theorem t_NW0 : ∀ q ∈ t_NWl, q.2.1 ≠ 0 := by decide +kernel
variable {p : Program} {l : Launch} {e : Env} {R : Room} {s : State} {m : MethodId} {args : Array Value} {below : List Frame} {meth : Method} {c : Code} {H : Heap} {locs : List Loc} {cells slots : Nat} {Q : State → Prop}
variable {pc mi : Nat} {ls : Array Slot} {D : va_G} {A : Nat → Prop} {E : mm_V} {ax ad : Nat → Nat} {ac : Nat → ClassId} {sh : mm_S} {me : mm_M}
/-- the search goes as the small machine's -/
theorem mm_seek_tab (X : mm_X p s m args meth c mi D A E ax) (hpl : e.platform.magicAccessors = ({} : Platform).magicAccessors) {g : JFrame} (hg : g.method = m) {q : Addr} {ce : Cell} (hv : ce.vm = .none) {x : Nat} (hcl : s.vm.findClass (t_EN x) = some ce.cls) {h : Nat} :
    ∀ (rows : List (Nat × Nat × Nat × Nat)) (S : State), s.WarmedH S.vm → S.heap[q]? = some ce → mm_hnd (t_CO mi) rows g.pc x = some h → ∃ v, s.WarmedH v ∧ mm_seek e S g q (tableOf rows) h v := by
  have hobj : ∀ z, ce.vm ≠ .statics z := fun z hz => by rw [hv] at hz; cases hz
  have hk0 : ∃ z, s.vm.classes[ce.cls]? = some z := by
    obtain ⟨k9, h9, -⟩ := Vm.findClass_spec hcl
    exact ⟨k9, h9⟩
  obtain ⟨-, -, -, -, -, -, -, x3, -, x5, x6⟩ := X.2.2.2.2.2.2.2.2.1
  intro rows
  induction rows with
  | nil => intro S _ _ hh; cases hh
  | cons r rows ih =>
    intro S hW hcell hh
    obtain ⟨r1, r2, r3, r4⟩ := r
    obtain ⟨z0, hz0⟩ := hk0
    obtain ⟨z0', hz0', -⟩ := hW.alike.2.2 _ _ hz0
    unfold mm_hnd at hh
    cases hc : (Nat.ble r1 g.pc && Nat.blt g.pc r2) with
    | false =>
      have hh : mm_hnd (t_CO mi) rows g.pc x = some h := by
        dsimp only at hh
        rw [hc] at hh
        exact hh
      obtain ⟨v, hv1, hv2⟩ := ih S hW hcell hh
      refine ⟨v, hv1, fun Q E d acts => ?_⟩
      have hcov : covers (⟨r1, r2, r3, r4⟩ : ExceptionTableEntry) g.pc = false := by
        show (decide (r1 ≤ g.pc) && decide (g.pc < r2)) = false
        cases h1 : decide (r1 ≤ g.pc) with
        | false => rfl
        | true =>
          cases h2 : decide (g.pc < r2) with
          | false => rfl
          | true =>
            have e1 : Nat.ble r1 g.pc = true := Nat.ble_eq.mpr (of_decide_eq_true h1)
            have e2 : Nat.blt g.pc r2 = true := Nat.blt_eq.mpr (of_decide_eq_true h2)
            rw [e1, e2] at hc
            cases hc
      show wp (findHandler.go g q (⟨r1, r2, r3, r4⟩ :: tableOf rows)) Q E e d acts S ↔ _
      rw [W.findHandler_go_skip hcov]
      exact hv2 Q E d acts
    | true =>
      dsimp only at hh
      rw [hc] at hh
      dsimp only [cond] at hh
      obtain ⟨c1, c2⟩ := mm_andb hc
      have hcov : covers (⟨r1, r2, r3, r4⟩ : ExceptionTableEntry) g.pc = true := by
        show (decide (r1 ≤ g.pc) && decide (g.pc < r2)) = true
        rw [decide_eq_true (Nat.le_of_ble_eq_true c1), decide_eq_true (Nat.blt_eq.mp c2)]
        rfl
      split at hh
      · rename_i n hn
        have hin := mm_fin2_in hn
        have h0 : r4 ≠ 0 := t_NW0 _ hin
        have link : ∀ k, n = 100 + k → ∃ kc, s.vm.findClass (t_EN k) = some kc ∧ s.vm.ClassLinks e.platform m.cls r4 kc := by
          intro k hk
          have hw := ((nw_all _ hin).2 (show 100 ≤ n by omega)).1
          have hw : Cond.classLink (t_ON (t_CO mi)) r4 (t_EN (n - 100)) ∈ t_WS := hw
          rw [show n - 100 = k by omega] at hw
          obtain ⟨kc, g1, g2⟩ := Cond.classLink_spec X.2.2.2.1 (X.2.2.2.2.1 _ hw) e.platform hpl
          exact ⟨kc, g1, g2⟩
        cases hb : (Nat.beq n (100 + x) && Nat.blt x 4) with
        | true =>
          rw [hb] at hh
          cases hh
          obtain ⟨b1, b2⟩ := mm_andb hb
          obtain ⟨kc, g1, g2⟩ := link x (Nat.eq_of_beq_eq_true b1)
          obtain ⟨c3, c4, hc3, hc4, hasg⟩ := Cond.castable_spec (va_Nw.use (A := args) rfl (x3 x (Nat.blt_eq.mp b2)))
          cases Option.some.inj (hc3.symm.trans hcl)
          cases Option.some.inj (hc4.symm.trans g1)
          obtain ⟨dk, _, _, kt, hd, _, _, _, _, hkt, _, hopen⟩ := g2.here
          obtain ⟨kt', hkt', -⟩ := hW.alike.2.2 _ _ hkt
          have hl2 := hW.classLinks g2
          rw [← hg] at hl2 g2 hd
          exact ⟨_, hW.noted hd hopen (State.rightAt_cls g2), (mm_seek_row (x := ⟨r1, r2, h, r4⟩) (t := tableOf rows) hcov h0 hl2 hcell hobj ⟨z0', hz0'⟩ ⟨kt', hkt'⟩).1 (by rw [hW.alike.assignable]; exact hasg)⟩
        | false =>
          rw [hb] at hh
          dsimp only [cond] at hh
          cases hb2 : (Nat.beq n 101 && (Nat.beq x 0 || Nat.beq x 3)) with
          | false => rw [hb2] at hh; cases hh
          | true =>
            rw [hb2] at hh
            dsimp only [cond] at hh
            obtain ⟨b1, b2⟩ := mm_andb hb2
            obtain ⟨kc, g1, g2⟩ := link 1 (Nat.eq_of_beq_eq_true b1)
            have hno : s.vm.assignable ce.cls kc = false := by
              have key : va_Nc (t_EN x) (t_EN 1) s → s.vm.assignable ce.cls kc = false := by
                rintro ⟨a1, a2, k1, k2, k3⟩
                cases Option.some.inj (k1.symm.trans hcl)
                cases Option.some.inj (k2.symm.trans g1)
                exact k3
              cases hx0 : Nat.beq x 0 with
              | true => cases Nat.eq_of_beq_eq_true hx0; exact key x5
              | false =>
                rw [hx0, Bool.false_or] at b2
                cases Nat.eq_of_beq_eq_true b2
                exact key x6
            obtain ⟨dk, _, _, kt, hd, _, _, _, _, hkt, _, hopen⟩ := g2.here
            obtain ⟨kt', hkt', -⟩ := hW.alike.2.2 _ _ hkt
            have hl2 := hW.classLinks g2
            rw [← hg] at hl2 g2 hd
            obtain ⟨v, hv1, hv2⟩ := ih (S.setVm (S.vm.noted g.method.cls r4 (.cls kc))) (hW.noted hd hopen (State.rightAt_cls g2)) hcell hh
            exact ⟨v, hv1, (mm_seek_row (x := ⟨r1, r2, r3, r4⟩) (t := tableOf rows) hcov h0 hl2 hcell hobj ⟨z0', hz0'⟩ ⟨kt', hkt'⟩).2 (by rw [hW.alike.assignable]; exact hno) h v hv2⟩
      · cases hh
/-- a virtual call whose callee throws, and which is caught here -/
theorem mm_callT {f : Nat} (hl : l.stackTraces = false) (ih : mm_SIM l E f) (X : mm_X p s m args meth c mi D A E ax) (I : mm_I D ad ac sh me A ax s H locs) (htb : c.exceptionTable.toList = tableOf (t_HD mi)) (hls : ls.size = t_ML mi) {x y na a xx h : Nat} {st r : List Value} {sh' : mm_S} {me' : mm_M} {dc ds : Nat} (hst : ∀ v ∈ st, mm_okv sh.length v)
    (hsp : st.drop na = .ref a :: r) (hcat : mm_cats r ≤ 8) (hrc : mm_rcv sh a y = true) (hha : mm_args y (.ref a :: (st.take na).reverse) = true) (hiv : mm_iv0 (t_CO mi) x y) (hna : t_NA y = na) (hhd : t_HD y = []) (hd : decode (t_BC mi) pc = .ok (.invokevirtual x, 3)) (hfr : t_FR y + 1 ≤ R.frames) (hlo : 8 + (t_ML y + 11) + t_LO y ≤ R.locals) (hc1 : cells + dc ≤ R.cells) (hs1 : slots + ds ≤ R.slots)
    (hrun : mm_run E f y (0, mm_entry y (.ref a :: (st.take na).reverse), [], sh, me, 0, 0) = some (.inr xx, sh', me', dc, ds)) (hh : mm_hand mi pc xx = some h)
    (kk : ∀ (H1 : Heap) (locs1 : List Loc) (ad' : Nat → Nat) (ac' : Nat → ClassId) (q : Nat), (∀ k, mm_okr sh.length k → ad' k = ad k) → (∀ k, k < sh.length → ac' k = ac k) → mm_I D ad' ac' sh' me' A ax s H1 locs1 → sh.length ≤ sh'.length → W p l e R s m args below meth c H1 locs1 (cells + dc) (slots + ds) Q (F0 m h ls [.ref q])) :
    W p l e R s m args below meth c H locs cells slots Q (F0 m pc ls (st.map (mm_v ad))) := by
  have hsp2 := mm_drop_split hsp
  have hmem : ∀ w ∈ Value.ref a :: (st.take na).reverse, mm_okv sh.length w := by
    intro w hw
    rcases List.mem_cons.mp hw with rfl | hw
    · exact hst _ (by rw [hsp2]; simp)
    · exact hst _ (by rw [hsp2]; exact List.mem_append_left _ (List.mem_reverse.mp hw))
  obtain ⟨hmt, hcd, hl1, hl2, hl3⟩ := hiv
  have hM := mm_metT hl ih hrun hmt hhd hha hmem I.2.2.2.2.1 D ad ac ax H.size I.2.2.2.2.2
  have hlen : (st.take na).length = na := by
    rw [List.length_take]
    have := congrArg List.length hsp
    simp at this
    omega
  have hy : (t_MN y).cls ≠ "java/lang/invoke/MethodHandle" ∧ (t_MN y).cls ≠ "java/lang/invoke/VarHandle" := ⟨hmt.2.1, hmt.2.2.1⟩
  have hts := X.2.2.2.2.1
  intro T hT Y
  obtain ⟨cellB, hcB, hoB, hclB⟩ := mm_rcv_of X I hmt hrc
  obtain ⟨mk, methM, hnamed, hmethM, hstM, habM⟩ := Cond.instanceMethod_spec (hts _ hl2)
  obtain ⟨methM', cM, hmethM', hcM, -, hlM, -, -, -, hsigM⟩ := Cond.code_spec hnamed (hts _ hcd)
  cases hmethM.symm.trans hmethM'
  obtain ⟨c2, r2, m2, q1, q2, q3, q4, kP, hkP, hkPi⟩ := Cond.selects_spec (hts _ hl3)
  cases hclB.symm.trans q1
  cases (State.methodFound?_of_named hnamed hy).symm.trans q2
  cases hnamed.symm.trans q3
  have hselP : selectMethod e.platform s.vm cellB.cls mk = .method mk := by rw [Launch.admits_selectMethod Y.admits]; exact q4
  have hstack : (F0 m pc ls (st.map (mm_v ad))).stack = (((st.take na).reverse).map (mm_v ad)).reverse ++ .ref (ad a) :: r.map (mm_v ad) := by
    show st.map (mm_v ad) = _
    conv => lhs; rw [hsp2]
    rw [List.map_append, List.map_cons, ← List.map_reverse, List.reverse_reverse]
    rfl
  have hpar : (((st.take na).reverse).map (mm_v ad)).length = methM.sig.parameters.length := by
    have h1 := hmt.2.2.2.1
    rw [hsigM] at h1
    have h1 := Option.some.inj h1
    rw [List.length_map, List.length_reverse, hlen, ← hna]
    exact h1.symm
  have hdc : decode c.code pc = .ok (.invokevirtual x, 3) := by rw [X.2.1]; exact hd
  obtain ⟨vm₁, Y₁, hstep₁⟩ := Y.invokevirtual X.1 X.2.2.2.1 (hts _ hl1) hnamed hmethM hstM hkP hkPi hy (a := ad a) (cell := cellB) (by rw [hT]; exact hcB)
    (fun z h => by rw [h] at hoB; cases hoB) hselP hmethM habM hkP hkPi (g := F0 m pc ls (st.map (mm_v ad))) rfl (argsL := ((st.take na).reverse).map (mm_v ad)) (rest := r.map (mm_v ad)) hpar hstack hdc
  have hsz : (F0 m pc ls (r.map (mm_v ad))).locals.size = c.maxLocals := by rw [X.2.2.1]; exact hls
  have hn₁ : (T.setVm vm₁).methodNamed? (t_MN y) = some mk := Y₁.named hnamed
  have hgood : ∀ w ∈ (Cond.code (t_MN y) (t_BC y) (t_ML y) (t_RT y) :: t_WS), w.before (Value.ref (ad a) :: ((st.take na).reverse).map (mm_v ad)).toArray (T.setVm vm₁) = true := by
    intro w hw
    rcases List.mem_cons.mp hw with rfl | hw
    · exact word_at Y₁.warmed (mm_good hcd).2 (hts _ hcd)
    · exact word_at Y₁.warmed (mm_good hw).2 (hts _ hw)
  obtain ⟨methY, cY, hmY, hcY, -, hlY, -, -, -, -⟩ := Cond.code_spec hn₁ (hgood _ List.mem_cons_self)
  obtain ⟨kY, hkY, -⟩ := className_of_methodNamed hn₁
  have hini : (Cond.initialized (t_MN y).cls).before (Value.ref (ad a) :: ((st.take na).reverse).map (mm_v ad)).toArray (T.setVm vm₁) = true := hgood _ (List.mem_cons_of_mem _ hmt.2.2.2.2.2)
  have hinitY : kY.init = .initialized := Cond.initialized_spec (findClass_of_methodNamed hn₁) hkY hini
  have hAt : At (T.setVm vm₁) m c below := Y₁.here
  have happ : (headSpec (Cond.code (t_MN y) (t_BC y) (t_ML y) (t_RT y) :: t_WS) { frames := t_FR y, cells := dc, slots := ds, locals := t_LO y }).appliesLoose (t_MN y) e.platform ((T.setVm vm₁).calling (F0 m pc ls (r.map (mm_v ad))) mk (Value.ref (ad a) :: ((st.take na).reverse).map (mm_v ad)).toArray) = true :=
    Spec.appliesLoose_calling (g := F0 m pc ls (r.map (mm_v ad))) hAt hdc hn₁ hkY hinitY
      (Y₁.room_calling (g := F0 m pc ls (r.map (mm_v ad))) (R' := { frames := t_FR y, cells := dc, slots := ds, locals := t_LO y }) hsz hmY hcY hfr (by
        rw [hlY]
        show 2 * 0 + ((r.map (mm_v ad)).map fun v => v.category).sum + (t_ML y + 11) + t_LO y ≤ R.locals
        rw [mm_cat_map]
        omega) hc1 hs1) (atoms_intro hgood)
  have hPc : mm_Pre D ad ac sh me E ax (.ref a :: (st.take na).reverse) H.size (Value.ref (ad a) :: ((st.take na).reverse).map (mm_v ad)).toArray ((T.setVm vm₁).calling (F0 m pc ls (r.map (mm_v ad))) mk (Value.ref (ad a) :: ((st.take na).reverse).map (mm_v ad)).toArray) :=
    mm_Pre_blind _ _ _ _ (mm_Pre_at X I (as := .ref a :: (st.take na).reverse) (T.setVm vm₁) hT Y₁.warmed)
  have hfrm : ((T.setVm vm₁).setTop (F0 m pc ls (r.map (mm_v ad)))).frames = ([.java (F0 m pc ls (r.map (mm_v ad)))] : List Frame) ++ below := by
    rw [State.frames_setTop' _ hAt.top, Y₁.tail]
    rfl
  obtain ⟨o, s₂, hsteps, -, hend, hq⟩ := Steps.callFree hM p Y.admits Y.cas Y.clock (acts := []) hfrm happ hPc trivial
  obtain ⟨q, ce, L, rfl, hce, hcv, hcl, hW₂, hsm, hL, ⟨ad', ac', g1, g2, g3, g4, g5, g6, g7, g8, g9, g10⟩, hF⟩ := hq
  rw [hfrm] at hend
  obtain ⟨T', Y', -, -, ht⟩ := Y₁.outOfThrown (g := F0 m pc ls (r.map (mm_v ad))) rfl hend hW₂ hsm
  have hheap : T'.heap = s₂.heap := by rw [ht, Stand.throwing_heap]
  have hvm2 : s₂.vm = T'.vm := by rw [ht, Stand.throwing_vm]
  have hfA : ∀ q, va_A (mm_w ad ac sh me) H.size q → A q := by
    intro q hq
    rcases hq with ⟨k, e, hk⟩ | hq
    · exact I.2.1.2 k _ hk
    · exact X.2.2.2.2.2.2.2.1 q (Nat.le_trans I.2.2.1.1 hq)
  obtain ⟨hz, hk⟩ := hF
  have hz : H.size ≤ s₂.heap.size := by rw [← hT]; exact hz
  have hk : ∀ q : Nat, q < H.size → ¬ va_A (mm_w ad ac sh me) H.size q → s₂.heap[q]? = H[q]? := by
    intro q h1 h2
    have h9 := hk q (show q < T.heap.size by rw [hT]; exact h1) h2
    rw [h9]
    show T.heap[q]? = H[q]?
    rw [hT]
  have hS1 : va_S A s.heap T'.heap (locs ++ L) := by
    rw [hheap]
    refine ⟨Nat.le_trans I.2.2.1.1 hz, fun q h1 h2 => ?_, fun q hq => ?_⟩
    · rw [hk q (Nat.lt_of_lt_of_le h1 I.2.2.1.1) (fun z => h2 (hfA q z))]
      exact I.2.2.1.2.1 q h1 h2
    · rcases List.mem_append.mp hq with h | h
      · exact I.2.2.1.2.2 q h
      · exact hfA _ (hL q h)
  have hal : s.vm.Alike s₂.vm := by rw [hvm2]; exact Y'.warmed.alike
  have I' : mm_I D ad' ac' sh' me' A ax s T'.heap (locs ++ L) := ⟨by rw [hheap]; exact g4, g5.weaken (fun _ _ _ h => hfA _ h), hS1, mm_ka.moved hal.symm g6, g7, g10⟩
  have hcl2 : s.vm.findClass (t_EN xx) = some ce.cls := by
    have h9 : (T.setVm vm₁).vm.findClass (t_EN xx) = some ce.cls := hcl
    rw [Y₁.warmed.alike.findClass] at h9
    exact h9
  have hpl : e.platform.magicAccessors = ({} : Platform).magicAccessors := by rw [Y.admits.platform]
  obtain ⟨v, hv1, hv2⟩ := mm_seek_tab X hpl (g := F0 m pc ls (r.map (mm_v ad))) rfl hcv hcl2 (t_HD mi) ((T'.setTop (F0 m pc ls (r.map (mm_v ad)))).pushFrame (.throwing q)) (by rw [Stand.throwing_vm]; exact Y'.warmed) (by rw [Stand.throwing_heap, hheap]; exact hce) hh
  rw [← htb] at hv2
  obtain ⟨Y3, st3⟩ := mm_caught Y' (g := F0 m pc ls (r.map (mm_v ad))) rfl hv2 hv1
  obtain ⟨t4, a4, b4⟩ := kk T'.heap (locs ++ L) ad' ac' q g1 g2 I' g9 (T'.setVm v) rfl Y3
  refine ⟨t4, hstep₁ _ (fun acts => ?_), b4⟩
  rw [doInvoke_state]
  refine hsteps.trans ?_
  rw [ht]
  exact st3 _ a4
end MMZ
