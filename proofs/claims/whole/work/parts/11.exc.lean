/-! THE SMALL MACHINE, 10: throws and catches. -/
section MMX
variable {p : Program} {l : Launch} {e : Env} {R : Room} {s : State} {m : MethodId} {args : Array Value} {below : List Frame} {meth : Method} {c : Code} {T : State} {locs : List Loc} {cells slots : Nat}
/-- the walk begun anew where it stands: what was written so far is what there is -/
theorem mm_rebase (X : Stand p l e R s m args below meth c T locs cells slots) {R' : Room} (hf : R'.frames ≤ R.frames) (hl : R'.locals ≤ R.locals) (hc : cells + R'.cells ≤ R.cells) (hs : slots + R'.slots ≤ R.slots) :
    Stand p l e R' ((T.setVm s.vm).setFrames (.invoking m args :: below)) m args below meth c T [] 0 0 := by
  obtain ⟨g₀, hfr⟩ := X.frames_eq
  obtain ⟨th, hth, -⟩ := State.frames_cons hfr
  have hcur : T.cur < T.threads.size := (Array.getElem?_eq_some_iff.mp hth).1
  have hcur1 : (T.setVm s.vm).cur < (T.setVm s.vm).threads.size := hcur
  have hF : ((T.setVm s.vm).setFrames (.invoking m args :: below)).frames = .invoking m args :: below := State.frames_setFrames _ hcur1
  have hlu : ((T.setVm s.vm).setFrames (.invoking m args :: below)).localsInUse = s.localsInUse := by
    rw [State.localsInUse_invoking hF (show ((T.setVm s.vm).setFrames (.invoking m args :: below)).vm.method? m = some meth from X.method) X.code, State.localsInUse_invoking X.frames X.method X.code]
  have hlim : e.platform.stackLimits ((T.setVm s.vm).setFrames (.invoking m args :: below)).me = e.platform.stackLimits s.me := by
    rw [State.stackLimits_setFrames]
    exact X.limits
  have hby : ((T.setVm s.vm).setFrames (.invoking m args :: below)).me.stackBytes = s.me.stackBytes := by
    rw [State.stackBytes_setFrames]
    exact X.bytes
  have hh : T.heap.size ≤ s.heap.size + cells := X.heapSize
  have hu : T.slotsUsed ≤ s.slotsUsed + slots := X.used
  have hroom : ((T.setVm s.vm).setFrames (.invoking m args :: below)).hasRoom e.platform R' = true := by
    have h := X.room
    unfold State.hasRoom at h ⊢
    rw [hlu, hF, hlim, hby]
    rw [X.frames] at h
    simp only [Bool.and_eq_true, decide_eq_true_eq] at h ⊢
    obtain ⟨⟨⟨⟨h1, h2, h3, h4, h5, h6⟩, h7⟩, h8⟩, h9⟩ := h
    refine ⟨⟨⟨⟨by omega, by omega, by omega, by omega, by omega, h6⟩, ?_⟩, ?_⟩, X.book⟩
    · show T.heap.size + R'.cells ≤ _
      omega
    · show T.slotsUsed + R'.slots ≤ _
      omega
  obtain ⟨th1, hth1⟩ : ∃ th1, ((T.setVm s.vm).setFrames (.invoking m args :: below)).threads[((T.setVm s.vm).setFrames (.invoking m args :: below)).cur]? = some th1 := by
    obtain ⟨t1, h1, -⟩ := State.frames_cons hF
    exact ⟨t1, h1⟩
  have hcur2 : ((T.setVm s.vm).setFrames (.invoking m args :: below)).cur < ((T.setVm s.vm).setFrames (.invoking m args :: below)).threads.size := (Array.getElem?_eq_some_iff.mp hth1).1
  refine ⟨X.admits, X.cas, X.clock, hF, hroom, X.hears, X.method, X.code, X.here, X.tail, X.warmed, ?_, ?_, ?_⟩
  · rw [hlim]; exact X.limits
  · rw [hby]; exact X.bytes
  · have h1 := (State.sameButNew.refl ((T.setVm s.vm).setFrames (.invoking m args :: below)) hth1).setFrames T.frames hcur2
    rw [State.setFrames_setFrames] at h1
    have e1 : (T.setVm s.vm).setFrames T.frames = T.setVm s.vm := State.setFrames_self (s := T.setVm s.vm) hth
    rw [e1] at h1
    exact h1
/-- the search for a handler finds pc and leaves the tables v -/
def mm_seek (e : Env) (S : State) (f : JFrame) (a : Addr) (t : List ExceptionTableEntry) (pc : Nat) (v : Vm) : Prop := ∀ (Q : Handler → Pre) (E : CtlPost) (d : Bool) (acts : List Action), wp (findHandler.go f a t) Q E e d acts S ↔ Q (.found pc) d acts (S.setVm v)
theorem mm_seek_row {S : State} {f : JFrame} {a : Addr} {x : ExceptionTableEntry} {t : List ExceptionTableEntry} {k : ClassId} {cell : Cell} (hx : covers x f.pc = true) (h0 : x.catchType ≠ 0) (hl : S.vm.ClassLinks e.platform f.method.cls x.catchType k) (hcell : S.heap[a]? = some cell) (hobj : ∀ z, cell.vm ≠ .statics z)
    (hk1 : ∃ z, S.vm.classes[cell.cls]? = some z) (hk2 : ∃ z, S.vm.classes[k]? = some z) :
    (S.vm.assignable cell.cls k = true → mm_seek e S f a (x :: t) x.handlerPc (S.vm.noted f.method.cls x.catchType (.cls k))) ∧
    (S.vm.assignable cell.cls k = false → ∀ pc v, mm_seek e (S.setVm (S.vm.noted f.method.cls x.catchType (.cls k))) f a t pc v → mm_seek e S f a (x :: t) pc v) := by
  have hal : S.vm.Alike (S.vm.noted f.method.cls x.catchType (.cls k)) := (Vm.Alike.refl S.vm).noted _ _ _
  obtain ⟨z1, hz1⟩ := hk1
  obtain ⟨z2, hz2⟩ := hk2
  obtain ⟨y1, hy1, -⟩ := hal.2.2 _ _ hz1
  obtain ⟨y2, hy2, -⟩ := hal.2.2 _ _ hz2
  obtain ⟨g1, g2⟩ := (resolveClass_links e.toSetting hl).op (op := VmOp.resolveClass f.method.cls x.catchType) rfl
  have hx' := hx
  simp only [covers] at hx'
  constructor
  · intro hfit Q E d acts
    have hfit' : (S.vm.noted f.method.cls x.catchType (.cls k)).assignable cell.cls k = true := by rw [hal.assignable]; exact hfit
    simp [findHandler.go, hx', h0, g1, g2, hcell, hobj, hy1, hy2, hfit', VmOp.dirties, VmOp.acts]
  · intro hfit pc v hs Q E d acts
    have hfit' : (S.vm.noted f.method.cls x.catchType (.cls k)).assignable cell.cls k = false := by rw [hal.assignable]; exact hfit
    have h2 := hs Q E d acts
    rw [State.setVm_setVm] at h2
    rw [← h2]
    simp [findHandler.go, hx', h0, g1, g2, hcell, hobj, hy1, hy2, hfit', VmOp.dirties, VmOp.acts]
/-- what stands behind a throw in the tables: dup, a text, the constructor of that exception, athrow; no handlers -/
def mm_th2 (mi : Nat) (q : Nat × mm_P) : Bool := match q.2.1 with
  | .new _ => Nat.blt q.2.2.1 100 || (match t_OP mi (q.1 + 3), t_OP mi (q.1 + 4), t_OP mi (q.1 + 6), t_OP mi (q.1 + 9) with
    | some a, some b, some c, some d => (match a.1, b.1, c.1, d.1 with
      | .dup, .ldc is, .invokespecial ic, .athrow => (mm_fin2 t_STl (t_CO mi) is).isSome && (decide (mm_fin2 t_EXl (t_CO mi) ic = some (q.2.2.1 - 100)) && ((t_HD mi).isEmpty && Nat.blt (q.2.2.1 - 100) 4))
      | _, _, _, _ => false)
    | _, _, _, _ => false)
  | _ => true
set_option maxRecDepth 100000 in
theorem th2_all : ∀ mi, mi < 164 → (t_LSl.getD mi []).all (mm_th2 mi) = true := by decide +kernel
theorem mm_throw_of {mi pc : Nat} {q : mm_P} {ix : Nat} (hq : t_OP mi pc = some q) (hi : q.1 = .new ix) (h100 : 100 ≤ q.2.1) : ∃ is ic n, decode (t_BC mi) (pc + 3) = .ok (.dup, 1) ∧ decode (t_BC mi) (pc + 4) = .ok (.ldc is, 2) ∧ decode (t_BC mi) (pc + 6) = .ok (.invokespecial ic, 3) ∧ decode (t_BC mi) (pc + 9) = .ok (.athrow, 1) ∧ mm_fin2 t_STl (t_CO mi) is = some n ∧ mm_fin2 t_EXl (t_CO mi) ic = some (q.2.1 - 100) ∧ t_HD mi = [] ∧ q.2.1 - 100 < 4 := by
  obtain ⟨hm, hin⟩ := t_OPin hq
  have h1 := List.all_eq_true.mp (th2_all mi hm) _ hin
  have hdec : ∀ {k : Nat} {z : mm_P} {i : Instr}, t_OP mi k = some z → z.1 = i → mm_sw i = false → decode (t_BC mi) k = .ok (i, mm_len i) := by
    intro k z i hz hzi hsw
    obtain ⟨⟨n, g1, g2⟩, -⟩ := t_OPok hz
    rw [hzi] at g1 g2
    rcases g2 with g2 | g2
    · rw [hsw] at g2; cases g2
    · rw [g1, g2]
  unfold mm_th2 at h1
  simp only [hi] at h1
  have hb : Nat.blt q.2.1 100 = false := by
    cases hb : Nat.blt q.2.1 100 with
    | false => rfl
    | true => have := Nat.blt_eq.mp hb; omega
  rw [hb, Bool.false_or] at h1
  split at h1
  · rename_i a b c d ha hb' hc hd
    split at h1
    · rename_i is ic e1 e2 e3 e4
      obtain ⟨g1, g2⟩ := mm_andb h1
      obtain ⟨g3, g4⟩ := mm_andb g2
      obtain ⟨g5, g6⟩ := mm_andb g4
      obtain ⟨n, hn⟩ := Option.isSome_iff_exists.mp g1
      exact ⟨is, ic, n, hdec ha e1 rfl, hdec hb' e2 rfl, hdec hc e3 rfl, hdec hd e4 rfl, hn, of_decide_eq_true g3, List.isEmpty_iff.mp g5, Nat.blt_eq.mp g6⟩
    · cases h1
  · cases h1
/-- cells that nothing was written to are as they were -/
theorem mm_unch {s U : State} {k n : Nat} (h : s.sameButNew U [] k n) : s.heap.size ≤ U.heap.size ∧ ∀ q : Nat, q < s.heap.size → U.heap[q]? = s.heap[q]? := by
  obtain ⟨-, h2, -, -, -, h6⟩ := h
  refine ⟨h2, fun q hq => ?_⟩
  obtain ⟨c9, e1, e2, e3, e4⟩ := h6 q _ (Array.getElem?_eq_getElem hq)
  have hs : c9.slots = (s.heap[q]).slots := Array.ext_getElem? fun i => e4 i (by simp)
  rw [hs] at e2
  rw [e1, e2, Array.getElem?_eq_getElem hq]
/-- what a throwing method leaves behind -/
def mm_Thr (D : va_G) (ad : Nat → Nat) (ac : Nat → ClassId) (n : Nat) (ax : Nat → Nat) (A : Nat → Prop) (x : Nat) (sh' : mm_S) (me' : mm_M) (mc ms : Nat) (s : State) (o : Outcome) (t : State) : Prop := ∃ (q : Addr) (ce : Cell) (L : List Loc), o = .threw q ∧ t.heap[q]? = some ce ∧ ce.vm = .none ∧ s.vm.findClass (t_EN x) = some ce.cls ∧ s.WarmedH t.vm ∧ s.sameButNew ({ t with vm := s.vm } : State) L mc ms ∧ (∀ z ∈ L, A z.base) ∧ mm_Res D ad ac n ax A none sh' me' none t ∧ va_F A s t
variable {H : Heap} {pc mi : Nat} {ls : Array Slot} {D : va_G} {A : Nat → Prop} {E : mm_V} {ax ad : Nat → Nat} {ac : Nat → ClassId} {sh : mm_S} {me : mm_M}
set_option maxHeartbeats 4000000 in
theorem mm_throw_W (hl : l.stackTraces = false) (X : mm_X p s m args meth c mi D A E ax) (I : mm_I D ad ac sh me A ax s H locs) (htb : c.exceptionTable.toList = tableOf (t_HD mi)) (hls : ls.size = t_ML mi) {q : mm_P} {ix : Nat} {st : List Value} (hq : t_OP mi pc = some q) (hi : q.1 = .new ix) (h100 : 100 ≤ q.2.1) (hcat : mm_cats st ≤ 8) (hfr : t_FR mi ≤ R.frames) (hlo : t_LO mi ≤ R.locals) (hc1 : cells + 1 ≤ R.cells) (hs1 : slots + 6 ≤ R.slots) {Q : State → Prop}
    (hQ : ∀ (t : State) (o : Outcome), t.status = .running → Ended t below o → mm_Thr D ad ac sh.length ax A (q.2.1 - 100) sh me (cells + 1) (slots + 6) s o t → Q t) : W p l e R s m args below meth c H locs cells slots Q (F0 m pc ls (st.map (mm_v ad))) := by
  obtain ⟨is, ic, n, d3, d4, d6, d9, hst, hex, hhd, hx4⟩ := mm_throw_of hq hi h100
  obtain ⟨⟨n0, d0, hn0⟩, -, hv, hrm⟩ := t_OPok hq
  rw [hi] at d0 hn0
  have hn0 : n0 = 3 := hn0.elim (fun h => by cases h) id
  subst hn0
  obtain ⟨i0, a0, b0, e0, k0, v0⟩ := q
  have hi : i0 = .new ix := hi
  subst hi
  have hnw : mm_fin2 t_NWl (t_CO mi) ix = some a0 := of_decide_eq_true hv
  obtain ⟨w1, w2, w3⟩ := (nw_all _ (mm_fin2_in hnw)).2 h100
  have hrm : (Nat.blt a0 100 || (Nat.ble 6 (t_FR mi) && Nat.ble 90 (t_LO mi))) = true := hrm
  have hb : Nat.blt a0 100 = false := by
    cases hb : Nat.blt a0 100 with
    | false => rfl
    | true => have := Nat.blt_eq.mp hb; have h100 : 100 ≤ a0 := h100; omega
  rw [hb, Bool.false_or] at hrm
  obtain ⟨r1, r2⟩ := mm_andb hrm
  have r1 := Nat.le_of_ble_eq_true r1
  have r2 := Nat.le_of_ble_eq_true r2
  intro T hT Y
  have Y' := mm_rebase Y (R' := { frames := R.frames, locals := R.locals, cells := 1, slots := 6 }) (Nat.le_refl _) (Nat.le_refl _) hc1 hs1
  obtain ⟨s', hs'⟩ : ∃ z, z = (T.setVm s.vm).setFrames (.invoking m args :: below) := ⟨_, rfl⟩
  rw [← hs'] at Y'
  have hvm : s'.vm = s.vm := by rw [hs']; rfl
  have hhp : s'.heap = H := by rw [hs']; exact hT
  have hW0 : s.WarmedH s'.vm := by rw [hvm]; exact State.WarmedH.refl s
  have hts : ∀ w ∈ t_WS, w.before args s' = true := fun w hw => word_at hW0 (mm_good hw).2 (X.2.2.2.2.1 w hw)
  have hown : s'.vm.findClass (t_ON (t_CO mi)) = some m.cls := by rw [hvm]; exact X.2.2.2.1
  have hE1 : mm_E E ax A s' s'.heap := by
    rw [hhp]
    exact mm_E.same hvm.symm (mm_E.kept X.2.2.2.2.2.2.2.2.1 I.2.2.1.2.1)
  obtain ⟨-, -, -, hstr, -, x1, x2, x3, x4, -, -⟩ := hE1
  obtain ⟨tx, hR⟩ := hstr _ (mm_fin2_in hst)
  have hat : ∀ w ∈ Bundle.ownAtoms (t_ON (t_CO mi)) ic (t_EN (a0 - 100)) ["java/lang/RuntimeException", "java/lang/Exception"], w.before args s' = true := by
    intro w hw
    rcases oa_all _ (mm_fin2_in hex) w hw with h | (rfl | rfl) | (rfl | rfl) | rfl | ⟨Y9, hY9, rfl⟩
    · exact hts w h
    · exact x1.lays
    · exact x2.lays
    · exact x1.isref
    · exact x2.isref
    · exact va_Nw.use rfl (x3 _ hx4)
    · exact va_Nw.use rfl (x4 Y9 hY9)
  have htr : e.platform.stackTraces = false := (show e.platform.stackTraces = l.stackTraces by rw [Y.admits.platform]).trans hl
  obtain ⟨cC, kC9, hfc, -⟩ := Cond.instantiable_spec (hts _ w3)
  have hfit : Bundle.fit (t_EN (a0 - 100)) = true := by
    have h4 : a0 - 100 < 4 := hx4
    match a0 - 100, h4 with
    | 0, _ => decide +kernel
    | 1, _ => decide +kernel
    | 2, _ => decide +kernel
    | 3, _ => decide +kernel
    | k + 4, h => omega
  have K : W p l e { frames := R.frames, locals := R.locals, cells := 1, slots := 6 } s' m args below meth c s'.heap [] 0 0 Q (F0 m pc ls (st.map (mm_v ad))) := by
    refine W.newcK (C := t_EN (a0 - 100)) (n := 6) X.1 X.2.1 hown (hts _ w1) (hts _ w3) (hts _ w2) (g := F0 m pc ls (st.map (mm_v ad))) rfl d0 (by show 0 + 1 ≤ 1; omega) (by show 0 + 6 ≤ 6; omega) hfc rfl ?_
    intro H' kC hkC e1 z1 o1
    refine lv_dup (va := .ref s'.heap.size) (rest := st.map (mm_v ad)) X.1 X.2.1 d3 rfl ?_
    refine va_ldcS X.1 X.2.1 hown hR d4 ?_
    intro T2 hT2 Y2
    obtain ⟨U, stp, hrun, hend, hWU, hsame, ce, hce, hOC⟩ := Y2.ctorThrowS X.1 htr (own := t_ON (t_CO mi)) (cls := t_EN (a0 - 100)) (names := ["java/lang/RuntimeException", "java/lang/Exception"]) (ic := ic) hown hfit (by decide +kernel) hat (fun x hx => by cases hx) hfc hkC (a := s'.heap.size) (by rw [hT2]; exact e1) (Nat.le_refl _) (msg := .ref (ax (2000 + n))) rfl (g := F0 m (pc + 3 + 1 + 2) ls (.ref (ax (2000 + n)) :: .ref s'.heap.size :: .ref s'.heap.size :: st.map (mm_v ad))) rfl (by rw [X.2.2.1]; exact hls) rfl rfl (rest := st.map (mm_v ad)) rfl (by rw [X.2.1]; exact d6) (by rw [X.2.1]; exact d9) (fun x hx => by rw [htb, hhd] at hx; cases hx) (by show 2 + 3 < R.frames; omega) (by
      show 2 * 0 + (1 + ((st.map (mm_v ad)).map fun v => v.category).sum) + (13 * (2 + 1) + 42) ≤ R.locals
      rw [mm_cat_map]
      omega) X.2.2.2.2.2.2.2.2.2.1
    refine ⟨U, stp, ?_⟩
    obtain ⟨u1, u2⟩ := mm_unch hsame
    have u1 : s'.heap.size ≤ U.heap.size := u1
    have u2 : ∀ q : Nat, q < s'.heap.size → U.heap[q]? = s'.heap[q]? := u2
    rw [hhp] at u1 u2
    have hWs : s.WarmedH U.vm := by
      have h9 : s'.WarmedH U.vm := hWU
      rw [hs'] at h9
      exact h9
    have hsm : s.sameButNew ({ U with vm := s.vm } : State) locs (cells + 1) (slots + 6) := by
      have h9 : (T.setVm s.vm).sameButNew ({ U with vm := s.vm } : State) [] 1 6 := by
        obtain ⟨f1, f2, f3, f4, f5, f6⟩ := hsame
        rw [hvm] at f1
        have f1 : ({ U with vm := s.vm } : State) = { s'.setFrames ({ U with vm := s.vm } : State).frames with heap := U.heap, slotsUsed := U.slotsUsed } := f1
        refine ⟨?_, ?_⟩
        · refine f1.trans ?_
          rw [hs', State.setFrames_setFrames]
        · rw [hs'] at f2 f3 f4 f5 f6
          exact ⟨f2, f3, f4, f5, f6⟩
      have h10 := Y.same.trans h9
      rw [List.append_nil] at h10
      exact h10
    refine hQ U (.threw s'.heap.size) hrun hend ⟨s'.heap.size, ce, locs, rfl, hce, hOC.vm, by rw [← hvm]; exact hOC.cls, hWs, hsm, I.2.2.1.2.2, ⟨ad, ac, fun _ _ => rfl, fun _ _ => rfl, rfl, ?_, I.2.1, mm_ka.moved hWs.alike I.2.2.2.1, I.2.2.2.2.1, (fun x hx => by cases hx), Nat.le_refl _, I.2.2.2.2.2⟩, ?_⟩
    · exact I.1.kept (fun k q hk => u2 q.1 ((I.1 k q hk).lt))
    · exact ⟨Nat.le_trans I.2.2.1.1 u1, fun q h1 h2 => (u2 q (Nat.lt_of_lt_of_le h1 I.2.2.1.1)).trans (I.2.2.1.2.1 q h1 h2)⟩
  obtain ⟨t, a1, b1⟩ := K T (by rw [hhp]; exact hT) Y'
  exact ⟨t, a1, b1⟩
end MMX
