/-! THE SMALL MACHINE, 10 (b): a callee that throws; a call that is caught; a static call of a method with handlers. -/
section MMY
theorem mm_end_x {mi : Nat} {q : mm_P} {S : mm_T} {x : Nat} {r : mm_S × mm_M × Nat × Nat} (h : mm_end mi q S = some (.inr x, r)) : (∃ ix, q.1 = .new ix) ∧ 100 ≤ q.2.1 ∧ mm_cats S.2.2.1 ≤ 8 ∧ x = q.2.1 - 100 ∧ r = (S.2.2.2.1, S.2.2.2.2.1, S.2.2.2.2.2.1 + 1, S.2.2.2.2.2.2 + 6) := by
  unfold mm_end at h
  split at h
  · split at h
    · cases h
    · cases h
  · split at h
    · split at h
      · cases h
      · split at h
        · cases h
        · cases h
      · cases h
    · cases h
  · rename_i ix hi
    obtain ⟨h1, h2⟩ := mm_bif1 h
    cases h2
    obtain ⟨h3, h4⟩ := mm_andb h1
    exact ⟨⟨ix, hi⟩, Nat.le_of_ble_eq_true h3, Nat.le_of_ble_eq_true h4, rfl, rfl⟩
  · cases h
/-- a callee that throws: its contract -/
def mm_MetT (l : Launch) (y : Nat) (rm : Room) (Pc : Array Value → State → Prop) (Qt : State → Outcome → State → Prop) : Prop := MetFree l (t_MN y) (headSpec (Cond.code (t_MN y) (t_BC y) (t_ML y) (t_RT y) :: t_WS) rm) Pc (fun _ _ _ _ _ => True) (fun _ st o t => Qt st o t)
theorem mm_metT {l : Launch} (hl : l.stackTraces = false) {E : mm_V} {f : Nat} (ih : mm_SIM l E f) {y : Nat} {as : List Value} {sh sh' : mm_S} {me me' : mm_M} {x dc ds : Nat} (hrun : mm_run E f y (0, mm_entry y as, [], sh, me, 0, 0) = some (.inr x, sh', me', dc, ds)) (hmt : mm_mt y) (hhd : t_HD y = []) (hha : mm_args y as = true) (hok : ∀ v ∈ as, mm_okv sh.length v) (hm : mm_okm sh me)
    (D : va_G) (ad : Nat → Nat) (ac : Nat → ClassId) (ax : Nat → Nat) (sz : Nat) (hax : ∀ k, 1000 ≤ k → ad k = ax k) :
    mm_MetT l y { frames := t_FR y, cells := dc, slots := ds, locals := t_LO y } (mm_Pre D ad ac sh me E ax as sz) (mm_Thr D ad ac sh.length ax (va_A (mm_w ad ac sh me) sz) x sh' me' dc ds) := by
  refine MetFree.of_bodyS (code := t_BC y) (maxLocals := t_ML y) (ret := t_RT y) hmt.1 ?_ ?_
  · intro args s m h hn
    obtain ⟨meth, c, h1, h2, h3, h4, h5, h6, -, -⟩ := Cond.code_spec hn (atoms_spec (ws := Cond.code (t_MN y) (t_BC y) (t_ML y) (t_RT y) :: t_WS) h _ List.mem_cons_self)
    exact ⟨meth, c, h1, h2, h3, h4, h5, h6⟩
  · intro p e s m args below meth c s₁ B hml hv _
    obtain ⟨rfl, hsz, hP, hD0, hKn, hka, hEE⟩ := hv
    have hts := atoms_spec (ws := Cond.code (t_MN y) (t_BC y) (t_ML y) (t_RT y) :: t_WS) B.pre
    have hown : s.vm.findClass (t_MN y).cls = some m.cls := findClass_of_methodNamed B.named
    subst hsz
    have hX : mm_X p s m (as.map (mm_v ad)).toArray meth c y D (va_A (mm_w ad ac sh me) s.heap.size) E ax :=
      ⟨B.exec, B.bytes, hml, by rw [hmt.2.2.2.2.1]; exact hown, fun w hw => hts w (List.mem_cons_of_mem _ hw), fun hin => by
        rw [(name_of_methodNamed B.named B.method).1]
        exact eq_of_beq hin, hKn, fun q h => Or.inr h, hEE, B.notSynchronized, mm_noSt hP⟩
    have hI : mm_I D ad ac sh me (va_A (mm_w ad ac sh me) s.heap.size) ax s s.heap [] := ⟨hP, hD0.self, va_S.rf, hka, hm, hax⟩
    have hent := mm_entry_has (ad := ad) hha
    have htb : c.exceptionTable.toList = tableOf (t_HD y) := by
      have h1 := B.noHandlers (hts _ List.mem_cons_self)
      rw [hhd, Array.isEmpty_iff.mp h1]
      rfl
    have K : W p l e { frames := t_FR y, cells := dc, slots := ds, locals := t_LO y } s m (as.map (mm_v ad)).toArray below meth c s.heap [] 0 0 (fun t => ∃ o, t.status = .running ∧ Ended t below o ∧ mm_Thr D ad ac sh.length ax (va_A (mm_w ad ac sh me) s.heap.size) x sh' me' dc ds s o t) (entryFrame m (as.map (mm_v ad)).toArray (t_ML y)) := by
      rw [lg_entry_eq]
      refine ih y (0, mm_entry y as, [], sh, me, 0, 0) _ hrun p e _ s m _ below meth c D _ ax ad ac s.heap [] _ _ hX (Nat.le_refl _) (Nat.le_refl _) (Nat.le_refl _) (Nat.le_refl _) htb hI hent.1 hent.2 (fun v h => by cases h) (mm_entry_ok hok) ?_
      intro S' q H' locs' ad' ac' ls' hq he g1 g2 I' hls' g3 _
      obtain ⟨⟨ix, hi⟩, h100, hcat, e1, e2⟩ := mm_end_x he
      cases e2
      subst e1
      refine mm_throw_W hl hX I' htb hls' hq hi h100 hcat (Nat.le_refl _) (Nat.le_refl _) (Nat.le_refl _) (Nat.le_refl _) ?_
      intro t o h1 h2 h3
      obtain ⟨q9, ce, L, k1, k2, k3, k4, k5, k6, k7, ⟨ad2, ac2, f1, f2, f3, f4, f5, f6, f7, f8, f9, f10⟩, k8⟩ := h3
      have w1 : ∀ k, mm_okr sh.length k → mm_okr S'.2.2.2.1.length k := fun k hk => hk.imp (fun h => Nat.lt_of_lt_of_le h g3) id
      exact ⟨o, h1, h2, q9, ce, L, k1, k2, k3, k4, k5, k6, k7, ⟨ad2, ac2, fun k hk => (f1 k (w1 k hk)).trans (g1 k hk), fun k hk => (f2 k (Nat.lt_of_lt_of_le hk g3)).trans (g2 k hk), f3, f4, f5, f6, f7, f8, Nat.le_trans g3 f9, f10⟩, k8⟩
    have hh0 : s₁.heap = s.heap := by rw [B.state]; rfl
    obtain ⟨t, a1, o, b1, b2, b3⟩ := K s₁ hh0 (Stand.of_body B)
    exact ⟨t, o, a1, b1, b2, b3⟩
variable {p : Program} {l : Launch} {e : Env} {R : Room} {s : State} {m : MethodId} {args : Array Value} {below : List Frame} {meth : Method} {c : Code} {H : Heap} {locs : List Loc} {cells slots : Nat} {Q : State → Prop}
variable {pc mi : Nat} {ls : Array Slot} {D : va_G} {A : Nat → Prop} {E : mm_V} {ax ad : Nat → Nat} {ac : Nat → ClassId} {sh : mm_S} {me : mm_M}
/-- one step: the exception is caught in the method's own frame -/
theorem mm_step_catch {S : State} {a : Addr} {f : JFrame} {r : List Frame} {pc : Nat} {v : Vm} (hfind : ∀ (Q : Handler → Pre) (E : CtlPost) (d : Bool) (acts : List Action), wp (findHandler f a) Q E e d acts S ↔ Q (.found pc) d acts (S.setVm v)) :
    (stepThrowing e S a (.java f :: r)).Is ((S.setVm v).setFrames (.java { f with pc := pc, stack := [.ref a] } :: r)) [] := by
  simp only [stepThrowing, searchFrame, vmDo]
  generalize hr : Sem.go _ e false [] S = res
  obtain ⟨as, rfl, ha⟩ := Sem.eq_ok_of hr (a := Handler.found pc) (s' := S.setVm v) (acts' := []) (by simp [hfind _ _ _ _])
  exact ⟨rfl, ha⟩
/-- caught: the walk goes on at the handler -/
theorem mm_caught {T : State} (Y : Stand p l e R s m args below meth c T locs cells slots) {g : JFrame} (hg : g.method = m) {a : Addr} {hp : Nat} {v : Vm} (hs : mm_seek e ((T.setTop g).pushFrame (.throwing a)) g a c.exceptionTable.toList hp v) (hW : s.WarmedH v) :
    Stand p l e R s m args below meth c (T.setVm v) locs cells slots ∧ ∀ tg, Steps p.tables e below ((T.setVm v).setTop { g with pc := hp, stack := [.ref a] }) tg → Steps p.tables e below ((T.setTop g).pushFrame (.throwing a)) tg := by
  subst hg
  refine ⟨Y.noted hW, fun tg hrest => ?_⟩
  obtain ⟨hgo, hw⟩ := Y.here.throwing a
  refine Steps.head hgo hw ?_
  have hfind : ∀ (Q : Handler → Pre) (E : CtlPost) (d : Bool) (acts : List Action), wp (findHandler g a) Q E e d acts ((T.setTop g).pushFrame (.throwing a)) ↔ Q (.found hp) d acts (((T.setTop g).pushFrame (.throwing a)).setVm v) := by
    intro Q E d acts
    rw [W.findHandler_eq (s := (T.setTop g).pushFrame (.throwing a)) (f := g) (a := a) (show ((T.setTop g).pushFrame (.throwing a)).vm.method? g.method = some meth from by rw [Stand.throwing_vm]; exact Y.method') Y.code]
    exact hs Q E d acts
  rw [stepThread_throwing (frames_entered Y.here.top _), (mm_step_catch (r := T.frames.tail) hfind).1]
  obtain ⟨g₀, hr⟩ := Y.frames_eq
  have hr' : (T.setVm v).frames = .java g₀ :: below := hr
  rw [State.setTop_of_frames _ hr'] at hrest
  have e1 : (((T.setTop g).pushFrame (.throwing a)).setVm v).setFrames (.java { g with pc := hp, stack := [.ref a] } :: T.frames.tail) = (T.setVm v).setFrames (.java { g with pc := hp, stack := [.ref a] } :: below) := by
    rw [Y.tail]
    have h1 : ((T.setTop g).pushFrame (.throwing a)) = T.setFrames (.throwing a :: .java g :: below) := by
      unfold State.pushFrame
      rw [State.setTop_of_frames _ hr, State.setFrames_setFrames, State.frames_setFrames _ (State.cur_lt_of_frames hr)]
    rw [h1]
    have h2 : (T.setFrames (.throwing a :: .java g :: below)).setVm v = (T.setVm v).setFrames (.throwing a :: .java g :: below) := rfl
    rw [h2, State.setFrames_setFrames]
  rw [e1]
  exact hrest
end MMY
