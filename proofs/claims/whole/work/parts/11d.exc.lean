/-! THE SMALL MACHINE, 10 (d): a static call of a method with handlers. -/
section MMW
/-- a callee with handlers that returns: its contract -/
theorem mm_metW {l : Launch} {E : mm_V} {f : Nat} (ih : mm_SIM l E f) {y : Nat} {as : List Value} {sh sh' : mm_S} {me me' : mm_M} {v : Option Value} {dc ds : Nat} (hrun : mm_run E f y (0, mm_entry y as, [], sh, me, 0, 0) = some (.inl v, sh', me', dc, ds)) (hmt : mm_mt y) (hha : mm_args y as = true) (hok : ∀ v ∈ as, mm_okv sh.length v) (hm : mm_okm sh me)
    (D : va_G) (ad : Nat → Nat) (ac : Nat → ClassId) (ax : Nat → Nat) (sz : Nat) (hax : ∀ k, 1000 ≤ k → ad k = ax k) :
    Met l (t_MN y) (Cond.codeWith (t_MN y) (t_BC y) (t_ML y) (t_RT y) (t_HD y) :: t_WS) { frames := t_FR y, cells := dc, slots := ds, locals := t_LO y } (mm_Pre D ad ac sh me E ax as sz) (mm_Post D ad ac sh.length ax (va_A (mm_w ad ac sh me) sz) v sh' me') dc ds (va_A (mm_w ad ac sh me) sz) := by
  refine va_MetW (cc := t_BC y) (maxL := t_ML y) (ret := t_RT y) (hh := t_HD y) hmt.1 rfl ?_
  intro p e s m args below meth c s₁ B hml hv
  obtain ⟨rfl, hsz, hP, hD0, hKn, hka, hEE⟩ := hv
  have hts := atoms_spec (ws := Cond.codeWith (t_MN y) (t_BC y) (t_ML y) (t_RT y) (t_HD y) :: t_WS) B.pre
  have hown : s.vm.findClass (t_MN y).cls = some m.cls := findClass_of_methodNamed B.named
  subst hsz
  have hX : mm_X p s m (as.map (mm_v ad)).toArray meth c y D (va_A (mm_w ad ac sh me) s.heap.size) E ax :=
    ⟨B.exec, B.bytes, hml, by rw [hmt.2.2.2.2.1]; exact hown, fun w hw => hts w (List.mem_cons_of_mem _ hw), fun hin => by
      rw [(name_of_methodNamed B.named B.method).1]
      exact eq_of_beq hin, hKn, fun q h => Or.inr h, hEE, B.notSynchronized, mm_noSt hP⟩
  have hI : mm_I D ad ac sh me (va_A (mm_w ad ac sh me) s.heap.size) ax s s.heap [] := ⟨hP, hD0.self, va_S.rf, hka, hm, hax⟩
  have hent := mm_entry_has (ad := ad) hha
  have htb : c.exceptionTable.toList = tableOf (t_HD y) := by
    obtain ⟨m9, meth9, c9, hn9, h1, h2, -, -, h6, -⟩ := Cond.codeWith_spec (hts _ List.mem_cons_self)
    cases Option.some.inj (hn9.symm.trans B.named)
    cases Option.some.inj (h1.symm.trans B.method)
    cases Option.some.inj (h2.symm.trans (Stand.of_body B).code)
    rw [← h6, table_eq]
  rw [lg_entry_eq]
  refine ih y (0, mm_entry y as, [], sh, me, 0, 0) _ hrun p e _ s m _ below meth c D _ ax ad ac s.heap [] _ _ hX (Nat.le_refl _) (Nat.le_refl _) (Nat.le_refl _) (Nat.le_refl _) htb hI hent.1 hent.2 (fun v h => by cases h) (mm_entry_ok hok) ?_
  intro S' q H' locs' ad' ac' ls' hq he g1 g2 I' _ g3 _
  have ho := mm_end_eq he
  refine mm_end_W hX B.returns hq he ?_ I'.2.2.1.2.2
  intro t ht hW
  have e1 : sh' = S'.2.2.2.1 := ho.1
  have e2 : me' = S'.2.2.2.2.1 := ho.2.1
  refine ⟨⟨_, rfl, ad', ac', g1, g2, rfl, by rw [ht, e1, e2]; exact I'.1, by rw [e1, e2]; exact I'.2.1, by rw [e1]; exact mm_ka.moved hW.alike I'.2.2.2.1, by rw [e1, e2]; exact I'.2.2.2.2.1, mm_end_v he _, by rw [e1]; exact g3, I'.2.2.2.2.2⟩, I'.2.2.1.F ht⟩
variable {p : Program} {l : Launch} {e : Env} {R : Room} {s : State} {m : MethodId} {args : Array Value} {below : List Frame} {meth : Method} {c : Code} {H : Heap} {locs : List Loc} {cells slots : Nat} {Q : State → Prop}
variable {pc mi : Nat} {ls : Array Slot} {D : va_G} {A : Nat → Prop} {E : mm_V} {ax ad : Nat → Nat} {ac : Nat → ClassId} {sh : mm_S} {me : mm_M}
theorem mm_callSW {f : Nat} (ih : mm_SIM l E f) (X : mm_X p s m args meth c mi D A E ax) (I : mm_I D ad ac sh me A ax s H locs) (hls : ls.size = t_ML mi) {x y na : Nat} {st : List Value} {v : Option Value} {sh' : mm_S} {me' : mm_M} {dc ds : Nat} (hst : ∀ v ∈ st, mm_okv sh.length v)
    (hle : na ≤ st.length) (hcat : mm_cats (st.drop na) ≤ 8) (hha : mm_args y (st.take na).reverse = true) (hiv : mm_iv2 (t_CO mi) x y) (hna : t_NA y = na) (hcd : mm_cdw y) (hd : decode (t_BC mi) pc = .ok (.invokestatic x, 3)) (hfr : t_FR y + 1 ≤ R.frames) (hlo : 8 + (t_ML y + 11) + t_LO y ≤ R.locals) (hc1 : cells + dc ≤ R.cells) (hs1 : slots + ds ≤ R.slots)
    (hrun : mm_run E f y (0, mm_entry y (st.take na).reverse, [], sh, me, 0, 0) = some (.inl v, sh', me', dc, ds))
    (kk : ∀ (H1 : Heap) (locs1 : List Loc) (ad' : Nat → Nat) (ac' : Nat → ClassId), (∀ k, mm_okr sh.length k → ad' k = ad k) → (∀ k, k < sh.length → ac' k = ac k) → mm_I D ad' ac' sh' me' A ax s H1 locs1 → (∀ w ∈ v.toList ++ st.drop na, mm_okv sh'.length w) → sh.length ≤ sh'.length → W p l e R s m args below meth c H1 locs1 (cells + dc) (slots + ds) Q (F0 m (pc + 3) ls ((v.toList ++ st.drop na).map (mm_v ad')))) :
    W p l e R s m args below meth c H locs cells slots Q (F0 m pc ls (st.map (mm_v ad))) := by
  have hmem : ∀ w ∈ (st.take na).reverse, mm_okv sh.length w := fun w hw => hst _ (List.mem_of_mem_take (List.mem_reverse.mp hw))
  have hr : ∀ w ∈ st.drop na, mm_okv sh.length w := fun w hw => hst _ (List.mem_of_mem_drop hw)
  obtain ⟨hmt, -, hl1, hl2⟩ := hiv
  have hM := mm_metW ih hrun hmt hha hmem I.2.2.2.2.1 D ad ac ax H.size I.2.2.2.2.2
  have hlen : (st.take na).length = na := by rw [List.length_take]; omega
  have hts := X.2.2.2.2.1
  have hy : (t_MN y).cls ≠ "java/lang/invoke/MethodHandle" ∧ (t_MN y).cls ≠ "java/lang/invoke/VarHandle" := ⟨hmt.2.1, hmt.2.2.1⟩
  have hG : GoodIn t_WS (Cond.codeWith (t_MN y) (t_BC y) (t_ML y) (t_RT y) (t_HD y) :: t_WS) := by
    intro w hw
    rcases List.mem_cons.mp hw with rfl | h
    · exact mm_good hcd
    · exact mm_good h
  refine mm_back (a := (((st.take na).reverse).map (mm_v ad)).toArray) X I hr ?_ kk
  intro T hT Y
  have hK : Back l R p e below s args (t_MN y) 3 8 (PreOf R dc ds (mm_Pre D ad ac sh me E ax (st.take na).reverse H.size)) (PostOf (mm_Post D ad ac sh.length ax (va_A (mm_w ad ac sh me) H.size) v sh' me') dc ds (va_A (mm_w ad ac sh me) H.size)) :=
    va_backW (hh := t_HD y) (bytes := t_BC y) (maxL := t_ML y) (ret := t_RT y) hM mm_Pre_blind rfl rfl hfr hlo (pay_in hts hG) List.mem_cons_self (fun a' U hW => word_at hW (Or.inl (by first | rfl | simp [Cond.onTables, Cond.keeps, Cond.steady])) (hts _ hmt.2.2.2.2.2))
  obtain ⟨mk, methM, cM, hnamed, hmethM, -, -, -, -, -, -, hsigM⟩ := Cond.codeWith_spec (hts _ hcd)
  have hstatic : methM.isStatic = true := Cond.static_spec hnamed hmethM (hts _ hl2)
  obtain ⟨kP, hkP, -⟩ := className_of_methodNamed hnamed
  have hinitP : kP.init = .initialized := Cond.initialized_spec (findClass_of_methodNamed hnamed) hkP (hts _ hmt.2.2.2.2.2)
  have hstack : (F0 m pc ls (st.map (mm_v ad))).stack = (((st.take na).reverse).map (mm_v ad)).reverse ++ (st.drop na).map (mm_v ad) := by
    show st.map (mm_v ad) = _
    conv => lhs; rw [← List.take_append_drop na st]
    rw [List.map_append, ← List.map_reverse, List.reverse_reverse]
  have hpar : (((st.take na).reverse).map (mm_v ad)).length = methM.sig.parameters.length := by
    have h1 := hmt.2.2.2.1
    rw [hsigM] at h1
    have h1 := Option.some.inj h1
    rw [List.length_map, List.length_reverse, hlen, ← hna]
    exact h1.symm
  have hdc : decode c.code pc = .ok (.invokestatic x, 3) := by rw [X.2.1]; exact hd
  obtain ⟨vm₁, Y₁, hstep₁⟩ := Y.invokestatic X.1 X.2.2.2.1 (hts _ hl1) hnamed hmethM hstatic hkP hinitP hy (g := F0 m pc ls (st.map (mm_v ad))) rfl (argsL := ((st.take na).reverse).map (mm_v ad)) (rest := (st.drop na).map (mm_v ad)) hpar hstack hdc
  have hcat2 : 2 * (F0 m pc ls ((st.drop na).map (mm_v ad))).monitorRoom + (((st.drop na).map (mm_v ad)).map fun v => v.category).sum ≤ 8 := by
    show 2 * 0 + _ ≤ 8
    rw [mm_cat_map]
    omega
  obtain ⟨r, B, Y', hpost, hsteps⟩ := hK m meth c ⟨T.setVm vm₁, locs, cells, slots⟩ (F0 m pc ls ((st.drop na).map (mm_v ad))) (.invokestatic x) mk (((st.take na).reverse).map (mm_v ad)).toArray Y₁ rfl (by rw [X.2.2.1]; exact hls) hdc hcat2 (Y₁.named hnamed) ⟨hc1, hs1, mm_Pre_at X I (as := (st.take na).reverse) (T.setVm vm₁) hT Y₁.warmed⟩
  obtain ⟨U', l2, c2, s2⟩ := B
  obtain ⟨g', mk', t, L, e1, e2, hq, h1, hL, h2, h3⟩ := hpost
  dsimp only [Pt.U, Pt.locs, Pt.cells, Pt.slots] at Y' e1 e2 h1 h2 h3 hsteps
  subst h1; subst h2; subst h3
  exact ⟨r, (T.setVm vm₁).calling g' mk' (((st.take na).reverse).map (mm_v ad)).toArray, t, U', L, hT, Y', hL, e1, e2, hq, fun target h => hstep₁ _ fun acts => by rw [doInvoke_state]; exact hsteps.trans h⟩
end MMW
