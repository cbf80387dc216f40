/-! THE SMALL MACHINE, 4: the machine follows a memory instruction. -/
section MMF
def mm_aty (d : Nat × Nat × Nat) : FieldType := match d.1, d.2.1 with
  | 1, 0 => .int
  | 1, 1 => .byte
  | 1, _ => .char
  | _, _ => .long
/-- a text outside the world -/
def mm_tx (n : Nat) (ax : Nat → Nat) (A : Nat → Prop) (U : State) (H : Heap) : Prop :=
  va_O "java/lang/String" (ax (2000 + n)) A U H ∧ va_OF "java/lang/String" "coder" "B" (.int 0) (ax (2000 + n)) A U H ∧ va_OF "java/lang/String" "value" "[B" (.ref (ax (2100 + n))) (ax (2000 + n)) A U H ∧
  va_T .byte (ax (2100 + n)) (t_SB.getD n []).length (fun j => .int ((t_SB.getD n []).getD j 0)) A U H
/-- a static of Throwable's that holds a reference or null -/
def mm_st (n d : String) (A : Nat → Prop) (U : State) (H : Heap) : Prop := ∃ (c : ClassId) (k : Class) (i : Nat) (f : Field) (a : Nat) (cell : Cell) (v : Value), U.vm.findClass Bundle.tN = some c ∧ U.fieldFound? Bundle.tN n d = some (c, k, i, f) ∧ f.isStatic = true ∧ k.statics = some a ∧ k.staticTypes[f.slot]? = some f.type ∧ H[a]? = some cell ∧ cell.vm.isStatics = true ∧ cell.cls = c ∧ f.slot < cell.slots.size ∧ cell.slots[f.slot]? = some v ∧ v.isRef = true ∧ ¬ A a
theorem mm_st.moved {n d : String} {A : Nat → Prop} {u U : State} {H : Heap} (hvm : u.vm.Alike U.vm) (h : mm_st n d A u H) : mm_st n d A U H := by
  obtain ⟨c, k, i, f, a, cell, v, h0, h1, h2, h3, h4, h5⟩ := h
  obtain ⟨k', hi', he⟩ := State.fieldFound?_setVm hvm h1
  exact ⟨c, k', i, f, a, cell, v, by rw [hvm.findClass]; exact h0, hi', h2, by rw [he]; exact h3, by rw [he]; exact h4, h5⟩
theorem mm_st.kept {n d : String} {A : Nat → Prop} {U : State} {H H1 : Heap} (h : mm_st n d A U H) (hq : ∀ a : Nat, a < H.size → ¬ A a → H1[a]? = H[a]?) : mm_st n d A U H1 := by
  obtain ⟨c, k, i, f, a, cell, v, h0, h1, h2, h3, h4, h5, h6, h7, h8, h9, h10, h11⟩ := h
  exact ⟨c, k, i, f, a, cell, v, h0, h1, h2, h3, h4, by rw [hq a (Array.getElem?_eq_some_iff.mp h5).1 h11]; exact h5, h6, h7, h8, h9, h10, h11⟩
theorem mm_st.narrow {n d : String} {A B : Nat → Prop} {U : State} {H : Heap} (h : mm_st n d A U H) (hAB : ∀ q, B q → A q) : mm_st n d B U H := by
  obtain ⟨c, k, i, f, a, cell, v, h0, h1, h2, h3, h4, h5, h6, h7, h8, h9, h10, h11⟩ := h
  exact ⟨c, k, i, f, a, cell, v, h0, h1, h2, h3, h4, h5, h6, h7, h8, h9, h10, fun z => h11 (hAB a z)⟩
theorem mm_st.lays {n d : String} {A : Nat → Prop} {s : State} {args : Array Value} (h : mm_st n d A s s.heap) : (Cond.laysStatic Bundle.tN n d).before args s = true := by
  obtain ⟨c, k, i, f, a, cell, v, h0, h1, h2, h3, h4, h5, h6, h7, h8, h9, h10, h11⟩ := h
  simp [Cond.before, Cond.holds, Cond.value, h0, h1, h2, h3, h4, h5, h6, h7, h8]
theorem mm_st.isref {n d : String} {A : Nat → Prop} {s : State} {args : Array Value} (h : mm_st n d A s s.heap) : (Cond.isRef (.static Bundle.tN n d)).before args s = true := by
  obtain ⟨c, k, i, f, a, cell, v, h0, h1, h2, h3, h4, h5, h6, h7, h8, h9, h10, h11⟩ := h
  have e1 : (Term.static Bundle.tN n d).eval args s none [] s = some v := by
    simp [Term.eval, State.fieldNamed?, h1, h2, h3, h5, h6, h9]
  simp only [Cond.before, Cond.holds, Cond.value, e1]
  cases v <;> simp_all [Value.isRef]
/-- what a throw and a catch stand on -/
def mm_ex (A : Nat → Prop) (U : State) (H : Heap) : Prop := mm_st "UNASSIGNED_STACK" Bundle.steD A U H ∧ mm_st "SUPPRESSED_SENTINEL" Bundle.listD A U H ∧
  (∀ x, x < 4 → va_Nw (Cond.castable (t_EN x) (t_EN x)) U) ∧ (∀ Y ∈ (["java/lang/RuntimeException", "java/lang/Exception", "java/lang/Throwable"] : List String), va_Nw (Cond.declares (Bundle.initS Y)) U) ∧ va_Nc (t_EN 0) (t_EN 1) U ∧ va_Nc (t_EN 3) (t_EN 1) U
/-- what stands outside the world, at the addresses ax -/
def mm_E (E : mm_V) (ax : Nat → Nat) (A : Nat → Prop) (U : State) (H : Heap) : Prop :=
  (∀ (a : Nat) (x : Nat × (Nat → Int32)), mm_xi E a = some x → va_T .int (ax a) x.1 (fun j => .int (x.2 j)) A U H) ∧
  (∀ n, n < t_SFl.length → va_Z (t_SF n).1 (t_SF n).2.1 (t_SF n).2.2.1 (mm_v ax (mm_zz E (t_SF n).2.2.2)) A U H) ∧
  (∀ n, n < 30 → mm_tx n ax A U H) ∧
  (∀ q ∈ t_STl, ∃ tx : String, vk_R (t_ON q.1) q.2.1 tx (ax (2000 + q.2.2)) U) ∧
  (∀ q ∈ t_NLl, va_Nw (Cond.methodLinkNest (t_ON q.1) q.2.1 (t_MN q.2.2) "LitmusRows") U) ∧
  mm_ex A U H
theorem mm_E.same {E : mm_V} {ax : Nat → Nat} {A : Nat → Prop} {u U : State} {H : Heap} (hv : u.vm = U.vm) (h : mm_E E ax A u H) : mm_E E ax A U H := by
  have hvm : u.vm.Alike U.vm := by rw [hv]; exact Vm.Alike.refl U.vm
  obtain ⟨h1, h2, h3, h4, h5, e1, e2, e3, e4, e5, e6⟩ := h
  refine ⟨fun a x hx => va_T.moved hvm (h1 a x hx), fun n hn => va_Z.moved hvm (h2 n hn), fun n hn => ?_, fun q hq => ?_, fun q hq => va_Nw.same rfl hv (h5 q hq), e1.moved hvm, e2.moved hvm, fun x hx => va_Nw.same rfl hv (e3 x hx), fun Y hY => va_Nw.same rfl hv (e4 Y hY), e5.moved hvm, e6.moved hvm⟩
  · obtain ⟨a, b, c, d⟩ := h3 n hn
    exact ⟨va_O.moved hvm a, va_OF.moved hvm b, va_OF.moved hvm c, va_T.moved hvm d⟩
  · obtain ⟨tx, hr⟩ := h4 q hq
    exact ⟨tx, vk_R.same hv.symm hr⟩
theorem mm_E.warm {E : mm_V} {ax : Nat → Nat} {A : Nat → Prop} {u U : State} {H : Heap} (hW : u.WarmedH U.vm) (h : mm_E E ax A u H) : mm_E E ax A U H := by
  have hvm : u.vm.Alike U.vm := hW.alike
  obtain ⟨h1, h2, h3, h4, h5, e1, e2, e3, e4, e5, e6⟩ := h
  refine ⟨fun a x hx => va_T.moved hvm (h1 a x hx), fun n hn => va_Z.moved hvm (h2 n hn), fun n hn => ?_, fun q hq => ?_, fun q hq => va_Nw.warmM hW (h5 q hq), e1.moved hvm, e2.moved hvm, fun x hx => va_Nw.warmC hW (e3 x hx), fun Y hY => va_Nw.warmD hW (e4 Y hY), e5.moved hvm, e6.moved hvm⟩
  · obtain ⟨a, b, c, d⟩ := h3 n hn
    exact ⟨va_O.moved hvm a, va_OF.moved hvm b, va_OF.moved hvm c, va_T.moved hvm d⟩
  · obtain ⟨tx, hr⟩ := h4 q hq
    exact ⟨tx, vk_R.warm hW hr⟩
theorem mm_E.kept {E : mm_V} {ax : Nat → Nat} {A : Nat → Prop} {U : State} {H H1 : Heap} (h : mm_E E ax A U H) (hq : ∀ a : Nat, a < H.size → ¬ A a → H1[a]? = H[a]?) : mm_E E ax A U H1 := by
  obtain ⟨h1, h2, h3, h4, h5, e1, e2, e3⟩ := h
  refine ⟨fun a x hx => (h1 a x hx).kept hq, fun n hn => (h2 n hn).kept hq, fun n hn => ?_, h4, h5, e1.kept hq, e2.kept hq, e3⟩
  obtain ⟨a, b, c, d⟩ := h3 n hn
  exact ⟨a.kept hq, b.kept hq, c.kept hq, d.kept hq⟩
theorem mm_E.narrow {E : mm_V} {ax : Nat → Nat} {A B : Nat → Prop} {U : State} {H : Heap} (h : mm_E E ax A U H) (hAB : ∀ q, B q → A q) : mm_E E ax B U H := by
  obtain ⟨h1, h2, h3, h4, h5, e1, e2, e3⟩ := h
  refine ⟨fun a x hx => (h1 a x hx).narrow hAB, fun n hn => (h2 n hn).narrow hAB, fun n hn => ?_, h4, h5, e1.narrow hAB, e2.narrow hAB, e3⟩
  obtain ⟨a, b, c, d⟩ := h3 n hn
  exact ⟨a.narrow hAB, b.narrow hAB, c.narrow hAB, d.narrow hAB⟩
/-- what stays in a walk of method mi -/
def mm_X (p : Program) (s : State) (m : MethodId) (args : Array Value) (meth : Method) (c : Code) (mi : Nat) (D : va_G) (A : Nat → Prop) (E : mm_V) (ax : Nat → Nat) : Prop :=
  p.tables.exec = Jvm.exec ∧ c.code = t_BC mi ∧ c.maxLocals = t_ML mi ∧ s.vm.findClass (t_ON (t_CO mi)) = some m.cls ∧ (∀ w ∈ t_WS, w.before args s = true) ∧ (t_IN mi = true → meth.name = "<init>") ∧
  (∀ (k : Nat) (q : vw_C), t_CL[k]? = some q → u_Kn s q.1 q.2.1 q.2.2 (D.1 k) (D.2 k)) ∧ (∀ q, s.heap.size ≤ q → A q) ∧ mm_E E ax A s s.heap ∧ meth.locks = false ∧ (∀ (q : Nat) (cell : Cell), A q → s.heap[q]? = some cell → cell.vm.isStatics = false)
def mm_ka (ac : Nat → ClassId) (sh : mm_S) (U : State) : Prop := ∀ (k : Nat) (d : Nat × Nat × Nat), sh[k]? = some d → d.1 ≠ 0 → ArrOfT U (ac k) (mm_aty d) ∧ va_RA U (ac k) (mm_aty d)
/-- the world, now -/
def mm_I (D : va_G) (ad : Nat → Nat) (ac : Nat → ClassId) (sh : mm_S) (me : mm_M) (A : Nat → Prop) (ax : Nat → Nat) (s : State) (H : Heap) (locs : List Loc) : Prop :=
  va_P D t_CL (mm_w ad ac sh me) H ∧ va_D A (mm_w ad ac sh me) ∧ va_S A s.heap H locs ∧ mm_ka ac sh s ∧ mm_okm sh me ∧ (∀ k, 1000 ≤ k → ad k = ax k)
variable {p : Program} {l : Launch} {e : Env} {R : Room} {s : State} {m : MethodId} {args : Array Value} {below : List Frame} {meth : Method} {c : Code} {H : Heap} {locs : List Loc} {cells slots : Nat} {Q : State → Prop}
variable {pc mi : Nat} {ls : Array Slot} {D : va_G} {A : Nat → Prop} {E : mm_V} {ax ad : Nat → Nat} {ac : Nat → ClassId} {sh : mm_S} {me : mm_M}
theorem mm_K0 (X : mm_X p s m args meth c mi D A E ax) : va_K D t_CL [] s := ⟨X.2.2.2.2.2.2.1, fun k q h => by simp at h⟩
theorem mm_K1 (X : mm_X p s m args meth c mi D A E ax) (I : mm_I D ad ac sh me A ax s H locs) {k : Nat} {d : Nat × Nat × Nat} (hd : sh[k]? = some d) (h0 : d.1 ≠ 0) {ty : FieldType} (hty : mm_aty d = ty) : va_K D t_CL [(ac k, ty)] s := by
  refine ⟨X.2.2.2.2.2.2.1, fun j q h => ?_⟩
  have hj : j < 1 := (List.getElem?_eq_some_iff.mp h).1
  rw [show j = 0 by omega] at h
  cases h
  subst hty
  exact I.2.2.2.1 k d hd h0
theorem mm_gv_v (ci a j : Nat) : mm_v ad (mm_gv me ci a j) = mm_fv ad me ci a j := by
  unfold mm_gv mm_fv
  cases t_RF ci j with
  | false => rfl
  | true =>
    cases me.2.1 a j with
    | none => rfl
    | some r => rfl
theorem mm_andb {a b : Bool} (h : (a && b) = true) : a = true ∧ b = true := by
  cases a <;> cases b <;> simp_all
theorem mm_bif1 {b : Bool} {α : Type} {x y : α} (h : (bif b then some x else none) = some y) : b = true ∧ x = y := by
  cases b <;> simp at h
  exact ⟨rfl, h⟩
theorem mm_isO_of {d : Option (Nat × Nat × Nat)} {ci j : Nat} (h : mm_isO d ci j = true) : ∃ n, d = some (0, ci, n) ∧ j < n := by
  unfold mm_isO at h
  split at h
  · rename_i cc n
    obtain ⟨h1, h2⟩ := mm_andb h
    cases Nat.eq_of_beq_eq_true h1
    exact ⟨n, rfl, Nat.blt_eq.mp h2⟩
  · cases h
theorem mm_isA_of {d : Option (Nat × Nat × Nat)} {kd tg n : Nat} (h : mm_isA d kd tg = some n) : d = some (kd, tg, n) := by
  unfold mm_isA at h
  split at h
  · obtain ⟨h1, h2⟩ := mm_bif1 h
    obtain ⟨h3, h4⟩ := mm_andb h1
    cases Nat.eq_of_beq_eq_true h3
    cases Nat.eq_of_beq_eq_true h4
    cases h2
    rfl
  · cases h
/-- a field is read -/
theorem mm_getf (X : mm_X p s m args meth c mi D A E ax) (I : mm_I D ad ac sh me A ax s H locs) {x ci j a n : Nat} {r : List Value} (hf : mm_fin2 t_FDl (t_CO mi) x = some (ci, j)) (hs : sh[a]? = some (0, ci, n)) (hj : j < n) (hd : decode (t_BC mi) pc = .ok (.getfield x, 3))
    (kk : W p l e R s m args below meth c H locs cells slots Q (F0 m (pc + 3) ls ((mm_gv me ci a j :: r).map (mm_v ad)))) : W p l e R s m args below meth c H locs cells slots Q (F0 m pc ls ((Value.ref a :: r).map (mm_v ad))) := by
  obtain ⟨⟨C, T, N⟩, hc, hN, hlk⟩ := fd_all _ (mm_fin2_in hf)
  have hcl := t_CLok hc
  obtain ⟨hx, hb, -, ho, hts, -⟩ := id X
  refine va_get (ref := C) hx hb hts hcl.1 ho (mm_K0 X) I.1 a (mm_w_at hs) hc j hN (hts _ hlk) (fun y hy => by rw [(hcl.2.2.2.2.1 j hN).2] at hy; exact hy) (v := mm_fv ad me ci a j) ?_ hd ?_
  · simp [hj]
  · rw [← mm_gv_v]
    exact kk
/-- an int is written into a field -/
theorem mm_putf (X : mm_X p s m args meth c mi D A E ax) (I : mm_I D ad ac sh me A ax s H locs) {x ci j a n : Nat} {y : Int32} {r : List Value} (hf : mm_fin2 t_FDl (t_CO mi) x = some (ci, j)) (hs : sh[a]? = some (0, ci, n)) (hj : j < n) (hr : t_RF ci j = false) (hn : t_FN ci j = false) (hy : mm_fit (t_TY ci j) y = true) (hd : decode (t_BC mi) pc = .ok (.putfield x, 3))
    (kk : ∀ (H1 : Heap) (locs1 : List Loc), mm_I D ad ac sh (mm_up me.1 a j y, me.2.1, me.2.2) A ax s H1 locs1 → W p l e R s m args below meth c H1 locs1 cells slots Q (F0 m (pc + 3) ls (r.map (mm_v ad)))) : W p l e R s m args below meth c H locs cells slots Q (F0 m pc ls ((Value.int y :: Value.ref a :: r).map (mm_v ad))) := by
  obtain ⟨⟨C, T, N⟩, hc, hN, hlk⟩ := fd_all _ (mm_fin2_in hf)
  have hcl := t_CLok hc
  obtain ⟨hx, hb, -, ho, hts, -⟩ := id X
  have hfit : narrow (t_TY ci j) (.int y) = .int y ∧ fits (t_TY ci j) (.int y) = true := by
    unfold mm_fit at hy
    split at hy
    · rename_i ht; rw [ht]; exact ⟨rfl, rfl⟩
    · rename_i ht
      rw [ht]
      rcases of_decide_eq_true hy with rfl | rfl
      · exact ⟨by decide +kernel, by decide +kernel⟩
      · exact ⟨by decide +kernel, by decide +kernel⟩
    · cases hy
  refine va_put (ref := C) hx hb hts hcl.1 (t_TY ci) hcl.2.2.1 hcl.2.2.2.1 ho (mm_K0 X) I.1 I.2.1 I.2.2.1 a (mm_w_at hs) hc j hN (hts _ hlk) (fun y hy => by rw [(hcl.2.2.2.2.1 j hN).2] at hy; exact hy) ((hcl.2.2.2.2.1 j hN).1.trans hn) (hcl.2.2.1 j hN) hfit.1 hfit.2 (by simp [hj]) hd ?_
  intro H1 locs1 hP hD hS
  have e1 := mm_set_i (ad := ad) (ac := ac) (me := me) (j := j) (x := y) hs hr
  exact kk H1 locs1 ⟨by rw [← e1]; exact hP, by rw [← e1]; exact hD, hS, I.2.2.2.1, I.2.2.2.2.1, I.2.2.2.2.2⟩
/-- a reference is written into a final field, in its constructor -/
theorem mm_putr (X : mm_X p s m args meth c mi D A E ax) (I : mm_I D ad ac sh me A ax s H locs) {x ci j a n y : Nat} {r : List Value} (hf : mm_fin2 t_FDl (t_CO mi) x = some (ci, j)) (hs : sh[a]? = some (0, ci, n)) (hj : j < n) (hr : t_RF ci j = true) (hn : t_FN ci j = true) (hin : t_IN mi = true) (hcc : ci = t_CC (t_CO mi)) (hoy : mm_okr sh.length y) (hd : decode (t_BC mi) pc = .ok (.putfield x, 3))
    (hown : ∀ q : vw_C, t_CL[t_CC (t_CO mi)]? = some q → q.1 = t_ON (t_CO mi))
    (kk : ∀ (H1 : Heap) (locs1 : List Loc), mm_I D ad ac sh (me.1, mm_up me.2.1 a j (some y), me.2.2) A ax s H1 locs1 → W p l e R s m args below meth c H1 locs1 cells slots Q (F0 m (pc + 3) ls (r.map (mm_v ad)))) : W p l e R s m args below meth c H locs cells slots Q (F0 m pc ls ((Value.ref y :: Value.ref a :: r).map (mm_v ad))) := by
  obtain ⟨⟨C, T, N⟩, hc, hN, hlk⟩ := fd_all _ (mm_fin2_in hf)
  have hcl := t_CLok hc
  obtain ⟨hx, hb, -, ho, hts, hi, -⟩ := id X
  have hfit : narrow (t_TY ci j) (.ref (ad y)) = .ref (ad y) ∧ fits (t_TY ci j) (.ref (ad y)) = true := by
    unfold t_RF mm_isr at hr
    split at hr
    · rename_i ht; rw [ht]; exact ⟨rfl, rfl⟩
    · rename_i ht; rw [ht]; exact ⟨rfl, rfl⟩
    · cases hr
  refine va_putF (ref := C) hx hb hts hcl.1 (t_TY ci) hcl.2.2.1 hcl.2.2.2.1 ho (mm_K0 X) I.1 I.2.1 I.2.2.1 a (mm_w_at hs) hc j hN (hts _ hlk) (fun y hy => by rw [(hcl.2.2.2.2.1 j hN).2] at hy; exact hy) ((hcl.2.2.2.2.1 j hN).1.trans hn) (hi hin) ((hcl.2.2.2.2.1 j hN).2.trans (hown _ (by rw [← hcc]; exact hc))) (hcl.2.2.1 j hN) hfit.1 hfit.2 (by simp [hj]) hd ?_
  intro H1 locs1 hP hD hS
  have e1 := mm_set_r (ad := ad) (ac := ac) (me := me) (j := j) (x := some y) hs hr
  have e2 : va_rf ((some y).map ad) = .ref (ad y) := rfl
  rw [e2] at e1
  refine kk H1 locs1 ⟨by rw [← e1]; exact hP, by rw [← e1]; exact hD, hS, I.2.2.2.1, ?_, I.2.2.2.2.2⟩
  intro b i q hb' hq
  have hq : mm_up me.2.1 a j (some y) b i = some q := hq
  by_cases h1 : b = a
  · subst h1
    rw [mm_up_at] at hq
    by_cases h2 : i = j
    · rw [if_pos h2] at hq; cases hq; exact hoy
    · rw [if_neg h2] at hq; exact I.2.2.2.2.1 b i q hb' hq
  · rw [mm_up_ne h1] at hq
    exact I.2.2.2.2.1 b i q hb' hq
end MMF
