/-! THE SMALL MACHINE, 8: pieces of the simulation: counters, entry, end, the callee's start and end. -/
section MMJ
theorem mm_next_le {E : mm_V} {mi : Nat} {q : mm_P} {S S' : mm_T} (h : mm_next E mi q S = some S') : S.2.2.2.2.2.1 ≤ S'.2.2.2.2.2.1 ∧ S.2.2.2.2.2.2 ≤ S'.2.2.2.2.2.2 := by
  unfold mm_next at h
  split at h
  · cases h; exact ⟨Nat.le_refl _, Nat.le_refl _⟩
  · split at h
    · cases h; exact ⟨Nat.le_refl _, Nat.le_refl _⟩
    · split at h
      · cases h; exact ⟨Nat.le_refl _, Nat.le_refl _⟩
      · split at h
        · cases h; exact ⟨Nat.le_add_right _ _, Nat.le_add_right _ _⟩
        · cases h
theorem mm_end_eq {mi : Nat} {q : mm_P} {S : mm_T} {o : mm_O} (h : mm_end mi q S = some o) : o.2.1 = S.2.2.2.1 ∧ o.2.2.1 = S.2.2.2.2.1 ∧ S.2.2.2.2.2.1 ≤ o.2.2.2.1 ∧ S.2.2.2.2.2.2 ≤ o.2.2.2.2 := by
  unfold mm_end at h
  split at h
  · split at h
    · cases h; exact ⟨rfl, rfl, Nat.le_refl _, Nat.le_refl _⟩
    · cases h
  · split at h
    · split at h
      · cases h; exact ⟨rfl, rfl, Nat.le_refl _, Nat.le_refl _⟩
      · split at h
        · cases h; exact ⟨rfl, rfl, Nat.le_refl _, Nat.le_refl _⟩
        · cases h
      · cases h
    · cases h
  · obtain ⟨-, h2⟩ := mm_bif1 h
    cases h2
    exact ⟨rfl, rfl, Nat.le_add_right _ _, Nat.le_add_right _ _⟩
  · cases h
theorem mm_run_le {E : mm_V} : ∀ (f mi : Nat) (S : mm_T) (o : mm_O), mm_run E f mi S = some o → S.2.2.2.2.2.1 ≤ o.2.2.2.1 ∧ S.2.2.2.2.2.2 ≤ o.2.2.2.2 := by
  intro f
  induction f with
  | zero => intro mi S o h; cases h
  | succ f ih =>
    intro mi S o h
    have hb : mm_body (mm_run E f) E mi S = some o := h
    unfold mm_body at hb
    split at hb
    · cases hb
    · split at hb
      · rename_i hn
        obtain ⟨h1, h2⟩ := mm_next_le hn
        obtain ⟨h3, h4⟩ := ih _ _ _ hb
        exact ⟨Nat.le_trans h1 h3, Nat.le_trans h2 h4⟩
      · split at hb
        · rename_i he
          cases hb
          exact (mm_end_eq he).2.2
        · split at hb
          · cases hb
          · split at hb
            · cases hb
            · obtain ⟨h3, h4⟩ := ih _ _ _ hb
              exact ⟨Nat.le_trans (Nat.le_add_right _ _) h3, Nat.le_trans (Nat.le_add_right _ _) h4⟩
            · split at hb
              · split at hb
                · split at hb
                  · obtain ⟨h3, h4⟩ := ih _ _ _ hb
                    exact ⟨Nat.le_trans (Nat.le_add_right _ _) h3, Nat.le_trans (Nat.le_add_right _ _) h4⟩
                  · cases hb
                · cases hb
              · cases hb
theorem mm_lvargs : ∀ (vs : List Value) (i j : Nat) (v : Value), (∀ v ∈ vs, v.category = 1) → vs[j]? = some v → (i + j, v) ∈ lv_args i vs := by
  intro vs
  induction vs with
  | nil => intro i j v _ h; simp at h
  | cons w r ih =>
    intro i j v hc h
    have h1 : w.category = 1 := hc w List.mem_cons_self
    unfold lv_args
    rw [if_neg (by omega)]
    cases j with
    | zero =>
      simp at h
      subst h
      exact List.mem_cons_self
    | succ j =>
      have h2 : r[j]? = some v := by simpa using h
      have h3 := ih (i + 1) j v (fun v hv => hc v (List.mem_cons_of_mem _ hv)) h2
      rw [show i + 1 + j = i + (j + 1) by omega] at h3
      exact List.mem_cons_of_mem _ h3
theorem mm_slen : ∀ (vs : List Value), (∀ v ∈ vs, v.category = 1) → (lg_sl vs).length = vs.length := by
  intro vs
  induction vs with
  | nil => intro _; rfl
  | cons w r ih =>
    intro hc
    have h1 : w.category = 1 := hc w List.mem_cons_self
    have h2 := ih (fun v hv => hc v (List.mem_cons_of_mem _ hv))
    unfold lg_sl at h2 ⊢
    rw [List.flatMap_cons, if_neg (by omega), List.length_append, h2]
    simp
    omega
theorem mm_args_of {y : Nat} {as : List Value} (h : mm_args y as = true) : (∀ v ∈ as, v.category = 1) ∧ as.length ≤ t_ML y := by
  unfold mm_args at h
  obtain ⟨h1, h2⟩ := mm_andb h
  exact ⟨fun v hv => Nat.eq_of_beq_eq_true (List.all_eq_true.mp h1 v hv), Nat.le_of_ble_eq_true h2⟩
/-- the locals at a method's entry -/
theorem mm_entry_has {y : Nat} {as : List Value} {ad : Nat → Nat} (h : mm_args y as = true) :
    lv_has ((lg_sl (as.map (mm_v ad)) ++ List.replicate (t_ML y - (lg_sl (as.map (mm_v ad))).length) Slot.unset).toArray) (t_ML y) (mm_l ad (mm_entry y as)) ∧ (mm_entry y as).length = t_ML y := by
  obtain ⟨h1, h2⟩ := mm_args_of h
  have h3 : ∀ v ∈ as.map (mm_v ad), v.category = 1 := fun v hv => by
    obtain ⟨w, hw, rfl⟩ := List.mem_map.mp hv
    rw [mm_v_cat]
    exact h1 w hw
  have h4 := lv_entry (as.map (mm_v ad)) (n := t_ML y) (by rw [mm_slen _ h3, List.length_map]; exact h2)
  refine ⟨⟨h4.1, h4.2.1, fun q hq => h4.2.2 q ?_⟩, ?_⟩
  · obtain ⟨j, w⟩ := q
    obtain ⟨v, hv, rfl⟩ := mm_l_in.mp hq
    have hv2 : as[j]? = some v := by
      unfold mm_entry at hv
      rcases Nat.lt_or_ge j as.length with hj | hj
      · rw [List.getElem?_append_left (by rw [List.length_map]; exact hj)] at hv
        rw [List.getElem?_map] at hv
        cases hx : as[j]? with
        | none => rw [hx] at hv; simp at hv
        | some x => rw [hx] at hv; simp at hv; rw [hv]
      · rw [List.getElem?_append_right (by rw [List.length_map]; exact hj)] at hv
        have := List.mem_of_getElem? hv
        have := List.eq_of_mem_replicate this
        cases this
    have := mm_lvargs (as.map (mm_v ad)) 0 j (mm_v ad v) h3 (by rw [List.getElem?_map, hv2]; rfl)
    rw [Nat.zero_add] at this
    exact this
  · unfold mm_entry
    rw [List.length_append, List.length_map, List.length_replicate]
    omega
theorem mm_entry_ok {y n : Nat} {as : List Value} (h : ∀ v ∈ as, mm_okv n v) : ∀ v, some v ∈ mm_entry y as → mm_okv n v := by
  intro v hv
  unfold mm_entry at hv
  rcases List.mem_append.mp hv with h1 | h1
  · obtain ⟨w, hw, h2⟩ := List.mem_map.mp h1
    cases h2
    exact h v hw
  · have := List.eq_of_mem_replicate h1
    cases this
theorem mm_l_has {ad ad' : Nat → Nat} {n nL : Nat} {lo : List (Option Value)} {ls : Array Slot} (h : ∀ k, mm_okr n k → ad' k = ad k) (hv : ∀ v, some v ∈ lo → mm_okv n v) (hl : lv_has ls nL (mm_l ad lo)) : lv_has ls nL (mm_l ad' lo) := by
  refine ⟨hl.1, hl.2.1, fun q hq => ?_⟩
  obtain ⟨j, w⟩ := q
  obtain ⟨v, h1, rfl⟩ := mm_l_in.mp hq
  rw [mm_v_eq h (hv v (List.mem_of_getElem? h1))]
  exact hl.2.2 _ (mm_l_in.mpr ⟨v, h1, rfl⟩)
theorem mm_end_v {mi : Nat} {q : mm_P} {S : mm_T} {v : Option Value} {r : mm_S × mm_M × Nat × Nat} (h : mm_end mi q S = some (.inl v, r)) : ∀ (n : Nat) (x : Value), v = some x → mm_okv n x := by
  intro n x hx
  subst hx
  unfold mm_end at h
  split at h
  · split at h
    · cases h
    · cases h
  · split at h
    · split at h
      · cases h; exact trivial
      · split at h
        · cases h; exact trivial
        · cases h
      · cases h
    · cases h
  · obtain ⟨-, h2⟩ := mm_bif1 h
    cases h2
  · cases h
/-- the callee's start -/
def mm_Pre (D : va_G) (ad : Nat → Nat) (ac : Nat → ClassId) (sh : mm_S) (me : mm_M) (E : mm_V) (ax : Nat → Nat) (as : List Value) (sz : Nat) : Array Value → State → Prop := va_Pc (as.map (mm_v ad)) (fun U => U.heap.size = sz ∧ va_P D t_CL (mm_w ad ac sh me) U.heap ∧ va_D (fun _ => True) (mm_w ad ac sh me) ∧ (∀ (k : Nat) (q : vw_C), t_CL[k]? = some q → u_Kn U q.1 q.2.1 q.2.2 (D.1 k) (D.2 k)) ∧ mm_ka ac sh U ∧ mm_E E ax (va_A (mm_w ad ac sh me) sz) U U.heap)
/-- what a method leaves behind -/
def mm_Res (D : va_G) (ad : Nat → Nat) (ac : Nat → ClassId) (n : Nat) (ax : Nat → Nat) (A : Nat → Prop) (v : Option Value) (sh' : mm_S) (me' : mm_M) (r : Option Value) (t : State) : Prop := ∃ (ad' : Nat → Nat) (ac' : Nat → ClassId), (∀ k, mm_okr n k → ad' k = ad k) ∧ (∀ k, k < n → ac' k = ac k) ∧ r = v.map (mm_v ad') ∧ va_P D t_CL (mm_w ad' ac' sh' me') t.heap ∧ va_D A (mm_w ad' ac' sh' me') ∧ mm_ka ac' sh' t ∧ mm_okm sh' me' ∧ (∀ x, v = some x → mm_okv sh'.length x) ∧ n ≤ sh'.length ∧ (∀ k, 1000 ≤ k → ad' k = ax k)
def mm_Post (D : va_G) (ad : Nat → Nat) (ac : Nat → ClassId) (n : Nat) (ax : Nat → Nat) (A : Nat → Prop) (v : Option Value) (sh' : mm_S) (me' : mm_M) : Array Value → State → Outcome → State → Prop := fun _ st oc t => (∃ r, oc = .returned r ∧ mm_Res D ad ac n ax A v sh' me' r t) ∧ va_F A st t
theorem mm_ka.moved {ac : Nat → ClassId} {sh : mm_S} {u U : State} (hvm : u.vm.Alike U.vm) (h : mm_ka ac sh u) : mm_ka ac sh U := fun k d hk h0 => ⟨arrOfT_moved hvm (h k d hk h0).1, (h k d hk h0).2.moved hvm⟩
theorem mm_Pre_blind {D : va_G} {ad : Nat → Nat} {ac : Nat → ClassId} {sh : mm_S} {me : mm_M} {E : mm_V} {ax : Nat → Nat} {as : List Value} {sz : Nat} : FrameBlind (mm_Pre D ad ac sh me E ax as sz) := by
  intro a U g mk h
  obtain ⟨h1, h2, h3, h4, h5, h6, h7⟩ := h
  exact ⟨h1, h2, h3, h4, fun k q hq => u_Kn_moved (u := U) (U := U.calling g mk a) (Vm.Alike.refl U.vm) (h5 k q hq), mm_ka.moved (u := U) (U := U.calling g mk a) (Vm.Alike.refl U.vm) h6, mm_E.same (u := U) (U := U.calling g mk a) rfl h7⟩
variable {p : Program} {l : Launch} {e : Env} {R : Room} {s : State} {m : MethodId} {args : Array Value} {below : List Frame} {meth : Method} {c : Code} {H : Heap} {locs : List Loc} {cells slots : Nat} {Q : State → Prop}
variable {pc mi : Nat} {ls : Array Slot} {D : va_G} {A : Nat → Prop} {E : mm_V} {ax ad : Nat → Nat} {ac : Nat → ClassId} {sh : mm_S} {me : mm_M}
/-- the callee's start holds where the caller stands -/
theorem mm_Pre_at (X : mm_X p s m args meth c mi D A E ax) (I : mm_I D ad ac sh me A ax s H locs) {as : List Value} : ∀ U : State, U.heap = H → s.WarmedH U.vm → mm_Pre D ad ac sh me E ax as H.size (as.map (mm_v ad)).toArray U := by
  intro U hU hW
  have hS := I.2.2.1
  refine ⟨rfl, by rw [hU], by rw [hU]; exact I.1, I.2.1.weaken (fun _ _ _ _ => trivial), fun k q hq => u_Kn_moved hW.alike (X.2.2.2.2.2.2.1 k q hq), mm_ka.moved hW.alike I.2.2.2.1, ?_⟩
  rw [hU]
  refine mm_E.warm hW (mm_E.narrow (mm_E.kept X.2.2.2.2.2.2.2.2.1 hS.2.1) ?_)
  intro q hq
  rcases hq with ⟨k, e, hk⟩ | hq
  · exact I.2.1.2 k _ hk
  · exact X.2.2.2.2.2.2.2.1 q (Nat.le_trans hS.1 hq)
/-- a call has come back: the caller goes on in the new world -/
theorem mm_back (X : mm_X p s m args meth c mi D A E ax) (I : mm_I D ad ac sh me A ax s H locs) {mc ms : Nat} {st0 rest : List Value} {a : Array Value} {v : Option Value} {sh' : mm_S} {me' : mm_M} (hrest : ∀ v ∈ rest, mm_okv sh.length v)
    (hr : va_Run p l e R s m args below meth c H locs cells slots mc ms (F0 m pc ls st0) (rest.map (mm_v ad)) (mm_Post D ad ac sh.length ax (va_A (mm_w ad ac sh me) H.size) v sh' me' a) (va_A (mm_w ad ac sh me) H.size))
    (kk : ∀ (H1 : Heap) (locs1 : List Loc) (ad' : Nat → Nat) (ac' : Nat → ClassId), (∀ k, mm_okr sh.length k → ad' k = ad k) → (∀ k, k < sh.length → ac' k = ac k) → mm_I D ad' ac' sh' me' A ax s H1 locs1 → (∀ w ∈ v.toList ++ rest, mm_okv sh'.length w) → sh.length ≤ sh'.length → W p l e R s m args below meth c H1 locs1 (cells + mc) (slots + ms) Q (F0 m (pc + 3) ls ((v.toList ++ rest).map (mm_v ad')))) :
    W p l e R s m args below meth c H locs cells slots Q (F0 m pc ls st0) := by
  intro T hT Y
  obtain ⟨r, st₀, t, T', L, h0, Y', hL, e1, e2, ⟨⟨r', hr', ad', ac', g1, g2, g3, g4, g5, g6, g7, g8, g9, g10⟩, hF⟩, st⟩ := hr T hT Y
  cases hr'
  have hfA : ∀ q, va_A (mm_w ad ac sh me) H.size q → A q := by
    intro q hq
    rcases hq with ⟨k, e, hk⟩ | hq
    · exact I.2.1.2 k _ hk
    · exact X.2.2.2.2.2.2.2.1 q (Nat.le_trans I.2.2.1.1 hq)
  obtain ⟨hz, hk⟩ := hF
  rw [h0] at hz hk
  have hvm : s.vm.Alike t.vm := by rw [← e2]; exact Y'.warmed.alike
  have hS1 : va_S A s.heap T'.heap (locs ++ L) := by
    refine ⟨Nat.le_trans I.2.2.1.1 (by rw [e1]; exact hz), fun q h1 h2 => ?_, fun q hq => ?_⟩
    · rw [e1, hk q (Nat.lt_of_lt_of_le h1 I.2.2.1.1) (fun z => h2 (hfA q z))]
      exact I.2.2.1.2.1 q h1 h2
    · rcases List.mem_append.mp hq with h | h
      · exact I.2.2.1.2.2 q h
      · exact hfA _ (hL q h)
  have I' : mm_I D ad' ac' sh' me' A ax s T'.heap (locs ++ L) := ⟨by rw [e1]; exact g4, g5.weaken (fun _ _ _ h => hfA _ h), hS1, mm_ka.moved hvm.symm g6, g7, g10⟩
  have hok : ∀ w ∈ v.toList ++ rest, mm_okv sh'.length w := by
    intro w hw
    rcases List.mem_append.mp hw with h | h
    · exact g8 w (by simpa using h)
    · exact mm_okv_w g9 (hrest w h)
  have k1 := kk T'.heap (locs ++ L) ad' ac' g1 g2 I' hok g9
  have e3 : (v.toList ++ rest).map (mm_v ad') = r.toList ++ rest.map (mm_v ad) := by
    rw [List.map_append, mm_vs_eq g1 hrest, g3]
    cases v <;> rfl
  rw [e3] at k1
  obtain ⟨t2, a1, b1⟩ := k1 T' rfl Y'
  exact ⟨t2, st t2 a1, b1⟩
/-- a method's answer -/
theorem mm_end_W (X : mm_X p s m args meth c mi D A E ax) (hr : meth.sig.returnType = t_RT mi) {Qc : Array Value → State → Outcome → State → Prop} {free : Addr → Prop} {q : mm_P} {S : mm_T} {v : Option Value} {sh' : mm_S} {me' : mm_M} {dc ds : Nat} (hq : t_OP mi S.1 = some q) (he : mm_end mi q S = some (.inl v, sh', me', dc, ds))
    (hp : ∀ t : State, t.heap = H → s.WarmedH t.vm → Qc args s (.returned (v.map (mm_v ad))) t) (hf : ∀ q ∈ locs, free q.base) : W p l e R s m args below meth c H locs S.2.2.2.2.2.1 S.2.2.2.2.2.2 (MQ below Qc args s dc ds free) (F0 m S.1 ls (S.2.2.1.map (mm_v ad))) := by
  have hlocks : meth.locks = false := X.2.2.2.2.2.2.2.2.2.1
  obtain ⟨⟨n, hd, hn⟩, -, -, -⟩ := t_OPok hq
  obtain ⟨pc0, lo0, st0, sh0, me0, nc0, ns0⟩ := S
  unfold mm_end at he
  split at he
  · rename_i hi
    split at he
    · rename_i h1 h2
      cases he
      have h2 : st0 = [] := h2
      subst h2
      rw [hi] at hd hn
      have hn : n = 1 := hn.elim (fun h => by cases h) id
      subst hn
      exact W.vret X.1 X.2.1 (hr.trans h1) hp hf hd hlocks
    · cases he
  · rename_i hi
    rw [hi] at hd hn
    have hn : n = 1 := hn.elim (fun h => by cases h) id
    subst hn
    split at he
    · rename_i w h2
      have h2 : st0 = [.int w] := h2
      subst h2
      split at he
      · rename_i h1
        cases he
        exact W.iret X.1 X.2.1 (hr.trans h1) hp hf hd hlocks
      · rename_i ty _ h1
        split at he
        · rename_i h3
          cases he
          exact W.zret X.1 X.2.1 (hr.trans h1) h3 hp hf hd hlocks
        · cases he
      · cases he
    · cases he
  · obtain ⟨-, h2⟩ := mm_bif1 he
    cases h2
  · cases he
end MMJ
