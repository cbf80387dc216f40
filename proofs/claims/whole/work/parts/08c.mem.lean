/-! THE SMALL MACHINE, 6: new cells, constants, three calls of the JDK's; all memory instructions at once. -/
section MMH
theorem t_TYd : ∀ ci, ci < 8 → ∀ j, j < t_NF ci → defaultValue (t_TY ci j) = (bif t_RF ci j then .null else .int 0) := by decide +kernel
theorem mm_ad_up {ad : Nat → Nat} {n q : Nat} (hn : n < 1000) : ∀ k, mm_okr n k → va_up ad n q k = ad k := by
  intro k hk
  unfold va_up
  rw [if_neg]
  rcases hk with h | h <;> omega
theorem mm_ce_old {ad : Nat → Nat} {ac : Nat → ClassId} {me : mm_M} {n k : Nat} {x : Int32} {y : Option Nat} {z : Nat → Nat → Int64} {d : Nat × Nat × Nat} (hk : k ≠ n) (hz : z k = me.2.2 k) : mm_ce ad ac (mm_nw me.1 n x, mm_nw me.2.1 n y, z) k d = mm_ce ad ac me k d := by
  have e : ∀ ci, mm_fv ad (mm_nw me.1 n x, mm_nw me.2.1 n y, z) ci k = mm_fv ad me ci k := fun ci => by
    funext b
    simp [mm_fv, mm_nw_ne hk]
  unfold mm_ce
  simp only [e, mm_nw_ne hk, hz]
theorem mm_okm_new {sh : mm_S} {me : mm_M} {d : Nat × Nat × Nat} {x : Int32} {z : Nat → Nat → Int64} (h : mm_okm sh me) : mm_okm (sh ++ [d]) (mm_nw me.1 sh.length x, mm_nw me.2.1 sh.length none, z) := by
  intro a j r ha hr
  have hr : mm_nw me.2.1 sh.length none a j = some r := hr
  by_cases h1 : a = sh.length
  · subst h1
    rw [mm_nw_at] at hr
    cases hr
  · rw [mm_nw_ne h1] at hr
    have h2 : a < sh.length := by simp at ha; omega
    rcases h a j r h2 hr with h3 | h3
    · exact Or.inl (by simp; omega)
    · exact Or.inr h3
/-- a new cell: the world with the new one behind the others -/
theorem mm_w_new {ad : Nat → Nat} {ac : Nat → ClassId} {sh : mm_S} {me : mm_M} {d : Nat × Nat × Nat} {q : Nat} {cA : ClassId} {z : Nat → Nat → Int64} (hn : sh.length < 1000) (hm : mm_okm sh me) (hz : ∀ k, k ≠ sh.length → z k = me.2.2 k) :
    mm_w (va_up ad sh.length q) (va_up ac sh.length cA) (sh ++ [d]) (mm_nw me.1 sh.length 0, mm_nw me.2.1 sh.length none, z) = mm_w ad ac sh me ++ [(q, mm_ce (va_up ad sh.length q) (va_up ac sh.length cA) (mm_nw me.1 sh.length 0, mm_nw me.2.1 sh.length none, z) sh.length d)] := by
  have e1 : mm_w (va_up ad sh.length q) (va_up ac sh.length cA) sh me = mm_w ad ac sh me := mm_w_eq (mm_ad_up hn) (fun k hk => by unfold va_up; rw [if_neg (by omega)]) hm
  rw [mm_w_app (me := me) (fun j d' hj => mm_ce_old (by have := (List.getElem?_eq_some_iff.mp hj).1; omega) (hz j (by have := (List.getElem?_eq_some_iff.mp hj).1; omega))), e1]
  congr 3
  unfold va_up
  rw [if_pos rfl]
theorem mm_ka_new {ac : Nat → ClassId} {sh : mm_S} {U : State} {d : Nat × Nat × Nat} {cA : ClassId} (h : mm_ka ac sh U) (hd : d.1 ≠ 0 → ArrOfT U cA (mm_aty d) ∧ va_RA U cA (mm_aty d)) : mm_ka (va_up ac sh.length cA) (sh ++ [d]) U := by
  intro k d' hk h0
  by_cases h1 : k = sh.length
  · subst h1
    rw [List.getElem?_append_right (Nat.le_refl _)] at hk
    simp at hk
    subst hk
    unfold va_up
    rw [if_pos rfl]
    exact hd h0
  · have h2 : k < (sh ++ [d]).length := (List.getElem?_eq_some_iff.mp hk).1
    have h3 : k < sh.length := by simp at h2; omega
    rw [List.getElem?_append_left h3] at hk
    unfold va_up
    rw [if_neg h1]
    exact h k d' hk h0
variable {p : Program} {l : Launch} {e : Env} {R : Room} {s : State} {m : MethodId} {args : Array Value} {below : List Frame} {meth : Method} {c : Code} {H : Heap} {locs : List Loc} {cells slots : Nat} {Q : State → Prop}
variable {pc mi : Nat} {ls : Array Slot} {D : va_G} {A : Nat → Prop} {E : mm_V} {ax ad : Nat → Nat} {ac : Nat → ClassId} {sh : mm_S} {me : mm_M}
theorem mm_newo (X : mm_X p s m args meth c mi D A E ax) (I : mm_I D ad ac sh me A ax s H locs) {x ci : Nat} {r : List Value} (hr : ∀ v ∈ r, mm_okv sh.length v) (hf : mm_fin2 t_NWl (t_CO mi) x = some ci) (hc8 : ci < 8) (hn : sh.length < 900) (hc1 : cells + 1 ≤ R.cells) (hs1 : slots + t_NF ci ≤ R.slots) (hd : decode (t_BC mi) pc = .ok (.new x, 3))
    (kk : ∀ (H1 : Heap) (q : Nat) (cA : ClassId), mm_I D (va_up ad sh.length q) (va_up ac sh.length cA) (sh ++ [(0, ci, t_NF ci)]) (mm_nw me.1 sh.length 0, mm_nw me.2.1 sh.length none, me.2.2) A ax s H1 locs → W p l e R s m args below meth c H1 locs (cells + 1) (slots + t_NF ci) Q (F0 m (pc + 3) ls ((Value.ref sh.length :: r).map (mm_v (va_up ad sh.length q))))) : W p l e R s m args below meth c H locs cells slots Q (F0 m pc ls (r.map (mm_v ad))) := by
  obtain ⟨⟨C, T, N⟩, hcl0, hlk⟩ := (nw_all _ (mm_fin2_in hf)).1 hc8
  have hcl := t_CLok hcl0
  have hN : N = t_NF ci := hcl.2.1
  subst hN
  obtain ⟨hx, hb, -, ho, hts, -, -, hA, -⟩ := id X
  refine va_new (fs := (List.range (t_NF ci)).map (fun j => bif t_RF ci j then .null else .int 0)) hx hb hts hcl.1 (t_TY ci) hcl.2.2.1 ho (hts _ hlk) (hts _ hcl.2.2.2.2.2.1) (hts _ hcl.2.2.2.2.2.2) (mm_K0 X) I.1 I.2.1 I.2.2.1 hA hcl0 ?_ hc1 hs1 hd ?_
  · intro j hj
    rw [t_TYd ci hc8 j hj]
    unfold vp_V
    simp [List.getD, hj]
  · intro q H1 hP hD hS
    have cA : ClassId := ac 0
    have e1 := mm_w_new (ad := ad) (ac := ac) (sh := sh) (me := me) (d := (0, ci, t_NF ci)) (q := q) (cA := ac 0) (z := me.2.2) (by omega) I.2.2.2.2.1 (fun _ _ => rfl)
    have e2 : mm_ce (va_up ad sh.length q) (va_up ac sh.length (ac 0)) (mm_nw me.1 sh.length 0, mm_nw me.2.1 sh.length none, me.2.2) sh.length (0, ci, t_NF ci) = .inr (ci, (List.range (t_NF ci)).map (fun j => bif t_RF ci j then Value.null else .int 0)) := by
      show Sum.inr (ci, _) = _
      congr 2
      apply List.map_congr_left
      intro j _
      simp [mm_fv, mm_nw_at, va_rf]
    rw [e2] at e1
    have k1 := kk H1 q (ac 0) ⟨by rw [e1]; exact hP, by rw [e1]; exact hD, hS, mm_ka_new I.2.2.2.1 (fun h => absurd rfl h), mm_okm_new I.2.2.2.2.1, fun k hk => by unfold va_up; rw [if_neg (by omega)]; exact I.2.2.2.2.2 k hk⟩
    have e3 : (Value.ref sh.length :: r).map (mm_v (va_up ad sh.length q)) = .ref q :: r.map (mm_v ad) := by
      rw [List.map_cons, mm_vs_eq (mm_ad_up (by omega)) hr]
      congr 1
      show Value.ref (va_up ad sh.length q sh.length) = _
      unfold va_up
      rw [if_pos rfl]
    rw [e3] at k1
    exact k1
theorem mm_newa (X : mm_X p s m args meth c mi D A E ax) (I : mm_I D ad ac sh me A ax s H locs) {ty : ArrayType} {kd tg : Nat} {n : Int32} {r : List Value} (hr : ∀ v ∈ r, mm_okv sh.length v) (ht : t_AT ty = some (kd, tg)) (hn0 : ¬ n < 0) (hn1 : n.toNatClampNeg < 100000) (hn : sh.length < 900) (hc1 : cells + 1 ≤ R.cells) (hs1 : slots + n.toNatClampNeg ≤ R.slots) (hd : decode (t_BC mi) pc = .ok (.newarray ty, 2))
    (kk : ∀ (H1 : Heap) (q : Nat) (cA : ClassId), mm_I D (va_up ad sh.length q) (va_up ac sh.length cA) (sh ++ [(kd, tg, n.toNatClampNeg)]) (mm_nw me.1 sh.length 0, mm_nw me.2.1 sh.length none, mm_nw me.2.2 sh.length 0) A ax s H1 locs → W p l e R s m args below meth c H1 locs (cells + 1) (slots + n.toNatClampNeg) Q (F0 m (pc + 2) ls ((Value.ref sh.length :: r).map (mm_v (va_up ad sh.length q))))) : W p l e R s m args below meth c H locs cells slots Q (F0 m pc ls ((Value.int n :: r).map (mm_v ad))) := by
  obtain ⟨hx, hb, -, ho, hts, -, -, hA, -⟩ := id X
  have key : ∀ (fty : FieldType) (a0 : vp_A), newarray.typeOf ty = fty → (Cond.arrayClass fty).before args s = true → (∀ cA : ClassId, vp_cell cA a0 = arrV cA n.toNatClampNeg (fun _ => defaultValue fty)) → componentBytes fty ≤ 8 → mm_aty (kd, tg, n.toNatClampNeg) = fty →
      (∀ (q : Nat) (cA : ClassId), mm_ce (va_up ad sh.length q) (va_up ac sh.length cA) (mm_nw me.1 sh.length 0, mm_nw me.2.1 sh.length none, mm_nw me.2.2 sh.length 0) sh.length (kd, tg, n.toNatClampNeg) = .inl (cA, a0)) → W p l e R s m args below meth c H locs cells slots Q (F0 m pc ls ((Value.int n :: r).map (mm_v ad))) := by
    intro fty a0 h1 h2 h3 h4 h5 h6
    refine va_newa (ty := fty) (a0 := a0) hx hb (by rw [h1]; exact h2) h1 (mm_K0 X) I.1 I.2.1 I.2.2.1 hA h3 hn0 rfl (by
      have : n.toNatClampNeg * componentBytes fty ≤ 100000 * 8 := Nat.mul_le_mul (by omega) h4
      omega) hc1 hs1 hd ?_
    intro q cA H1 hK hP hD hS
    have e1 := mm_w_new (ad := ad) (ac := ac) (sh := sh) (me := me) (d := (kd, tg, n.toNatClampNeg)) (q := q) (cA := cA) (z := mm_nw me.2.2 sh.length 0) (by omega) I.2.2.2.2.1 (fun k hk => mm_nw_ne hk)
    rw [h6 q cA] at e1
    have k1 := kk H1 q cA ⟨by rw [e1]; exact hP, by rw [e1]; exact hD, hS, mm_ka_new I.2.2.2.1 (fun _ => by rw [h5]; exact hK.2 0 _ rfl), mm_okm_new I.2.2.2.2.1, fun k hk => by unfold va_up; rw [if_neg (by omega)]; exact I.2.2.2.2.2 k hk⟩
    have e3 : (Value.ref sh.length :: r).map (mm_v (va_up ad sh.length q)) = .ref q :: r.map (mm_v ad) := by
      rw [List.map_cons, mm_vs_eq (mm_ad_up (by omega)) hr]
      congr 1
      show Value.ref (va_up ad sh.length q sh.length) = _
      unfold va_up
      rw [if_pos rfl]
    rw [e3] at k1
    exact k1
  have z0 : ∀ {f : Nat → Nat → Int32}, mm_nw f sh.length 0 sh.length = fun _ => 0 := by
    intro f
    funext b
    exact mm_nw_at
  have z1 : ∀ {f : Nat → Nat → Int64}, mm_nw f sh.length 0 sh.length = fun _ => 0 := by
    intro f
    funext b
    exact mm_nw_at
  have up : ∀ (cA : ClassId), va_up ac sh.length cA sh.length = cA := fun cA => by unfold va_up; rw [if_pos rfl]
  unfold t_AT at ht
  split at ht
  · cases ht
    refine key .int (n.toNatClampNeg, .inl (fun _ => 0)) rfl (hts _ ac_int) (fun _ => rfl) (by decide) rfl (fun q cA => ?_)
    show Sum.inl (va_up ac sh.length cA sh.length, n.toNatClampNeg, Sum.inl (mm_nw me.1 sh.length 0 sh.length)) = _
    rw [z0, up]
  · cases ht
    refine key .byte (n.toNatClampNeg, .inl (fun _ => 0)) rfl (hts _ ac_byte) (fun _ => rfl) (by decide) rfl (fun q cA => ?_)
    show Sum.inl (va_up ac sh.length cA sh.length, n.toNatClampNeg, Sum.inl (mm_nw me.1 sh.length 0 sh.length)) = _
    rw [z0, up]
  · cases ht
    refine key .long (n.toNatClampNeg, .inr (.inl (fun _ => 0))) rfl (hts _ ac_long) (fun _ => rfl) (by decide) rfl (fun q cA => ?_)
    show Sum.inl (va_up ac sh.length cA sh.length, n.toNatClampNeg, Sum.inr (Sum.inl (mm_nw me.2.2 sh.length 0 sh.length))) = _
    rw [z1, up]
  · cases ht
end MMH
