/-! THE SMALL MACHINE, 2: its memory, and the world that it stands for. A cell k of the shape sh: (0, class, fields), (1, tag, length) an array of ints and the like, (2, 0, length) of longs, (3, tag, length) of references. -/
section MMD
abbrev mm_M : Type := (Nat → Nat → Int32) × (Nat → Nat → Option Nat) × (Nat → Nat → Int64)
abbrev mm_S : Type := List (Nat × Nat × Nat)
def mm_up {α : Type} (f : Nat → Nat → α) (k j : Nat) (x : α) : Nat → Nat → α := fun a b => bif Nat.beq a k && Nat.beq b j then x else f a b
def mm_nw {α : Type} (f : Nat → Nat → α) (k : Nat) (x : α) : Nat → Nat → α := fun a b => bif Nat.beq a k then x else f a b
theorem mm_beq (a k : Nat) : Nat.beq a k = decide (a = k) := by
  by_cases h : a = k
  · subst h; simp
  · have : Nat.beq a k = false := by
      cases hb : Nat.beq a k with
      | false => rfl
      | true => exact absurd (Nat.eq_of_beq_eq_true hb) h
    rw [this]; simp [h]
theorem mm_up_ne {α : Type} {f : Nat → Nat → α} {k j a : Nat} {x : α} (h : a ≠ k) : mm_up f k j x a = f a := by
  funext b
  simp [mm_up, mm_beq, h]
theorem mm_nw_ne {α : Type} {f : Nat → Nat → α} {k a : Nat} {x : α} (h : a ≠ k) : mm_nw f k x a = f a := by
  funext b
  simp [mm_nw, mm_beq, h]
theorem mm_nw_at {α : Type} {f : Nat → Nat → α} {k b : Nat} {x : α} : mm_nw f k x k b = x := by
  simp [mm_nw, mm_beq]
theorem mm_up_at {α : Type} {f : Nat → Nat → α} {k j b : Nat} {x : α} : mm_up f k j x k b = if b = j then x else f k b := by
  simp only [mm_up, mm_beq, decide_true, Bool.true_and]
  by_cases h : b = j <;> simp [h]
theorem mm_up_row {f : Nat → Nat → Int32} {k j : Nat} {x : Int32} : mm_up f k j x k = upd (f k) j x := by
  funext b
  rw [mm_up_at]
  rfl
def mm_fv (ad : Nat → Nat) (me : mm_M) (ci k j : Nat) : Value := bif t_RF ci j then va_rf ((me.2.1 k j).map ad) else .int (me.1 k j)
def mm_ce (ad : Nat → Nat) (ac : Nat → ClassId) (me : mm_M) (k : Nat) (d : Nat × Nat × Nat) : va_E := match d.1 with
  | 0 => .inr (d.2.1, (List.range d.2.2).map (mm_fv ad me d.2.1 k))
  | 1 => .inl (ac k, d.2.2, .inl (me.1 k))
  | 2 => .inl (ac k, d.2.2, .inr (.inl (me.2.2 k)))
  | _ => .inl (ac k, d.2.2, .inr (.inr (.inr (.inr (fun j => (me.2.1 k j).map ad)))))
def mm_w (ad : Nat → Nat) (ac : Nat → ClassId) (sh : mm_S) (me : mm_M) : va_W := sh.mapIdx (fun k d => (ad k, mm_ce ad ac me k d))
theorem mm_w_at {ad : Nat → Nat} {ac : Nat → ClassId} {sh : mm_S} {me : mm_M} {k : Nat} {d : Nat × Nat × Nat} (h : sh[k]? = some d) : (mm_w ad ac sh me)[k]? = some (ad k, mm_ce ad ac me k d) := by
  unfold mm_w
  rw [List.getElem?_mapIdx, h]
  rfl
theorem mm_w_len {ad : Nat → Nat} {ac : Nat → ClassId} {sh : mm_S} {me : mm_M} : (mm_w ad ac sh me).length = sh.length := by
  unfold mm_w
  exact List.length_mapIdx
theorem mm_w_inv {ad : Nat → Nat} {ac : Nat → ClassId} {sh : mm_S} {me : mm_M} {k : Nat} {q : Nat × va_E} (h : (mm_w ad ac sh me)[k]? = some q) : ∃ d, sh[k]? = some d ∧ q = (ad k, mm_ce ad ac me k d) := by
  unfold mm_w at h
  rw [List.getElem?_mapIdx] at h
  cases hd : sh[k]? with
  | none => rw [hd] at h; simp at h
  | some d => rw [hd] at h; simp at h; exact ⟨d, rfl, h.symm⟩
theorem mm_w_set {ad : Nat → Nat} {ac : Nat → ClassId} {sh : mm_S} {me me' : mm_M} {k : Nat} {d : Nat × Nat × Nat} {x : va_E} (hd : sh[k]? = some d) (hx : x = mm_ce ad ac me' k d) (h : ∀ (j : Nat) (d' : Nat × Nat × Nat), j ≠ k → sh[j]? = some d' → mm_ce ad ac me' j d' = mm_ce ad ac me j d') :
    (mm_w ad ac sh me).set k (ad k, x) = mm_w ad ac sh me' := by
  apply List.ext_getElem?
  intro j
  by_cases hj : k = j
  · subst hj
    rw [List.getElem?_set_self (by rw [mm_w_len]; exact (List.getElem?_eq_some_iff.mp hd).1), mm_w_at hd, hx]
  · rw [List.getElem?_set_ne hj]
    cases hd' : sh[j]? with
    | none =>
      have e1 : (mm_w ad ac sh me)[j]? = none := List.getElem?_eq_none (by rw [mm_w_len]; exact List.getElem?_eq_none_iff.mp hd')
      have e2 : (mm_w ad ac sh me')[j]? = none := List.getElem?_eq_none (by rw [mm_w_len]; exact List.getElem?_eq_none_iff.mp hd')
      rw [e1, e2]
    | some d' => rw [mm_w_at hd', mm_w_at hd', h j d' (fun q => hj q.symm) hd']
theorem mm_map_set {α : Type} {n j : Nat} {f g : Nat → α} {y : α} (hy : g j = y) (h : ∀ i, i < n → i ≠ j → g i = f i) : ((List.range n).map f).set j y = (List.range n).map g := by
  apply List.ext_getElem?
  intro i
  by_cases hi : i < n
  · by_cases hj : j = i
    · subst hj
      rw [List.getElem?_set_self (by simp [hi])]
      simp [hi, hy]
    · rw [List.getElem?_set_ne hj]
      simp [hi, h i hi (fun q => hj q.symm)]
  · rw [List.getElem?_eq_none (by simp; omega), List.getElem?_eq_none (by simp; omega)]
/-- an int comes into field j of the object k -/
theorem mm_set_i {ad : Nat → Nat} {ac : Nat → ClassId} {sh : mm_S} {me : mm_M} {k ci n j : Nat} {x : Int32} (hd : sh[k]? = some (0, ci, n)) (hr : t_RF ci j = false) :
    (mm_w ad ac sh me).set k (ad k, .inr (ci, ((List.range n).map (mm_fv ad me ci k)).set j (.int x))) = mm_w ad ac sh (mm_up me.1 k j x, me.2.1, me.2.2) := by
  refine mm_w_set hd ?_ ?_
  · show _ = Sum.inr (ci, (List.range n).map (mm_fv ad (mm_up me.1 k j x, me.2.1, me.2.2) ci k))
    rw [mm_map_set]
    · simp [mm_fv, hr, mm_up_at]
    · intro i _ hi
      simp [mm_fv, mm_up_at, hi]
  · intro a d' ha hd'
    unfold mm_ce
    simp only [mm_up_ne ha]
    have e : ∀ ci, mm_fv ad (mm_up me.1 k j x, me.2.1, me.2.2) ci a = mm_fv ad me ci a := fun ci => by
      funext b
      simp [mm_fv, mm_up_ne ha]
    rw [e]
/-- a reference comes into field j of the object k -/
theorem mm_set_r {ad : Nat → Nat} {ac : Nat → ClassId} {sh : mm_S} {me : mm_M} {k ci n j : Nat} {x : Option Nat} (hd : sh[k]? = some (0, ci, n)) (hr : t_RF ci j = true) :
    (mm_w ad ac sh me).set k (ad k, .inr (ci, ((List.range n).map (mm_fv ad me ci k)).set j (va_rf (x.map ad)))) = mm_w ad ac sh (me.1, mm_up me.2.1 k j x, me.2.2) := by
  refine mm_w_set hd ?_ ?_
  · show _ = Sum.inr (ci, (List.range n).map (mm_fv ad (me.1, mm_up me.2.1 k j x, me.2.2) ci k))
    rw [mm_map_set]
    · simp [mm_fv, hr, mm_up_at]
    · intro i _ hi
      simp [mm_fv, mm_up_at, hi]
  · intro a d' ha hd'
    unfold mm_ce
    simp only [mm_up_ne ha]
    have e : ∀ ci, mm_fv ad (me.1, mm_up me.2.1 k j x, me.2.2) ci a = mm_fv ad me ci a := fun ci => by
      funext b
      simp [mm_fv, mm_up_ne ha]
    rw [e]
/-- an int comes into an array -/
theorem mm_set_a {ad : Nat → Nat} {ac : Nat → ClassId} {sh : mm_S} {me : mm_M} {k ty n j : Nat} {x : Int32} (hd : sh[k]? = some (1, ty, n)) :
    (mm_w ad ac sh me).set k (ad k, .inl (ac k, n, .inl (upd (me.1 k) j x))) = mm_w ad ac sh (mm_up me.1 k j x, me.2.1, me.2.2) := by
  refine mm_w_set hd ?_ ?_
  · show _ = Sum.inl (ac k, n, Sum.inl (mm_up me.1 k j x k))
    rw [mm_up_row]
  · intro a d' ha hd'
    unfold mm_ce
    simp only [mm_up_ne ha]
    have e : ∀ ci, mm_fv ad (mm_up me.1 k j x, me.2.1, me.2.2) ci a = mm_fv ad me ci a := fun ci => by
      funext b
      simp [mm_fv, mm_up_ne ha]
    rw [e]
/-- a long comes into an array -/
theorem mm_set_l {ad : Nat → Nat} {ac : Nat → ClassId} {sh : mm_S} {me : mm_M} {k ty n j : Nat} {x : Int64} (hd : sh[k]? = some (2, ty, n)) :
    (mm_w ad ac sh me).set k (ad k, .inl (ac k, n, .inr (.inl (vp_updL (me.2.2 k) j x)))) = mm_w ad ac sh (me.1, me.2.1, mm_up me.2.2 k j x) := by
  refine mm_w_set hd ?_ ?_
  · show _ = Sum.inl (ac k, n, Sum.inr (Sum.inl (mm_up me.2.2 k j x k)))
    have e : mm_up me.2.2 k j x k = vp_updL (me.2.2 k) j x := by
      funext b
      rw [mm_up_at]
      rfl
    rw [e]
  · intro a d' ha hd'
    unfold mm_ce
    simp only [mm_up_ne ha]
    have e : ∀ ci, mm_fv ad (me.1, me.2.1, mm_up me.2.2 k j x) ci a = mm_fv ad me ci a := fun ci => by
      funext b
      simp [mm_fv]
    rw [e]
/-- references that stand in the world, or outside it -/
def mm_okr (n k : Nat) : Prop := k < n ∨ 1000 ≤ k
def mm_okv (n : Nat) (v : Value) : Prop := match v with
  | .ref k => mm_okr n k
  | _ => True
def mm_okm (sh : mm_S) (me : mm_M) : Prop := ∀ (a j r : Nat), a < sh.length → me.2.1 a j = some r → mm_okr sh.length r
theorem mm_v_eq {ad ad' : Nat → Nat} {n : Nat} {v : Value} (h : ∀ k, mm_okr n k → ad' k = ad k) (hv : mm_okv n v) : mm_v ad' v = mm_v ad v := by
  cases v <;> first | rfl | skip
  simp only [mm_v]
  rw [h _ hv]
theorem mm_vs_eq {ad ad' : Nat → Nat} {n : Nat} {vs : List Value} (h : ∀ k, mm_okr n k → ad' k = ad k) (hv : ∀ v ∈ vs, mm_okv n v) : vs.map (mm_v ad') = vs.map (mm_v ad) :=
  List.map_congr_left fun v q => mm_v_eq h (hv v q)
/-- the world stays when addresses are changed that it doesn't use -/
theorem mm_w_eq {ad ad' : Nat → Nat} {ac ac' : Nat → ClassId} {sh : mm_S} {me : mm_M} (h : ∀ k, mm_okr sh.length k → ad' k = ad k) (hc : ∀ k, k < sh.length → ac' k = ac k) (hm : mm_okm sh me) : mm_w ad' ac' sh me = mm_w ad ac sh me := by
  apply List.ext_getElem?
  intro k
  cases hd : sh[k]? with
  | none =>
    have e1 : (mm_w ad ac sh me)[k]? = none := List.getElem?_eq_none (by rw [mm_w_len]; exact List.getElem?_eq_none_iff.mp hd)
    have e2 : (mm_w ad' ac' sh me)[k]? = none := List.getElem?_eq_none (by rw [mm_w_len]; exact List.getElem?_eq_none_iff.mp hd)
    rw [e1, e2]
  | some d =>
    have hk : k < sh.length := (List.getElem?_eq_some_iff.mp hd).1
    rw [mm_w_at hd, mm_w_at hd, h k (Or.inl hk)]
    have er : ∀ j, (me.2.1 k j).map ad' = (me.2.1 k j).map ad := fun j => by
      cases hr : me.2.1 k j with
      | none => rfl
      | some r =>
        simp only [Option.map_some]
        rw [h r (hm k j r hk hr)]
    have e : ∀ ci, mm_fv ad' me ci k = mm_fv ad me ci k := fun ci => by
      funext j
      simp only [mm_fv, er]
    have e2 : mm_ce ad' ac' me k d = mm_ce ad ac me k d := by
      unfold mm_ce
      simp only [e, er, hc k hk]
    rw [e2]
/-- a new cell behind the others -/
theorem mm_w_app {ad : Nat → Nat} {ac : Nat → ClassId} {sh : mm_S} {me me' : mm_M} {d : Nat × Nat × Nat} (h : ∀ (j : Nat) (d' : Nat × Nat × Nat), sh[j]? = some d' → mm_ce ad ac me' j d' = mm_ce ad ac me j d') :
    mm_w ad ac (sh ++ [d]) me' = mm_w ad ac sh me ++ [(ad sh.length, mm_ce ad ac me' sh.length d)] := by
  unfold mm_w
  rw [List.mapIdx_append]
  congr 1
  · apply List.ext_getElem?
    intro j
    rw [List.getElem?_mapIdx, List.getElem?_mapIdx]
    cases hd : sh[j]? with
    | none => rfl
    | some d' => simp only [Option.map_some]; rw [h j d' hd]
  · simp
end MMD
