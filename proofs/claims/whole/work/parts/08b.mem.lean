/-! THE SMALL MACHINE, 5: arrays, new cells, statics, constants. -/
section MMG
variable {p : Program} {l : Launch} {e : Env} {R : Room} {s : State} {m : MethodId} {args : Array Value} {below : List Frame} {meth : Method} {c : Code} {H : Heap} {locs : List Loc} {cells slots : Nat} {Q : State → Prop}
variable {pc mi : Nat} {ls : Array Slot} {D : va_G} {A : Nat → Prop} {E : mm_V} {ax ad : Nat → Nat} {ac : Nat → ClassId} {sh : mm_S} {me : mm_M}
theorem mm_iald (X : mm_X p s m args meth c mi D A E ax) (I : mm_I D ad ac sh me A ax s H locs) {a n : Nat} {j : Int32} {r : List Value} (hs : sh[a]? = some (1, 0, n)) (hj : ¬ (j < 0 ∨ n ≤ j.toNatClampNeg)) (hd : decode (t_BC mi) pc = .ok (.iaload, 1))
    (kk : W p l e R s m args below meth c H locs cells slots Q (F0 m (pc + 1) ls ((Value.int (me.1 a j.toNatClampNeg) :: r).map (mm_v ad)))) : W p l e R s m args below meth c H locs cells slots Q (F0 m pc ls ((Value.int j :: Value.ref a :: r).map (mm_v ad))) :=
  va_iald X.1 X.2.1 (mm_K1 X I hs (by simp) rfl) I.1 a 0 (mm_w_at hs) rfl hj hd kk
theorem mm_bald (X : mm_X p s m args meth c mi D A E ax) (I : mm_I D ad ac sh me A ax s H locs) {a n : Nat} {j : Int32} {r : List Value} (hs : sh[a]? = some (1, 1, n)) (hj : ¬ (j < 0 ∨ n ≤ j.toNatClampNeg)) (hd : decode (t_BC mi) pc = .ok (.baload, 1))
    (kk : W p l e R s m args below meth c H locs cells slots Q (F0 m (pc + 1) ls ((Value.int (me.1 a j.toNatClampNeg) :: r).map (mm_v ad)))) : W p l e R s m args below meth c H locs cells slots Q (F0 m pc ls ((Value.int j :: Value.ref a :: r).map (mm_v ad))) :=
  va_bald X.1 X.2.1 (mm_K1 X I hs (by simp) rfl) I.1 a 0 (mm_w_at hs) rfl hj hd kk
theorem mm_lald (X : mm_X p s m args meth c mi D A E ax) (I : mm_I D ad ac sh me A ax s H locs) {a n : Nat} {j : Int32} {r : List Value} (hs : sh[a]? = some (2, 0, n)) (hj : ¬ (j < 0 ∨ n ≤ j.toNatClampNeg)) (hd : decode (t_BC mi) pc = .ok (.laload, 1))
    (kk : W p l e R s m args below meth c H locs cells slots Q (F0 m (pc + 1) ls ((Value.long (me.2.2 a j.toNatClampNeg) :: r).map (mm_v ad)))) : W p l e R s m args below meth c H locs cells slots Q (F0 m pc ls ((Value.int j :: Value.ref a :: r).map (mm_v ad))) :=
  va_lald X.1 X.2.1 (mm_K1 X I hs (by simp) rfl) I.1 a 0 (mm_w_at hs) rfl hj hd kk
theorem mm_xald (X : mm_X p s m args meth c mi D A E ax) (I : mm_I D ad ac sh me A ax s H locs) {a : Nat} {x : Nat × (Nat → Int32)} {j : Int32} {r : List Value} (hs : mm_xi E a = some x) (hj : ¬ (j < 0 ∨ x.1 ≤ j.toNatClampNeg)) (hd : decode (t_BC mi) pc = .ok (.iaload, 1))
    (kk : W p l e R s m args below meth c H locs cells slots Q (F0 m (pc + 1) ls ((Value.int (x.2 j.toNatClampNeg) :: r).map (mm_v ad)))) : W p l e R s m args below meth c H locs cells slots Q (F0 m pc ls ((Value.int j :: Value.ref a :: r).map (mm_v ad))) := by
  have ha : 1000 ≤ a := by
    unfold mm_xi at hs
    split at hs <;> first | omega | cases hs
  have e1 : ad a = ax a := I.2.2.2.2.2 a ha
  show W p l e R s m args below meth c H locs cells slots Q (F0 m pc ls (.int j :: .ref (ad a) :: r.map (mm_v ad)))
  rw [e1]
  exact va_ti X.1 X.2.1 (X.2.2.2.2.2.2.2.2.1.1 a x hs) I.2.2.1 hj rfl hd kk
theorem mm_xb_of {a : Nat} {x : Nat × (Nat → Int32)} (h : mm_xb a = some x) : ∃ n, n < 30 ∧ a = 2100 + n ∧ x = ((t_SB.getD n []).length, fun j => (t_SB.getD n []).getD j 0) := by
  unfold mm_xb at h
  obtain ⟨h1, h2⟩ := mm_bif1 h
  obtain ⟨h3, h4⟩ := mm_andb h1
  have h3 := Nat.le_of_ble_eq_true h3
  have h4 := Nat.blt_eq.mp h4
  exact ⟨a - 2100, by omega, by omega, h2.symm⟩
theorem mm_xs_of {a : Nat} (h : mm_xs a = true) : ∃ n, n < 30 ∧ a = 2000 + n := by
  unfold mm_xs at h
  obtain ⟨h3, h4⟩ := mm_andb h
  have h3 := Nat.le_of_ble_eq_true h3
  have h4 := Nat.blt_eq.mp h4
  exact ⟨a - 2000, by omega, by omega⟩
theorem mm_xbld (X : mm_X p s m args meth c mi D A E ax) (I : mm_I D ad ac sh me A ax s H locs) {a : Nat} {x : Nat × (Nat → Int32)} {j : Int32} {r : List Value} (hs : mm_xb a = some x) (hj : ¬ (j < 0 ∨ x.1 ≤ j.toNatClampNeg)) (hd : decode (t_BC mi) pc = .ok (.baload, 1))
    (kk : W p l e R s m args below meth c H locs cells slots Q (F0 m (pc + 1) ls ((Value.int (x.2 j.toNatClampNeg) :: r).map (mm_v ad)))) : W p l e R s m args below meth c H locs cells slots Q (F0 m pc ls ((Value.int j :: Value.ref a :: r).map (mm_v ad))) := by
  obtain ⟨n, hn, rfl, rfl⟩ := mm_xb_of hs
  have e1 : ad (2100 + n) = ax (2100 + n) := I.2.2.2.2.2 _ (by omega)
  show W p l e R s m args below meth c H locs cells slots Q (F0 m pc ls (.int j :: .ref (ad (2100 + n)) :: r.map (mm_v ad)))
  rw [e1]
  exact va_tb X.1 X.2.1 (X.2.2.2.2.2.2.2.2.1.2.2.1 n hn).2.2.2 I.2.2.1 hj rfl hd kk
theorem mm_iast (X : mm_X p s m args meth c mi D A E ax) (I : mm_I D ad ac sh me A ax s H locs) {a n : Nat} {j y : Int32} {r : List Value} (hs : sh[a]? = some (1, 0, n)) (hj : ¬ (j < 0 ∨ n ≤ j.toNatClampNeg)) (hd : decode (t_BC mi) pc = .ok (.iastore, 1))
    (kk : ∀ (H1 : Heap) (locs1 : List Loc), mm_I D ad ac sh (mm_up me.1 a j.toNatClampNeg y, me.2.1, me.2.2) A ax s H1 locs1 → W p l e R s m args below meth c H1 locs1 cells slots Q (F0 m (pc + 1) ls (r.map (mm_v ad)))) : W p l e R s m args below meth c H locs cells slots Q (F0 m pc ls ((Value.int y :: Value.int j :: Value.ref a :: r).map (mm_v ad))) := by
  refine va_iast X.1 X.2.1 (mm_K1 X I hs (by simp) rfl) I.1 I.2.1 I.2.2.1 a 0 (mm_w_at hs) rfl hj hd ?_
  intro H1 locs1 hP hD hS
  have e1 := mm_set_a (ad := ad) (ac := ac) (me := me) (j := j.toNatClampNeg) (x := y) hs
  exact kk H1 locs1 ⟨by rw [← e1]; exact hP, by rw [← e1]; exact hD, hS, I.2.2.2.1, I.2.2.2.2.1, I.2.2.2.2.2⟩
theorem mm_bast (X : mm_X p s m args meth c mi D A E ax) (I : mm_I D ad ac sh me A ax s H locs) {a n : Nat} {j y : Int32} {r : List Value} (hs : sh[a]? = some (1, 1, n)) (hj : ¬ (j < 0 ∨ n ≤ j.toNatClampNeg)) (hd : decode (t_BC mi) pc = .ok (.bastore, 1))
    (kk : ∀ (H1 : Heap) (locs1 : List Loc), mm_I D ad ac sh (mm_up me.1 a j.toNatClampNeg y.toInt8.toInt32, me.2.1, me.2.2) A ax s H1 locs1 → W p l e R s m args below meth c H1 locs1 cells slots Q (F0 m (pc + 1) ls (r.map (mm_v ad)))) : W p l e R s m args below meth c H locs cells slots Q (F0 m pc ls ((Value.int y :: Value.int j :: Value.ref a :: r).map (mm_v ad))) := by
  refine va_bast X.1 X.2.1 (mm_K1 X I hs (by simp) rfl) I.1 I.2.1 I.2.2.1 a 0 (mm_w_at hs) rfl hj hd ?_
  intro H1 locs1 hP hD hS
  have e1 := mm_set_a (ad := ad) (ac := ac) (me := me) (j := j.toNatClampNeg) (x := y.toInt8.toInt32) hs
  exact kk H1 locs1 ⟨by rw [← e1]; exact hP, by rw [← e1]; exact hD, hS, I.2.2.2.1, I.2.2.2.2.1, I.2.2.2.2.2⟩
theorem mm_last (X : mm_X p s m args meth c mi D A E ax) (I : mm_I D ad ac sh me A ax s H locs) {a n : Nat} {j : Int32} {y : Int64} {r : List Value} (hs : sh[a]? = some (2, 0, n)) (hj : ¬ (j < 0 ∨ n ≤ j.toNatClampNeg)) (hd : decode (t_BC mi) pc = .ok (.lastore, 1))
    (kk : ∀ (H1 : Heap) (locs1 : List Loc), mm_I D ad ac sh (me.1, me.2.1, mm_up me.2.2 a j.toNatClampNeg y) A ax s H1 locs1 → W p l e R s m args below meth c H1 locs1 cells slots Q (F0 m (pc + 1) ls (r.map (mm_v ad)))) : W p l e R s m args below meth c H locs cells slots Q (F0 m pc ls ((Value.long y :: Value.int j :: Value.ref a :: r).map (mm_v ad))) := by
  refine va_last X.1 X.2.1 (mm_K1 X I hs (by simp) rfl) I.1 I.2.1 I.2.2.1 a 0 (mm_w_at hs) rfl hj hd ?_
  intro H1 locs1 hP hD hS
  have e1 := mm_set_l (ad := ad) (ac := ac) (me := me) (j := j.toNatClampNeg) (x := y) hs
  exact kk H1 locs1 ⟨by rw [← e1]; exact hP, by rw [← e1]; exact hD, hS, I.2.2.2.1, I.2.2.2.2.1, I.2.2.2.2.2⟩
theorem mm_alen (X : mm_X p s m args meth c mi D A E ax) (I : mm_I D ad ac sh me A ax s H locs) {a tg n : Nat} {r : List Value} (hs : sh[a]? = some (1, tg, n)) (hd : decode (t_BC mi) pc = .ok (.arraylength, 1))
    (kk : W p l e R s m args below meth c H locs cells slots Q (F0 m (pc + 1) ls ((Value.int (Int32.ofNat n) :: r).map (mm_v ad)))) : W p l e R s m args below meth c H locs cells slots Q (F0 m pc ls ((Value.ref a :: r).map (mm_v ad))) :=
  va_alen X.1 X.2.1 (mm_K1 X I hs (by simp) rfl) I.1 a 0 (mm_w_at hs) rfl rfl hd kk
theorem mm_xalen (X : mm_X p s m args meth c mi D A E ax) (I : mm_I D ad ac sh me A ax s H locs) {a : Nat} {x : Nat × (Nat → Int32)} {r : List Value} (hs : mm_xi E a = some x) (hd : decode (t_BC mi) pc = .ok (.arraylength, 1))
    (kk : W p l e R s m args below meth c H locs cells slots Q (F0 m (pc + 1) ls ((Value.int (Int32.ofNat x.1) :: r).map (mm_v ad)))) : W p l e R s m args below meth c H locs cells slots Q (F0 m pc ls ((Value.ref a :: r).map (mm_v ad))) := by
  have ha : 1000 ≤ a := by
    unfold mm_xi at hs
    split at hs <;> first | omega | cases hs
  have e1 : ad a = ax a := I.2.2.2.2.2 a ha
  show W p l e R s m args below meth c H locs cells slots Q (F0 m pc ls (.ref (ad a) :: r.map (mm_v ad)))
  rw [e1]
  exact va_tlen X.1 X.2.1 (X.2.2.2.2.2.2.2.2.1.1 a x hs) I.2.2.1 rfl hd kk
theorem mm_xblen (X : mm_X p s m args meth c mi D A E ax) (I : mm_I D ad ac sh me A ax s H locs) {a : Nat} {x : Nat × (Nat → Int32)} {r : List Value} (hs : mm_xb a = some x) (hd : decode (t_BC mi) pc = .ok (.arraylength, 1))
    (kk : W p l e R s m args below meth c H locs cells slots Q (F0 m (pc + 1) ls ((Value.int (Int32.ofNat x.1) :: r).map (mm_v ad)))) : W p l e R s m args below meth c H locs cells slots Q (F0 m pc ls ((Value.ref a :: r).map (mm_v ad))) := by
  obtain ⟨n, hn, rfl, rfl⟩ := mm_xb_of hs
  have e1 : ad (2100 + n) = ax (2100 + n) := I.2.2.2.2.2 _ (by omega)
  show W p l e R s m args below meth c H locs cells slots Q (F0 m pc ls (.ref (ad (2100 + n)) :: r.map (mm_v ad)))
  rw [e1]
  exact va_tlen X.1 X.2.1 (X.2.2.2.2.2.2.2.2.1.2.2.1 n hn).2.2.2 I.2.2.1 rfl hd kk
/-- the two fields of a text -/
theorem mm_xget (X : mm_X p s m args meth c mi D A E ax) (I : mm_I D ad ac sh me A ax s H locs) {a x b : Nat} {r : List Value} {v : Value} (hf : mm_fin2 t_XFl (t_CO mi) x = some b) (hs : mm_xs a = true) (hv : v = bif Nat.beq b 0 then .ref (a + 100) else .int 0) (hd : decode (t_BC mi) pc = .ok (.getfield x, 3))
    (kk : W p l e R s m args below meth c H locs cells slots Q (F0 m (pc + 3) ls ((v :: r).map (mm_v ad)))) : W p l e R s m args below meth c H locs cells slots Q (F0 m pc ls ((Value.ref a :: r).map (mm_v ad))) := by
  obtain ⟨n, hn, rfl⟩ := mm_xs_of hs
  have e1 : ad (2000 + n) = ax (2000 + n) := I.2.2.2.2.2 _ (by omega)
  obtain ⟨-, h2, h3, -⟩ := X.2.2.2.2.2.2.2.2.1.2.2.1 n hn
  show W p l e R s m args below meth c H locs cells slots Q (F0 m pc ls (.ref (ad (2000 + n)) :: r.map (mm_v ad)))
  rw [e1]
  rcases xf_all _ (mm_fin2_in hf) with ⟨hb, hw⟩ | ⟨hb, hw⟩
  · have hb : b = 0 := hb
    subst hb
    have hv : v = .ref (2000 + n + 100) := hv
    subst hv
    have e2 : ad (2000 + n + 100) = ax (2100 + n) := by
      rw [show 2000 + n + 100 = 2100 + n by omega]
      exact I.2.2.2.2.2 _ (by omega)
    refine vk_getf X.1 X.2.1 h3 I.2.2.1 X.2.2.2.1 (X.2.2.2.2.1 _ hw) (fun _ h => h) hd ?_
    rw [← e2]
    exact kk
  · have hb : b = 1 := hb
    subst hb
    have hv : v = .int 0 := hv
    subst hv
    exact vk_getf X.1 X.2.1 h2 I.2.2.1 X.2.2.2.1 (X.2.2.2.2.1 _ hw) (fun _ h => h) hd kk
theorem mm_gets (X : mm_X p s m args meth c mi D A E ax) (I : mm_I D ad ac sh me A ax s H locs) {x n : Nat} {r : List Value} (hf : mm_fin2 t_GSl (t_CO mi) x = some n) (hn : n < t_SFl.length) (hz : mm_v ad (mm_zz E (t_SF n).2.2.2) = mm_v ax (mm_zz E (t_SF n).2.2.2)) (hd : decode (t_BC mi) pc = .ok (.getstatic x, 3))
    (kk : W p l e R s m args below meth c H locs cells slots Q (F0 m (pc + 3) ls ((mm_zz E (t_SF n).2.2.2 :: r).map (mm_v ad)))) : W p l e R s m args below meth c H locs cells slots Q (F0 m pc ls (r.map (mm_v ad))) := by
  refine va_gets X.1 X.2.1 (X.2.2.2.2.2.2.2.2.1.2.1 n hn) I.2.2.1 X.2.2.2.1 (X.2.2.2.2.1 _ (gs_all _ (mm_fin2_in hf))) (fun _ h => h) hd ?_
  rw [← hz]
  exact kk
theorem mm_ldcS (X : mm_X p s m args meth c mi D A E ax) (I : mm_I D ad ac sh me A ax s H locs) {x n : Nat} {r : List Value} (hf : mm_fin2 t_STl (t_CO mi) x = some n) (hd : decode (t_BC mi) pc = .ok (.ldc x, 2))
    (kk : W p l e R s m args below meth c H locs cells slots Q (F0 m (pc + 2) ls ((Value.ref (2000 + n) :: r).map (mm_v ad)))) : W p l e R s m args below meth c H locs cells slots Q (F0 m pc ls (r.map (mm_v ad))) := by
  obtain ⟨tx, ht⟩ := X.2.2.2.2.2.2.2.2.1.2.2.2.1 _ (mm_fin2_in hf)
  have e1 : ad (2000 + n) = ax (2000 + n) := I.2.2.2.2.2 _ (by omega)
  refine va_ldcS X.1 X.2.1 X.2.2.2.1 ht hd ?_
  rw [← e1]
  exact kk
end MMG
