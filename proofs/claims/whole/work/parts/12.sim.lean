/-! THE SMALL MACHINE, 11: the machine follows a run. -/
section MML
theorem mm_pure_ok {i : Instr} {k : Int32} {st st' : List Value} {n : Nat} (h : mm_pure i k st = some st') (hst : ∀ v ∈ st, mm_okv n v) : ∀ v ∈ st', mm_okv n v := by
  unfold mm_pure at h
  have t : ∀ {x : Value} {r : List Value}, mm_okv n x → (∀ v ∈ r, mm_okv n v) → ∀ v ∈ x :: r, mm_okv n v := fun hx hr v hv => (List.mem_cons.mp hv).elim (fun q => by rw [q]; exact hx) (hr v)
  have u : ∀ {x : Value} {r : List Value}, (∀ v ∈ x :: r, mm_okv n v) → mm_okv n x ∧ ∀ v ∈ r, mm_okv n v := fun h => ⟨h _ List.mem_cons_self, fun v hv => h v (List.mem_cons_of_mem _ hv)⟩
  split at h
  · cases h; exact t trivial hst
  · cases h; exact t trivial hst
  · cases h; exact t trivial hst
  · split at h
    · cases h; exact t trivial (u (u hst).2).2
    · cases h
  · split at h
    · cases h; exact t trivial (u (u hst).2).2
    · cases h
  · split at h
    · cases h; exact t trivial (u (u hst).2).2
    · cases h
  · split at h
    · cases h; exact t trivial (u (u hst).2).2
    · cases h
  · split at h
    · cases h; exact t trivial (u (u hst).2).2
    · cases h
  · split at h
    · cases h; exact t trivial (u (u hst).2).2
    · cases h
  · split at h
    · cases h; exact t trivial (u (u hst).2).2
    · cases h
  · split at h
    · cases h; exact t trivial (u (u hst).2).2
    · cases h
  · split at h
    · cases h; exact t trivial (u (u hst).2).2
    · cases h
  · split at h
    · split at h
      · cases h
      · cases h; exact t trivial (u (u hst).2).2
    · cases h
  · split at h
    · split at h
      · cases h
      · cases h; exact t trivial (u (u hst).2).2
    · cases h
  · split at h
    · cases h; exact t trivial (u hst).2
    · cases h
  · split at h
    · cases h; exact t trivial (u hst).2
    · cases h
  · split at h
    · cases h; exact t trivial (u hst).2
    · cases h
  · split at h
    · cases h; exact t trivial (u hst).2
    · cases h
  · split at h
    · cases h; exact t trivial (u hst).2
    · cases h
  · split at h
    · cases h; exact t trivial (u (u hst).2).2
    · cases h
  · cases h; exact t trivial hst
  · split at h
    · cases h; exact t trivial (u (u hst).2).2
    · cases h
  · split at h
    · cases h; exact t trivial (u (u hst).2).2
    · cases h
  · split at h
    · split at h
      · cases h; exact t (u hst).1 hst
      · cases h
    · cases h
  · split at h
    · split at h
      · cases h; exact (u hst).2
      · cases h
    · cases h
  · split at h
    · split at h
      · cases h; exact t (u hst).1 (t (u (u hst).2).1 (t (u hst).1 (u (u hst).2).2))
      · cases h
    · cases h
  · split at h
    · split at h
      · cases h; exact t (u hst).1 (t (u (u hst).2).1 (t (u (u (u hst).2).2).1 (t (u hst).1 (u (u (u hst).2).2).2)))
      · cases h
    · cases h
  · split at h
    · split at h
      · cases h; exact t (u hst).1 (t (u (u hst).2).1 (t (u hst).1 (t (u (u hst).2).1 (u (u hst).2).2)))
      · cases h
    · cases h
  · cases h
theorem mm_loc_ok {i : Instr} {k : Int32} {lo lo' : List (Option Value)} {st st' : List Value} {n : Nat} (h : mm_loc i k lo st = some (lo', st')) (hst : ∀ v ∈ st, mm_okv n v) (hlo : ∀ v, some v ∈ lo → mm_okv n v) : (∀ v ∈ st', mm_okv n v) ∧ ∀ v, some v ∈ lo' → mm_okv n v := by
  unfold mm_loc at h
  have t : ∀ {x : Value} {r : List Value}, mm_okv n x → (∀ v ∈ r, mm_okv n v) → ∀ v ∈ x :: r, mm_okv n v := fun hx hr v hv => (List.mem_cons.mp hv).elim (fun q => by rw [q]; exact hx) (hr v)
  have u : ∀ {x : Value} {r : List Value}, (∀ v ∈ x :: r, mm_okv n v) → mm_okv n x ∧ ∀ v ∈ r, mm_okv n v := fun h => ⟨h _ List.mem_cons_self, fun v hv => h v (List.mem_cons_of_mem _ hv)⟩
  have w : ∀ {l : List (Option Value)} {j : Nat} {x : Option Value}, (∀ v, some v ∈ l → mm_okv n v) → (∀ v, x = some v → mm_okv n v) → ∀ v, some v ∈ l.set j x → mm_okv n v := fun hl hx v hv => (List.mem_or_eq_of_mem_set hv).elim (hl v) (fun q => hx v q.symm)
  split at h
  · split at h
    · cases h; exact ⟨t trivial hst, hlo⟩
    · cases h
  · split at h
    · cases h; exact ⟨t trivial hst, hlo⟩
    · cases h
  · split at h
    · rename_i h1; cases h; exact ⟨t (hlo _ (List.mem_of_getElem? h1)) hst, hlo⟩
    · cases h
  · split at h
    · rename_i h1; cases h; exact ⟨t (hlo _ (List.mem_of_getElem? h1)) hst, hlo⟩
    · cases h
  · split at h
    · obtain ⟨-, -, h3⟩ := mm_bif h; cases h3; exact ⟨(u hst).2, w hlo (fun v q => by cases q; exact trivial)⟩
    · cases h
  · split at h
    · obtain ⟨-, -, h3⟩ := mm_bif h; cases h3; exact ⟨(u hst).2, w hlo (fun v q => by cases q; exact trivial)⟩
    · cases h
  · split at h
    · obtain ⟨-, -, h3⟩ := mm_bif h; cases h3; exact ⟨(u hst).2, w hlo (fun v q => by cases q; exact (u hst).1)⟩
    · cases h
  · split at h
    · obtain ⟨-, -, h3⟩ := mm_bif h; cases h3; exact ⟨(u hst).2, w hlo (fun v q => by cases q; exact (u hst).1)⟩
    · cases h
  · split at h
    · cases h; exact ⟨t trivial hst, hlo⟩
    · cases h
  · split at h
    · obtain ⟨-, -, h3⟩ := mm_bif h; cases h3; exact ⟨(u hst).2, w (w hlo (fun v q => by cases q; exact trivial)) (fun v q => by cases q)⟩
    · cases h
  · split at h
    · obtain ⟨-, -, h3⟩ := mm_bif h; cases h3; exact ⟨hst, w hlo (fun v q => by cases q; exact trivial)⟩
    · cases h
  · cases h
theorem mm_br_ok {i : Instr} {pc tgt pc' : Nat} {st st' : List Value} {n : Nat} (h : mm_br i pc tgt st = some (pc', st')) (hst : ∀ v ∈ st, mm_okv n v) : ∀ v ∈ st', mm_okv n v := by
  unfold mm_br at h
  have u : ∀ {x : Value} {r : List Value}, (∀ v ∈ x :: r, mm_okv n v) → ∀ v ∈ r, mm_okv n v := fun h v hv => h v (List.mem_cons_of_mem _ hv)
  split at h
  · cases h; exact hst
  · split at h
    · cases h; exact u hst
    · cases h
  · split at h
    · cases h; exact u hst
    · cases h
  · split at h
    · cases h; exact u hst
    · cases h
  · split at h
    · cases h; exact u hst
    · cases h
  · split at h
    · cases h; exact u hst
    · cases h
  · split at h
    · cases h; exact u hst
    · cases h
  · split at h
    · cases h; exact u (u hst)
    · cases h
  · split at h
    · cases h; exact u (u hst)
    · cases h
  · split at h
    · cases h; exact u (u hst)
    · cases h
  · split at h
    · cases h; exact u (u hst)
    · cases h
  · split at h
    · cases h; exact u (u hst)
    · cases h
  · split at h
    · cases h; exact u (u hst)
    · cases h
  · split at h
    · cases h; exact u hst
    · cases h
  · split at h
    · cases h; exact u hst
    · cases h
  · split at h
    · split at h
      · split at h
        · cases h; exact u hst
        · cases h
      · split at h
        · split at h
          · cases h; exact u hst
          · cases h
        · cases h
    · cases h
  · split at h
    · split at h
      · cases h; exact u hst
      · cases h
    · cases h
  · cases h
end MML
