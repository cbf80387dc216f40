/-! THE SMALL MACHINE, 1: stack, locals and branches of a method over abstract references (.ref k: the k-th cell of the world), and how the machine itself follows. -/
section MMA
/-- an abstract value, with its cells' addresses -/
def mm_v (ad : Nat → Nat) (v : Value) : Value := match v with
  | .ref k => .ref (ad k)
  | w => w
theorem mm_v_cat (ad : Nat → Nat) (v : Value) : (mm_v ad v).category = v.category := by cases v <;> rfl
/-- how long an instruction is (switches aside) -/
def mm_len (i : Instr) : Nat := match i with
  | .bipush _ => 2
  | .sipush _ => 3
  | .iload _ => 2
  | .istore _ => 2
  | .aload _ => 2
  | .astore _ => 2
  | .iinc _ _ => 3
  | .ifCond _ _ => 3
  | .if_icmp _ _ => 3
  | .if_acmp _ _ => 3
  | .ifnull _ => 3
  | .ifnonnull _ => 3
  | .goto _ => 3
  | .getfield _ => 3
  | .putfield _ => 3
  | .getstatic _ => 3
  | .putstatic _ => 3
  | .invokevirtual _ => 3
  | .invokespecial _ => 3
  | .invokestatic _ => 3
  | .new _ => 3
  | .newarray _ => 2
  | .anewarray _ => 3
  | .ldc _ => 2
  | .ldc_w _ => 3
  | .ldc2_w _ => 3
  | _ => 1
/-- what an instruction that looks at the stack alone makes of it -/
def mm_pure (i : Instr) (k : Int32) (st : List Value) : Option (List Value) := match i with
  | .iconst _ => some (.int k :: st)
  | .bipush _ => some (.int k :: st)
  | .sipush _ => some (.int k :: st)
  | .iadd => match st with | .int y :: .int x :: r => some (.int (x + y) :: r) | _ => none
  | .isub => match st with | .int y :: .int x :: r => some (.int (x - y) :: r) | _ => none
  | .imul => match st with | .int y :: .int x :: r => some (.int (x * y) :: r) | _ => none
  | .iand => match st with | .int y :: .int x :: r => some (.int (x &&& y) :: r) | _ => none
  | .ior => match st with | .int y :: .int x :: r => some (.int (x ||| y) :: r) | _ => none
  | .ixor => match st with | .int y :: .int x :: r => some (.int (x ^^^ y) :: r) | _ => none
  | .ishl => match st with | .int y :: .int x :: r => some (.int (x <<< (y &&& 31)) :: r) | _ => none
  | .ishr => match st with | .int y :: .int x :: r => some (.int (x >>> (y &&& 31)) :: r) | _ => none
  | .iushr => match st with | .int y :: .int x :: r => some (.int (x.toUInt32 >>> (y.toUInt32 &&& Int32.toUInt32 31)).toInt32 :: r) | _ => none
  | .idiv => match st with | .int y :: .int x :: r => (if y = 0 then none else some (.int (x / y) :: r)) | _ => none
  | .irem => match st with | .int y :: .int x :: r => (if y = 0 then none else some (.int (x - x / y * y) :: r)) | _ => none
  | .ineg => match st with | .int x :: r => some (.int (-x) :: r) | _ => none
  | .i2b => match st with | .int x :: r => some (.int x.toInt8.toInt32 :: r) | _ => none
  | .i2c => match st with | .int x :: r => some (.int (x.toUInt32 % 65536).toInt32 :: r) | _ => none
  | .i2s => match st with | .int x :: r => some (.int x.toInt16.toInt32 :: r) | _ => none
  | .i2l => match st with | .int x :: r => some (.long x.toInt64 :: r) | _ => none
  | .lcmp => match st with | .long y :: .long x :: r => some (.int (lg_cmp x y) :: r) | _ => none
  | .lconst n => some (.long (Int64.ofNat n.val) :: st)
  | .lor => match st with | .long y :: .long x :: r => some (.long (x ||| y) :: r) | _ => none
  | .lshl => match st with | .int y :: .long x :: r => some (.long (x <<< (y.toInt64 &&& 63)) :: r) | _ => none
  | .dup => match st with | v :: r => (if v.category = 1 then some (v :: v :: r) else none) | _ => none
  | .pop => match st with | v :: r => (if v.category = 1 then some r else none) | _ => none
  | .dup_x1 => match st with | v :: w :: r => (if v.category = 1 ∧ w.category = 1 then some (v :: w :: v :: r) else none) | _ => none
  | .dup_x2 => match st with | v :: w :: z :: r => (if v.category = 1 ∧ w.category = 1 ∧ z.category = 1 then some (v :: w :: z :: v :: r) else none) | _ => none
  | .dup2 => match st with | v :: w :: r => (if v.category = 1 ∧ w.category = 1 then some (v :: w :: v :: w :: r) else none) | _ => none
  | _ => none
/-- what the table of instructions must hold of its numbers -/
def mm_cst (i : Instr) (k : Int32) (pc tgt : Nat) : Bool := match i with
  | .iconst n => Int32.ofInt n == k
  | .bipush n => (Int8.ofInt n).toInt32 == k
  | .sipush n => (Int16.ofInt n).toInt32 == k
  | .iinc _ n => Int32.ofInt n == k
  | .ifCond _ o => (pc : Int) + o == (tgt : Int)
  | .if_icmp _ o => (pc : Int) + o == (tgt : Int)
  | .if_acmp _ o => (pc : Int) + o == (tgt : Int)
  | .ifnull o => (pc : Int) + o == (tgt : Int)
  | .ifnonnull o => (pc : Int) + o == (tgt : Int)
  | .goto o => (pc : Int) + o == (tgt : Int)
  | _ => true
section MMB
variable {p : Program} {l : Launch} {e : Env} {R : Room} {s : State} {m : MethodId} {args : Array Value} {below : List Frame} {meth : Method} {c : Code} {H : Heap} {locs : List Loc} {cells slots : Nat} {Q : State → Prop}
variable {cc : ByteArray} {pc tgt : Nat} {ls : Array Slot} {ad : Nat → Nat}
set_option maxHeartbeats 4000000 in
theorem mm_pure_W (hx : p.tables.exec = Jvm.exec) (hb : c.code = cc) {i : Instr} {k : Int32} {st st' : List Value} (h : mm_pure i k st = some st') (hk : mm_cst i k pc tgt = true) (hd : decode cc pc = .ok (i, mm_len i))
    (kk : W p l e R s m args below meth c H locs cells slots Q (F0 m (pc + mm_len i) ls (st'.map (mm_v ad)))) : W p l e R s m args below meth c H locs cells slots Q (F0 m pc ls (st.map (mm_v ad))) := by
  unfold mm_pure at h
  split at h
  · cases h; exact lv_iconst hx hb hd (by simpa [mm_cst] using hk) kk
  · cases h; exact lv_bipush hx hb hd (by simpa [mm_cst] using hk) kk
  · cases h; exact lv_sipush hx hb hd (by simpa [mm_cst] using hk) kk
  · split at h
    · cases h; exact lv_iadd hx hb hd kk
    · cases h
  · split at h
    · cases h; exact lv_isub hx hb hd kk
    · cases h
  · split at h
    · cases h; exact lv_imul hx hb hd kk
    · cases h
  · split at h
    · cases h; exact lv_iand hx hb hd kk
    · cases h
  · split at h
    · cases h; exact lv_ior hx hb hd kk
    · cases h
  · split at h
    · cases h; exact lv_ixor hx hb hd kk
    · cases h
  · split at h
    · cases h; exact lv_ishl hx hb hd kk
    · cases h
  · split at h
    · cases h; exact lv_ishr hx hb hd kk
    · cases h
  · split at h
    · cases h; exact lv_iushr hx hb hd rfl kk
    · cases h
  · split at h
    · split at h
      · cases h
      · rename_i h0; cases h; exact lv_idiv hx hb hd h0 kk
    · cases h
  · split at h
    · split at h
      · cases h
      · rename_i h0; cases h; exact lv_irem hx hb hd h0 kk
    · cases h
  · split at h
    · cases h; exact lv_ineg hx hb hd kk
    · cases h
  · split at h
    · cases h; exact lv_i2b hx hb hd rfl kk
    · cases h
  · split at h
    · cases h; exact lv_i2c hx hb hd rfl kk
    · cases h
  · split at h
    · cases h; exact lv_i2s hx hb hd rfl kk
    · cases h
  · split at h
    · cases h; exact lv_i2l hx hb hd rfl kk
    · cases h
  · split at h
    · cases h; exact W.lcmp hx hb hd kk
    · cases h
  · cases h; exact lv_lconst hx hb hd rfl kk
  · split at h
    · cases h; exact lv_lor hx hb hd kk
    · cases h
  · split at h
    · cases h; exact lv_lshl hx hb hd rfl kk
    · cases h
  · split at h
    · split at h
      · rename_i h0; cases h; exact lv_dup hx hb hd ((mm_v_cat ad _).trans h0) kk
      · cases h
    · cases h
  · split at h
    · split at h
      · rename_i h0; cases h; exact lv_pop hx hb hd ((mm_v_cat ad _).trans h0) kk
      · cases h
    · cases h
  · split at h
    · split at h
      · rename_i h0; cases h; exact lv_dup_x1 hx hb hd ((mm_v_cat ad _).trans h0.1) ((mm_v_cat ad _).trans h0.2) kk
      · cases h
    · cases h
  · split at h
    · split at h
      · rename_i h0; cases h; exact lv_dup_x2 hx hb hd ((mm_v_cat ad _).trans h0.1) ((mm_v_cat ad _).trans h0.2.1) ((mm_v_cat ad _).trans h0.2.2) kk
      · cases h
    · cases h
  · split at h
    · split at h
      · rename_i h0; cases h; exact lv_dup2_11 hx hb hd ((mm_v_cat ad _).trans h0.1) ((mm_v_cat ad _).trans h0.2) kk
      · cases h
    · cases h
  · cases h
end MMB
/-- the locals: a list of places, each known or not -/
def mm_l (ad : Nat → Nat) (lo : List (Option Value)) : List (Nat × Value) := lo.zipIdx.filterMap (fun q => q.1.map (fun v => (q.2, mm_v ad v)))
theorem mm_l_in {ad : Nat → Nat} {lo : List (Option Value)} {i : Nat} {w : Value} : (i, w) ∈ mm_l ad lo ↔ ∃ v, lo[i]? = some (some v) ∧ w = mm_v ad v := by
  unfold mm_l
  rw [List.mem_filterMap]
  constructor
  · rintro ⟨⟨o, j⟩, h1, h2⟩
    rw [List.mem_zipIdx_iff_getElem?] at h1
    cases o with
    | none => simp at h2
    | some v =>
      simp only [Option.map_some, Option.some.injEq, Prod.mk.injEq] at h2
      obtain ⟨rfl, rfl⟩ := h2
      exact ⟨v, h1, rfl⟩
  · rintro ⟨v, h1, rfl⟩
    exact ⟨(some v, i), List.mem_zipIdx_iff_getElem?.mpr h1, rfl⟩
/-- what stands before place i isn't the first half of a long -/
def mm_nl (lo : List (Option Value)) (i : Nat) : Bool := match lo[i - 1]? with
  | some (some v) => v.category == 1
  | _ => true
theorem mm_l_set {ad : Nat → Nat} {lo : List (Option Value)} {i nL : Nat} {v w : Value} {ls' : Array Slot} (hw : w = mm_v ad v) (hn : mm_nl lo i = true)
    (h : lv_has ls' nL ((i, w) :: (mm_l ad lo).filter (fun q => !(q.1 == i) && !(q.1 + 1 == i && q.2.category == 2)))) : lv_has ls' nL (mm_l ad (lo.set i (some v))) := by
  refine ⟨h.1, h.2.1, fun q hq => h.2.2 q ?_⟩
  obtain ⟨j, u⟩ := q
  obtain ⟨x, h1, rfl⟩ := mm_l_in.mp hq
  by_cases hj : i = j
  · subst hj
    rw [List.getElem?_set_self'] at h1
    cases hb : lo[i]? with
    | none => rw [hb] at h1; simp at h1
    | some b =>
      rw [hb] at h1
      simp at h1
      subst h1
      rw [hw]
      exact List.mem_cons_self
  · rw [List.getElem?_set_ne hj] at h1
    refine List.mem_cons_of_mem _ (List.mem_filter.mpr ⟨mm_l_in.mpr ⟨x, h1, rfl⟩, ?_⟩)
    have hji : ¬ j = i := fun q => hj q.symm
    by_cases hs : j + 1 = i
    · subst hs
      have hc : x.category = 1 := by
        unfold mm_nl at hn
        rw [show j + 1 - 1 = j from rfl, h1] at hn
        simpa using hn
      simp [mm_v_cat, hc]
    · simp [hji, hs]
theorem mm_l_set2 {ad : Nat → Nat} {lo : List (Option Value)} {i nL : Nat} {v w : Value} {ls' : Array Slot} (hw : w = mm_v ad v) (hn : mm_nl lo i = true)
    (h : lv_has ls' nL ((i, w) :: (mm_l ad lo).filter (fun q => !(q.1 == i) && (!(q.1 == i + 1) && !(q.1 + 1 == i && q.2.category == 2))))) : lv_has ls' nL (mm_l ad ((lo.set i (some v)).set (i + 1) none)) := by
  refine ⟨h.1, h.2.1, fun q hq => h.2.2 q ?_⟩
  obtain ⟨j, u⟩ := q
  obtain ⟨x, h1, rfl⟩ := mm_l_in.mp hq
  by_cases hk : i + 1 = j
  · subst hk
    rw [List.getElem?_set_self'] at h1
    cases hb : (lo.set i (some v))[i + 1]? with
    | none => rw [hb] at h1; simp at h1
    | some b => rw [hb] at h1; simp at h1
  · rw [List.getElem?_set_ne hk] at h1
    by_cases hj : i = j
    · subst hj
      rw [List.getElem?_set_self'] at h1
      cases hb : lo[i]? with
      | none => rw [hb] at h1; simp at h1
      | some b =>
        rw [hb] at h1
        simp at h1
        subst h1
        rw [hw]
        exact List.mem_cons_self
    · rw [List.getElem?_set_ne hj] at h1
      refine List.mem_cons_of_mem _ (List.mem_filter.mpr ⟨mm_l_in.mpr ⟨x, h1, rfl⟩, ?_⟩)
      have hji : ¬ j = i := fun q => hj q.symm
      have hjk : ¬ j = i + 1 := fun q => hk q.symm
      by_cases hs : j + 1 = i
      · subst hs
        have hc : x.category = 1 := by
          unfold mm_nl at hn
          rw [show j + 1 - 1 = j from rfl, h1] at hn
          simpa using hn
        simp [mm_v_cat, hc, hjk]
      · simp [hji, hs, hjk]
/-- an instruction of the locals -/
def mm_loc (i : Instr) (k : Int32) (lo : List (Option Value)) (st : List Value) : Option (List (Option Value) × List Value) := match i with
  | .iload_n n => match lo[n.val]? with | some (some (.int x)) => some (lo, .int x :: st) | _ => none
  | .iload n => match lo[n]? with | some (some (.int x)) => some (lo, .int x :: st) | _ => none
  | .aload_n n => match lo[n.val]? with | some (some (.ref x)) => some (lo, .ref x :: st) | _ => none
  | .aload n => match lo[n]? with | some (some (.ref x)) => some (lo, .ref x :: st) | _ => none
  | .istore_n n => match st with | .int x :: r => (bif mm_nl lo n.val && Nat.blt n.val lo.length then some (lo.set n.val (some (.int x)), r) else none) | _ => none
  | .istore n => match st with | .int x :: r => (bif mm_nl lo n && Nat.blt n lo.length then some (lo.set n (some (.int x)), r) else none) | _ => none
  | .astore_n n => match st with | .ref x :: r => (bif mm_nl lo n.val && Nat.blt n.val lo.length then some (lo.set n.val (some (.ref x)), r) else none) | _ => none
  | .astore n => match st with | .ref x :: r => (bif mm_nl lo n && Nat.blt n lo.length then some (lo.set n (some (.ref x)), r) else none) | _ => none
  | .lload_n n => match lo[n.val]? with | some (some (.long x)) => some (lo, .long x :: st) | _ => none
  | .lstore_n n => match st with | .long x :: r => (bif mm_nl lo n.val && Nat.blt (n.val + 1) lo.length then some ((lo.set n.val (some (.long x))).set (n.val + 1) none, r) else none) | _ => none
  | .iinc n _ => match lo[n]? with | some (some (.int x)) => (bif mm_nl lo n && Nat.blt n lo.length then some (lo.set n (some (.int (x + k))), st) else none) | _ => none
  | _ => none
theorem mm_bif {b d : Bool} {α : Type} {x y : α} (h : (bif b && d then some x else none) = some y) : b = true ∧ d = true ∧ x = y := by
  cases b <;> cases d <;> simp at h
  exact ⟨rfl, rfl, h⟩
section MMC
variable {p : Program} {l : Launch} {e : Env} {R : Room} {s : State} {m : MethodId} {args : Array Value} {below : List Frame} {meth : Method} {c : Code} {H : Heap} {locs : List Loc} {cells slots : Nat} {Q : State → Prop}
variable {cc : ByteArray} {pc tgt nL : Nat} {ls : Array Slot} {ad : Nat → Nat}
set_option maxHeartbeats 4000000 in
theorem mm_loc_W (hx : p.tables.exec = Jvm.exec) (hb : c.code = cc) {i : Instr} {k : Int32} {lo lo' : List (Option Value)} {st st' : List Value} (hl : lv_has ls nL (mm_l ad lo)) (hn : lo.length = nL) (h : mm_loc i k lo st = some (lo', st')) (hk : mm_cst i k pc tgt = true) (hd : decode cc pc = .ok (i, mm_len i))
    (kk : ∀ ls' : Array Slot, lv_has ls' nL (mm_l ad lo') → lo'.length = nL → W p l e R s m args below meth c H locs cells slots Q (F0 m (pc + mm_len i) ls' (st'.map (mm_v ad)))) : W p l e R s m args below meth c H locs cells slots Q (F0 m pc ls (st.map (mm_v ad))) := by
  have ld : ∀ {n : Nat} {v : Value}, lo[n]? = some (some v) → ls[n]? = some (.val (mm_v ad v)) := fun h => hl.2.2 _ (mm_l_in.mpr ⟨_, h, rfl⟩)
  unfold mm_loc at h
  split at h
  · split at h
    · rename_i h1; cases h; exact lv_iload_n hx hb hd rfl (ld h1) (kk ls hl hn)
    · cases h
  · split at h
    · rename_i h1; cases h; exact lv_iload hx hb hd (ld h1) (kk ls hl hn)
    · cases h
  · split at h
    · rename_i h1; cases h; exact lv_aload_n hx hb hd rfl (ld h1) (kk ls hl hn)
    · cases h
  · split at h
    · rename_i h1; cases h; exact lv_aload hx hb hd (ld h1) (kk ls hl hn)
    · cases h
  · split at h
    · obtain ⟨h1, h2, h3⟩ := mm_bif h
      cases h3
      exact lv_istore_n hx hb hd rfl hl (by rw [← hn]; exact Nat.blt_eq.mp h2) rfl (fun ls' hl' => kk ls' (mm_l_set rfl h1 hl') (by rw [List.length_set]; exact hn))
    · cases h
  · split at h
    · obtain ⟨h1, h2, h3⟩ := mm_bif h
      cases h3
      exact lv_istore hx hb hd hl (by rw [← hn]; exact Nat.blt_eq.mp h2) rfl (fun ls' hl' => kk ls' (mm_l_set rfl h1 hl') (by rw [List.length_set]; exact hn))
    · cases h
  · split at h
    · obtain ⟨h1, h2, h3⟩ := mm_bif h
      cases h3
      exact lv_astore_n hx hb hd rfl hl (by rw [← hn]; exact Nat.blt_eq.mp h2) rfl (fun ls' hl' => kk ls' (mm_l_set (v := .ref _) rfl h1 hl') (by rw [List.length_set]; exact hn))
    · cases h
  · split at h
    · obtain ⟨h1, h2, h3⟩ := mm_bif h
      cases h3
      exact lv_astore hx hb hd hl (by rw [← hn]; exact Nat.blt_eq.mp h2) rfl (fun ls' hl' => kk ls' (mm_l_set (v := .ref _) rfl h1 hl') (by rw [List.length_set]; exact hn))
    · cases h
  · split at h
    · rename_i h1; cases h; exact lv_lload_n hx hb hd rfl (ld h1) (kk ls hl hn)
    · cases h
  · split at h
    · obtain ⟨h1, h2, h3⟩ := mm_bif h
      cases h3
      exact lv_lstore_n hx hb hd rfl hl (by rw [← hn]; exact Nat.blt_eq.mp h2) rfl (fun ls' hl' => kk ls' (mm_l_set2 rfl h1 hl') (by rw [List.length_set, List.length_set]; exact hn))
    · cases h
  · split at h
    · rename_i x h1
      obtain ⟨h2, h3, h4⟩ := mm_bif h
      cases h4
      obtain ⟨j, hj⟩ := List.getElem?_of_mem (mm_l_in (ad := ad).mpr ⟨_, h1, rfl⟩)
      exact lv_iinc hx hb hd hl hj (by rw [show Int32.ofInt _ = k from by simpa [mm_cst] using hk]) (by rw [← hn]; exact Nat.blt_eq.mp h3) rfl (fun ls' hl' => kk ls' (mm_l_set rfl h2 hl') (by rw [List.length_set]; exact hn))
    · cases h
  · cases h
def mm_sw (i : Instr) : Bool := match i with
  | .tableswitch _ _ _ _ => true
  | .lookupswitch _ _ => true
  | _ => false
/-- a branch: where to, and what is left on the stack -/
def mm_br (i : Instr) (pc tgt : Nat) (st : List Value) : Option (Nat × List Value) := match i with
  | .goto _ => some (tgt, st)
  | .ifCond .eq _ => match st with | .int x :: r => some (if x = 0 then tgt else pc + 3, r) | _ => none
  | .ifCond .ne _ => match st with | .int x :: r => some (if ¬ x = 0 then tgt else pc + 3, r) | _ => none
  | .ifCond .lt _ => match st with | .int x :: r => some (if x < 0 then tgt else pc + 3, r) | _ => none
  | .ifCond .ge _ => match st with | .int x :: r => some (if 0 ≤ x then tgt else pc + 3, r) | _ => none
  | .ifCond .gt _ => match st with | .int x :: r => some (if 0 < x then tgt else pc + 3, r) | _ => none
  | .ifCond .le _ => match st with | .int x :: r => some (if x ≤ 0 then tgt else pc + 3, r) | _ => none
  | .if_icmp .eq _ => match st with | .int y :: .int x :: r => some (if x = y then tgt else pc + 3, r) | _ => none
  | .if_icmp .ne _ => match st with | .int y :: .int x :: r => some (if ¬ x = y then tgt else pc + 3, r) | _ => none
  | .if_icmp .lt _ => match st with | .int y :: .int x :: r => some (if x < y then tgt else pc + 3, r) | _ => none
  | .if_icmp .ge _ => match st with | .int y :: .int x :: r => some (if y ≤ x then tgt else pc + 3, r) | _ => none
  | .if_icmp .gt _ => match st with | .int y :: .int x :: r => some (if y < x then tgt else pc + 3, r) | _ => none
  | .if_icmp .le _ => match st with | .int y :: .int x :: r => some (if x ≤ y then tgt else pc + 3, r) | _ => none
  | .ifnull _ => match st with | .ref _ :: r => some (pc + 3, r) | _ => none
  | .ifnonnull _ => match st with | .ref _ :: r => some (tgt, r) | _ => none
  | .tableswitch d lo hi offs => match st with
    | .int x :: r => (if x.toInt < lo ∨ hi < x.toInt then (if 0 ≤ (pc : Int) + d then some (((pc : Int) + d).toNat, r) else none)
        else match offs[(x.toInt - lo).toNat]? with | some o => (if 0 ≤ (pc : Int) + o then some (((pc : Int) + o).toNat, r) else none) | none => none)
    | _ => none
  | .lookupswitch d ps => match st with
    | .int x :: r => (if (ps.toList.zip (ps.toList.drop 1)).all (fun (a, next) => a.1 < next.1) = true ∧ 0 ≤ (pc : Int) + Op.lookupswitch.offset ps.toList d x.toInt then some (((pc : Int) + Op.lookupswitch.offset ps.toList d x.toInt).toNat, r) else none)
    | _ => none
  | _ => none
set_option maxHeartbeats 4000000 in
theorem mm_br_W (hx : p.tables.exec = Jvm.exec) (hb : c.code = cc) {i : Instr} {k : Int32} {pc' len : Nat} {st st' : List Value} (h : mm_br i pc tgt st = some (pc', st')) (hk : mm_cst i k pc tgt = true) (hd : decode cc pc = .ok (i, mm_len i) ∨ mm_sw i = true ∧ decode cc pc = .ok (i, len))
    (kk : W p l e R s m args below meth c H locs cells slots Q (F0 m pc' ls (st'.map (mm_v ad)))) : W p l e R s m args below meth c H locs cells slots Q (F0 m pc ls (st.map (mm_v ad))) := by
  have hd1 : mm_sw i = false → decode cc pc = .ok (i, mm_len i) := fun hn => hd.elim id (fun q => absurd q.1 (by rw [hn]; decide))
  unfold mm_br at h
  split at h
  · cases h; have hd := hd1 rfl; exact lv_goto hx hb hd (by simpa [mm_cst] using hk) kk
  · split at h
    · cases h; have hd := hd1 rfl; exact lv_if_eq hx hb hd (by simpa [mm_cst] using hk) (fun q => by rw [if_pos q] at kk; exact kk) (fun q => by rw [if_neg q] at kk; exact kk)
    · cases h
  · split at h
    · cases h; have hd := hd1 rfl; exact lv_if_ne hx hb hd (by simpa [mm_cst] using hk) (fun q => by rw [if_pos q] at kk; exact kk) (fun q => by rw [if_neg (not_not_intro q)] at kk; exact kk)
    · cases h
  · split at h
    · cases h; have hd := hd1 rfl; exact lv_if_lt hx hb hd (by simpa [mm_cst] using hk) (fun q => by rw [if_pos q] at kk; exact kk) (fun q => by rw [if_neg q] at kk; exact kk)
    · cases h
  · split at h
    · cases h; have hd := hd1 rfl; exact lv_if_ge hx hb hd (by simpa [mm_cst] using hk) (fun q => by rw [if_pos q] at kk; exact kk) (fun q => by rw [if_neg q] at kk; exact kk)
    · cases h
  · split at h
    · cases h; have hd := hd1 rfl; exact lv_if_gt hx hb hd (by simpa [mm_cst] using hk) (fun q => by rw [if_pos q] at kk; exact kk) (fun q => by rw [if_neg q] at kk; exact kk)
    · cases h
  · split at h
    · cases h; have hd := hd1 rfl; exact lv_if_le hx hb hd (by simpa [mm_cst] using hk) (fun q => by rw [if_pos q] at kk; exact kk) (fun q => by rw [if_neg q] at kk; exact kk)
    · cases h
  · split at h
    · cases h; have hd := hd1 rfl; exact lv_icmp_eq hx hb hd (by simpa [mm_cst] using hk) (fun q => by rw [if_pos q] at kk; exact kk) (fun q => by rw [if_neg q] at kk; exact kk)
    · cases h
  · split at h
    · cases h; have hd := hd1 rfl; exact lv_icmp_ne hx hb hd (by simpa [mm_cst] using hk) (fun q => by rw [if_pos q] at kk; exact kk) (fun q => by rw [if_neg (not_not_intro q)] at kk; exact kk)
    · cases h
  · split at h
    · cases h; have hd := hd1 rfl; exact lv_icmp_lt hx hb hd (by simpa [mm_cst] using hk) (fun q => by rw [if_pos q] at kk; exact kk) (fun q => by rw [if_neg q] at kk; exact kk)
    · cases h
  · split at h
    · cases h; have hd := hd1 rfl; exact lv_icmp_ge hx hb hd (by simpa [mm_cst] using hk) (fun q => by rw [if_pos q] at kk; exact kk) (fun q => by rw [if_neg q] at kk; exact kk)
    · cases h
  · split at h
    · cases h; have hd := hd1 rfl; exact lv_icmp_gt hx hb hd (by simpa [mm_cst] using hk) (fun q => by rw [if_pos q] at kk; exact kk) (fun q => by rw [if_neg q] at kk; exact kk)
    · cases h
  · split at h
    · cases h; have hd := hd1 rfl; exact lv_icmp_le hx hb hd (by simpa [mm_cst] using hk) (fun q => by rw [if_pos q] at kk; exact kk) (fun q => by rw [if_neg q] at kk; exact kk)
    · cases h
  · split at h
    · cases h; have hd := hd1 rfl; exact lv_ifnull hx hb hd kk
    · cases h
  · split at h
    · cases h; have hd := hd1 rfl; exact lv_ifnonnull hx hb hd (by simpa [mm_cst] using hk) kk
    · cases h
  · have hd2 : ∃ len, decode cc pc = .ok (Instr.tableswitch _ _ _ _, len) := hd.elim (fun q => ⟨_, q⟩) (fun q => ⟨_, q.2⟩)
    obtain ⟨len, hd⟩ := hd2
    split at h
    · split at h
      · rename_i h0
        split at h
        · rename_i h1
          cases h
          exact lv_tableOut hx hb hd h0 (Int.toNat_of_nonneg h1).symm kk
        · cases h
      · rename_i h0
        split at h
        · rename_i o ho
          split at h
          · rename_i h1
            cases h
            exact lv_tableIn hx hb hd (fun q => h0 (Or.inl q)) (fun q => h0 (Or.inr q)) ho (Int.toNat_of_nonneg h1).symm kk
          · cases h
        · cases h
    · cases h
  · have hd2 : ∃ len, decode cc pc = .ok (Instr.lookupswitch _ _, len) := hd.elim (fun q => ⟨_, q⟩) (fun q => ⟨_, q.2⟩)
    obtain ⟨len, hd⟩ := hd2
    split at h
    · split at h
      · rename_i h0
        cases h
        exact lv_lookup hx hb hd h0.1 rfl (Int.toNat_of_nonneg h0.2).symm kk
      · cases h
    · cases h
  · cases h
end MMC
end MMA
