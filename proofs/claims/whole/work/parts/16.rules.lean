/-! THE SMALL MACHINE, 16: a method as a pure program. CT: if the program t answers z, and K z o, the run from S ends in o. -/
section MMR
abbrev Mem : Type := Nat → Nat → Int32
abbrev LgM : Type := Nat → Nat → Int64
abbrev RfM : Type := Nat → Nat → Option Nat
def CT (E : mm_V) (mi : Nat) (S : mm_T) {α : Type} (K : α → mm_O → Prop) (t : Option α) : Prop := ∀ z o, t = some z → K z o → mm_ev E mi S o
/-- a place of a table of n places -/
def ix {α : Type} (j : Int32) (n : Nat) (t : Nat → Option α) : Option α := if j < 0 ∨ n ≤ j.toNatClampNeg then none else t j.toNatClampNeg
/-- a truth value -/
def bo {α : Type} (v : Int32) (t : Option α) : Option α := if v = 0 ∨ v = 1 then t else none
/-- a value that its type holds as it is -/
def nr {α : Type} (ty : FieldType) (v : Int32) (t : Option α) : Option α := if narrow ty (.int v) = .int v then t else none
/-- a divisor -/
def nz {α : Type} (v : Int32) (t : Option α) : Option α := if v = 0 then none else t
variable {E : mm_V} {mi pc tgt : Nat} {lo lo' : List (Option Value)} {st : List Value} {sh : mm_S} {me : mm_M} {nc ns : Nat} {α : Type} {K : α → mm_O → Prop} {t t' : Option α} {a b d : Nat} {k x y : Int32} {u v : Value} {R : RfM} {LG : LgM} {I J : Mem}
theorem ct_next {S S' : mm_T} {q : mm_P} (hq : t_OP mi S.1 = some q) (hn : mm_next E mi q S = some S') (h : CT E mi S' K t) : CT E mi S K t := fun z o hz hk => ev_next hq hn (h z o hz hk)

theorem ct_iconst {i : Int} (pc' : Nat) (hq : t_OP mi pc = some (.iconst i, a, b, d, k, u)) (hp : pc + 1 = pc') (h : CT E mi (pc', lo, .int k :: st, sh, me, nc, ns) K t) : CT E mi (pc, lo, st, sh, me, nc, ns) K t := by
  subst hp
  exact ct_next hq rfl h
theorem ct_bipush {i : Int} (pc' : Nat) (hq : t_OP mi pc = some (.bipush i, a, b, d, k, u)) (hp : pc + 2 = pc') (h : CT E mi (pc', lo, .int k :: st, sh, me, nc, ns) K t) : CT E mi (pc, lo, st, sh, me, nc, ns) K t := by
  subst hp
  exact ct_next hq rfl h
theorem ct_sipush {i : Int} (pc' : Nat) (hq : t_OP mi pc = some (.sipush i, a, b, d, k, u)) (hp : pc + 3 = pc') (h : CT E mi (pc', lo, .int k :: st, sh, me, nc, ns) K t) : CT E mi (pc, lo, st, sh, me, nc, ns) K t := by
  subst hp
  exact ct_next hq rfl h
theorem ct_iadd  (pc' : Nat) (hq : t_OP mi pc = some (.iadd, a, b, d, k, u)) (hp : pc + 1 = pc') (h : CT E mi (pc', lo, .int (x + y) :: st, sh, me, nc, ns) K t) : CT E mi (pc, lo, .int y :: .int x :: st, sh, me, nc, ns) K t := by
  subst hp
  exact ct_next hq rfl h
theorem ct_isub  (pc' : Nat) (hq : t_OP mi pc = some (.isub, a, b, d, k, u)) (hp : pc + 1 = pc') (h : CT E mi (pc', lo, .int (x - y) :: st, sh, me, nc, ns) K t) : CT E mi (pc, lo, .int y :: .int x :: st, sh, me, nc, ns) K t := by
  subst hp
  exact ct_next hq rfl h
theorem ct_imul  (pc' : Nat) (hq : t_OP mi pc = some (.imul, a, b, d, k, u)) (hp : pc + 1 = pc') (h : CT E mi (pc', lo, .int (x * y) :: st, sh, me, nc, ns) K t) : CT E mi (pc, lo, .int y :: .int x :: st, sh, me, nc, ns) K t := by
  subst hp
  exact ct_next hq rfl h
theorem ct_iand  (pc' : Nat) (hq : t_OP mi pc = some (.iand, a, b, d, k, u)) (hp : pc + 1 = pc') (h : CT E mi (pc', lo, .int (x &&& y) :: st, sh, me, nc, ns) K t) : CT E mi (pc, lo, .int y :: .int x :: st, sh, me, nc, ns) K t := by
  subst hp
  exact ct_next hq rfl h
theorem ct_ior  (pc' : Nat) (hq : t_OP mi pc = some (.ior, a, b, d, k, u)) (hp : pc + 1 = pc') (h : CT E mi (pc', lo, .int (x ||| y) :: st, sh, me, nc, ns) K t) : CT E mi (pc, lo, .int y :: .int x :: st, sh, me, nc, ns) K t := by
  subst hp
  exact ct_next hq rfl h
theorem ct_ixor  (pc' : Nat) (hq : t_OP mi pc = some (.ixor, a, b, d, k, u)) (hp : pc + 1 = pc') (h : CT E mi (pc', lo, .int (x ^^^ y) :: st, sh, me, nc, ns) K t) : CT E mi (pc, lo, .int y :: .int x :: st, sh, me, nc, ns) K t := by
  subst hp
  exact ct_next hq rfl h
theorem ct_ishl  (pc' : Nat) (hq : t_OP mi pc = some (.ishl, a, b, d, k, u)) (hp : pc + 1 = pc') (h : CT E mi (pc', lo, .int (x <<< (y &&& 31)) :: st, sh, me, nc, ns) K t) : CT E mi (pc, lo, .int y :: .int x :: st, sh, me, nc, ns) K t := by
  subst hp
  exact ct_next hq rfl h
theorem ct_ishr  (pc' : Nat) (hq : t_OP mi pc = some (.ishr, a, b, d, k, u)) (hp : pc + 1 = pc') (h : CT E mi (pc', lo, .int (x >>> (y &&& 31)) :: st, sh, me, nc, ns) K t) : CT E mi (pc, lo, .int y :: .int x :: st, sh, me, nc, ns) K t := by
  subst hp
  exact ct_next hq rfl h
theorem ct_iushr  (pc' : Nat) (hq : t_OP mi pc = some (.iushr, a, b, d, k, u)) (hp : pc + 1 = pc') (h : CT E mi (pc', lo, .int (x.toUInt32 >>> (y.toUInt32 &&& Int32.toUInt32 31)).toInt32 :: st, sh, me, nc, ns) K t) : CT E mi (pc, lo, .int y :: .int x :: st, sh, me, nc, ns) K t := by
  subst hp
  exact ct_next hq rfl h
theorem ct_ineg  (pc' : Nat) (hq : t_OP mi pc = some (.ineg, a, b, d, k, u)) (hp : pc + 1 = pc') (h : CT E mi (pc', lo, .int (-x) :: st, sh, me, nc, ns) K t) : CT E mi (pc, lo, .int x :: st, sh, me, nc, ns) K t := by
  subst hp
  exact ct_next hq rfl h
theorem ct_i2b  (pc' : Nat) (hq : t_OP mi pc = some (.i2b, a, b, d, k, u)) (hp : pc + 1 = pc') (h : CT E mi (pc', lo, .int x.toInt8.toInt32 :: st, sh, me, nc, ns) K t) : CT E mi (pc, lo, .int x :: st, sh, me, nc, ns) K t := by
  subst hp
  exact ct_next hq rfl h
theorem ct_i2c  (pc' : Nat) (hq : t_OP mi pc = some (.i2c, a, b, d, k, u)) (hp : pc + 1 = pc') (h : CT E mi (pc', lo, .int (x.toUInt32 % 65536).toInt32 :: st, sh, me, nc, ns) K t) : CT E mi (pc, lo, .int x :: st, sh, me, nc, ns) K t := by
  subst hp
  exact ct_next hq rfl h
theorem ct_i2l  (pc' : Nat) (hq : t_OP mi pc = some (.i2l, a, b, d, k, u)) (hp : pc + 1 = pc') (h : CT E mi (pc', lo, .long x.toInt64 :: st, sh, me, nc, ns) K t) : CT E mi (pc, lo, .int x :: st, sh, me, nc, ns) K t := by
  subst hp
  exact ct_next hq rfl h
theorem ct_lcmp {lx ly : Int64} (pc' : Nat) (hq : t_OP mi pc = some (.lcmp, a, b, d, k, u)) (hp : pc + 1 = pc') (h : CT E mi (pc', lo, .int (lg_cmp lx ly) :: st, sh, me, nc, ns) K t) : CT E mi (pc, lo, .long ly :: .long lx :: st, sh, me, nc, ns) K t := by
  subst hp
  exact ct_next hq rfl h
theorem ct_lconst {i : Fin 2} (pc' : Nat) (hq : t_OP mi pc = some (.lconst i, a, b, d, k, u)) (hp : pc + 1 = pc') (h : CT E mi (pc', lo, .long (Int64.ofNat i.val) :: st, sh, me, nc, ns) K t) : CT E mi (pc, lo, st, sh, me, nc, ns) K t := by
  subst hp
  exact ct_next hq rfl h
theorem ct_lor {lx ly : Int64} (pc' : Nat) (hq : t_OP mi pc = some (.lor, a, b, d, k, u)) (hp : pc + 1 = pc') (h : CT E mi (pc', lo, .long (lx ||| ly) :: st, sh, me, nc, ns) K t) : CT E mi (pc, lo, .long ly :: .long lx :: st, sh, me, nc, ns) K t := by
  subst hp
  exact ct_next hq rfl h
theorem ct_lshl {lx : Int64} (pc' : Nat) (hq : t_OP mi pc = some (.lshl, a, b, d, k, u)) (hp : pc + 1 = pc') (h : CT E mi (pc', lo, .long (lx <<< (y.toInt64 &&& 63)) :: st, sh, me, nc, ns) K t) : CT E mi (pc, lo, .int y :: .long lx :: st, sh, me, nc, ns) K t := by
  subst hp
  exact ct_next hq rfl h
theorem ct_dupI  (pc' : Nat) (hq : t_OP mi pc = some (.dup, a, b, d, k, u)) (hp : pc + 1 = pc') (h : CT E mi (pc', lo, .int x :: .int x :: st, sh, me, nc, ns) K t) : CT E mi (pc, lo, .int x :: st, sh, me, nc, ns) K t := by
  subst hp
  exact ct_next hq rfl h
theorem ct_dupR {r : Nat} (pc' : Nat) (hq : t_OP mi pc = some (.dup, a, b, d, k, u)) (hp : pc + 1 = pc') (h : CT E mi (pc', lo, .ref r :: .ref r :: st, sh, me, nc, ns) K t) : CT E mi (pc, lo, .ref r :: st, sh, me, nc, ns) K t := by
  subst hp
  exact ct_next hq rfl h
theorem ct_pop  (pc' : Nat) (hq : t_OP mi pc = some (.pop, a, b, d, k, u)) (hp : pc + 1 = pc') (h : CT E mi (pc', lo, st, sh, me, nc, ns) K t) : CT E mi (pc, lo, .int x :: st, sh, me, nc, ns) K t := by
  subst hp
  exact ct_next hq rfl h
theorem ct_dup_x1 {r : Nat} (pc' : Nat) (hq : t_OP mi pc = some (.dup_x1, a, b, d, k, u)) (hp : pc + 1 = pc') (h : CT E mi (pc', lo, .int x :: .ref r :: .int x :: st, sh, me, nc, ns) K t) : CT E mi (pc, lo, .int x :: .ref r :: st, sh, me, nc, ns) K t := by
  subst hp
  exact ct_next hq rfl h
theorem ct_dup2RI {r : Nat} (pc' : Nat) (hq : t_OP mi pc = some (.dup2, a, b, d, k, u)) (hp : pc + 1 = pc') (h : CT E mi (pc', lo, .int x :: .ref r :: .int x :: .ref r :: st, sh, me, nc, ns) K t) : CT E mi (pc, lo, .int x :: .ref r :: st, sh, me, nc, ns) K t := by
  subst hp
  exact ct_next hq rfl h
theorem ct_dup_x2 {r : Nat} (pc' : Nat) (hq : t_OP mi pc = some (.dup_x2, a, b, d, k, u)) (hp : pc + 1 = pc') (h : CT E mi (pc', lo, .int x :: .int y :: .ref r :: .int x :: st, sh, me, nc, ns) K t) : CT E mi (pc, lo, .int x :: .int y :: .ref r :: st, sh, me, nc, ns) K t := by
  subst hp
  exact ct_next hq rfl h
theorem ct_goto {i : Int} (hq : t_OP mi pc = some (.goto i, a, b, d, k, u)) (h : CT E mi (a, lo, st, sh, me, nc, ns) K t) : CT E mi (pc, lo, st, sh, me, nc, ns) K t := ct_next hq rfl h
theorem ct_idiv (pc' : Nat) (hq : t_OP mi pc = some (.idiv, a, b, d, k, u)) (hp : pc + 1 = pc') (h : CT E mi (pc', lo, .int (x / y) :: st, sh, me, nc, ns) K t) : CT E mi (pc, lo, .int y :: .int x :: st, sh, me, nc, ns) K (nz y t) := by
  subst hp
  intro z o hz hk
  unfold nz at hz
  split at hz
  · cases hz
  · rename_i hy
    refine ev_next hq ?_ (h z o hz hk)
    show (match (if y = 0 then none else some (Value.int (x / y) :: st)) with | some st' => _ | none => _) = _
    rw [if_neg hy]
    rfl
theorem ct_irem (pc' : Nat) (hq : t_OP mi pc = some (.irem, a, b, d, k, u)) (hp : pc + 1 = pc') (h : CT E mi (pc', lo, .int (x - x / y * y) :: st, sh, me, nc, ns) K t) : CT E mi (pc, lo, .int y :: .int x :: st, sh, me, nc, ns) K (nz y t) := by
  subst hp
  intro z o hz hk
  unfold nz at hz
  split at hz
  · cases hz
  · rename_i hy
    refine ev_next hq ?_ (h z o hz hk)
    show (match (if y = 0 then none else some (Value.int (x - x / y * y) :: st)) with | some st' => _ | none => _) = _
    rw [if_neg hy]
    rfl
theorem ct_iload_n {i : Fin 4} (pc' : Nat) (hq : t_OP mi pc = some (.iload_n i, a, b, d, k, u)) (hp : pc + 1 = pc') (hl : lo[i.val]? = some (some (.int x))) (h : CT E mi (pc', lo, .int x :: st, sh, me, nc, ns) K t) : CT E mi (pc, lo, st, sh, me, nc, ns) K t := by
  subst hp
  refine ct_next hq ?_ h
  show (match mm_loc (.iload_n i) k lo (st) with | some (lo, st) => some (pc + 1, lo, st, sh, me, nc, ns) | none => _) = _
  unfold mm_loc
  dsimp only
  rw [hl]
theorem ct_iload {i : Nat} (pc' : Nat) (hq : t_OP mi pc = some (.iload i, a, b, d, k, u)) (hp : pc + 2 = pc') (hl : lo[i]? = some (some (.int x))) (h : CT E mi (pc', lo, .int x :: st, sh, me, nc, ns) K t) : CT E mi (pc, lo, st, sh, me, nc, ns) K t := by
  subst hp
  refine ct_next hq ?_ h
  show (match mm_loc (.iload i) k lo (st) with | some (lo, st) => some (pc + 2, lo, st, sh, me, nc, ns) | none => _) = _
  unfold mm_loc
  dsimp only
  rw [hl]
theorem ct_aload_n {i : Fin 4} {r : Nat} (pc' : Nat) (hq : t_OP mi pc = some (.aload_n i, a, b, d, k, u)) (hp : pc + 1 = pc') (hl : lo[i.val]? = some (some (.ref r))) (h : CT E mi (pc', lo, .ref r :: st, sh, me, nc, ns) K t) : CT E mi (pc, lo, st, sh, me, nc, ns) K t := by
  subst hp
  refine ct_next hq ?_ h
  show (match mm_loc (.aload_n i) k lo (st) with | some (lo, st) => some (pc + 1, lo, st, sh, me, nc, ns) | none => _) = _
  unfold mm_loc
  dsimp only
  rw [hl]
theorem ct_aload {i r : Nat} (pc' : Nat) (hq : t_OP mi pc = some (.aload i, a, b, d, k, u)) (hp : pc + 2 = pc') (hl : lo[i]? = some (some (.ref r))) (h : CT E mi (pc', lo, .ref r :: st, sh, me, nc, ns) K t) : CT E mi (pc, lo, st, sh, me, nc, ns) K t := by
  subst hp
  refine ct_next hq ?_ h
  show (match mm_loc (.aload i) k lo (st) with | some (lo, st) => some (pc + 2, lo, st, sh, me, nc, ns) | none => _) = _
  unfold mm_loc
  dsimp only
  rw [hl]
theorem ct_lload_n {i : Fin 4} {lx : Int64} (pc' : Nat) (hq : t_OP mi pc = some (.lload_n i, a, b, d, k, u)) (hp : pc + 1 = pc') (hl : lo[i.val]? = some (some (.long lx))) (h : CT E mi (pc', lo, .long lx :: st, sh, me, nc, ns) K t) : CT E mi (pc, lo, st, sh, me, nc, ns) K t := by
  subst hp
  refine ct_next hq ?_ h
  show (match mm_loc (.lload_n i) k lo (st) with | some (lo, st) => some (pc + 1, lo, st, sh, me, nc, ns) | none => _) = _
  unfold mm_loc
  dsimp only
  rw [hl]
theorem ct_istore_n {i : Fin 4} (pc' : Nat) (hq : t_OP mi pc = some (.istore_n i, a, b, d, k, u)) (hp : pc + 1 = pc') (hs : (mm_nl lo i.val && Nat.blt i.val lo.length) = true) (hl : lo.set i.val (some (.int x)) = lo') (h : CT E mi (pc', lo', st, sh, me, nc, ns) K t) : CT E mi (pc, lo, .int x :: st, sh, me, nc, ns) K t := by
  subst hp
  refine ct_next hq ?_ h
  show (match mm_loc (.istore_n i) k lo (.int x :: st) with | some (lo, st) => some (pc + 1, lo, st, sh, me, nc, ns) | none => _) = _
  unfold mm_loc
  dsimp only
  rw [hs, hl]
  rfl
theorem ct_istore {i : Nat} (pc' : Nat) (hq : t_OP mi pc = some (.istore i, a, b, d, k, u)) (hp : pc + 2 = pc') (hs : (mm_nl lo i && Nat.blt i lo.length) = true) (hl : lo.set i (some (.int x)) = lo') (h : CT E mi (pc', lo', st, sh, me, nc, ns) K t) : CT E mi (pc, lo, .int x :: st, sh, me, nc, ns) K t := by
  subst hp
  refine ct_next hq ?_ h
  show (match mm_loc (.istore i) k lo (.int x :: st) with | some (lo, st) => some (pc + 2, lo, st, sh, me, nc, ns) | none => _) = _
  unfold mm_loc
  dsimp only
  rw [hs, hl]
  rfl
theorem ct_astore_n {i : Fin 4} {r : Nat} (pc' : Nat) (hq : t_OP mi pc = some (.astore_n i, a, b, d, k, u)) (hp : pc + 1 = pc') (hs : (mm_nl lo i.val && Nat.blt i.val lo.length) = true) (hl : lo.set i.val (some (.ref r)) = lo') (h : CT E mi (pc', lo', st, sh, me, nc, ns) K t) : CT E mi (pc, lo, .ref r :: st, sh, me, nc, ns) K t := by
  subst hp
  refine ct_next hq ?_ h
  show (match mm_loc (.astore_n i) k lo (.ref r :: st) with | some (lo, st) => some (pc + 1, lo, st, sh, me, nc, ns) | none => _) = _
  unfold mm_loc
  dsimp only
  rw [hs, hl]
  rfl
theorem ct_astore {i r : Nat} (pc' : Nat) (hq : t_OP mi pc = some (.astore i, a, b, d, k, u)) (hp : pc + 2 = pc') (hs : (mm_nl lo i && Nat.blt i lo.length) = true) (hl : lo.set i (some (.ref r)) = lo') (h : CT E mi (pc', lo', st, sh, me, nc, ns) K t) : CT E mi (pc, lo, .ref r :: st, sh, me, nc, ns) K t := by
  subst hp
  refine ct_next hq ?_ h
  show (match mm_loc (.astore i) k lo (.ref r :: st) with | some (lo, st) => some (pc + 2, lo, st, sh, me, nc, ns) | none => _) = _
  unfold mm_loc
  dsimp only
  rw [hs, hl]
  rfl
theorem ct_lstore_n {i : Fin 4} {lx : Int64} (pc' : Nat) (hq : t_OP mi pc = some (.lstore_n i, a, b, d, k, u)) (hp : pc + 1 = pc') (hs : (mm_nl lo i.val && Nat.blt (i.val + 1) lo.length) = true) (hl : (lo.set i.val (some (.long lx))).set (i.val + 1) none = lo') (h : CT E mi (pc', lo', st, sh, me, nc, ns) K t) : CT E mi (pc, lo, .long lx :: st, sh, me, nc, ns) K t := by
  subst hp
  refine ct_next hq ?_ h
  show (match mm_loc (.lstore_n i) k lo (.long lx :: st) with | some (lo, st) => some (pc + 1, lo, st, sh, me, nc, ns) | none => _) = _
  unfold mm_loc
  dsimp only
  rw [hs, hl]
  rfl
theorem ct_iinc {i : Nat} {n0 : Int} (pc' : Nat) (hq : t_OP mi pc = some (.iinc i n0, a, b, d, k, u)) (hp : pc + 3 = pc') (hx : lo[i]? = some (some (.int x))) (hs : (mm_nl lo i && Nat.blt i lo.length) = true) (hl : lo.set i (some (.int (x + k))) = lo') (h : CT E mi (pc', lo', st, sh, me, nc, ns) K t) : CT E mi (pc, lo, st, sh, me, nc, ns) K t := by
  subst hp
  refine ct_next hq ?_ h
  show (match mm_loc (.iinc i n0) k lo (st) with | some (lo, st) => some (pc + 3, lo, st, sh, me, nc, ns) | none => _) = _
  unfold mm_loc
  dsimp only
  rw [hx]
  dsimp only
  rw [hs, hl]
  rfl
theorem ct_ifeq {i : Int} (pc' : Nat) (hq : t_OP mi pc = some (.ifCond .eq i, tgt, b, d, k, u)) (hp : pc + 3 = pc') (ht : x = 0 → CT E mi (tgt, lo, st, sh, me, nc, ns) K t) (hf : ¬ (x = 0) → CT E mi (pc', lo, st, sh, me, nc, ns) K t') : CT E mi (pc, lo, .int x :: st, sh, me, nc, ns) K (if x = 0 then t else t') := by
  subst hp
  by_cases hc : x = 0
  · rw [if_pos hc]
    refine ct_next hq ?_ (ht hc)
    show some (ite _ _ _, _) = _
    rw [if_pos hc]
  · rw [if_neg hc]
    refine ct_next hq ?_ (hf hc)
    show some (ite _ _ _, _) = _
    rw [if_neg hc]
theorem ct_ifne {i : Int} (pc' : Nat) (hq : t_OP mi pc = some (.ifCond .ne i, tgt, b, d, k, u)) (hp : pc + 3 = pc') (ht : ¬ (x = 0) → CT E mi (tgt, lo, st, sh, me, nc, ns) K t) (hf : x = 0 → CT E mi (pc', lo, st, sh, me, nc, ns) K t') : CT E mi (pc, lo, .int x :: st, sh, me, nc, ns) K (if x = 0 then t' else t) := by
  subst hp
  by_cases hc : x = 0
  · rw [if_pos hc]
    refine ct_next hq ?_ (hf hc)
    show some (ite _ _ _, _) = _
    rw [if_neg (fun h => h hc)]
  · rw [if_neg hc]
    refine ct_next hq ?_ (ht hc)
    show some (ite _ _ _, _) = _
    rw [if_pos hc]
theorem ct_iflt {i : Int} (pc' : Nat) (hq : t_OP mi pc = some (.ifCond .lt i, tgt, b, d, k, u)) (hp : pc + 3 = pc') (ht : x < 0 → CT E mi (tgt, lo, st, sh, me, nc, ns) K t) (hf : ¬ (x < 0) → CT E mi (pc', lo, st, sh, me, nc, ns) K t') : CT E mi (pc, lo, .int x :: st, sh, me, nc, ns) K (if x < 0 then t else t') := by
  subst hp
  by_cases hc : x < 0
  · rw [if_pos hc]
    refine ct_next hq ?_ (ht hc)
    show some (ite _ _ _, _) = _
    rw [if_pos hc]
  · rw [if_neg hc]
    refine ct_next hq ?_ (hf hc)
    show some (ite _ _ _, _) = _
    rw [if_neg hc]
theorem ct_ifge {i : Int} (pc' : Nat) (hq : t_OP mi pc = some (.ifCond .ge i, tgt, b, d, k, u)) (hp : pc + 3 = pc') (ht : 0 ≤ x → CT E mi (tgt, lo, st, sh, me, nc, ns) K t) (hf : ¬ (0 ≤ x) → CT E mi (pc', lo, st, sh, me, nc, ns) K t') : CT E mi (pc, lo, .int x :: st, sh, me, nc, ns) K (if 0 ≤ x then t else t') := by
  subst hp
  by_cases hc : 0 ≤ x
  · rw [if_pos hc]
    refine ct_next hq ?_ (ht hc)
    show some (ite _ _ _, _) = _
    rw [if_pos hc]
  · rw [if_neg hc]
    refine ct_next hq ?_ (hf hc)
    show some (ite _ _ _, _) = _
    rw [if_neg hc]
theorem ct_ifgt {i : Int} (pc' : Nat) (hq : t_OP mi pc = some (.ifCond .gt i, tgt, b, d, k, u)) (hp : pc + 3 = pc') (ht : 0 < x → CT E mi (tgt, lo, st, sh, me, nc, ns) K t) (hf : ¬ (0 < x) → CT E mi (pc', lo, st, sh, me, nc, ns) K t') : CT E mi (pc, lo, .int x :: st, sh, me, nc, ns) K (if 0 < x then t else t') := by
  subst hp
  by_cases hc : 0 < x
  · rw [if_pos hc]
    refine ct_next hq ?_ (ht hc)
    show some (ite _ _ _, _) = _
    rw [if_pos hc]
  · rw [if_neg hc]
    refine ct_next hq ?_ (hf hc)
    show some (ite _ _ _, _) = _
    rw [if_neg hc]
theorem ct_ifle {i : Int} (pc' : Nat) (hq : t_OP mi pc = some (.ifCond .le i, tgt, b, d, k, u)) (hp : pc + 3 = pc') (ht : x ≤ 0 → CT E mi (tgt, lo, st, sh, me, nc, ns) K t) (hf : ¬ (x ≤ 0) → CT E mi (pc', lo, st, sh, me, nc, ns) K t') : CT E mi (pc, lo, .int x :: st, sh, me, nc, ns) K (if x ≤ 0 then t else t') := by
  subst hp
  by_cases hc : x ≤ 0
  · rw [if_pos hc]
    refine ct_next hq ?_ (ht hc)
    show some (ite _ _ _, _) = _
    rw [if_pos hc]
  · rw [if_neg hc]
    refine ct_next hq ?_ (hf hc)
    show some (ite _ _ _, _) = _
    rw [if_neg hc]
theorem ct_icmpeq {i : Int} (pc' : Nat) (hq : t_OP mi pc = some (.if_icmp .eq i, tgt, b, d, k, u)) (hp : pc + 3 = pc') (ht : x = y → CT E mi (tgt, lo, st, sh, me, nc, ns) K t) (hf : ¬ (x = y) → CT E mi (pc', lo, st, sh, me, nc, ns) K t') : CT E mi (pc, lo, .int y :: .int x :: st, sh, me, nc, ns) K (if x = y then t else t') := by
  subst hp
  by_cases hc : x = y
  · rw [if_pos hc]
    refine ct_next hq ?_ (ht hc)
    show some (ite _ _ _, _) = _
    rw [if_pos hc]
  · rw [if_neg hc]
    refine ct_next hq ?_ (hf hc)
    show some (ite _ _ _, _) = _
    rw [if_neg hc]
theorem ct_icmpne {i : Int} (pc' : Nat) (hq : t_OP mi pc = some (.if_icmp .ne i, tgt, b, d, k, u)) (hp : pc + 3 = pc') (ht : ¬ (x = y) → CT E mi (tgt, lo, st, sh, me, nc, ns) K t) (hf : x = y → CT E mi (pc', lo, st, sh, me, nc, ns) K t') : CT E mi (pc, lo, .int y :: .int x :: st, sh, me, nc, ns) K (if x = y then t' else t) := by
  subst hp
  by_cases hc : x = y
  · rw [if_pos hc]
    refine ct_next hq ?_ (hf hc)
    show some (ite _ _ _, _) = _
    rw [if_neg (fun h => h hc)]
  · rw [if_neg hc]
    refine ct_next hq ?_ (ht hc)
    show some (ite _ _ _, _) = _
    rw [if_pos hc]
theorem ct_icmplt {i : Int} (pc' : Nat) (hq : t_OP mi pc = some (.if_icmp .lt i, tgt, b, d, k, u)) (hp : pc + 3 = pc') (ht : x < y → CT E mi (tgt, lo, st, sh, me, nc, ns) K t) (hf : ¬ (x < y) → CT E mi (pc', lo, st, sh, me, nc, ns) K t') : CT E mi (pc, lo, .int y :: .int x :: st, sh, me, nc, ns) K (if x < y then t else t') := by
  subst hp
  by_cases hc : x < y
  · rw [if_pos hc]
    refine ct_next hq ?_ (ht hc)
    show some (ite _ _ _, _) = _
    rw [if_pos hc]
  · rw [if_neg hc]
    refine ct_next hq ?_ (hf hc)
    show some (ite _ _ _, _) = _
    rw [if_neg hc]
theorem ct_icmpge {i : Int} (pc' : Nat) (hq : t_OP mi pc = some (.if_icmp .ge i, tgt, b, d, k, u)) (hp : pc + 3 = pc') (ht : y ≤ x → CT E mi (tgt, lo, st, sh, me, nc, ns) K t) (hf : ¬ (y ≤ x) → CT E mi (pc', lo, st, sh, me, nc, ns) K t') : CT E mi (pc, lo, .int y :: .int x :: st, sh, me, nc, ns) K (if y ≤ x then t else t') := by
  subst hp
  by_cases hc : y ≤ x
  · rw [if_pos hc]
    refine ct_next hq ?_ (ht hc)
    show some (ite _ _ _, _) = _
    rw [if_pos hc]
  · rw [if_neg hc]
    refine ct_next hq ?_ (hf hc)
    show some (ite _ _ _, _) = _
    rw [if_neg hc]
theorem ct_icmpgt {i : Int} (pc' : Nat) (hq : t_OP mi pc = some (.if_icmp .gt i, tgt, b, d, k, u)) (hp : pc + 3 = pc') (ht : y < x → CT E mi (tgt, lo, st, sh, me, nc, ns) K t) (hf : ¬ (y < x) → CT E mi (pc', lo, st, sh, me, nc, ns) K t') : CT E mi (pc, lo, .int y :: .int x :: st, sh, me, nc, ns) K (if y < x then t else t') := by
  subst hp
  by_cases hc : y < x
  · rw [if_pos hc]
    refine ct_next hq ?_ (ht hc)
    show some (ite _ _ _, _) = _
    rw [if_pos hc]
  · rw [if_neg hc]
    refine ct_next hq ?_ (hf hc)
    show some (ite _ _ _, _) = _
    rw [if_neg hc]
theorem ct_icmple {i : Int} (pc' : Nat) (hq : t_OP mi pc = some (.if_icmp .le i, tgt, b, d, k, u)) (hp : pc + 3 = pc') (ht : x ≤ y → CT E mi (tgt, lo, st, sh, me, nc, ns) K t) (hf : ¬ (x ≤ y) → CT E mi (pc', lo, st, sh, me, nc, ns) K t') : CT E mi (pc, lo, .int y :: .int x :: st, sh, me, nc, ns) K (if x ≤ y then t else t') := by
  subst hp
  by_cases hc : x ≤ y
  · rw [if_pos hc]
    refine ct_next hq ?_ (ht hc)
    show some (ite _ _ _, _) = _
    rw [if_pos hc]
  · rw [if_neg hc]
    refine ct_next hq ?_ (hf hc)
    show some (ite _ _ _, _) = _
    rw [if_neg hc]
theorem ct_sw {q : mm_P} {pc' : Nat} {st' : List Value} (hq : t_OP mi pc = some q) (h1 : mm_pure q.1 q.2.2.2.2.1 st' = none) (h2 : mm_loc q.1 q.2.2.2.2.1 lo st' = none) (hb : mm_br q.1 pc q.2.1 st' = some (pc', st)) (h : CT E mi (pc', lo, st, sh, me, nc, ns) K t) : CT E mi (pc, lo, st', sh, me, nc, ns) K t := by
  refine ct_next hq ?_ h
  unfold mm_next
  dsimp only
  rw [h1, h2, hb]
theorem ct_swd {q : mm_P} {pc' : Nat} {dd lw hg : Int} {offs : Array Int} (hq : t_OP mi pc = some (.tableswitch dd lw hg offs, a, b, d, k, u)) (ho : x.toInt < lw ∨ hg < x.toInt) (h0 : 0 ≤ (pc : Int) + dd) (hp : ((pc : Int) + dd).toNat = pc') (h : CT E mi (pc', lo, st, sh, me, nc, ns) K t) : CT E mi (pc, lo, .int x :: st, sh, me, nc, ns) K t := by
  refine ct_sw hq rfl rfl ?_ h
  show (if _ then _ else _) = _
  rw [if_pos ho, if_pos h0, hp]
theorem lk_out1 {x : Int32} {o0 o1 dd : Int} (h0 : ¬ x = 0) (h1 : ¬ x = 1) : Op.lookupswitch.offset [(0, o0), (1, o1)] dd x.toInt = dd := by
  have e0 : ¬ (0 : Int) = x.toInt := fun e => h0 (Int32.toInt_inj.mp (e.symm.trans (by decide)))
  have e1 : ¬ (1 : Int) = x.toInt := fun e => h1 (Int32.toInt_inj.mp (e.symm.trans (by decide)))
  rw [Op.lookupswitch.offset_cons, if_neg e0, Op.lookupswitch.offset_cons, if_neg e1]
  rfl
theorem ct_lkd {pc' : Nat} {dd : Int} {ps : Array (Int × Int)} (hq : t_OP mi pc = some (.lookupswitch dd ps, a, b, d, k, u)) (hs : (ps.toList.zip (ps.toList.drop 1)).all (fun (a, next) => a.1 < next.1) = true) (ho : Op.lookupswitch.offset ps.toList dd x.toInt = dd) (h0 : 0 ≤ (pc : Int) + dd) (hp : ((pc : Int) + dd).toNat = pc') (h : CT E mi (pc', lo, st, sh, me, nc, ns) K t) : CT E mi (pc, lo, .int x :: st, sh, me, nc, ns) K t := by
  refine ct_sw hq rfl rfl ?_ h
  show (if _ ∧ _ then _ else _) = _
  rw [ho, if_pos ⟨hs, h0⟩, hp]
/-- memory -/
theorem ct_mem {q : mm_P} {st' : List Value} {sh' : mm_S} {me' : mm_M} (pc' : Nat) (hq : t_OP mi pc = some q) (hp : pc + mm_len q.1 = pc') (h1 : mm_pure q.1 q.2.2.2.2.1 st = none) (h2 : mm_loc q.1 q.2.2.2.2.1 lo st = none) (h3 : mm_br q.1 pc q.2.1 st = none) (hm : mm_mem E mi q st sh me = some (st', sh', me', 0, 0)) (h : CT E mi (pc', lo, st', sh', me', nc, ns) K t) : CT E mi (pc, lo, st, sh, me, nc, ns) K t := by
  subst hp
  refine ct_next hq ?_ h
  unfold mm_next
  dsimp only
  rw [h1, h2, h3, hm]
  rfl
theorem ct_getI {p : Nat} {i : Nat} (z : Int32) (pc' : Nat) (hq : t_OP mi pc = some (.getfield i, a, b, d, k, u)) (hp : pc + 3 = pc') (ho : mm_isO sh[p]? a b = true) (hr : t_RF a b = false) (hv : me.1 p b = z) (h : CT E mi (pc', lo, .int z :: st, sh, me, nc, ns) K t) : CT E mi (pc, lo, .ref p :: st, sh, me, nc, ns) K t := by
  refine ct_mem pc' hq hp rfl rfl rfl ?_ h
  unfold mm_mem
  dsimp only
  rw [ho]
  unfold mm_gv
  rw [hr, hv]
  rfl
theorem ct_getR {p : Nat} {i : Nat} (r : Nat) (pc' : Nat) (hq : t_OP mi pc = some (.getfield i, a, b, d, k, u)) (hp : pc + 3 = pc') (ho : mm_isO sh[p]? a b = true) (hr : t_RF a b = true) (hv : me.2.1 p b = some r) (h : CT E mi (pc', lo, .ref r :: st, sh, me, nc, ns) K t) : CT E mi (pc, lo, .ref p :: st, sh, me, nc, ns) K t := by
  refine ct_mem pc' hq hp rfl rfl rfl ?_ h
  unfold mm_mem
  dsimp only
  rw [ho]
  unfold mm_gv
  rw [hr, hv]
  rfl
theorem ct_getX0 {p : Nat} {i : Nat} (pc' : Nat) (hq : t_OP mi pc = some (.getfield i, 50, 0, d, k, u)) (hp : pc + 3 = pc') (ho : mm_isO sh[p]? 50 0 = false) (hx : mm_xs p = true) (h : CT E mi (pc', lo, .ref (p + 100) :: st, sh, me, nc, ns) K t) : CT E mi (pc, lo, .ref p :: st, sh, me, nc, ns) K t := by
  refine ct_mem pc' hq hp rfl rfl rfl ?_ h
  unfold mm_mem
  dsimp only
  rw [ho, hx]
  rfl
theorem ct_getX1 {p : Nat} {i : Nat} (pc' : Nat) (hq : t_OP mi pc = some (.getfield i, 50, 1, d, k, u)) (hp : pc + 3 = pc') (ho : mm_isO sh[p]? 50 1 = false) (hx : mm_xs p = true) (h : CT E mi (pc', lo, .int 0 :: st, sh, me, nc, ns) K t) : CT E mi (pc, lo, .ref p :: st, sh, me, nc, ns) K t := by
  refine ct_mem pc' hq hp rfl rfl rfl ?_ h
  unfold mm_mem
  dsimp only
  rw [ho, hx]
  rfl
theorem ct_putI {p : Nat} {i : Nat} (pc' : Nat) (hq : t_OP mi pc = some (.putfield i, a, b, d, k, u)) (hp : pc + 3 = pc') (ho : (mm_isO sh[p]? a b && (!t_RF a b && !t_FN a b)) = true) (hty : t_TY a b = .int) (h : CT E mi (pc', lo, st, sh, (mm_up I p b x, R, LG), nc, ns) K t) : CT E mi (pc, lo, .int x :: .ref p :: st, sh, (I, R, LG), nc, ns) K t := by
  obtain ⟨h1, h2⟩ := mm_andb ho
  obtain ⟨h3, h4⟩ := mm_andb h2
  refine ct_mem pc' hq hp rfl rfl rfl ?_ h
  unfold mm_mem
  dsimp only
  rw [h1, h3, h4, hty]
  rfl
theorem ct_putZ {p : Nat} {i : Nat} (pc' : Nat) (hq : t_OP mi pc = some (.putfield i, a, b, d, k, u)) (hp : pc + 3 = pc') (ho : (mm_isO sh[p]? a b && (!t_RF a b && !t_FN a b)) = true) (hty : t_TY a b = .boolean) (h : CT E mi (pc', lo, st, sh, (mm_up I p b x, R, LG), nc, ns) K t) : CT E mi (pc, lo, .int x :: .ref p :: st, sh, (I, R, LG), nc, ns) K (bo x t) := by
  intro z o hz hk
  unfold bo at hz
  split at hz
  · rename_i hx
    obtain ⟨h1, h2⟩ := mm_andb ho
    obtain ⟨h3, h4⟩ := mm_andb h2
    refine ct_mem pc' hq hp rfl rfl rfl ?_ h z o hz hk
    unfold mm_mem
    dsimp only
    rw [h1, h3, h4, hty]
    dsimp only [mm_fit]
    rw [decide_eq_true hx]
    rfl
  · cases hz
theorem ix_some {j : Int32} {n : Nat} {T : Nat → Option α} {z : α} (h : ix j n T = some z) : ¬ (j < 0 ∨ n ≤ j.toNatClampNeg) ∧ T j.toNatClampNeg = some z := by
  unfold ix at h
  split at h
  · cases h
  · rename_i hx; exact ⟨hx, h⟩
theorem ct_iaload {p : Nat} (f : Nat → Int32) (n : Nat) {T : Nat → Option α} (pc' : Nat) (hq : t_OP mi pc = some (.iaload, a, b, d, k, u)) (hp : pc + 1 = pc') (ho : mm_isA sh[p]? 1 0 = some n) (hv : ∀ j, me.1 p j = f j) (h : ∀ j, CT E mi (pc', lo, .int (f j) :: st, sh, me, nc, ns) K (T j)) : CT E mi (pc, lo, .int x :: .ref p :: st, sh, me, nc, ns) K (ix x n T) := by
  intro z o hz hk
  obtain ⟨hx, hz⟩ := ix_some hz
  refine ct_mem pc' hq hp rfl rfl rfl ?_ (h _) z o hz hk
  unfold mm_mem
  dsimp only
  rw [ho]
  dsimp only
  rw [if_neg hx, hv]
theorem ct_baload {p : Nat} (f : Nat → Int32) (n : Nat) {T : Nat → Option α} (pc' : Nat) (hq : t_OP mi pc = some (.baload, a, b, d, k, u)) (hp : pc + 1 = pc') (ho : mm_isA sh[p]? 1 1 = some n) (hv : ∀ j, me.1 p j = f j) (h : ∀ j, CT E mi (pc', lo, .int (f j) :: st, sh, me, nc, ns) K (T j)) : CT E mi (pc, lo, .int x :: .ref p :: st, sh, me, nc, ns) K (ix x n T) := by
  intro z o hz hk
  obtain ⟨hx, hz⟩ := ix_some hz
  refine ct_mem pc' hq hp rfl rfl rfl ?_ (h _) z o hz hk
  unfold mm_mem
  dsimp only
  rw [ho]
  dsimp only
  rw [if_neg hx, hv]
theorem ct_ialoadX {p : Nat} (X : Nat × (Nat → Int32)) {T : Nat → Option α} (pc' : Nat) (hq : t_OP mi pc = some (.iaload, a, b, d, k, u)) (hp : pc + 1 = pc') (ho : mm_isA sh[p]? 1 0 = none) (hX : mm_xi E p = some X) (h : ∀ j, CT E mi (pc', lo, .int (X.2 j) :: st, sh, me, nc, ns) K (T j)) : CT E mi (pc, lo, .int x :: .ref p :: st, sh, me, nc, ns) K (ix x X.1 T) := by
  intro z o hz hk
  obtain ⟨hx, hz⟩ := ix_some hz
  refine ct_mem pc' hq hp rfl rfl rfl ?_ (h _) z o hz hk
  unfold mm_mem
  dsimp only
  rw [ho]
  dsimp only
  rw [hX]
  dsimp only
  rw [if_neg hx]
theorem ct_baloadX {p : Nat} (X : Nat × (Nat → Int32)) {T : Nat → Option α} (pc' : Nat) (hq : t_OP mi pc = some (.baload, a, b, d, k, u)) (hp : pc + 1 = pc') (ho : mm_isA sh[p]? 1 1 = none) (hX : mm_xb p = some X) (h : ∀ j, CT E mi (pc', lo, .int (X.2 j) :: st, sh, me, nc, ns) K (T j)) : CT E mi (pc, lo, .int x :: .ref p :: st, sh, me, nc, ns) K (ix x X.1 T) := by
  intro z o hz hk
  obtain ⟨hx, hz⟩ := ix_some hz
  refine ct_mem pc' hq hp rfl rfl rfl ?_ (h _) z o hz hk
  unfold mm_mem
  dsimp only
  rw [ho]
  dsimp only
  rw [hX]
  dsimp only
  rw [if_neg hx]
theorem ct_iastore {p : Nat} (n : Nat) {T : Nat → Option α} (pc' : Nat) (hq : t_OP mi pc = some (.iastore, a, b, d, k, u)) (hp : pc + 1 = pc') (ho : mm_isA sh[p]? 1 0 = some n) (h : ∀ j, CT E mi (pc', lo, st, sh, (mm_up I p j y, R, LG), nc, ns) K (T j)) : CT E mi (pc, lo, .int y :: .int x :: .ref p :: st, sh, (I, R, LG), nc, ns) K (ix x n T) := by
  intro z o hz hk
  obtain ⟨hx, hz⟩ := ix_some hz
  refine ct_mem pc' hq hp rfl rfl rfl ?_ (h _) z o hz hk
  unfold mm_mem
  dsimp only
  rw [ho]
  dsimp only
  rw [if_neg hx]
theorem ct_bastore {p : Nat} (n : Nat) {T : Nat → Option α} (pc' : Nat) (hq : t_OP mi pc = some (.bastore, a, b, d, k, u)) (hp : pc + 1 = pc') (ho : mm_isA sh[p]? 1 1 = some n) (h : ∀ j, CT E mi (pc', lo, st, sh, (mm_up I p j y.toInt8.toInt32, R, LG), nc, ns) K (T j)) : CT E mi (pc, lo, .int y :: .int x :: .ref p :: st, sh, (I, R, LG), nc, ns) K (ix x n T) := by
  intro z o hz hk
  obtain ⟨hx, hz⟩ := ix_some hz
  refine ct_mem pc' hq hp rfl rfl rfl ?_ (h _) z o hz hk
  unfold mm_mem
  dsimp only
  rw [ho]
  dsimp only
  rw [if_neg hx]
theorem ct_lastore0 {p n : Nat} {l : Int64} (pc' : Nat) (hq : t_OP mi pc = some (.lastore, a, b, d, k, u)) (hp : pc + 1 = pc') (ho : mm_isA sh[p]? 2 0 = some (n + 1)) (h : CT E mi (pc', lo, st, sh, (I, R, mm_up LG p 0 l), nc, ns) K t) : CT E mi (pc, lo, .long l :: .int 0 :: .ref p :: st, sh, (I, R, LG), nc, ns) K t := by
  refine ct_mem pc' hq hp rfl rfl rfl ?_ h
  unfold mm_mem
  dsimp only
  rw [ho]
  dsimp only
  rw [if_neg (by
    intro h
    rcases h with h | h
    · exact absurd h (by decide)
    · have : (0 : Int32).toNatClampNeg = 0 := rfl
      omega)]
  rfl
theorem ct_laload0 {p n : Nat} (l : Int64) (pc' : Nat) (hq : t_OP mi pc = some (.laload, a, b, d, k, u)) (hp : pc + 1 = pc') (ho : mm_isA sh[p]? 2 0 = some (n + 1)) (hl : me.2.2 p 0 = l) (h : CT E mi (pc', lo, .long l :: st, sh, me, nc, ns) K t) : CT E mi (pc, lo, .int 0 :: .ref p :: st, sh, me, nc, ns) K t := by
  refine ct_mem pc' hq hp rfl rfl rfl ?_ h
  unfold mm_mem
  dsimp only
  rw [ho]
  dsimp only
  rw [if_neg (by
    intro h
    rcases h with h | h
    · exact absurd h (by decide)
    · have : (0 : Int32).toNatClampNeg = 0 := rfl
      omega)]
  rw [← hl]
  rfl
theorem ct_lengthX {p : Nat} (n : Nat) (pc' : Nat) (hq : t_OP mi pc = some (.arraylength, a, b, d, k, u)) (hp : pc + 1 = pc') (hm : mm_mem E mi (.arraylength, a, b, d, k, u) (.ref p :: st) sh me = some (.int (Int32.ofNat n) :: st, sh, me, 0, 0)) (h : CT E mi (pc', lo, .int (Int32.ofNat n) :: st, sh, me, nc, ns) K t) : CT E mi (pc, lo, .ref p :: st, sh, me, nc, ns) K t := ct_mem pc' hq hp rfl rfl rfl hm h
theorem ct_getstatic {i : Nat} (v : Value) (pc' : Nat) (hq : t_OP mi pc = some (.getstatic i, a, b, d, k, u)) (hp : pc + 3 = pc') (hv : mm_zz E u = v) (h : CT E mi (pc', lo, v :: st, sh, me, nc, ns) K t) : CT E mi (pc, lo, st, sh, me, nc, ns) K t := by
  subst hv
  exact ct_mem pc' hq hp rfl rfl rfl rfl h
theorem ct_ldcI {i : Nat} (pc' : Nat) (hq : t_OP mi pc = some (.ldc i, a, b, d, k, .int x)) (hp : pc + 2 = pc') (h : CT E mi (pc', lo, .int x :: st, sh, me, nc, ns) K t) : CT E mi (pc, lo, st, sh, me, nc, ns) K t := ct_mem pc' hq hp rfl rfl rfl rfl h
theorem ct_ldcR {i r : Nat} (pc' : Nat) (hq : t_OP mi pc = some (.ldc i, a, b, d, k, .ref r)) (hp : pc + 2 = pc') (h : CT E mi (pc', lo, .ref r :: st, sh, me, nc, ns) K t) : CT E mi (pc, lo, st, sh, me, nc, ns) K t := ct_mem pc' hq hp rfl rfl rfl rfl h
theorem ct_ldcwI {i : Nat} (pc' : Nat) (hq : t_OP mi pc = some (.ldc_w i, a, b, d, k, .int x)) (hp : pc + 3 = pc') (h : CT E mi (pc', lo, .int x :: st, sh, me, nc, ns) K t) : CT E mi (pc, lo, st, sh, me, nc, ns) K t := ct_mem pc' hq hp rfl rfl rfl rfl h
theorem ct_ldc2L {i : Nat} {l : Int64} (pc' : Nat) (hq : t_OP mi pc = some (.ldc2_w i, a, b, d, k, .long l)) (hp : pc + 3 = pc') (h : CT E mi (pc', lo, .long l :: st, sh, me, nc, ns) K t) : CT E mi (pc, lo, st, sh, me, nc, ns) K t := ct_mem pc' hq hp rfl rfl rfl rfl h
theorem ct_min {i : Nat} (pc' : Nat) (hq : t_OP mi pc = some (.invokestatic i, a, 6, d, k, u)) (hp : pc + 3 = pc') (hr : Nat.ble (mm_cats st) 8 = true) (h : CT E mi (pc', lo, .int (if y < x then y else x) :: st, sh, me, nc, ns) K t) : CT E mi (pc, lo, .int y :: .int x :: st, sh, me, nc, ns) K t := by
  refine ct_mem pc' hq hp rfl rfl rfl ?_ h
  show (bif Nat.ble (mm_cats st) 8 then some (Value.int (if y < x then y else x) :: st, sh, me, 0, 0) else none) = _
  rw [hr]
  rfl
theorem ct_max {i : Nat} (pc' : Nat) (hq : t_OP mi pc = some (.invokestatic i, a, 7, d, k, u)) (hp : pc + 3 = pc') (hr : Nat.ble (mm_cats st) 8 = true) (h : CT E mi (pc', lo, .int (if x < y then y else x) :: st, sh, me, nc, ns) K t) : CT E mi (pc, lo, .int y :: .int x :: st, sh, me, nc, ns) K t := by
  refine ct_mem pc' hq hp rfl rfl rfl ?_ h
  show (bif Nat.ble (mm_cats st) 8 then some (Value.int (if x < y then y else x) :: st, sh, me, 0, 0) else none) = _
  rw [hr]
  rfl
/-- what comes out: nothing and a memory; an int; both; both, or an exception -/
def rV (sh : mm_S) (R : RfM) (LG : LgM) (nc ns : Nat) (z : Mem) (o : mm_O) : Prop := o = (.inl none, sh, (z, R, LG), nc, ns)
def rU (sh : mm_S) (I : Mem) (R : RfM) (LG : LgM) (nc ns : Nat) (_ : Unit) (o : mm_O) : Prop := o = (.inl none, sh, (I, R, LG), nc, ns)
def rP (sh : mm_S) (I : Mem) (R : RfM) (LG : LgM) (nc ns : Nat) (z : Int32) (o : mm_O) : Prop := o = (.inl (some (.int z)), sh, (I, R, LG), nc, ns)
def rB (sh : mm_S) (R : RfM) (LG : LgM) (nc ns : Nat) (z : Int32 × Mem) (o : mm_O) : Prop := o = (.inl (some (.int z.1)), sh, (z.2, R, LG), nc, ns)
/-- an exception: its number + 1 -/
def rT (sh : mm_S) (R : RfM) (LG : LgM) (nc ns : Nat) (z : Nat × Int32 × Mem) (o : mm_O) : Prop := o = (match z.1 with | 0 => (.inl (some (.int z.2.1)), sh, (z.2.2, R, LG), nc, ns) | x + 1 => (.inr x, sh, (z.2.2, R, LG), nc + 1, ns + 6))
theorem ct_retV (hq : t_OP mi pc = some (.return_, a, b, d, k, u)) (hr : t_RT mi = none) : CT E mi (pc, lo, [], sh, (I, R, LG), nc, ns) (rV sh R LG nc ns) (some I) := by
  intro z o hz hk
  cases hz
  rw [show o = _ from hk]
  refine ev_end hq rfl ?_
  show (match t_RT mi, ([] : List Value) with | none, [] => _ | _, _ => none) = _
  rw [hr]
theorem ct_retU (hq : t_OP mi pc = some (.return_, a, b, d, k, u)) (hr : t_RT mi = none) : CT E mi (pc, lo, [], sh, (I, R, LG), nc, ns) (rU sh I R LG nc ns) (some ()) := by
  intro z o hz hk
  rw [show o = _ from hk]
  refine ev_end hq rfl ?_
  show (match t_RT mi, ([] : List Value) with | none, [] => _ | _, _ => none) = _
  rw [hr]
theorem ev_ret {o : mm_O} (hq : t_OP mi pc = some (.ireturn, a, b, d, k, u)) (hr : t_RT mi = some .int ∨ ∃ ty, t_RT mi = some ty ∧ narrow ty (.int x) = .int x) (ho : o = (.inl (some (.int x)), sh, me, nc, ns)) : mm_ev E mi (pc, lo, [.int x], sh, me, nc, ns) o := by
  subst ho
  refine ev_end hq rfl ?_
  unfold mm_end
  dsimp only
  rcases hr with hr | ⟨ty, hr, hn⟩
  · rw [hr]
  · rw [hr]
    cases ty <;> first | rfl | (dsimp only; rw [if_pos hn])
theorem ct_retP (hq : t_OP mi pc = some (.ireturn, a, b, d, k, u)) (hr : t_RT mi = some .int) : CT E mi (pc, lo, [.int x], sh, (I, R, LG), nc, ns) (rP sh I R LG nc ns) (some x) := fun z o hz hk => by cases hz; exact ev_ret hq (Or.inl hr) hk
theorem ct_retB (hq : t_OP mi pc = some (.ireturn, a, b, d, k, u)) (hr : t_RT mi = some .int) : CT E mi (pc, lo, [.int x], sh, (I, R, LG), nc, ns) (rB sh R LG nc ns) (some (x, I)) := fun z o hz hk => by cases hz; exact ev_ret hq (Or.inl hr) hk
theorem ct_retT (hq : t_OP mi pc = some (.ireturn, a, b, d, k, u)) (hr : t_RT mi = some .int) : CT E mi (pc, lo, [.int x], sh, (I, R, LG), nc, ns) (rT sh R LG nc ns) (some (0, x, I)) := fun z o hz hk => by cases hz; exact ev_ret hq (Or.inl hr) hk
/-- answers that a narrower type holds as they are: known ones, others -/
theorem ct_retPn {ty : FieldType} (hq : t_OP mi pc = some (.ireturn, a, b, d, k, u)) (hr : t_RT mi = some ty) (hn : narrow ty (.int x) = .int x) : CT E mi (pc, lo, [.int x], sh, (I, R, LG), nc, ns) (rP sh I R LG nc ns) (some x) := fun z o hz hk => by cases hz; exact ev_ret hq (Or.inr ⟨ty, hr, hn⟩) hk
theorem ct_retBn {ty : FieldType} (hq : t_OP mi pc = some (.ireturn, a, b, d, k, u)) (hr : t_RT mi = some ty) (hn : narrow ty (.int x) = .int x) : CT E mi (pc, lo, [.int x], sh, (I, R, LG), nc, ns) (rB sh R LG nc ns) (some (x, I)) := fun z o hz hk => by cases hz; exact ev_ret hq (Or.inr ⟨ty, hr, hn⟩) hk
theorem nr_some {ty : FieldType} {z : α} (h : nr ty x t = some z) : narrow ty (.int x) = .int x ∧ t = some z := by
  unfold nr at h
  split at h
  · rename_i hx; exact ⟨hx, h⟩
  · cases h
theorem ct_retPg {ty : FieldType} (hq : t_OP mi pc = some (.ireturn, a, b, d, k, u)) (hr : t_RT mi = some ty) : CT E mi (pc, lo, [.int x], sh, (I, R, LG), nc, ns) (rP sh I R LG nc ns) (nr ty x (some x)) := fun z o hz hk => by
  obtain ⟨hn, hz⟩ := nr_some hz
  exact ct_retPn hq hr hn z o hz hk
theorem ct_retBg {ty : FieldType} (hq : t_OP mi pc = some (.ireturn, a, b, d, k, u)) (hr : t_RT mi = some ty) : CT E mi (pc, lo, [.int x], sh, (I, R, LG), nc, ns) (rB sh R LG nc ns) (nr ty x (some (x, I))) := fun z o hz hk => by
  obtain ⟨hn, hz⟩ := nr_some hz
  exact ct_retBn hq hr hn z o hz hk
theorem ct_throw {i n : Nat} (hq : t_OP mi pc = some (.new i, 100 + n, b, d, k, u)) (hr : (Nat.ble 100 (100 + n) && Nat.ble (mm_cats st) 8) = true) (h8 : Nat.blt (100 + n) 8 = false) : CT E mi (pc, lo, st, sh, (I, R, LG), nc, ns) (rT sh R LG nc ns) (some (n + 1, 0, I)) := by
  intro z o hz hk
  cases hz
  rw [show o = (.inr n, sh, (I, R, LG), nc + 1, ns + 6) from hk]
  refine ev_end hq ?_ ?_
  · unfold mm_next
    show (match mm_mem E mi (.new i, 100 + n, b, d, k, u) st sh (I, R, LG) with | some (st, sh, me, dc, ds) => _ | none => none) = none
    have : mm_mem E mi (.new i, 100 + n, b, d, k, u) st sh (I, R, LG) = none := by
      show (bif Nat.blt (100 + n) 8 && Nat.blt sh.length 900 then _ else none) = none
      rw [h8]
      rfl
    rw [this]
  · show (bif Nat.ble 100 (100 + n) && Nat.ble (mm_cats st) 8 then some (Sum.inr (100 + n - 100), sh, (I, R, LG), nc + 1, ns + 6) else none) = _
    rw [hr, Nat.add_sub_cancel_left]
    rfl
/-- calls -/
theorem ct_callV {q : mm_P} {as r : List Value} {y : Nat} {g : Option Mem} {T : Mem → Option α} (pc' : Nat) (hq : t_OP mi pc = some q) (hp : pc + 3 = pc') (hn : mm_next E mi q (pc, lo, st, sh, (I, R, LG), nc, ns) = none) (he : mm_end mi q (pc, lo, st, sh, (I, R, LG), nc, ns) = none) (hc : mm_call q st sh = some (y, as, r)) (hy : CT E y (0, mm_entry y as, [], sh, (I, R, LG), 0, 0) (rV sh R LG 0 0) g)
    (h : ∀ w, CT E mi (pc', lo, r, sh, (w, R, LG), nc, ns) K (T w)) : CT E mi (pc, lo, st, sh, (I, R, LG), nc, ns) K (g.bind T) := by
  intro z o hz hk
  subst hp
  obtain ⟨w, hw, hz⟩ := Option.bind_eq_some_iff.mp hz
  exact ev_call hq hn he hc (hy w _ hw rfl) (h w z o hz hk)
theorem ct_callU {q : mm_P} {as r : List Value} {y : Nat} {g : Option Unit} {T : Unit → Option α} (pc' : Nat) (hq : t_OP mi pc = some q) (hp : pc + 3 = pc') (hn : mm_next E mi q (pc, lo, st, sh, (I, R, LG), nc, ns) = none) (he : mm_end mi q (pc, lo, st, sh, (I, R, LG), nc, ns) = none) (hc : mm_call q st sh = some (y, as, r)) (hy : CT E y (0, mm_entry y as, [], sh, (I, R, LG), 0, 0) (rU sh I R LG 0 0) g)
    (h : ∀ w, CT E mi (pc', lo, r, sh, (I, R, LG), nc, ns) K (T w)) : CT E mi (pc, lo, st, sh, (I, R, LG), nc, ns) K (g.bind T) := by
  intro z o hz hk
  subst hp
  obtain ⟨w, hw, hz⟩ := Option.bind_eq_some_iff.mp hz
  exact ev_call hq hn he hc (hy w _ hw rfl) (h w z o hz hk)
theorem ct_callP {q : mm_P} {as r : List Value} {y : Nat} {g : Option Int32} {T : Int32 → Option α} (pc' : Nat) (hq : t_OP mi pc = some q) (hp : pc + 3 = pc') (hn : mm_next E mi q (pc, lo, st, sh, (I, R, LG), nc, ns) = none) (he : mm_end mi q (pc, lo, st, sh, (I, R, LG), nc, ns) = none) (hc : mm_call q st sh = some (y, as, r)) (hy : CT E y (0, mm_entry y as, [], sh, (I, R, LG), 0, 0) (rP sh I R LG 0 0) g)
    (h : ∀ w, CT E mi (pc', lo, .int w :: r, sh, (I, R, LG), nc, ns) K (T w)) : CT E mi (pc, lo, st, sh, (I, R, LG), nc, ns) K (g.bind T) := by
  intro z o hz hk
  subst hp
  obtain ⟨w, hw, hz⟩ := Option.bind_eq_some_iff.mp hz
  exact ev_call hq hn he hc (hy w _ hw rfl) (h w z o hz hk)
theorem ct_callB {q : mm_P} {as r : List Value} {y : Nat} {g : Option (Int32 × Mem)} {T : Int32 × Mem → Option α} (pc' : Nat) (hq : t_OP mi pc = some q) (hp : pc + 3 = pc') (hn : mm_next E mi q (pc, lo, st, sh, (I, R, LG), nc, ns) = none) (he : mm_end mi q (pc, lo, st, sh, (I, R, LG), nc, ns) = none) (hc : mm_call q st sh = some (y, as, r)) (hy : CT E y (0, mm_entry y as, [], sh, (I, R, LG), 0, 0) (rB sh R LG 0 0) g)
    (h : ∀ w, CT E mi (pc', lo, .int w.1 :: r, sh, (w.2, R, LG), nc, ns) K (T w)) : CT E mi (pc, lo, st, sh, (I, R, LG), nc, ns) K (g.bind T) := by
  intro z o hz hk
  subst hp
  obtain ⟨w, hw, hz⟩ := Option.bind_eq_some_iff.mp hz
  exact ev_call hq hn he hc (hy w _ hw rfl) (h w z o hz hk)
/-- a stretch that leaves at the states G -/
def rX (E : mm_V) (mi : Nat) {β : Type} (G : β → mm_T) (w : β) (o : mm_O) : Prop := mm_ev E mi (G w) o
theorem ct_leave {β : Type} {G : β → mm_T} (w : β) {S : mm_T} (hS : S = G w) : CT E mi S (rX E mi G) (some w) := by
  intro z o hz hk
  cases hz
  subst hS
  exact hk
theorem ct_stretch {β : Type} {G : β → mm_T} {S : mm_T} {g : Option β} {T : β → Option α} (hg : CT E mi S (rX E mi G) g) (h : ∀ w, CT E mi (G w) K (T w)) : CT E mi S K (g.bind T) := by
  intro z o hz hk
  obtain ⟨w, hw, hz⟩ := Option.bind_eq_some_iff.mp hz
  exact hg w o hw (h w z o hz hk)
theorem ct_none {S : mm_T} : CT E mi S K none := fun z o hz _ => by cases hz
/-- locals of which less is known -/
def mm_fg : List (Option Value) → List (Option Value) → Prop
  | [], [] => True
  | none :: a, none :: b => mm_fg a b
  | none :: a, some v :: b => v.category = 1 ∧ mm_fg a b
  | some v :: a, some w :: b => v = w ∧ mm_fg a b
  | _, _ => False
theorem mm_fg_len : ∀ {a b : List (Option Value)}, mm_fg a b → a.length = b.length
  | [], [], _ => rfl
  | none :: a, none :: b, h => congrArg (· + 1) (mm_fg_len (show mm_fg a b from h))
  | none :: a, some v :: b, h => congrArg (· + 1) (mm_fg_len (show mm_fg a b from h.2))
  | some v :: a, some w :: b, h => congrArg (· + 1) (mm_fg_len (show mm_fg a b from h.2))
theorem mm_fg_get : ∀ {a b : List (Option Value)} (i : Nat) {v : Value}, mm_fg a b → a[i]? = some (some v) → b[i]? = some (some v)
  | [], _, i, v, h, g => by simp at g
  | none :: a, none :: b, 0, v, h, g => by simp at g
  | none :: a, some w :: b, 0, v, h, g => by simp at g
  | some w :: a, some z :: b, 0, v, h, g => by
    have h1 : w = z := h.1
    subst h1
    simpa using g
  | none :: a, none :: b, i + 1, v, h, g => by
    have := mm_fg_get (a := a) (b := b) i (v := v) h (by simpa using g)
    simpa using this
  | none :: a, some w :: b, i + 1, v, h, g => by
    have := mm_fg_get (a := a) (b := b) i (v := v) h.2 (by simpa using g)
    simpa using this
  | some w :: a, some z :: b, i + 1, v, h, g => by
    have := mm_fg_get (a := a) (b := b) i (v := v) h.2 (by simpa using g)
    simpa using this
theorem mm_fg_cat : ∀ {a b : List (Option Value)} (i : Nat) {v : Value}, mm_fg a b → b[i]? = some (some v) → v.category = 1 ∨ a[i]? = some (some v)
  | [], [], i, v, h, g => by simp at g
  | none :: a, none :: b, 0, v, h, g => by simp at g
  | none :: a, some w :: b, 0, v, h, g => by
    simp at g
    subst g
    exact Or.inl h.1
  | some w :: a, some z :: b, 0, v, h, g => by
    have h1 : w = z := h.1
    subst h1
    exact Or.inr (by simpa using g)
  | none :: a, none :: b, i + 1, v, h, g => by
    have := mm_fg_cat (a := a) (b := b) i (v := v) h (by simpa using g)
    simpa using this
  | none :: a, some w :: b, i + 1, v, h, g => by
    have := mm_fg_cat (a := a) (b := b) i (v := v) h.2 (by simpa using g)
    simpa using this
  | some w :: a, some z :: b, i + 1, v, h, g => by
    have := mm_fg_cat (a := a) (b := b) i (v := v) h.2 (by simpa using g)
    simpa using this
theorem mm_fg_nl {a b : List (Option Value)} (h : mm_fg a b) {i : Nat} (hn : mm_nl a i = true) : mm_nl b i = true := by
  unfold mm_nl at hn ⊢
  cases hb : b[i - 1]? with
  | none => rfl
  | some w =>
    cases w with
    | none => rfl
    | some v =>
      rcases mm_fg_cat _ h hb with h1 | h1
      · dsimp only
        rw [h1]
        rfl
      · rw [h1] at hn
        exact hn
theorem mm_fg_set : ∀ {a b : List (Option Value)} (i : Nat) (v : Option Value), mm_fg a b → mm_fg (a.set i v) (b.set i v)
  | [], [], i, v, h => by simpa using h
  | none :: a, none :: b, 0, v, h => by cases v with | none => exact h | some v => exact ⟨rfl, h⟩
  | none :: a, some w :: b, 0, v, h => by cases v with | none => exact h.2 | some v => exact ⟨rfl, h.2⟩
  | some w :: a, some z :: b, 0, v, h => by cases v with | none => exact h.2 | some v => exact ⟨rfl, h.2⟩
  | none :: a, none :: b, i + 1, v, h => mm_fg_set (a := a) (b := b) i v h
  | none :: a, some w :: b, i + 1, v, h => ⟨h.1, mm_fg_set (a := a) (b := b) i v h.2⟩
  | some w :: a, some z :: b, i + 1, v, h => ⟨h.1, mm_fg_set (a := a) (b := b) i v h.2⟩
theorem mm_fg_loc {i : Instr} {lo1 : List (Option Value)} {st1 : List Value} (h : mm_fg lo lo') (hl : mm_loc i k lo st = some (lo1, st1)) : ∃ lo2, mm_loc i k lo' st = some (lo2, st1) ∧ mm_fg lo1 lo2 := by
  have hlen := mm_fg_len h
  have ld : ∀ n, ∀ v, lo[n]? = some (some v) → lo'[n]? = some (some v) := fun n v => mm_fg_get n h
  have nl : ∀ n, mm_nl lo n = true → mm_nl lo' n = true := fun n => mm_fg_nl h
  unfold mm_loc at hl
  split at hl
  · split at hl
    · rename_i hx; cases hl; exact ⟨_, by unfold mm_loc; dsimp only; rw [ld _ _ hx], h⟩
    · cases hl
  · split at hl
    · rename_i hx; cases hl; exact ⟨_, by unfold mm_loc; dsimp only; rw [ld _ _ hx], h⟩
    · cases hl
  · split at hl
    · rename_i hx; cases hl; exact ⟨_, by unfold mm_loc; dsimp only; rw [ld _ _ hx], h⟩
    · cases hl
  · split at hl
    · rename_i hx; cases hl; exact ⟨_, by unfold mm_loc; dsimp only; rw [ld _ _ hx], h⟩
    · cases hl
  · split at hl
    · obtain ⟨h1, h2, h3⟩ := mm_bif hl; cases h3
      exact ⟨_, by unfold mm_loc; dsimp only; rw [nl _ h1, ← hlen, h2]; rfl, mm_fg_set _ _ h⟩
    · cases hl
  · split at hl
    · obtain ⟨h1, h2, h3⟩ := mm_bif hl; cases h3
      exact ⟨_, by unfold mm_loc; dsimp only; rw [nl _ h1, ← hlen, h2]; rfl, mm_fg_set _ _ h⟩
    · cases hl
  · split at hl
    · obtain ⟨h1, h2, h3⟩ := mm_bif hl; cases h3
      exact ⟨_, by unfold mm_loc; dsimp only; rw [nl _ h1, ← hlen, h2]; rfl, mm_fg_set _ _ h⟩
    · cases hl
  · split at hl
    · obtain ⟨h1, h2, h3⟩ := mm_bif hl; cases h3
      exact ⟨_, by unfold mm_loc; dsimp only; rw [nl _ h1, ← hlen, h2]; rfl, mm_fg_set _ _ h⟩
    · cases hl
  · split at hl
    · rename_i hx; cases hl; exact ⟨_, by unfold mm_loc; dsimp only; rw [ld _ _ hx], h⟩
    · cases hl
  · split at hl
    · obtain ⟨h1, h2, h3⟩ := mm_bif hl; cases h3
      exact ⟨_, by unfold mm_loc; dsimp only; rw [nl _ h1, ← hlen, h2]; rfl, mm_fg_set _ _ (mm_fg_set _ _ h)⟩
    · cases hl
  · split at hl
    · rename_i hx
      obtain ⟨h1, h2, h3⟩ := mm_bif hl; cases h3
      exact ⟨_, by unfold mm_loc; dsimp only; rw [ld _ _ hx]; dsimp only; rw [nl _ h1, ← hlen, h2]; rfl, mm_fg_set _ _ h⟩
    · cases hl
  · cases hl
theorem mm_fg_locn {i : Instr} (h : mm_fg lo lo') (hl : mm_loc i k lo' st ≠ none) (hp : mm_pure i k st = none) (hn : mm_loc i k lo st = none) (pc tg : Nat) (q : mm_P) (hq : q.1 = i) : mm_br i pc tg st = none ∧ mm_mem E mi q st sh me = none ∧ (∀ S : mm_T, mm_end mi q S = none) ∧ mm_call q st sh = none := by
  subst hq
  unfold mm_loc at hl
  split at hl <;> first | exact absurd rfl hl | (rename_i hi; refine ⟨by rw [hi]; rfl, by unfold mm_mem; rw [hi], fun S => by unfold mm_end; rw [hi], by unfold mm_call; rw [hi]⟩)
theorem mm_run_fg : ∀ (f mi pc : Nat) (lo lo' : List (Option Value)) (z : List Value × mm_S × mm_M × Nat × Nat) (o : mm_O), mm_fg lo lo' → mm_run E f mi (pc, lo, z) = some o → mm_run E f mi (pc, lo', z) = some o := by
  intro f
  induction f with
  | zero => intro mi pc lo lo' z o _ h; cases h
  | succ f ih =>
    intro mi pc lo lo' z o hf h
    have hb : mm_body (mm_run E f) E mi (pc, lo, z) = some o := h
    show mm_body (mm_run E f) E mi (pc, lo', z) = some o
    unfold mm_body at hb ⊢
    cases hq : t_OP mi pc with
    | none =>
      rw [show t_OP mi (pc, lo, z).1 = none from hq] at hb
      cases hb
    | some q =>
      rw [show t_OP mi (pc, lo, z).1 = some q from hq] at hb
      dsimp only at hb ⊢
      obtain ⟨st, sh, me, nc, ns⟩ := z
      cases hp : mm_pure q.1 q.2.2.2.2.1 st with
      | some st' =>
        have e1 : ∀ l, mm_next E mi q (pc, l, st, sh, me, nc, ns) = some (pc + mm_len q.1, l, st', sh, me, nc, ns) := fun l => by unfold mm_next; dsimp only; rw [hp]
        rw [e1 lo] at hb
        rw [e1 lo']
        exact ih _ _ _ _ _ _ hf hb
      | none =>
        cases hl : mm_loc q.1 q.2.2.2.2.1 lo st with
        | some w =>
          obtain ⟨lo1, st1⟩ := w
          obtain ⟨lo2, hl2, hf2⟩ := mm_fg_loc hf hl
          have e1 : mm_next E mi q (pc, lo, st, sh, me, nc, ns) = some (pc + mm_len q.1, lo1, st1, sh, me, nc, ns) := by unfold mm_next; dsimp only; rw [hp, hl]
          have e2 : mm_next E mi q (pc, lo', st, sh, me, nc, ns) = some (pc + mm_len q.1, lo2, st1, sh, me, nc, ns) := by unfold mm_next; dsimp only; rw [hp, hl2]
          rw [e1] at hb
          rw [e2]
          exact ih _ _ _ _ _ _ hf2 hb
        | none =>
          have hl2 : mm_loc q.1 q.2.2.2.2.1 lo' st = none := by
            cases hx : mm_loc q.1 q.2.2.2.2.1 lo' st with
            | none => rfl
            | some w =>
              obtain ⟨g1, g2, g3, g4⟩ := mm_fg_locn (E := E) (mi := mi) (sh := sh) (me := me) hf (by rw [hx]; exact fun h => by cases h) hp hl pc q.2.1 q rfl
              have e1 : mm_next E mi q (pc, lo, st, sh, me, nc, ns) = none := by unfold mm_next; dsimp only; rw [hp, hl, g1, g2]
              rw [e1, g3, g4] at hb
              cases hb
          cases hr : mm_br q.1 pc q.2.1 st with
          | some w =>
            obtain ⟨pc1, st1⟩ := w
            have e1 : ∀ l, mm_loc q.1 q.2.2.2.2.1 l st = none → mm_next E mi q (pc, l, st, sh, me, nc, ns) = some (pc1, l, st1, sh, me, nc, ns) := fun l hl => by unfold mm_next; dsimp only; rw [hp, hl, hr]
            rw [e1 lo hl] at hb
            rw [e1 lo' hl2]
            exact ih _ _ _ _ _ _ hf hb
          | none =>
            cases hm : mm_mem E mi q st sh me with
            | some w =>
              obtain ⟨st1, sh1, me1, dc, ds⟩ := w
              have e1 : ∀ l, mm_loc q.1 q.2.2.2.2.1 l st = none → mm_next E mi q (pc, l, st, sh, me, nc, ns) = some (pc + mm_len q.1, l, st1, sh1, me1, nc + dc, ns + ds) := fun l hl => by unfold mm_next; dsimp only; rw [hp, hl, hr, hm]
              rw [e1 lo hl] at hb
              rw [e1 lo' hl2]
              exact ih _ _ _ _ _ _ hf hb
            | none =>
              have e1 : ∀ l, mm_loc q.1 q.2.2.2.2.1 l st = none → mm_next E mi q (pc, l, st, sh, me, nc, ns) = none := fun l hl => by unfold mm_next; dsimp only; rw [hp, hl, hr, hm]
              rw [e1 lo hl] at hb
              rw [e1 lo' hl2]
              dsimp only at hb ⊢
              have e2 : mm_end mi q (pc, lo', st, sh, me, nc, ns) = mm_end mi q (pc, lo, st, sh, me, nc, ns) := rfl
              rw [e2]
              cases he : mm_end mi q (pc, lo, st, sh, me, nc, ns) with
              | some o' => rw [he] at hb; exact hb
              | none =>
                rw [he] at hb
                dsimp only at hb ⊢
                cases hc : mm_call q st sh with
                | none => rw [hc] at hb; cases hb
                | some w =>
                  obtain ⟨y, as, r⟩ := w
                  rw [hc] at hb
                  dsimp only at hb ⊢
                  split at hb
                  · cases hb
                  · rename_i hr'
                    exact ih _ _ _ _ _ _ hf hb
                  · split at hb
                    · split at hb
                      · rename_i qh hqh
                        split at hb
                        · rename_i n lo1 hg
                          have : ∃ lo2, mm_catch qh lo' = some (n, lo2) ∧ mm_fg lo1 lo2 := by
                            unfold mm_catch at hg
                            split at hg
                            · rename_i hi
                              obtain ⟨h1, h2, h3⟩ := mm_bif hg
                              cases h3
                              exact ⟨_, by unfold mm_catch; rw [hi]; dsimp only; rw [mm_fg_nl hf h1, ← mm_fg_len hf, h2]; rfl, mm_fg_set _ _ hf⟩
                            · rename_i hi
                              obtain ⟨h1, h2, h3⟩ := mm_bif hg
                              cases h3
                              exact ⟨_, by unfold mm_catch; rw [hi]; dsimp only; rw [mm_fg_nl hf h1, ← mm_fg_len hf, h2]; rfl, mm_fg_set _ _ hf⟩
                            · cases hg
                          obtain ⟨lo2, hg2, hf2⟩ := this
                          rw [hg2]
                          dsimp only
                          exact ih _ _ _ _ _ _ hf2 hb
                        · cases hb
                      · cases hb
                    · cases hb
theorem ct_forget {z : List Value × mm_S × mm_M × Nat × Nat} (hf : mm_fg lo lo') (h : CT E mi (pc, lo, z) K t) : CT E mi (pc, lo', z) K t := fun z' o hz hk => by
  obtain ⟨f, hf'⟩ := h z' o hz hk
  exact ⟨f, mm_run_fg f mi pc lo lo' z o hf hf'⟩
end MMR
