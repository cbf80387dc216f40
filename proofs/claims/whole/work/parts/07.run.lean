/-! THE SMALL MACHINE, 3: memory instructions, calls, a run. A run stands under E: the script (its length, its ints) and what the one unknown static of the JDK's holds (null, or 1999). -/
abbrev mm_V : Type := (Nat × (Nat → Int32)) × Value
def t_SB : List (List Int32) := [[116, 104, 101, 32, 116, 101, 120, 116, 32, 119, 111, 117, 108, 100, 32, 98, 101, 32, 116, 111, 111, 32, 108, 111, 110, 103], [48, 32, 116, 111, 32, 49, 54, 32, 98, 121, 116, 101, 115, 32, 99, 97, 110, 32, 99, 111, 117, 110, 116], [116, 104, 101, 32, 116, 101, 120, 116, 32, 104, 97, 115, 32, 108, 101, 115, 115, 32, 116, 104, 97, 110, 32, 115, 105, 120, 116, 101, 101, 110, 32, 98, 121, 116, 101, 115], [119], [114], [102], [101, 120, 105, 115, 116, 115], [102, 111, 114, 97, 108, 108], [116, 104, 101, 32, 116, 101, 120, 116, 32, 104, 97, 115, 32, 97, 32, 102, 97, 117, 108, 116], [97, 32, 102, 97, 117, 108, 116, 32, 104, 97, 115, 32, 97, 32, 110, 117, 109, 98, 101, 114, 32, 97, 110, 100, 32, 97, 32, 112, 108, 97, 99, 101], [110, 111, 32, 115, 117, 99, 104, 32, 101, 100, 103, 101], [116, 119, 101, 108, 118, 101, 32, 101, 100, 103, 101, 115, 32, 97, 114, 101, 32, 116, 111, 108, 100], [116, 104, 101, 32, 101, 100, 103, 101, 115, 32, 97, 114, 101, 32, 110, 111, 32, 114, 105, 110, 103], [110, 111, 32, 115, 117, 99, 104, 32, 97, 99, 116, 105, 111, 110], [110, 111, 32, 115, 117, 99, 104, 32, 116, 101, 114, 109], [110, 111, 32, 112, 114, 111, 103, 114, 97, 109, 32, 119, 104, 111, 115, 101, 32, 103, 97, 112, 115, 32, 99, 97, 110, 32, 98, 101, 32, 116, 114, 105, 101, 100], [110, 111, 32, 115, 101, 116, 32, 105, 115, 32, 97, 115, 107, 101, 100], [110, 111, 32, 115, 117, 99, 104, 32, 115, 101, 116], [116, 104, 101, 32, 112, 114, 111, 103, 114, 97, 109, 32, 104, 97, 115, 32, 110, 111, 32, 115, 117, 99, 104, 32, 103, 97, 112, 115], [116, 104, 101, 114, 101, 32, 119, 111, 117, 108, 100, 32, 98, 101, 32, 116, 111, 111, 32, 109, 97, 110, 121, 32, 97, 99, 116, 105, 111, 110, 115], [110, 111, 32, 112, 114, 111, 103, 114, 97, 109], [32, 102, 59], [32, 119, 32], [32, 114, 32], [101, 120, 105, 115, 116, 115, 32, 40], [102, 111, 114, 97, 108, 108, 32, 40], [32, 38, 32], [32, 61, 32], [41, 10], [110, 111, 32, 115, 117, 99, 104, 32, 98, 121, 116, 101]]
def t_A1 : List Int32 := [1, 0, 0, 0, 1, 0, 1, 0, 1, 0, 1]
def t_A2 : List Int32 := [0, 1, 0, 0, 0, 1, 1, 0, 0, 1, 1]
/-- tables of ints outside the world: 1000 the script, 1001 and 1002 static arrays -/
def mm_xi (E : mm_V) (a : Nat) : Option (Nat × (Nat → Int32)) := match a with
  | 1000 => some E.1
  | 1001 => some (t_A1.length, fun j => t_A1.getD j 0)
  | 1002 => some (t_A2.length, fun j => t_A2.getD j 0)
  | _ => none
/-- texts: 2000 + n the n-th string, 2100 + n its bytes -/
def mm_xb (a : Nat) : Option (Nat × (Nat → Int32)) := bif Nat.ble 2100 a && Nat.blt a 2130 then some ((t_SB.getD (a - 2100) []).length, fun j => (t_SB.getD (a - 2100) []).getD j 0) else none
def mm_xs (a : Nat) : Bool := Nat.ble 2000 a && Nat.blt a 2030
/-- the one unknown static -/
def mm_zz (E : mm_V) (v : Value) : Value := match v with
  | .ref 1999 => E.2
  | w => w
/-- words that a list of values takes -/
def mm_cats (r : List Value) : Nat := (r.map fun v => v.category).sum
/-- field j of the object a of class ci -/
def mm_gv (me : mm_M) (ci a j : Nat) : Value := bif t_RF ci j then (match me.2.1 a j with | some r => .ref r | none => .null) else .int (me.1 a j)
/-- an int that a field of this type holds as it is -/
def mm_fit (ty : FieldType) (y : Int32) : Bool := match ty with
  | .int => true
  | .boolean => decide (y = 0 ∨ y = 1)
  | _ => false
def mm_isO (d : Option (Nat × Nat × Nat)) (ci j : Nat) : Bool := match d with
  | some (0, c, n) => Nat.beq c ci && Nat.blt j n
  | _ => false
def mm_isA (d : Option (Nat × Nat × Nat)) (kd tg : Nat) : Option Nat := match d with
  | some (k, t, n) => bif Nat.beq k kd && Nat.beq t tg then some n else none
  | _ => none
def mm_out (j : Int32) (n : Nat) : Prop := j < 0 ∨ n ≤ j.toNatClampNeg
/-- an instruction of the memory: the stack, the shape, the memory behind it, new cells, new slots -/
def mm_mem (E : mm_V) (mi : Nat) (q : mm_P) (st : List Value) (sh : mm_S) (me : mm_M) : Option (List Value × mm_S × mm_M × Nat × Nat) := match q.1 with
  | .getfield _ => match st with
    | .ref a :: r => (bif mm_isO sh[a]? q.2.1 q.2.2.1 then some (mm_gv me q.2.1 a q.2.2.1 :: r, sh, me, 0, 0)
        else bif Nat.beq q.2.1 50 && mm_xs a then (bif Nat.beq q.2.2.1 0 then some (.ref (a + 100) :: r, sh, me, 0, 0) else some (.int 0 :: r, sh, me, 0, 0)) else none)
    | _ => none
  | .putfield _ => match st with
    | .int y :: .ref a :: r => (bif mm_isO sh[a]? q.2.1 q.2.2.1 && (!t_RF q.2.1 q.2.2.1 && (!t_FN q.2.1 q.2.2.1 && mm_fit (t_TY q.2.1 q.2.2.1) y)) then some (r, sh, (mm_up me.1 a q.2.2.1 y, me.2.1, me.2.2), 0, 0) else none)
    | .ref y :: .ref a :: r => (bif mm_isO sh[a]? q.2.1 q.2.2.1 && (t_RF q.2.1 q.2.2.1 && (t_FN q.2.1 q.2.2.1 && (t_IN mi && Nat.beq q.2.1 (t_CC (t_CO mi))))) then some (r, sh, (me.1, mm_up me.2.1 a q.2.2.1 (some y), me.2.2), 0, 0) else none)
    | _ => none
  | .iaload => match st with
    | .int j :: .ref a :: r => match mm_isA sh[a]? 1 0 with
      | some n => (if j < 0 ∨ n ≤ j.toNatClampNeg then none else some (.int (me.1 a j.toNatClampNeg) :: r, sh, me, 0, 0))
      | none => match mm_xi E a with
        | some x => (if j < 0 ∨ x.1 ≤ j.toNatClampNeg then none else some (.int (x.2 j.toNatClampNeg) :: r, sh, me, 0, 0))
        | none => none
    | _ => none
  | .baload => match st with
    | .int j :: .ref a :: r => match mm_isA sh[a]? 1 1 with
      | some n => (if j < 0 ∨ n ≤ j.toNatClampNeg then none else some (.int (me.1 a j.toNatClampNeg) :: r, sh, me, 0, 0))
      | none => match mm_xb a with
        | some x => (if j < 0 ∨ x.1 ≤ j.toNatClampNeg then none else some (.int (x.2 j.toNatClampNeg) :: r, sh, me, 0, 0))
        | none => none
    | _ => none
  | .laload => match st with
    | .int j :: .ref a :: r => match mm_isA sh[a]? 2 0 with
      | some n => (if j < 0 ∨ n ≤ j.toNatClampNeg then none else some (.long (me.2.2 a j.toNatClampNeg) :: r, sh, me, 0, 0))
      | none => none
    | _ => none
  | .iastore => match st with
    | .int y :: .int j :: .ref a :: r => match mm_isA sh[a]? 1 0 with
      | some n => (if j < 0 ∨ n ≤ j.toNatClampNeg then none else some (r, sh, (mm_up me.1 a j.toNatClampNeg y, me.2.1, me.2.2), 0, 0))
      | none => none
    | _ => none
  | .bastore => match st with
    | .int y :: .int j :: .ref a :: r => match mm_isA sh[a]? 1 1 with
      | some n => (if j < 0 ∨ n ≤ j.toNatClampNeg then none else some (r, sh, (mm_up me.1 a j.toNatClampNeg y.toInt8.toInt32, me.2.1, me.2.2), 0, 0))
      | none => none
    | _ => none
  | .lastore => match st with
    | .long y :: .int j :: .ref a :: r => match mm_isA sh[a]? 2 0 with
      | some n => (if j < 0 ∨ n ≤ j.toNatClampNeg then none else some (r, sh, (me.1, me.2.1, mm_up me.2.2 a j.toNatClampNeg y), 0, 0))
      | none => none
    | _ => none
  | .arraylength => match st with
    | .ref a :: r => match mm_isA sh[a]? 1 0 with
      | some n => some (.int (Int32.ofNat n) :: r, sh, me, 0, 0)
      | none => match mm_isA sh[a]? 1 1 with
        | some n => some (.int (Int32.ofNat n) :: r, sh, me, 0, 0)
        | none => match mm_xi E a with
          | some x => some (.int (Int32.ofNat x.1) :: r, sh, me, 0, 0)
          | none => match mm_xb a with
            | some x => some (.int (Int32.ofNat x.1) :: r, sh, me, 0, 0)
            | none => none
    | _ => none
  | .newarray _ => match st with
    | .int n :: r => (if n < 0 ∨ 100000 ≤ n.toNatClampNeg ∨ 900 ≤ sh.length then none else some (.ref sh.length :: r, sh ++ [(q.2.1, q.2.2.1, n.toNatClampNeg)], (mm_nw me.1 sh.length 0, mm_nw me.2.1 sh.length none, mm_nw me.2.2 sh.length 0), 1, n.toNatClampNeg))
    | _ => none
  | .new _ => (bif Nat.blt q.2.1 8 && Nat.blt sh.length 900 then some (.ref sh.length :: st, sh ++ [(0, q.2.1, t_NF q.2.1)], (mm_nw me.1 sh.length 0, mm_nw me.2.1 sh.length none, me.2.2), 1, t_NF q.2.1) else none)
  | .getstatic _ => some (mm_zz E q.2.2.2.2.2 :: st, sh, me, 0, 0)
  | .ldc _ => match q.2.2.2.2.2 with
    | .int k => some (.int k :: st, sh, me, 0, 0)
    | .ref k => some (.ref k :: st, sh, me, 0, 0)
    | _ => none
  | .ldc_w _ => match q.2.2.2.2.2 with
    | .int k => some (.int k :: st, sh, me, 0, 0)
    | _ => none
  | .ldc2_w _ => match q.2.2.2.2.2 with
    | .long k => some (.long k :: st, sh, me, 0, 0)
    | _ => none
  | .invokespecial _ => (bif Nat.beq q.2.2.1 5 then (match st with | .ref _ :: r => (bif Nat.ble (mm_cats r) 8 then some (r, sh, me, 0, 0) else none) | _ => none) else none)
  | .invokestatic _ => (bif Nat.beq q.2.2.1 6 then (match st with | .int y :: .int x :: r => (bif Nat.ble (mm_cats r) 8 then some (.int (if y < x then y else x) :: r, sh, me, 0, 0) else none) | _ => none)
      else bif Nat.beq q.2.2.1 7 then (match st with | .int y :: .int x :: r => (bif Nat.ble (mm_cats r) 8 then some (.int (if x < y then y else x) :: r, sh, me, 0, 0) else none) | _ => none) else none)
  | _ => none
/-- the state: counter, locals, stack, shape, memory, new cells and slots so far -/
abbrev mm_T : Type := Nat × List (Option Value) × List Value × mm_S × mm_M × Nat × Nat
/-- what comes out: an answer or the number of an exception, and the rest -/
abbrev mm_O : Type := (Option Value ⊕ Nat) × mm_S × mm_M × Nat × Nat
def mm_entry (mi : Nat) (as : List Value) : List (Option Value) := as.map some ++ List.replicate (t_ML mi - as.length) none
/-- a step that stays in the method -/
def mm_next (E : mm_V) (mi : Nat) (q : mm_P) (S : mm_T) : Option mm_T := match mm_pure q.1 q.2.2.2.2.1 S.2.2.1 with
  | some st => some (S.1 + mm_len q.1, S.2.1, st, S.2.2.2)
  | none => match mm_loc q.1 q.2.2.2.2.1 S.2.1 S.2.2.1 with
    | some (lo, st) => some (S.1 + mm_len q.1, lo, st, S.2.2.2)
    | none => match mm_br q.1 S.1 q.2.1 S.2.2.1 with
      | some (pc, st) => some (pc, S.2.1, st, S.2.2.2)
      | none => match mm_mem E mi q S.2.2.1 S.2.2.2.1 S.2.2.2.2.1 with
        | some (st, sh, me, dc, ds) => some (S.1 + mm_len q.1, S.2.1, st, sh, me, S.2.2.2.2.2.1 + dc, S.2.2.2.2.2.2 + ds)
        | none => none
/-- a method's end: an answer, or a throw of its own -/
def mm_end (mi : Nat) (q : mm_P) (S : mm_T) : Option mm_O := match q.1 with
  | .return_ => (match t_RT mi, S.2.2.1 with | none, [] => some (.inl none, S.2.2.2.1, S.2.2.2.2.1, S.2.2.2.2.2.1, S.2.2.2.2.2.2) | _, _ => none)
  | .ireturn => match S.2.2.1 with
    | [.int v] => match t_RT mi with
      | some .int => some (.inl (some (.int v)), S.2.2.2.1, S.2.2.2.2.1, S.2.2.2.2.2.1, S.2.2.2.2.2.2)
      | some ty => (if narrow ty (.int v) = .int v then some (.inl (some (.int v)), S.2.2.2.1, S.2.2.2.2.1, S.2.2.2.2.2.1, S.2.2.2.2.2.2) else none)
      | _ => none
    | _ => none
  | .new _ => (bif Nat.ble 100 q.2.1 && Nat.ble (mm_cats S.2.2.1) 8 then some (.inr (q.2.1 - 100), S.2.2.2.1, S.2.2.2.2.1, S.2.2.2.2.2.1 + 1, S.2.2.2.2.2.2 + 6) else none)
  | _ => none
/-- the receiver is of the class that the method is of: a cell of the world, or a text -/
def mm_rcv (sh : mm_S) (a y : Nat) : Bool := match sh[a]? with
  | some (0, ci, _) => Nat.beq ci (t_CC (t_CO y))
  | some _ => false
  | none => mm_xs a && Nat.beq (t_CO y) 9
/-- values that a method's locals begin with: one word each, and there is room -/
def mm_args (y : Nat) (as : List Value) : Bool := as.all (fun v => Nat.beq v.category 1) && Nat.ble as.length (t_ML y)
/-- a call: the method called, its values (the receiver first), what is left on the stack -/
def mm_call (q : mm_P) (st : List Value) (sh : mm_S) : Option (Nat × List Value × List Value) := match q.1 with
  | .invokevirtual _ => (bif Nat.blt q.2.2.2.1 st.length then (match st.drop q.2.2.2.1 with | .ref a :: r => (bif Nat.ble (mm_cats r) 8 && (mm_rcv sh a q.2.1 && mm_args q.2.1 (.ref a :: (st.take q.2.2.2.1).reverse)) then some (q.2.1, .ref a :: (st.take q.2.2.2.1).reverse, r) else none) | _ => none) else none)
  | .invokespecial _ => (bif Nat.blt q.2.2.2.1 st.length && (Nat.beq q.2.2.1 1 || Nat.beq q.2.2.1 3) then (match st.drop q.2.2.2.1 with | .ref a :: r => (bif Nat.ble (mm_cats r) 8 && mm_args q.2.1 (.ref a :: (st.take q.2.2.2.1).reverse) then some (q.2.1, .ref a :: (st.take q.2.2.2.1).reverse, r) else none) | _ => none) else none)
  | .invokestatic _ => (bif Nat.ble q.2.2.2.1 st.length && (Nat.ble (mm_cats (st.drop q.2.2.2.1)) 8 && (Nat.beq q.2.2.1 2 && mm_args q.2.1 (st.take q.2.2.2.1).reverse)) then some (q.2.1, (st.take q.2.2.2.1).reverse, st.drop q.2.2.2.1) else none)
  | _ => none
/-- the handler that takes exception x at pc (rows: from, to, handler, entry of the class) -/
def mm_hnd (co : Nat) (rows : List (Nat × Nat × Nat × Nat)) (pc x : Nat) : Option Nat := match rows with
  | [] => none
  | h :: r => (bif Nat.ble h.1 pc && Nat.blt pc h.2.1 then (match mm_fin2 t_NWl co h.2.2.2 with
      | some n => (bif Nat.beq n (100 + x) && Nat.blt x 4 then some h.2.2.1 else bif Nat.beq n 101 && (Nat.beq x 0 || Nat.beq x 3) then mm_hnd co r pc x else none)
      | none => none) else mm_hnd co r pc x)
def mm_hand (mi pc x : Nat) : Option Nat := mm_hnd (t_CO mi) (t_HD mi) pc x
/-- only calls of methods of objects throw -/
def mm_hv (i : Instr) (mi pc x : Nat) : Option Nat := match i with
  | .invokevirtual _ => mm_hand mi pc x
  | _ => none
/-- the first instruction of a handler: the exception goes into a local that is read no more -/
def mm_catch (q : mm_P) (lo : List (Option Value)) : Option (Nat × List (Option Value)) := match q.1 with
  | .astore_n n => (bif mm_nl lo n.val && Nat.blt n.val lo.length then some (1, lo.set n.val none) else none)
  | .astore n => (bif mm_nl lo n && Nat.blt n lo.length then some (2, lo.set n none) else none)
  | _ => none
/-- one step of a run; R: the run with less fuel -/
def mm_body (R : Nat → mm_T → Option mm_O) (E : mm_V) (mi : Nat) (S : mm_T) : Option mm_O := match t_OP mi S.1 with
  | none => none
  | some q => match mm_next E mi q S with
    | some S' => R mi S'
    | none => match mm_end mi q S with
      | some o => some o
      | none => match mm_call q S.2.2.1 S.2.2.2.1 with
        | none => none
        | some (y, as, r) => match R y (0, mm_entry y as, [], S.2.2.2.1, S.2.2.2.2.1, 0, 0) with
          | none => none
          | some (.inl v, sh, me, dc, ds) => R mi (S.1 + 3, S.2.1, v.toList ++ r, sh, me, S.2.2.2.2.2.1 + dc, S.2.2.2.2.2.2 + ds)
          | some (.inr x, sh, me, dc, ds) => match mm_hv q.1 mi S.1 x with
            | some h => match t_OP mi h with
              | some qh => match mm_catch qh S.2.1 with
                | some (n, lo) => R mi (h + n, lo, [], sh, me, S.2.2.2.2.2.1 + dc, S.2.2.2.2.2.2 + ds)
                | none => none
              | none => none
            | none => none
def mm_run (E : mm_V) (f : Nat) : Nat → mm_T → Option mm_O := match f with
  | 0 => fun _ _ => none
  | f + 1 => mm_body (mm_run E f) E
theorem mm_body_mono {R R' : Nat → mm_T → Option mm_O} {E : mm_V} (h : ∀ mi S o, R mi S = some o → R' mi S = some o) {mi : Nat} {S : mm_T} {o : mm_O} (hb : mm_body R E mi S = some o) : mm_body R' E mi S = some o := by
  unfold mm_body at hb ⊢
  cases hq : t_OP mi S.1 with
  | none => rw [hq] at hb; cases hb
  | some q =>
    rw [hq] at hb
    dsimp only at hb ⊢
    cases hn : mm_next E mi q S with
    | some S' => rw [hn] at hb; exact h _ _ _ hb
    | none =>
      rw [hn] at hb
      dsimp only at hb ⊢
      cases he : mm_end mi q S with
      | some o' => rw [he] at hb; exact hb
      | none =>
        rw [he] at hb
        dsimp only at hb ⊢
        cases hc : mm_call q S.2.2.1 S.2.2.2.1 with
        | none => rw [hc] at hb; cases hb
        | some z =>
          obtain ⟨y, as, r⟩ := z
          rw [hc] at hb
          dsimp only at hb ⊢
          cases hr : R y (0, mm_entry y as, [], S.2.2.2.1, S.2.2.2.2.1, 0, 0) with
          | none => rw [hr] at hb; cases hb
          | some w =>
            rw [hr] at hb
            rw [h _ _ _ hr]
            obtain ⟨v | x, sh, me, dc, ds⟩ := w
            · exact h _ _ _ hb
            · dsimp only at hb ⊢
              cases hh : mm_hv q.1 mi S.1 x with
              | none => rw [hh] at hb; cases hb
              | some k =>
                rw [hh] at hb
                dsimp only at hb ⊢
                cases hk : t_OP mi k with
                | none => rw [hk] at hb; cases hb
                | some qh =>
                  rw [hk] at hb
                  dsimp only at hb ⊢
                  cases hg : mm_catch qh S.2.1 with
                  | none => rw [hg] at hb; cases hb
                  | some g =>
                    obtain ⟨n, lo⟩ := g
                    rw [hg] at hb
                    exact h _ _ _ hb
theorem mm_mono (E : mm_V) : ∀ (f mi : Nat) (S : mm_T) (o : mm_O), mm_run E f mi S = some o → mm_run E (f + 1) mi S = some o := by
  intro f
  induction f with
  | zero => intro mi S o h; cases h
  | succ f ih => intro mi S o h; exact mm_body_mono ih h
theorem mm_mono' (E : mm_V) {f : Nat} (g : Nat) {mi : Nat} {S : mm_T} {o : mm_O} (h : mm_run E f mi S = some o) : mm_run E (f + g) mi S = some o := by
  induction g with
  | zero => exact h
  | succ g ih => exact mm_mono E _ _ _ _ ih
/-- the run from S ends in o -/
def mm_ev (E : mm_V) (mi : Nat) (S : mm_T) (o : mm_O) : Prop := ∃ f, mm_run E f mi S = some o
theorem ev_next {E : mm_V} {mi : Nat} {S S' : mm_T} {o : mm_O} {q : mm_P} (hq : t_OP mi S.1 = some q) (hn : mm_next E mi q S = some S') (k : mm_ev E mi S' o) : mm_ev E mi S o := by
  obtain ⟨f, hf⟩ := k
  refine ⟨f + 1, ?_⟩
  show mm_body (mm_run E f) E mi S = some o
  unfold mm_body
  rw [hq]
  dsimp only
  rw [hn]
  exact hf
theorem ev_end {E : mm_V} {mi : Nat} {S : mm_T} {o : mm_O} {q : mm_P} (hq : t_OP mi S.1 = some q) (hn : mm_next E mi q S = none) (he : mm_end mi q S = some o) : mm_ev E mi S o := by
  refine ⟨1, ?_⟩
  show mm_body (mm_run E 0) E mi S = some o
  unfold mm_body
  rw [hq]
  dsimp only
  rw [hn]
  dsimp only
  rw [he]
theorem ev_call {E : mm_V} {mi y : Nat} {S : mm_T} {o : mm_O} {q : mm_P} {as r : List Value} {v : Option Value} {sh : mm_S} {me : mm_M} {dc ds : Nat} (hq : t_OP mi S.1 = some q) (hn : mm_next E mi q S = none) (he : mm_end mi q S = none) (hc : mm_call q S.2.2.1 S.2.2.2.1 = some (y, as, r))
    (hy : mm_ev E y (0, mm_entry y as, [], S.2.2.2.1, S.2.2.2.2.1, 0, 0) (.inl v, sh, me, dc, ds)) (k : mm_ev E mi (S.1 + 3, S.2.1, v.toList ++ r, sh, me, S.2.2.2.2.2.1 + dc, S.2.2.2.2.2.2 + ds) o) : mm_ev E mi S o := by
  obtain ⟨f, hf⟩ := hy
  obtain ⟨g, hg⟩ := k
  refine ⟨f + g + 1, ?_⟩
  show mm_body (mm_run E (f + g)) E mi S = some o
  unfold mm_body
  rw [hq]
  dsimp only
  rw [hn]
  dsimp only
  rw [he]
  dsimp only
  rw [hc]
  dsimp only
  rw [mm_mono' E g hf]
  dsimp only
  rw [Nat.add_comm f g]
  exact mm_mono' E f hg
theorem ev_callX {E : mm_V} {mi y h n x : Nat} {S : mm_T} {o : mm_O} {q qh : mm_P} {as r : List Value} {lo : List (Option Value)} {sh : mm_S} {me : mm_M} {dc ds : Nat} (hq : t_OP mi S.1 = some q) (hn : mm_next E mi q S = none) (he : mm_end mi q S = none) (hc : mm_call q S.2.2.1 S.2.2.2.1 = some (y, as, r))
    (hy : mm_ev E y (0, mm_entry y as, [], S.2.2.2.1, S.2.2.2.2.1, 0, 0) (.inr x, sh, me, dc, ds)) (hh : mm_hv q.1 mi S.1 x = some h) (hk : t_OP mi h = some qh) (hg : mm_catch qh S.2.1 = some (n, lo)) (k : mm_ev E mi (h + n, lo, [], sh, me, S.2.2.2.2.2.1 + dc, S.2.2.2.2.2.2 + ds) o) : mm_ev E mi S o := by
  obtain ⟨f, hf⟩ := hy
  obtain ⟨g, hg'⟩ := k
  refine ⟨f + g + 1, ?_⟩
  show mm_body (mm_run E (f + g)) E mi S = some o
  unfold mm_body
  rw [hq]
  dsimp only
  rw [hn]
  dsimp only
  rw [he]
  dsimp only
  rw [hc]
  dsimp only
  rw [mm_mono' E g hf]
  dsimp only
  rw [hh]
  dsimp only
  rw [hk]
  dsimp only
  rw [hg]
  dsimp only
  rw [Nat.add_comm f g]
  exact mm_mono' E f hg'
