/-! THE CLAIM OUT OF ONE RUN OF THE SMALL MACHINE: law_pure is the pure part, all else is the same for every law. -/
def R_law : String := "LitmusRowsLaw"
def lw_P (b : Addr) (xs : List Int32) (args : Array Value) (s : State) : Prop := args = #[.ref b] ∧ s.IntsAt b xs ∧ xs.length ≤ 2560 ∧ (Jvm.Cond.and given_1 narrow_1).before args s = true
def lw_Q (_ : Array Value) (s : State) (o : Outcome) (t : State) : Prop := o = .returned (some (.int 1)) ∧ Framed s o t [] 1079 18756
def lw_Z (below : List Frame) (a : Array Value) (s : State) : State → Prop := fun t => ∃ o, t.status = .running ∧ Ended t below o ∧ lw_Q a s o t
/-- the law's own end, with 1 on the stack, nothing written that was there before, its room as the claim has it -/
theorem lw_ret {p : Program} {l : Launch} {e : Env} {s : State} {m : MethodId} {below : List Frame} {meth : Method} {c : Code} {b : Nat} (hx : p.tables.exec = Jvm.exec) (hb : c.code = code) (hr : meth.sig.returnType = ret) (hlocks : meth.locks = false) {pc : Nat} {H : Heap} {ls : Array Slot} (hdg : decode code pc = .ok (.ireturn, 1)) : W p l e room_1 s m #[Value.ref b] below meth c H [] 1079 18756 (lw_Z below #[Value.ref b] s) (F0 m pc ls [.int 1]) := by
  intro T hT X
  obtain ⟨fs, hret, hrun, hended, hW, hframe⟩ := X.leave (v := some (.int 1)) (hlocks := hlocks) (fun h => by rw [hr] at h; cases h)
  have hmeth' : T.vm.method? m = some meth := X.method'
  refine ⟨T.setFrames fs, ?_, .returned (some (.int 1)), hrun, hended, rfl, ⟨_, rfl⟩, hW, hframe⟩
  jvm_step X.here [X.here.top, hx, hb, hdg, hmeth', hr, ret, narrow_b1]
  (try refine ⟨rfl, ?_⟩); (try refine ⟨rfl, ?_⟩)
  first | (intro acts; rw [hret _ acts rfl rfl rfl]) | rw [hret _ _ rfl rfl rfl]
  exact Steps.refl _
/-- what holds at the law's entry -/
def lw_At (p : Program) (s : State) (m : MethodId) (meth : Method) (c : Code) (b L : Nat) (xs : Nat → Int32) : Prop :=
  p.tables.exec = Jvm.exec ∧ c.code = code ∧ meth.sig.returnType = ret ∧ c.maxLocals = 7 ∧ s.vm.findClass R_law = some m.cls ∧ (∀ w ∈ lw_tbl, w.before #[Value.ref b] s = true) ∧ va_X b L xs s s.heap ∧ b < s.heap.size ∧ meth.locks = false ∧ (Jvm.Cond.and given_1 narrow_1).before #[Value.ref b] s = true ∧ c.exceptionTable.isEmpty = true
/-- the memory at the start: nothing -/
def law_m0 : mm_M := (fun _ _ => 0, fun _ _ => none, fun _ _ => 0)
/-- the pure part: under every script of at most 2560 ints the small machine runs the law to 1, and keeps its room -/
def law_goal : Prop := ∀ E : mm_V, E.1.1 ≤ 2560 → (E.2 = .null ∨ E.2 = .ref 1999) → ∃ (sh : mm_S) (me : mm_M) (dc ds : Nat), mm_ev E 0 (0, mm_entry 0 [.ref 1000], [], [], law_m0, 0, 0) (.inl (some (.int 1)), sh, me, dc, ds) ∧ dc ≤ 1079 ∧ ds ≤ 18756
theorem whole_start (hp : law_goal) {p : Program} {e : Env} {s : State} {m : MethodId} {below : List Frame} {meth : Method} {c : Code} {l : Launch} (hl : l.stackTraces = false) {b L : Nat} {xs : Nat → Int32} (hL : L ≤ 2560) (C0 : lw_At p s m meth c b L xs) : W p l e room_1 s m #[Value.ref b] below meth c s.heap [] 0 0 (lw_Z below #[Value.ref b] s) (entryFrame m ([Value.ref b] : List Value).toArray 7) := by
  obtain ⟨hx, hcode, hret, hml, hown, hts, hX, hbl, hlocks, hgv, hex⟩ := C0
  obtain ⟨ax, z, hz, hax, hE⟩ := law_E hts hX hbl hgv
  have hts2 : ∀ w ∈ t_WS, w.before #[Value.ref b] s = true := fun w hw => hts w (mm_wsl w hw).1
  have hK : ∀ k : Nat, ∃ q : ClassId × (Nat → Nat), ∀ z : vw_C, t_CL[k]? = some z → u_Kn s z.1 z.2.1 z.2.2 q.1 q.2 := by
    intro k
    cases hk : t_CL[k]? with
    | none => exact ⟨(0, fun _ => 0), fun z h => by cases h⟩
    | some z =>
      obtain ⟨h1, -, -, -, -, h2, -⟩ := t_CLok hk
      obtain ⟨cC, iS, h⟩ := u_known hts2 h1 (hts2 _ h2)
      exact ⟨(cC, iS), fun w hw => by cases hw; exact h⟩
  obtain ⟨Dq, hD⟩ := Classical.axiomOfChoice hK
  obtain ⟨sh', me', dc, ds, ⟨f, hrun⟩, hdc, hds⟩ := hp ((L, xs), z) hL hz
  have hXX : mm_X p s m #[Value.ref b] meth c 0 (fun k => (Dq k).1, fun k => (Dq k).2) (fun q => s.heap.size ≤ q) ((L, xs), z) ax :=
    ⟨hx, hcode, hml, hown, hts2, (fun h => absurd (show false = true from h) (by decide)), fun k q hq => hD k q hq, fun q h => h, hE, hlocks, fun q cell hq hc => absurd (Array.getElem?_eq_some_iff.mp hc).1 (Nat.not_lt.mpr hq)⟩
  have hI : mm_I (fun k => (Dq k).1, fun k => (Dq k).2) ax (fun _ => 0) [] law_m0 (fun q => s.heap.size ≤ q) ax s s.heap [] := by
    refine ⟨?_, ?_, va_S.rf, ?_, ?_, fun k _ => rfl⟩
    · intro k e hk
      simp [mm_w] at hk
    · exact ⟨fun i j p q h => by simp [mm_w] at h, fun k q h => by simp [mm_w] at h⟩
    · intro k d hd
      simp at hd
    · intro a j r ha
      exact absurd ha (Nat.not_lt_zero _)
  have hent := mm_entry_has (y := 0) (as := [.ref 1000]) (ad := ax) rfl
  have hok : ∀ v ∈ [Value.ref 1000], mm_okv ([] : mm_S).length v := fun v hv => by
    rw [List.mem_singleton.mp hv]
    exact Or.inr (Nat.le_refl _)
  have htb : c.exceptionTable.toList = tableOf (t_HD 0) := by
    rw [Array.isEmpty_iff.mp hex]
    rfl
  rw [lg_entry_eq]
  have hent1 := hent.1
  rw [show ([Value.ref 1000] : List Value).map (mm_v ax) = [Value.ref b] by rw [← hax]; rfl] at hent1
  refine mm_sim hl hz f 0 (0, mm_entry 0 [.ref 1000], [], [], law_m0, 0, 0) _ hrun p e room_1 s m _ below meth c _ _ ax ax _ s.heap [] _ _ hXX (by decide) (by decide) hdc hds htb hI hent1 hent.2 (fun v h => by cases h) (mm_entry_ok hok) ?_
  intro S' q H' locs' ad' ac' ls' hq he g1 g2 I' _ g3 _
  obtain ⟨pc', lo', st', sh2, me2, nc', ns'⟩ := S'
  have hend : q.1 = .ireturn ∧ st' = [.int 1] ∧ nc' = dc ∧ ns' = ds := by
    unfold mm_end at he
    split at he
    · split at he
      · cases he
      · cases he
    · rename_i hi
      split at he
      · rename_i v hst
        have hst : st' = [.int v] := hst
        split at he
        · cases he
          exact ⟨hi, hst, rfl, rfl⟩
        · split at he
          · cases he
            exact ⟨hi, hst, rfl, rfl⟩
          · cases he
        · cases he
      · cases he
    · obtain ⟨-, h⟩ := mm_bif1 he
      cases h
    · cases he
  obtain ⟨hi, rfl, rfl, rfl⟩ := hend
  obtain ⟨⟨n, hd, hn⟩, -⟩ := t_OPok hq
  rw [hi] at hd hn
  have hn1 : n = 1 := hn.elim (fun h => by cases h) id
  subst hn1
  refine va_forget I'.2.2.1.2.2 ?_
  exact W.widen hdc hds (lw_ret hx hcode hret hlocks hd)
set_option maxHeartbeats 4000000 in
theorem lw_walk (hp : law_goal) (l : Launch) (hl : l.stackTraces = false) (b : Addr) (xs : List Int32) : MetFree l x (headSpec (Jvm.Cond.code x code maxLocals ret :: tables_1) room_1) (lw_P b xs) (fun _ _ _ _ _ => True) lw_Q := by
  refine MetFree.of_bodyS (code := code) (maxLocals := maxLocals) (ret := ret) (by decide) ?_ ?_
  · intro args s m h hn
    obtain ⟨meth, c, h1, h2, h3, h4, h5, h6, -, -⟩ := Cond.code_spec hn (atoms_spec (ws := Jvm.Cond.code x code maxLocals ret :: tables_1) h _ List.mem_cons_self)
    exact ⟨meth, c, h1, h2, h3, h4, h5, h6⟩
  · intro p e s m args below meth c s₁ B hml0 hP _
    obtain ⟨rfl, hx, hbd, hgv⟩ := hP
    obtain ⟨scr, harrAt, hlist, hof, hsmall⟩ := hx
    obtain ⟨hcb, hkn, -, -⟩ := State.arrayAt?_spec harrAt
    have hown : s.vm.findClass R_law = some m.cls := findClass_of_methodNamed B.named
    have hts0 : ∀ c ∈ (Jvm.Cond.code x code maxLocals ret :: tables_1), c.before #[Value.ref b] s = true := atoms_spec (ws := Jvm.Cond.code x code maxLocals ret :: tables_1) B.pre
    have hts : ∀ w ∈ lw_tbl, w.before #[Value.ref b] s = true := k2_hts_sels lw_privs (fun w hw => hts0 w (List.mem_cons_of_mem _ hw)) lw_privs_ok
    have hml : c.maxLocals = 7 := B.maxLocals_eq (hts0 _ List.mem_cons_self)
    have X₀ : Stand p l e room_1 s m #[Value.ref b] below meth c s₁ [] 0 0 := Stand.of_body B
    have hh0 : s₁.heap = s.heap := by rw [B.state]; rfl
    have hsz : scr.slots.size = xs.length := by rw [← Array.length_toList, hlist, List.length_map]
    have hval : ∀ j : Nat, j < xs.length → scr.slots[j]? = some (.int (xs.getD j 0)) := fun j hj => by
      rw [← Array.getElem?_toList, hlist]
      simp [hj]
    have hbl : b < s.heap.size := (Array.getElem?_eq_some_iff.mp hcb).1
    have hX : va_X b xs.length (fun j => xs.getD j 0) s s.heap := ⟨scr, hcb, hof, hkn, hsz, hval⟩
    have K : W p l e room_1 s m #[Value.ref b] below meth c s₁.heap [] 0 0 (lw_Z below #[Value.ref b] s) (entryFrame m ([Value.ref b] : List Value).toArray 7) := by
      rw [hh0]
      exact whole_start hp hl hbd ⟨B.exec, B.bytes, B.returns, hml, hown, hts, hX, hbl, B.notSynchronized, hgv, B.noHandlers (hts0 _ List.mem_cons_self)⟩
    obtain ⟨t, a1, o, b1, b2, b3⟩ := K s₁ rfl X₀
    exact ⟨t, o, a1, b1, b2, b3⟩
theorem lw_pre_spec {args : Array Value} {s : State} (h : (Jvm.Cond.and given_1 narrow_1).before args s = true) (hr : rest_1_c.before args s = true) : ∃ (b : Addr) (xs : List Int32), lw_P b xs args s := by
  have hs := flat_of_before _ h
  have hq := flat_of_before _ hr
  have hc : (Cond.count 1).before args s = true := hs _ (by decide +kernel)
  have harr : (Cond.arrayOf (.arg 0) .int).before args s = true := hs _ (by decide +kernel)
  have hle : (Cond.le (.length (.arg 0)) (.int 2560)).before args s = true := hs _ (by decide +kernel)
  have hlen : (Cond.isInt (.length (.arg 0))).before args s = true := hq _ (by decide +kernel)
  have hall : (Cond.all (.arg 0) (.isInt (.elem (.arg 0) (.index 0)))).before args s = true := hq _ (by decide +kernel)
  obtain ⟨b, xs, hb, hx⟩ := State.ints_of_pre rfl harr hlen hall
  have hsm : xs.length < 2 ^ 31 := hx.choose_spec.2.2.2
  have hev : (Term.length (.arg 0)).eval args s none [] s = some (.int xs.length.toInt32) := hx.length_eval hb
  have hv := Cond.le_ints hev (show (Term.int 2560).eval args s none [] s = some (.int 2560) from rfl)
  have hd : xs.length.toInt32 ≤ 2560 := by
    simpa [Cond.before, Cond.holds, hv] using hle
  have hN : xs.length ≤ 2560 := (Int32.ofNat_le_ofNat hsm (by decide)).mp (show Int32.ofNat xs.length ≤ Int32.ofNat 2560 from hd)
  exact ⟨b, xs, Cond.one_arg hc (show args[0]? = some (.ref b) from hb), hx, hN, h⟩
theorem lw_comes (hp : law_goal) (l : Launch) (hl : l.stackTraces = false) : Comes l x (Jvm.Cond.code x code maxLocals ret :: tables_1) room_1 (fun tb e args s => Calls_1 tb e args s ∧ rest_1 tb e args s ∧ Pre_1 tb e args s)
    (fun _ _ args s o t => lw_Q args s o t) := by
  intro p e ha hc hk s m args below hf hfit hheap happ hpre
  obtain ⟨b, xs, hP⟩ := lw_pre_spec hpre.2.2 hpre.2.1
  obtain ⟨k, o, h1, h2, h3, hQ⟩ := lw_walk hp l hl b xs p e ha hc hk s m args below hf ((Spec.applies_iff_loose hf).mp happ).1 hP trivial
  exact ⟨k, o, h1, h2, h3, hQ⟩
theorem lw_frame {s t : State} {o : Outcome} {args : Array Value} (h : Framed s o t [] 1079 18756) :
    Framed s o t (fieldLocs frame_1_writes args s ++ arrayLocs frame_1_arrays args s ++ staticLocs frame_1_statics s) 1079 18756 := h
theorem lw_limb (hp : law_goal) (L : Cond) (hL : ∀ (args : Array Value) (s t : State), L.after args s (.returned (some (.int 1))) t = true) :
    ArmFor flags0 classFile x code maxLocals ret World_1 tables_1 room_1 Calls_1 rest_1 Pre_1
      (fun tb e a s o t => postC L tb e a s o t ∧ Framed s o t (fieldLocs frame_1_writes a s ++ arrayLocs frame_1_arrays a s ++ staticLocs frame_1_statics s) 1079 18756) := by
  intro l hfl _ _ p e ha hc hk s m args below hf hfit hheap happ hpre
  obtain ⟨k, o, h1, h2, h3, rfl, hF⟩ := lw_comes hp l (by unfold Launch.stackTraces; rw [hfl]; decide) p e ha hc hk s m args below hf hfit hheap happ hpre
  exact ⟨k, _, h1, h2, h3, hL args s _, lw_frame hF⟩
