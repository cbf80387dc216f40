/-! THE SMALL MACHINE, 20: the law and its wrappers as pure programs (written by wip/whole/gen/lawdec_part.py). -/
section MMU
variable {E : mm_V} {mi pc tgt : Nat} {lo lo' : List (Option Value)} {st : List Value} {sh : mm_S} {me : mm_M} {nc ns : Nat} {α : Type} {K : α → mm_O → Prop} {t t' : Option α} {a b d : Nat} {k x y : Int32} {u v : Value} {R : RfM} {LG : LgM} {I J : Mem}
def rW (sh : mm_S) (R : RfM) (nc ns : Nat) (z : Int32 × Nat × Mem × LgM) (o : mm_O) : Prop := o = (.inl (some (.int z.1)), sh, (z.2.2.1, R, z.2.2.2), nc + z.2.1, ns + 6 * z.2.1)
theorem ct_retW {c : Nat} (hq : t_OP mi pc = some (.ireturn, a, b, d, k, u)) (hr : t_RT mi = some .int) : CT E mi (pc, lo, [.int x], sh, (I, R, LG), nc + c, ns + 6 * c) (rW sh R nc ns) (some (x, c, I, LG)) := fun z o hz hk => by cases hz; exact ev_ret hq (Or.inl hr) hk
theorem ct_retWn {c nc' ns' : Nat} {ty : FieldType} (hq : t_OP mi pc = some (.ireturn, a, b, d, k, u)) (hr : t_RT mi = some ty) (hn : narrow ty (.int x) = .int x) (h1 : nc' = nc + c) (h2 : ns' = ns + 6 * c) : CT E mi (pc, lo, [.int x], sh, (I, R, LG), nc', ns') (rW sh R nc ns) (some (x, c, I, LG)) := fun z o hz hk => by
  subst h1 h2
  cases hz
  exact ev_ret hq (Or.inr ⟨ty, hr, hn⟩) hk
theorem ct_cnt {nc' ns' : Nat} (h1 : nc = nc') (h2 : ns = ns') (h : CT E mi (pc, lo, st, sh, me, nc', ns') K t) : CT E mi (pc, lo, st, sh, me, nc, ns) K t := by
  subst h1 h2
  exact h
theorem cnt6 (ns c t : Nat) : ns + 6 * c + 6 * t = ns + 6 * (c + t) := by omega
theorem ct_ifx {S : mm_T} {w n : Nat} (ht : w = n → CT E mi S K t) (hf : ¬ w = n → CT E mi S K t') : CT E mi S K (if w = n then t else t') := by
  by_cases h : w = n
  · rw [if_pos h]; exact ht h
  · rw [if_neg h]; exact hf h
/-- a call that may throw: what is behind it, and its handlers -/
def mm_bk (E : mm_V) (mi : Nat) (q : mm_P) (pc x : Nat) (lo : List (Option Value)) (z : mm_S × mm_M × Nat × Nat) (K : α → mm_O → Prop) (t : Option α) : Prop := ∀ zz o, t = some zz → K zz o → ∃ (h : Nat) (qh : mm_P) (n : Nat) (lo' : List (Option Value)), mm_hv q.1 mi pc x = some h ∧ t_OP mi h = some qh ∧ mm_catch qh lo = some (n, lo') ∧ mm_ev E mi (h + n, lo', [], z) o
theorem ct_callT {q : mm_P} {as r : List Value} {y : Nat} {g : Option (Nat × Int32 × Mem)} {T T' : Nat × Int32 × Mem → Option α} (pc' : Nat) (hq : t_OP mi pc = some q) (hp : pc + 3 = pc') (hn : mm_next E mi q (pc, lo, st, sh, (I, R, LG), nc, ns) = none) (he : mm_end mi q (pc, lo, st, sh, (I, R, LG), nc, ns) = none) (hc : mm_call q st sh = some (y, as, r)) (hy : CT E y (0, mm_entry y as, [], sh, (I, R, LG), 0, 0) (rT sh R LG 0 0) g)
    (h0 : ∀ w : Nat × Int32 × Mem, w.1 = 0 → CT E mi (pc', lo, .int w.2.1 :: r, sh, (w.2.2, R, LG), nc, ns) K (T w)) (hx : ∀ w : Nat × Int32 × Mem, ¬ w.1 = 0 → ∀ x, w.1 = x + 1 → mm_bk E mi q pc x lo (sh, (w.2.2, R, LG), nc + 1, ns + 6) K (T' w)) : CT E mi (pc, lo, st, sh, (I, R, LG), nc, ns) K (g.bind (fun w => if w.1 = 0 then T w else T' w)) := by
  intro z o hz hk
  subst hp
  obtain ⟨w, hw, hz⟩ := Option.bind_eq_some_iff.mp hz
  obtain ⟨x, v, J⟩ := w
  cases x with
  | zero =>
    rw [if_pos rfl] at hz
    exact ev_call hq hn he hc (hy _ _ hw rfl) (h0 (0, v, J) rfl z o hz hk)
  | succ x =>
    rw [if_neg (Nat.succ_ne_zero x)] at hz
    obtain ⟨h, qh, n, lo', e1, e2, e3, e4⟩ := hx (x + 1, v, J) (Nat.succ_ne_zero x) x rfl z o hz hk
    exact ev_callX hq hn he hc (hy _ _ hw rfl) e1 e2 e3 e4
theorem bk_none {q : mm_P} {x : Nat} {z : mm_S × mm_M × Nat × Nat} : mm_bk E mi q pc x lo z K none := fun zz o h _ => by cases h
theorem bk_case {q qh : mm_P} {x w m h n : Nat} {z : mm_S × mm_M × Nat × Nat} (hw : w = x + 1) (hh : mm_hv q.1 mi pc m = some h) (hk : t_OP mi h = some qh) (hg : mm_catch qh lo = some (n, lo')) (ht : CT E mi (h + n, lo', [], z) K t) (hf : mm_bk E mi q pc x lo z K t') : mm_bk E mi q pc x lo z K (if w = m + 1 then t else t') := by
  by_cases hm : w = m + 1
  · rw [if_pos hm]
    have : x = m := by omega
    subst this
    exact fun zz o h1 h2 => ⟨h, qh, n, lo', hh, hk, hg, ht zz o h1 h2⟩
  · rw [if_neg hm]
    exact hf
theorem ct_callW {q : mm_P} {as r : List Value} {y : Nat} {g : Option (Int32 × Nat × Mem × LgM)} {T : Int32 × Nat × Mem × LgM → Option α} (pc' : Nat) (hq : t_OP mi pc = some q) (hp : pc + 3 = pc') (hn : mm_next E mi q (pc, lo, st, sh, (I, R, LG), nc, ns) = none) (he : mm_end mi q (pc, lo, st, sh, (I, R, LG), nc, ns) = none) (hc : mm_call q st sh = some (y, as, r)) (hy : CT E y (0, mm_entry y as, [], sh, (I, R, LG), 0, 0) (rW sh R 0 0) g)
    (h : ∀ w, CT E mi (pc', lo, .int w.1 :: r, sh, (w.2.2.1, R, w.2.2.2), nc + w.2.1, ns + 6 * w.2.1) K (T w)) : CT E mi (pc, lo, st, sh, (I, R, LG), nc, ns) K (g.bind T) := by
  intro z o hz hk
  subst hp
  obtain ⟨w, hw, hz⟩ := Option.bind_eq_some_iff.mp hz
  have h1 := hy w (.inl (some (.int w.1)), sh, (w.2.2.1, R, w.2.2.2), w.2.1, 6 * w.2.1) hw (by unfold rW; rw [Nat.zero_add, Nat.zero_add])
  exact ev_call hq hn he hc h1 (h w z o hz hk)
theorem o_0_23 : t_OP 0 23 = some (.iload 4, 0, 0, 0, 0, .null) := by decide +kernel
theorem o_0_25 : t_OP 0 25 = some (.aload_n 0, 0, 0, 0, 0, .null) := by decide +kernel
theorem o_0_26 : t_OP 0 26 = some (.arraylength, 0, 0, 0, 0, .null) := by decide +kernel
theorem o_0_27 : t_OP 0 27 = some (.iconst (5), 0, 0, 0, 5, .null) := by decide +kernel
theorem o_0_28 : t_OP 0 28 = some (.isub, 0, 0, 0, 0, .null) := by decide +kernel
theorem o_0_29 : t_OP 0 29 = some (.if_icmp .gt (960), 989, 0, 0, 0, .null) := by decide +kernel
theorem o_0_32 : t_OP 0 32 = some (.aload_n 0, 0, 0, 0, 0, .null) := by decide +kernel
theorem o_0_33 : t_OP 0 33 = some (.iload 4, 0, 0, 0, 0, .null) := by decide +kernel
theorem o_0_35 : t_OP 0 35 = some (.iaload, 0, 0, 0, 0, .null) := by decide +kernel
theorem o_0_36 : t_OP 0 36 = some (.bipush (31), 0, 0, 0, 31, .null) := by decide +kernel
theorem o_0_38 : t_OP 0 38 = some (.iand, 0, 0, 0, 0, .null) := by decide +kernel
theorem o_0_39 : t_OP 0 39 = some (.tableswitch (944) (0) (16) #[81, 173, 229, 273, 329, 385, 429, 497, 565, 609, 622, 694, 750, 806, 850, 906, 919], 0, 0, 0, 0, .null) := by decide +kernel
theorem o_0_120 : t_OP 0 120 = some (.aload_n 1, 0, 0, 0, 0, .null) := by decide +kernel
theorem o_0_121 : t_OP 0 121 = some (.aload_n 0, 0, 0, 0, 0, .null) := by decide +kernel
theorem o_0_122 : t_OP 0 122 = some (.iload 4, 0, 0, 0, 0, .null) := by decide +kernel
theorem o_0_124 : t_OP 0 124 = some (.iconst (1), 0, 0, 0, 1, .null) := by decide +kernel
theorem o_0_125 : t_OP 0 125 = some (.iadd, 0, 0, 0, 0, .null) := by decide +kernel
theorem o_0_126 : t_OP 0 126 = some (.iaload, 0, 0, 0, 0, .null) := by decide +kernel
theorem o_0_127 : t_OP 0 127 = some (.aload_n 0, 0, 0, 0, 0, .null) := by decide +kernel
theorem o_0_128 : t_OP 0 128 = some (.iload 4, 0, 0, 0, 0, .null) := by decide +kernel
theorem o_0_130 : t_OP 0 130 = some (.iconst (2), 0, 0, 0, 2, .null) := by decide +kernel
theorem o_0_131 : t_OP 0 131 = some (.iadd, 0, 0, 0, 0, .null) := by decide +kernel
theorem o_0_132 : t_OP 0 132 = some (.iaload, 0, 0, 0, 0, .null) := by decide +kernel
theorem o_0_133 : t_OP 0 133 = some (.aload_n 0, 0, 0, 0, 0, .null) := by decide +kernel
theorem o_0_134 : t_OP 0 134 = some (.iload 4, 0, 0, 0, 0, .null) := by decide +kernel
theorem o_0_136 : t_OP 0 136 = some (.iconst (3), 0, 0, 0, 3, .null) := by decide +kernel
theorem o_0_137 : t_OP 0 137 = some (.iadd, 0, 0, 0, 0, .null) := by decide +kernel
theorem o_0_138 : t_OP 0 138 = some (.iaload, 0, 0, 0, 0, .null) := by decide +kernel
theorem o_0_139 : t_OP 0 139 = some (.aload_n 0, 0, 0, 0, 0, .null) := by decide +kernel
theorem o_0_140 : t_OP 0 140 = some (.iload 4, 0, 0, 0, 0, .null) := by decide +kernel
theorem o_0_142 : t_OP 0 142 = some (.iconst (4), 0, 0, 0, 4, .null) := by decide +kernel
theorem o_0_143 : t_OP 0 143 = some (.iadd, 0, 0, 0, 0, .null) := by decide +kernel
theorem o_0_144 : t_OP 0 144 = some (.iaload, 0, 0, 0, 0, .null) := by decide +kernel
theorem o_0_145 : t_OP 0 145 = some (.aload_n 3, 0, 0, 0, 0, .null) := by decide +kernel
theorem o_0_146 : t_OP 0 146 = some (.invokestatic 68, 1, 2, 6, 0, .null) := by decide +kernel
theorem o_0_149 : t_OP 0 149 = some (.istore 5, 0, 0, 0, 0, .null) := by decide +kernel
theorem o_0_151 : t_OP 0 151 = some (.aload_n 2, 0, 0, 0, 0, .null) := by decide +kernel
theorem o_0_152 : t_OP 0 152 = some (.aload_n 0, 0, 0, 0, 0, .null) := by decide +kernel
theorem o_0_153 : t_OP 0 153 = some (.iload 4, 0, 0, 0, 0, .null) := by decide +kernel
theorem o_0_155 : t_OP 0 155 = some (.iconst (1), 0, 0, 0, 1, .null) := by decide +kernel
theorem o_0_156 : t_OP 0 156 = some (.iadd, 0, 0, 0, 0, .null) := by decide +kernel
theorem o_0_157 : t_OP 0 157 = some (.iaload, 0, 0, 0, 0, .null) := by decide +kernel
theorem o_0_158 : t_OP 0 158 = some (.aload_n 0, 0, 0, 0, 0, .null) := by decide +kernel
theorem o_0_159 : t_OP 0 159 = some (.iload 4, 0, 0, 0, 0, .null) := by decide +kernel
theorem o_0_161 : t_OP 0 161 = some (.iconst (2), 0, 0, 0, 2, .null) := by decide +kernel
theorem o_0_162 : t_OP 0 162 = some (.iadd, 0, 0, 0, 0, .null) := by decide +kernel
theorem o_0_163 : t_OP 0 163 = some (.iaload, 0, 0, 0, 0, .null) := by decide +kernel
theorem o_0_164 : t_OP 0 164 = some (.aload_n 0, 0, 0, 0, 0, .null) := by decide +kernel
theorem o_0_165 : t_OP 0 165 = some (.iload 4, 0, 0, 0, 0, .null) := by decide +kernel
theorem o_0_167 : t_OP 0 167 = some (.iconst (3), 0, 0, 0, 3, .null) := by decide +kernel
theorem o_0_168 : t_OP 0 168 = some (.iadd, 0, 0, 0, 0, .null) := by decide +kernel
theorem o_0_169 : t_OP 0 169 = some (.iaload, 0, 0, 0, 0, .null) := by decide +kernel
theorem o_0_170 : t_OP 0 170 = some (.aload_n 0, 0, 0, 0, 0, .null) := by decide +kernel
theorem o_0_171 : t_OP 0 171 = some (.iload 4, 0, 0, 0, 0, .null) := by decide +kernel
theorem o_0_173 : t_OP 0 173 = some (.iconst (4), 0, 0, 0, 4, .null) := by decide +kernel
theorem o_0_174 : t_OP 0 174 = some (.iadd, 0, 0, 0, 0, .null) := by decide +kernel
theorem o_0_175 : t_OP 0 175 = some (.iaload, 0, 0, 0, 0, .null) := by decide +kernel
theorem o_0_176 : t_OP 0 176 = some (.invokevirtual 73, 108, 0, 4, 0, .null) := by decide +kernel
theorem o_0_179 : t_OP 0 179 = some (.istore 6, 0, 0, 0, 0, .null) := by decide +kernel
theorem o_0_181 : t_OP 0 181 = some (.aload_n 2, 0, 0, 0, 0, .null) := by decide +kernel
theorem o_0_182 : t_OP 0 182 = some (.invokevirtual 74, 107, 0, 0, 0, .null) := by decide +kernel
theorem o_0_185 : t_OP 0 185 = some (.iload 5, 0, 0, 0, 0, .null) := by decide +kernel
theorem o_0_187 : t_OP 0 187 = some (.if_icmp .eq (5), 192, 0, 0, 0, .null) := by decide +kernel
theorem o_0_190 : t_OP 0 190 = some (.iconst (0), 0, 0, 0, 0, .null) := by decide +kernel
theorem o_0_191 : t_OP 0 191 = some (.ireturn, 0, 0, 0, 0, .null) := by decide +kernel
theorem o_0_192 : t_OP 0 192 = some (.iload 5, 0, 0, 0, 0, .null) := by decide +kernel
theorem o_0_194 : t_OP 0 194 = some (.ifCond .ne (15), 209, 0, 0, 0, .null) := by decide +kernel
theorem o_0_197 : t_OP 0 197 = some (.aload_n 3, 0, 0, 0, 0, .null) := by decide +kernel
theorem o_0_198 : t_OP 0 198 = some (.iconst (0), 0, 0, 0, 0, .null) := by decide +kernel
theorem o_0_199 : t_OP 0 199 = some (.laload, 0, 0, 0, 0, .null) := by decide +kernel
theorem o_0_200 : t_OP 0 200 = some (.iload 6, 0, 0, 0, 0, .null) := by decide +kernel
theorem o_0_202 : t_OP 0 202 = some (.i2l, 0, 0, 0, 0, .null) := by decide +kernel
theorem o_0_203 : t_OP 0 203 = some (.lcmp, 0, 0, 0, 0, .null) := by decide +kernel
theorem o_0_204 : t_OP 0 204 = some (.ifCond .eq (5), 209, 0, 0, 0, .null) := by decide +kernel
theorem o_0_207 : t_OP 0 207 = some (.iconst (0), 0, 0, 0, 0, .null) := by decide +kernel
theorem o_0_208 : t_OP 0 208 = some (.ireturn, 0, 0, 0, 0, .null) := by decide +kernel
theorem o_0_209 : t_OP 0 209 = some (.goto (774), 983, 0, 0, 0, .null) := by decide +kernel
theorem o_0_212 : t_OP 0 212 = some (.aload_n 1, 0, 0, 0, 0, .null) := by decide +kernel
theorem o_0_213 : t_OP 0 213 = some (.aload_n 0, 0, 0, 0, 0, .null) := by decide +kernel
theorem o_0_214 : t_OP 0 214 = some (.iload 4, 0, 0, 0, 0, .null) := by decide +kernel
theorem o_0_216 : t_OP 0 216 = some (.iconst (1), 0, 0, 0, 1, .null) := by decide +kernel
theorem o_0_217 : t_OP 0 217 = some (.iadd, 0, 0, 0, 0, .null) := by decide +kernel
theorem o_0_218 : t_OP 0 218 = some (.iaload, 0, 0, 0, 0, .null) := by decide +kernel
theorem o_0_219 : t_OP 0 219 = some (.aload_n 3, 0, 0, 0, 0, .null) := by decide +kernel
theorem o_0_220 : t_OP 0 220 = some (.invokestatic 77, 2, 2, 3, 0, .null) := by decide +kernel
theorem o_0_223 : t_OP 0 223 = some (.istore 5, 0, 0, 0, 0, .null) := by decide +kernel
theorem o_0_225 : t_OP 0 225 = some (.aload_n 2, 0, 0, 0, 0, .null) := by decide +kernel
theorem o_0_226 : t_OP 0 226 = some (.aload_n 0, 0, 0, 0, 0, .null) := by decide +kernel
theorem o_0_227 : t_OP 0 227 = some (.iload 4, 0, 0, 0, 0, .null) := by decide +kernel
theorem o_0_229 : t_OP 0 229 = some (.iconst (1), 0, 0, 0, 1, .null) := by decide +kernel
theorem o_0_230 : t_OP 0 230 = some (.iadd, 0, 0, 0, 0, .null) := by decide +kernel
theorem o_0_231 : t_OP 0 231 = some (.iaload, 0, 0, 0, 0, .null) := by decide +kernel
theorem o_0_232 : t_OP 0 232 = some (.invokevirtual 80, 110, 0, 1, 0, .null) := by decide +kernel
theorem o_0_235 : t_OP 0 235 = some (.istore 6, 0, 0, 0, 0, .null) := by decide +kernel
theorem o_0_237 : t_OP 0 237 = some (.aload_n 2, 0, 0, 0, 0, .null) := by decide +kernel
theorem o_0_238 : t_OP 0 238 = some (.invokevirtual 74, 107, 0, 0, 0, .null) := by decide +kernel
theorem o_0_241 : t_OP 0 241 = some (.iload 5, 0, 0, 0, 0, .null) := by decide +kernel
theorem o_0_243 : t_OP 0 243 = some (.if_icmp .eq (5), 248, 0, 0, 0, .null) := by decide +kernel
theorem o_0_246 : t_OP 0 246 = some (.iconst (0), 0, 0, 0, 0, .null) := by decide +kernel
theorem o_0_247 : t_OP 0 247 = some (.ireturn, 0, 0, 0, 0, .null) := by decide +kernel
theorem o_0_248 : t_OP 0 248 = some (.iload 5, 0, 0, 0, 0, .null) := by decide +kernel
theorem o_0_250 : t_OP 0 250 = some (.ifCond .ne (15), 265, 0, 0, 0, .null) := by decide +kernel
theorem o_0_253 : t_OP 0 253 = some (.aload_n 3, 0, 0, 0, 0, .null) := by decide +kernel
theorem o_0_254 : t_OP 0 254 = some (.iconst (0), 0, 0, 0, 0, .null) := by decide +kernel
theorem o_0_255 : t_OP 0 255 = some (.laload, 0, 0, 0, 0, .null) := by decide +kernel
theorem o_0_256 : t_OP 0 256 = some (.iload 6, 0, 0, 0, 0, .null) := by decide +kernel
theorem o_0_258 : t_OP 0 258 = some (.i2l, 0, 0, 0, 0, .null) := by decide +kernel
theorem o_0_259 : t_OP 0 259 = some (.lcmp, 0, 0, 0, 0, .null) := by decide +kernel
theorem o_0_260 : t_OP 0 260 = some (.ifCond .eq (5), 265, 0, 0, 0, .null) := by decide +kernel
theorem o_0_263 : t_OP 0 263 = some (.iconst (0), 0, 0, 0, 0, .null) := by decide +kernel
theorem o_0_264 : t_OP 0 264 = some (.ireturn, 0, 0, 0, 0, .null) := by decide +kernel
theorem o_0_265 : t_OP 0 265 = some (.goto (718), 983, 0, 0, 0, .null) := by decide +kernel
theorem o_0_268 : t_OP 0 268 = some (.aload_n 1, 0, 0, 0, 0, .null) := by decide +kernel
theorem o_0_269 : t_OP 0 269 = some (.aload_n 3, 0, 0, 0, 0, .null) := by decide +kernel
theorem o_0_270 : t_OP 0 270 = some (.invokestatic 81, 3, 2, 2, 0, .null) := by decide +kernel
theorem o_0_273 : t_OP 0 273 = some (.istore 5, 0, 0, 0, 0, .null) := by decide +kernel
theorem o_0_275 : t_OP 0 275 = some (.aload_n 2, 0, 0, 0, 0, .null) := by decide +kernel
theorem o_0_276 : t_OP 0 276 = some (.invokevirtual 84, 112, 0, 0, 0, .null) := by decide +kernel
theorem o_0_279 : t_OP 0 279 = some (.istore 6, 0, 0, 0, 0, .null) := by decide +kernel
theorem o_0_281 : t_OP 0 281 = some (.aload_n 2, 0, 0, 0, 0, .null) := by decide +kernel
theorem o_0_282 : t_OP 0 282 = some (.invokevirtual 74, 107, 0, 0, 0, .null) := by decide +kernel
theorem o_0_285 : t_OP 0 285 = some (.iload 5, 0, 0, 0, 0, .null) := by decide +kernel
theorem o_0_287 : t_OP 0 287 = some (.if_icmp .eq (5), 292, 0, 0, 0, .null) := by decide +kernel
theorem o_0_290 : t_OP 0 290 = some (.iconst (0), 0, 0, 0, 0, .null) := by decide +kernel
theorem o_0_291 : t_OP 0 291 = some (.ireturn, 0, 0, 0, 0, .null) := by decide +kernel
theorem o_0_292 : t_OP 0 292 = some (.iload 5, 0, 0, 0, 0, .null) := by decide +kernel
theorem o_0_294 : t_OP 0 294 = some (.ifCond .ne (15), 309, 0, 0, 0, .null) := by decide +kernel
theorem o_0_297 : t_OP 0 297 = some (.aload_n 3, 0, 0, 0, 0, .null) := by decide +kernel
theorem o_0_298 : t_OP 0 298 = some (.iconst (0), 0, 0, 0, 0, .null) := by decide +kernel
theorem o_0_299 : t_OP 0 299 = some (.laload, 0, 0, 0, 0, .null) := by decide +kernel
theorem o_0_300 : t_OP 0 300 = some (.iload 6, 0, 0, 0, 0, .null) := by decide +kernel
theorem o_0_302 : t_OP 0 302 = some (.i2l, 0, 0, 0, 0, .null) := by decide +kernel
theorem o_0_303 : t_OP 0 303 = some (.lcmp, 0, 0, 0, 0, .null) := by decide +kernel
theorem o_0_304 : t_OP 0 304 = some (.ifCond .eq (5), 309, 0, 0, 0, .null) := by decide +kernel
theorem o_0_307 : t_OP 0 307 = some (.iconst (0), 0, 0, 0, 0, .null) := by decide +kernel
theorem o_0_308 : t_OP 0 308 = some (.ireturn, 0, 0, 0, 0, .null) := by decide +kernel
theorem o_0_309 : t_OP 0 309 = some (.goto (674), 983, 0, 0, 0, .null) := by decide +kernel
theorem o_0_312 : t_OP 0 312 = some (.aload_n 1, 0, 0, 0, 0, .null) := by decide +kernel
theorem o_0_313 : t_OP 0 313 = some (.aload_n 0, 0, 0, 0, 0, .null) := by decide +kernel
theorem o_0_314 : t_OP 0 314 = some (.iload 4, 0, 0, 0, 0, .null) := by decide +kernel
theorem o_0_316 : t_OP 0 316 = some (.iconst (1), 0, 0, 0, 1, .null) := by decide +kernel
theorem o_0_317 : t_OP 0 317 = some (.iadd, 0, 0, 0, 0, .null) := by decide +kernel
theorem o_0_318 : t_OP 0 318 = some (.iaload, 0, 0, 0, 0, .null) := by decide +kernel
theorem o_0_319 : t_OP 0 319 = some (.aload_n 3, 0, 0, 0, 0, .null) := by decide +kernel
theorem o_0_320 : t_OP 0 320 = some (.invokestatic 85, 4, 2, 3, 0, .null) := by decide +kernel
theorem o_0_323 : t_OP 0 323 = some (.istore 5, 0, 0, 0, 0, .null) := by decide +kernel
theorem o_0_325 : t_OP 0 325 = some (.aload_n 2, 0, 0, 0, 0, .null) := by decide +kernel
theorem o_0_326 : t_OP 0 326 = some (.aload_n 0, 0, 0, 0, 0, .null) := by decide +kernel
theorem o_0_327 : t_OP 0 327 = some (.iload 4, 0, 0, 0, 0, .null) := by decide +kernel
theorem o_0_329 : t_OP 0 329 = some (.iconst (1), 0, 0, 0, 1, .null) := by decide +kernel
theorem o_0_330 : t_OP 0 330 = some (.iadd, 0, 0, 0, 0, .null) := by decide +kernel
theorem o_0_331 : t_OP 0 331 = some (.iaload, 0, 0, 0, 0, .null) := by decide +kernel
theorem o_0_332 : t_OP 0 332 = some (.invokevirtual 87, 133, 0, 1, 0, .null) := by decide +kernel
theorem o_0_335 : t_OP 0 335 = some (.istore 6, 0, 0, 0, 0, .null) := by decide +kernel
theorem o_0_337 : t_OP 0 337 = some (.aload_n 2, 0, 0, 0, 0, .null) := by decide +kernel
theorem o_0_338 : t_OP 0 338 = some (.invokevirtual 74, 107, 0, 0, 0, .null) := by decide +kernel
theorem o_0_341 : t_OP 0 341 = some (.iload 5, 0, 0, 0, 0, .null) := by decide +kernel
theorem o_0_343 : t_OP 0 343 = some (.if_icmp .eq (5), 348, 0, 0, 0, .null) := by decide +kernel
theorem o_0_346 : t_OP 0 346 = some (.iconst (0), 0, 0, 0, 0, .null) := by decide +kernel
theorem o_0_347 : t_OP 0 347 = some (.ireturn, 0, 0, 0, 0, .null) := by decide +kernel
theorem o_0_348 : t_OP 0 348 = some (.iload 5, 0, 0, 0, 0, .null) := by decide +kernel
theorem o_0_350 : t_OP 0 350 = some (.ifCond .ne (15), 365, 0, 0, 0, .null) := by decide +kernel
theorem o_0_353 : t_OP 0 353 = some (.aload_n 3, 0, 0, 0, 0, .null) := by decide +kernel
theorem o_0_354 : t_OP 0 354 = some (.iconst (0), 0, 0, 0, 0, .null) := by decide +kernel
theorem o_0_355 : t_OP 0 355 = some (.laload, 0, 0, 0, 0, .null) := by decide +kernel
theorem o_0_356 : t_OP 0 356 = some (.iload 6, 0, 0, 0, 0, .null) := by decide +kernel
theorem o_0_358 : t_OP 0 358 = some (.i2l, 0, 0, 0, 0, .null) := by decide +kernel
theorem o_0_359 : t_OP 0 359 = some (.lcmp, 0, 0, 0, 0, .null) := by decide +kernel
theorem o_0_360 : t_OP 0 360 = some (.ifCond .eq (5), 365, 0, 0, 0, .null) := by decide +kernel
theorem o_0_363 : t_OP 0 363 = some (.iconst (0), 0, 0, 0, 0, .null) := by decide +kernel
theorem o_0_364 : t_OP 0 364 = some (.ireturn, 0, 0, 0, 0, .null) := by decide +kernel
theorem o_0_365 : t_OP 0 365 = some (.goto (618), 983, 0, 0, 0, .null) := by decide +kernel
theorem o_0_368 : t_OP 0 368 = some (.aload_n 1, 0, 0, 0, 0, .null) := by decide +kernel
theorem o_0_369 : t_OP 0 369 = some (.aload_n 0, 0, 0, 0, 0, .null) := by decide +kernel
theorem o_0_370 : t_OP 0 370 = some (.iload 4, 0, 0, 0, 0, .null) := by decide +kernel
theorem o_0_372 : t_OP 0 372 = some (.iconst (1), 0, 0, 0, 1, .null) := by decide +kernel
theorem o_0_373 : t_OP 0 373 = some (.iadd, 0, 0, 0, 0, .null) := by decide +kernel
theorem o_0_374 : t_OP 0 374 = some (.iaload, 0, 0, 0, 0, .null) := by decide +kernel
theorem o_0_375 : t_OP 0 375 = some (.aload_n 3, 0, 0, 0, 0, .null) := by decide +kernel
theorem o_0_376 : t_OP 0 376 = some (.invokestatic 88, 5, 2, 3, 0, .null) := by decide +kernel
theorem o_0_379 : t_OP 0 379 = some (.istore 5, 0, 0, 0, 0, .null) := by decide +kernel
theorem o_0_381 : t_OP 0 381 = some (.aload_n 2, 0, 0, 0, 0, .null) := by decide +kernel
theorem o_0_382 : t_OP 0 382 = some (.aload_n 0, 0, 0, 0, 0, .null) := by decide +kernel
theorem o_0_383 : t_OP 0 383 = some (.iload 4, 0, 0, 0, 0, .null) := by decide +kernel
theorem o_0_385 : t_OP 0 385 = some (.iconst (1), 0, 0, 0, 1, .null) := by decide +kernel
theorem o_0_386 : t_OP 0 386 = some (.iadd, 0, 0, 0, 0, .null) := by decide +kernel
theorem o_0_387 : t_OP 0 387 = some (.iaload, 0, 0, 0, 0, .null) := by decide +kernel
theorem o_0_388 : t_OP 0 388 = some (.invokevirtual 90, 134, 0, 1, 0, .null) := by decide +kernel
theorem o_0_391 : t_OP 0 391 = some (.istore 6, 0, 0, 0, 0, .null) := by decide +kernel
theorem o_0_393 : t_OP 0 393 = some (.aload_n 2, 0, 0, 0, 0, .null) := by decide +kernel
theorem o_0_394 : t_OP 0 394 = some (.invokevirtual 74, 107, 0, 0, 0, .null) := by decide +kernel
theorem o_0_397 : t_OP 0 397 = some (.iload 5, 0, 0, 0, 0, .null) := by decide +kernel
theorem o_0_399 : t_OP 0 399 = some (.if_icmp .eq (5), 404, 0, 0, 0, .null) := by decide +kernel
theorem o_0_402 : t_OP 0 402 = some (.iconst (0), 0, 0, 0, 0, .null) := by decide +kernel
theorem o_0_403 : t_OP 0 403 = some (.ireturn, 0, 0, 0, 0, .null) := by decide +kernel
theorem o_0_404 : t_OP 0 404 = some (.iload 5, 0, 0, 0, 0, .null) := by decide +kernel
theorem o_0_406 : t_OP 0 406 = some (.ifCond .ne (15), 421, 0, 0, 0, .null) := by decide +kernel
theorem o_0_409 : t_OP 0 409 = some (.aload_n 3, 0, 0, 0, 0, .null) := by decide +kernel
theorem o_0_410 : t_OP 0 410 = some (.iconst (0), 0, 0, 0, 0, .null) := by decide +kernel
theorem o_0_411 : t_OP 0 411 = some (.laload, 0, 0, 0, 0, .null) := by decide +kernel
theorem o_0_412 : t_OP 0 412 = some (.iload 6, 0, 0, 0, 0, .null) := by decide +kernel
theorem o_0_414 : t_OP 0 414 = some (.i2l, 0, 0, 0, 0, .null) := by decide +kernel
theorem o_0_415 : t_OP 0 415 = some (.lcmp, 0, 0, 0, 0, .null) := by decide +kernel
theorem o_0_416 : t_OP 0 416 = some (.ifCond .eq (5), 421, 0, 0, 0, .null) := by decide +kernel
theorem o_0_419 : t_OP 0 419 = some (.iconst (0), 0, 0, 0, 0, .null) := by decide +kernel
theorem o_0_420 : t_OP 0 420 = some (.ireturn, 0, 0, 0, 0, .null) := by decide +kernel
theorem o_0_421 : t_OP 0 421 = some (.goto (562), 983, 0, 0, 0, .null) := by decide +kernel
theorem o_0_424 : t_OP 0 424 = some (.aload_n 1, 0, 0, 0, 0, .null) := by decide +kernel
theorem o_0_425 : t_OP 0 425 = some (.aload_n 3, 0, 0, 0, 0, .null) := by decide +kernel
theorem o_0_426 : t_OP 0 426 = some (.invokestatic 91, 6, 2, 2, 0, .null) := by decide +kernel
theorem o_0_429 : t_OP 0 429 = some (.istore 5, 0, 0, 0, 0, .null) := by decide +kernel
theorem o_0_431 : t_OP 0 431 = some (.aload_n 2, 0, 0, 0, 0, .null) := by decide +kernel
theorem o_0_432 : t_OP 0 432 = some (.invokevirtual 93, 135, 0, 0, 0, .null) := by decide +kernel
theorem o_0_435 : t_OP 0 435 = some (.istore 6, 0, 0, 0, 0, .null) := by decide +kernel
theorem o_0_437 : t_OP 0 437 = some (.aload_n 2, 0, 0, 0, 0, .null) := by decide +kernel
theorem o_0_438 : t_OP 0 438 = some (.invokevirtual 74, 107, 0, 0, 0, .null) := by decide +kernel
theorem o_0_441 : t_OP 0 441 = some (.iload 5, 0, 0, 0, 0, .null) := by decide +kernel
theorem o_0_443 : t_OP 0 443 = some (.if_icmp .eq (5), 448, 0, 0, 0, .null) := by decide +kernel
theorem o_0_446 : t_OP 0 446 = some (.iconst (0), 0, 0, 0, 0, .null) := by decide +kernel
theorem o_0_447 : t_OP 0 447 = some (.ireturn, 0, 0, 0, 0, .null) := by decide +kernel
theorem o_0_448 : t_OP 0 448 = some (.iload 5, 0, 0, 0, 0, .null) := by decide +kernel
theorem o_0_450 : t_OP 0 450 = some (.ifCond .ne (15), 465, 0, 0, 0, .null) := by decide +kernel
theorem o_0_453 : t_OP 0 453 = some (.aload_n 3, 0, 0, 0, 0, .null) := by decide +kernel
theorem o_0_454 : t_OP 0 454 = some (.iconst (0), 0, 0, 0, 0, .null) := by decide +kernel
theorem o_0_455 : t_OP 0 455 = some (.laload, 0, 0, 0, 0, .null) := by decide +kernel
theorem o_0_456 : t_OP 0 456 = some (.iload 6, 0, 0, 0, 0, .null) := by decide +kernel
theorem o_0_458 : t_OP 0 458 = some (.i2l, 0, 0, 0, 0, .null) := by decide +kernel
theorem o_0_459 : t_OP 0 459 = some (.lcmp, 0, 0, 0, 0, .null) := by decide +kernel
theorem o_0_460 : t_OP 0 460 = some (.ifCond .eq (5), 465, 0, 0, 0, .null) := by decide +kernel
theorem o_0_463 : t_OP 0 463 = some (.iconst (0), 0, 0, 0, 0, .null) := by decide +kernel
theorem o_0_464 : t_OP 0 464 = some (.ireturn, 0, 0, 0, 0, .null) := by decide +kernel
theorem o_0_465 : t_OP 0 465 = some (.goto (518), 983, 0, 0, 0, .null) := by decide +kernel
theorem o_0_468 : t_OP 0 468 = some (.aload_n 1, 0, 0, 0, 0, .null) := by decide +kernel
theorem o_0_469 : t_OP 0 469 = some (.aload_n 0, 0, 0, 0, 0, .null) := by decide +kernel
theorem o_0_470 : t_OP 0 470 = some (.iload 4, 0, 0, 0, 0, .null) := by decide +kernel
theorem o_0_472 : t_OP 0 472 = some (.iconst (1), 0, 0, 0, 1, .null) := by decide +kernel
theorem o_0_473 : t_OP 0 473 = some (.iadd, 0, 0, 0, 0, .null) := by decide +kernel
theorem o_0_474 : t_OP 0 474 = some (.iaload, 0, 0, 0, 0, .null) := by decide +kernel
theorem o_0_475 : t_OP 0 475 = some (.aload_n 0, 0, 0, 0, 0, .null) := by decide +kernel
theorem o_0_476 : t_OP 0 476 = some (.iload 4, 0, 0, 0, 0, .null) := by decide +kernel
theorem o_0_478 : t_OP 0 478 = some (.iconst (2), 0, 0, 0, 2, .null) := by decide +kernel
theorem o_0_479 : t_OP 0 479 = some (.iadd, 0, 0, 0, 0, .null) := by decide +kernel
theorem o_0_480 : t_OP 0 480 = some (.iaload, 0, 0, 0, 0, .null) := by decide +kernel
theorem o_0_481 : t_OP 0 481 = some (.aload_n 3, 0, 0, 0, 0, .null) := by decide +kernel
theorem o_0_482 : t_OP 0 482 = some (.invokestatic 94, 7, 2, 4, 0, .null) := by decide +kernel
theorem o_0_485 : t_OP 0 485 = some (.istore 5, 0, 0, 0, 0, .null) := by decide +kernel
theorem o_0_487 : t_OP 0 487 = some (.aload_n 2, 0, 0, 0, 0, .null) := by decide +kernel
theorem o_0_488 : t_OP 0 488 = some (.aload_n 0, 0, 0, 0, 0, .null) := by decide +kernel
theorem o_0_489 : t_OP 0 489 = some (.iload 4, 0, 0, 0, 0, .null) := by decide +kernel
theorem o_0_491 : t_OP 0 491 = some (.iconst (1), 0, 0, 0, 1, .null) := by decide +kernel
theorem o_0_492 : t_OP 0 492 = some (.iadd, 0, 0, 0, 0, .null) := by decide +kernel
theorem o_0_493 : t_OP 0 493 = some (.iaload, 0, 0, 0, 0, .null) := by decide +kernel
theorem o_0_494 : t_OP 0 494 = some (.aload_n 0, 0, 0, 0, 0, .null) := by decide +kernel
theorem o_0_495 : t_OP 0 495 = some (.iload 4, 0, 0, 0, 0, .null) := by decide +kernel
theorem o_0_497 : t_OP 0 497 = some (.iconst (2), 0, 0, 0, 2, .null) := by decide +kernel
theorem o_0_498 : t_OP 0 498 = some (.iadd, 0, 0, 0, 0, .null) := by decide +kernel
theorem o_0_499 : t_OP 0 499 = some (.iaload, 0, 0, 0, 0, .null) := by decide +kernel
theorem o_0_500 : t_OP 0 500 = some (.invokevirtual 97, 142, 0, 2, 0, .null) := by decide +kernel
theorem o_0_503 : t_OP 0 503 = some (.istore 6, 0, 0, 0, 0, .null) := by decide +kernel
theorem o_0_505 : t_OP 0 505 = some (.aload_n 2, 0, 0, 0, 0, .null) := by decide +kernel
theorem o_0_506 : t_OP 0 506 = some (.invokevirtual 74, 107, 0, 0, 0, .null) := by decide +kernel
theorem o_0_509 : t_OP 0 509 = some (.iload 5, 0, 0, 0, 0, .null) := by decide +kernel
theorem o_0_511 : t_OP 0 511 = some (.if_icmp .eq (5), 516, 0, 0, 0, .null) := by decide +kernel
theorem o_0_514 : t_OP 0 514 = some (.iconst (0), 0, 0, 0, 0, .null) := by decide +kernel
theorem o_0_515 : t_OP 0 515 = some (.ireturn, 0, 0, 0, 0, .null) := by decide +kernel
theorem o_0_516 : t_OP 0 516 = some (.iload 5, 0, 0, 0, 0, .null) := by decide +kernel
theorem o_0_518 : t_OP 0 518 = some (.ifCond .ne (15), 533, 0, 0, 0, .null) := by decide +kernel
theorem o_0_521 : t_OP 0 521 = some (.aload_n 3, 0, 0, 0, 0, .null) := by decide +kernel
theorem o_0_522 : t_OP 0 522 = some (.iconst (0), 0, 0, 0, 0, .null) := by decide +kernel
theorem o_0_523 : t_OP 0 523 = some (.laload, 0, 0, 0, 0, .null) := by decide +kernel
theorem o_0_524 : t_OP 0 524 = some (.iload 6, 0, 0, 0, 0, .null) := by decide +kernel
theorem o_0_526 : t_OP 0 526 = some (.i2l, 0, 0, 0, 0, .null) := by decide +kernel
theorem o_0_527 : t_OP 0 527 = some (.lcmp, 0, 0, 0, 0, .null) := by decide +kernel
theorem o_0_528 : t_OP 0 528 = some (.ifCond .eq (5), 533, 0, 0, 0, .null) := by decide +kernel
theorem o_0_531 : t_OP 0 531 = some (.iconst (0), 0, 0, 0, 0, .null) := by decide +kernel
theorem o_0_532 : t_OP 0 532 = some (.ireturn, 0, 0, 0, 0, .null) := by decide +kernel
theorem o_0_533 : t_OP 0 533 = some (.goto (450), 983, 0, 0, 0, .null) := by decide +kernel
theorem o_0_536 : t_OP 0 536 = some (.aload_n 1, 0, 0, 0, 0, .null) := by decide +kernel
theorem o_0_537 : t_OP 0 537 = some (.aload_n 0, 0, 0, 0, 0, .null) := by decide +kernel
theorem o_0_538 : t_OP 0 538 = some (.iload 4, 0, 0, 0, 0, .null) := by decide +kernel
theorem o_0_540 : t_OP 0 540 = some (.iconst (1), 0, 0, 0, 1, .null) := by decide +kernel
theorem o_0_541 : t_OP 0 541 = some (.iadd, 0, 0, 0, 0, .null) := by decide +kernel
theorem o_0_542 : t_OP 0 542 = some (.iaload, 0, 0, 0, 0, .null) := by decide +kernel
theorem o_0_543 : t_OP 0 543 = some (.aload_n 0, 0, 0, 0, 0, .null) := by decide +kernel
theorem o_0_544 : t_OP 0 544 = some (.iload 4, 0, 0, 0, 0, .null) := by decide +kernel
theorem o_0_546 : t_OP 0 546 = some (.iconst (2), 0, 0, 0, 2, .null) := by decide +kernel
theorem o_0_547 : t_OP 0 547 = some (.iadd, 0, 0, 0, 0, .null) := by decide +kernel
theorem o_0_548 : t_OP 0 548 = some (.iaload, 0, 0, 0, 0, .null) := by decide +kernel
theorem o_0_549 : t_OP 0 549 = some (.aload_n 3, 0, 0, 0, 0, .null) := by decide +kernel
theorem o_0_550 : t_OP 0 550 = some (.invokestatic 98, 8, 2, 4, 0, .null) := by decide +kernel
theorem o_0_553 : t_OP 0 553 = some (.istore 5, 0, 0, 0, 0, .null) := by decide +kernel
theorem o_0_555 : t_OP 0 555 = some (.aload_n 2, 0, 0, 0, 0, .null) := by decide +kernel
theorem o_0_556 : t_OP 0 556 = some (.aload_n 0, 0, 0, 0, 0, .null) := by decide +kernel
theorem o_0_557 : t_OP 0 557 = some (.iload 4, 0, 0, 0, 0, .null) := by decide +kernel
theorem o_0_559 : t_OP 0 559 = some (.iconst (1), 0, 0, 0, 1, .null) := by decide +kernel
theorem o_0_560 : t_OP 0 560 = some (.iadd, 0, 0, 0, 0, .null) := by decide +kernel
theorem o_0_561 : t_OP 0 561 = some (.iaload, 0, 0, 0, 0, .null) := by decide +kernel
theorem o_0_562 : t_OP 0 562 = some (.aload_n 0, 0, 0, 0, 0, .null) := by decide +kernel
theorem o_0_563 : t_OP 0 563 = some (.iload 4, 0, 0, 0, 0, .null) := by decide +kernel
theorem o_0_565 : t_OP 0 565 = some (.iconst (2), 0, 0, 0, 2, .null) := by decide +kernel
theorem o_0_566 : t_OP 0 566 = some (.iadd, 0, 0, 0, 0, .null) := by decide +kernel
theorem o_0_567 : t_OP 0 567 = some (.iaload, 0, 0, 0, 0, .null) := by decide +kernel
theorem o_0_568 : t_OP 0 568 = some (.invokevirtual 100, 143, 0, 2, 0, .null) := by decide +kernel
theorem o_0_571 : t_OP 0 571 = some (.istore 6, 0, 0, 0, 0, .null) := by decide +kernel
theorem o_0_573 : t_OP 0 573 = some (.aload_n 2, 0, 0, 0, 0, .null) := by decide +kernel
theorem o_0_574 : t_OP 0 574 = some (.invokevirtual 74, 107, 0, 0, 0, .null) := by decide +kernel
theorem o_0_577 : t_OP 0 577 = some (.iload 5, 0, 0, 0, 0, .null) := by decide +kernel
theorem o_0_579 : t_OP 0 579 = some (.if_icmp .eq (5), 584, 0, 0, 0, .null) := by decide +kernel
theorem o_0_582 : t_OP 0 582 = some (.iconst (0), 0, 0, 0, 0, .null) := by decide +kernel
theorem o_0_583 : t_OP 0 583 = some (.ireturn, 0, 0, 0, 0, .null) := by decide +kernel
theorem o_0_584 : t_OP 0 584 = some (.iload 5, 0, 0, 0, 0, .null) := by decide +kernel
theorem o_0_586 : t_OP 0 586 = some (.ifCond .ne (15), 601, 0, 0, 0, .null) := by decide +kernel
theorem o_0_589 : t_OP 0 589 = some (.aload_n 3, 0, 0, 0, 0, .null) := by decide +kernel
theorem o_0_590 : t_OP 0 590 = some (.iconst (0), 0, 0, 0, 0, .null) := by decide +kernel
theorem o_0_591 : t_OP 0 591 = some (.laload, 0, 0, 0, 0, .null) := by decide +kernel
theorem o_0_592 : t_OP 0 592 = some (.iload 6, 0, 0, 0, 0, .null) := by decide +kernel
theorem o_0_594 : t_OP 0 594 = some (.i2l, 0, 0, 0, 0, .null) := by decide +kernel
theorem o_0_595 : t_OP 0 595 = some (.lcmp, 0, 0, 0, 0, .null) := by decide +kernel
theorem o_0_596 : t_OP 0 596 = some (.ifCond .eq (5), 601, 0, 0, 0, .null) := by decide +kernel
theorem o_0_599 : t_OP 0 599 = some (.iconst (0), 0, 0, 0, 0, .null) := by decide +kernel
theorem o_0_600 : t_OP 0 600 = some (.ireturn, 0, 0, 0, 0, .null) := by decide +kernel
theorem o_0_601 : t_OP 0 601 = some (.goto (382), 983, 0, 0, 0, .null) := by decide +kernel
theorem o_0_604 : t_OP 0 604 = some (.aload_n 1, 0, 0, 0, 0, .null) := by decide +kernel
theorem o_0_605 : t_OP 0 605 = some (.aload_n 3, 0, 0, 0, 0, .null) := by decide +kernel
theorem o_0_606 : t_OP 0 606 = some (.invokestatic 101, 9, 2, 2, 0, .null) := by decide +kernel
theorem o_0_609 : t_OP 0 609 = some (.istore 5, 0, 0, 0, 0, .null) := by decide +kernel
theorem o_0_611 : t_OP 0 611 = some (.aload_n 2, 0, 0, 0, 0, .null) := by decide +kernel
theorem o_0_612 : t_OP 0 612 = some (.invokevirtual 103, 144, 0, 0, 0, .null) := by decide +kernel
theorem o_0_615 : t_OP 0 615 = some (.istore 6, 0, 0, 0, 0, .null) := by decide +kernel
theorem o_0_617 : t_OP 0 617 = some (.aload_n 2, 0, 0, 0, 0, .null) := by decide +kernel
theorem o_0_618 : t_OP 0 618 = some (.invokevirtual 74, 107, 0, 0, 0, .null) := by decide +kernel
theorem o_0_621 : t_OP 0 621 = some (.iload 5, 0, 0, 0, 0, .null) := by decide +kernel
theorem o_0_623 : t_OP 0 623 = some (.if_icmp .eq (5), 628, 0, 0, 0, .null) := by decide +kernel
theorem o_0_626 : t_OP 0 626 = some (.iconst (0), 0, 0, 0, 0, .null) := by decide +kernel
theorem o_0_627 : t_OP 0 627 = some (.ireturn, 0, 0, 0, 0, .null) := by decide +kernel
theorem o_0_628 : t_OP 0 628 = some (.iload 5, 0, 0, 0, 0, .null) := by decide +kernel
theorem o_0_630 : t_OP 0 630 = some (.ifCond .ne (15), 645, 0, 0, 0, .null) := by decide +kernel
theorem o_0_633 : t_OP 0 633 = some (.aload_n 3, 0, 0, 0, 0, .null) := by decide +kernel
theorem o_0_634 : t_OP 0 634 = some (.iconst (0), 0, 0, 0, 0, .null) := by decide +kernel
theorem o_0_635 : t_OP 0 635 = some (.laload, 0, 0, 0, 0, .null) := by decide +kernel
theorem o_0_636 : t_OP 0 636 = some (.iload 6, 0, 0, 0, 0, .null) := by decide +kernel
theorem o_0_638 : t_OP 0 638 = some (.i2l, 0, 0, 0, 0, .null) := by decide +kernel
theorem o_0_639 : t_OP 0 639 = some (.lcmp, 0, 0, 0, 0, .null) := by decide +kernel
theorem o_0_640 : t_OP 0 640 = some (.ifCond .eq (5), 645, 0, 0, 0, .null) := by decide +kernel
theorem o_0_643 : t_OP 0 643 = some (.iconst (0), 0, 0, 0, 0, .null) := by decide +kernel
theorem o_0_644 : t_OP 0 644 = some (.ireturn, 0, 0, 0, 0, .null) := by decide +kernel
theorem o_0_645 : t_OP 0 645 = some (.goto (338), 983, 0, 0, 0, .null) := by decide +kernel
theorem o_0_648 : t_OP 0 648 = some (.aload_n 1, 0, 0, 0, 0, .null) := by decide +kernel
theorem o_0_649 : t_OP 0 649 = some (.invokevirtual 104, 22, 0, 0, 0, .null) := by decide +kernel
theorem o_0_652 : t_OP 0 652 = some (.aload_n 2, 0, 0, 0, 0, .null) := by decide +kernel
theorem o_0_653 : t_OP 0 653 = some (.invokevirtual 107, 147, 0, 0, 0, .null) := by decide +kernel
theorem o_0_656 : t_OP 0 656 = some (.if_icmp .eq (327), 983, 0, 0, 0, .null) := by decide +kernel
theorem o_0_659 : t_OP 0 659 = some (.iconst (0), 0, 0, 0, 0, .null) := by decide +kernel
theorem o_0_660 : t_OP 0 660 = some (.ireturn, 0, 0, 0, 0, .null) := by decide +kernel
theorem o_0_661 : t_OP 0 661 = some (.aload_n 1, 0, 0, 0, 0, .null) := by decide +kernel
theorem o_0_662 : t_OP 0 662 = some (.aload_n 0, 0, 0, 0, 0, .null) := by decide +kernel
theorem o_0_663 : t_OP 0 663 = some (.iload 4, 0, 0, 0, 0, .null) := by decide +kernel
theorem o_0_665 : t_OP 0 665 = some (.iconst (1), 0, 0, 0, 1, .null) := by decide +kernel
theorem o_0_666 : t_OP 0 666 = some (.iadd, 0, 0, 0, 0, .null) := by decide +kernel
theorem o_0_667 : t_OP 0 667 = some (.iaload, 0, 0, 0, 0, .null) := by decide +kernel
theorem o_0_668 : t_OP 0 668 = some (.ifCond .eq (7), 675, 0, 0, 0, .null) := by decide +kernel
theorem o_0_671 : t_OP 0 671 = some (.iconst (1), 0, 0, 0, 1, .null) := by decide +kernel
theorem o_0_672 : t_OP 0 672 = some (.goto (4), 676, 0, 0, 0, .null) := by decide +kernel
theorem o_0_675 : t_OP 0 675 = some (.iconst (0), 0, 0, 0, 0, .null) := by decide +kernel
theorem o_0_676 : t_OP 0 676 = some (.aload_n 3, 0, 0, 0, 0, .null) := by decide +kernel
theorem o_0_677 : t_OP 0 677 = some (.invokestatic 108, 10, 2, 3, 0, .null) := by decide +kernel
theorem o_0_680 : t_OP 0 680 = some (.istore 5, 0, 0, 0, 0, .null) := by decide +kernel
theorem o_0_682 : t_OP 0 682 = some (.aload_n 2, 0, 0, 0, 0, .null) := by decide +kernel
theorem o_0_683 : t_OP 0 683 = some (.aload_n 0, 0, 0, 0, 0, .null) := by decide +kernel
theorem o_0_684 : t_OP 0 684 = some (.iload 4, 0, 0, 0, 0, .null) := by decide +kernel
theorem o_0_686 : t_OP 0 686 = some (.iconst (1), 0, 0, 0, 1, .null) := by decide +kernel
theorem o_0_687 : t_OP 0 687 = some (.iadd, 0, 0, 0, 0, .null) := by decide +kernel
theorem o_0_688 : t_OP 0 688 = some (.iaload, 0, 0, 0, 0, .null) := by decide +kernel
theorem o_0_689 : t_OP 0 689 = some (.ifCond .eq (7), 696, 0, 0, 0, .null) := by decide +kernel
theorem o_0_692 : t_OP 0 692 = some (.iconst (1), 0, 0, 0, 1, .null) := by decide +kernel
theorem o_0_693 : t_OP 0 693 = some (.goto (4), 697, 0, 0, 0, .null) := by decide +kernel
theorem o_0_696 : t_OP 0 696 = some (.iconst (0), 0, 0, 0, 0, .null) := by decide +kernel
theorem o_0_697 : t_OP 0 697 = some (.invokevirtual 111, 148, 0, 1, 0, .null) := by decide +kernel
theorem o_0_700 : t_OP 0 700 = some (.istore 6, 0, 0, 0, 0, .null) := by decide +kernel
theorem o_0_702 : t_OP 0 702 = some (.aload_n 2, 0, 0, 0, 0, .null) := by decide +kernel
theorem o_0_703 : t_OP 0 703 = some (.invokevirtual 74, 107, 0, 0, 0, .null) := by decide +kernel
theorem o_0_706 : t_OP 0 706 = some (.iload 5, 0, 0, 0, 0, .null) := by decide +kernel
theorem o_0_708 : t_OP 0 708 = some (.if_icmp .eq (5), 713, 0, 0, 0, .null) := by decide +kernel
theorem o_0_711 : t_OP 0 711 = some (.iconst (0), 0, 0, 0, 0, .null) := by decide +kernel
theorem o_0_712 : t_OP 0 712 = some (.ireturn, 0, 0, 0, 0, .null) := by decide +kernel
theorem o_0_713 : t_OP 0 713 = some (.iload 5, 0, 0, 0, 0, .null) := by decide +kernel
theorem o_0_715 : t_OP 0 715 = some (.ifCond .ne (15), 730, 0, 0, 0, .null) := by decide +kernel
theorem o_0_718 : t_OP 0 718 = some (.aload_n 3, 0, 0, 0, 0, .null) := by decide +kernel
theorem o_0_719 : t_OP 0 719 = some (.iconst (0), 0, 0, 0, 0, .null) := by decide +kernel
theorem o_0_720 : t_OP 0 720 = some (.laload, 0, 0, 0, 0, .null) := by decide +kernel
theorem o_0_721 : t_OP 0 721 = some (.iload 6, 0, 0, 0, 0, .null) := by decide +kernel
theorem o_0_723 : t_OP 0 723 = some (.i2l, 0, 0, 0, 0, .null) := by decide +kernel
theorem o_0_724 : t_OP 0 724 = some (.lcmp, 0, 0, 0, 0, .null) := by decide +kernel
theorem o_0_725 : t_OP 0 725 = some (.ifCond .eq (5), 730, 0, 0, 0, .null) := by decide +kernel
theorem o_0_728 : t_OP 0 728 = some (.iconst (0), 0, 0, 0, 0, .null) := by decide +kernel
theorem o_0_729 : t_OP 0 729 = some (.ireturn, 0, 0, 0, 0, .null) := by decide +kernel
theorem o_0_730 : t_OP 0 730 = some (.goto (253), 983, 0, 0, 0, .null) := by decide +kernel
theorem o_0_733 : t_OP 0 733 = some (.aload_n 1, 0, 0, 0, 0, .null) := by decide +kernel
theorem o_0_734 : t_OP 0 734 = some (.aload_n 0, 0, 0, 0, 0, .null) := by decide +kernel
theorem o_0_735 : t_OP 0 735 = some (.iload 4, 0, 0, 0, 0, .null) := by decide +kernel
theorem o_0_737 : t_OP 0 737 = some (.iconst (1), 0, 0, 0, 1, .null) := by decide +kernel
theorem o_0_738 : t_OP 0 738 = some (.iadd, 0, 0, 0, 0, .null) := by decide +kernel
theorem o_0_739 : t_OP 0 739 = some (.iaload, 0, 0, 0, 0, .null) := by decide +kernel
theorem o_0_740 : t_OP 0 740 = some (.aload_n 3, 0, 0, 0, 0, .null) := by decide +kernel
theorem o_0_741 : t_OP 0 741 = some (.invokestatic 112, 11, 2, 3, 0, .null) := by decide +kernel
theorem o_0_744 : t_OP 0 744 = some (.istore 5, 0, 0, 0, 0, .null) := by decide +kernel
theorem o_0_746 : t_OP 0 746 = some (.aload_n 2, 0, 0, 0, 0, .null) := by decide +kernel
theorem o_0_747 : t_OP 0 747 = some (.aload_n 0, 0, 0, 0, 0, .null) := by decide +kernel
theorem o_0_748 : t_OP 0 748 = some (.iload 4, 0, 0, 0, 0, .null) := by decide +kernel
theorem o_0_750 : t_OP 0 750 = some (.iconst (1), 0, 0, 0, 1, .null) := by decide +kernel
theorem o_0_751 : t_OP 0 751 = some (.iadd, 0, 0, 0, 0, .null) := by decide +kernel
theorem o_0_752 : t_OP 0 752 = some (.iaload, 0, 0, 0, 0, .null) := by decide +kernel
theorem o_0_753 : t_OP 0 753 = some (.invokevirtual 114, 153, 0, 1, 0, .null) := by decide +kernel
theorem o_0_756 : t_OP 0 756 = some (.istore 6, 0, 0, 0, 0, .null) := by decide +kernel
theorem o_0_758 : t_OP 0 758 = some (.aload_n 2, 0, 0, 0, 0, .null) := by decide +kernel
theorem o_0_759 : t_OP 0 759 = some (.invokevirtual 74, 107, 0, 0, 0, .null) := by decide +kernel
theorem o_0_762 : t_OP 0 762 = some (.iload 5, 0, 0, 0, 0, .null) := by decide +kernel
theorem o_0_764 : t_OP 0 764 = some (.if_icmp .eq (5), 769, 0, 0, 0, .null) := by decide +kernel
theorem o_0_767 : t_OP 0 767 = some (.iconst (0), 0, 0, 0, 0, .null) := by decide +kernel
theorem o_0_768 : t_OP 0 768 = some (.ireturn, 0, 0, 0, 0, .null) := by decide +kernel
theorem o_0_769 : t_OP 0 769 = some (.iload 5, 0, 0, 0, 0, .null) := by decide +kernel
theorem o_0_771 : t_OP 0 771 = some (.ifCond .ne (15), 786, 0, 0, 0, .null) := by decide +kernel
theorem o_0_774 : t_OP 0 774 = some (.aload_n 3, 0, 0, 0, 0, .null) := by decide +kernel
theorem o_0_775 : t_OP 0 775 = some (.iconst (0), 0, 0, 0, 0, .null) := by decide +kernel
theorem o_0_776 : t_OP 0 776 = some (.laload, 0, 0, 0, 0, .null) := by decide +kernel
theorem o_0_777 : t_OP 0 777 = some (.iload 6, 0, 0, 0, 0, .null) := by decide +kernel
theorem o_0_779 : t_OP 0 779 = some (.i2l, 0, 0, 0, 0, .null) := by decide +kernel
theorem o_0_780 : t_OP 0 780 = some (.lcmp, 0, 0, 0, 0, .null) := by decide +kernel
theorem o_0_781 : t_OP 0 781 = some (.ifCond .eq (5), 786, 0, 0, 0, .null) := by decide +kernel
theorem o_0_784 : t_OP 0 784 = some (.iconst (0), 0, 0, 0, 0, .null) := by decide +kernel
theorem o_0_785 : t_OP 0 785 = some (.ireturn, 0, 0, 0, 0, .null) := by decide +kernel
theorem o_0_786 : t_OP 0 786 = some (.goto (197), 983, 0, 0, 0, .null) := by decide +kernel
theorem o_0_789 : t_OP 0 789 = some (.aload_n 1, 0, 0, 0, 0, .null) := by decide +kernel
theorem o_0_790 : t_OP 0 790 = some (.aload_n 0, 0, 0, 0, 0, .null) := by decide +kernel
theorem o_0_791 : t_OP 0 791 = some (.iload 4, 0, 0, 0, 0, .null) := by decide +kernel
theorem o_0_793 : t_OP 0 793 = some (.iconst (1), 0, 0, 0, 1, .null) := by decide +kernel
theorem o_0_794 : t_OP 0 794 = some (.iadd, 0, 0, 0, 0, .null) := by decide +kernel
theorem o_0_795 : t_OP 0 795 = some (.iaload, 0, 0, 0, 0, .null) := by decide +kernel
theorem o_0_796 : t_OP 0 796 = some (.aload_n 3, 0, 0, 0, 0, .null) := by decide +kernel
theorem o_0_797 : t_OP 0 797 = some (.invokestatic 115, 12, 2, 3, 0, .null) := by decide +kernel
theorem o_0_800 : t_OP 0 800 = some (.istore 5, 0, 0, 0, 0, .null) := by decide +kernel
theorem o_0_802 : t_OP 0 802 = some (.aload_n 2, 0, 0, 0, 0, .null) := by decide +kernel
theorem o_0_803 : t_OP 0 803 = some (.aload_n 0, 0, 0, 0, 0, .null) := by decide +kernel
theorem o_0_804 : t_OP 0 804 = some (.iload 4, 0, 0, 0, 0, .null) := by decide +kernel
theorem o_0_806 : t_OP 0 806 = some (.iconst (1), 0, 0, 0, 1, .null) := by decide +kernel
theorem o_0_807 : t_OP 0 807 = some (.iadd, 0, 0, 0, 0, .null) := by decide +kernel
theorem o_0_808 : t_OP 0 808 = some (.iaload, 0, 0, 0, 0, .null) := by decide +kernel
theorem o_0_809 : t_OP 0 809 = some (.invokevirtual 117, 154, 0, 1, 0, .null) := by decide +kernel
theorem o_0_812 : t_OP 0 812 = some (.istore 6, 0, 0, 0, 0, .null) := by decide +kernel
theorem o_0_814 : t_OP 0 814 = some (.aload_n 2, 0, 0, 0, 0, .null) := by decide +kernel
theorem o_0_815 : t_OP 0 815 = some (.invokevirtual 74, 107, 0, 0, 0, .null) := by decide +kernel
theorem o_0_818 : t_OP 0 818 = some (.iload 5, 0, 0, 0, 0, .null) := by decide +kernel
theorem o_0_820 : t_OP 0 820 = some (.if_icmp .eq (5), 825, 0, 0, 0, .null) := by decide +kernel
theorem o_0_823 : t_OP 0 823 = some (.iconst (0), 0, 0, 0, 0, .null) := by decide +kernel
theorem o_0_824 : t_OP 0 824 = some (.ireturn, 0, 0, 0, 0, .null) := by decide +kernel
theorem o_0_825 : t_OP 0 825 = some (.iload 5, 0, 0, 0, 0, .null) := by decide +kernel
theorem o_0_827 : t_OP 0 827 = some (.ifCond .ne (15), 842, 0, 0, 0, .null) := by decide +kernel
theorem o_0_830 : t_OP 0 830 = some (.aload_n 3, 0, 0, 0, 0, .null) := by decide +kernel
theorem o_0_831 : t_OP 0 831 = some (.iconst (0), 0, 0, 0, 0, .null) := by decide +kernel
theorem o_0_832 : t_OP 0 832 = some (.laload, 0, 0, 0, 0, .null) := by decide +kernel
theorem o_0_833 : t_OP 0 833 = some (.iload 6, 0, 0, 0, 0, .null) := by decide +kernel
theorem o_0_835 : t_OP 0 835 = some (.i2l, 0, 0, 0, 0, .null) := by decide +kernel
theorem o_0_836 : t_OP 0 836 = some (.lcmp, 0, 0, 0, 0, .null) := by decide +kernel
theorem o_0_837 : t_OP 0 837 = some (.ifCond .eq (5), 842, 0, 0, 0, .null) := by decide +kernel
theorem o_0_840 : t_OP 0 840 = some (.iconst (0), 0, 0, 0, 0, .null) := by decide +kernel
theorem o_0_841 : t_OP 0 841 = some (.ireturn, 0, 0, 0, 0, .null) := by decide +kernel
theorem o_0_842 : t_OP 0 842 = some (.goto (141), 983, 0, 0, 0, .null) := by decide +kernel
theorem o_0_845 : t_OP 0 845 = some (.aload_n 1, 0, 0, 0, 0, .null) := by decide +kernel
theorem o_0_846 : t_OP 0 846 = some (.aload_n 3, 0, 0, 0, 0, .null) := by decide +kernel
theorem o_0_847 : t_OP 0 847 = some (.invokestatic 118, 13, 2, 2, 0, .null) := by decide +kernel
theorem o_0_850 : t_OP 0 850 = some (.istore 5, 0, 0, 0, 0, .null) := by decide +kernel
theorem o_0_852 : t_OP 0 852 = some (.aload_n 2, 0, 0, 0, 0, .null) := by decide +kernel
theorem o_0_853 : t_OP 0 853 = some (.invokevirtual 120, 155, 0, 0, 0, .null) := by decide +kernel
theorem o_0_856 : t_OP 0 856 = some (.istore 6, 0, 0, 0, 0, .null) := by decide +kernel
theorem o_0_858 : t_OP 0 858 = some (.aload_n 2, 0, 0, 0, 0, .null) := by decide +kernel
theorem o_0_859 : t_OP 0 859 = some (.invokevirtual 74, 107, 0, 0, 0, .null) := by decide +kernel
theorem o_0_862 : t_OP 0 862 = some (.iload 5, 0, 0, 0, 0, .null) := by decide +kernel
theorem o_0_864 : t_OP 0 864 = some (.if_icmp .eq (5), 869, 0, 0, 0, .null) := by decide +kernel
theorem o_0_867 : t_OP 0 867 = some (.iconst (0), 0, 0, 0, 0, .null) := by decide +kernel
theorem o_0_868 : t_OP 0 868 = some (.ireturn, 0, 0, 0, 0, .null) := by decide +kernel
theorem o_0_869 : t_OP 0 869 = some (.iload 5, 0, 0, 0, 0, .null) := by decide +kernel
theorem o_0_871 : t_OP 0 871 = some (.ifCond .ne (15), 886, 0, 0, 0, .null) := by decide +kernel
theorem o_0_874 : t_OP 0 874 = some (.aload_n 3, 0, 0, 0, 0, .null) := by decide +kernel
theorem o_0_875 : t_OP 0 875 = some (.iconst (0), 0, 0, 0, 0, .null) := by decide +kernel
theorem o_0_876 : t_OP 0 876 = some (.laload, 0, 0, 0, 0, .null) := by decide +kernel
theorem o_0_877 : t_OP 0 877 = some (.iload 6, 0, 0, 0, 0, .null) := by decide +kernel
theorem o_0_879 : t_OP 0 879 = some (.i2l, 0, 0, 0, 0, .null) := by decide +kernel
theorem o_0_880 : t_OP 0 880 = some (.lcmp, 0, 0, 0, 0, .null) := by decide +kernel
theorem o_0_881 : t_OP 0 881 = some (.ifCond .eq (5), 886, 0, 0, 0, .null) := by decide +kernel
theorem o_0_884 : t_OP 0 884 = some (.iconst (0), 0, 0, 0, 0, .null) := by decide +kernel
theorem o_0_885 : t_OP 0 885 = some (.ireturn, 0, 0, 0, 0, .null) := by decide +kernel
theorem o_0_886 : t_OP 0 886 = some (.goto (97), 983, 0, 0, 0, .null) := by decide +kernel
theorem o_0_889 : t_OP 0 889 = some (.aload_n 1, 0, 0, 0, 0, .null) := by decide +kernel
theorem o_0_890 : t_OP 0 890 = some (.aload_n 0, 0, 0, 0, 0, .null) := by decide +kernel
theorem o_0_891 : t_OP 0 891 = some (.iload 4, 0, 0, 0, 0, .null) := by decide +kernel
theorem o_0_893 : t_OP 0 893 = some (.iconst (1), 0, 0, 0, 1, .null) := by decide +kernel
theorem o_0_894 : t_OP 0 894 = some (.iadd, 0, 0, 0, 0, .null) := by decide +kernel
theorem o_0_895 : t_OP 0 895 = some (.iaload, 0, 0, 0, 0, .null) := by decide +kernel
theorem o_0_896 : t_OP 0 896 = some (.aload_n 3, 0, 0, 0, 0, .null) := by decide +kernel
theorem o_0_897 : t_OP 0 897 = some (.invokestatic 121, 14, 2, 3, 0, .null) := by decide +kernel
theorem o_0_900 : t_OP 0 900 = some (.istore 5, 0, 0, 0, 0, .null) := by decide +kernel
theorem o_0_902 : t_OP 0 902 = some (.aload_n 2, 0, 0, 0, 0, .null) := by decide +kernel
theorem o_0_903 : t_OP 0 903 = some (.aload_n 0, 0, 0, 0, 0, .null) := by decide +kernel
theorem o_0_904 : t_OP 0 904 = some (.iload 4, 0, 0, 0, 0, .null) := by decide +kernel
theorem o_0_906 : t_OP 0 906 = some (.iconst (1), 0, 0, 0, 1, .null) := by decide +kernel
theorem o_0_907 : t_OP 0 907 = some (.iadd, 0, 0, 0, 0, .null) := by decide +kernel
theorem o_0_908 : t_OP 0 908 = some (.iaload, 0, 0, 0, 0, .null) := by decide +kernel
theorem o_0_909 : t_OP 0 909 = some (.invokevirtual 123, 161, 0, 1, 0, .null) := by decide +kernel
theorem o_0_912 : t_OP 0 912 = some (.istore 6, 0, 0, 0, 0, .null) := by decide +kernel
theorem o_0_914 : t_OP 0 914 = some (.aload_n 2, 0, 0, 0, 0, .null) := by decide +kernel
theorem o_0_915 : t_OP 0 915 = some (.invokevirtual 74, 107, 0, 0, 0, .null) := by decide +kernel
theorem o_0_918 : t_OP 0 918 = some (.iload 5, 0, 0, 0, 0, .null) := by decide +kernel
theorem o_0_920 : t_OP 0 920 = some (.if_icmp .eq (5), 925, 0, 0, 0, .null) := by decide +kernel
theorem o_0_923 : t_OP 0 923 = some (.iconst (0), 0, 0, 0, 0, .null) := by decide +kernel
theorem o_0_924 : t_OP 0 924 = some (.ireturn, 0, 0, 0, 0, .null) := by decide +kernel
theorem o_0_925 : t_OP 0 925 = some (.iload 5, 0, 0, 0, 0, .null) := by decide +kernel
theorem o_0_927 : t_OP 0 927 = some (.ifCond .ne (15), 942, 0, 0, 0, .null) := by decide +kernel
theorem o_0_930 : t_OP 0 930 = some (.aload_n 3, 0, 0, 0, 0, .null) := by decide +kernel
theorem o_0_931 : t_OP 0 931 = some (.iconst (0), 0, 0, 0, 0, .null) := by decide +kernel
theorem o_0_932 : t_OP 0 932 = some (.laload, 0, 0, 0, 0, .null) := by decide +kernel
theorem o_0_933 : t_OP 0 933 = some (.iload 6, 0, 0, 0, 0, .null) := by decide +kernel
theorem o_0_935 : t_OP 0 935 = some (.i2l, 0, 0, 0, 0, .null) := by decide +kernel
theorem o_0_936 : t_OP 0 936 = some (.lcmp, 0, 0, 0, 0, .null) := by decide +kernel
theorem o_0_937 : t_OP 0 937 = some (.ifCond .eq (5), 942, 0, 0, 0, .null) := by decide +kernel
theorem o_0_940 : t_OP 0 940 = some (.iconst (0), 0, 0, 0, 0, .null) := by decide +kernel
theorem o_0_941 : t_OP 0 941 = some (.ireturn, 0, 0, 0, 0, .null) := by decide +kernel
theorem o_0_942 : t_OP 0 942 = some (.goto (41), 983, 0, 0, 0, .null) := by decide +kernel
theorem o_0_945 : t_OP 0 945 = some (.aload_n 1, 0, 0, 0, 0, .null) := by decide +kernel
theorem o_0_946 : t_OP 0 946 = some (.invokevirtual 124, 23, 0, 0, 0, .null) := by decide +kernel
theorem o_0_949 : t_OP 0 949 = some (.aload_n 2, 0, 0, 0, 0, .null) := by decide +kernel
theorem o_0_950 : t_OP 0 950 = some (.invokevirtual 127, 162, 0, 0, 0, .null) := by decide +kernel
theorem o_0_953 : t_OP 0 953 = some (.if_icmp .eq (30), 983, 0, 0, 0, .null) := by decide +kernel
theorem o_0_956 : t_OP 0 956 = some (.iconst (0), 0, 0, 0, 0, .null) := by decide +kernel
theorem o_0_957 : t_OP 0 957 = some (.ireturn, 0, 0, 0, 0, .null) := by decide +kernel
theorem o_0_958 : t_OP 0 958 = some (.aload_n 1, 0, 0, 0, 0, .null) := by decide +kernel
theorem o_0_959 : t_OP 0 959 = some (.aload_n 0, 0, 0, 0, 0, .null) := by decide +kernel
theorem o_0_960 : t_OP 0 960 = some (.iload 4, 0, 0, 0, 0, .null) := by decide +kernel
theorem o_0_962 : t_OP 0 962 = some (.iconst (1), 0, 0, 0, 1, .null) := by decide +kernel
theorem o_0_963 : t_OP 0 963 = some (.iadd, 0, 0, 0, 0, .null) := by decide +kernel
theorem o_0_964 : t_OP 0 964 = some (.iaload, 0, 0, 0, 0, .null) := by decide +kernel
theorem o_0_965 : t_OP 0 965 = some (.invokevirtual 128, 25, 0, 1, 0, .null) := by decide +kernel
theorem o_0_968 : t_OP 0 968 = some (.aload_n 2, 0, 0, 0, 0, .null) := by decide +kernel
theorem o_0_969 : t_OP 0 969 = some (.aload_n 0, 0, 0, 0, 0, .null) := by decide +kernel
theorem o_0_970 : t_OP 0 970 = some (.iload 4, 0, 0, 0, 0, .null) := by decide +kernel
theorem o_0_972 : t_OP 0 972 = some (.iconst (1), 0, 0, 0, 1, .null) := by decide +kernel
theorem o_0_973 : t_OP 0 973 = some (.iadd, 0, 0, 0, 0, .null) := by decide +kernel
theorem o_0_974 : t_OP 0 974 = some (.iaload, 0, 0, 0, 0, .null) := by decide +kernel
theorem o_0_975 : t_OP 0 975 = some (.invokevirtual 131, 163, 0, 1, 0, .null) := by decide +kernel
theorem o_0_978 : t_OP 0 978 = some (.if_icmp .eq (5), 983, 0, 0, 0, .null) := by decide +kernel
theorem o_0_981 : t_OP 0 981 = some (.iconst (0), 0, 0, 0, 0, .null) := by decide +kernel
theorem o_0_982 : t_OP 0 982 = some (.ireturn, 0, 0, 0, 0, .null) := by decide +kernel
theorem o_0_983 : t_OP 0 983 = some (.iinc 4 (5), 0, 0, 0, 5, .null) := by decide +kernel
theorem o_0_986 : t_OP 0 986 = some (.goto (-963), 23, 0, 0, 0, .null) := by decide +kernel
theorem o_0_989 : t_OP 0 989 = some (.iconst (1), 0, 0, 0, 1, .null) := by decide +kernel
theorem o_0_990 : t_OP 0 990 = some (.ireturn, 0, 0, 0, 0, .null) := by decide +kernel
theorem o_1_0 : t_OP 1 0 = some (.aload 5, 0, 0, 0, 0, .null) := by decide +kernel
theorem o_1_2 : t_OP 1 2 = some (.iconst (0), 0, 0, 0, 0, .null) := by decide +kernel
theorem o_1_3 : t_OP 1 3 = some (.aload_n 0, 0, 0, 0, 0, .null) := by decide +kernel
theorem o_1_4 : t_OP 1 4 = some (.iload_n 1, 0, 0, 0, 0, .null) := by decide +kernel
theorem o_1_5 : t_OP 1 5 = some (.iload_n 2, 0, 0, 0, 0, .null) := by decide +kernel
theorem o_1_6 : t_OP 1 6 = some (.iload_n 3, 0, 0, 0, 0, .null) := by decide +kernel
theorem o_1_7 : t_OP 1 7 = some (.iload 4, 0, 0, 0, 0, .null) := by decide +kernel
theorem o_1_9 : t_OP 1 9 = some (.invokevirtual 7, 26, 0, 4, 0, .null) := by decide +kernel
theorem o_1_12 : t_OP 1 12 = some (.i2l, 0, 0, 0, 0, .null) := by decide +kernel
theorem o_1_13 : t_OP 1 13 = some (.lastore, 0, 0, 0, 0, .null) := by decide +kernel
theorem o_1_14 : t_OP 1 14 = some (.goto (7), 21, 0, 0, 0, .null) := by decide +kernel
theorem o_1_17 : t_OP 1 17 = some (.astore 6, 0, 0, 0, 0, .null) := by decide +kernel
theorem o_1_19 : t_OP 1 19 = some (.iconst (1), 0, 0, 0, 1, .null) := by decide +kernel
theorem o_1_20 : t_OP 1 20 = some (.ireturn, 0, 0, 0, 0, .null) := by decide +kernel
theorem o_1_21 : t_OP 1 21 = some (.iconst (0), 0, 0, 0, 0, .null) := by decide +kernel
theorem o_1_22 : t_OP 1 22 = some (.ireturn, 0, 0, 0, 0, .null) := by decide +kernel
theorem o_2_0 : t_OP 2 0 = some (.aload_n 2, 0, 0, 0, 0, .null) := by decide +kernel
theorem o_2_1 : t_OP 2 1 = some (.iconst (0), 0, 0, 0, 0, .null) := by decide +kernel
theorem o_2_2 : t_OP 2 2 = some (.aload_n 0, 0, 0, 0, 0, .null) := by decide +kernel
theorem o_2_3 : t_OP 2 3 = some (.iload_n 1, 0, 0, 0, 0, .null) := by decide +kernel
theorem o_2_4 : t_OP 2 4 = some (.invokevirtual 15, 28, 0, 1, 0, .null) := by decide +kernel
theorem o_2_7 : t_OP 2 7 = some (.i2l, 0, 0, 0, 0, .null) := by decide +kernel
theorem o_2_8 : t_OP 2 8 = some (.lastore, 0, 0, 0, 0, .null) := by decide +kernel
theorem o_2_9 : t_OP 2 9 = some (.goto (9), 18, 0, 0, 0, .null) := by decide +kernel
theorem o_2_12 : t_OP 2 12 = some (.astore_n 3, 0, 0, 0, 0, .null) := by decide +kernel
theorem o_2_13 : t_OP 2 13 = some (.iconst (1), 0, 0, 0, 1, .null) := by decide +kernel
theorem o_2_14 : t_OP 2 14 = some (.ireturn, 0, 0, 0, 0, .null) := by decide +kernel
theorem o_2_15 : t_OP 2 15 = some (.astore_n 3, 0, 0, 0, 0, .null) := by decide +kernel
theorem o_2_16 : t_OP 2 16 = some (.iconst (2), 0, 0, 0, 2, .null) := by decide +kernel
theorem o_2_17 : t_OP 2 17 = some (.ireturn, 0, 0, 0, 0, .null) := by decide +kernel
theorem o_2_18 : t_OP 2 18 = some (.iconst (0), 0, 0, 0, 0, .null) := by decide +kernel
theorem o_2_19 : t_OP 2 19 = some (.ireturn, 0, 0, 0, 0, .null) := by decide +kernel
theorem o_3_0 : t_OP 3 0 = some (.aload_n 1, 0, 0, 0, 0, .null) := by decide +kernel
theorem o_3_1 : t_OP 3 1 = some (.iconst (0), 0, 0, 0, 0, .null) := by decide +kernel
theorem o_3_2 : t_OP 3 2 = some (.aload_n 0, 0, 0, 0, 0, .null) := by decide +kernel
theorem o_3_3 : t_OP 3 3 = some (.invokevirtual 21, 29, 0, 0, 0, .null) := by decide +kernel
theorem o_3_6 : t_OP 3 6 = some (.i2l, 0, 0, 0, 0, .null) := by decide +kernel
theorem o_3_7 : t_OP 3 7 = some (.lastore, 0, 0, 0, 0, .null) := by decide +kernel
theorem o_3_8 : t_OP 3 8 = some (.goto (6), 14, 0, 0, 0, .null) := by decide +kernel
theorem o_3_11 : t_OP 3 11 = some (.astore_n 2, 0, 0, 0, 0, .null) := by decide +kernel
theorem o_3_12 : t_OP 3 12 = some (.iconst (1), 0, 0, 0, 1, .null) := by decide +kernel
theorem o_3_13 : t_OP 3 13 = some (.ireturn, 0, 0, 0, 0, .null) := by decide +kernel
theorem o_3_14 : t_OP 3 14 = some (.iconst (0), 0, 0, 0, 0, .null) := by decide +kernel
theorem o_3_15 : t_OP 3 15 = some (.ireturn, 0, 0, 0, 0, .null) := by decide +kernel
theorem o_4_0 : t_OP 4 0 = some (.aload_n 2, 0, 0, 0, 0, .null) := by decide +kernel
theorem o_4_1 : t_OP 4 1 = some (.iconst (0), 0, 0, 0, 0, .null) := by decide +kernel
theorem o_4_2 : t_OP 4 2 = some (.aload_n 0, 0, 0, 0, 0, .null) := by decide +kernel
theorem o_4_3 : t_OP 4 3 = some (.iload_n 1, 0, 0, 0, 0, .null) := by decide +kernel
theorem o_4_4 : t_OP 4 4 = some (.invokevirtual 25, 67, 0, 1, 0, .null) := by decide +kernel
theorem o_4_7 : t_OP 4 7 = some (.i2l, 0, 0, 0, 0, .null) := by decide +kernel
theorem o_4_8 : t_OP 4 8 = some (.lastore, 0, 0, 0, 0, .null) := by decide +kernel
theorem o_4_9 : t_OP 4 9 = some (.goto (6), 15, 0, 0, 0, .null) := by decide +kernel
theorem o_4_12 : t_OP 4 12 = some (.astore_n 3, 0, 0, 0, 0, .null) := by decide +kernel
theorem o_4_13 : t_OP 4 13 = some (.iconst (1), 0, 0, 0, 1, .null) := by decide +kernel
theorem o_4_14 : t_OP 4 14 = some (.ireturn, 0, 0, 0, 0, .null) := by decide +kernel
theorem o_4_15 : t_OP 4 15 = some (.iconst (0), 0, 0, 0, 0, .null) := by decide +kernel
theorem o_4_16 : t_OP 4 16 = some (.ireturn, 0, 0, 0, 0, .null) := by decide +kernel
theorem o_5_0 : t_OP 5 0 = some (.aload_n 2, 0, 0, 0, 0, .null) := by decide +kernel
theorem o_5_1 : t_OP 5 1 = some (.iconst (0), 0, 0, 0, 0, .null) := by decide +kernel
theorem o_5_2 : t_OP 5 2 = some (.aload_n 0, 0, 0, 0, 0, .null) := by decide +kernel
theorem o_5_3 : t_OP 5 3 = some (.iload_n 1, 0, 0, 0, 0, .null) := by decide +kernel
theorem o_5_4 : t_OP 5 4 = some (.invokevirtual 30, 68, 0, 1, 0, .null) := by decide +kernel
theorem o_5_7 : t_OP 5 7 = some (.i2l, 0, 0, 0, 0, .null) := by decide +kernel
theorem o_5_8 : t_OP 5 8 = some (.lastore, 0, 0, 0, 0, .null) := by decide +kernel
theorem o_5_9 : t_OP 5 9 = some (.goto (9), 18, 0, 0, 0, .null) := by decide +kernel
theorem o_5_12 : t_OP 5 12 = some (.astore_n 3, 0, 0, 0, 0, .null) := by decide +kernel
theorem o_5_13 : t_OP 5 13 = some (.iconst (1), 0, 0, 0, 1, .null) := by decide +kernel
theorem o_5_14 : t_OP 5 14 = some (.ireturn, 0, 0, 0, 0, .null) := by decide +kernel
theorem o_5_15 : t_OP 5 15 = some (.astore_n 3, 0, 0, 0, 0, .null) := by decide +kernel
theorem o_5_16 : t_OP 5 16 = some (.iconst (2), 0, 0, 0, 2, .null) := by decide +kernel
theorem o_5_17 : t_OP 5 17 = some (.ireturn, 0, 0, 0, 0, .null) := by decide +kernel
theorem o_5_18 : t_OP 5 18 = some (.iconst (0), 0, 0, 0, 0, .null) := by decide +kernel
theorem o_5_19 : t_OP 5 19 = some (.ireturn, 0, 0, 0, 0, .null) := by decide +kernel
theorem o_6_0 : t_OP 6 0 = some (.aload_n 1, 0, 0, 0, 0, .null) := by decide +kernel
theorem o_6_1 : t_OP 6 1 = some (.iconst (0), 0, 0, 0, 0, .null) := by decide +kernel
theorem o_6_2 : t_OP 6 2 = some (.aload_n 0, 0, 0, 0, 0, .null) := by decide +kernel
theorem o_6_3 : t_OP 6 3 = some (.invokevirtual 35, 70, 0, 0, 0, .null) := by decide +kernel
theorem o_6_6 : t_OP 6 6 = some (.i2l, 0, 0, 0, 0, .null) := by decide +kernel
theorem o_6_7 : t_OP 6 7 = some (.lastore, 0, 0, 0, 0, .null) := by decide +kernel
theorem o_6_8 : t_OP 6 8 = some (.goto (6), 14, 0, 0, 0, .null) := by decide +kernel
theorem o_6_11 : t_OP 6 11 = some (.astore_n 2, 0, 0, 0, 0, .null) := by decide +kernel
theorem o_6_12 : t_OP 6 12 = some (.iconst (1), 0, 0, 0, 1, .null) := by decide +kernel
theorem o_6_13 : t_OP 6 13 = some (.ireturn, 0, 0, 0, 0, .null) := by decide +kernel
theorem o_6_14 : t_OP 6 14 = some (.iconst (0), 0, 0, 0, 0, .null) := by decide +kernel
theorem o_6_15 : t_OP 6 15 = some (.ireturn, 0, 0, 0, 0, .null) := by decide +kernel
theorem o_7_0 : t_OP 7 0 = some (.aload_n 3, 0, 0, 0, 0, .null) := by decide +kernel
theorem o_7_1 : t_OP 7 1 = some (.iconst (0), 0, 0, 0, 0, .null) := by decide +kernel
theorem o_7_2 : t_OP 7 2 = some (.aload_n 0, 0, 0, 0, 0, .null) := by decide +kernel
theorem o_7_3 : t_OP 7 3 = some (.iload_n 1, 0, 0, 0, 0, .null) := by decide +kernel
theorem o_7_4 : t_OP 7 4 = some (.iload_n 2, 0, 0, 0, 0, .null) := by decide +kernel
theorem o_7_5 : t_OP 7 5 = some (.invokevirtual 38, 81, 0, 2, 0, .null) := by decide +kernel
theorem o_7_8 : t_OP 7 8 = some (.i2l, 0, 0, 0, 0, .null) := by decide +kernel
theorem o_7_9 : t_OP 7 9 = some (.lastore, 0, 0, 0, 0, .null) := by decide +kernel
theorem o_7_10 : t_OP 7 10 = some (.goto (7), 17, 0, 0, 0, .null) := by decide +kernel
theorem o_7_13 : t_OP 7 13 = some (.astore 4, 0, 0, 0, 0, .null) := by decide +kernel
theorem o_7_15 : t_OP 7 15 = some (.iconst (1), 0, 0, 0, 1, .null) := by decide +kernel
theorem o_7_16 : t_OP 7 16 = some (.ireturn, 0, 0, 0, 0, .null) := by decide +kernel
theorem o_7_17 : t_OP 7 17 = some (.iconst (0), 0, 0, 0, 0, .null) := by decide +kernel
theorem o_7_18 : t_OP 7 18 = some (.ireturn, 0, 0, 0, 0, .null) := by decide +kernel
theorem o_8_0 : t_OP 8 0 = some (.aload_n 3, 0, 0, 0, 0, .null) := by decide +kernel
theorem o_8_1 : t_OP 8 1 = some (.iconst (0), 0, 0, 0, 0, .null) := by decide +kernel
theorem o_8_2 : t_OP 8 2 = some (.aload_n 0, 0, 0, 0, 0, .null) := by decide +kernel
theorem o_8_3 : t_OP 8 3 = some (.iload_n 1, 0, 0, 0, 0, .null) := by decide +kernel
theorem o_8_4 : t_OP 8 4 = some (.iload_n 2, 0, 0, 0, 0, .null) := by decide +kernel
theorem o_8_5 : t_OP 8 5 = some (.invokevirtual 42, 82, 0, 2, 0, .null) := by decide +kernel
theorem o_8_8 : t_OP 8 8 = some (.i2l, 0, 0, 0, 0, .null) := by decide +kernel
theorem o_8_9 : t_OP 8 9 = some (.lastore, 0, 0, 0, 0, .null) := by decide +kernel
theorem o_8_10 : t_OP 8 10 = some (.goto (7), 17, 0, 0, 0, .null) := by decide +kernel
theorem o_8_13 : t_OP 8 13 = some (.astore 4, 0, 0, 0, 0, .null) := by decide +kernel
theorem o_8_15 : t_OP 8 15 = some (.iconst (1), 0, 0, 0, 1, .null) := by decide +kernel
theorem o_8_16 : t_OP 8 16 = some (.ireturn, 0, 0, 0, 0, .null) := by decide +kernel
theorem o_8_17 : t_OP 8 17 = some (.iconst (0), 0, 0, 0, 0, .null) := by decide +kernel
theorem o_8_18 : t_OP 8 18 = some (.ireturn, 0, 0, 0, 0, .null) := by decide +kernel
theorem o_9_0 : t_OP 9 0 = some (.aload_n 1, 0, 0, 0, 0, .null) := by decide +kernel
theorem o_9_1 : t_OP 9 1 = some (.iconst (0), 0, 0, 0, 0, .null) := by decide +kernel
theorem o_9_2 : t_OP 9 2 = some (.aload_n 0, 0, 0, 0, 0, .null) := by decide +kernel
theorem o_9_3 : t_OP 9 3 = some (.invokevirtual 45, 83, 0, 0, 0, .null) := by decide +kernel
theorem o_9_6 : t_OP 9 6 = some (.i2l, 0, 0, 0, 0, .null) := by decide +kernel
theorem o_9_7 : t_OP 9 7 = some (.lastore, 0, 0, 0, 0, .null) := by decide +kernel
theorem o_9_8 : t_OP 9 8 = some (.goto (6), 14, 0, 0, 0, .null) := by decide +kernel
theorem o_9_11 : t_OP 9 11 = some (.astore_n 2, 0, 0, 0, 0, .null) := by decide +kernel
theorem o_9_12 : t_OP 9 12 = some (.iconst (1), 0, 0, 0, 1, .null) := by decide +kernel
theorem o_9_13 : t_OP 9 13 = some (.ireturn, 0, 0, 0, 0, .null) := by decide +kernel
theorem o_9_14 : t_OP 9 14 = some (.iconst (0), 0, 0, 0, 0, .null) := by decide +kernel
theorem o_9_15 : t_OP 9 15 = some (.ireturn, 0, 0, 0, 0, .null) := by decide +kernel
theorem o_10_0 : t_OP 10 0 = some (.aload_n 2, 0, 0, 0, 0, .null) := by decide +kernel
theorem o_10_1 : t_OP 10 1 = some (.iconst (0), 0, 0, 0, 0, .null) := by decide +kernel
theorem o_10_2 : t_OP 10 2 = some (.aload_n 0, 0, 0, 0, 0, .null) := by decide +kernel
theorem o_10_3 : t_OP 10 3 = some (.iload_n 1, 0, 0, 0, 0, .null) := by decide +kernel
theorem o_10_4 : t_OP 10 4 = some (.invokevirtual 48, 87, 0, 1, 0, .null) := by decide +kernel
theorem o_10_7 : t_OP 10 7 = some (.i2l, 0, 0, 0, 0, .null) := by decide +kernel
theorem o_10_8 : t_OP 10 8 = some (.lastore, 0, 0, 0, 0, .null) := by decide +kernel
theorem o_10_9 : t_OP 10 9 = some (.goto (6), 15, 0, 0, 0, .null) := by decide +kernel
theorem o_10_12 : t_OP 10 12 = some (.astore_n 3, 0, 0, 0, 0, .null) := by decide +kernel
theorem o_10_13 : t_OP 10 13 = some (.iconst (1), 0, 0, 0, 1, .null) := by decide +kernel
theorem o_10_14 : t_OP 10 14 = some (.ireturn, 0, 0, 0, 0, .null) := by decide +kernel
theorem o_10_15 : t_OP 10 15 = some (.iconst (0), 0, 0, 0, 0, .null) := by decide +kernel
theorem o_10_16 : t_OP 10 16 = some (.ireturn, 0, 0, 0, 0, .null) := by decide +kernel
theorem o_11_0 : t_OP 11 0 = some (.aload_n 2, 0, 0, 0, 0, .null) := by decide +kernel
theorem o_11_1 : t_OP 11 1 = some (.iconst (0), 0, 0, 0, 0, .null) := by decide +kernel
theorem o_11_2 : t_OP 11 2 = some (.aload_n 0, 0, 0, 0, 0, .null) := by decide +kernel
theorem o_11_3 : t_OP 11 3 = some (.iload_n 1, 0, 0, 0, 0, .null) := by decide +kernel
theorem o_11_4 : t_OP 11 4 = some (.invokevirtual 52, 91, 0, 1, 0, .null) := by decide +kernel
theorem o_11_7 : t_OP 11 7 = some (.i2l, 0, 0, 0, 0, .null) := by decide +kernel
theorem o_11_8 : t_OP 11 8 = some (.lastore, 0, 0, 0, 0, .null) := by decide +kernel
theorem o_11_9 : t_OP 11 9 = some (.goto (6), 15, 0, 0, 0, .null) := by decide +kernel
theorem o_11_12 : t_OP 11 12 = some (.astore_n 3, 0, 0, 0, 0, .null) := by decide +kernel
theorem o_11_13 : t_OP 11 13 = some (.iconst (1), 0, 0, 0, 1, .null) := by decide +kernel
theorem o_11_14 : t_OP 11 14 = some (.ireturn, 0, 0, 0, 0, .null) := by decide +kernel
theorem o_11_15 : t_OP 11 15 = some (.iconst (0), 0, 0, 0, 0, .null) := by decide +kernel
theorem o_11_16 : t_OP 11 16 = some (.ireturn, 0, 0, 0, 0, .null) := by decide +kernel
theorem o_12_0 : t_OP 12 0 = some (.aload_n 2, 0, 0, 0, 0, .null) := by decide +kernel
theorem o_12_1 : t_OP 12 1 = some (.iconst (0), 0, 0, 0, 0, .null) := by decide +kernel
theorem o_12_2 : t_OP 12 2 = some (.aload_n 0, 0, 0, 0, 0, .null) := by decide +kernel
theorem o_12_3 : t_OP 12 3 = some (.iload_n 1, 0, 0, 0, 0, .null) := by decide +kernel
theorem o_12_4 : t_OP 12 4 = some (.invokevirtual 55, 92, 0, 1, 0, .null) := by decide +kernel
theorem o_12_7 : t_OP 12 7 = some (.i2l, 0, 0, 0, 0, .null) := by decide +kernel
theorem o_12_8 : t_OP 12 8 = some (.lastore, 0, 0, 0, 0, .null) := by decide +kernel
theorem o_12_9 : t_OP 12 9 = some (.goto (9), 18, 0, 0, 0, .null) := by decide +kernel
theorem o_12_12 : t_OP 12 12 = some (.astore_n 3, 0, 0, 0, 0, .null) := by decide +kernel
theorem o_12_13 : t_OP 12 13 = some (.iconst (1), 0, 0, 0, 1, .null) := by decide +kernel
theorem o_12_14 : t_OP 12 14 = some (.ireturn, 0, 0, 0, 0, .null) := by decide +kernel
theorem o_12_15 : t_OP 12 15 = some (.astore_n 3, 0, 0, 0, 0, .null) := by decide +kernel
theorem o_12_16 : t_OP 12 16 = some (.iconst (2), 0, 0, 0, 2, .null) := by decide +kernel
theorem o_12_17 : t_OP 12 17 = some (.ireturn, 0, 0, 0, 0, .null) := by decide +kernel
theorem o_12_18 : t_OP 12 18 = some (.iconst (0), 0, 0, 0, 0, .null) := by decide +kernel
theorem o_12_19 : t_OP 12 19 = some (.ireturn, 0, 0, 0, 0, .null) := by decide +kernel
theorem o_13_0 : t_OP 13 0 = some (.aload_n 1, 0, 0, 0, 0, .null) := by decide +kernel
theorem o_13_1 : t_OP 13 1 = some (.iconst (0), 0, 0, 0, 0, .null) := by decide +kernel
theorem o_13_2 : t_OP 13 2 = some (.aload_n 0, 0, 0, 0, 0, .null) := by decide +kernel
theorem o_13_3 : t_OP 13 3 = some (.invokevirtual 58, 97, 0, 0, 0, .null) := by decide +kernel
theorem o_13_6 : t_OP 13 6 = some (.i2l, 0, 0, 0, 0, .null) := by decide +kernel
theorem o_13_7 : t_OP 13 7 = some (.lastore, 0, 0, 0, 0, .null) := by decide +kernel
theorem o_13_8 : t_OP 13 8 = some (.goto (6), 14, 0, 0, 0, .null) := by decide +kernel
theorem o_13_11 : t_OP 13 11 = some (.astore_n 2, 0, 0, 0, 0, .null) := by decide +kernel
theorem o_13_12 : t_OP 13 12 = some (.iconst (1), 0, 0, 0, 1, .null) := by decide +kernel
theorem o_13_13 : t_OP 13 13 = some (.ireturn, 0, 0, 0, 0, .null) := by decide +kernel
theorem o_13_14 : t_OP 13 14 = some (.iconst (0), 0, 0, 0, 0, .null) := by decide +kernel
theorem o_13_15 : t_OP 13 15 = some (.ireturn, 0, 0, 0, 0, .null) := by decide +kernel
theorem o_14_0 : t_OP 14 0 = some (.aload_n 2, 0, 0, 0, 0, .null) := by decide +kernel
theorem o_14_1 : t_OP 14 1 = some (.iconst (0), 0, 0, 0, 0, .null) := by decide +kernel
theorem o_14_2 : t_OP 14 2 = some (.aload_n 0, 0, 0, 0, 0, .null) := by decide +kernel
theorem o_14_3 : t_OP 14 3 = some (.iload_n 1, 0, 0, 0, 0, .null) := by decide +kernel
theorem o_14_4 : t_OP 14 4 = some (.invokevirtual 61, 105, 0, 1, 0, .null) := by decide +kernel
theorem o_14_7 : t_OP 14 7 = some (.i2l, 0, 0, 0, 0, .null) := by decide +kernel
theorem o_14_8 : t_OP 14 8 = some (.lastore, 0, 0, 0, 0, .null) := by decide +kernel
theorem o_14_9 : t_OP 14 9 = some (.goto (6), 15, 0, 0, 0, .null) := by decide +kernel
theorem o_14_12 : t_OP 14 12 = some (.astore_n 3, 0, 0, 0, 0, .null) := by decide +kernel
theorem o_14_13 : t_OP 14 13 = some (.iconst (1), 0, 0, 0, 1, .null) := by decide +kernel
theorem o_14_14 : t_OP 14 14 = some (.ireturn, 0, 0, 0, 0, .null) := by decide +kernel
theorem o_14_15 : t_OP 14 15 = some (.iconst (0), 0, 0, 0, 0, .null) := by decide +kernel
theorem o_14_16 : t_OP 14 16 = some (.ireturn, 0, 0, 0, 0, .null) := by decide +kernel
def g_1 (x1 : Int32) (x2 : Int32) (x3 : Int32) (x4 : Int32) (I : Mem) (LG : LgM) : Option (Int32 × Nat × Mem × LgM) :=
  ((g_26 x1 x2 x3 x4 I).bind (fun w => (if w.1 = 0 then some (0, 0, w.2.2, mm_up LG 37 0 w.2.1.toInt64) else (if w.1 = 1 then some ((1 : Int32), 1, w.2.2, LG) else none))))
theorem c_1 {E : mm_V} (hE : E.2 = .null ∨ E.2 = .ref 1999) (x1 : Int32) (x2 : Int32) (x3 : Int32) (x4 : Int32) {I : Mem} {LG : LgM} {nc ns : Nat} : CT E 1 (0, [some (.ref 0), some (.int x1), some (.int x2), some (.int x3), some (.int x4), some (.ref 37), none], [], SH, (I, RF0, LG), nc, ns) (rW SH RF0 nc ns) (g_1 x1 x2 x3 x4 I LG) := by
  unfold g_1
  exact (ct_aload 2 o_1_0 rfl rfl (ct_iconst 3 o_1_2 rfl (ct_aload_n 4 o_1_3 rfl rfl (ct_iload_n 5 o_1_4 rfl rfl (ct_iload_n 6 o_1_5 rfl rfl (ct_iload_n 7 o_1_6 rfl rfl (ct_iload 9 o_1_7 rfl rfl (ct_callT (y := 26) (as := [.ref 0, .int x1, .int x2, .int x3, .int x4]) (r := [.int (0 : Int32), .ref 37]) 12 o_1_9 rfl rfl rfl rfl (c_26 hE x1 x2 x3 x4) (fun w _ => (ct_i2l 13 o_1_12 rfl (ct_lastore0 (n := 0) 14 o_1_13 rfl rfl (ct_goto o_1_14 (ct_iconst 22 o_1_21 rfl (ct_retW (c := 0) o_1_22 rfl)))))) (fun w _ x hx => (bk_case (m := 0) (h := 17) (n := 2) (lo' := [some (.ref 0), some (.int x1), some (.int x2), some (.int x3), some (.int x4), some (.ref 37), none]) hx rfl o_1_17 rfl (ct_iconst 20 o_1_19 rfl (ct_retW (c := 1) o_1_20 rfl)) bk_none))))))))))
def g_2 (x1 : Int32) (I : Mem) (LG : LgM) : Option (Int32 × Nat × Mem × LgM) :=
  ((g_28 x1 I).bind (fun w => (if w.1 = 0 then some (0, 0, w.2.2, mm_up LG 37 0 w.2.1.toInt64) else (if w.1 = 2 then some ((1 : Int32), 1, w.2.2, LG) else (if w.1 = 1 then some ((2 : Int32), 1, w.2.2, LG) else none)))))
theorem c_2 {E : mm_V} (hE : E.2 = .null ∨ E.2 = .ref 1999) (x1 : Int32) {I : Mem} {LG : LgM} {nc ns : Nat} : CT E 2 (0, [some (.ref 0), some (.int x1), some (.ref 37), none], [], SH, (I, RF0, LG), nc, ns) (rW SH RF0 nc ns) (g_2 x1 I LG) := by
  unfold g_2
  exact (ct_aload_n 1 o_2_0 rfl rfl (ct_iconst 2 o_2_1 rfl (ct_aload_n 3 o_2_2 rfl rfl (ct_iload_n 4 o_2_3 rfl rfl (ct_callT (y := 28) (as := [.ref 0, .int x1]) (r := [.int (0 : Int32), .ref 37]) 7 o_2_4 rfl rfl rfl rfl (c_28 hE x1) (fun w _ => (ct_i2l 8 o_2_7 rfl (ct_lastore0 (n := 0) 9 o_2_8 rfl rfl (ct_goto o_2_9 (ct_iconst 19 o_2_18 rfl (ct_retW (c := 0) o_2_19 rfl)))))) (fun w _ x hx => (bk_case (m := 1) (h := 12) (n := 1) (lo' := [some (.ref 0), some (.int x1), some (.ref 37), none]) hx rfl o_2_12 rfl (ct_iconst 14 o_2_13 rfl (ct_retW (c := 1) o_2_14 rfl)) (bk_case (m := 0) (h := 15) (n := 1) (lo' := [some (.ref 0), some (.int x1), some (.ref 37), none]) hx rfl o_2_15 rfl (ct_iconst 17 o_2_16 rfl (ct_retW (c := 1) o_2_17 rfl)) bk_none))))))))
def g_3 (I : Mem) (LG : LgM) : Option (Int32 × Nat × Mem × LgM) :=
  ((g_29  I).bind (fun w => (if w.1 = 0 then some (0, 0, w.2.2, mm_up LG 37 0 w.2.1.toInt64) else (if w.1 = 2 then some ((1 : Int32), 1, w.2.2, LG) else none))))
theorem c_3 {E : mm_V} (hE : E.2 = .null ∨ E.2 = .ref 1999) {I : Mem} {LG : LgM} {nc ns : Nat} : CT E 3 (0, [some (.ref 0), some (.ref 37), none], [], SH, (I, RF0, LG), nc, ns) (rW SH RF0 nc ns) (g_3  I LG) := by
  unfold g_3
  exact (ct_aload_n 1 o_3_0 rfl rfl (ct_iconst 2 o_3_1 rfl (ct_aload_n 3 o_3_2 rfl rfl (ct_callT (y := 29) (as := [.ref 0]) (r := [.int (0 : Int32), .ref 37]) 6 o_3_3 rfl rfl rfl rfl (c_29 hE ) (fun w _ => (ct_i2l 7 o_3_6 rfl (ct_lastore0 (n := 0) 8 o_3_7 rfl rfl (ct_goto o_3_8 (ct_iconst 15 o_3_14 rfl (ct_retW (c := 0) o_3_15 rfl)))))) (fun w _ x hx => (bk_case (m := 1) (h := 11) (n := 1) (lo' := [some (.ref 0), some (.ref 37), none]) hx rfl o_3_11 rfl (ct_iconst 13 o_3_12 rfl (ct_retW (c := 1) o_3_13 rfl)) bk_none))))))
def g_4 (x1 : Int32) (I : Mem) (LG : LgM) : Option (Int32 × Nat × Mem × LgM) :=
  ((g_67 x1 I).bind (fun w => (if w.1 = 0 then some (0, 0, w.2.2, mm_up LG 37 0 w.2.1.toInt64) else (if w.1 = 3 then some ((1 : Int32), 1, w.2.2, LG) else none))))
theorem c_4 {E : mm_V} (hE : E.2 = .null ∨ E.2 = .ref 1999) (x1 : Int32) {I : Mem} {LG : LgM} {nc ns : Nat} : CT E 4 (0, [some (.ref 0), some (.int x1), some (.ref 37), none], [], SH, (I, RF0, LG), nc, ns) (rW SH RF0 nc ns) (g_4 x1 I LG) := by
  unfold g_4
  exact (ct_aload_n 1 o_4_0 rfl rfl (ct_iconst 2 o_4_1 rfl (ct_aload_n 3 o_4_2 rfl rfl (ct_iload_n 4 o_4_3 rfl rfl (ct_callT (y := 67) (as := [.ref 0, .int x1]) (r := [.int (0 : Int32), .ref 37]) 7 o_4_4 rfl rfl rfl rfl (c_67 hE x1) (fun w _ => (ct_i2l 8 o_4_7 rfl (ct_lastore0 (n := 0) 9 o_4_8 rfl rfl (ct_goto o_4_9 (ct_iconst 16 o_4_15 rfl (ct_retW (c := 0) o_4_16 rfl)))))) (fun w _ x hx => (bk_case (m := 2) (h := 12) (n := 1) (lo' := [some (.ref 0), some (.int x1), some (.ref 37), none]) hx rfl o_4_12 rfl (ct_iconst 14 o_4_13 rfl (ct_retW (c := 1) o_4_14 rfl)) bk_none)))))))
def g_5 (x1 : Int32) (I : Mem) (LG : LgM) : Option (Int32 × Nat × Mem × LgM) :=
  ((g_68 x1 I).bind (fun w => (if w.1 = 0 then some (0, 0, w.2.2, mm_up LG 37 0 w.2.1.toInt64) else (if w.1 = 2 then some ((1 : Int32), 1, w.2.2, LG) else (if w.1 = 4 then some ((2 : Int32), 1, w.2.2, LG) else none)))))
theorem c_5 {E : mm_V} (hE : E.2 = .null ∨ E.2 = .ref 1999) (x1 : Int32) {I : Mem} {LG : LgM} {nc ns : Nat} : CT E 5 (0, [some (.ref 0), some (.int x1), some (.ref 37), none], [], SH, (I, RF0, LG), nc, ns) (rW SH RF0 nc ns) (g_5 x1 I LG) := by
  unfold g_5
  exact (ct_aload_n 1 o_5_0 rfl rfl (ct_iconst 2 o_5_1 rfl (ct_aload_n 3 o_5_2 rfl rfl (ct_iload_n 4 o_5_3 rfl rfl (ct_callT (y := 68) (as := [.ref 0, .int x1]) (r := [.int (0 : Int32), .ref 37]) 7 o_5_4 rfl rfl rfl rfl (c_68 hE x1) (fun w _ => (ct_i2l 8 o_5_7 rfl (ct_lastore0 (n := 0) 9 o_5_8 rfl rfl (ct_goto o_5_9 (ct_iconst 19 o_5_18 rfl (ct_retW (c := 0) o_5_19 rfl)))))) (fun w _ x hx => (bk_case (m := 1) (h := 12) (n := 1) (lo' := [some (.ref 0), some (.int x1), some (.ref 37), none]) hx rfl o_5_12 rfl (ct_iconst 14 o_5_13 rfl (ct_retW (c := 1) o_5_14 rfl)) (bk_case (m := 3) (h := 15) (n := 1) (lo' := [some (.ref 0), some (.int x1), some (.ref 37), none]) hx rfl o_5_15 rfl (ct_iconst 17 o_5_16 rfl (ct_retW (c := 1) o_5_17 rfl)) bk_none))))))))
def g_6 (I : Mem) (LG : LgM) : Option (Int32 × Nat × Mem × LgM) :=
  ((g_70  I).bind (fun w => (if w.1 = 0 then some (0, 0, w.2.2, mm_up LG 37 0 w.2.1.toInt64) else (if w.1 = 1 then some ((1 : Int32), 1, w.2.2, LG) else none))))
theorem c_6 {E : mm_V} (hE : E.2 = .null ∨ E.2 = .ref 1999) {I : Mem} {LG : LgM} {nc ns : Nat} : CT E 6 (0, [some (.ref 0), some (.ref 37), none], [], SH, (I, RF0, LG), nc, ns) (rW SH RF0 nc ns) (g_6  I LG) := by
  unfold g_6
  exact (ct_aload_n 1 o_6_0 rfl rfl (ct_iconst 2 o_6_1 rfl (ct_aload_n 3 o_6_2 rfl rfl (ct_callT (y := 70) (as := [.ref 0]) (r := [.int (0 : Int32), .ref 37]) 6 o_6_3 rfl rfl rfl rfl (c_70 hE ) (fun w _ => (ct_i2l 7 o_6_6 rfl (ct_lastore0 (n := 0) 8 o_6_7 rfl rfl (ct_goto o_6_8 (ct_iconst 15 o_6_14 rfl (ct_retW (c := 0) o_6_15 rfl)))))) (fun w _ x hx => (bk_case (m := 0) (h := 11) (n := 1) (lo' := [some (.ref 0), some (.ref 37), none]) hx rfl o_6_11 rfl (ct_iconst 13 o_6_12 rfl (ct_retW (c := 1) o_6_13 rfl)) bk_none))))))
def g_7 (x1 : Int32) (x2 : Int32) (I : Mem) (LG : LgM) : Option (Int32 × Nat × Mem × LgM) :=
  ((g_81 x1 x2 I).bind (fun w => (if w.1 = 0 then some (0, 0, w.2.2, mm_up LG 37 0 w.2.1.toInt64) else (if w.1 = 3 then some ((1 : Int32), 1, w.2.2, LG) else none))))
theorem c_7 {E : mm_V} (hE : E.2 = .null ∨ E.2 = .ref 1999) (x1 : Int32) (x2 : Int32) {I : Mem} {LG : LgM} {nc ns : Nat} : CT E 7 (0, [some (.ref 0), some (.int x1), some (.int x2), some (.ref 37), none], [], SH, (I, RF0, LG), nc, ns) (rW SH RF0 nc ns) (g_7 x1 x2 I LG) := by
  unfold g_7
  exact (ct_aload_n 1 o_7_0 rfl rfl (ct_iconst 2 o_7_1 rfl (ct_aload_n 3 o_7_2 rfl rfl (ct_iload_n 4 o_7_3 rfl rfl (ct_iload_n 5 o_7_4 rfl rfl (ct_callT (y := 81) (as := [.ref 0, .int x1, .int x2]) (r := [.int (0 : Int32), .ref 37]) 8 o_7_5 rfl rfl rfl rfl (c_81 hE x1 x2) (fun w _ => (ct_i2l 9 o_7_8 rfl (ct_lastore0 (n := 0) 10 o_7_9 rfl rfl (ct_goto o_7_10 (ct_iconst 18 o_7_17 rfl (ct_retW (c := 0) o_7_18 rfl)))))) (fun w _ x hx => (bk_case (m := 2) (h := 13) (n := 2) (lo' := [some (.ref 0), some (.int x1), some (.int x2), some (.ref 37), none]) hx rfl o_7_13 rfl (ct_iconst 16 o_7_15 rfl (ct_retW (c := 1) o_7_16 rfl)) bk_none))))))))
def g_8 (x1 : Int32) (x2 : Int32) (I : Mem) (LG : LgM) : Option (Int32 × Nat × Mem × LgM) :=
  ((g_82 x1 x2 I).bind (fun w => (if w.1 = 0 then some (0, 0, w.2.2, mm_up LG 37 0 w.2.1.toInt64) else (if w.1 = 3 then some ((1 : Int32), 1, w.2.2, LG) else none))))
theorem c_8 {E : mm_V} (hE : E.2 = .null ∨ E.2 = .ref 1999) (x1 : Int32) (x2 : Int32) {I : Mem} {LG : LgM} {nc ns : Nat} : CT E 8 (0, [some (.ref 0), some (.int x1), some (.int x2), some (.ref 37), none], [], SH, (I, RF0, LG), nc, ns) (rW SH RF0 nc ns) (g_8 x1 x2 I LG) := by
  unfold g_8
  exact (ct_aload_n 1 o_8_0 rfl rfl (ct_iconst 2 o_8_1 rfl (ct_aload_n 3 o_8_2 rfl rfl (ct_iload_n 4 o_8_3 rfl rfl (ct_iload_n 5 o_8_4 rfl rfl (ct_callT (y := 82) (as := [.ref 0, .int x1, .int x2]) (r := [.int (0 : Int32), .ref 37]) 8 o_8_5 rfl rfl rfl rfl (c_82 hE x1 x2) (fun w _ => (ct_i2l 9 o_8_8 rfl (ct_lastore0 (n := 0) 10 o_8_9 rfl rfl (ct_goto o_8_10 (ct_iconst 18 o_8_17 rfl (ct_retW (c := 0) o_8_18 rfl)))))) (fun w _ x hx => (bk_case (m := 2) (h := 13) (n := 2) (lo' := [some (.ref 0), some (.int x1), some (.int x2), some (.ref 37), none]) hx rfl o_8_13 rfl (ct_iconst 16 o_8_15 rfl (ct_retW (c := 1) o_8_16 rfl)) bk_none))))))))
def g_9 (I : Mem) (LG : LgM) : Option (Int32 × Nat × Mem × LgM) :=
  ((g_83  I).bind (fun w => (if w.1 = 0 then some (0, 0, w.2.2, mm_up LG 37 0 w.2.1.toInt64) else (if w.1 = 1 then some ((1 : Int32), 1, w.2.2, LG) else none))))
theorem c_9 {E : mm_V} (hE : E.2 = .null ∨ E.2 = .ref 1999) {I : Mem} {LG : LgM} {nc ns : Nat} : CT E 9 (0, [some (.ref 0), some (.ref 37), none], [], SH, (I, RF0, LG), nc, ns) (rW SH RF0 nc ns) (g_9  I LG) := by
  unfold g_9
  exact (ct_aload_n 1 o_9_0 rfl rfl (ct_iconst 2 o_9_1 rfl (ct_aload_n 3 o_9_2 rfl rfl (ct_callT (y := 83) (as := [.ref 0]) (r := [.int (0 : Int32), .ref 37]) 6 o_9_3 rfl rfl rfl rfl (c_83 hE ) (fun w _ => (ct_i2l 7 o_9_6 rfl (ct_lastore0 (n := 0) 8 o_9_7 rfl rfl (ct_goto o_9_8 (ct_iconst 15 o_9_14 rfl (ct_retW (c := 0) o_9_15 rfl)))))) (fun w _ x hx => (bk_case (m := 0) (h := 11) (n := 1) (lo' := [some (.ref 0), some (.ref 37), none]) hx rfl o_9_11 rfl (ct_iconst 13 o_9_12 rfl (ct_retW (c := 1) o_9_13 rfl)) bk_none))))))
def g_10 (x1 : Int32) (I : Mem) (LG : LgM) : Option (Int32 × Nat × Mem × LgM) :=
  ((g_87 x1 I).bind (fun w => (if w.1 = 0 then some (0, 0, w.2.2, mm_up LG 37 0 w.2.1.toInt64) else (if w.1 = 1 then some ((1 : Int32), 1, w.2.2, LG) else none))))
theorem c_10 {E : mm_V} (hE : E.2 = .null ∨ E.2 = .ref 1999) (x1 : Int32) {I : Mem} {LG : LgM} {nc ns : Nat} : CT E 10 (0, [some (.ref 0), some (.int x1), some (.ref 37), none], [], SH, (I, RF0, LG), nc, ns) (rW SH RF0 nc ns) (g_10 x1 I LG) := by
  unfold g_10
  exact (ct_aload_n 1 o_10_0 rfl rfl (ct_iconst 2 o_10_1 rfl (ct_aload_n 3 o_10_2 rfl rfl (ct_iload_n 4 o_10_3 rfl rfl (ct_callT (y := 87) (as := [.ref 0, .int x1]) (r := [.int (0 : Int32), .ref 37]) 7 o_10_4 rfl rfl rfl rfl (c_87 hE x1) (fun w _ => (ct_i2l 8 o_10_7 rfl (ct_lastore0 (n := 0) 9 o_10_8 rfl rfl (ct_goto o_10_9 (ct_iconst 16 o_10_15 rfl (ct_retW (c := 0) o_10_16 rfl)))))) (fun w _ x hx => (bk_case (m := 0) (h := 12) (n := 1) (lo' := [some (.ref 0), some (.int x1), some (.ref 37), none]) hx rfl o_10_12 rfl (ct_iconst 14 o_10_13 rfl (ct_retW (c := 1) o_10_14 rfl)) bk_none)))))))
def g_11 (x1 : Int32) (I : Mem) (LG : LgM) : Option (Int32 × Nat × Mem × LgM) :=
  ((g_91 x1 I).bind (fun w => (if w.1 = 0 then some (0, 0, w.2.2, mm_up LG 37 0 w.2.1.toInt64) else (if w.1 = 3 then some ((1 : Int32), 1, w.2.2, LG) else none))))
theorem c_11 {E : mm_V} (hE : E.2 = .null ∨ E.2 = .ref 1999) (x1 : Int32) {I : Mem} {LG : LgM} {nc ns : Nat} : CT E 11 (0, [some (.ref 0), some (.int x1), some (.ref 37), none], [], SH, (I, RF0, LG), nc, ns) (rW SH RF0 nc ns) (g_11 x1 I LG) := by
  unfold g_11
  exact (ct_aload_n 1 o_11_0 rfl rfl (ct_iconst 2 o_11_1 rfl (ct_aload_n 3 o_11_2 rfl rfl (ct_iload_n 4 o_11_3 rfl rfl (ct_callT (y := 91) (as := [.ref 0, .int x1]) (r := [.int (0 : Int32), .ref 37]) 7 o_11_4 rfl rfl rfl rfl (c_91 hE x1) (fun w _ => (ct_i2l 8 o_11_7 rfl (ct_lastore0 (n := 0) 9 o_11_8 rfl rfl (ct_goto o_11_9 (ct_iconst 16 o_11_15 rfl (ct_retW (c := 0) o_11_16 rfl)))))) (fun w _ x hx => (bk_case (m := 2) (h := 12) (n := 1) (lo' := [some (.ref 0), some (.int x1), some (.ref 37), none]) hx rfl o_11_12 rfl (ct_iconst 14 o_11_13 rfl (ct_retW (c := 1) o_11_14 rfl)) bk_none)))))))
def g_12 (x1 : Int32) (I : Mem) (LG : LgM) : Option (Int32 × Nat × Mem × LgM) :=
  ((g_92 x1 I).bind (fun w => (if w.1 = 0 then some (0, 0, w.2.2, mm_up LG 37 0 w.2.1.toInt64) else (if w.1 = 2 then some ((1 : Int32), 1, w.2.2, LG) else (if w.1 = 1 then some ((2 : Int32), 1, w.2.2, LG) else none)))))
theorem c_12 {E : mm_V} (hE : E.2 = .null ∨ E.2 = .ref 1999) (x1 : Int32) {I : Mem} {LG : LgM} {nc ns : Nat} : CT E 12 (0, [some (.ref 0), some (.int x1), some (.ref 37), none], [], SH, (I, RF0, LG), nc, ns) (rW SH RF0 nc ns) (g_12 x1 I LG) := by
  unfold g_12
  exact (ct_aload_n 1 o_12_0 rfl rfl (ct_iconst 2 o_12_1 rfl (ct_aload_n 3 o_12_2 rfl rfl (ct_iload_n 4 o_12_3 rfl rfl (ct_callT (y := 92) (as := [.ref 0, .int x1]) (r := [.int (0 : Int32), .ref 37]) 7 o_12_4 rfl rfl rfl rfl (c_92 hE x1) (fun w _ => (ct_i2l 8 o_12_7 rfl (ct_lastore0 (n := 0) 9 o_12_8 rfl rfl (ct_goto o_12_9 (ct_iconst 19 o_12_18 rfl (ct_retW (c := 0) o_12_19 rfl)))))) (fun w _ x hx => (bk_case (m := 1) (h := 12) (n := 1) (lo' := [some (.ref 0), some (.int x1), some (.ref 37), none]) hx rfl o_12_12 rfl (ct_iconst 14 o_12_13 rfl (ct_retW (c := 1) o_12_14 rfl)) (bk_case (m := 0) (h := 15) (n := 1) (lo' := [some (.ref 0), some (.int x1), some (.ref 37), none]) hx rfl o_12_15 rfl (ct_iconst 17 o_12_16 rfl (ct_retW (c := 1) o_12_17 rfl)) bk_none))))))))
def g_13 (I : Mem) (LG : LgM) : Option (Int32 × Nat × Mem × LgM) :=
  ((g_97  I).bind (fun w => (if w.1 = 0 then some (0, 0, w.2.2, mm_up LG 37 0 w.2.1.toInt64) else (if w.1 = 1 then some ((1 : Int32), 1, w.2.2, LG) else none))))
theorem c_13 {E : mm_V} (hE : E.2 = .null ∨ E.2 = .ref 1999) {I : Mem} {LG : LgM} {nc ns : Nat} : CT E 13 (0, [some (.ref 0), some (.ref 37), none], [], SH, (I, RF0, LG), nc, ns) (rW SH RF0 nc ns) (g_13  I LG) := by
  unfold g_13
  exact (ct_aload_n 1 o_13_0 rfl rfl (ct_iconst 2 o_13_1 rfl (ct_aload_n 3 o_13_2 rfl rfl (ct_callT (y := 97) (as := [.ref 0]) (r := [.int (0 : Int32), .ref 37]) 6 o_13_3 rfl rfl rfl rfl (c_97 hE ) (fun w _ => (ct_i2l 7 o_13_6 rfl (ct_lastore0 (n := 0) 8 o_13_7 rfl rfl (ct_goto o_13_8 (ct_iconst 15 o_13_14 rfl (ct_retW (c := 0) o_13_15 rfl)))))) (fun w _ x hx => (bk_case (m := 0) (h := 11) (n := 1) (lo' := [some (.ref 0), some (.ref 37), none]) hx rfl o_13_11 rfl (ct_iconst 13 o_13_12 rfl (ct_retW (c := 1) o_13_13 rfl)) bk_none))))))
def g_14 (x1 : Int32) (I : Mem) (LG : LgM) : Option (Int32 × Nat × Mem × LgM) :=
  ((g_105 x1 I).bind (fun w => (if w.1 = 0 then some (0, 0, w.2.2, mm_up LG 37 0 w.2.1.toInt64) else (if w.1 = 3 then some ((1 : Int32), 1, w.2.2, LG) else none))))
theorem c_14 {E : mm_V} (hE : E.2 = .null ∨ E.2 = .ref 1999) (x1 : Int32) {I : Mem} {LG : LgM} {nc ns : Nat} : CT E 14 (0, [some (.ref 0), some (.int x1), some (.ref 37), none], [], SH, (I, RF0, LG), nc, ns) (rW SH RF0 nc ns) (g_14 x1 I LG) := by
  unfold g_14
  exact (ct_aload_n 1 o_14_0 rfl rfl (ct_iconst 2 o_14_1 rfl (ct_aload_n 3 o_14_2 rfl rfl (ct_iload_n 4 o_14_3 rfl rfl (ct_callT (y := 105) (as := [.ref 0, .int x1]) (r := [.int (0 : Int32), .ref 37]) 7 o_14_4 rfl rfl rfl rfl (c_105 hE x1) (fun w _ => (ct_i2l 8 o_14_7 rfl (ct_lastore0 (n := 0) 9 o_14_8 rfl rfl (ct_goto o_14_9 (ct_iconst 16 o_14_15 rfl (ct_retW (c := 0) o_14_16 rfl)))))) (fun w _ x hx => (bk_case (m := 2) (h := 12) (n := 1) (lo' := [some (.ref 0), some (.int x1), some (.ref 37), none]) hx rfl o_14_12 rfl (ct_iconst 14 o_14_13 rfl (ct_retW (c := 1) o_14_14 rfl)) bk_none)))))))
def l_0_23 (E : mm_V) : Nat → Int32 → Mem → LgM → Nat → Option (Int32 × Nat × Mem × LgM)
  | 0, _, _, _, _ => none
  | n + 1, x4, I, LG, c => (if ((Int32.ofNat E.1.1) - (5 : Int32)) < x4 then (some ((1 : Int32), c, I, LG)) else (ix x4 E.1.1 (fun j1 => (if ((E.1.2 j1) &&& (31 : Int32)) = 0 then (ix (x4 + (1 : Int32)) E.1.1 (fun j79 => (ix (x4 + (2 : Int32)) E.1.1 (fun j80 => (ix (x4 + (3 : Int32)) E.1.1 (fun j81 => (ix (x4 + (4 : Int32)) E.1.1 (fun j82 => ((g_1 (E.1.2 j79) (E.1.2 j80) (E.1.2 j81) (E.1.2 j82) I LG).bind (fun w83 => (ix (x4 + (1 : Int32)) E.1.1 (fun j84 => (ix (x4 + (2 : Int32)) E.1.1 (fun j85 => (ix (x4 + (3 : Int32)) E.1.1 (fun j86 => (ix (x4 + (4 : Int32)) E.1.1 (fun j87 => ((g_108 (E.1.2 j84) (E.1.2 j85) (E.1.2 j86) (E.1.2 j87) w83.2.2.1).bind (fun w88 => ((g_107  w88.2).bind (fun w89 => (if w89 = w83.1 then (if w83.1 = 0 then (if (lg_cmp (w83.2.2.2 37 0) w88.1.toInt64) = 0 then (l_0_23 E n (x4 + (5 : Int32)) w88.2 w83.2.2.2 (c + w83.2.1)) else (some ((0 : Int32), (c + w83.2.1), w88.2, w83.2.2.2))) else (l_0_23 E n (x4 + (5 : Int32)) w88.2 w83.2.2.2 (c + w83.2.1))) else (some ((0 : Int32), (c + w83.2.1), w88.2, w83.2.2.2))))))))))))))))))))))))) else (if ((E.1.2 j1) &&& (31 : Int32)) = 1 then (ix (x4 + (1 : Int32)) E.1.1 (fun j74 => ((g_2 (E.1.2 j74) I LG).bind (fun w75 => (ix (x4 + (1 : Int32)) E.1.1 (fun j76 => ((g_110 (E.1.2 j76) w75.2.2.1).bind (fun w77 => ((g_107  w77.2).bind (fun w78 => (if w78 = w75.1 then (if w75.1 = 0 then (if (lg_cmp (w75.2.2.2 37 0) w77.1.toInt64) = 0 then (l_0_23 E n (x4 + (5 : Int32)) w77.2 w75.2.2.2 (c + w75.2.1)) else (some ((0 : Int32), (c + w75.2.1), w77.2, w75.2.2.2))) else (l_0_23 E n (x4 + (5 : Int32)) w77.2 w75.2.2.2 (c + w75.2.1))) else (some ((0 : Int32), (c + w75.2.1), w77.2, w75.2.2.2))))))))))))) else (if ((E.1.2 j1) &&& (31 : Int32)) = 2 then ((g_3  I LG).bind (fun w71 => ((g_112  w71.2.2.1).bind (fun w72 => ((g_107  w72.2).bind (fun w73 => (if w73 = w71.1 then (if w71.1 = 0 then (if (lg_cmp (w71.2.2.2 37 0) w72.1.toInt64) = 0 then (l_0_23 E n (x4 + (5 : Int32)) w72.2 w71.2.2.2 (c + w71.2.1)) else (some ((0 : Int32), (c + w71.2.1), w72.2, w71.2.2.2))) else (l_0_23 E n (x4 + (5 : Int32)) w72.2 w71.2.2.2 (c + w71.2.1))) else (some ((0 : Int32), (c + w71.2.1), w72.2, w71.2.2.2))))))))) else (if ((E.1.2 j1) &&& (31 : Int32)) = 3 then (ix (x4 + (1 : Int32)) E.1.1 (fun j66 => ((g_4 (E.1.2 j66) I LG).bind (fun w67 => (ix (x4 + (1 : Int32)) E.1.1 (fun j68 => ((g_133 (E.1.2 j68) w67.2.2.1).bind (fun w69 => ((g_107  w69.2).bind (fun w70 => (if w70 = w67.1 then (if w67.1 = 0 then (if (lg_cmp (w67.2.2.2 37 0) w69.1.toInt64) = 0 then (l_0_23 E n (x4 + (5 : Int32)) w69.2 w67.2.2.2 (c + w67.2.1)) else (some ((0 : Int32), (c + w67.2.1), w69.2, w67.2.2.2))) else (l_0_23 E n (x4 + (5 : Int32)) w69.2 w67.2.2.2 (c + w67.2.1))) else (some ((0 : Int32), (c + w67.2.1), w69.2, w67.2.2.2))))))))))))) else (if ((E.1.2 j1) &&& (31 : Int32)) = 4 then (ix (x4 + (1 : Int32)) E.1.1 (fun j61 => ((g_5 (E.1.2 j61) I LG).bind (fun w62 => (ix (x4 + (1 : Int32)) E.1.1 (fun j63 => ((g_134 (E.1.2 j63) w62.2.2.1).bind (fun w64 => ((g_107  w64.2).bind (fun w65 => (if w65 = w62.1 then (if w62.1 = 0 then (if (lg_cmp (w62.2.2.2 37 0) w64.1.toInt64) = 0 then (l_0_23 E n (x4 + (5 : Int32)) w64.2 w62.2.2.2 (c + w62.2.1)) else (some ((0 : Int32), (c + w62.2.1), w64.2, w62.2.2.2))) else (l_0_23 E n (x4 + (5 : Int32)) w64.2 w62.2.2.2 (c + w62.2.1))) else (some ((0 : Int32), (c + w62.2.1), w64.2, w62.2.2.2))))))))))))) else (if ((E.1.2 j1) &&& (31 : Int32)) = 5 then ((g_6  I LG).bind (fun w58 => ((g_135  w58.2.2.1).bind (fun w59 => ((g_107  w59.2).bind (fun w60 => (if w60 = w58.1 then (if w58.1 = 0 then (if (lg_cmp (w58.2.2.2 37 0) w59.1.toInt64) = 0 then (l_0_23 E n (x4 + (5 : Int32)) w59.2 w58.2.2.2 (c + w58.2.1)) else (some ((0 : Int32), (c + w58.2.1), w59.2, w58.2.2.2))) else (l_0_23 E n (x4 + (5 : Int32)) w59.2 w58.2.2.2 (c + w58.2.1))) else (some ((0 : Int32), (c + w58.2.1), w59.2, w58.2.2.2))))))))) else (if ((E.1.2 j1) &&& (31 : Int32)) = 6 then (ix (x4 + (1 : Int32)) E.1.1 (fun j51 => (ix (x4 + (2 : Int32)) E.1.1 (fun j52 => ((g_7 (E.1.2 j51) (E.1.2 j52) I LG).bind (fun w53 => (ix (x4 + (1 : Int32)) E.1.1 (fun j54 => (ix (x4 + (2 : Int32)) E.1.1 (fun j55 => ((g_142 (E.1.2 j54) (E.1.2 j55) w53.2.2.1).bind (fun w56 => ((g_107  w56.2).bind (fun w57 => (if w57 = w53.1 then (if w53.1 = 0 then (if (lg_cmp (w53.2.2.2 37 0) w56.1.toInt64) = 0 then (l_0_23 E n (x4 + (5 : Int32)) w56.2 w53.2.2.2 (c + w53.2.1)) else (some ((0 : Int32), (c + w53.2.1), w56.2, w53.2.2.2))) else (l_0_23 E n (x4 + (5 : Int32)) w56.2 w53.2.2.2 (c + w53.2.1))) else (some ((0 : Int32), (c + w53.2.1), w56.2, w53.2.2.2))))))))))))))))) else (if ((E.1.2 j1) &&& (31 : Int32)) = 7 then (ix (x4 + (1 : Int32)) E.1.1 (fun j44 => (ix (x4 + (2 : Int32)) E.1.1 (fun j45 => ((g_8 (E.1.2 j44) (E.1.2 j45) I LG).bind (fun w46 => (ix (x4 + (1 : Int32)) E.1.1 (fun j47 => (ix (x4 + (2 : Int32)) E.1.1 (fun j48 => ((g_143 (E.1.2 j47) (E.1.2 j48) w46.2.2.1).bind (fun w49 => ((g_107  w49.2).bind (fun w50 => (if w50 = w46.1 then (if w46.1 = 0 then (if (lg_cmp (w46.2.2.2 37 0) w49.1.toInt64) = 0 then (l_0_23 E n (x4 + (5 : Int32)) w49.2 w46.2.2.2 (c + w46.2.1)) else (some ((0 : Int32), (c + w46.2.1), w49.2, w46.2.2.2))) else (l_0_23 E n (x4 + (5 : Int32)) w49.2 w46.2.2.2 (c + w46.2.1))) else (some ((0 : Int32), (c + w46.2.1), w49.2, w46.2.2.2))))))))))))))))) else (if ((E.1.2 j1) &&& (31 : Int32)) = 8 then ((g_9  I LG).bind (fun w41 => ((g_144  w41.2.2.1).bind (fun w42 => ((g_107  w42.2).bind (fun w43 => (if w43 = w41.1 then (if w41.1 = 0 then (if (lg_cmp (w41.2.2.2 37 0) w42.1.toInt64) = 0 then (l_0_23 E n (x4 + (5 : Int32)) w42.2 w41.2.2.2 (c + w41.2.1)) else (some ((0 : Int32), (c + w41.2.1), w42.2, w41.2.2.2))) else (l_0_23 E n (x4 + (5 : Int32)) w42.2 w41.2.2.2 (c + w41.2.1))) else (some ((0 : Int32), (c + w41.2.1), w42.2, w41.2.2.2))))))))) else (if ((E.1.2 j1) &&& (31 : Int32)) = 9 then ((g_22  I).bind (fun w39 => ((g_147  I).bind (fun w40 => (if w39 = w40.1 then (l_0_23 E n (x4 + (5 : Int32)) w40.2 LG c) else (some ((0 : Int32), c, w40.2, LG))))))) else (if ((E.1.2 j1) &&& (31 : Int32)) = 10 then (ix (x4 + (1 : Int32)) E.1.1 (fun j26 => (if (E.1.2 j26) = 0 then ((g_10 (0 : Int32) I LG).bind (fun w27 => (ix (x4 + (1 : Int32)) E.1.1 (fun j28 => (if (E.1.2 j28) = 0 then ((g_148 (0 : Int32) w27.2.2.1).bind (fun w29 => ((g_107  w29.2).bind (fun w30 => (if w30 = w27.1 then (if w27.1 = 0 then (if (lg_cmp (w27.2.2.2 37 0) w29.1.toInt64) = 0 then (l_0_23 E n (x4 + (5 : Int32)) w29.2 w27.2.2.2 (c + w27.2.1)) else (some ((0 : Int32), (c + w27.2.1), w29.2, w27.2.2.2))) else (l_0_23 E n (x4 + (5 : Int32)) w29.2 w27.2.2.2 (c + w27.2.1))) else (some ((0 : Int32), (c + w27.2.1), w29.2, w27.2.2.2))))))) else ((g_148 (1 : Int32) w27.2.2.1).bind (fun w31 => ((g_107  w31.2).bind (fun w32 => (if w32 = w27.1 then (if w27.1 = 0 then (if (lg_cmp (w27.2.2.2 37 0) w31.1.toInt64) = 0 then (l_0_23 E n (x4 + (5 : Int32)) w31.2 w27.2.2.2 (c + w27.2.1)) else (some ((0 : Int32), (c + w27.2.1), w31.2, w27.2.2.2))) else (l_0_23 E n (x4 + (5 : Int32)) w31.2 w27.2.2.2 (c + w27.2.1))) else (some ((0 : Int32), (c + w27.2.1), w31.2, w27.2.2.2)))))))))))) else ((g_10 (1 : Int32) I LG).bind (fun w33 => (ix (x4 + (1 : Int32)) E.1.1 (fun j34 => (if (E.1.2 j34) = 0 then ((g_148 (0 : Int32) w33.2.2.1).bind (fun w35 => ((g_107  w35.2).bind (fun w36 => (if w36 = w33.1 then (if w33.1 = 0 then (if (lg_cmp (w33.2.2.2 37 0) w35.1.toInt64) = 0 then (l_0_23 E n (x4 + (5 : Int32)) w35.2 w33.2.2.2 (c + w33.2.1)) else (some ((0 : Int32), (c + w33.2.1), w35.2, w33.2.2.2))) else (l_0_23 E n (x4 + (5 : Int32)) w35.2 w33.2.2.2 (c + w33.2.1))) else (some ((0 : Int32), (c + w33.2.1), w35.2, w33.2.2.2))))))) else ((g_148 (1 : Int32) w33.2.2.1).bind (fun w37 => ((g_107  w37.2).bind (fun w38 => (if w38 = w33.1 then (if w33.1 = 0 then (if (lg_cmp (w33.2.2.2 37 0) w37.1.toInt64) = 0 then (l_0_23 E n (x4 + (5 : Int32)) w37.2 w33.2.2.2 (c + w33.2.1)) else (some ((0 : Int32), (c + w33.2.1), w37.2, w33.2.2.2))) else (l_0_23 E n (x4 + (5 : Int32)) w37.2 w33.2.2.2 (c + w33.2.1))) else (some ((0 : Int32), (c + w33.2.1), w37.2, w33.2.2.2))))))))))))))) else (if ((E.1.2 j1) &&& (31 : Int32)) = 11 then (ix (x4 + (1 : Int32)) E.1.1 (fun j21 => ((g_11 (E.1.2 j21) I LG).bind (fun w22 => (ix (x4 + (1 : Int32)) E.1.1 (fun j23 => ((g_153 (E.1.2 j23) w22.2.2.1).bind (fun w24 => ((g_107  w24.2).bind (fun w25 => (if w25 = w22.1 then (if w22.1 = 0 then (if (lg_cmp (w22.2.2.2 37 0) w24.1.toInt64) = 0 then (l_0_23 E n (x4 + (5 : Int32)) w24.2 w22.2.2.2 (c + w22.2.1)) else (some ((0 : Int32), (c + w22.2.1), w24.2, w22.2.2.2))) else (l_0_23 E n (x4 + (5 : Int32)) w24.2 w22.2.2.2 (c + w22.2.1))) else (some ((0 : Int32), (c + w22.2.1), w24.2, w22.2.2.2))))))))))))) else (if ((E.1.2 j1) &&& (31 : Int32)) = 12 then (ix (x4 + (1 : Int32)) E.1.1 (fun j16 => ((g_12 (E.1.2 j16) I LG).bind (fun w17 => (ix (x4 + (1 : Int32)) E.1.1 (fun j18 => ((g_154 (E.1.2 j18) w17.2.2.1).bind (fun w19 => ((g_107  w19.2).bind (fun w20 => (if w20 = w17.1 then (if w17.1 = 0 then (if (lg_cmp (w17.2.2.2 37 0) w19.1.toInt64) = 0 then (l_0_23 E n (x4 + (5 : Int32)) w19.2 w17.2.2.2 (c + w17.2.1)) else (some ((0 : Int32), (c + w17.2.1), w19.2, w17.2.2.2))) else (l_0_23 E n (x4 + (5 : Int32)) w19.2 w17.2.2.2 (c + w17.2.1))) else (some ((0 : Int32), (c + w17.2.1), w19.2, w17.2.2.2))))))))))))) else (if ((E.1.2 j1) &&& (31 : Int32)) = 13 then ((g_13  I LG).bind (fun w13 => ((g_155  w13.2.2.1).bind (fun w14 => ((g_107  w14.2).bind (fun w15 => (if w15 = w13.1 then (if w13.1 = 0 then (if (lg_cmp (w13.2.2.2 37 0) w14.1.toInt64) = 0 then (l_0_23 E n (x4 + (5 : Int32)) w14.2 w13.2.2.2 (c + w13.2.1)) else (some ((0 : Int32), (c + w13.2.1), w14.2, w13.2.2.2))) else (l_0_23 E n (x4 + (5 : Int32)) w14.2 w13.2.2.2 (c + w13.2.1))) else (some ((0 : Int32), (c + w13.2.1), w14.2, w13.2.2.2))))))))) else (if ((E.1.2 j1) &&& (31 : Int32)) = 14 then (ix (x4 + (1 : Int32)) E.1.1 (fun j8 => ((g_14 (E.1.2 j8) I LG).bind (fun w9 => (ix (x4 + (1 : Int32)) E.1.1 (fun j10 => ((g_161 (E.1.2 j10) w9.2.2.1).bind (fun w11 => ((g_107  w11.2).bind (fun w12 => (if w12 = w9.1 then (if w9.1 = 0 then (if (lg_cmp (w9.2.2.2 37 0) w11.1.toInt64) = 0 then (l_0_23 E n (x4 + (5 : Int32)) w11.2 w9.2.2.2 (c + w9.2.1)) else (some ((0 : Int32), (c + w9.2.1), w11.2, w9.2.2.2))) else (l_0_23 E n (x4 + (5 : Int32)) w11.2 w9.2.2.2 (c + w9.2.1))) else (some ((0 : Int32), (c + w9.2.1), w11.2, w9.2.2.2))))))))))))) else (if ((E.1.2 j1) &&& (31 : Int32)) = 15 then ((g_23  I).bind (fun w6 => ((g_162  w6.2).bind (fun w7 => (if w6.1 = w7.1 then (l_0_23 E n (x4 + (5 : Int32)) w7.2 LG c) else (some ((0 : Int32), c, w7.2, LG))))))) else (if ((E.1.2 j1) &&& (31 : Int32)) = 16 then (ix (x4 + (1 : Int32)) E.1.1 (fun j2 => ((g_25 (E.1.2 j2) I).bind (fun w3 => (ix (x4 + (1 : Int32)) E.1.1 (fun j4 => ((g_163 (E.1.2 j4) I).bind (fun w5 => (if w3 = w5.1 then (l_0_23 E n (x4 + (5 : Int32)) w5.2 LG c) else (some ((0 : Int32), c, w5.2, LG))))))))))) else (l_0_23 E n (x4 + (5 : Int32)) I LG c)))))))))))))))))))))
set_option maxHeartbeats 8000000 in
theorem d_0_23 {E : mm_V} (hE : E.2 = .null ∨ E.2 = .ref 1999) {nc ns : Nat} (n : Nat) : ∀ (x4 : Int32) (I : Mem) (LG : LgM) (c : Nat), CT E 0 (23, [some (.ref 1000), some (.ref 0), some (.ref 20), some (.ref 37), some (.int x4), none, none], [], SH, (I, RF0, LG), nc + c, ns + 6 * c) (rW SH RF0 nc ns) (l_0_23 E n x4 I LG c) := by
  induction n with
  | zero => intro x4 I LG c; exact ct_none
  | succ n ih =>
    intro x4 I LG c
    unfold l_0_23
    exact (ct_iload 25 o_0_23 rfl rfl (ct_aload_n 26 o_0_25 rfl rfl (ct_lengthX (p := 1000) (E.1.1) 27 o_0_26 rfl rfl (ct_iconst 28 o_0_27 rfl (ct_isub 29 o_0_28 rfl (ct_icmpgt 32 o_0_29 rfl (fun _ => (ct_iconst 990 o_0_989 rfl (ct_retWn (c := c) o_0_990 rfl rfl rfl rfl))) (fun _ => (ct_aload_n 33 o_0_32 rfl rfl (ct_iload 35 o_0_33 rfl rfl (ct_ialoadX E.1 36 o_0_35 rfl rfl rfl (fun j1 => (ct_bipush 38 o_0_36 rfl (ct_iand 39 o_0_38 rfl (ct_case (v := 0) (fun h0 => ct_sw o_0_39 rfl rfl (by rw [h0]; rfl) (ct_aload_n 121 o_0_120 rfl rfl (ct_aload_n 122 o_0_121 rfl rfl (ct_iload 124 o_0_122 rfl rfl (ct_iconst 125 o_0_124 rfl (ct_iadd 126 o_0_125 rfl (ct_ialoadX E.1 127 o_0_126 rfl rfl rfl (fun j79 => (ct_aload_n 128 o_0_127 rfl rfl (ct_iload 130 o_0_128 rfl rfl (ct_iconst 131 o_0_130 rfl (ct_iadd 132 o_0_131 rfl (ct_ialoadX E.1 133 o_0_132 rfl rfl rfl (fun j80 => (ct_aload_n 134 o_0_133 rfl rfl (ct_iload 136 o_0_134 rfl rfl (ct_iconst 137 o_0_136 rfl (ct_iadd 138 o_0_137 rfl (ct_ialoadX E.1 139 o_0_138 rfl rfl rfl (fun j81 => (ct_aload_n 140 o_0_139 rfl rfl (ct_iload 142 o_0_140 rfl rfl (ct_iconst 143 o_0_142 rfl (ct_iadd 144 o_0_143 rfl (ct_ialoadX E.1 145 o_0_144 rfl rfl rfl (fun j82 => (ct_aload_n 146 o_0_145 rfl rfl (ct_callW (y := 1) (as := [.ref 0, .int (E.1.2 j79), .int (E.1.2 j80), .int (E.1.2 j81), .int (E.1.2 j82), .ref 37]) (r := []) 149 o_0_146 rfl rfl rfl rfl (c_1 hE (E.1.2 j79) (E.1.2 j80) (E.1.2 j81) (E.1.2 j82)) (fun w83 => (ct_istore (lo' := [some (.ref 1000), some (.ref 0), some (.ref 20), some (.ref 37), some (.int x4), some (.int w83.1), none]) 151 o_0_149 rfl rfl rfl (ct_aload_n 152 o_0_151 rfl rfl (ct_aload_n 153 o_0_152 rfl rfl (ct_iload 155 o_0_153 rfl rfl (ct_iconst 156 o_0_155 rfl (ct_iadd 157 o_0_156 rfl (ct_ialoadX E.1 158 o_0_157 rfl rfl rfl (fun j84 => (ct_aload_n 159 o_0_158 rfl rfl (ct_iload 161 o_0_159 rfl rfl (ct_iconst 162 o_0_161 rfl (ct_iadd 163 o_0_162 rfl (ct_ialoadX E.1 164 o_0_163 rfl rfl rfl (fun j85 => (ct_aload_n 165 o_0_164 rfl rfl (ct_iload 167 o_0_165 rfl rfl (ct_iconst 168 o_0_167 rfl (ct_iadd 169 o_0_168 rfl (ct_ialoadX E.1 170 o_0_169 rfl rfl rfl (fun j86 => (ct_aload_n 171 o_0_170 rfl rfl (ct_iload 173 o_0_171 rfl rfl (ct_iconst 174 o_0_173 rfl (ct_iadd 175 o_0_174 rfl (ct_ialoadX E.1 176 o_0_175 rfl rfl rfl (fun j87 => (ct_callB (y := 108) (as := [.ref 20, .int (E.1.2 j84), .int (E.1.2 j85), .int (E.1.2 j86), .int (E.1.2 j87)]) (r := []) 179 o_0_176 rfl rfl rfl rfl (c_108 hE (E.1.2 j84) (E.1.2 j85) (E.1.2 j86) (E.1.2 j87)) (fun w88 => (ct_istore (lo' := [some (.ref 1000), some (.ref 0), some (.ref 20), some (.ref 37), some (.int x4), some (.int w83.1), some (.int w88.1)]) 181 o_0_179 rfl rfl rfl (ct_aload_n 182 o_0_181 rfl rfl (ct_callP (y := 107) (as := [.ref 20]) (r := []) 185 o_0_182 rfl rfl rfl rfl (c_107 hE ) (fun w89 => (ct_iload 187 o_0_185 rfl rfl (ct_icmpeq 190 o_0_187 rfl (fun _ => (ct_iload 194 o_0_192 rfl rfl (ct_ifne 197 o_0_194 rfl (fun _ => (ct_goto o_0_209 (ct_iinc (lo' := [some (.ref 1000), some (.ref 0), some (.ref 20), some (.ref 37), some (.int (x4 + (5 : Int32))), some (.int w83.1), some (.int w88.1)]) 986 o_0_983 rfl rfl rfl rfl (ct_goto o_0_986 (ct_forget (lo := [some (.ref 1000), some (.ref 0), some (.ref 20), some (.ref 37), some (.int (x4 + (5 : Int32))), none, none]) ⟨rfl, ⟨rfl, ⟨rfl, ⟨rfl, ⟨rfl, ⟨rfl, ⟨rfl, trivial⟩⟩⟩⟩⟩⟩⟩ (ct_cnt (Nat.add_assoc nc c w83.2.1) (cnt6 ns c w83.2.1) (ih (x4 + (5 : Int32)) w88.2 w83.2.2.2 (c + w83.2.1)))))))) (fun _ => (ct_aload_n 198 o_0_197 rfl rfl (ct_iconst 199 o_0_198 rfl (ct_laload0 (n := 0) (w83.2.2.2 37 0) 200 o_0_199 rfl rfl rfl (ct_iload 202 o_0_200 rfl rfl (ct_i2l 203 o_0_202 rfl (ct_lcmp 204 o_0_203 rfl (ct_ifeq 207 o_0_204 rfl (fun _ => (ct_goto o_0_209 (ct_iinc (lo' := [some (.ref 1000), some (.ref 0), some (.ref 20), some (.ref 37), some (.int (x4 + (5 : Int32))), some (.int w83.1), some (.int w88.1)]) 986 o_0_983 rfl rfl rfl rfl (ct_goto o_0_986 (ct_forget (lo := [some (.ref 1000), some (.ref 0), some (.ref 20), some (.ref 37), some (.int (x4 + (5 : Int32))), none, none]) ⟨rfl, ⟨rfl, ⟨rfl, ⟨rfl, ⟨rfl, ⟨rfl, ⟨rfl, trivial⟩⟩⟩⟩⟩⟩⟩ (ct_cnt (Nat.add_assoc nc c w83.2.1) (cnt6 ns c w83.2.1) (ih (x4 + (5 : Int32)) w88.2 w83.2.2.2 (c + w83.2.1)))))))) (fun _ => (ct_iconst 208 o_0_207 rfl (ct_retWn (c := (c + w83.2.1)) o_0_208 rfl rfl (Nat.add_assoc nc c w83.2.1) (cnt6 ns c w83.2.1))))))))))))))) (fun _ => (ct_iconst 191 o_0_190 rfl (ct_retWn (c := (c + w83.2.1)) o_0_191 rfl rfl (Nat.add_assoc nc c w83.2.1) (cnt6 ns c w83.2.1))))))))))))))))))))))))))))))))))))))))))))))))))))))))))))))))))) (fun h0 => (ct_case (v := 1) (fun h1 => ct_sw o_0_39 rfl rfl (by rw [h1]; rfl) (ct_aload_n 213 o_0_212 rfl rfl (ct_aload_n 214 o_0_213 rfl rfl (ct_iload 216 o_0_214 rfl rfl (ct_iconst 217 o_0_216 rfl (ct_iadd 218 o_0_217 rfl (ct_ialoadX E.1 219 o_0_218 rfl rfl rfl (fun j74 => (ct_aload_n 220 o_0_219 rfl rfl (ct_callW (y := 2) (as := [.ref 0, .int (E.1.2 j74), .ref 37]) (r := []) 223 o_0_220 rfl rfl rfl rfl (c_2 hE (E.1.2 j74)) (fun w75 => (ct_istore (lo' := [some (.ref 1000), some (.ref 0), some (.ref 20), some (.ref 37), some (.int x4), some (.int w75.1), none]) 225 o_0_223 rfl rfl rfl (ct_aload_n 226 o_0_225 rfl rfl (ct_aload_n 227 o_0_226 rfl rfl (ct_iload 229 o_0_227 rfl rfl (ct_iconst 230 o_0_229 rfl (ct_iadd 231 o_0_230 rfl (ct_ialoadX E.1 232 o_0_231 rfl rfl rfl (fun j76 => (ct_callB (y := 110) (as := [.ref 20, .int (E.1.2 j76)]) (r := []) 235 o_0_232 rfl rfl rfl rfl (c_110 hE (E.1.2 j76)) (fun w77 => (ct_istore (lo' := [some (.ref 1000), some (.ref 0), some (.ref 20), some (.ref 37), some (.int x4), some (.int w75.1), some (.int w77.1)]) 237 o_0_235 rfl rfl rfl (ct_aload_n 238 o_0_237 rfl rfl (ct_callP (y := 107) (as := [.ref 20]) (r := []) 241 o_0_238 rfl rfl rfl rfl (c_107 hE ) (fun w78 => (ct_iload 243 o_0_241 rfl rfl (ct_icmpeq 246 o_0_243 rfl (fun _ => (ct_iload 250 o_0_248 rfl rfl (ct_ifne 253 o_0_250 rfl (fun _ => (ct_goto o_0_265 (ct_iinc (lo' := [some (.ref 1000), some (.ref 0), some (.ref 20), some (.ref 37), some (.int (x4 + (5 : Int32))), some (.int w75.1), some (.int w77.1)]) 986 o_0_983 rfl rfl rfl rfl (ct_goto o_0_986 (ct_forget (lo := [some (.ref 1000), some (.ref 0), some (.ref 20), some (.ref 37), some (.int (x4 + (5 : Int32))), none, none]) ⟨rfl, ⟨rfl, ⟨rfl, ⟨rfl, ⟨rfl, ⟨rfl, ⟨rfl, trivial⟩⟩⟩⟩⟩⟩⟩ (ct_cnt (Nat.add_assoc nc c w75.2.1) (cnt6 ns c w75.2.1) (ih (x4 + (5 : Int32)) w77.2 w75.2.2.2 (c + w75.2.1)))))))) (fun _ => (ct_aload_n 254 o_0_253 rfl rfl (ct_iconst 255 o_0_254 rfl (ct_laload0 (n := 0) (w75.2.2.2 37 0) 256 o_0_255 rfl rfl rfl (ct_iload 258 o_0_256 rfl rfl (ct_i2l 259 o_0_258 rfl (ct_lcmp 260 o_0_259 rfl (ct_ifeq 263 o_0_260 rfl (fun _ => (ct_goto o_0_265 (ct_iinc (lo' := [some (.ref 1000), some (.ref 0), some (.ref 20), some (.ref 37), some (.int (x4 + (5 : Int32))), some (.int w75.1), some (.int w77.1)]) 986 o_0_983 rfl rfl rfl rfl (ct_goto o_0_986 (ct_forget (lo := [some (.ref 1000), some (.ref 0), some (.ref 20), some (.ref 37), some (.int (x4 + (5 : Int32))), none, none]) ⟨rfl, ⟨rfl, ⟨rfl, ⟨rfl, ⟨rfl, ⟨rfl, ⟨rfl, trivial⟩⟩⟩⟩⟩⟩⟩ (ct_cnt (Nat.add_assoc nc c w75.2.1) (cnt6 ns c w75.2.1) (ih (x4 + (5 : Int32)) w77.2 w75.2.2.2 (c + w75.2.1)))))))) (fun _ => (ct_iconst 264 o_0_263 rfl (ct_retWn (c := (c + w75.2.1)) o_0_264 rfl rfl (Nat.add_assoc nc c w75.2.1) (cnt6 ns c w75.2.1))))))))))))))) (fun _ => (ct_iconst 247 o_0_246 rfl (ct_retWn (c := (c + w75.2.1)) o_0_247 rfl rfl (Nat.add_assoc nc c w75.2.1) (cnt6 ns c w75.2.1))))))))))))))))))))))))))))))) (fun h1 => (ct_case (v := 2) (fun h2 => ct_sw o_0_39 rfl rfl (by rw [h2]; rfl) (ct_aload_n 269 o_0_268 rfl rfl (ct_aload_n 270 o_0_269 rfl rfl (ct_callW (y := 3) (as := [.ref 0, .ref 37]) (r := []) 273 o_0_270 rfl rfl rfl rfl (c_3 hE ) (fun w71 => (ct_istore (lo' := [some (.ref 1000), some (.ref 0), some (.ref 20), some (.ref 37), some (.int x4), some (.int w71.1), none]) 275 o_0_273 rfl rfl rfl (ct_aload_n 276 o_0_275 rfl rfl (ct_callB (y := 112) (as := [.ref 20]) (r := []) 279 o_0_276 rfl rfl rfl rfl (c_112 hE ) (fun w72 => (ct_istore (lo' := [some (.ref 1000), some (.ref 0), some (.ref 20), some (.ref 37), some (.int x4), some (.int w71.1), some (.int w72.1)]) 281 o_0_279 rfl rfl rfl (ct_aload_n 282 o_0_281 rfl rfl (ct_callP (y := 107) (as := [.ref 20]) (r := []) 285 o_0_282 rfl rfl rfl rfl (c_107 hE ) (fun w73 => (ct_iload 287 o_0_285 rfl rfl (ct_icmpeq 290 o_0_287 rfl (fun _ => (ct_iload 294 o_0_292 rfl rfl (ct_ifne 297 o_0_294 rfl (fun _ => (ct_goto o_0_309 (ct_iinc (lo' := [some (.ref 1000), some (.ref 0), some (.ref 20), some (.ref 37), some (.int (x4 + (5 : Int32))), some (.int w71.1), some (.int w72.1)]) 986 o_0_983 rfl rfl rfl rfl (ct_goto o_0_986 (ct_forget (lo := [some (.ref 1000), some (.ref 0), some (.ref 20), some (.ref 37), some (.int (x4 + (5 : Int32))), none, none]) ⟨rfl, ⟨rfl, ⟨rfl, ⟨rfl, ⟨rfl, ⟨rfl, ⟨rfl, trivial⟩⟩⟩⟩⟩⟩⟩ (ct_cnt (Nat.add_assoc nc c w71.2.1) (cnt6 ns c w71.2.1) (ih (x4 + (5 : Int32)) w72.2 w71.2.2.2 (c + w71.2.1)))))))) (fun _ => (ct_aload_n 298 o_0_297 rfl rfl (ct_iconst 299 o_0_298 rfl (ct_laload0 (n := 0) (w71.2.2.2 37 0) 300 o_0_299 rfl rfl rfl (ct_iload 302 o_0_300 rfl rfl (ct_i2l 303 o_0_302 rfl (ct_lcmp 304 o_0_303 rfl (ct_ifeq 307 o_0_304 rfl (fun _ => (ct_goto o_0_309 (ct_iinc (lo' := [some (.ref 1000), some (.ref 0), some (.ref 20), some (.ref 37), some (.int (x4 + (5 : Int32))), some (.int w71.1), some (.int w72.1)]) 986 o_0_983 rfl rfl rfl rfl (ct_goto o_0_986 (ct_forget (lo := [some (.ref 1000), some (.ref 0), some (.ref 20), some (.ref 37), some (.int (x4 + (5 : Int32))), none, none]) ⟨rfl, ⟨rfl, ⟨rfl, ⟨rfl, ⟨rfl, ⟨rfl, ⟨rfl, trivial⟩⟩⟩⟩⟩⟩⟩ (ct_cnt (Nat.add_assoc nc c w71.2.1) (cnt6 ns c w71.2.1) (ih (x4 + (5 : Int32)) w72.2 w71.2.2.2 (c + w71.2.1)))))))) (fun _ => (ct_iconst 308 o_0_307 rfl (ct_retWn (c := (c + w71.2.1)) o_0_308 rfl rfl (Nat.add_assoc nc c w71.2.1) (cnt6 ns c w71.2.1))))))))))))))) (fun _ => (ct_iconst 291 o_0_290 rfl (ct_retWn (c := (c + w71.2.1)) o_0_291 rfl rfl (Nat.add_assoc nc c w71.2.1) (cnt6 ns c w71.2.1))))))))))))))))))) (fun h2 => (ct_case (v := 3) (fun h3 => ct_sw o_0_39 rfl rfl (by rw [h3]; rfl) (ct_aload_n 313 o_0_312 rfl rfl (ct_aload_n 314 o_0_313 rfl rfl (ct_iload 316 o_0_314 rfl rfl (ct_iconst 317 o_0_316 rfl (ct_iadd 318 o_0_317 rfl (ct_ialoadX E.1 319 o_0_318 rfl rfl rfl (fun j66 => (ct_aload_n 320 o_0_319 rfl rfl (ct_callW (y := 4) (as := [.ref 0, .int (E.1.2 j66), .ref 37]) (r := []) 323 o_0_320 rfl rfl rfl rfl (c_4 hE (E.1.2 j66)) (fun w67 => (ct_istore (lo' := [some (.ref 1000), some (.ref 0), some (.ref 20), some (.ref 37), some (.int x4), some (.int w67.1), none]) 325 o_0_323 rfl rfl rfl (ct_aload_n 326 o_0_325 rfl rfl (ct_aload_n 327 o_0_326 rfl rfl (ct_iload 329 o_0_327 rfl rfl (ct_iconst 330 o_0_329 rfl (ct_iadd 331 o_0_330 rfl (ct_ialoadX E.1 332 o_0_331 rfl rfl rfl (fun j68 => (ct_callB (y := 133) (as := [.ref 20, .int (E.1.2 j68)]) (r := []) 335 o_0_332 rfl rfl rfl rfl (c_133 hE (E.1.2 j68)) (fun w69 => (ct_istore (lo' := [some (.ref 1000), some (.ref 0), some (.ref 20), some (.ref 37), some (.int x4), some (.int w67.1), some (.int w69.1)]) 337 o_0_335 rfl rfl rfl (ct_aload_n 338 o_0_337 rfl rfl (ct_callP (y := 107) (as := [.ref 20]) (r := []) 341 o_0_338 rfl rfl rfl rfl (c_107 hE ) (fun w70 => (ct_iload 343 o_0_341 rfl rfl (ct_icmpeq 346 o_0_343 rfl (fun _ => (ct_iload 350 o_0_348 rfl rfl (ct_ifne 353 o_0_350 rfl (fun _ => (ct_goto o_0_365 (ct_iinc (lo' := [some (.ref 1000), some (.ref 0), some (.ref 20), some (.ref 37), some (.int (x4 + (5 : Int32))), some (.int w67.1), some (.int w69.1)]) 986 o_0_983 rfl rfl rfl rfl (ct_goto o_0_986 (ct_forget (lo := [some (.ref 1000), some (.ref 0), some (.ref 20), some (.ref 37), some (.int (x4 + (5 : Int32))), none, none]) ⟨rfl, ⟨rfl, ⟨rfl, ⟨rfl, ⟨rfl, ⟨rfl, ⟨rfl, trivial⟩⟩⟩⟩⟩⟩⟩ (ct_cnt (Nat.add_assoc nc c w67.2.1) (cnt6 ns c w67.2.1) (ih (x4 + (5 : Int32)) w69.2 w67.2.2.2 (c + w67.2.1)))))))) (fun _ => (ct_aload_n 354 o_0_353 rfl rfl (ct_iconst 355 o_0_354 rfl (ct_laload0 (n := 0) (w67.2.2.2 37 0) 356 o_0_355 rfl rfl rfl (ct_iload 358 o_0_356 rfl rfl (ct_i2l 359 o_0_358 rfl (ct_lcmp 360 o_0_359 rfl (ct_ifeq 363 o_0_360 rfl (fun _ => (ct_goto o_0_365 (ct_iinc (lo' := [some (.ref 1000), some (.ref 0), some (.ref 20), some (.ref 37), some (.int (x4 + (5 : Int32))), some (.int w67.1), some (.int w69.1)]) 986 o_0_983 rfl rfl rfl rfl (ct_goto o_0_986 (ct_forget (lo := [some (.ref 1000), some (.ref 0), some (.ref 20), some (.ref 37), some (.int (x4 + (5 : Int32))), none, none]) ⟨rfl, ⟨rfl, ⟨rfl, ⟨rfl, ⟨rfl, ⟨rfl, ⟨rfl, trivial⟩⟩⟩⟩⟩⟩⟩ (ct_cnt (Nat.add_assoc nc c w67.2.1) (cnt6 ns c w67.2.1) (ih (x4 + (5 : Int32)) w69.2 w67.2.2.2 (c + w67.2.1)))))))) (fun _ => (ct_iconst 364 o_0_363 rfl (ct_retWn (c := (c + w67.2.1)) o_0_364 rfl rfl (Nat.add_assoc nc c w67.2.1) (cnt6 ns c w67.2.1))))))))))))))) (fun _ => (ct_iconst 347 o_0_346 rfl (ct_retWn (c := (c + w67.2.1)) o_0_347 rfl rfl (Nat.add_assoc nc c w67.2.1) (cnt6 ns c w67.2.1))))))))))))))))))))))))))))))) (fun h3 => (ct_case (v := 4) (fun h4 => ct_sw o_0_39 rfl rfl (by rw [h4]; rfl) (ct_aload_n 369 o_0_368 rfl rfl (ct_aload_n 370 o_0_369 rfl rfl (ct_iload 372 o_0_370 rfl rfl (ct_iconst 373 o_0_372 rfl (ct_iadd 374 o_0_373 rfl (ct_ialoadX E.1 375 o_0_374 rfl rfl rfl (fun j61 => (ct_aload_n 376 o_0_375 rfl rfl (ct_callW (y := 5) (as := [.ref 0, .int (E.1.2 j61), .ref 37]) (r := []) 379 o_0_376 rfl rfl rfl rfl (c_5 hE (E.1.2 j61)) (fun w62 => (ct_istore (lo' := [some (.ref 1000), some (.ref 0), some (.ref 20), some (.ref 37), some (.int x4), some (.int w62.1), none]) 381 o_0_379 rfl rfl rfl (ct_aload_n 382 o_0_381 rfl rfl (ct_aload_n 383 o_0_382 rfl rfl (ct_iload 385 o_0_383 rfl rfl (ct_iconst 386 o_0_385 rfl (ct_iadd 387 o_0_386 rfl (ct_ialoadX E.1 388 o_0_387 rfl rfl rfl (fun j63 => (ct_callB (y := 134) (as := [.ref 20, .int (E.1.2 j63)]) (r := []) 391 o_0_388 rfl rfl rfl rfl (c_134 hE (E.1.2 j63)) (fun w64 => (ct_istore (lo' := [some (.ref 1000), some (.ref 0), some (.ref 20), some (.ref 37), some (.int x4), some (.int w62.1), some (.int w64.1)]) 393 o_0_391 rfl rfl rfl (ct_aload_n 394 o_0_393 rfl rfl (ct_callP (y := 107) (as := [.ref 20]) (r := []) 397 o_0_394 rfl rfl rfl rfl (c_107 hE ) (fun w65 => (ct_iload 399 o_0_397 rfl rfl (ct_icmpeq 402 o_0_399 rfl (fun _ => (ct_iload 406 o_0_404 rfl rfl (ct_ifne 409 o_0_406 rfl (fun _ => (ct_goto o_0_421 (ct_iinc (lo' := [some (.ref 1000), some (.ref 0), some (.ref 20), some (.ref 37), some (.int (x4 + (5 : Int32))), some (.int w62.1), some (.int w64.1)]) 986 o_0_983 rfl rfl rfl rfl (ct_goto o_0_986 (ct_forget (lo := [some (.ref 1000), some (.ref 0), some (.ref 20), some (.ref 37), some (.int (x4 + (5 : Int32))), none, none]) ⟨rfl, ⟨rfl, ⟨rfl, ⟨rfl, ⟨rfl, ⟨rfl, ⟨rfl, trivial⟩⟩⟩⟩⟩⟩⟩ (ct_cnt (Nat.add_assoc nc c w62.2.1) (cnt6 ns c w62.2.1) (ih (x4 + (5 : Int32)) w64.2 w62.2.2.2 (c + w62.2.1)))))))) (fun _ => (ct_aload_n 410 o_0_409 rfl rfl (ct_iconst 411 o_0_410 rfl (ct_laload0 (n := 0) (w62.2.2.2 37 0) 412 o_0_411 rfl rfl rfl (ct_iload 414 o_0_412 rfl rfl (ct_i2l 415 o_0_414 rfl (ct_lcmp 416 o_0_415 rfl (ct_ifeq 419 o_0_416 rfl (fun _ => (ct_goto o_0_421 (ct_iinc (lo' := [some (.ref 1000), some (.ref 0), some (.ref 20), some (.ref 37), some (.int (x4 + (5 : Int32))), some (.int w62.1), some (.int w64.1)]) 986 o_0_983 rfl rfl rfl rfl (ct_goto o_0_986 (ct_forget (lo := [some (.ref 1000), some (.ref 0), some (.ref 20), some (.ref 37), some (.int (x4 + (5 : Int32))), none, none]) ⟨rfl, ⟨rfl, ⟨rfl, ⟨rfl, ⟨rfl, ⟨rfl, ⟨rfl, trivial⟩⟩⟩⟩⟩⟩⟩ (ct_cnt (Nat.add_assoc nc c w62.2.1) (cnt6 ns c w62.2.1) (ih (x4 + (5 : Int32)) w64.2 w62.2.2.2 (c + w62.2.1)))))))) (fun _ => (ct_iconst 420 o_0_419 rfl (ct_retWn (c := (c + w62.2.1)) o_0_420 rfl rfl (Nat.add_assoc nc c w62.2.1) (cnt6 ns c w62.2.1))))))))))))))) (fun _ => (ct_iconst 403 o_0_402 rfl (ct_retWn (c := (c + w62.2.1)) o_0_403 rfl rfl (Nat.add_assoc nc c w62.2.1) (cnt6 ns c w62.2.1))))))))))))))))))))))))))))))) (fun h4 => (ct_case (v := 5) (fun h5 => ct_sw o_0_39 rfl rfl (by rw [h5]; rfl) (ct_aload_n 425 o_0_424 rfl rfl (ct_aload_n 426 o_0_425 rfl rfl (ct_callW (y := 6) (as := [.ref 0, .ref 37]) (r := []) 429 o_0_426 rfl rfl rfl rfl (c_6 hE ) (fun w58 => (ct_istore (lo' := [some (.ref 1000), some (.ref 0), some (.ref 20), some (.ref 37), some (.int x4), some (.int w58.1), none]) 431 o_0_429 rfl rfl rfl (ct_aload_n 432 o_0_431 rfl rfl (ct_callB (y := 135) (as := [.ref 20]) (r := []) 435 o_0_432 rfl rfl rfl rfl (c_135 hE ) (fun w59 => (ct_istore (lo' := [some (.ref 1000), some (.ref 0), some (.ref 20), some (.ref 37), some (.int x4), some (.int w58.1), some (.int w59.1)]) 437 o_0_435 rfl rfl rfl (ct_aload_n 438 o_0_437 rfl rfl (ct_callP (y := 107) (as := [.ref 20]) (r := []) 441 o_0_438 rfl rfl rfl rfl (c_107 hE ) (fun w60 => (ct_iload 443 o_0_441 rfl rfl (ct_icmpeq 446 o_0_443 rfl (fun _ => (ct_iload 450 o_0_448 rfl rfl (ct_ifne 453 o_0_450 rfl (fun _ => (ct_goto o_0_465 (ct_iinc (lo' := [some (.ref 1000), some (.ref 0), some (.ref 20), some (.ref 37), some (.int (x4 + (5 : Int32))), some (.int w58.1), some (.int w59.1)]) 986 o_0_983 rfl rfl rfl rfl (ct_goto o_0_986 (ct_forget (lo := [some (.ref 1000), some (.ref 0), some (.ref 20), some (.ref 37), some (.int (x4 + (5 : Int32))), none, none]) ⟨rfl, ⟨rfl, ⟨rfl, ⟨rfl, ⟨rfl, ⟨rfl, ⟨rfl, trivial⟩⟩⟩⟩⟩⟩⟩ (ct_cnt (Nat.add_assoc nc c w58.2.1) (cnt6 ns c w58.2.1) (ih (x4 + (5 : Int32)) w59.2 w58.2.2.2 (c + w58.2.1)))))))) (fun _ => (ct_aload_n 454 o_0_453 rfl rfl (ct_iconst 455 o_0_454 rfl (ct_laload0 (n := 0) (w58.2.2.2 37 0) 456 o_0_455 rfl rfl rfl (ct_iload 458 o_0_456 rfl rfl (ct_i2l 459 o_0_458 rfl (ct_lcmp 460 o_0_459 rfl (ct_ifeq 463 o_0_460 rfl (fun _ => (ct_goto o_0_465 (ct_iinc (lo' := [some (.ref 1000), some (.ref 0), some (.ref 20), some (.ref 37), some (.int (x4 + (5 : Int32))), some (.int w58.1), some (.int w59.1)]) 986 o_0_983 rfl rfl rfl rfl (ct_goto o_0_986 (ct_forget (lo := [some (.ref 1000), some (.ref 0), some (.ref 20), some (.ref 37), some (.int (x4 + (5 : Int32))), none, none]) ⟨rfl, ⟨rfl, ⟨rfl, ⟨rfl, ⟨rfl, ⟨rfl, ⟨rfl, trivial⟩⟩⟩⟩⟩⟩⟩ (ct_cnt (Nat.add_assoc nc c w58.2.1) (cnt6 ns c w58.2.1) (ih (x4 + (5 : Int32)) w59.2 w58.2.2.2 (c + w58.2.1)))))))) (fun _ => (ct_iconst 464 o_0_463 rfl (ct_retWn (c := (c + w58.2.1)) o_0_464 rfl rfl (Nat.add_assoc nc c w58.2.1) (cnt6 ns c w58.2.1))))))))))))))) (fun _ => (ct_iconst 447 o_0_446 rfl (ct_retWn (c := (c + w58.2.1)) o_0_447 rfl rfl (Nat.add_assoc nc c w58.2.1) (cnt6 ns c w58.2.1))))))))))))))))))) (fun h5 => (ct_case (v := 6) (fun h6 => ct_sw o_0_39 rfl rfl (by rw [h6]; rfl) (ct_aload_n 469 o_0_468 rfl rfl (ct_aload_n 470 o_0_469 rfl rfl (ct_iload 472 o_0_470 rfl rfl (ct_iconst 473 o_0_472 rfl (ct_iadd 474 o_0_473 rfl (ct_ialoadX E.1 475 o_0_474 rfl rfl rfl (fun j51 => (ct_aload_n 476 o_0_475 rfl rfl (ct_iload 478 o_0_476 rfl rfl (ct_iconst 479 o_0_478 rfl (ct_iadd 480 o_0_479 rfl (ct_ialoadX E.1 481 o_0_480 rfl rfl rfl (fun j52 => (ct_aload_n 482 o_0_481 rfl rfl (ct_callW (y := 7) (as := [.ref 0, .int (E.1.2 j51), .int (E.1.2 j52), .ref 37]) (r := []) 485 o_0_482 rfl rfl rfl rfl (c_7 hE (E.1.2 j51) (E.1.2 j52)) (fun w53 => (ct_istore (lo' := [some (.ref 1000), some (.ref 0), some (.ref 20), some (.ref 37), some (.int x4), some (.int w53.1), none]) 487 o_0_485 rfl rfl rfl (ct_aload_n 488 o_0_487 rfl rfl (ct_aload_n 489 o_0_488 rfl rfl (ct_iload 491 o_0_489 rfl rfl (ct_iconst 492 o_0_491 rfl (ct_iadd 493 o_0_492 rfl (ct_ialoadX E.1 494 o_0_493 rfl rfl rfl (fun j54 => (ct_aload_n 495 o_0_494 rfl rfl (ct_iload 497 o_0_495 rfl rfl (ct_iconst 498 o_0_497 rfl (ct_iadd 499 o_0_498 rfl (ct_ialoadX E.1 500 o_0_499 rfl rfl rfl (fun j55 => (ct_callB (y := 142) (as := [.ref 20, .int (E.1.2 j54), .int (E.1.2 j55)]) (r := []) 503 o_0_500 rfl rfl rfl rfl (c_142 hE (E.1.2 j54) (E.1.2 j55)) (fun w56 => (ct_istore (lo' := [some (.ref 1000), some (.ref 0), some (.ref 20), some (.ref 37), some (.int x4), some (.int w53.1), some (.int w56.1)]) 505 o_0_503 rfl rfl rfl (ct_aload_n 506 o_0_505 rfl rfl (ct_callP (y := 107) (as := [.ref 20]) (r := []) 509 o_0_506 rfl rfl rfl rfl (c_107 hE ) (fun w57 => (ct_iload 511 o_0_509 rfl rfl (ct_icmpeq 514 o_0_511 rfl (fun _ => (ct_iload 518 o_0_516 rfl rfl (ct_ifne 521 o_0_518 rfl (fun _ => (ct_goto o_0_533 (ct_iinc (lo' := [some (.ref 1000), some (.ref 0), some (.ref 20), some (.ref 37), some (.int (x4 + (5 : Int32))), some (.int w53.1), some (.int w56.1)]) 986 o_0_983 rfl rfl rfl rfl (ct_goto o_0_986 (ct_forget (lo := [some (.ref 1000), some (.ref 0), some (.ref 20), some (.ref 37), some (.int (x4 + (5 : Int32))), none, none]) ⟨rfl, ⟨rfl, ⟨rfl, ⟨rfl, ⟨rfl, ⟨rfl, ⟨rfl, trivial⟩⟩⟩⟩⟩⟩⟩ (ct_cnt (Nat.add_assoc nc c w53.2.1) (cnt6 ns c w53.2.1) (ih (x4 + (5 : Int32)) w56.2 w53.2.2.2 (c + w53.2.1)))))))) (fun _ => (ct_aload_n 522 o_0_521 rfl rfl (ct_iconst 523 o_0_522 rfl (ct_laload0 (n := 0) (w53.2.2.2 37 0) 524 o_0_523 rfl rfl rfl (ct_iload 526 o_0_524 rfl rfl (ct_i2l 527 o_0_526 rfl (ct_lcmp 528 o_0_527 rfl (ct_ifeq 531 o_0_528 rfl (fun _ => (ct_goto o_0_533 (ct_iinc (lo' := [some (.ref 1000), some (.ref 0), some (.ref 20), some (.ref 37), some (.int (x4 + (5 : Int32))), some (.int w53.1), some (.int w56.1)]) 986 o_0_983 rfl rfl rfl rfl (ct_goto o_0_986 (ct_forget (lo := [some (.ref 1000), some (.ref 0), some (.ref 20), some (.ref 37), some (.int (x4 + (5 : Int32))), none, none]) ⟨rfl, ⟨rfl, ⟨rfl, ⟨rfl, ⟨rfl, ⟨rfl, ⟨rfl, trivial⟩⟩⟩⟩⟩⟩⟩ (ct_cnt (Nat.add_assoc nc c w53.2.1) (cnt6 ns c w53.2.1) (ih (x4 + (5 : Int32)) w56.2 w53.2.2.2 (c + w53.2.1)))))))) (fun _ => (ct_iconst 532 o_0_531 rfl (ct_retWn (c := (c + w53.2.1)) o_0_532 rfl rfl (Nat.add_assoc nc c w53.2.1) (cnt6 ns c w53.2.1))))))))))))))) (fun _ => (ct_iconst 515 o_0_514 rfl (ct_retWn (c := (c + w53.2.1)) o_0_515 rfl rfl (Nat.add_assoc nc c w53.2.1) (cnt6 ns c w53.2.1))))))))))))))))))))))))))))))))))))))))))) (fun h6 => (ct_case (v := 7) (fun h7 => ct_sw o_0_39 rfl rfl (by rw [h7]; rfl) (ct_aload_n 537 o_0_536 rfl rfl (ct_aload_n 538 o_0_537 rfl rfl (ct_iload 540 o_0_538 rfl rfl (ct_iconst 541 o_0_540 rfl (ct_iadd 542 o_0_541 rfl (ct_ialoadX E.1 543 o_0_542 rfl rfl rfl (fun j44 => (ct_aload_n 544 o_0_543 rfl rfl (ct_iload 546 o_0_544 rfl rfl (ct_iconst 547 o_0_546 rfl (ct_iadd 548 o_0_547 rfl (ct_ialoadX E.1 549 o_0_548 rfl rfl rfl (fun j45 => (ct_aload_n 550 o_0_549 rfl rfl (ct_callW (y := 8) (as := [.ref 0, .int (E.1.2 j44), .int (E.1.2 j45), .ref 37]) (r := []) 553 o_0_550 rfl rfl rfl rfl (c_8 hE (E.1.2 j44) (E.1.2 j45)) (fun w46 => (ct_istore (lo' := [some (.ref 1000), some (.ref 0), some (.ref 20), some (.ref 37), some (.int x4), some (.int w46.1), none]) 555 o_0_553 rfl rfl rfl (ct_aload_n 556 o_0_555 rfl rfl (ct_aload_n 557 o_0_556 rfl rfl (ct_iload 559 o_0_557 rfl rfl (ct_iconst 560 o_0_559 rfl (ct_iadd 561 o_0_560 rfl (ct_ialoadX E.1 562 o_0_561 rfl rfl rfl (fun j47 => (ct_aload_n 563 o_0_562 rfl rfl (ct_iload 565 o_0_563 rfl rfl (ct_iconst 566 o_0_565 rfl (ct_iadd 567 o_0_566 rfl (ct_ialoadX E.1 568 o_0_567 rfl rfl rfl (fun j48 => (ct_callB (y := 143) (as := [.ref 20, .int (E.1.2 j47), .int (E.1.2 j48)]) (r := []) 571 o_0_568 rfl rfl rfl rfl (c_143 hE (E.1.2 j47) (E.1.2 j48)) (fun w49 => (ct_istore (lo' := [some (.ref 1000), some (.ref 0), some (.ref 20), some (.ref 37), some (.int x4), some (.int w46.1), some (.int w49.1)]) 573 o_0_571 rfl rfl rfl (ct_aload_n 574 o_0_573 rfl rfl (ct_callP (y := 107) (as := [.ref 20]) (r := []) 577 o_0_574 rfl rfl rfl rfl (c_107 hE ) (fun w50 => (ct_iload 579 o_0_577 rfl rfl (ct_icmpeq 582 o_0_579 rfl (fun _ => (ct_iload 586 o_0_584 rfl rfl (ct_ifne 589 o_0_586 rfl (fun _ => (ct_goto o_0_601 (ct_iinc (lo' := [some (.ref 1000), some (.ref 0), some (.ref 20), some (.ref 37), some (.int (x4 + (5 : Int32))), some (.int w46.1), some (.int w49.1)]) 986 o_0_983 rfl rfl rfl rfl (ct_goto o_0_986 (ct_forget (lo := [some (.ref 1000), some (.ref 0), some (.ref 20), some (.ref 37), some (.int (x4 + (5 : Int32))), none, none]) ⟨rfl, ⟨rfl, ⟨rfl, ⟨rfl, ⟨rfl, ⟨rfl, ⟨rfl, trivial⟩⟩⟩⟩⟩⟩⟩ (ct_cnt (Nat.add_assoc nc c w46.2.1) (cnt6 ns c w46.2.1) (ih (x4 + (5 : Int32)) w49.2 w46.2.2.2 (c + w46.2.1)))))))) (fun _ => (ct_aload_n 590 o_0_589 rfl rfl (ct_iconst 591 o_0_590 rfl (ct_laload0 (n := 0) (w46.2.2.2 37 0) 592 o_0_591 rfl rfl rfl (ct_iload 594 o_0_592 rfl rfl (ct_i2l 595 o_0_594 rfl (ct_lcmp 596 o_0_595 rfl (ct_ifeq 599 o_0_596 rfl (fun _ => (ct_goto o_0_601 (ct_iinc (lo' := [some (.ref 1000), some (.ref 0), some (.ref 20), some (.ref 37), some (.int (x4 + (5 : Int32))), some (.int w46.1), some (.int w49.1)]) 986 o_0_983 rfl rfl rfl rfl (ct_goto o_0_986 (ct_forget (lo := [some (.ref 1000), some (.ref 0), some (.ref 20), some (.ref 37), some (.int (x4 + (5 : Int32))), none, none]) ⟨rfl, ⟨rfl, ⟨rfl, ⟨rfl, ⟨rfl, ⟨rfl, ⟨rfl, trivial⟩⟩⟩⟩⟩⟩⟩ (ct_cnt (Nat.add_assoc nc c w46.2.1) (cnt6 ns c w46.2.1) (ih (x4 + (5 : Int32)) w49.2 w46.2.2.2 (c + w46.2.1)))))))) (fun _ => (ct_iconst 600 o_0_599 rfl (ct_retWn (c := (c + w46.2.1)) o_0_600 rfl rfl (Nat.add_assoc nc c w46.2.1) (cnt6 ns c w46.2.1))))))))))))))) (fun _ => (ct_iconst 583 o_0_582 rfl (ct_retWn (c := (c + w46.2.1)) o_0_583 rfl rfl (Nat.add_assoc nc c w46.2.1) (cnt6 ns c w46.2.1))))))))))))))))))))))))))))))))))))))))))) (fun h7 => (ct_case (v := 8) (fun h8 => ct_sw o_0_39 rfl rfl (by rw [h8]; rfl) (ct_aload_n 605 o_0_604 rfl rfl (ct_aload_n 606 o_0_605 rfl rfl (ct_callW (y := 9) (as := [.ref 0, .ref 37]) (r := []) 609 o_0_606 rfl rfl rfl rfl (c_9 hE ) (fun w41 => (ct_istore (lo' := [some (.ref 1000), some (.ref 0), some (.ref 20), some (.ref 37), some (.int x4), some (.int w41.1), none]) 611 o_0_609 rfl rfl rfl (ct_aload_n 612 o_0_611 rfl rfl (ct_callB (y := 144) (as := [.ref 20]) (r := []) 615 o_0_612 rfl rfl rfl rfl (c_144 hE ) (fun w42 => (ct_istore (lo' := [some (.ref 1000), some (.ref 0), some (.ref 20), some (.ref 37), some (.int x4), some (.int w41.1), some (.int w42.1)]) 617 o_0_615 rfl rfl rfl (ct_aload_n 618 o_0_617 rfl rfl (ct_callP (y := 107) (as := [.ref 20]) (r := []) 621 o_0_618 rfl rfl rfl rfl (c_107 hE ) (fun w43 => (ct_iload 623 o_0_621 rfl rfl (ct_icmpeq 626 o_0_623 rfl (fun _ => (ct_iload 630 o_0_628 rfl rfl (ct_ifne 633 o_0_630 rfl (fun _ => (ct_goto o_0_645 (ct_iinc (lo' := [some (.ref 1000), some (.ref 0), some (.ref 20), some (.ref 37), some (.int (x4 + (5 : Int32))), some (.int w41.1), some (.int w42.1)]) 986 o_0_983 rfl rfl rfl rfl (ct_goto o_0_986 (ct_forget (lo := [some (.ref 1000), some (.ref 0), some (.ref 20), some (.ref 37), some (.int (x4 + (5 : Int32))), none, none]) ⟨rfl, ⟨rfl, ⟨rfl, ⟨rfl, ⟨rfl, ⟨rfl, ⟨rfl, trivial⟩⟩⟩⟩⟩⟩⟩ (ct_cnt (Nat.add_assoc nc c w41.2.1) (cnt6 ns c w41.2.1) (ih (x4 + (5 : Int32)) w42.2 w41.2.2.2 (c + w41.2.1)))))))) (fun _ => (ct_aload_n 634 o_0_633 rfl rfl (ct_iconst 635 o_0_634 rfl (ct_laload0 (n := 0) (w41.2.2.2 37 0) 636 o_0_635 rfl rfl rfl (ct_iload 638 o_0_636 rfl rfl (ct_i2l 639 o_0_638 rfl (ct_lcmp 640 o_0_639 rfl (ct_ifeq 643 o_0_640 rfl (fun _ => (ct_goto o_0_645 (ct_iinc (lo' := [some (.ref 1000), some (.ref 0), some (.ref 20), some (.ref 37), some (.int (x4 + (5 : Int32))), some (.int w41.1), some (.int w42.1)]) 986 o_0_983 rfl rfl rfl rfl (ct_goto o_0_986 (ct_forget (lo := [some (.ref 1000), some (.ref 0), some (.ref 20), some (.ref 37), some (.int (x4 + (5 : Int32))), none, none]) ⟨rfl, ⟨rfl, ⟨rfl, ⟨rfl, ⟨rfl, ⟨rfl, ⟨rfl, trivial⟩⟩⟩⟩⟩⟩⟩ (ct_cnt (Nat.add_assoc nc c w41.2.1) (cnt6 ns c w41.2.1) (ih (x4 + (5 : Int32)) w42.2 w41.2.2.2 (c + w41.2.1)))))))) (fun _ => (ct_iconst 644 o_0_643 rfl (ct_retWn (c := (c + w41.2.1)) o_0_644 rfl rfl (Nat.add_assoc nc c w41.2.1) (cnt6 ns c w41.2.1))))))))))))))) (fun _ => (ct_iconst 627 o_0_626 rfl (ct_retWn (c := (c + w41.2.1)) o_0_627 rfl rfl (Nat.add_assoc nc c w41.2.1) (cnt6 ns c w41.2.1))))))))))))))))))) (fun h8 => (ct_case (v := 9) (fun h9 => ct_sw o_0_39 rfl rfl (by rw [h9]; rfl) (ct_aload_n 649 o_0_648 rfl rfl (ct_callP (y := 22) (as := [.ref 0]) (r := []) 652 o_0_649 rfl rfl rfl rfl (c_22 hE ) (fun w39 => (ct_aload_n 653 o_0_652 rfl rfl (ct_callB (y := 147) (as := [.ref 20]) (r := [.int w39]) 656 o_0_653 rfl rfl rfl rfl (c_147 hE ) (fun w40 => (ct_icmpeq 659 o_0_656 rfl (fun _ => (ct_iinc (lo' := [some (.ref 1000), some (.ref 0), some (.ref 20), some (.ref 37), some (.int (x4 + (5 : Int32))), none, none]) 986 o_0_983 rfl rfl rfl rfl (ct_goto o_0_986 (ih (x4 + (5 : Int32)) w40.2 LG c)))) (fun _ => (ct_iconst 660 o_0_659 rfl (ct_retWn (c := c) o_0_660 rfl rfl rfl rfl))))))))))) (fun h9 => (ct_case (v := 10) (fun h10 => ct_sw o_0_39 rfl rfl (by rw [h10]; rfl) (ct_aload_n 662 o_0_661 rfl rfl (ct_aload_n 663 o_0_662 rfl rfl (ct_iload 665 o_0_663 rfl rfl (ct_iconst 666 o_0_665 rfl (ct_iadd 667 o_0_666 rfl (ct_ialoadX E.1 668 o_0_667 rfl rfl rfl (fun j26 => (ct_ifeq 671 o_0_668 rfl (fun _ => (ct_iconst 676 o_0_675 rfl (ct_aload_n 677 o_0_676 rfl rfl (ct_callW (y := 10) (as := [.ref 0, .int (0 : Int32), .ref 37]) (r := []) 680 o_0_677 rfl rfl rfl rfl (c_10 hE (0 : Int32)) (fun w27 => (ct_istore (lo' := [some (.ref 1000), some (.ref 0), some (.ref 20), some (.ref 37), some (.int x4), some (.int w27.1), none]) 682 o_0_680 rfl rfl rfl (ct_aload_n 683 o_0_682 rfl rfl (ct_aload_n 684 o_0_683 rfl rfl (ct_iload 686 o_0_684 rfl rfl (ct_iconst 687 o_0_686 rfl (ct_iadd 688 o_0_687 rfl (ct_ialoadX E.1 689 o_0_688 rfl rfl rfl (fun j28 => (ct_ifeq 692 o_0_689 rfl (fun _ => (ct_iconst 697 o_0_696 rfl (ct_callB (y := 148) (as := [.ref 20, .int (0 : Int32)]) (r := []) 700 o_0_697 rfl rfl rfl rfl (c_148 hE (0 : Int32)) (fun w29 => (ct_istore (lo' := [some (.ref 1000), some (.ref 0), some (.ref 20), some (.ref 37), some (.int x4), some (.int w27.1), some (.int w29.1)]) 702 o_0_700 rfl rfl rfl (ct_aload_n 703 o_0_702 rfl rfl (ct_callP (y := 107) (as := [.ref 20]) (r := []) 706 o_0_703 rfl rfl rfl rfl (c_107 hE ) (fun w30 => (ct_iload 708 o_0_706 rfl rfl (ct_icmpeq 711 o_0_708 rfl (fun _ => (ct_iload 715 o_0_713 rfl rfl (ct_ifne 718 o_0_715 rfl (fun _ => (ct_goto o_0_730 (ct_iinc (lo' := [some (.ref 1000), some (.ref 0), some (.ref 20), some (.ref 37), some (.int (x4 + (5 : Int32))), some (.int w27.1), some (.int w29.1)]) 986 o_0_983 rfl rfl rfl rfl (ct_goto o_0_986 (ct_forget (lo := [some (.ref 1000), some (.ref 0), some (.ref 20), some (.ref 37), some (.int (x4 + (5 : Int32))), none, none]) ⟨rfl, ⟨rfl, ⟨rfl, ⟨rfl, ⟨rfl, ⟨rfl, ⟨rfl, trivial⟩⟩⟩⟩⟩⟩⟩ (ct_cnt (Nat.add_assoc nc c w27.2.1) (cnt6 ns c w27.2.1) (ih (x4 + (5 : Int32)) w29.2 w27.2.2.2 (c + w27.2.1)))))))) (fun _ => (ct_aload_n 719 o_0_718 rfl rfl (ct_iconst 720 o_0_719 rfl (ct_laload0 (n := 0) (w27.2.2.2 37 0) 721 o_0_720 rfl rfl rfl (ct_iload 723 o_0_721 rfl rfl (ct_i2l 724 o_0_723 rfl (ct_lcmp 725 o_0_724 rfl (ct_ifeq 728 o_0_725 rfl (fun _ => (ct_goto o_0_730 (ct_iinc (lo' := [some (.ref 1000), some (.ref 0), some (.ref 20), some (.ref 37), some (.int (x4 + (5 : Int32))), some (.int w27.1), some (.int w29.1)]) 986 o_0_983 rfl rfl rfl rfl (ct_goto o_0_986 (ct_forget (lo := [some (.ref 1000), some (.ref 0), some (.ref 20), some (.ref 37), some (.int (x4 + (5 : Int32))), none, none]) ⟨rfl, ⟨rfl, ⟨rfl, ⟨rfl, ⟨rfl, ⟨rfl, ⟨rfl, trivial⟩⟩⟩⟩⟩⟩⟩ (ct_cnt (Nat.add_assoc nc c w27.2.1) (cnt6 ns c w27.2.1) (ih (x4 + (5 : Int32)) w29.2 w27.2.2.2 (c + w27.2.1)))))))) (fun _ => (ct_iconst 729 o_0_728 rfl (ct_retWn (c := (c + w27.2.1)) o_0_729 rfl rfl (Nat.add_assoc nc c w27.2.1) (cnt6 ns c w27.2.1))))))))))))))) (fun _ => (ct_iconst 712 o_0_711 rfl (ct_retWn (c := (c + w27.2.1)) o_0_712 rfl rfl (Nat.add_assoc nc c w27.2.1) (cnt6 ns c w27.2.1)))))))))))))) (fun _ => (ct_iconst 693 o_0_692 rfl (ct_goto o_0_693 (ct_callB (y := 148) (as := [.ref 20, .int (1 : Int32)]) (r := []) 700 o_0_697 rfl rfl rfl rfl (c_148 hE (1 : Int32)) (fun w31 => (ct_istore (lo' := [some (.ref 1000), some (.ref 0), some (.ref 20), some (.ref 37), some (.int x4), some (.int w27.1), some (.int w31.1)]) 702 o_0_700 rfl rfl rfl (ct_aload_n 703 o_0_702 rfl rfl (ct_callP (y := 107) (as := [.ref 20]) (r := []) 706 o_0_703 rfl rfl rfl rfl (c_107 hE ) (fun w32 => (ct_iload 708 o_0_706 rfl rfl (ct_icmpeq 711 o_0_708 rfl (fun _ => (ct_iload 715 o_0_713 rfl rfl (ct_ifne 718 o_0_715 rfl (fun _ => (ct_goto o_0_730 (ct_iinc (lo' := [some (.ref 1000), some (.ref 0), some (.ref 20), some (.ref 37), some (.int (x4 + (5 : Int32))), some (.int w27.1), some (.int w31.1)]) 986 o_0_983 rfl rfl rfl rfl (ct_goto o_0_986 (ct_forget (lo := [some (.ref 1000), some (.ref 0), some (.ref 20), some (.ref 37), some (.int (x4 + (5 : Int32))), none, none]) ⟨rfl, ⟨rfl, ⟨rfl, ⟨rfl, ⟨rfl, ⟨rfl, ⟨rfl, trivial⟩⟩⟩⟩⟩⟩⟩ (ct_cnt (Nat.add_assoc nc c w27.2.1) (cnt6 ns c w27.2.1) (ih (x4 + (5 : Int32)) w31.2 w27.2.2.2 (c + w27.2.1)))))))) (fun _ => (ct_aload_n 719 o_0_718 rfl rfl (ct_iconst 720 o_0_719 rfl (ct_laload0 (n := 0) (w27.2.2.2 37 0) 721 o_0_720 rfl rfl rfl (ct_iload 723 o_0_721 rfl rfl (ct_i2l 724 o_0_723 rfl (ct_lcmp 725 o_0_724 rfl (ct_ifeq 728 o_0_725 rfl (fun _ => (ct_goto o_0_730 (ct_iinc (lo' := [some (.ref 1000), some (.ref 0), some (.ref 20), some (.ref 37), some (.int (x4 + (5 : Int32))), some (.int w27.1), some (.int w31.1)]) 986 o_0_983 rfl rfl rfl rfl (ct_goto o_0_986 (ct_forget (lo := [some (.ref 1000), some (.ref 0), some (.ref 20), some (.ref 37), some (.int (x4 + (5 : Int32))), none, none]) ⟨rfl, ⟨rfl, ⟨rfl, ⟨rfl, ⟨rfl, ⟨rfl, ⟨rfl, trivial⟩⟩⟩⟩⟩⟩⟩ (ct_cnt (Nat.add_assoc nc c w27.2.1) (cnt6 ns c w27.2.1) (ih (x4 + (5 : Int32)) w31.2 w27.2.2.2 (c + w27.2.1)))))))) (fun _ => (ct_iconst 729 o_0_728 rfl (ct_retWn (c := (c + w27.2.1)) o_0_729 rfl rfl (Nat.add_assoc nc c w27.2.1) (cnt6 ns c w27.2.1))))))))))))))) (fun _ => (ct_iconst 712 o_0_711 rfl (ct_retWn (c := (c + w27.2.1)) o_0_712 rfl rfl (Nat.add_assoc nc c w27.2.1) (cnt6 ns c w27.2.1))))))))))))))))))))))))))))) (fun _ => (ct_iconst 672 o_0_671 rfl (ct_goto o_0_672 (ct_aload_n 677 o_0_676 rfl rfl (ct_callW (y := 10) (as := [.ref 0, .int (1 : Int32), .ref 37]) (r := []) 680 o_0_677 rfl rfl rfl rfl (c_10 hE (1 : Int32)) (fun w33 => (ct_istore (lo' := [some (.ref 1000), some (.ref 0), some (.ref 20), some (.ref 37), some (.int x4), some (.int w33.1), none]) 682 o_0_680 rfl rfl rfl (ct_aload_n 683 o_0_682 rfl rfl (ct_aload_n 684 o_0_683 rfl rfl (ct_iload 686 o_0_684 rfl rfl (ct_iconst 687 o_0_686 rfl (ct_iadd 688 o_0_687 rfl (ct_ialoadX E.1 689 o_0_688 rfl rfl rfl (fun j34 => (ct_ifeq 692 o_0_689 rfl (fun _ => (ct_iconst 697 o_0_696 rfl (ct_callB (y := 148) (as := [.ref 20, .int (0 : Int32)]) (r := []) 700 o_0_697 rfl rfl rfl rfl (c_148 hE (0 : Int32)) (fun w35 => (ct_istore (lo' := [some (.ref 1000), some (.ref 0), some (.ref 20), some (.ref 37), some (.int x4), some (.int w33.1), some (.int w35.1)]) 702 o_0_700 rfl rfl rfl (ct_aload_n 703 o_0_702 rfl rfl (ct_callP (y := 107) (as := [.ref 20]) (r := []) 706 o_0_703 rfl rfl rfl rfl (c_107 hE ) (fun w36 => (ct_iload 708 o_0_706 rfl rfl (ct_icmpeq 711 o_0_708 rfl (fun _ => (ct_iload 715 o_0_713 rfl rfl (ct_ifne 718 o_0_715 rfl (fun _ => (ct_goto o_0_730 (ct_iinc (lo' := [some (.ref 1000), some (.ref 0), some (.ref 20), some (.ref 37), some (.int (x4 + (5 : Int32))), some (.int w33.1), some (.int w35.1)]) 986 o_0_983 rfl rfl rfl rfl (ct_goto o_0_986 (ct_forget (lo := [some (.ref 1000), some (.ref 0), some (.ref 20), some (.ref 37), some (.int (x4 + (5 : Int32))), none, none]) ⟨rfl, ⟨rfl, ⟨rfl, ⟨rfl, ⟨rfl, ⟨rfl, ⟨rfl, trivial⟩⟩⟩⟩⟩⟩⟩ (ct_cnt (Nat.add_assoc nc c w33.2.1) (cnt6 ns c w33.2.1) (ih (x4 + (5 : Int32)) w35.2 w33.2.2.2 (c + w33.2.1)))))))) (fun _ => (ct_aload_n 719 o_0_718 rfl rfl (ct_iconst 720 o_0_719 rfl (ct_laload0 (n := 0) (w33.2.2.2 37 0) 721 o_0_720 rfl rfl rfl (ct_iload 723 o_0_721 rfl rfl (ct_i2l 724 o_0_723 rfl (ct_lcmp 725 o_0_724 rfl (ct_ifeq 728 o_0_725 rfl (fun _ => (ct_goto o_0_730 (ct_iinc (lo' := [some (.ref 1000), some (.ref 0), some (.ref 20), some (.ref 37), some (.int (x4 + (5 : Int32))), some (.int w33.1), some (.int w35.1)]) 986 o_0_983 rfl rfl rfl rfl (ct_goto o_0_986 (ct_forget (lo := [some (.ref 1000), some (.ref 0), some (.ref 20), some (.ref 37), some (.int (x4 + (5 : Int32))), none, none]) ⟨rfl, ⟨rfl, ⟨rfl, ⟨rfl, ⟨rfl, ⟨rfl, ⟨rfl, trivial⟩⟩⟩⟩⟩⟩⟩ (ct_cnt (Nat.add_assoc nc c w33.2.1) (cnt6 ns c w33.2.1) (ih (x4 + (5 : Int32)) w35.2 w33.2.2.2 (c + w33.2.1)))))))) (fun _ => (ct_iconst 729 o_0_728 rfl (ct_retWn (c := (c + w33.2.1)) o_0_729 rfl rfl (Nat.add_assoc nc c w33.2.1) (cnt6 ns c w33.2.1))))))))))))))) (fun _ => (ct_iconst 712 o_0_711 rfl (ct_retWn (c := (c + w33.2.1)) o_0_712 rfl rfl (Nat.add_assoc nc c w33.2.1) (cnt6 ns c w33.2.1)))))))))))))) (fun _ => (ct_iconst 693 o_0_692 rfl (ct_goto o_0_693 (ct_callB (y := 148) (as := [.ref 20, .int (1 : Int32)]) (r := []) 700 o_0_697 rfl rfl rfl rfl (c_148 hE (1 : Int32)) (fun w37 => (ct_istore (lo' := [some (.ref 1000), some (.ref 0), some (.ref 20), some (.ref 37), some (.int x4), some (.int w33.1), some (.int w37.1)]) 702 o_0_700 rfl rfl rfl (ct_aload_n 703 o_0_702 rfl rfl (ct_callP (y := 107) (as := [.ref 20]) (r := []) 706 o_0_703 rfl rfl rfl rfl (c_107 hE ) (fun w38 => (ct_iload 708 o_0_706 rfl rfl (ct_icmpeq 711 o_0_708 rfl (fun _ => (ct_iload 715 o_0_713 rfl rfl (ct_ifne 718 o_0_715 rfl (fun _ => (ct_goto o_0_730 (ct_iinc (lo' := [some (.ref 1000), some (.ref 0), some (.ref 20), some (.ref 37), some (.int (x4 + (5 : Int32))), some (.int w33.1), some (.int w37.1)]) 986 o_0_983 rfl rfl rfl rfl (ct_goto o_0_986 (ct_forget (lo := [some (.ref 1000), some (.ref 0), some (.ref 20), some (.ref 37), some (.int (x4 + (5 : Int32))), none, none]) ⟨rfl, ⟨rfl, ⟨rfl, ⟨rfl, ⟨rfl, ⟨rfl, ⟨rfl, trivial⟩⟩⟩⟩⟩⟩⟩ (ct_cnt (Nat.add_assoc nc c w33.2.1) (cnt6 ns c w33.2.1) (ih (x4 + (5 : Int32)) w37.2 w33.2.2.2 (c + w33.2.1)))))))) (fun _ => (ct_aload_n 719 o_0_718 rfl rfl (ct_iconst 720 o_0_719 rfl (ct_laload0 (n := 0) (w33.2.2.2 37 0) 721 o_0_720 rfl rfl rfl (ct_iload 723 o_0_721 rfl rfl (ct_i2l 724 o_0_723 rfl (ct_lcmp 725 o_0_724 rfl (ct_ifeq 728 o_0_725 rfl (fun _ => (ct_goto o_0_730 (ct_iinc (lo' := [some (.ref 1000), some (.ref 0), some (.ref 20), some (.ref 37), some (.int (x4 + (5 : Int32))), some (.int w33.1), some (.int w37.1)]) 986 o_0_983 rfl rfl rfl rfl (ct_goto o_0_986 (ct_forget (lo := [some (.ref 1000), some (.ref 0), some (.ref 20), some (.ref 37), some (.int (x4 + (5 : Int32))), none, none]) ⟨rfl, ⟨rfl, ⟨rfl, ⟨rfl, ⟨rfl, ⟨rfl, ⟨rfl, trivial⟩⟩⟩⟩⟩⟩⟩ (ct_cnt (Nat.add_assoc nc c w33.2.1) (cnt6 ns c w33.2.1) (ih (x4 + (5 : Int32)) w37.2 w33.2.2.2 (c + w33.2.1)))))))) (fun _ => (ct_iconst 729 o_0_728 rfl (ct_retWn (c := (c + w33.2.1)) o_0_729 rfl rfl (Nat.add_assoc nc c w33.2.1) (cnt6 ns c w33.2.1))))))))))))))) (fun _ => (ct_iconst 712 o_0_711 rfl (ct_retWn (c := (c + w33.2.1)) o_0_712 rfl rfl (Nat.add_assoc nc c w33.2.1) (cnt6 ns c w33.2.1))))))))))))))))))))))))))))))))))))))) (fun h10 => (ct_case (v := 11) (fun h11 => ct_sw o_0_39 rfl rfl (by rw [h11]; rfl) (ct_aload_n 734 o_0_733 rfl rfl (ct_aload_n 735 o_0_734 rfl rfl (ct_iload 737 o_0_735 rfl rfl (ct_iconst 738 o_0_737 rfl (ct_iadd 739 o_0_738 rfl (ct_ialoadX E.1 740 o_0_739 rfl rfl rfl (fun j21 => (ct_aload_n 741 o_0_740 rfl rfl (ct_callW (y := 11) (as := [.ref 0, .int (E.1.2 j21), .ref 37]) (r := []) 744 o_0_741 rfl rfl rfl rfl (c_11 hE (E.1.2 j21)) (fun w22 => (ct_istore (lo' := [some (.ref 1000), some (.ref 0), some (.ref 20), some (.ref 37), some (.int x4), some (.int w22.1), none]) 746 o_0_744 rfl rfl rfl (ct_aload_n 747 o_0_746 rfl rfl (ct_aload_n 748 o_0_747 rfl rfl (ct_iload 750 o_0_748 rfl rfl (ct_iconst 751 o_0_750 rfl (ct_iadd 752 o_0_751 rfl (ct_ialoadX E.1 753 o_0_752 rfl rfl rfl (fun j23 => (ct_callB (y := 153) (as := [.ref 20, .int (E.1.2 j23)]) (r := []) 756 o_0_753 rfl rfl rfl rfl (c_153 hE (E.1.2 j23)) (fun w24 => (ct_istore (lo' := [some (.ref 1000), some (.ref 0), some (.ref 20), some (.ref 37), some (.int x4), some (.int w22.1), some (.int w24.1)]) 758 o_0_756 rfl rfl rfl (ct_aload_n 759 o_0_758 rfl rfl (ct_callP (y := 107) (as := [.ref 20]) (r := []) 762 o_0_759 rfl rfl rfl rfl (c_107 hE ) (fun w25 => (ct_iload 764 o_0_762 rfl rfl (ct_icmpeq 767 o_0_764 rfl (fun _ => (ct_iload 771 o_0_769 rfl rfl (ct_ifne 774 o_0_771 rfl (fun _ => (ct_goto o_0_786 (ct_iinc (lo' := [some (.ref 1000), some (.ref 0), some (.ref 20), some (.ref 37), some (.int (x4 + (5 : Int32))), some (.int w22.1), some (.int w24.1)]) 986 o_0_983 rfl rfl rfl rfl (ct_goto o_0_986 (ct_forget (lo := [some (.ref 1000), some (.ref 0), some (.ref 20), some (.ref 37), some (.int (x4 + (5 : Int32))), none, none]) ⟨rfl, ⟨rfl, ⟨rfl, ⟨rfl, ⟨rfl, ⟨rfl, ⟨rfl, trivial⟩⟩⟩⟩⟩⟩⟩ (ct_cnt (Nat.add_assoc nc c w22.2.1) (cnt6 ns c w22.2.1) (ih (x4 + (5 : Int32)) w24.2 w22.2.2.2 (c + w22.2.1)))))))) (fun _ => (ct_aload_n 775 o_0_774 rfl rfl (ct_iconst 776 o_0_775 rfl (ct_laload0 (n := 0) (w22.2.2.2 37 0) 777 o_0_776 rfl rfl rfl (ct_iload 779 o_0_777 rfl rfl (ct_i2l 780 o_0_779 rfl (ct_lcmp 781 o_0_780 rfl (ct_ifeq 784 o_0_781 rfl (fun _ => (ct_goto o_0_786 (ct_iinc (lo' := [some (.ref 1000), some (.ref 0), some (.ref 20), some (.ref 37), some (.int (x4 + (5 : Int32))), some (.int w22.1), some (.int w24.1)]) 986 o_0_983 rfl rfl rfl rfl (ct_goto o_0_986 (ct_forget (lo := [some (.ref 1000), some (.ref 0), some (.ref 20), some (.ref 37), some (.int (x4 + (5 : Int32))), none, none]) ⟨rfl, ⟨rfl, ⟨rfl, ⟨rfl, ⟨rfl, ⟨rfl, ⟨rfl, trivial⟩⟩⟩⟩⟩⟩⟩ (ct_cnt (Nat.add_assoc nc c w22.2.1) (cnt6 ns c w22.2.1) (ih (x4 + (5 : Int32)) w24.2 w22.2.2.2 (c + w22.2.1)))))))) (fun _ => (ct_iconst 785 o_0_784 rfl (ct_retWn (c := (c + w22.2.1)) o_0_785 rfl rfl (Nat.add_assoc nc c w22.2.1) (cnt6 ns c w22.2.1))))))))))))))) (fun _ => (ct_iconst 768 o_0_767 rfl (ct_retWn (c := (c + w22.2.1)) o_0_768 rfl rfl (Nat.add_assoc nc c w22.2.1) (cnt6 ns c w22.2.1))))))))))))))))))))))))))))))) (fun h11 => (ct_case (v := 12) (fun h12 => ct_sw o_0_39 rfl rfl (by rw [h12]; rfl) (ct_aload_n 790 o_0_789 rfl rfl (ct_aload_n 791 o_0_790 rfl rfl (ct_iload 793 o_0_791 rfl rfl (ct_iconst 794 o_0_793 rfl (ct_iadd 795 o_0_794 rfl (ct_ialoadX E.1 796 o_0_795 rfl rfl rfl (fun j16 => (ct_aload_n 797 o_0_796 rfl rfl (ct_callW (y := 12) (as := [.ref 0, .int (E.1.2 j16), .ref 37]) (r := []) 800 o_0_797 rfl rfl rfl rfl (c_12 hE (E.1.2 j16)) (fun w17 => (ct_istore (lo' := [some (.ref 1000), some (.ref 0), some (.ref 20), some (.ref 37), some (.int x4), some (.int w17.1), none]) 802 o_0_800 rfl rfl rfl (ct_aload_n 803 o_0_802 rfl rfl (ct_aload_n 804 o_0_803 rfl rfl (ct_iload 806 o_0_804 rfl rfl (ct_iconst 807 o_0_806 rfl (ct_iadd 808 o_0_807 rfl (ct_ialoadX E.1 809 o_0_808 rfl rfl rfl (fun j18 => (ct_callB (y := 154) (as := [.ref 20, .int (E.1.2 j18)]) (r := []) 812 o_0_809 rfl rfl rfl rfl (c_154 hE (E.1.2 j18)) (fun w19 => (ct_istore (lo' := [some (.ref 1000), some (.ref 0), some (.ref 20), some (.ref 37), some (.int x4), some (.int w17.1), some (.int w19.1)]) 814 o_0_812 rfl rfl rfl (ct_aload_n 815 o_0_814 rfl rfl (ct_callP (y := 107) (as := [.ref 20]) (r := []) 818 o_0_815 rfl rfl rfl rfl (c_107 hE ) (fun w20 => (ct_iload 820 o_0_818 rfl rfl (ct_icmpeq 823 o_0_820 rfl (fun _ => (ct_iload 827 o_0_825 rfl rfl (ct_ifne 830 o_0_827 rfl (fun _ => (ct_goto o_0_842 (ct_iinc (lo' := [some (.ref 1000), some (.ref 0), some (.ref 20), some (.ref 37), some (.int (x4 + (5 : Int32))), some (.int w17.1), some (.int w19.1)]) 986 o_0_983 rfl rfl rfl rfl (ct_goto o_0_986 (ct_forget (lo := [some (.ref 1000), some (.ref 0), some (.ref 20), some (.ref 37), some (.int (x4 + (5 : Int32))), none, none]) ⟨rfl, ⟨rfl, ⟨rfl, ⟨rfl, ⟨rfl, ⟨rfl, ⟨rfl, trivial⟩⟩⟩⟩⟩⟩⟩ (ct_cnt (Nat.add_assoc nc c w17.2.1) (cnt6 ns c w17.2.1) (ih (x4 + (5 : Int32)) w19.2 w17.2.2.2 (c + w17.2.1)))))))) (fun _ => (ct_aload_n 831 o_0_830 rfl rfl (ct_iconst 832 o_0_831 rfl (ct_laload0 (n := 0) (w17.2.2.2 37 0) 833 o_0_832 rfl rfl rfl (ct_iload 835 o_0_833 rfl rfl (ct_i2l 836 o_0_835 rfl (ct_lcmp 837 o_0_836 rfl (ct_ifeq 840 o_0_837 rfl (fun _ => (ct_goto o_0_842 (ct_iinc (lo' := [some (.ref 1000), some (.ref 0), some (.ref 20), some (.ref 37), some (.int (x4 + (5 : Int32))), some (.int w17.1), some (.int w19.1)]) 986 o_0_983 rfl rfl rfl rfl (ct_goto o_0_986 (ct_forget (lo := [some (.ref 1000), some (.ref 0), some (.ref 20), some (.ref 37), some (.int (x4 + (5 : Int32))), none, none]) ⟨rfl, ⟨rfl, ⟨rfl, ⟨rfl, ⟨rfl, ⟨rfl, ⟨rfl, trivial⟩⟩⟩⟩⟩⟩⟩ (ct_cnt (Nat.add_assoc nc c w17.2.1) (cnt6 ns c w17.2.1) (ih (x4 + (5 : Int32)) w19.2 w17.2.2.2 (c + w17.2.1)))))))) (fun _ => (ct_iconst 841 o_0_840 rfl (ct_retWn (c := (c + w17.2.1)) o_0_841 rfl rfl (Nat.add_assoc nc c w17.2.1) (cnt6 ns c w17.2.1))))))))))))))) (fun _ => (ct_iconst 824 o_0_823 rfl (ct_retWn (c := (c + w17.2.1)) o_0_824 rfl rfl (Nat.add_assoc nc c w17.2.1) (cnt6 ns c w17.2.1))))))))))))))))))))))))))))))) (fun h12 => (ct_case (v := 13) (fun h13 => ct_sw o_0_39 rfl rfl (by rw [h13]; rfl) (ct_aload_n 846 o_0_845 rfl rfl (ct_aload_n 847 o_0_846 rfl rfl (ct_callW (y := 13) (as := [.ref 0, .ref 37]) (r := []) 850 o_0_847 rfl rfl rfl rfl (c_13 hE ) (fun w13 => (ct_istore (lo' := [some (.ref 1000), some (.ref 0), some (.ref 20), some (.ref 37), some (.int x4), some (.int w13.1), none]) 852 o_0_850 rfl rfl rfl (ct_aload_n 853 o_0_852 rfl rfl (ct_callB (y := 155) (as := [.ref 20]) (r := []) 856 o_0_853 rfl rfl rfl rfl (c_155 hE ) (fun w14 => (ct_istore (lo' := [some (.ref 1000), some (.ref 0), some (.ref 20), some (.ref 37), some (.int x4), some (.int w13.1), some (.int w14.1)]) 858 o_0_856 rfl rfl rfl (ct_aload_n 859 o_0_858 rfl rfl (ct_callP (y := 107) (as := [.ref 20]) (r := []) 862 o_0_859 rfl rfl rfl rfl (c_107 hE ) (fun w15 => (ct_iload 864 o_0_862 rfl rfl (ct_icmpeq 867 o_0_864 rfl (fun _ => (ct_iload 871 o_0_869 rfl rfl (ct_ifne 874 o_0_871 rfl (fun _ => (ct_goto o_0_886 (ct_iinc (lo' := [some (.ref 1000), some (.ref 0), some (.ref 20), some (.ref 37), some (.int (x4 + (5 : Int32))), some (.int w13.1), some (.int w14.1)]) 986 o_0_983 rfl rfl rfl rfl (ct_goto o_0_986 (ct_forget (lo := [some (.ref 1000), some (.ref 0), some (.ref 20), some (.ref 37), some (.int (x4 + (5 : Int32))), none, none]) ⟨rfl, ⟨rfl, ⟨rfl, ⟨rfl, ⟨rfl, ⟨rfl, ⟨rfl, trivial⟩⟩⟩⟩⟩⟩⟩ (ct_cnt (Nat.add_assoc nc c w13.2.1) (cnt6 ns c w13.2.1) (ih (x4 + (5 : Int32)) w14.2 w13.2.2.2 (c + w13.2.1)))))))) (fun _ => (ct_aload_n 875 o_0_874 rfl rfl (ct_iconst 876 o_0_875 rfl (ct_laload0 (n := 0) (w13.2.2.2 37 0) 877 o_0_876 rfl rfl rfl (ct_iload 879 o_0_877 rfl rfl (ct_i2l 880 o_0_879 rfl (ct_lcmp 881 o_0_880 rfl (ct_ifeq 884 o_0_881 rfl (fun _ => (ct_goto o_0_886 (ct_iinc (lo' := [some (.ref 1000), some (.ref 0), some (.ref 20), some (.ref 37), some (.int (x4 + (5 : Int32))), some (.int w13.1), some (.int w14.1)]) 986 o_0_983 rfl rfl rfl rfl (ct_goto o_0_986 (ct_forget (lo := [some (.ref 1000), some (.ref 0), some (.ref 20), some (.ref 37), some (.int (x4 + (5 : Int32))), none, none]) ⟨rfl, ⟨rfl, ⟨rfl, ⟨rfl, ⟨rfl, ⟨rfl, ⟨rfl, trivial⟩⟩⟩⟩⟩⟩⟩ (ct_cnt (Nat.add_assoc nc c w13.2.1) (cnt6 ns c w13.2.1) (ih (x4 + (5 : Int32)) w14.2 w13.2.2.2 (c + w13.2.1)))))))) (fun _ => (ct_iconst 885 o_0_884 rfl (ct_retWn (c := (c + w13.2.1)) o_0_885 rfl rfl (Nat.add_assoc nc c w13.2.1) (cnt6 ns c w13.2.1))))))))))))))) (fun _ => (ct_iconst 868 o_0_867 rfl (ct_retWn (c := (c + w13.2.1)) o_0_868 rfl rfl (Nat.add_assoc nc c w13.2.1) (cnt6 ns c w13.2.1))))))))))))))))))) (fun h13 => (ct_case (v := 14) (fun h14 => ct_sw o_0_39 rfl rfl (by rw [h14]; rfl) (ct_aload_n 890 o_0_889 rfl rfl (ct_aload_n 891 o_0_890 rfl rfl (ct_iload 893 o_0_891 rfl rfl (ct_iconst 894 o_0_893 rfl (ct_iadd 895 o_0_894 rfl (ct_ialoadX E.1 896 o_0_895 rfl rfl rfl (fun j8 => (ct_aload_n 897 o_0_896 rfl rfl (ct_callW (y := 14) (as := [.ref 0, .int (E.1.2 j8), .ref 37]) (r := []) 900 o_0_897 rfl rfl rfl rfl (c_14 hE (E.1.2 j8)) (fun w9 => (ct_istore (lo' := [some (.ref 1000), some (.ref 0), some (.ref 20), some (.ref 37), some (.int x4), some (.int w9.1), none]) 902 o_0_900 rfl rfl rfl (ct_aload_n 903 o_0_902 rfl rfl (ct_aload_n 904 o_0_903 rfl rfl (ct_iload 906 o_0_904 rfl rfl (ct_iconst 907 o_0_906 rfl (ct_iadd 908 o_0_907 rfl (ct_ialoadX E.1 909 o_0_908 rfl rfl rfl (fun j10 => (ct_callB (y := 161) (as := [.ref 20, .int (E.1.2 j10)]) (r := []) 912 o_0_909 rfl rfl rfl rfl (c_161 hE (E.1.2 j10)) (fun w11 => (ct_istore (lo' := [some (.ref 1000), some (.ref 0), some (.ref 20), some (.ref 37), some (.int x4), some (.int w9.1), some (.int w11.1)]) 914 o_0_912 rfl rfl rfl (ct_aload_n 915 o_0_914 rfl rfl (ct_callP (y := 107) (as := [.ref 20]) (r := []) 918 o_0_915 rfl rfl rfl rfl (c_107 hE ) (fun w12 => (ct_iload 920 o_0_918 rfl rfl (ct_icmpeq 923 o_0_920 rfl (fun _ => (ct_iload 927 o_0_925 rfl rfl (ct_ifne 930 o_0_927 rfl (fun _ => (ct_goto o_0_942 (ct_iinc (lo' := [some (.ref 1000), some (.ref 0), some (.ref 20), some (.ref 37), some (.int (x4 + (5 : Int32))), some (.int w9.1), some (.int w11.1)]) 986 o_0_983 rfl rfl rfl rfl (ct_goto o_0_986 (ct_forget (lo := [some (.ref 1000), some (.ref 0), some (.ref 20), some (.ref 37), some (.int (x4 + (5 : Int32))), none, none]) ⟨rfl, ⟨rfl, ⟨rfl, ⟨rfl, ⟨rfl, ⟨rfl, ⟨rfl, trivial⟩⟩⟩⟩⟩⟩⟩ (ct_cnt (Nat.add_assoc nc c w9.2.1) (cnt6 ns c w9.2.1) (ih (x4 + (5 : Int32)) w11.2 w9.2.2.2 (c + w9.2.1)))))))) (fun _ => (ct_aload_n 931 o_0_930 rfl rfl (ct_iconst 932 o_0_931 rfl (ct_laload0 (n := 0) (w9.2.2.2 37 0) 933 o_0_932 rfl rfl rfl (ct_iload 935 o_0_933 rfl rfl (ct_i2l 936 o_0_935 rfl (ct_lcmp 937 o_0_936 rfl (ct_ifeq 940 o_0_937 rfl (fun _ => (ct_goto o_0_942 (ct_iinc (lo' := [some (.ref 1000), some (.ref 0), some (.ref 20), some (.ref 37), some (.int (x4 + (5 : Int32))), some (.int w9.1), some (.int w11.1)]) 986 o_0_983 rfl rfl rfl rfl (ct_goto o_0_986 (ct_forget (lo := [some (.ref 1000), some (.ref 0), some (.ref 20), some (.ref 37), some (.int (x4 + (5 : Int32))), none, none]) ⟨rfl, ⟨rfl, ⟨rfl, ⟨rfl, ⟨rfl, ⟨rfl, ⟨rfl, trivial⟩⟩⟩⟩⟩⟩⟩ (ct_cnt (Nat.add_assoc nc c w9.2.1) (cnt6 ns c w9.2.1) (ih (x4 + (5 : Int32)) w11.2 w9.2.2.2 (c + w9.2.1)))))))) (fun _ => (ct_iconst 941 o_0_940 rfl (ct_retWn (c := (c + w9.2.1)) o_0_941 rfl rfl (Nat.add_assoc nc c w9.2.1) (cnt6 ns c w9.2.1))))))))))))))) (fun _ => (ct_iconst 924 o_0_923 rfl (ct_retWn (c := (c + w9.2.1)) o_0_924 rfl rfl (Nat.add_assoc nc c w9.2.1) (cnt6 ns c w9.2.1))))))))))))))))))))))))))))))) (fun h14 => (ct_case (v := 15) (fun h15 => ct_sw o_0_39 rfl rfl (by rw [h15]; rfl) (ct_aload_n 946 o_0_945 rfl rfl (ct_callB (y := 23) (as := [.ref 0]) (r := []) 949 o_0_946 rfl rfl rfl rfl (c_23 hE ) (fun w6 => (ct_aload_n 950 o_0_949 rfl rfl (ct_callB (y := 162) (as := [.ref 20]) (r := [.int w6.1]) 953 o_0_950 rfl rfl rfl rfl (c_162 hE ) (fun w7 => (ct_icmpeq 956 o_0_953 rfl (fun _ => (ct_iinc (lo' := [some (.ref 1000), some (.ref 0), some (.ref 20), some (.ref 37), some (.int (x4 + (5 : Int32))), none, none]) 986 o_0_983 rfl rfl rfl rfl (ct_goto o_0_986 (ih (x4 + (5 : Int32)) w7.2 LG c)))) (fun _ => (ct_iconst 957 o_0_956 rfl (ct_retWn (c := c) o_0_957 rfl rfl rfl rfl))))))))))) (fun h15 => (ct_case (v := 16) (fun h16 => ct_sw o_0_39 rfl rfl (by rw [h16]; rfl) (ct_aload_n 959 o_0_958 rfl rfl (ct_aload_n 960 o_0_959 rfl rfl (ct_iload 962 o_0_960 rfl rfl (ct_iconst 963 o_0_962 rfl (ct_iadd 964 o_0_963 rfl (ct_ialoadX E.1 965 o_0_964 rfl rfl rfl (fun j2 => (ct_callP (y := 25) (as := [.ref 0, .int (E.1.2 j2)]) (r := []) 968 o_0_965 rfl rfl rfl rfl (c_25 hE (E.1.2 j2)) (fun w3 => (ct_aload_n 969 o_0_968 rfl rfl (ct_aload_n 970 o_0_969 rfl rfl (ct_iload 972 o_0_970 rfl rfl (ct_iconst 973 o_0_972 rfl (ct_iadd 974 o_0_973 rfl (ct_ialoadX E.1 975 o_0_974 rfl rfl rfl (fun j4 => (ct_callB (y := 163) (as := [.ref 20, .int (E.1.2 j4)]) (r := [.int w3]) 978 o_0_975 rfl rfl rfl rfl (c_163 hE (E.1.2 j4)) (fun w5 => (ct_icmpeq 981 o_0_978 rfl (fun _ => (ct_iinc (lo' := [some (.ref 1000), some (.ref 0), some (.ref 20), some (.ref 37), some (.int (x4 + (5 : Int32))), none, none]) 986 o_0_983 rfl rfl rfl rfl (ct_goto o_0_986 (ih (x4 + (5 : Int32)) w5.2 LG c)))) (fun _ => (ct_iconst 982 o_0_981 rfl (ct_retWn (c := c) o_0_982 rfl rfl rfl rfl))))))))))))))))))))))) (fun h16 => (ct_swd (q := (.tableswitch (944) (0) (16) #[81, 173, 229, 273, 329, 385, 429, 497, 565, 609, 622, 694, 750, 806, 850, 906, 919], 0, 0, 0, 0, .null)) o_0_39 (sw_out16 h0 h1 h2 h3 h4 h5 h6 h7 h8 h9 h10 h11 h12 h13 h14 h15 h16) (by decide) rfl (ct_iinc (lo' := [some (.ref 1000), some (.ref 0), some (.ref 20), some (.ref 37), some (.int (x4 + (5 : Int32))), none, none]) 986 o_0_983 rfl rfl rfl rfl (ct_goto o_0_986 (ih (x4 + (5 : Int32)) I LG c)))))))))))))))))))))))))))))))))))))))))))))))))))
end MMU
