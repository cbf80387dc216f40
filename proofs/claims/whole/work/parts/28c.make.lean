/-! THE PAIR make, 3: rows and terms as lists, and the pair (written by wip/whole/gen/make3_part.py). -/
section MMAD
abbrev Rw : Type := Int32 × Int32 × Int32 × Int32
abbrev Tw : Type := Int32 × Int32 × Int32
def rwC (l : List Rw) (I : Mem) : Prop := I 4 1 = nI l.length ∧ ∀ k, k < l.length → (I 5 k, I 6 k, I 7 k, I 8 k) = l.getD k (0, 0, 0, 0)
def rwM (l : List Rw) (M : Mem) : Prop := M 20 7 = nI l.length ∧ ∀ k, k < l.length → (M 22 k, M 23 k, M 24 k, M 25 k) = l.getD k (0, 0, 0, 0)
def rtC (l : List Tw) (I : Mem) : Prop := I 4 2 = nI l.length ∧ ∀ k, k < l.length → (I 9 k, I 10 k, I 11 k) = l.getD k (0, 0, 0)
def rtM (l : List Tw) (M : Mem) : Prop := M 20 8 = nI l.length ∧ ∀ k, k < l.length → (M 26 k, M 27 k, M 28 k) = l.getD k (0, 0, 0)
theorem getD_l {α : Type} {l : List α} {x d : α} {k : Nat} (h : k < l.length) : (l ++ [x]).getD k d = l.getD k d := by
  rw [List.getD_eq_getElem?_getD, List.getElem?_append_left h, List.getD_eq_getElem?_getD]
theorem getD_r {α : Type} {l : List α} {x d : α} : (l ++ [x]).getD l.length d = x := by
  rw [List.getD_eq_getElem?_getD, List.getElem?_append_right (Nat.le_refl _), Nat.sub_self]
  rfl
theorem len_1 {α : Type} {l : List α} {x : α} : (l ++ [x]).length = l.length + 1 := by rw [List.length_append, List.length_singleton]
theorem addC {l : List Rw} {I : Mem} {q p v : Int32} (h : rwC l I) (hl : l.length < 24) : ∃ J, g_56 q p v I = some J ∧ rwC (l ++ [(I 4 0 - 1, q, p, v)]) J ∧ (∀ b, b < 4 ∨ 8 < b → J b = I b) ∧ ∀ b, b ≠ 1 → J 4 b = I 4 b := by
  obtain ⟨h1, h2⟩ := h
  refine ⟨mm_up (mm_up (mm_up (mm_up (mm_up I 5 l.length (I 4 0 - 1)) 6 l.length q) 7 l.length p) 8 l.length v) 4 1 (I 4 1 + 1), ?_, ⟨?_, ?_⟩, ?_, ?_⟩
  · unfold g_56
    rw [h1, if_neg (k_ge (b := 24) (by rfl) (by rfl) hl (by omega))]
    unfold g_57
    rw [ix_nI hl (by omega), ix_nI hl (by omega), ix_nI hl (by omega), ix_nI hl (by omega)]
    show some (mm_up _ 4 1 (I 4 1 + 1)) = _
    rw [h1]
  · show I 4 1 + 1 = _
    rw [h1, nI_1, len_1]
  · intro k hk
    rw [len_1] at hk
    show (mm_up I 5 l.length (I 4 0 - 1) 5 k, mm_up I 6 l.length q 6 k, mm_up I 7 l.length p 7 k, mm_up I 8 l.length v 8 k) = _
    by_cases c : k = l.length
    · rw [c, up_same, up_same, up_same, up_same, getD_r]
    · rw [up_other c, up_other c, up_other c, up_other c, getD_l (by omega)]
      exact h2 k (by omega)
  · intro b hb
    rw [mm_up_ne (by omega), mm_up_ne (by omega), mm_up_ne (by omega), mm_up_ne (by omega), mm_up_ne (by omega)]
  · intro b hb
    rw [up_other hb]
    rfl
theorem addM {l : List Rw} {M : Mem} {o q p v : Int32} (h : rwM l M) (hl : l.length < 48) : ∃ J, g_129 o q p v M = some J ∧ rwM (l ++ [(o, q, p, v)]) J ∧ (∀ b, b < 20 ∨ b = 21 ∨ 25 < b → J b = M b) ∧ ∀ b, b ≠ 7 → J 20 b = M 20 b := by
  obtain ⟨h1, h2⟩ := h
  refine ⟨mm_up (mm_up (mm_up (mm_up (mm_up M 22 l.length o) 23 l.length q) 24 l.length p) 25 l.length v) 20 7 (M 20 7 + 1), ?_, ⟨?_, ?_⟩, ?_, ?_⟩
  · unfold g_129
    rw [h1, ix_nI hl (by omega), ix_nI hl (by omega), ix_nI hl (by omega), ix_nI hl (by omega)]
  · show M 20 7 + 1 = _
    rw [h1, nI_1, len_1]
  · intro k hk
    rw [len_1] at hk
    show (mm_up M 22 l.length o 22 k, mm_up M 23 l.length q 23 k, mm_up M 24 l.length p 24 k, mm_up M 25 l.length v 25 k) = _
    by_cases c : k = l.length
    · rw [c, up_same, up_same, up_same, up_same, getD_r]
    · rw [up_other c, up_other c, up_other c, up_other c, getD_l (by omega)]
      exact h2 k (by omega)
  · intro b hb
    rw [mm_up_ne (by omega), mm_up_ne (by omega), mm_up_ne (by omega), mm_up_ne (by omega), mm_up_ne (by omega)]
  · intro b hb
    rw [up_other hb]
    rfl
theorem adtC {l : List Tw} {I : Mem} {x y z : Int32} (h : rtC l I) (hl : l.length < 16) : ∃ J, g_65 x y z I = some J ∧ rtC (l ++ [(x, y, z)]) J ∧ (∀ b, b ≠ 4 → b < 9 ∨ 11 < b → J b = I b) ∧ ∀ b, b ≠ 2 → J 4 b = I 4 b := by
  obtain ⟨h1, h2⟩ := h
  refine ⟨mm_up (mm_up (mm_up (mm_up I 9 l.length x) 10 l.length y) 11 l.length z) 4 2 (I 4 2 + 1), ?_, ⟨?_, ?_⟩, ?_, ?_⟩
  · unfold g_65
    rw [h1, if_neg (k_ge (b := 16) (by rfl) (by rfl) hl (by omega)), ix_nI hl (by omega), ix_nI hl (by omega), ix_nI hl (by omega)]
  · show I 4 2 + 1 = _
    rw [h1, nI_1, len_1]
  · intro k hk
    rw [len_1] at hk
    show (mm_up I 9 l.length x 9 k, mm_up I 10 l.length y 10 k, mm_up I 11 l.length z 11 k) = _
    by_cases c : k = l.length
    · rw [c, up_same, up_same, up_same, getD_r]
    · rw [up_other c, up_other c, up_other c, getD_l (by omega)]
      exact h2 k (by omega)
  · intro b hb hb2
    rw [mm_up_ne hb, mm_up_ne (by omega), mm_up_ne (by omega), mm_up_ne (by omega)]
  · intro b hb
    rw [up_other hb]
    rfl
theorem adtM {l : List Tw} {M : Mem} {x y z : Int32} (h : rtM l M) : rtM (l ++ [(x, y, z)]) (mm_up (mm_up (mm_up (mm_up M 26 l.length x) 27 l.length y) 28 l.length z) 20 8 (M 20 8 + 1)) := by
  obtain ⟨h1, h2⟩ := h
  refine ⟨?_, ?_⟩
  · show M 20 8 + 1 = _
    rw [h1, nI_1, len_1]
  · intro k hk
    rw [len_1] at hk
    show (mm_up M 26 l.length x 26 k, mm_up M 27 l.length y 27 k, mm_up M 28 l.length z 28 k) = _
    by_cases c : k = l.length
    · rw [c, up_same, up_same, up_same, getD_r]
    · rw [up_other c, up_other c, up_other c, getD_l (by omega)]
      exact h2 k (by omega)
/-- registers, actions, terms of the first i events -/
def rRg (K : Nat → Nat) : Nat → Nat
  | 0 => 0
  | i + 1 => if K i ≤ 2 then 0 else rRg K i + (if a2 (K i) = 0 then 0 else 1)
theorem rg_le (K : Nat → Nat) (i : Nat) : rRg K i ≤ i := by
  induction i with
  | zero => exact Nat.le_refl _
  | succ i ih =>
    show (if K i ≤ 2 then 0 else rRg K i + (if a2 (K i) = 0 then 0 else 1)) ≤ i + 1
    split
    · omega
    · split <;> omega
def evR (K : Nat → Nat) (P : Nat) (val : Nat → Nat) (i : Nat) : Rw := (nI (rTh K i), a2 (K i), nI (rPl K P i), if a2 (K i) = 0 then nI (val i) else nI (rRg K i))
def acts (K : Nat → Nat) (P : Nat) (val : Nat → Nat) : Nat → List Rw
  | 0 => []
  | i + 1 => if K i ≤ 6 then acts K P val i ++ [evR K P val i] else (acts K P val i ++ [evR K P val i]) ++ [(nI (rTh K i), 2, -1, -1)]
def trms (K : Nat → Nat) (val : Nat → Nat) : Nat → List Tw
  | 0 => []
  | i + 1 => if a2 (K i) = 0 then trms K val i else trms K val i ++ [(nI (rTh K i), nI (rRg K i), nI (val i))]
theorem acts_len (K : Nat → Nat) (P : Nat) (val : Nat → Nat) (i : Nat) : (acts K P val i).length ≤ 2 * i := by
  induction i with
  | zero => exact Nat.le_refl _
  | succ i ih =>
    unfold acts
    split
    · rw [len_1]; omega
    · rw [len_1, len_1]; omega
theorem trms_len (K : Nat → Nat) (val : Nat → Nat) (i : Nat) : (trms K val i).length ≤ i := by
  induction i with
  | zero => exact Nat.le_refl _
  | succ i ih =>
    unfold trms
    split
    · omega
    · rw [len_1]; omega
/-- good rows: owners up to o, in order -/
def Gd (o : Nat) (l : List Rw) : Prop := (∀ k, k < l.length → nt (l.getD k (0, 0, 0, 0)).1 ≤ o ∧ (l.getD k (0, 0, 0, 0)).1 = nI (nt (l.getD k (0, 0, 0, 0)).1) ∧ vA (l.getD k (0, 0, 0, 0)).2.1 (l.getD k (0, 0, 0, 0)).2.2.1 (l.getD k (0, 0, 0, 0)).2.2.2) ∧ ∀ k, k + 1 < l.length → nt (l.getD k (0, 0, 0, 0)).1 ≤ nt (l.getD (k + 1) (0, 0, 0, 0)).1
theorem Gd_1 {o o' : Nat} {l : List Rw} {r : Rw} (h : Gd o l) (ho : o ≤ o') (h31 : o' < 2 ^ 31) (h1 : r.1 = nI o') (h2 : vA r.2.1 r.2.2.1 r.2.2.2) : Gd o' (l ++ [r]) := by
  have e : nt r.1 = o' := by rw [h1]; exact nt_nI h31
  constructor
  · intro k hk
    rw [len_1] at hk
    by_cases c : k = l.length
    · rw [c, getD_r, e]; exact ⟨Nat.le_refl _, h1, h2⟩
    · rw [getD_l (by omega)]
      obtain ⟨a, b, c⟩ := h.1 k (by omega)
      exact ⟨by omega, b, c⟩
  · intro k hk
    rw [len_1] at hk
    by_cases c : k + 1 = l.length
    · rw [c, getD_r, getD_l (by omega), e]
      have := (h.1 k (by omega)).1
      omega
    · rw [getD_l (by omega), getD_l (by omega)]
      exact h.2 k (by omega)
theorem acts_good {e : Nat} {K : Nat → Nat} {P : Nat} {val : Nat → Nat} (he : e ≤ 8) (hK : ∀ k, k < e → K k ≤ 10) (hP : 2 ≤ P ∧ P ≤ 4) (hv : ∀ i, i < e → val i ≤ 12) : ∀ i, i ≤ e → Gd (rTh K (i - 1)) (acts K P val i) := by
  intro i
  induction i with
  | zero => intro _; exact ⟨fun k hk => absurd hk (Nat.not_lt_zero k), fun k hk => absurd hk (Nat.not_lt_zero _)⟩
  | succ i ih =>
    intro hi
    have hg := ih (by omega)
    have tl := th_lo K i
    have m := (th_mono K (show i - 1 ≤ i from by omega)).1
    have rl := rg_le K i
    have pm : rPl K P i < P := Nat.mod_lt _ (by omega)
    have v1 : vA (evR K P val i).2.1 (evR K P val i).2.2.1 (evR K P val i).2.2.2 := by
      have := hv i (by omega)
      refine Or.inr ⟨rPl K P i, if a2 (K i) = 0 then val i else rRg K i, by omega, rfl, ?_, ?_⟩
      · show (if a2 (K i) = 0 then nI (val i) else nI (rRg K i)) = _
        split <;> rfl
      · show (a2 (K i) = nI 0 ∧ _) ∨ (a2 (K i) = nI 1 ∧ _)
        rcases a2_01 (K i) (by have := hK i (by omega); omega) with c | c
        · left
          rw [if_pos c]
          exact ⟨c, by omega⟩
        · right
          rw [if_neg (by rw [c]; decide)]
          exact ⟨c, by omega⟩
    have g1 := Gd_1 (r := evR K P val i) hg m (by omega) rfl v1
    show Gd (rTh K i) (acts K P val (i + 1))
    unfold acts
    split
    · exact g1
    · exact Gd_1 (r := (nI (rTh K i), 2, -1, -1)) g1 (Nat.le_refl _) (by omega) rfl (Or.inl ⟨rfl, rfl, rfl⟩)
def Gt (l : List Tw) : Prop := ∀ k, k < l.length → vT (l.getD k (0, 0, 0)).1 (l.getD k (0, 0, 0)).2.1 (l.getD k (0, 0, 0)).2.2
theorem Gt_1 {l : List Tw} {r : Tw} (h : Gt l) (h2 : vT r.1 r.2.1 r.2.2) : Gt (l ++ [r]) := by
  intro k hk
  rw [len_1] at hk
  by_cases c : k = l.length
  · rw [c, getD_r]; exact h2
  · rw [getD_l (by omega)]; exact h k (by omega)
theorem trms_good {e : Nat} {K : Nat → Nat} {val : Nat → Nat} (he : e ≤ 8) (hT : rTh K e ≤ 4) (hl : K (e - 1) ≤ 2) (hv : ∀ i, i < e → val i ≤ 12) : ∀ i, i ≤ e → Gt (trms K val i) := by
  intro i
  induction i with
  | zero => intro _ k hk; exact absurd hk (Nat.not_lt_zero k)
  | succ i ih =>
    intro hi
    have hg := ih (by omega)
    have rl := rg_le K i
    have := hv i (by omega)
    have t1 := (th_mono K (show i ≤ e - 1 from by omega)).1
    have t2 := (th_s1 hl).1
    rw [show e - 1 + 1 = e from by omega] at t2
    unfold trms
    split
    · exact hg
    · exact Gt_1 hg ⟨rRg K i, val i, rfl, rfl, by omega, Or.inr ⟨rTh K i, by omega, rfl, by omega⟩⟩
-- the class's actions
set_option maxHeartbeats 4000000 in
theorem actsC {e P : Nat} {K val : Nat → Nat} {I0 : Mem} (hc : RC e K I0) (he : e ≤ 8) (hl : K (e - 1) ≤ 2) (hT : rTh K e ≤ 4) (hP : 2 ≤ P ∧ P ≤ 4) (h14 : ∀ i, i < e → I0 14 i = nI (val i)) : ∀ (d i n : Nat) (y : Int32) (I : Mem), i + d = e → d < n → (∀ b, b < 4 ∨ 8 < b → I b = I0 b) → (∀ b, b ≠ 0 → b ≠ 1 → I 4 b = I0 4 b) → rwC (acts K P val i) I → (i < e → y = nI (rRg K i) ∧ I 4 0 = nI (rTh K i + 1)) → (i = e → I 4 0 = nI (rTh K e)) → ∃ J, l_78_13 n (nI P) (nI (rPl K P i)) y (nI i) I = some J ∧ (∀ b, b < 4 ∨ 8 < b → J b = I0 b) ∧ (∀ b, b ≠ 0 → b ≠ 1 → J 4 b = I0 4 b) ∧ rwC (acts K P val e) J ∧ J 4 0 = nI (rTh K e) := by
  intro d
  induction d with
  | zero =>
    intro i n y I hi hn i1 i2 i3 i4 i5
    obtain ⟨n, rfl⟩ : ∃ m', n = m' + 1 := ⟨n - 1, by omega⟩
    have hi : i = e := by omega
    subst hi
    refine ⟨I, ?_, i1, i2, i3, i5 rfl⟩
    rw [l_78_13, i1 12 (by omega), hc.2.1, if_pos (nI_le (Nat.le_refl _) (by omega))]
  | succ d ih =>
    intro i n y I hi hn i1 i2 i3 i4 i5
    obtain ⟨n, rfl⟩ : ∃ m', n = m' + 1 := ⟨n - 1, by omega⟩
    have hie : i < e := by omega
    obtain ⟨rfl, t0⟩ := i4 hie
    have k1 := (hc.2.2 i hie).1
    have tl := th_lo K i
    have al := acts_len K P val i
    have pm : rPl K P i < P := Nat.mod_lt _ (by omega)
    have ow : I 4 0 - 1 = nI (rTh K i) := by rw [t0]; exact nI_pred _
    have rcI : ∀ {N : Mem}, (∀ b, b < 4 ∨ 8 < b → N b = I0 b) → RC e K N := fun hN => ⟨hc.1, by rw [hN 12 (by omega)]; exact hc.2.1, fun k hk => by rw [hN 13 (by omega)]; exact hc.2.2 k hk⟩
    have ks : ∀ {N : Mem}, (∀ b, b < 4 ∨ 8 < b → N b = I0 b) → N 13 i = nI (K i) := fun hN => ((rcI hN).2.2 i hie).2
    -- what follows once the event's action is in: fence, thread
    have go : ∀ (N : Mem) (y' : Int32), (∀ b, b < 4 ∨ 8 < b → N b = I0 b) → (∀ b, b ≠ 0 → b ≠ 1 → N 4 b = I0 4 b) → rwC (acts K P val i ++ [evR K P val i]) N → N 4 0 = I 4 0 → y' = nI (rRg K i + (if a2 (K i) = 0 then 0 else 1)) → ∃ J, Option.bind (g_72 (nI i) N) (fun w5 => (if w5 = 0 then (if nI P ≤ (nI (rPl K P i) + (1 : Int32)) then (ix (nI i) 12 (fun j6 => (if (N 13 j6) < (7 : Int32) then (l_78_13 n (nI P) (0 : Int32) y' (nI i + (1 : Int32)) N) else ((g_56 (2 : Int32) (-1 : Int32) (-1 : Int32) N).bind (fun w7 => (l_78_13 n (nI P) (0 : Int32) y' (nI i + (1 : Int32)) w7)))))) else (ix (nI i) 12 (fun j8 => (if (N 13 j8) < (7 : Int32) then (l_78_13 n (nI P) (nI (rPl K P i) + (1 : Int32)) y' (nI i + (1 : Int32)) N) else ((g_56 (2 : Int32) (-1 : Int32) (-1 : Int32) N).bind (fun w9 => (l_78_13 n (nI P) (nI (rPl K P i) + (1 : Int32)) y' (nI i + (1 : Int32)) w9))))))) else (if (N 12 3) ≤ (nI i + (1 : Int32)) then (l_78_13 n (nI P) (nI (rPl K P i)) y' (nI i + (1 : Int32)) N) else (l_78_13 n (nI P) (nI (rPl K P i)) (0 : Int32) (nI i + (1 : Int32)) (mm_up N 4 0 ((N 4 0) + (1 : Int32))))))) = some J ∧ (∀ b, b < 4 ∨ 8 < b → J b = I0 b) ∧ (∀ b, b ≠ 0 → b ≠ 1 → J 4 b = I0 4 b) ∧ rwC (acts K P val e) J ∧ J 4 0 = nI (rTh K e) := by
      intro N y' n1 n2 n3 n4 hy
      have ea : (acts K P val i ++ [evR K P val i]).length = (acts K P val i).length + 1 := len_1
      rw [g72_ok (rcI n1) hie, nI_1, nI_1]
      by_cases c : K i ≤ 2
      · rw [if_pos c]
        try simp only [Option.bind_some, nr0, nr1, s_10, s_n10, s_n00, s_a, s_b, s_c, s_d, s_e, ↓reduceIte]
        have ac : acts K P val (i + 1) = acts K P val i ++ [evR K P val i] := by
          show (if K i ≤ 6 then _ else _) = _
          rw [if_pos (by omega)]
        rw [(rcI n1).2.1, ← pl_s1 (P := P) c]
        by_cases last : i + 1 = e
        · rw [if_pos (nI_le (by omega) (by omega))]
          refine ih (i + 1) n y' N (by omega) (by omega) n1 n2 (by rw [ac]; exact n3) (fun q => by omega) (fun _ => ?_)
          rw [n4, t0, ← last, (th_s1 c).1]
        · rw [if_neg (nI_ge (by omega) (by omega))]
          refine ih (i + 1) n 0 (mm_up N 4 0 (N 4 0 + 1)) (by omega) (by omega) (fun b hb => by rw [mm_up_ne (by omega), n1 b hb]) (fun b b0 b1 => by rw [up_other b0, n2 b b0 b1]) (by rw [ac]; exact n3) (fun q => ⟨?_, ?_⟩) (fun q => by omega)
          · show (0 : Int32) = nI (if K i ≤ 2 then 0 else _)
            rw [if_pos c]
            rfl
          · show N 4 0 + 1 = _
            rw [n4, t0, nI_1, (th_s1 c).1]
      · rw [if_neg c]
        have hle : i + 1 < e := by
          have : i ≠ e - 1 := fun q => c (by rw [q]; exact hl)
          omega
        have yr : y' = nI (rRg K (i + 1)) := by
          rw [hy]
          show _ = nI (if K i ≤ 2 then 0 else _)
          rw [if_neg c]
        have pls : (if P ≤ rPl K P i + 1 then (0 : Int32) else nI (rPl K P i + 1)) = nI (rPl K P (i + 1)) := by
          rw [pl_s0' hP c]
          split <;> rfl
        have fen : ∃ N', (if N 13 i < (7 : Int32) then some N else g_56 2 (-1) (-1) N) = some N' ∧ (∀ b, b < 4 ∨ 8 < b → N' b = I0 b) ∧ (∀ b, b ≠ 0 → b ≠ 1 → N' 4 b = I0 4 b) ∧ rwC (acts K P val (i + 1)) N' ∧ N' 4 0 = I 4 0 := by
          rw [ks n1]
          by_cases w : K i ≤ 6
          · rw [if_pos (k_lt (b := 7) (by rfl) (by rfl) (by omega) (by omega))]
            refine ⟨N, rfl, n1, n2, ?_, n4⟩
            show rwC (if K i ≤ 6 then _ else _) N
            rw [if_pos w]
            exact n3
          · rw [if_neg (k_nlt (b := 7) (by rfl) (by rfl) (by omega) (by omega))]
            obtain ⟨N', m1, m2, m3, m4⟩ := addC (q := 2) (p := -1) (v := -1) n3 (by omega)
            refine ⟨N', m1, fun b hb => by rw [m3 b hb, n1 b hb], fun b b0 b1 => by rw [m4 b b1, n2 b b0 b1], ?_, by rw [m4 0 (by decide), n4]⟩
            show rwC (if K i ≤ 6 then _ else _) N'
            rw [if_neg w]
            rw [n4, ow] at m2
            exact m2
        obtain ⟨N', f1, f2, f3, f4, f5⟩ := fen
        obtain ⟨J, g1, g2⟩ := ih (i + 1) n y' N' (by omega) (by omega) f2 f3 f4 (fun _ => ⟨yr, by rw [f5, t0, (th_s0 c).1]⟩) (fun q => by omega)
        refine ⟨J, ?_, g2⟩
        try simp only [Option.bind_some, nr0, nr1, s_10, s_n10, s_n00, s_a, s_b, s_c, s_d, s_e, ↓reduceIte]
        rw [ix_nI (by omega) (by omega), ix_nI (by omega) (by omega)]
        rw [← pls] at g1
        by_cases w : P ≤ rPl K P i + 1
        · rw [if_pos (nI_le w (by omega))]
          rw [if_pos w] at g1
          by_cases w7 : N 13 i < (7 : Int32)
          · rw [if_pos w7] at f1 ⊢
            injection f1 with f1
            rw [f1]
            exact g1
          · rw [if_neg w7] at f1 ⊢
            rw [f1]
            exact g1
        · rw [if_neg (nI_ge (by omega) (by omega))]
          rw [if_neg w] at g1
          by_cases w7 : N 13 i < (7 : Int32)
          · rw [if_pos w7] at f1 ⊢
            injection f1 with f1
            rw [f1]
            exact g1
          · rw [if_neg w7] at f1 ⊢
            rw [f1]
            exact g1
    rw [l_78_13, (rcI i1).2.1, if_neg (nI_ge hie (by omega)), ix_nI (by omega) (by omega), ks i1, ix_nI (by omega) (by omega)]
    rcases a2_01 (K i) (by omega) with wr | wr
    · rw [if_neg (show ¬ t_A2.getD (K i) 0 = 1 from by rw [show t_A2.getD (K i) 0 = 0 from wr]; decide), ix_nI (by omega) (by omega), i1 14 (by omega), h14 i hie]
      obtain ⟨N, m1, m2, m3, m4⟩ := addC (q := 0) (p := nI (rPl K P i)) (v := nI (val i)) i3 (by omega)
      rw [m1]
      refine go N (nI (rRg K i)) (fun b hb => by rw [m3 b hb, i1 b hb]) (fun b b0 b1 => by rw [m4 b b1, i2 b b0 b1]) ?_ (m4 0 (by decide)) (by rw [if_pos wr]; rfl)
      rw [ow] at m2
      unfold evR
      rw [wr, if_pos rfl]
      exact m2
    · rw [if_pos (show t_A2.getD (K i) 0 = 1 from wr)]
      obtain ⟨N, m1, m2, m3, m4⟩ := addC (q := 1) (p := nI (rPl K P i)) (v := nI (rRg K i)) i3 (by omega)
      rw [m1]
      refine go N (nI (rRg K i) + 1) (fun b hb => by rw [m3 b hb, i1 b hb]) (fun b b0 b1 => by rw [m4 b b1, i2 b b0 b1]) ?_ (m4 0 (by decide)) (by rw [if_neg (by rw [wr]; decide), nI_1])
      rw [ow] at m2
      unfold evR
      rw [wr, if_neg (by decide)]
      exact m2
-- the class's terms of registers
set_option maxHeartbeats 1000000 in
theorem trmsC {e : Nat} {K val : Nat → Nat} {I0 : Mem} (hc : RC e K I0) (he : e ≤ 8) (h14 : ∀ i, i < e → I0 14 i = nI (val i)) : ∀ (d i n : Nat) (I : Mem), i + d = e → d < n → (∀ b, b ≠ 4 → b < 9 ∨ 11 < b → I b = I0 b) → (∀ b, b ≠ 2 → I 4 b = I0 4 b) → rtC (trms K val i) I → ∃ J, l_79_7 n (nI (rTh K i)) (nI (rRg K i)) (nI i) I = some J ∧ (∀ b, b ≠ 4 → b < 9 ∨ 11 < b → J b = I0 b) ∧ (∀ b, b ≠ 2 → J 4 b = I0 4 b) ∧ rtC (trms K val e) J := by
  intro d
  induction d with
  | zero =>
    intro i n I hi hn i1 i2 i3
    obtain ⟨n, rfl⟩ : ∃ m', n = m' + 1 := ⟨n - 1, by omega⟩
    have hi : i = e := by omega
    subst hi
    refine ⟨I, ?_, i1, i2, i3⟩
    rw [l_79_7, i1 12 (by decide) (by omega), hc.2.1, if_pos (nI_le (Nat.le_refl _) (by omega))]
  | succ d ih =>
    intro i n I hi hn i1 i2 i3
    obtain ⟨n, rfl⟩ : ∃ m', n = m' + 1 := ⟨n - 1, by omega⟩
    have hie : i < e := by omega
    have k1 := (hc.2.2 i hie).1
    have tl := trms_len K val i
    have rcI : ∀ {N : Mem}, (∀ b, b ≠ 4 → b < 9 ∨ 11 < b → N b = I0 b) → RC e K N := fun hN => ⟨hc.1, by rw [hN 12 (by decide) (by omega)]; exact hc.2.1, fun k hk => by rw [hN 13 (by decide) (by omega)]; exact hc.2.2 k hk⟩
    rw [l_79_7, (rcI i1).2.1, if_neg (nI_ge hie (by omega)), ix_nI (by omega) (by omega), ((rcI i1).2.2 i hie).2, ix_nI (by omega) (by omega)]
    rcases a2_01 (K i) (by omega) with wr | wr
    · rw [if_neg (show ¬ t_A2.getD (K i) 0 = 1 from by rw [show t_A2.getD (K i) 0 = 0 from wr]; decide), g72_ok (rcI i1) hie, nI_1, nI_1]
      have et : trms K val (i + 1) = trms K val i := by show (if a2 (K i) = 0 then _ else _) = _; rw [if_pos wr]
      by_cases c : K i ≤ 2
      · rw [if_pos c]
        have er : rRg K (i + 1) = 0 := by show (if K i ≤ 2 then 0 else _) = 0; rw [if_pos c]
        have := ih (i + 1) n I (by omega) (by omega) i1 i2 (by rw [et]; exact i3)
        rw [er, (th_s1 c).1] at this
        exact this
      · rw [if_neg c]
        have er : rRg K (i + 1) = rRg K i := by show (if K i ≤ 2 then 0 else rRg K i + (if a2 (K i) = 0 then 0 else 1)) = _; rw [if_neg c, if_pos wr]; rfl
        have := ih (i + 1) n I (by omega) (by omega) i1 i2 (by rw [et]; exact i3)
        rw [er, (th_s0 c).1] at this
        exact this
    · rw [if_pos (show t_A2.getD (K i) 0 = 1 from wr), ix_nI (by omega) (by omega), i1 14 (by decide) (by omega), h14 i hie]
      obtain ⟨N, m1, m2, m3, m4⟩ := adtC (x := nI (rTh K i)) (y := nI (rRg K i)) (z := nI (val i)) i3 (by omega)
      have n1 : ∀ b, b ≠ 4 → b < 9 ∨ 11 < b → N b = I0 b := fun b b1 b2 => by rw [m3 b b1 b2, i1 b b1 b2]
      have wr0 : ¬ a2 (K i) = 0 := by rw [wr]; decide
      have et : trms K val (i + 1) = trms K val i ++ [(nI (rTh K i), nI (rRg K i), nI (val i))] := by show (if a2 (K i) = 0 then _ else _) = _; rw [if_neg wr0]
      rw [m1]
      try simp only [Option.bind_some, nr0, nr1, s_10, s_n10, s_n00, s_a, s_b, s_c, s_d, s_e, ↓reduceIte]
      rw [g72_ok (rcI n1) hie, nI_1, nI_1, nI_1]
      by_cases c : K i ≤ 2
      · rw [if_pos c]
        have er : rRg K (i + 1) = 0 := by show (if K i ≤ 2 then 0 else _) = 0; rw [if_pos c]
        have := ih (i + 1) n N (by omega) (by omega) n1 (fun b hb => by rw [m4 b hb, i2 b hb]) (by rw [et]; exact m2)
        rw [er, (th_s1 c).1] at this
        exact this
      · rw [if_neg c]
        have er : rRg K (i + 1) = rRg K i + 1 := by show (if K i ≤ 2 then 0 else rRg K i + (if a2 (K i) = 0 then 0 else 1)) = _; rw [if_neg c, if_neg wr0]
        have := ih (i + 1) n N (by omega) (by omega) n1 (fun b hb => by rw [m4 b hb, i2 b hb]) (by rw [et]; exact m2)
        rw [er, (th_s0 c).1] at this
        exact this
/-- terms of places -/
def ptr (G : Nat → Nat) (l : List Tw) : Nat → List Tw
  | 0 => l
  | p + 1 => if G p ≤ 1 then ptr G l p else ptr G l p ++ [(-1, nI p, nI (G p))]
theorem ptr_len (G : Nat → Nat) (l : List Tw) (p : Nat) : (ptr G l p).length ≤ l.length + p := by
  induction p with
  | zero => exact Nat.le_refl _
  | succ p ih =>
    unfold ptr
    split
    · omega
    · rw [len_1]; omega
theorem ptr_top {G : Nat → Nat} {l : List Tw} {P : Nat} : ∀ d, (∀ p, P ≤ p → p < P + d → G p = 0) → ptr G l (P + d) = ptr G l P := by
  intro d
  induction d with
  | zero => intro _; rfl
  | succ d ih =>
    intro h
    show (if G (P + d) ≤ 1 then ptr G l (P + d) else _) = _
    rw [if_pos (by rw [h (P + d) (by omega) (by omega)]; omega)]
    exact ih (fun p h1 h2 => h p h1 (by omega))
theorem ptr_good {G : Nat → Nat} {l : List Tw} (h : Gt l) (hG : ∀ p, p < 4 → G p ≤ 12) : ∀ p, p ≤ 4 → Gt (ptr G l p) := by
  intro p
  induction p with
  | zero => intro _; exact h
  | succ p ih =>
    intro hp
    have g := ih (by omega)
    have := hG p (by omega)
    unfold ptr
    split
    · exact g
    · exact Gt_1 g ⟨p, G p, rfl, rfl, by omega, Or.inl ⟨rfl, by omega⟩⟩
theorem ptrC {P : Nat} {G : Nat → Nat} {l : List Tw} {I0 : Mem} (hP : P ≤ 4) (hl : l.length ≤ 8) (hG : ∀ p, p < P → G p ≤ 12 ∧ I0 15 p = nI (G p)) : ∀ (d p n : Nat) (I : Mem), p + d = P → d < n → (∀ b, b ≠ 4 → b < 9 ∨ 11 < b → I b = I0 b) → (∀ b, b ≠ 2 → I 4 b = I0 4 b) → rtC (ptr G l p) I → ∃ J, l_80_2 n (nI P) (nI p) I = some J ∧ (∀ b, b ≠ 4 → b < 9 ∨ 11 < b → J b = I0 b) ∧ (∀ b, b ≠ 2 → J 4 b = I0 4 b) ∧ rtC (ptr G l P) J := by
  intro d
  induction d with
  | zero =>
    intro p n I hp hn i1 i2 i3
    obtain ⟨n, rfl⟩ : ∃ m', n = m' + 1 := ⟨n - 1, by omega⟩
    have hp : p = P := by omega
    subst hp
    refine ⟨I, ?_, i1, i2, i3⟩
    rw [l_80_2, if_pos (nI_le (Nat.le_refl _) (by omega))]
  | succ d ih =>
    intro p n I hp hn i1 i2 i3
    obtain ⟨n, rfl⟩ : ∃ m', n = m' + 1 := ⟨n - 1, by omega⟩
    obtain ⟨g1, g2⟩ := hG p (by omega)
    have pl := ptr_len G l p
    rw [l_80_2, if_neg (nI_ge (by omega) (by omega)), if_neg (k_ge (b := 4) (by rfl) (by rfl) (by omega) (by omega)), ix_nI (by omega) (by omega), i1 15 (by decide) (by omega), g2, ix_nI (by omega) (by omega), g2, nI_1]
    by_cases c : G p ≤ 1
    · rw [if_pos (k_lt (b := 2) (by rfl) (by rfl) (by omega) (by omega))]
      refine ih (p + 1) n I (by omega) (by omega) i1 i2 ?_
      show rtC (if G p ≤ 1 then _ else _) I
      rw [if_pos c]
      exact i3
    · rw [if_neg (k_nlt (b := 2) (by rfl) (by rfl) (by omega) (by omega))]
      obtain ⟨N, m1, m2, m3, m4⟩ := adtC (x := -1) (y := nI p) (z := nI (G p)) i3 (by omega)
      rw [m1]
      refine ih (p + 1) n N (by omega) (by omega) (fun b b1 b2 => by rw [m3 b b1 b2, i1 b b1 b2]) (fun b hb => by rw [m4 b hb, i2 b hb]) ?_
      show rtC (if G p ≤ 1 then _ else _) N
      rw [if_neg c]
      exact m2
/-- the reference: the greatest number written to a place by the first i events -/
def rLW (K : Nat → Nat) (P : Nat) (val : Nat → Nat) (p : Nat) : Nat → Nat
  | 0 => 0
  | i + 1 => if a2 (K i) = 0 ∧ rPl K P i = p ∧ rLW K P val p i < val i then val i else rLW K P val p i
theorem lw_mx {e P : Nat} {K val : Nat → Nat} {p : Nat} : ∀ i, i ≤ e → (∀ j, j < i → a2 (K j) = 0 → rPl K P j = p → val j ≤ rLW K P val p i) ∧ (rLW K P val p i = 0 ∨ ∃ j, j < i ∧ a2 (K j) = 0 ∧ rPl K P j = p ∧ val j = rLW K P val p i) := by
  intro i
  induction i with
  | zero => intro _; exact ⟨fun j hj => absurd hj (Nat.not_lt_zero j), Or.inl rfl⟩
  | succ i ih =>
    intro hi
    obtain ⟨h1, h2⟩ := ih (by omega)
    show (∀ j, j < i + 1 → a2 (K j) = 0 → rPl K P j = p → val j ≤ (if a2 (K i) = 0 ∧ rPl K P i = p ∧ rLW K P val p i < val i then val i else rLW K P val p i)) ∧ ((if a2 (K i) = 0 ∧ rPl K P i = p ∧ rLW K P val p i < val i then val i else rLW K P val p i) = 0 ∨ ∃ j, j < i + 1 ∧ a2 (K j) = 0 ∧ rPl K P j = p ∧ val j = (if a2 (K i) = 0 ∧ rPl K P i = p ∧ rLW K P val p i < val i then val i else rLW K P val p i))
    by_cases c : a2 (K i) = 0 ∧ rPl K P i = p ∧ rLW K P val p i < val i
    · rw [if_pos c]
      refine ⟨fun j hj w q => ?_, Or.inr ⟨i, by omega, c.1, c.2.1, rfl⟩⟩
      by_cases d : j = i
      · rw [d]; exact Nat.le_refl _
      · have := h1 j (by omega) w q; omega
    · rw [if_neg c]
      refine ⟨fun j hj w q => ?_, ?_⟩
      · by_cases d : j = i
        · rw [d] at w q ⊢
          rcases Nat.lt_or_ge (rLW K P val p i) (val i) with k | k
          · exact absurd ⟨w, q, k⟩ c
          · exact k
        · exact h1 j (by omega) w q
      · rcases h2 with k | ⟨j, j1, j2⟩
        · exact Or.inl k
        · exact Or.inr ⟨j, by omega, j2⟩
theorem lw_le {e P : Nat} {K val : Nat → Nat} {p : Nat} (hv : ∀ i, i < e → val i ≤ 12) : rLW K P val p e ≤ 12 := by
  rcases (lw_mx (e := e) (P := P) (K := K) (val := val) (p := p) e (Nat.le_refl _)).2 with k | ⟨j, j1, _, _, j2⟩
  · omega
  · rw [← j2]; exact hv j j1
theorem lw_top {e P : Nat} {K val : Nat → Nat} {p : Nat} (hP : 0 < P) (hp : P ≤ p) : rLW K P val p e = 0 := by
  rcases (lw_mx (e := e) (P := P) (K := K) (val := val) (p := p) e (Nat.le_refl _)).2 with k | ⟨j, _, _, j2, _⟩
  · exact k
  · have : rPl K P j < P := Nat.mod_lt _ hP
    omega
theorem lw_eq {e f P : Nat} {K val : Nat → Nat} {p g : Nat} (hf : f < e) (h : MX e f P e p g K val) : rLW K P val p e = g := by
  obtain ⟨h1, h2⟩ := lw_mx (e := e) (P := P) (K := K) (val := val) (p := p) e (Nat.le_refl _)
  have all : ∀ i, i < e → rps e f i < e := fun i hi => by unfold rps; split <;> omega
  refine MX_uni (e := e) (f := f) (P := P) (j := e) (p := p) (K := K) (val := val) ⟨fun i hi _ w q => h1 i hi w q, ?_⟩ h
  rcases h2 with k | ⟨j, j1, j2, j3, j4⟩
  · exact Or.inl k
  · exact Or.inr ⟨j, j1, all j j1, j2, j3, j4⟩
/-- what the reference keeps while it tells the ring -/
def FT (M0 M : Mem) : Prop := (∀ b, b < 20 ∨ b = 21 ∨ 28 < b → b ≠ 35 → b ≠ 36 → M b = M0 b) ∧ ∀ b, b ≠ 7 → b ≠ 8 → M 20 b = M0 20 b
set_option maxHeartbeats 4000000 in
theorem tellM {e P : Nat} {K val : Nat → Nat} {M0 : Mem} (hm : RM e K M0) (he : e ≤ 8) (hl : K (e - 1) ≤ 2) (hT : rTh K e ≤ 4) (hP : 2 ≤ P ∧ P ≤ 4) (h32 : ∀ i, i < e → M0 32 i = nI (rTh K i) ∧ M0 33 i = nI (rPl K P i) ∧ M0 34 i = nI (val i)) (hv : ∀ i, i < e → val i ≤ 12) : ∀ (d i n : Nat) (M : Mem), i + d = e → d < n → FT M0 M → rwM (acts K P val i) M → rtM (trms K val i) M → (∀ p, p < 4 → M 36 p = nI (rLW K P val p i)) → (i < e → M 35 (rTh K i) = nI (rRg K i) ∧ ∀ t, rTh K i < t → t < 4 → M 35 t = nI 0) → ∃ N, l_141_29 n (nI i) M = l_141_232 5000 0 N ∧ FT M0 N ∧ rwM (acts K P val e) N ∧ rtM (trms K val e) N ∧ (∀ p, p < 4 → N 36 p = nI (rLW K P val p e)) := by
  intro d
  induction d with
  | zero =>
    intro i n M hi hn i1 i2 i3 i4 i5
    obtain ⟨n, rfl⟩ : ∃ m', n = m' + 1 := ⟨n - 1, by omega⟩
    have hi : i = e := by omega
    subst hi
    refine ⟨M, ?_, i1, i2, i3, i4⟩
    rw [l_141_29, i1.2 21 (by decide) (by decide), hm.2.1, if_pos (nI_le (Nat.le_refl _) (by omega))]
  | succ d ih =>
    intro i n M hi hn i1 i2 i3 i4 i5
    obtain ⟨n, rfl⟩ : ∃ m', n = m' + 1 := ⟨n - 1, by omega⟩
    have hie : i < e := by omega
    obtain ⟨r5, r6⟩ := i5 hie
    have k1 := (hm.2.2 i hie).1
    obtain ⟨c32, c33, c34⟩ := h32 i hie
    have hvi := hv i hie
    have tm := (th_mono K (show i ≤ e - 1 from by omega)).1
    have ts := (th_s1 hl).1
    rw [show e - 1 + 1 = e from by omega] at ts
    have th4 : rTh K i < 4 := by omega
    have pm : rPl K P i < P := Nat.mod_lt _ (by omega)
    have al := acts_len K P val i
    have tl := trms_len K val i
    have m29 : ∀ {N : Mem}, FT M0 N → N 29 i = nI (K i) := fun hN => by rw [hN.1 29 (by omega) (by decide) (by decide)]; exact (hm.2.2 i hie).2
    have m32 : ∀ {N : Mem}, FT M0 N → N 32 i = nI (rTh K i) := fun hN => by rw [hN.1 32 (by omega) (by decide) (by decide)]; exact c32
    have m33 : ∀ {N : Mem}, FT M0 N → N 33 i = nI (rPl K P i) := fun hN => by rw [hN.1 33 (by omega) (by decide) (by decide)]; exact c33
    have m34 : ∀ {N : Mem}, FT M0 N → N 34 i = nI (val i) := fun hN => by rw [hN.1 34 (by omega) (by decide) (by decide)]; exact c34
    -- the action, the register, the fence
    have go : ∀ N : Mem, FT M0 N → rwM (acts K P val i) N → rtM (trms K val (i + 1)) N → (∀ p, p < 4 → N 36 p = nI (rLW K P val p (i + 1))) → N 35 = M 35 → ∃ N', j_141_148 (l_141_29 n) (nI i) (a2 (K i)) (nI (rTh K i)) N = l_141_232 5000 0 N' ∧ FT M0 N' ∧ rwM (acts K P val e) N' ∧ rtM (trms K val e) N' ∧ (∀ p, p < 4 → N' 36 p = nI (rLW K P val p e)) := by
      intro N n1 n2 n3 n4 n5
      obtain ⟨A, b1, b2, b3, b4⟩ := addM (o := nI (rTh K i)) (q := a2 (K i)) (p := nI (rPl K P i)) (v := if a2 (K i) = 0 then nI (val i) else nI (rRg K i)) n2 (by omega)
      have fA : FT M0 A := ⟨fun b hb h5 h6 => by rw [b3 b (by omega), n1.1 b hb h5 h6], fun b b7 b8 => by rw [b4 b b7, n1.2 b b7 b8]⟩
      have a35 : A 35 (rTh K i) = nI (rRg K i) := by rw [b3 35 (by omega), n5]; exact r5
      -- the register counts on
      have key : j_141_148 (l_141_29 n) (nI i) (a2 (K i)) (nI (rTh K i)) N = j_141_203 (l_141_29 n) (nI i) (a2 (K i)) (nI (rTh K i)) (nI (rTh K i)) (nI (rRg K i)) (if a2 (K i) = 0 then 0 else 1) A := by
        unfold j_141_148
        rcases a2_01 (K i) (by omega) with wr | wr
        · rw [wr] at b1 ⊢
          rw [if_pos rfl] at b1 ⊢
          unfold j_141_159
          rw [ix_nI (by omega) (by omega), if_pos rfl, ix_nI (by omega) (by omega), m33 n1, m34 n1]
          unfold j_141_184
          rw [b1]
          try simp only [Option.bind_some, nr0, nr1, s_10, s_n10, s_n00, s_a, s_b, s_c, s_d, s_e, ↓reduceIte]
          rw [ix_nI th4 (by omega), a35]
        · rw [wr] at b1 ⊢
          rw [if_neg (by decide)] at b1 ⊢
          unfold j_141_159
          rw [ix_nI (by omega) (by omega), if_neg (by decide), ix_nI th4 (by omega), m33 n1, n5, r5]
          unfold j_141_184
          rw [b1]
          try simp only [Option.bind_some, nr0, nr1, s_10, s_n10, s_n00, s_a, s_b, s_c, s_d, s_e, ↓reduceIte]
          rw [ix_nI th4 (by omega), a35]
      rw [key]
      have er : nI (rRg K i) + (if a2 (K i) = 0 then 0 else 1) = nI (rRg K i + (if a2 (K i) = 0 then 0 else 1)) := by
        split
        · exact nI_add _ 0
        · exact nI_add _ 1
      generalize hB : mm_up A 35 (rTh K i) (nI (rRg K i) + (if a2 (K i) = 0 then 0 else 1)) = B
      have fB : FT M0 B := by
        rw [← hB]
        exact ⟨fun b hb h5 h6 => by rw [mm_up_ne h5, fA.1 b hb h5 h6], fun b b7 b8 => by rw [mm_up_ne (by decide), fA.2 b b7 b8]⟩
      have Bne : ∀ b, b ≠ 35 → B b = A b := fun b hb => by rw [← hB, mm_up_ne hb]
      have wB : rwM (acts K P val i ++ [evR K P val i]) B := ⟨by rw [Bne 20 (by decide)]; exact b2.1, fun k hk => by rw [Bne 22 (by decide), Bne 23 (by decide), Bne 24 (by decide), Bne 25 (by decide)]; exact b2.2 k hk⟩
      have tB : rtM (trms K val (i + 1)) B := ⟨by rw [Bne 20 (by decide), b4 8 (by decide)]; exact n3.1, fun k hk => by rw [Bne 26 (by decide), Bne 27 (by decide), Bne 28 (by decide), b3 26 (by omega), b3 27 (by omega), b3 28 (by omega)]; exact n3.2 k hk⟩
      have pB : ∀ p, p < 4 → B 36 p = nI (rLW K P val p (i + 1)) := fun p hp => by rw [Bne 36 (by decide), b3 36 (by omega)]; exact n4 p hp
      have sB : B 35 (rTh K i) = nI (rRg K i + (if a2 (K i) = 0 then 0 else 1)) := by rw [← hB, up_same, er]
      have oB : ∀ t, t ≠ rTh K i → B 35 t = M 35 t := fun t ht => by rw [← hB, up_other ht, b3 35 (by omega), n5]
      have reg : ∀ N : Mem, N 35 = B 35 → i + 1 < e → N 35 (rTh K (i + 1)) = nI (rRg K (i + 1)) ∧ ∀ t, rTh K (i + 1) < t → t < 4 → N 35 t = nI 0 := by
        intro N hN hlt
        by_cases c : K i ≤ 2
        · rw [(th_s1 c).1, hN, oB _ (by omega)]
          have tm2 := (th_mono K (show i + 1 ≤ e - 1 from by omega)).1
          rw [(th_s1 c).1] at tm2
          refine ⟨?_, fun t h1 h2 => by rw [oB t (by omega)]; exact r6 t (by omega) h2⟩
          rw [r6 (rTh K i + 1) (by omega) (by omega)]
          show _ = nI (if K i ≤ 2 then 0 else _)
          rw [if_pos c]
        · rw [(th_s0 c).1, hN, sB]
          refine ⟨?_, fun t h1 h2 => by rw [oB t (by omega)]; exact r6 t h1 h2⟩
          show _ = nI (if K i ≤ 2 then 0 else _)
          rw [if_neg c]
      unfold j_141_203
      rw [ix_nI th4 (by omega), ix_nI (by omega) (by omega), m29 fA, hB]
      by_cases w : K i ≤ 6
      · rw [if_pos (k_le (b := 6) (by rfl) (by rfl) w (by omega))]
        unfold j_141_224
        rw [nI_1]
        refine ih (i + 1) n B (by omega) (by omega) fB ?_ tB pB (reg B rfl)
        show rwM (if K i ≤ 6 then _ else _) B
        rw [if_pos w]
        exact wB
      · rw [if_neg (k_ge (a := 6) (by rfl) (by rfl) (by omega) (by omega))]
        obtain ⟨C, d1, d2, d3, d4⟩ := addM (o := nI (rTh K i)) (q := 2) (p := -1) (v := -1) wB (by rw [len_1]; omega)
        rw [d1]
        try simp only [Option.bind_some, nr0, nr1, s_10, s_n10, s_n00, s_a, s_b, s_c, s_d, s_e, ↓reduceIte]
        unfold j_141_224
        rw [nI_1]
        refine ih (i + 1) n C (by omega) (by omega) ⟨fun b hb h5 h6 => by rw [d3 b (by omega), fB.1 b hb h5 h6], fun b b7 b8 => by rw [d4 b b7, fB.2 b b7 b8]⟩ ?_ ⟨by rw [d4 8 (by decide)]; exact tB.1, fun k hk => by rw [d3 26 (by omega), d3 27 (by omega), d3 28 (by omega)]; exact tB.2 k hk⟩ (fun p hp => by rw [d3 36 (by omega)]; exact pB p hp) (reg C (d3 35 (by omega)))
        show rwM (if K i ≤ 6 then _ else _) C
        rw [if_neg w]
        exact d2
    rw [l_141_29, i1.2 21 (by decide) (by decide), hm.2.1, if_neg (nI_ge hie (by omega)), ix_nI (by omega) (by omega), m29 i1, g139_ok k1]
    try simp only [Option.bind_some, nr0, nr1, s_10, s_n10, s_n00, s_a, s_b, s_c, s_d, s_e, ↓reduceIte]
    rw [ix_nI (by omega) (by omega), m32 i1]
    rcases a2_01 (K i) (by omega) with wr | wr
    · have et : trms K val (i + 1) = trms K val i := by show (if a2 (K i) = 0 then _ else _) = _; rw [if_pos wr]
      rw [wr] at go ⊢
      rw [if_pos rfl, ix_nI (by omega) (by omega), ix_nI (by omega) (by omega), m33 i1, m34 i1, ix_nI (by omega) (by omega), i4 (rPl K P i) (by omega)]
      have lwl : rLW K P val (rPl K P i) i ≤ 12 := lw_le (fun j hj => hv j (by omega))
      by_cases w : val i ≤ rLW K P val (rPl K P i) i
      · rw [if_pos (nI_le w (by omega))]
        refine go M i1 i2 (by rw [et]; exact i3) (fun p hp => ?_) rfl
        rw [i4 p hp]
        show _ = nI (if a2 (K i) = 0 ∧ rPl K P i = p ∧ rLW K P val p i < val i then _ else _)
        rw [if_neg (fun q => by have q2 := q.2.1; subst q2; omega)]
      · rw [if_neg (nI_ge (by omega) (by omega)), ix_nI (by omega) (by omega), ix_nI (by omega) (by omega), m33 i1, m34 i1, ix_nI (by omega) (by omega)]
        refine go (mm_up M 36 (rPl K P i) (nI (val i))) ⟨fun b hb h5 h6 => by rw [mm_up_ne h6, i1.1 b hb h5 h6], fun b b7 b8 => by rw [mm_up_ne (by decide), i1.2 b b7 b8]⟩ i2 (by rw [et]; exact i3) (fun p hp => ?_) rfl
        show _ = nI (if a2 (K i) = 0 ∧ rPl K P i = p ∧ rLW K P val p i < val i then _ else _)
        by_cases q : p = rPl K P i
        · rw [q, up_same, if_pos ⟨wr, rfl, by omega⟩]
        · rw [up_other q, if_neg (fun k => q k.2.1.symm), i4 p hp]
    · have wr0 : ¬ a2 (K i) = 0 := by rw [wr]; decide
      have et : trms K val (i + 1) = trms K val i ++ [(nI (rTh K i), nI (rRg K i), nI (val i))] := by show (if a2 (K i) = 0 then _ else _) = _; rw [if_neg wr0]
      rw [wr] at go ⊢
      rw [if_neg (by decide), i3.1, ix_nI (by omega) (by omega), ix_nI th4 (by omega), ix_nI (by omega) (by omega), ix_nI (by omega) (by omega), ix_nI (by omega) (by omega), m34 i1, r5]
      have ta := adtM (x := nI (rTh K i)) (y := nI (rRg K i)) (z := nI (val i)) i3
      rw [i3.1] at ta
      refine go _ ⟨fun b hb h5 h6 => by rw [mm_up_ne (by omega), mm_up_ne (by omega), mm_up_ne (by omega), mm_up_ne (by omega), i1.1 b hb h5 h6], fun b b7 b8 => by rw [up_other b8]; exact i1.2 b b7 b8⟩ i2 (by rw [et]; exact ta) (fun p hp => ?_) rfl
      show M 36 p = nI (if a2 (K i) = 0 ∧ _ then _ else _)
      rw [if_neg (fun q => wr0 q.1), i4 p hp]
theorem ptrM {G : Nat → Nat} {l : List Tw} {M0 : Mem} (hl : l.length ≤ 8) (hG : ∀ p, p < 4 → G p ≤ 12 ∧ M0 36 p = nI (G p)) : ∀ (d p n : Nat) (M : Mem), p + d = 4 → d < n → (∀ b, b ≠ 20 → b < 26 ∨ 28 < b → M b = M0 b) → (∀ b, b ≠ 8 → M 20 b = M0 20 b) → rtM (ptr G l p) M → ∃ N, l_141_232 n (nI p) M = some (mm_up N 20 9 (if (ptr G l 4).length = 0 then 0 else 1)) ∧ (∀ b, b ≠ 20 → b < 26 ∨ 28 < b → N b = M0 b) ∧ (∀ b, b ≠ 8 → N 20 b = M0 20 b) ∧ rtM (ptr G l 4) N := by
  intro d
  induction d with
  | zero =>
    intro p n M hp hn i1 i2 i3
    obtain ⟨n, rfl⟩ : ∃ m', n = m' + 1 := ⟨n - 1, by omega⟩
    have hp : p = 4 := by omega
    subst hp
    have pl := ptr_len G l 4
    refine ⟨M, ?_, i1, i2, i3⟩
    rw [l_141_232, if_pos (by decide), i3.1]
    by_cases c : (ptr G l 4).length = 0
    · rw [if_pos (by rw [c]; decide), if_pos c]
    · rw [if_neg (nI_nle (by omega) (by omega)), if_neg c]
  | succ d ih =>
    intro p n M hp hn i1 i2 i3
    obtain ⟨n, rfl⟩ : ∃ m', n = m' + 1 := ⟨n - 1, by omega⟩
    obtain ⟨g1, g2⟩ := hG p (by omega)
    have pl := ptr_len G l p
    have m36 : M 36 p = nI (G p) := by rw [i1 36 (by decide) (by omega)]; exact g2
    rw [l_141_232, if_neg (k_ge (b := 4) (by rfl) (by rfl) (by omega) (by omega)), ix_nI (by omega) (by omega), m36]
    by_cases c : G p ≤ 1
    · rw [if_pos (k_le (b := 1) (by rfl) (by rfl) c (by omega))]
      unfold j_141_292
      rw [nI_1]
      refine ih (p + 1) n M (by omega) (by omega) i1 i2 ?_
      show rtM (if G p ≤ 1 then _ else _) M
      rw [if_pos c]
      exact i3
    · rw [if_neg (k_ge (a := 1) (by rfl) (by rfl) (by omega) (by omega)), i3.1, ix_nI (by omega) (by omega), ix_nI (by omega) (by omega), ix_nI (by omega) (by omega), ix_nI (by omega) (by omega), m36]
      unfold j_141_292
      rw [nI_1]
      have ta := adtM (x := -1) (y := nI p) (z := nI (G p)) i3
      rw [i3.1] at ta
      refine ih (p + 1) n _ (by omega) (by omega) (fun b b1 b2 => by rw [mm_up_ne b1, mm_up_ne (by omega), mm_up_ne (by omega), mm_up_ne (by omega), i1 b b1 b2]) (fun b b8 => by rw [up_other b8]; exact i2 b b8) ?_
      show rtM (if G p ≤ 1 then _ else _) _
      rw [if_neg c]
      exact ta
theorem zeroM {M0 : Mem} : ∀ (d p n : Nat) (M : Mem), p + d = 4 → d < n → (∀ b, b ≠ 35 → b ≠ 36 → M b = M0 b) → (∀ q, q < p → M 35 q = 0 ∧ M 36 q = 0) → ∃ N, l_141_2 n (nI p) M = l_141_29 5000 0 N ∧ (∀ b, b ≠ 35 → b ≠ 36 → N b = M0 b) ∧ (∀ q, q < 4 → N 35 q = 0 ∧ N 36 q = 0) := by
  intro d
  induction d with
  | zero =>
    intro p n M hp hn i1 i2
    obtain ⟨n, rfl⟩ : ∃ m', n = m' + 1 := ⟨n - 1, by omega⟩
    have hp : p = 4 := by omega
    subst hp
    exact ⟨M, by rw [l_141_2, if_pos (by decide)], i1, i2⟩
  | succ d ih =>
    intro p n M hp hn i1 i2
    obtain ⟨n, rfl⟩ : ∃ m', n = m' + 1 := ⟨n - 1, by omega⟩
    rw [l_141_2, if_neg (k_ge (b := 4) (by rfl) (by rfl) (by omega) (by omega)), ix_nI (by omega) (by omega), ix_nI (by omega) (by omega), nI_1]
    refine ih (p + 1) n _ (by omega) (by omega) (fun b b1 b2 => by rw [mm_up_ne b2, mm_up_ne b1, i1 b b1 b2]) (fun q hq => ?_)
    show mm_up M 35 p 0 35 q = 0 ∧ mm_up (mm_up M 35 p 0) 36 p 0 36 q = 0
    by_cases c : q = p
    · rw [c, up_same, up_same]; exact ⟨rfl, rfl⟩
    · rw [up_other c, up_other c]; exact i2 q (by omega)
end MMAD
