/-! THE PAIR judge (written by wip/whole/gen/judge_part.py). -/
section MMYD
theorem w_mem {t : Nat} : ∀ {l : List Nat}, (w_msk l).testBit t = true → t ∈ l := by
  intro l
  induction l with
  | nil => intro h; simp [w_msk] at h
  | cons x r ih =>
    intro h
    rw [w_msk, Nat.testBit_or, Bool.or_eq_true] at h
    rcases h with h | h
    · exact List.mem_cons_of_mem _ (ih h)
    · rw [Nat.testBit_two_pow] at h
      have : x = t := by simpa using h
      rw [this]
      exact List.mem_cons_self
theorem w_has {g t : Nat} (hg : g ≤ 10) (ht : t < 2 ^ g) : t ∈ w_of g := by
  apply w_mem
  rw [w_all g (by omega), Nat.testBit_two_pow_sub_one]
  simpa using ht
theorem w_lt {g t : Nat} (h : t ∈ w_of g) : t < 2 ^ g := by
  have := (List.mem_filter.mp h).2
  simpa using this
theorem srt_gt : ∀ {l : List Nat} {p x : Nat}, srt p l = true → x ∈ l → p ≤ key x := by
  intro l
  induction l with
  | nil => intro p x _ h; exact absurd h List.not_mem_nil
  | cons y r ih =>
    intro p x h hx
    rw [srt, Bool.and_eq_true] at h
    have h1 : p < key y + 1 := by simpa using h.1
    rcases List.mem_cons.mp hx with e | e
    · rw [e]; omega
    · have := ih h.2 e
      omega
/-- the sets behind one set of the list are those of greater key -/
theorem srt_split : ∀ {l : List Nat} {p s : Nat}, srt p l = true → s ∈ l → ∃ q r, l = q ++ s :: r ∧ srt (key s + 1) r = true ∧ ∀ x, x ∈ l → key s < key x → x ∈ r := by
  intro l
  induction l with
  | nil => intro p s _ h; exact absurd h List.not_mem_nil
  | cons y r ih =>
    intro p s h hs
    rw [srt, Bool.and_eq_true] at h
    by_cases e : s = y
    · subst e
      refine ⟨[], r, rfl, h.2, fun x hx hk => ?_⟩
      rcases List.mem_cons.mp hx with e | e
      · rw [e] at hk; omega
      · exact e
    · have hs' : s ∈ r := (List.mem_cons.mp hs).resolve_left e
      obtain ⟨q, r', e1, e2, e3⟩ := ih h.2 hs'
      refine ⟨y :: q, r', by rw [e1]; rfl, e2, fun x hx hk => ?_⟩
      rcases List.mem_cons.mp hx with e | e
      · have := srt_gt h.2 hs'
        rw [e] at hk
        omega
      · exact e3 x e hk
theorem stp_split {g : Nat} : ∀ {q r : List Nat} {z s : Nat}, stp g z (q ++ s :: r) = true → stp g s r = true := by
  intro q
  induction q with
  | nil => intro r z s h; rw [List.nil_append, stp, Bool.and_eq_true] at h; exact h.2
  | cons y q ih => intro r z s h; rw [List.cons_append, stp, Bool.and_eq_true] at h; exact ih h.2
theorem w_at {g s : Nat} (hg : g ≤ 10) (hs : s < 2 ^ g) : ∃ r, stp g s r = true ∧ srt (key s + 1) r = true ∧ (∀ x, x < 2 ^ g → key s < key x → x ∈ r) ∧ (∀ x, x ∈ r → x < 2 ^ g) ∧ r.length < 1024 := by
  obtain ⟨q, r, e1, e2, e3⟩ := srt_split (w_srt g (by omega)) (w_has hg hs)
  have h := w_stp g (by omega)
  refine ⟨r, ?_, e2, fun x hx => e3 x (w_has hg hx), fun x hx => w_lt (by rw [e1]; exact List.mem_append_right _ (List.mem_cons_of_mem _ hx)), ?_⟩
  · rw [e1] at h
    cases q with
    | nil =>
      have h0 : s = 0 := by have := h.2; simpa using this
      rw [h0]
      exact h.1
    | cons y q => exact stp_split (z := 0) (q := q) (by exact h.1)
  · have l1 : (w_of g).length ≤ 1024 := Nat.le_trans (List.length_filter_le _ w_ord) (Nat.le_of_eq w_len)
    rw [e1, List.length_append, List.length_cons] at l1
    omega
/-- the step of the class looks at the count of gaps alone -/
theorem l8964_g {x1 x2 x3 : Int32} {I J : Mem} : ∀ (n : Nat) (x4 : Int32), l_89_64 n x1 x2 x3 x4 I = l_89_64 n x1 x2 x3 x4 J := by
  intro n
  induction n with
  | zero => intro x4; rfl
  | succ n ih => intro x4; rw [l_89_64, l_89_64, ih]
theorem l8912_g {x1 : Int32} {I J : Mem} (h : I 16 4 = J 16 4) : ∀ (n : Nat) (x2 x3 x4 : Int32), l_89_12 n x1 x2 x3 x4 I = l_89_12 n x1 x2 x3 x4 J := by
  intro n
  induction n with
  | zero => intro x2 x3 x4; rfl
  | succ n ih => intro x2 x3 x4; rw [l_89_12, l_89_12, ih, h, l8964_g (I := I) (J := J)]
theorem g89_g {x1 : Int32} {I : Mem} {g : Nat} (h : I 16 4 = nI g) : g_89 x1 I = g_89 x1 (fun _ _ => nI g) := by
  unfold g_89
  rw [h]
  exact l8912_g h 5000 x1 1 _
/-- a set that holds none of the known ones -/
def unc (k : Nat) (L : Nat → Nat) (s : Nat) : Prop := ∀ i, i < k → L i &&& s ≠ L i
theorem g90_l {g k s : Nat} {L : Nat → Nat} {J : Mem} (hk : k ≤ 252) (hL : ∀ i, i < k → J 17 i = nI (L i) ∧ L i < 1024) (h1 : J 16 1 = nI k) (h3 : J 16 3 = nI s) (hs : s < 1024) : ∀ (d i n : Nat), i + d = k → d < n → (∀ j, j < i → L j &&& s ≠ L j) → (unc k L s ∧ l_90_2 n (nI i) J = some 0) ∨ (¬ unc k L s ∧ l_90_2 n (nI i) J = some 1) := by
  intro d
  induction d with
  | zero =>
    intro i n hi hn hu
    obtain ⟨n, rfl⟩ : ∃ m', n = m' + 1 := ⟨n - 1, by omega⟩
    have hi : i = k := by omega
    subst hi
    exact Or.inl ⟨hu, by rw [l_90_2, h1, if_pos (nI_le (Nat.le_refl _) (by omega))]⟩
  | succ d ih =>
    intro i n hi hn hu
    obtain ⟨n, rfl⟩ : ∃ m', n = m' + 1 := ⟨n - 1, by omega⟩
    obtain ⟨e1, e2⟩ := hL i (by omega)
    rw [l_90_2, h1, if_neg (nI_ge (by omega) (by omega)), ix_nI (by omega) (by omega), ix_nI (by omega) (by omega), e1, h3, nx_a, nI_1]
    have lt : s &&& L i < 1024 := Nat.lt_of_le_of_lt Nat.and_le_left hs
    by_cases h : s &&& L i = L i
    · rw [if_pos (by rw [h])]
      refine Or.inr ⟨fun q => q i (by omega) (by rw [Nat.and_comm]; exact h), rfl⟩
    · rw [if_neg (fun q => h ((nI_eq (by omega) (by omega)).mp q))]
      refine ih (i + 1) n (by omega) (by omega) (fun j hj => ?_)
      by_cases hji : j = i
      · rw [hji, Nat.and_comm]; exact h
      · exact hu j (by omega)
theorem g90_ok {k s : Nat} {L : Nat → Nat} {J : Mem} (hk : k ≤ 252) (hL : ∀ i, i < k → J 17 i = nI (L i) ∧ L i < 1024) (h1 : J 16 1 = nI k) (h3 : J 16 3 = nI s) (hs : s < 1024) : (unc k L s ∧ g_90 J = some 0) ∨ (¬ unc k L s ∧ g_90 J = some 1) :=
  g90_l (g := 0) hk hL h1 h3 hs k 0 5000 (by omega) (by omega) (fun j hj => absurd hj (Nat.not_lt_zero j))
theorem g150_l {k s : Nat} {L : Nat → Nat} {M : Mem} (hk : k ≤ 252) (hL : ∀ i, i < k → M 31 i = nI (L i) ∧ L i < 1024) (h1 : M 20 29 = nI k) (hs : s < 1024) : ∀ (d i n : Nat), i + d = k → d < n → l_150_4 n (nI s) 0 (nI i) M = some 0 ∧ ((∀ j, j < i → L j &&& s ≠ L j) → (unc k L s ∧ l_150_4 n (nI s) 1 (nI i) M = some 1) ∨ (¬ unc k L s ∧ l_150_4 n (nI s) 1 (nI i) M = some 0)) := by
  intro d
  induction d with
  | zero =>
    intro i n hi hn
    obtain ⟨n, rfl⟩ : ∃ m', n = m' + 1 := ⟨n - 1, by omega⟩
    have hi : i = k := by omega
    subst hi
    constructor
    · rw [l_150_4, h1, if_pos (nI_le (Nat.le_refl _) (by omega))]; rfl
    · exact fun hu => Or.inl ⟨hu, by rw [l_150_4, h1, if_pos (nI_le (Nat.le_refl _) (by omega))]; rfl⟩
  | succ d ih =>
    intro i n hi hn
    obtain ⟨n, rfl⟩ : ∃ m', n = m' + 1 := ⟨n - 1, by omega⟩
    obtain ⟨e1, e2⟩ := hL i (by omega)
    obtain ⟨i1, i2⟩ := ih (i + 1) n (by omega) (by omega)
    constructor
    · rw [l_150_4, h1, if_neg (nI_ge (by omega) (by omega)), if_pos rfl, nI_1]
      exact i1
    · intro hu
      rw [l_150_4, h1, if_neg (nI_ge (by omega) (by omega)), if_neg (by decide), ix_nI (by omega) (by omega), ix_nI (by omega) (by omega), e1, nx_a, nI_1]
      have lt : s &&& L i < 1024 := Nat.lt_of_le_of_lt Nat.and_le_left hs
      by_cases h : s &&& L i = L i
      · rw [if_pos (by rw [h])]
        exact Or.inr ⟨fun q => q i (by omega) (by rw [Nat.and_comm]; exact h), i1⟩
      · rw [if_neg (fun q => h ((nI_eq (by omega) (by omega)).mp q))]
        refine i2 (fun j hj => ?_)
        by_cases hji : j = i
        · rw [hji, Nat.and_comm]; exact h
        · exact hu j (by omega)
theorem g150_ok {k s : Nat} {L : Nat → Nat} {M : Mem} (hk : k ≤ 252) (hL : ∀ i, i < k → M 31 i = nI (L i) ∧ L i < 1024) (h1 : M 20 29 = nI k) (hs : s < 1024) : (unc k L s ∧ g_150 (nI s) M = some 1) ∨ (¬ unc k L s ∧ g_150 (nI s) M = some 0) :=
  (g150_l hk hL h1 hs k 0 5000 (by omega) (by omega)).2 (fun j hj => absurd hj (Nat.not_lt_zero j))
theorem up_up {f : Mem} {k j : Nat} {x y : Int32} : mm_up (mm_up f k j x) k j y = mm_up f k j y := by
  funext a b
  by_cases h : a = k
  · subst h
    rw [mm_up_at, mm_up_at, mm_up_at]
    by_cases h2 : b = j
    · rw [if_pos h2, if_pos h2]
    · rw [if_neg h2, if_neg h2, if_neg h2]
  · rw [mm_up_ne h, mm_up_ne h, mm_up_ne h]
theorem up_id {f : Mem} {k j : Nat} : mm_up f k j (f k j) = f := by
  funext a b
  by_cases h : a = k
  · subst h
    rw [mm_up_at]
    by_cases h2 : b = j
    · rw [if_pos h2, h2]
    · rw [if_neg h2]
  · rw [mm_up_ne h]
/-- the least set behind s that holds no known one -/
def CV (g k : Nat) (L : Nat → Nat) (s : Nat) (v : Int32) : Prop := (v = -1 ∧ ∀ t, t < 2 ^ g → unc k L t → ¬ key s < key t) ∨ ∃ b : Nat, b < 2 ^ g ∧ v = nI b ∧ unc k L b ∧ key s < key b ∧ ∀ t, t < 2 ^ g → unc k L t → key s < key t → key b ≤ key t
theorem two_g {g : Nat} (hg : g ≤ 10) : 2 ^ g ≤ 1024 := Nat.pow_le_pow_right (n := 2) (by decide) hg
theorem srt_inj {g a b : Nat} (hg : g ≤ 10) (ha : a < 2 ^ g) (hb : b < 2 ^ g) (h : key a = key b) : a = b := by
  obtain ⟨q, r, e1, e2, _⟩ := srt_split (w_srt g (by omega)) (w_has hg ha)
  have hb' := w_has hg hb
  rw [e1] at hb'
  rcases List.mem_append.mp hb' with h1 | h1
  · exfalso
    have e3 := w_srt g (by omega)
    rw [e1] at e3
    have : ∀ {q : List Nat} {p : Nat}, srt p (q ++ a :: r) = true → b ∈ q → key b < key a := by
      intro q
      induction q with
      | nil => intro p _ h; exact absurd h List.not_mem_nil
      | cons y q ih =>
        intro p h2 h3
        rw [List.cons_append, srt, Bool.and_eq_true] at h2
        rcases List.mem_cons.mp h3 with e | e
        · have := srt_gt h2.2 (x := a) (List.mem_append_right _ List.mem_cons_self)
          rw [e]; omega
        · exact ih h2.2 e
    have := this e3 h1
    omega
  · rcases List.mem_cons.mp h1 with e | e
    · exact e.symm
    · have := srt_gt e2 e
      omega
theorem cv_eq {g k s : Nat} {L : Nat → Nat} {v w : Int32} (hg : g ≤ 10) (h1 : CV g k L s v) (h2 : CV g k L s w) : v = w := by
  rcases h1 with ⟨e1, a1⟩ | ⟨b, hb, e1, u1, k1, a1⟩
  · rcases h2 with ⟨e2, a2⟩ | ⟨c, hc, e2, u2, k2, a2⟩
    · rw [e1, e2]
    · exact absurd k2 (a1 c hc u2)
  · rcases h2 with ⟨e2, a2⟩ | ⟨c, hc, e2, u2, k2, a2⟩
    · exact absurd k1 (a2 b hb u1)
    · have := a1 c hc u2 k2
      have := a2 b hb u1 k1
      rw [e1, e2, srt_inj hg hb hc (by omega)]
/-- the class walks the list -/
theorem walk {g k s0 : Nat} {L : Nat → Nat} {x1 : Int32} {J : Mem} (hg : g ≤ 10) (hk : k ≤ 252) (hL : ∀ i, i < k → J 17 i = nI (L i) ∧ L i < 1024) (h1 : J 16 1 = nI k) (h4 : J 16 4 = nI g) : ∀ (r : List Nat) (s c n : Nat), stp g s r = true → srt (key s + 1) r = true → (∀ x, x ∈ r → x < 2 ^ g) → s < 2 ^ g → r.length + 1 + c ≤ 1024 → r.length + 1 < n → (∀ t, t < 2 ^ g → unc k L t → key s0 < key t → t = s ∨ t ∈ r) → key s0 < key s → ∃ v, l_88_61 n x1 (nI c) (mm_up J 16 3 (nI s)) = some (mm_up J 16 3 v) ∧ CV g k L s0 v := by
  intro r
  have tg := two_g hg
  induction r with
  | nil =>
    intro s c n hst hsr hr hs hc hn hall hs0
    simp only [List.length_nil] at hc hn
    obtain ⟨n, rfl⟩ : ∃ m', n = m' + 1 := ⟨n - 1, by omega⟩
    have e3 : mm_up J 16 3 (nI s) 16 3 = nI s := rfl
    have ne : ¬ nI s = -1 := ne1 s (by omega)
    rw [l_88_61, if_neg (k_ge (b := 1024) (by rfl) (by rfl) (by omega) (by omega)), e3, if_neg ne]
    rcases g90_ok (J := mm_up J 16 3 (nI s)) hk hL h1 e3 (by omega) with ⟨u, e⟩ | ⟨u, e⟩
    · rw [e]
      refine ⟨nI s, rfl, Or.inr ⟨s, hs, rfl, u, hs0, fun t ht hu hk => ?_⟩⟩
      rcases hall t ht hu hk with e | e
      · rw [e]; exact Nat.le_refl _
      · exact absurd e List.not_mem_nil
    · rw [e]
      try simp only [Option.bind_some, nr0, nr1, s_10, s_n10, s_n00, s_a, s_b, s_c, s_d, s_e, ↓reduceIte]
      have e9 : g_89 (nI s) (mm_up J 16 3 (nI s)) = some (-1) := by
        rw [g89_g (I := mm_up J 16 3 (nI s)) h4]
        simpa [stp] using hst
      rw [e9]
      refine ⟨-1, ?_, Or.inl ⟨rfl, fun t ht hu hk => ?_⟩⟩
      · try simp only [Option.bind_some, nr0, nr1, s_10, s_n10, s_n00, s_a, s_b, s_c, s_d, s_e, ↓reduceIte]
        rw [up_up, nI_1]
        obtain ⟨n, rfl⟩ : ∃ m', n = m' + 1 := ⟨n - 1, by omega⟩
        rw [l_88_61]
        by_cases hc2 : c + 1 < 1024
        · rw [if_neg (k_ge (b := 1024) (by rfl) (by rfl) (by omega) (by omega)), if_pos (show mm_up J 16 3 (-1) 16 3 = -1 from rfl)]
        · rw [if_pos (k_le (a := 1024) (by rfl) (by rfl) (by omega) (by omega))]
      · rcases hall t ht hu hk with e | e
        · rw [e] at hu; exact u hu
        · exact List.not_mem_nil e
  | cons y r ih =>
    intro s c n hst hsr hr hs hc hn hall hs0
    simp only [List.length_cons] at hc hn
    obtain ⟨n, rfl⟩ : ∃ m', n = m' + 1 := ⟨n - 1, by omega⟩
    have e3 : mm_up J 16 3 (nI s) 16 3 = nI s := rfl
    have ne : ¬ nI s = -1 := ne1 s (by omega)
    rw [stp, Bool.and_eq_true] at hst
    have hsr' := hsr
    rw [srt, Bool.and_eq_true] at hsr
    have hsy : key s + 1 < key y + 1 := by simpa using hsr.1
    rw [l_88_61, if_neg (k_ge (b := 1024) (by rfl) (by rfl) (by omega) (by omega)), e3, if_neg ne]
    rcases g90_ok (J := mm_up J 16 3 (nI s)) hk hL h1 e3 (by omega) with ⟨u, e⟩ | ⟨u, e⟩
    · rw [e]
      refine ⟨nI s, rfl, Or.inr ⟨s, hs, rfl, u, hs0, fun t ht hu hk => ?_⟩⟩
      rcases hall t ht hu hk with e | e
      · rw [e]; exact Nat.le_refl _
      · have := srt_gt hsr' e
        omega
    · rw [e]
      try simp only [Option.bind_some, nr0, nr1, s_10, s_n10, s_n00, s_a, s_b, s_c, s_d, s_e, ↓reduceIte]
      have e9 : g_89 (nI s) (mm_up J 16 3 (nI s)) = some (nI y) := by
        rw [g89_g (I := mm_up J 16 3 (nI s)) h4]
        simpa using hst.1
      rw [e9]
      try simp only [Option.bind_some, nr0, nr1, s_10, s_n10, s_n00, s_a, s_b, s_c, s_d, s_e, ↓reduceIte]
      rw [up_up, nI_1]
      refine ih y (c + 1) n hst.2 hsr.2 (fun x hx => hr x (List.mem_cons_of_mem _ hx)) (hr y List.mem_cons_self) (by omega) (by omega) (fun t ht hu hk => ?_) (by omega)
      rcases hall t ht hu hk with e | e
      · rw [e] at hu; exact absurd hu u
      · exact List.mem_cons.mp e
theorem walk_ok {g k s : Nat} {L : Nat → Nat} {x1 : Int32} {J : Mem} (hg : g ≤ 10) (hk : k ≤ 252) (hL : ∀ i, i < k → J 17 i = nI (L i) ∧ L i < 1024) (h1 : J 16 1 = nI k) (h4 : J 16 4 = nI g) (h3 : J 16 3 = nI s) (hs : s < 2 ^ g) : ∃ v w, g_89 (J 16 3) J = some w ∧ l_88_61 5000 x1 0 (mm_up J 16 3 w) = some (mm_up J 16 3 v) ∧ CV g k L s v := by
  obtain ⟨r, r1, r2, r3, r4, r5⟩ := w_at hg hs
  cases r with
  | nil =>
    have e9 : g_89 (J 16 3) J = some (-1) := by
      rw [h3, g89_g h4]
      simpa [stp] using r1
    refine ⟨-1, -1, e9, ?_, Or.inl ⟨rfl, fun t ht _ q => List.not_mem_nil (r3 t ht q)⟩⟩
    rw [l_88_61, if_neg (by decide), if_pos (show mm_up J 16 3 (-1) 16 3 = -1 from rfl)]
  | cons y r =>
    rw [stp, Bool.and_eq_true] at r1
    rw [srt, Bool.and_eq_true] at r2
    have hsy : key s + 1 < key y + 1 := by simpa using r2.1
    have e9 : g_89 (J 16 3) J = some (nI y) := by
      rw [h3, g89_g h4]
      simpa using r1.1
    simp only [List.length_cons] at r5
    obtain ⟨v, e1, e2⟩ := walk (s0 := s) (x1 := x1) hg hk hL h1 h4 r y 0 5000 r1.2 r2.2 (fun x hx => r4 x (List.mem_cons_of_mem _ hx)) (r4 y List.mem_cons_self) (by omega) (by omega) (fun t ht hu hk => List.mem_cons.mp (r3 t ht hk)) (by omega)
    exact ⟨v, nI y, e9, e1, e2⟩
/-- the reference looks through all sets -/
theorem scan {g k s : Nat} {L : Nat → Nat} {M : Mem} (hg : g ≤ 10) (hk : k ≤ 252) (hL : ∀ i, i < k → M 31 i = nI (L i) ∧ L i < 1024) (h1 : M 20 29 = nI k) (h6 : M 20 26 = nI g) (hs : s < 2 ^ g) : ∀ (d x n : Nat) (v : Int32), x + d = 2 ^ g → d < n → ((v = -1 ∧ ∀ t, t < x → unc k L t → ¬ key s < key t) ∨ ∃ b : Nat, b < 2 ^ g ∧ v = nI b ∧ unc k L b ∧ key s < key b ∧ ∀ t, t < x → unc k L t → key s < key t → key b ≤ key t) → ∃ w, l_149_4 n (nI s) v (nI x) M = some w ∧ CV g k L s w := by
  have tg := two_g hg
  have e1 : (1 : Int32) <<< (M 20 26 &&& 31) = nI (2 ^ g) := by
    rw [h6]
    have := pk_shlN (n := 1) (nI g &&& 31) g (sh_l g (by omega)) (by omega)
    rw [Nat.one_mul] at this
    exact this
  have ns : ¬ nI s < 0 := nI_pos (by omega)
  intro d
  induction d with
  | zero =>
    intro x n v hx hn hv
    obtain ⟨n, rfl⟩ : ∃ m', n = m' + 1 := ⟨n - 1, by omega⟩
    have hx : x = 2 ^ g := by omega
    subst hx
    exact ⟨v, by rw [l_149_4, e1, if_pos (nI_le (Nat.le_refl _) (by omega))], hv⟩
  | succ d ih =>
    intro x n v hx hn hv
    obtain ⟨n, rfl⟩ : ∃ m', n = m' + 1 := ⟨n - 1, by omega⟩
    rw [l_149_4, e1, if_neg (nI_ge (by omega) (by omega)), nI_1]
    rcases g150_ok (s := x) hk hL h1 (by omega) with ⟨u, e⟩ | ⟨u, e⟩
    · rw [e]
      try simp only [Option.bind_some, nr0, nr1, s_10, s_n10, s_n00, s_a, s_b, s_c, s_d, s_e, ↓reduceIte]
      rw [if_neg ns, g151_ok (by omega) (by omega)]
      by_cases hkx : key s < key x
      · rw [if_pos hkx]
        try simp only [Option.bind_some, nr0, nr1, s_10, s_n10, s_n00, s_a, s_b, s_c, s_d, s_e, ↓reduceIte]
        rcases hv with ⟨rfl, a⟩ | ⟨b, hb, rfl, ub, kb, ab⟩
        · rw [if_pos (by decide)]
          refine ih (x + 1) n (nI x) (by omega) (by omega) (Or.inr ⟨x, by omega, rfl, u, hkx, fun t ht hu hk => ?_⟩)
          by_cases htx : t = x
          · rw [htx]; exact Nat.le_refl _
          · exact absurd hk (a t (by omega) hu)
        · rw [if_neg (nI_pos (by omega)), g151_ok (by omega) (by omega)]
          by_cases hxb : key x < key b
          · rw [if_pos hxb]
            try simp only [Option.bind_some, nr0, nr1, s_10, s_n10, s_n00, s_a, s_b, s_c, s_d, s_e, ↓reduceIte]
            refine ih (x + 1) n (nI x) (by omega) (by omega) (Or.inr ⟨x, by omega, rfl, u, hkx, fun t ht hu hk => ?_⟩)
            by_cases htx : t = x
            · rw [htx]; exact Nat.le_refl _
            · have := ab t (by omega) hu hk
              omega
          · rw [if_neg hxb]
            try simp only [Option.bind_some, nr0, nr1, s_10, s_n10, s_n00, s_a, s_b, s_c, s_d, s_e, ↓reduceIte]
            refine ih (x + 1) n (nI b) (by omega) (by omega) (Or.inr ⟨b, hb, rfl, ub, kb, fun t ht hu hk => ?_⟩)
            by_cases htx : t = x
            · rw [htx]; omega
            · exact ab t (by omega) hu hk
      · rw [if_neg hkx]
        try simp only [Option.bind_some, nr0, nr1, s_10, s_n10, s_n00, s_a, s_b, s_c, s_d, s_e, ↓reduceIte]
        refine ih (x + 1) n v (by omega) (by omega) ?_
        rcases hv with ⟨e, a⟩ | ⟨b, hb, e, ub, kb, ab⟩
        · refine Or.inl ⟨e, fun t ht hu hk => ?_⟩
          by_cases htx : t = x
          · rw [htx] at hk; exact hkx hk
          · exact a t (by omega) hu hk
        · refine Or.inr ⟨b, hb, e, ub, kb, fun t ht hu hk => ?_⟩
          by_cases htx : t = x
          · rw [htx] at hk; exact absurd hk hkx
          · exact ab t (by omega) hu hk
    · rw [e]
      try simp only [Option.bind_some, nr0, nr1, s_10, s_n10, s_n00, s_a, s_b, s_c, s_d, s_e, ↓reduceIte]
      refine ih (x + 1) n v (by omega) (by omega) ?_
      rcases hv with ⟨e, a⟩ | ⟨b, hb, e, ub, kb, ab⟩
      · refine Or.inl ⟨e, fun t ht hu hk => ?_⟩
        by_cases htx : t = x
        · rw [htx] at hu; exact u hu
        · exact a t (by omega) hu hk
      · refine Or.inr ⟨b, hb, e, ub, kb, fun t ht hu hk => ?_⟩
        by_cases htx : t = x
        · rw [htx] at hu; exact absurd hu u
        · exact ab t (by omega) hu hk
theorem scan_ok {g k s : Nat} {L : Nat → Nat} {M : Mem} (hg : g ≤ 10) (hk : k ≤ 252) (hL : ∀ i, i < k → M 31 i = nI (L i) ∧ L i < 1024) (h1 : M 20 29 = nI k) (h6 : M 20 26 = nI g) (hs : s < 2 ^ g) : ∃ w, g_149 (nI s) M = some w ∧ CV g k L s w := by
  have tg := two_g hg
  exact scan hg hk hL h1 h6 hs (2 ^ g) 0 5000 (-1) (by omega) (by omega) (Or.inl ⟨rfl, fun t ht => absurd ht (Nat.not_lt_zero t)⟩)
/-- at most 252 sets of ten gaps, none of which holds another -/
def w_ch : List (List Nat) := [[0, 1, 3, 7, 15, 31, 63, 127, 255, 511, 1023], [512, 513, 515, 519, 527, 543, 575, 639, 767], [256, 257, 259, 263, 271, 287, 319, 383, 895], [768, 769, 771, 775, 783, 799, 831], [128, 129, 131, 135, 143, 159, 191, 447, 959], [640, 641, 643, 647, 655, 671, 703], [384, 385, 387, 391, 399, 415, 927], [896, 897, 899, 903, 911], [64, 65, 67, 71, 79, 95, 223, 479, 991], [576, 577, 579, 583, 591, 607, 735], [320, 321, 323, 327, 335, 351, 863], [832, 833, 835, 839, 847], [192, 193, 195, 199, 207, 463, 975], [704, 705, 707, 711, 719], [448, 449, 451, 455, 967], [960, 961, 963], [32, 33, 35, 39, 47, 111, 239, 495, 1007], [544, 545, 547, 551, 559, 623, 751], [288, 289, 291, 295, 303, 367, 879], [800, 801, 803, 807, 815], [160, 161, 163, 167, 175, 431, 943], [672, 673, 675, 679, 687], [416, 417, 419, 423, 935], [928, 929, 931], [96, 97, 99, 103, 231, 487, 999], [608, 609, 611, 615, 743], [352, 353, 355, 359, 871], [864, 865, 867], [224, 225, 227, 483, 995], [736, 737, 739], [480, 481, 993], [992], [16, 17, 19, 23, 55, 119, 247, 503, 1015], [528, 529, 531, 535, 567, 631, 759], [272, 273, 275, 279, 311, 375, 887], [784, 785, 787, 791, 823], [144, 145, 147, 151, 183, 439, 951], [656, 657, 659, 663, 695], [400, 401, 403, 407, 919], [912, 913, 915], [80, 81, 83, 87, 215, 471, 983], [592, 593, 595, 599, 727], [336, 337, 339, 343, 855], [848, 849, 851], [208, 209, 211, 467, 979], [720, 721, 723], [464, 465, 977], [976], [48, 49, 51, 115, 243, 499, 1011], [560, 561, 563, 627, 755], [304, 305, 307, 371, 883], [816, 817, 819], [176, 177, 179, 435, 947], [688, 689, 691], [432, 433, 945], [944], [112, 113, 241, 497, 1009], [624, 625, 753], [368, 369, 881], [880], [240, 496, 1008], [752], [8, 9, 11, 27, 59, 123, 251, 507, 1019], [520, 521, 523, 539, 571, 635, 763], [264, 265, 267, 283, 315, 379, 891], [776, 777, 779, 795, 827], [136, 137, 139, 155, 187, 443, 955], [648, 649, 651, 667, 699], [392, 393, 395, 411, 923], [904, 905, 907], [72, 73, 75, 91, 219, 475, 987], [584, 585, 587, 603, 731], [328, 329, 331, 347, 859], [840, 841, 843], [200, 201, 203, 459, 971], [712, 713, 715], [456, 457, 969], [968], [40, 41, 43, 107, 235, 491, 1003], [552, 553, 555, 619, 747], [296, 297, 299, 363, 875], [808, 809, 811], [168, 169, 171, 427, 939], [680, 681, 683], [424, 425, 937], [936], [104, 105, 233, 489, 1001], [616, 617, 745], [360, 361, 873], [872], [232, 488, 1000], [744], [24, 25, 57, 121, 249, 505, 1017], [536, 537, 569, 633, 761], [280, 281, 313, 377, 889], [792, 793, 825], [152, 153, 185, 441, 953], [664, 665, 697], [408, 409, 921], [920], [88, 89, 217, 473, 985], [600, 601, 729], [344, 345, 857], [856], [216, 472, 984], [728], [56, 120, 248, 504, 1016], [568, 632, 760], [312, 376, 888], [824], [184, 440, 952], [696], [4, 5, 13, 29, 61, 125, 253, 509, 1021], [516, 517, 525, 541, 573, 637, 765], [260, 261, 269, 285, 317, 381, 893], [772, 773, 781, 797, 829], [132, 133, 141, 157, 189, 445, 957], [644, 645, 653, 669, 701], [388, 389, 397, 413, 925], [900, 901, 909], [68, 69, 77, 93, 221, 477, 989], [580, 581, 589, 605, 733], [324, 325, 333, 349, 861], [836, 837, 845], [196, 197, 205, 461, 973], [708, 709, 717], [452, 453, 965], [964], [36, 37, 45, 109, 237, 493, 1005], [548, 549, 557, 621, 749], [292, 293, 301, 365, 877], [804, 805, 813], [164, 165, 173, 429, 941], [676, 677, 685], [420, 421, 933], [932], [100, 101, 229, 485, 997], [612, 613, 741], [356, 357, 869], [868], [228, 484, 996], [740], [20, 21, 53, 117, 245, 501, 1013], [532, 533, 565, 629, 757], [276, 277, 309, 373, 885], [788, 789, 821], [148, 149, 181, 437, 949], [660, 661, 693], [404, 405, 917], [916], [84, 85, 213, 469, 981], [596, 597, 725], [340, 341, 853], [852], [212, 468, 980], [724], [52, 116, 244, 500, 1012], [564, 628, 756], [308, 372, 884], [820], [180, 436, 948], [692], [12, 28, 60, 124, 252, 508, 1020], [524, 540, 572, 636, 764], [268, 284, 316, 380, 892], [780, 796, 828], [140, 156, 188, 444, 956], [652, 668, 700], [396, 412, 924], [908], [76, 92, 220, 476, 988], [588, 604, 732], [332, 348, 860], [844], [204, 460, 972], [716], [44, 108, 236, 492, 1004], [556, 620, 748], [300, 364, 876], [812], [172, 428, 940], [684], [2, 6, 14, 30, 62, 126, 254, 510, 1022], [514, 518, 526, 542, 574, 638, 766], [258, 262, 270, 286, 318, 382, 894], [770, 774, 782, 798, 830], [130, 134, 142, 158, 190, 446, 958], [642, 646, 654, 670, 702], [386, 390, 398, 414, 926], [898, 902, 910], [66, 70, 78, 94, 222, 478, 990], [578, 582, 590, 606, 734], [322, 326, 334, 350, 862], [834, 838, 846], [194, 198, 206, 462, 974], [706, 710, 718], [450, 454, 966], [962], [34, 38, 46, 110, 238, 494, 1006], [546, 550, 558, 622, 750], [290, 294, 302, 366, 878], [802, 806, 814], [162, 166, 174, 430, 942], [674, 678, 686], [418, 422, 934], [930], [98, 102, 230, 486, 998], [610, 614, 742], [354, 358, 870], [866], [226, 482, 994], [738], [18, 22, 54, 118, 246, 502, 1014], [530, 534, 566, 630, 758], [274, 278, 310, 374, 886], [786, 790, 822], [146, 150, 182, 438, 950], [658, 662, 694], [402, 406, 918], [914], [82, 86, 214, 470, 982], [594, 598, 726], [338, 342, 854], [850], [210, 466, 978], [722], [50, 114, 242, 498, 1010], [562, 626, 754], [306, 370, 882], [818], [178, 434, 946], [690], [10, 26, 58, 122, 250, 506, 1018], [522, 538, 570, 634, 762], [266, 282, 314, 378, 890], [778, 794, 826], [138, 154, 186, 442, 954], [650, 666, 698], [394, 410, 922], [906], [74, 90, 218, 474, 986], [586, 602, 730], [330, 346, 858], [842], [202, 458, 970], [714], [42, 106, 234, 490, 1002], [554, 618, 746], [298, 362, 874], [810], [170, 426, 938], [682]]
def w_lin : List Nat → Bool
  | [] => true
  | x :: r => r.all (fun y => decide (x &&& y = x)) && w_lin r
set_option maxRecDepth 100000 in
theorem w_chl : w_ch.length = 252 := by decide +kernel
set_option maxRecDepth 100000 in
theorem w_lins : w_ch.all w_lin = true := by decide +kernel
set_option maxRecDepth 100000 in
theorem w_chm : w_msk w_ch.flatten = 2 ^ 1024 - 1 := by decide +kernel
theorem lin_cmp : ∀ {c : List Nat} {x y : Nat}, w_lin c = true → x ∈ c → y ∈ c → x &&& y = x ∨ y &&& x = y := by
  intro c
  induction c with
  | nil => intro x y _ h; exact absurd h List.not_mem_nil
  | cons z r ih =>
    intro x y h hx hy
    rw [w_lin, Bool.and_eq_true, List.all_eq_true] at h
    rcases List.mem_cons.mp hx with e | e
    · rcases List.mem_cons.mp hy with e2 | e2
      · left; rw [e, e2, Nat.and_self]
      · left; rw [e]; simpa using h.1 y e2
    · rcases List.mem_cons.mp hy with e2 | e2
      · right; rw [e2]; simpa using h.1 x e
      · exact ih h.2 e e2
theorem pigeon {L : Nat → Nat} : ∀ (C : List (List Nat)) (S : List Nat), C.all w_lin = true → S.Nodup → (∀ i, i ∈ S → ∃ c, c ∈ C ∧ L i ∈ c) → (∀ i j, i ∈ S → j ∈ S → i ≠ j → L i &&& L j ≠ L i) → S.length ≤ C.length := by
  intro C
  induction C with
  | nil =>
    intro S _ _ h _
    cases S with
    | nil => exact Nat.le_refl _
    | cons i S => obtain ⟨c, hc, _⟩ := h i List.mem_cons_self; exact absurd hc List.not_mem_nil
  | cons c C ih =>
    intro S h1 h2 h3 h4
    rw [List.all_cons, Bool.and_eq_true] at h1
    by_cases hx : ∃ i, i ∈ S ∧ L i ∈ c
    · obtain ⟨i, hi, hc⟩ := hx
      have hl := List.length_erase_of_mem hi
      have := ih (S.erase i) h1.2 (h2.erase i) (fun j hj => by
        have hj' := (List.Nodup.mem_erase_iff h2).mp hj
        obtain ⟨d, hd, hm⟩ := h3 j hj'.2
        rcases List.mem_cons.mp hd with e | e
        · exfalso
          rw [e] at hm
          rcases lin_cmp h1.1 hc hm with q | q
          · exact h4 i j hi hj'.2 (fun e => hj'.1 e.symm) q
          · exact h4 j i hj'.2 hi hj'.1 q
        · exact ⟨d, e, hm⟩) (fun a b ha hb => h4 a b (List.mem_of_mem_erase ha) (List.mem_of_mem_erase hb))
      rw [List.length_cons]
      omega
    · have := ih S h1.2 h2 (fun j hj => by
        obtain ⟨d, hd, hm⟩ := h3 j hj
        rcases List.mem_cons.mp hd with e | e
        · rw [e] at hm; exact absurd ⟨j, hj, hm⟩ hx
        · exact ⟨d, e, hm⟩) h4
      rw [List.length_cons]
      omega
theorem sperner {k : Nat} {L : Nat → Nat} (h : ∀ i, i < k → L i < 1024) (ha : ∀ i j, i < k → j < k → i ≠ j → L i &&& L j ≠ L i) : k ≤ 252 := by
  have := pigeon (L := L) w_ch (List.range k) w_lins List.nodup_range (fun i hi => by
    have hi := List.mem_range.mp hi
    have : L i ∈ w_ch.flatten := by
      apply w_mem
      rw [w_chm, Nat.testBit_two_pow_sub_one]
      simpa using h i hi
    obtain ⟨c, hc, hm⟩ := List.mem_flatten.mp this
    exact ⟨c, hc, hm⟩) (fun i j hi hj => ha i j (List.mem_range.mp hi) (List.mem_range.mp hj))
  rw [List.length_range, w_chl] at this
  exact this
theorem sub_bit {a b : Nat} (h : a &&& b = a) (j : Nat) : a / 2 ^ j % 2 ≤ b / 2 ^ j % 2 := by
  have e := Nat.testBit_and a b j
  rw [h, Nat.testBit_eq_decide_div_mod_eq, Nat.testBit_eq_decide_div_mod_eq] at e
  have h2 := Nat.mod_lt (a / 2 ^ j) (y := 2) (by decide)
  have h3 := Nat.mod_lt (b / 2 ^ j) (y := 2) (by decide)
  generalize a / 2 ^ j % 2 = v at *
  generalize b / 2 ^ j % 2 = w at *
  have hv : v = 0 ∨ v = 1 := by omega
  have hw : w = 0 ∨ w = 1 := by omega
  rcases hv with rfl | rfl <;> rcases hw with rfl | rfl <;> simp at e ⊢
theorem bits_eq (a0 a1 a2 a3 a4 a5 a6 a7 a8 a9 b0 b1 b2 b3 b4 b5 b6 b7 b8 b9 : Nat) (x0 : a0 ≤ b0) (x1 : a1 ≤ b1) (x2 : a2 ≤ b2) (x3 : a3 ≤ b3) (x4 : a4 ≤ b4) (x5 : a5 ≤ b5) (x6 : a6 ≤ b6) (x7 : a7 ≤ b7) (x8 : a8 ≤ b8) (x9 : a9 ≤ b9) (hp : b0 + b1 + b2 + b3 + b4 + b5 + b6 + b7 + b8 + b9 ≤ a0 + a1 + a2 + a3 + a4 + a5 + a6 + a7 + a8 + a9) : a0 = b0 ∧ a1 = b1 ∧ a2 = b2 ∧ a3 = b3 ∧ a4 = b4 ∧ a5 = b5 ∧ a6 = b6 ∧ a7 = b7 ∧ a8 = b8 ∧ a9 = b9 := ⟨by omega, by omega, by omega, by omega, by omega, by omega, by omega, by omega, by omega, by omega⟩
theorem sub_pc {a b : Nat} (ha : a < 1024) (hb : b < 1024) (h : a &&& b = a) (hp : pc10 b ≤ pc10 a) : a = b := by
  have x0 : a % 2 ≤ b % 2 := by have := sub_bit h 0; simpa using this
  have x1 : a / 2 % 2 ≤ b / 2 % 2 := by have := sub_bit h 1; simpa using this
  have x2 : a / 4 % 2 ≤ b / 4 % 2 := by have := sub_bit h 2; simpa using this
  have x3 : a / 8 % 2 ≤ b / 8 % 2 := by have := sub_bit h 3; simpa using this
  have x4 : a / 16 % 2 ≤ b / 16 % 2 := by have := sub_bit h 4; simpa using this
  have x5 : a / 32 % 2 ≤ b / 32 % 2 := by have := sub_bit h 5; simpa using this
  have x6 : a / 64 % 2 ≤ b / 64 % 2 := by have := sub_bit h 6; simpa using this
  have x7 : a / 128 % 2 ≤ b / 128 % 2 := by have := sub_bit h 7; simpa using this
  have x8 : a / 256 % 2 ≤ b / 256 % 2 := by have := sub_bit h 8; simpa using this
  have x9 : a / 512 % 2 ≤ b / 512 % 2 := by have := sub_bit h 9; simpa using this
  unfold pc10 at hp
  obtain ⟨q0, q1, q2, q3, q4, q5, q6, q7, q8, q9⟩ := bits_eq _ _ _ _ _ _ _ _ _ _ _ _ _ _ _ _ _ _ _ _ x0 x1 x2 x3 x4 x5 x6 x7 x8 x9 hp
  apply Nat.eq_of_testBit_eq
  intro i
  rw [Nat.testBit_eq_decide_div_mod_eq, Nat.testBit_eq_decide_div_mod_eq]
  have e : a / 2 ^ i % 2 = b / 2 ^ i % 2 := by
    by_cases hi : i < 10
    · match i, hi with
      | 0, _ => simpa using q0
      | 1, _ => simpa using q1
      | 2, _ => simpa using q2
      | 3, _ => simpa using q3
      | 4, _ => simpa using q4
      | 5, _ => simpa using q5
      | 6, _ => simpa using q6
      | 7, _ => simpa using q7
      | 8, _ => simpa using q8
      | 9, _ => simpa using q9
      | i + 10, hi => omega
    · have h2 : 1024 ≤ 2 ^ i := (show 2 ^ 10 ≤ 2 ^ i from Nat.pow_le_pow_right (by decide) (by omega))
      rw [Nat.div_eq_of_lt (by omega), Nat.div_eq_of_lt (by omega)]
  rw [e]
set_option maxHeartbeats 4000000 in
theorem pr_10 : p_10 INV := by
  intro a I LG hab ⟨hT, hF, hP, hE, hO, hS⟩
  obtain ⟨k, hk, s1, s2, s3, s4, s5⟩ := id hS
  rcases s5 with ⟨q1, q2⟩ | ⟨q1, q2, g, hg, q3, q4, L, l1, l2, l3⟩
  · exact pw_ex (V := INV) (J := I) (K := mm_up (mm_up I 20 0 0) 20 0 1) (z := 0) (c := 1) (LG := LG) (by decide) (by unfold g_10 g_87; rw [if_pos q2]; rfl) (by unfold g_148; rw [if_pos q1]; rfl) rfl ⟨hT, hF, hP, hE, hO, hS⟩
  have tr : ¬ I 20 25 = 0 := by rw [q1]; decide
  rcases l3 with l3 | ⟨s, hs, l4, l5⟩
  · exact pw_ex (V := INV) (J := I) (K := mm_up (mm_up I 20 0 0) 20 0 1) (z := 0) (c := 1) (LG := LG) (by decide) (by unfold g_10 g_87; rw [if_pos (q2.trans l3)]; rfl) (by unfold g_148; rw [if_neg tr, l3, if_neg (by decide)]; rfl) rfl ⟨hT, hF, hP, hE, hO, hS⟩
  have tg := two_g hg
  have h3 : I 16 3 = nI s := q2.trans l4
  have ne : ¬ I 16 3 = -1 := by rw [h3]; exact ne1 s (by omega)
  have ge : (0 : Int32) ≤ I 20 27 := by rw [l4]; exact nI_pos' (by omega)
  rcases hab with rfl | rfl
  · -- the set does not forbid
    obtain ⟨v, w, e1, e2, e3⟩ := walk_ok (J := mm_up I 16 2 (I 16 2 + 1)) (x1 := 0) hg hk (fun i hi => ⟨(s3 i hi).trans (l1 i hi).1, Nat.lt_of_lt_of_le (l1 i hi).2 tg⟩) s1 q3 h3 hs
    obtain ⟨v', e4, e5⟩ := scan_ok (M := mm_up (mm_up (mm_up (mm_up I 16 2 (I 16 2 + 1)) 16 3 v) 20 0 0) 20 28 (I 20 28 + 1)) hg hk (fun i hi => ⟨(l1 i hi).1, Nat.lt_of_lt_of_le (l1 i hi).2 tg⟩) s2 q4 hs
    have ev := cv_eq hg e5 e3
    subst ev
    refine pw_ok (J := mm_up (mm_up I 16 2 (I 16 2 + 1)) 16 3 v') (K := mm_up (mm_up (mm_up (mm_up (mm_up I 16 2 (I 16 2 + 1)) 16 3 v') 20 0 0) 20 28 (I 20 28 + 1)) 20 27 v') (r := nI k) (LG := LG) ?_ ?_ rfl ⟨hT, hF, hP, hE, hO, k, hk, s1, s2, s3, ?_, Or.inr ⟨q1, rfl, g, hg, q3, q4, L, l1, l2, ?_⟩⟩
    · unfold g_10 g_87
      rw [if_neg ne]
      unfold g_88
      rw [if_pos rfl, show g_89 (I 16 3) (mm_up I 16 2 (I 16 2 + 1)) = some w from e1]
      try simp only [Option.bind_some, nr0, nr1, s_10, s_n10, s_n00, s_a, s_b, s_c, s_d, s_e, ↓reduceIte]
      rw [e2]
      show some (0, 0, _, mm_up LG 37 0 (I 16 1).toInt64) = _
      rw [s1]
    · unfold g_148
      rw [if_neg (show ¬ (mm_up (mm_up I 16 2 (I 16 2 + 1)) 16 3 v') 20 25 = 0 from tr), if_pos (show (0 : Int32) ≤ (mm_up (mm_up I 16 2 (I 16 2 + 1)) 16 3 v') 20 27 from ge), if_pos rfl]
      change Option.bind (g_149 (I 20 27) (mm_up (mm_up (mm_up (mm_up I 16 2 (I 16 2 + 1)) 16 3 v') 20 0 0) 20 28 (I 20 28 + 1))) _ = _
      rw [l4, e4]
      show some (I 20 29, _) = _
      rw [s2]
      rfl
    · show I 16 2 + 1 = I 20 28 + 1
      rw [s4]
    · rcases e3 with ⟨rfl, _⟩ | ⟨b, hb, rfl, ub, kb, _⟩
      · exact Or.inl rfl
      · refine Or.inr ⟨b, hb, rfl, fun i hi => ⟨ub i hi, ?_⟩⟩
        have := (l5 i hi).2
        have r1 := rv_le s
        have r2 := rv_le b
        unfold key at kb
        omega
  · -- the set forbids
    have hLi : ∀ i, i < k → L i < 1024 := fun i hi => Nat.lt_of_lt_of_le (l1 i hi).2 tg
    have ac : ∀ i j, i < k + 1 → j < k + 1 → i ≠ j → (fun i => if i = k then s else L i) i &&& (fun i => if i = k then s else L i) j ≠ (fun i => if i = k then s else L i) i := by
      intro i j hi hj hij
      show (if i = k then s else L i) &&& (if j = k then s else L j) ≠ (if i = k then s else L i)
      by_cases ik : i = k
      · rw [if_pos ik, if_neg (by omega)]
        intro q
        have hj' : j < k := by omega
        have e := sub_pc (by omega) (hLi j hj') q (l5 j hj').2
        apply (l5 j hj').1
        rw [← e, Nat.and_self]
      · rw [if_neg ik]
        by_cases jk : j = k
        · rw [if_pos jk]; exact (l5 i (by omega)).1
        · rw [if_neg jk]; exact l2 i j (by omega) (by omega) hij
    have lt : ∀ i, i < k + 1 → (fun i => if i = k then s else L i) i < 1024 := by
      intro i hi
      show (if i = k then s else L i) < 1024
      by_cases ik : i = k
      · rw [if_pos ik]; omega
      · rw [if_neg ik]; exact hLi i (by omega)
    have hk1 : k + 1 ≤ 252 := sperner lt ac
    have n252 : ¬ (252 : Int32) ≤ I 16 1 := by rw [s1]; exact k_ge (b := 252) (by rfl) (by rfl) (by omega) (by omega)
    obtain ⟨v, w, e1, e2, e3⟩ := walk_ok (L := fun i => if i = k then s else L i) (J := mm_up (mm_up (mm_up I 16 2 (I 16 2 + 1)) 17 k (I 16 3)) 16 1 (I 16 1 + 1)) (x1 := 1) hg hk1 (fun i hi => ⟨by
      show mm_up I 17 k (I 16 3) 17 i = nI (if i = k then s else L i)
      by_cases ik : i = k
      · rw [ik, up_same, if_pos rfl, h3]
      · rw [up_other ik, if_neg ik]; exact (s3 i (by omega)).trans (l1 i (by omega)).1, lt i hi⟩) (by show I 16 1 + 1 = _; rw [s1, nI_1]) q3 h3 hs
    obtain ⟨v', e4, e5⟩ := scan_ok (L := fun i => if i = k then s else L i) (M := mm_up (mm_up (mm_up (mm_up (mm_up (mm_up (mm_up (mm_up I 16 2 (I 16 2 + 1)) 17 k (I 16 3)) 16 1 (I 16 1 + 1)) 16 3 v) 20 0 0) 20 28 (I 20 28 + 1)) 31 k (I 20 27)) 20 29 (I 20 29 + 1)) hg hk1 (fun i hi => ⟨by
      show mm_up I 31 k (I 20 27) 31 i = nI (if i = k then s else L i)
      by_cases ik : i = k
      · rw [ik, up_same, if_pos rfl, l4]
      · rw [up_other ik, if_neg ik]; exact (l1 i (by omega)).1, lt i hi⟩) (by show I 20 29 + 1 = _; rw [s2, nI_1]) q4 hs
    have ev := cv_eq hg e5 e3
    subst ev
    refine pw_ok (J := mm_up (mm_up (mm_up (mm_up I 16 2 (I 16 2 + 1)) 17 k (I 16 3)) 16 1 (I 16 1 + 1)) 16 3 v') (K := mm_up (mm_up (mm_up (mm_up (mm_up (mm_up (mm_up (mm_up (mm_up I 16 2 (I 16 2 + 1)) 17 k (I 16 3)) 16 1 (I 16 1 + 1)) 16 3 v') 20 0 0) 20 28 (I 20 28 + 1)) 31 k (I 20 27)) 20 29 (I 20 29 + 1)) 20 27 v') (r := nI (k + 1)) (LG := LG) ?_ ?_ rfl ⟨hT, hF, hP, hE, hO, k + 1, hk1, ?_, ?_, ?_, ?_, Or.inr ⟨q1, rfl, g, hg, q3, q4, fun i => if i = k then s else L i, ?_, ac, ?_⟩⟩
    · unfold g_10 g_87
      rw [if_neg ne]
      unfold g_88
      rw [if_neg (by decide), if_neg n252, show ix (I 16 1) 252 = fun T => ix (nI k) 252 T from by rw [s1], show (fun T => ix (α := Mem) (nI k) 252 T) = fun T => T k from funext (fun T => ix_nI (by omega) (by omega) T)]
      try simp only [Option.bind_some, nr0, nr1, s_10, s_n10, s_n00, s_a, s_b, s_c, s_d, s_e, ↓reduceIte]
      rw [show g_89 (I 16 3) (mm_up (mm_up (mm_up I 16 2 (I 16 2 + 1)) 17 k (I 16 3)) 16 1 (I 16 1 + 1)) = some w from e1]
      try simp only [Option.bind_some, nr0, nr1, s_10, s_n10, s_n00, s_a, s_b, s_c, s_d, s_e, ↓reduceIte]
      rw [e2]
      show some (0, 0, _, mm_up LG 37 0 (I 16 1 + 1).toInt64) = _
      rw [s1, nI_1]
    · unfold g_148
      rw [if_neg (show ¬ (mm_up (mm_up (mm_up (mm_up I 16 2 (I 16 2 + 1)) 17 k (I 16 3)) 16 1 (I 16 1 + 1)) 16 3 v') 20 25 = 0 from tr), if_pos (show (0 : Int32) ≤ (mm_up (mm_up (mm_up (mm_up I 16 2 (I 16 2 + 1)) 17 k (I 16 3)) 16 1 (I 16 1 + 1)) 16 3 v') 20 27 from ge), if_neg (by decide)]
      have ixk : ∀ T : Nat → Option (Int32 × Mem), ix (I 20 29) 1024 T = T k := fun T => by rw [s2]; exact ix_nI (by omega) (by omega) T
      have e4' := (congrArg (fun z => g_149 z (mm_up (mm_up (mm_up (mm_up (mm_up (mm_up (mm_up (mm_up I 16 2 (I 16 2 + 1)) 17 k (I 16 3)) 16 1 (I 16 1 + 1)) 16 3 v') 20 0 0) 20 28 (I 20 28 + 1)) 31 k (I 20 27)) 20 29 (I 20 29 + 1))) l4).trans e4
      change ix (I 20 29) 1024 _ = _
      rw [ixk]
      change Option.bind (g_149 (I 20 27) (mm_up (mm_up (mm_up (mm_up (mm_up (mm_up (mm_up (mm_up I 16 2 (I 16 2 + 1)) 17 k (I 16 3)) 16 1 (I 16 1 + 1)) 16 3 v') 20 0 0) 20 28 (I 20 28 + 1)) 31 k (I 20 27)) 20 29 (I 20 29 + 1))) _ = _
      rw [show g_149 (I 20 27) (mm_up (mm_up (mm_up (mm_up (mm_up (mm_up (mm_up (mm_up I 16 2 (I 16 2 + 1)) 17 k (I 16 3)) 16 1 (I 16 1 + 1)) 16 3 v') 20 0 0) 20 28 (I 20 28 + 1)) 31 k (I 20 27)) 20 29 (I 20 29 + 1)) = some v' from e4', Option.bind_some]
      have er : I 20 29 + 1 = nI (k + 1) := by rw [s2, nI_1]
      exact congrArg (fun z => some (z, mm_up (mm_up (mm_up (mm_up (mm_up (mm_up (mm_up (mm_up (mm_up I 16 2 (I 16 2 + 1)) 17 k (I 16 3)) 16 1 (I 16 1 + 1)) 16 3 v') 20 0 0) 20 28 (I 20 28 + 1)) 31 k (I 20 27)) 20 29 (I 20 29 + 1)) 20 27 v')) er
    · show I 16 1 + 1 = _
      rw [s1, nI_1]
    · show I 20 29 + 1 = _
      rw [s2, nI_1]
    · intro i hi
      show mm_up I 17 k (I 16 3) 17 i = mm_up I 31 k (I 20 27) 31 i
      by_cases ik : i = k
      · rw [ik, up_same, up_same, q2]
      · rw [up_other ik, up_other ik]; exact s3 i (by omega)
    · show I 16 2 + 1 = I 20 28 + 1
      rw [s4]
    · intro i hi
      show mm_up I 31 k (I 20 27) 31 i = nI (if i = k then s else L i) ∧ (if i = k then s else L i) < 2 ^ g
      by_cases ik : i = k
      · rw [ik, up_same, if_pos rfl, l4]; exact ⟨rfl, hs⟩
      · rw [up_other ik, if_neg ik]; exact l1 i (by omega)
    · rcases e3 with ⟨rfl, _⟩ | ⟨b, hb, rfl, ub, kb, _⟩
      · exact Or.inl rfl
      · refine Or.inr ⟨b, hb, rfl, fun i hi => ⟨ub i hi, ?_⟩⟩
        have r1 := rv_le s
        have r2 := rv_le b
        show pc10 (if i = k then s else L i) ≤ pc10 b
        unfold key at kb
        by_cases ik : i = k
        · rw [if_pos ik]; omega
        · rw [if_neg ik]
          have := (l5 i (by omega)).2
          omega
end MMYD
