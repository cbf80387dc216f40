/-! THE TABLES HOLD: by program (wip/whole/gen/valid_part.py): the words of the Statement that stand behind them. -/
def t_WS : List Cond := lw_tbl.filter goodWord
theorem mm_ws {w : Cond} (h : mm_in w) : w ∈ t_WS := List.mem_filter.mpr ⟨h.1, h.2⟩
theorem mm_wsg : GoodIn t_WS t_WS := fun w h => ⟨h, good_of_word (List.mem_filter.mp h).2⟩
theorem mm_wsl : GoodIn lw_tbl t_WS := fun w h => ⟨(List.mem_filter.mp h).1, good_of_word (List.mem_filter.mp h).2⟩
theorem mm_fin2_in {α : Type} : ∀ {l : List (Nat × Nat × α)} {c k : Nat} {v : α}, mm_fin2 l c k = some v → (c, k, v) ∈ l
  | [], _, _, _, h => by cases h
  | q :: r, c, k, v, h => by
    unfold mm_fin2 at h
    cases hb : (Nat.beq q.1 c && Nat.beq q.2.1 k) with
    | false => rw [hb] at h; exact List.mem_cons_of_mem _ (mm_fin2_in h)
    | true =>
      rw [hb] at h
      obtain ⟨a, b, w⟩ := q
      have h1 : Nat.beq a c = true := by cases h2 : Nat.beq a c <;> simp_all
      have h2 : Nat.beq b k = true := by cases h3 : Nat.beq b k <;> simp_all
      cases Nat.eq_of_beq_eq_true h1
      cases Nat.eq_of_beq_eq_true h2
      cases h
      exact List.mem_cons_self
theorem mm_find_in {α : Type} : ∀ {l : List (Nat × α)} {k : Nat} {v : α}, mm_find l k = some v → (k, v) ∈ l
  | [], _, _, h => by cases h
  | q :: r, k, v, h => by
    unfold mm_find at h
    cases hb : Nat.beq q.1 k with
    | false => rw [hb] at h; exact List.mem_cons_of_mem _ (mm_find_in h)
    | true =>
      rw [hb] at h
      obtain ⟨a, w⟩ := q
      cases Nat.eq_of_beq_eq_true hb
      cases h
      exact List.mem_cons_self
def mm_cl (ci : Nat) (q : vw_C) : Prop := (∀ w ∈ u_ws q.1 q.2.1 q.2.2, w ∈ t_WS) ∧ q.2.2 = t_NF ci ∧ (∀ k, k < q.2.2 → parseFieldDescriptor (q.2.1 k).2.2.1 = some (t_TY ci k)) ∧ (∀ a, a < q.2.2 → ∀ b, b < q.2.2 → a ≠ b → (q.2.1 a).2.1 ≠ (q.2.1 b).2.1) ∧ (∀ k, k < q.2.2 → (q.2.1 k).2.2.2 = t_FN ci k ∧ (q.2.1 k).1 = q.1) ∧ Cond.instantiable q.1 q.2.2 ∈ t_WS ∧ Cond.initialized q.1 ∈ t_WS
set_option maxRecDepth 100000 in
theorem cu_0 : ∀ w ∈ u_ws "LitmusRows$Program" t_T0 11, w ∈ t_WS := by
  intro w hw
  obtain ⟨k, hk, rfl⟩ := List.mem_map.mp hw
  have hk := List.mem_range.mp hk
  match k, hk with
  | 0, _ => exact (mm_ws (mm_inp 171 rfl rfl))
  | 1, _ => exact (mm_ws (mm_inp 173 rfl rfl))
  | 2, _ => exact (mm_ws (mm_inp 175 rfl rfl))
  | 3, _ => exact (mm_ws (mm_inp 177 rfl rfl))
  | 4, _ => exact (mm_ws (mm_inp 179 rfl rfl))
  | 5, _ => exact (mm_ws (mm_inp 181 rfl rfl))
  | 6, _ => exact (mm_ws (mm_inp 183 rfl rfl))
  | 7, _ => exact (mm_ws (mm_inp 185 rfl rfl))
  | 8, _ => exact (mm_ws (mm_inp 187 rfl rfl))
  | 9, _ => exact (mm_ws (mm_inp 189 rfl rfl))
  | 10, _ => exact (mm_ws (mm_inp 191 rfl rfl))
  | k + 11, h => exact absurd h (by omega)
set_option maxRecDepth 100000 in
theorem cl_0 : mm_cl 0 ("LitmusRows$Program", t_T0, 11) := ⟨cu_0, rfl, by decide +kernel, by decide +kernel, by decide +kernel, (mm_ws (mm_inp 126 rfl rfl)), (mm_ws (mm_inp 63 rfl rfl))⟩
set_option maxRecDepth 100000 in
theorem cu_1 : ∀ w ∈ u_ws "LitmusRows$Reader" t_T1 4, w ∈ t_WS := by
  intro w hw
  obtain ⟨k, hk, rfl⟩ := List.mem_map.mp hw
  have hk := List.mem_range.mp hk
  match k, hk with
  | 0, _ => exact (mm_ws (mm_inp 203 rfl rfl))
  | 1, _ => exact (mm_ws (mm_inp 205 rfl rfl))
  | 2, _ => exact (mm_ws (mm_inp 207 rfl rfl))
  | 3, _ => exact (mm_ws (mm_inp 209 rfl rfl))
  | k + 4, h => exact absurd h (by omega)
set_option maxRecDepth 100000 in
theorem cl_1 : mm_cl 1 ("LitmusRows$Reader", t_T1, 4) := ⟨cu_1, rfl, by decide +kernel, by decide +kernel, by decide +kernel, (mm_ws (mm_inp 90 rfl rfl)), (mm_ws (mm_inp 61 rfl rfl))⟩
set_option maxRecDepth 100000 in
theorem cu_2 : ∀ w ∈ u_ws "LitmusRows$Ring" t_T2 4, w ∈ t_WS := by
  intro w hw
  obtain ⟨k, hk, rfl⟩ := List.mem_map.mp hw
  have hk := List.mem_range.mp hk
  match k, hk with
  | 0, _ => exact (mm_ws (mm_inp 223 rfl rfl))
  | 1, _ => exact (mm_ws (mm_inp 225 rfl rfl))
  | 2, _ => exact (mm_ws (mm_inp 227 rfl rfl))
  | 3, _ => exact (mm_ws (mm_inp 229 rfl rfl))
  | k + 4, h => exact absurd h (by omega)
set_option maxRecDepth 100000 in
theorem cl_2 : mm_cl 2 ("LitmusRows$Ring", t_T2, 4) := ⟨cu_2, rfl, by decide +kernel, by decide +kernel, by decide +kernel, (mm_ws (mm_inp 213 rfl rfl)), (mm_ws (mm_inp 64 rfl rfl))⟩
set_option maxRecDepth 100000 in
theorem cu_3 : ∀ w ∈ u_ws "LitmusRows$Sheet" t_T3 2, w ∈ t_WS := by
  intro w hw
  obtain ⟨k, hk, rfl⟩ := List.mem_map.mp hw
  have hk := List.mem_range.mp hk
  match k, hk with
  | 0, _ => exact (mm_ws (mm_inp 270 rfl rfl))
  | 1, _ => exact (mm_ws (mm_inp 272 rfl rfl))
  | k + 2, h => exact absurd h (by omega)
set_option maxRecDepth 100000 in
theorem cl_3 : mm_cl 3 ("LitmusRows$Sheet", t_T3, 2) := ⟨cu_3, rfl, by decide +kernel, by decide +kernel, by decide +kernel, (mm_ws (mm_inp 259 rfl rfl)), (mm_ws (mm_inp 66 rfl rfl))⟩
set_option maxRecDepth 100000 in
theorem cu_4 : ∀ w ∈ u_ws "LitmusRows$Text" t_T4 6, w ∈ t_WS := by
  intro w hw
  obtain ⟨k, hk, rfl⟩ := List.mem_map.mp hw
  have hk := List.mem_range.mp hk
  match k, hk with
  | 0, _ => exact (mm_ws (mm_inp 111 rfl rfl))
  | 1, _ => exact (mm_ws (mm_inp 113 rfl rfl))
  | 2, _ => exact (mm_ws (mm_inp 115 rfl rfl))
  | 3, _ => exact (mm_ws (mm_inp 117 rfl rfl))
  | 4, _ => exact (mm_ws (mm_inp 119 rfl rfl))
  | 5, _ => exact (mm_ws (mm_inp 121 rfl rfl))
  | k + 6, h => exact absurd h (by omega)
set_option maxRecDepth 100000 in
theorem cl_4 : mm_cl 4 ("LitmusRows$Text", t_T4, 6) := ⟨cu_4, rfl, by decide +kernel, by decide +kernel, by decide +kernel, (mm_ws (mm_inp 96 rfl rfl)), (mm_ws (mm_inp 62 rfl rfl))⟩
set_option maxRecDepth 100000 in
theorem cu_5 : ∀ w ∈ u_ws "LitmusRows$Trial" t_T5 5, w ∈ t_WS := by
  intro w hw
  obtain ⟨k, hk, rfl⟩ := List.mem_map.mp hw
  have hk := List.mem_range.mp hk
  match k, hk with
  | 0, _ => exact (mm_ws (mm_inp 247 rfl rfl))
  | 1, _ => exact (mm_ws (mm_inp 249 rfl rfl))
  | 2, _ => exact (mm_ws (mm_inp 251 rfl rfl))
  | 3, _ => exact (mm_ws (mm_inp 253 rfl rfl))
  | 4, _ => exact (mm_ws (mm_inp 255 rfl rfl))
  | k + 5, h => exact absurd h (by omega)
set_option maxRecDepth 100000 in
theorem cl_5 : mm_cl 5 ("LitmusRows$Trial", t_T5, 5) := ⟨cu_5, rfl, by decide +kernel, by decide +kernel, by decide +kernel, (mm_ws (mm_inp 233 rfl rfl)), (mm_ws (mm_inp 65 rfl rfl))⟩
set_option maxRecDepth 100000 in
theorem cu_6 : ∀ w ∈ u_ws "LitmusRows" t_T6 6, w ∈ t_WS := by
  intro w hw
  obtain ⟨k, hk, rfl⟩ := List.mem_map.mp hw
  have hk := List.mem_range.mp hk
  match k, hk with
  | 0, _ => exact (mm_ws (mm_inp 281 rfl rfl))
  | 1, _ => exact (mm_ws (mm_inp 283 rfl rfl))
  | 2, _ => exact (mm_ws (mm_inp 285 rfl rfl))
  | 3, _ => exact (mm_ws (mm_inp 287 rfl rfl))
  | 4, _ => exact (mm_ws (mm_inp 289 rfl rfl))
  | 5, _ => exact (mm_ws (mm_inp 291 rfl rfl))
  | k + 6, h => exact absurd h (by omega)
set_option maxRecDepth 100000 in
theorem cl_6 : mm_cl 6 ("LitmusRows", t_T6, 6) := ⟨cu_6, rfl, by decide +kernel, by decide +kernel, by decide +kernel, (mm_ws (mm_inp 82 rfl rfl)), (mm_ws (mm_inp 60 rfl rfl))⟩
set_option maxRecDepth 100000 in
theorem cu_7 : ∀ w ∈ u_ws "LitmusRowsModel" t_T7 36, w ∈ t_WS := by
  intro w hw
  obtain ⟨k, hk, rfl⟩ := List.mem_map.mp hw
  have hk := List.mem_range.mp hk
  match k, hk with
  | 0, _ => exact (mm_ws (mm_inp 891 rfl rfl))
  | 1, _ => exact (mm_ws (mm_inp 893 rfl rfl))
  | 2, _ => exact (mm_ws (mm_inp 895 rfl rfl))
  | 3, _ => exact (mm_ws (mm_inp 897 rfl rfl))
  | 4, _ => exact (mm_ws (mm_inp 899 rfl rfl))
  | 5, _ => exact (mm_ws (mm_inp 901 rfl rfl))
  | 6, _ => exact (mm_ws (mm_inp 903 rfl rfl))
  | 7, _ => exact (mm_ws (mm_inp 905 rfl rfl))
  | 8, _ => exact (mm_ws (mm_inp 907 rfl rfl))
  | 9, _ => exact (mm_ws (mm_inp 909 rfl rfl))
  | 10, _ => exact (mm_ws (mm_inp 911 rfl rfl))
  | 11, _ => exact (mm_ws (mm_inp 913 rfl rfl))
  | 12, _ => exact (mm_ws (mm_inp 915 rfl rfl))
  | 13, _ => exact (mm_ws (mm_inp 917 rfl rfl))
  | 14, _ => exact (mm_ws (mm_inp 919 rfl rfl))
  | 15, _ => exact (mm_ws (mm_inp 921 rfl rfl))
  | 16, _ => exact (mm_ws (mm_inp 923 rfl rfl))
  | 17, _ => exact (mm_ws (mm_inp 925 rfl rfl))
  | 18, _ => exact (mm_ws (mm_inp 927 rfl rfl))
  | 19, _ => exact (mm_ws (mm_inp 929 rfl rfl))
  | 20, _ => exact (mm_ws (mm_inp 931 rfl rfl))
  | 21, _ => exact (mm_ws (mm_inp 933 rfl rfl))
  | 22, _ => exact (mm_ws (mm_inp 935 rfl rfl))
  | 23, _ => exact (mm_ws (mm_inp 937 rfl rfl))
  | 24, _ => exact (mm_ws (mm_inp 939 rfl rfl))
  | 25, _ => exact (mm_ws (mm_inp 941 rfl rfl))
  | 26, _ => exact (mm_ws (mm_inp 943 rfl rfl))
  | 27, _ => exact (mm_ws (mm_inp 945 rfl rfl))
  | 28, _ => exact (mm_ws (mm_inp 947 rfl rfl))
  | 29, _ => exact (mm_ws (mm_inp 949 rfl rfl))
  | 30, _ => exact (mm_ws (mm_inp 951 rfl rfl))
  | 31, _ => exact (mm_ws (mm_inp 953 rfl rfl))
  | 32, _ => exact (mm_ws (mm_inp 955 rfl rfl))
  | 33, _ => exact (mm_ws (mm_inp 957 rfl rfl))
  | 34, _ => exact (mm_ws (mm_inp 959 rfl rfl))
  | 35, _ => exact (mm_ws (mm_inp 961 rfl rfl))
  | k + 36, h => exact absurd h (by omega)
set_option maxRecDepth 100000 in
theorem cl_7 : mm_cl 7 ("LitmusRowsModel", t_T7, 36) := ⟨cu_7, rfl, by decide +kernel, by decide +kernel, by decide +kernel, (mm_ws (mm_inp 850 rfl rfl)), (mm_ws (mm_inp 67 rfl rfl))⟩
set_option maxRecDepth 100000 in
theorem t_CLok {ci : Nat} {q : vw_C} (h : t_CL[ci]? = some q) : mm_cl ci q := by
  match ci, h with
  | 0, h => cases h; exact cl_0
  | 1, h => cases h; exact cl_1
  | 2, h => cases h; exact cl_2
  | 3, h => cases h; exact cl_3
  | 4, h => cases h; exact cl_4
  | 5, h => cases h; exact cl_5
  | 6, h => cases h; exact cl_6
  | 7, h => cases h; exact cl_7
  | k + 8, h => simp [t_CL] at h
def mm_fd (q : Nat × Nat × Nat × Nat) : Prop := ∃ z : vw_C, t_CL[q.2.2.1]? = some z ∧ q.2.2.2 < z.2.2 ∧ Cond.fieldLink (t_ON q.1) q.2.1 z.1 (z.2.1 q.2.2.2).2.1 (z.2.1 q.2.2.2).2.2.1 ∈ t_WS
set_option maxRecDepth 100000 in
theorem fd_0 : mm_fd ((6, 9, 4, 0)) := ⟨_, rfl, by decide, (mm_ws (mm_inp 101 rfl rfl))⟩
set_option maxRecDepth 100000 in
theorem fd_1 : mm_fd ((1, 47, 4, 1)) := ⟨_, rfl, by decide, (mm_ws (mm_inp 102 rfl rfl))⟩
set_option maxRecDepth 100000 in
theorem fd_2 : mm_fd ((6, 15, 4, 1)) := ⟨_, rfl, by decide, (mm_ws (mm_inp 103 rfl rfl))⟩
set_option maxRecDepth 100000 in
theorem fd_3 : mm_fd ((6, 32, 4, 2)) := ⟨_, rfl, by decide, (mm_ws (mm_inp 104 rfl rfl))⟩
set_option maxRecDepth 100000 in
theorem fd_4 : mm_fd ((3, 128, 4, 2)) := ⟨_, rfl, by decide, (mm_ws (mm_inp 105 rfl rfl))⟩
set_option maxRecDepth 100000 in
theorem fd_5 : mm_fd ((3, 55, 4, 3)) := ⟨_, rfl, by decide, (mm_ws (mm_inp 106 rfl rfl))⟩
set_option maxRecDepth 100000 in
theorem fd_6 : mm_fd ((6, 29, 4, 3)) := ⟨_, rfl, by decide, (mm_ws (mm_inp 107 rfl rfl))⟩
set_option maxRecDepth 100000 in
theorem fd_7 : mm_fd ((6, 23, 4, 4)) := ⟨_, rfl, by decide, (mm_ws (mm_inp 108 rfl rfl))⟩
set_option maxRecDepth 100000 in
theorem fd_8 : mm_fd ((6, 42, 4, 5)) := ⟨_, rfl, by decide, (mm_ws (mm_inp 109 rfl rfl))⟩
set_option maxRecDepth 100000 in
theorem fd_9 : mm_fd ((3, 100, 4, 5)) := ⟨_, rfl, by decide, (mm_ws (mm_inp 110 rfl rfl))⟩
set_option maxRecDepth 100000 in
theorem fd_10 : mm_fd ((2, 33, 0, 0)) := ⟨_, rfl, by decide, (mm_ws (mm_inp 131 rfl rfl))⟩
set_option maxRecDepth 100000 in
theorem fd_11 : mm_fd ((5, 19, 0, 0)) := ⟨_, rfl, by decide, (mm_ws (mm_inp 132 rfl rfl))⟩
set_option maxRecDepth 100000 in
theorem fd_12 : mm_fd ((3, 52, 0, 0)) := ⟨_, rfl, by decide, (mm_ws (mm_inp 133 rfl rfl))⟩
set_option maxRecDepth 100000 in
theorem fd_13 : mm_fd ((4, 77, 0, 0)) := ⟨_, rfl, by decide, (mm_ws (mm_inp 134 rfl rfl))⟩
set_option maxRecDepth 100000 in
theorem fd_14 : mm_fd ((1, 219, 0, 0)) := ⟨_, rfl, by decide, (mm_ws (mm_inp 135 rfl rfl))⟩
set_option maxRecDepth 100000 in
theorem fd_15 : mm_fd ((2, 37, 0, 1)) := ⟨_, rfl, by decide, (mm_ws (mm_inp 136 rfl rfl))⟩
set_option maxRecDepth 100000 in
theorem fd_16 : mm_fd ((5, 32, 0, 1)) := ⟨_, rfl, by decide, (mm_ws (mm_inp 137 rfl rfl))⟩
set_option maxRecDepth 100000 in
theorem fd_17 : mm_fd ((3, 73, 0, 1)) := ⟨_, rfl, by decide, (mm_ws (mm_inp 138 rfl rfl))⟩
set_option maxRecDepth 100000 in
theorem fd_18 : mm_fd ((1, 94, 0, 1)) := ⟨_, rfl, by decide, (mm_ws (mm_inp 139 rfl rfl))⟩
set_option maxRecDepth 100000 in
theorem fd_19 : mm_fd ((2, 40, 0, 2)) := ⟨_, rfl, by decide, (mm_ws (mm_inp 140 rfl rfl))⟩
set_option maxRecDepth 100000 in
theorem fd_20 : mm_fd ((5, 76, 0, 2)) := ⟨_, rfl, by decide, (mm_ws (mm_inp 141 rfl rfl))⟩
set_option maxRecDepth 100000 in
theorem fd_21 : mm_fd ((4, 59, 0, 2)) := ⟨_, rfl, by decide, (mm_ws (mm_inp 142 rfl rfl))⟩
set_option maxRecDepth 100000 in
theorem fd_22 : mm_fd ((3, 116, 0, 2)) := ⟨_, rfl, by decide, (mm_ws (mm_inp 143 rfl rfl))⟩
set_option maxRecDepth 100000 in
theorem fd_23 : mm_fd ((1, 145, 0, 2)) := ⟨_, rfl, by decide, (mm_ws (mm_inp 144 rfl rfl))⟩
set_option maxRecDepth 100000 in
theorem fd_24 : mm_fd ((2, 43, 0, 3)) := ⟨_, rfl, by decide, (mm_ws (mm_inp 145 rfl rfl))⟩
set_option maxRecDepth 100000 in
theorem fd_25 : mm_fd ((5, 52, 0, 3)) := ⟨_, rfl, by decide, (mm_ws (mm_inp 146 rfl rfl))⟩
set_option maxRecDepth 100000 in
theorem fd_26 : mm_fd ((4, 62, 0, 3)) := ⟨_, rfl, by decide, (mm_ws (mm_inp 147 rfl rfl))⟩
set_option maxRecDepth 100000 in
theorem fd_27 : mm_fd ((3, 105, 0, 3)) := ⟨_, rfl, by decide, (mm_ws (mm_inp 148 rfl rfl))⟩
set_option maxRecDepth 100000 in
theorem fd_28 : mm_fd ((1, 222, 0, 3)) := ⟨_, rfl, by decide, (mm_ws (mm_inp 149 rfl rfl))⟩
set_option maxRecDepth 100000 in
theorem fd_29 : mm_fd ((2, 9, 0, 4)) := ⟨_, rfl, by decide, (mm_ws (mm_inp 150 rfl rfl))⟩
set_option maxRecDepth 100000 in
theorem fd_30 : mm_fd ((5, 35, 0, 4)) := ⟨_, rfl, by decide, (mm_ws (mm_inp 151 rfl rfl))⟩
set_option maxRecDepth 100000 in
theorem fd_31 : mm_fd ((1, 132, 0, 4)) := ⟨_, rfl, by decide, (mm_ws (mm_inp 152 rfl rfl))⟩
set_option maxRecDepth 100000 in
theorem fd_32 : mm_fd ((2, 15, 0, 5)) := ⟨_, rfl, by decide, (mm_ws (mm_inp 153 rfl rfl))⟩
set_option maxRecDepth 100000 in
theorem fd_33 : mm_fd ((5, 39, 0, 5)) := ⟨_, rfl, by decide, (mm_ws (mm_inp 154 rfl rfl))⟩
set_option maxRecDepth 100000 in
theorem fd_34 : mm_fd ((1, 136, 0, 5)) := ⟨_, rfl, by decide, (mm_ws (mm_inp 155 rfl rfl))⟩
set_option maxRecDepth 100000 in
theorem fd_35 : mm_fd ((2, 18, 0, 6)) := ⟨_, rfl, by decide, (mm_ws (mm_inp 156 rfl rfl))⟩
set_option maxRecDepth 100000 in
theorem fd_36 : mm_fd ((5, 42, 0, 6)) := ⟨_, rfl, by decide, (mm_ws (mm_inp 157 rfl rfl))⟩
set_option maxRecDepth 100000 in
theorem fd_37 : mm_fd ((1, 139, 0, 6)) := ⟨_, rfl, by decide, (mm_ws (mm_inp 158 rfl rfl))⟩
set_option maxRecDepth 100000 in
theorem fd_38 : mm_fd ((2, 21, 0, 7)) := ⟨_, rfl, by decide, (mm_ws (mm_inp 159 rfl rfl))⟩
set_option maxRecDepth 100000 in
theorem fd_39 : mm_fd ((5, 45, 0, 7)) := ⟨_, rfl, by decide, (mm_ws (mm_inp 160 rfl rfl))⟩
set_option maxRecDepth 100000 in
theorem fd_40 : mm_fd ((1, 142, 0, 7)) := ⟨_, rfl, by decide, (mm_ws (mm_inp 161 rfl rfl))⟩
set_option maxRecDepth 100000 in
theorem fd_41 : mm_fd ((2, 24, 0, 8)) := ⟨_, rfl, by decide, (mm_ws (mm_inp 162 rfl rfl))⟩
set_option maxRecDepth 100000 in
theorem fd_42 : mm_fd ((5, 81, 0, 8)) := ⟨_, rfl, by decide, (mm_ws (mm_inp 163 rfl rfl))⟩
set_option maxRecDepth 100000 in
theorem fd_43 : mm_fd ((1, 150, 0, 8)) := ⟨_, rfl, by decide, (mm_ws (mm_inp 164 rfl rfl))⟩
set_option maxRecDepth 100000 in
theorem fd_44 : mm_fd ((2, 27, 0, 9)) := ⟨_, rfl, by decide, (mm_ws (mm_inp 165 rfl rfl))⟩
set_option maxRecDepth 100000 in
theorem fd_45 : mm_fd ((5, 84, 0, 9)) := ⟨_, rfl, by decide, (mm_ws (mm_inp 166 rfl rfl))⟩
set_option maxRecDepth 100000 in
theorem fd_46 : mm_fd ((1, 153, 0, 9)) := ⟨_, rfl, by decide, (mm_ws (mm_inp 167 rfl rfl))⟩
set_option maxRecDepth 100000 in
theorem fd_47 : mm_fd ((2, 30, 0, 10)) := ⟨_, rfl, by decide, (mm_ws (mm_inp 168 rfl rfl))⟩
set_option maxRecDepth 100000 in
theorem fd_48 : mm_fd ((5, 89, 0, 10)) := ⟨_, rfl, by decide, (mm_ws (mm_inp 169 rfl rfl))⟩
set_option maxRecDepth 100000 in
theorem fd_49 : mm_fd ((1, 156, 0, 10)) := ⟨_, rfl, by decide, (mm_ws (mm_inp 170 rfl rfl))⟩
set_option maxRecDepth 100000 in
theorem fd_50 : mm_fd ((3, 12, 1, 0)) := ⟨_, rfl, by decide, (mm_ws (mm_inp 195 rfl rfl))⟩
set_option maxRecDepth 100000 in
theorem fd_51 : mm_fd ((1, 16, 1, 0)) := ⟨_, rfl, by decide, (mm_ws (mm_inp 196 rfl rfl))⟩
set_option maxRecDepth 100000 in
theorem fd_52 : mm_fd ((3, 21, 1, 1)) := ⟨_, rfl, by decide, (mm_ws (mm_inp 197 rfl rfl))⟩
set_option maxRecDepth 100000 in
theorem fd_53 : mm_fd ((1, 21, 1, 1)) := ⟨_, rfl, by decide, (mm_ws (mm_inp 198 rfl rfl))⟩
set_option maxRecDepth 100000 in
theorem fd_54 : mm_fd ((3, 28, 1, 2)) := ⟨_, rfl, by decide, (mm_ws (mm_inp 199 rfl rfl))⟩
set_option maxRecDepth 100000 in
theorem fd_55 : mm_fd ((1, 102, 1, 2)) := ⟨_, rfl, by decide, (mm_ws (mm_inp 200 rfl rfl))⟩
set_option maxRecDepth 100000 in
theorem fd_56 : mm_fd ((3, 32, 1, 3)) := ⟨_, rfl, by decide, (mm_ws (mm_inp 201 rfl rfl))⟩
set_option maxRecDepth 100000 in
theorem fd_57 : mm_fd ((1, 105, 1, 3)) := ⟨_, rfl, by decide, (mm_ws (mm_inp 202 rfl rfl))⟩
set_option maxRecDepth 100000 in
theorem fd_58 : mm_fd ((4, 9, 2, 0)) := ⟨_, rfl, by decide, (mm_ws (mm_inp 218 rfl rfl))⟩
set_option maxRecDepth 100000 in
theorem fd_59 : mm_fd ((4, 15, 2, 1)) := ⟨_, rfl, by decide, (mm_ws (mm_inp 219 rfl rfl))⟩
set_option maxRecDepth 100000 in
theorem fd_60 : mm_fd ((4, 18, 2, 2)) := ⟨_, rfl, by decide, (mm_ws (mm_inp 220 rfl rfl))⟩
set_option maxRecDepth 100000 in
theorem fd_61 : mm_fd ((4, 21, 2, 3)) := ⟨_, rfl, by decide, (mm_ws (mm_inp 221 rfl rfl))⟩
set_option maxRecDepth 100000 in
theorem fd_62 : mm_fd ((1, 110, 2, 3)) := ⟨_, rfl, by decide, (mm_ws (mm_inp 222 rfl rfl))⟩
set_option maxRecDepth 100000 in
theorem fd_63 : mm_fd ((7, 11, 5, 0)) := ⟨_, rfl, by decide, (mm_ws (mm_inp 238 rfl rfl))⟩
set_option maxRecDepth 100000 in
theorem fd_64 : mm_fd ((1, 184, 5, 0)) := ⟨_, rfl, by decide, (mm_ws (mm_inp 239 rfl rfl))⟩
set_option maxRecDepth 100000 in
theorem fd_65 : mm_fd ((7, 19, 5, 1)) := ⟨_, rfl, by decide, (mm_ws (mm_inp 240 rfl rfl))⟩
set_option maxRecDepth 100000 in
theorem fd_66 : mm_fd ((1, 179, 5, 1)) := ⟨_, rfl, by decide, (mm_ws (mm_inp 241 rfl rfl))⟩
set_option maxRecDepth 100000 in
theorem fd_67 : mm_fd ((7, 22, 5, 2)) := ⟨_, rfl, by decide, (mm_ws (mm_inp 242 rfl rfl))⟩
set_option maxRecDepth 100000 in
theorem fd_68 : mm_fd ((1, 225, 5, 2)) := ⟨_, rfl, by decide, (mm_ws (mm_inp 243 rfl rfl))⟩
set_option maxRecDepth 100000 in
theorem fd_69 : mm_fd ((7, 15, 5, 3)) := ⟨_, rfl, by decide, (mm_ws (mm_inp 244 rfl rfl))⟩
set_option maxRecDepth 100000 in
theorem fd_70 : mm_fd ((1, 170, 5, 3)) := ⟨_, rfl, by decide, (mm_ws (mm_inp 245 rfl rfl))⟩
set_option maxRecDepth 100000 in
theorem fd_71 : mm_fd ((7, 25, 5, 4)) := ⟨_, rfl, by decide, (mm_ws (mm_inp 246 rfl rfl))⟩
set_option maxRecDepth 100000 in
theorem fd_72 : mm_fd ((5, 11, 3, 0)) := ⟨_, rfl, by decide, (mm_ws (mm_inp 264 rfl rfl))⟩
set_option maxRecDepth 100000 in
theorem fd_73 : mm_fd ((6, 22, 3, 0)) := ⟨_, rfl, by decide, (mm_ws (mm_inp 265 rfl rfl))⟩
set_option maxRecDepth 100000 in
theorem fd_74 : mm_fd ((1, 211, 3, 0)) := ⟨_, rfl, by decide, (mm_ws (mm_inp 266 rfl rfl))⟩
set_option maxRecDepth 100000 in
theorem fd_75 : mm_fd ((5, 15, 3, 1)) := ⟨_, rfl, by decide, (mm_ws (mm_inp 267 rfl rfl))⟩
set_option maxRecDepth 100000 in
theorem fd_76 : mm_fd ((6, 19, 3, 1)) := ⟨_, rfl, by decide, (mm_ws (mm_inp 268 rfl rfl))⟩
set_option maxRecDepth 100000 in
theorem fd_77 : mm_fd ((1, 208, 3, 1)) := ⟨_, rfl, by decide, (mm_ws (mm_inp 269 rfl rfl))⟩
set_option maxRecDepth 100000 in
theorem fd_78 : mm_fd ((1, 10, 6, 0)) := ⟨_, rfl, by decide, (mm_ws (mm_inp 275 rfl rfl))⟩
set_option maxRecDepth 100000 in
theorem fd_79 : mm_fd ((1, 20, 6, 1)) := ⟨_, rfl, by decide, (mm_ws (mm_inp 276 rfl rfl))⟩
set_option maxRecDepth 100000 in
theorem fd_80 : mm_fd ((1, 25, 6, 2)) := ⟨_, rfl, by decide, (mm_ws (mm_inp 277 rfl rfl))⟩
set_option maxRecDepth 100000 in
theorem fd_81 : mm_fd ((1, 29, 6, 3)) := ⟨_, rfl, by decide, (mm_ws (mm_inp 278 rfl rfl))⟩
set_option maxRecDepth 100000 in
theorem fd_82 : mm_fd ((1, 36, 6, 4)) := ⟨_, rfl, by decide, (mm_ws (mm_inp 279 rfl rfl))⟩
set_option maxRecDepth 100000 in
theorem fd_83 : mm_fd ((1, 43, 6, 5)) := ⟨_, rfl, by decide, (mm_ws (mm_inp 280 rfl rfl))⟩
set_option maxRecDepth 100000 in
theorem fd_84 : mm_fd ((8, 58, 7, 0)) := ⟨_, rfl, by decide, (mm_ws (mm_inp 855 rfl rfl))⟩
set_option maxRecDepth 100000 in
theorem fd_85 : mm_fd ((8, 62, 7, 1)) := ⟨_, rfl, by decide, (mm_ws (mm_inp 856 rfl rfl))⟩
set_option maxRecDepth 100000 in
theorem fd_86 : mm_fd ((8, 7, 7, 2)) := ⟨_, rfl, by decide, (mm_ws (mm_inp 857 rfl rfl))⟩
set_option maxRecDepth 100000 in
theorem fd_87 : mm_fd ((8, 95, 7, 3)) := ⟨_, rfl, by decide, (mm_ws (mm_inp 858 rfl rfl))⟩
set_option maxRecDepth 100000 in
theorem fd_88 : mm_fd ((8, 98, 7, 4)) := ⟨_, rfl, by decide, (mm_ws (mm_inp 859 rfl rfl))⟩
set_option maxRecDepth 100000 in
theorem fd_89 : mm_fd ((8, 183, 7, 5)) := ⟨_, rfl, by decide, (mm_ws (mm_inp 860 rfl rfl))⟩
set_option maxRecDepth 100000 in
theorem fd_90 : mm_fd ((8, 142, 7, 6)) := ⟨_, rfl, by decide, (mm_ws (mm_inp 861 rfl rfl))⟩
set_option maxRecDepth 100000 in
theorem fd_91 : mm_fd ((8, 118, 7, 7)) := ⟨_, rfl, by decide, (mm_ws (mm_inp 862 rfl rfl))⟩
set_option maxRecDepth 100000 in
theorem fd_92 : mm_fd ((8, 148, 7, 8)) := ⟨_, rfl, by decide, (mm_ws (mm_inp 863 rfl rfl))⟩
set_option maxRecDepth 100000 in
theorem fd_93 : mm_fd ((8, 161, 7, 9)) := ⟨_, rfl, by decide, (mm_ws (mm_inp 864 rfl rfl))⟩
set_option maxRecDepth 100000 in
theorem fd_94 : mm_fd ((8, 13, 7, 10)) := ⟨_, rfl, by decide, (mm_ws (mm_inp 865 rfl rfl))⟩
set_option maxRecDepth 100000 in
theorem fd_95 : mm_fd ((8, 16, 7, 11)) := ⟨_, rfl, by decide, (mm_ws (mm_inp 866 rfl rfl))⟩
set_option maxRecDepth 100000 in
theorem fd_96 : mm_fd ((8, 19, 7, 12)) := ⟨_, rfl, by decide, (mm_ws (mm_inp 867 rfl rfl))⟩
set_option maxRecDepth 100000 in
theorem fd_97 : mm_fd ((8, 22, 7, 13)) := ⟨_, rfl, by decide, (mm_ws (mm_inp 868 rfl rfl))⟩
set_option maxRecDepth 100000 in
theorem fd_98 : mm_fd ((8, 25, 7, 14)) := ⟨_, rfl, by decide, (mm_ws (mm_inp 869 rfl rfl))⟩
set_option maxRecDepth 100000 in
theorem fd_99 : mm_fd ((8, 28, 7, 15)) := ⟨_, rfl, by decide, (mm_ws (mm_inp 870 rfl rfl))⟩
set_option maxRecDepth 100000 in
theorem fd_100 : mm_fd ((8, 31, 7, 16)) := ⟨_, rfl, by decide, (mm_ws (mm_inp 871 rfl rfl))⟩
set_option maxRecDepth 100000 in
theorem fd_101 : mm_fd ((8, 82, 7, 17)) := ⟨_, rfl, by decide, (mm_ws (mm_inp 872 rfl rfl))⟩
set_option maxRecDepth 100000 in
theorem fd_102 : mm_fd ((8, 76, 7, 18)) := ⟨_, rfl, by decide, (mm_ws (mm_inp 873 rfl rfl))⟩
set_option maxRecDepth 100000 in
theorem fd_103 : mm_fd ((8, 73, 7, 19)) := ⟨_, rfl, by decide, (mm_ws (mm_inp 874 rfl rfl))⟩
set_option maxRecDepth 100000 in
theorem fd_104 : mm_fd ((8, 92, 7, 20)) := ⟨_, rfl, by decide, (mm_ws (mm_inp 875 rfl rfl))⟩
set_option maxRecDepth 100000 in
theorem fd_105 : mm_fd ((8, 186, 7, 21)) := ⟨_, rfl, by decide, (mm_ws (mm_inp 876 rfl rfl))⟩
set_option maxRecDepth 100000 in
theorem fd_106 : mm_fd ((8, 34, 7, 22)) := ⟨_, rfl, by decide, (mm_ws (mm_inp 877 rfl rfl))⟩
set_option maxRecDepth 100000 in
theorem fd_107 : mm_fd ((8, 232, 7, 23)) := ⟨_, rfl, by decide, (mm_ws (mm_inp 878 rfl rfl))⟩
set_option maxRecDepth 100000 in
theorem fd_108 : mm_fd ((8, 37, 7, 24)) := ⟨_, rfl, by decide, (mm_ws (mm_inp 879 rfl rfl))⟩
set_option maxRecDepth 100000 in
theorem fd_109 : mm_fd ((8, 167, 7, 25)) := ⟨_, rfl, by decide, (mm_ws (mm_inp 880 rfl rfl))⟩
set_option maxRecDepth 100000 in
theorem fd_110 : mm_fd ((8, 214, 7, 26)) := ⟨_, rfl, by decide, (mm_ws (mm_inp 881 rfl rfl))⟩
set_option maxRecDepth 100000 in
theorem fd_111 : mm_fd ((8, 226, 7, 27)) := ⟨_, rfl, by decide, (mm_ws (mm_inp 882 rfl rfl))⟩
set_option maxRecDepth 100000 in
theorem fd_112 : mm_fd ((8, 174, 7, 28)) := ⟨_, rfl, by decide, (mm_ws (mm_inp 883 rfl rfl))⟩
set_option maxRecDepth 100000 in
theorem fd_113 : mm_fd ((8, 171, 7, 29)) := ⟨_, rfl, by decide, (mm_ws (mm_inp 884 rfl rfl))⟩
set_option maxRecDepth 100000 in
theorem fd_114 : mm_fd ((8, 40, 7, 30)) := ⟨_, rfl, by decide, (mm_ws (mm_inp 885 rfl rfl))⟩
set_option maxRecDepth 100000 in
theorem fd_115 : mm_fd ((8, 43, 7, 31)) := ⟨_, rfl, by decide, (mm_ws (mm_inp 886 rfl rfl))⟩
set_option maxRecDepth 100000 in
theorem fd_116 : mm_fd ((8, 46, 7, 32)) := ⟨_, rfl, by decide, (mm_ws (mm_inp 887 rfl rfl))⟩
set_option maxRecDepth 100000 in
theorem fd_117 : mm_fd ((8, 49, 7, 33)) := ⟨_, rfl, by decide, (mm_ws (mm_inp 888 rfl rfl))⟩
set_option maxRecDepth 100000 in
theorem fd_118 : mm_fd ((8, 52, 7, 34)) := ⟨_, rfl, by decide, (mm_ws (mm_inp 889 rfl rfl))⟩
set_option maxRecDepth 100000 in
theorem fd_119 : mm_fd ((8, 55, 7, 35)) := ⟨_, rfl, by decide, (mm_ws (mm_inp 890 rfl rfl))⟩
set_option maxRecDepth 100000 in
theorem fd_all : ∀ q ∈ t_FDl, mm_fd q := List.forall_mem_cons.mpr ⟨fd_0, List.forall_mem_cons.mpr ⟨fd_1, List.forall_mem_cons.mpr ⟨fd_2, List.forall_mem_cons.mpr ⟨fd_3, List.forall_mem_cons.mpr ⟨fd_4, List.forall_mem_cons.mpr ⟨fd_5, List.forall_mem_cons.mpr ⟨fd_6, List.forall_mem_cons.mpr ⟨fd_7, List.forall_mem_cons.mpr ⟨fd_8, List.forall_mem_cons.mpr ⟨fd_9, List.forall_mem_cons.mpr ⟨fd_10, List.forall_mem_cons.mpr ⟨fd_11, List.forall_mem_cons.mpr ⟨fd_12, List.forall_mem_cons.mpr ⟨fd_13, List.forall_mem_cons.mpr ⟨fd_14, List.forall_mem_cons.mpr ⟨fd_15, List.forall_mem_cons.mpr ⟨fd_16, List.forall_mem_cons.mpr ⟨fd_17, List.forall_mem_cons.mpr ⟨fd_18, List.forall_mem_cons.mpr ⟨fd_19, List.forall_mem_cons.mpr ⟨fd_20, List.forall_mem_cons.mpr ⟨fd_21, List.forall_mem_cons.mpr ⟨fd_22, List.forall_mem_cons.mpr ⟨fd_23, List.forall_mem_cons.mpr ⟨fd_24, List.forall_mem_cons.mpr ⟨fd_25, List.forall_mem_cons.mpr ⟨fd_26, List.forall_mem_cons.mpr ⟨fd_27, List.forall_mem_cons.mpr ⟨fd_28, List.forall_mem_cons.mpr ⟨fd_29, List.forall_mem_cons.mpr ⟨fd_30, List.forall_mem_cons.mpr ⟨fd_31, List.forall_mem_cons.mpr ⟨fd_32, List.forall_mem_cons.mpr ⟨fd_33, List.forall_mem_cons.mpr ⟨fd_34, List.forall_mem_cons.mpr ⟨fd_35, List.forall_mem_cons.mpr ⟨fd_36, List.forall_mem_cons.mpr ⟨fd_37, List.forall_mem_cons.mpr ⟨fd_38, List.forall_mem_cons.mpr ⟨fd_39, List.forall_mem_cons.mpr ⟨fd_40, List.forall_mem_cons.mpr ⟨fd_41, List.forall_mem_cons.mpr ⟨fd_42, List.forall_mem_cons.mpr ⟨fd_43, List.forall_mem_cons.mpr ⟨fd_44, List.forall_mem_cons.mpr ⟨fd_45, List.forall_mem_cons.mpr ⟨fd_46, List.forall_mem_cons.mpr ⟨fd_47, List.forall_mem_cons.mpr ⟨fd_48, List.forall_mem_cons.mpr ⟨fd_49, List.forall_mem_cons.mpr ⟨fd_50, List.forall_mem_cons.mpr ⟨fd_51, List.forall_mem_cons.mpr ⟨fd_52, List.forall_mem_cons.mpr ⟨fd_53, List.forall_mem_cons.mpr ⟨fd_54, List.forall_mem_cons.mpr ⟨fd_55, List.forall_mem_cons.mpr ⟨fd_56, List.forall_mem_cons.mpr ⟨fd_57, List.forall_mem_cons.mpr ⟨fd_58, List.forall_mem_cons.mpr ⟨fd_59, List.forall_mem_cons.mpr ⟨fd_60, List.forall_mem_cons.mpr ⟨fd_61, List.forall_mem_cons.mpr ⟨fd_62, List.forall_mem_cons.mpr ⟨fd_63, List.forall_mem_cons.mpr ⟨fd_64, List.forall_mem_cons.mpr ⟨fd_65, List.forall_mem_cons.mpr ⟨fd_66, List.forall_mem_cons.mpr ⟨fd_67, List.forall_mem_cons.mpr ⟨fd_68, List.forall_mem_cons.mpr ⟨fd_69, List.forall_mem_cons.mpr ⟨fd_70, List.forall_mem_cons.mpr ⟨fd_71, List.forall_mem_cons.mpr ⟨fd_72, List.forall_mem_cons.mpr ⟨fd_73, List.forall_mem_cons.mpr ⟨fd_74, List.forall_mem_cons.mpr ⟨fd_75, List.forall_mem_cons.mpr ⟨fd_76, List.forall_mem_cons.mpr ⟨fd_77, List.forall_mem_cons.mpr ⟨fd_78, List.forall_mem_cons.mpr ⟨fd_79, List.forall_mem_cons.mpr ⟨fd_80, List.forall_mem_cons.mpr ⟨fd_81, List.forall_mem_cons.mpr ⟨fd_82, List.forall_mem_cons.mpr ⟨fd_83, List.forall_mem_cons.mpr ⟨fd_84, List.forall_mem_cons.mpr ⟨fd_85, List.forall_mem_cons.mpr ⟨fd_86, List.forall_mem_cons.mpr ⟨fd_87, List.forall_mem_cons.mpr ⟨fd_88, List.forall_mem_cons.mpr ⟨fd_89, List.forall_mem_cons.mpr ⟨fd_90, List.forall_mem_cons.mpr ⟨fd_91, List.forall_mem_cons.mpr ⟨fd_92, List.forall_mem_cons.mpr ⟨fd_93, List.forall_mem_cons.mpr ⟨fd_94, List.forall_mem_cons.mpr ⟨fd_95, List.forall_mem_cons.mpr ⟨fd_96, List.forall_mem_cons.mpr ⟨fd_97, List.forall_mem_cons.mpr ⟨fd_98, List.forall_mem_cons.mpr ⟨fd_99, List.forall_mem_cons.mpr ⟨fd_100, List.forall_mem_cons.mpr ⟨fd_101, List.forall_mem_cons.mpr ⟨fd_102, List.forall_mem_cons.mpr ⟨fd_103, List.forall_mem_cons.mpr ⟨fd_104, List.forall_mem_cons.mpr ⟨fd_105, List.forall_mem_cons.mpr ⟨fd_106, List.forall_mem_cons.mpr ⟨fd_107, List.forall_mem_cons.mpr ⟨fd_108, List.forall_mem_cons.mpr ⟨fd_109, List.forall_mem_cons.mpr ⟨fd_110, List.forall_mem_cons.mpr ⟨fd_111, List.forall_mem_cons.mpr ⟨fd_112, List.forall_mem_cons.mpr ⟨fd_113, List.forall_mem_cons.mpr ⟨fd_114, List.forall_mem_cons.mpr ⟨fd_115, List.forall_mem_cons.mpr ⟨fd_116, List.forall_mem_cons.mpr ⟨fd_117, List.forall_mem_cons.mpr ⟨fd_118, List.forall_mem_cons.mpr ⟨fd_119, fun _ h => absurd h List.not_mem_nil⟩⟩⟩⟩⟩⟩⟩⟩⟩⟩⟩⟩⟩⟩⟩⟩⟩⟩⟩⟩⟩⟩⟩⟩⟩⟩⟩⟩⟩⟩⟩⟩⟩⟩⟩⟩⟩⟩⟩⟩⟩⟩⟩⟩⟩⟩⟩⟩⟩⟩⟩⟩⟩⟩⟩⟩⟩⟩⟩⟩⟩⟩⟩⟩⟩⟩⟩⟩⟩⟩⟩⟩⟩⟩⟩⟩⟩⟩⟩⟩⟩⟩⟩⟩⟩⟩⟩⟩⟩⟩⟩⟩⟩⟩⟩⟩⟩⟩⟩⟩⟩⟩⟩⟩⟩⟩⟩⟩⟩⟩⟩⟩⟩⟩⟩⟩⟩⟩⟩⟩
def t_EN (x : Nat) : String := (["java/lang/IllegalStateException", "java/lang/IllegalArgumentException", "java/lang/IndexOutOfBoundsException", "java/lang/UnsupportedOperationException"] : List String).getD x ""
def mm_nwp (q : Nat × Nat × Nat) : Prop := (q.2.2 < 8 → ∃ z : vw_C, t_CL[q.2.2]? = some z ∧ Cond.classLink (t_ON q.1) q.2.1 z.1 ∈ t_WS) ∧ (100 ≤ q.2.2 → Cond.classLink (t_ON q.1) q.2.1 (t_EN (q.2.2 - 100)) ∈ t_WS ∧ Cond.initialized (t_EN (q.2.2 - 100)) ∈ t_WS ∧ Cond.instantiable (t_EN (q.2.2 - 100)) 6 ∈ t_WS)
set_option maxRecDepth 100000 in
theorem nw_0 : mm_nwp ((0, 8, 6)) := ⟨fun _ => ⟨_, rfl, (mm_ws (mm_inp 81 rfl rfl))⟩, fun h => absurd h (by decide)⟩
set_option maxRecDepth 100000 in
theorem nw_1 : mm_nwp ((1, 7, 1)) := ⟨fun _ => ⟨_, rfl, (mm_ws (mm_inp 89 rfl rfl))⟩, fun h => absurd h (by decide)⟩
set_option maxRecDepth 100000 in
theorem nw_2 : mm_nwp ((3, 9, 4)) := ⟨fun _ => ⟨_, rfl, (mm_ws (mm_inp 95 rfl rfl))⟩, fun h => absurd h (by decide)⟩
set_option maxRecDepth 100000 in
theorem nw_3 : mm_nwp ((3, 18, 0)) := ⟨fun _ => ⟨_, rfl, (mm_ws (mm_inp 125 rfl rfl))⟩, fun h => absurd h (by decide)⟩
set_option maxRecDepth 100000 in
theorem nw_4 : mm_nwp ((1, 26, 2)) := ⟨fun _ => ⟨_, rfl, (mm_ws (mm_inp 212 rfl rfl))⟩, fun h => absurd h (by decide)⟩
set_option maxRecDepth 100000 in
theorem nw_5 : mm_nwp ((1, 33, 5)) := ⟨fun _ => ⟨_, rfl, (mm_ws (mm_inp 232 rfl rfl))⟩, fun h => absurd h (by decide)⟩
set_option maxRecDepth 100000 in
theorem nw_6 : mm_nwp ((1, 40, 3)) := ⟨fun _ => ⟨_, rfl, (mm_ws (mm_inp 258 rfl rfl))⟩, fun h => absurd h (by decide)⟩
set_option maxRecDepth 100000 in
theorem nw_7 : mm_nwp ((0, 13, 100)) := ⟨fun h => absurd h (by decide), fun _ => ⟨(mm_ws (mm_inp 313 rfl rfl)), (mm_ws (mm_inp 71 rfl rfl)), (mm_ws (mm_inp 319 rfl rfl))⟩⟩
set_option maxRecDepth 100000 in
theorem nw_8 : mm_nwp ((1, 53, 100)) := ⟨fun h => absurd h (by decide), fun _ => ⟨(mm_ws (mm_inp 318 rfl rfl)), (mm_ws (mm_inp 71 rfl rfl)), (mm_ws (mm_inp 319 rfl rfl))⟩⟩
set_option maxRecDepth 100000 in
theorem nw_9 : mm_nwp ((0, 19, 101)) := ⟨fun h => absurd h (by decide), fun _ => ⟨(mm_ws (mm_inp 393 rfl rfl)), (mm_ws (mm_inp 72 rfl rfl)), (mm_ws (mm_inp 399 rfl rfl))⟩⟩
set_option maxRecDepth 100000 in
theorem nw_10 : mm_nwp ((1, 64, 101)) := ⟨fun h => absurd h (by decide), fun _ => ⟨(mm_ws (mm_inp 398 rfl rfl)), (mm_ws (mm_inp 72 rfl rfl)), (mm_ws (mm_inp 399 rfl rfl))⟩⟩
set_option maxRecDepth 100000 in
theorem nw_11 : mm_nwp ((0, 28, 102)) := ⟨fun h => absurd h (by decide), fun _ => ⟨(mm_ws (mm_inp 597 rfl rfl)), (mm_ws (mm_inp 78 rfl rfl)), (mm_ws (mm_inp 603 rfl rfl))⟩⟩
set_option maxRecDepth 100000 in
theorem nw_12 : mm_nwp ((1, 97, 102)) := ⟨fun h => absurd h (by decide), fun _ => ⟨(mm_ws (mm_inp 602 rfl rfl)), (mm_ws (mm_inp 78 rfl rfl)), (mm_ws (mm_inp 603 rfl rfl))⟩⟩
set_option maxRecDepth 100000 in
theorem nw_13 : mm_nwp ((0, 33, 103)) := ⟨fun h => absurd h (by decide), fun _ => ⟨(mm_ws (mm_inp 621 rfl rfl)), (mm_ws (mm_inp 79 rfl rfl)), (mm_ws (mm_inp 628 rfl rfl))⟩⟩
set_option maxRecDepth 100000 in
theorem nw_14 : mm_nwp ((1, 113, 103)) := ⟨fun h => absurd h (by decide), fun _ => ⟨(mm_ws (mm_inp 627 rfl rfl)), (mm_ws (mm_inp 79 rfl rfl)), (mm_ws (mm_inp 628 rfl rfl))⟩⟩
set_option maxRecDepth 100000 in
theorem nw_15 : mm_nwp ((0, 65, 7)) := ⟨fun _ => ⟨_, rfl, (mm_ws (mm_inp 849 rfl rfl))⟩, fun h => absurd h (by decide)⟩
set_option maxRecDepth 100000 in
theorem nw_all : ∀ q ∈ t_NWl, mm_nwp q := List.forall_mem_cons.mpr ⟨nw_0, List.forall_mem_cons.mpr ⟨nw_1, List.forall_mem_cons.mpr ⟨nw_2, List.forall_mem_cons.mpr ⟨nw_3, List.forall_mem_cons.mpr ⟨nw_4, List.forall_mem_cons.mpr ⟨nw_5, List.forall_mem_cons.mpr ⟨nw_6, List.forall_mem_cons.mpr ⟨nw_7, List.forall_mem_cons.mpr ⟨nw_8, List.forall_mem_cons.mpr ⟨nw_9, List.forall_mem_cons.mpr ⟨nw_10, List.forall_mem_cons.mpr ⟨nw_11, List.forall_mem_cons.mpr ⟨nw_12, List.forall_mem_cons.mpr ⟨nw_13, List.forall_mem_cons.mpr ⟨nw_14, List.forall_mem_cons.mpr ⟨nw_15, fun _ h => absurd h List.not_mem_nil⟩⟩⟩⟩⟩⟩⟩⟩⟩⟩⟩⟩⟩⟩⟩⟩
def mm_gs (q : Nat × Nat × Nat) : Prop := Cond.fieldLink (t_ON q.1) q.2.1 (t_SF q.2.2).1 (t_SF q.2.2).2.1 (t_SF q.2.2).2.2.1 ∈ t_WS
set_option maxRecDepth 100000 in
theorem gs_0 : mm_gs ((9, 38, 2)) := (mm_ws (mm_inp 500 rfl rfl))
set_option maxRecDepth 100000 in
theorem gs_1 : mm_gs ((9, 1053, 3)) := (mm_ws (mm_inp 516 rfl rfl))
set_option maxRecDepth 100000 in
theorem gs_2 : mm_gs ((4, 25, 0)) := (mm_ws (mm_inp 658 rfl rfl))
set_option maxRecDepth 100000 in
theorem gs_3 : mm_gs ((4, 28, 1)) := (mm_ws (mm_inp 660 rfl rfl))
set_option maxRecDepth 100000 in
theorem gs_all : ∀ q ∈ t_GSl, mm_gs q := List.forall_mem_cons.mpr ⟨gs_0, List.forall_mem_cons.mpr ⟨gs_1, List.forall_mem_cons.mpr ⟨gs_2, List.forall_mem_cons.mpr ⟨gs_3, fun _ h => absurd h List.not_mem_nil⟩⟩⟩⟩
def mm_xf (q : Nat × Nat × Nat) : Prop := (q.2.2 = 0 ∧ Cond.fieldLink (t_ON q.1) q.2.1 "java/lang/String" "value" "[B" ∈ t_WS) ∨ (q.2.2 = 1 ∧ Cond.fieldLink (t_ON q.1) q.2.1 "java/lang/String" "coder" "B" ∈ t_WS)
set_option maxRecDepth 100000 in
theorem xf_0 : mm_xf ((9, 9, 0)) := Or.inl ⟨rfl, (mm_ws (mm_inp 1188 rfl rfl))⟩
set_option maxRecDepth 100000 in
theorem xf_1 : mm_xf ((9, 15, 1)) := Or.inr ⟨rfl, (mm_ws (mm_inp 1189 rfl rfl))⟩
set_option maxRecDepth 100000 in
theorem xf_all : ∀ q ∈ t_XFl, mm_xf q := List.forall_mem_cons.mpr ⟨xf_0, List.forall_mem_cons.mpr ⟨xf_1, fun _ h => absurd h List.not_mem_nil⟩⟩
def mm_cn (q : Nat × Nat × Value) : Prop := (∃ v : Int32, q.2.2 = .int v ∧ Cond.constant (t_ON q.1) q.2.1 v ∈ t_WS) ∨ (∃ v : Int64, q.2.2 = .long v ∧ Cond.constantLong (t_ON q.1) q.2.1 v ∈ t_WS)
set_option maxRecDepth 100000 in
theorem cn_0 : mm_cn ((11, 265, .int (1431655765))) := Or.inl ⟨_, rfl, (mm_ws (mm_inp 778 rfl rfl))⟩
set_option maxRecDepth 100000 in
theorem cn_1 : mm_cn ((11, 266, .int (858993459))) := Or.inl ⟨_, rfl, (mm_ws (mm_inp 779 rfl rfl))⟩
set_option maxRecDepth 100000 in
theorem cn_2 : mm_cn ((11, 267, .int (252645135))) := Or.inl ⟨_, rfl, (mm_ws (mm_inp 780 rfl rfl))⟩
set_option maxRecDepth 100000 in
theorem cn_3 : mm_cn ((8, 114, .long (111567839655027))) := Or.inr ⟨_, rfl, (mm_ws (mm_inp 1057 rfl rfl))⟩
set_option maxRecDepth 100000 in
theorem cn_4 : mm_cn ((8, 116, .long (112628846390380))) := Or.inr ⟨_, rfl, (mm_ws (mm_inp 1058 rfl rfl))⟩
set_option maxRecDepth 100000 in
theorem cn_all : ∀ q ∈ t_CNl, mm_cn q := List.forall_mem_cons.mpr ⟨cn_0, List.forall_mem_cons.mpr ⟨cn_1, List.forall_mem_cons.mpr ⟨cn_2, List.forall_mem_cons.mpr ⟨cn_3, List.forall_mem_cons.mpr ⟨cn_4, fun _ h => absurd h List.not_mem_nil⟩⟩⟩⟩⟩
def mm_cd (y : Nat) : Prop := Cond.code (t_MN y) (t_BC y) (t_ML y) (t_RT y) ∈ t_WS
def mm_cdw (y : Nat) : Prop := Cond.codeWith (t_MN y) (t_BC y) (t_ML y) (t_RT y) (t_HD y) ∈ t_WS
set_option maxRecDepth 100000 in
theorem cd_1 : mm_cdw 1 := (mm_ws (mm_inp 312 rfl rfl))
set_option maxRecDepth 100000 in
theorem cd_2 : mm_cdw 2 := (mm_ws (mm_inp 392 rfl rfl))
set_option maxRecDepth 100000 in
theorem cd_3 : mm_cdw 3 := (mm_ws (mm_inp 417 rfl rfl))
set_option maxRecDepth 100000 in
theorem cd_4 : mm_cdw 4 := (mm_ws (mm_inp 596 rfl rfl))
set_option maxRecDepth 100000 in
theorem cd_5 : mm_cdw 5 := (mm_ws (mm_inp 620 rfl rfl))
set_option maxRecDepth 100000 in
theorem cd_6 : mm_cdw 6 := (mm_ws (mm_inp 649 rfl rfl))
set_option maxRecDepth 100000 in
theorem cd_7 : mm_cdw 7 := (mm_ws (mm_inp 704 rfl rfl))
set_option maxRecDepth 100000 in
theorem cd_8 : mm_cdw 8 := (mm_ws (mm_inp 712 rfl rfl))
set_option maxRecDepth 100000 in
theorem cd_9 : mm_cdw 9 := (mm_ws (mm_inp 720 rfl rfl))
set_option maxRecDepth 100000 in
theorem cd_10 : mm_cdw 10 := (mm_ws (mm_inp 741 rfl rfl))
set_option maxRecDepth 100000 in
theorem cd_11 : mm_cdw 11 := (mm_ws (mm_inp 761 rfl rfl))
set_option maxRecDepth 100000 in
theorem cd_12 : mm_cdw 12 := (mm_ws (mm_inp 769 rfl rfl))
set_option maxRecDepth 100000 in
theorem cd_13 : mm_cdw 13 := (mm_ws (mm_inp 797 rfl rfl))
set_option maxRecDepth 100000 in
theorem cd_14 : mm_cdw 14 := (mm_ws (mm_inp 843 rfl rfl))
set_option maxRecDepth 100000 in
theorem cd_15 : mm_cd 15 := (mm_ws (mm_inp 85 rfl rfl))
set_option maxRecDepth 100000 in
theorem cd_16 : mm_cd 16 := (mm_ws (mm_inp 93 rfl rfl))
set_option maxRecDepth 100000 in
theorem cd_17 : mm_cd 17 := (mm_ws (mm_inp 99 rfl rfl))
set_option maxRecDepth 100000 in
theorem cd_18 : mm_cd 18 := (mm_ws (mm_inp 129 rfl rfl))
set_option maxRecDepth 100000 in
theorem cd_19 : mm_cd 19 := (mm_ws (mm_inp 216 rfl rfl))
set_option maxRecDepth 100000 in
theorem cd_20 : mm_cd 20 := (mm_ws (mm_inp 236 rfl rfl))
set_option maxRecDepth 100000 in
theorem cd_21 : mm_cd 21 := (mm_ws (mm_inp 262 rfl rfl))
set_option maxRecDepth 100000 in
theorem cd_22 : mm_cd 22 := (mm_ws (mm_inp 297 rfl rfl))
set_option maxRecDepth 100000 in
theorem cd_23 : mm_cd 23 := (mm_ws (mm_inp 301 rfl rfl))
set_option maxRecDepth 100000 in
theorem cd_24 : mm_cd 24 := (mm_ws (mm_inp 305 rfl rfl))
set_option maxRecDepth 100000 in
theorem cd_25 : mm_cd 25 := (mm_ws (mm_inp 309 rfl rfl))
set_option maxRecDepth 100000 in
theorem cd_26 : mm_cd 26 := (mm_ws (mm_inp 317 rfl rfl))
set_option maxRecDepth 100000 in
theorem cd_27 : mm_cd 27 := (mm_ws (mm_inp 389 rfl rfl))
set_option maxRecDepth 100000 in
theorem cd_28 : mm_cd 28 := (mm_ws (mm_inp 397 rfl rfl))
set_option maxRecDepth 100000 in
theorem cd_29 : mm_cd 29 := (mm_ws (mm_inp 421 rfl rfl))
set_option maxRecDepth 100000 in
theorem cd_30 : mm_cd 30 := (mm_ws (mm_inp 425 rfl rfl))
set_option maxRecDepth 100000 in
theorem cd_31 : mm_cd 31 := (mm_ws (mm_inp 429 rfl rfl))
set_option maxRecDepth 100000 in
theorem cd_32 : mm_cd 32 := (mm_ws (mm_inp 433 rfl rfl))
set_option maxRecDepth 100000 in
theorem cd_33 : mm_cd 33 := (mm_ws (mm_inp 437 rfl rfl))
set_option maxRecDepth 100000 in
theorem cd_34 : mm_cd 34 := (mm_ws (mm_inp 441 rfl rfl))
set_option maxRecDepth 100000 in
theorem cd_35 : mm_cd 35 := (mm_ws (mm_inp 444 rfl rfl))
set_option maxRecDepth 100000 in
theorem cd_36 : mm_cd 36 := (mm_ws (mm_inp 447 rfl rfl))
set_option maxRecDepth 100000 in
theorem cd_38 : mm_cd 38 := (mm_ws (mm_inp 453 rfl rfl))
set_option maxRecDepth 100000 in
theorem cd_39 : mm_cd 39 := (mm_ws (mm_inp 457 rfl rfl))
set_option maxRecDepth 100000 in
theorem cd_40 : mm_cd 40 := (mm_ws (mm_inp 461 rfl rfl))
set_option maxRecDepth 100000 in
theorem cd_41 : mm_cd 41 := (mm_ws (mm_inp 465 rfl rfl))
set_option maxRecDepth 100000 in
theorem cd_42 : mm_cd 42 := (mm_ws (mm_inp 470 rfl rfl))
set_option maxRecDepth 100000 in
theorem cd_43 : mm_cd 43 := (mm_ws (mm_inp 474 rfl rfl))
set_option maxRecDepth 100000 in
theorem cd_44 : mm_cd 44 := (mm_ws (mm_inp 478 rfl rfl))
set_option maxRecDepth 100000 in
theorem cd_45 : mm_cd 45 := (mm_ws (mm_inp 482 rfl rfl))
set_option maxRecDepth 100000 in
theorem cd_46 : mm_cd 46 := (mm_ws (mm_inp 486 rfl rfl))
set_option maxRecDepth 100000 in
theorem cd_47 : mm_cd 47 := (mm_ws (mm_inp 491 rfl rfl))
set_option maxRecDepth 100000 in
theorem cd_48 : mm_cd 48 := (mm_ws (mm_inp 495 rfl rfl))
set_option maxRecDepth 100000 in
theorem cd_49 : mm_cd 49 := (mm_ws (mm_inp 499 rfl rfl))
set_option maxRecDepth 100000 in
theorem cd_50 : mm_cd 50 := (mm_ws (mm_inp 505 rfl rfl))
set_option maxRecDepth 100000 in
theorem cd_51 : mm_cd 51 := (mm_ws (mm_inp 509 rfl rfl))
set_option maxRecDepth 100000 in
theorem cd_52 : mm_cd 52 := (mm_ws (mm_inp 512 rfl rfl))
set_option maxRecDepth 100000 in
theorem cd_53 : mm_cd 53 := (mm_ws (mm_inp 515 rfl rfl))
set_option maxRecDepth 100000 in
theorem cd_54 : mm_cd 54 := (mm_ws (mm_inp 520 rfl rfl))
set_option maxRecDepth 100000 in
theorem cd_55 : mm_cd 55 := (mm_ws (mm_inp 545 rfl rfl))
set_option maxRecDepth 100000 in
theorem cd_56 : mm_cd 56 := (mm_ws (mm_inp 549 rfl rfl))
set_option maxRecDepth 100000 in
theorem cd_57 : mm_cd 57 := (mm_ws (mm_inp 553 rfl rfl))
set_option maxRecDepth 100000 in
theorem cd_58 : mm_cd 58 := (mm_ws (mm_inp 557 rfl rfl))
set_option maxRecDepth 100000 in
theorem cd_59 : mm_cd 59 := (mm_ws (mm_inp 561 rfl rfl))
set_option maxRecDepth 100000 in
theorem cd_60 : mm_cd 60 := (mm_ws (mm_inp 565 rfl rfl))
set_option maxRecDepth 100000 in
theorem cd_61 : mm_cd 61 := (mm_ws (mm_inp 569 rfl rfl))
set_option maxRecDepth 100000 in
theorem cd_62 : mm_cd 62 := (mm_ws (mm_inp 575 rfl rfl))
set_option maxRecDepth 100000 in
theorem cd_63 : mm_cd 63 := (mm_ws (mm_inp 579 rfl rfl))
set_option maxRecDepth 100000 in
theorem cd_64 : mm_cd 64 := (mm_ws (mm_inp 583 rfl rfl))
set_option maxRecDepth 100000 in
theorem cd_65 : mm_cd 65 := (mm_ws (mm_inp 587 rfl rfl))
set_option maxRecDepth 100000 in
theorem cd_66 : mm_cd 66 := (mm_ws (mm_inp 591 rfl rfl))
set_option maxRecDepth 100000 in
theorem cd_67 : mm_cd 67 := (mm_ws (mm_inp 601 rfl rfl))
set_option maxRecDepth 100000 in
theorem cd_68 : mm_cd 68 := (mm_ws (mm_inp 625 rfl rfl))
set_option maxRecDepth 100000 in
theorem cd_69 : mm_cd 69 := (mm_ws (mm_inp 646 rfl rfl))
set_option maxRecDepth 100000 in
theorem cd_70 : mm_cd 70 := (mm_ws (mm_inp 653 rfl rfl))
set_option maxRecDepth 100000 in
theorem cd_71 : mm_cd 71 := (mm_ws (mm_inp 657 rfl rfl))
set_option maxRecDepth 100000 in
theorem cd_72 : mm_cd 72 := (mm_ws (mm_inp 665 rfl rfl))
set_option maxRecDepth 100000 in
theorem cd_73 : mm_cd 73 := (mm_ws (mm_inp 669 rfl rfl))
set_option maxRecDepth 100000 in
theorem cd_74 : mm_cd 74 := (mm_ws (mm_inp 673 rfl rfl))
set_option maxRecDepth 100000 in
theorem cd_75 : mm_cd 75 := (mm_ws (mm_inp 678 rfl rfl))
set_option maxRecDepth 100000 in
theorem cd_76 : mm_cd 76 := (mm_ws (mm_inp 682 rfl rfl))
set_option maxRecDepth 100000 in
theorem cd_78 : mm_cd 78 := (mm_ws (mm_inp 690 rfl rfl))
set_option maxRecDepth 100000 in
theorem cd_79 : mm_cd 79 := (mm_ws (mm_inp 695 rfl rfl))
set_option maxRecDepth 100000 in
theorem cd_80 : mm_cd 80 := (mm_ws (mm_inp 700 rfl rfl))
set_option maxRecDepth 100000 in
theorem cd_81 : mm_cd 81 := (mm_ws (mm_inp 708 rfl rfl))
set_option maxRecDepth 100000 in
theorem cd_82 : mm_cd 82 := (mm_ws (mm_inp 716 rfl rfl))
set_option maxRecDepth 100000 in
theorem cd_83 : mm_cd 83 := (mm_ws (mm_inp 724 rfl rfl))
set_option maxRecDepth 100000 in
theorem cd_84 : mm_cd 84 := (mm_ws (mm_inp 728 rfl rfl))
set_option maxRecDepth 100000 in
theorem cd_85 : mm_cd 85 := (mm_ws (mm_inp 732 rfl rfl))
set_option maxRecDepth 100000 in
theorem cd_86 : mm_cd 86 := (mm_ws (mm_inp 738 rfl rfl))
set_option maxRecDepth 100000 in
theorem cd_87 : mm_cd 87 := (mm_ws (mm_inp 745 rfl rfl))
set_option maxRecDepth 100000 in
theorem cd_88 : mm_cd 88 := (mm_ws (mm_inp 750 rfl rfl))
set_option maxRecDepth 100000 in
theorem cd_89 : mm_cd 89 := (mm_ws (mm_inp 754 rfl rfl))
set_option maxRecDepth 100000 in
theorem cd_90 : mm_cd 90 := (mm_ws (mm_inp 758 rfl rfl))
set_option maxRecDepth 100000 in
theorem cd_91 : mm_cd 91 := (mm_ws (mm_inp 765 rfl rfl))
set_option maxRecDepth 100000 in
theorem cd_92 : mm_cd 92 := (mm_ws (mm_inp 773 rfl rfl))
set_option maxRecDepth 100000 in
theorem cd_93 : mm_cd 93 := (mm_ws (mm_inp 777 rfl rfl))
set_option maxRecDepth 100000 in
theorem cd_94 : mm_cd 94 := (mm_ws (mm_inp 785 rfl rfl))
set_option maxRecDepth 100000 in
theorem cd_95 : mm_cd 95 := (mm_ws (mm_inp 790 rfl rfl))
set_option maxRecDepth 100000 in
theorem cd_96 : mm_cd 96 := (mm_ws (mm_inp 794 rfl rfl))
set_option maxRecDepth 100000 in
theorem cd_97 : mm_cd 97 := (mm_ws (mm_inp 801 rfl rfl))
set_option maxRecDepth 100000 in
theorem cd_98 : mm_cd 98 := (mm_ws (mm_inp 806 rfl rfl))
set_option maxRecDepth 100000 in
theorem cd_99 : mm_cd 99 := (mm_ws (mm_inp 810 rfl rfl))
set_option maxRecDepth 100000 in
theorem cd_100 : mm_cd 100 := (mm_ws (mm_inp 814 rfl rfl))
set_option maxRecDepth 100000 in
theorem cd_101 : mm_cd 101 := (mm_ws (mm_inp 818 rfl rfl))
set_option maxRecDepth 100000 in
theorem cd_102 : mm_cd 102 := (mm_ws (mm_inp 823 rfl rfl))
set_option maxRecDepth 100000 in
theorem cd_103 : mm_cd 103 := (mm_ws (mm_inp 831 rfl rfl))
set_option maxRecDepth 100000 in
theorem cd_104 : mm_cd 104 := (mm_ws (mm_inp 835 rfl rfl))
set_option maxRecDepth 100000 in
theorem cd_105 : mm_cd 105 := (mm_ws (mm_inp 847 rfl rfl))
set_option maxRecDepth 100000 in
theorem cd_106 : mm_cd 106 := (mm_ws (mm_inp 853 rfl rfl))
set_option maxRecDepth 100000 in
theorem cd_107 : mm_cd 107 := (mm_ws (mm_inp 967 rfl rfl))
set_option maxRecDepth 100000 in
theorem cd_108 : mm_cd 108 := (mm_ws (mm_inp 971 rfl rfl))
set_option maxRecDepth 100000 in
theorem cd_109 : mm_cd 109 := (mm_ws (mm_inp 975 rfl rfl))
set_option maxRecDepth 100000 in
theorem cd_110 : mm_cd 110 := (mm_ws (mm_inp 979 rfl rfl))
set_option maxRecDepth 100000 in
theorem cd_111 : mm_cd 111 := (mm_ws (mm_inp 982 rfl rfl))
set_option maxRecDepth 100000 in
theorem cd_112 : mm_cd 112 := (mm_ws (mm_inp 986 rfl rfl))
set_option maxRecDepth 100000 in
theorem cd_113 : mm_cd 113 := (mm_ws (mm_inp 990 rfl rfl))
set_option maxRecDepth 100000 in
theorem cd_114 : mm_cd 114 := (mm_ws (mm_inp 994 rfl rfl))
set_option maxRecDepth 100000 in
theorem cd_115 : mm_cd 115 := (mm_ws (mm_inp 998 rfl rfl))
set_option maxRecDepth 100000 in
theorem cd_116 : mm_cd 116 := (mm_ws (mm_inp 1002 rfl rfl))
set_option maxRecDepth 100000 in
theorem cd_117 : mm_cd 117 := (mm_ws (mm_inp 1005 rfl rfl))
set_option maxRecDepth 100000 in
theorem cd_118 : mm_cd 118 := (mm_ws (mm_inp 1008 rfl rfl))
set_option maxRecDepth 100000 in
theorem cd_119 : mm_cd 119 := (mm_ws (mm_inp 1012 rfl rfl))
set_option maxRecDepth 100000 in
theorem cd_120 : mm_cd 120 := (mm_ws (mm_inp 1016 rfl rfl))
set_option maxRecDepth 100000 in
theorem cd_121 : mm_cd 121 := (mm_ws (mm_inp 1020 rfl rfl))
set_option maxRecDepth 100000 in
theorem cd_122 : mm_cd 122 := (mm_ws (mm_inp 1024 rfl rfl))
set_option maxRecDepth 100000 in
theorem cd_123 : mm_cd 123 := (mm_ws (mm_inp 1028 rfl rfl))
set_option maxRecDepth 100000 in
theorem cd_124 : mm_cd 124 := (mm_ws (mm_inp 1032 rfl rfl))
set_option maxRecDepth 100000 in
theorem cd_125 : mm_cd 125 := (mm_ws (mm_inp 1036 rfl rfl))
set_option maxRecDepth 100000 in
theorem cd_126 : mm_cd 126 := (mm_ws (mm_inp 1040 rfl rfl))
set_option maxRecDepth 100000 in
theorem cd_127 : mm_cd 127 := (mm_ws (mm_inp 1044 rfl rfl))
set_option maxRecDepth 100000 in
theorem cd_128 : mm_cd 128 := (mm_ws (mm_inp 1048 rfl rfl))
set_option maxRecDepth 100000 in
theorem cd_129 : mm_cd 129 := (mm_ws (mm_inp 1052 rfl rfl))
set_option maxRecDepth 100000 in
theorem cd_130 : mm_cd 130 := (mm_ws (mm_inp 1056 rfl rfl))
set_option maxRecDepth 100000 in
theorem cd_131 : mm_cd 131 := (mm_ws (mm_inp 1062 rfl rfl))
set_option maxRecDepth 100000 in
theorem cd_132 : mm_cd 132 := (mm_ws (mm_inp 1066 rfl rfl))
set_option maxRecDepth 100000 in
theorem cd_133 : mm_cd 133 := (mm_ws (mm_inp 1070 rfl rfl))
set_option maxRecDepth 100000 in
theorem cd_134 : mm_cd 134 := (mm_ws (mm_inp 1074 rfl rfl))
set_option maxRecDepth 100000 in
theorem cd_135 : mm_cd 135 := (mm_ws (mm_inp 1078 rfl rfl))
set_option maxRecDepth 100000 in
theorem cd_136 : mm_cd 136 := (mm_ws (mm_inp 1082 rfl rfl))
set_option maxRecDepth 100000 in
theorem cd_137 : mm_cd 137 := (mm_ws (mm_inp 1085 rfl rfl))
set_option maxRecDepth 100000 in
theorem cd_138 : mm_cd 138 := (mm_ws (mm_inp 1088 rfl rfl))
set_option maxRecDepth 100000 in
theorem cd_139 : mm_cd 139 := (mm_ws (mm_inp 1091 rfl rfl))
set_option maxRecDepth 100000 in
theorem cd_140 : mm_cd 140 := (mm_ws (mm_inp 1095 rfl rfl))
set_option maxRecDepth 100000 in
theorem cd_141 : mm_cd 141 := (mm_ws (mm_inp 1099 rfl rfl))
set_option maxRecDepth 100000 in
theorem cd_142 : mm_cd 142 := (mm_ws (mm_inp 1103 rfl rfl))
set_option maxRecDepth 100000 in
theorem cd_143 : mm_cd 143 := (mm_ws (mm_inp 1107 rfl rfl))
set_option maxRecDepth 100000 in
theorem cd_144 : mm_cd 144 := (mm_ws (mm_inp 1111 rfl rfl))
set_option maxRecDepth 100000 in
theorem cd_145 : mm_cd 145 := (mm_ws (mm_inp 1115 rfl rfl))
set_option maxRecDepth 100000 in
theorem cd_146 : mm_cd 146 := (mm_ws (mm_inp 1119 rfl rfl))
set_option maxRecDepth 100000 in
theorem cd_147 : mm_cd 147 := (mm_ws (mm_inp 1123 rfl rfl))
set_option maxRecDepth 100000 in
theorem cd_148 : mm_cd 148 := (mm_ws (mm_inp 1127 rfl rfl))
set_option maxRecDepth 100000 in
theorem cd_149 : mm_cd 149 := (mm_ws (mm_inp 1131 rfl rfl))
set_option maxRecDepth 100000 in
theorem cd_150 : mm_cd 150 := (mm_ws (mm_inp 1135 rfl rfl))
set_option maxRecDepth 100000 in
theorem cd_151 : mm_cd 151 := (mm_ws (mm_inp 1138 rfl rfl))
set_option maxRecDepth 100000 in
theorem cd_152 : mm_cd 152 := (mm_ws (mm_inp 1141 rfl rfl))
set_option maxRecDepth 100000 in
theorem cd_153 : mm_cd 153 := (mm_ws (mm_inp 1145 rfl rfl))
set_option maxRecDepth 100000 in
theorem cd_154 : mm_cd 154 := (mm_ws (mm_inp 1149 rfl rfl))
set_option maxRecDepth 100000 in
theorem cd_155 : mm_cd 155 := (mm_ws (mm_inp 1153 rfl rfl))
set_option maxRecDepth 100000 in
theorem cd_156 : mm_cd 156 := (mm_ws (mm_inp 1157 rfl rfl))
set_option maxRecDepth 100000 in
theorem cd_157 : mm_cd 157 := (mm_ws (mm_inp 1161 rfl rfl))
set_option maxRecDepth 100000 in
theorem cd_158 : mm_cd 158 := (mm_ws (mm_inp 1165 rfl rfl))
set_option maxRecDepth 100000 in
theorem cd_159 : mm_cd 159 := (mm_ws (mm_inp 1169 rfl rfl))
set_option maxRecDepth 100000 in
theorem cd_160 : mm_cd 160 := (mm_ws (mm_inp 1173 rfl rfl))
set_option maxRecDepth 100000 in
theorem cd_161 : mm_cd 161 := (mm_ws (mm_inp 1177 rfl rfl))
set_option maxRecDepth 100000 in
theorem cd_162 : mm_cd 162 := (mm_ws (mm_inp 1181 rfl rfl))
set_option maxRecDepth 100000 in
theorem cd_163 : mm_cd 163 := (mm_ws (mm_inp 1185 rfl rfl))
def mm_mt (y : Nat) : Prop := plainName (t_MN y).cls = true ∧ (t_MN y).cls ≠ "java/lang/invoke/MethodHandle" ∧ (t_MN y).cls ≠ "java/lang/invoke/VarHandle" ∧ (parseMethodDescriptor (t_MN y).desc).map (fun d => d.parameters.length) = some (t_NA y) ∧ t_ON (t_CO y) = (t_MN y).cls ∧ Cond.initialized (t_MN y).cls ∈ t_WS
set_option maxRecDepth 100000 in
theorem mt_1 : mm_mt 1 := ⟨by decide +kernel, by decide +kernel, by decide +kernel, by decide +kernel, by decide +kernel, (mm_ws (mm_inp 59 rfl rfl))⟩
set_option maxRecDepth 100000 in
theorem mt_2 : mm_mt 2 := ⟨by decide +kernel, by decide +kernel, by decide +kernel, by decide +kernel, by decide +kernel, (mm_ws (mm_inp 59 rfl rfl))⟩
set_option maxRecDepth 100000 in
theorem mt_3 : mm_mt 3 := ⟨by decide +kernel, by decide +kernel, by decide +kernel, by decide +kernel, by decide +kernel, (mm_ws (mm_inp 59 rfl rfl))⟩
set_option maxRecDepth 100000 in
theorem mt_4 : mm_mt 4 := ⟨by decide +kernel, by decide +kernel, by decide +kernel, by decide +kernel, by decide +kernel, (mm_ws (mm_inp 59 rfl rfl))⟩
set_option maxRecDepth 100000 in
theorem mt_5 : mm_mt 5 := ⟨by decide +kernel, by decide +kernel, by decide +kernel, by decide +kernel, by decide +kernel, (mm_ws (mm_inp 59 rfl rfl))⟩
set_option maxRecDepth 100000 in
theorem mt_6 : mm_mt 6 := ⟨by decide +kernel, by decide +kernel, by decide +kernel, by decide +kernel, by decide +kernel, (mm_ws (mm_inp 59 rfl rfl))⟩
set_option maxRecDepth 100000 in
theorem mt_7 : mm_mt 7 := ⟨by decide +kernel, by decide +kernel, by decide +kernel, by decide +kernel, by decide +kernel, (mm_ws (mm_inp 59 rfl rfl))⟩
set_option maxRecDepth 100000 in
theorem mt_8 : mm_mt 8 := ⟨by decide +kernel, by decide +kernel, by decide +kernel, by decide +kernel, by decide +kernel, (mm_ws (mm_inp 59 rfl rfl))⟩
set_option maxRecDepth 100000 in
theorem mt_9 : mm_mt 9 := ⟨by decide +kernel, by decide +kernel, by decide +kernel, by decide +kernel, by decide +kernel, (mm_ws (mm_inp 59 rfl rfl))⟩
set_option maxRecDepth 100000 in
theorem mt_10 : mm_mt 10 := ⟨by decide +kernel, by decide +kernel, by decide +kernel, by decide +kernel, by decide +kernel, (mm_ws (mm_inp 59 rfl rfl))⟩
set_option maxRecDepth 100000 in
theorem mt_11 : mm_mt 11 := ⟨by decide +kernel, by decide +kernel, by decide +kernel, by decide +kernel, by decide +kernel, (mm_ws (mm_inp 59 rfl rfl))⟩
set_option maxRecDepth 100000 in
theorem mt_12 : mm_mt 12 := ⟨by decide +kernel, by decide +kernel, by decide +kernel, by decide +kernel, by decide +kernel, (mm_ws (mm_inp 59 rfl rfl))⟩
set_option maxRecDepth 100000 in
theorem mt_13 : mm_mt 13 := ⟨by decide +kernel, by decide +kernel, by decide +kernel, by decide +kernel, by decide +kernel, (mm_ws (mm_inp 59 rfl rfl))⟩
set_option maxRecDepth 100000 in
theorem mt_14 : mm_mt 14 := ⟨by decide +kernel, by decide +kernel, by decide +kernel, by decide +kernel, by decide +kernel, (mm_ws (mm_inp 59 rfl rfl))⟩
set_option maxRecDepth 100000 in
theorem mt_15 : mm_mt 15 := ⟨by decide +kernel, by decide +kernel, by decide +kernel, by decide +kernel, by decide +kernel, (mm_ws (mm_inp 60 rfl rfl))⟩
set_option maxRecDepth 100000 in
theorem mt_16 : mm_mt 16 := ⟨by decide +kernel, by decide +kernel, by decide +kernel, by decide +kernel, by decide +kernel, (mm_ws (mm_inp 61 rfl rfl))⟩
set_option maxRecDepth 100000 in
theorem mt_17 : mm_mt 17 := ⟨by decide +kernel, by decide +kernel, by decide +kernel, by decide +kernel, by decide +kernel, (mm_ws (mm_inp 62 rfl rfl))⟩
set_option maxRecDepth 100000 in
theorem mt_18 : mm_mt 18 := ⟨by decide +kernel, by decide +kernel, by decide +kernel, by decide +kernel, by decide +kernel, (mm_ws (mm_inp 63 rfl rfl))⟩
set_option maxRecDepth 100000 in
theorem mt_19 : mm_mt 19 := ⟨by decide +kernel, by decide +kernel, by decide +kernel, by decide +kernel, by decide +kernel, (mm_ws (mm_inp 64 rfl rfl))⟩
set_option maxRecDepth 100000 in
theorem mt_20 : mm_mt 20 := ⟨by decide +kernel, by decide +kernel, by decide +kernel, by decide +kernel, by decide +kernel, (mm_ws (mm_inp 65 rfl rfl))⟩
set_option maxRecDepth 100000 in
theorem mt_21 : mm_mt 21 := ⟨by decide +kernel, by decide +kernel, by decide +kernel, by decide +kernel, by decide +kernel, (mm_ws (mm_inp 66 rfl rfl))⟩
set_option maxRecDepth 100000 in
theorem mt_22 : mm_mt 22 := ⟨by decide +kernel, by decide +kernel, by decide +kernel, by decide +kernel, by decide +kernel, (mm_ws (mm_inp 60 rfl rfl))⟩
set_option maxRecDepth 100000 in
theorem mt_23 : mm_mt 23 := ⟨by decide +kernel, by decide +kernel, by decide +kernel, by decide +kernel, by decide +kernel, (mm_ws (mm_inp 60 rfl rfl))⟩
set_option maxRecDepth 100000 in
theorem mt_24 : mm_mt 24 := ⟨by decide +kernel, by decide +kernel, by decide +kernel, by decide +kernel, by decide +kernel, (mm_ws (mm_inp 62 rfl rfl))⟩
set_option maxRecDepth 100000 in
theorem mt_25 : mm_mt 25 := ⟨by decide +kernel, by decide +kernel, by decide +kernel, by decide +kernel, by decide +kernel, (mm_ws (mm_inp 60 rfl rfl))⟩
set_option maxRecDepth 100000 in
theorem mt_26 : mm_mt 26 := ⟨by decide +kernel, by decide +kernel, by decide +kernel, by decide +kernel, by decide +kernel, (mm_ws (mm_inp 60 rfl rfl))⟩
set_option maxRecDepth 100000 in
theorem mt_27 : mm_mt 27 := ⟨by decide +kernel, by decide +kernel, by decide +kernel, by decide +kernel, by decide +kernel, (mm_ws (mm_inp 62 rfl rfl))⟩
set_option maxRecDepth 100000 in
theorem mt_28 : mm_mt 28 := ⟨by decide +kernel, by decide +kernel, by decide +kernel, by decide +kernel, by decide +kernel, (mm_ws (mm_inp 60 rfl rfl))⟩
set_option maxRecDepth 100000 in
theorem mt_29 : mm_mt 29 := ⟨by decide +kernel, by decide +kernel, by decide +kernel, by decide +kernel, by decide +kernel, (mm_ws (mm_inp 60 rfl rfl))⟩
set_option maxRecDepth 100000 in
theorem mt_30 : mm_mt 30 := ⟨by decide +kernel, by decide +kernel, by decide +kernel, by decide +kernel, by decide +kernel, (mm_ws (mm_inp 65 rfl rfl))⟩
set_option maxRecDepth 100000 in
theorem mt_31 : mm_mt 31 := ⟨by decide +kernel, by decide +kernel, by decide +kernel, by decide +kernel, by decide +kernel, (mm_ws (mm_inp 61 rfl rfl))⟩
set_option maxRecDepth 100000 in
theorem mt_32 : mm_mt 32 := ⟨by decide +kernel, by decide +kernel, by decide +kernel, by decide +kernel, by decide +kernel, (mm_ws (mm_inp 63 rfl rfl))⟩
set_option maxRecDepth 100000 in
theorem mt_33 : mm_mt 33 := ⟨by decide +kernel, by decide +kernel, by decide +kernel, by decide +kernel, by decide +kernel, (mm_ws (mm_inp 62 rfl rfl))⟩
set_option maxRecDepth 100000 in
theorem mt_34 : mm_mt 34 := ⟨by decide +kernel, by decide +kernel, by decide +kernel, by decide +kernel, by decide +kernel, (mm_ws (mm_inp 62 rfl rfl))⟩
set_option maxRecDepth 100000 in
theorem mt_35 : mm_mt 35 := ⟨by decide +kernel, by decide +kernel, by decide +kernel, by decide +kernel, by decide +kernel, (mm_ws (mm_inp 62 rfl rfl))⟩
set_option maxRecDepth 100000 in
theorem mt_36 : mm_mt 36 := ⟨by decide +kernel, by decide +kernel, by decide +kernel, by decide +kernel, by decide +kernel, (mm_ws (mm_inp 62 rfl rfl))⟩
set_option maxRecDepth 100000 in
theorem mt_38 : mm_mt 38 := ⟨by decide +kernel, by decide +kernel, by decide +kernel, by decide +kernel, by decide +kernel, (mm_ws (mm_inp 62 rfl rfl))⟩
set_option maxRecDepth 100000 in
theorem mt_39 : mm_mt 39 := ⟨by decide +kernel, by decide +kernel, by decide +kernel, by decide +kernel, by decide +kernel, (mm_ws (mm_inp 61 rfl rfl))⟩
set_option maxRecDepth 100000 in
theorem mt_40 : mm_mt 40 := ⟨by decide +kernel, by decide +kernel, by decide +kernel, by decide +kernel, by decide +kernel, (mm_ws (mm_inp 62 rfl rfl))⟩
set_option maxRecDepth 100000 in
theorem mt_41 : mm_mt 41 := ⟨by decide +kernel, by decide +kernel, by decide +kernel, by decide +kernel, by decide +kernel, (mm_ws (mm_inp 61 rfl rfl))⟩
set_option maxRecDepth 100000 in
theorem mt_42 : mm_mt 42 := ⟨by decide +kernel, by decide +kernel, by decide +kernel, by decide +kernel, by decide +kernel, (mm_ws (mm_inp 61 rfl rfl))⟩
set_option maxRecDepth 100000 in
theorem mt_43 : mm_mt 43 := ⟨by decide +kernel, by decide +kernel, by decide +kernel, by decide +kernel, by decide +kernel, (mm_ws (mm_inp 62 rfl rfl))⟩
set_option maxRecDepth 100000 in
theorem mt_44 : mm_mt 44 := ⟨by decide +kernel, by decide +kernel, by decide +kernel, by decide +kernel, by decide +kernel, (mm_ws (mm_inp 61 rfl rfl))⟩
set_option maxRecDepth 100000 in
theorem mt_45 : mm_mt 45 := ⟨by decide +kernel, by decide +kernel, by decide +kernel, by decide +kernel, by decide +kernel, (mm_ws (mm_inp 61 rfl rfl))⟩
set_option maxRecDepth 100000 in
theorem mt_46 : mm_mt 46 := ⟨by decide +kernel, by decide +kernel, by decide +kernel, by decide +kernel, by decide +kernel, (mm_ws (mm_inp 61 rfl rfl))⟩
set_option maxRecDepth 100000 in
theorem mt_47 : mm_mt 47 := ⟨by decide +kernel, by decide +kernel, by decide +kernel, by decide +kernel, by decide +kernel, (mm_ws (mm_inp 62 rfl rfl))⟩
set_option maxRecDepth 100000 in
theorem mt_48 : mm_mt 48 := ⟨by decide +kernel, by decide +kernel, by decide +kernel, by decide +kernel, by decide +kernel, (mm_ws (mm_inp 74 rfl rfl))⟩
set_option maxRecDepth 100000 in
theorem mt_49 : mm_mt 49 := ⟨by decide +kernel, by decide +kernel, by decide +kernel, by decide +kernel, by decide +kernel, (mm_ws (mm_inp 74 rfl rfl))⟩
set_option maxRecDepth 100000 in
theorem mt_50 : mm_mt 50 := ⟨by decide +kernel, by decide +kernel, by decide +kernel, by decide +kernel, by decide +kernel, (mm_ws (mm_inp 74 rfl rfl))⟩
set_option maxRecDepth 100000 in
theorem mt_51 : mm_mt 51 := ⟨by decide +kernel, by decide +kernel, by decide +kernel, by decide +kernel, by decide +kernel, (mm_ws (mm_inp 74 rfl rfl))⟩
set_option maxRecDepth 100000 in
theorem mt_52 : mm_mt 52 := ⟨by decide +kernel, by decide +kernel, by decide +kernel, by decide +kernel, by decide +kernel, (mm_ws (mm_inp 75 rfl rfl))⟩
set_option maxRecDepth 100000 in
theorem mt_53 : mm_mt 53 := ⟨by decide +kernel, by decide +kernel, by decide +kernel, by decide +kernel, by decide +kernel, (mm_ws (mm_inp 74 rfl rfl))⟩
set_option maxRecDepth 100000 in
theorem mt_54 : mm_mt 54 := ⟨by decide +kernel, by decide +kernel, by decide +kernel, by decide +kernel, by decide +kernel, (mm_ws (mm_inp 76 rfl rfl))⟩
set_option maxRecDepth 100000 in
theorem mt_55 : mm_mt 55 := ⟨by decide +kernel, by decide +kernel, by decide +kernel, by decide +kernel, by decide +kernel, (mm_ws (mm_inp 61 rfl rfl))⟩
set_option maxRecDepth 100000 in
theorem mt_56 : mm_mt 56 := ⟨by decide +kernel, by decide +kernel, by decide +kernel, by decide +kernel, by decide +kernel, (mm_ws (mm_inp 63 rfl rfl))⟩
set_option maxRecDepth 100000 in
theorem mt_57 : mm_mt 57 := ⟨by decide +kernel, by decide +kernel, by decide +kernel, by decide +kernel, by decide +kernel, (mm_ws (mm_inp 63 rfl rfl))⟩
set_option maxRecDepth 100000 in
theorem mt_58 : mm_mt 58 := ⟨by decide +kernel, by decide +kernel, by decide +kernel, by decide +kernel, by decide +kernel, (mm_ws (mm_inp 62 rfl rfl))⟩
set_option maxRecDepth 100000 in
theorem mt_59 : mm_mt 59 := ⟨by decide +kernel, by decide +kernel, by decide +kernel, by decide +kernel, by decide +kernel, (mm_ws (mm_inp 61 rfl rfl))⟩
set_option maxRecDepth 100000 in
theorem mt_60 : mm_mt 60 := ⟨by decide +kernel, by decide +kernel, by decide +kernel, by decide +kernel, by decide +kernel, (mm_ws (mm_inp 63 rfl rfl))⟩
set_option maxRecDepth 100000 in
theorem mt_61 : mm_mt 61 := ⟨by decide +kernel, by decide +kernel, by decide +kernel, by decide +kernel, by decide +kernel, (mm_ws (mm_inp 61 rfl rfl))⟩
set_option maxRecDepth 100000 in
theorem mt_62 : mm_mt 62 := ⟨by decide +kernel, by decide +kernel, by decide +kernel, by decide +kernel, by decide +kernel, (mm_ws (mm_inp 61 rfl rfl))⟩
set_option maxRecDepth 100000 in
theorem mt_63 : mm_mt 63 := ⟨by decide +kernel, by decide +kernel, by decide +kernel, by decide +kernel, by decide +kernel, (mm_ws (mm_inp 61 rfl rfl))⟩
set_option maxRecDepth 100000 in
theorem mt_64 : mm_mt 64 := ⟨by decide +kernel, by decide +kernel, by decide +kernel, by decide +kernel, by decide +kernel, (mm_ws (mm_inp 63 rfl rfl))⟩
set_option maxRecDepth 100000 in
theorem mt_65 : mm_mt 65 := ⟨by decide +kernel, by decide +kernel, by decide +kernel, by decide +kernel, by decide +kernel, (mm_ws (mm_inp 63 rfl rfl))⟩
set_option maxRecDepth 100000 in
theorem mt_66 : mm_mt 66 := ⟨by decide +kernel, by decide +kernel, by decide +kernel, by decide +kernel, by decide +kernel, (mm_ws (mm_inp 61 rfl rfl))⟩
set_option maxRecDepth 100000 in
theorem mt_67 : mm_mt 67 := ⟨by decide +kernel, by decide +kernel, by decide +kernel, by decide +kernel, by decide +kernel, (mm_ws (mm_inp 60 rfl rfl))⟩
set_option maxRecDepth 100000 in
theorem mt_68 : mm_mt 68 := ⟨by decide +kernel, by decide +kernel, by decide +kernel, by decide +kernel, by decide +kernel, (mm_ws (mm_inp 60 rfl rfl))⟩
set_option maxRecDepth 100000 in
theorem mt_69 : mm_mt 69 := ⟨by decide +kernel, by decide +kernel, by decide +kernel, by decide +kernel, by decide +kernel, (mm_ws (mm_inp 64 rfl rfl))⟩
set_option maxRecDepth 100000 in
theorem mt_70 : mm_mt 70 := ⟨by decide +kernel, by decide +kernel, by decide +kernel, by decide +kernel, by decide +kernel, (mm_ws (mm_inp 60 rfl rfl))⟩
set_option maxRecDepth 100000 in
theorem mt_71 : mm_mt 71 := ⟨by decide +kernel, by decide +kernel, by decide +kernel, by decide +kernel, by decide +kernel, (mm_ws (mm_inp 64 rfl rfl))⟩
set_option maxRecDepth 100000 in
theorem mt_72 : mm_mt 72 := ⟨by decide +kernel, by decide +kernel, by decide +kernel, by decide +kernel, by decide +kernel, (mm_ws (mm_inp 64 rfl rfl))⟩
set_option maxRecDepth 100000 in
theorem mt_73 : mm_mt 73 := ⟨by decide +kernel, by decide +kernel, by decide +kernel, by decide +kernel, by decide +kernel, (mm_ws (mm_inp 64 rfl rfl))⟩
set_option maxRecDepth 100000 in
theorem mt_74 : mm_mt 74 := ⟨by decide +kernel, by decide +kernel, by decide +kernel, by decide +kernel, by decide +kernel, (mm_ws (mm_inp 64 rfl rfl))⟩
set_option maxRecDepth 100000 in
theorem mt_75 : mm_mt 75 := ⟨by decide +kernel, by decide +kernel, by decide +kernel, by decide +kernel, by decide +kernel, (mm_ws (mm_inp 64 rfl rfl))⟩
set_option maxRecDepth 100000 in
theorem mt_76 : mm_mt 76 := ⟨by decide +kernel, by decide +kernel, by decide +kernel, by decide +kernel, by decide +kernel, (mm_ws (mm_inp 64 rfl rfl))⟩
set_option maxRecDepth 100000 in
theorem mt_78 : mm_mt 78 := ⟨by decide +kernel, by decide +kernel, by decide +kernel, by decide +kernel, by decide +kernel, (mm_ws (mm_inp 64 rfl rfl))⟩
set_option maxRecDepth 100000 in
theorem mt_79 : mm_mt 79 := ⟨by decide +kernel, by decide +kernel, by decide +kernel, by decide +kernel, by decide +kernel, (mm_ws (mm_inp 64 rfl rfl))⟩
set_option maxRecDepth 100000 in
theorem mt_80 : mm_mt 80 := ⟨by decide +kernel, by decide +kernel, by decide +kernel, by decide +kernel, by decide +kernel, (mm_ws (mm_inp 64 rfl rfl))⟩
set_option maxRecDepth 100000 in
theorem mt_81 : mm_mt 81 := ⟨by decide +kernel, by decide +kernel, by decide +kernel, by decide +kernel, by decide +kernel, (mm_ws (mm_inp 60 rfl rfl))⟩
set_option maxRecDepth 100000 in
theorem mt_82 : mm_mt 82 := ⟨by decide +kernel, by decide +kernel, by decide +kernel, by decide +kernel, by decide +kernel, (mm_ws (mm_inp 60 rfl rfl))⟩
set_option maxRecDepth 100000 in
theorem mt_83 : mm_mt 83 := ⟨by decide +kernel, by decide +kernel, by decide +kernel, by decide +kernel, by decide +kernel, (mm_ws (mm_inp 60 rfl rfl))⟩
set_option maxRecDepth 100000 in
theorem mt_84 : mm_mt 84 := ⟨by decide +kernel, by decide +kernel, by decide +kernel, by decide +kernel, by decide +kernel, (mm_ws (mm_inp 63 rfl rfl))⟩
set_option maxRecDepth 100000 in
theorem mt_85 : mm_mt 85 := ⟨by decide +kernel, by decide +kernel, by decide +kernel, by decide +kernel, by decide +kernel, (mm_ws (mm_inp 63 rfl rfl))⟩
set_option maxRecDepth 100000 in
theorem mt_86 : mm_mt 86 := ⟨by decide +kernel, by decide +kernel, by decide +kernel, by decide +kernel, by decide +kernel, (mm_ws (mm_inp 65 rfl rfl))⟩
set_option maxRecDepth 100000 in
theorem mt_87 : mm_mt 87 := ⟨by decide +kernel, by decide +kernel, by decide +kernel, by decide +kernel, by decide +kernel, (mm_ws (mm_inp 60 rfl rfl))⟩
set_option maxRecDepth 100000 in
theorem mt_88 : mm_mt 88 := ⟨by decide +kernel, by decide +kernel, by decide +kernel, by decide +kernel, by decide +kernel, (mm_ws (mm_inp 65 rfl rfl))⟩
set_option maxRecDepth 100000 in
theorem mt_89 : mm_mt 89 := ⟨by decide +kernel, by decide +kernel, by decide +kernel, by decide +kernel, by decide +kernel, (mm_ws (mm_inp 65 rfl rfl))⟩
set_option maxRecDepth 100000 in
theorem mt_90 : mm_mt 90 := ⟨by decide +kernel, by decide +kernel, by decide +kernel, by decide +kernel, by decide +kernel, (mm_ws (mm_inp 65 rfl rfl))⟩
set_option maxRecDepth 100000 in
theorem mt_91 : mm_mt 91 := ⟨by decide +kernel, by decide +kernel, by decide +kernel, by decide +kernel, by decide +kernel, (mm_ws (mm_inp 60 rfl rfl))⟩
set_option maxRecDepth 100000 in
theorem mt_92 : mm_mt 92 := ⟨by decide +kernel, by decide +kernel, by decide +kernel, by decide +kernel, by decide +kernel, (mm_ws (mm_inp 60 rfl rfl))⟩
set_option maxRecDepth 100000 in
theorem mt_93 : mm_mt 93 := ⟨by decide +kernel, by decide +kernel, by decide +kernel, by decide +kernel, by decide +kernel, (mm_ws (mm_inp 80 rfl rfl))⟩
set_option maxRecDepth 100000 in
theorem mt_94 : mm_mt 94 := ⟨by decide +kernel, by decide +kernel, by decide +kernel, by decide +kernel, by decide +kernel, (mm_ws (mm_inp 63 rfl rfl))⟩
set_option maxRecDepth 100000 in
theorem mt_95 : mm_mt 95 := ⟨by decide +kernel, by decide +kernel, by decide +kernel, by decide +kernel, by decide +kernel, (mm_ws (mm_inp 63 rfl rfl))⟩
set_option maxRecDepth 100000 in
theorem mt_96 : mm_mt 96 := ⟨by decide +kernel, by decide +kernel, by decide +kernel, by decide +kernel, by decide +kernel, (mm_ws (mm_inp 65 rfl rfl))⟩
set_option maxRecDepth 100000 in
theorem mt_97 : mm_mt 97 := ⟨by decide +kernel, by decide +kernel, by decide +kernel, by decide +kernel, by decide +kernel, (mm_ws (mm_inp 60 rfl rfl))⟩
set_option maxRecDepth 100000 in
theorem mt_98 : mm_mt 98 := ⟨by decide +kernel, by decide +kernel, by decide +kernel, by decide +kernel, by decide +kernel, (mm_ws (mm_inp 66 rfl rfl))⟩
set_option maxRecDepth 100000 in
theorem mt_99 : mm_mt 99 := ⟨by decide +kernel, by decide +kernel, by decide +kernel, by decide +kernel, by decide +kernel, (mm_ws (mm_inp 66 rfl rfl))⟩
set_option maxRecDepth 100000 in
theorem mt_100 : mm_mt 100 := ⟨by decide +kernel, by decide +kernel, by decide +kernel, by decide +kernel, by decide +kernel, (mm_ws (mm_inp 66 rfl rfl))⟩
set_option maxRecDepth 100000 in
theorem mt_101 : mm_mt 101 := ⟨by decide +kernel, by decide +kernel, by decide +kernel, by decide +kernel, by decide +kernel, (mm_ws (mm_inp 66 rfl rfl))⟩
set_option maxRecDepth 100000 in
theorem mt_102 : mm_mt 102 := ⟨by decide +kernel, by decide +kernel, by decide +kernel, by decide +kernel, by decide +kernel, (mm_ws (mm_inp 66 rfl rfl))⟩
set_option maxRecDepth 100000 in
theorem mt_103 : mm_mt 103 := ⟨by decide +kernel, by decide +kernel, by decide +kernel, by decide +kernel, by decide +kernel, (mm_ws (mm_inp 66 rfl rfl))⟩
set_option maxRecDepth 100000 in
theorem mt_104 : mm_mt 104 := ⟨by decide +kernel, by decide +kernel, by decide +kernel, by decide +kernel, by decide +kernel, (mm_ws (mm_inp 66 rfl rfl))⟩
set_option maxRecDepth 100000 in
theorem mt_105 : mm_mt 105 := ⟨by decide +kernel, by decide +kernel, by decide +kernel, by decide +kernel, by decide +kernel, (mm_ws (mm_inp 60 rfl rfl))⟩
set_option maxRecDepth 100000 in
theorem mt_106 : mm_mt 106 := ⟨by decide +kernel, by decide +kernel, by decide +kernel, by decide +kernel, by decide +kernel, (mm_ws (mm_inp 67 rfl rfl))⟩
set_option maxRecDepth 100000 in
theorem mt_107 : mm_mt 107 := ⟨by decide +kernel, by decide +kernel, by decide +kernel, by decide +kernel, by decide +kernel, (mm_ws (mm_inp 67 rfl rfl))⟩
set_option maxRecDepth 100000 in
theorem mt_108 : mm_mt 108 := ⟨by decide +kernel, by decide +kernel, by decide +kernel, by decide +kernel, by decide +kernel, (mm_ws (mm_inp 67 rfl rfl))⟩
set_option maxRecDepth 100000 in
theorem mt_109 : mm_mt 109 := ⟨by decide +kernel, by decide +kernel, by decide +kernel, by decide +kernel, by decide +kernel, (mm_ws (mm_inp 67 rfl rfl))⟩
set_option maxRecDepth 100000 in
theorem mt_110 : mm_mt 110 := ⟨by decide +kernel, by decide +kernel, by decide +kernel, by decide +kernel, by decide +kernel, (mm_ws (mm_inp 67 rfl rfl))⟩
set_option maxRecDepth 100000 in
theorem mt_111 : mm_mt 111 := ⟨by decide +kernel, by decide +kernel, by decide +kernel, by decide +kernel, by decide +kernel, (mm_ws (mm_inp 67 rfl rfl))⟩
set_option maxRecDepth 100000 in
theorem mt_112 : mm_mt 112 := ⟨by decide +kernel, by decide +kernel, by decide +kernel, by decide +kernel, by decide +kernel, (mm_ws (mm_inp 67 rfl rfl))⟩
set_option maxRecDepth 100000 in
theorem mt_113 : mm_mt 113 := ⟨by decide +kernel, by decide +kernel, by decide +kernel, by decide +kernel, by decide +kernel, (mm_ws (mm_inp 67 rfl rfl))⟩
set_option maxRecDepth 100000 in
theorem mt_114 : mm_mt 114 := ⟨by decide +kernel, by decide +kernel, by decide +kernel, by decide +kernel, by decide +kernel, (mm_ws (mm_inp 67 rfl rfl))⟩
set_option maxRecDepth 100000 in
theorem mt_115 : mm_mt 115 := ⟨by decide +kernel, by decide +kernel, by decide +kernel, by decide +kernel, by decide +kernel, (mm_ws (mm_inp 67 rfl rfl))⟩
set_option maxRecDepth 100000 in
theorem mt_116 : mm_mt 116 := ⟨by decide +kernel, by decide +kernel, by decide +kernel, by decide +kernel, by decide +kernel, (mm_ws (mm_inp 67 rfl rfl))⟩
set_option maxRecDepth 100000 in
theorem mt_117 : mm_mt 117 := ⟨by decide +kernel, by decide +kernel, by decide +kernel, by decide +kernel, by decide +kernel, (mm_ws (mm_inp 67 rfl rfl))⟩
set_option maxRecDepth 100000 in
theorem mt_118 : mm_mt 118 := ⟨by decide +kernel, by decide +kernel, by decide +kernel, by decide +kernel, by decide +kernel, (mm_ws (mm_inp 67 rfl rfl))⟩
set_option maxRecDepth 100000 in
theorem mt_119 : mm_mt 119 := ⟨by decide +kernel, by decide +kernel, by decide +kernel, by decide +kernel, by decide +kernel, (mm_ws (mm_inp 67 rfl rfl))⟩
set_option maxRecDepth 100000 in
theorem mt_120 : mm_mt 120 := ⟨by decide +kernel, by decide +kernel, by decide +kernel, by decide +kernel, by decide +kernel, (mm_ws (mm_inp 67 rfl rfl))⟩
set_option maxRecDepth 100000 in
theorem mt_121 : mm_mt 121 := ⟨by decide +kernel, by decide +kernel, by decide +kernel, by decide +kernel, by decide +kernel, (mm_ws (mm_inp 67 rfl rfl))⟩
set_option maxRecDepth 100000 in
theorem mt_122 : mm_mt 122 := ⟨by decide +kernel, by decide +kernel, by decide +kernel, by decide +kernel, by decide +kernel, (mm_ws (mm_inp 67 rfl rfl))⟩
set_option maxRecDepth 100000 in
theorem mt_123 : mm_mt 123 := ⟨by decide +kernel, by decide +kernel, by decide +kernel, by decide +kernel, by decide +kernel, (mm_ws (mm_inp 67 rfl rfl))⟩
set_option maxRecDepth 100000 in
theorem mt_124 : mm_mt 124 := ⟨by decide +kernel, by decide +kernel, by decide +kernel, by decide +kernel, by decide +kernel, (mm_ws (mm_inp 67 rfl rfl))⟩
set_option maxRecDepth 100000 in
theorem mt_125 : mm_mt 125 := ⟨by decide +kernel, by decide +kernel, by decide +kernel, by decide +kernel, by decide +kernel, (mm_ws (mm_inp 67 rfl rfl))⟩
set_option maxRecDepth 100000 in
theorem mt_126 : mm_mt 126 := ⟨by decide +kernel, by decide +kernel, by decide +kernel, by decide +kernel, by decide +kernel, (mm_ws (mm_inp 67 rfl rfl))⟩
set_option maxRecDepth 100000 in
theorem mt_127 : mm_mt 127 := ⟨by decide +kernel, by decide +kernel, by decide +kernel, by decide +kernel, by decide +kernel, (mm_ws (mm_inp 67 rfl rfl))⟩
set_option maxRecDepth 100000 in
theorem mt_128 : mm_mt 128 := ⟨by decide +kernel, by decide +kernel, by decide +kernel, by decide +kernel, by decide +kernel, (mm_ws (mm_inp 67 rfl rfl))⟩
set_option maxRecDepth 100000 in
theorem mt_129 : mm_mt 129 := ⟨by decide +kernel, by decide +kernel, by decide +kernel, by decide +kernel, by decide +kernel, (mm_ws (mm_inp 67 rfl rfl))⟩
set_option maxRecDepth 100000 in
theorem mt_130 : mm_mt 130 := ⟨by decide +kernel, by decide +kernel, by decide +kernel, by decide +kernel, by decide +kernel, (mm_ws (mm_inp 67 rfl rfl))⟩
set_option maxRecDepth 100000 in
theorem mt_131 : mm_mt 131 := ⟨by decide +kernel, by decide +kernel, by decide +kernel, by decide +kernel, by decide +kernel, (mm_ws (mm_inp 67 rfl rfl))⟩
set_option maxRecDepth 100000 in
theorem mt_132 : mm_mt 132 := ⟨by decide +kernel, by decide +kernel, by decide +kernel, by decide +kernel, by decide +kernel, (mm_ws (mm_inp 67 rfl rfl))⟩
set_option maxRecDepth 100000 in
theorem mt_133 : mm_mt 133 := ⟨by decide +kernel, by decide +kernel, by decide +kernel, by decide +kernel, by decide +kernel, (mm_ws (mm_inp 67 rfl rfl))⟩
set_option maxRecDepth 100000 in
theorem mt_134 : mm_mt 134 := ⟨by decide +kernel, by decide +kernel, by decide +kernel, by decide +kernel, by decide +kernel, (mm_ws (mm_inp 67 rfl rfl))⟩
set_option maxRecDepth 100000 in
theorem mt_135 : mm_mt 135 := ⟨by decide +kernel, by decide +kernel, by decide +kernel, by decide +kernel, by decide +kernel, (mm_ws (mm_inp 67 rfl rfl))⟩
set_option maxRecDepth 100000 in
theorem mt_136 : mm_mt 136 := ⟨by decide +kernel, by decide +kernel, by decide +kernel, by decide +kernel, by decide +kernel, (mm_ws (mm_inp 67 rfl rfl))⟩
set_option maxRecDepth 100000 in
theorem mt_137 : mm_mt 137 := ⟨by decide +kernel, by decide +kernel, by decide +kernel, by decide +kernel, by decide +kernel, (mm_ws (mm_inp 67 rfl rfl))⟩
set_option maxRecDepth 100000 in
theorem mt_138 : mm_mt 138 := ⟨by decide +kernel, by decide +kernel, by decide +kernel, by decide +kernel, by decide +kernel, (mm_ws (mm_inp 67 rfl rfl))⟩
set_option maxRecDepth 100000 in
theorem mt_139 : mm_mt 139 := ⟨by decide +kernel, by decide +kernel, by decide +kernel, by decide +kernel, by decide +kernel, (mm_ws (mm_inp 67 rfl rfl))⟩
set_option maxRecDepth 100000 in
theorem mt_140 : mm_mt 140 := ⟨by decide +kernel, by decide +kernel, by decide +kernel, by decide +kernel, by decide +kernel, (mm_ws (mm_inp 67 rfl rfl))⟩
set_option maxRecDepth 100000 in
theorem mt_141 : mm_mt 141 := ⟨by decide +kernel, by decide +kernel, by decide +kernel, by decide +kernel, by decide +kernel, (mm_ws (mm_inp 67 rfl rfl))⟩
set_option maxRecDepth 100000 in
theorem mt_142 : mm_mt 142 := ⟨by decide +kernel, by decide +kernel, by decide +kernel, by decide +kernel, by decide +kernel, (mm_ws (mm_inp 67 rfl rfl))⟩
set_option maxRecDepth 100000 in
theorem mt_143 : mm_mt 143 := ⟨by decide +kernel, by decide +kernel, by decide +kernel, by decide +kernel, by decide +kernel, (mm_ws (mm_inp 67 rfl rfl))⟩
set_option maxRecDepth 100000 in
theorem mt_144 : mm_mt 144 := ⟨by decide +kernel, by decide +kernel, by decide +kernel, by decide +kernel, by decide +kernel, (mm_ws (mm_inp 67 rfl rfl))⟩
set_option maxRecDepth 100000 in
theorem mt_145 : mm_mt 145 := ⟨by decide +kernel, by decide +kernel, by decide +kernel, by decide +kernel, by decide +kernel, (mm_ws (mm_inp 67 rfl rfl))⟩
set_option maxRecDepth 100000 in
theorem mt_146 : mm_mt 146 := ⟨by decide +kernel, by decide +kernel, by decide +kernel, by decide +kernel, by decide +kernel, (mm_ws (mm_inp 67 rfl rfl))⟩
set_option maxRecDepth 100000 in
theorem mt_147 : mm_mt 147 := ⟨by decide +kernel, by decide +kernel, by decide +kernel, by decide +kernel, by decide +kernel, (mm_ws (mm_inp 67 rfl rfl))⟩
set_option maxRecDepth 100000 in
theorem mt_148 : mm_mt 148 := ⟨by decide +kernel, by decide +kernel, by decide +kernel, by decide +kernel, by decide +kernel, (mm_ws (mm_inp 67 rfl rfl))⟩
set_option maxRecDepth 100000 in
theorem mt_149 : mm_mt 149 := ⟨by decide +kernel, by decide +kernel, by decide +kernel, by decide +kernel, by decide +kernel, (mm_ws (mm_inp 67 rfl rfl))⟩
set_option maxRecDepth 100000 in
theorem mt_150 : mm_mt 150 := ⟨by decide +kernel, by decide +kernel, by decide +kernel, by decide +kernel, by decide +kernel, (mm_ws (mm_inp 67 rfl rfl))⟩
set_option maxRecDepth 100000 in
theorem mt_151 : mm_mt 151 := ⟨by decide +kernel, by decide +kernel, by decide +kernel, by decide +kernel, by decide +kernel, (mm_ws (mm_inp 67 rfl rfl))⟩
set_option maxRecDepth 100000 in
theorem mt_152 : mm_mt 152 := ⟨by decide +kernel, by decide +kernel, by decide +kernel, by decide +kernel, by decide +kernel, (mm_ws (mm_inp 67 rfl rfl))⟩
set_option maxRecDepth 100000 in
theorem mt_153 : mm_mt 153 := ⟨by decide +kernel, by decide +kernel, by decide +kernel, by decide +kernel, by decide +kernel, (mm_ws (mm_inp 67 rfl rfl))⟩
set_option maxRecDepth 100000 in
theorem mt_154 : mm_mt 154 := ⟨by decide +kernel, by decide +kernel, by decide +kernel, by decide +kernel, by decide +kernel, (mm_ws (mm_inp 67 rfl rfl))⟩
set_option maxRecDepth 100000 in
theorem mt_155 : mm_mt 155 := ⟨by decide +kernel, by decide +kernel, by decide +kernel, by decide +kernel, by decide +kernel, (mm_ws (mm_inp 67 rfl rfl))⟩
set_option maxRecDepth 100000 in
theorem mt_156 : mm_mt 156 := ⟨by decide +kernel, by decide +kernel, by decide +kernel, by decide +kernel, by decide +kernel, (mm_ws (mm_inp 67 rfl rfl))⟩
set_option maxRecDepth 100000 in
theorem mt_157 : mm_mt 157 := ⟨by decide +kernel, by decide +kernel, by decide +kernel, by decide +kernel, by decide +kernel, (mm_ws (mm_inp 67 rfl rfl))⟩
set_option maxRecDepth 100000 in
theorem mt_158 : mm_mt 158 := ⟨by decide +kernel, by decide +kernel, by decide +kernel, by decide +kernel, by decide +kernel, (mm_ws (mm_inp 67 rfl rfl))⟩
set_option maxRecDepth 100000 in
theorem mt_159 : mm_mt 159 := ⟨by decide +kernel, by decide +kernel, by decide +kernel, by decide +kernel, by decide +kernel, (mm_ws (mm_inp 67 rfl rfl))⟩
set_option maxRecDepth 100000 in
theorem mt_160 : mm_mt 160 := ⟨by decide +kernel, by decide +kernel, by decide +kernel, by decide +kernel, by decide +kernel, (mm_ws (mm_inp 67 rfl rfl))⟩
set_option maxRecDepth 100000 in
theorem mt_161 : mm_mt 161 := ⟨by decide +kernel, by decide +kernel, by decide +kernel, by decide +kernel, by decide +kernel, (mm_ws (mm_inp 67 rfl rfl))⟩
set_option maxRecDepth 100000 in
theorem mt_162 : mm_mt 162 := ⟨by decide +kernel, by decide +kernel, by decide +kernel, by decide +kernel, by decide +kernel, (mm_ws (mm_inp 67 rfl rfl))⟩
set_option maxRecDepth 100000 in
theorem mt_163 : mm_mt 163 := ⟨by decide +kernel, by decide +kernel, by decide +kernel, by decide +kernel, by decide +kernel, (mm_ws (mm_inp 67 rfl rfl))⟩
