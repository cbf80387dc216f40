/-! ALL INSTRUCTIONS, whatever method. -/
theorem mm_all_cut {α : Type} {p : α → Bool} (l : List α) (n : Nat) (h1 : (l.take n).all p = true) (h2 : (l.drop n).all p = true) : l.all p = true := by
  rw [← List.take_append_drop n l, List.all_append, h1, h2]
  rfl
set_option maxRecDepth 100000 in
theorem ck_0_end : (q_0.drop 570).all (mm_chk code 0) = true := by decide +kernel
set_option maxRecDepth 100000 in
theorem ck_0 : q_0.all (mm_chk code 0) = true := by
  refine mm_all_cut q_0 30 ck_0_0 ?_
  refine mm_all_cut (q_0.drop 30) 30 ck_0_30 ?_
  rw [List.drop_drop]
  refine mm_all_cut (q_0.drop 60) 30 ck_0_60 ?_
  rw [List.drop_drop]
  refine mm_all_cut (q_0.drop 90) 30 ck_0_90 ?_
  rw [List.drop_drop]
  refine mm_all_cut (q_0.drop 120) 30 ck_0_120 ?_
  rw [List.drop_drop]
  refine mm_all_cut (q_0.drop 150) 30 ck_0_150 ?_
  rw [List.drop_drop]
  refine mm_all_cut (q_0.drop 180) 30 ck_0_180 ?_
  rw [List.drop_drop]
  refine mm_all_cut (q_0.drop 210) 30 ck_0_210 ?_
  rw [List.drop_drop]
  refine mm_all_cut (q_0.drop 240) 30 ck_0_240 ?_
  rw [List.drop_drop]
  refine mm_all_cut (q_0.drop 270) 30 ck_0_270 ?_
  rw [List.drop_drop]
  refine mm_all_cut (q_0.drop 300) 30 ck_0_300 ?_
  rw [List.drop_drop]
  refine mm_all_cut (q_0.drop 330) 30 ck_0_330 ?_
  rw [List.drop_drop]
  refine mm_all_cut (q_0.drop 360) 30 ck_0_360 ?_
  rw [List.drop_drop]
  refine mm_all_cut (q_0.drop 390) 30 ck_0_390 ?_
  rw [List.drop_drop]
  refine mm_all_cut (q_0.drop 420) 30 ck_0_420 ?_
  rw [List.drop_drop]
  refine mm_all_cut (q_0.drop 450) 30 ck_0_450 ?_
  rw [List.drop_drop]
  refine mm_all_cut (q_0.drop 480) 30 ck_0_480 ?_
  rw [List.drop_drop]
  refine mm_all_cut (q_0.drop 510) 30 ck_0_510 ?_
  rw [List.drop_drop]
  refine mm_all_cut (q_0.drop 540) 30 ck_0_540 ?_
  rw [List.drop_drop]
  exact ck_0_end
set_option maxRecDepth 100000 in
theorem ck_all : ∀ mi, mi < 164 → (t_LSl.getD mi []).all (mm_chk (t_BC mi) (t_CO mi)) = true := by
  intro mi h
  match mi, h with
  | 0, _ => exact ck_0
  | 1, _ => exact ck_1
  | 2, _ => exact ck_2
  | 3, _ => exact ck_3
  | 4, _ => exact ck_4
  | 5, _ => exact ck_5
  | 6, _ => exact ck_6
  | 7, _ => exact ck_7
  | 8, _ => exact ck_8
  | 9, _ => exact ck_9
  | 10, _ => exact ck_10
  | 11, _ => exact ck_11
  | 12, _ => exact ck_12
  | 13, _ => exact ck_13
  | 14, _ => exact ck_14
  | 15, _ => exact ck_15
  | 16, _ => exact ck_16
  | 17, _ => exact ck_17
  | 18, _ => exact ck_18
  | 19, _ => exact ck_19
  | 20, _ => exact ck_20
  | 21, _ => exact ck_21
  | 22, _ => exact ck_22
  | 23, _ => exact ck_23
  | 24, _ => exact ck_24
  | 25, _ => exact ck_25
  | 26, _ => exact ck_26
  | 27, _ => exact ck_27
  | 28, _ => exact ck_28
  | 29, _ => exact ck_29
  | 30, _ => exact ck_30
  | 31, _ => exact ck_31
  | 32, _ => exact ck_32
  | 33, _ => exact ck_33
  | 34, _ => exact ck_34
  | 35, _ => exact ck_35
  | 36, _ => exact ck_36
  | 37, _ => exact ck_37
  | 38, _ => exact ck_38
  | 39, _ => exact ck_39
  | 40, _ => exact ck_40
  | 41, _ => exact ck_41
  | 42, _ => exact ck_42
  | 43, _ => exact ck_43
  | 44, _ => exact ck_44
  | 45, _ => exact ck_45
  | 46, _ => exact ck_46
  | 47, _ => exact ck_47
  | 48, _ => exact ck_48
  | 49, _ => exact ck_49
  | 50, _ => exact ck_50
  | 51, _ => exact ck_51
  | 52, _ => exact ck_52
  | 53, _ => exact ck_53
  | 54, _ => exact ck_54
  | 55, _ => exact ck_55
  | 56, _ => exact ck_56
  | 57, _ => exact ck_57
  | 58, _ => exact ck_58
  | 59, _ => exact ck_59
  | 60, _ => exact ck_60
  | 61, _ => exact ck_61
  | 62, _ => exact ck_62
  | 63, _ => exact ck_63
  | 64, _ => exact ck_64
  | 65, _ => exact ck_65
  | 66, _ => exact ck_66
  | 67, _ => exact ck_67
  | 68, _ => exact ck_68
  | 69, _ => exact ck_69
  | 70, _ => exact ck_70
  | 71, _ => exact ck_71
  | 72, _ => exact ck_72
  | 73, _ => exact ck_73
  | 74, _ => exact ck_74
  | 75, _ => exact ck_75
  | 76, _ => exact ck_76
  | 77, _ => exact ck_77
  | 78, _ => exact ck_78
  | 79, _ => exact ck_79
  | 80, _ => exact ck_80
  | 81, _ => exact ck_81
  | 82, _ => exact ck_82
  | 83, _ => exact ck_83
  | 84, _ => exact ck_84
  | 85, _ => exact ck_85
  | 86, _ => exact ck_86
  | 87, _ => exact ck_87
  | 88, _ => exact ck_88
  | 89, _ => exact ck_89
  | 90, _ => exact ck_90
  | 91, _ => exact ck_91
  | 92, _ => exact ck_92
  | 93, _ => exact ck_93
  | 94, _ => exact ck_94
  | 95, _ => exact ck_95
  | 96, _ => exact ck_96
  | 97, _ => exact ck_97
  | 98, _ => exact ck_98
  | 99, _ => exact ck_99
  | 100, _ => exact ck_100
  | 101, _ => exact ck_101
  | 102, _ => exact ck_102
  | 103, _ => exact ck_103
  | 104, _ => exact ck_104
  | 105, _ => exact ck_105
  | 106, _ => exact ck_106
  | 107, _ => exact ck_107
  | 108, _ => exact ck_108
  | 109, _ => exact ck_109
  | 110, _ => exact ck_110
  | 111, _ => exact ck_111
  | 112, _ => exact ck_112
  | 113, _ => exact ck_113
  | 114, _ => exact ck_114
  | 115, _ => exact ck_115
  | 116, _ => exact ck_116
  | 117, _ => exact ck_117
  | 118, _ => exact ck_118
  | 119, _ => exact ck_119
  | 120, _ => exact ck_120
  | 121, _ => exact ck_121
  | 122, _ => exact ck_122
  | 123, _ => exact ck_123
  | 124, _ => exact ck_124
  | 125, _ => exact ck_125
  | 126, _ => exact ck_126
  | 127, _ => exact ck_127
  | 128, _ => exact ck_128
  | 129, _ => exact ck_129
  | 130, _ => exact ck_130
  | 131, _ => exact ck_131
  | 132, _ => exact ck_132
  | 133, _ => exact ck_133
  | 134, _ => exact ck_134
  | 135, _ => exact ck_135
  | 136, _ => exact ck_136
  | 137, _ => exact ck_137
  | 138, _ => exact ck_138
  | 139, _ => exact ck_139
  | 140, _ => exact ck_140
  | 141, _ => exact ck_141
  | 142, _ => exact ck_142
  | 143, _ => exact ck_143
  | 144, _ => exact ck_144
  | 145, _ => exact ck_145
  | 146, _ => exact ck_146
  | 147, _ => exact ck_147
  | 148, _ => exact ck_148
  | 149, _ => exact ck_149
  | 150, _ => exact ck_150
  | 151, _ => exact ck_151
  | 152, _ => exact ck_152
  | 153, _ => exact ck_153
  | 154, _ => exact ck_154
  | 155, _ => exact ck_155
  | 156, _ => exact ck_156
  | 157, _ => exact ck_157
  | 158, _ => exact ck_158
  | 159, _ => exact ck_159
  | 160, _ => exact ck_160
  | 161, _ => exact ck_161
  | 162, _ => exact ck_162
  | 163, _ => exact ck_163
  | k + 164, h => exact absurd h (by omega)
set_option maxRecDepth 100000 in
theorem ct_all : ∀ mi, mi < 164 → (t_LSl.getD mi []).all (mm_thr (t_LSl.getD mi [])) = true := by
  intro mi h
  match mi, h with
  | 0, _ => exact ct_0
  | 1, _ => exact ct_1
  | 2, _ => exact ct_2
  | 3, _ => exact ct_3
  | 4, _ => exact ct_4
  | 5, _ => exact ct_5
  | 6, _ => exact ct_6
  | 7, _ => exact ct_7
  | 8, _ => exact ct_8
  | 9, _ => exact ct_9
  | 10, _ => exact ct_10
  | 11, _ => exact ct_11
  | 12, _ => exact ct_12
  | 13, _ => exact ct_13
  | 14, _ => exact ct_14
  | 15, _ => exact ct_15
  | 16, _ => exact ct_16
  | 17, _ => exact ct_17
  | 18, _ => exact ct_18
  | 19, _ => exact ct_19
  | 20, _ => exact ct_20
  | 21, _ => exact ct_21
  | 22, _ => exact ct_22
  | 23, _ => exact ct_23
  | 24, _ => exact ct_24
  | 25, _ => exact ct_25
  | 26, _ => exact ct_26
  | 27, _ => exact ct_27
  | 28, _ => exact ct_28
  | 29, _ => exact ct_29
  | 30, _ => exact ct_30
  | 31, _ => exact ct_31
  | 32, _ => exact ct_32
  | 33, _ => exact ct_33
  | 34, _ => exact ct_34
  | 35, _ => exact ct_35
  | 36, _ => exact ct_36
  | 37, _ => exact ct_37
  | 38, _ => exact ct_38
  | 39, _ => exact ct_39
  | 40, _ => exact ct_40
  | 41, _ => exact ct_41
  | 42, _ => exact ct_42
  | 43, _ => exact ct_43
  | 44, _ => exact ct_44
  | 45, _ => exact ct_45
  | 46, _ => exact ct_46
  | 47, _ => exact ct_47
  | 48, _ => exact ct_48
  | 49, _ => exact ct_49
  | 50, _ => exact ct_50
  | 51, _ => exact ct_51
  | 52, _ => exact ct_52
  | 53, _ => exact ct_53
  | 54, _ => exact ct_54
  | 55, _ => exact ct_55
  | 56, _ => exact ct_56
  | 57, _ => exact ct_57
  | 58, _ => exact ct_58
  | 59, _ => exact ct_59
  | 60, _ => exact ct_60
  | 61, _ => exact ct_61
  | 62, _ => exact ct_62
  | 63, _ => exact ct_63
  | 64, _ => exact ct_64
  | 65, _ => exact ct_65
  | 66, _ => exact ct_66
  | 67, _ => exact ct_67
  | 68, _ => exact ct_68
  | 69, _ => exact ct_69
  | 70, _ => exact ct_70
  | 71, _ => exact ct_71
  | 72, _ => exact ct_72
  | 73, _ => exact ct_73
  | 74, _ => exact ct_74
  | 75, _ => exact ct_75
  | 76, _ => exact ct_76
  | 77, _ => exact ct_77
  | 78, _ => exact ct_78
  | 79, _ => exact ct_79
  | 80, _ => exact ct_80
  | 81, _ => exact ct_81
  | 82, _ => exact ct_82
  | 83, _ => exact ct_83
  | 84, _ => exact ct_84
  | 85, _ => exact ct_85
  | 86, _ => exact ct_86
  | 87, _ => exact ct_87
  | 88, _ => exact ct_88
  | 89, _ => exact ct_89
  | 90, _ => exact ct_90
  | 91, _ => exact ct_91
  | 92, _ => exact ct_92
  | 93, _ => exact ct_93
  | 94, _ => exact ct_94
  | 95, _ => exact ct_95
  | 96, _ => exact ct_96
  | 97, _ => exact ct_97
  | 98, _ => exact ct_98
  | 99, _ => exact ct_99
  | 100, _ => exact ct_100
  | 101, _ => exact ct_101
  | 102, _ => exact ct_102
  | 103, _ => exact ct_103
  | 104, _ => exact ct_104
  | 105, _ => exact ct_105
  | 106, _ => exact ct_106
  | 107, _ => exact ct_107
  | 108, _ => exact ct_108
  | 109, _ => exact ct_109
  | 110, _ => exact ct_110
  | 111, _ => exact ct_111
  | 112, _ => exact ct_112
  | 113, _ => exact ct_113
  | 114, _ => exact ct_114
  | 115, _ => exact ct_115
  | 116, _ => exact ct_116
  | 117, _ => exact ct_117
  | 118, _ => exact ct_118
  | 119, _ => exact ct_119
  | 120, _ => exact ct_120
  | 121, _ => exact ct_121
  | 122, _ => exact ct_122
  | 123, _ => exact ct_123
  | 124, _ => exact ct_124
  | 125, _ => exact ct_125
  | 126, _ => exact ct_126
  | 127, _ => exact ct_127
  | 128, _ => exact ct_128
  | 129, _ => exact ct_129
  | 130, _ => exact ct_130
  | 131, _ => exact ct_131
  | 132, _ => exact ct_132
  | 133, _ => exact ct_133
  | 134, _ => exact ct_134
  | 135, _ => exact ct_135
  | 136, _ => exact ct_136
  | 137, _ => exact ct_137
  | 138, _ => exact ct_138
  | 139, _ => exact ct_139
  | 140, _ => exact ct_140
  | 141, _ => exact ct_141
  | 142, _ => exact ct_142
  | 143, _ => exact ct_143
  | 144, _ => exact ct_144
  | 145, _ => exact ct_145
  | 146, _ => exact ct_146
  | 147, _ => exact ct_147
  | 148, _ => exact ct_148
  | 149, _ => exact ct_149
  | 150, _ => exact ct_150
  | 151, _ => exact ct_151
  | 152, _ => exact ct_152
  | 153, _ => exact ct_153
  | 154, _ => exact ct_154
  | 155, _ => exact ct_155
  | 156, _ => exact ct_156
  | 157, _ => exact ct_157
  | 158, _ => exact ct_158
  | 159, _ => exact ct_159
  | 160, _ => exact ct_160
  | 161, _ => exact ct_161
  | 162, _ => exact ct_162
  | 163, _ => exact ct_163
  | k + 164, h => exact absurd h (by omega)
theorem t_OPin {mi pc : Nat} {q : mm_P} (h : t_OP mi pc = some q) : mi < 164 ∧ (pc, q) ∈ t_LSl.getD mi [] := by
  have h1 : (pc, q) ∈ t_LSl.getD mi [] := mm_find_in h
  refine ⟨?_, h1⟩
  rcases Nat.lt_or_ge mi 164 with h2 | h2
  · exact h2
  · rw [List.getD_eq_getElem?_getD, List.getElem?_eq_none (show t_LSl.length ≤ mi from h2)] at h1
    exact absurd h1 List.not_mem_nil
theorem t_OPok {mi pc : Nat} {q : mm_P} (h : t_OP mi pc = some q) : (∃ n, decode (t_BC mi) pc = .ok (q.1, n) ∧ (mm_sw q.1 = true ∨ n = mm_len q.1)) ∧ mm_cst q.1 q.2.2.2.2.1 pc q.2.1 = true ∧ mm_rsv (t_CO mi) q = true ∧ mm_rm mi (pc, q) = true := by
  obtain ⟨hm, hi⟩ := t_OPin h
  have h1 := List.all_eq_true.mp (ck_all mi hm) _ hi
  have h2 := List.all_eq_true.mp (rm_all mi hm) _ hi
  unfold mm_chk at h1
  simp only [Bool.and_eq_true] at h1
  obtain ⟨h3, h4, h5⟩ := h1
  refine ⟨?_, h4, h5, h2⟩
  split at h3
  · rename_i i n hd
    simp only [Bool.and_eq_true, Bool.or_eq_true] at h3
    have e1 := of_decide_eq_true h3.1
    subst e1
    exact ⟨n, hd, h3.2.imp id Nat.eq_of_beq_eq_true⟩
  · cases h3
