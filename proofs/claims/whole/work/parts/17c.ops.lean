/-! instructions, one by one (written by wip/whole/gen/gen_all.py). -/
section MMO
theorem o_107_0 : t_OP 107 0 = some (.aload_n 0, 0, 0, 0, 0, .null) := by decide +kernel
theorem o_107_1 : t_OP 107 1 = some (.getfield 58, 7, 0, 0, 0, .null) := by decide +kernel
theorem o_107_4 : t_OP 107 4 = some (.ireturn, 0, 0, 0, 0, .null) := by decide +kernel
theorem o_108_0 : t_OP 108 0 = some (.aload_n 0, 0, 0, 0, 0, .null) := by decide +kernel
theorem o_108_1 : t_OP 108 1 = some (.iconst (0), 0, 0, 0, 0, .null) := by decide +kernel
theorem o_108_2 : t_OP 108 2 = some (.putfield 58, 7, 0, 0, 0, .null) := by decide +kernel
theorem o_108_5 : t_OP 108 5 = some (.aload_n 0, 0, 0, 0, 0, .null) := by decide +kernel
theorem o_108_6 : t_OP 108 6 = some (.getfield 62, 7, 1, 0, 0, .null) := by decide +kernel
theorem o_108_9 : t_OP 108 9 = some (.bipush (16), 0, 0, 0, 16, .null) := by decide +kernel
theorem o_108_11 : t_OP 108 11 = some (.iadd, 0, 0, 0, 0, .null) := by decide +kernel
theorem o_108_12 : t_OP 108 12 = some (.sipush (2048), 0, 0, 0, 2048, .null) := by decide +kernel
theorem o_108_15 : t_OP 108 15 = some (.if_icmp .le (9), 24, 0, 0, 0, .null) := by decide +kernel
theorem o_108_18 : t_OP 108 18 = some (.aload_n 0, 0, 0, 0, 0, .null) := by decide +kernel
theorem o_108_19 : t_OP 108 19 = some (.iconst (1), 0, 0, 0, 1, .null) := by decide +kernel
theorem o_108_20 : t_OP 108 20 = some (.invokevirtual 65, 109, 0, 1, 0, .null) := by decide +kernel
theorem o_108_23 : t_OP 108 23 = some (.ireturn, 0, 0, 0, 0, .null) := by decide +kernel
theorem o_108_24 : t_OP 108 24 = some (.iconst (0), 0, 0, 0, 0, .null) := by decide +kernel
theorem o_108_25 : t_OP 108 25 = some (.istore 5, 0, 0, 0, 0, .null) := by decide +kernel
theorem o_108_27 : t_OP 108 27 = some (.iload 5, 0, 0, 0, 0, .null) := by decide +kernel
theorem o_108_29 : t_OP 108 29 = some (.bipush (16), 0, 0, 0, 16, .null) := by decide +kernel
theorem o_108_31 : t_OP 108 31 = some (.if_icmp .ge (70), 101, 0, 0, 0, .null) := by decide +kernel
theorem o_108_34 : t_OP 108 34 = some (.aload_n 0, 0, 0, 0, 0, .null) := by decide +kernel
theorem o_108_35 : t_OP 108 35 = some (.getfield 7, 7, 2, 0, 0, .null) := by decide +kernel
theorem o_108_38 : t_OP 108 38 = some (.aload_n 0, 0, 0, 0, 0, .null) := by decide +kernel
theorem o_108_39 : t_OP 108 39 = some (.getfield 62, 7, 1, 0, 0, .null) := by decide +kernel
theorem o_108_42 : t_OP 108 42 = some (.iload 5, 0, 0, 0, 0, .null) := by decide +kernel
theorem o_108_44 : t_OP 108 44 = some (.iadd, 0, 0, 0, 0, .null) := by decide +kernel
theorem o_108_45 : t_OP 108 45 = some (.iload 5, 0, 0, 0, 0, .null) := by decide +kernel
theorem o_108_47 : t_OP 108 47 = some (.iconst (4), 0, 0, 0, 4, .null) := by decide +kernel
theorem o_108_48 : t_OP 108 48 = some (.if_icmp .ge (7), 55, 0, 0, 0, .null) := by decide +kernel
theorem o_108_51 : t_OP 108 51 = some (.iload_n 1, 0, 0, 0, 0, .null) := by decide +kernel
theorem o_108_52 : t_OP 108 52 = some (.goto (27), 79, 0, 0, 0, .null) := by decide +kernel
theorem o_108_55 : t_OP 108 55 = some (.iload 5, 0, 0, 0, 0, .null) := by decide +kernel
theorem o_108_57 : t_OP 108 57 = some (.bipush (8), 0, 0, 0, 8, .null) := by decide +kernel
theorem o_108_59 : t_OP 108 59 = some (.if_icmp .ge (7), 66, 0, 0, 0, .null) := by decide +kernel
theorem o_108_62 : t_OP 108 62 = some (.iload_n 2, 0, 0, 0, 0, .null) := by decide +kernel
theorem o_108_63 : t_OP 108 63 = some (.goto (16), 79, 0, 0, 0, .null) := by decide +kernel
theorem o_108_66 : t_OP 108 66 = some (.iload 5, 0, 0, 0, 0, .null) := by decide +kernel
theorem o_108_68 : t_OP 108 68 = some (.bipush (12), 0, 0, 0, 12, .null) := by decide +kernel
theorem o_108_70 : t_OP 108 70 = some (.if_icmp .ge (7), 77, 0, 0, 0, .null) := by decide +kernel
theorem o_108_73 : t_OP 108 73 = some (.iload_n 3, 0, 0, 0, 0, .null) := by decide +kernel
theorem o_108_74 : t_OP 108 74 = some (.goto (5), 79, 0, 0, 0, .null) := by decide +kernel
theorem o_108_77 : t_OP 108 77 = some (.iload 4, 0, 0, 0, 0, .null) := by decide +kernel
theorem o_108_79 : t_OP 108 79 = some (.bipush (24), 0, 0, 0, 24, .null) := by decide +kernel
theorem o_108_81 : t_OP 108 81 = some (.bipush (8), 0, 0, 0, 8, .null) := by decide +kernel
theorem o_108_83 : t_OP 108 83 = some (.iload 5, 0, 0, 0, 0, .null) := by decide +kernel
theorem o_108_85 : t_OP 108 85 = some (.iconst (4), 0, 0, 0, 4, .null) := by decide +kernel
theorem o_108_86 : t_OP 108 86 = some (.irem, 0, 0, 0, 0, .null) := by decide +kernel
theorem o_108_87 : t_OP 108 87 = some (.imul, 0, 0, 0, 0, .null) := by decide +kernel
theorem o_108_88 : t_OP 108 88 = some (.isub, 0, 0, 0, 0, .null) := by decide +kernel
theorem o_108_89 : t_OP 108 89 = some (.ishr, 0, 0, 0, 0, .null) := by decide +kernel
theorem o_108_90 : t_OP 108 90 = some (.sipush (255), 0, 0, 0, 255, .null) := by decide +kernel
theorem o_108_93 : t_OP 108 93 = some (.iand, 0, 0, 0, 0, .null) := by decide +kernel
theorem o_108_94 : t_OP 108 94 = some (.iastore, 0, 0, 0, 0, .null) := by decide +kernel
theorem o_108_95 : t_OP 108 95 = some (.iinc 5 (1), 0, 0, 0, 1, .null) := by decide +kernel
theorem o_108_98 : t_OP 108 98 = some (.goto (-71), 27, 0, 0, 0, .null) := by decide +kernel
theorem o_108_101 : t_OP 108 101 = some (.aload_n 0, 0, 0, 0, 0, .null) := by decide +kernel
theorem o_108_102 : t_OP 108 102 = some (.dup, 0, 0, 0, 0, .null) := by decide +kernel
theorem o_108_103 : t_OP 108 103 = some (.getfield 62, 7, 1, 0, 0, .null) := by decide +kernel
theorem o_108_106 : t_OP 108 106 = some (.bipush (16), 0, 0, 0, 16, .null) := by decide +kernel
theorem o_108_108 : t_OP 108 108 = some (.iadd, 0, 0, 0, 0, .null) := by decide +kernel
theorem o_108_109 : t_OP 108 109 = some (.putfield 62, 7, 1, 0, 0, .null) := by decide +kernel
theorem o_108_112 : t_OP 108 112 = some (.aload_n 0, 0, 0, 0, 0, .null) := by decide +kernel
theorem o_108_113 : t_OP 108 113 = some (.getfield 62, 7, 1, 0, 0, .null) := by decide +kernel
theorem o_108_116 : t_OP 108 116 = some (.ireturn, 0, 0, 0, 0, .null) := by decide +kernel
theorem o_109_0 : t_OP 109 0 = some (.aload_n 0, 0, 0, 0, 0, .null) := by decide +kernel
theorem o_109_1 : t_OP 109 1 = some (.iload_n 1, 0, 0, 0, 0, .null) := by decide +kernel
theorem o_109_2 : t_OP 109 2 = some (.putfield 58, 7, 0, 0, 0, .null) := by decide +kernel
theorem o_109_5 : t_OP 109 5 = some (.iconst (0), 0, 0, 0, 0, .null) := by decide +kernel
theorem o_109_6 : t_OP 109 6 = some (.ireturn, 0, 0, 0, 0, .null) := by decide +kernel
theorem o_110_0 : t_OP 110 0 = some (.aload_n 0, 0, 0, 0, 0, .null) := by decide +kernel
theorem o_110_1 : t_OP 110 1 = some (.iconst (0), 0, 0, 0, 0, .null) := by decide +kernel
theorem o_110_2 : t_OP 110 2 = some (.putfield 58, 7, 0, 0, 0, .null) := by decide +kernel
theorem o_110_5 : t_OP 110 5 = some (.iload_n 1, 0, 0, 0, 0, .null) := by decide +kernel
theorem o_110_6 : t_OP 110 6 = some (.iconst (0), 0, 0, 0, 0, .null) := by decide +kernel
theorem o_110_7 : t_OP 110 7 = some (.bipush (16), 0, 0, 0, 16, .null) := by decide +kernel
theorem o_110_9 : t_OP 110 9 = some (.invokestatic 69, 111, 2, 3, 0, .null) := by decide +kernel
theorem o_110_12 : t_OP 110 12 = some (.ifCond .ne (9), 21, 0, 0, 0, .null) := by decide +kernel
theorem o_110_15 : t_OP 110 15 = some (.aload_n 0, 0, 0, 0, 0, .null) := by decide +kernel
theorem o_110_16 : t_OP 110 16 = some (.iconst (1), 0, 0, 0, 1, .null) := by decide +kernel
theorem o_110_17 : t_OP 110 17 = some (.invokevirtual 65, 109, 0, 1, 0, .null) := by decide +kernel
theorem o_110_20 : t_OP 110 20 = some (.ireturn, 0, 0, 0, 0, .null) := by decide +kernel
theorem o_110_21 : t_OP 110 21 = some (.aload_n 0, 0, 0, 0, 0, .null) := by decide +kernel
theorem o_110_22 : t_OP 110 22 = some (.getfield 62, 7, 1, 0, 0, .null) := by decide +kernel
theorem o_110_25 : t_OP 110 25 = some (.bipush (16), 0, 0, 0, 16, .null) := by decide +kernel
theorem o_110_27 : t_OP 110 27 = some (.if_icmp .ge (9), 36, 0, 0, 0, .null) := by decide +kernel
theorem o_110_30 : t_OP 110 30 = some (.aload_n 0, 0, 0, 0, 0, .null) := by decide +kernel
theorem o_110_31 : t_OP 110 31 = some (.iconst (2), 0, 0, 0, 2, .null) := by decide +kernel
theorem o_110_32 : t_OP 110 32 = some (.invokevirtual 65, 109, 0, 1, 0, .null) := by decide +kernel
theorem o_110_35 : t_OP 110 35 = some (.ireturn, 0, 0, 0, 0, .null) := by decide +kernel
theorem o_110_36 : t_OP 110 36 = some (.aload_n 0, 0, 0, 0, 0, .null) := by decide +kernel
theorem o_110_37 : t_OP 110 37 = some (.dup, 0, 0, 0, 0, .null) := by decide +kernel
theorem o_110_38 : t_OP 110 38 = some (.getfield 62, 7, 1, 0, 0, .null) := by decide +kernel
theorem o_110_41 : t_OP 110 41 = some (.iload_n 1, 0, 0, 0, 0, .null) := by decide +kernel
theorem o_110_42 : t_OP 110 42 = some (.bipush (16), 0, 0, 0, 16, .null) := by decide +kernel
theorem o_110_44 : t_OP 110 44 = some (.isub, 0, 0, 0, 0, .null) := by decide +kernel
theorem o_110_45 : t_OP 110 45 = some (.iadd, 0, 0, 0, 0, .null) := by decide +kernel
theorem o_110_46 : t_OP 110 46 = some (.putfield 62, 7, 1, 0, 0, .null) := by decide +kernel
theorem o_110_49 : t_OP 110 49 = some (.aload_n 0, 0, 0, 0, 0, .null) := by decide +kernel
theorem o_110_50 : t_OP 110 50 = some (.getfield 62, 7, 1, 0, 0, .null) := by decide +kernel
theorem o_110_53 : t_OP 110 53 = some (.ireturn, 0, 0, 0, 0, .null) := by decide +kernel
theorem o_111_0 : t_OP 111 0 = some (.iload_n 0, 0, 0, 0, 0, .null) := by decide +kernel
theorem o_111_1 : t_OP 111 1 = some (.iload_n 1, 0, 0, 0, 0, .null) := by decide +kernel
theorem o_111_2 : t_OP 111 2 = some (.if_icmp .lt (12), 14, 0, 0, 0, .null) := by decide +kernel
theorem o_111_5 : t_OP 111 5 = some (.iload_n 0, 0, 0, 0, 0, .null) := by decide +kernel
theorem o_111_6 : t_OP 111 6 = some (.iload_n 2, 0, 0, 0, 0, .null) := by decide +kernel
theorem o_111_7 : t_OP 111 7 = some (.if_icmp .gt (7), 14, 0, 0, 0, .null) := by decide +kernel
theorem o_111_10 : t_OP 111 10 = some (.iconst (1), 0, 0, 0, 1, .null) := by decide +kernel
theorem o_111_11 : t_OP 111 11 = some (.goto (4), 15, 0, 0, 0, .null) := by decide +kernel
theorem o_111_14 : t_OP 111 14 = some (.iconst (0), 0, 0, 0, 0, .null) := by decide +kernel
theorem o_111_15 : t_OP 111 15 = some (.ireturn, 0, 0, 0, 0, .null) := by decide +kernel
theorem o_112_0 : t_OP 112 0 = some (.aload_n 0, 0, 0, 0, 0, .null) := by decide +kernel
theorem o_112_1 : t_OP 112 1 = some (.iconst (0), 0, 0, 0, 0, .null) := by decide +kernel
theorem o_112_2 : t_OP 112 2 = some (.putfield 58, 7, 0, 0, 0, .null) := by decide +kernel
theorem o_112_5 : t_OP 112 5 = some (.aload_n 0, 0, 0, 0, 0, .null) := by decide +kernel
theorem o_112_6 : t_OP 112 6 = some (.iconst (0), 0, 0, 0, 0, .null) := by decide +kernel
theorem o_112_7 : t_OP 112 7 = some (.putfield 95, 7, 3, 0, 0, .null) := by decide +kernel
theorem o_112_10 : t_OP 112 10 = some (.aload_n 0, 0, 0, 0, 0, .null) := by decide +kernel
theorem o_112_11 : t_OP 112 11 = some (.iconst (0), 0, 0, 0, 0, .null) := by decide +kernel
theorem o_112_12 : t_OP 112 12 = some (.putfield 98, 7, 4, 0, 0, .null) := by decide +kernel
theorem o_112_15 : t_OP 112 15 = some (.aload_n 0, 0, 0, 0, 0, .null) := by decide +kernel
theorem o_112_16 : t_OP 112 16 = some (.invokevirtual 177, 113, 0, 0, 0, .null) := by decide +kernel
theorem o_112_19 : t_OP 112 19 = some (.aload_n 0, 0, 0, 0, 0, .null) := by decide +kernel
theorem o_112_20 : t_OP 112 20 = some (.invokevirtual 180, 114, 0, 0, 0, .null) := by decide +kernel
theorem o_112_23 : t_OP 112 23 = some (.aload_n 0, 0, 0, 0, 0, .null) := by decide +kernel
theorem o_112_24 : t_OP 112 24 = some (.iconst (0), 0, 0, 0, 0, .null) := by decide +kernel
theorem o_112_25 : t_OP 112 25 = some (.putfield 62, 7, 1, 0, 0, .null) := by decide +kernel
theorem o_112_28 : t_OP 112 28 = some (.aload_n 0, 0, 0, 0, 0, .null) := by decide +kernel
theorem o_112_29 : t_OP 112 29 = some (.aload_n 0, 0, 0, 0, 0, .null) := by decide +kernel
theorem o_112_30 : t_OP 112 30 = some (.getfield 95, 7, 3, 0, 0, .null) := by decide +kernel
theorem o_112_33 : t_OP 112 33 = some (.ifCond .ne (7), 40, 0, 0, 0, .null) := by decide +kernel
theorem o_112_36 : t_OP 112 36 = some (.iconst (1), 0, 0, 0, 1, .null) := by decide +kernel
theorem o_112_37 : t_OP 112 37 = some (.goto (4), 41, 0, 0, 0, .null) := by decide +kernel
theorem o_112_40 : t_OP 112 40 = some (.iconst (0), 0, 0, 0, 0, .null) := by decide +kernel
theorem o_112_41 : t_OP 112 41 = some (.putfield 183, 7, 5, 0, 0, .null) := by decide +kernel
theorem o_112_44 : t_OP 112 44 = some (.aload_n 0, 0, 0, 0, 0, .null) := by decide +kernel
theorem o_112_45 : t_OP 112 45 = some (.getfield 183, 7, 5, 0, 0, .null) := by decide +kernel
theorem o_112_48 : t_OP 112 48 = some (.ifCond .eq (8), 56, 0, 0, 0, .null) := by decide +kernel
theorem o_112_51 : t_OP 112 51 = some (.aload_n 0, 0, 0, 0, 0, .null) := by decide +kernel
theorem o_112_52 : t_OP 112 52 = some (.getfield 118, 7, 7, 0, 0, .null) := by decide +kernel
theorem o_112_55 : t_OP 112 55 = some (.ireturn, 0, 0, 0, 0, .null) := by decide +kernel
theorem o_112_56 : t_OP 112 56 = some (.aload_n 0, 0, 0, 0, 0, .null) := by decide +kernel
theorem o_112_57 : t_OP 112 57 = some (.invokevirtual 177, 113, 0, 0, 0, .null) := by decide +kernel
theorem o_112_60 : t_OP 112 60 = some (.aload_n 0, 0, 0, 0, 0, .null) := by decide +kernel
theorem o_112_61 : t_OP 112 61 = some (.iconst (1), 0, 0, 0, 1, .null) := by decide +kernel
theorem o_112_62 : t_OP 112 62 = some (.invokevirtual 65, 109, 0, 1, 0, .null) := by decide +kernel
theorem o_112_65 : t_OP 112 65 = some (.ireturn, 0, 0, 0, 0, .null) := by decide +kernel
theorem o_113_0 : t_OP 113 0 = some (.aload_n 0, 0, 0, 0, 0, .null) := by decide +kernel
theorem o_113_1 : t_OP 113 1 = some (.iconst (0), 0, 0, 0, 0, .null) := by decide +kernel
theorem o_113_2 : t_OP 113 2 = some (.putfield 142, 7, 6, 0, 0, .null) := by decide +kernel
theorem o_113_5 : t_OP 113 5 = some (.aload_n 0, 0, 0, 0, 0, .null) := by decide +kernel
theorem o_113_6 : t_OP 113 6 = some (.iconst (0), 0, 0, 0, 0, .null) := by decide +kernel
theorem o_113_7 : t_OP 113 7 = some (.putfield 118, 7, 7, 0, 0, .null) := by decide +kernel
theorem o_113_10 : t_OP 113 10 = some (.aload_n 0, 0, 0, 0, 0, .null) := by decide +kernel
theorem o_113_11 : t_OP 113 11 = some (.iconst (0), 0, 0, 0, 0, .null) := by decide +kernel
theorem o_113_12 : t_OP 113 12 = some (.putfield 148, 7, 8, 0, 0, .null) := by decide +kernel
theorem o_113_15 : t_OP 113 15 = some (.aload_n 0, 0, 0, 0, 0, .null) := by decide +kernel
theorem o_113_16 : t_OP 113 16 = some (.iconst (0), 0, 0, 0, 0, .null) := by decide +kernel
theorem o_113_17 : t_OP 113 17 = some (.putfield 161, 7, 9, 0, 0, .null) := by decide +kernel
theorem o_113_20 : t_OP 113 20 = some (.aload_n 0, 0, 0, 0, 0, .null) := by decide +kernel
theorem o_113_21 : t_OP 113 21 = some (.iconst (0), 0, 0, 0, 0, .null) := by decide +kernel
theorem o_113_22 : t_OP 113 22 = some (.putfield 167, 7, 25, 0, 0, .null) := by decide +kernel
theorem o_113_25 : t_OP 113 25 = some (.aload_n 0, 0, 0, 0, 0, .null) := by decide +kernel
theorem o_113_26 : t_OP 113 26 = some (.iconst (0), 0, 0, 0, 0, .null) := by decide +kernel
theorem o_113_27 : t_OP 113 27 = some (.putfield 171, 7, 29, 0, 0, .null) := by decide +kernel
theorem o_113_30 : t_OP 113 30 = some (.aload_n 0, 0, 0, 0, 0, .null) := by decide +kernel
theorem o_113_31 : t_OP 113 31 = some (.iconst (0), 0, 0, 0, 0, .null) := by decide +kernel
theorem o_113_32 : t_OP 113 32 = some (.putfield 174, 7, 28, 0, 0, .null) := by decide +kernel
theorem o_113_35 : t_OP 113 35 = some (.return_, 0, 0, 0, 0, .null) := by decide +kernel
theorem o_114_0 : t_OP 114 0 = some (.aload_n 0, 0, 0, 0, 0, .null) := by decide +kernel
theorem o_114_1 : t_OP 114 1 = some (.iconst (0), 0, 0, 0, 0, .null) := by decide +kernel
theorem o_114_2 : t_OP 114 2 = some (.putfield 73, 7, 19, 0, 0, .null) := by decide +kernel
theorem o_114_5 : t_OP 114 5 = some (.aload_n 0, 0, 0, 0, 0, .null) := by decide +kernel
theorem o_114_6 : t_OP 114 6 = some (.invokevirtual 108, 115, 0, 0, 0, .null) := by decide +kernel
theorem o_114_9 : t_OP 114 9 = some (.aload_n 0, 0, 0, 0, 0, .null) := by decide +kernel
theorem o_114_10 : t_OP 114 10 = some (.invokevirtual 155, 119, 0, 0, 0, .null) := by decide +kernel
theorem o_114_13 : t_OP 114 13 = some (.aload_n 0, 0, 0, 0, 0, .null) := by decide +kernel
theorem o_114_14 : t_OP 114 14 = some (.getfield 95, 7, 3, 0, 0, .null) := by decide +kernel
theorem o_114_17 : t_OP 114 17 = some (.ifCond .ne (24), 41, 0, 0, 0, .null) := by decide +kernel
theorem o_114_20 : t_OP 114 20 = some (.aload_n 0, 0, 0, 0, 0, .null) := by decide +kernel
theorem o_114_21 : t_OP 114 21 = some (.getfield 82, 7, 17, 0, 0, .null) := by decide +kernel
theorem o_114_24 : t_OP 114 24 = some (.ifCond .eq (17), 41, 0, 0, 0, .null) := by decide +kernel
theorem o_114_27 : t_OP 114 27 = some (.aload_n 0, 0, 0, 0, 0, .null) := by decide +kernel
theorem o_114_28 : t_OP 114 28 = some (.invokevirtual 158, 130, 0, 0, 0, .null) := by decide +kernel
theorem o_114_31 : t_OP 114 31 = some (.ifCond .ne (10), 41, 0, 0, 0, .null) := by decide +kernel
theorem o_114_34 : t_OP 114 34 = some (.aload_n 0, 0, 0, 0, 0, .null) := by decide +kernel
theorem o_114_35 : t_OP 114 35 = some (.invokevirtual 155, 119, 0, 0, 0, .null) := by decide +kernel
theorem o_114_38 : t_OP 114 38 = some (.goto (-25), 13, 0, 0, 0, .null) := by decide +kernel
theorem o_114_41 : t_OP 114 41 = some (.aload_n 0, 0, 0, 0, 0, .null) := by decide +kernel
theorem o_114_42 : t_OP 114 42 = some (.getfield 95, 7, 3, 0, 0, .null) := by decide +kernel
theorem o_114_45 : t_OP 114 45 = some (.ifCond .gt (10), 55, 0, 0, 0, .null) := by decide +kernel
theorem o_114_48 : t_OP 114 48 = some (.aload_n 0, 0, 0, 0, 0, .null) := by decide +kernel
theorem o_114_49 : t_OP 114 49 = some (.getfield 82, 7, 17, 0, 0, .null) := by decide +kernel
theorem o_114_52 : t_OP 114 52 = some (.ifCond .ne (4), 56, 0, 0, 0, .null) := by decide +kernel
theorem o_114_55 : t_OP 114 55 = some (.return_, 0, 0, 0, 0, .null) := by decide +kernel
theorem o_114_56 : t_OP 114 56 = some (.aload_n 0, 0, 0, 0, 0, .null) := by decide +kernel
theorem o_114_57 : t_OP 114 57 = some (.aload_n 0, 0, 0, 0, 0, .null) := by decide +kernel
theorem o_114_58 : t_OP 114 58 = some (.invokevirtual 158, 130, 0, 0, 0, .null) := by decide +kernel
theorem o_114_61 : t_OP 114 61 = some (.putfield 161, 7, 9, 0, 0, .null) := by decide +kernel
theorem o_114_64 : t_OP 114 64 = some (.aload_n 0, 0, 0, 0, 0, .null) := by decide +kernel
theorem o_114_65 : t_OP 114 65 = some (.invokevirtual 108, 115, 0, 0, 0, .null) := by decide +kernel
theorem o_114_68 : t_OP 114 68 = some (.aload_n 0, 0, 0, 0, 0, .null) := by decide +kernel
theorem o_114_69 : t_OP 114 69 = some (.bipush (40), 0, 0, 0, 40, .null) := by decide +kernel
theorem o_114_71 : t_OP 114 71 = some (.invokevirtual 134, 124, 0, 1, 0, .null) := by decide +kernel
theorem o_114_74 : t_OP 114 74 = some (.aload_n 0, 0, 0, 0, 0, .null) := by decide +kernel
theorem o_114_75 : t_OP 114 75 = some (.getfield 95, 7, 3, 0, 0, .null) := by decide +kernel
theorem o_114_78 : t_OP 114 78 = some (.ifCond .ne (7), 85, 0, 0, 0, .null) := by decide +kernel
theorem o_114_81 : t_OP 114 81 = some (.aload_n 0, 0, 0, 0, 0, .null) := by decide +kernel
theorem o_114_82 : t_OP 114 82 = some (.invokevirtual 164, 131, 0, 0, 0, .null) := by decide +kernel
theorem o_114_85 : t_OP 114 85 = some (.aload_n 0, 0, 0, 0, 0, .null) := by decide +kernel
theorem o_114_86 : t_OP 114 86 = some (.getfield 95, 7, 3, 0, 0, .null) := by decide +kernel
theorem o_114_89 : t_OP 114 89 = some (.ifCond .ne (23), 112, 0, 0, 0, .null) := by decide +kernel
theorem o_114_92 : t_OP 114 92 = some (.aload_n 0, 0, 0, 0, 0, .null) := by decide +kernel
theorem o_114_93 : t_OP 114 93 = some (.getfield 82, 7, 17, 0, 0, .null) := by decide +kernel
theorem o_114_96 : t_OP 114 96 = some (.bipush (38), 0, 0, 0, 38, .null) := by decide +kernel
theorem o_114_98 : t_OP 114 98 = some (.if_icmp .ne (14), 112, 0, 0, 0, .null) := by decide +kernel
theorem o_114_101 : t_OP 114 101 = some (.aload_n 0, 0, 0, 0, 0, .null) := by decide +kernel
theorem o_114_102 : t_OP 114 102 = some (.invokevirtual 108, 115, 0, 0, 0, .null) := by decide +kernel
theorem o_114_105 : t_OP 114 105 = some (.aload_n 0, 0, 0, 0, 0, .null) := by decide +kernel
theorem o_114_106 : t_OP 114 106 = some (.invokevirtual 164, 131, 0, 0, 0, .null) := by decide +kernel
theorem o_114_109 : t_OP 114 109 = some (.goto (-24), 85, 0, 0, 0, .null) := by decide +kernel
theorem o_114_112 : t_OP 114 112 = some (.aload_n 0, 0, 0, 0, 0, .null) := by decide +kernel
theorem o_114_113 : t_OP 114 113 = some (.getfield 95, 7, 3, 0, 0, .null) := by decide +kernel
theorem o_114_116 : t_OP 114 116 = some (.ifCond .ne (9), 125, 0, 0, 0, .null) := by decide +kernel
theorem o_114_119 : t_OP 114 119 = some (.aload_n 0, 0, 0, 0, 0, .null) := by decide +kernel
theorem o_114_120 : t_OP 114 120 = some (.bipush (41), 0, 0, 0, 41, .null) := by decide +kernel
theorem o_114_122 : t_OP 114 122 = some (.invokevirtual 134, 124, 0, 1, 0, .null) := by decide +kernel
theorem o_114_125 : t_OP 114 125 = some (.aload_n 0, 0, 0, 0, 0, .null) := by decide +kernel
theorem o_114_126 : t_OP 114 126 = some (.getfield 95, 7, 3, 0, 0, .null) := by decide +kernel
theorem o_114_129 : t_OP 114 129 = some (.ifCond .ne (14), 143, 0, 0, 0, .null) := by decide +kernel
theorem o_114_132 : t_OP 114 132 = some (.aload_n 0, 0, 0, 0, 0, .null) := by decide +kernel
theorem o_114_133 : t_OP 114 133 = some (.getfield 82, 7, 17, 0, 0, .null) := by decide +kernel
theorem o_114_136 : t_OP 114 136 = some (.ifCond .eq (7), 143, 0, 0, 0, .null) := by decide +kernel
theorem o_114_139 : t_OP 114 139 = some (.aload_n 0, 0, 0, 0, 0, .null) := by decide +kernel
theorem o_114_140 : t_OP 114 140 = some (.invokevirtual 105, 122, 0, 0, 0, .null) := by decide +kernel
theorem o_114_143 : t_OP 114 143 = some (.return_, 0, 0, 0, 0, .null) := by decide +kernel
theorem o_115_0 : t_OP 115 0 = some (.aload_n 0, 0, 0, 0, 0, .null) := by decide +kernel
theorem o_115_1 : t_OP 115 1 = some (.aload_n 0, 0, 0, 0, 0, .null) := by decide +kernel
theorem o_115_2 : t_OP 115 2 = some (.getfield 73, 7, 19, 0, 0, .null) := by decide +kernel
theorem o_115_5 : t_OP 115 5 = some (.putfield 76, 7, 18, 0, 0, .null) := by decide +kernel
theorem o_115_8 : t_OP 115 8 = some (.aload_n 0, 0, 0, 0, 0, .null) := by decide +kernel
theorem o_115_9 : t_OP 115 9 = some (.aload_n 0, 0, 0, 0, 0, .null) := by decide +kernel
theorem o_115_10 : t_OP 115 10 = some (.getfield 76, 7, 18, 0, 0, .null) := by decide +kernel
theorem o_115_13 : t_OP 115 13 = some (.invokevirtual 79, 116, 0, 1, 0, .null) := by decide +kernel
theorem o_115_16 : t_OP 115 16 = some (.bipush (10), 0, 0, 0, 10, .null) := by decide +kernel
theorem o_115_18 : t_OP 115 18 = some (.if_icmp .eq (16), 34, 0, 0, 0, .null) := by decide +kernel
theorem o_115_21 : t_OP 115 21 = some (.aload_n 0, 0, 0, 0, 0, .null) := by decide +kernel
theorem o_115_22 : t_OP 115 22 = some (.aload_n 0, 0, 0, 0, 0, .null) := by decide +kernel
theorem o_115_23 : t_OP 115 23 = some (.getfield 76, 7, 18, 0, 0, .null) := by decide +kernel
theorem o_115_26 : t_OP 115 26 = some (.invokevirtual 79, 116, 0, 1, 0, .null) := by decide +kernel
theorem o_115_29 : t_OP 115 29 = some (.bipush (32), 0, 0, 0, 32, .null) := by decide +kernel
theorem o_115_31 : t_OP 115 31 = some (.if_icmp .ne (16), 47, 0, 0, 0, .null) := by decide +kernel
theorem o_115_34 : t_OP 115 34 = some (.aload_n 0, 0, 0, 0, 0, .null) := by decide +kernel
theorem o_115_35 : t_OP 115 35 = some (.dup, 0, 0, 0, 0, .null) := by decide +kernel
theorem o_115_36 : t_OP 115 36 = some (.getfield 76, 7, 18, 0, 0, .null) := by decide +kernel
theorem o_115_39 : t_OP 115 39 = some (.iconst (1), 0, 0, 0, 1, .null) := by decide +kernel
theorem o_115_40 : t_OP 115 40 = some (.iadd, 0, 0, 0, 0, .null) := by decide +kernel
theorem o_115_41 : t_OP 115 41 = some (.putfield 76, 7, 18, 0, 0, .null) := by decide +kernel
theorem o_115_44 : t_OP 115 44 = some (.goto (-36), 8, 0, 0, 0, .null) := by decide +kernel
theorem o_115_47 : t_OP 115 47 = some (.aload_n 0, 0, 0, 0, 0, .null) := by decide +kernel
theorem o_115_48 : t_OP 115 48 = some (.aload_n 0, 0, 0, 0, 0, .null) := by decide +kernel
theorem o_115_49 : t_OP 115 49 = some (.getfield 76, 7, 18, 0, 0, .null) := by decide +kernel
theorem o_115_52 : t_OP 115 52 = some (.putfield 73, 7, 19, 0, 0, .null) := by decide +kernel
theorem o_115_55 : t_OP 115 55 = some (.aload_n 0, 0, 0, 0, 0, .null) := by decide +kernel
theorem o_115_56 : t_OP 115 56 = some (.aload_n 0, 0, 0, 0, 0, .null) := by decide +kernel
theorem o_115_57 : t_OP 115 57 = some (.getfield 76, 7, 18, 0, 0, .null) := by decide +kernel
theorem o_115_60 : t_OP 115 60 = some (.invokevirtual 79, 116, 0, 1, 0, .null) := by decide +kernel
theorem o_115_63 : t_OP 115 63 = some (.istore_n 1, 0, 0, 0, 0, .null) := by decide +kernel
theorem o_115_64 : t_OP 115 64 = some (.iload_n 1, 0, 0, 0, 0, .null) := by decide +kernel
theorem o_115_65 : t_OP 115 65 = some (.ifCond .ge (11), 76, 0, 0, 0, .null) := by decide +kernel
theorem o_115_68 : t_OP 115 68 = some (.aload_n 0, 0, 0, 0, 0, .null) := by decide +kernel
theorem o_115_69 : t_OP 115 69 = some (.iconst (0), 0, 0, 0, 0, .null) := by decide +kernel
theorem o_115_70 : t_OP 115 70 = some (.putfield 82, 7, 17, 0, 0, .null) := by decide +kernel
theorem o_115_73 : t_OP 115 73 = some (.goto (199), 272, 0, 0, 0, .null) := by decide +kernel
theorem o_115_76 : t_OP 115 76 = some (.iload_n 1, 0, 0, 0, 0, .null) := by decide +kernel
theorem o_115_77 : t_OP 115 77 = some (.invokestatic 85, 117, 2, 1, 0, .null) := by decide +kernel
theorem o_115_80 : t_OP 115 80 = some (.ifCond .eq (52), 132, 0, 0, 0, .null) := by decide +kernel
theorem o_115_83 : t_OP 115 83 = some (.aload_n 0, 0, 0, 0, 0, .null) := by decide +kernel
theorem o_115_84 : t_OP 115 84 = some (.aload_n 0, 0, 0, 0, 0, .null) := by decide +kernel
theorem o_115_85 : t_OP 115 85 = some (.getfield 73, 7, 19, 0, 0, .null) := by decide +kernel
theorem o_115_88 : t_OP 115 88 = some (.invokevirtual 79, 116, 0, 1, 0, .null) := by decide +kernel
theorem o_115_91 : t_OP 115 91 = some (.invokestatic 85, 117, 2, 1, 0, .null) := by decide +kernel
theorem o_115_94 : t_OP 115 94 = some (.ifCond .ne (17), 111, 0, 0, 0, .null) := by decide +kernel
theorem o_115_97 : t_OP 115 97 = some (.aload_n 0, 0, 0, 0, 0, .null) := by decide +kernel
theorem o_115_98 : t_OP 115 98 = some (.aload_n 0, 0, 0, 0, 0, .null) := by decide +kernel
theorem o_115_99 : t_OP 115 99 = some (.getfield 73, 7, 19, 0, 0, .null) := by decide +kernel
theorem o_115_102 : t_OP 115 102 = some (.invokevirtual 79, 116, 0, 1, 0, .null) := by decide +kernel
theorem o_115_105 : t_OP 115 105 = some (.invokestatic 89, 118, 2, 1, 0, .null) := by decide +kernel
theorem o_115_108 : t_OP 115 108 = some (.ifCond .eq (16), 124, 0, 0, 0, .null) := by decide +kernel
theorem o_115_111 : t_OP 115 111 = some (.aload_n 0, 0, 0, 0, 0, .null) := by decide +kernel
theorem o_115_112 : t_OP 115 112 = some (.dup, 0, 0, 0, 0, .null) := by decide +kernel
theorem o_115_113 : t_OP 115 113 = some (.getfield 73, 7, 19, 0, 0, .null) := by decide +kernel
theorem o_115_116 : t_OP 115 116 = some (.iconst (1), 0, 0, 0, 1, .null) := by decide +kernel
theorem o_115_117 : t_OP 115 117 = some (.iadd, 0, 0, 0, 0, .null) := by decide +kernel
theorem o_115_118 : t_OP 115 118 = some (.putfield 73, 7, 19, 0, 0, .null) := by decide +kernel
theorem o_115_121 : t_OP 115 121 = some (.goto (-38), 83, 0, 0, 0, .null) := by decide +kernel
theorem o_115_124 : t_OP 115 124 = some (.aload_n 0, 0, 0, 0, 0, .null) := by decide +kernel
theorem o_115_125 : t_OP 115 125 = some (.iconst (1), 0, 0, 0, 1, .null) := by decide +kernel
theorem o_115_126 : t_OP 115 126 = some (.putfield 82, 7, 17, 0, 0, .null) := by decide +kernel
theorem o_115_129 : t_OP 115 129 = some (.goto (143), 272, 0, 0, 0, .null) := by decide +kernel
theorem o_115_132 : t_OP 115 132 = some (.iload_n 1, 0, 0, 0, 0, .null) := by decide +kernel
theorem o_115_133 : t_OP 115 133 = some (.invokestatic 89, 118, 2, 1, 0, .null) := by decide +kernel
theorem o_115_136 : t_OP 115 136 = some (.ifCond .eq (81), 217, 0, 0, 0, .null) := by decide +kernel
theorem o_115_139 : t_OP 115 139 = some (.aload_n 0, 0, 0, 0, 0, .null) := by decide +kernel
theorem o_115_140 : t_OP 115 140 = some (.iconst (0), 0, 0, 0, 0, .null) := by decide +kernel
theorem o_115_141 : t_OP 115 141 = some (.putfield 92, 7, 20, 0, 0, .null) := by decide +kernel
theorem o_115_144 : t_OP 115 144 = some (.aload_n 0, 0, 0, 0, 0, .null) := by decide +kernel
theorem o_115_145 : t_OP 115 145 = some (.aload_n 0, 0, 0, 0, 0, .null) := by decide +kernel
theorem o_115_146 : t_OP 115 146 = some (.getfield 73, 7, 19, 0, 0, .null) := by decide +kernel
theorem o_115_149 : t_OP 115 149 = some (.invokevirtual 79, 116, 0, 1, 0, .null) := by decide +kernel
theorem o_115_152 : t_OP 115 152 = some (.invokestatic 89, 118, 2, 1, 0, .null) := by decide +kernel
theorem o_115_155 : t_OP 115 155 = some (.ifCond .eq (54), 209, 0, 0, 0, .null) := by decide +kernel
theorem o_115_158 : t_OP 115 158 = some (.aload_n 0, 0, 0, 0, 0, .null) := by decide +kernel
theorem o_115_159 : t_OP 115 159 = some (.aload_n 0, 0, 0, 0, 0, .null) := by decide +kernel
theorem o_115_160 : t_OP 115 160 = some (.getfield 92, 7, 20, 0, 0, .null) := by decide +kernel
theorem o_115_163 : t_OP 115 163 = some (.bipush (99), 0, 0, 0, 99, .null) := by decide +kernel
theorem o_115_165 : t_OP 115 165 = some (.if_icmp .le (8), 173, 0, 0, 0, .null) := by decide +kernel
theorem o_115_168 : t_OP 115 168 = some (.bipush (100), 0, 0, 0, 100, .null) := by decide +kernel
theorem o_115_170 : t_OP 115 170 = some (.goto (23), 193, 0, 0, 0, .null) := by decide +kernel
theorem o_115_173 : t_OP 115 173 = some (.bipush (10), 0, 0, 0, 10, .null) := by decide +kernel
theorem o_115_175 : t_OP 115 175 = some (.aload_n 0, 0, 0, 0, 0, .null) := by decide +kernel
theorem o_115_176 : t_OP 115 176 = some (.getfield 92, 7, 20, 0, 0, .null) := by decide +kernel
theorem o_115_179 : t_OP 115 179 = some (.imul, 0, 0, 0, 0, .null) := by decide +kernel
theorem o_115_180 : t_OP 115 180 = some (.aload_n 0, 0, 0, 0, 0, .null) := by decide +kernel
theorem o_115_181 : t_OP 115 181 = some (.getfield 7, 7, 2, 0, 0, .null) := by decide +kernel
theorem o_115_184 : t_OP 115 184 = some (.aload_n 0, 0, 0, 0, 0, .null) := by decide +kernel
theorem o_115_185 : t_OP 115 185 = some (.getfield 73, 7, 19, 0, 0, .null) := by decide +kernel
theorem o_115_188 : t_OP 115 188 = some (.iaload, 0, 0, 0, 0, .null) := by decide +kernel
theorem o_115_189 : t_OP 115 189 = some (.iadd, 0, 0, 0, 0, .null) := by decide +kernel
theorem o_115_190 : t_OP 115 190 = some (.bipush (48), 0, 0, 0, 48, .null) := by decide +kernel
theorem o_115_192 : t_OP 115 192 = some (.isub, 0, 0, 0, 0, .null) := by decide +kernel
theorem o_115_193 : t_OP 115 193 = some (.putfield 92, 7, 20, 0, 0, .null) := by decide +kernel
theorem o_115_196 : t_OP 115 196 = some (.aload_n 0, 0, 0, 0, 0, .null) := by decide +kernel
theorem o_115_197 : t_OP 115 197 = some (.dup, 0, 0, 0, 0, .null) := by decide +kernel
theorem o_115_198 : t_OP 115 198 = some (.getfield 73, 7, 19, 0, 0, .null) := by decide +kernel
theorem o_115_201 : t_OP 115 201 = some (.iconst (1), 0, 0, 0, 1, .null) := by decide +kernel
theorem o_115_202 : t_OP 115 202 = some (.iadd, 0, 0, 0, 0, .null) := by decide +kernel
theorem o_115_203 : t_OP 115 203 = some (.putfield 73, 7, 19, 0, 0, .null) := by decide +kernel
theorem o_115_206 : t_OP 115 206 = some (.goto (-62), 144, 0, 0, 0, .null) := by decide +kernel
theorem o_115_209 : t_OP 115 209 = some (.aload_n 0, 0, 0, 0, 0, .null) := by decide +kernel
theorem o_115_210 : t_OP 115 210 = some (.iconst (2), 0, 0, 0, 2, .null) := by decide +kernel
theorem o_115_211 : t_OP 115 211 = some (.putfield 82, 7, 17, 0, 0, .null) := by decide +kernel
theorem o_115_214 : t_OP 115 214 = some (.goto (58), 272, 0, 0, 0, .null) := by decide +kernel
theorem o_115_217 : t_OP 115 217 = some (.aload_n 0, 0, 0, 0, 0, .null) := by decide +kernel
theorem o_115_218 : t_OP 115 218 = some (.dup, 0, 0, 0, 0, .null) := by decide +kernel
theorem o_115_219 : t_OP 115 219 = some (.getfield 73, 7, 19, 0, 0, .null) := by decide +kernel
theorem o_115_222 : t_OP 115 222 = some (.iconst (1), 0, 0, 0, 1, .null) := by decide +kernel
theorem o_115_223 : t_OP 115 223 = some (.iadd, 0, 0, 0, 0, .null) := by decide +kernel
theorem o_115_224 : t_OP 115 224 = some (.putfield 73, 7, 19, 0, 0, .null) := by decide +kernel
theorem o_115_227 : t_OP 115 227 = some (.aload_n 0, 0, 0, 0, 0, .null) := by decide +kernel
theorem o_115_228 : t_OP 115 228 = some (.iload_n 1, 0, 0, 0, 0, .null) := by decide +kernel
theorem o_115_229 : t_OP 115 229 = some (.bipush (58), 0, 0, 0, 58, .null) := by decide +kernel
theorem o_115_231 : t_OP 115 231 = some (.if_icmp .eq (33), 264, 0, 0, 0, .null) := by decide +kernel
theorem o_115_234 : t_OP 115 234 = some (.iload_n 1, 0, 0, 0, 0, .null) := by decide +kernel
theorem o_115_235 : t_OP 115 235 = some (.bipush (59), 0, 0, 0, 59, .null) := by decide +kernel
theorem o_115_237 : t_OP 115 237 = some (.if_icmp .eq (27), 264, 0, 0, 0, .null) := by decide +kernel
theorem o_115_240 : t_OP 115 240 = some (.iload_n 1, 0, 0, 0, 0, .null) := by decide +kernel
theorem o_115_241 : t_OP 115 241 = some (.bipush (61), 0, 0, 0, 61, .null) := by decide +kernel
theorem o_115_243 : t_OP 115 243 = some (.if_icmp .eq (21), 264, 0, 0, 0, .null) := by decide +kernel
theorem o_115_246 : t_OP 115 246 = some (.iload_n 1, 0, 0, 0, 0, .null) := by decide +kernel
theorem o_115_247 : t_OP 115 247 = some (.bipush (38), 0, 0, 0, 38, .null) := by decide +kernel
theorem o_115_249 : t_OP 115 249 = some (.if_icmp .eq (15), 264, 0, 0, 0, .null) := by decide +kernel
theorem o_115_252 : t_OP 115 252 = some (.iload_n 1, 0, 0, 0, 0, .null) := by decide +kernel
theorem o_115_253 : t_OP 115 253 = some (.bipush (40), 0, 0, 0, 40, .null) := by decide +kernel
theorem o_115_255 : t_OP 115 255 = some (.if_icmp .eq (9), 264, 0, 0, 0, .null) := by decide +kernel
theorem o_115_258 : t_OP 115 258 = some (.iload_n 1, 0, 0, 0, 0, .null) := by decide +kernel
theorem o_115_259 : t_OP 115 259 = some (.bipush (41), 0, 0, 0, 41, .null) := by decide +kernel
theorem o_115_261 : t_OP 115 261 = some (.if_icmp .ne (7), 268, 0, 0, 0, .null) := by decide +kernel
theorem o_115_264 : t_OP 115 264 = some (.iload_n 1, 0, 0, 0, 0, .null) := by decide +kernel
theorem o_115_265 : t_OP 115 265 = some (.goto (4), 269, 0, 0, 0, .null) := by decide +kernel
theorem o_115_268 : t_OP 115 268 = some (.iconst (3), 0, 0, 0, 3, .null) := by decide +kernel
theorem o_115_269 : t_OP 115 269 = some (.putfield 82, 7, 17, 0, 0, .null) := by decide +kernel
theorem o_115_272 : t_OP 115 272 = some (.return_, 0, 0, 0, 0, .null) := by decide +kernel
theorem o_116_0 : t_OP 116 0 = some (.iload_n 1, 0, 0, 0, 0, .null) := by decide +kernel
theorem o_116_1 : t_OP 116 1 = some (.aload_n 0, 0, 0, 0, 0, .null) := by decide +kernel
theorem o_116_2 : t_OP 116 2 = some (.getfield 62, 7, 1, 0, 0, .null) := by decide +kernel
theorem o_116_5 : t_OP 116 5 = some (.if_icmp .ge (12), 17, 0, 0, 0, .null) := by decide +kernel
theorem o_116_8 : t_OP 116 8 = some (.aload_n 0, 0, 0, 0, 0, .null) := by decide +kernel
theorem o_116_9 : t_OP 116 9 = some (.getfield 7, 7, 2, 0, 0, .null) := by decide +kernel
theorem o_116_12 : t_OP 116 12 = some (.iload_n 1, 0, 0, 0, 0, .null) := by decide +kernel
theorem o_116_13 : t_OP 116 13 = some (.iaload, 0, 0, 0, 0, .null) := by decide +kernel
theorem o_116_14 : t_OP 116 14 = some (.goto (4), 18, 0, 0, 0, .null) := by decide +kernel
theorem o_116_17 : t_OP 116 17 = some (.iconst (-1), 0, 0, 0, (-1), .null) := by decide +kernel
theorem o_116_18 : t_OP 116 18 = some (.ireturn, 0, 0, 0, 0, .null) := by decide +kernel
theorem o_117_0 : t_OP 117 0 = some (.iload_n 0, 0, 0, 0, 0, .null) := by decide +kernel
theorem o_117_1 : t_OP 117 1 = some (.bipush (97), 0, 0, 0, 97, .null) := by decide +kernel
theorem o_117_3 : t_OP 117 3 = some (.bipush (122), 0, 0, 0, 122, .null) := by decide +kernel
theorem o_117_5 : t_OP 117 5 = some (.invokestatic 69, 111, 2, 3, 0, .null) := by decide +kernel
theorem o_117_8 : t_OP 117 8 = some (.ireturn, 0, 0, 0, 0, .null) := by decide +kernel
theorem o_118_0 : t_OP 118 0 = some (.iload_n 0, 0, 0, 0, 0, .null) := by decide +kernel
theorem o_118_1 : t_OP 118 1 = some (.bipush (48), 0, 0, 0, 48, .null) := by decide +kernel
theorem o_118_3 : t_OP 118 3 = some (.bipush (57), 0, 0, 0, 57, .null) := by decide +kernel
theorem o_118_5 : t_OP 118 5 = some (.invokestatic 69, 111, 2, 3, 0, .null) := by decide +kernel
theorem o_118_8 : t_OP 118 8 = some (.ireturn, 0, 0, 0, 0, .null) := by decide +kernel
theorem o_119_0 : t_OP 119 0 = some (.aload_n 0, 0, 0, 0, 0, .null) := by decide +kernel
theorem o_119_1 : t_OP 119 1 = some (.bipush (116), 0, 0, 0, 116, .null) := by decide +kernel
theorem o_119_3 : t_OP 119 3 = some (.invokevirtual 131, 120, 0, 1, 0, .null) := by decide +kernel
theorem o_119_6 : t_OP 119 6 = some (.istore_n 1, 0, 0, 0, 0, .null) := by decide +kernel
theorem o_119_7 : t_OP 119 7 = some (.iload_n 1, 0, 0, 0, 0, .null) := by decide +kernel
theorem o_119_8 : t_OP 119 8 = some (.aload_n 0, 0, 0, 0, 0, .null) := by decide +kernel
theorem o_119_9 : t_OP 119 9 = some (.getfield 142, 7, 6, 0, 0, .null) := by decide +kernel
theorem o_119_12 : t_OP 119 12 = some (.if_icmp .eq (10), 22, 0, 0, 0, .null) := by decide +kernel
theorem o_119_15 : t_OP 119 15 = some (.aload_n 0, 0, 0, 0, 0, .null) := by decide +kernel
theorem o_119_16 : t_OP 119 16 = some (.invokevirtual 105, 122, 0, 0, 0, .null) := by decide +kernel
theorem o_119_19 : t_OP 119 19 = some (.goto (17), 36, 0, 0, 0, .null) := by decide +kernel
theorem o_119_22 : t_OP 119 22 = some (.iload_n 1, 0, 0, 0, 0, .null) := by decide +kernel
theorem o_119_23 : t_OP 119 23 = some (.iconst (4), 0, 0, 0, 4, .null) := by decide +kernel
theorem o_119_24 : t_OP 119 24 = some (.if_icmp .ne (12), 36, 0, 0, 0, .null) := by decide +kernel
theorem o_119_27 : t_OP 119 27 = some (.aload_n 0, 0, 0, 0, 0, .null) := by decide +kernel
theorem o_119_28 : t_OP 119 28 = some (.iconst (4), 0, 0, 0, 4, .null) := by decide +kernel
theorem o_119_29 : t_OP 119 29 = some (.aload_n 0, 0, 0, 0, 0, .null) := by decide +kernel
theorem o_119_30 : t_OP 119 30 = some (.getfield 76, 7, 18, 0, 0, .null) := by decide +kernel
theorem o_119_33 : t_OP 119 33 = some (.invokevirtual 101, 123, 0, 2, 0, .null) := by decide +kernel
theorem o_119_36 : t_OP 119 36 = some (.aload_n 0, 0, 0, 0, 0, .null) := by decide +kernel
theorem o_119_37 : t_OP 119 37 = some (.getfield 95, 7, 3, 0, 0, .null) := by decide +kernel
theorem o_119_40 : t_OP 119 40 = some (.ifCond .le (4), 44, 0, 0, 0, .null) := by decide +kernel
theorem o_119_43 : t_OP 119 43 = some (.return_, 0, 0, 0, 0, .null) := by decide +kernel
theorem o_119_44 : t_OP 119 44 = some (.aload_n 0, 0, 0, 0, 0, .null) := by decide +kernel
theorem o_119_45 : t_OP 119 45 = some (.invokevirtual 108, 115, 0, 0, 0, .null) := by decide +kernel
theorem o_119_48 : t_OP 119 48 = some (.aload_n 0, 0, 0, 0, 0, .null) := by decide +kernel
theorem o_119_49 : t_OP 119 49 = some (.bipush (58), 0, 0, 0, 58, .null) := by decide +kernel
theorem o_119_51 : t_OP 119 51 = some (.invokevirtual 134, 124, 0, 1, 0, .null) := by decide +kernel
theorem o_119_54 : t_OP 119 54 = some (.aload_n 0, 0, 0, 0, 0, .null) := by decide +kernel
theorem o_119_55 : t_OP 119 55 = some (.dup, 0, 0, 0, 0, .null) := by decide +kernel
theorem o_119_56 : t_OP 119 56 = some (.getfield 142, 7, 6, 0, 0, .null) := by decide +kernel
theorem o_119_59 : t_OP 119 59 = some (.iconst (1), 0, 0, 0, 1, .null) := by decide +kernel
theorem o_119_60 : t_OP 119 60 = some (.iadd, 0, 0, 0, 0, .null) := by decide +kernel
theorem o_119_61 : t_OP 119 61 = some (.putfield 142, 7, 6, 0, 0, .null) := by decide +kernel
theorem o_119_64 : t_OP 119 64 = some (.aload_n 0, 0, 0, 0, 0, .null) := by decide +kernel
theorem o_119_65 : t_OP 119 65 = some (.getfield 95, 7, 3, 0, 0, .null) := by decide +kernel
theorem o_119_68 : t_OP 119 68 = some (.ifCond .ne (38), 106, 0, 0, 0, .null) := by decide +kernel
theorem o_119_71 : t_OP 119 71 = some (.aload_n 0, 0, 0, 0, 0, .null) := by decide +kernel
theorem o_119_72 : t_OP 119 72 = some (.bipush (119), 0, 0, 0, 119, .null) := by decide +kernel
theorem o_119_74 : t_OP 119 74 = some (.invokevirtual 121, 125, 0, 1, 0, .null) := by decide +kernel
theorem o_119_77 : t_OP 119 77 = some (.ifCond .ne (21), 98, 0, 0, 0, .null) := by decide +kernel
theorem o_119_80 : t_OP 119 80 = some (.aload_n 0, 0, 0, 0, 0, .null) := by decide +kernel
theorem o_119_81 : t_OP 119 81 = some (.bipush (114), 0, 0, 0, 114, .null) := by decide +kernel
theorem o_119_83 : t_OP 119 83 = some (.invokevirtual 121, 125, 0, 1, 0, .null) := by decide +kernel
theorem o_119_86 : t_OP 119 86 = some (.ifCond .ne (12), 98, 0, 0, 0, .null) := by decide +kernel
theorem o_119_89 : t_OP 119 89 = some (.aload_n 0, 0, 0, 0, 0, .null) := by decide +kernel
theorem o_119_90 : t_OP 119 90 = some (.bipush (102), 0, 0, 0, 102, .null) := by decide +kernel
theorem o_119_92 : t_OP 119 92 = some (.invokevirtual 121, 125, 0, 1, 0, .null) := by decide +kernel
theorem o_119_95 : t_OP 119 95 = some (.ifCond .eq (11), 106, 0, 0, 0, .null) := by decide +kernel
theorem o_119_98 : t_OP 119 98 = some (.aload_n 0, 0, 0, 0, 0, .null) := by decide +kernel
theorem o_119_99 : t_OP 119 99 = some (.iload_n 1, 0, 0, 0, 0, .null) := by decide +kernel
theorem o_119_100 : t_OP 119 100 = some (.invokevirtual 145, 126, 0, 1, 0, .null) := by decide +kernel
theorem o_119_103 : t_OP 119 103 = some (.goto (-39), 64, 0, 0, 0, .null) := by decide +kernel
theorem o_119_106 : t_OP 119 106 = some (.return_, 0, 0, 0, 0, .null) := by decide +kernel
theorem o_120_0 : t_OP 120 0 = some (.aload_n 0, 0, 0, 0, 0, .null) := by decide +kernel
theorem o_120_1 : t_OP 120 1 = some (.iconst (2), 0, 0, 0, 2, .null) := by decide +kernel
theorem o_120_2 : t_OP 120 2 = some (.invokevirtual 111, 121, 0, 1, 0, .null) := by decide +kernel
theorem o_120_5 : t_OP 120 5 = some (.ifCond .eq (50), 55, 0, 0, 0, .null) := by decide +kernel
theorem o_120_8 : t_OP 120 8 = some (.aload_n 0, 0, 0, 0, 0, .null) := by decide +kernel
theorem o_120_9 : t_OP 120 9 = some (.getfield 7, 7, 2, 0, 0, .null) := by decide +kernel
theorem o_120_12 : t_OP 120 12 = some (.aload_n 0, 0, 0, 0, 0, .null) := by decide +kernel
theorem o_120_13 : t_OP 120 13 = some (.getfield 76, 7, 18, 0, 0, .null) := by decide +kernel
theorem o_120_16 : t_OP 120 16 = some (.iaload, 0, 0, 0, 0, .null) := by decide +kernel
theorem o_120_17 : t_OP 120 17 = some (.iload_n 1, 0, 0, 0, 0, .null) := by decide +kernel
theorem o_120_18 : t_OP 120 18 = some (.if_icmp .ne (37), 55, 0, 0, 0, .null) := by decide +kernel
theorem o_120_21 : t_OP 120 21 = some (.aload_n 0, 0, 0, 0, 0, .null) := by decide +kernel
theorem o_120_22 : t_OP 120 22 = some (.getfield 7, 7, 2, 0, 0, .null) := by decide +kernel
theorem o_120_25 : t_OP 120 25 = some (.aload_n 0, 0, 0, 0, 0, .null) := by decide +kernel
theorem o_120_26 : t_OP 120 26 = some (.getfield 76, 7, 18, 0, 0, .null) := by decide +kernel
theorem o_120_29 : t_OP 120 29 = some (.iconst (1), 0, 0, 0, 1, .null) := by decide +kernel
theorem o_120_30 : t_OP 120 30 = some (.iadd, 0, 0, 0, 0, .null) := by decide +kernel
theorem o_120_31 : t_OP 120 31 = some (.iaload, 0, 0, 0, 0, .null) := by decide +kernel
theorem o_120_32 : t_OP 120 32 = some (.invokestatic 89, 118, 2, 1, 0, .null) := by decide +kernel
theorem o_120_35 : t_OP 120 35 = some (.ifCond .eq (20), 55, 0, 0, 0, .null) := by decide +kernel
theorem o_120_38 : t_OP 120 38 = some (.aload_n 0, 0, 0, 0, 0, .null) := by decide +kernel
theorem o_120_39 : t_OP 120 39 = some (.getfield 7, 7, 2, 0, 0, .null) := by decide +kernel
theorem o_120_42 : t_OP 120 42 = some (.aload_n 0, 0, 0, 0, 0, .null) := by decide +kernel
theorem o_120_43 : t_OP 120 43 = some (.getfield 76, 7, 18, 0, 0, .null) := by decide +kernel
theorem o_120_46 : t_OP 120 46 = some (.iconst (1), 0, 0, 0, 1, .null) := by decide +kernel
theorem o_120_47 : t_OP 120 47 = some (.iadd, 0, 0, 0, 0, .null) := by decide +kernel
theorem o_120_48 : t_OP 120 48 = some (.iaload, 0, 0, 0, 0, .null) := by decide +kernel
theorem o_120_49 : t_OP 120 49 = some (.bipush (48), 0, 0, 0, 48, .null) := by decide +kernel
theorem o_120_51 : t_OP 120 51 = some (.isub, 0, 0, 0, 0, .null) := by decide +kernel
theorem o_120_52 : t_OP 120 52 = some (.goto (4), 56, 0, 0, 0, .null) := by decide +kernel
theorem o_120_55 : t_OP 120 55 = some (.iconst (-1), 0, 0, 0, (-1), .null) := by decide +kernel
theorem o_120_56 : t_OP 120 56 = some (.ireturn, 0, 0, 0, 0, .null) := by decide +kernel
theorem o_121_0 : t_OP 121 0 = some (.aload_n 0, 0, 0, 0, 0, .null) := by decide +kernel
theorem o_121_1 : t_OP 121 1 = some (.getfield 82, 7, 17, 0, 0, .null) := by decide +kernel
theorem o_121_4 : t_OP 121 4 = some (.iconst (1), 0, 0, 0, 1, .null) := by decide +kernel
theorem o_121_5 : t_OP 121 5 = some (.if_icmp .ne (20), 25, 0, 0, 0, .null) := by decide +kernel
theorem o_121_8 : t_OP 121 8 = some (.aload_n 0, 0, 0, 0, 0, .null) := by decide +kernel
theorem o_121_9 : t_OP 121 9 = some (.getfield 73, 7, 19, 0, 0, .null) := by decide +kernel
theorem o_121_12 : t_OP 121 12 = some (.aload_n 0, 0, 0, 0, 0, .null) := by decide +kernel
theorem o_121_13 : t_OP 121 13 = some (.getfield 76, 7, 18, 0, 0, .null) := by decide +kernel
theorem o_121_16 : t_OP 121 16 = some (.isub, 0, 0, 0, 0, .null) := by decide +kernel
theorem o_121_17 : t_OP 121 17 = some (.iload_n 1, 0, 0, 0, 0, .null) := by decide +kernel
theorem o_121_18 : t_OP 121 18 = some (.if_icmp .ne (7), 25, 0, 0, 0, .null) := by decide +kernel
theorem o_121_21 : t_OP 121 21 = some (.iconst (1), 0, 0, 0, 1, .null) := by decide +kernel
theorem o_121_22 : t_OP 121 22 = some (.goto (4), 26, 0, 0, 0, .null) := by decide +kernel
theorem o_121_25 : t_OP 121 25 = some (.iconst (0), 0, 0, 0, 0, .null) := by decide +kernel
theorem o_121_26 : t_OP 121 26 = some (.ireturn, 0, 0, 0, 0, .null) := by decide +kernel
theorem o_122_0 : t_OP 122 0 = some (.aload_n 0, 0, 0, 0, 0, .null) := by decide +kernel
theorem o_122_1 : t_OP 122 1 = some (.aload_n 0, 0, 0, 0, 0, .null) := by decide +kernel
theorem o_122_2 : t_OP 122 2 = some (.getfield 82, 7, 17, 0, 0, .null) := by decide +kernel
theorem o_122_5 : t_OP 122 5 = some (.iconst (3), 0, 0, 0, 3, .null) := by decide +kernel
theorem o_122_6 : t_OP 122 6 = some (.if_icmp .ne (7), 13, 0, 0, 0, .null) := by decide +kernel
theorem o_122_9 : t_OP 122 9 = some (.iconst (1), 0, 0, 0, 1, .null) := by decide +kernel
theorem o_122_10 : t_OP 122 10 = some (.goto (4), 14, 0, 0, 0, .null) := by decide +kernel
theorem o_122_13 : t_OP 122 13 = some (.iconst (2), 0, 0, 0, 2, .null) := by decide +kernel
theorem o_122_14 : t_OP 122 14 = some (.aload_n 0, 0, 0, 0, 0, .null) := by decide +kernel
theorem o_122_15 : t_OP 122 15 = some (.getfield 76, 7, 18, 0, 0, .null) := by decide +kernel
theorem o_122_18 : t_OP 122 18 = some (.invokevirtual 101, 123, 0, 2, 0, .null) := by decide +kernel
theorem o_122_21 : t_OP 122 21 = some (.return_, 0, 0, 0, 0, .null) := by decide +kernel
theorem o_123_0 : t_OP 123 0 = some (.aload_n 0, 0, 0, 0, 0, .null) := by decide +kernel
theorem o_123_1 : t_OP 123 1 = some (.getfield 95, 7, 3, 0, 0, .null) := by decide +kernel
theorem o_123_4 : t_OP 123 4 = some (.ifCond .le (4), 8, 0, 0, 0, .null) := by decide +kernel
theorem o_123_7 : t_OP 123 7 = some (.return_, 0, 0, 0, 0, .null) := by decide +kernel
theorem o_123_8 : t_OP 123 8 = some (.aload_n 0, 0, 0, 0, 0, .null) := by decide +kernel
theorem o_123_9 : t_OP 123 9 = some (.iload_n 1, 0, 0, 0, 0, .null) := by decide +kernel
theorem o_123_10 : t_OP 123 10 = some (.putfield 95, 7, 3, 0, 0, .null) := by decide +kernel
theorem o_123_13 : t_OP 123 13 = some (.aload_n 0, 0, 0, 0, 0, .null) := by decide +kernel
theorem o_123_14 : t_OP 123 14 = some (.iload_n 2, 0, 0, 0, 0, .null) := by decide +kernel
theorem o_123_15 : t_OP 123 15 = some (.putfield 98, 7, 4, 0, 0, .null) := by decide +kernel
theorem o_123_18 : t_OP 123 18 = some (.return_, 0, 0, 0, 0, .null) := by decide +kernel
theorem o_124_0 : t_OP 124 0 = some (.aload_n 0, 0, 0, 0, 0, .null) := by decide +kernel
theorem o_124_1 : t_OP 124 1 = some (.getfield 82, 7, 17, 0, 0, .null) := by decide +kernel
theorem o_124_4 : t_OP 124 4 = some (.iload_n 1, 0, 0, 0, 0, .null) := by decide +kernel
theorem o_124_5 : t_OP 124 5 = some (.if_icmp .eq (10), 15, 0, 0, 0, .null) := by decide +kernel
theorem o_124_8 : t_OP 124 8 = some (.aload_n 0, 0, 0, 0, 0, .null) := by decide +kernel
theorem o_124_9 : t_OP 124 9 = some (.invokevirtual 105, 122, 0, 0, 0, .null) := by decide +kernel
theorem o_124_12 : t_OP 124 12 = some (.goto (7), 19, 0, 0, 0, .null) := by decide +kernel
theorem o_124_15 : t_OP 124 15 = some (.aload_n 0, 0, 0, 0, 0, .null) := by decide +kernel
theorem o_124_16 : t_OP 124 16 = some (.invokevirtual 108, 115, 0, 0, 0, .null) := by decide +kernel
theorem o_124_19 : t_OP 124 19 = some (.return_, 0, 0, 0, 0, .null) := by decide +kernel
theorem o_125_0 : t_OP 125 0 = some (.aload_n 0, 0, 0, 0, 0, .null) := by decide +kernel
theorem o_125_1 : t_OP 125 1 = some (.iconst (1), 0, 0, 0, 1, .null) := by decide +kernel
theorem o_125_2 : t_OP 125 2 = some (.invokevirtual 111, 121, 0, 1, 0, .null) := by decide +kernel
theorem o_125_5 : t_OP 125 5 = some (.ifCond .eq (20), 25, 0, 0, 0, .null) := by decide +kernel
theorem o_125_8 : t_OP 125 8 = some (.aload_n 0, 0, 0, 0, 0, .null) := by decide +kernel
theorem o_125_9 : t_OP 125 9 = some (.getfield 7, 7, 2, 0, 0, .null) := by decide +kernel
theorem o_125_12 : t_OP 125 12 = some (.aload_n 0, 0, 0, 0, 0, .null) := by decide +kernel
theorem o_125_13 : t_OP 125 13 = some (.getfield 76, 7, 18, 0, 0, .null) := by decide +kernel
theorem o_125_16 : t_OP 125 16 = some (.iaload, 0, 0, 0, 0, .null) := by decide +kernel
theorem o_125_17 : t_OP 125 17 = some (.iload_n 1, 0, 0, 0, 0, .null) := by decide +kernel
theorem o_125_18 : t_OP 125 18 = some (.if_icmp .ne (7), 25, 0, 0, 0, .null) := by decide +kernel
theorem o_125_21 : t_OP 125 21 = some (.iconst (1), 0, 0, 0, 1, .null) := by decide +kernel
theorem o_125_22 : t_OP 125 22 = some (.goto (4), 26, 0, 0, 0, .null) := by decide +kernel
theorem o_125_25 : t_OP 125 25 = some (.iconst (0), 0, 0, 0, 0, .null) := by decide +kernel
theorem o_125_26 : t_OP 125 26 = some (.ireturn, 0, 0, 0, 0, .null) := by decide +kernel
theorem o_126_0 : t_OP 126 0 = some (.aload_n 0, 0, 0, 0, 0, .null) := by decide +kernel
theorem o_126_1 : t_OP 126 1 = some (.bipush (119), 0, 0, 0, 119, .null) := by decide +kernel
theorem o_126_3 : t_OP 126 3 = some (.invokevirtual 121, 125, 0, 1, 0, .null) := by decide +kernel
theorem o_126_6 : t_OP 126 6 = some (.ifCond .eq (7), 13, 0, 0, 0, .null) := by decide +kernel
theorem o_126_9 : t_OP 126 9 = some (.iconst (0), 0, 0, 0, 0, .null) := by decide +kernel
theorem o_126_10 : t_OP 126 10 = some (.goto (30), 40, 0, 0, 0, .null) := by decide +kernel
theorem o_126_13 : t_OP 126 13 = some (.aload_n 0, 0, 0, 0, 0, .null) := by decide +kernel
theorem o_126_14 : t_OP 126 14 = some (.bipush (114), 0, 0, 0, 114, .null) := by decide +kernel
theorem o_126_16 : t_OP 126 16 = some (.invokevirtual 121, 125, 0, 1, 0, .null) := by decide +kernel
theorem o_126_19 : t_OP 126 19 = some (.ifCond .eq (7), 26, 0, 0, 0, .null) := by decide +kernel
theorem o_126_22 : t_OP 126 22 = some (.iconst (1), 0, 0, 0, 1, .null) := by decide +kernel
theorem o_126_23 : t_OP 126 23 = some (.goto (17), 40, 0, 0, 0, .null) := by decide +kernel
theorem o_126_26 : t_OP 126 26 = some (.aload_n 0, 0, 0, 0, 0, .null) := by decide +kernel
theorem o_126_27 : t_OP 126 27 = some (.bipush (102), 0, 0, 0, 102, .null) := by decide +kernel
theorem o_126_29 : t_OP 126 29 = some (.invokevirtual 121, 125, 0, 1, 0, .null) := by decide +kernel
theorem o_126_32 : t_OP 126 32 = some (.ifCond .eq (7), 39, 0, 0, 0, .null) := by decide +kernel
theorem o_126_35 : t_OP 126 35 = some (.iconst (2), 0, 0, 0, 2, .null) := by decide +kernel
theorem o_126_36 : t_OP 126 36 = some (.goto (4), 40, 0, 0, 0, .null) := by decide +kernel
theorem o_126_39 : t_OP 126 39 = some (.iconst (-1), 0, 0, 0, (-1), .null) := by decide +kernel
theorem o_126_40 : t_OP 126 40 = some (.istore_n 2, 0, 0, 0, 0, .null) := by decide +kernel
theorem o_126_41 : t_OP 126 41 = some (.iload_n 2, 0, 0, 0, 0, .null) := by decide +kernel
theorem o_126_42 : t_OP 126 42 = some (.ifCond .ge (10), 52, 0, 0, 0, .null) := by decide +kernel
theorem o_126_45 : t_OP 126 45 = some (.aload_n 0, 0, 0, 0, 0, .null) := by decide +kernel
theorem o_126_46 : t_OP 126 46 = some (.invokevirtual 105, 122, 0, 0, 0, .null) := by decide +kernel
theorem o_126_49 : t_OP 126 49 = some (.goto (21), 70, 0, 0, 0, .null) := by decide +kernel
theorem o_126_52 : t_OP 126 52 = some (.aload_n 0, 0, 0, 0, 0, .null) := by decide +kernel
theorem o_126_53 : t_OP 126 53 = some (.getfield 118, 7, 7, 0, 0, .null) := by decide +kernel
theorem o_126_56 : t_OP 126 56 = some (.bipush (24), 0, 0, 0, 24, .null) := by decide +kernel
theorem o_126_58 : t_OP 126 58 = some (.if_icmp .ne (12), 70, 0, 0, 0, .null) := by decide +kernel
theorem o_126_61 : t_OP 126 61 = some (.aload_n 0, 0, 0, 0, 0, .null) := by decide +kernel
theorem o_126_62 : t_OP 126 62 = some (.iconst (4), 0, 0, 0, 4, .null) := by decide +kernel
theorem o_126_63 : t_OP 126 63 = some (.aload_n 0, 0, 0, 0, 0, .null) := by decide +kernel
theorem o_126_64 : t_OP 126 64 = some (.getfield 76, 7, 18, 0, 0, .null) := by decide +kernel
theorem o_126_67 : t_OP 126 67 = some (.invokevirtual 101, 123, 0, 2, 0, .null) := by decide +kernel
theorem o_126_70 : t_OP 126 70 = some (.aload_n 0, 0, 0, 0, 0, .null) := by decide +kernel
theorem o_126_71 : t_OP 126 71 = some (.getfield 95, 7, 3, 0, 0, .null) := by decide +kernel
theorem o_126_74 : t_OP 126 74 = some (.ifCond .le (4), 78, 0, 0, 0, .null) := by decide +kernel
theorem o_126_77 : t_OP 126 77 = some (.return_, 0, 0, 0, 0, .null) := by decide +kernel
theorem o_126_78 : t_OP 126 78 = some (.aload_n 0, 0, 0, 0, 0, .null) := by decide +kernel
theorem o_126_79 : t_OP 126 79 = some (.invokevirtual 108, 115, 0, 0, 0, .null) := by decide +kernel
theorem o_126_82 : t_OP 126 82 = some (.iconst (-1), 0, 0, 0, (-1), .null) := by decide +kernel
theorem o_126_83 : t_OP 126 83 = some (.istore_n 3, 0, 0, 0, 0, .null) := by decide +kernel
theorem o_126_84 : t_OP 126 84 = some (.iconst (-1), 0, 0, 0, (-1), .null) := by decide +kernel
theorem o_126_85 : t_OP 126 85 = some (.istore 4, 0, 0, 0, 0, .null) := by decide +kernel
theorem o_126_87 : t_OP 126 87 = some (.iload_n 2, 0, 0, 0, 0, .null) := by decide +kernel
theorem o_126_88 : t_OP 126 88 = some (.iconst (2), 0, 0, 0, 2, .null) := by decide +kernel
theorem o_126_89 : t_OP 126 89 = some (.if_icmp .ge (58), 147, 0, 0, 0, .null) := by decide +kernel
theorem o_126_92 : t_OP 126 92 = some (.aload_n 0, 0, 0, 0, 0, .null) := by decide +kernel
theorem o_126_93 : t_OP 126 93 = some (.invokevirtual 124, 127, 0, 0, 0, .null) := by decide +kernel
theorem o_126_96 : t_OP 126 96 = some (.istore_n 3, 0, 0, 0, 0, .null) := by decide +kernel
theorem o_126_97 : t_OP 126 97 = some (.iload_n 3, 0, 0, 0, 0, .null) := by decide +kernel
theorem o_126_98 : t_OP 126 98 = some (.ifCond .ge (8), 106, 0, 0, 0, .null) := by decide +kernel
theorem o_126_101 : t_OP 126 101 = some (.aload_n 0, 0, 0, 0, 0, .null) := by decide +kernel
theorem o_126_102 : t_OP 126 102 = some (.invokevirtual 105, 122, 0, 0, 0, .null) := by decide +kernel
theorem o_126_105 : t_OP 126 105 = some (.return_, 0, 0, 0, 0, .null) := by decide +kernel
theorem o_126_106 : t_OP 126 106 = some (.aload_n 0, 0, 0, 0, 0, .null) := by decide +kernel
theorem o_126_107 : t_OP 126 107 = some (.invokevirtual 108, 115, 0, 0, 0, .null) := by decide +kernel
theorem o_126_110 : t_OP 126 110 = some (.iload_n 2, 0, 0, 0, 0, .null) := by decide +kernel
theorem o_126_111 : t_OP 126 111 = some (.ifCond .ne (12), 123, 0, 0, 0, .null) := by decide +kernel
theorem o_126_114 : t_OP 126 114 = some (.aload_n 0, 0, 0, 0, 0, .null) := by decide +kernel
theorem o_126_115 : t_OP 126 115 = some (.invokevirtual 128, 128, 0, 0, 0, .null) := by decide +kernel
theorem o_126_118 : t_OP 126 118 = some (.istore 4, 0, 0, 0, 0, .null) := by decide +kernel
theorem o_126_120 : t_OP 126 120 = some (.goto (27), 147, 0, 0, 0, .null) := by decide +kernel
theorem o_126_123 : t_OP 126 123 = some (.aload_n 0, 0, 0, 0, 0, .null) := by decide +kernel
theorem o_126_124 : t_OP 126 124 = some (.bipush (114), 0, 0, 0, 114, .null) := by decide +kernel
theorem o_126_126 : t_OP 126 126 = some (.invokevirtual 131, 120, 0, 1, 0, .null) := by decide +kernel
theorem o_126_129 : t_OP 126 129 = some (.istore 4, 0, 0, 0, 0, .null) := by decide +kernel
theorem o_126_131 : t_OP 126 131 = some (.iload 4, 0, 0, 0, 0, .null) := by decide +kernel
theorem o_126_133 : t_OP 126 133 = some (.ifCond .ge (10), 143, 0, 0, 0, .null) := by decide +kernel
theorem o_126_136 : t_OP 126 136 = some (.aload_n 0, 0, 0, 0, 0, .null) := by decide +kernel
theorem o_126_137 : t_OP 126 137 = some (.invokevirtual 105, 122, 0, 0, 0, .null) := by decide +kernel
theorem o_126_140 : t_OP 126 140 = some (.goto (7), 147, 0, 0, 0, .null) := by decide +kernel
theorem o_126_143 : t_OP 126 143 = some (.aload_n 0, 0, 0, 0, 0, .null) := by decide +kernel
theorem o_126_144 : t_OP 126 144 = some (.invokevirtual 108, 115, 0, 0, 0, .null) := by decide +kernel
theorem o_126_147 : t_OP 126 147 = some (.aload_n 0, 0, 0, 0, 0, .null) := by decide +kernel
theorem o_126_148 : t_OP 126 148 = some (.getfield 95, 7, 3, 0, 0, .null) := by decide +kernel
theorem o_126_151 : t_OP 126 151 = some (.ifCond .ne (9), 160, 0, 0, 0, .null) := by decide +kernel
theorem o_126_154 : t_OP 126 154 = some (.aload_n 0, 0, 0, 0, 0, .null) := by decide +kernel
theorem o_126_155 : t_OP 126 155 = some (.bipush (59), 0, 0, 0, 59, .null) := by decide +kernel
theorem o_126_157 : t_OP 126 157 = some (.invokevirtual 134, 124, 0, 1, 0, .null) := by decide +kernel
theorem o_126_160 : t_OP 126 160 = some (.aload_n 0, 0, 0, 0, 0, .null) := by decide +kernel
theorem o_126_161 : t_OP 126 161 = some (.getfield 95, 7, 3, 0, 0, .null) := by decide +kernel
theorem o_126_164 : t_OP 126 164 = some (.ifCond .ne (12), 176, 0, 0, 0, .null) := by decide +kernel
theorem o_126_167 : t_OP 126 167 = some (.aload_n 0, 0, 0, 0, 0, .null) := by decide +kernel
theorem o_126_168 : t_OP 126 168 = some (.iload_n 1, 0, 0, 0, 0, .null) := by decide +kernel
theorem o_126_169 : t_OP 126 169 = some (.iload_n 2, 0, 0, 0, 0, .null) := by decide +kernel
theorem o_126_170 : t_OP 126 170 = some (.iload_n 3, 0, 0, 0, 0, .null) := by decide +kernel
theorem o_126_171 : t_OP 126 171 = some (.iload 4, 0, 0, 0, 0, .null) := by decide +kernel
theorem o_126_173 : t_OP 126 173 = some (.invokevirtual 138, 129, 0, 4, 0, .null) := by decide +kernel
theorem o_126_176 : t_OP 126 176 = some (.return_, 0, 0, 0, 0, .null) := by decide +kernel
theorem o_127_0 : t_OP 127 0 = some (.aload_n 0, 0, 0, 0, 0, .null) := by decide +kernel
theorem o_127_1 : t_OP 127 1 = some (.iconst (1), 0, 0, 0, 1, .null) := by decide +kernel
theorem o_127_2 : t_OP 127 2 = some (.invokevirtual 111, 121, 0, 1, 0, .null) := by decide +kernel
theorem o_127_5 : t_OP 127 5 = some (.ifCond .eq (37), 42, 0, 0, 0, .null) := by decide +kernel
theorem o_127_8 : t_OP 127 8 = some (.aload_n 0, 0, 0, 0, 0, .null) := by decide +kernel
theorem o_127_9 : t_OP 127 9 = some (.getfield 7, 7, 2, 0, 0, .null) := by decide +kernel
theorem o_127_12 : t_OP 127 12 = some (.aload_n 0, 0, 0, 0, 0, .null) := by decide +kernel
theorem o_127_13 : t_OP 127 13 = some (.getfield 76, 7, 18, 0, 0, .null) := by decide +kernel
theorem o_127_16 : t_OP 127 16 = some (.iaload, 0, 0, 0, 0, .null) := by decide +kernel
theorem o_127_17 : t_OP 127 17 = some (.bipush (97), 0, 0, 0, 97, .null) := by decide +kernel
theorem o_127_19 : t_OP 127 19 = some (.bipush (100), 0, 0, 0, 100, .null) := by decide +kernel
theorem o_127_21 : t_OP 127 21 = some (.invokestatic 69, 111, 2, 3, 0, .null) := by decide +kernel
theorem o_127_24 : t_OP 127 24 = some (.ifCond .eq (18), 42, 0, 0, 0, .null) := by decide +kernel
theorem o_127_27 : t_OP 127 27 = some (.aload_n 0, 0, 0, 0, 0, .null) := by decide +kernel
theorem o_127_28 : t_OP 127 28 = some (.getfield 7, 7, 2, 0, 0, .null) := by decide +kernel
theorem o_127_31 : t_OP 127 31 = some (.aload_n 0, 0, 0, 0, 0, .null) := by decide +kernel
theorem o_127_32 : t_OP 127 32 = some (.getfield 76, 7, 18, 0, 0, .null) := by decide +kernel
theorem o_127_35 : t_OP 127 35 = some (.iaload, 0, 0, 0, 0, .null) := by decide +kernel
theorem o_127_36 : t_OP 127 36 = some (.bipush (97), 0, 0, 0, 97, .null) := by decide +kernel
theorem o_127_38 : t_OP 127 38 = some (.isub, 0, 0, 0, 0, .null) := by decide +kernel
theorem o_127_39 : t_OP 127 39 = some (.goto (4), 43, 0, 0, 0, .null) := by decide +kernel
theorem o_127_42 : t_OP 127 42 = some (.iconst (-1), 0, 0, 0, (-1), .null) := by decide +kernel
theorem o_127_43 : t_OP 127 43 = some (.ireturn, 0, 0, 0, 0, .null) := by decide +kernel
theorem o_128_0 : t_OP 128 0 = some (.aload_n 0, 0, 0, 0, 0, .null) := by decide +kernel
theorem o_128_1 : t_OP 128 1 = some (.getfield 82, 7, 17, 0, 0, .null) := by decide +kernel
theorem o_128_4 : t_OP 128 4 = some (.iconst (2), 0, 0, 0, 2, .null) := by decide +kernel
theorem o_128_5 : t_OP 128 5 = some (.if_icmp .eq (9), 14, 0, 0, 0, .null) := by decide +kernel
theorem o_128_8 : t_OP 128 8 = some (.aload_n 0, 0, 0, 0, 0, .null) := by decide +kernel
theorem o_128_9 : t_OP 128 9 = some (.invokevirtual 105, 122, 0, 0, 0, .null) := by decide +kernel
theorem o_128_12 : t_OP 128 12 = some (.iconst (0), 0, 0, 0, 0, .null) := by decide +kernel
theorem o_128_13 : t_OP 128 13 = some (.ireturn, 0, 0, 0, 0, .null) := by decide +kernel
theorem o_128_14 : t_OP 128 14 = some (.aload_n 0, 0, 0, 0, 0, .null) := by decide +kernel
theorem o_128_15 : t_OP 128 15 = some (.getfield 92, 7, 20, 0, 0, .null) := by decide +kernel
theorem o_128_18 : t_OP 128 18 = some (.istore_n 1, 0, 0, 0, 0, .null) := by decide +kernel
theorem o_128_19 : t_OP 128 19 = some (.iload_n 1, 0, 0, 0, 0, .null) := by decide +kernel
theorem o_128_20 : t_OP 128 20 = some (.bipush (99), 0, 0, 0, 99, .null) := by decide +kernel
theorem o_128_22 : t_OP 128 22 = some (.if_icmp .le (12), 34, 0, 0, 0, .null) := by decide +kernel
theorem o_128_25 : t_OP 128 25 = some (.aload_n 0, 0, 0, 0, 0, .null) := by decide +kernel
theorem o_128_26 : t_OP 128 26 = some (.iconst (3), 0, 0, 0, 3, .null) := by decide +kernel
theorem o_128_27 : t_OP 128 27 = some (.aload_n 0, 0, 0, 0, 0, .null) := by decide +kernel
theorem o_128_28 : t_OP 128 28 = some (.getfield 76, 7, 18, 0, 0, .null) := by decide +kernel
theorem o_128_31 : t_OP 128 31 = some (.invokevirtual 101, 123, 0, 2, 0, .null) := by decide +kernel
theorem o_128_34 : t_OP 128 34 = some (.aload_n 0, 0, 0, 0, 0, .null) := by decide +kernel
theorem o_128_35 : t_OP 128 35 = some (.invokevirtual 108, 115, 0, 0, 0, .null) := by decide +kernel
theorem o_128_38 : t_OP 128 38 = some (.iload_n 1, 0, 0, 0, 0, .null) := by decide +kernel
theorem o_128_39 : t_OP 128 39 = some (.ireturn, 0, 0, 0, 0, .null) := by decide +kernel
theorem o_129_0 : t_OP 129 0 = some (.aload_n 0, 0, 0, 0, 0, .null) := by decide +kernel
theorem o_129_1 : t_OP 129 1 = some (.getfield 13, 7, 10, 0, 0, .null) := by decide +kernel
theorem o_129_4 : t_OP 129 4 = some (.aload_n 0, 0, 0, 0, 0, .null) := by decide +kernel
theorem o_129_5 : t_OP 129 5 = some (.getfield 118, 7, 7, 0, 0, .null) := by decide +kernel
theorem o_129_8 : t_OP 129 8 = some (.iload_n 1, 0, 0, 0, 0, .null) := by decide +kernel
theorem o_129_9 : t_OP 129 9 = some (.iastore, 0, 0, 0, 0, .null) := by decide +kernel
theorem o_129_10 : t_OP 129 10 = some (.aload_n 0, 0, 0, 0, 0, .null) := by decide +kernel
theorem o_129_11 : t_OP 129 11 = some (.getfield 16, 7, 11, 0, 0, .null) := by decide +kernel
theorem o_129_14 : t_OP 129 14 = some (.aload_n 0, 0, 0, 0, 0, .null) := by decide +kernel
theorem o_129_15 : t_OP 129 15 = some (.getfield 118, 7, 7, 0, 0, .null) := by decide +kernel
theorem o_129_18 : t_OP 129 18 = some (.iload_n 2, 0, 0, 0, 0, .null) := by decide +kernel
theorem o_129_19 : t_OP 129 19 = some (.iastore, 0, 0, 0, 0, .null) := by decide +kernel
theorem o_129_20 : t_OP 129 20 = some (.aload_n 0, 0, 0, 0, 0, .null) := by decide +kernel
theorem o_129_21 : t_OP 129 21 = some (.getfield 19, 7, 12, 0, 0, .null) := by decide +kernel
theorem o_129_24 : t_OP 129 24 = some (.aload_n 0, 0, 0, 0, 0, .null) := by decide +kernel
theorem o_129_25 : t_OP 129 25 = some (.getfield 118, 7, 7, 0, 0, .null) := by decide +kernel
theorem o_129_28 : t_OP 129 28 = some (.iload_n 3, 0, 0, 0, 0, .null) := by decide +kernel
theorem o_129_29 : t_OP 129 29 = some (.iastore, 0, 0, 0, 0, .null) := by decide +kernel
theorem o_129_30 : t_OP 129 30 = some (.aload_n 0, 0, 0, 0, 0, .null) := by decide +kernel
theorem o_129_31 : t_OP 129 31 = some (.getfield 22, 7, 13, 0, 0, .null) := by decide +kernel
theorem o_129_34 : t_OP 129 34 = some (.aload_n 0, 0, 0, 0, 0, .null) := by decide +kernel
theorem o_129_35 : t_OP 129 35 = some (.getfield 118, 7, 7, 0, 0, .null) := by decide +kernel
theorem o_129_38 : t_OP 129 38 = some (.iload 4, 0, 0, 0, 0, .null) := by decide +kernel
theorem o_129_40 : t_OP 129 40 = some (.iastore, 0, 0, 0, 0, .null) := by decide +kernel
theorem o_129_41 : t_OP 129 41 = some (.aload_n 0, 0, 0, 0, 0, .null) := by decide +kernel
theorem o_129_42 : t_OP 129 42 = some (.dup, 0, 0, 0, 0, .null) := by decide +kernel
theorem o_129_43 : t_OP 129 43 = some (.getfield 118, 7, 7, 0, 0, .null) := by decide +kernel
theorem o_129_46 : t_OP 129 46 = some (.iconst (1), 0, 0, 0, 1, .null) := by decide +kernel
theorem o_129_47 : t_OP 129 47 = some (.iadd, 0, 0, 0, 0, .null) := by decide +kernel
theorem o_129_48 : t_OP 129 48 = some (.putfield 118, 7, 7, 0, 0, .null) := by decide +kernel
theorem o_129_51 : t_OP 129 51 = some (.return_, 0, 0, 0, 0, .null) := by decide +kernel
theorem o_130_0 : t_OP 130 0 = some (.aload_n 0, 0, 0, 0, 0, .null) := by decide +kernel
theorem o_130_1 : t_OP 130 1 = some (.bipush (6), 0, 0, 0, 6, .null) := by decide +kernel
theorem o_130_3 : t_OP 130 3 = some (.invokevirtual 111, 121, 0, 1, 0, .null) := by decide +kernel
theorem o_130_6 : t_OP 130 6 = some (.ifCond .ne (5), 11, 0, 0, 0, .null) := by decide +kernel
theorem o_130_9 : t_OP 130 9 = some (.iconst (0), 0, 0, 0, 0, .null) := by decide +kernel
theorem o_130_10 : t_OP 130 10 = some (.ireturn, 0, 0, 0, 0, .null) := by decide +kernel
theorem o_130_11 : t_OP 130 11 = some (.lconst 0, 0, 0, 0, 0, .null) := by decide +kernel
theorem o_130_12 : t_OP 130 12 = some (.lstore_n 1, 0, 0, 0, 0, .null) := by decide +kernel
theorem o_130_13 : t_OP 130 13 = some (.aload_n 0, 0, 0, 0, 0, .null) := by decide +kernel
theorem o_130_14 : t_OP 130 14 = some (.getfield 76, 7, 18, 0, 0, .null) := by decide +kernel
theorem o_130_17 : t_OP 130 17 = some (.istore_n 3, 0, 0, 0, 0, .null) := by decide +kernel
theorem o_130_18 : t_OP 130 18 = some (.iload_n 3, 0, 0, 0, 0, .null) := by decide +kernel
theorem o_130_19 : t_OP 130 19 = some (.aload_n 0, 0, 0, 0, 0, .null) := by decide +kernel
theorem o_130_20 : t_OP 130 20 = some (.getfield 73, 7, 19, 0, 0, .null) := by decide +kernel
theorem o_130_23 : t_OP 130 23 = some (.if_icmp .ge (22), 45, 0, 0, 0, .null) := by decide +kernel
theorem o_130_26 : t_OP 130 26 = some (.lload_n 1, 0, 0, 0, 0, .null) := by decide +kernel
theorem o_130_27 : t_OP 130 27 = some (.bipush (8), 0, 0, 0, 8, .null) := by decide +kernel
theorem o_130_29 : t_OP 130 29 = some (.lshl, 0, 0, 0, 0, .null) := by decide +kernel
theorem o_130_30 : t_OP 130 30 = some (.aload_n 0, 0, 0, 0, 0, .null) := by decide +kernel
theorem o_130_31 : t_OP 130 31 = some (.getfield 7, 7, 2, 0, 0, .null) := by decide +kernel
theorem o_130_34 : t_OP 130 34 = some (.iload_n 3, 0, 0, 0, 0, .null) := by decide +kernel
theorem o_130_35 : t_OP 130 35 = some (.iaload, 0, 0, 0, 0, .null) := by decide +kernel
theorem o_130_36 : t_OP 130 36 = some (.i2l, 0, 0, 0, 0, .null) := by decide +kernel
theorem o_130_37 : t_OP 130 37 = some (.lor, 0, 0, 0, 0, .null) := by decide +kernel
theorem o_130_38 : t_OP 130 38 = some (.lstore_n 1, 0, 0, 0, 0, .null) := by decide +kernel
theorem o_130_39 : t_OP 130 39 = some (.iinc 3 (1), 0, 0, 0, 1, .null) := by decide +kernel
theorem o_130_42 : t_OP 130 42 = some (.goto (-24), 18, 0, 0, 0, .null) := by decide +kernel
theorem o_130_45 : t_OP 130 45 = some (.lload_n 1, 0, 0, 0, 0, .null) := by decide +kernel
theorem o_130_46 : t_OP 130 46 = some (.ldc2_w 114, 0, 0, 0, 0, .long (111567839655027)) := by decide +kernel
theorem o_130_49 : t_OP 130 49 = some (.lcmp, 0, 0, 0, 0, .null) := by decide +kernel
theorem o_130_50 : t_OP 130 50 = some (.ifCond .ne (7), 57, 0, 0, 0, .null) := by decide +kernel
theorem o_130_53 : t_OP 130 53 = some (.iconst (1), 0, 0, 0, 1, .null) := by decide +kernel
theorem o_130_54 : t_OP 130 54 = some (.goto (16), 70, 0, 0, 0, .null) := by decide +kernel
theorem o_130_57 : t_OP 130 57 = some (.lload_n 1, 0, 0, 0, 0, .null) := by decide +kernel
theorem o_130_58 : t_OP 130 58 = some (.ldc2_w 116, 0, 0, 0, 0, .long (112628846390380)) := by decide +kernel
theorem o_130_61 : t_OP 130 61 = some (.lcmp, 0, 0, 0, 0, .null) := by decide +kernel
theorem o_130_62 : t_OP 130 62 = some (.ifCond .ne (7), 69, 0, 0, 0, .null) := by decide +kernel
theorem o_130_65 : t_OP 130 65 = some (.iconst (2), 0, 0, 0, 2, .null) := by decide +kernel
theorem o_130_66 : t_OP 130 66 = some (.goto (4), 70, 0, 0, 0, .null) := by decide +kernel
theorem o_130_69 : t_OP 130 69 = some (.iconst (0), 0, 0, 0, 0, .null) := by decide +kernel
theorem o_130_70 : t_OP 130 70 = some (.ireturn, 0, 0, 0, 0, .null) := by decide +kernel
theorem o_131_0 : t_OP 131 0 = some (.aload_n 0, 0, 0, 0, 0, .null) := by decide +kernel
theorem o_131_1 : t_OP 131 1 = some (.bipush (116), 0, 0, 0, 116, .null) := by decide +kernel
theorem o_131_3 : t_OP 131 3 = some (.invokevirtual 131, 120, 0, 1, 0, .null) := by decide +kernel
theorem o_131_6 : t_OP 131 6 = some (.istore_n 1, 0, 0, 0, 0, .null) := by decide +kernel
theorem o_131_7 : t_OP 131 7 = some (.aload_n 0, 0, 0, 0, 0, .null) := by decide +kernel
theorem o_131_8 : t_OP 131 8 = some (.invokevirtual 124, 127, 0, 0, 0, .null) := by decide +kernel
theorem o_131_11 : t_OP 131 11 = some (.istore_n 2, 0, 0, 0, 0, .null) := by decide +kernel
theorem o_131_12 : t_OP 131 12 = some (.aload_n 0, 0, 0, 0, 0, .null) := by decide +kernel
theorem o_131_13 : t_OP 131 13 = some (.getfield 76, 7, 18, 0, 0, .null) := by decide +kernel
theorem o_131_16 : t_OP 131 16 = some (.istore_n 3, 0, 0, 0, 0, .null) := by decide +kernel
theorem o_131_17 : t_OP 131 17 = some (.iload_n 1, 0, 0, 0, 0, .null) := by decide +kernel
theorem o_131_18 : t_OP 131 18 = some (.ifCond .lt (8), 26, 0, 0, 0, .null) := by decide +kernel
theorem o_131_21 : t_OP 131 21 = some (.iload_n 1, 0, 0, 0, 0, .null) := by decide +kernel
theorem o_131_22 : t_OP 131 22 = some (.iconst (4), 0, 0, 0, 4, .null) := by decide +kernel
theorem o_131_23 : t_OP 131 23 = some (.if_icmp .lt (14), 37, 0, 0, 0, .null) := by decide +kernel
theorem o_131_26 : t_OP 131 26 = some (.iload_n 2, 0, 0, 0, 0, .null) := by decide +kernel
theorem o_131_27 : t_OP 131 27 = some (.ifCond .ge (10), 37, 0, 0, 0, .null) := by decide +kernel
theorem o_131_30 : t_OP 131 30 = some (.aload_n 0, 0, 0, 0, 0, .null) := by decide +kernel
theorem o_131_31 : t_OP 131 31 = some (.invokevirtual 105, 122, 0, 0, 0, .null) := by decide +kernel
theorem o_131_34 : t_OP 131 34 = some (.goto (35), 69, 0, 0, 0, .null) := by decide +kernel
theorem o_131_37 : t_OP 131 37 = some (.aload_n 0, 0, 0, 0, 0, .null) := by decide +kernel
theorem o_131_38 : t_OP 131 38 = some (.getfield 148, 7, 8, 0, 0, .null) := by decide +kernel
theorem o_131_41 : t_OP 131 41 = some (.bipush (16), 0, 0, 0, 16, .null) := by decide +kernel
theorem o_131_43 : t_OP 131 43 = some (.if_icmp .ne (12), 55, 0, 0, 0, .null) := by decide +kernel
theorem o_131_46 : t_OP 131 46 = some (.aload_n 0, 0, 0, 0, 0, .null) := by decide +kernel
theorem o_131_47 : t_OP 131 47 = some (.iconst (4), 0, 0, 0, 4, .null) := by decide +kernel
theorem o_131_48 : t_OP 131 48 = some (.iload_n 3, 0, 0, 0, 0, .null) := by decide +kernel
theorem o_131_49 : t_OP 131 49 = some (.invokevirtual 101, 123, 0, 2, 0, .null) := by decide +kernel
theorem o_131_52 : t_OP 131 52 = some (.goto (17), 69, 0, 0, 0, .null) := by decide +kernel
theorem o_131_55 : t_OP 131 55 = some (.iload_n 1, 0, 0, 0, 0, .null) := by decide +kernel
theorem o_131_56 : t_OP 131 56 = some (.aload_n 0, 0, 0, 0, 0, .null) := by decide +kernel
theorem o_131_57 : t_OP 131 57 = some (.getfield 142, 7, 6, 0, 0, .null) := by decide +kernel
theorem o_131_60 : t_OP 131 60 = some (.if_icmp .lt (9), 69, 0, 0, 0, .null) := by decide +kernel
theorem o_131_63 : t_OP 131 63 = some (.aload_n 0, 0, 0, 0, 0, .null) := by decide +kernel
theorem o_131_64 : t_OP 131 64 = some (.iconst (5), 0, 0, 0, 5, .null) := by decide +kernel
theorem o_131_65 : t_OP 131 65 = some (.iload_n 3, 0, 0, 0, 0, .null) := by decide +kernel
theorem o_131_66 : t_OP 131 66 = some (.invokevirtual 101, 123, 0, 2, 0, .null) := by decide +kernel
theorem o_131_69 : t_OP 131 69 = some (.aload_n 0, 0, 0, 0, 0, .null) := by decide +kernel
theorem o_131_70 : t_OP 131 70 = some (.getfield 95, 7, 3, 0, 0, .null) := by decide +kernel
theorem o_131_73 : t_OP 131 73 = some (.ifCond .le (4), 77, 0, 0, 0, .null) := by decide +kernel
theorem o_131_76 : t_OP 131 76 = some (.return_, 0, 0, 0, 0, .null) := by decide +kernel
theorem o_131_77 : t_OP 131 77 = some (.aload_n 0, 0, 0, 0, 0, .null) := by decide +kernel
theorem o_131_78 : t_OP 131 78 = some (.invokevirtual 108, 115, 0, 0, 0, .null) := by decide +kernel
theorem o_131_81 : t_OP 131 81 = some (.iload_n 1, 0, 0, 0, 0, .null) := by decide +kernel
theorem o_131_82 : t_OP 131 82 = some (.ifCond .lt (62), 144, 0, 0, 0, .null) := by decide +kernel
theorem o_131_85 : t_OP 131 85 = some (.aload_n 0, 0, 0, 0, 0, .null) := by decide +kernel
theorem o_131_86 : t_OP 131 86 = some (.bipush (58), 0, 0, 0, 58, .null) := by decide +kernel
theorem o_131_88 : t_OP 131 88 = some (.invokevirtual 134, 124, 0, 1, 0, .null) := by decide +kernel
theorem o_131_91 : t_OP 131 91 = some (.aload_n 0, 0, 0, 0, 0, .null) := by decide +kernel
theorem o_131_92 : t_OP 131 92 = some (.getfield 95, 7, 3, 0, 0, .null) := by decide +kernel
theorem o_131_95 : t_OP 131 95 = some (.ifCond .le (4), 99, 0, 0, 0, .null) := by decide +kernel
theorem o_131_98 : t_OP 131 98 = some (.return_, 0, 0, 0, 0, .null) := by decide +kernel
theorem o_131_99 : t_OP 131 99 = some (.aload_n 0, 0, 0, 0, 0, .null) := by decide +kernel
theorem o_131_100 : t_OP 131 100 = some (.bipush (114), 0, 0, 0, 114, .null) := by decide +kernel
theorem o_131_102 : t_OP 131 102 = some (.invokevirtual 131, 120, 0, 1, 0, .null) := by decide +kernel
theorem o_131_105 : t_OP 131 105 = some (.istore_n 2, 0, 0, 0, 0, .null) := by decide +kernel
theorem o_131_106 : t_OP 131 106 = some (.iload_n 2, 0, 0, 0, 0, .null) := by decide +kernel
theorem o_131_107 : t_OP 131 107 = some (.ifCond .ge (10), 117, 0, 0, 0, .null) := by decide +kernel
theorem o_131_110 : t_OP 131 110 = some (.aload_n 0, 0, 0, 0, 0, .null) := by decide +kernel
theorem o_131_111 : t_OP 131 111 = some (.invokevirtual 105, 122, 0, 0, 0, .null) := by decide +kernel
theorem o_131_114 : t_OP 131 114 = some (.goto (18), 132, 0, 0, 0, .null) := by decide +kernel
theorem o_131_117 : t_OP 131 117 = some (.aload_n 0, 0, 0, 0, 0, .null) := by decide +kernel
theorem o_131_118 : t_OP 131 118 = some (.iload_n 1, 0, 0, 0, 0, .null) := by decide +kernel
theorem o_131_119 : t_OP 131 119 = some (.iload_n 2, 0, 0, 0, 0, .null) := by decide +kernel
theorem o_131_120 : t_OP 131 120 = some (.invokevirtual 151, 132, 0, 2, 0, .null) := by decide +kernel
theorem o_131_123 : t_OP 131 123 = some (.ifCond .ne (9), 132, 0, 0, 0, .null) := by decide +kernel
theorem o_131_126 : t_OP 131 126 = some (.aload_n 0, 0, 0, 0, 0, .null) := by decide +kernel
theorem o_131_127 : t_OP 131 127 = some (.iconst (5), 0, 0, 0, 5, .null) := by decide +kernel
theorem o_131_128 : t_OP 131 128 = some (.iload_n 3, 0, 0, 0, 0, .null) := by decide +kernel
theorem o_131_129 : t_OP 131 129 = some (.invokevirtual 101, 123, 0, 2, 0, .null) := by decide +kernel
theorem o_131_132 : t_OP 131 132 = some (.aload_n 0, 0, 0, 0, 0, .null) := by decide +kernel
theorem o_131_133 : t_OP 131 133 = some (.getfield 95, 7, 3, 0, 0, .null) := by decide +kernel
theorem o_131_136 : t_OP 131 136 = some (.ifCond .le (4), 140, 0, 0, 0, .null) := by decide +kernel
theorem o_131_139 : t_OP 131 139 = some (.return_, 0, 0, 0, 0, .null) := by decide +kernel
theorem o_131_140 : t_OP 131 140 = some (.aload_n 0, 0, 0, 0, 0, .null) := by decide +kernel
theorem o_131_141 : t_OP 131 141 = some (.invokevirtual 108, 115, 0, 0, 0, .null) := by decide +kernel
theorem o_131_144 : t_OP 131 144 = some (.aload_n 0, 0, 0, 0, 0, .null) := by decide +kernel
theorem o_131_145 : t_OP 131 145 = some (.bipush (61), 0, 0, 0, 61, .null) := by decide +kernel
theorem o_131_147 : t_OP 131 147 = some (.invokevirtual 134, 124, 0, 1, 0, .null) := by decide +kernel
theorem o_131_150 : t_OP 131 150 = some (.aload_n 0, 0, 0, 0, 0, .null) := by decide +kernel
theorem o_131_151 : t_OP 131 151 = some (.getfield 95, 7, 3, 0, 0, .null) := by decide +kernel
theorem o_131_154 : t_OP 131 154 = some (.ifCond .le (4), 158, 0, 0, 0, .null) := by decide +kernel
theorem o_131_157 : t_OP 131 157 = some (.return_, 0, 0, 0, 0, .null) := by decide +kernel
theorem o_131_158 : t_OP 131 158 = some (.aload_n 0, 0, 0, 0, 0, .null) := by decide +kernel
theorem o_131_159 : t_OP 131 159 = some (.invokevirtual 128, 128, 0, 0, 0, .null) := by decide +kernel
theorem o_131_162 : t_OP 131 162 = some (.istore 4, 0, 0, 0, 0, .null) := by decide +kernel
theorem o_131_164 : t_OP 131 164 = some (.aload_n 0, 0, 0, 0, 0, .null) := by decide +kernel
theorem o_131_165 : t_OP 131 165 = some (.getfield 25, 7, 14, 0, 0, .null) := by decide +kernel
theorem o_131_168 : t_OP 131 168 = some (.aload_n 0, 0, 0, 0, 0, .null) := by decide +kernel
theorem o_131_169 : t_OP 131 169 = some (.getfield 148, 7, 8, 0, 0, .null) := by decide +kernel
theorem o_131_172 : t_OP 131 172 = some (.iload_n 1, 0, 0, 0, 0, .null) := by decide +kernel
theorem o_131_173 : t_OP 131 173 = some (.iastore, 0, 0, 0, 0, .null) := by decide +kernel
theorem o_131_174 : t_OP 131 174 = some (.aload_n 0, 0, 0, 0, 0, .null) := by decide +kernel
theorem o_131_175 : t_OP 131 175 = some (.getfield 28, 7, 15, 0, 0, .null) := by decide +kernel
theorem o_131_178 : t_OP 131 178 = some (.aload_n 0, 0, 0, 0, 0, .null) := by decide +kernel
theorem o_131_179 : t_OP 131 179 = some (.getfield 148, 7, 8, 0, 0, .null) := by decide +kernel
theorem o_131_182 : t_OP 131 182 = some (.iload_n 2, 0, 0, 0, 0, .null) := by decide +kernel
theorem o_131_183 : t_OP 131 183 = some (.iastore, 0, 0, 0, 0, .null) := by decide +kernel
theorem o_131_184 : t_OP 131 184 = some (.aload_n 0, 0, 0, 0, 0, .null) := by decide +kernel
theorem o_131_185 : t_OP 131 185 = some (.getfield 31, 7, 16, 0, 0, .null) := by decide +kernel
theorem o_131_188 : t_OP 131 188 = some (.aload_n 0, 0, 0, 0, 0, .null) := by decide +kernel
theorem o_131_189 : t_OP 131 189 = some (.getfield 148, 7, 8, 0, 0, .null) := by decide +kernel
theorem o_131_192 : t_OP 131 192 = some (.iload 4, 0, 0, 0, 0, .null) := by decide +kernel
theorem o_131_194 : t_OP 131 194 = some (.iastore, 0, 0, 0, 0, .null) := by decide +kernel
theorem o_131_195 : t_OP 131 195 = some (.aload_n 0, 0, 0, 0, 0, .null) := by decide +kernel
theorem o_131_196 : t_OP 131 196 = some (.dup, 0, 0, 0, 0, .null) := by decide +kernel
theorem o_131_197 : t_OP 131 197 = some (.getfield 148, 7, 8, 0, 0, .null) := by decide +kernel
theorem o_131_200 : t_OP 131 200 = some (.iconst (1), 0, 0, 0, 1, .null) := by decide +kernel
theorem o_131_201 : t_OP 131 201 = some (.iadd, 0, 0, 0, 0, .null) := by decide +kernel
theorem o_131_202 : t_OP 131 202 = some (.putfield 148, 7, 8, 0, 0, .null) := by decide +kernel
theorem o_131_205 : t_OP 131 205 = some (.return_, 0, 0, 0, 0, .null) := by decide +kernel
theorem o_132_0 : t_OP 132 0 = some (.iconst (0), 0, 0, 0, 0, .null) := by decide +kernel
theorem o_132_1 : t_OP 132 1 = some (.istore_n 3, 0, 0, 0, 0, .null) := by decide +kernel
theorem o_132_2 : t_OP 132 2 = some (.iconst (0), 0, 0, 0, 0, .null) := by decide +kernel
theorem o_132_3 : t_OP 132 3 = some (.istore 4, 0, 0, 0, 0, .null) := by decide +kernel
theorem o_132_5 : t_OP 132 5 = some (.iload 4, 0, 0, 0, 0, .null) := by decide +kernel
theorem o_132_7 : t_OP 132 7 = some (.aload_n 0, 0, 0, 0, 0, .null) := by decide +kernel
theorem o_132_8 : t_OP 132 8 = some (.getfield 118, 7, 7, 0, 0, .null) := by decide +kernel
theorem o_132_11 : t_OP 132 11 = some (.if_icmp .ge (52), 63, 0, 0, 0, .null) := by decide +kernel
theorem o_132_14 : t_OP 132 14 = some (.iload_n 3, 0, 0, 0, 0, .null) := by decide +kernel
theorem o_132_15 : t_OP 132 15 = some (.ifCond .ne (36), 51, 0, 0, 0, .null) := by decide +kernel
theorem o_132_18 : t_OP 132 18 = some (.aload_n 0, 0, 0, 0, 0, .null) := by decide +kernel
theorem o_132_19 : t_OP 132 19 = some (.getfield 13, 7, 10, 0, 0, .null) := by decide +kernel
theorem o_132_22 : t_OP 132 22 = some (.iload 4, 0, 0, 0, 0, .null) := by decide +kernel
theorem o_132_24 : t_OP 132 24 = some (.iaload, 0, 0, 0, 0, .null) := by decide +kernel
theorem o_132_25 : t_OP 132 25 = some (.iload_n 1, 0, 0, 0, 0, .null) := by decide +kernel
theorem o_132_26 : t_OP 132 26 = some (.if_icmp .ne (29), 55, 0, 0, 0, .null) := by decide +kernel
theorem o_132_29 : t_OP 132 29 = some (.aload_n 0, 0, 0, 0, 0, .null) := by decide +kernel
theorem o_132_30 : t_OP 132 30 = some (.getfield 16, 7, 11, 0, 0, .null) := by decide +kernel
theorem o_132_33 : t_OP 132 33 = some (.iload 4, 0, 0, 0, 0, .null) := by decide +kernel
theorem o_132_35 : t_OP 132 35 = some (.iaload, 0, 0, 0, 0, .null) := by decide +kernel
theorem o_132_36 : t_OP 132 36 = some (.iconst (1), 0, 0, 0, 1, .null) := by decide +kernel
theorem o_132_37 : t_OP 132 37 = some (.if_icmp .ne (18), 55, 0, 0, 0, .null) := by decide +kernel
theorem o_132_40 : t_OP 132 40 = some (.aload_n 0, 0, 0, 0, 0, .null) := by decide +kernel
theorem o_132_41 : t_OP 132 41 = some (.getfield 22, 7, 13, 0, 0, .null) := by decide +kernel
theorem o_132_44 : t_OP 132 44 = some (.iload 4, 0, 0, 0, 0, .null) := by decide +kernel
theorem o_132_46 : t_OP 132 46 = some (.iaload, 0, 0, 0, 0, .null) := by decide +kernel
theorem o_132_47 : t_OP 132 47 = some (.iload_n 2, 0, 0, 0, 0, .null) := by decide +kernel
theorem o_132_48 : t_OP 132 48 = some (.if_icmp .ne (7), 55, 0, 0, 0, .null) := by decide +kernel
theorem o_132_51 : t_OP 132 51 = some (.iconst (1), 0, 0, 0, 1, .null) := by decide +kernel
theorem o_132_52 : t_OP 132 52 = some (.goto (4), 56, 0, 0, 0, .null) := by decide +kernel
theorem o_132_55 : t_OP 132 55 = some (.iconst (0), 0, 0, 0, 0, .null) := by decide +kernel
theorem o_132_56 : t_OP 132 56 = some (.istore_n 3, 0, 0, 0, 0, .null) := by decide +kernel
theorem o_132_57 : t_OP 132 57 = some (.iinc 4 (1), 0, 0, 0, 1, .null) := by decide +kernel
theorem o_132_60 : t_OP 132 60 = some (.goto (-55), 5, 0, 0, 0, .null) := by decide +kernel
theorem o_132_63 : t_OP 132 63 = some (.iload_n 3, 0, 0, 0, 0, .null) := by decide +kernel
theorem o_132_64 : t_OP 132 64 = some (.ireturn, 0, 0, 0, 0, .null) := by decide +kernel
theorem o_133_0 : t_OP 133 0 = some (.aload_n 0, 0, 0, 0, 0, .null) := by decide +kernel
theorem o_133_1 : t_OP 133 1 = some (.iconst (0), 0, 0, 0, 0, .null) := by decide +kernel
theorem o_133_2 : t_OP 133 2 = some (.putfield 58, 7, 0, 0, 0, .null) := by decide +kernel
theorem o_133_5 : t_OP 133 5 = some (.iload_n 1, 0, 0, 0, 0, .null) := by decide +kernel
theorem o_133_6 : t_OP 133 6 = some (.ifCond .ne (10), 16, 0, 0, 0, .null) := by decide +kernel
theorem o_133_9 : t_OP 133 9 = some (.aload_n 0, 0, 0, 0, 0, .null) := by decide +kernel
theorem o_133_10 : t_OP 133 10 = some (.getfield 95, 7, 3, 0, 0, .null) := by decide +kernel
theorem o_133_13 : t_OP 133 13 = some (.goto (20), 33, 0, 0, 0, .null) := by decide +kernel
theorem o_133_16 : t_OP 133 16 = some (.iload_n 1, 0, 0, 0, 0, .null) := by decide +kernel
theorem o_133_17 : t_OP 133 17 = some (.iconst (1), 0, 0, 0, 1, .null) := by decide +kernel
theorem o_133_18 : t_OP 133 18 = some (.if_icmp .ne (10), 28, 0, 0, 0, .null) := by decide +kernel
theorem o_133_21 : t_OP 133 21 = some (.aload_n 0, 0, 0, 0, 0, .null) := by decide +kernel
theorem o_133_22 : t_OP 133 22 = some (.getfield 98, 7, 4, 0, 0, .null) := by decide +kernel
theorem o_133_25 : t_OP 133 25 = some (.goto (8), 33, 0, 0, 0, .null) := by decide +kernel
theorem o_133_28 : t_OP 133 28 = some (.aload_n 0, 0, 0, 0, 0, .null) := by decide +kernel
theorem o_133_29 : t_OP 133 29 = some (.iconst (1), 0, 0, 0, 1, .null) := by decide +kernel
theorem o_133_30 : t_OP 133 30 = some (.invokevirtual 65, 109, 0, 1, 0, .null) := by decide +kernel
theorem o_133_33 : t_OP 133 33 = some (.ireturn, 0, 0, 0, 0, .null) := by decide +kernel
theorem o_134_0 : t_OP 134 0 = some (.aload_n 0, 0, 0, 0, 0, .null) := by decide +kernel
theorem o_134_1 : t_OP 134 1 = some (.iconst (0), 0, 0, 0, 0, .null) := by decide +kernel
theorem o_134_2 : t_OP 134 2 = some (.putfield 58, 7, 0, 0, 0, .null) := by decide +kernel
theorem o_134_5 : t_OP 134 5 = some (.iload_n 1, 0, 0, 0, 0, .null) := by decide +kernel
theorem o_134_6 : t_OP 134 6 = some (.iconst (0), 0, 0, 0, 0, .null) := by decide +kernel
theorem o_134_7 : t_OP 134 7 = some (.bipush (10), 0, 0, 0, 10, .null) := by decide +kernel
theorem o_134_9 : t_OP 134 9 = some (.invokestatic 69, 111, 2, 3, 0, .null) := by decide +kernel
theorem o_134_12 : t_OP 134 12 = some (.ifCond .ne (9), 21, 0, 0, 0, .null) := by decide +kernel
theorem o_134_15 : t_OP 134 15 = some (.aload_n 0, 0, 0, 0, 0, .null) := by decide +kernel
theorem o_134_16 : t_OP 134 16 = some (.iconst (1), 0, 0, 0, 1, .null) := by decide +kernel
theorem o_134_17 : t_OP 134 17 = some (.invokevirtual 65, 109, 0, 1, 0, .null) := by decide +kernel
theorem o_134_20 : t_OP 134 20 = some (.ireturn, 0, 0, 0, 0, .null) := by decide +kernel
theorem o_134_21 : t_OP 134 21 = some (.aload_n 0, 0, 0, 0, 0, .null) := by decide +kernel
theorem o_134_22 : t_OP 134 22 = some (.getfield 186, 7, 21, 0, 0, .null) := by decide +kernel
theorem o_134_25 : t_OP 134 25 = some (.bipush (12), 0, 0, 0, 12, .null) := by decide +kernel
theorem o_134_27 : t_OP 134 27 = some (.if_icmp .ne (9), 36, 0, 0, 0, .null) := by decide +kernel
theorem o_134_30 : t_OP 134 30 = some (.aload_n 0, 0, 0, 0, 0, .null) := by decide +kernel
theorem o_134_31 : t_OP 134 31 = some (.iconst (2), 0, 0, 0, 2, .null) := by decide +kernel
theorem o_134_32 : t_OP 134 32 = some (.invokevirtual 65, 109, 0, 1, 0, .null) := by decide +kernel
theorem o_134_35 : t_OP 134 35 = some (.ireturn, 0, 0, 0, 0, .null) := by decide +kernel
theorem o_134_36 : t_OP 134 36 = some (.aload_n 0, 0, 0, 0, 0, .null) := by decide +kernel
theorem o_134_37 : t_OP 134 37 = some (.getfield 34, 7, 22, 0, 0, .null) := by decide +kernel
theorem o_134_40 : t_OP 134 40 = some (.aload_n 0, 0, 0, 0, 0, .null) := by decide +kernel
theorem o_134_41 : t_OP 134 41 = some (.getfield 186, 7, 21, 0, 0, .null) := by decide +kernel
theorem o_134_44 : t_OP 134 44 = some (.iload_n 1, 0, 0, 0, 0, .null) := by decide +kernel
theorem o_134_45 : t_OP 134 45 = some (.iastore, 0, 0, 0, 0, .null) := by decide +kernel
theorem o_134_46 : t_OP 134 46 = some (.aload_n 0, 0, 0, 0, 0, .null) := by decide +kernel
theorem o_134_47 : t_OP 134 47 = some (.dup, 0, 0, 0, 0, .null) := by decide +kernel
theorem o_134_48 : t_OP 134 48 = some (.getfield 186, 7, 21, 0, 0, .null) := by decide +kernel
theorem o_134_51 : t_OP 134 51 = some (.iconst (1), 0, 0, 0, 1, .null) := by decide +kernel
theorem o_134_52 : t_OP 134 52 = some (.iadd, 0, 0, 0, 0, .null) := by decide +kernel
theorem o_134_53 : t_OP 134 53 = some (.putfield 186, 7, 21, 0, 0, .null) := by decide +kernel
theorem o_134_56 : t_OP 134 56 = some (.aload_n 0, 0, 0, 0, 0, .null) := by decide +kernel
theorem o_134_57 : t_OP 134 57 = some (.getfield 186, 7, 21, 0, 0, .null) := by decide +kernel
theorem o_134_60 : t_OP 134 60 = some (.ireturn, 0, 0, 0, 0, .null) := by decide +kernel
theorem o_135_0 : t_OP 135 0 = some (.aload_n 0, 0, 0, 0, 0, .null) := by decide +kernel
theorem o_135_1 : t_OP 135 1 = some (.iconst (0), 0, 0, 0, 0, .null) := by decide +kernel
theorem o_135_2 : t_OP 135 2 = some (.putfield 58, 7, 0, 0, 0, .null) := by decide +kernel
theorem o_135_5 : t_OP 135 5 = some (.aload_n 0, 0, 0, 0, 0, .null) := by decide +kernel
theorem o_135_6 : t_OP 135 6 = some (.invokevirtual 198, 136, 0, 0, 0, .null) := by decide +kernel
theorem o_135_9 : t_OP 135 9 = some (.istore_n 1, 0, 0, 0, 0, .null) := by decide +kernel
theorem o_135_10 : t_OP 135 10 = some (.iload_n 1, 0, 0, 0, 0, .null) := by decide +kernel
theorem o_135_11 : t_OP 135 11 = some (.ifCond .eq (37), 48, 0, 0, 0, .null) := by decide +kernel
theorem o_135_14 : t_OP 135 14 = some (.aload_n 0, 0, 0, 0, 0, .null) := by decide +kernel
theorem o_135_15 : t_OP 135 15 = some (.invokevirtual 177, 113, 0, 0, 0, .null) := by decide +kernel
theorem o_135_18 : t_OP 135 18 = some (.aload_n 0, 0, 0, 0, 0, .null) := by decide +kernel
theorem o_135_19 : t_OP 135 19 = some (.invokevirtual 202, 140, 0, 0, 0, .null) := by decide +kernel
theorem o_135_22 : t_OP 135 22 = some (.aload_n 0, 0, 0, 0, 0, .null) := by decide +kernel
theorem o_135_23 : t_OP 135 23 = some (.aload_n 0, 0, 0, 0, 0, .null) := by decide +kernel
theorem o_135_24 : t_OP 135 24 = some (.getfield 43, 7, 31, 0, 0, .null) := by decide +kernel
theorem o_135_27 : t_OP 135 27 = some (.aload_n 0, 0, 0, 0, 0, .null) := by decide +kernel
theorem o_135_28 : t_OP 135 28 = some (.getfield 186, 7, 21, 0, 0, .null) := by decide +kernel
theorem o_135_31 : t_OP 135 31 = some (.iconst (1), 0, 0, 0, 1, .null) := by decide +kernel
theorem o_135_32 : t_OP 135 32 = some (.isub, 0, 0, 0, 0, .null) := by decide +kernel
theorem o_135_33 : t_OP 135 33 = some (.iaload, 0, 0, 0, 0, .null) := by decide +kernel
theorem o_135_34 : t_OP 135 34 = some (.iconst (1), 0, 0, 0, 1, .null) := by decide +kernel
theorem o_135_35 : t_OP 135 35 = some (.iadd, 0, 0, 0, 0, .null) := by decide +kernel
theorem o_135_36 : t_OP 135 36 = some (.putfield 142, 7, 6, 0, 0, .null) := by decide +kernel
theorem o_135_39 : t_OP 135 39 = some (.aload_n 0, 0, 0, 0, 0, .null) := by decide +kernel
theorem o_135_40 : t_OP 135 40 = some (.invokevirtual 205, 141, 0, 0, 0, .null) := by decide +kernel
theorem o_135_43 : t_OP 135 43 = some (.aload_n 0, 0, 0, 0, 0, .null) := by decide +kernel
theorem o_135_44 : t_OP 135 44 = some (.iconst (1), 0, 0, 0, 1, .null) := by decide +kernel
theorem o_135_45 : t_OP 135 45 = some (.putfield 183, 7, 5, 0, 0, .null) := by decide +kernel
theorem o_135_48 : t_OP 135 48 = some (.aload_n 0, 0, 0, 0, 0, .null) := by decide +kernel
theorem o_135_49 : t_OP 135 49 = some (.iconst (0), 0, 0, 0, 0, .null) := by decide +kernel
theorem o_135_50 : t_OP 135 50 = some (.putfield 186, 7, 21, 0, 0, .null) := by decide +kernel
theorem o_135_53 : t_OP 135 53 = some (.iload_n 1, 0, 0, 0, 0, .null) := by decide +kernel
theorem o_135_54 : t_OP 135 54 = some (.ifCond .eq (10), 64, 0, 0, 0, .null) := by decide +kernel
theorem o_135_57 : t_OP 135 57 = some (.aload_n 0, 0, 0, 0, 0, .null) := by decide +kernel
theorem o_135_58 : t_OP 135 58 = some (.getfield 118, 7, 7, 0, 0, .null) := by decide +kernel
theorem o_135_61 : t_OP 135 61 = some (.goto (8), 69, 0, 0, 0, .null) := by decide +kernel
theorem o_135_64 : t_OP 135 64 = some (.aload_n 0, 0, 0, 0, 0, .null) := by decide +kernel
theorem o_135_65 : t_OP 135 65 = some (.iconst (1), 0, 0, 0, 1, .null) := by decide +kernel
theorem o_135_66 : t_OP 135 66 = some (.invokevirtual 65, 109, 0, 1, 0, .null) := by decide +kernel
theorem o_135_69 : t_OP 135 69 = some (.ireturn, 0, 0, 0, 0, .null) := by decide +kernel
theorem o_136_0 : t_OP 136 0 = some (.iconst (0), 0, 0, 0, 0, .null) := by decide +kernel
theorem o_136_1 : t_OP 136 1 = some (.istore_n 1, 0, 0, 0, 0, .null) := by decide +kernel
theorem o_136_2 : t_OP 136 2 = some (.aload_n 0, 0, 0, 0, 0, .null) := by decide +kernel
theorem o_136_3 : t_OP 136 3 = some (.getfield 186, 7, 21, 0, 0, .null) := by decide +kernel
theorem o_136_6 : t_OP 136 6 = some (.ifCond .le (7), 13, 0, 0, 0, .null) := by decide +kernel
theorem o_136_9 : t_OP 136 9 = some (.iconst (1), 0, 0, 0, 1, .null) := by decide +kernel
theorem o_136_10 : t_OP 136 10 = some (.goto (4), 14, 0, 0, 0, .null) := by decide +kernel
theorem o_136_13 : t_OP 136 13 = some (.iconst (0), 0, 0, 0, 0, .null) := by decide +kernel
theorem o_136_14 : t_OP 136 14 = some (.istore_n 2, 0, 0, 0, 0, .null) := by decide +kernel
theorem o_136_15 : t_OP 136 15 = some (.iconst (0), 0, 0, 0, 0, .null) := by decide +kernel
theorem o_136_16 : t_OP 136 16 = some (.istore_n 3, 0, 0, 0, 0, .null) := by decide +kernel
theorem o_136_17 : t_OP 136 17 = some (.iload_n 3, 0, 0, 0, 0, .null) := by decide +kernel
theorem o_136_18 : t_OP 136 18 = some (.aload_n 0, 0, 0, 0, 0, .null) := by decide +kernel
theorem o_136_19 : t_OP 136 19 = some (.getfield 186, 7, 21, 0, 0, .null) := by decide +kernel
theorem o_136_22 : t_OP 136 22 = some (.if_icmp .ge (65), 87, 0, 0, 0, .null) := by decide +kernel
theorem o_136_25 : t_OP 136 25 = some (.iload_n 1, 0, 0, 0, 0, .null) := by decide +kernel
theorem o_136_26 : t_OP 136 26 = some (.aload_n 0, 0, 0, 0, 0, .null) := by decide +kernel
theorem o_136_27 : t_OP 136 27 = some (.getfield 34, 7, 22, 0, 0, .null) := by decide +kernel
theorem o_136_30 : t_OP 136 30 = some (.iload_n 3, 0, 0, 0, 0, .null) := by decide +kernel
theorem o_136_31 : t_OP 136 31 = some (.iaload, 0, 0, 0, 0, .null) := by decide +kernel
theorem o_136_32 : t_OP 136 32 = some (.iconst (3), 0, 0, 0, 3, .null) := by decide +kernel
theorem o_136_33 : t_OP 136 33 = some (.if_icmp .ge (7), 40, 0, 0, 0, .null) := by decide +kernel
theorem o_136_36 : t_OP 136 36 = some (.iconst (1), 0, 0, 0, 1, .null) := by decide +kernel
theorem o_136_37 : t_OP 136 37 = some (.goto (4), 41, 0, 0, 0, .null) := by decide +kernel
theorem o_136_40 : t_OP 136 40 = some (.iconst (0), 0, 0, 0, 0, .null) := by decide +kernel
theorem o_136_41 : t_OP 136 41 = some (.iadd, 0, 0, 0, 0, .null) := by decide +kernel
theorem o_136_42 : t_OP 136 42 = some (.istore_n 1, 0, 0, 0, 0, .null) := by decide +kernel
theorem o_136_43 : t_OP 136 43 = some (.iload_n 2, 0, 0, 0, 0, .null) := by decide +kernel
theorem o_136_44 : t_OP 136 44 = some (.ifCond .eq (35), 79, 0, 0, 0, .null) := by decide +kernel
theorem o_136_47 : t_OP 136 47 = some (.aload_n 0, 0, 0, 0, 0, .null) := by decide +kernel
theorem o_136_48 : t_OP 136 48 = some (.getfield 34, 7, 22, 0, 0, .null) := by decide +kernel
theorem o_136_51 : t_OP 136 51 = some (.iload_n 3, 0, 0, 0, 0, .null) := by decide +kernel
theorem o_136_52 : t_OP 136 52 = some (.iaload, 0, 0, 0, 0, .null) := by decide +kernel
theorem o_136_53 : t_OP 136 53 = some (.invokestatic 192, 137, 2, 1, 0, .null) := by decide +kernel
theorem o_136_56 : t_OP 136 56 = some (.aload_n 0, 0, 0, 0, 0, .null) := by decide +kernel
theorem o_136_57 : t_OP 136 57 = some (.getfield 34, 7, 22, 0, 0, .null) := by decide +kernel
theorem o_136_60 : t_OP 136 60 = some (.iload_n 3, 0, 0, 0, 0, .null) := by decide +kernel
theorem o_136_61 : t_OP 136 61 = some (.iconst (1), 0, 0, 0, 1, .null) := by decide +kernel
theorem o_136_62 : t_OP 136 62 = some (.iadd, 0, 0, 0, 0, .null) := by decide +kernel
theorem o_136_63 : t_OP 136 63 = some (.aload_n 0, 0, 0, 0, 0, .null) := by decide +kernel
theorem o_136_64 : t_OP 136 64 = some (.getfield 186, 7, 21, 0, 0, .null) := by decide +kernel
theorem o_136_67 : t_OP 136 67 = some (.irem, 0, 0, 0, 0, .null) := by decide +kernel
theorem o_136_68 : t_OP 136 68 = some (.iaload, 0, 0, 0, 0, .null) := by decide +kernel
theorem o_136_69 : t_OP 136 69 = some (.invokestatic 195, 139, 2, 1, 0, .null) := by decide +kernel
theorem o_136_72 : t_OP 136 72 = some (.if_icmp .ne (7), 79, 0, 0, 0, .null) := by decide +kernel
theorem o_136_75 : t_OP 136 75 = some (.iconst (1), 0, 0, 0, 1, .null) := by decide +kernel
theorem o_136_76 : t_OP 136 76 = some (.goto (4), 80, 0, 0, 0, .null) := by decide +kernel
theorem o_136_79 : t_OP 136 79 = some (.iconst (0), 0, 0, 0, 0, .null) := by decide +kernel
theorem o_136_80 : t_OP 136 80 = some (.istore_n 2, 0, 0, 0, 0, .null) := by decide +kernel
theorem o_136_81 : t_OP 136 81 = some (.iinc 3 (1), 0, 0, 0, 1, .null) := by decide +kernel
theorem o_136_84 : t_OP 136 84 = some (.goto (-67), 17, 0, 0, 0, .null) := by decide +kernel
theorem o_136_87 : t_OP 136 87 = some (.iload_n 2, 0, 0, 0, 0, .null) := by decide +kernel
theorem o_136_88 : t_OP 136 88 = some (.ifCond .eq (45), 133, 0, 0, 0, .null) := by decide +kernel
theorem o_136_91 : t_OP 136 91 = some (.aload_n 0, 0, 0, 0, 0, .null) := by decide +kernel
theorem o_136_92 : t_OP 136 92 = some (.getfield 34, 7, 22, 0, 0, .null) := by decide +kernel
theorem o_136_95 : t_OP 136 95 = some (.aload_n 0, 0, 0, 0, 0, .null) := by decide +kernel
theorem o_136_96 : t_OP 136 96 = some (.getfield 186, 7, 21, 0, 0, .null) := by decide +kernel
theorem o_136_99 : t_OP 136 99 = some (.iconst (1), 0, 0, 0, 1, .null) := by decide +kernel
theorem o_136_100 : t_OP 136 100 = some (.isub, 0, 0, 0, 0, .null) := by decide +kernel
theorem o_136_101 : t_OP 136 101 = some (.iaload, 0, 0, 0, 0, .null) := by decide +kernel
theorem o_136_102 : t_OP 136 102 = some (.iconst (3), 0, 0, 0, 3, .null) := by decide +kernel
theorem o_136_103 : t_OP 136 103 = some (.if_icmp .ge (30), 133, 0, 0, 0, .null) := by decide +kernel
theorem o_136_106 : t_OP 136 106 = some (.iload_n 1, 0, 0, 0, 0, .null) := by decide +kernel
theorem o_136_107 : t_OP 136 107 = some (.iconst (2), 0, 0, 0, 2, .null) := by decide +kernel
theorem o_136_108 : t_OP 136 108 = some (.iconst (4), 0, 0, 0, 4, .null) := by decide +kernel
theorem o_136_109 : t_OP 136 109 = some (.invokestatic 69, 111, 2, 3, 0, .null) := by decide +kernel
theorem o_136_112 : t_OP 136 112 = some (.ifCond .eq (21), 133, 0, 0, 0, .null) := by decide +kernel
theorem o_136_115 : t_OP 136 115 = some (.aload_n 0, 0, 0, 0, 0, .null) := by decide +kernel
theorem o_136_116 : t_OP 136 116 = some (.getfield 186, 7, 21, 0, 0, .null) := by decide +kernel
theorem o_136_119 : t_OP 136 119 = some (.iload_n 1, 0, 0, 0, 0, .null) := by decide +kernel
theorem o_136_120 : t_OP 136 120 = some (.isub, 0, 0, 0, 0, .null) := by decide +kernel
theorem o_136_121 : t_OP 136 121 = some (.iconst (2), 0, 0, 0, 2, .null) := by decide +kernel
theorem o_136_122 : t_OP 136 122 = some (.iconst (4), 0, 0, 0, 4, .null) := by decide +kernel
theorem o_136_123 : t_OP 136 123 = some (.invokestatic 69, 111, 2, 3, 0, .null) := by decide +kernel
theorem o_136_126 : t_OP 136 126 = some (.ifCond .eq (7), 133, 0, 0, 0, .null) := by decide +kernel
theorem o_136_129 : t_OP 136 129 = some (.iconst (1), 0, 0, 0, 1, .null) := by decide +kernel
theorem o_136_130 : t_OP 136 130 = some (.goto (4), 134, 0, 0, 0, .null) := by decide +kernel
theorem o_136_133 : t_OP 136 133 = some (.iconst (0), 0, 0, 0, 0, .null) := by decide +kernel
theorem o_136_134 : t_OP 136 134 = some (.ireturn, 0, 0, 0, 0, .null) := by decide +kernel
theorem o_137_0 : t_OP 137 0 = some (.iload_n 0, 0, 0, 0, 0, .null) := by decide +kernel
theorem o_137_1 : t_OP 137 1 = some (.invokestatic 189, 138, 2, 1, 0, .null) := by decide +kernel
theorem o_137_4 : t_OP 137 4 = some (.ifCond .eq (20), 24, 0, 0, 0, .null) := by decide +kernel
theorem o_137_7 : t_OP 137 7 = some (.iload_n 0, 0, 0, 0, 0, .null) := by decide +kernel
theorem o_137_8 : t_OP 137 8 = some (.invokestatic 189, 138, 2, 1, 0, .null) := by decide +kernel
theorem o_137_11 : t_OP 137 11 = some (.iconst (4), 0, 0, 0, 4, .null) := by decide +kernel
theorem o_137_12 : t_OP 137 12 = some (.if_icmp .eq (12), 24, 0, 0, 0, .null) := by decide +kernel
theorem o_137_15 : t_OP 137 15 = some (.iload_n 0, 0, 0, 0, 0, .null) := by decide +kernel
theorem o_137_16 : t_OP 137 16 = some (.invokestatic 189, 138, 2, 1, 0, .null) := by decide +kernel
theorem o_137_19 : t_OP 137 19 = some (.bipush (6), 0, 0, 0, 6, .null) := by decide +kernel
theorem o_137_21 : t_OP 137 21 = some (.if_icmp .ne (7), 28, 0, 0, 0, .null) := by decide +kernel
theorem o_137_24 : t_OP 137 24 = some (.iconst (1), 0, 0, 0, 1, .null) := by decide +kernel
theorem o_137_25 : t_OP 137 25 = some (.goto (4), 29, 0, 0, 0, .null) := by decide +kernel
theorem o_137_28 : t_OP 137 28 = some (.iconst (0), 0, 0, 0, 0, .null) := by decide +kernel
theorem o_137_29 : t_OP 137 29 = some (.ireturn, 0, 0, 0, 0, .null) := by decide +kernel
theorem o_138_0 : t_OP 138 0 = some (.iload_n 0, 0, 0, 0, 0, .null) := by decide +kernel
theorem o_138_1 : t_OP 138 1 = some (.bipush (6), 0, 0, 0, 6, .null) := by decide +kernel
theorem o_138_3 : t_OP 138 3 = some (.if_icmp .le (9), 12, 0, 0, 0, .null) := by decide +kernel
theorem o_138_6 : t_OP 138 6 = some (.iload_n 0, 0, 0, 0, 0, .null) := by decide +kernel
theorem o_138_7 : t_OP 138 7 = some (.iconst (4), 0, 0, 0, 4, .null) := by decide +kernel
theorem o_138_8 : t_OP 138 8 = some (.isub, 0, 0, 0, 0, .null) := by decide +kernel
theorem o_138_9 : t_OP 138 9 = some (.goto (4), 13, 0, 0, 0, .null) := by decide +kernel
theorem o_138_12 : t_OP 138 12 = some (.iload_n 0, 0, 0, 0, 0, .null) := by decide +kernel
theorem o_138_13 : t_OP 138 13 = some (.ireturn, 0, 0, 0, 0, .null) := by decide +kernel
theorem o_139_0 : t_OP 139 0 = some (.iload_n 0, 0, 0, 0, 0, .null) := by decide +kernel
theorem o_139_1 : t_OP 139 1 = some (.invokestatic 189, 138, 2, 1, 0, .null) := by decide +kernel
theorem o_139_4 : t_OP 139 4 = some (.iconst (1), 0, 0, 0, 1, .null) := by decide +kernel
theorem o_139_5 : t_OP 139 5 = some (.if_icmp .eq (20), 25, 0, 0, 0, .null) := by decide +kernel
theorem o_139_8 : t_OP 139 8 = some (.iload_n 0, 0, 0, 0, 0, .null) := by decide +kernel
theorem o_139_9 : t_OP 139 9 = some (.invokestatic 189, 138, 2, 1, 0, .null) := by decide +kernel
theorem o_139_12 : t_OP 139 12 = some (.iconst (5), 0, 0, 0, 5, .null) := by decide +kernel
theorem o_139_13 : t_OP 139 13 = some (.if_icmp .eq (12), 25, 0, 0, 0, .null) := by decide +kernel
theorem o_139_16 : t_OP 139 16 = some (.iload_n 0, 0, 0, 0, 0, .null) := by decide +kernel
theorem o_139_17 : t_OP 139 17 = some (.invokestatic 189, 138, 2, 1, 0, .null) := by decide +kernel
theorem o_139_20 : t_OP 139 20 = some (.bipush (6), 0, 0, 0, 6, .null) := by decide +kernel
theorem o_139_22 : t_OP 139 22 = some (.if_icmp .ne (7), 29, 0, 0, 0, .null) := by decide +kernel
theorem o_139_25 : t_OP 139 25 = some (.iconst (1), 0, 0, 0, 1, .null) := by decide +kernel
theorem o_139_26 : t_OP 139 26 = some (.goto (4), 30, 0, 0, 0, .null) := by decide +kernel
theorem o_139_29 : t_OP 139 29 = some (.iconst (0), 0, 0, 0, 0, .null) := by decide +kernel
theorem o_139_30 : t_OP 139 30 = some (.ireturn, 0, 0, 0, 0, .null) := by decide +kernel
theorem o_140_0 : t_OP 140 0 = some (.iconst (0), 0, 0, 0, 0, .null) := by decide +kernel
theorem o_140_1 : t_OP 140 1 = some (.istore_n 1, 0, 0, 0, 0, .null) := by decide +kernel
theorem o_140_2 : t_OP 140 2 = some (.iconst (0), 0, 0, 0, 0, .null) := by decide +kernel
theorem o_140_3 : t_OP 140 3 = some (.istore_n 2, 0, 0, 0, 0, .null) := by decide +kernel
theorem o_140_4 : t_OP 140 4 = some (.iconst (0), 0, 0, 0, 0, .null) := by decide +kernel
theorem o_140_5 : t_OP 140 5 = some (.istore_n 3, 0, 0, 0, 0, .null) := by decide +kernel
theorem o_140_6 : t_OP 140 6 = some (.iconst (-1), 0, 0, 0, (-1), .null) := by decide +kernel
theorem o_140_7 : t_OP 140 7 = some (.istore 4, 0, 0, 0, 0, .null) := by decide +kernel
theorem o_140_9 : t_OP 140 9 = some (.iconst (0), 0, 0, 0, 0, .null) := by decide +kernel
theorem o_140_10 : t_OP 140 10 = some (.istore 5, 0, 0, 0, 0, .null) := by decide +kernel
theorem o_140_12 : t_OP 140 12 = some (.iload 5, 0, 0, 0, 0, .null) := by decide +kernel
theorem o_140_14 : t_OP 140 14 = some (.aload_n 0, 0, 0, 0, 0, .null) := by decide +kernel
theorem o_140_15 : t_OP 140 15 = some (.getfield 186, 7, 21, 0, 0, .null) := by decide +kernel
theorem o_140_18 : t_OP 140 18 = some (.if_icmp .ge (28), 46, 0, 0, 0, .null) := by decide +kernel
theorem o_140_21 : t_OP 140 21 = some (.iload_n 3, 0, 0, 0, 0, .null) := by decide +kernel
theorem o_140_22 : t_OP 140 22 = some (.aload_n 0, 0, 0, 0, 0, .null) := by decide +kernel
theorem o_140_23 : t_OP 140 23 = some (.getfield 34, 7, 22, 0, 0, .null) := by decide +kernel
theorem o_140_26 : t_OP 140 26 = some (.iload 5, 0, 0, 0, 0, .null) := by decide +kernel
theorem o_140_28 : t_OP 140 28 = some (.iaload, 0, 0, 0, 0, .null) := by decide +kernel
theorem o_140_29 : t_OP 140 29 = some (.iconst (2), 0, 0, 0, 2, .null) := by decide +kernel
theorem o_140_30 : t_OP 140 30 = some (.if_icmp .le (7), 37, 0, 0, 0, .null) := by decide +kernel
theorem o_140_33 : t_OP 140 33 = some (.iconst (1), 0, 0, 0, 1, .null) := by decide +kernel
theorem o_140_34 : t_OP 140 34 = some (.goto (4), 38, 0, 0, 0, .null) := by decide +kernel
theorem o_140_37 : t_OP 140 37 = some (.iconst (0), 0, 0, 0, 0, .null) := by decide +kernel
theorem o_140_38 : t_OP 140 38 = some (.iadd, 0, 0, 0, 0, .null) := by decide +kernel
theorem o_140_39 : t_OP 140 39 = some (.istore_n 3, 0, 0, 0, 0, .null) := by decide +kernel
theorem o_140_40 : t_OP 140 40 = some (.iinc 5 (1), 0, 0, 0, 1, .null) := by decide +kernel
theorem o_140_43 : t_OP 140 43 = some (.goto (-31), 12, 0, 0, 0, .null) := by decide +kernel
theorem o_140_46 : t_OP 140 46 = some (.iconst (0), 0, 0, 0, 0, .null) := by decide +kernel
theorem o_140_47 : t_OP 140 47 = some (.istore 5, 0, 0, 0, 0, .null) := by decide +kernel
theorem o_140_49 : t_OP 140 49 = some (.iload 5, 0, 0, 0, 0, .null) := by decide +kernel
theorem o_140_51 : t_OP 140 51 = some (.aload_n 0, 0, 0, 0, 0, .null) := by decide +kernel
theorem o_140_52 : t_OP 140 52 = some (.getfield 186, 7, 21, 0, 0, .null) := by decide +kernel
theorem o_140_55 : t_OP 140 55 = some (.if_icmp .ge (87), 142, 0, 0, 0, .null) := by decide +kernel
theorem o_140_58 : t_OP 140 58 = some (.aload_n 0, 0, 0, 0, 0, .null) := by decide +kernel
theorem o_140_59 : t_OP 140 59 = some (.getfield 43, 7, 31, 0, 0, .null) := by decide +kernel
theorem o_140_62 : t_OP 140 62 = some (.iload 5, 0, 0, 0, 0, .null) := by decide +kernel
theorem o_140_64 : t_OP 140 64 = some (.iload_n 1, 0, 0, 0, 0, .null) := by decide +kernel
theorem o_140_65 : t_OP 140 65 = some (.iastore, 0, 0, 0, 0, .null) := by decide +kernel
theorem o_140_66 : t_OP 140 66 = some (.aload_n 0, 0, 0, 0, 0, .null) := by decide +kernel
theorem o_140_67 : t_OP 140 67 = some (.getfield 46, 7, 32, 0, 0, .null) := by decide +kernel
theorem o_140_70 : t_OP 140 70 = some (.iload 5, 0, 0, 0, 0, .null) := by decide +kernel
theorem o_140_72 : t_OP 140 72 = some (.iload_n 2, 0, 0, 0, 0, .null) := by decide +kernel
theorem o_140_73 : t_OP 140 73 = some (.iastore, 0, 0, 0, 0, .null) := by decide +kernel
theorem o_140_74 : t_OP 140 74 = some (.iload_n 1, 0, 0, 0, 0, .null) := by decide +kernel
theorem o_140_75 : t_OP 140 75 = some (.aload_n 0, 0, 0, 0, 0, .null) := by decide +kernel
theorem o_140_76 : t_OP 140 76 = some (.getfield 34, 7, 22, 0, 0, .null) := by decide +kernel
theorem o_140_79 : t_OP 140 79 = some (.iload 5, 0, 0, 0, 0, .null) := by decide +kernel
theorem o_140_81 : t_OP 140 81 = some (.iaload, 0, 0, 0, 0, .null) := by decide +kernel
theorem o_140_82 : t_OP 140 82 = some (.iconst (3), 0, 0, 0, 3, .null) := by decide +kernel
theorem o_140_83 : t_OP 140 83 = some (.if_icmp .ge (7), 90, 0, 0, 0, .null) := by decide +kernel
theorem o_140_86 : t_OP 140 86 = some (.iconst (1), 0, 0, 0, 1, .null) := by decide +kernel
theorem o_140_87 : t_OP 140 87 = some (.goto (4), 91, 0, 0, 0, .null) := by decide +kernel
theorem o_140_90 : t_OP 140 90 = some (.iconst (0), 0, 0, 0, 0, .null) := by decide +kernel
theorem o_140_91 : t_OP 140 91 = some (.iadd, 0, 0, 0, 0, .null) := by decide +kernel
theorem o_140_92 : t_OP 140 92 = some (.istore_n 1, 0, 0, 0, 0, .null) := by decide +kernel
theorem o_140_93 : t_OP 140 93 = some (.aload_n 0, 0, 0, 0, 0, .null) := by decide +kernel
theorem o_140_94 : t_OP 140 94 = some (.getfield 34, 7, 22, 0, 0, .null) := by decide +kernel
theorem o_140_97 : t_OP 140 97 = some (.iload 5, 0, 0, 0, 0, .null) := by decide +kernel
theorem o_140_99 : t_OP 140 99 = some (.iaload, 0, 0, 0, 0, .null) := by decide +kernel
theorem o_140_100 : t_OP 140 100 = some (.iconst (3), 0, 0, 0, 3, .null) := by decide +kernel
theorem o_140_101 : t_OP 140 101 = some (.if_icmp .ge (7), 108, 0, 0, 0, .null) := by decide +kernel
theorem o_140_104 : t_OP 140 104 = some (.iload_n 2, 0, 0, 0, 0, .null) := by decide +kernel
theorem o_140_105 : t_OP 140 105 = some (.goto (8), 113, 0, 0, 0, .null) := by decide +kernel
theorem o_140_108 : t_OP 140 108 = some (.iload_n 2, 0, 0, 0, 0, .null) := by decide +kernel
theorem o_140_109 : t_OP 140 109 = some (.iconst (1), 0, 0, 0, 1, .null) := by decide +kernel
theorem o_140_110 : t_OP 140 110 = some (.iadd, 0, 0, 0, 0, .null) := by decide +kernel
theorem o_140_111 : t_OP 140 111 = some (.iload_n 3, 0, 0, 0, 0, .null) := by decide +kernel
theorem o_140_112 : t_OP 140 112 = some (.irem, 0, 0, 0, 0, .null) := by decide +kernel
theorem o_140_113 : t_OP 140 113 = some (.istore_n 2, 0, 0, 0, 0, .null) := by decide +kernel
theorem o_140_114 : t_OP 140 114 = some (.aload_n 0, 0, 0, 0, 0, .null) := by decide +kernel
theorem o_140_115 : t_OP 140 115 = some (.getfield 34, 7, 22, 0, 0, .null) := by decide +kernel
theorem o_140_118 : t_OP 140 118 = some (.iload 5, 0, 0, 0, 0, .null) := by decide +kernel
theorem o_140_120 : t_OP 140 120 = some (.iaload, 0, 0, 0, 0, .null) := by decide +kernel
theorem o_140_121 : t_OP 140 121 = some (.iconst (2), 0, 0, 0, 2, .null) := by decide +kernel
theorem o_140_122 : t_OP 140 122 = some (.if_icmp .le (14), 136, 0, 0, 0, .null) := by decide +kernel
theorem o_140_125 : t_OP 140 125 = some (.iload 5, 0, 0, 0, 0, .null) := by decide +kernel
theorem o_140_127 : t_OP 140 127 = some (.iconst (1), 0, 0, 0, 1, .null) := by decide +kernel
theorem o_140_128 : t_OP 140 128 = some (.iadd, 0, 0, 0, 0, .null) := by decide +kernel
theorem o_140_129 : t_OP 140 129 = some (.aload_n 0, 0, 0, 0, 0, .null) := by decide +kernel
theorem o_140_130 : t_OP 140 130 = some (.getfield 186, 7, 21, 0, 0, .null) := by decide +kernel
theorem o_140_133 : t_OP 140 133 = some (.irem, 0, 0, 0, 0, .null) := by decide +kernel
theorem o_140_134 : t_OP 140 134 = some (.istore 4, 0, 0, 0, 0, .null) := by decide +kernel
theorem o_140_136 : t_OP 140 136 = some (.iinc 5 (1), 0, 0, 0, 1, .null) := by decide +kernel
theorem o_140_139 : t_OP 140 139 = some (.goto (-90), 49, 0, 0, 0, .null) := by decide +kernel
theorem o_140_142 : t_OP 140 142 = some (.iconst (0), 0, 0, 0, 0, .null) := by decide +kernel
theorem o_140_143 : t_OP 140 143 = some (.istore 5, 0, 0, 0, 0, .null) := by decide +kernel
theorem o_140_145 : t_OP 140 145 = some (.iconst (0), 0, 0, 0, 0, .null) := by decide +kernel
theorem o_140_146 : t_OP 140 146 = some (.istore 6, 0, 0, 0, 0, .null) := by decide +kernel
theorem o_140_148 : t_OP 140 148 = some (.iload 6, 0, 0, 0, 0, .null) := by decide +kernel
theorem o_140_150 : t_OP 140 150 = some (.aload_n 0, 0, 0, 0, 0, .null) := by decide +kernel
theorem o_140_151 : t_OP 140 151 = some (.getfield 186, 7, 21, 0, 0, .null) := by decide +kernel
theorem o_140_154 : t_OP 140 154 = some (.if_icmp .ge (76), 230, 0, 0, 0, .null) := by decide +kernel
theorem o_140_157 : t_OP 140 157 = some (.iload 4, 0, 0, 0, 0, .null) := by decide +kernel
theorem o_140_159 : t_OP 140 159 = some (.iload 6, 0, 0, 0, 0, .null) := by decide +kernel
theorem o_140_161 : t_OP 140 161 = some (.iadd, 0, 0, 0, 0, .null) := by decide +kernel
theorem o_140_162 : t_OP 140 162 = some (.aload_n 0, 0, 0, 0, 0, .null) := by decide +kernel
theorem o_140_163 : t_OP 140 163 = some (.getfield 186, 7, 21, 0, 0, .null) := by decide +kernel
theorem o_140_166 : t_OP 140 166 = some (.irem, 0, 0, 0, 0, .null) := by decide +kernel
theorem o_140_167 : t_OP 140 167 = some (.istore 7, 0, 0, 0, 0, .null) := by decide +kernel
theorem o_140_169 : t_OP 140 169 = some (.aload_n 0, 0, 0, 0, 0, .null) := by decide +kernel
theorem o_140_170 : t_OP 140 170 = some (.getfield 34, 7, 22, 0, 0, .null) := by decide +kernel
theorem o_140_173 : t_OP 140 173 = some (.iload 7, 0, 0, 0, 0, .null) := by decide +kernel
theorem o_140_175 : t_OP 140 175 = some (.aload_n 0, 0, 0, 0, 0, .null) := by decide +kernel
theorem o_140_176 : t_OP 140 176 = some (.getfield 186, 7, 21, 0, 0, .null) := by decide +kernel
theorem o_140_179 : t_OP 140 179 = some (.iadd, 0, 0, 0, 0, .null) := by decide +kernel
theorem o_140_180 : t_OP 140 180 = some (.iconst (1), 0, 0, 0, 1, .null) := by decide +kernel
theorem o_140_181 : t_OP 140 181 = some (.isub, 0, 0, 0, 0, .null) := by decide +kernel
theorem o_140_182 : t_OP 140 182 = some (.aload_n 0, 0, 0, 0, 0, .null) := by decide +kernel
theorem o_140_183 : t_OP 140 183 = some (.getfield 186, 7, 21, 0, 0, .null) := by decide +kernel
theorem o_140_186 : t_OP 140 186 = some (.irem, 0, 0, 0, 0, .null) := by decide +kernel
theorem o_140_187 : t_OP 140 187 = some (.iaload, 0, 0, 0, 0, .null) := by decide +kernel
theorem o_140_188 : t_OP 140 188 = some (.istore 8, 0, 0, 0, 0, .null) := by decide +kernel
theorem o_140_190 : t_OP 140 190 = some (.iload 8, 0, 0, 0, 0, .null) := by decide +kernel
theorem o_140_192 : t_OP 140 192 = some (.iconst (2), 0, 0, 0, 2, .null) := by decide +kernel
theorem o_140_193 : t_OP 140 193 = some (.if_icmp .le (6), 199, 0, 0, 0, .null) := by decide +kernel
theorem o_140_196 : t_OP 140 196 = some (.iconst (0), 0, 0, 0, 0, .null) := by decide +kernel
theorem o_140_197 : t_OP 140 197 = some (.istore 5, 0, 0, 0, 0, .null) := by decide +kernel
theorem o_140_199 : t_OP 140 199 = some (.aload_n 0, 0, 0, 0, 0, .null) := by decide +kernel
theorem o_140_200 : t_OP 140 200 = some (.getfield 34, 7, 22, 0, 0, .null) := by decide +kernel
theorem o_140_203 : t_OP 140 203 = some (.iload 7, 0, 0, 0, 0, .null) := by decide +kernel
theorem o_140_205 : t_OP 140 205 = some (.iaload, 0, 0, 0, 0, .null) := by decide +kernel
theorem o_140_206 : t_OP 140 206 = some (.invokestatic 195, 139, 2, 1, 0, .null) := by decide +kernel
theorem o_140_209 : t_OP 140 209 = some (.ifCond .ne (6), 215, 0, 0, 0, .null) := by decide +kernel
theorem o_140_212 : t_OP 140 212 = some (.iinc 5 (1), 0, 0, 0, 1, .null) := by decide +kernel
theorem o_140_215 : t_OP 140 215 = some (.aload_n 0, 0, 0, 0, 0, .null) := by decide +kernel
theorem o_140_216 : t_OP 140 216 = some (.getfield 49, 7, 33, 0, 0, .null) := by decide +kernel
theorem o_140_219 : t_OP 140 219 = some (.iload 7, 0, 0, 0, 0, .null) := by decide +kernel
theorem o_140_221 : t_OP 140 221 = some (.iload 5, 0, 0, 0, 0, .null) := by decide +kernel
theorem o_140_223 : t_OP 140 223 = some (.iastore, 0, 0, 0, 0, .null) := by decide +kernel
theorem o_140_224 : t_OP 140 224 = some (.iinc 6 (1), 0, 0, 0, 1, .null) := by decide +kernel
theorem o_140_227 : t_OP 140 227 = some (.goto (-79), 148, 0, 0, 0, .null) := by decide +kernel
theorem o_140_230 : t_OP 140 230 = some (.return_, 0, 0, 0, 0, .null) := by decide +kernel
theorem o_141_0 : t_OP 141 0 = some (.iconst (0), 0, 0, 0, 0, .null) := by decide +kernel
theorem o_141_1 : t_OP 141 1 = some (.istore_n 1, 0, 0, 0, 0, .null) := by decide +kernel
theorem o_141_2 : t_OP 141 2 = some (.iload_n 1, 0, 0, 0, 0, .null) := by decide +kernel
theorem o_141_3 : t_OP 141 3 = some (.iconst (4), 0, 0, 0, 4, .null) := by decide +kernel
theorem o_141_4 : t_OP 141 4 = some (.if_icmp .ge (23), 27, 0, 0, 0, .null) := by decide +kernel
theorem o_141_7 : t_OP 141 7 = some (.aload_n 0, 0, 0, 0, 0, .null) := by decide +kernel
theorem o_141_8 : t_OP 141 8 = some (.getfield 52, 7, 34, 0, 0, .null) := by decide +kernel
theorem o_141_11 : t_OP 141 11 = some (.iload_n 1, 0, 0, 0, 0, .null) := by decide +kernel
theorem o_141_12 : t_OP 141 12 = some (.iconst (0), 0, 0, 0, 0, .null) := by decide +kernel
theorem o_141_13 : t_OP 141 13 = some (.iastore, 0, 0, 0, 0, .null) := by decide +kernel
theorem o_141_14 : t_OP 141 14 = some (.aload_n 0, 0, 0, 0, 0, .null) := by decide +kernel
theorem o_141_15 : t_OP 141 15 = some (.getfield 55, 7, 35, 0, 0, .null) := by decide +kernel
theorem o_141_18 : t_OP 141 18 = some (.iload_n 1, 0, 0, 0, 0, .null) := by decide +kernel
theorem o_141_19 : t_OP 141 19 = some (.iconst (0), 0, 0, 0, 0, .null) := by decide +kernel
theorem o_141_20 : t_OP 141 20 = some (.iastore, 0, 0, 0, 0, .null) := by decide +kernel
theorem o_141_21 : t_OP 141 21 = some (.iinc 1 (1), 0, 0, 0, 1, .null) := by decide +kernel
theorem o_141_24 : t_OP 141 24 = some (.goto (-22), 2, 0, 0, 0, .null) := by decide +kernel
theorem o_141_27 : t_OP 141 27 = some (.iconst (0), 0, 0, 0, 0, .null) := by decide +kernel
theorem o_141_28 : t_OP 141 28 = some (.istore_n 1, 0, 0, 0, 0, .null) := by decide +kernel
theorem o_141_29 : t_OP 141 29 = some (.iload_n 1, 0, 0, 0, 0, .null) := by decide +kernel
theorem o_141_30 : t_OP 141 30 = some (.aload_n 0, 0, 0, 0, 0, .null) := by decide +kernel
theorem o_141_31 : t_OP 141 31 = some (.getfield 186, 7, 21, 0, 0, .null) := by decide +kernel
theorem o_141_34 : t_OP 141 34 = some (.if_icmp .ge (196), 230, 0, 0, 0, .null) := by decide +kernel
theorem o_141_37 : t_OP 141 37 = some (.aload_n 0, 0, 0, 0, 0, .null) := by decide +kernel
theorem o_141_38 : t_OP 141 38 = some (.getfield 34, 7, 22, 0, 0, .null) := by decide +kernel
theorem o_141_41 : t_OP 141 41 = some (.iload_n 1, 0, 0, 0, 0, .null) := by decide +kernel
theorem o_141_42 : t_OP 141 42 = some (.iaload, 0, 0, 0, 0, .null) := by decide +kernel
theorem o_141_43 : t_OP 141 43 = some (.invokestatic 195, 139, 2, 1, 0, .null) := by decide +kernel
theorem o_141_46 : t_OP 141 46 = some (.istore_n 2, 0, 0, 0, 0, .null) := by decide +kernel
theorem o_141_47 : t_OP 141 47 = some (.aload_n 0, 0, 0, 0, 0, .null) := by decide +kernel
theorem o_141_48 : t_OP 141 48 = some (.getfield 43, 7, 31, 0, 0, .null) := by decide +kernel
theorem o_141_51 : t_OP 141 51 = some (.iload_n 1, 0, 0, 0, 0, .null) := by decide +kernel
theorem o_141_52 : t_OP 141 52 = some (.iaload, 0, 0, 0, 0, .null) := by decide +kernel
theorem o_141_53 : t_OP 141 53 = some (.istore_n 3, 0, 0, 0, 0, .null) := by decide +kernel
theorem o_141_54 : t_OP 141 54 = some (.iload_n 2, 0, 0, 0, 0, .null) := by decide +kernel
theorem o_141_55 : t_OP 141 55 = some (.ifCond .eq (56), 111, 0, 0, 0, .null) := by decide +kernel
theorem o_141_58 : t_OP 141 58 = some (.aload_n 0, 0, 0, 0, 0, .null) := by decide +kernel
theorem o_141_59 : t_OP 141 59 = some (.getfield 25, 7, 14, 0, 0, .null) := by decide +kernel
theorem o_141_62 : t_OP 141 62 = some (.aload_n 0, 0, 0, 0, 0, .null) := by decide +kernel
theorem o_141_63 : t_OP 141 63 = some (.getfield 148, 7, 8, 0, 0, .null) := by decide +kernel
theorem o_141_66 : t_OP 141 66 = some (.iload_n 3, 0, 0, 0, 0, .null) := by decide +kernel
theorem o_141_67 : t_OP 141 67 = some (.iastore, 0, 0, 0, 0, .null) := by decide +kernel
theorem o_141_68 : t_OP 141 68 = some (.aload_n 0, 0, 0, 0, 0, .null) := by decide +kernel
theorem o_141_69 : t_OP 141 69 = some (.getfield 28, 7, 15, 0, 0, .null) := by decide +kernel
theorem o_141_72 : t_OP 141 72 = some (.aload_n 0, 0, 0, 0, 0, .null) := by decide +kernel
theorem o_141_73 : t_OP 141 73 = some (.getfield 148, 7, 8, 0, 0, .null) := by decide +kernel
theorem o_141_76 : t_OP 141 76 = some (.aload_n 0, 0, 0, 0, 0, .null) := by decide +kernel
theorem o_141_77 : t_OP 141 77 = some (.getfield 52, 7, 34, 0, 0, .null) := by decide +kernel
theorem o_141_80 : t_OP 141 80 = some (.iload_n 3, 0, 0, 0, 0, .null) := by decide +kernel
theorem o_141_81 : t_OP 141 81 = some (.iaload, 0, 0, 0, 0, .null) := by decide +kernel
theorem o_141_82 : t_OP 141 82 = some (.iastore, 0, 0, 0, 0, .null) := by decide +kernel
theorem o_141_83 : t_OP 141 83 = some (.aload_n 0, 0, 0, 0, 0, .null) := by decide +kernel
theorem o_141_84 : t_OP 141 84 = some (.getfield 31, 7, 16, 0, 0, .null) := by decide +kernel
theorem o_141_87 : t_OP 141 87 = some (.aload_n 0, 0, 0, 0, 0, .null) := by decide +kernel
theorem o_141_88 : t_OP 141 88 = some (.getfield 148, 7, 8, 0, 0, .null) := by decide +kernel
theorem o_141_91 : t_OP 141 91 = some (.aload_n 0, 0, 0, 0, 0, .null) := by decide +kernel
theorem o_141_92 : t_OP 141 92 = some (.getfield 49, 7, 33, 0, 0, .null) := by decide +kernel
theorem o_141_95 : t_OP 141 95 = some (.iload_n 1, 0, 0, 0, 0, .null) := by decide +kernel
theorem o_141_96 : t_OP 141 96 = some (.iaload, 0, 0, 0, 0, .null) := by decide +kernel
theorem o_141_97 : t_OP 141 97 = some (.iastore, 0, 0, 0, 0, .null) := by decide +kernel
theorem o_141_98 : t_OP 141 98 = some (.aload_n 0, 0, 0, 0, 0, .null) := by decide +kernel
theorem o_141_99 : t_OP 141 99 = some (.dup, 0, 0, 0, 0, .null) := by decide +kernel
theorem o_141_100 : t_OP 141 100 = some (.getfield 148, 7, 8, 0, 0, .null) := by decide +kernel
theorem o_141_103 : t_OP 141 103 = some (.iconst (1), 0, 0, 0, 1, .null) := by decide +kernel
theorem o_141_104 : t_OP 141 104 = some (.iadd, 0, 0, 0, 0, .null) := by decide +kernel
theorem o_141_105 : t_OP 141 105 = some (.putfield 148, 7, 8, 0, 0, .null) := by decide +kernel
theorem o_141_108 : t_OP 141 108 = some (.goto (40), 148, 0, 0, 0, .null) := by decide +kernel
theorem o_141_111 : t_OP 141 111 = some (.aload_n 0, 0, 0, 0, 0, .null) := by decide +kernel
theorem o_141_112 : t_OP 141 112 = some (.getfield 49, 7, 33, 0, 0, .null) := by decide +kernel
theorem o_141_115 : t_OP 141 115 = some (.iload_n 1, 0, 0, 0, 0, .null) := by decide +kernel
theorem o_141_116 : t_OP 141 116 = some (.iaload, 0, 0, 0, 0, .null) := by decide +kernel
theorem o_141_117 : t_OP 141 117 = some (.aload_n 0, 0, 0, 0, 0, .null) := by decide +kernel
theorem o_141_118 : t_OP 141 118 = some (.getfield 55, 7, 35, 0, 0, .null) := by decide +kernel
theorem o_141_121 : t_OP 141 121 = some (.aload_n 0, 0, 0, 0, 0, .null) := by decide +kernel
theorem o_141_122 : t_OP 141 122 = some (.getfield 46, 7, 32, 0, 0, .null) := by decide +kernel
theorem o_141_125 : t_OP 141 125 = some (.iload_n 1, 0, 0, 0, 0, .null) := by decide +kernel
theorem o_141_126 : t_OP 141 126 = some (.iaload, 0, 0, 0, 0, .null) := by decide +kernel
theorem o_141_127 : t_OP 141 127 = some (.iaload, 0, 0, 0, 0, .null) := by decide +kernel
theorem o_141_128 : t_OP 141 128 = some (.if_icmp .le (20), 148, 0, 0, 0, .null) := by decide +kernel
theorem o_141_131 : t_OP 141 131 = some (.aload_n 0, 0, 0, 0, 0, .null) := by decide +kernel
theorem o_141_132 : t_OP 141 132 = some (.getfield 55, 7, 35, 0, 0, .null) := by decide +kernel
theorem o_141_135 : t_OP 141 135 = some (.aload_n 0, 0, 0, 0, 0, .null) := by decide +kernel
theorem o_141_136 : t_OP 141 136 = some (.getfield 46, 7, 32, 0, 0, .null) := by decide +kernel
theorem o_141_139 : t_OP 141 139 = some (.iload_n 1, 0, 0, 0, 0, .null) := by decide +kernel
theorem o_141_140 : t_OP 141 140 = some (.iaload, 0, 0, 0, 0, .null) := by decide +kernel
theorem o_141_141 : t_OP 141 141 = some (.aload_n 0, 0, 0, 0, 0, .null) := by decide +kernel
theorem o_141_142 : t_OP 141 142 = some (.getfield 49, 7, 33, 0, 0, .null) := by decide +kernel
theorem o_141_145 : t_OP 141 145 = some (.iload_n 1, 0, 0, 0, 0, .null) := by decide +kernel
theorem o_141_146 : t_OP 141 146 = some (.iaload, 0, 0, 0, 0, .null) := by decide +kernel
theorem o_141_147 : t_OP 141 147 = some (.iastore, 0, 0, 0, 0, .null) := by decide +kernel
theorem o_141_148 : t_OP 141 148 = some (.aload_n 0, 0, 0, 0, 0, .null) := by decide +kernel
theorem o_141_149 : t_OP 141 149 = some (.iload_n 3, 0, 0, 0, 0, .null) := by decide +kernel
theorem o_141_150 : t_OP 141 150 = some (.iload_n 2, 0, 0, 0, 0, .null) := by decide +kernel
theorem o_141_151 : t_OP 141 151 = some (.ifCond .eq (7), 158, 0, 0, 0, .null) := by decide +kernel
theorem o_141_154 : t_OP 141 154 = some (.iconst (1), 0, 0, 0, 1, .null) := by decide +kernel
theorem o_141_155 : t_OP 141 155 = some (.goto (4), 159, 0, 0, 0, .null) := by decide +kernel
theorem o_141_158 : t_OP 141 158 = some (.iconst (0), 0, 0, 0, 0, .null) := by decide +kernel
theorem o_141_159 : t_OP 141 159 = some (.aload_n 0, 0, 0, 0, 0, .null) := by decide +kernel
theorem o_141_160 : t_OP 141 160 = some (.getfield 46, 7, 32, 0, 0, .null) := by decide +kernel
theorem o_141_163 : t_OP 141 163 = some (.iload_n 1, 0, 0, 0, 0, .null) := by decide +kernel
theorem o_141_164 : t_OP 141 164 = some (.iaload, 0, 0, 0, 0, .null) := by decide +kernel
theorem o_141_165 : t_OP 141 165 = some (.iload_n 2, 0, 0, 0, 0, .null) := by decide +kernel
theorem o_141_166 : t_OP 141 166 = some (.ifCond .eq (12), 178, 0, 0, 0, .null) := by decide +kernel
theorem o_141_169 : t_OP 141 169 = some (.aload_n 0, 0, 0, 0, 0, .null) := by decide +kernel
theorem o_141_170 : t_OP 141 170 = some (.getfield 52, 7, 34, 0, 0, .null) := by decide +kernel
theorem o_141_173 : t_OP 141 173 = some (.iload_n 3, 0, 0, 0, 0, .null) := by decide +kernel
theorem o_141_174 : t_OP 141 174 = some (.iaload, 0, 0, 0, 0, .null) := by decide +kernel
theorem o_141_175 : t_OP 141 175 = some (.goto (9), 184, 0, 0, 0, .null) := by decide +kernel
theorem o_141_178 : t_OP 141 178 = some (.aload_n 0, 0, 0, 0, 0, .null) := by decide +kernel
theorem o_141_179 : t_OP 141 179 = some (.getfield 49, 7, 33, 0, 0, .null) := by decide +kernel
theorem o_141_182 : t_OP 141 182 = some (.iload_n 1, 0, 0, 0, 0, .null) := by decide +kernel
theorem o_141_183 : t_OP 141 183 = some (.iaload, 0, 0, 0, 0, .null) := by decide +kernel
theorem o_141_184 : t_OP 141 184 = some (.invokevirtual 138, 129, 0, 4, 0, .null) := by decide +kernel
theorem o_141_187 : t_OP 141 187 = some (.aload_n 0, 0, 0, 0, 0, .null) := by decide +kernel
theorem o_141_188 : t_OP 141 188 = some (.getfield 52, 7, 34, 0, 0, .null) := by decide +kernel
theorem o_141_191 : t_OP 141 191 = some (.iload_n 3, 0, 0, 0, 0, .null) := by decide +kernel
theorem o_141_192 : t_OP 141 192 = some (.dup2, 0, 0, 0, 0, .null) := by decide +kernel
theorem o_141_193 : t_OP 141 193 = some (.iaload, 0, 0, 0, 0, .null) := by decide +kernel
theorem o_141_194 : t_OP 141 194 = some (.iload_n 2, 0, 0, 0, 0, .null) := by decide +kernel
theorem o_141_195 : t_OP 141 195 = some (.ifCond .eq (7), 202, 0, 0, 0, .null) := by decide +kernel
theorem o_141_198 : t_OP 141 198 = some (.iconst (1), 0, 0, 0, 1, .null) := by decide +kernel
theorem o_141_199 : t_OP 141 199 = some (.goto (4), 203, 0, 0, 0, .null) := by decide +kernel
theorem o_141_202 : t_OP 141 202 = some (.iconst (0), 0, 0, 0, 0, .null) := by decide +kernel
theorem o_141_203 : t_OP 141 203 = some (.iadd, 0, 0, 0, 0, .null) := by decide +kernel
theorem o_141_204 : t_OP 141 204 = some (.iastore, 0, 0, 0, 0, .null) := by decide +kernel
theorem o_141_205 : t_OP 141 205 = some (.aload_n 0, 0, 0, 0, 0, .null) := by decide +kernel
theorem o_141_206 : t_OP 141 206 = some (.getfield 34, 7, 22, 0, 0, .null) := by decide +kernel
theorem o_141_209 : t_OP 141 209 = some (.iload_n 1, 0, 0, 0, 0, .null) := by decide +kernel
theorem o_141_210 : t_OP 141 210 = some (.iaload, 0, 0, 0, 0, .null) := by decide +kernel
theorem o_141_211 : t_OP 141 211 = some (.bipush (6), 0, 0, 0, 6, .null) := by decide +kernel
theorem o_141_213 : t_OP 141 213 = some (.if_icmp .le (11), 224, 0, 0, 0, .null) := by decide +kernel
theorem o_141_216 : t_OP 141 216 = some (.aload_n 0, 0, 0, 0, 0, .null) := by decide +kernel
theorem o_141_217 : t_OP 141 217 = some (.iload_n 3, 0, 0, 0, 0, .null) := by decide +kernel
theorem o_141_218 : t_OP 141 218 = some (.iconst (2), 0, 0, 0, 2, .null) := by decide +kernel
theorem o_141_219 : t_OP 141 219 = some (.iconst (-1), 0, 0, 0, (-1), .null) := by decide +kernel
theorem o_141_220 : t_OP 141 220 = some (.iconst (-1), 0, 0, 0, (-1), .null) := by decide +kernel
theorem o_141_221 : t_OP 141 221 = some (.invokevirtual 138, 129, 0, 4, 0, .null) := by decide +kernel
theorem o_141_224 : t_OP 141 224 = some (.iinc 1 (1), 0, 0, 0, 1, .null) := by decide +kernel
theorem o_141_227 : t_OP 141 227 = some (.goto (-198), 29, 0, 0, 0, .null) := by decide +kernel
theorem o_141_230 : t_OP 141 230 = some (.iconst (0), 0, 0, 0, 0, .null) := by decide +kernel
theorem o_141_231 : t_OP 141 231 = some (.istore_n 1, 0, 0, 0, 0, .null) := by decide +kernel
theorem o_141_232 : t_OP 141 232 = some (.iload_n 1, 0, 0, 0, 0, .null) := by decide +kernel
theorem o_141_233 : t_OP 141 233 = some (.iconst (4), 0, 0, 0, 4, .null) := by decide +kernel
theorem o_141_234 : t_OP 141 234 = some (.if_icmp .ge (64), 298, 0, 0, 0, .null) := by decide +kernel
theorem o_141_237 : t_OP 141 237 = some (.aload_n 0, 0, 0, 0, 0, .null) := by decide +kernel
theorem o_141_238 : t_OP 141 238 = some (.getfield 55, 7, 35, 0, 0, .null) := by decide +kernel
theorem o_141_241 : t_OP 141 241 = some (.iload_n 1, 0, 0, 0, 0, .null) := by decide +kernel
theorem o_141_242 : t_OP 141 242 = some (.iaload, 0, 0, 0, 0, .null) := by decide +kernel
theorem o_141_243 : t_OP 141 243 = some (.iconst (1), 0, 0, 0, 1, .null) := by decide +kernel
theorem o_141_244 : t_OP 141 244 = some (.if_icmp .le (48), 292, 0, 0, 0, .null) := by decide +kernel
theorem o_141_247 : t_OP 141 247 = some (.aload_n 0, 0, 0, 0, 0, .null) := by decide +kernel
theorem o_141_248 : t_OP 141 248 = some (.getfield 25, 7, 14, 0, 0, .null) := by decide +kernel
theorem o_141_251 : t_OP 141 251 = some (.aload_n 0, 0, 0, 0, 0, .null) := by decide +kernel
theorem o_141_252 : t_OP 141 252 = some (.getfield 148, 7, 8, 0, 0, .null) := by decide +kernel
theorem o_141_255 : t_OP 141 255 = some (.iconst (-1), 0, 0, 0, (-1), .null) := by decide +kernel
theorem o_141_256 : t_OP 141 256 = some (.iastore, 0, 0, 0, 0, .null) := by decide +kernel
theorem o_141_257 : t_OP 141 257 = some (.aload_n 0, 0, 0, 0, 0, .null) := by decide +kernel
theorem o_141_258 : t_OP 141 258 = some (.getfield 28, 7, 15, 0, 0, .null) := by decide +kernel
theorem o_141_261 : t_OP 141 261 = some (.aload_n 0, 0, 0, 0, 0, .null) := by decide +kernel
theorem o_141_262 : t_OP 141 262 = some (.getfield 148, 7, 8, 0, 0, .null) := by decide +kernel
theorem o_141_265 : t_OP 141 265 = some (.iload_n 1, 0, 0, 0, 0, .null) := by decide +kernel
theorem o_141_266 : t_OP 141 266 = some (.iastore, 0, 0, 0, 0, .null) := by decide +kernel
theorem o_141_267 : t_OP 141 267 = some (.aload_n 0, 0, 0, 0, 0, .null) := by decide +kernel
theorem o_141_268 : t_OP 141 268 = some (.getfield 31, 7, 16, 0, 0, .null) := by decide +kernel
theorem o_141_271 : t_OP 141 271 = some (.aload_n 0, 0, 0, 0, 0, .null) := by decide +kernel
theorem o_141_272 : t_OP 141 272 = some (.getfield 148, 7, 8, 0, 0, .null) := by decide +kernel
theorem o_141_275 : t_OP 141 275 = some (.aload_n 0, 0, 0, 0, 0, .null) := by decide +kernel
theorem o_141_276 : t_OP 141 276 = some (.getfield 55, 7, 35, 0, 0, .null) := by decide +kernel
theorem o_141_279 : t_OP 141 279 = some (.iload_n 1, 0, 0, 0, 0, .null) := by decide +kernel
theorem o_141_280 : t_OP 141 280 = some (.iaload, 0, 0, 0, 0, .null) := by decide +kernel
theorem o_141_281 : t_OP 141 281 = some (.iastore, 0, 0, 0, 0, .null) := by decide +kernel
theorem o_141_282 : t_OP 141 282 = some (.aload_n 0, 0, 0, 0, 0, .null) := by decide +kernel
theorem o_141_283 : t_OP 141 283 = some (.dup, 0, 0, 0, 0, .null) := by decide +kernel
theorem o_141_284 : t_OP 141 284 = some (.getfield 148, 7, 8, 0, 0, .null) := by decide +kernel
theorem o_141_287 : t_OP 141 287 = some (.iconst (1), 0, 0, 0, 1, .null) := by decide +kernel
theorem o_141_288 : t_OP 141 288 = some (.iadd, 0, 0, 0, 0, .null) := by decide +kernel
theorem o_141_289 : t_OP 141 289 = some (.putfield 148, 7, 8, 0, 0, .null) := by decide +kernel
theorem o_141_292 : t_OP 141 292 = some (.iinc 1 (1), 0, 0, 0, 1, .null) := by decide +kernel
theorem o_141_295 : t_OP 141 295 = some (.goto (-63), 232, 0, 0, 0, .null) := by decide +kernel
theorem o_141_298 : t_OP 141 298 = some (.aload_n 0, 0, 0, 0, 0, .null) := by decide +kernel
theorem o_141_299 : t_OP 141 299 = some (.aload_n 0, 0, 0, 0, 0, .null) := by decide +kernel
theorem o_141_300 : t_OP 141 300 = some (.getfield 148, 7, 8, 0, 0, .null) := by decide +kernel
theorem o_141_303 : t_OP 141 303 = some (.ifCond .le (7), 310, 0, 0, 0, .null) := by decide +kernel
theorem o_141_306 : t_OP 141 306 = some (.iconst (1), 0, 0, 0, 1, .null) := by decide +kernel
theorem o_141_307 : t_OP 141 307 = some (.goto (4), 311, 0, 0, 0, .null) := by decide +kernel
theorem o_141_310 : t_OP 141 310 = some (.iconst (0), 0, 0, 0, 0, .null) := by decide +kernel
theorem o_141_311 : t_OP 141 311 = some (.putfield 161, 7, 9, 0, 0, .null) := by decide +kernel
theorem o_141_314 : t_OP 141 314 = some (.return_, 0, 0, 0, 0, .null) := by decide +kernel
theorem o_142_0 : t_OP 142 0 = some (.aload_n 0, 0, 0, 0, 0, .null) := by decide +kernel
theorem o_142_1 : t_OP 142 1 = some (.iconst (0), 0, 0, 0, 0, .null) := by decide +kernel
theorem o_142_2 : t_OP 142 2 = some (.putfield 58, 7, 0, 0, 0, .null) := by decide +kernel
theorem o_142_5 : t_OP 142 5 = some (.iload_n 1, 0, 0, 0, 0, .null) := by decide +kernel
theorem o_142_6 : t_OP 142 6 = some (.iconst (0), 0, 0, 0, 0, .null) := by decide +kernel
theorem o_142_7 : t_OP 142 7 = some (.aload_n 0, 0, 0, 0, 0, .null) := by decide +kernel
theorem o_142_8 : t_OP 142 8 = some (.getfield 118, 7, 7, 0, 0, .null) := by decide +kernel
theorem o_142_11 : t_OP 142 11 = some (.iconst (1), 0, 0, 0, 1, .null) := by decide +kernel
theorem o_142_12 : t_OP 142 12 = some (.isub, 0, 0, 0, 0, .null) := by decide +kernel
theorem o_142_13 : t_OP 142 13 = some (.invokestatic 69, 111, 2, 3, 0, .null) := by decide +kernel
theorem o_142_16 : t_OP 142 16 = some (.ifCond .eq (12), 28, 0, 0, 0, .null) := by decide +kernel
theorem o_142_19 : t_OP 142 19 = some (.iload_n 2, 0, 0, 0, 0, .null) := by decide +kernel
theorem o_142_20 : t_OP 142 20 = some (.iconst (0), 0, 0, 0, 0, .null) := by decide +kernel
theorem o_142_21 : t_OP 142 21 = some (.iconst (3), 0, 0, 0, 3, .null) := by decide +kernel
theorem o_142_22 : t_OP 142 22 = some (.invokestatic 69, 111, 2, 3, 0, .null) := by decide +kernel
theorem o_142_25 : t_OP 142 25 = some (.ifCond .ne (9), 34, 0, 0, 0, .null) := by decide +kernel
theorem o_142_28 : t_OP 142 28 = some (.aload_n 0, 0, 0, 0, 0, .null) := by decide +kernel
theorem o_142_29 : t_OP 142 29 = some (.iconst (1), 0, 0, 0, 1, .null) := by decide +kernel
theorem o_142_30 : t_OP 142 30 = some (.invokevirtual 65, 109, 0, 1, 0, .null) := by decide +kernel
theorem o_142_33 : t_OP 142 33 = some (.ireturn, 0, 0, 0, 0, .null) := by decide +kernel
theorem o_142_34 : t_OP 142 34 = some (.iload_n 2, 0, 0, 0, 0, .null) := by decide +kernel
theorem o_142_35 : t_OP 142 35 = some (.ifCond .ne (12), 47, 0, 0, 0, .null) := by decide +kernel
theorem o_142_38 : t_OP 142 38 = some (.aload_n 0, 0, 0, 0, 0, .null) := by decide +kernel
theorem o_142_39 : t_OP 142 39 = some (.getfield 13, 7, 10, 0, 0, .null) := by decide +kernel
theorem o_142_42 : t_OP 142 42 = some (.iload_n 1, 0, 0, 0, 0, .null) := by decide +kernel
theorem o_142_43 : t_OP 142 43 = some (.iaload, 0, 0, 0, 0, .null) := by decide +kernel
theorem o_142_44 : t_OP 142 44 = some (.goto (37), 81, 0, 0, 0, .null) := by decide +kernel
theorem o_142_47 : t_OP 142 47 = some (.iload_n 2, 0, 0, 0, 0, .null) := by decide +kernel
theorem o_142_48 : t_OP 142 48 = some (.iconst (1), 0, 0, 0, 1, .null) := by decide +kernel
theorem o_142_49 : t_OP 142 49 = some (.if_icmp .ne (12), 61, 0, 0, 0, .null) := by decide +kernel
theorem o_142_52 : t_OP 142 52 = some (.aload_n 0, 0, 0, 0, 0, .null) := by decide +kernel
theorem o_142_53 : t_OP 142 53 = some (.getfield 16, 7, 11, 0, 0, .null) := by decide +kernel
theorem o_142_56 : t_OP 142 56 = some (.iload_n 1, 0, 0, 0, 0, .null) := by decide +kernel
theorem o_142_57 : t_OP 142 57 = some (.iaload, 0, 0, 0, 0, .null) := by decide +kernel
theorem o_142_58 : t_OP 142 58 = some (.goto (23), 81, 0, 0, 0, .null) := by decide +kernel
theorem o_142_61 : t_OP 142 61 = some (.iload_n 2, 0, 0, 0, 0, .null) := by decide +kernel
theorem o_142_62 : t_OP 142 62 = some (.iconst (2), 0, 0, 0, 2, .null) := by decide +kernel
theorem o_142_63 : t_OP 142 63 = some (.if_icmp .ne (12), 75, 0, 0, 0, .null) := by decide +kernel
theorem o_142_66 : t_OP 142 66 = some (.aload_n 0, 0, 0, 0, 0, .null) := by decide +kernel
theorem o_142_67 : t_OP 142 67 = some (.getfield 19, 7, 12, 0, 0, .null) := by decide +kernel
theorem o_142_70 : t_OP 142 70 = some (.iload_n 1, 0, 0, 0, 0, .null) := by decide +kernel
theorem o_142_71 : t_OP 142 71 = some (.iaload, 0, 0, 0, 0, .null) := by decide +kernel
theorem o_142_72 : t_OP 142 72 = some (.goto (9), 81, 0, 0, 0, .null) := by decide +kernel
theorem o_142_75 : t_OP 142 75 = some (.aload_n 0, 0, 0, 0, 0, .null) := by decide +kernel
theorem o_142_76 : t_OP 142 76 = some (.getfield 22, 7, 13, 0, 0, .null) := by decide +kernel
theorem o_142_79 : t_OP 142 79 = some (.iload_n 1, 0, 0, 0, 0, .null) := by decide +kernel
theorem o_142_80 : t_OP 142 80 = some (.iaload, 0, 0, 0, 0, .null) := by decide +kernel
theorem o_142_81 : t_OP 142 81 = some (.ireturn, 0, 0, 0, 0, .null) := by decide +kernel
theorem o_143_0 : t_OP 143 0 = some (.aload_n 0, 0, 0, 0, 0, .null) := by decide +kernel
theorem o_143_1 : t_OP 143 1 = some (.iconst (0), 0, 0, 0, 0, .null) := by decide +kernel
theorem o_143_2 : t_OP 143 2 = some (.putfield 58, 7, 0, 0, 0, .null) := by decide +kernel
theorem o_143_5 : t_OP 143 5 = some (.iload_n 1, 0, 0, 0, 0, .null) := by decide +kernel
theorem o_143_6 : t_OP 143 6 = some (.iconst (0), 0, 0, 0, 0, .null) := by decide +kernel
theorem o_143_7 : t_OP 143 7 = some (.aload_n 0, 0, 0, 0, 0, .null) := by decide +kernel
theorem o_143_8 : t_OP 143 8 = some (.getfield 148, 7, 8, 0, 0, .null) := by decide +kernel
theorem o_143_11 : t_OP 143 11 = some (.iconst (1), 0, 0, 0, 1, .null) := by decide +kernel
theorem o_143_12 : t_OP 143 12 = some (.isub, 0, 0, 0, 0, .null) := by decide +kernel
theorem o_143_13 : t_OP 143 13 = some (.invokestatic 69, 111, 2, 3, 0, .null) := by decide +kernel
theorem o_143_16 : t_OP 143 16 = some (.ifCond .eq (12), 28, 0, 0, 0, .null) := by decide +kernel
theorem o_143_19 : t_OP 143 19 = some (.iload_n 2, 0, 0, 0, 0, .null) := by decide +kernel
theorem o_143_20 : t_OP 143 20 = some (.iconst (0), 0, 0, 0, 0, .null) := by decide +kernel
theorem o_143_21 : t_OP 143 21 = some (.iconst (2), 0, 0, 0, 2, .null) := by decide +kernel
theorem o_143_22 : t_OP 143 22 = some (.invokestatic 69, 111, 2, 3, 0, .null) := by decide +kernel
theorem o_143_25 : t_OP 143 25 = some (.ifCond .ne (9), 34, 0, 0, 0, .null) := by decide +kernel
theorem o_143_28 : t_OP 143 28 = some (.aload_n 0, 0, 0, 0, 0, .null) := by decide +kernel
theorem o_143_29 : t_OP 143 29 = some (.iconst (1), 0, 0, 0, 1, .null) := by decide +kernel
theorem o_143_30 : t_OP 143 30 = some (.invokevirtual 65, 109, 0, 1, 0, .null) := by decide +kernel
theorem o_143_33 : t_OP 143 33 = some (.ireturn, 0, 0, 0, 0, .null) := by decide +kernel
theorem o_143_34 : t_OP 143 34 = some (.iload_n 2, 0, 0, 0, 0, .null) := by decide +kernel
theorem o_143_35 : t_OP 143 35 = some (.ifCond .ne (12), 47, 0, 0, 0, .null) := by decide +kernel
theorem o_143_38 : t_OP 143 38 = some (.aload_n 0, 0, 0, 0, 0, .null) := by decide +kernel
theorem o_143_39 : t_OP 143 39 = some (.getfield 25, 7, 14, 0, 0, .null) := by decide +kernel
theorem o_143_42 : t_OP 143 42 = some (.iload_n 1, 0, 0, 0, 0, .null) := by decide +kernel
theorem o_143_43 : t_OP 143 43 = some (.iaload, 0, 0, 0, 0, .null) := by decide +kernel
theorem o_143_44 : t_OP 143 44 = some (.goto (23), 67, 0, 0, 0, .null) := by decide +kernel
theorem o_143_47 : t_OP 143 47 = some (.iload_n 2, 0, 0, 0, 0, .null) := by decide +kernel
theorem o_143_48 : t_OP 143 48 = some (.iconst (1), 0, 0, 0, 1, .null) := by decide +kernel
theorem o_143_49 : t_OP 143 49 = some (.if_icmp .ne (12), 61, 0, 0, 0, .null) := by decide +kernel
theorem o_143_52 : t_OP 143 52 = some (.aload_n 0, 0, 0, 0, 0, .null) := by decide +kernel
theorem o_143_53 : t_OP 143 53 = some (.getfield 28, 7, 15, 0, 0, .null) := by decide +kernel
theorem o_143_56 : t_OP 143 56 = some (.iload_n 1, 0, 0, 0, 0, .null) := by decide +kernel
theorem o_143_57 : t_OP 143 57 = some (.iaload, 0, 0, 0, 0, .null) := by decide +kernel
theorem o_143_58 : t_OP 143 58 = some (.goto (9), 67, 0, 0, 0, .null) := by decide +kernel
theorem o_143_61 : t_OP 143 61 = some (.aload_n 0, 0, 0, 0, 0, .null) := by decide +kernel
theorem o_143_62 : t_OP 143 62 = some (.getfield 31, 7, 16, 0, 0, .null) := by decide +kernel
theorem o_143_65 : t_OP 143 65 = some (.iload_n 1, 0, 0, 0, 0, .null) := by decide +kernel
theorem o_143_66 : t_OP 143 66 = some (.iaload, 0, 0, 0, 0, .null) := by decide +kernel
theorem o_143_67 : t_OP 143 67 = some (.ireturn, 0, 0, 0, 0, .null) := by decide +kernel
theorem o_144_0 : t_OP 144 0 = some (.aload_n 0, 0, 0, 0, 0, .null) := by decide +kernel
theorem o_144_1 : t_OP 144 1 = some (.iconst (0), 0, 0, 0, 0, .null) := by decide +kernel
theorem o_144_2 : t_OP 144 2 = some (.putfield 58, 7, 0, 0, 0, .null) := by decide +kernel
theorem o_144_5 : t_OP 144 5 = some (.aload_n 0, 0, 0, 0, 0, .null) := by decide +kernel
theorem o_144_6 : t_OP 144 6 = some (.getfield 183, 7, 5, 0, 0, .null) := by decide +kernel
theorem o_144_9 : t_OP 144 9 = some (.ifCond .eq (12), 21, 0, 0, 0, .null) := by decide +kernel
theorem o_144_12 : t_OP 144 12 = some (.aload_n 0, 0, 0, 0, 0, .null) := by decide +kernel
theorem o_144_13 : t_OP 144 13 = some (.invokevirtual 223, 145, 0, 0, 0, .null) := by decide +kernel
theorem o_144_16 : t_OP 144 16 = some (.bipush (10), 0, 0, 0, 10, .null) := by decide +kernel
theorem o_144_18 : t_OP 144 18 = some (.if_icmp .le (9), 27, 0, 0, 0, .null) := by decide +kernel
theorem o_144_21 : t_OP 144 21 = some (.aload_n 0, 0, 0, 0, 0, .null) := by decide +kernel
theorem o_144_22 : t_OP 144 22 = some (.iconst (1), 0, 0, 0, 1, .null) := by decide +kernel
theorem o_144_23 : t_OP 144 23 = some (.invokevirtual 65, 109, 0, 1, 0, .null) := by decide +kernel
theorem o_144_26 : t_OP 144 26 = some (.ireturn, 0, 0, 0, 0, .null) := by decide +kernel
theorem o_144_27 : t_OP 144 27 = some (.aload_n 0, 0, 0, 0, 0, .null) := by decide +kernel
theorem o_144_28 : t_OP 144 28 = some (.aload_n 0, 0, 0, 0, 0, .null) := by decide +kernel
theorem o_144_29 : t_OP 144 29 = some (.invokevirtual 223, 145, 0, 0, 0, .null) := by decide +kernel
theorem o_144_32 : t_OP 144 32 = some (.putfield 214, 7, 26, 0, 0, .null) := by decide +kernel
theorem o_144_35 : t_OP 144 35 = some (.aload_n 0, 0, 0, 0, 0, .null) := by decide +kernel
theorem o_144_36 : t_OP 144 36 = some (.iconst (1), 0, 0, 0, 1, .null) := by decide +kernel
theorem o_144_37 : t_OP 144 37 = some (.putfield 167, 7, 25, 0, 0, .null) := by decide +kernel
theorem o_144_40 : t_OP 144 40 = some (.aload_n 0, 0, 0, 0, 0, .null) := by decide +kernel
theorem o_144_41 : t_OP 144 41 = some (.iconst (0), 0, 0, 0, 0, .null) := by decide +kernel
theorem o_144_42 : t_OP 144 42 = some (.putfield 171, 7, 29, 0, 0, .null) := by decide +kernel
theorem o_144_45 : t_OP 144 45 = some (.aload_n 0, 0, 0, 0, 0, .null) := by decide +kernel
theorem o_144_46 : t_OP 144 46 = some (.iconst (0), 0, 0, 0, 0, .null) := by decide +kernel
theorem o_144_47 : t_OP 144 47 = some (.putfield 174, 7, 28, 0, 0, .null) := by decide +kernel
theorem o_144_50 : t_OP 144 50 = some (.aload_n 0, 0, 0, 0, 0, .null) := by decide +kernel
theorem o_144_51 : t_OP 144 51 = some (.iconst (0), 0, 0, 0, 0, .null) := by decide +kernel
theorem o_144_52 : t_OP 144 52 = some (.putfield 226, 7, 27, 0, 0, .null) := by decide +kernel
theorem o_144_55 : t_OP 144 55 = some (.aload_n 0, 0, 0, 0, 0, .null) := by decide +kernel
theorem o_144_56 : t_OP 144 56 = some (.getfield 214, 7, 26, 0, 0, .null) := by decide +kernel
theorem o_144_59 : t_OP 144 59 = some (.ireturn, 0, 0, 0, 0, .null) := by decide +kernel
theorem o_145_0 : t_OP 145 0 = some (.iconst (0), 0, 0, 0, 0, .null) := by decide +kernel
theorem o_145_1 : t_OP 145 1 = some (.istore_n 1, 0, 0, 0, 0, .null) := by decide +kernel
theorem o_145_2 : t_OP 145 2 = some (.iconst (0), 0, 0, 0, 0, .null) := by decide +kernel
theorem o_145_3 : t_OP 145 3 = some (.istore_n 2, 0, 0, 0, 0, .null) := by decide +kernel
theorem o_145_4 : t_OP 145 4 = some (.iload_n 2, 0, 0, 0, 0, .null) := by decide +kernel
theorem o_145_5 : t_OP 145 5 = some (.aload_n 0, 0, 0, 0, 0, .null) := by decide +kernel
theorem o_145_6 : t_OP 145 6 = some (.getfield 118, 7, 7, 0, 0, .null) := by decide +kernel
theorem o_145_9 : t_OP 145 9 = some (.if_icmp .ge (25), 34, 0, 0, 0, .null) := by decide +kernel
theorem o_145_12 : t_OP 145 12 = some (.iload_n 1, 0, 0, 0, 0, .null) := by decide +kernel
theorem o_145_13 : t_OP 145 13 = some (.aload_n 0, 0, 0, 0, 0, .null) := by decide +kernel
theorem o_145_14 : t_OP 145 14 = some (.iload_n 2, 0, 0, 0, 0, .null) := by decide +kernel
theorem o_145_15 : t_OP 145 15 = some (.invokevirtual 208, 146, 0, 1, 0, .null) := by decide +kernel
theorem o_145_18 : t_OP 145 18 = some (.ifCond .eq (7), 25, 0, 0, 0, .null) := by decide +kernel
theorem o_145_21 : t_OP 145 21 = some (.iconst (1), 0, 0, 0, 1, .null) := by decide +kernel
theorem o_145_22 : t_OP 145 22 = some (.goto (4), 26, 0, 0, 0, .null) := by decide +kernel
theorem o_145_25 : t_OP 145 25 = some (.iconst (0), 0, 0, 0, 0, .null) := by decide +kernel
theorem o_145_26 : t_OP 145 26 = some (.iadd, 0, 0, 0, 0, .null) := by decide +kernel
theorem o_145_27 : t_OP 145 27 = some (.istore_n 1, 0, 0, 0, 0, .null) := by decide +kernel
theorem o_145_28 : t_OP 145 28 = some (.iinc 2 (1), 0, 0, 0, 1, .null) := by decide +kernel
theorem o_145_31 : t_OP 145 31 = some (.goto (-27), 4, 0, 0, 0, .null) := by decide +kernel
theorem o_145_34 : t_OP 145 34 = some (.iload_n 1, 0, 0, 0, 0, .null) := by decide +kernel
theorem o_145_35 : t_OP 145 35 = some (.ireturn, 0, 0, 0, 0, .null) := by decide +kernel
theorem o_146_0 : t_OP 146 0 = some (.iload_n 1, 0, 0, 0, 0, .null) := by decide +kernel
theorem o_146_1 : t_OP 146 1 = some (.iconst (1), 0, 0, 0, 1, .null) := by decide +kernel
theorem o_146_2 : t_OP 146 2 = some (.iadd, 0, 0, 0, 0, .null) := by decide +kernel
theorem o_146_3 : t_OP 146 3 = some (.aload_n 0, 0, 0, 0, 0, .null) := by decide +kernel
theorem o_146_4 : t_OP 146 4 = some (.getfield 118, 7, 7, 0, 0, .null) := by decide +kernel
theorem o_146_7 : t_OP 146 7 = some (.if_icmp .ge (46), 53, 0, 0, 0, .null) := by decide +kernel
theorem o_146_10 : t_OP 146 10 = some (.aload_n 0, 0, 0, 0, 0, .null) := by decide +kernel
theorem o_146_11 : t_OP 146 11 = some (.getfield 13, 7, 10, 0, 0, .null) := by decide +kernel
theorem o_146_14 : t_OP 146 14 = some (.iload_n 1, 0, 0, 0, 0, .null) := by decide +kernel
theorem o_146_15 : t_OP 146 15 = some (.iaload, 0, 0, 0, 0, .null) := by decide +kernel
theorem o_146_16 : t_OP 146 16 = some (.aload_n 0, 0, 0, 0, 0, .null) := by decide +kernel
theorem o_146_17 : t_OP 146 17 = some (.getfield 13, 7, 10, 0, 0, .null) := by decide +kernel
theorem o_146_20 : t_OP 146 20 = some (.iload_n 1, 0, 0, 0, 0, .null) := by decide +kernel
theorem o_146_21 : t_OP 146 21 = some (.iconst (1), 0, 0, 0, 1, .null) := by decide +kernel
theorem o_146_22 : t_OP 146 22 = some (.iadd, 0, 0, 0, 0, .null) := by decide +kernel
theorem o_146_23 : t_OP 146 23 = some (.iaload, 0, 0, 0, 0, .null) := by decide +kernel
theorem o_146_24 : t_OP 146 24 = some (.if_icmp .ne (29), 53, 0, 0, 0, .null) := by decide +kernel
theorem o_146_27 : t_OP 146 27 = some (.aload_n 0, 0, 0, 0, 0, .null) := by decide +kernel
theorem o_146_28 : t_OP 146 28 = some (.getfield 16, 7, 11, 0, 0, .null) := by decide +kernel
theorem o_146_31 : t_OP 146 31 = some (.iload_n 1, 0, 0, 0, 0, .null) := by decide +kernel
theorem o_146_32 : t_OP 146 32 = some (.iaload, 0, 0, 0, 0, .null) := by decide +kernel
theorem o_146_33 : t_OP 146 33 = some (.iconst (2), 0, 0, 0, 2, .null) := by decide +kernel
theorem o_146_34 : t_OP 146 34 = some (.if_icmp .eq (19), 53, 0, 0, 0, .null) := by decide +kernel
theorem o_146_37 : t_OP 146 37 = some (.aload_n 0, 0, 0, 0, 0, .null) := by decide +kernel
theorem o_146_38 : t_OP 146 38 = some (.getfield 16, 7, 11, 0, 0, .null) := by decide +kernel
theorem o_146_41 : t_OP 146 41 = some (.iload_n 1, 0, 0, 0, 0, .null) := by decide +kernel
theorem o_146_42 : t_OP 146 42 = some (.iconst (1), 0, 0, 0, 1, .null) := by decide +kernel
theorem o_146_43 : t_OP 146 43 = some (.iadd, 0, 0, 0, 0, .null) := by decide +kernel
theorem o_146_44 : t_OP 146 44 = some (.iaload, 0, 0, 0, 0, .null) := by decide +kernel
theorem o_146_45 : t_OP 146 45 = some (.iconst (2), 0, 0, 0, 2, .null) := by decide +kernel
theorem o_146_46 : t_OP 146 46 = some (.if_icmp .eq (7), 53, 0, 0, 0, .null) := by decide +kernel
theorem o_146_49 : t_OP 146 49 = some (.iconst (1), 0, 0, 0, 1, .null) := by decide +kernel
theorem o_146_50 : t_OP 146 50 = some (.goto (4), 54, 0, 0, 0, .null) := by decide +kernel
theorem o_146_53 : t_OP 146 53 = some (.iconst (0), 0, 0, 0, 0, .null) := by decide +kernel
theorem o_146_54 : t_OP 146 54 = some (.ireturn, 0, 0, 0, 0, .null) := by decide +kernel
theorem o_147_0 : t_OP 147 0 = some (.aload_n 0, 0, 0, 0, 0, .null) := by decide +kernel
theorem o_147_1 : t_OP 147 1 = some (.iconst (0), 0, 0, 0, 0, .null) := by decide +kernel
theorem o_147_2 : t_OP 147 2 = some (.putfield 58, 7, 0, 0, 0, .null) := by decide +kernel
theorem o_147_5 : t_OP 147 5 = some (.aload_n 0, 0, 0, 0, 0, .null) := by decide +kernel
theorem o_147_6 : t_OP 147 6 = some (.getfield 167, 7, 25, 0, 0, .null) := by decide +kernel
theorem o_147_9 : t_OP 147 9 = some (.ifCond .eq (10), 19, 0, 0, 0, .null) := by decide +kernel
theorem o_147_12 : t_OP 147 12 = some (.aload_n 0, 0, 0, 0, 0, .null) := by decide +kernel
theorem o_147_13 : t_OP 147 13 = some (.getfield 226, 7, 27, 0, 0, .null) := by decide +kernel
theorem o_147_16 : t_OP 147 16 = some (.goto (4), 20, 0, 0, 0, .null) := by decide +kernel
theorem o_147_19 : t_OP 147 19 = some (.iconst (-1), 0, 0, 0, (-1), .null) := by decide +kernel
theorem o_147_20 : t_OP 147 20 = some (.ireturn, 0, 0, 0, 0, .null) := by decide +kernel
theorem o_148_0 : t_OP 148 0 = some (.aload_n 0, 0, 0, 0, 0, .null) := by decide +kernel
theorem o_148_1 : t_OP 148 1 = some (.iconst (0), 0, 0, 0, 0, .null) := by decide +kernel
theorem o_148_2 : t_OP 148 2 = some (.putfield 58, 7, 0, 0, 0, .null) := by decide +kernel
theorem o_148_5 : t_OP 148 5 = some (.aload_n 0, 0, 0, 0, 0, .null) := by decide +kernel
theorem o_148_6 : t_OP 148 6 = some (.getfield 167, 7, 25, 0, 0, .null) := by decide +kernel
theorem o_148_9 : t_OP 148 9 = some (.ifCond .eq (10), 19, 0, 0, 0, .null) := by decide +kernel
theorem o_148_12 : t_OP 148 12 = some (.aload_n 0, 0, 0, 0, 0, .null) := by decide +kernel
theorem o_148_13 : t_OP 148 13 = some (.getfield 226, 7, 27, 0, 0, .null) := by decide +kernel
theorem o_148_16 : t_OP 148 16 = some (.ifCond .ge (9), 25, 0, 0, 0, .null) := by decide +kernel
theorem o_148_19 : t_OP 148 19 = some (.aload_n 0, 0, 0, 0, 0, .null) := by decide +kernel
theorem o_148_20 : t_OP 148 20 = some (.iconst (1), 0, 0, 0, 1, .null) := by decide +kernel
theorem o_148_21 : t_OP 148 21 = some (.invokevirtual 65, 109, 0, 1, 0, .null) := by decide +kernel
theorem o_148_24 : t_OP 148 24 = some (.ireturn, 0, 0, 0, 0, .null) := by decide +kernel
theorem o_148_25 : t_OP 148 25 = some (.aload_n 0, 0, 0, 0, 0, .null) := by decide +kernel
theorem o_148_26 : t_OP 148 26 = some (.dup, 0, 0, 0, 0, .null) := by decide +kernel
theorem o_148_27 : t_OP 148 27 = some (.getfield 174, 7, 28, 0, 0, .null) := by decide +kernel
theorem o_148_30 : t_OP 148 30 = some (.iconst (1), 0, 0, 0, 1, .null) := by decide +kernel
theorem o_148_31 : t_OP 148 31 = some (.iadd, 0, 0, 0, 0, .null) := by decide +kernel
theorem o_148_32 : t_OP 148 32 = some (.putfield 174, 7, 28, 0, 0, .null) := by decide +kernel
theorem o_148_35 : t_OP 148 35 = some (.iload_n 1, 0, 0, 0, 0, .null) := by decide +kernel
theorem o_148_36 : t_OP 148 36 = some (.ifCond .eq (26), 62, 0, 0, 0, .null) := by decide +kernel
theorem o_148_39 : t_OP 148 39 = some (.aload_n 0, 0, 0, 0, 0, .null) := by decide +kernel
theorem o_148_40 : t_OP 148 40 = some (.getfield 40, 7, 30, 0, 0, .null) := by decide +kernel
theorem o_148_43 : t_OP 148 43 = some (.aload_n 0, 0, 0, 0, 0, .null) := by decide +kernel
theorem o_148_44 : t_OP 148 44 = some (.getfield 171, 7, 29, 0, 0, .null) := by decide +kernel
theorem o_148_47 : t_OP 148 47 = some (.aload_n 0, 0, 0, 0, 0, .null) := by decide +kernel
theorem o_148_48 : t_OP 148 48 = some (.getfield 226, 7, 27, 0, 0, .null) := by decide +kernel
theorem o_148_51 : t_OP 148 51 = some (.iastore, 0, 0, 0, 0, .null) := by decide +kernel
theorem o_148_52 : t_OP 148 52 = some (.aload_n 0, 0, 0, 0, 0, .null) := by decide +kernel
theorem o_148_53 : t_OP 148 53 = some (.dup, 0, 0, 0, 0, .null) := by decide +kernel
theorem o_148_54 : t_OP 148 54 = some (.getfield 171, 7, 29, 0, 0, .null) := by decide +kernel
theorem o_148_57 : t_OP 148 57 = some (.iconst (1), 0, 0, 0, 1, .null) := by decide +kernel
theorem o_148_58 : t_OP 148 58 = some (.iadd, 0, 0, 0, 0, .null) := by decide +kernel
theorem o_148_59 : t_OP 148 59 = some (.putfield 171, 7, 29, 0, 0, .null) := by decide +kernel
theorem o_148_62 : t_OP 148 62 = some (.aload_n 0, 0, 0, 0, 0, .null) := by decide +kernel
theorem o_148_63 : t_OP 148 63 = some (.aload_n 0, 0, 0, 0, 0, .null) := by decide +kernel
theorem o_148_64 : t_OP 148 64 = some (.aload_n 0, 0, 0, 0, 0, .null) := by decide +kernel
theorem o_148_65 : t_OP 148 65 = some (.getfield 226, 7, 27, 0, 0, .null) := by decide +kernel
theorem o_148_68 : t_OP 148 68 = some (.invokevirtual 229, 149, 0, 1, 0, .null) := by decide +kernel
theorem o_148_71 : t_OP 148 71 = some (.putfield 226, 7, 27, 0, 0, .null) := by decide +kernel
theorem o_148_74 : t_OP 148 74 = some (.aload_n 0, 0, 0, 0, 0, .null) := by decide +kernel
theorem o_148_75 : t_OP 148 75 = some (.getfield 171, 7, 29, 0, 0, .null) := by decide +kernel
theorem o_148_78 : t_OP 148 78 = some (.ireturn, 0, 0, 0, 0, .null) := by decide +kernel
theorem o_149_0 : t_OP 149 0 = some (.iconst (-1), 0, 0, 0, (-1), .null) := by decide +kernel
theorem o_149_1 : t_OP 149 1 = some (.istore_n 2, 0, 0, 0, 0, .null) := by decide +kernel
theorem o_149_2 : t_OP 149 2 = some (.iconst (0), 0, 0, 0, 0, .null) := by decide +kernel
theorem o_149_3 : t_OP 149 3 = some (.istore_n 3, 0, 0, 0, 0, .null) := by decide +kernel
theorem o_149_4 : t_OP 149 4 = some (.iload_n 3, 0, 0, 0, 0, .null) := by decide +kernel
theorem o_149_5 : t_OP 149 5 = some (.iconst (1), 0, 0, 0, 1, .null) := by decide +kernel
theorem o_149_6 : t_OP 149 6 = some (.aload_n 0, 0, 0, 0, 0, .null) := by decide +kernel
theorem o_149_7 : t_OP 149 7 = some (.getfield 214, 7, 26, 0, 0, .null) := by decide +kernel
theorem o_149_10 : t_OP 149 10 = some (.ishl, 0, 0, 0, 0, .null) := by decide +kernel
theorem o_149_11 : t_OP 149 11 = some (.if_icmp .ge (43), 54, 0, 0, 0, .null) := by decide +kernel
theorem o_149_14 : t_OP 149 14 = some (.aload_n 0, 0, 0, 0, 0, .null) := by decide +kernel
theorem o_149_15 : t_OP 149 15 = some (.iload_n 3, 0, 0, 0, 0, .null) := by decide +kernel
theorem o_149_16 : t_OP 149 16 = some (.invokevirtual 217, 150, 0, 1, 0, .null) := by decide +kernel
theorem o_149_19 : t_OP 149 19 = some (.ifCond .eq (29), 48, 0, 0, 0, .null) := by decide +kernel
theorem o_149_22 : t_OP 149 22 = some (.iload_n 1, 0, 0, 0, 0, .null) := by decide +kernel
theorem o_149_23 : t_OP 149 23 = some (.ifCond .lt (11), 34, 0, 0, 0, .null) := by decide +kernel
theorem o_149_26 : t_OP 149 26 = some (.iload_n 1, 0, 0, 0, 0, .null) := by decide +kernel
theorem o_149_27 : t_OP 149 27 = some (.iload_n 3, 0, 0, 0, 0, .null) := by decide +kernel
theorem o_149_28 : t_OP 149 28 = some (.invokestatic 220, 151, 2, 2, 0, .null) := by decide +kernel
theorem o_149_31 : t_OP 149 31 = some (.ifCond .eq (17), 48, 0, 0, 0, .null) := by decide +kernel
theorem o_149_34 : t_OP 149 34 = some (.iload_n 2, 0, 0, 0, 0, .null) := by decide +kernel
theorem o_149_35 : t_OP 149 35 = some (.ifCond .lt (11), 46, 0, 0, 0, .null) := by decide +kernel
theorem o_149_38 : t_OP 149 38 = some (.iload_n 3, 0, 0, 0, 0, .null) := by decide +kernel
theorem o_149_39 : t_OP 149 39 = some (.iload_n 2, 0, 0, 0, 0, .null) := by decide +kernel
theorem o_149_40 : t_OP 149 40 = some (.invokestatic 220, 151, 2, 2, 0, .null) := by decide +kernel
theorem o_149_43 : t_OP 149 43 = some (.ifCond .eq (5), 48, 0, 0, 0, .null) := by decide +kernel
theorem o_149_46 : t_OP 149 46 = some (.iload_n 3, 0, 0, 0, 0, .null) := by decide +kernel
theorem o_149_47 : t_OP 149 47 = some (.istore_n 2, 0, 0, 0, 0, .null) := by decide +kernel
theorem o_149_48 : t_OP 149 48 = some (.iinc 3 (1), 0, 0, 0, 1, .null) := by decide +kernel
theorem o_149_51 : t_OP 149 51 = some (.goto (-47), 4, 0, 0, 0, .null) := by decide +kernel
theorem o_149_54 : t_OP 149 54 = some (.iload_n 2, 0, 0, 0, 0, .null) := by decide +kernel
theorem o_149_55 : t_OP 149 55 = some (.ireturn, 0, 0, 0, 0, .null) := by decide +kernel
theorem o_150_0 : t_OP 150 0 = some (.iconst (1), 0, 0, 0, 1, .null) := by decide +kernel
theorem o_150_1 : t_OP 150 1 = some (.istore_n 2, 0, 0, 0, 0, .null) := by decide +kernel
theorem o_150_2 : t_OP 150 2 = some (.iconst (0), 0, 0, 0, 0, .null) := by decide +kernel
theorem o_150_3 : t_OP 150 3 = some (.istore_n 3, 0, 0, 0, 0, .null) := by decide +kernel
theorem o_150_4 : t_OP 150 4 = some (.iload_n 3, 0, 0, 0, 0, .null) := by decide +kernel
theorem o_150_5 : t_OP 150 5 = some (.aload_n 0, 0, 0, 0, 0, .null) := by decide +kernel
theorem o_150_6 : t_OP 150 6 = some (.getfield 171, 7, 29, 0, 0, .null) := by decide +kernel
theorem o_150_9 : t_OP 150 9 = some (.if_icmp .ge (36), 45, 0, 0, 0, .null) := by decide +kernel
theorem o_150_12 : t_OP 150 12 = some (.iload_n 2, 0, 0, 0, 0, .null) := by decide +kernel
theorem o_150_13 : t_OP 150 13 = some (.ifCond .eq (24), 37, 0, 0, 0, .null) := by decide +kernel
theorem o_150_16 : t_OP 150 16 = some (.iload_n 1, 0, 0, 0, 0, .null) := by decide +kernel
theorem o_150_17 : t_OP 150 17 = some (.aload_n 0, 0, 0, 0, 0, .null) := by decide +kernel
theorem o_150_18 : t_OP 150 18 = some (.getfield 40, 7, 30, 0, 0, .null) := by decide +kernel
theorem o_150_21 : t_OP 150 21 = some (.iload_n 3, 0, 0, 0, 0, .null) := by decide +kernel
theorem o_150_22 : t_OP 150 22 = some (.iaload, 0, 0, 0, 0, .null) := by decide +kernel
theorem o_150_23 : t_OP 150 23 = some (.iand, 0, 0, 0, 0, .null) := by decide +kernel
theorem o_150_24 : t_OP 150 24 = some (.aload_n 0, 0, 0, 0, 0, .null) := by decide +kernel
theorem o_150_25 : t_OP 150 25 = some (.getfield 40, 7, 30, 0, 0, .null) := by decide +kernel
theorem o_150_28 : t_OP 150 28 = some (.iload_n 3, 0, 0, 0, 0, .null) := by decide +kernel
theorem o_150_29 : t_OP 150 29 = some (.iaload, 0, 0, 0, 0, .null) := by decide +kernel
theorem o_150_30 : t_OP 150 30 = some (.if_icmp .eq (7), 37, 0, 0, 0, .null) := by decide +kernel
theorem o_150_33 : t_OP 150 33 = some (.iconst (1), 0, 0, 0, 1, .null) := by decide +kernel
theorem o_150_34 : t_OP 150 34 = some (.goto (4), 38, 0, 0, 0, .null) := by decide +kernel
theorem o_150_37 : t_OP 150 37 = some (.iconst (0), 0, 0, 0, 0, .null) := by decide +kernel
theorem o_150_38 : t_OP 150 38 = some (.istore_n 2, 0, 0, 0, 0, .null) := by decide +kernel
theorem o_150_39 : t_OP 150 39 = some (.iinc 3 (1), 0, 0, 0, 1, .null) := by decide +kernel
theorem o_150_42 : t_OP 150 42 = some (.goto (-38), 4, 0, 0, 0, .null) := by decide +kernel
theorem o_150_45 : t_OP 150 45 = some (.iload_n 2, 0, 0, 0, 0, .null) := by decide +kernel
theorem o_150_46 : t_OP 150 46 = some (.ireturn, 0, 0, 0, 0, .null) := by decide +kernel
theorem o_151_0 : t_OP 151 0 = some (.iload_n 0, 0, 0, 0, 0, .null) := by decide +kernel
theorem o_151_1 : t_OP 151 1 = some (.invokestatic 211, 152, 2, 1, 0, .null) := by decide +kernel
theorem o_151_4 : t_OP 151 4 = some (.iload_n 1, 0, 0, 0, 0, .null) := by decide +kernel
theorem o_151_5 : t_OP 151 5 = some (.invokestatic 211, 152, 2, 1, 0, .null) := by decide +kernel
theorem o_151_8 : t_OP 151 8 = some (.if_icmp .eq (20), 28, 0, 0, 0, .null) := by decide +kernel
theorem o_151_11 : t_OP 151 11 = some (.iload_n 0, 0, 0, 0, 0, .null) := by decide +kernel
theorem o_151_12 : t_OP 151 12 = some (.invokestatic 211, 152, 2, 1, 0, .null) := by decide +kernel
theorem o_151_15 : t_OP 151 15 = some (.iload_n 1, 0, 0, 0, 0, .null) := by decide +kernel
theorem o_151_16 : t_OP 151 16 = some (.invokestatic 211, 152, 2, 1, 0, .null) := by decide +kernel
theorem o_151_19 : t_OP 151 19 = some (.if_icmp .ge (7), 26, 0, 0, 0, .null) := by decide +kernel
theorem o_151_22 : t_OP 151 22 = some (.iconst (1), 0, 0, 0, 1, .null) := by decide +kernel
theorem o_151_23 : t_OP 151 23 = some (.goto (4), 27, 0, 0, 0, .null) := by decide +kernel
theorem o_151_26 : t_OP 151 26 = some (.iconst (0), 0, 0, 0, 0, .null) := by decide +kernel
theorem o_151_27 : t_OP 151 27 = some (.ireturn, 0, 0, 0, 0, .null) := by decide +kernel
theorem o_151_28 : t_OP 151 28 = some (.iload_n 0, 0, 0, 0, 0, .null) := by decide +kernel
theorem o_151_29 : t_OP 151 29 = some (.iload_n 1, 0, 0, 0, 0, .null) := by decide +kernel
theorem o_151_30 : t_OP 151 30 = some (.ixor, 0, 0, 0, 0, .null) := by decide +kernel
theorem o_151_31 : t_OP 151 31 = some (.istore_n 2, 0, 0, 0, 0, .null) := by decide +kernel
theorem o_151_32 : t_OP 151 32 = some (.iload_n 2, 0, 0, 0, 0, .null) := by decide +kernel
theorem o_151_33 : t_OP 151 33 = some (.iload_n 2, 0, 0, 0, 0, .null) := by decide +kernel
theorem o_151_34 : t_OP 151 34 = some (.ineg, 0, 0, 0, 0, .null) := by decide +kernel
theorem o_151_35 : t_OP 151 35 = some (.iand, 0, 0, 0, 0, .null) := by decide +kernel
theorem o_151_36 : t_OP 151 36 = some (.istore_n 2, 0, 0, 0, 0, .null) := by decide +kernel
theorem o_151_37 : t_OP 151 37 = some (.iload_n 0, 0, 0, 0, 0, .null) := by decide +kernel
theorem o_151_38 : t_OP 151 38 = some (.iload_n 2, 0, 0, 0, 0, .null) := by decide +kernel
theorem o_151_39 : t_OP 151 39 = some (.iand, 0, 0, 0, 0, .null) := by decide +kernel
theorem o_151_40 : t_OP 151 40 = some (.ifCond .eq (7), 47, 0, 0, 0, .null) := by decide +kernel
theorem o_151_43 : t_OP 151 43 = some (.iconst (1), 0, 0, 0, 1, .null) := by decide +kernel
theorem o_151_44 : t_OP 151 44 = some (.goto (4), 48, 0, 0, 0, .null) := by decide +kernel
theorem o_151_47 : t_OP 151 47 = some (.iconst (0), 0, 0, 0, 0, .null) := by decide +kernel
theorem o_151_48 : t_OP 151 48 = some (.ireturn, 0, 0, 0, 0, .null) := by decide +kernel
theorem o_152_0 : t_OP 152 0 = some (.iconst (0), 0, 0, 0, 0, .null) := by decide +kernel
theorem o_152_1 : t_OP 152 1 = some (.istore_n 1, 0, 0, 0, 0, .null) := by decide +kernel
theorem o_152_2 : t_OP 152 2 = some (.iconst (0), 0, 0, 0, 0, .null) := by decide +kernel
theorem o_152_3 : t_OP 152 3 = some (.istore_n 2, 0, 0, 0, 0, .null) := by decide +kernel
theorem o_152_4 : t_OP 152 4 = some (.iload_n 2, 0, 0, 0, 0, .null) := by decide +kernel
theorem o_152_5 : t_OP 152 5 = some (.bipush (24), 0, 0, 0, 24, .null) := by decide +kernel
theorem o_152_7 : t_OP 152 7 = some (.if_icmp .ge (17), 24, 0, 0, 0, .null) := by decide +kernel
theorem o_152_10 : t_OP 152 10 = some (.iload_n 1, 0, 0, 0, 0, .null) := by decide +kernel
theorem o_152_11 : t_OP 152 11 = some (.iload_n 0, 0, 0, 0, 0, .null) := by decide +kernel
theorem o_152_12 : t_OP 152 12 = some (.iload_n 2, 0, 0, 0, 0, .null) := by decide +kernel
theorem o_152_13 : t_OP 152 13 = some (.ishr, 0, 0, 0, 0, .null) := by decide +kernel
theorem o_152_14 : t_OP 152 14 = some (.iconst (1), 0, 0, 0, 1, .null) := by decide +kernel
theorem o_152_15 : t_OP 152 15 = some (.iand, 0, 0, 0, 0, .null) := by decide +kernel
theorem o_152_16 : t_OP 152 16 = some (.iadd, 0, 0, 0, 0, .null) := by decide +kernel
theorem o_152_17 : t_OP 152 17 = some (.istore_n 1, 0, 0, 0, 0, .null) := by decide +kernel
theorem o_152_18 : t_OP 152 18 = some (.iinc 2 (1), 0, 0, 0, 1, .null) := by decide +kernel
theorem o_152_21 : t_OP 152 21 = some (.goto (-17), 4, 0, 0, 0, .null) := by decide +kernel
theorem o_152_24 : t_OP 152 24 = some (.iload_n 1, 0, 0, 0, 0, .null) := by decide +kernel
theorem o_152_25 : t_OP 152 25 = some (.ireturn, 0, 0, 0, 0, .null) := by decide +kernel
theorem o_153_0 : t_OP 153 0 = some (.aload_n 0, 0, 0, 0, 0, .null) := by decide +kernel
theorem o_153_1 : t_OP 153 1 = some (.iconst (0), 0, 0, 0, 0, .null) := by decide +kernel
theorem o_153_2 : t_OP 153 2 = some (.putfield 58, 7, 0, 0, 0, .null) := by decide +kernel
theorem o_153_5 : t_OP 153 5 = some (.iload_n 1, 0, 0, 0, 0, .null) := by decide +kernel
theorem o_153_6 : t_OP 153 6 = some (.iconst (0), 0, 0, 0, 0, .null) := by decide +kernel
theorem o_153_7 : t_OP 153 7 = some (.aload_n 0, 0, 0, 0, 0, .null) := by decide +kernel
theorem o_153_8 : t_OP 153 8 = some (.getfield 171, 7, 29, 0, 0, .null) := by decide +kernel
theorem o_153_11 : t_OP 153 11 = some (.iconst (1), 0, 0, 0, 1, .null) := by decide +kernel
theorem o_153_12 : t_OP 153 12 = some (.isub, 0, 0, 0, 0, .null) := by decide +kernel
theorem o_153_13 : t_OP 153 13 = some (.invokestatic 69, 111, 2, 3, 0, .null) := by decide +kernel
theorem o_153_16 : t_OP 153 16 = some (.ifCond .eq (12), 28, 0, 0, 0, .null) := by decide +kernel
theorem o_153_19 : t_OP 153 19 = some (.aload_n 0, 0, 0, 0, 0, .null) := by decide +kernel
theorem o_153_20 : t_OP 153 20 = some (.getfield 40, 7, 30, 0, 0, .null) := by decide +kernel
theorem o_153_23 : t_OP 153 23 = some (.iload_n 1, 0, 0, 0, 0, .null) := by decide +kernel
theorem o_153_24 : t_OP 153 24 = some (.iaload, 0, 0, 0, 0, .null) := by decide +kernel
theorem o_153_25 : t_OP 153 25 = some (.goto (8), 33, 0, 0, 0, .null) := by decide +kernel
theorem o_153_28 : t_OP 153 28 = some (.aload_n 0, 0, 0, 0, 0, .null) := by decide +kernel
theorem o_153_29 : t_OP 153 29 = some (.iconst (1), 0, 0, 0, 1, .null) := by decide +kernel
theorem o_153_30 : t_OP 153 30 = some (.invokevirtual 65, 109, 0, 1, 0, .null) := by decide +kernel
theorem o_153_33 : t_OP 153 33 = some (.ireturn, 0, 0, 0, 0, .null) := by decide +kernel
theorem o_154_0 : t_OP 154 0 = some (.aload_n 0, 0, 0, 0, 0, .null) := by decide +kernel
theorem o_154_1 : t_OP 154 1 = some (.iconst (0), 0, 0, 0, 0, .null) := by decide +kernel
theorem o_154_2 : t_OP 154 2 = some (.putfield 58, 7, 0, 0, 0, .null) := by decide +kernel
theorem o_154_5 : t_OP 154 5 = some (.aload_n 0, 0, 0, 0, 0, .null) := by decide +kernel
theorem o_154_6 : t_OP 154 6 = some (.invokevirtual 223, 145, 0, 0, 0, .null) := by decide +kernel
theorem o_154_9 : t_OP 154 9 = some (.istore_n 2, 0, 0, 0, 0, .null) := by decide +kernel
theorem o_154_10 : t_OP 154 10 = some (.aload_n 0, 0, 0, 0, 0, .null) := by decide +kernel
theorem o_154_11 : t_OP 154 11 = some (.getfield 183, 7, 5, 0, 0, .null) := by decide +kernel
theorem o_154_14 : t_OP 154 14 = some (.ifCond .eq (13), 27, 0, 0, 0, .null) := by decide +kernel
theorem o_154_17 : t_OP 154 17 = some (.iload_n 1, 0, 0, 0, 0, .null) := by decide +kernel
theorem o_154_18 : t_OP 154 18 = some (.ifCond .lt (9), 27, 0, 0, 0, .null) := by decide +kernel
theorem o_154_21 : t_OP 154 21 = some (.iload_n 1, 0, 0, 0, 0, .null) := by decide +kernel
theorem o_154_22 : t_OP 154 22 = some (.iload_n 2, 0, 0, 0, 0, .null) := by decide +kernel
theorem o_154_23 : t_OP 154 23 = some (.ishr, 0, 0, 0, 0, .null) := by decide +kernel
theorem o_154_24 : t_OP 154 24 = some (.ifCond .eq (9), 33, 0, 0, 0, .null) := by decide +kernel
theorem o_154_27 : t_OP 154 27 = some (.aload_n 0, 0, 0, 0, 0, .null) := by decide +kernel
theorem o_154_28 : t_OP 154 28 = some (.iconst (1), 0, 0, 0, 1, .null) := by decide +kernel
theorem o_154_29 : t_OP 154 29 = some (.invokevirtual 65, 109, 0, 1, 0, .null) := by decide +kernel
theorem o_154_32 : t_OP 154 32 = some (.ireturn, 0, 0, 0, 0, .null) := by decide +kernel
theorem o_154_33 : t_OP 154 33 = some (.iload_n 1, 0, 0, 0, 0, .null) := by decide +kernel
theorem o_154_34 : t_OP 154 34 = some (.invokestatic 211, 152, 2, 1, 0, .null) := by decide +kernel
theorem o_154_37 : t_OP 154 37 = some (.istore_n 3, 0, 0, 0, 0, .null) := by decide +kernel
theorem o_154_38 : t_OP 154 38 = some (.aload_n 0, 0, 0, 0, 0, .null) := by decide +kernel
theorem o_154_39 : t_OP 154 39 = some (.getfield 118, 7, 7, 0, 0, .null) := by decide +kernel
theorem o_154_42 : t_OP 154 42 = some (.iload_n 3, 0, 0, 0, 0, .null) := by decide +kernel
theorem o_154_43 : t_OP 154 43 = some (.iadd, 0, 0, 0, 0, .null) := by decide +kernel
theorem o_154_44 : t_OP 154 44 = some (.bipush (24), 0, 0, 0, 24, .null) := by decide +kernel
theorem o_154_46 : t_OP 154 46 = some (.if_icmp .le (9), 55, 0, 0, 0, .null) := by decide +kernel
theorem o_154_49 : t_OP 154 49 = some (.aload_n 0, 0, 0, 0, 0, .null) := by decide +kernel
theorem o_154_50 : t_OP 154 50 = some (.iconst (2), 0, 0, 0, 2, .null) := by decide +kernel
theorem o_154_51 : t_OP 154 51 = some (.invokevirtual 65, 109, 0, 1, 0, .null) := by decide +kernel
theorem o_154_54 : t_OP 154 54 = some (.ireturn, 0, 0, 0, 0, .null) := by decide +kernel
theorem o_154_55 : t_OP 154 55 = some (.aload_n 0, 0, 0, 0, 0, .null) := by decide +kernel
theorem o_154_56 : t_OP 154 56 = some (.iconst (0), 0, 0, 0, 0, .null) := by decide +kernel
theorem o_154_57 : t_OP 154 57 = some (.putfield 167, 7, 25, 0, 0, .null) := by decide +kernel
theorem o_154_60 : t_OP 154 60 = some (.iload_n 2, 0, 0, 0, 0, .null) := by decide +kernel
theorem o_154_61 : t_OP 154 61 = some (.istore 4, 0, 0, 0, 0, .null) := by decide +kernel
theorem o_154_63 : t_OP 154 63 = some (.aload_n 0, 0, 0, 0, 0, .null) := by decide +kernel
theorem o_154_64 : t_OP 154 64 = some (.getfield 118, 7, 7, 0, 0, .null) := by decide +kernel
theorem o_154_67 : t_OP 154 67 = some (.iconst (1), 0, 0, 0, 1, .null) := by decide +kernel
theorem o_154_68 : t_OP 154 68 = some (.isub, 0, 0, 0, 0, .null) := by decide +kernel
theorem o_154_69 : t_OP 154 69 = some (.istore 5, 0, 0, 0, 0, .null) := by decide +kernel
theorem o_154_71 : t_OP 154 71 = some (.iload 5, 0, 0, 0, 0, .null) := by decide +kernel
theorem o_154_73 : t_OP 154 73 = some (.ifCond .lt (188), 261, 0, 0, 0, .null) := by decide +kernel
theorem o_154_76 : t_OP 154 76 = some (.aload_n 0, 0, 0, 0, 0, .null) := by decide +kernel
theorem o_154_77 : t_OP 154 77 = some (.iload 5, 0, 0, 0, 0, .null) := by decide +kernel
theorem o_154_79 : t_OP 154 79 = some (.invokevirtual 208, 146, 0, 1, 0, .null) := by decide +kernel
theorem o_154_82 : t_OP 154 82 = some (.istore 6, 0, 0, 0, 0, .null) := by decide +kernel
theorem o_154_84 : t_OP 154 84 = some (.iload 4, 0, 0, 0, 0, .null) := by decide +kernel
theorem o_154_86 : t_OP 154 86 = some (.iload 6, 0, 0, 0, 0, .null) := by decide +kernel
theorem o_154_88 : t_OP 154 88 = some (.ifCond .eq (7), 95, 0, 0, 0, .null) := by decide +kernel
theorem o_154_91 : t_OP 154 91 = some (.iconst (1), 0, 0, 0, 1, .null) := by decide +kernel
theorem o_154_92 : t_OP 154 92 = some (.goto (4), 96, 0, 0, 0, .null) := by decide +kernel
theorem o_154_95 : t_OP 154 95 = some (.iconst (0), 0, 0, 0, 0, .null) := by decide +kernel
theorem o_154_96 : t_OP 154 96 = some (.isub, 0, 0, 0, 0, .null) := by decide +kernel
theorem o_154_97 : t_OP 154 97 = some (.istore 4, 0, 0, 0, 0, .null) := by decide +kernel
theorem o_154_99 : t_OP 154 99 = some (.iload 6, 0, 0, 0, 0, .null) := by decide +kernel
theorem o_154_101 : t_OP 154 101 = some (.ifCond .eq (154), 255, 0, 0, 0, .null) := by decide +kernel
theorem o_154_104 : t_OP 154 104 = some (.iload_n 1, 0, 0, 0, 0, .null) := by decide +kernel
theorem o_154_105 : t_OP 154 105 = some (.iload 4, 0, 0, 0, 0, .null) := by decide +kernel
theorem o_154_107 : t_OP 154 107 = some (.ishr, 0, 0, 0, 0, .null) := by decide +kernel
theorem o_154_108 : t_OP 154 108 = some (.iconst (1), 0, 0, 0, 1, .null) := by decide +kernel
theorem o_154_109 : t_OP 154 109 = some (.iand, 0, 0, 0, 0, .null) := by decide +kernel
theorem o_154_110 : t_OP 154 110 = some (.iconst (1), 0, 0, 0, 1, .null) := by decide +kernel
theorem o_154_111 : t_OP 154 111 = some (.if_icmp .ne (144), 255, 0, 0, 0, .null) := by decide +kernel
theorem o_154_114 : t_OP 154 114 = some (.aload_n 0, 0, 0, 0, 0, .null) := by decide +kernel
theorem o_154_115 : t_OP 154 115 = some (.getfield 118, 7, 7, 0, 0, .null) := by decide +kernel
theorem o_154_118 : t_OP 154 118 = some (.istore 7, 0, 0, 0, 0, .null) := by decide +kernel
theorem o_154_120 : t_OP 154 120 = some (.iload 7, 0, 0, 0, 0, .null) := by decide +kernel
theorem o_154_122 : t_OP 154 122 = some (.iload 5, 0, 0, 0, 0, .null) := by decide +kernel
theorem o_154_124 : t_OP 154 124 = some (.iconst (1), 0, 0, 0, 1, .null) := by decide +kernel
theorem o_154_125 : t_OP 154 125 = some (.iadd, 0, 0, 0, 0, .null) := by decide +kernel
theorem o_154_126 : t_OP 154 126 = some (.if_icmp .le (73), 199, 0, 0, 0, .null) := by decide +kernel
theorem o_154_129 : t_OP 154 129 = some (.aload_n 0, 0, 0, 0, 0, .null) := by decide +kernel
theorem o_154_130 : t_OP 154 130 = some (.getfield 13, 7, 10, 0, 0, .null) := by decide +kernel
theorem o_154_133 : t_OP 154 133 = some (.iload 7, 0, 0, 0, 0, .null) := by decide +kernel
theorem o_154_135 : t_OP 154 135 = some (.aload_n 0, 0, 0, 0, 0, .null) := by decide +kernel
theorem o_154_136 : t_OP 154 136 = some (.getfield 13, 7, 10, 0, 0, .null) := by decide +kernel
theorem o_154_139 : t_OP 154 139 = some (.iload 7, 0, 0, 0, 0, .null) := by decide +kernel
theorem o_154_141 : t_OP 154 141 = some (.iconst (1), 0, 0, 0, 1, .null) := by decide +kernel
theorem o_154_142 : t_OP 154 142 = some (.isub, 0, 0, 0, 0, .null) := by decide +kernel
theorem o_154_143 : t_OP 154 143 = some (.iaload, 0, 0, 0, 0, .null) := by decide +kernel
theorem o_154_144 : t_OP 154 144 = some (.iastore, 0, 0, 0, 0, .null) := by decide +kernel
theorem o_154_145 : t_OP 154 145 = some (.aload_n 0, 0, 0, 0, 0, .null) := by decide +kernel
theorem o_154_146 : t_OP 154 146 = some (.getfield 16, 7, 11, 0, 0, .null) := by decide +kernel
theorem o_154_149 : t_OP 154 149 = some (.iload 7, 0, 0, 0, 0, .null) := by decide +kernel
theorem o_154_151 : t_OP 154 151 = some (.aload_n 0, 0, 0, 0, 0, .null) := by decide +kernel
theorem o_154_152 : t_OP 154 152 = some (.getfield 16, 7, 11, 0, 0, .null) := by decide +kernel
theorem o_154_155 : t_OP 154 155 = some (.iload 7, 0, 0, 0, 0, .null) := by decide +kernel
theorem o_154_157 : t_OP 154 157 = some (.iconst (1), 0, 0, 0, 1, .null) := by decide +kernel
theorem o_154_158 : t_OP 154 158 = some (.isub, 0, 0, 0, 0, .null) := by decide +kernel
theorem o_154_159 : t_OP 154 159 = some (.iaload, 0, 0, 0, 0, .null) := by decide +kernel
theorem o_154_160 : t_OP 154 160 = some (.iastore, 0, 0, 0, 0, .null) := by decide +kernel
theorem o_154_161 : t_OP 154 161 = some (.aload_n 0, 0, 0, 0, 0, .null) := by decide +kernel
theorem o_154_162 : t_OP 154 162 = some (.getfield 19, 7, 12, 0, 0, .null) := by decide +kernel
theorem o_154_165 : t_OP 154 165 = some (.iload 7, 0, 0, 0, 0, .null) := by decide +kernel
theorem o_154_167 : t_OP 154 167 = some (.aload_n 0, 0, 0, 0, 0, .null) := by decide +kernel
theorem o_154_168 : t_OP 154 168 = some (.getfield 19, 7, 12, 0, 0, .null) := by decide +kernel
theorem o_154_171 : t_OP 154 171 = some (.iload 7, 0, 0, 0, 0, .null) := by decide +kernel
theorem o_154_173 : t_OP 154 173 = some (.iconst (1), 0, 0, 0, 1, .null) := by decide +kernel
theorem o_154_174 : t_OP 154 174 = some (.isub, 0, 0, 0, 0, .null) := by decide +kernel
theorem o_154_175 : t_OP 154 175 = some (.iaload, 0, 0, 0, 0, .null) := by decide +kernel
theorem o_154_176 : t_OP 154 176 = some (.iastore, 0, 0, 0, 0, .null) := by decide +kernel
theorem o_154_177 : t_OP 154 177 = some (.aload_n 0, 0, 0, 0, 0, .null) := by decide +kernel
theorem o_154_178 : t_OP 154 178 = some (.getfield 22, 7, 13, 0, 0, .null) := by decide +kernel
theorem o_154_181 : t_OP 154 181 = some (.iload 7, 0, 0, 0, 0, .null) := by decide +kernel
theorem o_154_183 : t_OP 154 183 = some (.aload_n 0, 0, 0, 0, 0, .null) := by decide +kernel
theorem o_154_184 : t_OP 154 184 = some (.getfield 22, 7, 13, 0, 0, .null) := by decide +kernel
theorem o_154_187 : t_OP 154 187 = some (.iload 7, 0, 0, 0, 0, .null) := by decide +kernel
theorem o_154_189 : t_OP 154 189 = some (.iconst (1), 0, 0, 0, 1, .null) := by decide +kernel
theorem o_154_190 : t_OP 154 190 = some (.isub, 0, 0, 0, 0, .null) := by decide +kernel
theorem o_154_191 : t_OP 154 191 = some (.iaload, 0, 0, 0, 0, .null) := by decide +kernel
theorem o_154_192 : t_OP 154 192 = some (.iastore, 0, 0, 0, 0, .null) := by decide +kernel
theorem o_154_193 : t_OP 154 193 = some (.iinc 7 (-1), 0, 0, 0, (-1), .null) := by decide +kernel
theorem o_154_196 : t_OP 154 196 = some (.goto (-76), 120, 0, 0, 0, .null) := by decide +kernel
theorem o_154_199 : t_OP 154 199 = some (.aload_n 0, 0, 0, 0, 0, .null) := by decide +kernel
theorem o_154_200 : t_OP 154 200 = some (.getfield 16, 7, 11, 0, 0, .null) := by decide +kernel
theorem o_154_203 : t_OP 154 203 = some (.iload 5, 0, 0, 0, 0, .null) := by decide +kernel
theorem o_154_205 : t_OP 154 205 = some (.iconst (1), 0, 0, 0, 1, .null) := by decide +kernel
theorem o_154_206 : t_OP 154 206 = some (.iadd, 0, 0, 0, 0, .null) := by decide +kernel
theorem o_154_207 : t_OP 154 207 = some (.iconst (2), 0, 0, 0, 2, .null) := by decide +kernel
theorem o_154_208 : t_OP 154 208 = some (.iastore, 0, 0, 0, 0, .null) := by decide +kernel
theorem o_154_209 : t_OP 154 209 = some (.aload_n 0, 0, 0, 0, 0, .null) := by decide +kernel
theorem o_154_210 : t_OP 154 210 = some (.getfield 13, 7, 10, 0, 0, .null) := by decide +kernel
theorem o_154_213 : t_OP 154 213 = some (.iload 5, 0, 0, 0, 0, .null) := by decide +kernel
theorem o_154_215 : t_OP 154 215 = some (.iconst (1), 0, 0, 0, 1, .null) := by decide +kernel
theorem o_154_216 : t_OP 154 216 = some (.iadd, 0, 0, 0, 0, .null) := by decide +kernel
theorem o_154_217 : t_OP 154 217 = some (.aload_n 0, 0, 0, 0, 0, .null) := by decide +kernel
theorem o_154_218 : t_OP 154 218 = some (.getfield 13, 7, 10, 0, 0, .null) := by decide +kernel
theorem o_154_221 : t_OP 154 221 = some (.iload 5, 0, 0, 0, 0, .null) := by decide +kernel
theorem o_154_223 : t_OP 154 223 = some (.iaload, 0, 0, 0, 0, .null) := by decide +kernel
theorem o_154_224 : t_OP 154 224 = some (.iastore, 0, 0, 0, 0, .null) := by decide +kernel
theorem o_154_225 : t_OP 154 225 = some (.aload_n 0, 0, 0, 0, 0, .null) := by decide +kernel
theorem o_154_226 : t_OP 154 226 = some (.getfield 19, 7, 12, 0, 0, .null) := by decide +kernel
theorem o_154_229 : t_OP 154 229 = some (.iload 5, 0, 0, 0, 0, .null) := by decide +kernel
theorem o_154_231 : t_OP 154 231 = some (.iconst (1), 0, 0, 0, 1, .null) := by decide +kernel
theorem o_154_232 : t_OP 154 232 = some (.iadd, 0, 0, 0, 0, .null) := by decide +kernel
theorem o_154_233 : t_OP 154 233 = some (.iconst (-1), 0, 0, 0, (-1), .null) := by decide +kernel
theorem o_154_234 : t_OP 154 234 = some (.iastore, 0, 0, 0, 0, .null) := by decide +kernel
theorem o_154_235 : t_OP 154 235 = some (.aload_n 0, 0, 0, 0, 0, .null) := by decide +kernel
theorem o_154_236 : t_OP 154 236 = some (.getfield 22, 7, 13, 0, 0, .null) := by decide +kernel
theorem o_154_239 : t_OP 154 239 = some (.iload 5, 0, 0, 0, 0, .null) := by decide +kernel
theorem o_154_241 : t_OP 154 241 = some (.iconst (1), 0, 0, 0, 1, .null) := by decide +kernel
theorem o_154_242 : t_OP 154 242 = some (.iadd, 0, 0, 0, 0, .null) := by decide +kernel
theorem o_154_243 : t_OP 154 243 = some (.iconst (-1), 0, 0, 0, (-1), .null) := by decide +kernel
theorem o_154_244 : t_OP 154 244 = some (.iastore, 0, 0, 0, 0, .null) := by decide +kernel
theorem o_154_245 : t_OP 154 245 = some (.aload_n 0, 0, 0, 0, 0, .null) := by decide +kernel
theorem o_154_246 : t_OP 154 246 = some (.dup, 0, 0, 0, 0, .null) := by decide +kernel
theorem o_154_247 : t_OP 154 247 = some (.getfield 118, 7, 7, 0, 0, .null) := by decide +kernel
theorem o_154_250 : t_OP 154 250 = some (.iconst (1), 0, 0, 0, 1, .null) := by decide +kernel
theorem o_154_251 : t_OP 154 251 = some (.iadd, 0, 0, 0, 0, .null) := by decide +kernel
theorem o_154_252 : t_OP 154 252 = some (.putfield 118, 7, 7, 0, 0, .null) := by decide +kernel
theorem o_154_255 : t_OP 154 255 = some (.iinc 5 (-1), 0, 0, 0, (-1), .null) := by decide +kernel
theorem o_154_258 : t_OP 154 258 = some (.goto (-187), 71, 0, 0, 0, .null) := by decide +kernel
theorem o_154_261 : t_OP 154 261 = some (.iload_n 3, 0, 0, 0, 0, .null) := by decide +kernel
theorem o_154_262 : t_OP 154 262 = some (.ireturn, 0, 0, 0, 0, .null) := by decide +kernel
theorem o_155_0 : t_OP 155 0 = some (.aload_n 0, 0, 0, 0, 0, .null) := by decide +kernel
theorem o_155_1 : t_OP 155 1 = some (.iconst (0), 0, 0, 0, 0, .null) := by decide +kernel
theorem o_155_2 : t_OP 155 2 = some (.putfield 58, 7, 0, 0, 0, .null) := by decide +kernel
theorem o_155_5 : t_OP 155 5 = some (.aload_n 0, 0, 0, 0, 0, .null) := by decide +kernel
theorem o_155_6 : t_OP 155 6 = some (.getfield 183, 7, 5, 0, 0, .null) := by decide +kernel
theorem o_155_9 : t_OP 155 9 = some (.ifCond .ne (9), 18, 0, 0, 0, .null) := by decide +kernel
theorem o_155_12 : t_OP 155 12 = some (.aload_n 0, 0, 0, 0, 0, .null) := by decide +kernel
theorem o_155_13 : t_OP 155 13 = some (.iconst (1), 0, 0, 0, 1, .null) := by decide +kernel
theorem o_155_14 : t_OP 155 14 = some (.invokevirtual 65, 109, 0, 1, 0, .null) := by decide +kernel
theorem o_155_17 : t_OP 155 17 = some (.ireturn, 0, 0, 0, 0, .null) := by decide +kernel
theorem o_155_18 : t_OP 155 18 = some (.aload_n 0, 0, 0, 0, 0, .null) := by decide +kernel
theorem o_155_19 : t_OP 155 19 = some (.iconst (0), 0, 0, 0, 0, .null) := by decide +kernel
theorem o_155_20 : t_OP 155 20 = some (.putfield 232, 7, 23, 0, 0, .null) := by decide +kernel
theorem o_155_23 : t_OP 155 23 = some (.iconst (0), 0, 0, 0, 0, .null) := by decide +kernel
theorem o_155_24 : t_OP 155 24 = some (.istore_n 1, 0, 0, 0, 0, .null) := by decide +kernel
theorem o_155_25 : t_OP 155 25 = some (.iload_n 1, 0, 0, 0, 0, .null) := by decide +kernel
theorem o_155_26 : t_OP 155 26 = some (.aload_n 0, 0, 0, 0, 0, .null) := by decide +kernel
theorem o_155_27 : t_OP 155 27 = some (.getfield 142, 7, 6, 0, 0, .null) := by decide +kernel
theorem o_155_30 : t_OP 155 30 = some (.if_icmp .ge (63), 93, 0, 0, 0, .null) := by decide +kernel
theorem o_155_33 : t_OP 155 33 = some (.aload_n 0, 0, 0, 0, 0, .null) := by decide +kernel
theorem o_155_34 : t_OP 155 34 = some (.bipush (116), 0, 0, 0, 116, .null) := by decide +kernel
theorem o_155_36 : t_OP 155 36 = some (.invokevirtual 235, 156, 0, 1, 0, .null) := by decide +kernel
theorem o_155_39 : t_OP 155 39 = some (.aload_n 0, 0, 0, 0, 0, .null) := by decide +kernel
theorem o_155_40 : t_OP 155 40 = some (.iload_n 1, 0, 0, 0, 0, .null) := by decide +kernel
theorem o_155_41 : t_OP 155 41 = some (.invokevirtual 238, 157, 0, 1, 0, .null) := by decide +kernel
theorem o_155_44 : t_OP 155 44 = some (.aload_n 0, 0, 0, 0, 0, .null) := by decide +kernel
theorem o_155_45 : t_OP 155 45 = some (.bipush (58), 0, 0, 0, 58, .null) := by decide +kernel
theorem o_155_47 : t_OP 155 47 = some (.invokevirtual 235, 156, 0, 1, 0, .null) := by decide +kernel
theorem o_155_50 : t_OP 155 50 = some (.iconst (0), 0, 0, 0, 0, .null) := by decide +kernel
theorem o_155_51 : t_OP 155 51 = some (.istore_n 2, 0, 0, 0, 0, .null) := by decide +kernel
theorem o_155_52 : t_OP 155 52 = some (.iload_n 2, 0, 0, 0, 0, .null) := by decide +kernel
theorem o_155_53 : t_OP 155 53 = some (.aload_n 0, 0, 0, 0, 0, .null) := by decide +kernel
theorem o_155_54 : t_OP 155 54 = some (.getfield 118, 7, 7, 0, 0, .null) := by decide +kernel
theorem o_155_57 : t_OP 155 57 = some (.if_icmp .ge (24), 81, 0, 0, 0, .null) := by decide +kernel
theorem o_155_60 : t_OP 155 60 = some (.aload_n 0, 0, 0, 0, 0, .null) := by decide +kernel
theorem o_155_61 : t_OP 155 61 = some (.getfield 13, 7, 10, 0, 0, .null) := by decide +kernel
theorem o_155_64 : t_OP 155 64 = some (.iload_n 2, 0, 0, 0, 0, .null) := by decide +kernel
theorem o_155_65 : t_OP 155 65 = some (.iaload, 0, 0, 0, 0, .null) := by decide +kernel
theorem o_155_66 : t_OP 155 66 = some (.iload_n 1, 0, 0, 0, 0, .null) := by decide +kernel
theorem o_155_67 : t_OP 155 67 = some (.if_icmp .ne (8), 75, 0, 0, 0, .null) := by decide +kernel
theorem o_155_70 : t_OP 155 70 = some (.aload_n 0, 0, 0, 0, 0, .null) := by decide +kernel
theorem o_155_71 : t_OP 155 71 = some (.iload_n 2, 0, 0, 0, 0, .null) := by decide +kernel
theorem o_155_72 : t_OP 155 72 = some (.invokevirtual 241, 158, 0, 1, 0, .null) := by decide +kernel
theorem o_155_75 : t_OP 155 75 = some (.iinc 2 (1), 0, 0, 0, 1, .null) := by decide +kernel
theorem o_155_78 : t_OP 155 78 = some (.goto (-26), 52, 0, 0, 0, .null) := by decide +kernel
theorem o_155_81 : t_OP 155 81 = some (.aload_n 0, 0, 0, 0, 0, .null) := by decide +kernel
theorem o_155_82 : t_OP 155 82 = some (.bipush (10), 0, 0, 0, 10, .null) := by decide +kernel
theorem o_155_84 : t_OP 155 84 = some (.invokevirtual 235, 156, 0, 1, 0, .null) := by decide +kernel
theorem o_155_87 : t_OP 155 87 = some (.iinc 1 (1), 0, 0, 0, 1, .null) := by decide +kernel
theorem o_155_90 : t_OP 155 90 = some (.goto (-65), 25, 0, 0, 0, .null) := by decide +kernel
theorem o_155_93 : t_OP 155 93 = some (.aload_n 0, 0, 0, 0, 0, .null) := by decide +kernel
theorem o_155_94 : t_OP 155 94 = some (.getfield 161, 7, 9, 0, 0, .null) := by decide +kernel
theorem o_155_97 : t_OP 155 97 = some (.ifCond .le (74), 171, 0, 0, 0, .null) := by decide +kernel
theorem o_155_100 : t_OP 155 100 = some (.aload_n 0, 0, 0, 0, 0, .null) := by decide +kernel
theorem o_155_101 : t_OP 155 101 = some (.invokevirtual 244, 159, 0, 0, 0, .null) := by decide +kernel
theorem o_155_104 : t_OP 155 104 = some (.aload_n 0, 0, 0, 0, 0, .null) := by decide +kernel
theorem o_155_105 : t_OP 155 105 = some (.bipush (32), 0, 0, 0, 32, .null) := by decide +kernel
theorem o_155_107 : t_OP 155 107 = some (.invokevirtual 235, 156, 0, 1, 0, .null) := by decide +kernel
theorem o_155_110 : t_OP 155 110 = some (.aload_n 0, 0, 0, 0, 0, .null) := by decide +kernel
theorem o_155_111 : t_OP 155 111 = some (.bipush (40), 0, 0, 0, 40, .null) := by decide +kernel
theorem o_155_113 : t_OP 155 113 = some (.invokevirtual 235, 156, 0, 1, 0, .null) := by decide +kernel
theorem o_155_116 : t_OP 155 116 = some (.iconst (0), 0, 0, 0, 0, .null) := by decide +kernel
theorem o_155_117 : t_OP 155 117 = some (.istore_n 1, 0, 0, 0, 0, .null) := by decide +kernel
theorem o_155_118 : t_OP 155 118 = some (.iload_n 1, 0, 0, 0, 0, .null) := by decide +kernel
theorem o_155_119 : t_OP 155 119 = some (.aload_n 0, 0, 0, 0, 0, .null) := by decide +kernel
theorem o_155_120 : t_OP 155 120 = some (.getfield 148, 7, 8, 0, 0, .null) := by decide +kernel
theorem o_155_123 : t_OP 155 123 = some (.if_icmp .ge (36), 159, 0, 0, 0, .null) := by decide +kernel
theorem o_155_126 : t_OP 155 126 = some (.iload_n 1, 0, 0, 0, 0, .null) := by decide +kernel
theorem o_155_127 : t_OP 155 127 = some (.ifCond .le (21), 148, 0, 0, 0, .null) := by decide +kernel
theorem o_155_130 : t_OP 155 130 = some (.aload_n 0, 0, 0, 0, 0, .null) := by decide +kernel
theorem o_155_131 : t_OP 155 131 = some (.bipush (32), 0, 0, 0, 32, .null) := by decide +kernel
theorem o_155_133 : t_OP 155 133 = some (.invokevirtual 235, 156, 0, 1, 0, .null) := by decide +kernel
theorem o_155_136 : t_OP 155 136 = some (.aload_n 0, 0, 0, 0, 0, .null) := by decide +kernel
theorem o_155_137 : t_OP 155 137 = some (.bipush (38), 0, 0, 0, 38, .null) := by decide +kernel
theorem o_155_139 : t_OP 155 139 = some (.invokevirtual 235, 156, 0, 1, 0, .null) := by decide +kernel
theorem o_155_142 : t_OP 155 142 = some (.aload_n 0, 0, 0, 0, 0, .null) := by decide +kernel
theorem o_155_143 : t_OP 155 143 = some (.bipush (32), 0, 0, 0, 32, .null) := by decide +kernel
theorem o_155_145 : t_OP 155 145 = some (.invokevirtual 235, 156, 0, 1, 0, .null) := by decide +kernel
theorem o_155_148 : t_OP 155 148 = some (.aload_n 0, 0, 0, 0, 0, .null) := by decide +kernel
theorem o_155_149 : t_OP 155 149 = some (.iload_n 1, 0, 0, 0, 0, .null) := by decide +kernel
theorem o_155_150 : t_OP 155 150 = some (.invokevirtual 247, 160, 0, 1, 0, .null) := by decide +kernel
theorem o_155_153 : t_OP 155 153 = some (.iinc 1 (1), 0, 0, 0, 1, .null) := by decide +kernel
theorem o_155_156 : t_OP 155 156 = some (.goto (-38), 118, 0, 0, 0, .null) := by decide +kernel
theorem o_155_159 : t_OP 155 159 = some (.aload_n 0, 0, 0, 0, 0, .null) := by decide +kernel
theorem o_155_160 : t_OP 155 160 = some (.bipush (41), 0, 0, 0, 41, .null) := by decide +kernel
theorem o_155_162 : t_OP 155 162 = some (.invokevirtual 235, 156, 0, 1, 0, .null) := by decide +kernel
theorem o_155_165 : t_OP 155 165 = some (.aload_n 0, 0, 0, 0, 0, .null) := by decide +kernel
theorem o_155_166 : t_OP 155 166 = some (.bipush (10), 0, 0, 0, 10, .null) := by decide +kernel
theorem o_155_168 : t_OP 155 168 = some (.invokevirtual 235, 156, 0, 1, 0, .null) := by decide +kernel
theorem o_155_171 : t_OP 155 171 = some (.aload_n 0, 0, 0, 0, 0, .null) := by decide +kernel
theorem o_155_172 : t_OP 155 172 = some (.getfield 232, 7, 23, 0, 0, .null) := by decide +kernel
theorem o_155_175 : t_OP 155 175 = some (.ireturn, 0, 0, 0, 0, .null) := by decide +kernel
theorem o_156_0 : t_OP 156 0 = some (.aload_n 0, 0, 0, 0, 0, .null) := by decide +kernel
theorem o_156_1 : t_OP 156 1 = some (.getfield 37, 7, 24, 0, 0, .null) := by decide +kernel
theorem o_156_4 : t_OP 156 4 = some (.aload_n 0, 0, 0, 0, 0, .null) := by decide +kernel
theorem o_156_5 : t_OP 156 5 = some (.getfield 232, 7, 23, 0, 0, .null) := by decide +kernel
theorem o_156_8 : t_OP 156 8 = some (.iload_n 1, 0, 0, 0, 0, .null) := by decide +kernel
theorem o_156_9 : t_OP 156 9 = some (.iastore, 0, 0, 0, 0, .null) := by decide +kernel
theorem o_156_10 : t_OP 156 10 = some (.aload_n 0, 0, 0, 0, 0, .null) := by decide +kernel
theorem o_156_11 : t_OP 156 11 = some (.dup, 0, 0, 0, 0, .null) := by decide +kernel
theorem o_156_12 : t_OP 156 12 = some (.getfield 232, 7, 23, 0, 0, .null) := by decide +kernel
theorem o_156_15 : t_OP 156 15 = some (.iconst (1), 0, 0, 0, 1, .null) := by decide +kernel
theorem o_156_16 : t_OP 156 16 = some (.iadd, 0, 0, 0, 0, .null) := by decide +kernel
theorem o_156_17 : t_OP 156 17 = some (.putfield 232, 7, 23, 0, 0, .null) := by decide +kernel
theorem o_156_20 : t_OP 156 20 = some (.return_, 0, 0, 0, 0, .null) := by decide +kernel
theorem o_157_0 : t_OP 157 0 = some (.iload_n 1, 0, 0, 0, 0, .null) := by decide +kernel
theorem o_157_1 : t_OP 157 1 = some (.bipush (9), 0, 0, 0, 9, .null) := by decide +kernel
theorem o_157_3 : t_OP 157 3 = some (.if_icmp .le (14), 17, 0, 0, 0, .null) := by decide +kernel
theorem o_157_6 : t_OP 157 6 = some (.aload_n 0, 0, 0, 0, 0, .null) := by decide +kernel
theorem o_157_7 : t_OP 157 7 = some (.bipush (48), 0, 0, 0, 48, .null) := by decide +kernel
theorem o_157_9 : t_OP 157 9 = some (.iload_n 1, 0, 0, 0, 0, .null) := by decide +kernel
theorem o_157_10 : t_OP 157 10 = some (.bipush (10), 0, 0, 0, 10, .null) := by decide +kernel
theorem o_157_12 : t_OP 157 12 = some (.idiv, 0, 0, 0, 0, .null) := by decide +kernel
theorem o_157_13 : t_OP 157 13 = some (.iadd, 0, 0, 0, 0, .null) := by decide +kernel
theorem o_157_14 : t_OP 157 14 = some (.invokevirtual 235, 156, 0, 1, 0, .null) := by decide +kernel
theorem o_157_17 : t_OP 157 17 = some (.aload_n 0, 0, 0, 0, 0, .null) := by decide +kernel
theorem o_157_18 : t_OP 157 18 = some (.bipush (48), 0, 0, 0, 48, .null) := by decide +kernel
theorem o_157_20 : t_OP 157 20 = some (.iload_n 1, 0, 0, 0, 0, .null) := by decide +kernel
theorem o_157_21 : t_OP 157 21 = some (.bipush (10), 0, 0, 0, 10, .null) := by decide +kernel
theorem o_157_23 : t_OP 157 23 = some (.irem, 0, 0, 0, 0, .null) := by decide +kernel
theorem o_157_24 : t_OP 157 24 = some (.iadd, 0, 0, 0, 0, .null) := by decide +kernel
theorem o_157_25 : t_OP 157 25 = some (.invokevirtual 235, 156, 0, 1, 0, .null) := by decide +kernel
theorem o_157_28 : t_OP 157 28 = some (.return_, 0, 0, 0, 0, .null) := by decide +kernel
theorem o_158_0 : t_OP 158 0 = some (.aload_n 0, 0, 0, 0, 0, .null) := by decide +kernel
theorem o_158_1 : t_OP 158 1 = some (.bipush (32), 0, 0, 0, 32, .null) := by decide +kernel
theorem o_158_3 : t_OP 158 3 = some (.invokevirtual 235, 156, 0, 1, 0, .null) := by decide +kernel
theorem o_158_6 : t_OP 158 6 = some (.aload_n 0, 0, 0, 0, 0, .null) := by decide +kernel
theorem o_158_7 : t_OP 158 7 = some (.aload_n 0, 0, 0, 0, 0, .null) := by decide +kernel
theorem o_158_8 : t_OP 158 8 = some (.getfield 16, 7, 11, 0, 0, .null) := by decide +kernel
theorem o_158_11 : t_OP 158 11 = some (.iload_n 1, 0, 0, 0, 0, .null) := by decide +kernel
theorem o_158_12 : t_OP 158 12 = some (.iaload, 0, 0, 0, 0, .null) := by decide +kernel
theorem o_158_13 : t_OP 158 13 = some (.ifCond .ne (8), 21, 0, 0, 0, .null) := by decide +kernel
theorem o_158_16 : t_OP 158 16 = some (.bipush (119), 0, 0, 0, 119, .null) := by decide +kernel
theorem o_158_18 : t_OP 158 18 = some (.goto (20), 38, 0, 0, 0, .null) := by decide +kernel
theorem o_158_21 : t_OP 158 21 = some (.aload_n 0, 0, 0, 0, 0, .null) := by decide +kernel
theorem o_158_22 : t_OP 158 22 = some (.getfield 16, 7, 11, 0, 0, .null) := by decide +kernel
theorem o_158_25 : t_OP 158 25 = some (.iload_n 1, 0, 0, 0, 0, .null) := by decide +kernel
theorem o_158_26 : t_OP 158 26 = some (.iaload, 0, 0, 0, 0, .null) := by decide +kernel
theorem o_158_27 : t_OP 158 27 = some (.iconst (1), 0, 0, 0, 1, .null) := by decide +kernel
theorem o_158_28 : t_OP 158 28 = some (.if_icmp .ne (8), 36, 0, 0, 0, .null) := by decide +kernel
theorem o_158_31 : t_OP 158 31 = some (.bipush (114), 0, 0, 0, 114, .null) := by decide +kernel
theorem o_158_33 : t_OP 158 33 = some (.goto (5), 38, 0, 0, 0, .null) := by decide +kernel
theorem o_158_36 : t_OP 158 36 = some (.bipush (102), 0, 0, 0, 102, .null) := by decide +kernel
theorem o_158_38 : t_OP 158 38 = some (.invokevirtual 235, 156, 0, 1, 0, .null) := by decide +kernel
theorem o_158_41 : t_OP 158 41 = some (.aload_n 0, 0, 0, 0, 0, .null) := by decide +kernel
theorem o_158_42 : t_OP 158 42 = some (.getfield 16, 7, 11, 0, 0, .null) := by decide +kernel
theorem o_158_45 : t_OP 158 45 = some (.iload_n 1, 0, 0, 0, 0, .null) := by decide +kernel
theorem o_158_46 : t_OP 158 46 = some (.iaload, 0, 0, 0, 0, .null) := by decide +kernel
theorem o_158_47 : t_OP 158 47 = some (.iconst (2), 0, 0, 0, 2, .null) := by decide +kernel
theorem o_158_48 : t_OP 158 48 = some (.if_icmp .ge (54), 102, 0, 0, 0, .null) := by decide +kernel
theorem o_158_51 : t_OP 158 51 = some (.aload_n 0, 0, 0, 0, 0, .null) := by decide +kernel
theorem o_158_52 : t_OP 158 52 = some (.bipush (32), 0, 0, 0, 32, .null) := by decide +kernel
theorem o_158_54 : t_OP 158 54 = some (.invokevirtual 235, 156, 0, 1, 0, .null) := by decide +kernel
theorem o_158_57 : t_OP 158 57 = some (.aload_n 0, 0, 0, 0, 0, .null) := by decide +kernel
theorem o_158_58 : t_OP 158 58 = some (.bipush (97), 0, 0, 0, 97, .null) := by decide +kernel
theorem o_158_60 : t_OP 158 60 = some (.aload_n 0, 0, 0, 0, 0, .null) := by decide +kernel
theorem o_158_61 : t_OP 158 61 = some (.getfield 19, 7, 12, 0, 0, .null) := by decide +kernel
theorem o_158_64 : t_OP 158 64 = some (.iload_n 1, 0, 0, 0, 0, .null) := by decide +kernel
theorem o_158_65 : t_OP 158 65 = some (.iaload, 0, 0, 0, 0, .null) := by decide +kernel
theorem o_158_66 : t_OP 158 66 = some (.iadd, 0, 0, 0, 0, .null) := by decide +kernel
theorem o_158_67 : t_OP 158 67 = some (.invokevirtual 235, 156, 0, 1, 0, .null) := by decide +kernel
theorem o_158_70 : t_OP 158 70 = some (.aload_n 0, 0, 0, 0, 0, .null) := by decide +kernel
theorem o_158_71 : t_OP 158 71 = some (.bipush (32), 0, 0, 0, 32, .null) := by decide +kernel
theorem o_158_73 : t_OP 158 73 = some (.invokevirtual 235, 156, 0, 1, 0, .null) := by decide +kernel
theorem o_158_76 : t_OP 158 76 = some (.aload_n 0, 0, 0, 0, 0, .null) := by decide +kernel
theorem o_158_77 : t_OP 158 77 = some (.getfield 16, 7, 11, 0, 0, .null) := by decide +kernel
theorem o_158_80 : t_OP 158 80 = some (.iload_n 1, 0, 0, 0, 0, .null) := by decide +kernel
theorem o_158_81 : t_OP 158 81 = some (.iaload, 0, 0, 0, 0, .null) := by decide +kernel
theorem o_158_82 : t_OP 158 82 = some (.iconst (1), 0, 0, 0, 1, .null) := by decide +kernel
theorem o_158_83 : t_OP 158 83 = some (.if_icmp .ne (9), 92, 0, 0, 0, .null) := by decide +kernel
theorem o_158_86 : t_OP 158 86 = some (.aload_n 0, 0, 0, 0, 0, .null) := by decide +kernel
theorem o_158_87 : t_OP 158 87 = some (.bipush (114), 0, 0, 0, 114, .null) := by decide +kernel
theorem o_158_89 : t_OP 158 89 = some (.invokevirtual 235, 156, 0, 1, 0, .null) := by decide +kernel
theorem o_158_92 : t_OP 158 92 = some (.aload_n 0, 0, 0, 0, 0, .null) := by decide +kernel
theorem o_158_93 : t_OP 158 93 = some (.aload_n 0, 0, 0, 0, 0, .null) := by decide +kernel
theorem o_158_94 : t_OP 158 94 = some (.getfield 22, 7, 13, 0, 0, .null) := by decide +kernel
theorem o_158_97 : t_OP 158 97 = some (.iload_n 1, 0, 0, 0, 0, .null) := by decide +kernel
theorem o_158_98 : t_OP 158 98 = some (.iaload, 0, 0, 0, 0, .null) := by decide +kernel
theorem o_158_99 : t_OP 158 99 = some (.invokevirtual 238, 157, 0, 1, 0, .null) := by decide +kernel
theorem o_158_102 : t_OP 158 102 = some (.aload_n 0, 0, 0, 0, 0, .null) := by decide +kernel
theorem o_158_103 : t_OP 158 103 = some (.bipush (59), 0, 0, 0, 59, .null) := by decide +kernel
theorem o_158_105 : t_OP 158 105 = some (.invokevirtual 235, 156, 0, 1, 0, .null) := by decide +kernel
theorem o_158_108 : t_OP 158 108 = some (.return_, 0, 0, 0, 0, .null) := by decide +kernel
theorem o_159_0 : t_OP 159 0 = some (.aload_n 0, 0, 0, 0, 0, .null) := by decide +kernel
theorem o_159_1 : t_OP 159 1 = some (.getfield 161, 7, 9, 0, 0, .null) := by decide +kernel
theorem o_159_4 : t_OP 159 4 = some (.iconst (1), 0, 0, 0, 1, .null) := by decide +kernel
theorem o_159_5 : t_OP 159 5 = some (.if_icmp .ne (7), 12, 0, 0, 0, .null) := by decide +kernel
theorem o_159_8 : t_OP 159 8 = some (.iconst (1), 0, 0, 0, 1, .null) := by decide +kernel
theorem o_159_9 : t_OP 159 9 = some (.goto (4), 13, 0, 0, 0, .null) := by decide +kernel
theorem o_159_12 : t_OP 159 12 = some (.iconst (0), 0, 0, 0, 0, .null) := by decide +kernel
theorem o_159_13 : t_OP 159 13 = some (.istore_n 1, 0, 0, 0, 0, .null) := by decide +kernel
theorem o_159_14 : t_OP 159 14 = some (.aload_n 0, 0, 0, 0, 0, .null) := by decide +kernel
theorem o_159_15 : t_OP 159 15 = some (.iload_n 1, 0, 0, 0, 0, .null) := by decide +kernel
theorem o_159_16 : t_OP 159 16 = some (.ifCond .eq (8), 24, 0, 0, 0, .null) := by decide +kernel
theorem o_159_19 : t_OP 159 19 = some (.bipush (101), 0, 0, 0, 101, .null) := by decide +kernel
theorem o_159_21 : t_OP 159 21 = some (.goto (5), 26, 0, 0, 0, .null) := by decide +kernel
theorem o_159_24 : t_OP 159 24 = some (.bipush (102), 0, 0, 0, 102, .null) := by decide +kernel
theorem o_159_26 : t_OP 159 26 = some (.invokevirtual 235, 156, 0, 1, 0, .null) := by decide +kernel
theorem o_159_29 : t_OP 159 29 = some (.aload_n 0, 0, 0, 0, 0, .null) := by decide +kernel
theorem o_159_30 : t_OP 159 30 = some (.iload_n 1, 0, 0, 0, 0, .null) := by decide +kernel
theorem o_159_31 : t_OP 159 31 = some (.ifCond .eq (8), 39, 0, 0, 0, .null) := by decide +kernel
theorem o_159_34 : t_OP 159 34 = some (.bipush (120), 0, 0, 0, 120, .null) := by decide +kernel
theorem o_159_36 : t_OP 159 36 = some (.goto (5), 41, 0, 0, 0, .null) := by decide +kernel
theorem o_159_39 : t_OP 159 39 = some (.bipush (111), 0, 0, 0, 111, .null) := by decide +kernel
theorem o_159_41 : t_OP 159 41 = some (.invokevirtual 235, 156, 0, 1, 0, .null) := by decide +kernel
theorem o_159_44 : t_OP 159 44 = some (.aload_n 0, 0, 0, 0, 0, .null) := by decide +kernel
theorem o_159_45 : t_OP 159 45 = some (.iload_n 1, 0, 0, 0, 0, .null) := by decide +kernel
theorem o_159_46 : t_OP 159 46 = some (.ifCond .eq (8), 54, 0, 0, 0, .null) := by decide +kernel
theorem o_159_49 : t_OP 159 49 = some (.bipush (105), 0, 0, 0, 105, .null) := by decide +kernel
theorem o_159_51 : t_OP 159 51 = some (.goto (5), 56, 0, 0, 0, .null) := by decide +kernel
theorem o_159_54 : t_OP 159 54 = some (.bipush (114), 0, 0, 0, 114, .null) := by decide +kernel
theorem o_159_56 : t_OP 159 56 = some (.invokevirtual 235, 156, 0, 1, 0, .null) := by decide +kernel
theorem o_159_59 : t_OP 159 59 = some (.aload_n 0, 0, 0, 0, 0, .null) := by decide +kernel
theorem o_159_60 : t_OP 159 60 = some (.iload_n 1, 0, 0, 0, 0, .null) := by decide +kernel
theorem o_159_61 : t_OP 159 61 = some (.ifCond .eq (8), 69, 0, 0, 0, .null) := by decide +kernel
theorem o_159_64 : t_OP 159 64 = some (.bipush (115), 0, 0, 0, 115, .null) := by decide +kernel
theorem o_159_66 : t_OP 159 66 = some (.goto (5), 71, 0, 0, 0, .null) := by decide +kernel
theorem o_159_69 : t_OP 159 69 = some (.bipush (97), 0, 0, 0, 97, .null) := by decide +kernel
theorem o_159_71 : t_OP 159 71 = some (.invokevirtual 235, 156, 0, 1, 0, .null) := by decide +kernel
theorem o_159_74 : t_OP 159 74 = some (.aload_n 0, 0, 0, 0, 0, .null) := by decide +kernel
theorem o_159_75 : t_OP 159 75 = some (.iload_n 1, 0, 0, 0, 0, .null) := by decide +kernel
theorem o_159_76 : t_OP 159 76 = some (.ifCond .eq (8), 84, 0, 0, 0, .null) := by decide +kernel
theorem o_159_79 : t_OP 159 79 = some (.bipush (116), 0, 0, 0, 116, .null) := by decide +kernel
theorem o_159_81 : t_OP 159 81 = some (.goto (5), 86, 0, 0, 0, .null) := by decide +kernel
theorem o_159_84 : t_OP 159 84 = some (.bipush (108), 0, 0, 0, 108, .null) := by decide +kernel
theorem o_159_86 : t_OP 159 86 = some (.invokevirtual 235, 156, 0, 1, 0, .null) := by decide +kernel
theorem o_159_89 : t_OP 159 89 = some (.aload_n 0, 0, 0, 0, 0, .null) := by decide +kernel
theorem o_159_90 : t_OP 159 90 = some (.iload_n 1, 0, 0, 0, 0, .null) := by decide +kernel
theorem o_159_91 : t_OP 159 91 = some (.ifCond .eq (8), 99, 0, 0, 0, .null) := by decide +kernel
theorem o_159_94 : t_OP 159 94 = some (.bipush (115), 0, 0, 0, 115, .null) := by decide +kernel
theorem o_159_96 : t_OP 159 96 = some (.goto (5), 101, 0, 0, 0, .null) := by decide +kernel
theorem o_159_99 : t_OP 159 99 = some (.bipush (108), 0, 0, 0, 108, .null) := by decide +kernel
theorem o_159_101 : t_OP 159 101 = some (.invokevirtual 235, 156, 0, 1, 0, .null) := by decide +kernel
theorem o_159_104 : t_OP 159 104 = some (.return_, 0, 0, 0, 0, .null) := by decide +kernel
theorem o_160_0 : t_OP 160 0 = some (.aload_n 0, 0, 0, 0, 0, .null) := by decide +kernel
theorem o_160_1 : t_OP 160 1 = some (.getfield 25, 7, 14, 0, 0, .null) := by decide +kernel
theorem o_160_4 : t_OP 160 4 = some (.iload_n 1, 0, 0, 0, 0, .null) := by decide +kernel
theorem o_160_5 : t_OP 160 5 = some (.iaload, 0, 0, 0, 0, .null) := by decide +kernel
theorem o_160_6 : t_OP 160 6 = some (.ifCond .lt (44), 50, 0, 0, 0, .null) := by decide +kernel
theorem o_160_9 : t_OP 160 9 = some (.aload_n 0, 0, 0, 0, 0, .null) := by decide +kernel
theorem o_160_10 : t_OP 160 10 = some (.bipush (116), 0, 0, 0, 116, .null) := by decide +kernel
theorem o_160_12 : t_OP 160 12 = some (.invokevirtual 235, 156, 0, 1, 0, .null) := by decide +kernel
theorem o_160_15 : t_OP 160 15 = some (.aload_n 0, 0, 0, 0, 0, .null) := by decide +kernel
theorem o_160_16 : t_OP 160 16 = some (.aload_n 0, 0, 0, 0, 0, .null) := by decide +kernel
theorem o_160_17 : t_OP 160 17 = some (.getfield 25, 7, 14, 0, 0, .null) := by decide +kernel
theorem o_160_20 : t_OP 160 20 = some (.iload_n 1, 0, 0, 0, 0, .null) := by decide +kernel
theorem o_160_21 : t_OP 160 21 = some (.iaload, 0, 0, 0, 0, .null) := by decide +kernel
theorem o_160_22 : t_OP 160 22 = some (.invokevirtual 238, 157, 0, 1, 0, .null) := by decide +kernel
theorem o_160_25 : t_OP 160 25 = some (.aload_n 0, 0, 0, 0, 0, .null) := by decide +kernel
theorem o_160_26 : t_OP 160 26 = some (.bipush (58), 0, 0, 0, 58, .null) := by decide +kernel
theorem o_160_28 : t_OP 160 28 = some (.invokevirtual 235, 156, 0, 1, 0, .null) := by decide +kernel
theorem o_160_31 : t_OP 160 31 = some (.aload_n 0, 0, 0, 0, 0, .null) := by decide +kernel
theorem o_160_32 : t_OP 160 32 = some (.bipush (114), 0, 0, 0, 114, .null) := by decide +kernel
theorem o_160_34 : t_OP 160 34 = some (.invokevirtual 235, 156, 0, 1, 0, .null) := by decide +kernel
theorem o_160_37 : t_OP 160 37 = some (.aload_n 0, 0, 0, 0, 0, .null) := by decide +kernel
theorem o_160_38 : t_OP 160 38 = some (.aload_n 0, 0, 0, 0, 0, .null) := by decide +kernel
theorem o_160_39 : t_OP 160 39 = some (.getfield 28, 7, 15, 0, 0, .null) := by decide +kernel
theorem o_160_42 : t_OP 160 42 = some (.iload_n 1, 0, 0, 0, 0, .null) := by decide +kernel
theorem o_160_43 : t_OP 160 43 = some (.iaload, 0, 0, 0, 0, .null) := by decide +kernel
theorem o_160_44 : t_OP 160 44 = some (.invokevirtual 238, 157, 0, 1, 0, .null) := by decide +kernel
theorem o_160_47 : t_OP 160 47 = some (.goto (16), 63, 0, 0, 0, .null) := by decide +kernel
theorem o_160_50 : t_OP 160 50 = some (.aload_n 0, 0, 0, 0, 0, .null) := by decide +kernel
theorem o_160_51 : t_OP 160 51 = some (.bipush (97), 0, 0, 0, 97, .null) := by decide +kernel
theorem o_160_53 : t_OP 160 53 = some (.aload_n 0, 0, 0, 0, 0, .null) := by decide +kernel
theorem o_160_54 : t_OP 160 54 = some (.getfield 28, 7, 15, 0, 0, .null) := by decide +kernel
theorem o_160_57 : t_OP 160 57 = some (.iload_n 1, 0, 0, 0, 0, .null) := by decide +kernel
theorem o_160_58 : t_OP 160 58 = some (.iaload, 0, 0, 0, 0, .null) := by decide +kernel
theorem o_160_59 : t_OP 160 59 = some (.iadd, 0, 0, 0, 0, .null) := by decide +kernel
theorem o_160_60 : t_OP 160 60 = some (.invokevirtual 235, 156, 0, 1, 0, .null) := by decide +kernel
theorem o_160_63 : t_OP 160 63 = some (.aload_n 0, 0, 0, 0, 0, .null) := by decide +kernel
theorem o_160_64 : t_OP 160 64 = some (.bipush (32), 0, 0, 0, 32, .null) := by decide +kernel
theorem o_160_66 : t_OP 160 66 = some (.invokevirtual 235, 156, 0, 1, 0, .null) := by decide +kernel
theorem o_160_69 : t_OP 160 69 = some (.aload_n 0, 0, 0, 0, 0, .null) := by decide +kernel
theorem o_160_70 : t_OP 160 70 = some (.bipush (61), 0, 0, 0, 61, .null) := by decide +kernel
theorem o_160_72 : t_OP 160 72 = some (.invokevirtual 235, 156, 0, 1, 0, .null) := by decide +kernel
theorem o_160_75 : t_OP 160 75 = some (.aload_n 0, 0, 0, 0, 0, .null) := by decide +kernel
theorem o_160_76 : t_OP 160 76 = some (.bipush (32), 0, 0, 0, 32, .null) := by decide +kernel
theorem o_160_78 : t_OP 160 78 = some (.invokevirtual 235, 156, 0, 1, 0, .null) := by decide +kernel
theorem o_160_81 : t_OP 160 81 = some (.aload_n 0, 0, 0, 0, 0, .null) := by decide +kernel
theorem o_160_82 : t_OP 160 82 = some (.aload_n 0, 0, 0, 0, 0, .null) := by decide +kernel
theorem o_160_83 : t_OP 160 83 = some (.getfield 31, 7, 16, 0, 0, .null) := by decide +kernel
theorem o_160_86 : t_OP 160 86 = some (.iload_n 1, 0, 0, 0, 0, .null) := by decide +kernel
theorem o_160_87 : t_OP 160 87 = some (.iaload, 0, 0, 0, 0, .null) := by decide +kernel
theorem o_160_88 : t_OP 160 88 = some (.invokevirtual 238, 157, 0, 1, 0, .null) := by decide +kernel
theorem o_160_91 : t_OP 160 91 = some (.return_, 0, 0, 0, 0, .null) := by decide +kernel
theorem o_161_0 : t_OP 161 0 = some (.aload_n 0, 0, 0, 0, 0, .null) := by decide +kernel
theorem o_161_1 : t_OP 161 1 = some (.iconst (0), 0, 0, 0, 0, .null) := by decide +kernel
theorem o_161_2 : t_OP 161 2 = some (.putfield 58, 7, 0, 0, 0, .null) := by decide +kernel
theorem o_161_5 : t_OP 161 5 = some (.iload_n 1, 0, 0, 0, 0, .null) := by decide +kernel
theorem o_161_6 : t_OP 161 6 = some (.iconst (0), 0, 0, 0, 0, .null) := by decide +kernel
theorem o_161_7 : t_OP 161 7 = some (.aload_n 0, 0, 0, 0, 0, .null) := by decide +kernel
theorem o_161_8 : t_OP 161 8 = some (.getfield 232, 7, 23, 0, 0, .null) := by decide +kernel
theorem o_161_11 : t_OP 161 11 = some (.iconst (1), 0, 0, 0, 1, .null) := by decide +kernel
theorem o_161_12 : t_OP 161 12 = some (.isub, 0, 0, 0, 0, .null) := by decide +kernel
theorem o_161_13 : t_OP 161 13 = some (.invokestatic 69, 111, 2, 3, 0, .null) := by decide +kernel
theorem o_161_16 : t_OP 161 16 = some (.ifCond .eq (12), 28, 0, 0, 0, .null) := by decide +kernel
theorem o_161_19 : t_OP 161 19 = some (.aload_n 0, 0, 0, 0, 0, .null) := by decide +kernel
theorem o_161_20 : t_OP 161 20 = some (.getfield 37, 7, 24, 0, 0, .null) := by decide +kernel
theorem o_161_23 : t_OP 161 23 = some (.iload_n 1, 0, 0, 0, 0, .null) := by decide +kernel
theorem o_161_24 : t_OP 161 24 = some (.iaload, 0, 0, 0, 0, .null) := by decide +kernel
theorem o_161_25 : t_OP 161 25 = some (.goto (8), 33, 0, 0, 0, .null) := by decide +kernel
theorem o_161_28 : t_OP 161 28 = some (.aload_n 0, 0, 0, 0, 0, .null) := by decide +kernel
theorem o_161_29 : t_OP 161 29 = some (.iconst (1), 0, 0, 0, 1, .null) := by decide +kernel
theorem o_161_30 : t_OP 161 30 = some (.invokevirtual 65, 109, 0, 1, 0, .null) := by decide +kernel
theorem o_161_33 : t_OP 161 33 = some (.ireturn, 0, 0, 0, 0, .null) := by decide +kernel
theorem o_162_0 : t_OP 162 0 = some (.aload_n 0, 0, 0, 0, 0, .null) := by decide +kernel
theorem o_162_1 : t_OP 162 1 = some (.iconst (0), 0, 0, 0, 0, .null) := by decide +kernel
theorem o_162_2 : t_OP 162 2 = some (.putfield 58, 7, 0, 0, 0, .null) := by decide +kernel
theorem o_162_5 : t_OP 162 5 = some (.iconst (0), 0, 0, 0, 0, .null) := by decide +kernel
theorem o_162_6 : t_OP 162 6 = some (.istore_n 1, 0, 0, 0, 0, .null) := by decide +kernel
theorem o_162_7 : t_OP 162 7 = some (.iload_n 1, 0, 0, 0, 0, .null) := by decide +kernel
theorem o_162_8 : t_OP 162 8 = some (.aload_n 0, 0, 0, 0, 0, .null) := by decide +kernel
theorem o_162_9 : t_OP 162 9 = some (.getfield 232, 7, 23, 0, 0, .null) := by decide +kernel
theorem o_162_12 : t_OP 162 12 = some (.if_icmp .ge (21), 33, 0, 0, 0, .null) := by decide +kernel
theorem o_162_15 : t_OP 162 15 = some (.aload_n 0, 0, 0, 0, 0, .null) := by decide +kernel
theorem o_162_16 : t_OP 162 16 = some (.getfield 7, 7, 2, 0, 0, .null) := by decide +kernel
theorem o_162_19 : t_OP 162 19 = some (.iload_n 1, 0, 0, 0, 0, .null) := by decide +kernel
theorem o_162_20 : t_OP 162 20 = some (.aload_n 0, 0, 0, 0, 0, .null) := by decide +kernel
theorem o_162_21 : t_OP 162 21 = some (.getfield 37, 7, 24, 0, 0, .null) := by decide +kernel
theorem o_162_24 : t_OP 162 24 = some (.iload_n 1, 0, 0, 0, 0, .null) := by decide +kernel
theorem o_162_25 : t_OP 162 25 = some (.iaload, 0, 0, 0, 0, .null) := by decide +kernel
theorem o_162_26 : t_OP 162 26 = some (.iastore, 0, 0, 0, 0, .null) := by decide +kernel
theorem o_162_27 : t_OP 162 27 = some (.iinc 1 (1), 0, 0, 0, 1, .null) := by decide +kernel
theorem o_162_30 : t_OP 162 30 = some (.goto (-23), 7, 0, 0, 0, .null) := by decide +kernel
theorem o_162_33 : t_OP 162 33 = some (.aload_n 0, 0, 0, 0, 0, .null) := by decide +kernel
theorem o_162_34 : t_OP 162 34 = some (.aload_n 0, 0, 0, 0, 0, .null) := by decide +kernel
theorem o_162_35 : t_OP 162 35 = some (.getfield 232, 7, 23, 0, 0, .null) := by decide +kernel
theorem o_162_38 : t_OP 162 38 = some (.putfield 62, 7, 1, 0, 0, .null) := by decide +kernel
theorem o_162_41 : t_OP 162 41 = some (.aload_n 0, 0, 0, 0, 0, .null) := by decide +kernel
theorem o_162_42 : t_OP 162 42 = some (.getfield 62, 7, 1, 0, 0, .null) := by decide +kernel
theorem o_162_45 : t_OP 162 45 = some (.ireturn, 0, 0, 0, 0, .null) := by decide +kernel
theorem o_163_0 : t_OP 163 0 = some (.aload_n 0, 0, 0, 0, 0, .null) := by decide +kernel
theorem o_163_1 : t_OP 163 1 = some (.iconst (0), 0, 0, 0, 0, .null) := by decide +kernel
theorem o_163_2 : t_OP 163 2 = some (.putfield 58, 7, 0, 0, 0, .null) := by decide +kernel
theorem o_163_5 : t_OP 163 5 = some (.iload_n 1, 0, 0, 0, 0, .null) := by decide +kernel
theorem o_163_6 : t_OP 163 6 = some (.tableswitch (86) (0) (7) #[46, 51, 56, 61, 66, 71, 76, 81], 0, 0, 0, 0, .null) := by decide +kernel
theorem o_163_52 : t_OP 163 52 = some (.aload_n 0, 0, 0, 0, 0, .null) := by decide +kernel
theorem o_163_53 : t_OP 163 53 = some (.getfield 62, 7, 1, 0, 0, .null) := by decide +kernel
theorem o_163_56 : t_OP 163 56 = some (.ireturn, 0, 0, 0, 0, .null) := by decide +kernel
theorem o_163_57 : t_OP 163 57 = some (.aload_n 0, 0, 0, 0, 0, .null) := by decide +kernel
theorem o_163_58 : t_OP 163 58 = some (.getfield 142, 7, 6, 0, 0, .null) := by decide +kernel
theorem o_163_61 : t_OP 163 61 = some (.ireturn, 0, 0, 0, 0, .null) := by decide +kernel
theorem o_163_62 : t_OP 163 62 = some (.aload_n 0, 0, 0, 0, 0, .null) := by decide +kernel
theorem o_163_63 : t_OP 163 63 = some (.getfield 118, 7, 7, 0, 0, .null) := by decide +kernel
theorem o_163_66 : t_OP 163 66 = some (.ireturn, 0, 0, 0, 0, .null) := by decide +kernel
theorem o_163_67 : t_OP 163 67 = some (.aload_n 0, 0, 0, 0, 0, .null) := by decide +kernel
theorem o_163_68 : t_OP 163 68 = some (.getfield 148, 7, 8, 0, 0, .null) := by decide +kernel
theorem o_163_71 : t_OP 163 71 = some (.ireturn, 0, 0, 0, 0, .null) := by decide +kernel
theorem o_163_72 : t_OP 163 72 = some (.aload_n 0, 0, 0, 0, 0, .null) := by decide +kernel
theorem o_163_73 : t_OP 163 73 = some (.getfield 161, 7, 9, 0, 0, .null) := by decide +kernel
theorem o_163_76 : t_OP 163 76 = some (.ireturn, 0, 0, 0, 0, .null) := by decide +kernel
theorem o_163_77 : t_OP 163 77 = some (.aload_n 0, 0, 0, 0, 0, .null) := by decide +kernel
theorem o_163_78 : t_OP 163 78 = some (.getfield 186, 7, 21, 0, 0, .null) := by decide +kernel
theorem o_163_81 : t_OP 163 81 = some (.ireturn, 0, 0, 0, 0, .null) := by decide +kernel
theorem o_163_82 : t_OP 163 82 = some (.aload_n 0, 0, 0, 0, 0, .null) := by decide +kernel
theorem o_163_83 : t_OP 163 83 = some (.getfield 232, 7, 23, 0, 0, .null) := by decide +kernel
theorem o_163_86 : t_OP 163 86 = some (.ireturn, 0, 0, 0, 0, .null) := by decide +kernel
theorem o_163_87 : t_OP 163 87 = some (.aload_n 0, 0, 0, 0, 0, .null) := by decide +kernel
theorem o_163_88 : t_OP 163 88 = some (.getfield 174, 7, 28, 0, 0, .null) := by decide +kernel
theorem o_163_91 : t_OP 163 91 = some (.ireturn, 0, 0, 0, 0, .null) := by decide +kernel
theorem o_163_92 : t_OP 163 92 = some (.iconst (-1), 0, 0, 0, (-1), .null) := by decide +kernel
theorem o_163_93 : t_OP 163 93 = some (.ireturn, 0, 0, 0, 0, .null) := by decide +kernel
end MMO
