/-! instructions, one by one (written by wip/whole/gen/gen_all.py). -/
section MMO
theorem o_22_0 : t_OP 22 0 = some (.aload_n 0, 0, 0, 0, 0, .null) := by decide +kernel
theorem o_22_1 : t_OP 22 1 = some (.getfield 36, 6, 4, 0, 0, .null) := by decide +kernel
theorem o_22_4 : t_OP 22 4 = some (.getfield 170, 5, 3, 0, 0, .null) := by decide +kernel
theorem o_22_7 : t_OP 22 7 = some (.ireturn, 0, 0, 0, 0, .null) := by decide +kernel
theorem o_23_0 : t_OP 23 0 = some (.aload_n 0, 0, 0, 0, 0, .null) := by decide +kernel
theorem o_23_1 : t_OP 23 1 = some (.getfield 20, 6, 1, 0, 0, .null) := by decide +kernel
theorem o_23_4 : t_OP 23 4 = some (.aload_n 0, 0, 0, 0, 0, .null) := by decide +kernel
theorem o_23_5 : t_OP 23 5 = some (.getfield 43, 6, 5, 0, 0, .null) := by decide +kernel
theorem o_23_8 : t_OP 23 8 = some (.invokevirtual 215, 24, 0, 1, 0, .null) := by decide +kernel
theorem o_23_11 : t_OP 23 11 = some (.aload_n 0, 0, 0, 0, 0, .null) := by decide +kernel
theorem o_23_12 : t_OP 23 12 = some (.getfield 20, 6, 1, 0, 0, .null) := by decide +kernel
theorem o_23_15 : t_OP 23 15 = some (.getfield 47, 4, 1, 0, 0, .null) := by decide +kernel
theorem o_23_18 : t_OP 23 18 = some (.ireturn, 0, 0, 0, 0, .null) := by decide +kernel
theorem o_24_0 : t_OP 24 0 = some (.aload_n 0, 0, 0, 0, 0, .null) := by decide +kernel
theorem o_24_1 : t_OP 24 1 = some (.iconst (0), 0, 0, 0, 0, .null) := by decide +kernel
theorem o_24_2 : t_OP 24 2 = some (.putfield 15, 4, 1, 0, 0, .null) := by decide +kernel
theorem o_24_5 : t_OP 24 5 = some (.iconst (0), 0, 0, 0, 0, .null) := by decide +kernel
theorem o_24_6 : t_OP 24 6 = some (.istore_n 2, 0, 0, 0, 0, .null) := by decide +kernel
theorem o_24_7 : t_OP 24 7 = some (.iload_n 2, 0, 0, 0, 0, .null) := by decide +kernel
theorem o_24_8 : t_OP 24 8 = some (.aload_n 1, 0, 0, 0, 0, .null) := by decide +kernel
theorem o_24_9 : t_OP 24 9 = some (.getfield 19, 3, 1, 0, 0, .null) := by decide +kernel
theorem o_24_12 : t_OP 24 12 = some (.if_icmp .ge (38), 50, 0, 0, 0, .null) := by decide +kernel
theorem o_24_15 : t_OP 24 15 = some (.iload_n 2, 0, 0, 0, 0, .null) := by decide +kernel
theorem o_24_16 : t_OP 24 16 = some (.sipush (2048), 0, 0, 0, 2048, .null) := by decide +kernel
theorem o_24_19 : t_OP 24 19 = some (.if_icmp .ge (31), 50, 0, 0, 0, .null) := by decide +kernel
theorem o_24_22 : t_OP 24 22 = some (.aload_n 0, 0, 0, 0, 0, .null) := by decide +kernel
theorem o_24_23 : t_OP 24 23 = some (.getfield 9, 4, 0, 0, 0, .null) := by decide +kernel
theorem o_24_26 : t_OP 24 26 = some (.iload_n 2, 0, 0, 0, 0, .null) := by decide +kernel
theorem o_24_27 : t_OP 24 27 = some (.aload_n 1, 0, 0, 0, 0, .null) := by decide +kernel
theorem o_24_28 : t_OP 24 28 = some (.getfield 22, 3, 0, 0, 0, .null) := by decide +kernel
theorem o_24_31 : t_OP 24 31 = some (.iload_n 2, 0, 0, 0, 0, .null) := by decide +kernel
theorem o_24_32 : t_OP 24 32 = some (.baload, 0, 0, 0, 0, .null) := by decide +kernel
theorem o_24_33 : t_OP 24 33 = some (.bastore, 0, 0, 0, 0, .null) := by decide +kernel
theorem o_24_34 : t_OP 24 34 = some (.aload_n 0, 0, 0, 0, 0, .null) := by decide +kernel
theorem o_24_35 : t_OP 24 35 = some (.dup, 0, 0, 0, 0, .null) := by decide +kernel
theorem o_24_36 : t_OP 24 36 = some (.getfield 15, 4, 1, 0, 0, .null) := by decide +kernel
theorem o_24_39 : t_OP 24 39 = some (.iconst (1), 0, 0, 0, 1, .null) := by decide +kernel
theorem o_24_40 : t_OP 24 40 = some (.iadd, 0, 0, 0, 0, .null) := by decide +kernel
theorem o_24_41 : t_OP 24 41 = some (.putfield 15, 4, 1, 0, 0, .null) := by decide +kernel
theorem o_24_44 : t_OP 24 44 = some (.iinc 2 (1), 0, 0, 0, 1, .null) := by decide +kernel
theorem o_24_47 : t_OP 24 47 = some (.goto (-40), 7, 0, 0, 0, .null) := by decide +kernel
theorem o_24_50 : t_OP 24 50 = some (.return_, 0, 0, 0, 0, .null) := by decide +kernel
theorem o_25_0 : t_OP 25 0 = some (.iload_n 1, 0, 0, 0, 0, .null) := by decide +kernel
theorem o_25_1 : t_OP 25 1 = some (.tableswitch (111) (0) (7) #[47, 55, 63, 71, 79, 87, 95, 103], 0, 0, 0, 0, .null) := by decide +kernel
theorem o_25_48 : t_OP 25 48 = some (.aload_n 0, 0, 0, 0, 0, .null) := by decide +kernel
theorem o_25_49 : t_OP 25 49 = some (.getfield 20, 6, 1, 0, 0, .null) := by decide +kernel
theorem o_25_52 : t_OP 25 52 = some (.getfield 47, 4, 1, 0, 0, .null) := by decide +kernel
theorem o_25_55 : t_OP 25 55 = some (.ireturn, 0, 0, 0, 0, .null) := by decide +kernel
theorem o_25_56 : t_OP 25 56 = some (.aload_n 0, 0, 0, 0, 0, .null) := by decide +kernel
theorem o_25_57 : t_OP 25 57 = some (.getfield 25, 6, 2, 0, 0, .null) := by decide +kernel
theorem o_25_60 : t_OP 25 60 = some (.getfield 219, 0, 0, 0, 0, .null) := by decide +kernel
theorem o_25_63 : t_OP 25 63 = some (.ireturn, 0, 0, 0, 0, .null) := by decide +kernel
theorem o_25_64 : t_OP 25 64 = some (.aload_n 0, 0, 0, 0, 0, .null) := by decide +kernel
theorem o_25_65 : t_OP 25 65 = some (.getfield 25, 6, 2, 0, 0, .null) := by decide +kernel
theorem o_25_68 : t_OP 25 68 = some (.getfield 94, 0, 1, 0, 0, .null) := by decide +kernel
theorem o_25_71 : t_OP 25 71 = some (.ireturn, 0, 0, 0, 0, .null) := by decide +kernel
theorem o_25_72 : t_OP 25 72 = some (.aload_n 0, 0, 0, 0, 0, .null) := by decide +kernel
theorem o_25_73 : t_OP 25 73 = some (.getfield 25, 6, 2, 0, 0, .null) := by decide +kernel
theorem o_25_76 : t_OP 25 76 = some (.getfield 145, 0, 2, 0, 0, .null) := by decide +kernel
theorem o_25_79 : t_OP 25 79 = some (.ireturn, 0, 0, 0, 0, .null) := by decide +kernel
theorem o_25_80 : t_OP 25 80 = some (.aload_n 0, 0, 0, 0, 0, .null) := by decide +kernel
theorem o_25_81 : t_OP 25 81 = some (.getfield 25, 6, 2, 0, 0, .null) := by decide +kernel
theorem o_25_84 : t_OP 25 84 = some (.getfield 222, 0, 3, 0, 0, .null) := by decide +kernel
theorem o_25_87 : t_OP 25 87 = some (.ireturn, 0, 0, 0, 0, .null) := by decide +kernel
theorem o_25_88 : t_OP 25 88 = some (.aload_n 0, 0, 0, 0, 0, .null) := by decide +kernel
theorem o_25_89 : t_OP 25 89 = some (.getfield 29, 6, 3, 0, 0, .null) := by decide +kernel
theorem o_25_92 : t_OP 25 92 = some (.getfield 110, 2, 3, 0, 0, .null) := by decide +kernel
theorem o_25_95 : t_OP 25 95 = some (.ireturn, 0, 0, 0, 0, .null) := by decide +kernel
theorem o_25_96 : t_OP 25 96 = some (.aload_n 0, 0, 0, 0, 0, .null) := by decide +kernel
theorem o_25_97 : t_OP 25 97 = some (.getfield 43, 6, 5, 0, 0, .null) := by decide +kernel
theorem o_25_100 : t_OP 25 100 = some (.getfield 208, 3, 1, 0, 0, .null) := by decide +kernel
theorem o_25_103 : t_OP 25 103 = some (.ireturn, 0, 0, 0, 0, .null) := by decide +kernel
theorem o_25_104 : t_OP 25 104 = some (.aload_n 0, 0, 0, 0, 0, .null) := by decide +kernel
theorem o_25_105 : t_OP 25 105 = some (.getfield 36, 6, 4, 0, 0, .null) := by decide +kernel
theorem o_25_108 : t_OP 25 108 = some (.getfield 225, 5, 2, 0, 0, .null) := by decide +kernel
theorem o_25_111 : t_OP 25 111 = some (.ireturn, 0, 0, 0, 0, .null) := by decide +kernel
theorem o_25_112 : t_OP 25 112 = some (.iconst (-1), 0, 0, 0, (-1), .null) := by decide +kernel
theorem o_25_113 : t_OP 25 113 = some (.ireturn, 0, 0, 0, 0, .null) := by decide +kernel
theorem o_26_0 : t_OP 26 0 = some (.aload_n 0, 0, 0, 0, 0, .null) := by decide +kernel
theorem o_26_1 : t_OP 26 1 = some (.getfield 20, 6, 1, 0, 0, .null) := by decide +kernel
theorem o_26_4 : t_OP 26 4 = some (.getfield 47, 4, 1, 0, 0, .null) := by decide +kernel
theorem o_26_7 : t_OP 26 7 = some (.bipush (16), 0, 0, 0, 16, .null) := by decide +kernel
theorem o_26_9 : t_OP 26 9 = some (.iadd, 0, 0, 0, 0, .null) := by decide +kernel
theorem o_26_10 : t_OP 26 10 = some (.sipush (2048), 0, 0, 0, 2048, .null) := by decide +kernel
theorem o_26_13 : t_OP 26 13 = some (.if_icmp .le (13), 26, 0, 0, 0, .null) := by decide +kernel
theorem o_26_16 : t_OP 26 16 = some (.new 53, 100, 0, 0, 0, .null) := by decide +kernel
theorem o_26_26 : t_OP 26 26 = some (.aload_n 0, 0, 0, 0, 0, .null) := by decide +kernel
theorem o_26_27 : t_OP 26 27 = some (.getfield 20, 6, 1, 0, 0, .null) := by decide +kernel
theorem o_26_30 : t_OP 26 30 = some (.iload_n 1, 0, 0, 0, 0, .null) := by decide +kernel
theorem o_26_31 : t_OP 26 31 = some (.invokevirtual 60, 27, 0, 1, 0, .null) := by decide +kernel
theorem o_26_34 : t_OP 26 34 = some (.aload_n 0, 0, 0, 0, 0, .null) := by decide +kernel
theorem o_26_35 : t_OP 26 35 = some (.getfield 20, 6, 1, 0, 0, .null) := by decide +kernel
theorem o_26_38 : t_OP 26 38 = some (.iload_n 2, 0, 0, 0, 0, .null) := by decide +kernel
theorem o_26_39 : t_OP 26 39 = some (.invokevirtual 60, 27, 0, 1, 0, .null) := by decide +kernel
theorem o_26_42 : t_OP 26 42 = some (.aload_n 0, 0, 0, 0, 0, .null) := by decide +kernel
theorem o_26_43 : t_OP 26 43 = some (.getfield 20, 6, 1, 0, 0, .null) := by decide +kernel
theorem o_26_46 : t_OP 26 46 = some (.iload_n 3, 0, 0, 0, 0, .null) := by decide +kernel
theorem o_26_47 : t_OP 26 47 = some (.invokevirtual 60, 27, 0, 1, 0, .null) := by decide +kernel
theorem o_26_50 : t_OP 26 50 = some (.aload_n 0, 0, 0, 0, 0, .null) := by decide +kernel
theorem o_26_51 : t_OP 26 51 = some (.getfield 20, 6, 1, 0, 0, .null) := by decide +kernel
theorem o_26_54 : t_OP 26 54 = some (.iload 4, 0, 0, 0, 0, .null) := by decide +kernel
theorem o_26_56 : t_OP 26 56 = some (.invokevirtual 60, 27, 0, 1, 0, .null) := by decide +kernel
theorem o_26_59 : t_OP 26 59 = some (.aload_n 0, 0, 0, 0, 0, .null) := by decide +kernel
theorem o_26_60 : t_OP 26 60 = some (.getfield 20, 6, 1, 0, 0, .null) := by decide +kernel
theorem o_26_63 : t_OP 26 63 = some (.getfield 47, 4, 1, 0, 0, .null) := by decide +kernel
theorem o_26_66 : t_OP 26 66 = some (.ireturn, 0, 0, 0, 0, .null) := by decide +kernel
theorem o_27_0 : t_OP 27 0 = some (.bipush (24), 0, 0, 0, 24, .null) := by decide +kernel
theorem o_27_2 : t_OP 27 2 = some (.istore_n 2, 0, 0, 0, 0, .null) := by decide +kernel
theorem o_27_3 : t_OP 27 3 = some (.iload_n 2, 0, 0, 0, 0, .null) := by decide +kernel
theorem o_27_4 : t_OP 27 4 = some (.ifCond .lt (42), 46, 0, 0, 0, .null) := by decide +kernel
theorem o_27_7 : t_OP 27 7 = some (.aload_n 0, 0, 0, 0, 0, .null) := by decide +kernel
theorem o_27_8 : t_OP 27 8 = some (.getfield 15, 4, 1, 0, 0, .null) := by decide +kernel
theorem o_27_11 : t_OP 27 11 = some (.sipush (2048), 0, 0, 0, 2048, .null) := by decide +kernel
theorem o_27_14 : t_OP 27 14 = some (.if_icmp .ge (32), 46, 0, 0, 0, .null) := by decide +kernel
theorem o_27_17 : t_OP 27 17 = some (.aload_n 0, 0, 0, 0, 0, .null) := by decide +kernel
theorem o_27_18 : t_OP 27 18 = some (.getfield 9, 4, 0, 0, 0, .null) := by decide +kernel
theorem o_27_21 : t_OP 27 21 = some (.aload_n 0, 0, 0, 0, 0, .null) := by decide +kernel
theorem o_27_22 : t_OP 27 22 = some (.getfield 15, 4, 1, 0, 0, .null) := by decide +kernel
theorem o_27_25 : t_OP 27 25 = some (.iload_n 1, 0, 0, 0, 0, .null) := by decide +kernel
theorem o_27_26 : t_OP 27 26 = some (.iload_n 2, 0, 0, 0, 0, .null) := by decide +kernel
theorem o_27_27 : t_OP 27 27 = some (.iushr, 0, 0, 0, 0, .null) := by decide +kernel
theorem o_27_28 : t_OP 27 28 = some (.i2b, 0, 0, 0, 0, .null) := by decide +kernel
theorem o_27_29 : t_OP 27 29 = some (.bastore, 0, 0, 0, 0, .null) := by decide +kernel
theorem o_27_30 : t_OP 27 30 = some (.aload_n 0, 0, 0, 0, 0, .null) := by decide +kernel
theorem o_27_31 : t_OP 27 31 = some (.dup, 0, 0, 0, 0, .null) := by decide +kernel
theorem o_27_32 : t_OP 27 32 = some (.getfield 15, 4, 1, 0, 0, .null) := by decide +kernel
theorem o_27_35 : t_OP 27 35 = some (.iconst (1), 0, 0, 0, 1, .null) := by decide +kernel
theorem o_27_36 : t_OP 27 36 = some (.iadd, 0, 0, 0, 0, .null) := by decide +kernel
theorem o_27_37 : t_OP 27 37 = some (.putfield 15, 4, 1, 0, 0, .null) := by decide +kernel
theorem o_27_40 : t_OP 27 40 = some (.iinc 2 (-8), 0, 0, 0, (-8), .null) := by decide +kernel
theorem o_27_43 : t_OP 27 43 = some (.goto (-40), 3, 0, 0, 0, .null) := by decide +kernel
theorem o_27_46 : t_OP 27 46 = some (.return_, 0, 0, 0, 0, .null) := by decide +kernel
theorem o_28_0 : t_OP 28 0 = some (.iload_n 1, 0, 0, 0, 0, .null) := by decide +kernel
theorem o_28_1 : t_OP 28 1 = some (.ifCond .lt (9), 10, 0, 0, 0, .null) := by decide +kernel
theorem o_28_4 : t_OP 28 4 = some (.iload_n 1, 0, 0, 0, 0, .null) := by decide +kernel
theorem o_28_5 : t_OP 28 5 = some (.bipush (16), 0, 0, 0, 16, .null) := by decide +kernel
theorem o_28_7 : t_OP 28 7 = some (.if_icmp .le (13), 20, 0, 0, 0, .null) := by decide +kernel
theorem o_28_10 : t_OP 28 10 = some (.new 64, 101, 0, 0, 0, .null) := by decide +kernel
theorem o_28_20 : t_OP 28 20 = some (.aload_n 0, 0, 0, 0, 0, .null) := by decide +kernel
theorem o_28_21 : t_OP 28 21 = some (.getfield 20, 6, 1, 0, 0, .null) := by decide +kernel
theorem o_28_24 : t_OP 28 24 = some (.getfield 47, 4, 1, 0, 0, .null) := by decide +kernel
theorem o_28_27 : t_OP 28 27 = some (.bipush (16), 0, 0, 0, 16, .null) := by decide +kernel
theorem o_28_29 : t_OP 28 29 = some (.if_icmp .ge (13), 42, 0, 0, 0, .null) := by decide +kernel
theorem o_28_32 : t_OP 28 32 = some (.new 53, 100, 0, 0, 0, .null) := by decide +kernel
theorem o_28_42 : t_OP 28 42 = some (.aload_n 0, 0, 0, 0, 0, .null) := by decide +kernel
theorem o_28_43 : t_OP 28 43 = some (.getfield 20, 6, 1, 0, 0, .null) := by decide +kernel
theorem o_28_46 : t_OP 28 46 = some (.aload_n 0, 0, 0, 0, 0, .null) := by decide +kernel
theorem o_28_47 : t_OP 28 47 = some (.getfield 20, 6, 1, 0, 0, .null) := by decide +kernel
theorem o_28_50 : t_OP 28 50 = some (.getfield 47, 4, 1, 0, 0, .null) := by decide +kernel
theorem o_28_53 : t_OP 28 53 = some (.bipush (16), 0, 0, 0, 16, .null) := by decide +kernel
theorem o_28_55 : t_OP 28 55 = some (.isub, 0, 0, 0, 0, .null) := by decide +kernel
theorem o_28_56 : t_OP 28 56 = some (.iload_n 1, 0, 0, 0, 0, .null) := by decide +kernel
theorem o_28_57 : t_OP 28 57 = some (.iadd, 0, 0, 0, 0, .null) := by decide +kernel
theorem o_28_58 : t_OP 28 58 = some (.putfield 47, 4, 1, 0, 0, .null) := by decide +kernel
theorem o_28_61 : t_OP 28 61 = some (.aload_n 0, 0, 0, 0, 0, .null) := by decide +kernel
theorem o_28_62 : t_OP 28 62 = some (.getfield 20, 6, 1, 0, 0, .null) := by decide +kernel
theorem o_28_65 : t_OP 28 65 = some (.getfield 47, 4, 1, 0, 0, .null) := by decide +kernel
theorem o_28_68 : t_OP 28 68 = some (.ireturn, 0, 0, 0, 0, .null) := by decide +kernel
theorem o_29_0 : t_OP 29 0 = some (.aload_n 0, 0, 0, 0, 0, .null) := by decide +kernel
theorem o_29_1 : t_OP 29 1 = some (.getfield 36, 6, 4, 0, 0, .null) := by decide +kernel
theorem o_29_4 : t_OP 29 4 = some (.invokevirtual 71, 30, 0, 0, 0, .null) := by decide +kernel
theorem o_29_7 : t_OP 29 7 = some (.aload_n 0, 0, 0, 0, 0, .null) := by decide +kernel
theorem o_29_8 : t_OP 29 8 = some (.getfield 10, 6, 0, 0, 0, .null) := by decide +kernel
theorem o_29_11 : t_OP 29 11 = some (.invokevirtual 74, 31, 0, 0, 0, .null) := by decide +kernel
theorem o_29_14 : t_OP 29 14 = some (.aload_n 0, 0, 0, 0, 0, .null) := by decide +kernel
theorem o_29_15 : t_OP 29 15 = some (.getfield 10, 6, 0, 0, 0, .null) := by decide +kernel
theorem o_29_18 : t_OP 29 18 = some (.invokevirtual 77, 39, 0, 0, 0, .null) := by decide +kernel
theorem o_29_21 : t_OP 29 21 = some (.ifCond .eq (27), 48, 0, 0, 0, .null) := by decide +kernel
theorem o_29_24 : t_OP 29 24 = some (.aload_n 0, 0, 0, 0, 0, .null) := by decide +kernel
theorem o_29_25 : t_OP 29 25 = some (.getfield 10, 6, 0, 0, 0, .null) := by decide +kernel
theorem o_29_28 : t_OP 29 28 = some (.invokevirtual 81, 61, 0, 0, 0, .null) := by decide +kernel
theorem o_29_31 : t_OP 29 31 = some (.ifCond .eq (17), 48, 0, 0, 0, .null) := by decide +kernel
theorem o_29_34 : t_OP 29 34 = some (.aload_n 0, 0, 0, 0, 0, .null) := by decide +kernel
theorem o_29_35 : t_OP 29 35 = some (.getfield 10, 6, 0, 0, 0, .null) := by decide +kernel
theorem o_29_38 : t_OP 29 38 = some (.invokevirtual 84, 66, 0, 0, 0, .null) := by decide +kernel
theorem o_29_41 : t_OP 29 41 = some (.ifCond .eq (7), 48, 0, 0, 0, .null) := by decide +kernel
theorem o_29_44 : t_OP 29 44 = some (.iconst (1), 0, 0, 0, 1, .null) := by decide +kernel
theorem o_29_45 : t_OP 29 45 = some (.goto (4), 49, 0, 0, 0, .null) := by decide +kernel
theorem o_29_48 : t_OP 29 48 = some (.iconst (0), 0, 0, 0, 0, .null) := by decide +kernel
theorem o_29_49 : t_OP 29 49 = some (.istore_n 1, 0, 0, 0, 0, .null) := by decide +kernel
theorem o_29_50 : t_OP 29 50 = some (.aload_n 0, 0, 0, 0, 0, .null) := by decide +kernel
theorem o_29_51 : t_OP 29 51 = some (.getfield 20, 6, 1, 0, 0, .null) := by decide +kernel
theorem o_29_54 : t_OP 29 54 = some (.iconst (0), 0, 0, 0, 0, .null) := by decide +kernel
theorem o_29_55 : t_OP 29 55 = some (.putfield 47, 4, 1, 0, 0, .null) := by decide +kernel
theorem o_29_58 : t_OP 29 58 = some (.iload_n 1, 0, 0, 0, 0, .null) := by decide +kernel
theorem o_29_59 : t_OP 29 59 = some (.ifCond .ne (20), 79, 0, 0, 0, .null) := by decide +kernel
theorem o_29_62 : t_OP 29 62 = some (.aload_n 0, 0, 0, 0, 0, .null) := by decide +kernel
theorem o_29_63 : t_OP 29 63 = some (.getfield 25, 6, 2, 0, 0, .null) := by decide +kernel
theorem o_29_66 : t_OP 29 66 = some (.invokevirtual 87, 32, 0, 0, 0, .null) := by decide +kernel
theorem o_29_69 : t_OP 29 69 = some (.new 64, 101, 0, 0, 0, .null) := by decide +kernel
theorem o_29_79 : t_OP 29 79 = some (.aload_n 0, 0, 0, 0, 0, .null) := by decide +kernel
theorem o_29_80 : t_OP 29 80 = some (.getfield 25, 6, 2, 0, 0, .null) := by decide +kernel
theorem o_29_83 : t_OP 29 83 = some (.getfield 94, 0, 1, 0, 0, .null) := by decide +kernel
theorem o_29_86 : t_OP 29 86 = some (.ireturn, 0, 0, 0, 0, .null) := by decide +kernel
theorem o_30_0 : t_OP 30 0 = some (.aload_n 0, 0, 0, 0, 0, .null) := by decide +kernel
theorem o_30_1 : t_OP 30 1 = some (.iconst (0), 0, 0, 0, 0, .null) := by decide +kernel
theorem o_30_2 : t_OP 30 2 = some (.putfield 19, 5, 1, 0, 0, .null) := by decide +kernel
theorem o_30_5 : t_OP 30 5 = some (.aload_n 0, 0, 0, 0, 0, .null) := by decide +kernel
theorem o_30_6 : t_OP 30 6 = some (.iconst (0), 0, 0, 0, 0, .null) := by decide +kernel
theorem o_30_7 : t_OP 30 7 = some (.putfield 22, 5, 2, 0, 0, .null) := by decide +kernel
theorem o_30_10 : t_OP 30 10 = some (.aload_n 0, 0, 0, 0, 0, .null) := by decide +kernel
theorem o_30_11 : t_OP 30 11 = some (.iconst (-1), 0, 0, 0, (-1), .null) := by decide +kernel
theorem o_30_12 : t_OP 30 12 = some (.putfield 15, 5, 3, 0, 0, .null) := by decide +kernel
theorem o_30_15 : t_OP 30 15 = some (.return_, 0, 0, 0, 0, .null) := by decide +kernel
theorem o_31_0 : t_OP 31 0 = some (.aload_n 0, 0, 0, 0, 0, .null) := by decide +kernel
theorem o_31_1 : t_OP 31 1 = some (.getfield 21, 1, 1, 0, 0, .null) := by decide +kernel
theorem o_31_4 : t_OP 31 4 = some (.invokevirtual 25, 32, 0, 0, 0, .null) := by decide +kernel
theorem o_31_7 : t_OP 31 7 = some (.aload_n 0, 0, 0, 0, 0, .null) := by decide +kernel
theorem o_31_8 : t_OP 31 8 = some (.iconst (0), 0, 0, 0, 0, .null) := by decide +kernel
theorem o_31_9 : t_OP 31 9 = some (.putfield 28, 1, 2, 0, 0, .null) := by decide +kernel
theorem o_31_12 : t_OP 31 12 = some (.aload_n 0, 0, 0, 0, 0, .null) := by decide +kernel
theorem o_31_13 : t_OP 31 13 = some (.iconst (0), 0, 0, 0, 0, .null) := by decide +kernel
theorem o_31_14 : t_OP 31 14 = some (.putfield 32, 1, 3, 0, 0, .null) := by decide +kernel
theorem o_31_17 : t_OP 31 17 = some (.aload_n 0, 0, 0, 0, 0, .null) := by decide +kernel
theorem o_31_18 : t_OP 31 18 = some (.getfield 12, 1, 0, 0, 0, .null) := by decide +kernel
theorem o_31_21 : t_OP 31 21 = some (.invokevirtual 35, 33, 0, 0, 0, .null) := by decide +kernel
theorem o_31_24 : t_OP 31 24 = some (.return_, 0, 0, 0, 0, .null) := by decide +kernel
theorem o_32_0 : t_OP 32 0 = some (.aload_n 0, 0, 0, 0, 0, .null) := by decide +kernel
theorem o_32_1 : t_OP 32 1 = some (.iconst (0), 0, 0, 0, 0, .null) := by decide +kernel
theorem o_32_2 : t_OP 32 2 = some (.putfield 33, 0, 0, 0, 0, .null) := by decide +kernel
theorem o_32_5 : t_OP 32 5 = some (.aload_n 0, 0, 0, 0, 0, .null) := by decide +kernel
theorem o_32_6 : t_OP 32 6 = some (.iconst (0), 0, 0, 0, 0, .null) := by decide +kernel
theorem o_32_7 : t_OP 32 7 = some (.putfield 37, 0, 1, 0, 0, .null) := by decide +kernel
theorem o_32_10 : t_OP 32 10 = some (.aload_n 0, 0, 0, 0, 0, .null) := by decide +kernel
theorem o_32_11 : t_OP 32 11 = some (.iconst (0), 0, 0, 0, 0, .null) := by decide +kernel
theorem o_32_12 : t_OP 32 12 = some (.putfield 40, 0, 2, 0, 0, .null) := by decide +kernel
theorem o_32_15 : t_OP 32 15 = some (.aload_n 0, 0, 0, 0, 0, .null) := by decide +kernel
theorem o_32_16 : t_OP 32 16 = some (.iconst (0), 0, 0, 0, 0, .null) := by decide +kernel
theorem o_32_17 : t_OP 32 17 = some (.putfield 43, 0, 3, 0, 0, .null) := by decide +kernel
theorem o_32_20 : t_OP 32 20 = some (.return_, 0, 0, 0, 0, .null) := by decide +kernel
theorem o_33_0 : t_OP 33 0 = some (.aload_n 0, 0, 0, 0, 0, .null) := by decide +kernel
theorem o_33_1 : t_OP 33 1 = some (.iconst (0), 0, 0, 0, 0, .null) := by decide +kernel
theorem o_33_2 : t_OP 33 2 = some (.putfield 23, 4, 4, 0, 0, .null) := by decide +kernel
theorem o_33_5 : t_OP 33 5 = some (.aload_n 0, 0, 0, 0, 0, .null) := by decide +kernel
theorem o_33_6 : t_OP 33 6 = some (.invokevirtual 26, 34, 0, 0, 0, .null) := by decide +kernel
theorem o_33_9 : t_OP 33 9 = some (.return_, 0, 0, 0, 0, .null) := by decide +kernel
theorem o_34_0 : t_OP 34 0 = some (.aload_n 0, 0, 0, 0, 0, .null) := by decide +kernel
theorem o_34_1 : t_OP 34 1 = some (.getfield 23, 4, 4, 0, 0, .null) := by decide +kernel
theorem o_34_4 : t_OP 34 4 = some (.aload_n 0, 0, 0, 0, 0, .null) := by decide +kernel
theorem o_34_5 : t_OP 34 5 = some (.getfield 15, 4, 1, 0, 0, .null) := by decide +kernel
theorem o_34_8 : t_OP 34 8 = some (.if_icmp .ge (44), 52, 0, 0, 0, .null) := by decide +kernel
theorem o_34_11 : t_OP 34 11 = some (.aload_n 0, 0, 0, 0, 0, .null) := by decide +kernel
theorem o_34_12 : t_OP 34 12 = some (.getfield 9, 4, 0, 0, 0, .null) := by decide +kernel
theorem o_34_15 : t_OP 34 15 = some (.aload_n 0, 0, 0, 0, 0, .null) := by decide +kernel
theorem o_34_16 : t_OP 34 16 = some (.getfield 23, 4, 4, 0, 0, .null) := by decide +kernel
theorem o_34_19 : t_OP 34 19 = some (.baload, 0, 0, 0, 0, .null) := by decide +kernel
theorem o_34_20 : t_OP 34 20 = some (.bipush (10), 0, 0, 0, 10, .null) := by decide +kernel
theorem o_34_22 : t_OP 34 22 = some (.if_icmp .eq (17), 39, 0, 0, 0, .null) := by decide +kernel
theorem o_34_25 : t_OP 34 25 = some (.aload_n 0, 0, 0, 0, 0, .null) := by decide +kernel
theorem o_34_26 : t_OP 34 26 = some (.getfield 9, 4, 0, 0, 0, .null) := by decide +kernel
theorem o_34_29 : t_OP 34 29 = some (.aload_n 0, 0, 0, 0, 0, .null) := by decide +kernel
theorem o_34_30 : t_OP 34 30 = some (.getfield 23, 4, 4, 0, 0, .null) := by decide +kernel
theorem o_34_33 : t_OP 34 33 = some (.baload, 0, 0, 0, 0, .null) := by decide +kernel
theorem o_34_34 : t_OP 34 34 = some (.bipush (32), 0, 0, 0, 32, .null) := by decide +kernel
theorem o_34_36 : t_OP 34 36 = some (.if_icmp .ne (16), 52, 0, 0, 0, .null) := by decide +kernel
theorem o_34_39 : t_OP 34 39 = some (.aload_n 0, 0, 0, 0, 0, .null) := by decide +kernel
theorem o_34_40 : t_OP 34 40 = some (.dup, 0, 0, 0, 0, .null) := by decide +kernel
theorem o_34_41 : t_OP 34 41 = some (.getfield 23, 4, 4, 0, 0, .null) := by decide +kernel
theorem o_34_44 : t_OP 34 44 = some (.iconst (1), 0, 0, 0, 1, .null) := by decide +kernel
theorem o_34_45 : t_OP 34 45 = some (.iadd, 0, 0, 0, 0, .null) := by decide +kernel
theorem o_34_46 : t_OP 34 46 = some (.putfield 23, 4, 4, 0, 0, .null) := by decide +kernel
theorem o_34_49 : t_OP 34 49 = some (.goto (-49), 0, 0, 0, 0, .null) := by decide +kernel
theorem o_34_52 : t_OP 34 52 = some (.aload_n 0, 0, 0, 0, 0, .null) := by decide +kernel
theorem o_34_53 : t_OP 34 53 = some (.aload_n 0, 0, 0, 0, 0, .null) := by decide +kernel
theorem o_34_54 : t_OP 34 54 = some (.getfield 23, 4, 4, 0, 0, .null) := by decide +kernel
theorem o_34_57 : t_OP 34 57 = some (.putfield 29, 4, 3, 0, 0, .null) := by decide +kernel
theorem o_34_60 : t_OP 34 60 = some (.aload_n 0, 0, 0, 0, 0, .null) := by decide +kernel
theorem o_34_61 : t_OP 34 61 = some (.getfield 23, 4, 4, 0, 0, .null) := by decide +kernel
theorem o_34_64 : t_OP 34 64 = some (.aload_n 0, 0, 0, 0, 0, .null) := by decide +kernel
theorem o_34_65 : t_OP 34 65 = some (.getfield 15, 4, 1, 0, 0, .null) := by decide +kernel
theorem o_34_68 : t_OP 34 68 = some (.if_icmp .lt (11), 79, 0, 0, 0, .null) := by decide +kernel
theorem o_34_71 : t_OP 34 71 = some (.aload_n 0, 0, 0, 0, 0, .null) := by decide +kernel
theorem o_34_72 : t_OP 34 72 = some (.iconst (4), 0, 0, 0, 4, .null) := by decide +kernel
theorem o_34_73 : t_OP 34 73 = some (.putfield 32, 4, 2, 0, 0, .null) := by decide +kernel
theorem o_34_76 : t_OP 34 76 = some (.goto (204), 280, 0, 0, 0, .null) := by decide +kernel
theorem o_34_79 : t_OP 34 79 = some (.aload_n 0, 0, 0, 0, 0, .null) := by decide +kernel
theorem o_34_80 : t_OP 34 80 = some (.getfield 9, 4, 0, 0, 0, .null) := by decide +kernel
theorem o_34_83 : t_OP 34 83 = some (.aload_n 0, 0, 0, 0, 0, .null) := by decide +kernel
theorem o_34_84 : t_OP 34 84 = some (.getfield 23, 4, 4, 0, 0, .null) := by decide +kernel
theorem o_34_87 : t_OP 34 87 = some (.baload, 0, 0, 0, 0, .null) := by decide +kernel
theorem o_34_88 : t_OP 34 88 = some (.invokestatic 35, 35, 2, 1, 0, .null) := by decide +kernel
theorem o_34_91 : t_OP 34 91 = some (.ifCond .eq (62), 153, 0, 0, 0, .null) := by decide +kernel
theorem o_34_94 : t_OP 34 94 = some (.aload_n 0, 0, 0, 0, 0, .null) := by decide +kernel
theorem o_34_95 : t_OP 34 95 = some (.iconst (0), 0, 0, 0, 0, .null) := by decide +kernel
theorem o_34_96 : t_OP 34 96 = some (.putfield 32, 4, 2, 0, 0, .null) := by decide +kernel
theorem o_34_99 : t_OP 34 99 = some (.aload_n 0, 0, 0, 0, 0, .null) := by decide +kernel
theorem o_34_100 : t_OP 34 100 = some (.getfield 23, 4, 4, 0, 0, .null) := by decide +kernel
theorem o_34_103 : t_OP 34 103 = some (.aload_n 0, 0, 0, 0, 0, .null) := by decide +kernel
theorem o_34_104 : t_OP 34 104 = some (.getfield 15, 4, 1, 0, 0, .null) := by decide +kernel
theorem o_34_107 : t_OP 34 107 = some (.if_icmp .ge (173), 280, 0, 0, 0, .null) := by decide +kernel
theorem o_34_110 : t_OP 34 110 = some (.aload_n 0, 0, 0, 0, 0, .null) := by decide +kernel
theorem o_34_111 : t_OP 34 111 = some (.getfield 9, 4, 0, 0, 0, .null) := by decide +kernel
theorem o_34_114 : t_OP 34 114 = some (.aload_n 0, 0, 0, 0, 0, .null) := by decide +kernel
theorem o_34_115 : t_OP 34 115 = some (.getfield 23, 4, 4, 0, 0, .null) := by decide +kernel
theorem o_34_118 : t_OP 34 118 = some (.baload, 0, 0, 0, 0, .null) := by decide +kernel
theorem o_34_119 : t_OP 34 119 = some (.invokestatic 35, 35, 2, 1, 0, .null) := by decide +kernel
theorem o_34_122 : t_OP 34 122 = some (.ifCond .ne (18), 140, 0, 0, 0, .null) := by decide +kernel
theorem o_34_125 : t_OP 34 125 = some (.aload_n 0, 0, 0, 0, 0, .null) := by decide +kernel
theorem o_34_126 : t_OP 34 126 = some (.getfield 9, 4, 0, 0, 0, .null) := by decide +kernel
theorem o_34_129 : t_OP 34 129 = some (.aload_n 0, 0, 0, 0, 0, .null) := by decide +kernel
theorem o_34_130 : t_OP 34 130 = some (.getfield 23, 4, 4, 0, 0, .null) := by decide +kernel
theorem o_34_133 : t_OP 34 133 = some (.baload, 0, 0, 0, 0, .null) := by decide +kernel
theorem o_34_134 : t_OP 34 134 = some (.invokestatic 39, 36, 2, 1, 0, .null) := by decide +kernel
theorem o_34_137 : t_OP 34 137 = some (.ifCond .eq (143), 280, 0, 0, 0, .null) := by decide +kernel
theorem o_34_140 : t_OP 34 140 = some (.aload_n 0, 0, 0, 0, 0, .null) := by decide +kernel
theorem o_34_141 : t_OP 34 141 = some (.dup, 0, 0, 0, 0, .null) := by decide +kernel
theorem o_34_142 : t_OP 34 142 = some (.getfield 23, 4, 4, 0, 0, .null) := by decide +kernel
theorem o_34_145 : t_OP 34 145 = some (.iconst (1), 0, 0, 0, 1, .null) := by decide +kernel
theorem o_34_146 : t_OP 34 146 = some (.iadd, 0, 0, 0, 0, .null) := by decide +kernel
theorem o_34_147 : t_OP 34 147 = some (.putfield 23, 4, 4, 0, 0, .null) := by decide +kernel
theorem o_34_150 : t_OP 34 150 = some (.goto (-51), 99, 0, 0, 0, .null) := by decide +kernel
theorem o_34_153 : t_OP 34 153 = some (.aload_n 0, 0, 0, 0, 0, .null) := by decide +kernel
theorem o_34_154 : t_OP 34 154 = some (.getfield 9, 4, 0, 0, 0, .null) := by decide +kernel
theorem o_34_157 : t_OP 34 157 = some (.aload_n 0, 0, 0, 0, 0, .null) := by decide +kernel
theorem o_34_158 : t_OP 34 158 = some (.getfield 23, 4, 4, 0, 0, .null) := by decide +kernel
theorem o_34_161 : t_OP 34 161 = some (.baload, 0, 0, 0, 0, .null) := by decide +kernel
theorem o_34_162 : t_OP 34 162 = some (.invokestatic 39, 36, 2, 1, 0, .null) := by decide +kernel
theorem o_34_165 : t_OP 34 165 = some (.ifCond .eq (81), 246, 0, 0, 0, .null) := by decide +kernel
theorem o_34_168 : t_OP 34 168 = some (.aload_n 0, 0, 0, 0, 0, .null) := by decide +kernel
theorem o_34_169 : t_OP 34 169 = some (.iconst (1), 0, 0, 0, 1, .null) := by decide +kernel
theorem o_34_170 : t_OP 34 170 = some (.putfield 32, 4, 2, 0, 0, .null) := by decide +kernel
theorem o_34_173 : t_OP 34 173 = some (.aload_n 0, 0, 0, 0, 0, .null) := by decide +kernel
theorem o_34_174 : t_OP 34 174 = some (.iconst (0), 0, 0, 0, 0, .null) := by decide +kernel
theorem o_34_175 : t_OP 34 175 = some (.putfield 42, 4, 5, 0, 0, .null) := by decide +kernel
theorem o_34_178 : t_OP 34 178 = some (.aload_n 0, 0, 0, 0, 0, .null) := by decide +kernel
theorem o_34_179 : t_OP 34 179 = some (.getfield 23, 4, 4, 0, 0, .null) := by decide +kernel
theorem o_34_182 : t_OP 34 182 = some (.aload_n 0, 0, 0, 0, 0, .null) := by decide +kernel
theorem o_34_183 : t_OP 34 183 = some (.getfield 15, 4, 1, 0, 0, .null) := by decide +kernel
theorem o_34_186 : t_OP 34 186 = some (.if_icmp .ge (94), 280, 0, 0, 0, .null) := by decide +kernel
theorem o_34_189 : t_OP 34 189 = some (.aload_n 0, 0, 0, 0, 0, .null) := by decide +kernel
theorem o_34_190 : t_OP 34 190 = some (.getfield 9, 4, 0, 0, 0, .null) := by decide +kernel
theorem o_34_193 : t_OP 34 193 = some (.aload_n 0, 0, 0, 0, 0, .null) := by decide +kernel
theorem o_34_194 : t_OP 34 194 = some (.getfield 23, 4, 4, 0, 0, .null) := by decide +kernel
theorem o_34_197 : t_OP 34 197 = some (.baload, 0, 0, 0, 0, .null) := by decide +kernel
theorem o_34_198 : t_OP 34 198 = some (.invokestatic 39, 36, 2, 1, 0, .null) := by decide +kernel
theorem o_34_201 : t_OP 34 201 = some (.ifCond .eq (79), 280, 0, 0, 0, .null) := by decide +kernel
theorem o_34_204 : t_OP 34 204 = some (.aload_n 0, 0, 0, 0, 0, .null) := by decide +kernel
theorem o_34_205 : t_OP 34 205 = some (.aload_n 0, 0, 0, 0, 0, .null) := by decide +kernel
theorem o_34_206 : t_OP 34 206 = some (.getfield 42, 4, 5, 0, 0, .null) := by decide +kernel
theorem o_34_209 : t_OP 34 209 = some (.bipush (10), 0, 0, 0, 10, .null) := by decide +kernel
theorem o_34_211 : t_OP 34 211 = some (.imul, 0, 0, 0, 0, .null) := by decide +kernel
theorem o_34_212 : t_OP 34 212 = some (.aload_n 0, 0, 0, 0, 0, .null) := by decide +kernel
theorem o_34_213 : t_OP 34 213 = some (.getfield 9, 4, 0, 0, 0, .null) := by decide +kernel
theorem o_34_216 : t_OP 34 216 = some (.aload_n 0, 0, 0, 0, 0, .null) := by decide +kernel
theorem o_34_217 : t_OP 34 217 = some (.getfield 23, 4, 4, 0, 0, .null) := by decide +kernel
theorem o_34_220 : t_OP 34 220 = some (.baload, 0, 0, 0, 0, .null) := by decide +kernel
theorem o_34_221 : t_OP 34 221 = some (.iadd, 0, 0, 0, 0, .null) := by decide +kernel
theorem o_34_222 : t_OP 34 222 = some (.bipush (48), 0, 0, 0, 48, .null) := by decide +kernel
theorem o_34_224 : t_OP 34 224 = some (.isub, 0, 0, 0, 0, .null) := by decide +kernel
theorem o_34_225 : t_OP 34 225 = some (.bipush (100), 0, 0, 0, 100, .null) := by decide +kernel
theorem o_34_227 : t_OP 34 227 = some (.invokestatic 45, 0, 6, 2, 0, .null) := by decide +kernel
theorem o_34_230 : t_OP 34 230 = some (.putfield 42, 4, 5, 0, 0, .null) := by decide +kernel
theorem o_34_233 : t_OP 34 233 = some (.aload_n 0, 0, 0, 0, 0, .null) := by decide +kernel
theorem o_34_234 : t_OP 34 234 = some (.dup, 0, 0, 0, 0, .null) := by decide +kernel
theorem o_34_235 : t_OP 34 235 = some (.getfield 23, 4, 4, 0, 0, .null) := by decide +kernel
theorem o_34_238 : t_OP 34 238 = some (.iconst (1), 0, 0, 0, 1, .null) := by decide +kernel
theorem o_34_239 : t_OP 34 239 = some (.iadd, 0, 0, 0, 0, .null) := by decide +kernel
theorem o_34_240 : t_OP 34 240 = some (.putfield 23, 4, 4, 0, 0, .null) := by decide +kernel
theorem o_34_243 : t_OP 34 243 = some (.goto (-65), 178, 0, 0, 0, .null) := by decide +kernel
theorem o_34_246 : t_OP 34 246 = some (.aload_n 0, 0, 0, 0, 0, .null) := by decide +kernel
theorem o_34_247 : t_OP 34 247 = some (.aload_n 0, 0, 0, 0, 0, .null) := by decide +kernel
theorem o_34_248 : t_OP 34 248 = some (.getfield 9, 4, 0, 0, 0, .null) := by decide +kernel
theorem o_34_251 : t_OP 34 251 = some (.aload_n 0, 0, 0, 0, 0, .null) := by decide +kernel
theorem o_34_252 : t_OP 34 252 = some (.getfield 23, 4, 4, 0, 0, .null) := by decide +kernel
theorem o_34_255 : t_OP 34 255 = some (.baload, 0, 0, 0, 0, .null) := by decide +kernel
theorem o_34_256 : t_OP 34 256 = some (.invokestatic 51, 38, 2, 1, 0, .null) := by decide +kernel
theorem o_34_259 : t_OP 34 259 = some (.ifCond .eq (7), 266, 0, 0, 0, .null) := by decide +kernel
theorem o_34_262 : t_OP 34 262 = some (.iconst (2), 0, 0, 0, 2, .null) := by decide +kernel
theorem o_34_263 : t_OP 34 263 = some (.goto (4), 267, 0, 0, 0, .null) := by decide +kernel
theorem o_34_266 : t_OP 34 266 = some (.iconst (3), 0, 0, 0, 3, .null) := by decide +kernel
theorem o_34_267 : t_OP 34 267 = some (.putfield 32, 4, 2, 0, 0, .null) := by decide +kernel
theorem o_34_270 : t_OP 34 270 = some (.aload_n 0, 0, 0, 0, 0, .null) := by decide +kernel
theorem o_34_271 : t_OP 34 271 = some (.dup, 0, 0, 0, 0, .null) := by decide +kernel
theorem o_34_272 : t_OP 34 272 = some (.getfield 23, 4, 4, 0, 0, .null) := by decide +kernel
theorem o_34_275 : t_OP 34 275 = some (.iconst (1), 0, 0, 0, 1, .null) := by decide +kernel
theorem o_34_276 : t_OP 34 276 = some (.iadd, 0, 0, 0, 0, .null) := by decide +kernel
theorem o_34_277 : t_OP 34 277 = some (.putfield 23, 4, 4, 0, 0, .null) := by decide +kernel
theorem o_34_280 : t_OP 34 280 = some (.return_, 0, 0, 0, 0, .null) := by decide +kernel
theorem o_35_0 : t_OP 35 0 = some (.iload_n 0, 0, 0, 0, 0, .null) := by decide +kernel
theorem o_35_1 : t_OP 35 1 = some (.bipush (97), 0, 0, 0, 97, .null) := by decide +kernel
theorem o_35_3 : t_OP 35 3 = some (.if_icmp .lt (13), 16, 0, 0, 0, .null) := by decide +kernel
theorem o_35_6 : t_OP 35 6 = some (.iload_n 0, 0, 0, 0, 0, .null) := by decide +kernel
theorem o_35_7 : t_OP 35 7 = some (.bipush (122), 0, 0, 0, 122, .null) := by decide +kernel
theorem o_35_9 : t_OP 35 9 = some (.if_icmp .gt (7), 16, 0, 0, 0, .null) := by decide +kernel
theorem o_35_12 : t_OP 35 12 = some (.iconst (1), 0, 0, 0, 1, .null) := by decide +kernel
theorem o_35_13 : t_OP 35 13 = some (.goto (4), 17, 0, 0, 0, .null) := by decide +kernel
theorem o_35_16 : t_OP 35 16 = some (.iconst (0), 0, 0, 0, 0, .null) := by decide +kernel
theorem o_35_17 : t_OP 35 17 = some (.ireturn, 0, 0, 0, 0, .null) := by decide +kernel
theorem o_36_0 : t_OP 36 0 = some (.iload_n 0, 0, 0, 0, 0, .null) := by decide +kernel
theorem o_36_1 : t_OP 36 1 = some (.bipush (48), 0, 0, 0, 48, .null) := by decide +kernel
theorem o_36_3 : t_OP 36 3 = some (.if_icmp .lt (13), 16, 0, 0, 0, .null) := by decide +kernel
theorem o_36_6 : t_OP 36 6 = some (.iload_n 0, 0, 0, 0, 0, .null) := by decide +kernel
theorem o_36_7 : t_OP 36 7 = some (.bipush (57), 0, 0, 0, 57, .null) := by decide +kernel
theorem o_36_9 : t_OP 36 9 = some (.if_icmp .gt (7), 16, 0, 0, 0, .null) := by decide +kernel
theorem o_36_12 : t_OP 36 12 = some (.iconst (1), 0, 0, 0, 1, .null) := by decide +kernel
theorem o_36_13 : t_OP 36 13 = some (.goto (4), 17, 0, 0, 0, .null) := by decide +kernel
theorem o_36_16 : t_OP 36 16 = some (.iconst (0), 0, 0, 0, 0, .null) := by decide +kernel
theorem o_36_17 : t_OP 36 17 = some (.ireturn, 0, 0, 0, 0, .null) := by decide +kernel
theorem o_38_0 : t_OP 38 0 = some (.iload_n 0, 0, 0, 0, 0, .null) := by decide +kernel
theorem o_38_1 : t_OP 38 1 = some (.bipush (58), 0, 0, 0, 58, .null) := by decide +kernel
theorem o_38_3 : t_OP 38 3 = some (.if_icmp .eq (33), 36, 0, 0, 0, .null) := by decide +kernel
theorem o_38_6 : t_OP 38 6 = some (.iload_n 0, 0, 0, 0, 0, .null) := by decide +kernel
theorem o_38_7 : t_OP 38 7 = some (.bipush (59), 0, 0, 0, 59, .null) := by decide +kernel
theorem o_38_9 : t_OP 38 9 = some (.if_icmp .eq (27), 36, 0, 0, 0, .null) := by decide +kernel
theorem o_38_12 : t_OP 38 12 = some (.iload_n 0, 0, 0, 0, 0, .null) := by decide +kernel
theorem o_38_13 : t_OP 38 13 = some (.bipush (61), 0, 0, 0, 61, .null) := by decide +kernel
theorem o_38_15 : t_OP 38 15 = some (.if_icmp .eq (21), 36, 0, 0, 0, .null) := by decide +kernel
theorem o_38_18 : t_OP 38 18 = some (.iload_n 0, 0, 0, 0, 0, .null) := by decide +kernel
theorem o_38_19 : t_OP 38 19 = some (.bipush (38), 0, 0, 0, 38, .null) := by decide +kernel
theorem o_38_21 : t_OP 38 21 = some (.if_icmp .eq (15), 36, 0, 0, 0, .null) := by decide +kernel
theorem o_38_24 : t_OP 38 24 = some (.iload_n 0, 0, 0, 0, 0, .null) := by decide +kernel
theorem o_38_25 : t_OP 38 25 = some (.bipush (40), 0, 0, 0, 40, .null) := by decide +kernel
theorem o_38_27 : t_OP 38 27 = some (.if_icmp .eq (9), 36, 0, 0, 0, .null) := by decide +kernel
theorem o_38_30 : t_OP 38 30 = some (.iload_n 0, 0, 0, 0, 0, .null) := by decide +kernel
theorem o_38_31 : t_OP 38 31 = some (.bipush (41), 0, 0, 0, 41, .null) := by decide +kernel
theorem o_38_33 : t_OP 38 33 = some (.if_icmp .ne (7), 40, 0, 0, 0, .null) := by decide +kernel
theorem o_38_36 : t_OP 38 36 = some (.iconst (1), 0, 0, 0, 1, .null) := by decide +kernel
theorem o_38_37 : t_OP 38 37 = some (.goto (4), 41, 0, 0, 0, .null) := by decide +kernel
theorem o_38_40 : t_OP 38 40 = some (.iconst (0), 0, 0, 0, 0, .null) := by decide +kernel
theorem o_38_41 : t_OP 38 41 = some (.ireturn, 0, 0, 0, 0, .null) := by decide +kernel
theorem o_39_0 : t_OP 39 0 = some (.iconst (0), 0, 0, 0, 0, .null) := by decide +kernel
theorem o_39_1 : t_OP 39 1 = some (.istore_n 1, 0, 0, 0, 0, .null) := by decide +kernel
theorem o_39_2 : t_OP 39 2 = some (.iload_n 1, 0, 0, 0, 0, .null) := by decide +kernel
theorem o_39_3 : t_OP 39 3 = some (.iconst (4), 0, 0, 0, 4, .null) := by decide +kernel
theorem o_39_4 : t_OP 39 4 = some (.if_icmp .ge (31), 35, 0, 0, 0, .null) := by decide +kernel
theorem o_39_7 : t_OP 39 7 = some (.aload_n 0, 0, 0, 0, 0, .null) := by decide +kernel
theorem o_39_8 : t_OP 39 8 = some (.getfield 12, 1, 0, 0, 0, .null) := by decide +kernel
theorem o_39_11 : t_OP 39 11 = some (.bipush (116), 0, 0, 0, 116, .null) := by decide +kernel
theorem o_39_13 : t_OP 39 13 = some (.invokevirtual 38, 40, 0, 1, 0, .null) := by decide +kernel
theorem o_39_16 : t_OP 39 16 = some (.iload_n 1, 0, 0, 0, 0, .null) := by decide +kernel
theorem o_39_17 : t_OP 39 17 = some (.if_icmp .ne (18), 35, 0, 0, 0, .null) := by decide +kernel
theorem o_39_20 : t_OP 39 20 = some (.aload_n 0, 0, 0, 0, 0, .null) := by decide +kernel
theorem o_39_21 : t_OP 39 21 = some (.invokevirtual 42, 41, 0, 0, 0, .null) := by decide +kernel
theorem o_39_24 : t_OP 39 24 = some (.ifCond .ne (5), 29, 0, 0, 0, .null) := by decide +kernel
theorem o_39_27 : t_OP 39 27 = some (.iconst (0), 0, 0, 0, 0, .null) := by decide +kernel
theorem o_39_28 : t_OP 39 28 = some (.ireturn, 0, 0, 0, 0, .null) := by decide +kernel
theorem o_39_29 : t_OP 39 29 = some (.iinc 1 (1), 0, 0, 0, 1, .null) := by decide +kernel
theorem o_39_32 : t_OP 39 32 = some (.goto (-30), 2, 0, 0, 0, .null) := by decide +kernel
theorem o_39_35 : t_OP 39 35 = some (.aload_n 0, 0, 0, 0, 0, .null) := by decide +kernel
theorem o_39_36 : t_OP 39 36 = some (.getfield 21, 1, 1, 0, 0, .null) := by decide +kernel
theorem o_39_39 : t_OP 39 39 = some (.invokevirtual 46, 60, 0, 0, 0, .null) := by decide +kernel
theorem o_39_42 : t_OP 39 42 = some (.ifCond .eq (8), 50, 0, 0, 0, .null) := by decide +kernel
theorem o_39_45 : t_OP 39 45 = some (.aload_n 0, 0, 0, 0, 0, .null) := by decide +kernel
theorem o_39_46 : t_OP 39 46 = some (.invokevirtual 49, 44, 0, 0, 0, .null) := by decide +kernel
theorem o_39_49 : t_OP 39 49 = some (.ireturn, 0, 0, 0, 0, .null) := by decide +kernel
theorem o_39_50 : t_OP 39 50 = some (.aload_n 0, 0, 0, 0, 0, .null) := by decide +kernel
theorem o_39_51 : t_OP 39 51 = some (.getfield 21, 1, 1, 0, 0, .null) := by decide +kernel
theorem o_39_54 : t_OP 39 54 = some (.getfield 52, 0, 0, 0, 0, .null) := by decide +kernel
theorem o_39_57 : t_OP 39 57 = some (.iconst (4), 0, 0, 0, 4, .null) := by decide +kernel
theorem o_39_58 : t_OP 39 58 = some (.if_icmp .ne (29), 87, 0, 0, 0, .null) := by decide +kernel
theorem o_39_61 : t_OP 39 61 = some (.aload_n 0, 0, 0, 0, 0, .null) := by decide +kernel
theorem o_39_62 : t_OP 39 62 = some (.getfield 12, 1, 0, 0, 0, .null) := by decide +kernel
theorem o_39_65 : t_OP 39 65 = some (.bipush (116), 0, 0, 0, 116, .null) := by decide +kernel
theorem o_39_67 : t_OP 39 67 = some (.invokevirtual 38, 40, 0, 1, 0, .null) := by decide +kernel
theorem o_39_70 : t_OP 39 70 = some (.iconst (4), 0, 0, 0, 4, .null) := by decide +kernel
theorem o_39_71 : t_OP 39 71 = some (.if_icmp .ne (16), 87, 0, 0, 0, .null) := by decide +kernel
theorem o_39_74 : t_OP 39 74 = some (.aload_n 0, 0, 0, 0, 0, .null) := by decide +kernel
theorem o_39_75 : t_OP 39 75 = some (.iconst (4), 0, 0, 0, 4, .null) := by decide +kernel
theorem o_39_76 : t_OP 39 76 = some (.aload_n 0, 0, 0, 0, 0, .null) := by decide +kernel
theorem o_39_77 : t_OP 39 77 = some (.getfield 12, 1, 0, 0, 0, .null) := by decide +kernel
theorem o_39_80 : t_OP 39 80 = some (.getfield 55, 4, 3, 0, 0, .null) := by decide +kernel
theorem o_39_83 : t_OP 39 83 = some (.invokevirtual 58, 45, 0, 2, 0, .null) := by decide +kernel
theorem o_39_86 : t_OP 39 86 = some (.ireturn, 0, 0, 0, 0, .null) := by decide +kernel
theorem o_39_87 : t_OP 39 87 = some (.iconst (1), 0, 0, 0, 1, .null) := by decide +kernel
theorem o_39_88 : t_OP 39 88 = some (.ireturn, 0, 0, 0, 0, .null) := by decide +kernel
theorem o_40_0 : t_OP 40 0 = some (.aload_n 0, 0, 0, 0, 0, .null) := by decide +kernel
theorem o_40_1 : t_OP 40 1 = some (.getfield 32, 4, 2, 0, 0, .null) := by decide +kernel
theorem o_40_4 : t_OP 40 4 = some (.ifCond .ne (57), 61, 0, 0, 0, .null) := by decide +kernel
theorem o_40_7 : t_OP 40 7 = some (.aload_n 0, 0, 0, 0, 0, .null) := by decide +kernel
theorem o_40_8 : t_OP 40 8 = some (.getfield 23, 4, 4, 0, 0, .null) := by decide +kernel
theorem o_40_11 : t_OP 40 11 = some (.aload_n 0, 0, 0, 0, 0, .null) := by decide +kernel
theorem o_40_12 : t_OP 40 12 = some (.getfield 29, 4, 3, 0, 0, .null) := by decide +kernel
theorem o_40_15 : t_OP 40 15 = some (.isub, 0, 0, 0, 0, .null) := by decide +kernel
theorem o_40_16 : t_OP 40 16 = some (.iconst (2), 0, 0, 0, 2, .null) := by decide +kernel
theorem o_40_17 : t_OP 40 17 = some (.if_icmp .ne (44), 61, 0, 0, 0, .null) := by decide +kernel
theorem o_40_20 : t_OP 40 20 = some (.aload_n 0, 0, 0, 0, 0, .null) := by decide +kernel
theorem o_40_21 : t_OP 40 21 = some (.getfield 23, 4, 4, 0, 0, .null) := by decide +kernel
theorem o_40_24 : t_OP 40 24 = some (.aload_n 0, 0, 0, 0, 0, .null) := by decide +kernel
theorem o_40_25 : t_OP 40 25 = some (.getfield 15, 4, 1, 0, 0, .null) := by decide +kernel
theorem o_40_28 : t_OP 40 28 = some (.if_icmp .gt (33), 61, 0, 0, 0, .null) := by decide +kernel
theorem o_40_31 : t_OP 40 31 = some (.aload_n 0, 0, 0, 0, 0, .null) := by decide +kernel
theorem o_40_32 : t_OP 40 32 = some (.getfield 9, 4, 0, 0, 0, .null) := by decide +kernel
theorem o_40_35 : t_OP 40 35 = some (.aload_n 0, 0, 0, 0, 0, .null) := by decide +kernel
theorem o_40_36 : t_OP 40 36 = some (.getfield 29, 4, 3, 0, 0, .null) := by decide +kernel
theorem o_40_39 : t_OP 40 39 = some (.baload, 0, 0, 0, 0, .null) := by decide +kernel
theorem o_40_40 : t_OP 40 40 = some (.iload_n 1, 0, 0, 0, 0, .null) := by decide +kernel
theorem o_40_41 : t_OP 40 41 = some (.if_icmp .ne (20), 61, 0, 0, 0, .null) := by decide +kernel
theorem o_40_44 : t_OP 40 44 = some (.aload_n 0, 0, 0, 0, 0, .null) := by decide +kernel
theorem o_40_45 : t_OP 40 45 = some (.getfield 9, 4, 0, 0, 0, .null) := by decide +kernel
theorem o_40_48 : t_OP 40 48 = some (.aload_n 0, 0, 0, 0, 0, .null) := by decide +kernel
theorem o_40_49 : t_OP 40 49 = some (.getfield 29, 4, 3, 0, 0, .null) := by decide +kernel
theorem o_40_52 : t_OP 40 52 = some (.iconst (1), 0, 0, 0, 1, .null) := by decide +kernel
theorem o_40_53 : t_OP 40 53 = some (.iadd, 0, 0, 0, 0, .null) := by decide +kernel
theorem o_40_54 : t_OP 40 54 = some (.baload, 0, 0, 0, 0, .null) := by decide +kernel
theorem o_40_55 : t_OP 40 55 = some (.invokestatic 39, 36, 2, 1, 0, .null) := by decide +kernel
theorem o_40_58 : t_OP 40 58 = some (.ifCond .ne (5), 63, 0, 0, 0, .null) := by decide +kernel
theorem o_40_61 : t_OP 40 61 = some (.iconst (-1), 0, 0, 0, (-1), .null) := by decide +kernel
theorem o_40_62 : t_OP 40 62 = some (.ireturn, 0, 0, 0, 0, .null) := by decide +kernel
theorem o_40_63 : t_OP 40 63 = some (.aload_n 0, 0, 0, 0, 0, .null) := by decide +kernel
theorem o_40_64 : t_OP 40 64 = some (.getfield 9, 4, 0, 0, 0, .null) := by decide +kernel
theorem o_40_67 : t_OP 40 67 = some (.aload_n 0, 0, 0, 0, 0, .null) := by decide +kernel
theorem o_40_68 : t_OP 40 68 = some (.getfield 29, 4, 3, 0, 0, .null) := by decide +kernel
theorem o_40_71 : t_OP 40 71 = some (.iconst (1), 0, 0, 0, 1, .null) := by decide +kernel
theorem o_40_72 : t_OP 40 72 = some (.iadd, 0, 0, 0, 0, .null) := by decide +kernel
theorem o_40_73 : t_OP 40 73 = some (.baload, 0, 0, 0, 0, .null) := by decide +kernel
theorem o_40_74 : t_OP 40 74 = some (.bipush (48), 0, 0, 0, 48, .null) := by decide +kernel
theorem o_40_76 : t_OP 40 76 = some (.isub, 0, 0, 0, 0, .null) := by decide +kernel
theorem o_40_77 : t_OP 40 77 = some (.ireturn, 0, 0, 0, 0, .null) := by decide +kernel
theorem o_41_0 : t_OP 41 0 = some (.aload_n 0, 0, 0, 0, 0, .null) := by decide +kernel
theorem o_41_1 : t_OP 41 1 = some (.getfield 21, 1, 1, 0, 0, .null) := by decide +kernel
theorem o_41_4 : t_OP 41 4 = some (.dup, 0, 0, 0, 0, .null) := by decide +kernel
theorem o_41_5 : t_OP 41 5 = some (.getfield 52, 0, 0, 0, 0, .null) := by decide +kernel
theorem o_41_8 : t_OP 41 8 = some (.iconst (1), 0, 0, 0, 1, .null) := by decide +kernel
theorem o_41_9 : t_OP 41 9 = some (.iadd, 0, 0, 0, 0, .null) := by decide +kernel
theorem o_41_10 : t_OP 41 10 = some (.putfield 52, 0, 0, 0, 0, .null) := by decide +kernel
theorem o_41_13 : t_OP 41 13 = some (.aload_n 0, 0, 0, 0, 0, .null) := by decide +kernel
theorem o_41_14 : t_OP 41 14 = some (.getfield 12, 1, 0, 0, 0, .null) := by decide +kernel
theorem o_41_17 : t_OP 41 17 = some (.invokevirtual 62, 34, 0, 0, 0, .null) := by decide +kernel
theorem o_41_20 : t_OP 41 20 = some (.aload_n 0, 0, 0, 0, 0, .null) := by decide +kernel
theorem o_41_21 : t_OP 41 21 = some (.bipush (58), 0, 0, 0, 58, .null) := by decide +kernel
theorem o_41_23 : t_OP 41 23 = some (.invokevirtual 65, 42, 0, 1, 0, .null) := by decide +kernel
theorem o_41_26 : t_OP 41 26 = some (.ifCond .ne (5), 31, 0, 0, 0, .null) := by decide +kernel
theorem o_41_29 : t_OP 41 29 = some (.iconst (0), 0, 0, 0, 0, .null) := by decide +kernel
theorem o_41_30 : t_OP 41 30 = some (.ireturn, 0, 0, 0, 0, .null) := by decide +kernel
theorem o_41_31 : t_OP 41 31 = some (.iconst (0), 0, 0, 0, 0, .null) := by decide +kernel
theorem o_41_32 : t_OP 41 32 = some (.istore_n 1, 0, 0, 0, 0, .null) := by decide +kernel
theorem o_41_33 : t_OP 41 33 = some (.iload_n 1, 0, 0, 0, 0, .null) := by decide +kernel
theorem o_41_34 : t_OP 41 34 = some (.bipush (24), 0, 0, 0, 24, .null) := by decide +kernel
theorem o_41_36 : t_OP 41 36 = some (.if_icmp .gt (72), 108, 0, 0, 0, .null) := by decide +kernel
theorem o_41_39 : t_OP 41 39 = some (.aload_n 0, 0, 0, 0, 0, .null) := by decide +kernel
theorem o_41_40 : t_OP 41 40 = some (.invokevirtual 69, 46, 0, 0, 0, .null) := by decide +kernel
theorem o_41_43 : t_OP 41 43 = some (.istore_n 2, 0, 0, 0, 0, .null) := by decide +kernel
theorem o_41_44 : t_OP 41 44 = some (.iload_n 2, 0, 0, 0, 0, .null) := by decide +kernel
theorem o_41_45 : t_OP 41 45 = some (.iconst (-1), 0, 0, 0, (-1), .null) := by decide +kernel
theorem o_41_46 : t_OP 41 46 = some (.if_icmp .ne (5), 51, 0, 0, 0, .null) := by decide +kernel
theorem o_41_49 : t_OP 41 49 = some (.iconst (1), 0, 0, 0, 1, .null) := by decide +kernel
theorem o_41_50 : t_OP 41 50 = some (.ireturn, 0, 0, 0, 0, .null) := by decide +kernel
theorem o_41_51 : t_OP 41 51 = some (.aload_n 0, 0, 0, 0, 0, .null) := by decide +kernel
theorem o_41_52 : t_OP 41 52 = some (.getfield 21, 1, 1, 0, 0, .null) := by decide +kernel
theorem o_41_55 : t_OP 41 55 = some (.getfield 73, 0, 1, 0, 0, .null) := by decide +kernel
theorem o_41_58 : t_OP 41 58 = some (.bipush (24), 0, 0, 0, 24, .null) := by decide +kernel
theorem o_41_60 : t_OP 41 60 = some (.if_icmp .lt (16), 76, 0, 0, 0, .null) := by decide +kernel
theorem o_41_63 : t_OP 41 63 = some (.aload_n 0, 0, 0, 0, 0, .null) := by decide +kernel
theorem o_41_64 : t_OP 41 64 = some (.iconst (4), 0, 0, 0, 4, .null) := by decide +kernel
theorem o_41_65 : t_OP 41 65 = some (.aload_n 0, 0, 0, 0, 0, .null) := by decide +kernel
theorem o_41_66 : t_OP 41 66 = some (.getfield 12, 1, 0, 0, 0, .null) := by decide +kernel
theorem o_41_69 : t_OP 41 69 = some (.getfield 55, 4, 3, 0, 0, .null) := by decide +kernel
theorem o_41_72 : t_OP 41 72 = some (.invokevirtual 58, 45, 0, 2, 0, .null) := by decide +kernel
theorem o_41_75 : t_OP 41 75 = some (.ireturn, 0, 0, 0, 0, .null) := by decide +kernel
theorem o_41_76 : t_OP 41 76 = some (.aload_n 0, 0, 0, 0, 0, .null) := by decide +kernel
theorem o_41_77 : t_OP 41 77 = some (.getfield 12, 1, 0, 0, 0, .null) := by decide +kernel
theorem o_41_80 : t_OP 41 80 = some (.invokevirtual 62, 34, 0, 0, 0, .null) := by decide +kernel
theorem o_41_83 : t_OP 41 83 = some (.aload_n 0, 0, 0, 0, 0, .null) := by decide +kernel
theorem o_41_84 : t_OP 41 84 = some (.iload_n 2, 0, 0, 0, 0, .null) := by decide +kernel
theorem o_41_85 : t_OP 41 85 = some (.invokevirtual 76, 55, 0, 1, 0, .null) := by decide +kernel
theorem o_41_88 : t_OP 41 88 = some (.ifCond .eq (12), 100, 0, 0, 0, .null) := by decide +kernel
theorem o_41_91 : t_OP 41 91 = some (.aload_n 0, 0, 0, 0, 0, .null) := by decide +kernel
theorem o_41_92 : t_OP 41 92 = some (.bipush (59), 0, 0, 0, 59, .null) := by decide +kernel
theorem o_41_94 : t_OP 41 94 = some (.invokevirtual 65, 42, 0, 1, 0, .null) := by decide +kernel
theorem o_41_97 : t_OP 41 97 = some (.ifCond .ne (5), 102, 0, 0, 0, .null) := by decide +kernel
theorem o_41_100 : t_OP 41 100 = some (.iconst (0), 0, 0, 0, 0, .null) := by decide +kernel
theorem o_41_101 : t_OP 41 101 = some (.ireturn, 0, 0, 0, 0, .null) := by decide +kernel
theorem o_41_102 : t_OP 41 102 = some (.iinc 1 (1), 0, 0, 0, 1, .null) := by decide +kernel
theorem o_41_105 : t_OP 41 105 = some (.goto (-72), 33, 0, 0, 0, .null) := by decide +kernel
theorem o_41_108 : t_OP 41 108 = some (.iconst (1), 0, 0, 0, 1, .null) := by decide +kernel
theorem o_41_109 : t_OP 41 109 = some (.ireturn, 0, 0, 0, 0, .null) := by decide +kernel
theorem o_42_0 : t_OP 42 0 = some (.aload_n 0, 0, 0, 0, 0, .null) := by decide +kernel
theorem o_42_1 : t_OP 42 1 = some (.getfield 12, 1, 0, 0, 0, .null) := by decide +kernel
theorem o_42_4 : t_OP 42 4 = some (.iload_n 1, 0, 0, 0, 0, .null) := by decide +kernel
theorem o_42_5 : t_OP 42 5 = some (.invokevirtual 113, 43, 0, 1, 0, .null) := by decide +kernel
theorem o_42_8 : t_OP 42 8 = some (.ifCond .ne (8), 16, 0, 0, 0, .null) := by decide +kernel
theorem o_42_11 : t_OP 42 11 = some (.aload_n 0, 0, 0, 0, 0, .null) := by decide +kernel
theorem o_42_12 : t_OP 42 12 = some (.invokevirtual 49, 44, 0, 0, 0, .null) := by decide +kernel
theorem o_42_15 : t_OP 42 15 = some (.ireturn, 0, 0, 0, 0, .null) := by decide +kernel
theorem o_42_16 : t_OP 42 16 = some (.aload_n 0, 0, 0, 0, 0, .null) := by decide +kernel
theorem o_42_17 : t_OP 42 17 = some (.getfield 12, 1, 0, 0, 0, .null) := by decide +kernel
theorem o_42_20 : t_OP 42 20 = some (.invokevirtual 62, 34, 0, 0, 0, .null) := by decide +kernel
theorem o_42_23 : t_OP 42 23 = some (.iconst (1), 0, 0, 0, 1, .null) := by decide +kernel
theorem o_42_24 : t_OP 42 24 = some (.ireturn, 0, 0, 0, 0, .null) := by decide +kernel
theorem o_43_0 : t_OP 43 0 = some (.aload_n 0, 0, 0, 0, 0, .null) := by decide +kernel
theorem o_43_1 : t_OP 43 1 = some (.getfield 32, 4, 2, 0, 0, .null) := by decide +kernel
theorem o_43_4 : t_OP 43 4 = some (.iconst (2), 0, 0, 0, 2, .null) := by decide +kernel
theorem o_43_5 : t_OP 43 5 = some (.if_icmp .ne (31), 36, 0, 0, 0, .null) := by decide +kernel
theorem o_43_8 : t_OP 43 8 = some (.aload_n 0, 0, 0, 0, 0, .null) := by decide +kernel
theorem o_43_9 : t_OP 43 9 = some (.getfield 29, 4, 3, 0, 0, .null) := by decide +kernel
theorem o_43_12 : t_OP 43 12 = some (.aload_n 0, 0, 0, 0, 0, .null) := by decide +kernel
theorem o_43_13 : t_OP 43 13 = some (.getfield 15, 4, 1, 0, 0, .null) := by decide +kernel
theorem o_43_16 : t_OP 43 16 = some (.if_icmp .ge (20), 36, 0, 0, 0, .null) := by decide +kernel
theorem o_43_19 : t_OP 43 19 = some (.aload_n 0, 0, 0, 0, 0, .null) := by decide +kernel
theorem o_43_20 : t_OP 43 20 = some (.getfield 9, 4, 0, 0, 0, .null) := by decide +kernel
theorem o_43_23 : t_OP 43 23 = some (.aload_n 0, 0, 0, 0, 0, .null) := by decide +kernel
theorem o_43_24 : t_OP 43 24 = some (.getfield 29, 4, 3, 0, 0, .null) := by decide +kernel
theorem o_43_27 : t_OP 43 27 = some (.baload, 0, 0, 0, 0, .null) := by decide +kernel
theorem o_43_28 : t_OP 43 28 = some (.iload_n 1, 0, 0, 0, 0, .null) := by decide +kernel
theorem o_43_29 : t_OP 43 29 = some (.if_icmp .ne (7), 36, 0, 0, 0, .null) := by decide +kernel
theorem o_43_32 : t_OP 43 32 = some (.iconst (1), 0, 0, 0, 1, .null) := by decide +kernel
theorem o_43_33 : t_OP 43 33 = some (.goto (4), 37, 0, 0, 0, .null) := by decide +kernel
theorem o_43_36 : t_OP 43 36 = some (.iconst (0), 0, 0, 0, 0, .null) := by decide +kernel
theorem o_43_37 : t_OP 43 37 = some (.ireturn, 0, 0, 0, 0, .null) := by decide +kernel
theorem o_44_0 : t_OP 44 0 = some (.aload_n 0, 0, 0, 0, 0, .null) := by decide +kernel
theorem o_44_1 : t_OP 44 1 = some (.aload_n 0, 0, 0, 0, 0, .null) := by decide +kernel
theorem o_44_2 : t_OP 44 2 = some (.getfield 12, 1, 0, 0, 0, .null) := by decide +kernel
theorem o_44_5 : t_OP 44 5 = some (.getfield 128, 4, 2, 0, 0, .null) := by decide +kernel
theorem o_44_8 : t_OP 44 8 = some (.iconst (3), 0, 0, 0, 3, .null) := by decide +kernel
theorem o_44_9 : t_OP 44 9 = some (.if_icmp .ne (7), 16, 0, 0, 0, .null) := by decide +kernel
theorem o_44_12 : t_OP 44 12 = some (.iconst (1), 0, 0, 0, 1, .null) := by decide +kernel
theorem o_44_13 : t_OP 44 13 = some (.goto (4), 17, 0, 0, 0, .null) := by decide +kernel
theorem o_44_16 : t_OP 44 16 = some (.iconst (2), 0, 0, 0, 2, .null) := by decide +kernel
theorem o_44_17 : t_OP 44 17 = some (.aload_n 0, 0, 0, 0, 0, .null) := by decide +kernel
theorem o_44_18 : t_OP 44 18 = some (.getfield 12, 1, 0, 0, 0, .null) := by decide +kernel
theorem o_44_21 : t_OP 44 21 = some (.getfield 55, 4, 3, 0, 0, .null) := by decide +kernel
theorem o_44_24 : t_OP 44 24 = some (.invokevirtual 58, 45, 0, 2, 0, .null) := by decide +kernel
theorem o_44_27 : t_OP 44 27 = some (.ireturn, 0, 0, 0, 0, .null) := by decide +kernel
theorem o_45_0 : t_OP 45 0 = some (.aload_n 0, 0, 0, 0, 0, .null) := by decide +kernel
theorem o_45_1 : t_OP 45 1 = some (.iload_n 1, 0, 0, 0, 0, .null) := by decide +kernel
theorem o_45_2 : t_OP 45 2 = some (.putfield 28, 1, 2, 0, 0, .null) := by decide +kernel
theorem o_45_5 : t_OP 45 5 = some (.aload_n 0, 0, 0, 0, 0, .null) := by decide +kernel
theorem o_45_6 : t_OP 45 6 = some (.iload_n 2, 0, 0, 0, 0, .null) := by decide +kernel
theorem o_45_7 : t_OP 45 7 = some (.putfield 32, 1, 3, 0, 0, .null) := by decide +kernel
theorem o_45_10 : t_OP 45 10 = some (.iconst (0), 0, 0, 0, 0, .null) := by decide +kernel
theorem o_45_11 : t_OP 45 11 = some (.ireturn, 0, 0, 0, 0, .null) := by decide +kernel
theorem o_46_0 : t_OP 46 0 = some (.aload_n 0, 0, 0, 0, 0, .null) := by decide +kernel
theorem o_46_1 : t_OP 46 1 = some (.getfield 12, 1, 0, 0, 0, .null) := by decide +kernel
theorem o_46_4 : t_OP 46 4 = some (.ldc 80, 0, 0, 0, 0, .ref 2003) := by decide +kernel
theorem o_46_6 : t_OP 46 6 = some (.invokevirtual 82, 47, 0, 1, 0, .null) := by decide +kernel
theorem o_46_9 : t_OP 46 9 = some (.ifCond .eq (5), 14, 0, 0, 0, .null) := by decide +kernel
theorem o_46_12 : t_OP 46 12 = some (.iconst (0), 0, 0, 0, 0, .null) := by decide +kernel
theorem o_46_13 : t_OP 46 13 = some (.ireturn, 0, 0, 0, 0, .null) := by decide +kernel
theorem o_46_14 : t_OP 46 14 = some (.aload_n 0, 0, 0, 0, 0, .null) := by decide +kernel
theorem o_46_15 : t_OP 46 15 = some (.getfield 12, 1, 0, 0, 0, .null) := by decide +kernel
theorem o_46_18 : t_OP 46 18 = some (.ldc 86, 0, 0, 0, 0, .ref 2004) := by decide +kernel
theorem o_46_20 : t_OP 46 20 = some (.invokevirtual 82, 47, 0, 1, 0, .null) := by decide +kernel
theorem o_46_23 : t_OP 46 23 = some (.ifCond .eq (5), 28, 0, 0, 0, .null) := by decide +kernel
theorem o_46_26 : t_OP 46 26 = some (.iconst (1), 0, 0, 0, 1, .null) := by decide +kernel
theorem o_46_27 : t_OP 46 27 = some (.ireturn, 0, 0, 0, 0, .null) := by decide +kernel
theorem o_46_28 : t_OP 46 28 = some (.aload_n 0, 0, 0, 0, 0, .null) := by decide +kernel
theorem o_46_29 : t_OP 46 29 = some (.getfield 12, 1, 0, 0, 0, .null) := by decide +kernel
theorem o_46_32 : t_OP 46 32 = some (.ldc 88, 0, 0, 0, 0, .ref 2005) := by decide +kernel
theorem o_46_34 : t_OP 46 34 = some (.invokevirtual 82, 47, 0, 1, 0, .null) := by decide +kernel
theorem o_46_37 : t_OP 46 37 = some (.ifCond .eq (7), 44, 0, 0, 0, .null) := by decide +kernel
theorem o_46_40 : t_OP 46 40 = some (.iconst (2), 0, 0, 0, 2, .null) := by decide +kernel
theorem o_46_41 : t_OP 46 41 = some (.goto (4), 45, 0, 0, 0, .null) := by decide +kernel
theorem o_46_44 : t_OP 46 44 = some (.iconst (-1), 0, 0, 0, (-1), .null) := by decide +kernel
theorem o_46_45 : t_OP 46 45 = some (.ireturn, 0, 0, 0, 0, .null) := by decide +kernel
theorem o_47_0 : t_OP 47 0 = some (.aload_n 0, 0, 0, 0, 0, .null) := by decide +kernel
theorem o_47_1 : t_OP 47 1 = some (.getfield 32, 4, 2, 0, 0, .null) := by decide +kernel
theorem o_47_4 : t_OP 47 4 = some (.ifCond .ne (30), 34, 0, 0, 0, .null) := by decide +kernel
theorem o_47_7 : t_OP 47 7 = some (.aload_n 0, 0, 0, 0, 0, .null) := by decide +kernel
theorem o_47_8 : t_OP 47 8 = some (.getfield 23, 4, 4, 0, 0, .null) := by decide +kernel
theorem o_47_11 : t_OP 47 11 = some (.aload_n 0, 0, 0, 0, 0, .null) := by decide +kernel
theorem o_47_12 : t_OP 47 12 = some (.getfield 29, 4, 3, 0, 0, .null) := by decide +kernel
theorem o_47_15 : t_OP 47 15 = some (.isub, 0, 0, 0, 0, .null) := by decide +kernel
theorem o_47_16 : t_OP 47 16 = some (.aload_n 1, 0, 0, 0, 0, .null) := by decide +kernel
theorem o_47_17 : t_OP 47 17 = some (.invokevirtual 54, 48, 0, 0, 0, .null) := by decide +kernel
theorem o_47_20 : t_OP 47 20 = some (.if_icmp .ne (14), 34, 0, 0, 0, .null) := by decide +kernel
theorem o_47_23 : t_OP 47 23 = some (.aload_n 0, 0, 0, 0, 0, .null) := by decide +kernel
theorem o_47_24 : t_OP 47 24 = some (.getfield 23, 4, 4, 0, 0, .null) := by decide +kernel
theorem o_47_27 : t_OP 47 27 = some (.aload_n 0, 0, 0, 0, 0, .null) := by decide +kernel
theorem o_47_28 : t_OP 47 28 = some (.getfield 15, 4, 1, 0, 0, .null) := by decide +kernel
theorem o_47_31 : t_OP 47 31 = some (.if_icmp .le (5), 36, 0, 0, 0, .null) := by decide +kernel
theorem o_47_34 : t_OP 47 34 = some (.iconst (0), 0, 0, 0, 0, .null) := by decide +kernel
theorem o_47_35 : t_OP 47 35 = some (.ireturn, 0, 0, 0, 0, .null) := by decide +kernel
theorem o_47_36 : t_OP 47 36 = some (.iconst (0), 0, 0, 0, 0, .null) := by decide +kernel
theorem o_47_37 : t_OP 47 37 = some (.istore_n 2, 0, 0, 0, 0, .null) := by decide +kernel
theorem o_47_38 : t_OP 47 38 = some (.iload_n 2, 0, 0, 0, 0, .null) := by decide +kernel
theorem o_47_39 : t_OP 47 39 = some (.aload_n 1, 0, 0, 0, 0, .null) := by decide +kernel
theorem o_47_40 : t_OP 47 40 = some (.invokevirtual 54, 48, 0, 0, 0, .null) := by decide +kernel
theorem o_47_43 : t_OP 47 43 = some (.if_icmp .ge (30), 73, 0, 0, 0, .null) := by decide +kernel
theorem o_47_46 : t_OP 47 46 = some (.aload_n 0, 0, 0, 0, 0, .null) := by decide +kernel
theorem o_47_47 : t_OP 47 47 = some (.getfield 9, 4, 0, 0, 0, .null) := by decide +kernel
theorem o_47_50 : t_OP 47 50 = some (.aload_n 0, 0, 0, 0, 0, .null) := by decide +kernel
theorem o_47_51 : t_OP 47 51 = some (.getfield 29, 4, 3, 0, 0, .null) := by decide +kernel
theorem o_47_54 : t_OP 47 54 = some (.iload_n 2, 0, 0, 0, 0, .null) := by decide +kernel
theorem o_47_55 : t_OP 47 55 = some (.iadd, 0, 0, 0, 0, .null) := by decide +kernel
theorem o_47_56 : t_OP 47 56 = some (.baload, 0, 0, 0, 0, .null) := by decide +kernel
theorem o_47_57 : t_OP 47 57 = some (.aload_n 1, 0, 0, 0, 0, .null) := by decide +kernel
theorem o_47_58 : t_OP 47 58 = some (.iload_n 2, 0, 0, 0, 0, .null) := by decide +kernel
theorem o_47_59 : t_OP 47 59 = some (.invokevirtual 59, 50, 0, 1, 0, .null) := by decide +kernel
theorem o_47_62 : t_OP 47 62 = some (.if_icmp .eq (5), 67, 0, 0, 0, .null) := by decide +kernel
theorem o_47_65 : t_OP 47 65 = some (.iconst (0), 0, 0, 0, 0, .null) := by decide +kernel
theorem o_47_66 : t_OP 47 66 = some (.ireturn, 0, 0, 0, 0, .null) := by decide +kernel
theorem o_47_67 : t_OP 47 67 = some (.iinc 2 (1), 0, 0, 0, 1, .null) := by decide +kernel
theorem o_47_70 : t_OP 47 70 = some (.goto (-32), 38, 0, 0, 0, .null) := by decide +kernel
theorem o_47_73 : t_OP 47 73 = some (.iconst (1), 0, 0, 0, 1, .null) := by decide +kernel
theorem o_47_74 : t_OP 47 74 = some (.ireturn, 0, 0, 0, 0, .null) := by decide +kernel
theorem o_48_0 : t_OP 48 0 = some (.aload_n 0, 0, 0, 0, 0, .null) := by decide +kernel
theorem o_48_1 : t_OP 48 1 = some (.getfield 9, 50, 0, 0, 0, .null) := by decide +kernel
theorem o_48_4 : t_OP 48 4 = some (.arraylength, 0, 0, 0, 0, .null) := by decide +kernel
theorem o_48_5 : t_OP 48 5 = some (.aload_n 0, 0, 0, 0, 0, .null) := by decide +kernel
theorem o_48_6 : t_OP 48 6 = some (.invokevirtual 335, 49, 0, 0, 0, .null) := by decide +kernel
theorem o_48_9 : t_OP 48 9 = some (.ishr, 0, 0, 0, 0, .null) := by decide +kernel
theorem o_48_10 : t_OP 48 10 = some (.ireturn, 0, 0, 0, 0, .null) := by decide +kernel
theorem o_49_0 : t_OP 49 0 = some (.getstatic 38, 0, 0, 0, 0, .int 1) := by decide +kernel
theorem o_49_3 : t_OP 49 3 = some (.ifCond .eq (10), 13, 0, 0, 0, .null) := by decide +kernel
theorem o_49_6 : t_OP 49 6 = some (.aload_n 0, 0, 0, 0, 0, .null) := by decide +kernel
theorem o_49_7 : t_OP 49 7 = some (.getfield 15, 50, 1, 0, 0, .null) := by decide +kernel
theorem o_49_10 : t_OP 49 10 = some (.goto (4), 14, 0, 0, 0, .null) := by decide +kernel
theorem o_49_13 : t_OP 49 13 = some (.iconst (1), 0, 0, 0, 1, .null) := by decide +kernel
theorem o_49_14 : t_OP 49 14 = some (.ireturn, 0, 0, 0, 0, .null) := by decide +kernel
theorem o_50_0 : t_OP 50 0 = some (.aload_n 0, 0, 0, 0, 0, .null) := by decide +kernel
theorem o_50_1 : t_OP 50 1 = some (.invokevirtual 492, 51, 0, 0, 0, .null) := by decide +kernel
theorem o_50_4 : t_OP 50 4 = some (.ifCond .eq (12), 16, 0, 0, 0, .null) := by decide +kernel
theorem o_50_7 : t_OP 50 7 = some (.aload_n 0, 0, 0, 0, 0, .null) := by decide +kernel
theorem o_50_8 : t_OP 50 8 = some (.getfield 9, 50, 0, 0, 0, .null) := by decide +kernel
theorem o_50_11 : t_OP 50 11 = some (.iload_n 1, 0, 0, 0, 0, .null) := by decide +kernel
theorem o_50_12 : t_OP 50 12 = some (.invokestatic 495, 52, 2, 2, 0, .null) := by decide +kernel
theorem o_50_15 : t_OP 50 15 = some (.ireturn, 0, 0, 0, 0, .null) := by decide +kernel
theorem o_50_16 : t_OP 50 16 = some (.aload_n 0, 0, 0, 0, 0, .null) := by decide +kernel
theorem o_50_17 : t_OP 50 17 = some (.getfield 9, 50, 0, 0, 0, .null) := by decide +kernel
theorem o_50_20 : t_OP 50 20 = some (.iload_n 1, 0, 0, 0, 0, .null) := by decide +kernel
theorem o_51_0 : t_OP 51 0 = some (.getstatic 38, 0, 0, 0, 0, .int 1) := by decide +kernel
theorem o_51_3 : t_OP 51 3 = some (.ifCond .eq (14), 17, 0, 0, 0, .null) := by decide +kernel
theorem o_51_6 : t_OP 51 6 = some (.aload_n 0, 0, 0, 0, 0, .null) := by decide +kernel
theorem o_51_7 : t_OP 51 7 = some (.getfield 15, 50, 1, 0, 0, .null) := by decide +kernel
theorem o_51_10 : t_OP 51 10 = some (.ifCond .ne (7), 17, 0, 0, 0, .null) := by decide +kernel
theorem o_51_13 : t_OP 51 13 = some (.iconst (1), 0, 0, 0, 1, .null) := by decide +kernel
theorem o_51_14 : t_OP 51 14 = some (.goto (4), 18, 0, 0, 0, .null) := by decide +kernel
theorem o_51_17 : t_OP 51 17 = some (.iconst (0), 0, 0, 0, 0, .null) := by decide +kernel
theorem o_51_18 : t_OP 51 18 = some (.ireturn, 0, 0, 0, 0, .null) := by decide +kernel
theorem o_52_0 : t_OP 52 0 = some (.iload_n 1, 0, 0, 0, 0, .null) := by decide +kernel
theorem o_52_1 : t_OP 52 1 = some (.aload_n 0, 0, 0, 0, 0, .null) := by decide +kernel
theorem o_52_2 : t_OP 52 2 = some (.arraylength, 0, 0, 0, 0, .null) := by decide +kernel
theorem o_52_3 : t_OP 52 3 = some (.invokestatic 9, 53, 2, 2, 0, .null) := by decide +kernel
theorem o_52_6 : t_OP 52 6 = some (.aload_n 0, 0, 0, 0, 0, .null) := by decide +kernel
theorem o_52_7 : t_OP 52 7 = some (.iload_n 1, 0, 0, 0, 0, .null) := by decide +kernel
theorem o_52_8 : t_OP 52 8 = some (.baload, 0, 0, 0, 0, .null) := by decide +kernel
theorem o_52_9 : t_OP 52 9 = some (.sipush (255), 0, 0, 0, 255, .null) := by decide +kernel
theorem o_52_12 : t_OP 52 12 = some (.iand, 0, 0, 0, 0, .null) := by decide +kernel
theorem o_52_13 : t_OP 52 13 = some (.i2c, 0, 0, 0, 0, .null) := by decide +kernel
theorem o_52_14 : t_OP 52 14 = some (.ireturn, 0, 0, 0, 0, .null) := by decide +kernel
theorem o_53_0 : t_OP 53 0 = some (.iload_n 0, 0, 0, 0, 0, .null) := by decide +kernel
theorem o_53_1 : t_OP 53 1 = some (.iload_n 1, 0, 0, 0, 0, .null) := by decide +kernel
theorem o_53_2 : t_OP 53 2 = some (.getstatic 1053, 0, 0, 0, 0, .ref 1999) := by decide +kernel
theorem o_53_5 : t_OP 53 5 = some (.invokestatic 1059, 54, 2, 3, 0, .null) := by decide +kernel
theorem o_53_8 : t_OP 53 8 = some (.pop, 0, 0, 0, 0, .null) := by decide +kernel
theorem o_53_9 : t_OP 53 9 = some (.return_, 0, 0, 0, 0, .null) := by decide +kernel
theorem o_54_0 : t_OP 54 0 = some (.iload_n 0, 0, 0, 0, 0, .null) := by decide +kernel
theorem o_54_1 : t_OP 54 1 = some (.ifCond .lt (8), 9, 0, 0, 0, .null) := by decide +kernel
theorem o_54_4 : t_OP 54 4 = some (.iload_n 0, 0, 0, 0, 0, .null) := by decide +kernel
theorem o_54_5 : t_OP 54 5 = some (.iload_n 1, 0, 0, 0, 0, .null) := by decide +kernel
theorem o_54_6 : t_OP 54 6 = some (.if_icmp .lt (10), 16, 0, 0, 0, .null) := by decide +kernel
theorem o_54_9 : t_OP 54 9 = some (.aload_n 2, 0, 0, 0, 0, .null) := by decide +kernel
theorem o_54_16 : t_OP 54 16 = some (.iload_n 0, 0, 0, 0, 0, .null) := by decide +kernel
theorem o_54_17 : t_OP 54 17 = some (.ireturn, 0, 0, 0, 0, .null) := by decide +kernel
theorem o_55_0 : t_OP 55 0 = some (.iload_n 1, 0, 0, 0, 0, .null) := by decide +kernel
theorem o_55_1 : t_OP 55 1 = some (.iconst (2), 0, 0, 0, 2, .null) := by decide +kernel
theorem o_55_2 : t_OP 55 2 = some (.if_icmp .ne (15), 17, 0, 0, 0, .null) := by decide +kernel
theorem o_55_5 : t_OP 55 5 = some (.aload_n 0, 0, 0, 0, 0, .null) := by decide +kernel
theorem o_55_6 : t_OP 55 6 = some (.getfield 21, 1, 1, 0, 0, .null) := by decide +kernel
theorem o_55_9 : t_OP 55 9 = some (.iconst (2), 0, 0, 0, 2, .null) := by decide +kernel
theorem o_55_10 : t_OP 55 10 = some (.iconst (-1), 0, 0, 0, (-1), .null) := by decide +kernel
theorem o_55_11 : t_OP 55 11 = some (.iconst (-1), 0, 0, 0, (-1), .null) := by decide +kernel
theorem o_55_12 : t_OP 55 12 = some (.invokevirtual 90, 56, 0, 3, 0, .null) := by decide +kernel
theorem o_55_15 : t_OP 55 15 = some (.iconst (1), 0, 0, 0, 1, .null) := by decide +kernel
theorem o_55_16 : t_OP 55 16 = some (.ireturn, 0, 0, 0, 0, .null) := by decide +kernel
theorem o_55_17 : t_OP 55 17 = some (.aload_n 0, 0, 0, 0, 0, .null) := by decide +kernel
theorem o_55_18 : t_OP 55 18 = some (.getfield 12, 1, 0, 0, 0, .null) := by decide +kernel
theorem o_55_21 : t_OP 55 21 = some (.invokevirtual 94, 58, 0, 0, 0, .null) := by decide +kernel
theorem o_55_24 : t_OP 55 24 = some (.istore_n 2, 0, 0, 0, 0, .null) := by decide +kernel
theorem o_55_25 : t_OP 55 25 = some (.iload_n 2, 0, 0, 0, 0, .null) := by decide +kernel
theorem o_55_26 : t_OP 55 26 = some (.iconst (-1), 0, 0, 0, (-1), .null) := by decide +kernel
theorem o_55_27 : t_OP 55 27 = some (.if_icmp .ne (8), 35, 0, 0, 0, .null) := by decide +kernel
theorem o_55_30 : t_OP 55 30 = some (.aload_n 0, 0, 0, 0, 0, .null) := by decide +kernel
theorem o_55_31 : t_OP 55 31 = some (.invokevirtual 49, 44, 0, 0, 0, .null) := by decide +kernel
theorem o_55_34 : t_OP 55 34 = some (.ireturn, 0, 0, 0, 0, .null) := by decide +kernel
theorem o_55_35 : t_OP 55 35 = some (.aload_n 0, 0, 0, 0, 0, .null) := by decide +kernel
theorem o_55_36 : t_OP 55 36 = some (.getfield 12, 1, 0, 0, 0, .null) := by decide +kernel
theorem o_55_39 : t_OP 55 39 = some (.invokevirtual 62, 34, 0, 0, 0, .null) := by decide +kernel
theorem o_55_42 : t_OP 55 42 = some (.iload_n 1, 0, 0, 0, 0, .null) := by decide +kernel
theorem o_55_43 : t_OP 55 43 = some (.ifCond .ne (31), 74, 0, 0, 0, .null) := by decide +kernel
theorem o_55_46 : t_OP 55 46 = some (.aload_n 0, 0, 0, 0, 0, .null) := by decide +kernel
theorem o_55_47 : t_OP 55 47 = some (.invokevirtual 97, 59, 0, 0, 0, .null) := by decide +kernel
theorem o_55_50 : t_OP 55 50 = some (.ifCond .ne (5), 55, 0, 0, 0, .null) := by decide +kernel
theorem o_55_53 : t_OP 55 53 = some (.iconst (0), 0, 0, 0, 0, .null) := by decide +kernel
theorem o_55_54 : t_OP 55 54 = some (.ireturn, 0, 0, 0, 0, .null) := by decide +kernel
theorem o_55_55 : t_OP 55 55 = some (.aload_n 0, 0, 0, 0, 0, .null) := by decide +kernel
theorem o_55_56 : t_OP 55 56 = some (.getfield 21, 1, 1, 0, 0, .null) := by decide +kernel
theorem o_55_59 : t_OP 55 59 = some (.iconst (0), 0, 0, 0, 0, .null) := by decide +kernel
theorem o_55_60 : t_OP 55 60 = some (.iload_n 2, 0, 0, 0, 0, .null) := by decide +kernel
theorem o_55_61 : t_OP 55 61 = some (.aload_n 0, 0, 0, 0, 0, .null) := by decide +kernel
theorem o_55_62 : t_OP 55 62 = some (.getfield 12, 1, 0, 0, 0, .null) := by decide +kernel
theorem o_55_65 : t_OP 55 65 = some (.getfield 100, 4, 5, 0, 0, .null) := by decide +kernel
theorem o_55_68 : t_OP 55 68 = some (.invokevirtual 90, 56, 0, 3, 0, .null) := by decide +kernel
theorem o_55_71 : t_OP 55 71 = some (.goto (33), 104, 0, 0, 0, .null) := by decide +kernel
theorem o_55_74 : t_OP 55 74 = some (.aload_n 0, 0, 0, 0, 0, .null) := by decide +kernel
theorem o_55_75 : t_OP 55 75 = some (.getfield 12, 1, 0, 0, 0, .null) := by decide +kernel
theorem o_55_78 : t_OP 55 78 = some (.bipush (114), 0, 0, 0, 114, .null) := by decide +kernel
theorem o_55_80 : t_OP 55 80 = some (.invokevirtual 38, 40, 0, 1, 0, .null) := by decide +kernel
theorem o_55_83 : t_OP 55 83 = some (.istore_n 3, 0, 0, 0, 0, .null) := by decide +kernel
theorem o_55_84 : t_OP 55 84 = some (.iload_n 3, 0, 0, 0, 0, .null) := by decide +kernel
theorem o_55_85 : t_OP 55 85 = some (.iconst (-1), 0, 0, 0, (-1), .null) := by decide +kernel
theorem o_55_86 : t_OP 55 86 = some (.if_icmp .ne (8), 94, 0, 0, 0, .null) := by decide +kernel
theorem o_55_89 : t_OP 55 89 = some (.aload_n 0, 0, 0, 0, 0, .null) := by decide +kernel
theorem o_55_90 : t_OP 55 90 = some (.invokevirtual 49, 44, 0, 0, 0, .null) := by decide +kernel
theorem o_55_93 : t_OP 55 93 = some (.ireturn, 0, 0, 0, 0, .null) := by decide +kernel
theorem o_55_94 : t_OP 55 94 = some (.aload_n 0, 0, 0, 0, 0, .null) := by decide +kernel
theorem o_55_95 : t_OP 55 95 = some (.getfield 21, 1, 1, 0, 0, .null) := by decide +kernel
theorem o_55_98 : t_OP 55 98 = some (.iconst (1), 0, 0, 0, 1, .null) := by decide +kernel
theorem o_55_99 : t_OP 55 99 = some (.iload_n 2, 0, 0, 0, 0, .null) := by decide +kernel
theorem o_55_100 : t_OP 55 100 = some (.iload_n 3, 0, 0, 0, 0, .null) := by decide +kernel
theorem o_55_101 : t_OP 55 101 = some (.invokevirtual 90, 56, 0, 3, 0, .null) := by decide +kernel
theorem o_55_104 : t_OP 55 104 = some (.aload_n 0, 0, 0, 0, 0, .null) := by decide +kernel
theorem o_55_105 : t_OP 55 105 = some (.getfield 12, 1, 0, 0, 0, .null) := by decide +kernel
theorem o_55_108 : t_OP 55 108 = some (.invokevirtual 62, 34, 0, 0, 0, .null) := by decide +kernel
theorem o_55_111 : t_OP 55 111 = some (.iconst (1), 0, 0, 0, 1, .null) := by decide +kernel
theorem o_55_112 : t_OP 55 112 = some (.ireturn, 0, 0, 0, 0, .null) := by decide +kernel
theorem o_56_0 : t_OP 56 0 = some (.aload_n 0, 0, 0, 0, 0, .null) := by decide +kernel
theorem o_56_1 : t_OP 56 1 = some (.getfield 37, 0, 1, 0, 0, .null) := by decide +kernel
theorem o_56_4 : t_OP 56 4 = some (.bipush (24), 0, 0, 0, 24, .null) := by decide +kernel
theorem o_56_6 : t_OP 56 6 = some (.if_icmp .ge (30), 36, 0, 0, 0, .null) := by decide +kernel
theorem o_56_9 : t_OP 56 9 = some (.aload_n 0, 0, 0, 0, 0, .null) := by decide +kernel
theorem o_56_10 : t_OP 56 10 = some (.aload_n 0, 0, 0, 0, 0, .null) := by decide +kernel
theorem o_56_11 : t_OP 56 11 = some (.getfield 37, 0, 1, 0, 0, .null) := by decide +kernel
theorem o_56_14 : t_OP 56 14 = some (.aload_n 0, 0, 0, 0, 0, .null) := by decide +kernel
theorem o_56_15 : t_OP 56 15 = some (.getfield 33, 0, 0, 0, 0, .null) := by decide +kernel
theorem o_56_18 : t_OP 56 18 = some (.iconst (1), 0, 0, 0, 1, .null) := by decide +kernel
theorem o_56_19 : t_OP 56 19 = some (.isub, 0, 0, 0, 0, .null) := by decide +kernel
theorem o_56_20 : t_OP 56 20 = some (.iload_n 1, 0, 0, 0, 0, .null) := by decide +kernel
theorem o_56_21 : t_OP 56 21 = some (.iload_n 2, 0, 0, 0, 0, .null) := by decide +kernel
theorem o_56_22 : t_OP 56 22 = some (.iload_n 3, 0, 0, 0, 0, .null) := by decide +kernel
theorem o_56_23 : t_OP 56 23 = some (.invokevirtual 46, 57, 0, 5, 0, .null) := by decide +kernel
theorem o_56_26 : t_OP 56 26 = some (.aload_n 0, 0, 0, 0, 0, .null) := by decide +kernel
theorem o_56_27 : t_OP 56 27 = some (.dup, 0, 0, 0, 0, .null) := by decide +kernel
theorem o_56_28 : t_OP 56 28 = some (.getfield 37, 0, 1, 0, 0, .null) := by decide +kernel
theorem o_56_31 : t_OP 56 31 = some (.iconst (1), 0, 0, 0, 1, .null) := by decide +kernel
theorem o_56_32 : t_OP 56 32 = some (.iadd, 0, 0, 0, 0, .null) := by decide +kernel
theorem o_56_33 : t_OP 56 33 = some (.putfield 37, 0, 1, 0, 0, .null) := by decide +kernel
theorem o_56_36 : t_OP 56 36 = some (.return_, 0, 0, 0, 0, .null) := by decide +kernel
theorem o_57_0 : t_OP 57 0 = some (.aload_n 0, 0, 0, 0, 0, .null) := by decide +kernel
theorem o_57_1 : t_OP 57 1 = some (.getfield 9, 0, 4, 0, 0, .null) := by decide +kernel
theorem o_57_4 : t_OP 57 4 = some (.iload_n 1, 0, 0, 0, 0, .null) := by decide +kernel
theorem o_57_5 : t_OP 57 5 = some (.iload_n 2, 0, 0, 0, 0, .null) := by decide +kernel
theorem o_57_6 : t_OP 57 6 = some (.iastore, 0, 0, 0, 0, .null) := by decide +kernel
theorem o_57_7 : t_OP 57 7 = some (.aload_n 0, 0, 0, 0, 0, .null) := by decide +kernel
theorem o_57_8 : t_OP 57 8 = some (.getfield 15, 0, 5, 0, 0, .null) := by decide +kernel
theorem o_57_11 : t_OP 57 11 = some (.iload_n 1, 0, 0, 0, 0, .null) := by decide +kernel
theorem o_57_12 : t_OP 57 12 = some (.iload_n 3, 0, 0, 0, 0, .null) := by decide +kernel
theorem o_57_13 : t_OP 57 13 = some (.iastore, 0, 0, 0, 0, .null) := by decide +kernel
theorem o_57_14 : t_OP 57 14 = some (.aload_n 0, 0, 0, 0, 0, .null) := by decide +kernel
theorem o_57_15 : t_OP 57 15 = some (.getfield 18, 0, 6, 0, 0, .null) := by decide +kernel
theorem o_57_18 : t_OP 57 18 = some (.iload_n 1, 0, 0, 0, 0, .null) := by decide +kernel
theorem o_57_19 : t_OP 57 19 = some (.iload 4, 0, 0, 0, 0, .null) := by decide +kernel
theorem o_57_21 : t_OP 57 21 = some (.iastore, 0, 0, 0, 0, .null) := by decide +kernel
theorem o_57_22 : t_OP 57 22 = some (.aload_n 0, 0, 0, 0, 0, .null) := by decide +kernel
theorem o_57_23 : t_OP 57 23 = some (.getfield 21, 0, 7, 0, 0, .null) := by decide +kernel
theorem o_57_26 : t_OP 57 26 = some (.iload_n 1, 0, 0, 0, 0, .null) := by decide +kernel
theorem o_57_27 : t_OP 57 27 = some (.iload 5, 0, 0, 0, 0, .null) := by decide +kernel
theorem o_57_29 : t_OP 57 29 = some (.iastore, 0, 0, 0, 0, .null) := by decide +kernel
theorem o_57_30 : t_OP 57 30 = some (.return_, 0, 0, 0, 0, .null) := by decide +kernel
theorem o_58_0 : t_OP 58 0 = some (.aload_n 0, 0, 0, 0, 0, .null) := by decide +kernel
theorem o_58_1 : t_OP 58 1 = some (.getfield 32, 4, 2, 0, 0, .null) := by decide +kernel
theorem o_58_4 : t_OP 58 4 = some (.ifCond .ne (43), 47, 0, 0, 0, .null) := by decide +kernel
theorem o_58_7 : t_OP 58 7 = some (.aload_n 0, 0, 0, 0, 0, .null) := by decide +kernel
theorem o_58_8 : t_OP 58 8 = some (.getfield 23, 4, 4, 0, 0, .null) := by decide +kernel
theorem o_58_11 : t_OP 58 11 = some (.aload_n 0, 0, 0, 0, 0, .null) := by decide +kernel
theorem o_58_12 : t_OP 58 12 = some (.getfield 29, 4, 3, 0, 0, .null) := by decide +kernel
theorem o_58_15 : t_OP 58 15 = some (.isub, 0, 0, 0, 0, .null) := by decide +kernel
theorem o_58_16 : t_OP 58 16 = some (.iconst (1), 0, 0, 0, 1, .null) := by decide +kernel
theorem o_58_17 : t_OP 58 17 = some (.if_icmp .ne (30), 47, 0, 0, 0, .null) := by decide +kernel
theorem o_58_20 : t_OP 58 20 = some (.aload_n 0, 0, 0, 0, 0, .null) := by decide +kernel
theorem o_58_21 : t_OP 58 21 = some (.getfield 23, 4, 4, 0, 0, .null) := by decide +kernel
theorem o_58_24 : t_OP 58 24 = some (.aload_n 0, 0, 0, 0, 0, .null) := by decide +kernel
theorem o_58_25 : t_OP 58 25 = some (.getfield 15, 4, 1, 0, 0, .null) := by decide +kernel
theorem o_58_28 : t_OP 58 28 = some (.if_icmp .gt (19), 47, 0, 0, 0, .null) := by decide +kernel
theorem o_58_31 : t_OP 58 31 = some (.aload_n 0, 0, 0, 0, 0, .null) := by decide +kernel
theorem o_58_32 : t_OP 58 32 = some (.getfield 9, 4, 0, 0, 0, .null) := by decide +kernel
theorem o_58_35 : t_OP 58 35 = some (.aload_n 0, 0, 0, 0, 0, .null) := by decide +kernel
theorem o_58_36 : t_OP 58 36 = some (.getfield 29, 4, 3, 0, 0, .null) := by decide +kernel
theorem o_58_39 : t_OP 58 39 = some (.baload, 0, 0, 0, 0, .null) := by decide +kernel
theorem o_58_40 : t_OP 58 40 = some (.bipush (97), 0, 0, 0, 97, .null) := by decide +kernel
theorem o_58_42 : t_OP 58 42 = some (.isub, 0, 0, 0, 0, .null) := by decide +kernel
theorem o_58_43 : t_OP 58 43 = some (.iconst (4), 0, 0, 0, 4, .null) := by decide +kernel
theorem o_58_44 : t_OP 58 44 = some (.if_icmp .lt (5), 49, 0, 0, 0, .null) := by decide +kernel
theorem o_58_47 : t_OP 58 47 = some (.iconst (-1), 0, 0, 0, (-1), .null) := by decide +kernel
theorem o_58_48 : t_OP 58 48 = some (.ireturn, 0, 0, 0, 0, .null) := by decide +kernel
theorem o_58_49 : t_OP 58 49 = some (.aload_n 0, 0, 0, 0, 0, .null) := by decide +kernel
theorem o_58_50 : t_OP 58 50 = some (.getfield 9, 4, 0, 0, 0, .null) := by decide +kernel
theorem o_58_53 : t_OP 58 53 = some (.aload_n 0, 0, 0, 0, 0, .null) := by decide +kernel
theorem o_58_54 : t_OP 58 54 = some (.getfield 29, 4, 3, 0, 0, .null) := by decide +kernel
theorem o_58_57 : t_OP 58 57 = some (.baload, 0, 0, 0, 0, .null) := by decide +kernel
theorem o_58_58 : t_OP 58 58 = some (.bipush (97), 0, 0, 0, 97, .null) := by decide +kernel
theorem o_58_60 : t_OP 58 60 = some (.isub, 0, 0, 0, 0, .null) := by decide +kernel
theorem o_58_61 : t_OP 58 61 = some (.ireturn, 0, 0, 0, 0, .null) := by decide +kernel
theorem o_59_0 : t_OP 59 0 = some (.aload_n 0, 0, 0, 0, 0, .null) := by decide +kernel
theorem o_59_1 : t_OP 59 1 = some (.getfield 12, 1, 0, 0, 0, .null) := by decide +kernel
theorem o_59_4 : t_OP 59 4 = some (.getfield 128, 4, 2, 0, 0, .null) := by decide +kernel
theorem o_59_7 : t_OP 59 7 = some (.iconst (1), 0, 0, 0, 1, .null) := by decide +kernel
theorem o_59_8 : t_OP 59 8 = some (.if_icmp .eq (8), 16, 0, 0, 0, .null) := by decide +kernel
theorem o_59_11 : t_OP 59 11 = some (.aload_n 0, 0, 0, 0, 0, .null) := by decide +kernel
theorem o_59_12 : t_OP 59 12 = some (.invokevirtual 49, 44, 0, 0, 0, .null) := by decide +kernel
theorem o_59_15 : t_OP 59 15 = some (.ireturn, 0, 0, 0, 0, .null) := by decide +kernel
theorem o_59_16 : t_OP 59 16 = some (.aload_n 0, 0, 0, 0, 0, .null) := by decide +kernel
theorem o_59_17 : t_OP 59 17 = some (.getfield 12, 1, 0, 0, 0, .null) := by decide +kernel
theorem o_59_20 : t_OP 59 20 = some (.getfield 100, 4, 5, 0, 0, .null) := by decide +kernel
theorem o_59_23 : t_OP 59 23 = some (.bipush (99), 0, 0, 0, 99, .null) := by decide +kernel
theorem o_59_25 : t_OP 59 25 = some (.if_icmp .le (18), 43, 0, 0, 0, .null) := by decide +kernel
theorem o_59_28 : t_OP 59 28 = some (.aload_n 0, 0, 0, 0, 0, .null) := by decide +kernel
theorem o_59_29 : t_OP 59 29 = some (.iconst (3), 0, 0, 0, 3, .null) := by decide +kernel
theorem o_59_30 : t_OP 59 30 = some (.aload_n 0, 0, 0, 0, 0, .null) := by decide +kernel
theorem o_59_31 : t_OP 59 31 = some (.getfield 12, 1, 0, 0, 0, .null) := by decide +kernel
theorem o_59_34 : t_OP 59 34 = some (.getfield 55, 4, 3, 0, 0, .null) := by decide +kernel
theorem o_59_37 : t_OP 59 37 = some (.invokevirtual 58, 45, 0, 2, 0, .null) := by decide +kernel
theorem o_59_40 : t_OP 59 40 = some (.ifCond .eq (7), 47, 0, 0, 0, .null) := by decide +kernel
theorem o_59_43 : t_OP 59 43 = some (.iconst (1), 0, 0, 0, 1, .null) := by decide +kernel
theorem o_59_44 : t_OP 59 44 = some (.goto (4), 48, 0, 0, 0, .null) := by decide +kernel
theorem o_59_47 : t_OP 59 47 = some (.iconst (0), 0, 0, 0, 0, .null) := by decide +kernel
theorem o_59_48 : t_OP 59 48 = some (.ireturn, 0, 0, 0, 0, .null) := by decide +kernel
theorem o_60_0 : t_OP 60 0 = some (.aload_n 0, 0, 0, 0, 0, .null) := by decide +kernel
theorem o_60_1 : t_OP 60 1 = some (.getfield 33, 0, 0, 0, 0, .null) := by decide +kernel
theorem o_60_4 : t_OP 60 4 = some (.ifCond .ne (7), 11, 0, 0, 0, .null) := by decide +kernel
theorem o_60_7 : t_OP 60 7 = some (.iconst (1), 0, 0, 0, 1, .null) := by decide +kernel
theorem o_60_8 : t_OP 60 8 = some (.goto (4), 12, 0, 0, 0, .null) := by decide +kernel
theorem o_60_11 : t_OP 60 11 = some (.iconst (0), 0, 0, 0, 0, .null) := by decide +kernel
theorem o_60_12 : t_OP 60 12 = some (.ireturn, 0, 0, 0, 0, .null) := by decide +kernel
theorem o_61_0 : t_OP 61 0 = some (.aload_n 0, 0, 0, 0, 0, .null) := by decide +kernel
theorem o_61_1 : t_OP 61 1 = some (.getfield 12, 1, 0, 0, 0, .null) := by decide +kernel
theorem o_61_4 : t_OP 61 4 = some (.ldc 103, 0, 0, 0, 0, .ref 2006) := by decide +kernel
theorem o_61_6 : t_OP 61 6 = some (.invokevirtual 82, 47, 0, 1, 0, .null) := by decide +kernel
theorem o_61_9 : t_OP 61 9 = some (.ifCond .eq (14), 23, 0, 0, 0, .null) := by decide +kernel
theorem o_61_12 : t_OP 61 12 = some (.aload_n 0, 0, 0, 0, 0, .null) := by decide +kernel
theorem o_61_13 : t_OP 61 13 = some (.getfield 21, 1, 1, 0, 0, .null) := by decide +kernel
theorem o_61_16 : t_OP 61 16 = some (.iconst (1), 0, 0, 0, 1, .null) := by decide +kernel
theorem o_61_17 : t_OP 61 17 = some (.putfield 105, 0, 3, 0, 0, .null) := by decide +kernel
theorem o_61_20 : t_OP 61 20 = some (.goto (28), 48, 0, 0, 0, .null) := by decide +kernel
theorem o_61_23 : t_OP 61 23 = some (.aload_n 0, 0, 0, 0, 0, .null) := by decide +kernel
theorem o_61_24 : t_OP 61 24 = some (.getfield 12, 1, 0, 0, 0, .null) := by decide +kernel
theorem o_61_27 : t_OP 61 27 = some (.ldc 108, 0, 0, 0, 0, .ref 2007) := by decide +kernel
theorem o_61_29 : t_OP 61 29 = some (.invokevirtual 82, 47, 0, 1, 0, .null) := by decide +kernel
theorem o_61_32 : t_OP 61 32 = some (.ifCond .eq (14), 46, 0, 0, 0, .null) := by decide +kernel
theorem o_61_35 : t_OP 61 35 = some (.aload_n 0, 0, 0, 0, 0, .null) := by decide +kernel
theorem o_61_36 : t_OP 61 36 = some (.getfield 21, 1, 1, 0, 0, .null) := by decide +kernel
theorem o_61_39 : t_OP 61 39 = some (.iconst (2), 0, 0, 0, 2, .null) := by decide +kernel
theorem o_61_40 : t_OP 61 40 = some (.putfield 105, 0, 3, 0, 0, .null) := by decide +kernel
theorem o_61_43 : t_OP 61 43 = some (.goto (5), 48, 0, 0, 0, .null) := by decide +kernel
theorem o_61_46 : t_OP 61 46 = some (.iconst (1), 0, 0, 0, 1, .null) := by decide +kernel
theorem o_61_47 : t_OP 61 47 = some (.ireturn, 0, 0, 0, 0, .null) := by decide +kernel
theorem o_61_48 : t_OP 61 48 = some (.aload_n 0, 0, 0, 0, 0, .null) := by decide +kernel
theorem o_61_49 : t_OP 61 49 = some (.getfield 12, 1, 0, 0, 0, .null) := by decide +kernel
theorem o_61_52 : t_OP 61 52 = some (.invokevirtual 62, 34, 0, 0, 0, .null) := by decide +kernel
theorem o_61_55 : t_OP 61 55 = some (.aload_n 0, 0, 0, 0, 0, .null) := by decide +kernel
theorem o_61_56 : t_OP 61 56 = some (.bipush (40), 0, 0, 0, 40, .null) := by decide +kernel
theorem o_61_58 : t_OP 61 58 = some (.invokevirtual 65, 42, 0, 1, 0, .null) := by decide +kernel
theorem o_61_61 : t_OP 61 61 = some (.ifCond .ne (5), 66, 0, 0, 0, .null) := by decide +kernel
theorem o_61_64 : t_OP 61 64 = some (.iconst (0), 0, 0, 0, 0, .null) := by decide +kernel
theorem o_61_65 : t_OP 61 65 = some (.ireturn, 0, 0, 0, 0, .null) := by decide +kernel
theorem o_61_66 : t_OP 61 66 = some (.iconst (0), 0, 0, 0, 0, .null) := by decide +kernel
theorem o_61_67 : t_OP 61 67 = some (.istore_n 1, 0, 0, 0, 0, .null) := by decide +kernel
theorem o_61_68 : t_OP 61 68 = some (.iload_n 1, 0, 0, 0, 0, .null) := by decide +kernel
theorem o_61_69 : t_OP 61 69 = some (.bipush (16), 0, 0, 0, 16, .null) := by decide +kernel
theorem o_61_71 : t_OP 61 71 = some (.if_icmp .gt (44), 115, 0, 0, 0, .null) := by decide +kernel
theorem o_61_74 : t_OP 61 74 = some (.aload_n 0, 0, 0, 0, 0, .null) := by decide +kernel
theorem o_61_75 : t_OP 61 75 = some (.invokevirtual 110, 62, 0, 0, 0, .null) := by decide +kernel
theorem o_61_78 : t_OP 61 78 = some (.ifCond .ne (5), 83, 0, 0, 0, .null) := by decide +kernel
theorem o_61_81 : t_OP 61 81 = some (.iconst (0), 0, 0, 0, 0, .null) := by decide +kernel
theorem o_61_82 : t_OP 61 82 = some (.ireturn, 0, 0, 0, 0, .null) := by decide +kernel
theorem o_61_83 : t_OP 61 83 = some (.aload_n 0, 0, 0, 0, 0, .null) := by decide +kernel
theorem o_61_84 : t_OP 61 84 = some (.getfield 12, 1, 0, 0, 0, .null) := by decide +kernel
theorem o_61_87 : t_OP 61 87 = some (.bipush (38), 0, 0, 0, 38, .null) := by decide +kernel
theorem o_61_89 : t_OP 61 89 = some (.invokevirtual 113, 43, 0, 1, 0, .null) := by decide +kernel
theorem o_61_92 : t_OP 61 92 = some (.ifCond .ne (10), 102, 0, 0, 0, .null) := by decide +kernel
theorem o_61_95 : t_OP 61 95 = some (.aload_n 0, 0, 0, 0, 0, .null) := by decide +kernel
theorem o_61_96 : t_OP 61 96 = some (.bipush (41), 0, 0, 0, 41, .null) := by decide +kernel
theorem o_61_98 : t_OP 61 98 = some (.invokevirtual 65, 42, 0, 1, 0, .null) := by decide +kernel
theorem o_61_101 : t_OP 61 101 = some (.ireturn, 0, 0, 0, 0, .null) := by decide +kernel
theorem o_61_102 : t_OP 61 102 = some (.aload_n 0, 0, 0, 0, 0, .null) := by decide +kernel
theorem o_61_103 : t_OP 61 103 = some (.getfield 12, 1, 0, 0, 0, .null) := by decide +kernel
theorem o_61_106 : t_OP 61 106 = some (.invokevirtual 62, 34, 0, 0, 0, .null) := by decide +kernel
theorem o_61_109 : t_OP 61 109 = some (.iinc 1 (1), 0, 0, 0, 1, .null) := by decide +kernel
theorem o_61_112 : t_OP 61 112 = some (.goto (-44), 68, 0, 0, 0, .null) := by decide +kernel
theorem o_61_115 : t_OP 61 115 = some (.iconst (1), 0, 0, 0, 1, .null) := by decide +kernel
theorem o_61_116 : t_OP 61 116 = some (.ireturn, 0, 0, 0, 0, .null) := by decide +kernel
theorem o_62_0 : t_OP 62 0 = some (.aload_n 0, 0, 0, 0, 0, .null) := by decide +kernel
theorem o_62_1 : t_OP 62 1 = some (.getfield 12, 1, 0, 0, 0, .null) := by decide +kernel
theorem o_62_4 : t_OP 62 4 = some (.invokevirtual 94, 58, 0, 0, 0, .null) := by decide +kernel
theorem o_62_7 : t_OP 62 7 = some (.istore_n 1, 0, 0, 0, 0, .null) := by decide +kernel
theorem o_62_8 : t_OP 62 8 = some (.aload_n 0, 0, 0, 0, 0, .null) := by decide +kernel
theorem o_62_9 : t_OP 62 9 = some (.getfield 12, 1, 0, 0, 0, .null) := by decide +kernel
theorem o_62_12 : t_OP 62 12 = some (.bipush (116), 0, 0, 0, 116, .null) := by decide +kernel
theorem o_62_14 : t_OP 62 14 = some (.invokevirtual 38, 40, 0, 1, 0, .null) := by decide +kernel
theorem o_62_17 : t_OP 62 17 = some (.istore_n 2, 0, 0, 0, 0, .null) := by decide +kernel
theorem o_62_18 : t_OP 62 18 = some (.iload_n 1, 0, 0, 0, 0, .null) := by decide +kernel
theorem o_62_19 : t_OP 62 19 = some (.iconst (-1), 0, 0, 0, (-1), .null) := by decide +kernel
theorem o_62_20 : t_OP 62 20 = some (.if_icmp .ne (18), 38, 0, 0, 0, .null) := by decide +kernel
theorem o_62_23 : t_OP 62 23 = some (.iload_n 2, 0, 0, 0, 0, .null) := by decide +kernel
theorem o_62_24 : t_OP 62 24 = some (.iconst (-1), 0, 0, 0, (-1), .null) := by decide +kernel
theorem o_62_25 : t_OP 62 25 = some (.if_icmp .eq (8), 33, 0, 0, 0, .null) := by decide +kernel
theorem o_62_28 : t_OP 62 28 = some (.iload_n 2, 0, 0, 0, 0, .null) := by decide +kernel
theorem o_62_29 : t_OP 62 29 = some (.iconst (4), 0, 0, 0, 4, .null) := by decide +kernel
theorem o_62_30 : t_OP 62 30 = some (.if_icmp .lt (8), 38, 0, 0, 0, .null) := by decide +kernel
theorem o_62_33 : t_OP 62 33 = some (.aload_n 0, 0, 0, 0, 0, .null) := by decide +kernel
theorem o_62_34 : t_OP 62 34 = some (.invokevirtual 49, 44, 0, 0, 0, .null) := by decide +kernel
theorem o_62_37 : t_OP 62 37 = some (.ireturn, 0, 0, 0, 0, .null) := by decide +kernel
theorem o_62_38 : t_OP 62 38 = some (.aload_n 0, 0, 0, 0, 0, .null) := by decide +kernel
theorem o_62_39 : t_OP 62 39 = some (.getfield 21, 1, 1, 0, 0, .null) := by decide +kernel
theorem o_62_42 : t_OP 62 42 = some (.getfield 116, 0, 2, 0, 0, .null) := by decide +kernel
theorem o_62_45 : t_OP 62 45 = some (.bipush (16), 0, 0, 0, 16, .null) := by decide +kernel
theorem o_62_47 : t_OP 62 47 = some (.if_icmp .lt (16), 63, 0, 0, 0, .null) := by decide +kernel
theorem o_62_50 : t_OP 62 50 = some (.aload_n 0, 0, 0, 0, 0, .null) := by decide +kernel
theorem o_62_51 : t_OP 62 51 = some (.iconst (4), 0, 0, 0, 4, .null) := by decide +kernel
theorem o_62_52 : t_OP 62 52 = some (.aload_n 0, 0, 0, 0, 0, .null) := by decide +kernel
theorem o_62_53 : t_OP 62 53 = some (.getfield 12, 1, 0, 0, 0, .null) := by decide +kernel
theorem o_62_56 : t_OP 62 56 = some (.getfield 55, 4, 3, 0, 0, .null) := by decide +kernel
theorem o_62_59 : t_OP 62 59 = some (.invokevirtual 58, 45, 0, 2, 0, .null) := by decide +kernel
theorem o_62_62 : t_OP 62 62 = some (.ireturn, 0, 0, 0, 0, .null) := by decide +kernel
theorem o_62_63 : t_OP 62 63 = some (.iload_n 1, 0, 0, 0, 0, .null) := by decide +kernel
theorem o_62_64 : t_OP 62 64 = some (.istore_n 3, 0, 0, 0, 0, .null) := by decide +kernel
theorem o_62_65 : t_OP 62 65 = some (.iload_n 1, 0, 0, 0, 0, .null) := by decide +kernel
theorem o_62_66 : t_OP 62 66 = some (.iconst (-1), 0, 0, 0, (-1), .null) := by decide +kernel
theorem o_62_67 : t_OP 62 67 = some (.if_icmp .ne (23), 90, 0, 0, 0, .null) := by decide +kernel
theorem o_62_70 : t_OP 62 70 = some (.aload_n 0, 0, 0, 0, 0, .null) := by decide +kernel
theorem o_62_71 : t_OP 62 71 = some (.iload_n 2, 0, 0, 0, 0, .null) := by decide +kernel
theorem o_62_72 : t_OP 62 72 = some (.invokevirtual 119, 63, 0, 1, 0, .null) := by decide +kernel
theorem o_62_75 : t_OP 62 75 = some (.ifCond .ne (5), 80, 0, 0, 0, .null) := by decide +kernel
theorem o_62_78 : t_OP 62 78 = some (.iconst (0), 0, 0, 0, 0, .null) := by decide +kernel
theorem o_62_79 : t_OP 62 79 = some (.ireturn, 0, 0, 0, 0, .null) := by decide +kernel
theorem o_62_80 : t_OP 62 80 = some (.aload_n 0, 0, 0, 0, 0, .null) := by decide +kernel
theorem o_62_81 : t_OP 62 81 = some (.getfield 12, 1, 0, 0, 0, .null) := by decide +kernel
theorem o_62_84 : t_OP 62 84 = some (.bipush (114), 0, 0, 0, 114, .null) := by decide +kernel
theorem o_62_86 : t_OP 62 86 = some (.invokevirtual 38, 40, 0, 1, 0, .null) := by decide +kernel
theorem o_62_89 : t_OP 62 89 = some (.istore_n 3, 0, 0, 0, 0, .null) := by decide +kernel
theorem o_62_90 : t_OP 62 90 = some (.aload_n 0, 0, 0, 0, 0, .null) := by decide +kernel
theorem o_62_91 : t_OP 62 91 = some (.getfield 12, 1, 0, 0, 0, .null) := by decide +kernel
theorem o_62_94 : t_OP 62 94 = some (.invokevirtual 62, 34, 0, 0, 0, .null) := by decide +kernel
theorem o_62_97 : t_OP 62 97 = some (.aload_n 0, 0, 0, 0, 0, .null) := by decide +kernel
theorem o_62_98 : t_OP 62 98 = some (.bipush (61), 0, 0, 0, 61, .null) := by decide +kernel
theorem o_62_100 : t_OP 62 100 = some (.invokevirtual 65, 42, 0, 1, 0, .null) := by decide +kernel
theorem o_62_103 : t_OP 62 103 = some (.ifCond .eq (10), 113, 0, 0, 0, .null) := by decide +kernel
theorem o_62_106 : t_OP 62 106 = some (.aload_n 0, 0, 0, 0, 0, .null) := by decide +kernel
theorem o_62_107 : t_OP 62 107 = some (.invokevirtual 97, 59, 0, 0, 0, .null) := by decide +kernel
theorem o_62_110 : t_OP 62 110 = some (.ifCond .ne (5), 115, 0, 0, 0, .null) := by decide +kernel
theorem o_62_113 : t_OP 62 113 = some (.iconst (0), 0, 0, 0, 0, .null) := by decide +kernel
theorem o_62_114 : t_OP 62 114 = some (.ireturn, 0, 0, 0, 0, .null) := by decide +kernel
theorem o_62_115 : t_OP 62 115 = some (.aload_n 0, 0, 0, 0, 0, .null) := by decide +kernel
theorem o_62_116 : t_OP 62 116 = some (.getfield 21, 1, 1, 0, 0, .null) := by decide +kernel
theorem o_62_119 : t_OP 62 119 = some (.iload_n 2, 0, 0, 0, 0, .null) := by decide +kernel
theorem o_62_120 : t_OP 62 120 = some (.iload_n 3, 0, 0, 0, 0, .null) := by decide +kernel
theorem o_62_121 : t_OP 62 121 = some (.aload_n 0, 0, 0, 0, 0, .null) := by decide +kernel
theorem o_62_122 : t_OP 62 122 = some (.getfield 12, 1, 0, 0, 0, .null) := by decide +kernel
theorem o_62_125 : t_OP 62 125 = some (.getfield 100, 4, 5, 0, 0, .null) := by decide +kernel
theorem o_62_128 : t_OP 62 128 = some (.invokevirtual 122, 65, 0, 3, 0, .null) := by decide +kernel
theorem o_62_131 : t_OP 62 131 = some (.aload_n 0, 0, 0, 0, 0, .null) := by decide +kernel
theorem o_62_132 : t_OP 62 132 = some (.getfield 12, 1, 0, 0, 0, .null) := by decide +kernel
theorem o_62_135 : t_OP 62 135 = some (.invokevirtual 62, 34, 0, 0, 0, .null) := by decide +kernel
theorem o_62_138 : t_OP 62 138 = some (.iconst (1), 0, 0, 0, 1, .null) := by decide +kernel
theorem o_62_139 : t_OP 62 139 = some (.ireturn, 0, 0, 0, 0, .null) := by decide +kernel
theorem o_63_0 : t_OP 63 0 = some (.aload_n 0, 0, 0, 0, 0, .null) := by decide +kernel
theorem o_63_1 : t_OP 63 1 = some (.getfield 12, 1, 0, 0, 0, .null) := by decide +kernel
theorem o_63_4 : t_OP 63 4 = some (.getfield 55, 4, 3, 0, 0, .null) := by decide +kernel
theorem o_63_7 : t_OP 63 7 = some (.istore_n 2, 0, 0, 0, 0, .null) := by decide +kernel
theorem o_63_8 : t_OP 63 8 = some (.iload_n 1, 0, 0, 0, 0, .null) := by decide +kernel
theorem o_63_9 : t_OP 63 9 = some (.aload_n 0, 0, 0, 0, 0, .null) := by decide +kernel
theorem o_63_10 : t_OP 63 10 = some (.getfield 21, 1, 1, 0, 0, .null) := by decide +kernel
theorem o_63_13 : t_OP 63 13 = some (.getfield 52, 0, 0, 0, 0, .null) := by decide +kernel
theorem o_63_16 : t_OP 63 16 = some (.if_icmp .lt (10), 26, 0, 0, 0, .null) := by decide +kernel
theorem o_63_19 : t_OP 63 19 = some (.aload_n 0, 0, 0, 0, 0, .null) := by decide +kernel
theorem o_63_20 : t_OP 63 20 = some (.iconst (5), 0, 0, 0, 5, .null) := by decide +kernel
theorem o_63_21 : t_OP 63 21 = some (.iload_n 2, 0, 0, 0, 0, .null) := by decide +kernel
theorem o_63_22 : t_OP 63 22 = some (.invokevirtual 58, 45, 0, 2, 0, .null) := by decide +kernel
theorem o_63_25 : t_OP 63 25 = some (.ireturn, 0, 0, 0, 0, .null) := by decide +kernel
theorem o_63_26 : t_OP 63 26 = some (.aload_n 0, 0, 0, 0, 0, .null) := by decide +kernel
theorem o_63_27 : t_OP 63 27 = some (.getfield 12, 1, 0, 0, 0, .null) := by decide +kernel
theorem o_63_30 : t_OP 63 30 = some (.invokevirtual 62, 34, 0, 0, 0, .null) := by decide +kernel
theorem o_63_33 : t_OP 63 33 = some (.aload_n 0, 0, 0, 0, 0, .null) := by decide +kernel
theorem o_63_34 : t_OP 63 34 = some (.bipush (58), 0, 0, 0, 58, .null) := by decide +kernel
theorem o_63_36 : t_OP 63 36 = some (.invokevirtual 65, 42, 0, 1, 0, .null) := by decide +kernel
theorem o_63_39 : t_OP 63 39 = some (.ifCond .ne (5), 44, 0, 0, 0, .null) := by decide +kernel
theorem o_63_42 : t_OP 63 42 = some (.iconst (0), 0, 0, 0, 0, .null) := by decide +kernel
theorem o_63_43 : t_OP 63 43 = some (.ireturn, 0, 0, 0, 0, .null) := by decide +kernel
theorem o_63_44 : t_OP 63 44 = some (.aload_n 0, 0, 0, 0, 0, .null) := by decide +kernel
theorem o_63_45 : t_OP 63 45 = some (.getfield 12, 1, 0, 0, 0, .null) := by decide +kernel
theorem o_63_48 : t_OP 63 48 = some (.bipush (114), 0, 0, 0, 114, .null) := by decide +kernel
theorem o_63_50 : t_OP 63 50 = some (.invokevirtual 38, 40, 0, 1, 0, .null) := by decide +kernel
theorem o_63_53 : t_OP 63 53 = some (.istore_n 3, 0, 0, 0, 0, .null) := by decide +kernel
theorem o_63_54 : t_OP 63 54 = some (.iload_n 3, 0, 0, 0, 0, .null) := by decide +kernel
theorem o_63_55 : t_OP 63 55 = some (.iconst (-1), 0, 0, 0, (-1), .null) := by decide +kernel
theorem o_63_56 : t_OP 63 56 = some (.if_icmp .ne (8), 64, 0, 0, 0, .null) := by decide +kernel
theorem o_63_59 : t_OP 63 59 = some (.aload_n 0, 0, 0, 0, 0, .null) := by decide +kernel
theorem o_63_60 : t_OP 63 60 = some (.invokevirtual 49, 44, 0, 0, 0, .null) := by decide +kernel
theorem o_63_63 : t_OP 63 63 = some (.ireturn, 0, 0, 0, 0, .null) := by decide +kernel
theorem o_63_64 : t_OP 63 64 = some (.aload_n 0, 0, 0, 0, 0, .null) := by decide +kernel
theorem o_63_65 : t_OP 63 65 = some (.getfield 21, 1, 1, 0, 0, .null) := by decide +kernel
theorem o_63_68 : t_OP 63 68 = some (.iload_n 1, 0, 0, 0, 0, .null) := by decide +kernel
theorem o_63_69 : t_OP 63 69 = some (.iload_n 3, 0, 0, 0, 0, .null) := by decide +kernel
theorem o_63_70 : t_OP 63 70 = some (.invokevirtual 125, 64, 0, 2, 0, .null) := by decide +kernel
theorem o_63_73 : t_OP 63 73 = some (.ifCond .ne (12), 85, 0, 0, 0, .null) := by decide +kernel
theorem o_63_76 : t_OP 63 76 = some (.aload_n 0, 0, 0, 0, 0, .null) := by decide +kernel
theorem o_63_77 : t_OP 63 77 = some (.iconst (5), 0, 0, 0, 5, .null) := by decide +kernel
theorem o_63_78 : t_OP 63 78 = some (.iload_n 2, 0, 0, 0, 0, .null) := by decide +kernel
theorem o_63_79 : t_OP 63 79 = some (.invokevirtual 58, 45, 0, 2, 0, .null) := by decide +kernel
theorem o_63_82 : t_OP 63 82 = some (.ifCond .eq (7), 89, 0, 0, 0, .null) := by decide +kernel
theorem o_63_85 : t_OP 63 85 = some (.iconst (1), 0, 0, 0, 1, .null) := by decide +kernel
theorem o_63_86 : t_OP 63 86 = some (.goto (4), 90, 0, 0, 0, .null) := by decide +kernel
theorem o_63_89 : t_OP 63 89 = some (.iconst (0), 0, 0, 0, 0, .null) := by decide +kernel
theorem o_63_90 : t_OP 63 90 = some (.ireturn, 0, 0, 0, 0, .null) := by decide +kernel
theorem o_64_0 : t_OP 64 0 = some (.iconst (0), 0, 0, 0, 0, .null) := by decide +kernel
theorem o_64_1 : t_OP 64 1 = some (.istore_n 3, 0, 0, 0, 0, .null) := by decide +kernel
theorem o_64_2 : t_OP 64 2 = some (.iload_n 3, 0, 0, 0, 0, .null) := by decide +kernel
theorem o_64_3 : t_OP 64 3 = some (.aload_n 0, 0, 0, 0, 0, .null) := by decide +kernel
theorem o_64_4 : t_OP 64 4 = some (.getfield 37, 0, 1, 0, 0, .null) := by decide +kernel
theorem o_64_7 : t_OP 64 7 = some (.if_icmp .ge (41), 48, 0, 0, 0, .null) := by decide +kernel
theorem o_64_10 : t_OP 64 10 = some (.aload_n 0, 0, 0, 0, 0, .null) := by decide +kernel
theorem o_64_11 : t_OP 64 11 = some (.getfield 9, 0, 4, 0, 0, .null) := by decide +kernel
theorem o_64_14 : t_OP 64 14 = some (.iload_n 3, 0, 0, 0, 0, .null) := by decide +kernel
theorem o_64_15 : t_OP 64 15 = some (.iaload, 0, 0, 0, 0, .null) := by decide +kernel
theorem o_64_16 : t_OP 64 16 = some (.iload_n 1, 0, 0, 0, 0, .null) := by decide +kernel
theorem o_64_17 : t_OP 64 17 = some (.if_icmp .ne (25), 42, 0, 0, 0, .null) := by decide +kernel
theorem o_64_20 : t_OP 64 20 = some (.aload_n 0, 0, 0, 0, 0, .null) := by decide +kernel
theorem o_64_21 : t_OP 64 21 = some (.getfield 15, 0, 5, 0, 0, .null) := by decide +kernel
theorem o_64_24 : t_OP 64 24 = some (.iload_n 3, 0, 0, 0, 0, .null) := by decide +kernel
theorem o_64_25 : t_OP 64 25 = some (.iaload, 0, 0, 0, 0, .null) := by decide +kernel
theorem o_64_26 : t_OP 64 26 = some (.iconst (1), 0, 0, 0, 1, .null) := by decide +kernel
theorem o_64_27 : t_OP 64 27 = some (.if_icmp .ne (15), 42, 0, 0, 0, .null) := by decide +kernel
theorem o_64_30 : t_OP 64 30 = some (.aload_n 0, 0, 0, 0, 0, .null) := by decide +kernel
theorem o_64_31 : t_OP 64 31 = some (.getfield 21, 0, 7, 0, 0, .null) := by decide +kernel
theorem o_64_34 : t_OP 64 34 = some (.iload_n 3, 0, 0, 0, 0, .null) := by decide +kernel
theorem o_64_35 : t_OP 64 35 = some (.iaload, 0, 0, 0, 0, .null) := by decide +kernel
theorem o_64_36 : t_OP 64 36 = some (.iload_n 2, 0, 0, 0, 0, .null) := by decide +kernel
theorem o_64_37 : t_OP 64 37 = some (.if_icmp .ne (5), 42, 0, 0, 0, .null) := by decide +kernel
theorem o_64_40 : t_OP 64 40 = some (.iconst (1), 0, 0, 0, 1, .null) := by decide +kernel
theorem o_64_41 : t_OP 64 41 = some (.ireturn, 0, 0, 0, 0, .null) := by decide +kernel
theorem o_64_42 : t_OP 64 42 = some (.iinc 3 (1), 0, 0, 0, 1, .null) := by decide +kernel
theorem o_64_45 : t_OP 64 45 = some (.goto (-43), 2, 0, 0, 0, .null) := by decide +kernel
theorem o_64_48 : t_OP 64 48 = some (.iconst (0), 0, 0, 0, 0, .null) := by decide +kernel
theorem o_64_49 : t_OP 64 49 = some (.ireturn, 0, 0, 0, 0, .null) := by decide +kernel
theorem o_65_0 : t_OP 65 0 = some (.aload_n 0, 0, 0, 0, 0, .null) := by decide +kernel
theorem o_65_1 : t_OP 65 1 = some (.getfield 40, 0, 2, 0, 0, .null) := by decide +kernel
theorem o_65_4 : t_OP 65 4 = some (.bipush (16), 0, 0, 0, 16, .null) := by decide +kernel
theorem o_65_6 : t_OP 65 6 = some (.if_icmp .ge (43), 49, 0, 0, 0, .null) := by decide +kernel
theorem o_65_9 : t_OP 65 9 = some (.aload_n 0, 0, 0, 0, 0, .null) := by decide +kernel
theorem o_65_10 : t_OP 65 10 = some (.getfield 24, 0, 8, 0, 0, .null) := by decide +kernel
theorem o_65_13 : t_OP 65 13 = some (.aload_n 0, 0, 0, 0, 0, .null) := by decide +kernel
theorem o_65_14 : t_OP 65 14 = some (.getfield 40, 0, 2, 0, 0, .null) := by decide +kernel
theorem o_65_17 : t_OP 65 17 = some (.iload_n 1, 0, 0, 0, 0, .null) := by decide +kernel
theorem o_65_18 : t_OP 65 18 = some (.iastore, 0, 0, 0, 0, .null) := by decide +kernel
theorem o_65_19 : t_OP 65 19 = some (.aload_n 0, 0, 0, 0, 0, .null) := by decide +kernel
theorem o_65_20 : t_OP 65 20 = some (.getfield 27, 0, 9, 0, 0, .null) := by decide +kernel
theorem o_65_23 : t_OP 65 23 = some (.aload_n 0, 0, 0, 0, 0, .null) := by decide +kernel
theorem o_65_24 : t_OP 65 24 = some (.getfield 40, 0, 2, 0, 0, .null) := by decide +kernel
theorem o_65_27 : t_OP 65 27 = some (.iload_n 2, 0, 0, 0, 0, .null) := by decide +kernel
theorem o_65_28 : t_OP 65 28 = some (.iastore, 0, 0, 0, 0, .null) := by decide +kernel
theorem o_65_29 : t_OP 65 29 = some (.aload_n 0, 0, 0, 0, 0, .null) := by decide +kernel
theorem o_65_30 : t_OP 65 30 = some (.getfield 30, 0, 10, 0, 0, .null) := by decide +kernel
theorem o_65_33 : t_OP 65 33 = some (.aload_n 0, 0, 0, 0, 0, .null) := by decide +kernel
theorem o_65_34 : t_OP 65 34 = some (.getfield 40, 0, 2, 0, 0, .null) := by decide +kernel
theorem o_65_37 : t_OP 65 37 = some (.iload_n 3, 0, 0, 0, 0, .null) := by decide +kernel
theorem o_65_38 : t_OP 65 38 = some (.iastore, 0, 0, 0, 0, .null) := by decide +kernel
theorem o_65_39 : t_OP 65 39 = some (.aload_n 0, 0, 0, 0, 0, .null) := by decide +kernel
theorem o_65_40 : t_OP 65 40 = some (.dup, 0, 0, 0, 0, .null) := by decide +kernel
theorem o_65_41 : t_OP 65 41 = some (.getfield 40, 0, 2, 0, 0, .null) := by decide +kernel
theorem o_65_44 : t_OP 65 44 = some (.iconst (1), 0, 0, 0, 1, .null) := by decide +kernel
theorem o_65_45 : t_OP 65 45 = some (.iadd, 0, 0, 0, 0, .null) := by decide +kernel
theorem o_65_46 : t_OP 65 46 = some (.putfield 40, 0, 2, 0, 0, .null) := by decide +kernel
theorem o_65_49 : t_OP 65 49 = some (.return_, 0, 0, 0, 0, .null) := by decide +kernel
theorem o_66_0 : t_OP 66 0 = some (.aload_n 0, 0, 0, 0, 0, .null) := by decide +kernel
theorem o_66_1 : t_OP 66 1 = some (.getfield 12, 1, 0, 0, 0, .null) := by decide +kernel
theorem o_66_4 : t_OP 66 4 = some (.getfield 128, 4, 2, 0, 0, .null) := by decide +kernel
theorem o_66_7 : t_OP 66 7 = some (.iconst (4), 0, 0, 0, 4, .null) := by decide +kernel
theorem o_66_8 : t_OP 66 8 = some (.if_icmp .eq (10), 18, 0, 0, 0, .null) := by decide +kernel
theorem o_66_11 : t_OP 66 11 = some (.aload_n 0, 0, 0, 0, 0, .null) := by decide +kernel
theorem o_66_12 : t_OP 66 12 = some (.invokevirtual 49, 44, 0, 0, 0, .null) := by decide +kernel
theorem o_66_15 : t_OP 66 15 = some (.ifCond .eq (7), 22, 0, 0, 0, .null) := by decide +kernel
theorem o_66_18 : t_OP 66 18 = some (.iconst (1), 0, 0, 0, 1, .null) := by decide +kernel
theorem o_66_19 : t_OP 66 19 = some (.goto (4), 23, 0, 0, 0, .null) := by decide +kernel
theorem o_66_22 : t_OP 66 22 = some (.iconst (0), 0, 0, 0, 0, .null) := by decide +kernel
theorem o_66_23 : t_OP 66 23 = some (.ireturn, 0, 0, 0, 0, .null) := by decide +kernel
theorem o_67_0 : t_OP 67 0 = some (.iload_n 1, 0, 0, 0, 0, .null) := by decide +kernel
theorem o_67_1 : t_OP 67 1 = some (.ifCond .eq (18), 19, 0, 0, 0, .null) := by decide +kernel
theorem o_67_4 : t_OP 67 4 = some (.iload_n 1, 0, 0, 0, 0, .null) := by decide +kernel
theorem o_67_5 : t_OP 67 5 = some (.iconst (1), 0, 0, 0, 1, .null) := by decide +kernel
theorem o_67_6 : t_OP 67 6 = some (.if_icmp .eq (13), 19, 0, 0, 0, .null) := by decide +kernel
theorem o_67_9 : t_OP 67 9 = some (.new 97, 102, 0, 0, 0, .null) := by decide +kernel
theorem o_67_19 : t_OP 67 19 = some (.iload_n 1, 0, 0, 0, 0, .null) := by decide +kernel
theorem o_67_20 : t_OP 67 20 = some (.ifCond .ne (13), 33, 0, 0, 0, .null) := by decide +kernel
theorem o_67_23 : t_OP 67 23 = some (.aload_n 0, 0, 0, 0, 0, .null) := by decide +kernel
theorem o_67_24 : t_OP 67 24 = some (.getfield 10, 6, 0, 0, 0, .null) := by decide +kernel
theorem o_67_27 : t_OP 67 27 = some (.getfield 102, 1, 2, 0, 0, .null) := by decide +kernel
theorem o_67_30 : t_OP 67 30 = some (.goto (10), 40, 0, 0, 0, .null) := by decide +kernel
theorem o_67_33 : t_OP 67 33 = some (.aload_n 0, 0, 0, 0, 0, .null) := by decide +kernel
theorem o_67_34 : t_OP 67 34 = some (.getfield 10, 6, 0, 0, 0, .null) := by decide +kernel
theorem o_67_37 : t_OP 67 37 = some (.getfield 105, 1, 3, 0, 0, .null) := by decide +kernel
theorem o_67_40 : t_OP 67 40 = some (.ireturn, 0, 0, 0, 0, .null) := by decide +kernel
theorem o_68_0 : t_OP 68 0 = some (.iload_n 1, 0, 0, 0, 0, .null) := by decide +kernel
theorem o_68_1 : t_OP 68 1 = some (.ifCond .lt (9), 10, 0, 0, 0, .null) := by decide +kernel
theorem o_68_4 : t_OP 68 4 = some (.iload_n 1, 0, 0, 0, 0, .null) := by decide +kernel
theorem o_68_5 : t_OP 68 5 = some (.bipush (10), 0, 0, 0, 10, .null) := by decide +kernel
theorem o_68_7 : t_OP 68 7 = some (.if_icmp .le (13), 20, 0, 0, 0, .null) := by decide +kernel
theorem o_68_10 : t_OP 68 10 = some (.new 64, 101, 0, 0, 0, .null) := by decide +kernel
theorem o_68_20 : t_OP 68 20 = some (.aload_n 0, 0, 0, 0, 0, .null) := by decide +kernel
theorem o_68_21 : t_OP 68 21 = some (.getfield 29, 6, 3, 0, 0, .null) := by decide +kernel
theorem o_68_24 : t_OP 68 24 = some (.getfield 110, 2, 3, 0, 0, .null) := by decide +kernel
theorem o_68_27 : t_OP 68 27 = some (.bipush (12), 0, 0, 0, 12, .null) := by decide +kernel
theorem o_68_29 : t_OP 68 29 = some (.if_icmp .lt (13), 42, 0, 0, 0, .null) := by decide +kernel
theorem o_68_32 : t_OP 68 32 = some (.new 113, 103, 0, 0, 0, .null) := by decide +kernel
theorem o_68_42 : t_OP 68 42 = some (.aload_n 0, 0, 0, 0, 0, .null) := by decide +kernel
theorem o_68_43 : t_OP 68 43 = some (.getfield 29, 6, 3, 0, 0, .null) := by decide +kernel
theorem o_68_46 : t_OP 68 46 = some (.iload_n 1, 0, 0, 0, 0, .null) := by decide +kernel
theorem o_68_47 : t_OP 68 47 = some (.invokevirtual 118, 69, 0, 1, 0, .null) := by decide +kernel
theorem o_68_50 : t_OP 68 50 = some (.aload_n 0, 0, 0, 0, 0, .null) := by decide +kernel
theorem o_68_51 : t_OP 68 51 = some (.getfield 29, 6, 3, 0, 0, .null) := by decide +kernel
theorem o_68_54 : t_OP 68 54 = some (.getfield 110, 2, 3, 0, 0, .null) := by decide +kernel
theorem o_68_57 : t_OP 68 57 = some (.ireturn, 0, 0, 0, 0, .null) := by decide +kernel
theorem o_69_0 : t_OP 69 0 = some (.aload_n 0, 0, 0, 0, 0, .null) := by decide +kernel
theorem o_69_1 : t_OP 69 1 = some (.getfield 21, 2, 3, 0, 0, .null) := by decide +kernel
theorem o_69_4 : t_OP 69 4 = some (.bipush (12), 0, 0, 0, 12, .null) := by decide +kernel
theorem o_69_6 : t_OP 69 6 = some (.if_icmp .ge (23), 29, 0, 0, 0, .null) := by decide +kernel
theorem o_69_9 : t_OP 69 9 = some (.aload_n 0, 0, 0, 0, 0, .null) := by decide +kernel
theorem o_69_10 : t_OP 69 10 = some (.getfield 9, 2, 0, 0, 0, .null) := by decide +kernel
theorem o_69_13 : t_OP 69 13 = some (.aload_n 0, 0, 0, 0, 0, .null) := by decide +kernel
theorem o_69_14 : t_OP 69 14 = some (.getfield 21, 2, 3, 0, 0, .null) := by decide +kernel
theorem o_69_17 : t_OP 69 17 = some (.iload_n 1, 0, 0, 0, 0, .null) := by decide +kernel
theorem o_69_18 : t_OP 69 18 = some (.iastore, 0, 0, 0, 0, .null) := by decide +kernel
theorem o_69_19 : t_OP 69 19 = some (.aload_n 0, 0, 0, 0, 0, .null) := by decide +kernel
theorem o_69_20 : t_OP 69 20 = some (.dup, 0, 0, 0, 0, .null) := by decide +kernel
theorem o_69_21 : t_OP 69 21 = some (.getfield 21, 2, 3, 0, 0, .null) := by decide +kernel
theorem o_69_24 : t_OP 69 24 = some (.iconst (1), 0, 0, 0, 1, .null) := by decide +kernel
theorem o_69_25 : t_OP 69 25 = some (.iadd, 0, 0, 0, 0, .null) := by decide +kernel
theorem o_69_26 : t_OP 69 26 = some (.putfield 21, 2, 3, 0, 0, .null) := by decide +kernel
theorem o_69_29 : t_OP 69 29 = some (.return_, 0, 0, 0, 0, .null) := by decide +kernel
theorem o_70_0 : t_OP 70 0 = some (.aload_n 0, 0, 0, 0, 0, .null) := by decide +kernel
theorem o_70_1 : t_OP 70 1 = some (.getfield 29, 6, 3, 0, 0, .null) := by decide +kernel
theorem o_70_4 : t_OP 70 4 = some (.invokevirtual 121, 71, 0, 0, 0, .null) := by decide +kernel
theorem o_70_7 : t_OP 70 7 = some (.istore_n 1, 0, 0, 0, 0, .null) := by decide +kernel
theorem o_70_8 : t_OP 70 8 = some (.iload_n 1, 0, 0, 0, 0, .null) := by decide +kernel
theorem o_70_9 : t_OP 70 9 = some (.ifCond .eq (21), 30, 0, 0, 0, .null) := by decide +kernel
theorem o_70_12 : t_OP 70 12 = some (.aload_n 0, 0, 0, 0, 0, .null) := by decide +kernel
theorem o_70_13 : t_OP 70 13 = some (.getfield 29, 6, 3, 0, 0, .null) := by decide +kernel
theorem o_70_16 : t_OP 70 16 = some (.aload_n 0, 0, 0, 0, 0, .null) := by decide +kernel
theorem o_70_17 : t_OP 70 17 = some (.getfield 25, 6, 2, 0, 0, .null) := by decide +kernel
theorem o_70_20 : t_OP 70 20 = some (.invokevirtual 124, 73, 0, 1, 0, .null) := by decide +kernel
theorem o_70_23 : t_OP 70 23 = some (.aload_n 0, 0, 0, 0, 0, .null) := by decide +kernel
theorem o_70_24 : t_OP 70 24 = some (.getfield 36, 6, 4, 0, 0, .null) := by decide +kernel
theorem o_70_27 : t_OP 70 27 = some (.invokevirtual 71, 30, 0, 0, 0, .null) := by decide +kernel
theorem o_70_30 : t_OP 70 30 = some (.aload_n 0, 0, 0, 0, 0, .null) := by decide +kernel
theorem o_70_31 : t_OP 70 31 = some (.getfield 29, 6, 3, 0, 0, .null) := by decide +kernel
theorem o_70_34 : t_OP 70 34 = some (.iconst (0), 0, 0, 0, 0, .null) := by decide +kernel
theorem o_70_35 : t_OP 70 35 = some (.putfield 110, 2, 3, 0, 0, .null) := by decide +kernel
theorem o_70_38 : t_OP 70 38 = some (.iload_n 1, 0, 0, 0, 0, .null) := by decide +kernel
theorem o_70_39 : t_OP 70 39 = some (.ifCond .ne (13), 52, 0, 0, 0, .null) := by decide +kernel
theorem o_70_42 : t_OP 70 42 = some (.new 53, 100, 0, 0, 0, .null) := by decide +kernel
theorem o_70_52 : t_OP 70 52 = some (.aload_n 0, 0, 0, 0, 0, .null) := by decide +kernel
theorem o_70_53 : t_OP 70 53 = some (.getfield 25, 6, 2, 0, 0, .null) := by decide +kernel
theorem o_70_56 : t_OP 70 56 = some (.getfield 94, 0, 1, 0, 0, .null) := by decide +kernel
theorem o_70_59 : t_OP 70 59 = some (.ireturn, 0, 0, 0, 0, .null) := by decide +kernel
theorem o_71_0 : t_OP 71 0 = some (.iconst (0), 0, 0, 0, 0, .null) := by decide +kernel
theorem o_71_1 : t_OP 71 1 = some (.istore_n 1, 0, 0, 0, 0, .null) := by decide +kernel
theorem o_71_2 : t_OP 71 2 = some (.iconst (0), 0, 0, 0, 0, .null) := by decide +kernel
theorem o_71_3 : t_OP 71 3 = some (.istore_n 2, 0, 0, 0, 0, .null) := by decide +kernel
theorem o_71_4 : t_OP 71 4 = some (.iload_n 2, 0, 0, 0, 0, .null) := by decide +kernel
theorem o_71_5 : t_OP 71 5 = some (.aload_n 0, 0, 0, 0, 0, .null) := by decide +kernel
theorem o_71_6 : t_OP 71 6 = some (.getfield 21, 2, 3, 0, 0, .null) := by decide +kernel
theorem o_71_9 : t_OP 71 9 = some (.if_icmp .ge (63), 72, 0, 0, 0, .null) := by decide +kernel
theorem o_71_12 : t_OP 71 12 = some (.iload_n 2, 0, 0, 0, 0, .null) := by decide +kernel
theorem o_71_13 : t_OP 71 13 = some (.iconst (1), 0, 0, 0, 1, .null) := by decide +kernel
theorem o_71_14 : t_OP 71 14 = some (.iadd, 0, 0, 0, 0, .null) := by decide +kernel
theorem o_71_15 : t_OP 71 15 = some (.aload_n 0, 0, 0, 0, 0, .null) := by decide +kernel
theorem o_71_16 : t_OP 71 16 = some (.getfield 21, 2, 3, 0, 0, .null) := by decide +kernel
theorem o_71_19 : t_OP 71 19 = some (.if_icmp .ge (9), 28, 0, 0, 0, .null) := by decide +kernel
theorem o_71_22 : t_OP 71 22 = some (.iload_n 2, 0, 0, 0, 0, .null) := by decide +kernel
theorem o_71_23 : t_OP 71 23 = some (.iconst (1), 0, 0, 0, 1, .null) := by decide +kernel
theorem o_71_24 : t_OP 71 24 = some (.iadd, 0, 0, 0, 0, .null) := by decide +kernel
theorem o_71_25 : t_OP 71 25 = some (.goto (4), 29, 0, 0, 0, .null) := by decide +kernel
theorem o_71_28 : t_OP 71 28 = some (.iconst (0), 0, 0, 0, 0, .null) := by decide +kernel
theorem o_71_29 : t_OP 71 29 = some (.istore_n 3, 0, 0, 0, 0, .null) := by decide +kernel
theorem o_71_30 : t_OP 71 30 = some (.getstatic 25, 0, 0, 0, 0, .ref 1001) := by decide +kernel
theorem o_71_33 : t_OP 71 33 = some (.aload_n 0, 0, 0, 0, 0, .null) := by decide +kernel
theorem o_71_34 : t_OP 71 34 = some (.getfield 9, 2, 0, 0, 0, .null) := by decide +kernel
theorem o_71_37 : t_OP 71 37 = some (.iload_n 2, 0, 0, 0, 0, .null) := by decide +kernel
theorem o_71_38 : t_OP 71 38 = some (.iaload, 0, 0, 0, 0, .null) := by decide +kernel
theorem o_71_39 : t_OP 71 39 = some (.iaload, 0, 0, 0, 0, .null) := by decide +kernel
theorem o_71_40 : t_OP 71 40 = some (.getstatic 28, 0, 0, 0, 0, .ref 1002) := by decide +kernel
theorem o_71_43 : t_OP 71 43 = some (.aload_n 0, 0, 0, 0, 0, .null) := by decide +kernel
theorem o_71_44 : t_OP 71 44 = some (.getfield 9, 2, 0, 0, 0, .null) := by decide +kernel
theorem o_71_47 : t_OP 71 47 = some (.iload_n 3, 0, 0, 0, 0, .null) := by decide +kernel
theorem o_71_48 : t_OP 71 48 = some (.iaload, 0, 0, 0, 0, .null) := by decide +kernel
theorem o_71_49 : t_OP 71 49 = some (.iaload, 0, 0, 0, 0, .null) := by decide +kernel
theorem o_71_50 : t_OP 71 50 = some (.if_icmp .eq (5), 55, 0, 0, 0, .null) := by decide +kernel
theorem o_71_53 : t_OP 71 53 = some (.iconst (0), 0, 0, 0, 0, .null) := by decide +kernel
theorem o_71_54 : t_OP 71 54 = some (.ireturn, 0, 0, 0, 0, .null) := by decide +kernel
theorem o_71_55 : t_OP 71 55 = some (.aload_n 0, 0, 0, 0, 0, .null) := by decide +kernel
theorem o_71_56 : t_OP 71 56 = some (.iload_n 2, 0, 0, 0, 0, .null) := by decide +kernel
theorem o_71_57 : t_OP 71 57 = some (.invokevirtual 31, 72, 0, 1, 0, .null) := by decide +kernel
theorem o_71_60 : t_OP 71 60 = some (.ifCond .eq (6), 66, 0, 0, 0, .null) := by decide +kernel
theorem o_71_63 : t_OP 71 63 = some (.iinc 1 (1), 0, 0, 0, 1, .null) := by decide +kernel
theorem o_71_66 : t_OP 71 66 = some (.iinc 2 (1), 0, 0, 0, 1, .null) := by decide +kernel
theorem o_71_69 : t_OP 71 69 = some (.goto (-65), 4, 0, 0, 0, .null) := by decide +kernel
theorem o_71_72 : t_OP 71 72 = some (.aload_n 0, 0, 0, 0, 0, .null) := by decide +kernel
theorem o_71_73 : t_OP 71 73 = some (.getfield 21, 2, 3, 0, 0, .null) := by decide +kernel
theorem o_71_76 : t_OP 71 76 = some (.iload_n 1, 0, 0, 0, 0, .null) := by decide +kernel
theorem o_71_77 : t_OP 71 77 = some (.isub, 0, 0, 0, 0, .null) := by decide +kernel
theorem o_71_78 : t_OP 71 78 = some (.istore_n 2, 0, 0, 0, 0, .null) := by decide +kernel
theorem o_71_79 : t_OP 71 79 = some (.iload_n 1, 0, 0, 0, 0, .null) := by decide +kernel
theorem o_71_80 : t_OP 71 80 = some (.iconst (2), 0, 0, 0, 2, .null) := by decide +kernel
theorem o_71_81 : t_OP 71 81 = some (.if_icmp .lt (35), 116, 0, 0, 0, .null) := by decide +kernel
theorem o_71_84 : t_OP 71 84 = some (.iload_n 1, 0, 0, 0, 0, .null) := by decide +kernel
theorem o_71_85 : t_OP 71 85 = some (.iconst (4), 0, 0, 0, 4, .null) := by decide +kernel
theorem o_71_86 : t_OP 71 86 = some (.if_icmp .gt (30), 116, 0, 0, 0, .null) := by decide +kernel
theorem o_71_89 : t_OP 71 89 = some (.iload_n 2, 0, 0, 0, 0, .null) := by decide +kernel
theorem o_71_90 : t_OP 71 90 = some (.iconst (2), 0, 0, 0, 2, .null) := by decide +kernel
theorem o_71_91 : t_OP 71 91 = some (.if_icmp .lt (25), 116, 0, 0, 0, .null) := by decide +kernel
theorem o_71_94 : t_OP 71 94 = some (.iload_n 2, 0, 0, 0, 0, .null) := by decide +kernel
theorem o_71_95 : t_OP 71 95 = some (.iconst (4), 0, 0, 0, 4, .null) := by decide +kernel
theorem o_71_96 : t_OP 71 96 = some (.if_icmp .gt (20), 116, 0, 0, 0, .null) := by decide +kernel
theorem o_71_99 : t_OP 71 99 = some (.aload_n 0, 0, 0, 0, 0, .null) := by decide +kernel
theorem o_71_100 : t_OP 71 100 = some (.aload_n 0, 0, 0, 0, 0, .null) := by decide +kernel
theorem o_71_101 : t_OP 71 101 = some (.getfield 21, 2, 3, 0, 0, .null) := by decide +kernel
theorem o_71_104 : t_OP 71 104 = some (.iconst (1), 0, 0, 0, 1, .null) := by decide +kernel
theorem o_71_105 : t_OP 71 105 = some (.isub, 0, 0, 0, 0, .null) := by decide +kernel
theorem o_71_106 : t_OP 71 106 = some (.invokevirtual 31, 72, 0, 1, 0, .null) := by decide +kernel
theorem o_71_109 : t_OP 71 109 = some (.ifCond .eq (7), 116, 0, 0, 0, .null) := by decide +kernel
theorem o_71_112 : t_OP 71 112 = some (.iconst (1), 0, 0, 0, 1, .null) := by decide +kernel
theorem o_71_113 : t_OP 71 113 = some (.goto (4), 117, 0, 0, 0, .null) := by decide +kernel
theorem o_71_116 : t_OP 71 116 = some (.iconst (0), 0, 0, 0, 0, .null) := by decide +kernel
theorem o_71_117 : t_OP 71 117 = some (.ireturn, 0, 0, 0, 0, .null) := by decide +kernel
theorem o_72_0 : t_OP 72 0 = some (.iload_n 1, 0, 0, 0, 0, .null) := by decide +kernel
theorem o_72_1 : t_OP 72 1 = some (.ifCond .lt (25), 26, 0, 0, 0, .null) := by decide +kernel
theorem o_72_4 : t_OP 72 4 = some (.iload_n 1, 0, 0, 0, 0, .null) := by decide +kernel
theorem o_72_5 : t_OP 72 5 = some (.aload_n 0, 0, 0, 0, 0, .null) := by decide +kernel
theorem o_72_6 : t_OP 72 6 = some (.getfield 21, 2, 3, 0, 0, .null) := by decide +kernel
theorem o_72_9 : t_OP 72 9 = some (.if_icmp .ge (17), 26, 0, 0, 0, .null) := by decide +kernel
theorem o_72_12 : t_OP 72 12 = some (.aload_n 0, 0, 0, 0, 0, .null) := by decide +kernel
theorem o_72_13 : t_OP 72 13 = some (.getfield 9, 2, 0, 0, 0, .null) := by decide +kernel
theorem o_72_16 : t_OP 72 16 = some (.iload_n 1, 0, 0, 0, 0, .null) := by decide +kernel
theorem o_72_17 : t_OP 72 17 = some (.iaload, 0, 0, 0, 0, .null) := by decide +kernel
theorem o_72_18 : t_OP 72 18 = some (.iconst (2), 0, 0, 0, 2, .null) := by decide +kernel
theorem o_72_19 : t_OP 72 19 = some (.if_icmp .gt (7), 26, 0, 0, 0, .null) := by decide +kernel
theorem o_72_22 : t_OP 72 22 = some (.iconst (1), 0, 0, 0, 1, .null) := by decide +kernel
theorem o_72_23 : t_OP 72 23 = some (.goto (4), 27, 0, 0, 0, .null) := by decide +kernel
theorem o_72_26 : t_OP 72 26 = some (.iconst (0), 0, 0, 0, 0, .null) := by decide +kernel
theorem o_72_27 : t_OP 72 27 = some (.ireturn, 0, 0, 0, 0, .null) := by decide +kernel
theorem o_73_0 : t_OP 73 0 = some (.aload_n 0, 0, 0, 0, 0, .null) := by decide +kernel
theorem o_73_1 : t_OP 73 1 = some (.invokevirtual 35, 74, 0, 0, 0, .null) := by decide +kernel
theorem o_73_4 : t_OP 73 4 = some (.istore_n 2, 0, 0, 0, 0, .null) := by decide +kernel
theorem o_73_5 : t_OP 73 5 = some (.aload_n 0, 0, 0, 0, 0, .null) := by decide +kernel
theorem o_73_6 : t_OP 73 6 = some (.iload_n 2, 0, 0, 0, 0, .null) := by decide +kernel
theorem o_73_7 : t_OP 73 7 = some (.invokevirtual 39, 75, 0, 1, 0, .null) := by decide +kernel
theorem o_73_10 : t_OP 73 10 = some (.aload_n 1, 0, 0, 0, 0, .null) := by decide +kernel
theorem o_73_11 : t_OP 73 11 = some (.invokevirtual 43, 32, 0, 0, 0, .null) := by decide +kernel
theorem o_73_14 : t_OP 73 14 = some (.aload_n 0, 0, 0, 0, 0, .null) := by decide +kernel
theorem o_73_15 : t_OP 73 15 = some (.aload_n 1, 0, 0, 0, 0, .null) := by decide +kernel
theorem o_73_16 : t_OP 73 16 = some (.iload_n 2, 0, 0, 0, 0, .null) := by decide +kernel
theorem o_73_17 : t_OP 73 17 = some (.invokevirtual 48, 78, 0, 2, 0, .null) := by decide +kernel
theorem o_73_20 : t_OP 73 20 = some (.aload_n 0, 0, 0, 0, 0, .null) := by decide +kernel
theorem o_73_21 : t_OP 73 21 = some (.aload_n 1, 0, 0, 0, 0, .null) := by decide +kernel
theorem o_73_22 : t_OP 73 22 = some (.invokevirtual 52, 79, 0, 1, 0, .null) := by decide +kernel
theorem o_73_25 : t_OP 73 25 = some (.aload_n 0, 0, 0, 0, 0, .null) := by decide +kernel
theorem o_73_26 : t_OP 73 26 = some (.aload_n 1, 0, 0, 0, 0, .null) := by decide +kernel
theorem o_73_27 : t_OP 73 27 = some (.iload_n 2, 0, 0, 0, 0, .null) := by decide +kernel
theorem o_73_28 : t_OP 73 28 = some (.invokevirtual 56, 80, 0, 2, 0, .null) := by decide +kernel
theorem o_73_31 : t_OP 73 31 = some (.aload_n 1, 0, 0, 0, 0, .null) := by decide +kernel
theorem o_73_32 : t_OP 73 32 = some (.aload_n 1, 0, 0, 0, 0, .null) := by decide +kernel
theorem o_73_33 : t_OP 73 33 = some (.getfield 59, 0, 2, 0, 0, .null) := by decide +kernel
theorem o_73_36 : t_OP 73 36 = some (.ifCond .le (7), 43, 0, 0, 0, .null) := by decide +kernel
theorem o_73_39 : t_OP 73 39 = some (.iconst (1), 0, 0, 0, 1, .null) := by decide +kernel
theorem o_73_40 : t_OP 73 40 = some (.goto (4), 44, 0, 0, 0, .null) := by decide +kernel
theorem o_73_43 : t_OP 73 43 = some (.iconst (0), 0, 0, 0, 0, .null) := by decide +kernel
theorem o_73_44 : t_OP 73 44 = some (.putfield 62, 0, 3, 0, 0, .null) := by decide +kernel
theorem o_73_47 : t_OP 73 47 = some (.return_, 0, 0, 0, 0, .null) := by decide +kernel
theorem o_74_0 : t_OP 74 0 = some (.iconst (0), 0, 0, 0, 0, .null) := by decide +kernel
theorem o_74_1 : t_OP 74 1 = some (.istore_n 1, 0, 0, 0, 0, .null) := by decide +kernel
theorem o_74_2 : t_OP 74 2 = some (.iconst (0), 0, 0, 0, 0, .null) := by decide +kernel
theorem o_74_3 : t_OP 74 3 = some (.istore_n 2, 0, 0, 0, 0, .null) := by decide +kernel
theorem o_74_4 : t_OP 74 4 = some (.iload_n 2, 0, 0, 0, 0, .null) := by decide +kernel
theorem o_74_5 : t_OP 74 5 = some (.aload_n 0, 0, 0, 0, 0, .null) := by decide +kernel
theorem o_74_6 : t_OP 74 6 = some (.getfield 21, 2, 3, 0, 0, .null) := by decide +kernel
theorem o_74_9 : t_OP 74 9 = some (.if_icmp .ge (20), 29, 0, 0, 0, .null) := by decide +kernel
theorem o_74_12 : t_OP 74 12 = some (.aload_n 0, 0, 0, 0, 0, .null) := by decide +kernel
theorem o_74_13 : t_OP 74 13 = some (.iload_n 2, 0, 0, 0, 0, .null) := by decide +kernel
theorem o_74_14 : t_OP 74 14 = some (.invokevirtual 31, 72, 0, 1, 0, .null) := by decide +kernel
theorem o_74_17 : t_OP 74 17 = some (.ifCond .ne (6), 23, 0, 0, 0, .null) := by decide +kernel
theorem o_74_20 : t_OP 74 20 = some (.iinc 1 (1), 0, 0, 0, 1, .null) := by decide +kernel
theorem o_74_23 : t_OP 74 23 = some (.iinc 2 (1), 0, 0, 0, 1, .null) := by decide +kernel
theorem o_74_26 : t_OP 74 26 = some (.goto (-22), 4, 0, 0, 0, .null) := by decide +kernel
theorem o_74_29 : t_OP 74 29 = some (.iload_n 1, 0, 0, 0, 0, .null) := by decide +kernel
theorem o_74_30 : t_OP 74 30 = some (.iconst (4), 0, 0, 0, 4, .null) := by decide +kernel
theorem o_74_31 : t_OP 74 31 = some (.invokestatic 65, 0, 6, 2, 0, .null) := by decide +kernel
theorem o_74_34 : t_OP 74 34 = some (.ireturn, 0, 0, 0, 0, .null) := by decide +kernel
theorem o_75_0 : t_OP 75 0 = some (.iconst (0), 0, 0, 0, 0, .null) := by decide +kernel
theorem o_75_1 : t_OP 75 1 = some (.istore_n 2, 0, 0, 0, 0, .null) := by decide +kernel
theorem o_75_2 : t_OP 75 2 = some (.iconst (0), 0, 0, 0, 0, .null) := by decide +kernel
theorem o_75_3 : t_OP 75 3 = some (.istore_n 3, 0, 0, 0, 0, .null) := by decide +kernel
theorem o_75_4 : t_OP 75 4 = some (.aload_n 0, 0, 0, 0, 0, .null) := by decide +kernel
theorem o_75_5 : t_OP 75 5 = some (.invokevirtual 71, 76, 0, 0, 0, .null) := by decide +kernel
theorem o_75_8 : t_OP 75 8 = some (.istore 4, 0, 0, 0, 0, .null) := by decide +kernel
theorem o_75_10 : t_OP 75 10 = some (.iconst (0), 0, 0, 0, 0, .null) := by decide +kernel
theorem o_75_11 : t_OP 75 11 = some (.istore 5, 0, 0, 0, 0, .null) := by decide +kernel
theorem o_75_13 : t_OP 75 13 = some (.iload 5, 0, 0, 0, 0, .null) := by decide +kernel
theorem o_75_15 : t_OP 75 15 = some (.aload_n 0, 0, 0, 0, 0, .null) := by decide +kernel
theorem o_75_16 : t_OP 75 16 = some (.getfield 21, 2, 3, 0, 0, .null) := by decide +kernel
theorem o_75_19 : t_OP 75 19 = some (.if_icmp .ge (81), 100, 0, 0, 0, .null) := by decide +kernel
theorem o_75_22 : t_OP 75 22 = some (.getstatic 28, 0, 0, 0, 0, .ref 1002) := by decide +kernel
theorem o_75_25 : t_OP 75 25 = some (.aload_n 0, 0, 0, 0, 0, .null) := by decide +kernel
theorem o_75_26 : t_OP 75 26 = some (.getfield 9, 2, 0, 0, 0, .null) := by decide +kernel
theorem o_75_29 : t_OP 75 29 = some (.iload 4, 0, 0, 0, 0, .null) := by decide +kernel
theorem o_75_31 : t_OP 75 31 = some (.iaload, 0, 0, 0, 0, .null) := by decide +kernel
theorem o_75_32 : t_OP 75 32 = some (.iaload, 0, 0, 0, 0, .null) := by decide +kernel
theorem o_75_33 : t_OP 75 33 = some (.ifCond .ne (6), 39, 0, 0, 0, .null) := by decide +kernel
theorem o_75_36 : t_OP 75 36 = some (.iinc 3 (1), 0, 0, 0, 1, .null) := by decide +kernel
theorem o_75_39 : t_OP 75 39 = some (.aload_n 0, 0, 0, 0, 0, .null) := by decide +kernel
theorem o_75_40 : t_OP 75 40 = some (.getfield 15, 2, 1, 0, 0, .null) := by decide +kernel
theorem o_75_43 : t_OP 75 43 = some (.iload 4, 0, 0, 0, 0, .null) := by decide +kernel
theorem o_75_45 : t_OP 75 45 = some (.iload_n 3, 0, 0, 0, 0, .null) := by decide +kernel
theorem o_75_46 : t_OP 75 46 = some (.iastore, 0, 0, 0, 0, .null) := by decide +kernel
theorem o_75_47 : t_OP 75 47 = some (.aload_n 0, 0, 0, 0, 0, .null) := by decide +kernel
theorem o_75_48 : t_OP 75 48 = some (.iload 4, 0, 0, 0, 0, .null) := by decide +kernel
theorem o_75_50 : t_OP 75 50 = some (.invokevirtual 31, 72, 0, 1, 0, .null) := by decide +kernel
theorem o_75_53 : t_OP 75 53 = some (.ifCond .ne (20), 73, 0, 0, 0, .null) := by decide +kernel
theorem o_75_56 : t_OP 75 56 = some (.iload_n 2, 0, 0, 0, 0, .null) := by decide +kernel
theorem o_75_57 : t_OP 75 57 = some (.iload_n 1, 0, 0, 0, 0, .null) := by decide +kernel
theorem o_75_58 : t_OP 75 58 = some (.if_icmp .ge (10), 68, 0, 0, 0, .null) := by decide +kernel
theorem o_75_61 : t_OP 75 61 = some (.aload_n 0, 0, 0, 0, 0, .null) := by decide +kernel
theorem o_75_62 : t_OP 75 62 = some (.getfield 18, 2, 2, 0, 0, .null) := by decide +kernel
theorem o_75_65 : t_OP 75 65 = some (.iload_n 2, 0, 0, 0, 0, .null) := by decide +kernel
theorem o_75_66 : t_OP 75 66 = some (.iload_n 3, 0, 0, 0, 0, .null) := by decide +kernel
theorem o_75_67 : t_OP 75 67 = some (.iastore, 0, 0, 0, 0, .null) := by decide +kernel
theorem o_75_68 : t_OP 75 68 = some (.iinc 2 (1), 0, 0, 0, 1, .null) := by decide +kernel
theorem o_75_71 : t_OP 75 71 = some (.iconst (0), 0, 0, 0, 0, .null) := by decide +kernel
theorem o_75_72 : t_OP 75 72 = some (.istore_n 3, 0, 0, 0, 0, .null) := by decide +kernel
theorem o_75_73 : t_OP 75 73 = some (.iload 4, 0, 0, 0, 0, .null) := by decide +kernel
theorem o_75_75 : t_OP 75 75 = some (.iconst (1), 0, 0, 0, 1, .null) := by decide +kernel
theorem o_75_76 : t_OP 75 76 = some (.iadd, 0, 0, 0, 0, .null) := by decide +kernel
theorem o_75_77 : t_OP 75 77 = some (.aload_n 0, 0, 0, 0, 0, .null) := by decide +kernel
theorem o_75_78 : t_OP 75 78 = some (.getfield 21, 2, 3, 0, 0, .null) := by decide +kernel
theorem o_75_81 : t_OP 75 81 = some (.if_icmp .ge (10), 91, 0, 0, 0, .null) := by decide +kernel
theorem o_75_84 : t_OP 75 84 = some (.iload 4, 0, 0, 0, 0, .null) := by decide +kernel
theorem o_75_86 : t_OP 75 86 = some (.iconst (1), 0, 0, 0, 1, .null) := by decide +kernel
theorem o_75_87 : t_OP 75 87 = some (.iadd, 0, 0, 0, 0, .null) := by decide +kernel
theorem o_75_88 : t_OP 75 88 = some (.goto (4), 92, 0, 0, 0, .null) := by decide +kernel
theorem o_75_91 : t_OP 75 91 = some (.iconst (0), 0, 0, 0, 0, .null) := by decide +kernel
theorem o_75_92 : t_OP 75 92 = some (.istore 4, 0, 0, 0, 0, .null) := by decide +kernel
theorem o_75_94 : t_OP 75 94 = some (.iinc 5 (1), 0, 0, 0, 1, .null) := by decide +kernel
theorem o_75_97 : t_OP 75 97 = some (.goto (-84), 13, 0, 0, 0, .null) := by decide +kernel
theorem o_75_100 : t_OP 75 100 = some (.return_, 0, 0, 0, 0, .null) := by decide +kernel
theorem o_76_0 : t_OP 76 0 = some (.aload_n 0, 0, 0, 0, 0, .null) := by decide +kernel
theorem o_76_1 : t_OP 76 1 = some (.getfield 21, 2, 3, 0, 0, .null) := by decide +kernel
theorem o_76_4 : t_OP 76 4 = some (.iconst (1), 0, 0, 0, 1, .null) := by decide +kernel
theorem o_76_5 : t_OP 76 5 = some (.isub, 0, 0, 0, 0, .null) := by decide +kernel
theorem o_76_6 : t_OP 76 6 = some (.istore_n 1, 0, 0, 0, 0, .null) := by decide +kernel
theorem o_76_7 : t_OP 76 7 = some (.iload_n 1, 0, 0, 0, 0, .null) := by decide +kernel
theorem o_76_8 : t_OP 76 8 = some (.ifCond .le (19), 27, 0, 0, 0, .null) := by decide +kernel
theorem o_76_11 : t_OP 76 11 = some (.aload_n 0, 0, 0, 0, 0, .null) := by decide +kernel
theorem o_76_12 : t_OP 76 12 = some (.iload_n 1, 0, 0, 0, 0, .null) := by decide +kernel
theorem o_76_13 : t_OP 76 13 = some (.iconst (1), 0, 0, 0, 1, .null) := by decide +kernel
theorem o_76_14 : t_OP 76 14 = some (.isub, 0, 0, 0, 0, .null) := by decide +kernel
theorem o_76_15 : t_OP 76 15 = some (.invokevirtual 31, 72, 0, 1, 0, .null) := by decide +kernel
theorem o_76_18 : t_OP 76 18 = some (.ifCond .eq (9), 27, 0, 0, 0, .null) := by decide +kernel
theorem o_76_21 : t_OP 76 21 = some (.iinc 1 (-1), 0, 0, 0, (-1), .null) := by decide +kernel
theorem o_76_24 : t_OP 76 24 = some (.goto (-17), 7, 0, 0, 0, .null) := by decide +kernel
theorem o_76_27 : t_OP 76 27 = some (.iload_n 1, 0, 0, 0, 0, .null) := by decide +kernel
theorem o_76_28 : t_OP 76 28 = some (.iconst (0), 0, 0, 0, 0, .null) := by decide +kernel
theorem o_76_29 : t_OP 76 29 = some (.invokestatic 74, 0, 7, 2, 0, .null) := by decide +kernel
theorem o_76_32 : t_OP 76 32 = some (.ireturn, 0, 0, 0, 0, .null) := by decide +kernel
theorem o_78_0 : t_OP 78 0 = some (.iconst (0), 0, 0, 0, 0, .null) := by decide +kernel
theorem o_78_1 : t_OP 78 1 = some (.istore_n 3, 0, 0, 0, 0, .null) := by decide +kernel
theorem o_78_2 : t_OP 78 2 = some (.iconst (0), 0, 0, 0, 0, .null) := by decide +kernel
theorem o_78_3 : t_OP 78 3 = some (.istore 4, 0, 0, 0, 0, .null) := by decide +kernel
theorem o_78_5 : t_OP 78 5 = some (.aload_n 1, 0, 0, 0, 0, .null) := by decide +kernel
theorem o_78_6 : t_OP 78 6 = some (.iconst (1), 0, 0, 0, 1, .null) := by decide +kernel
theorem o_78_7 : t_OP 78 7 = some (.putfield 77, 0, 0, 0, 0, .null) := by decide +kernel
theorem o_78_10 : t_OP 78 10 = some (.iconst (0), 0, 0, 0, 0, .null) := by decide +kernel
theorem o_78_11 : t_OP 78 11 = some (.istore 5, 0, 0, 0, 0, .null) := by decide +kernel
theorem o_78_13 : t_OP 78 13 = some (.iload 5, 0, 0, 0, 0, .null) := by decide +kernel
theorem o_78_15 : t_OP 78 15 = some (.aload_n 0, 0, 0, 0, 0, .null) := by decide +kernel
theorem o_78_16 : t_OP 78 16 = some (.getfield 21, 2, 3, 0, 0, .null) := by decide +kernel
theorem o_78_19 : t_OP 78 19 = some (.if_icmp .ge (121), 140, 0, 0, 0, .null) := by decide +kernel
theorem o_78_22 : t_OP 78 22 = some (.getstatic 28, 0, 0, 0, 0, .ref 1002) := by decide +kernel
theorem o_78_25 : t_OP 78 25 = some (.aload_n 0, 0, 0, 0, 0, .null) := by decide +kernel
theorem o_78_26 : t_OP 78 26 = some (.getfield 9, 2, 0, 0, 0, .null) := by decide +kernel
theorem o_78_29 : t_OP 78 29 = some (.iload 5, 0, 0, 0, 0, .null) := by decide +kernel
theorem o_78_31 : t_OP 78 31 = some (.iaload, 0, 0, 0, 0, .null) := by decide +kernel
theorem o_78_32 : t_OP 78 32 = some (.iaload, 0, 0, 0, 0, .null) := by decide +kernel
theorem o_78_33 : t_OP 78 33 = some (.iconst (1), 0, 0, 0, 1, .null) := by decide +kernel
theorem o_78_34 : t_OP 78 34 = some (.if_icmp .ne (17), 51, 0, 0, 0, .null) := by decide +kernel
theorem o_78_37 : t_OP 78 37 = some (.aload_n 1, 0, 0, 0, 0, .null) := by decide +kernel
theorem o_78_38 : t_OP 78 38 = some (.iconst (1), 0, 0, 0, 1, .null) := by decide +kernel
theorem o_78_39 : t_OP 78 39 = some (.iload_n 3, 0, 0, 0, 0, .null) := by decide +kernel
theorem o_78_40 : t_OP 78 40 = some (.iload 4, 0, 0, 0, 0, .null) := by decide +kernel
theorem o_78_42 : t_OP 78 42 = some (.invokevirtual 80, 56, 0, 3, 0, .null) := by decide +kernel
theorem o_78_45 : t_OP 78 45 = some (.iinc 4 (1), 0, 0, 0, 1, .null) := by decide +kernel
theorem o_78_48 : t_OP 78 48 = some (.goto (16), 64, 0, 0, 0, .null) := by decide +kernel
theorem o_78_51 : t_OP 78 51 = some (.aload_n 1, 0, 0, 0, 0, .null) := by decide +kernel
theorem o_78_52 : t_OP 78 52 = some (.iconst (0), 0, 0, 0, 0, .null) := by decide +kernel
theorem o_78_53 : t_OP 78 53 = some (.iload_n 3, 0, 0, 0, 0, .null) := by decide +kernel
theorem o_78_54 : t_OP 78 54 = some (.aload_n 0, 0, 0, 0, 0, .null) := by decide +kernel
theorem o_78_55 : t_OP 78 55 = some (.getfield 15, 2, 1, 0, 0, .null) := by decide +kernel
theorem o_78_58 : t_OP 78 58 = some (.iload 5, 0, 0, 0, 0, .null) := by decide +kernel
theorem o_78_60 : t_OP 78 60 = some (.iaload, 0, 0, 0, 0, .null) := by decide +kernel
theorem o_78_61 : t_OP 78 61 = some (.invokevirtual 80, 56, 0, 3, 0, .null) := by decide +kernel
theorem o_78_64 : t_OP 78 64 = some (.aload_n 0, 0, 0, 0, 0, .null) := by decide +kernel
theorem o_78_65 : t_OP 78 65 = some (.iload 5, 0, 0, 0, 0, .null) := by decide +kernel
theorem o_78_67 : t_OP 78 67 = some (.invokevirtual 31, 72, 0, 1, 0, .null) := by decide +kernel
theorem o_78_70 : t_OP 78 70 = some (.ifCond .ne (40), 110, 0, 0, 0, .null) := by decide +kernel
theorem o_78_73 : t_OP 78 73 = some (.iload_n 3, 0, 0, 0, 0, .null) := by decide +kernel
theorem o_78_74 : t_OP 78 74 = some (.iconst (1), 0, 0, 0, 1, .null) := by decide +kernel
theorem o_78_75 : t_OP 78 75 = some (.iadd, 0, 0, 0, 0, .null) := by decide +kernel
theorem o_78_76 : t_OP 78 76 = some (.iload_n 2, 0, 0, 0, 0, .null) := by decide +kernel
theorem o_78_77 : t_OP 78 77 = some (.if_icmp .ge (9), 86, 0, 0, 0, .null) := by decide +kernel
theorem o_78_80 : t_OP 78 80 = some (.iload_n 3, 0, 0, 0, 0, .null) := by decide +kernel
theorem o_78_81 : t_OP 78 81 = some (.iconst (1), 0, 0, 0, 1, .null) := by decide +kernel
theorem o_78_82 : t_OP 78 82 = some (.iadd, 0, 0, 0, 0, .null) := by decide +kernel
theorem o_78_83 : t_OP 78 83 = some (.goto (4), 87, 0, 0, 0, .null) := by decide +kernel
theorem o_78_86 : t_OP 78 86 = some (.iconst (0), 0, 0, 0, 0, .null) := by decide +kernel
theorem o_78_87 : t_OP 78 87 = some (.istore_n 3, 0, 0, 0, 0, .null) := by decide +kernel
theorem o_78_88 : t_OP 78 88 = some (.aload_n 0, 0, 0, 0, 0, .null) := by decide +kernel
theorem o_78_89 : t_OP 78 89 = some (.getfield 9, 2, 0, 0, 0, .null) := by decide +kernel
theorem o_78_92 : t_OP 78 92 = some (.iload 5, 0, 0, 0, 0, .null) := by decide +kernel
theorem o_78_94 : t_OP 78 94 = some (.iaload, 0, 0, 0, 0, .null) := by decide +kernel
theorem o_78_95 : t_OP 78 95 = some (.bipush (7), 0, 0, 0, 7, .null) := by decide +kernel
theorem o_78_97 : t_OP 78 97 = some (.if_icmp .lt (37), 134, 0, 0, 0, .null) := by decide +kernel
theorem o_78_100 : t_OP 78 100 = some (.aload_n 1, 0, 0, 0, 0, .null) := by decide +kernel
theorem o_78_101 : t_OP 78 101 = some (.iconst (2), 0, 0, 0, 2, .null) := by decide +kernel
theorem o_78_102 : t_OP 78 102 = some (.iconst (-1), 0, 0, 0, (-1), .null) := by decide +kernel
theorem o_78_103 : t_OP 78 103 = some (.iconst (-1), 0, 0, 0, (-1), .null) := by decide +kernel
theorem o_78_104 : t_OP 78 104 = some (.invokevirtual 80, 56, 0, 3, 0, .null) := by decide +kernel
theorem o_78_107 : t_OP 78 107 = some (.goto (27), 134, 0, 0, 0, .null) := by decide +kernel
theorem o_78_110 : t_OP 78 110 = some (.iload 5, 0, 0, 0, 0, .null) := by decide +kernel
theorem o_78_112 : t_OP 78 112 = some (.iconst (1), 0, 0, 0, 1, .null) := by decide +kernel
theorem o_78_113 : t_OP 78 113 = some (.iadd, 0, 0, 0, 0, .null) := by decide +kernel
theorem o_78_114 : t_OP 78 114 = some (.aload_n 0, 0, 0, 0, 0, .null) := by decide +kernel
theorem o_78_115 : t_OP 78 115 = some (.getfield 21, 2, 3, 0, 0, .null) := by decide +kernel
theorem o_78_118 : t_OP 78 118 = some (.if_icmp .ge (16), 134, 0, 0, 0, .null) := by decide +kernel
theorem o_78_121 : t_OP 78 121 = some (.aload_n 1, 0, 0, 0, 0, .null) := by decide +kernel
theorem o_78_122 : t_OP 78 122 = some (.dup, 0, 0, 0, 0, .null) := by decide +kernel
theorem o_78_123 : t_OP 78 123 = some (.getfield 77, 0, 0, 0, 0, .null) := by decide +kernel
theorem o_78_126 : t_OP 78 126 = some (.iconst (1), 0, 0, 0, 1, .null) := by decide +kernel
theorem o_78_127 : t_OP 78 127 = some (.iadd, 0, 0, 0, 0, .null) := by decide +kernel
theorem o_78_128 : t_OP 78 128 = some (.putfield 77, 0, 0, 0, 0, .null) := by decide +kernel
theorem o_78_131 : t_OP 78 131 = some (.iconst (0), 0, 0, 0, 0, .null) := by decide +kernel
theorem o_78_132 : t_OP 78 132 = some (.istore 4, 0, 0, 0, 0, .null) := by decide +kernel
theorem o_78_134 : t_OP 78 134 = some (.iinc 5 (1), 0, 0, 0, 1, .null) := by decide +kernel
theorem o_78_137 : t_OP 78 137 = some (.goto (-124), 13, 0, 0, 0, .null) := by decide +kernel
theorem o_78_140 : t_OP 78 140 = some (.return_, 0, 0, 0, 0, .null) := by decide +kernel
theorem o_79_0 : t_OP 79 0 = some (.iconst (0), 0, 0, 0, 0, .null) := by decide +kernel
theorem o_79_1 : t_OP 79 1 = some (.istore_n 2, 0, 0, 0, 0, .null) := by decide +kernel
theorem o_79_2 : t_OP 79 2 = some (.iconst (0), 0, 0, 0, 0, .null) := by decide +kernel
theorem o_79_3 : t_OP 79 3 = some (.istore_n 3, 0, 0, 0, 0, .null) := by decide +kernel
theorem o_79_4 : t_OP 79 4 = some (.iconst (0), 0, 0, 0, 0, .null) := by decide +kernel
theorem o_79_5 : t_OP 79 5 = some (.istore 4, 0, 0, 0, 0, .null) := by decide +kernel
theorem o_79_7 : t_OP 79 7 = some (.iload 4, 0, 0, 0, 0, .null) := by decide +kernel
theorem o_79_9 : t_OP 79 9 = some (.aload_n 0, 0, 0, 0, 0, .null) := by decide +kernel
theorem o_79_10 : t_OP 79 10 = some (.getfield 21, 2, 3, 0, 0, .null) := by decide +kernel
theorem o_79_13 : t_OP 79 13 = some (.if_icmp .ge (54), 67, 0, 0, 0, .null) := by decide +kernel
theorem o_79_16 : t_OP 79 16 = some (.getstatic 28, 0, 0, 0, 0, .ref 1002) := by decide +kernel
theorem o_79_19 : t_OP 79 19 = some (.aload_n 0, 0, 0, 0, 0, .null) := by decide +kernel
theorem o_79_20 : t_OP 79 20 = some (.getfield 9, 2, 0, 0, 0, .null) := by decide +kernel
theorem o_79_23 : t_OP 79 23 = some (.iload 4, 0, 0, 0, 0, .null) := by decide +kernel
theorem o_79_25 : t_OP 79 25 = some (.iaload, 0, 0, 0, 0, .null) := by decide +kernel
theorem o_79_26 : t_OP 79 26 = some (.iaload, 0, 0, 0, 0, .null) := by decide +kernel
theorem o_79_27 : t_OP 79 27 = some (.iconst (1), 0, 0, 0, 1, .null) := by decide +kernel
theorem o_79_28 : t_OP 79 28 = some (.if_icmp .ne (19), 47, 0, 0, 0, .null) := by decide +kernel
theorem o_79_31 : t_OP 79 31 = some (.aload_n 1, 0, 0, 0, 0, .null) := by decide +kernel
theorem o_79_32 : t_OP 79 32 = some (.iload_n 2, 0, 0, 0, 0, .null) := by decide +kernel
theorem o_79_33 : t_OP 79 33 = some (.iload_n 3, 0, 0, 0, 0, .null) := by decide +kernel
theorem o_79_34 : t_OP 79 34 = some (.aload_n 0, 0, 0, 0, 0, .null) := by decide +kernel
theorem o_79_35 : t_OP 79 35 = some (.getfield 15, 2, 1, 0, 0, .null) := by decide +kernel
theorem o_79_38 : t_OP 79 38 = some (.iload 4, 0, 0, 0, 0, .null) := by decide +kernel
theorem o_79_40 : t_OP 79 40 = some (.iaload, 0, 0, 0, 0, .null) := by decide +kernel
theorem o_79_41 : t_OP 79 41 = some (.invokevirtual 84, 65, 0, 3, 0, .null) := by decide +kernel
theorem o_79_44 : t_OP 79 44 = some (.iinc 3 (1), 0, 0, 0, 1, .null) := by decide +kernel
theorem o_79_47 : t_OP 79 47 = some (.aload_n 0, 0, 0, 0, 0, .null) := by decide +kernel
theorem o_79_48 : t_OP 79 48 = some (.iload 4, 0, 0, 0, 0, .null) := by decide +kernel
theorem o_79_50 : t_OP 79 50 = some (.invokevirtual 31, 72, 0, 1, 0, .null) := by decide +kernel
theorem o_79_53 : t_OP 79 53 = some (.ifCond .eq (8), 61, 0, 0, 0, .null) := by decide +kernel
theorem o_79_56 : t_OP 79 56 = some (.iinc 2 (1), 0, 0, 0, 1, .null) := by decide +kernel
theorem o_79_59 : t_OP 79 59 = some (.iconst (0), 0, 0, 0, 0, .null) := by decide +kernel
theorem o_79_60 : t_OP 79 60 = some (.istore_n 3, 0, 0, 0, 0, .null) := by decide +kernel
theorem o_79_61 : t_OP 79 61 = some (.iinc 4 (1), 0, 0, 0, 1, .null) := by decide +kernel
theorem o_79_64 : t_OP 79 64 = some (.goto (-57), 7, 0, 0, 0, .null) := by decide +kernel
theorem o_79_67 : t_OP 79 67 = some (.return_, 0, 0, 0, 0, .null) := by decide +kernel
theorem o_80_0 : t_OP 80 0 = some (.iconst (0), 0, 0, 0, 0, .null) := by decide +kernel
theorem o_80_1 : t_OP 80 1 = some (.istore_n 3, 0, 0, 0, 0, .null) := by decide +kernel
theorem o_80_2 : t_OP 80 2 = some (.iload_n 3, 0, 0, 0, 0, .null) := by decide +kernel
theorem o_80_3 : t_OP 80 3 = some (.iload_n 2, 0, 0, 0, 0, .null) := by decide +kernel
theorem o_80_4 : t_OP 80 4 = some (.if_icmp .ge (36), 40, 0, 0, 0, .null) := by decide +kernel
theorem o_80_7 : t_OP 80 7 = some (.iload_n 3, 0, 0, 0, 0, .null) := by decide +kernel
theorem o_80_8 : t_OP 80 8 = some (.iconst (4), 0, 0, 0, 4, .null) := by decide +kernel
theorem o_80_9 : t_OP 80 9 = some (.if_icmp .ge (31), 40, 0, 0, 0, .null) := by decide +kernel
theorem o_80_12 : t_OP 80 12 = some (.aload_n 0, 0, 0, 0, 0, .null) := by decide +kernel
theorem o_80_13 : t_OP 80 13 = some (.getfield 18, 2, 2, 0, 0, .null) := by decide +kernel
theorem o_80_16 : t_OP 80 16 = some (.iload_n 3, 0, 0, 0, 0, .null) := by decide +kernel
theorem o_80_17 : t_OP 80 17 = some (.iaload, 0, 0, 0, 0, .null) := by decide +kernel
theorem o_80_18 : t_OP 80 18 = some (.iconst (2), 0, 0, 0, 2, .null) := by decide +kernel
theorem o_80_19 : t_OP 80 19 = some (.if_icmp .lt (15), 34, 0, 0, 0, .null) := by decide +kernel
theorem o_80_22 : t_OP 80 22 = some (.aload_n 1, 0, 0, 0, 0, .null) := by decide +kernel
theorem o_80_23 : t_OP 80 23 = some (.iconst (-1), 0, 0, 0, (-1), .null) := by decide +kernel
theorem o_80_24 : t_OP 80 24 = some (.iload_n 3, 0, 0, 0, 0, .null) := by decide +kernel
theorem o_80_25 : t_OP 80 25 = some (.aload_n 0, 0, 0, 0, 0, .null) := by decide +kernel
theorem o_80_26 : t_OP 80 26 = some (.getfield 18, 2, 2, 0, 0, .null) := by decide +kernel
theorem o_80_29 : t_OP 80 29 = some (.iload_n 3, 0, 0, 0, 0, .null) := by decide +kernel
theorem o_80_30 : t_OP 80 30 = some (.iaload, 0, 0, 0, 0, .null) := by decide +kernel
theorem o_80_31 : t_OP 80 31 = some (.invokevirtual 84, 65, 0, 3, 0, .null) := by decide +kernel
theorem o_80_34 : t_OP 80 34 = some (.iinc 3 (1), 0, 0, 0, 1, .null) := by decide +kernel
theorem o_80_37 : t_OP 80 37 = some (.goto (-35), 2, 0, 0, 0, .null) := by decide +kernel
theorem o_80_40 : t_OP 80 40 = some (.return_, 0, 0, 0, 0, .null) := by decide +kernel
theorem o_81_0 : t_OP 81 0 = some (.iload_n 1, 0, 0, 0, 0, .null) := by decide +kernel
theorem o_81_1 : t_OP 81 1 = some (.ifCond .lt (23), 24, 0, 0, 0, .null) := by decide +kernel
theorem o_81_4 : t_OP 81 4 = some (.iload_n 1, 0, 0, 0, 0, .null) := by decide +kernel
theorem o_81_5 : t_OP 81 5 = some (.aload_n 0, 0, 0, 0, 0, .null) := by decide +kernel
theorem o_81_6 : t_OP 81 6 = some (.getfield 25, 6, 2, 0, 0, .null) := by decide +kernel
theorem o_81_9 : t_OP 81 9 = some (.getfield 94, 0, 1, 0, 0, .null) := by decide +kernel
theorem o_81_12 : t_OP 81 12 = some (.if_icmp .ge (12), 24, 0, 0, 0, .null) := by decide +kernel
theorem o_81_15 : t_OP 81 15 = some (.iload_n 2, 0, 0, 0, 0, .null) := by decide +kernel
theorem o_81_16 : t_OP 81 16 = some (.ifCond .lt (8), 24, 0, 0, 0, .null) := by decide +kernel
theorem o_81_19 : t_OP 81 19 = some (.iload_n 2, 0, 0, 0, 0, .null) := by decide +kernel
theorem o_81_20 : t_OP 81 20 = some (.iconst (3), 0, 0, 0, 3, .null) := by decide +kernel
theorem o_81_21 : t_OP 81 21 = some (.if_icmp .le (13), 34, 0, 0, 0, .null) := by decide +kernel
theorem o_81_24 : t_OP 81 24 = some (.new 97, 102, 0, 0, 0, .null) := by decide +kernel
theorem o_81_34 : t_OP 81 34 = some (.iload_n 2, 0, 0, 0, 0, .null) := by decide +kernel
theorem o_81_35 : t_OP 81 35 = some (.tableswitch (55) (0) (2) #[25, 35, 45], 0, 0, 0, 0, .null) := by decide +kernel
theorem o_81_60 : t_OP 81 60 = some (.aload_n 0, 0, 0, 0, 0, .null) := by decide +kernel
theorem o_81_61 : t_OP 81 61 = some (.getfield 25, 6, 2, 0, 0, .null) := by decide +kernel
theorem o_81_64 : t_OP 81 64 = some (.getfield 132, 0, 4, 0, 0, .null) := by decide +kernel
theorem o_81_67 : t_OP 81 67 = some (.iload_n 1, 0, 0, 0, 0, .null) := by decide +kernel
theorem o_81_68 : t_OP 81 68 = some (.iaload, 0, 0, 0, 0, .null) := by decide +kernel
theorem o_81_69 : t_OP 81 69 = some (.ireturn, 0, 0, 0, 0, .null) := by decide +kernel
theorem o_81_70 : t_OP 81 70 = some (.aload_n 0, 0, 0, 0, 0, .null) := by decide +kernel
theorem o_81_71 : t_OP 81 71 = some (.getfield 25, 6, 2, 0, 0, .null) := by decide +kernel
theorem o_81_74 : t_OP 81 74 = some (.getfield 136, 0, 5, 0, 0, .null) := by decide +kernel
theorem o_81_77 : t_OP 81 77 = some (.iload_n 1, 0, 0, 0, 0, .null) := by decide +kernel
theorem o_81_78 : t_OP 81 78 = some (.iaload, 0, 0, 0, 0, .null) := by decide +kernel
theorem o_81_79 : t_OP 81 79 = some (.ireturn, 0, 0, 0, 0, .null) := by decide +kernel
theorem o_81_80 : t_OP 81 80 = some (.aload_n 0, 0, 0, 0, 0, .null) := by decide +kernel
theorem o_81_81 : t_OP 81 81 = some (.getfield 25, 6, 2, 0, 0, .null) := by decide +kernel
theorem o_81_84 : t_OP 81 84 = some (.getfield 139, 0, 6, 0, 0, .null) := by decide +kernel
theorem o_81_87 : t_OP 81 87 = some (.iload_n 1, 0, 0, 0, 0, .null) := by decide +kernel
theorem o_81_88 : t_OP 81 88 = some (.iaload, 0, 0, 0, 0, .null) := by decide +kernel
theorem o_81_89 : t_OP 81 89 = some (.ireturn, 0, 0, 0, 0, .null) := by decide +kernel
theorem o_81_90 : t_OP 81 90 = some (.aload_n 0, 0, 0, 0, 0, .null) := by decide +kernel
theorem o_81_91 : t_OP 81 91 = some (.getfield 25, 6, 2, 0, 0, .null) := by decide +kernel
theorem o_81_94 : t_OP 81 94 = some (.getfield 142, 0, 7, 0, 0, .null) := by decide +kernel
theorem o_81_97 : t_OP 81 97 = some (.iload_n 1, 0, 0, 0, 0, .null) := by decide +kernel
theorem o_81_98 : t_OP 81 98 = some (.iaload, 0, 0, 0, 0, .null) := by decide +kernel
theorem o_81_99 : t_OP 81 99 = some (.ireturn, 0, 0, 0, 0, .null) := by decide +kernel
theorem o_82_0 : t_OP 82 0 = some (.iload_n 1, 0, 0, 0, 0, .null) := by decide +kernel
theorem o_82_1 : t_OP 82 1 = some (.ifCond .lt (23), 24, 0, 0, 0, .null) := by decide +kernel
theorem o_82_4 : t_OP 82 4 = some (.iload_n 1, 0, 0, 0, 0, .null) := by decide +kernel
theorem o_82_5 : t_OP 82 5 = some (.aload_n 0, 0, 0, 0, 0, .null) := by decide +kernel
theorem o_82_6 : t_OP 82 6 = some (.getfield 25, 6, 2, 0, 0, .null) := by decide +kernel
theorem o_82_9 : t_OP 82 9 = some (.getfield 145, 0, 2, 0, 0, .null) := by decide +kernel
theorem o_82_12 : t_OP 82 12 = some (.if_icmp .ge (12), 24, 0, 0, 0, .null) := by decide +kernel
theorem o_82_15 : t_OP 82 15 = some (.iload_n 2, 0, 0, 0, 0, .null) := by decide +kernel
theorem o_82_16 : t_OP 82 16 = some (.ifCond .lt (8), 24, 0, 0, 0, .null) := by decide +kernel
theorem o_82_19 : t_OP 82 19 = some (.iload_n 2, 0, 0, 0, 0, .null) := by decide +kernel
theorem o_82_20 : t_OP 82 20 = some (.iconst (2), 0, 0, 0, 2, .null) := by decide +kernel
theorem o_82_21 : t_OP 82 21 = some (.if_icmp .le (13), 34, 0, 0, 0, .null) := by decide +kernel
theorem o_82_24 : t_OP 82 24 = some (.new 97, 102, 0, 0, 0, .null) := by decide +kernel
theorem o_82_34 : t_OP 82 34 = some (.iload_n 2, 0, 0, 0, 0, .null) := by decide +kernel
theorem o_82_35 : t_OP 82 35 = some (.lookupswitch (45) #[(0, 25), (1, 35)], 0, 0, 0, 0, .null) := by decide +kernel
theorem o_82_60 : t_OP 82 60 = some (.aload_n 0, 0, 0, 0, 0, .null) := by decide +kernel
theorem o_82_61 : t_OP 82 61 = some (.getfield 25, 6, 2, 0, 0, .null) := by decide +kernel
theorem o_82_64 : t_OP 82 64 = some (.getfield 150, 0, 8, 0, 0, .null) := by decide +kernel
theorem o_82_67 : t_OP 82 67 = some (.iload_n 1, 0, 0, 0, 0, .null) := by decide +kernel
theorem o_82_68 : t_OP 82 68 = some (.iaload, 0, 0, 0, 0, .null) := by decide +kernel
theorem o_82_69 : t_OP 82 69 = some (.ireturn, 0, 0, 0, 0, .null) := by decide +kernel
theorem o_82_70 : t_OP 82 70 = some (.aload_n 0, 0, 0, 0, 0, .null) := by decide +kernel
theorem o_82_71 : t_OP 82 71 = some (.getfield 25, 6, 2, 0, 0, .null) := by decide +kernel
theorem o_82_74 : t_OP 82 74 = some (.getfield 153, 0, 9, 0, 0, .null) := by decide +kernel
theorem o_82_77 : t_OP 82 77 = some (.iload_n 1, 0, 0, 0, 0, .null) := by decide +kernel
theorem o_82_78 : t_OP 82 78 = some (.iaload, 0, 0, 0, 0, .null) := by decide +kernel
theorem o_82_79 : t_OP 82 79 = some (.ireturn, 0, 0, 0, 0, .null) := by decide +kernel
theorem o_82_80 : t_OP 82 80 = some (.aload_n 0, 0, 0, 0, 0, .null) := by decide +kernel
theorem o_82_81 : t_OP 82 81 = some (.getfield 25, 6, 2, 0, 0, .null) := by decide +kernel
theorem o_82_84 : t_OP 82 84 = some (.getfield 156, 0, 10, 0, 0, .null) := by decide +kernel
theorem o_82_87 : t_OP 82 87 = some (.iload_n 1, 0, 0, 0, 0, .null) := by decide +kernel
theorem o_82_88 : t_OP 82 88 = some (.iaload, 0, 0, 0, 0, .null) := by decide +kernel
theorem o_82_89 : t_OP 82 89 = some (.ireturn, 0, 0, 0, 0, .null) := by decide +kernel
theorem o_83_0 : t_OP 83 0 = some (.aload_n 0, 0, 0, 0, 0, .null) := by decide +kernel
theorem o_83_1 : t_OP 83 1 = some (.getfield 25, 6, 2, 0, 0, .null) := by decide +kernel
theorem o_83_4 : t_OP 83 4 = some (.invokevirtual 159, 84, 0, 0, 0, .null) := by decide +kernel
theorem o_83_7 : t_OP 83 7 = some (.istore_n 1, 0, 0, 0, 0, .null) := by decide +kernel
theorem o_83_8 : t_OP 83 8 = some (.aload_n 0, 0, 0, 0, 0, .null) := by decide +kernel
theorem o_83_9 : t_OP 83 9 = some (.getfield 25, 6, 2, 0, 0, .null) := by decide +kernel
theorem o_83_12 : t_OP 83 12 = some (.invokevirtual 163, 60, 0, 0, 0, .null) := by decide +kernel
theorem o_83_15 : t_OP 83 15 = some (.ifCond .ne (9), 24, 0, 0, 0, .null) := by decide +kernel
theorem o_83_18 : t_OP 83 18 = some (.iload_n 1, 0, 0, 0, 0, .null) := by decide +kernel
theorem o_83_19 : t_OP 83 19 = some (.bipush (10), 0, 0, 0, 10, .null) := by decide +kernel
theorem o_83_21 : t_OP 83 21 = some (.if_icmp .le (13), 34, 0, 0, 0, .null) := by decide +kernel
theorem o_83_24 : t_OP 83 24 = some (.new 53, 100, 0, 0, 0, .null) := by decide +kernel
theorem o_83_34 : t_OP 83 34 = some (.aload_n 0, 0, 0, 0, 0, .null) := by decide +kernel
theorem o_83_35 : t_OP 83 35 = some (.getfield 36, 6, 4, 0, 0, .null) := by decide +kernel
theorem o_83_38 : t_OP 83 38 = some (.iload_n 1, 0, 0, 0, 0, .null) := by decide +kernel
theorem o_83_39 : t_OP 83 39 = some (.invokevirtual 168, 86, 0, 1, 0, .null) := by decide +kernel
theorem o_83_42 : t_OP 83 42 = some (.iload_n 1, 0, 0, 0, 0, .null) := by decide +kernel
theorem o_83_43 : t_OP 83 43 = some (.ireturn, 0, 0, 0, 0, .null) := by decide +kernel
theorem o_84_0 : t_OP 84 0 = some (.iconst (0), 0, 0, 0, 0, .null) := by decide +kernel
theorem o_84_1 : t_OP 84 1 = some (.istore_n 1, 0, 0, 0, 0, .null) := by decide +kernel
theorem o_84_2 : t_OP 84 2 = some (.iconst (0), 0, 0, 0, 0, .null) := by decide +kernel
theorem o_84_3 : t_OP 84 3 = some (.istore_n 2, 0, 0, 0, 0, .null) := by decide +kernel
theorem o_84_4 : t_OP 84 4 = some (.iload_n 2, 0, 0, 0, 0, .null) := by decide +kernel
theorem o_84_5 : t_OP 84 5 = some (.iconst (1), 0, 0, 0, 1, .null) := by decide +kernel
theorem o_84_6 : t_OP 84 6 = some (.iadd, 0, 0, 0, 0, .null) := by decide +kernel
theorem o_84_7 : t_OP 84 7 = some (.aload_n 0, 0, 0, 0, 0, .null) := by decide +kernel
theorem o_84_8 : t_OP 84 8 = some (.getfield 37, 0, 1, 0, 0, .null) := by decide +kernel
theorem o_84_11 : t_OP 84 11 = some (.if_icmp .ge (20), 31, 0, 0, 0, .null) := by decide +kernel
theorem o_84_14 : t_OP 84 14 = some (.aload_n 0, 0, 0, 0, 0, .null) := by decide +kernel
theorem o_84_15 : t_OP 84 15 = some (.iload_n 2, 0, 0, 0, 0, .null) := by decide +kernel
theorem o_84_16 : t_OP 84 16 = some (.invokevirtual 50, 85, 0, 1, 0, .null) := by decide +kernel
theorem o_84_19 : t_OP 84 19 = some (.ifCond .eq (6), 25, 0, 0, 0, .null) := by decide +kernel
theorem o_84_22 : t_OP 84 22 = some (.iinc 1 (1), 0, 0, 0, 1, .null) := by decide +kernel
theorem o_84_25 : t_OP 84 25 = some (.iinc 2 (1), 0, 0, 0, 1, .null) := by decide +kernel
theorem o_84_28 : t_OP 84 28 = some (.goto (-24), 4, 0, 0, 0, .null) := by decide +kernel
theorem o_84_31 : t_OP 84 31 = some (.iload_n 1, 0, 0, 0, 0, .null) := by decide +kernel
theorem o_84_32 : t_OP 84 32 = some (.ireturn, 0, 0, 0, 0, .null) := by decide +kernel
theorem o_85_0 : t_OP 85 0 = some (.iload_n 1, 0, 0, 0, 0, .null) := by decide +kernel
theorem o_85_1 : t_OP 85 1 = some (.ifCond .lt (56), 57, 0, 0, 0, .null) := by decide +kernel
theorem o_85_4 : t_OP 85 4 = some (.iload_n 1, 0, 0, 0, 0, .null) := by decide +kernel
theorem o_85_5 : t_OP 85 5 = some (.iconst (1), 0, 0, 0, 1, .null) := by decide +kernel
theorem o_85_6 : t_OP 85 6 = some (.iadd, 0, 0, 0, 0, .null) := by decide +kernel
theorem o_85_7 : t_OP 85 7 = some (.aload_n 0, 0, 0, 0, 0, .null) := by decide +kernel
theorem o_85_8 : t_OP 85 8 = some (.getfield 37, 0, 1, 0, 0, .null) := by decide +kernel
theorem o_85_11 : t_OP 85 11 = some (.if_icmp .ge (46), 57, 0, 0, 0, .null) := by decide +kernel
theorem o_85_14 : t_OP 85 14 = some (.aload_n 0, 0, 0, 0, 0, .null) := by decide +kernel
theorem o_85_15 : t_OP 85 15 = some (.getfield 9, 0, 4, 0, 0, .null) := by decide +kernel
theorem o_85_18 : t_OP 85 18 = some (.iload_n 1, 0, 0, 0, 0, .null) := by decide +kernel
theorem o_85_19 : t_OP 85 19 = some (.iaload, 0, 0, 0, 0, .null) := by decide +kernel
theorem o_85_20 : t_OP 85 20 = some (.aload_n 0, 0, 0, 0, 0, .null) := by decide +kernel
theorem o_85_21 : t_OP 85 21 = some (.getfield 9, 0, 4, 0, 0, .null) := by decide +kernel
theorem o_85_24 : t_OP 85 24 = some (.iload_n 1, 0, 0, 0, 0, .null) := by decide +kernel
theorem o_85_25 : t_OP 85 25 = some (.iconst (1), 0, 0, 0, 1, .null) := by decide +kernel
theorem o_85_26 : t_OP 85 26 = some (.iadd, 0, 0, 0, 0, .null) := by decide +kernel
theorem o_85_27 : t_OP 85 27 = some (.iaload, 0, 0, 0, 0, .null) := by decide +kernel
theorem o_85_28 : t_OP 85 28 = some (.if_icmp .ne (29), 57, 0, 0, 0, .null) := by decide +kernel
theorem o_85_31 : t_OP 85 31 = some (.aload_n 0, 0, 0, 0, 0, .null) := by decide +kernel
theorem o_85_32 : t_OP 85 32 = some (.getfield 15, 0, 5, 0, 0, .null) := by decide +kernel
theorem o_85_35 : t_OP 85 35 = some (.iload_n 1, 0, 0, 0, 0, .null) := by decide +kernel
theorem o_85_36 : t_OP 85 36 = some (.iaload, 0, 0, 0, 0, .null) := by decide +kernel
theorem o_85_37 : t_OP 85 37 = some (.iconst (2), 0, 0, 0, 2, .null) := by decide +kernel
theorem o_85_38 : t_OP 85 38 = some (.if_icmp .eq (19), 57, 0, 0, 0, .null) := by decide +kernel
theorem o_85_41 : t_OP 85 41 = some (.aload_n 0, 0, 0, 0, 0, .null) := by decide +kernel
theorem o_85_42 : t_OP 85 42 = some (.getfield 15, 0, 5, 0, 0, .null) := by decide +kernel
theorem o_85_45 : t_OP 85 45 = some (.iload_n 1, 0, 0, 0, 0, .null) := by decide +kernel
theorem o_85_46 : t_OP 85 46 = some (.iconst (1), 0, 0, 0, 1, .null) := by decide +kernel
theorem o_85_47 : t_OP 85 47 = some (.iadd, 0, 0, 0, 0, .null) := by decide +kernel
theorem o_85_48 : t_OP 85 48 = some (.iaload, 0, 0, 0, 0, .null) := by decide +kernel
theorem o_85_49 : t_OP 85 49 = some (.iconst (2), 0, 0, 0, 2, .null) := by decide +kernel
theorem o_85_50 : t_OP 85 50 = some (.if_icmp .eq (7), 57, 0, 0, 0, .null) := by decide +kernel
theorem o_85_53 : t_OP 85 53 = some (.iconst (1), 0, 0, 0, 1, .null) := by decide +kernel
theorem o_85_54 : t_OP 85 54 = some (.goto (4), 58, 0, 0, 0, .null) := by decide +kernel
theorem o_85_57 : t_OP 85 57 = some (.iconst (0), 0, 0, 0, 0, .null) := by decide +kernel
theorem o_85_58 : t_OP 85 58 = some (.ireturn, 0, 0, 0, 0, .null) := by decide +kernel
theorem o_86_0 : t_OP 86 0 = some (.aload_n 0, 0, 0, 0, 0, .null) := by decide +kernel
theorem o_86_1 : t_OP 86 1 = some (.iconst (0), 0, 0, 0, 0, .null) := by decide +kernel
theorem o_86_2 : t_OP 86 2 = some (.putfield 19, 5, 1, 0, 0, .null) := by decide +kernel
theorem o_86_5 : t_OP 86 5 = some (.aload_n 0, 0, 0, 0, 0, .null) := by decide +kernel
theorem o_86_6 : t_OP 86 6 = some (.iconst (0), 0, 0, 0, 0, .null) := by decide +kernel
theorem o_86_7 : t_OP 86 7 = some (.putfield 22, 5, 2, 0, 0, .null) := by decide +kernel
theorem o_86_10 : t_OP 86 10 = some (.aload_n 0, 0, 0, 0, 0, .null) := by decide +kernel
theorem o_86_11 : t_OP 86 11 = some (.iconst (0), 0, 0, 0, 0, .null) := by decide +kernel
theorem o_86_12 : t_OP 86 12 = some (.putfield 15, 5, 3, 0, 0, .null) := by decide +kernel
theorem o_86_15 : t_OP 86 15 = some (.aload_n 0, 0, 0, 0, 0, .null) := by decide +kernel
theorem o_86_16 : t_OP 86 16 = some (.iload_n 1, 0, 0, 0, 0, .null) := by decide +kernel
theorem o_86_17 : t_OP 86 17 = some (.putfield 25, 5, 4, 0, 0, .null) := by decide +kernel
theorem o_86_20 : t_OP 86 20 = some (.return_, 0, 0, 0, 0, .null) := by decide +kernel
theorem o_87_0 : t_OP 87 0 = some (.aload_n 0, 0, 0, 0, 0, .null) := by decide +kernel
theorem o_87_1 : t_OP 87 1 = some (.getfield 36, 6, 4, 0, 0, .null) := by decide +kernel
theorem o_87_4 : t_OP 87 4 = some (.getfield 170, 5, 3, 0, 0, .null) := by decide +kernel
theorem o_87_7 : t_OP 87 7 = some (.iconst (-1), 0, 0, 0, (-1), .null) := by decide +kernel
theorem o_87_8 : t_OP 87 8 = some (.if_icmp .ne (13), 21, 0, 0, 0, .null) := by decide +kernel
theorem o_87_11 : t_OP 87 11 = some (.new 53, 100, 0, 0, 0, .null) := by decide +kernel
theorem o_87_21 : t_OP 87 21 = some (.aload_n 0, 0, 0, 0, 0, .null) := by decide +kernel
theorem o_87_22 : t_OP 87 22 = some (.getfield 36, 6, 4, 0, 0, .null) := by decide +kernel
theorem o_87_25 : t_OP 87 25 = some (.iload_n 1, 0, 0, 0, 0, .null) := by decide +kernel
theorem o_87_26 : t_OP 87 26 = some (.invokevirtual 175, 88, 0, 1, 0, .null) := by decide +kernel
theorem o_87_29 : t_OP 87 29 = some (.aload_n 0, 0, 0, 0, 0, .null) := by decide +kernel
theorem o_87_30 : t_OP 87 30 = some (.getfield 36, 6, 4, 0, 0, .null) := by decide +kernel
theorem o_87_33 : t_OP 87 33 = some (.getfield 179, 5, 1, 0, 0, .null) := by decide +kernel
theorem o_87_36 : t_OP 87 36 = some (.ireturn, 0, 0, 0, 0, .null) := by decide +kernel
theorem o_88_0 : t_OP 88 0 = some (.aload_n 0, 0, 0, 0, 0, .null) := by decide +kernel
theorem o_88_1 : t_OP 88 1 = some (.dup, 0, 0, 0, 0, .null) := by decide +kernel
theorem o_88_2 : t_OP 88 2 = some (.getfield 22, 5, 2, 0, 0, .null) := by decide +kernel
theorem o_88_5 : t_OP 88 5 = some (.iconst (1), 0, 0, 0, 1, .null) := by decide +kernel
theorem o_88_6 : t_OP 88 6 = some (.iadd, 0, 0, 0, 0, .null) := by decide +kernel
theorem o_88_7 : t_OP 88 7 = some (.putfield 22, 5, 2, 0, 0, .null) := by decide +kernel
theorem o_88_10 : t_OP 88 10 = some (.iload_n 1, 0, 0, 0, 0, .null) := by decide +kernel
theorem o_88_11 : t_OP 88 11 = some (.ifCond .eq (36), 47, 0, 0, 0, .null) := by decide +kernel
theorem o_88_14 : t_OP 88 14 = some (.aload_n 0, 0, 0, 0, 0, .null) := by decide +kernel
theorem o_88_15 : t_OP 88 15 = some (.getfield 19, 5, 1, 0, 0, .null) := by decide +kernel
theorem o_88_18 : t_OP 88 18 = some (.sipush (252), 0, 0, 0, 252, .null) := by decide +kernel
theorem o_88_21 : t_OP 88 21 = some (.if_icmp .ge (26), 47, 0, 0, 0, .null) := by decide +kernel
theorem o_88_24 : t_OP 88 24 = some (.aload_n 0, 0, 0, 0, 0, .null) := by decide +kernel
theorem o_88_25 : t_OP 88 25 = some (.getfield 11, 5, 0, 0, 0, .null) := by decide +kernel
theorem o_88_28 : t_OP 88 28 = some (.aload_n 0, 0, 0, 0, 0, .null) := by decide +kernel
theorem o_88_29 : t_OP 88 29 = some (.getfield 19, 5, 1, 0, 0, .null) := by decide +kernel
theorem o_88_32 : t_OP 88 32 = some (.aload_n 0, 0, 0, 0, 0, .null) := by decide +kernel
theorem o_88_33 : t_OP 88 33 = some (.getfield 15, 5, 3, 0, 0, .null) := by decide +kernel
theorem o_88_36 : t_OP 88 36 = some (.iastore, 0, 0, 0, 0, .null) := by decide +kernel
theorem o_88_37 : t_OP 88 37 = some (.aload_n 0, 0, 0, 0, 0, .null) := by decide +kernel
theorem o_88_38 : t_OP 88 38 = some (.dup, 0, 0, 0, 0, .null) := by decide +kernel
theorem o_88_39 : t_OP 88 39 = some (.getfield 19, 5, 1, 0, 0, .null) := by decide +kernel
theorem o_88_42 : t_OP 88 42 = some (.iconst (1), 0, 0, 0, 1, .null) := by decide +kernel
theorem o_88_43 : t_OP 88 43 = some (.iadd, 0, 0, 0, 0, .null) := by decide +kernel
theorem o_88_44 : t_OP 88 44 = some (.putfield 19, 5, 1, 0, 0, .null) := by decide +kernel
theorem o_88_47 : t_OP 88 47 = some (.aload_n 0, 0, 0, 0, 0, .null) := by decide +kernel
theorem o_88_48 : t_OP 88 48 = some (.aload_n 0, 0, 0, 0, 0, .null) := by decide +kernel
theorem o_88_49 : t_OP 88 49 = some (.aload_n 0, 0, 0, 0, 0, .null) := by decide +kernel
theorem o_88_50 : t_OP 88 50 = some (.getfield 15, 5, 3, 0, 0, .null) := by decide +kernel
theorem o_88_53 : t_OP 88 53 = some (.invokevirtual 28, 89, 0, 1, 0, .null) := by decide +kernel
theorem o_88_56 : t_OP 88 56 = some (.putfield 15, 5, 3, 0, 0, .null) := by decide +kernel
theorem o_88_59 : t_OP 88 59 = some (.iconst (0), 0, 0, 0, 0, .null) := by decide +kernel
theorem o_88_60 : t_OP 88 60 = some (.istore_n 2, 0, 0, 0, 0, .null) := by decide +kernel
theorem o_88_61 : t_OP 88 61 = some (.iload_n 2, 0, 0, 0, 0, .null) := by decide +kernel
theorem o_88_62 : t_OP 88 62 = some (.sipush (1024), 0, 0, 0, 1024, .null) := by decide +kernel
theorem o_88_65 : t_OP 88 65 = some (.if_icmp .ge (36), 101, 0, 0, 0, .null) := by decide +kernel
theorem o_88_68 : t_OP 88 68 = some (.aload_n 0, 0, 0, 0, 0, .null) := by decide +kernel
theorem o_88_69 : t_OP 88 69 = some (.getfield 15, 5, 3, 0, 0, .null) := by decide +kernel
theorem o_88_72 : t_OP 88 72 = some (.iconst (-1), 0, 0, 0, (-1), .null) := by decide +kernel
theorem o_88_73 : t_OP 88 73 = some (.if_icmp .eq (28), 101, 0, 0, 0, .null) := by decide +kernel
theorem o_88_76 : t_OP 88 76 = some (.aload_n 0, 0, 0, 0, 0, .null) := by decide +kernel
theorem o_88_77 : t_OP 88 77 = some (.invokevirtual 32, 90, 0, 0, 0, .null) := by decide +kernel
theorem o_88_80 : t_OP 88 80 = some (.ifCond .eq (21), 101, 0, 0, 0, .null) := by decide +kernel
theorem o_88_83 : t_OP 88 83 = some (.aload_n 0, 0, 0, 0, 0, .null) := by decide +kernel
theorem o_88_84 : t_OP 88 84 = some (.aload_n 0, 0, 0, 0, 0, .null) := by decide +kernel
theorem o_88_85 : t_OP 88 85 = some (.aload_n 0, 0, 0, 0, 0, .null) := by decide +kernel
theorem o_88_86 : t_OP 88 86 = some (.getfield 15, 5, 3, 0, 0, .null) := by decide +kernel
theorem o_88_89 : t_OP 88 89 = some (.invokevirtual 28, 89, 0, 1, 0, .null) := by decide +kernel
theorem o_88_92 : t_OP 88 92 = some (.putfield 15, 5, 3, 0, 0, .null) := by decide +kernel
theorem o_88_95 : t_OP 88 95 = some (.iinc 2 (1), 0, 0, 0, 1, .null) := by decide +kernel
theorem o_88_98 : t_OP 88 98 = some (.goto (-37), 61, 0, 0, 0, .null) := by decide +kernel
theorem o_88_101 : t_OP 88 101 = some (.return_, 0, 0, 0, 0, .null) := by decide +kernel
theorem o_89_0 : t_OP 89 0 = some (.iload_n 1, 0, 0, 0, 0, .null) := by decide +kernel
theorem o_89_1 : t_OP 89 1 = some (.istore_n 2, 0, 0, 0, 0, .null) := by decide +kernel
theorem o_89_2 : t_OP 89 2 = some (.iconst (1), 0, 0, 0, 1, .null) := by decide +kernel
theorem o_89_3 : t_OP 89 3 = some (.istore_n 3, 0, 0, 0, 0, .null) := by decide +kernel
theorem o_89_4 : t_OP 89 4 = some (.aload_n 0, 0, 0, 0, 0, .null) := by decide +kernel
theorem o_89_5 : t_OP 89 5 = some (.getfield 25, 5, 4, 0, 0, .null) := by decide +kernel
theorem o_89_8 : t_OP 89 8 = some (.iconst (1), 0, 0, 0, 1, .null) := by decide +kernel
theorem o_89_9 : t_OP 89 9 = some (.isub, 0, 0, 0, 0, .null) := by decide +kernel
theorem o_89_10 : t_OP 89 10 = some (.istore 4, 0, 0, 0, 0, .null) := by decide +kernel
theorem o_89_12 : t_OP 89 12 = some (.iload 4, 0, 0, 0, 0, .null) := by decide +kernel
theorem o_89_14 : t_OP 89 14 = some (.ifCond .lt (28), 42, 0, 0, 0, .null) := by decide +kernel
theorem o_89_17 : t_OP 89 17 = some (.iload_n 2, 0, 0, 0, 0, .null) := by decide +kernel
theorem o_89_18 : t_OP 89 18 = some (.iload 4, 0, 0, 0, 0, .null) := by decide +kernel
theorem o_89_20 : t_OP 89 20 = some (.iushr, 0, 0, 0, 0, .null) := by decide +kernel
theorem o_89_21 : t_OP 89 21 = some (.iconst (1), 0, 0, 0, 1, .null) := by decide +kernel
theorem o_89_22 : t_OP 89 22 = some (.iand, 0, 0, 0, 0, .null) := by decide +kernel
theorem o_89_23 : t_OP 89 23 = some (.ifCond .eq (19), 42, 0, 0, 0, .null) := by decide +kernel
theorem o_89_26 : t_OP 89 26 = some (.iload_n 2, 0, 0, 0, 0, .null) := by decide +kernel
theorem o_89_27 : t_OP 89 27 = some (.iconst (1), 0, 0, 0, 1, .null) := by decide +kernel
theorem o_89_28 : t_OP 89 28 = some (.iload 4, 0, 0, 0, 0, .null) := by decide +kernel
theorem o_89_30 : t_OP 89 30 = some (.ishl, 0, 0, 0, 0, .null) := by decide +kernel
theorem o_89_31 : t_OP 89 31 = some (.ixor, 0, 0, 0, 0, .null) := by decide +kernel
theorem o_89_32 : t_OP 89 32 = some (.istore_n 2, 0, 0, 0, 0, .null) := by decide +kernel
theorem o_89_33 : t_OP 89 33 = some (.iinc 3 (1), 0, 0, 0, 1, .null) := by decide +kernel
theorem o_89_36 : t_OP 89 36 = some (.iinc 4 (-1), 0, 0, 0, (-1), .null) := by decide +kernel
theorem o_89_39 : t_OP 89 39 = some (.goto (-27), 12, 0, 0, 0, .null) := by decide +kernel
theorem o_89_42 : t_OP 89 42 = some (.iload_n 2, 0, 0, 0, 0, .null) := by decide +kernel
theorem o_89_43 : t_OP 89 43 = some (.ifCond .ne (21), 64, 0, 0, 0, .null) := by decide +kernel
theorem o_89_46 : t_OP 89 46 = some (.iload_n 3, 0, 0, 0, 0, .null) := by decide +kernel
theorem o_89_47 : t_OP 89 47 = some (.aload_n 0, 0, 0, 0, 0, .null) := by decide +kernel
theorem o_89_48 : t_OP 89 48 = some (.getfield 25, 5, 4, 0, 0, .null) := by decide +kernel
theorem o_89_51 : t_OP 89 51 = some (.if_icmp .le (7), 58, 0, 0, 0, .null) := by decide +kernel
theorem o_89_54 : t_OP 89 54 = some (.iconst (-1), 0, 0, 0, (-1), .null) := by decide +kernel
theorem o_89_55 : t_OP 89 55 = some (.goto (8), 63, 0, 0, 0, .null) := by decide +kernel
theorem o_89_58 : t_OP 89 58 = some (.iconst (1), 0, 0, 0, 1, .null) := by decide +kernel
theorem o_89_59 : t_OP 89 59 = some (.iload_n 3, 0, 0, 0, 0, .null) := by decide +kernel
theorem o_89_60 : t_OP 89 60 = some (.ishl, 0, 0, 0, 0, .null) := by decide +kernel
theorem o_89_61 : t_OP 89 61 = some (.iconst (1), 0, 0, 0, 1, .null) := by decide +kernel
theorem o_89_62 : t_OP 89 62 = some (.isub, 0, 0, 0, 0, .null) := by decide +kernel
theorem o_89_63 : t_OP 89 63 = some (.ireturn, 0, 0, 0, 0, .null) := by decide +kernel
theorem o_89_64 : t_OP 89 64 = some (.iload 4, 0, 0, 0, 0, .null) := by decide +kernel
theorem o_89_66 : t_OP 89 66 = some (.ifCond .le (18), 84, 0, 0, 0, .null) := by decide +kernel
theorem o_89_69 : t_OP 89 69 = some (.iload_n 2, 0, 0, 0, 0, .null) := by decide +kernel
theorem o_89_70 : t_OP 89 70 = some (.iload 4, 0, 0, 0, 0, .null) := by decide +kernel
theorem o_89_72 : t_OP 89 72 = some (.iushr, 0, 0, 0, 0, .null) := by decide +kernel
theorem o_89_73 : t_OP 89 73 = some (.iconst (1), 0, 0, 0, 1, .null) := by decide +kernel
theorem o_89_74 : t_OP 89 74 = some (.iand, 0, 0, 0, 0, .null) := by decide +kernel
theorem o_89_75 : t_OP 89 75 = some (.ifCond .ne (9), 84, 0, 0, 0, .null) := by decide +kernel
theorem o_89_78 : t_OP 89 78 = some (.iinc 4 (-1), 0, 0, 0, (-1), .null) := by decide +kernel
theorem o_89_81 : t_OP 89 81 = some (.goto (-17), 64, 0, 0, 0, .null) := by decide +kernel
theorem o_89_84 : t_OP 89 84 = some (.iload_n 2, 0, 0, 0, 0, .null) := by decide +kernel
theorem o_89_85 : t_OP 89 85 = some (.iconst (1), 0, 0, 0, 1, .null) := by decide +kernel
theorem o_89_86 : t_OP 89 86 = some (.iload 4, 0, 0, 0, 0, .null) := by decide +kernel
theorem o_89_88 : t_OP 89 88 = some (.ishl, 0, 0, 0, 0, .null) := by decide +kernel
theorem o_89_89 : t_OP 89 89 = some (.ixor, 0, 0, 0, 0, .null) := by decide +kernel
theorem o_89_90 : t_OP 89 90 = some (.iconst (1), 0, 0, 0, 1, .null) := by decide +kernel
theorem o_89_91 : t_OP 89 91 = some (.iload_n 3, 0, 0, 0, 0, .null) := by decide +kernel
theorem o_89_92 : t_OP 89 92 = some (.ishl, 0, 0, 0, 0, .null) := by decide +kernel
theorem o_89_93 : t_OP 89 93 = some (.iconst (1), 0, 0, 0, 1, .null) := by decide +kernel
theorem o_89_94 : t_OP 89 94 = some (.isub, 0, 0, 0, 0, .null) := by decide +kernel
theorem o_89_95 : t_OP 89 95 = some (.iload 4, 0, 0, 0, 0, .null) := by decide +kernel
theorem o_89_97 : t_OP 89 97 = some (.iconst (1), 0, 0, 0, 1, .null) := by decide +kernel
theorem o_89_98 : t_OP 89 98 = some (.iadd, 0, 0, 0, 0, .null) := by decide +kernel
theorem o_89_99 : t_OP 89 99 = some (.ishl, 0, 0, 0, 0, .null) := by decide +kernel
theorem o_89_100 : t_OP 89 100 = some (.ior, 0, 0, 0, 0, .null) := by decide +kernel
theorem o_89_101 : t_OP 89 101 = some (.ireturn, 0, 0, 0, 0, .null) := by decide +kernel
theorem o_90_0 : t_OP 90 0 = some (.iconst (0), 0, 0, 0, 0, .null) := by decide +kernel
theorem o_90_1 : t_OP 90 1 = some (.istore_n 1, 0, 0, 0, 0, .null) := by decide +kernel
theorem o_90_2 : t_OP 90 2 = some (.iload_n 1, 0, 0, 0, 0, .null) := by decide +kernel
theorem o_90_3 : t_OP 90 3 = some (.aload_n 0, 0, 0, 0, 0, .null) := by decide +kernel
theorem o_90_4 : t_OP 90 4 = some (.getfield 19, 5, 1, 0, 0, .null) := by decide +kernel
theorem o_90_7 : t_OP 90 7 = some (.if_icmp .ge (31), 38, 0, 0, 0, .null) := by decide +kernel
theorem o_90_10 : t_OP 90 10 = some (.aload_n 0, 0, 0, 0, 0, .null) := by decide +kernel
theorem o_90_11 : t_OP 90 11 = some (.getfield 15, 5, 3, 0, 0, .null) := by decide +kernel
theorem o_90_14 : t_OP 90 14 = some (.aload_n 0, 0, 0, 0, 0, .null) := by decide +kernel
theorem o_90_15 : t_OP 90 15 = some (.getfield 11, 5, 0, 0, 0, .null) := by decide +kernel
theorem o_90_18 : t_OP 90 18 = some (.iload_n 1, 0, 0, 0, 0, .null) := by decide +kernel
theorem o_90_19 : t_OP 90 19 = some (.iaload, 0, 0, 0, 0, .null) := by decide +kernel
theorem o_90_20 : t_OP 90 20 = some (.iand, 0, 0, 0, 0, .null) := by decide +kernel
theorem o_90_21 : t_OP 90 21 = some (.aload_n 0, 0, 0, 0, 0, .null) := by decide +kernel
theorem o_90_22 : t_OP 90 22 = some (.getfield 11, 5, 0, 0, 0, .null) := by decide +kernel
theorem o_90_25 : t_OP 90 25 = some (.iload_n 1, 0, 0, 0, 0, .null) := by decide +kernel
theorem o_90_26 : t_OP 90 26 = some (.iaload, 0, 0, 0, 0, .null) := by decide +kernel
theorem o_90_27 : t_OP 90 27 = some (.if_icmp .ne (5), 32, 0, 0, 0, .null) := by decide +kernel
theorem o_90_30 : t_OP 90 30 = some (.iconst (1), 0, 0, 0, 1, .null) := by decide +kernel
theorem o_90_31 : t_OP 90 31 = some (.ireturn, 0, 0, 0, 0, .null) := by decide +kernel
theorem o_90_32 : t_OP 90 32 = some (.iinc 1 (1), 0, 0, 0, 1, .null) := by decide +kernel
theorem o_90_35 : t_OP 90 35 = some (.goto (-33), 2, 0, 0, 0, .null) := by decide +kernel
theorem o_90_38 : t_OP 90 38 = some (.iconst (0), 0, 0, 0, 0, .null) := by decide +kernel
theorem o_90_39 : t_OP 90 39 = some (.ireturn, 0, 0, 0, 0, .null) := by decide +kernel
theorem o_91_0 : t_OP 91 0 = some (.iload_n 1, 0, 0, 0, 0, .null) := by decide +kernel
theorem o_91_1 : t_OP 91 1 = some (.ifCond .lt (14), 15, 0, 0, 0, .null) := by decide +kernel
theorem o_91_4 : t_OP 91 4 = some (.iload_n 1, 0, 0, 0, 0, .null) := by decide +kernel
theorem o_91_5 : t_OP 91 5 = some (.aload_n 0, 0, 0, 0, 0, .null) := by decide +kernel
theorem o_91_6 : t_OP 91 6 = some (.getfield 36, 6, 4, 0, 0, .null) := by decide +kernel
theorem o_91_9 : t_OP 91 9 = some (.getfield 179, 5, 1, 0, 0, .null) := by decide +kernel
theorem o_91_12 : t_OP 91 12 = some (.if_icmp .lt (13), 25, 0, 0, 0, .null) := by decide +kernel
theorem o_91_15 : t_OP 91 15 = some (.new 97, 102, 0, 0, 0, .null) := by decide +kernel
theorem o_91_25 : t_OP 91 25 = some (.aload_n 0, 0, 0, 0, 0, .null) := by decide +kernel
theorem o_91_26 : t_OP 91 26 = some (.getfield 36, 6, 4, 0, 0, .null) := by decide +kernel
theorem o_91_29 : t_OP 91 29 = some (.getfield 184, 5, 0, 0, 0, .null) := by decide +kernel
theorem o_91_32 : t_OP 91 32 = some (.iload_n 1, 0, 0, 0, 0, .null) := by decide +kernel
theorem o_91_33 : t_OP 91 33 = some (.iaload, 0, 0, 0, 0, .null) := by decide +kernel
theorem o_91_34 : t_OP 91 34 = some (.ireturn, 0, 0, 0, 0, .null) := by decide +kernel
theorem o_92_0 : t_OP 92 0 = some (.aload_n 0, 0, 0, 0, 0, .null) := by decide +kernel
theorem o_92_1 : t_OP 92 1 = some (.getfield 25, 6, 2, 0, 0, .null) := by decide +kernel
theorem o_92_4 : t_OP 92 4 = some (.invokevirtual 163, 60, 0, 0, 0, .null) := by decide +kernel
theorem o_92_7 : t_OP 92 7 = some (.ifCond .ne (15), 22, 0, 0, 0, .null) := by decide +kernel
theorem o_92_10 : t_OP 92 10 = some (.iload_n 1, 0, 0, 0, 0, .null) := by decide +kernel
theorem o_92_11 : t_OP 92 11 = some (.aload_n 0, 0, 0, 0, 0, .null) := by decide +kernel
theorem o_92_12 : t_OP 92 12 = some (.getfield 25, 6, 2, 0, 0, .null) := by decide +kernel
theorem o_92_15 : t_OP 92 15 = some (.invokevirtual 159, 84, 0, 0, 0, .null) := by decide +kernel
theorem o_92_18 : t_OP 92 18 = some (.iushr, 0, 0, 0, 0, .null) := by decide +kernel
theorem o_92_19 : t_OP 92 19 = some (.ifCond .eq (13), 32, 0, 0, 0, .null) := by decide +kernel
theorem o_92_22 : t_OP 92 22 = some (.new 64, 101, 0, 0, 0, .null) := by decide +kernel
theorem o_92_32 : t_OP 92 32 = some (.iload_n 1, 0, 0, 0, 0, .null) := by decide +kernel
theorem o_92_33 : t_OP 92 33 = some (.invokestatic 189, 93, 2, 1, 0, .null) := by decide +kernel
theorem o_92_36 : t_OP 92 36 = some (.istore_n 2, 0, 0, 0, 0, .null) := by decide +kernel
theorem o_92_37 : t_OP 92 37 = some (.aload_n 0, 0, 0, 0, 0, .null) := by decide +kernel
theorem o_92_38 : t_OP 92 38 = some (.getfield 25, 6, 2, 0, 0, .null) := by decide +kernel
theorem o_92_41 : t_OP 92 41 = some (.getfield 94, 0, 1, 0, 0, .null) := by decide +kernel
theorem o_92_44 : t_OP 92 44 = some (.iload_n 2, 0, 0, 0, 0, .null) := by decide +kernel
theorem o_92_45 : t_OP 92 45 = some (.iadd, 0, 0, 0, 0, .null) := by decide +kernel
theorem o_92_46 : t_OP 92 46 = some (.bipush (24), 0, 0, 0, 24, .null) := by decide +kernel
theorem o_92_48 : t_OP 92 48 = some (.if_icmp .le (13), 61, 0, 0, 0, .null) := by decide +kernel
theorem o_92_51 : t_OP 92 51 = some (.new 53, 100, 0, 0, 0, .null) := by decide +kernel
theorem o_92_61 : t_OP 92 61 = some (.aload_n 0, 0, 0, 0, 0, .null) := by decide +kernel
theorem o_92_62 : t_OP 92 62 = some (.getfield 25, 6, 2, 0, 0, .null) := by decide +kernel
theorem o_92_65 : t_OP 92 65 = some (.iload_n 1, 0, 0, 0, 0, .null) := by decide +kernel
theorem o_92_66 : t_OP 92 66 = some (.invokevirtual 197, 94, 0, 1, 0, .null) := by decide +kernel
theorem o_92_69 : t_OP 92 69 = some (.aload_n 0, 0, 0, 0, 0, .null) := by decide +kernel
theorem o_92_70 : t_OP 92 70 = some (.getfield 36, 6, 4, 0, 0, .null) := by decide +kernel
theorem o_92_73 : t_OP 92 73 = some (.invokevirtual 200, 96, 0, 0, 0, .null) := by decide +kernel
theorem o_92_76 : t_OP 92 76 = some (.iload_n 2, 0, 0, 0, 0, .null) := by decide +kernel
theorem o_92_77 : t_OP 92 77 = some (.ireturn, 0, 0, 0, 0, .null) := by decide +kernel
theorem o_93_0 : t_OP 93 0 = some (.iload_n 0, 0, 0, 0, 0, .null) := by decide +kernel
theorem o_93_1 : t_OP 93 1 = some (.iload_n 0, 0, 0, 0, 0, .null) := by decide +kernel
theorem o_93_2 : t_OP 93 2 = some (.iconst (1), 0, 0, 0, 1, .null) := by decide +kernel
theorem o_93_3 : t_OP 93 3 = some (.iushr, 0, 0, 0, 0, .null) := by decide +kernel
theorem o_93_4 : t_OP 93 4 = some (.ldc_w 265, 0, 0, 0, 0, .int (1431655765)) := by decide +kernel
theorem o_93_7 : t_OP 93 7 = some (.iand, 0, 0, 0, 0, .null) := by decide +kernel
theorem o_93_8 : t_OP 93 8 = some (.isub, 0, 0, 0, 0, .null) := by decide +kernel
theorem o_93_9 : t_OP 93 9 = some (.istore_n 0, 0, 0, 0, 0, .null) := by decide +kernel
theorem o_93_10 : t_OP 93 10 = some (.iload_n 0, 0, 0, 0, 0, .null) := by decide +kernel
theorem o_93_11 : t_OP 93 11 = some (.ldc_w 266, 0, 0, 0, 0, .int (858993459)) := by decide +kernel
theorem o_93_14 : t_OP 93 14 = some (.iand, 0, 0, 0, 0, .null) := by decide +kernel
theorem o_93_15 : t_OP 93 15 = some (.iload_n 0, 0, 0, 0, 0, .null) := by decide +kernel
theorem o_93_16 : t_OP 93 16 = some (.iconst (2), 0, 0, 0, 2, .null) := by decide +kernel
theorem o_93_17 : t_OP 93 17 = some (.iushr, 0, 0, 0, 0, .null) := by decide +kernel
theorem o_93_18 : t_OP 93 18 = some (.ldc_w 266, 0, 0, 0, 0, .int (858993459)) := by decide +kernel
theorem o_93_21 : t_OP 93 21 = some (.iand, 0, 0, 0, 0, .null) := by decide +kernel
theorem o_93_22 : t_OP 93 22 = some (.iadd, 0, 0, 0, 0, .null) := by decide +kernel
theorem o_93_23 : t_OP 93 23 = some (.istore_n 0, 0, 0, 0, 0, .null) := by decide +kernel
theorem o_93_24 : t_OP 93 24 = some (.iload_n 0, 0, 0, 0, 0, .null) := by decide +kernel
theorem o_93_25 : t_OP 93 25 = some (.iload_n 0, 0, 0, 0, 0, .null) := by decide +kernel
theorem o_93_26 : t_OP 93 26 = some (.iconst (4), 0, 0, 0, 4, .null) := by decide +kernel
theorem o_93_27 : t_OP 93 27 = some (.iushr, 0, 0, 0, 0, .null) := by decide +kernel
theorem o_93_28 : t_OP 93 28 = some (.iadd, 0, 0, 0, 0, .null) := by decide +kernel
theorem o_93_29 : t_OP 93 29 = some (.ldc_w 267, 0, 0, 0, 0, .int (252645135)) := by decide +kernel
theorem o_93_32 : t_OP 93 32 = some (.iand, 0, 0, 0, 0, .null) := by decide +kernel
theorem o_93_33 : t_OP 93 33 = some (.istore_n 0, 0, 0, 0, 0, .null) := by decide +kernel
theorem o_93_34 : t_OP 93 34 = some (.iload_n 0, 0, 0, 0, 0, .null) := by decide +kernel
theorem o_93_35 : t_OP 93 35 = some (.iload_n 0, 0, 0, 0, 0, .null) := by decide +kernel
theorem o_93_36 : t_OP 93 36 = some (.bipush (8), 0, 0, 0, 8, .null) := by decide +kernel
theorem o_93_38 : t_OP 93 38 = some (.iushr, 0, 0, 0, 0, .null) := by decide +kernel
theorem o_93_39 : t_OP 93 39 = some (.iadd, 0, 0, 0, 0, .null) := by decide +kernel
theorem o_93_40 : t_OP 93 40 = some (.istore_n 0, 0, 0, 0, 0, .null) := by decide +kernel
theorem o_93_41 : t_OP 93 41 = some (.iload_n 0, 0, 0, 0, 0, .null) := by decide +kernel
theorem o_93_42 : t_OP 93 42 = some (.iload_n 0, 0, 0, 0, 0, .null) := by decide +kernel
theorem o_93_43 : t_OP 93 43 = some (.bipush (16), 0, 0, 0, 16, .null) := by decide +kernel
theorem o_93_45 : t_OP 93 45 = some (.iushr, 0, 0, 0, 0, .null) := by decide +kernel
theorem o_93_46 : t_OP 93 46 = some (.iadd, 0, 0, 0, 0, .null) := by decide +kernel
theorem o_93_47 : t_OP 93 47 = some (.istore_n 0, 0, 0, 0, 0, .null) := by decide +kernel
theorem o_93_48 : t_OP 93 48 = some (.iload_n 0, 0, 0, 0, 0, .null) := by decide +kernel
theorem o_93_49 : t_OP 93 49 = some (.bipush (63), 0, 0, 0, 63, .null) := by decide +kernel
theorem o_93_51 : t_OP 93 51 = some (.iand, 0, 0, 0, 0, .null) := by decide +kernel
theorem o_93_52 : t_OP 93 52 = some (.ireturn, 0, 0, 0, 0, .null) := by decide +kernel
theorem o_94_0 : t_OP 94 0 = some (.aload_n 0, 0, 0, 0, 0, .null) := by decide +kernel
theorem o_94_1 : t_OP 94 1 = some (.invokevirtual 54, 84, 0, 0, 0, .null) := by decide +kernel
theorem o_94_4 : t_OP 94 4 = some (.istore_n 2, 0, 0, 0, 0, .null) := by decide +kernel
theorem o_94_5 : t_OP 94 5 = some (.aload_n 0, 0, 0, 0, 0, .null) := by decide +kernel
theorem o_94_6 : t_OP 94 6 = some (.getfield 37, 0, 1, 0, 0, .null) := by decide +kernel
theorem o_94_9 : t_OP 94 9 = some (.iconst (2), 0, 0, 0, 2, .null) := by decide +kernel
theorem o_94_10 : t_OP 94 10 = some (.isub, 0, 0, 0, 0, .null) := by decide +kernel
theorem o_94_11 : t_OP 94 11 = some (.istore_n 3, 0, 0, 0, 0, .null) := by decide +kernel
theorem o_94_12 : t_OP 94 12 = some (.iload_n 3, 0, 0, 0, 0, .null) := by decide +kernel
theorem o_94_13 : t_OP 94 13 = some (.ifCond .lt (33), 46, 0, 0, 0, .null) := by decide +kernel
theorem o_94_16 : t_OP 94 16 = some (.aload_n 0, 0, 0, 0, 0, .null) := by decide +kernel
theorem o_94_17 : t_OP 94 17 = some (.iload_n 3, 0, 0, 0, 0, .null) := by decide +kernel
theorem o_94_18 : t_OP 94 18 = some (.invokevirtual 50, 85, 0, 1, 0, .null) := by decide +kernel
theorem o_94_21 : t_OP 94 21 = some (.ifCond .eq (19), 40, 0, 0, 0, .null) := by decide +kernel
theorem o_94_24 : t_OP 94 24 = some (.iinc 2 (-1), 0, 0, 0, (-1), .null) := by decide +kernel
theorem o_94_27 : t_OP 94 27 = some (.iload_n 1, 0, 0, 0, 0, .null) := by decide +kernel
theorem o_94_28 : t_OP 94 28 = some (.iload_n 2, 0, 0, 0, 0, .null) := by decide +kernel
theorem o_94_29 : t_OP 94 29 = some (.iushr, 0, 0, 0, 0, .null) := by decide +kernel
theorem o_94_30 : t_OP 94 30 = some (.iconst (1), 0, 0, 0, 1, .null) := by decide +kernel
theorem o_94_31 : t_OP 94 31 = some (.iand, 0, 0, 0, 0, .null) := by decide +kernel
theorem o_94_32 : t_OP 94 32 = some (.ifCond .eq (8), 40, 0, 0, 0, .null) := by decide +kernel
theorem o_94_35 : t_OP 94 35 = some (.aload_n 0, 0, 0, 0, 0, .null) := by decide +kernel
theorem o_94_36 : t_OP 94 36 = some (.iload_n 3, 0, 0, 0, 0, .null) := by decide +kernel
theorem o_94_37 : t_OP 94 37 = some (.invokevirtual 58, 95, 0, 1, 0, .null) := by decide +kernel
theorem o_94_40 : t_OP 94 40 = some (.iinc 3 (-1), 0, 0, 0, (-1), .null) := by decide +kernel
theorem o_94_43 : t_OP 94 43 = some (.goto (-31), 12, 0, 0, 0, .null) := by decide +kernel
theorem o_94_46 : t_OP 94 46 = some (.return_, 0, 0, 0, 0, .null) := by decide +kernel
theorem o_95_0 : t_OP 95 0 = some (.iload_n 1, 0, 0, 0, 0, .null) := by decide +kernel
theorem o_95_1 : t_OP 95 1 = some (.ifCond .lt (20), 21, 0, 0, 0, .null) := by decide +kernel
theorem o_95_4 : t_OP 95 4 = some (.iload_n 1, 0, 0, 0, 0, .null) := by decide +kernel
theorem o_95_5 : t_OP 95 5 = some (.aload_n 0, 0, 0, 0, 0, .null) := by decide +kernel
theorem o_95_6 : t_OP 95 6 = some (.getfield 37, 0, 1, 0, 0, .null) := by decide +kernel
theorem o_95_9 : t_OP 95 9 = some (.if_icmp .ge (12), 21, 0, 0, 0, .null) := by decide +kernel
theorem o_95_12 : t_OP 95 12 = some (.aload_n 0, 0, 0, 0, 0, .null) := by decide +kernel
theorem o_95_13 : t_OP 95 13 = some (.getfield 37, 0, 1, 0, 0, .null) := by decide +kernel
theorem o_95_16 : t_OP 95 16 = some (.bipush (24), 0, 0, 0, 24, .null) := by decide +kernel
theorem o_95_18 : t_OP 95 18 = some (.if_icmp .lt (4), 22, 0, 0, 0, .null) := by decide +kernel
theorem o_95_21 : t_OP 95 21 = some (.return_, 0, 0, 0, 0, .null) := by decide +kernel
theorem o_95_22 : t_OP 95 22 = some (.aload_n 0, 0, 0, 0, 0, .null) := by decide +kernel
theorem o_95_23 : t_OP 95 23 = some (.getfield 37, 0, 1, 0, 0, .null) := by decide +kernel
theorem o_95_26 : t_OP 95 26 = some (.istore_n 2, 0, 0, 0, 0, .null) := by decide +kernel
theorem o_95_27 : t_OP 95 27 = some (.iload_n 2, 0, 0, 0, 0, .null) := by decide +kernel
theorem o_95_28 : t_OP 95 28 = some (.iload_n 1, 0, 0, 0, 0, .null) := by decide +kernel
theorem o_95_29 : t_OP 95 29 = some (.iconst (1), 0, 0, 0, 1, .null) := by decide +kernel
theorem o_95_30 : t_OP 95 30 = some (.iadd, 0, 0, 0, 0, .null) := by decide +kernel
theorem o_95_31 : t_OP 95 31 = some (.if_icmp .le (46), 77, 0, 0, 0, .null) := by decide +kernel
theorem o_95_34 : t_OP 95 34 = some (.aload_n 0, 0, 0, 0, 0, .null) := by decide +kernel
theorem o_95_35 : t_OP 95 35 = some (.iload_n 2, 0, 0, 0, 0, .null) := by decide +kernel
theorem o_95_36 : t_OP 95 36 = some (.aload_n 0, 0, 0, 0, 0, .null) := by decide +kernel
theorem o_95_37 : t_OP 95 37 = some (.getfield 9, 0, 4, 0, 0, .null) := by decide +kernel
theorem o_95_40 : t_OP 95 40 = some (.iload_n 2, 0, 0, 0, 0, .null) := by decide +kernel
theorem o_95_41 : t_OP 95 41 = some (.iconst (1), 0, 0, 0, 1, .null) := by decide +kernel
theorem o_95_42 : t_OP 95 42 = some (.isub, 0, 0, 0, 0, .null) := by decide +kernel
theorem o_95_43 : t_OP 95 43 = some (.iaload, 0, 0, 0, 0, .null) := by decide +kernel
theorem o_95_44 : t_OP 95 44 = some (.aload_n 0, 0, 0, 0, 0, .null) := by decide +kernel
theorem o_95_45 : t_OP 95 45 = some (.getfield 15, 0, 5, 0, 0, .null) := by decide +kernel
theorem o_95_48 : t_OP 95 48 = some (.iload_n 2, 0, 0, 0, 0, .null) := by decide +kernel
theorem o_95_49 : t_OP 95 49 = some (.iconst (1), 0, 0, 0, 1, .null) := by decide +kernel
theorem o_95_50 : t_OP 95 50 = some (.isub, 0, 0, 0, 0, .null) := by decide +kernel
theorem o_95_51 : t_OP 95 51 = some (.iaload, 0, 0, 0, 0, .null) := by decide +kernel
theorem o_95_52 : t_OP 95 52 = some (.aload_n 0, 0, 0, 0, 0, .null) := by decide +kernel
theorem o_95_53 : t_OP 95 53 = some (.getfield 18, 0, 6, 0, 0, .null) := by decide +kernel
theorem o_95_56 : t_OP 95 56 = some (.iload_n 2, 0, 0, 0, 0, .null) := by decide +kernel
theorem o_95_57 : t_OP 95 57 = some (.iconst (1), 0, 0, 0, 1, .null) := by decide +kernel
theorem o_95_58 : t_OP 95 58 = some (.isub, 0, 0, 0, 0, .null) := by decide +kernel
theorem o_95_59 : t_OP 95 59 = some (.iaload, 0, 0, 0, 0, .null) := by decide +kernel
theorem o_95_60 : t_OP 95 60 = some (.aload_n 0, 0, 0, 0, 0, .null) := by decide +kernel
theorem o_95_61 : t_OP 95 61 = some (.getfield 21, 0, 7, 0, 0, .null) := by decide +kernel
theorem o_95_64 : t_OP 95 64 = some (.iload_n 2, 0, 0, 0, 0, .null) := by decide +kernel
theorem o_95_65 : t_OP 95 65 = some (.iconst (1), 0, 0, 0, 1, .null) := by decide +kernel
theorem o_95_66 : t_OP 95 66 = some (.isub, 0, 0, 0, 0, .null) := by decide +kernel
theorem o_95_67 : t_OP 95 67 = some (.iaload, 0, 0, 0, 0, .null) := by decide +kernel
theorem o_95_68 : t_OP 95 68 = some (.invokevirtual 46, 57, 0, 5, 0, .null) := by decide +kernel
theorem o_95_71 : t_OP 95 71 = some (.iinc 2 (-1), 0, 0, 0, (-1), .null) := by decide +kernel
theorem o_95_74 : t_OP 95 74 = some (.goto (-47), 27, 0, 0, 0, .null) := by decide +kernel
theorem o_95_77 : t_OP 95 77 = some (.aload_n 0, 0, 0, 0, 0, .null) := by decide +kernel
theorem o_95_78 : t_OP 95 78 = some (.iload_n 1, 0, 0, 0, 0, .null) := by decide +kernel
theorem o_95_79 : t_OP 95 79 = some (.iconst (1), 0, 0, 0, 1, .null) := by decide +kernel
theorem o_95_80 : t_OP 95 80 = some (.iadd, 0, 0, 0, 0, .null) := by decide +kernel
theorem o_95_81 : t_OP 95 81 = some (.aload_n 0, 0, 0, 0, 0, .null) := by decide +kernel
theorem o_95_82 : t_OP 95 82 = some (.getfield 9, 0, 4, 0, 0, .null) := by decide +kernel
theorem o_95_85 : t_OP 95 85 = some (.iload_n 1, 0, 0, 0, 0, .null) := by decide +kernel
theorem o_95_86 : t_OP 95 86 = some (.iaload, 0, 0, 0, 0, .null) := by decide +kernel
theorem o_95_87 : t_OP 95 87 = some (.iconst (2), 0, 0, 0, 2, .null) := by decide +kernel
theorem o_95_88 : t_OP 95 88 = some (.iconst (-1), 0, 0, 0, (-1), .null) := by decide +kernel
theorem o_95_89 : t_OP 95 89 = some (.iconst (-1), 0, 0, 0, (-1), .null) := by decide +kernel
theorem o_95_90 : t_OP 95 90 = some (.invokevirtual 46, 57, 0, 5, 0, .null) := by decide +kernel
theorem o_95_93 : t_OP 95 93 = some (.aload_n 0, 0, 0, 0, 0, .null) := by decide +kernel
theorem o_95_94 : t_OP 95 94 = some (.dup, 0, 0, 0, 0, .null) := by decide +kernel
theorem o_95_95 : t_OP 95 95 = some (.getfield 37, 0, 1, 0, 0, .null) := by decide +kernel
theorem o_95_98 : t_OP 95 98 = some (.iconst (1), 0, 0, 0, 1, .null) := by decide +kernel
theorem o_95_99 : t_OP 95 99 = some (.iadd, 0, 0, 0, 0, .null) := by decide +kernel
theorem o_95_100 : t_OP 95 100 = some (.putfield 37, 0, 1, 0, 0, .null) := by decide +kernel
theorem o_95_103 : t_OP 95 103 = some (.return_, 0, 0, 0, 0, .null) := by decide +kernel
theorem o_96_0 : t_OP 96 0 = some (.aload_n 0, 0, 0, 0, 0, .null) := by decide +kernel
theorem o_96_1 : t_OP 96 1 = some (.iconst (-1), 0, 0, 0, (-1), .null) := by decide +kernel
theorem o_96_2 : t_OP 96 2 = some (.putfield 15, 5, 3, 0, 0, .null) := by decide +kernel
theorem o_96_5 : t_OP 96 5 = some (.return_, 0, 0, 0, 0, .null) := by decide +kernel
theorem o_97_0 : t_OP 97 0 = some (.aload_n 0, 0, 0, 0, 0, .null) := by decide +kernel
theorem o_97_1 : t_OP 97 1 = some (.getfield 25, 6, 2, 0, 0, .null) := by decide +kernel
theorem o_97_4 : t_OP 97 4 = some (.invokevirtual 163, 60, 0, 0, 0, .null) := by decide +kernel
theorem o_97_7 : t_OP 97 7 = some (.ifCond .eq (13), 20, 0, 0, 0, .null) := by decide +kernel
theorem o_97_10 : t_OP 97 10 = some (.new 53, 100, 0, 0, 0, .null) := by decide +kernel
theorem o_97_20 : t_OP 97 20 = some (.aload_n 0, 0, 0, 0, 0, .null) := by decide +kernel
theorem o_97_21 : t_OP 97 21 = some (.getfield 43, 6, 5, 0, 0, .null) := by decide +kernel
theorem o_97_24 : t_OP 97 24 = some (.aload_n 0, 0, 0, 0, 0, .null) := by decide +kernel
theorem o_97_25 : t_OP 97 25 = some (.getfield 25, 6, 2, 0, 0, .null) := by decide +kernel
theorem o_97_28 : t_OP 97 28 = some (.invokevirtual 205, 98, 0, 1, 0, .null) := by decide +kernel
theorem o_97_31 : t_OP 97 31 = some (.aload_n 0, 0, 0, 0, 0, .null) := by decide +kernel
theorem o_97_32 : t_OP 97 32 = some (.getfield 43, 6, 5, 0, 0, .null) := by decide +kernel
theorem o_97_35 : t_OP 97 35 = some (.getfield 208, 3, 1, 0, 0, .null) := by decide +kernel
theorem o_97_38 : t_OP 97 38 = some (.ireturn, 0, 0, 0, 0, .null) := by decide +kernel
theorem o_98_0 : t_OP 98 0 = some (.aload_n 0, 0, 0, 0, 0, .null) := by decide +kernel
theorem o_98_1 : t_OP 98 1 = some (.iconst (0), 0, 0, 0, 0, .null) := by decide +kernel
theorem o_98_2 : t_OP 98 2 = some (.putfield 15, 3, 1, 0, 0, .null) := by decide +kernel
theorem o_98_5 : t_OP 98 5 = some (.iconst (0), 0, 0, 0, 0, .null) := by decide +kernel
theorem o_98_6 : t_OP 98 6 = some (.istore_n 2, 0, 0, 0, 0, .null) := by decide +kernel
theorem o_98_7 : t_OP 98 7 = some (.iconst (0), 0, 0, 0, 0, .null) := by decide +kernel
theorem o_98_8 : t_OP 98 8 = some (.istore_n 3, 0, 0, 0, 0, .null) := by decide +kernel
theorem o_98_9 : t_OP 98 9 = some (.iload_n 3, 0, 0, 0, 0, .null) := by decide +kernel
theorem o_98_10 : t_OP 98 10 = some (.aload_n 1, 0, 0, 0, 0, .null) := by decide +kernel
theorem o_98_11 : t_OP 98 11 = some (.getfield 19, 0, 0, 0, 0, .null) := by decide +kernel
theorem o_98_14 : t_OP 98 14 = some (.if_icmp .ge (74), 88, 0, 0, 0, .null) := by decide +kernel
theorem o_98_17 : t_OP 98 17 = some (.aload_n 0, 0, 0, 0, 0, .null) := by decide +kernel
theorem o_98_18 : t_OP 98 18 = some (.bipush (116), 0, 0, 0, 116, .null) := by decide +kernel
theorem o_98_20 : t_OP 98 20 = some (.iload_n 3, 0, 0, 0, 0, .null) := by decide +kernel
theorem o_98_21 : t_OP 98 21 = some (.invokevirtual 24, 99, 0, 2, 0, .null) := by decide +kernel
theorem o_98_24 : t_OP 98 24 = some (.aload_n 0, 0, 0, 0, 0, .null) := by decide +kernel
theorem o_98_25 : t_OP 98 25 = some (.bipush (58), 0, 0, 0, 58, .null) := by decide +kernel
theorem o_98_27 : t_OP 98 27 = some (.invokevirtual 28, 100, 0, 1, 0, .null) := by decide +kernel
theorem o_98_30 : t_OP 98 30 = some (.iload_n 2, 0, 0, 0, 0, .null) := by decide +kernel
theorem o_98_31 : t_OP 98 31 = some (.aload_n 1, 0, 0, 0, 0, .null) := by decide +kernel
theorem o_98_32 : t_OP 98 32 = some (.getfield 32, 0, 1, 0, 0, .null) := by decide +kernel
theorem o_98_35 : t_OP 98 35 = some (.if_icmp .ge (41), 76, 0, 0, 0, .null) := by decide +kernel
theorem o_98_38 : t_OP 98 38 = some (.aload_n 1, 0, 0, 0, 0, .null) := by decide +kernel
theorem o_98_39 : t_OP 98 39 = some (.getfield 35, 0, 4, 0, 0, .null) := by decide +kernel
theorem o_98_42 : t_OP 98 42 = some (.iload_n 2, 0, 0, 0, 0, .null) := by decide +kernel
theorem o_98_43 : t_OP 98 43 = some (.iaload, 0, 0, 0, 0, .null) := by decide +kernel
theorem o_98_44 : t_OP 98 44 = some (.iload_n 3, 0, 0, 0, 0, .null) := by decide +kernel
theorem o_98_45 : t_OP 98 45 = some (.if_icmp .ne (31), 76, 0, 0, 0, .null) := by decide +kernel
theorem o_98_48 : t_OP 98 48 = some (.aload_n 0, 0, 0, 0, 0, .null) := by decide +kernel
theorem o_98_49 : t_OP 98 49 = some (.aload_n 1, 0, 0, 0, 0, .null) := by decide +kernel
theorem o_98_50 : t_OP 98 50 = some (.getfield 39, 0, 5, 0, 0, .null) := by decide +kernel
theorem o_98_53 : t_OP 98 53 = some (.iload_n 2, 0, 0, 0, 0, .null) := by decide +kernel
theorem o_98_54 : t_OP 98 54 = some (.iaload, 0, 0, 0, 0, .null) := by decide +kernel
theorem o_98_55 : t_OP 98 55 = some (.aload_n 1, 0, 0, 0, 0, .null) := by decide +kernel
theorem o_98_56 : t_OP 98 56 = some (.getfield 42, 0, 6, 0, 0, .null) := by decide +kernel
theorem o_98_59 : t_OP 98 59 = some (.iload_n 2, 0, 0, 0, 0, .null) := by decide +kernel
theorem o_98_60 : t_OP 98 60 = some (.iaload, 0, 0, 0, 0, .null) := by decide +kernel
theorem o_98_61 : t_OP 98 61 = some (.aload_n 1, 0, 0, 0, 0, .null) := by decide +kernel
theorem o_98_62 : t_OP 98 62 = some (.getfield 45, 0, 7, 0, 0, .null) := by decide +kernel
theorem o_98_65 : t_OP 98 65 = some (.iload_n 2, 0, 0, 0, 0, .null) := by decide +kernel
theorem o_98_66 : t_OP 98 66 = some (.iaload, 0, 0, 0, 0, .null) := by decide +kernel
theorem o_98_67 : t_OP 98 67 = some (.invokevirtual 48, 101, 0, 3, 0, .null) := by decide +kernel
theorem o_98_70 : t_OP 98 70 = some (.iinc 2 (1), 0, 0, 0, 1, .null) := by decide +kernel
theorem o_98_73 : t_OP 98 73 = some (.goto (-43), 30, 0, 0, 0, .null) := by decide +kernel
theorem o_98_76 : t_OP 98 76 = some (.aload_n 0, 0, 0, 0, 0, .null) := by decide +kernel
theorem o_98_77 : t_OP 98 77 = some (.bipush (10), 0, 0, 0, 10, .null) := by decide +kernel
theorem o_98_79 : t_OP 98 79 = some (.invokevirtual 28, 100, 0, 1, 0, .null) := by decide +kernel
theorem o_98_82 : t_OP 98 82 = some (.iinc 3 (1), 0, 0, 0, 1, .null) := by decide +kernel
theorem o_98_85 : t_OP 98 85 = some (.goto (-76), 9, 0, 0, 0, .null) := by decide +kernel
theorem o_98_88 : t_OP 98 88 = some (.aload_n 1, 0, 0, 0, 0, .null) := by decide +kernel
theorem o_98_89 : t_OP 98 89 = some (.getfield 52, 0, 3, 0, 0, .null) := by decide +kernel
theorem o_98_92 : t_OP 98 92 = some (.ifCond .eq (8), 100, 0, 0, 0, .null) := by decide +kernel
theorem o_98_95 : t_OP 98 95 = some (.aload_n 0, 0, 0, 0, 0, .null) := by decide +kernel
theorem o_98_96 : t_OP 98 96 = some (.aload_n 1, 0, 0, 0, 0, .null) := by decide +kernel
theorem o_98_97 : t_OP 98 97 = some (.invokevirtual 55, 104, 0, 1, 0, .null) := by decide +kernel
theorem o_98_100 : t_OP 98 100 = some (.return_, 0, 0, 0, 0, .null) := by decide +kernel
theorem o_99_0 : t_OP 99 0 = some (.aload_n 0, 0, 0, 0, 0, .null) := by decide +kernel
theorem o_99_1 : t_OP 99 1 = some (.iload_n 1, 0, 0, 0, 0, .null) := by decide +kernel
theorem o_99_2 : t_OP 99 2 = some (.invokevirtual 28, 100, 0, 1, 0, .null) := by decide +kernel
theorem o_99_5 : t_OP 99 5 = some (.aload_n 0, 0, 0, 0, 0, .null) := by decide +kernel
theorem o_99_6 : t_OP 99 6 = some (.bipush (48), 0, 0, 0, 48, .null) := by decide +kernel
theorem o_99_8 : t_OP 99 8 = some (.iload_n 2, 0, 0, 0, 0, .null) := by decide +kernel
theorem o_99_9 : t_OP 99 9 = some (.iadd, 0, 0, 0, 0, .null) := by decide +kernel
theorem o_99_10 : t_OP 99 10 = some (.invokevirtual 28, 100, 0, 1, 0, .null) := by decide +kernel
theorem o_99_13 : t_OP 99 13 = some (.return_, 0, 0, 0, 0, .null) := by decide +kernel
theorem o_100_0 : t_OP 100 0 = some (.aload_n 0, 0, 0, 0, 0, .null) := by decide +kernel
theorem o_100_1 : t_OP 100 1 = some (.getfield 15, 3, 1, 0, 0, .null) := by decide +kernel
theorem o_100_4 : t_OP 100 4 = some (.sipush (448), 0, 0, 0, 448, .null) := by decide +kernel
theorem o_100_7 : t_OP 100 7 = some (.if_icmp .ge (24), 31, 0, 0, 0, .null) := by decide +kernel
theorem o_100_10 : t_OP 100 10 = some (.aload_n 0, 0, 0, 0, 0, .null) := by decide +kernel
theorem o_100_11 : t_OP 100 11 = some (.getfield 11, 3, 0, 0, 0, .null) := by decide +kernel
theorem o_100_14 : t_OP 100 14 = some (.aload_n 0, 0, 0, 0, 0, .null) := by decide +kernel
theorem o_100_15 : t_OP 100 15 = some (.getfield 15, 3, 1, 0, 0, .null) := by decide +kernel
theorem o_100_18 : t_OP 100 18 = some (.iload_n 1, 0, 0, 0, 0, .null) := by decide +kernel
theorem o_100_19 : t_OP 100 19 = some (.i2b, 0, 0, 0, 0, .null) := by decide +kernel
theorem o_100_20 : t_OP 100 20 = some (.bastore, 0, 0, 0, 0, .null) := by decide +kernel
theorem o_100_21 : t_OP 100 21 = some (.aload_n 0, 0, 0, 0, 0, .null) := by decide +kernel
theorem o_100_22 : t_OP 100 22 = some (.dup, 0, 0, 0, 0, .null) := by decide +kernel
theorem o_100_23 : t_OP 100 23 = some (.getfield 15, 3, 1, 0, 0, .null) := by decide +kernel
theorem o_100_26 : t_OP 100 26 = some (.iconst (1), 0, 0, 0, 1, .null) := by decide +kernel
theorem o_100_27 : t_OP 100 27 = some (.iadd, 0, 0, 0, 0, .null) := by decide +kernel
theorem o_100_28 : t_OP 100 28 = some (.putfield 15, 3, 1, 0, 0, .null) := by decide +kernel
theorem o_100_31 : t_OP 100 31 = some (.return_, 0, 0, 0, 0, .null) := by decide +kernel
theorem o_101_0 : t_OP 101 0 = some (.iload_n 1, 0, 0, 0, 0, .null) := by decide +kernel
theorem o_101_1 : t_OP 101 1 = some (.iconst (2), 0, 0, 0, 2, .null) := by decide +kernel
theorem o_101_2 : t_OP 101 2 = some (.if_icmp .ne (10), 12, 0, 0, 0, .null) := by decide +kernel
theorem o_101_5 : t_OP 101 5 = some (.aload_n 0, 0, 0, 0, 0, .null) := by decide +kernel
theorem o_101_6 : t_OP 101 6 = some (.ldc 59, 0, 0, 0, 0, .ref 2021) := by decide +kernel
theorem o_101_8 : t_OP 101 8 = some (.invokevirtual 61, 102, 0, 1, 0, .null) := by decide +kernel
theorem o_101_11 : t_OP 101 11 = some (.return_, 0, 0, 0, 0, .null) := by decide +kernel
theorem o_101_12 : t_OP 101 12 = some (.aload_n 0, 0, 0, 0, 0, .null) := by decide +kernel
theorem o_101_13 : t_OP 101 13 = some (.iload_n 1, 0, 0, 0, 0, .null) := by decide +kernel
theorem o_101_14 : t_OP 101 14 = some (.ifCond .ne (8), 22, 0, 0, 0, .null) := by decide +kernel
theorem o_101_17 : t_OP 101 17 = some (.ldc 65, 0, 0, 0, 0, .ref 2022) := by decide +kernel
theorem o_101_19 : t_OP 101 19 = some (.goto (5), 24, 0, 0, 0, .null) := by decide +kernel
theorem o_101_22 : t_OP 101 22 = some (.ldc 67, 0, 0, 0, 0, .ref 2023) := by decide +kernel
theorem o_101_24 : t_OP 101 24 = some (.invokevirtual 61, 102, 0, 1, 0, .null) := by decide +kernel
theorem o_101_27 : t_OP 101 27 = some (.aload_n 0, 0, 0, 0, 0, .null) := by decide +kernel
theorem o_101_28 : t_OP 101 28 = some (.bipush (97), 0, 0, 0, 97, .null) := by decide +kernel
theorem o_101_30 : t_OP 101 30 = some (.iload_n 2, 0, 0, 0, 0, .null) := by decide +kernel
theorem o_101_31 : t_OP 101 31 = some (.iadd, 0, 0, 0, 0, .null) := by decide +kernel
theorem o_101_32 : t_OP 101 32 = some (.invokevirtual 28, 100, 0, 1, 0, .null) := by decide +kernel
theorem o_101_35 : t_OP 101 35 = some (.aload_n 0, 0, 0, 0, 0, .null) := by decide +kernel
theorem o_101_36 : t_OP 101 36 = some (.bipush (32), 0, 0, 0, 32, .null) := by decide +kernel
theorem o_101_38 : t_OP 101 38 = some (.invokevirtual 28, 100, 0, 1, 0, .null) := by decide +kernel
theorem o_101_41 : t_OP 101 41 = some (.iload_n 1, 0, 0, 0, 0, .null) := by decide +kernel
theorem o_101_42 : t_OP 101 42 = some (.ifCond .ne (11), 53, 0, 0, 0, .null) := by decide +kernel
theorem o_101_45 : t_OP 101 45 = some (.aload_n 0, 0, 0, 0, 0, .null) := by decide +kernel
theorem o_101_46 : t_OP 101 46 = some (.iload_n 3, 0, 0, 0, 0, .null) := by decide +kernel
theorem o_101_47 : t_OP 101 47 = some (.invokevirtual 69, 103, 0, 1, 0, .null) := by decide +kernel
theorem o_101_50 : t_OP 101 50 = some (.goto (10), 60, 0, 0, 0, .null) := by decide +kernel
theorem o_101_53 : t_OP 101 53 = some (.aload_n 0, 0, 0, 0, 0, .null) := by decide +kernel
theorem o_101_54 : t_OP 101 54 = some (.bipush (114), 0, 0, 0, 114, .null) := by decide +kernel
theorem o_101_56 : t_OP 101 56 = some (.iload_n 3, 0, 0, 0, 0, .null) := by decide +kernel
theorem o_101_57 : t_OP 101 57 = some (.invokevirtual 24, 99, 0, 2, 0, .null) := by decide +kernel
theorem o_101_60 : t_OP 101 60 = some (.aload_n 0, 0, 0, 0, 0, .null) := by decide +kernel
theorem o_101_61 : t_OP 101 61 = some (.bipush (59), 0, 0, 0, 59, .null) := by decide +kernel
theorem o_101_63 : t_OP 101 63 = some (.invokevirtual 28, 100, 0, 1, 0, .null) := by decide +kernel
theorem o_101_66 : t_OP 101 66 = some (.return_, 0, 0, 0, 0, .null) := by decide +kernel
theorem o_102_0 : t_OP 102 0 = some (.iconst (0), 0, 0, 0, 0, .null) := by decide +kernel
theorem o_102_1 : t_OP 102 1 = some (.istore_n 2, 0, 0, 0, 0, .null) := by decide +kernel
theorem o_102_2 : t_OP 102 2 = some (.iload_n 2, 0, 0, 0, 0, .null) := by decide +kernel
theorem o_102_3 : t_OP 102 3 = some (.aload_n 1, 0, 0, 0, 0, .null) := by decide +kernel
theorem o_102_4 : t_OP 102 4 = some (.invokevirtual 94, 48, 0, 0, 0, .null) := by decide +kernel
theorem o_102_7 : t_OP 102 7 = some (.if_icmp .ge (18), 25, 0, 0, 0, .null) := by decide +kernel
theorem o_102_10 : t_OP 102 10 = some (.aload_n 0, 0, 0, 0, 0, .null) := by decide +kernel
theorem o_102_11 : t_OP 102 11 = some (.aload_n 1, 0, 0, 0, 0, .null) := by decide +kernel
theorem o_102_12 : t_OP 102 12 = some (.iload_n 2, 0, 0, 0, 0, .null) := by decide +kernel
theorem o_102_13 : t_OP 102 13 = some (.invokevirtual 99, 50, 0, 1, 0, .null) := by decide +kernel
theorem o_102_16 : t_OP 102 16 = some (.invokevirtual 28, 100, 0, 1, 0, .null) := by decide +kernel
theorem o_102_19 : t_OP 102 19 = some (.iinc 2 (1), 0, 0, 0, 1, .null) := by decide +kernel
theorem o_102_22 : t_OP 102 22 = some (.goto (-20), 2, 0, 0, 0, .null) := by decide +kernel
theorem o_102_25 : t_OP 102 25 = some (.return_, 0, 0, 0, 0, .null) := by decide +kernel
theorem o_103_0 : t_OP 103 0 = some (.iload_n 1, 0, 0, 0, 0, .null) := by decide +kernel
theorem o_103_1 : t_OP 103 1 = some (.bipush (9), 0, 0, 0, 9, .null) := by decide +kernel
theorem o_103_3 : t_OP 103 3 = some (.if_icmp .le (14), 17, 0, 0, 0, .null) := by decide +kernel
theorem o_103_6 : t_OP 103 6 = some (.aload_n 0, 0, 0, 0, 0, .null) := by decide +kernel
theorem o_103_7 : t_OP 103 7 = some (.bipush (48), 0, 0, 0, 48, .null) := by decide +kernel
theorem o_103_9 : t_OP 103 9 = some (.iload_n 1, 0, 0, 0, 0, .null) := by decide +kernel
theorem o_103_10 : t_OP 103 10 = some (.bipush (10), 0, 0, 0, 10, .null) := by decide +kernel
theorem o_103_12 : t_OP 103 12 = some (.idiv, 0, 0, 0, 0, .null) := by decide +kernel
theorem o_103_13 : t_OP 103 13 = some (.iadd, 0, 0, 0, 0, .null) := by decide +kernel
theorem o_103_14 : t_OP 103 14 = some (.invokevirtual 28, 100, 0, 1, 0, .null) := by decide +kernel
theorem o_103_17 : t_OP 103 17 = some (.aload_n 0, 0, 0, 0, 0, .null) := by decide +kernel
theorem o_103_18 : t_OP 103 18 = some (.bipush (48), 0, 0, 0, 48, .null) := by decide +kernel
theorem o_103_20 : t_OP 103 20 = some (.iload_n 1, 0, 0, 0, 0, .null) := by decide +kernel
theorem o_103_21 : t_OP 103 21 = some (.bipush (10), 0, 0, 0, 10, .null) := by decide +kernel
theorem o_103_23 : t_OP 103 23 = some (.irem, 0, 0, 0, 0, .null) := by decide +kernel
theorem o_103_24 : t_OP 103 24 = some (.iadd, 0, 0, 0, 0, .null) := by decide +kernel
theorem o_103_25 : t_OP 103 25 = some (.invokevirtual 28, 100, 0, 1, 0, .null) := by decide +kernel
theorem o_103_28 : t_OP 103 28 = some (.return_, 0, 0, 0, 0, .null) := by decide +kernel
theorem o_104_0 : t_OP 104 0 = some (.aload_n 0, 0, 0, 0, 0, .null) := by decide +kernel
theorem o_104_1 : t_OP 104 1 = some (.aload_n 1, 0, 0, 0, 0, .null) := by decide +kernel
theorem o_104_2 : t_OP 104 2 = some (.getfield 52, 0, 3, 0, 0, .null) := by decide +kernel
theorem o_104_5 : t_OP 104 5 = some (.iconst (1), 0, 0, 0, 1, .null) := by decide +kernel
theorem o_104_6 : t_OP 104 6 = some (.if_icmp .ne (8), 14, 0, 0, 0, .null) := by decide +kernel
theorem o_104_9 : t_OP 104 9 = some (.ldc 72, 0, 0, 0, 0, .ref 2024) := by decide +kernel
theorem o_104_11 : t_OP 104 11 = some (.goto (5), 16, 0, 0, 0, .null) := by decide +kernel
theorem o_104_14 : t_OP 104 14 = some (.ldc 74, 0, 0, 0, 0, .ref 2025) := by decide +kernel
theorem o_104_16 : t_OP 104 16 = some (.invokevirtual 61, 102, 0, 1, 0, .null) := by decide +kernel
theorem o_104_19 : t_OP 104 19 = some (.iconst (0), 0, 0, 0, 0, .null) := by decide +kernel
theorem o_104_20 : t_OP 104 20 = some (.istore_n 2, 0, 0, 0, 0, .null) := by decide +kernel
theorem o_104_21 : t_OP 104 21 = some (.iload_n 2, 0, 0, 0, 0, .null) := by decide +kernel
theorem o_104_22 : t_OP 104 22 = some (.aload_n 1, 0, 0, 0, 0, .null) := by decide +kernel
theorem o_104_23 : t_OP 104 23 = some (.getfield 76, 0, 2, 0, 0, .null) := by decide +kernel
theorem o_104_26 : t_OP 104 26 = some (.if_icmp .ge (91), 117, 0, 0, 0, .null) := by decide +kernel
theorem o_104_29 : t_OP 104 29 = some (.iload_n 2, 0, 0, 0, 0, .null) := by decide +kernel
theorem o_104_30 : t_OP 104 30 = some (.ifCond .le (9), 39, 0, 0, 0, .null) := by decide +kernel
theorem o_104_33 : t_OP 104 33 = some (.aload_n 0, 0, 0, 0, 0, .null) := by decide +kernel
theorem o_104_34 : t_OP 104 34 = some (.ldc 79, 0, 0, 0, 0, .ref 2026) := by decide +kernel
theorem o_104_36 : t_OP 104 36 = some (.invokevirtual 61, 102, 0, 1, 0, .null) := by decide +kernel
theorem o_104_39 : t_OP 104 39 = some (.aload_n 1, 0, 0, 0, 0, .null) := by decide +kernel
theorem o_104_40 : t_OP 104 40 = some (.getfield 81, 0, 8, 0, 0, .null) := by decide +kernel
theorem o_104_43 : t_OP 104 43 = some (.iload_n 2, 0, 0, 0, 0, .null) := by decide +kernel
theorem o_104_44 : t_OP 104 44 = some (.iaload, 0, 0, 0, 0, .null) := by decide +kernel
theorem o_104_45 : t_OP 104 45 = some (.iconst (-1), 0, 0, 0, (-1), .null) := by decide +kernel
theorem o_104_46 : t_OP 104 46 = some (.if_icmp .ne (19), 65, 0, 0, 0, .null) := by decide +kernel
theorem o_104_49 : t_OP 104 49 = some (.aload_n 0, 0, 0, 0, 0, .null) := by decide +kernel
theorem o_104_50 : t_OP 104 50 = some (.bipush (97), 0, 0, 0, 97, .null) := by decide +kernel
theorem o_104_52 : t_OP 104 52 = some (.aload_n 1, 0, 0, 0, 0, .null) := by decide +kernel
theorem o_104_53 : t_OP 104 53 = some (.getfield 84, 0, 9, 0, 0, .null) := by decide +kernel
theorem o_104_56 : t_OP 104 56 = some (.iload_n 2, 0, 0, 0, 0, .null) := by decide +kernel
theorem o_104_57 : t_OP 104 57 = some (.iaload, 0, 0, 0, 0, .null) := by decide +kernel
theorem o_104_58 : t_OP 104 58 = some (.iadd, 0, 0, 0, 0, .null) := by decide +kernel
theorem o_104_59 : t_OP 104 59 = some (.invokevirtual 28, 100, 0, 1, 0, .null) := by decide +kernel
theorem o_104_62 : t_OP 104 62 = some (.goto (33), 95, 0, 0, 0, .null) := by decide +kernel
theorem o_104_65 : t_OP 104 65 = some (.aload_n 0, 0, 0, 0, 0, .null) := by decide +kernel
theorem o_104_66 : t_OP 104 66 = some (.bipush (116), 0, 0, 0, 116, .null) := by decide +kernel
theorem o_104_68 : t_OP 104 68 = some (.aload_n 1, 0, 0, 0, 0, .null) := by decide +kernel
theorem o_104_69 : t_OP 104 69 = some (.getfield 81, 0, 8, 0, 0, .null) := by decide +kernel
theorem o_104_72 : t_OP 104 72 = some (.iload_n 2, 0, 0, 0, 0, .null) := by decide +kernel
theorem o_104_73 : t_OP 104 73 = some (.iaload, 0, 0, 0, 0, .null) := by decide +kernel
theorem o_104_74 : t_OP 104 74 = some (.invokevirtual 24, 99, 0, 2, 0, .null) := by decide +kernel
theorem o_104_77 : t_OP 104 77 = some (.aload_n 0, 0, 0, 0, 0, .null) := by decide +kernel
theorem o_104_78 : t_OP 104 78 = some (.bipush (58), 0, 0, 0, 58, .null) := by decide +kernel
theorem o_104_80 : t_OP 104 80 = some (.invokevirtual 28, 100, 0, 1, 0, .null) := by decide +kernel
theorem o_104_83 : t_OP 104 83 = some (.aload_n 0, 0, 0, 0, 0, .null) := by decide +kernel
theorem o_104_84 : t_OP 104 84 = some (.bipush (114), 0, 0, 0, 114, .null) := by decide +kernel
theorem o_104_86 : t_OP 104 86 = some (.aload_n 1, 0, 0, 0, 0, .null) := by decide +kernel
theorem o_104_87 : t_OP 104 87 = some (.getfield 84, 0, 9, 0, 0, .null) := by decide +kernel
theorem o_104_90 : t_OP 104 90 = some (.iload_n 2, 0, 0, 0, 0, .null) := by decide +kernel
theorem o_104_91 : t_OP 104 91 = some (.iaload, 0, 0, 0, 0, .null) := by decide +kernel
theorem o_104_92 : t_OP 104 92 = some (.invokevirtual 24, 99, 0, 2, 0, .null) := by decide +kernel
theorem o_104_95 : t_OP 104 95 = some (.aload_n 0, 0, 0, 0, 0, .null) := by decide +kernel
theorem o_104_96 : t_OP 104 96 = some (.ldc 87, 0, 0, 0, 0, .ref 2027) := by decide +kernel
theorem o_104_98 : t_OP 104 98 = some (.invokevirtual 61, 102, 0, 1, 0, .null) := by decide +kernel
theorem o_104_101 : t_OP 104 101 = some (.aload_n 0, 0, 0, 0, 0, .null) := by decide +kernel
theorem o_104_102 : t_OP 104 102 = some (.aload_n 1, 0, 0, 0, 0, .null) := by decide +kernel
theorem o_104_103 : t_OP 104 103 = some (.getfield 89, 0, 10, 0, 0, .null) := by decide +kernel
theorem o_104_106 : t_OP 104 106 = some (.iload_n 2, 0, 0, 0, 0, .null) := by decide +kernel
theorem o_104_107 : t_OP 104 107 = some (.iaload, 0, 0, 0, 0, .null) := by decide +kernel
theorem o_104_108 : t_OP 104 108 = some (.invokevirtual 69, 103, 0, 1, 0, .null) := by decide +kernel
theorem o_104_111 : t_OP 104 111 = some (.iinc 2 (1), 0, 0, 0, 1, .null) := by decide +kernel
theorem o_104_114 : t_OP 104 114 = some (.goto (-93), 21, 0, 0, 0, .null) := by decide +kernel
theorem o_104_117 : t_OP 104 117 = some (.aload_n 0, 0, 0, 0, 0, .null) := by decide +kernel
theorem o_104_118 : t_OP 104 118 = some (.ldc 92, 0, 0, 0, 0, .ref 2028) := by decide +kernel
theorem o_104_120 : t_OP 104 120 = some (.invokevirtual 61, 102, 0, 1, 0, .null) := by decide +kernel
theorem o_104_123 : t_OP 104 123 = some (.return_, 0, 0, 0, 0, .null) := by decide +kernel
theorem o_105_0 : t_OP 105 0 = some (.iload_n 1, 0, 0, 0, 0, .null) := by decide +kernel
theorem o_105_1 : t_OP 105 1 = some (.ifCond .lt (14), 15, 0, 0, 0, .null) := by decide +kernel
theorem o_105_4 : t_OP 105 4 = some (.iload_n 1, 0, 0, 0, 0, .null) := by decide +kernel
theorem o_105_5 : t_OP 105 5 = some (.aload_n 0, 0, 0, 0, 0, .null) := by decide +kernel
theorem o_105_6 : t_OP 105 6 = some (.getfield 43, 6, 5, 0, 0, .null) := by decide +kernel
theorem o_105_9 : t_OP 105 9 = some (.getfield 208, 3, 1, 0, 0, .null) := by decide +kernel
theorem o_105_12 : t_OP 105 12 = some (.if_icmp .lt (13), 25, 0, 0, 0, .null) := by decide +kernel
theorem o_105_15 : t_OP 105 15 = some (.new 97, 102, 0, 0, 0, .null) := by decide +kernel
theorem o_105_25 : t_OP 105 25 = some (.aload_n 0, 0, 0, 0, 0, .null) := by decide +kernel
theorem o_105_26 : t_OP 105 26 = some (.getfield 43, 6, 5, 0, 0, .null) := by decide +kernel
theorem o_105_29 : t_OP 105 29 = some (.getfield 211, 3, 0, 0, 0, .null) := by decide +kernel
theorem o_105_32 : t_OP 105 32 = some (.iload_n 1, 0, 0, 0, 0, .null) := by decide +kernel
theorem o_105_33 : t_OP 105 33 = some (.baload, 0, 0, 0, 0, .null) := by decide +kernel
theorem o_105_34 : t_OP 105 34 = some (.ireturn, 0, 0, 0, 0, .null) := by decide +kernel
end MMO
