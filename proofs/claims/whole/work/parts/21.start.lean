/-! THE SMALL MACHINE, 21: the constructors, step by step (written by wip/whole/gen/start_part.py). -/
section MMST
def k_0 : mm_M := law_m0
def k_1 : mm_M := (mm_nw k_0.1 0 0, mm_nw k_0.2.1 0 none, k_0.2.2)
def k_2 : mm_M := (mm_nw k_1.1 1 0, mm_nw k_1.2.1 1 none, k_1.2.2)
def k_3 : mm_M := (mm_nw k_2.1 2 0, mm_nw k_2.2.1 2 none, k_2.2.2)
def k_4 : mm_M := (mm_nw k_3.1 3 0, mm_nw k_3.2.1 3 none, mm_nw k_3.2.2 3 0)
def k_5 : mm_M := (k_4.1, mm_up k_4.2.1 2 0 (some 3), k_4.2.2)
def k_6 : mm_M := (k_5.1, mm_up k_5.2.1 1 0 (some 2), k_5.2.2)
def k_7 : mm_M := (mm_nw k_6.1 4 0, mm_nw k_6.2.1 4 none, k_6.2.2)
def k_8 : mm_M := (mm_nw k_7.1 5 0, mm_nw k_7.2.1 5 none, mm_nw k_7.2.2 5 0)
def k_9 : mm_M := (k_8.1, mm_up k_8.2.1 4 4 (some 5), k_8.2.2)
def k_10 : mm_M := (mm_nw k_9.1 6 0, mm_nw k_9.2.1 6 none, mm_nw k_9.2.2 6 0)
def k_11 : mm_M := (k_10.1, mm_up k_10.2.1 4 5 (some 6), k_10.2.2)
def k_12 : mm_M := (mm_nw k_11.1 7 0, mm_nw k_11.2.1 7 none, mm_nw k_11.2.2 7 0)
def k_13 : mm_M := (k_12.1, mm_up k_12.2.1 4 6 (some 7), k_12.2.2)
def k_14 : mm_M := (mm_nw k_13.1 8 0, mm_nw k_13.2.1 8 none, mm_nw k_13.2.2 8 0)
def k_15 : mm_M := (k_14.1, mm_up k_14.2.1 4 7 (some 8), k_14.2.2)
def k_16 : mm_M := (mm_nw k_15.1 9 0, mm_nw k_15.2.1 9 none, mm_nw k_15.2.2 9 0)
def k_17 : mm_M := (k_16.1, mm_up k_16.2.1 4 8 (some 9), k_16.2.2)
def k_18 : mm_M := (mm_nw k_17.1 10 0, mm_nw k_17.2.1 10 none, mm_nw k_17.2.2 10 0)
def k_19 : mm_M := (k_18.1, mm_up k_18.2.1 4 9 (some 10), k_18.2.2)
def k_20 : mm_M := (mm_nw k_19.1 11 0, mm_nw k_19.2.1 11 none, mm_nw k_19.2.2 11 0)
def k_21 : mm_M := (k_20.1, mm_up k_20.2.1 4 10 (some 11), k_20.2.2)
def k_22 : mm_M := (k_21.1, mm_up k_21.2.1 1 1 (some 4), k_21.2.2)
def k_23 : mm_M := (k_22.1, mm_up k_22.2.1 0 0 (some 1), k_22.2.2)
def k_24 : mm_M := (k_23.1, mm_up k_23.2.1 0 1 (some 2), k_23.2.2)
def k_25 : mm_M := (k_24.1, mm_up k_24.2.1 0 2 (some 4), k_24.2.2)
def k_26 : mm_M := (mm_nw k_25.1 12 0, mm_nw k_25.2.1 12 none, k_25.2.2)
def k_27 : mm_M := (mm_nw k_26.1 13 0, mm_nw k_26.2.1 13 none, mm_nw k_26.2.2 13 0)
def k_28 : mm_M := (k_27.1, mm_up k_27.2.1 12 0 (some 13), k_27.2.2)
def k_29 : mm_M := (mm_nw k_28.1 14 0, mm_nw k_28.2.1 14 none, mm_nw k_28.2.2 14 0)
def k_30 : mm_M := (k_29.1, mm_up k_29.2.1 12 1 (some 14), k_29.2.2)
def k_31 : mm_M := (mm_nw k_30.1 15 0, mm_nw k_30.2.1 15 none, mm_nw k_30.2.2 15 0)
def k_32 : mm_M := (k_31.1, mm_up k_31.2.1 12 2 (some 15), k_31.2.2)
def k_33 : mm_M := (k_32.1, mm_up k_32.2.1 0 3 (some 12), k_32.2.2)
def k_34 : mm_M := (mm_nw k_33.1 16 0, mm_nw k_33.2.1 16 none, k_33.2.2)
def k_35 : mm_M := (mm_nw k_34.1 17 0, mm_nw k_34.2.1 17 none, mm_nw k_34.2.2 17 0)
def k_36 : mm_M := (k_35.1, mm_up k_35.2.1 16 0 (some 17), k_35.2.2)
def k_37 : mm_M := (mm_up k_36.1 16 3 (-1), k_36.2.1, k_36.2.2)
def k_38 : mm_M := (k_37.1, mm_up k_37.2.1 0 4 (some 16), k_37.2.2)
def k_39 : mm_M := (mm_nw k_38.1 18 0, mm_nw k_38.2.1 18 none, k_38.2.2)
def k_40 : mm_M := (mm_nw k_39.1 19 0, mm_nw k_39.2.1 19 none, mm_nw k_39.2.2 19 0)
def k_41 : mm_M := (k_40.1, mm_up k_40.2.1 18 0 (some 19), k_40.2.2)
def k_42 : mm_M := (k_41.1, mm_up k_41.2.1 0 5 (some 18), k_41.2.2)
def k_43 : mm_M := (mm_nw k_42.1 20 0, mm_nw k_42.2.1 20 none, k_42.2.2)
def k_44 : mm_M := (mm_nw k_43.1 21 0, mm_nw k_43.2.1 21 none, mm_nw k_43.2.2 21 0)
def k_45 : mm_M := (k_44.1, mm_up k_44.2.1 20 2 (some 21), k_44.2.2)
def k_46 : mm_M := (mm_nw k_45.1 22 0, mm_nw k_45.2.1 22 none, mm_nw k_45.2.2 22 0)
def k_47 : mm_M := (k_46.1, mm_up k_46.2.1 20 10 (some 22), k_46.2.2)
def k_48 : mm_M := (mm_nw k_47.1 23 0, mm_nw k_47.2.1 23 none, mm_nw k_47.2.2 23 0)
def k_49 : mm_M := (k_48.1, mm_up k_48.2.1 20 11 (some 23), k_48.2.2)
def k_50 : mm_M := (mm_nw k_49.1 24 0, mm_nw k_49.2.1 24 none, mm_nw k_49.2.2 24 0)
def k_51 : mm_M := (k_50.1, mm_up k_50.2.1 20 12 (some 24), k_50.2.2)
def k_52 : mm_M := (mm_nw k_51.1 25 0, mm_nw k_51.2.1 25 none, mm_nw k_51.2.2 25 0)
def k_53 : mm_M := (k_52.1, mm_up k_52.2.1 20 13 (some 25), k_52.2.2)
def k_54 : mm_M := (mm_nw k_53.1 26 0, mm_nw k_53.2.1 26 none, mm_nw k_53.2.2 26 0)
def k_55 : mm_M := (k_54.1, mm_up k_54.2.1 20 14 (some 26), k_54.2.2)
def k_56 : mm_M := (mm_nw k_55.1 27 0, mm_nw k_55.2.1 27 none, mm_nw k_55.2.2 27 0)
def k_57 : mm_M := (k_56.1, mm_up k_56.2.1 20 15 (some 27), k_56.2.2)
def k_58 : mm_M := (mm_nw k_57.1 28 0, mm_nw k_57.2.1 28 none, mm_nw k_57.2.2 28 0)
def k_59 : mm_M := (k_58.1, mm_up k_58.2.1 20 16 (some 28), k_58.2.2)
def k_60 : mm_M := (mm_nw k_59.1 29 0, mm_nw k_59.2.1 29 none, mm_nw k_59.2.2 29 0)
def k_61 : mm_M := (k_60.1, mm_up k_60.2.1 20 22 (some 29), k_60.2.2)
def k_62 : mm_M := (mm_nw k_61.1 30 0, mm_nw k_61.2.1 30 none, mm_nw k_61.2.2 30 0)
def k_63 : mm_M := (k_62.1, mm_up k_62.2.1 20 24 (some 30), k_62.2.2)
def k_64 : mm_M := (mm_nw k_63.1 31 0, mm_nw k_63.2.1 31 none, mm_nw k_63.2.2 31 0)
def k_65 : mm_M := (k_64.1, mm_up k_64.2.1 20 30 (some 31), k_64.2.2)
def k_66 : mm_M := (mm_nw k_65.1 32 0, mm_nw k_65.2.1 32 none, mm_nw k_65.2.2 32 0)
def k_67 : mm_M := (k_66.1, mm_up k_66.2.1 20 31 (some 32), k_66.2.2)
def k_68 : mm_M := (mm_nw k_67.1 33 0, mm_nw k_67.2.1 33 none, mm_nw k_67.2.2 33 0)
def k_69 : mm_M := (k_68.1, mm_up k_68.2.1 20 32 (some 33), k_68.2.2)
def k_70 : mm_M := (mm_nw k_69.1 34 0, mm_nw k_69.2.1 34 none, mm_nw k_69.2.2 34 0)
def k_71 : mm_M := (k_70.1, mm_up k_70.2.1 20 33 (some 34), k_70.2.2)
def k_72 : mm_M := (mm_nw k_71.1 35 0, mm_nw k_71.2.1 35 none, mm_nw k_71.2.2 35 0)
def k_73 : mm_M := (k_72.1, mm_up k_72.2.1 20 34 (some 35), k_72.2.2)
def k_74 : mm_M := (mm_nw k_73.1 36 0, mm_nw k_73.2.1 36 none, mm_nw k_73.2.2 36 0)
def k_75 : mm_M := (k_74.1, mm_up k_74.2.1 20 35 (some 36), k_74.2.2)
def k_76 : mm_M := (mm_nw k_75.1 37 0, mm_nw k_75.2.1 37 none, mm_nw k_75.2.2 37 0)
theorem s_0_0 : t_OP 0 0 = some (.new 8, 6, 0, 0, 0, .null) := by decide +kernel
theorem s_0_3 : t_OP 0 3 = some (.dup, 0, 0, 0, 0, .null) := by decide +kernel
theorem s_0_4 : t_OP 0 4 = some (.invokespecial 64, 15, 1, 0, 0, .null) := by decide +kernel
theorem s_0_7 : t_OP 0 7 = some (.astore_n 1, 0, 0, 0, 0, .null) := by decide +kernel
theorem s_0_8 : t_OP 0 8 = some (.new 65, 7, 0, 0, 0, .null) := by decide +kernel
theorem s_0_11 : t_OP 0 11 = some (.dup, 0, 0, 0, 0, .null) := by decide +kernel
theorem s_0_12 : t_OP 0 12 = some (.invokespecial 67, 106, 1, 0, 0, .null) := by decide +kernel
theorem s_0_15 : t_OP 0 15 = some (.astore_n 2, 0, 0, 0, 0, .null) := by decide +kernel
theorem s_0_16 : t_OP 0 16 = some (.iconst (1), 0, 0, 0, 1, .null) := by decide +kernel
theorem s_0_17 : t_OP 0 17 = some (.newarray .long, 2, 0, 0, 0, .null) := by decide +kernel
theorem s_0_19 : t_OP 0 19 = some (.astore_n 3, 0, 0, 0, 0, .null) := by decide +kernel
theorem s_0_20 : t_OP 0 20 = some (.iconst (0), 0, 0, 0, 0, .null) := by decide +kernel
theorem s_0_21 : t_OP 0 21 = some (.istore 4, 0, 0, 0, 0, .null) := by decide +kernel
theorem s_15_0 : t_OP 15 0 = some (.aload_n 0, 0, 0, 0, 0, .null) := by decide +kernel
theorem s_15_1 : t_OP 15 1 = some (.invokespecial 1, 0, 5, 0, 0, .null) := by decide +kernel
theorem s_15_4 : t_OP 15 4 = some (.aload_n 0, 0, 0, 0, 0, .null) := by decide +kernel
theorem s_15_5 : t_OP 15 5 = some (.new 7, 1, 0, 0, 0, .null) := by decide +kernel
theorem s_15_8 : t_OP 15 8 = some (.dup, 0, 0, 0, 0, .null) := by decide +kernel
theorem s_15_9 : t_OP 15 9 = some (.invokespecial 9, 16, 3, 0, 0, .null) := by decide +kernel
theorem s_15_12 : t_OP 15 12 = some (.putfield 10, 6, 0, 0, 0, .null) := by decide +kernel
theorem s_15_15 : t_OP 15 15 = some (.aload_n 0, 0, 0, 0, 0, .null) := by decide +kernel
theorem s_15_16 : t_OP 15 16 = some (.aload_n 0, 0, 0, 0, 0, .null) := by decide +kernel
theorem s_15_17 : t_OP 15 17 = some (.getfield 10, 6, 0, 0, 0, .null) := by decide +kernel
theorem s_15_20 : t_OP 15 20 = some (.getfield 16, 1, 0, 0, 0, .null) := by decide +kernel
theorem s_15_23 : t_OP 15 23 = some (.putfield 20, 6, 1, 0, 0, .null) := by decide +kernel
theorem s_15_26 : t_OP 15 26 = some (.aload_n 0, 0, 0, 0, 0, .null) := by decide +kernel
theorem s_15_27 : t_OP 15 27 = some (.aload_n 0, 0, 0, 0, 0, .null) := by decide +kernel
theorem s_15_28 : t_OP 15 28 = some (.getfield 10, 6, 0, 0, 0, .null) := by decide +kernel
theorem s_15_31 : t_OP 15 31 = some (.getfield 21, 1, 1, 0, 0, .null) := by decide +kernel
theorem s_15_34 : t_OP 15 34 = some (.putfield 25, 6, 2, 0, 0, .null) := by decide +kernel
theorem s_15_37 : t_OP 15 37 = some (.aload_n 0, 0, 0, 0, 0, .null) := by decide +kernel
theorem s_15_38 : t_OP 15 38 = some (.new 26, 2, 0, 0, 0, .null) := by decide +kernel
theorem s_15_41 : t_OP 15 41 = some (.dup, 0, 0, 0, 0, .null) := by decide +kernel
theorem s_15_42 : t_OP 15 42 = some (.invokespecial 28, 19, 3, 0, 0, .null) := by decide +kernel
theorem s_15_45 : t_OP 15 45 = some (.putfield 29, 6, 3, 0, 0, .null) := by decide +kernel
theorem s_15_48 : t_OP 15 48 = some (.aload_n 0, 0, 0, 0, 0, .null) := by decide +kernel
theorem s_15_49 : t_OP 15 49 = some (.new 33, 5, 0, 0, 0, .null) := by decide +kernel
theorem s_15_52 : t_OP 15 52 = some (.dup, 0, 0, 0, 0, .null) := by decide +kernel
theorem s_15_53 : t_OP 15 53 = some (.invokespecial 35, 20, 3, 0, 0, .null) := by decide +kernel
theorem s_15_56 : t_OP 15 56 = some (.putfield 36, 6, 4, 0, 0, .null) := by decide +kernel
theorem s_15_59 : t_OP 15 59 = some (.aload_n 0, 0, 0, 0, 0, .null) := by decide +kernel
theorem s_15_60 : t_OP 15 60 = some (.new 40, 3, 0, 0, 0, .null) := by decide +kernel
theorem s_15_63 : t_OP 15 63 = some (.dup, 0, 0, 0, 0, .null) := by decide +kernel
theorem s_15_64 : t_OP 15 64 = some (.invokespecial 42, 21, 3, 0, 0, .null) := by decide +kernel
theorem s_15_67 : t_OP 15 67 = some (.putfield 43, 6, 5, 0, 0, .null) := by decide +kernel
theorem s_15_70 : t_OP 15 70 = some (.return_, 0, 0, 0, 0, .null) := by decide +kernel
theorem s_16_0 : t_OP 16 0 = some (.aload_n 0, 0, 0, 0, 0, .null) := by decide +kernel
theorem s_16_1 : t_OP 16 1 = some (.invokespecial 3, 0, 5, 0, 0, .null) := by decide +kernel
theorem s_16_4 : t_OP 16 4 = some (.aload_n 0, 0, 0, 0, 0, .null) := by decide +kernel
theorem s_16_5 : t_OP 16 5 = some (.new 9, 4, 0, 0, 0, .null) := by decide +kernel
theorem s_16_8 : t_OP 16 8 = some (.dup, 0, 0, 0, 0, .null) := by decide +kernel
theorem s_16_9 : t_OP 16 9 = some (.invokespecial 11, 17, 3, 0, 0, .null) := by decide +kernel
theorem s_16_12 : t_OP 16 12 = some (.putfield 12, 1, 0, 0, 0, .null) := by decide +kernel
theorem s_16_15 : t_OP 16 15 = some (.aload_n 0, 0, 0, 0, 0, .null) := by decide +kernel
theorem s_16_16 : t_OP 16 16 = some (.new 18, 0, 0, 0, 0, .null) := by decide +kernel
theorem s_16_19 : t_OP 16 19 = some (.dup, 0, 0, 0, 0, .null) := by decide +kernel
theorem s_16_20 : t_OP 16 20 = some (.invokespecial 20, 18, 3, 0, 0, .null) := by decide +kernel
theorem s_16_23 : t_OP 16 23 = some (.putfield 21, 1, 1, 0, 0, .null) := by decide +kernel
theorem s_16_26 : t_OP 16 26 = some (.return_, 0, 0, 0, 0, .null) := by decide +kernel
theorem s_17_0 : t_OP 17 0 = some (.aload_n 0, 0, 0, 0, 0, .null) := by decide +kernel
theorem s_17_1 : t_OP 17 1 = some (.invokespecial 3, 0, 5, 0, 0, .null) := by decide +kernel
theorem s_17_4 : t_OP 17 4 = some (.aload_n 0, 0, 0, 0, 0, .null) := by decide +kernel
theorem s_17_5 : t_OP 17 5 = some (.sipush (2048), 0, 0, 0, 2048, .null) := by decide +kernel
theorem s_17_8 : t_OP 17 8 = some (.newarray .byte, 1, 1, 0, 0, .null) := by decide +kernel
theorem s_17_10 : t_OP 17 10 = some (.putfield 9, 4, 0, 0, 0, .null) := by decide +kernel
theorem s_17_13 : t_OP 17 13 = some (.return_, 0, 0, 0, 0, .null) := by decide +kernel
theorem s_18_0 : t_OP 18 0 = some (.aload_n 0, 0, 0, 0, 0, .null) := by decide +kernel
theorem s_18_1 : t_OP 18 1 = some (.invokespecial 3, 0, 5, 0, 0, .null) := by decide +kernel
theorem s_18_4 : t_OP 18 4 = some (.aload_n 0, 0, 0, 0, 0, .null) := by decide +kernel
theorem s_18_5 : t_OP 18 5 = some (.bipush (24), 0, 0, 0, 24, .null) := by decide +kernel
theorem s_18_7 : t_OP 18 7 = some (.newarray .int, 1, 0, 0, 0, .null) := by decide +kernel
theorem s_18_9 : t_OP 18 9 = some (.putfield 9, 0, 4, 0, 0, .null) := by decide +kernel
theorem s_18_12 : t_OP 18 12 = some (.aload_n 0, 0, 0, 0, 0, .null) := by decide +kernel
theorem s_18_13 : t_OP 18 13 = some (.bipush (24), 0, 0, 0, 24, .null) := by decide +kernel
theorem s_18_15 : t_OP 18 15 = some (.newarray .int, 1, 0, 0, 0, .null) := by decide +kernel
theorem s_18_17 : t_OP 18 17 = some (.putfield 15, 0, 5, 0, 0, .null) := by decide +kernel
theorem s_18_20 : t_OP 18 20 = some (.aload_n 0, 0, 0, 0, 0, .null) := by decide +kernel
theorem s_18_21 : t_OP 18 21 = some (.bipush (24), 0, 0, 0, 24, .null) := by decide +kernel
theorem s_18_23 : t_OP 18 23 = some (.newarray .int, 1, 0, 0, 0, .null) := by decide +kernel
theorem s_18_25 : t_OP 18 25 = some (.putfield 18, 0, 6, 0, 0, .null) := by decide +kernel
theorem s_18_28 : t_OP 18 28 = some (.aload_n 0, 0, 0, 0, 0, .null) := by decide +kernel
theorem s_18_29 : t_OP 18 29 = some (.bipush (24), 0, 0, 0, 24, .null) := by decide +kernel
theorem s_18_31 : t_OP 18 31 = some (.newarray .int, 1, 0, 0, 0, .null) := by decide +kernel
theorem s_18_33 : t_OP 18 33 = some (.putfield 21, 0, 7, 0, 0, .null) := by decide +kernel
theorem s_18_36 : t_OP 18 36 = some (.aload_n 0, 0, 0, 0, 0, .null) := by decide +kernel
theorem s_18_37 : t_OP 18 37 = some (.bipush (16), 0, 0, 0, 16, .null) := by decide +kernel
theorem s_18_39 : t_OP 18 39 = some (.newarray .int, 1, 0, 0, 0, .null) := by decide +kernel
theorem s_18_41 : t_OP 18 41 = some (.putfield 24, 0, 8, 0, 0, .null) := by decide +kernel
theorem s_18_44 : t_OP 18 44 = some (.aload_n 0, 0, 0, 0, 0, .null) := by decide +kernel
theorem s_18_45 : t_OP 18 45 = some (.bipush (16), 0, 0, 0, 16, .null) := by decide +kernel
theorem s_18_47 : t_OP 18 47 = some (.newarray .int, 1, 0, 0, 0, .null) := by decide +kernel
theorem s_18_49 : t_OP 18 49 = some (.putfield 27, 0, 9, 0, 0, .null) := by decide +kernel
theorem s_18_52 : t_OP 18 52 = some (.aload_n 0, 0, 0, 0, 0, .null) := by decide +kernel
theorem s_18_53 : t_OP 18 53 = some (.bipush (16), 0, 0, 0, 16, .null) := by decide +kernel
theorem s_18_55 : t_OP 18 55 = some (.newarray .int, 1, 0, 0, 0, .null) := by decide +kernel
theorem s_18_57 : t_OP 18 57 = some (.putfield 30, 0, 10, 0, 0, .null) := by decide +kernel
theorem s_18_60 : t_OP 18 60 = some (.return_, 0, 0, 0, 0, .null) := by decide +kernel
theorem s_19_0 : t_OP 19 0 = some (.aload_n 0, 0, 0, 0, 0, .null) := by decide +kernel
theorem s_19_1 : t_OP 19 1 = some (.invokespecial 3, 0, 5, 0, 0, .null) := by decide +kernel
theorem s_19_4 : t_OP 19 4 = some (.aload_n 0, 0, 0, 0, 0, .null) := by decide +kernel
theorem s_19_5 : t_OP 19 5 = some (.bipush (12), 0, 0, 0, 12, .null) := by decide +kernel
theorem s_19_7 : t_OP 19 7 = some (.newarray .int, 1, 0, 0, 0, .null) := by decide +kernel
theorem s_19_9 : t_OP 19 9 = some (.putfield 9, 2, 0, 0, 0, .null) := by decide +kernel
theorem s_19_12 : t_OP 19 12 = some (.aload_n 0, 0, 0, 0, 0, .null) := by decide +kernel
theorem s_19_13 : t_OP 19 13 = some (.bipush (12), 0, 0, 0, 12, .null) := by decide +kernel
theorem s_19_15 : t_OP 19 15 = some (.newarray .int, 1, 0, 0, 0, .null) := by decide +kernel
theorem s_19_17 : t_OP 19 17 = some (.putfield 15, 2, 1, 0, 0, .null) := by decide +kernel
theorem s_19_20 : t_OP 19 20 = some (.aload_n 0, 0, 0, 0, 0, .null) := by decide +kernel
theorem s_19_21 : t_OP 19 21 = some (.iconst (4), 0, 0, 0, 4, .null) := by decide +kernel
theorem s_19_22 : t_OP 19 22 = some (.newarray .int, 1, 0, 0, 0, .null) := by decide +kernel
theorem s_19_24 : t_OP 19 24 = some (.putfield 18, 2, 2, 0, 0, .null) := by decide +kernel
theorem s_19_27 : t_OP 19 27 = some (.return_, 0, 0, 0, 0, .null) := by decide +kernel
theorem s_20_0 : t_OP 20 0 = some (.aload_n 0, 0, 0, 0, 0, .null) := by decide +kernel
theorem s_20_1 : t_OP 20 1 = some (.invokespecial 3, 0, 5, 0, 0, .null) := by decide +kernel
theorem s_20_4 : t_OP 20 4 = some (.aload_n 0, 0, 0, 0, 0, .null) := by decide +kernel
theorem s_20_5 : t_OP 20 5 = some (.sipush (252), 0, 0, 0, 252, .null) := by decide +kernel
theorem s_20_8 : t_OP 20 8 = some (.newarray .int, 1, 0, 0, 0, .null) := by decide +kernel
theorem s_20_10 : t_OP 20 10 = some (.putfield 11, 5, 0, 0, 0, .null) := by decide +kernel
theorem s_20_13 : t_OP 20 13 = some (.aload_n 0, 0, 0, 0, 0, .null) := by decide +kernel
theorem s_20_14 : t_OP 20 14 = some (.iconst (-1), 0, 0, 0, (-1), .null) := by decide +kernel
theorem s_20_15 : t_OP 20 15 = some (.putfield 15, 5, 3, 0, 0, .null) := by decide +kernel
theorem s_20_18 : t_OP 20 18 = some (.return_, 0, 0, 0, 0, .null) := by decide +kernel
theorem s_21_0 : t_OP 21 0 = some (.aload_n 0, 0, 0, 0, 0, .null) := by decide +kernel
theorem s_21_1 : t_OP 21 1 = some (.invokespecial 3, 0, 5, 0, 0, .null) := by decide +kernel
theorem s_21_4 : t_OP 21 4 = some (.aload_n 0, 0, 0, 0, 0, .null) := by decide +kernel
theorem s_21_5 : t_OP 21 5 = some (.sipush (448), 0, 0, 0, 448, .null) := by decide +kernel
theorem s_21_8 : t_OP 21 8 = some (.newarray .byte, 1, 1, 0, 0, .null) := by decide +kernel
theorem s_21_10 : t_OP 21 10 = some (.putfield 11, 3, 0, 0, 0, .null) := by decide +kernel
theorem s_21_13 : t_OP 21 13 = some (.return_, 0, 0, 0, 0, .null) := by decide +kernel
theorem s_106_0 : t_OP 106 0 = some (.aload_n 0, 0, 0, 0, 0, .null) := by decide +kernel
theorem s_106_1 : t_OP 106 1 = some (.invokespecial 1, 0, 5, 0, 0, .null) := by decide +kernel
theorem s_106_4 : t_OP 106 4 = some (.aload_n 0, 0, 0, 0, 0, .null) := by decide +kernel
theorem s_106_5 : t_OP 106 5 = some (.sipush (2048), 0, 0, 0, 2048, .null) := by decide +kernel
theorem s_106_8 : t_OP 106 8 = some (.newarray .int, 1, 0, 0, 0, .null) := by decide +kernel
theorem s_106_10 : t_OP 106 10 = some (.putfield 7, 7, 2, 0, 0, .null) := by decide +kernel
theorem s_106_13 : t_OP 106 13 = some (.aload_n 0, 0, 0, 0, 0, .null) := by decide +kernel
theorem s_106_14 : t_OP 106 14 = some (.bipush (48), 0, 0, 0, 48, .null) := by decide +kernel
theorem s_106_16 : t_OP 106 16 = some (.newarray .int, 1, 0, 0, 0, .null) := by decide +kernel
theorem s_106_18 : t_OP 106 18 = some (.putfield 13, 7, 10, 0, 0, .null) := by decide +kernel
theorem s_106_21 : t_OP 106 21 = some (.aload_n 0, 0, 0, 0, 0, .null) := by decide +kernel
theorem s_106_22 : t_OP 106 22 = some (.bipush (48), 0, 0, 0, 48, .null) := by decide +kernel
theorem s_106_24 : t_OP 106 24 = some (.newarray .int, 1, 0, 0, 0, .null) := by decide +kernel
theorem s_106_26 : t_OP 106 26 = some (.putfield 16, 7, 11, 0, 0, .null) := by decide +kernel
theorem s_106_29 : t_OP 106 29 = some (.aload_n 0, 0, 0, 0, 0, .null) := by decide +kernel
theorem s_106_30 : t_OP 106 30 = some (.bipush (48), 0, 0, 0, 48, .null) := by decide +kernel
theorem s_106_32 : t_OP 106 32 = some (.newarray .int, 1, 0, 0, 0, .null) := by decide +kernel
theorem s_106_34 : t_OP 106 34 = some (.putfield 19, 7, 12, 0, 0, .null) := by decide +kernel
theorem s_106_37 : t_OP 106 37 = some (.aload_n 0, 0, 0, 0, 0, .null) := by decide +kernel
theorem s_106_38 : t_OP 106 38 = some (.bipush (48), 0, 0, 0, 48, .null) := by decide +kernel
theorem s_106_40 : t_OP 106 40 = some (.newarray .int, 1, 0, 0, 0, .null) := by decide +kernel
theorem s_106_42 : t_OP 106 42 = some (.putfield 22, 7, 13, 0, 0, .null) := by decide +kernel
theorem s_106_45 : t_OP 106 45 = some (.aload_n 0, 0, 0, 0, 0, .null) := by decide +kernel
theorem s_106_46 : t_OP 106 46 = some (.bipush (17), 0, 0, 0, 17, .null) := by decide +kernel
theorem s_106_48 : t_OP 106 48 = some (.newarray .int, 1, 0, 0, 0, .null) := by decide +kernel
theorem s_106_50 : t_OP 106 50 = some (.putfield 25, 7, 14, 0, 0, .null) := by decide +kernel
theorem s_106_53 : t_OP 106 53 = some (.aload_n 0, 0, 0, 0, 0, .null) := by decide +kernel
theorem s_106_54 : t_OP 106 54 = some (.bipush (17), 0, 0, 0, 17, .null) := by decide +kernel
theorem s_106_56 : t_OP 106 56 = some (.newarray .int, 1, 0, 0, 0, .null) := by decide +kernel
theorem s_106_58 : t_OP 106 58 = some (.putfield 28, 7, 15, 0, 0, .null) := by decide +kernel
theorem s_106_61 : t_OP 106 61 = some (.aload_n 0, 0, 0, 0, 0, .null) := by decide +kernel
theorem s_106_62 : t_OP 106 62 = some (.bipush (17), 0, 0, 0, 17, .null) := by decide +kernel
theorem s_106_64 : t_OP 106 64 = some (.newarray .int, 1, 0, 0, 0, .null) := by decide +kernel
theorem s_106_66 : t_OP 106 66 = some (.putfield 31, 7, 16, 0, 0, .null) := by decide +kernel
theorem s_106_69 : t_OP 106 69 = some (.aload_n 0, 0, 0, 0, 0, .null) := by decide +kernel
theorem s_106_70 : t_OP 106 70 = some (.bipush (12), 0, 0, 0, 12, .null) := by decide +kernel
theorem s_106_72 : t_OP 106 72 = some (.newarray .int, 1, 0, 0, 0, .null) := by decide +kernel
theorem s_106_74 : t_OP 106 74 = some (.putfield 34, 7, 22, 0, 0, .null) := by decide +kernel
theorem s_106_77 : t_OP 106 77 = some (.aload_n 0, 0, 0, 0, 0, .null) := by decide +kernel
theorem s_106_78 : t_OP 106 78 = some (.sipush (4096), 0, 0, 0, 4096, .null) := by decide +kernel
theorem s_106_81 : t_OP 106 81 = some (.newarray .int, 1, 0, 0, 0, .null) := by decide +kernel
theorem s_106_83 : t_OP 106 83 = some (.putfield 37, 7, 24, 0, 0, .null) := by decide +kernel
theorem s_106_86 : t_OP 106 86 = some (.aload_n 0, 0, 0, 0, 0, .null) := by decide +kernel
theorem s_106_87 : t_OP 106 87 = some (.sipush (1024), 0, 0, 0, 1024, .null) := by decide +kernel
theorem s_106_90 : t_OP 106 90 = some (.newarray .int, 1, 0, 0, 0, .null) := by decide +kernel
theorem s_106_92 : t_OP 106 92 = some (.putfield 40, 7, 30, 0, 0, .null) := by decide +kernel
theorem s_106_95 : t_OP 106 95 = some (.aload_n 0, 0, 0, 0, 0, .null) := by decide +kernel
theorem s_106_96 : t_OP 106 96 = some (.bipush (12), 0, 0, 0, 12, .null) := by decide +kernel
theorem s_106_98 : t_OP 106 98 = some (.newarray .int, 1, 0, 0, 0, .null) := by decide +kernel
theorem s_106_100 : t_OP 106 100 = some (.putfield 43, 7, 31, 0, 0, .null) := by decide +kernel
theorem s_106_103 : t_OP 106 103 = some (.aload_n 0, 0, 0, 0, 0, .null) := by decide +kernel
theorem s_106_104 : t_OP 106 104 = some (.bipush (12), 0, 0, 0, 12, .null) := by decide +kernel
theorem s_106_106 : t_OP 106 106 = some (.newarray .int, 1, 0, 0, 0, .null) := by decide +kernel
theorem s_106_108 : t_OP 106 108 = some (.putfield 46, 7, 32, 0, 0, .null) := by decide +kernel
theorem s_106_111 : t_OP 106 111 = some (.aload_n 0, 0, 0, 0, 0, .null) := by decide +kernel
theorem s_106_112 : t_OP 106 112 = some (.bipush (12), 0, 0, 0, 12, .null) := by decide +kernel
theorem s_106_114 : t_OP 106 114 = some (.newarray .int, 1, 0, 0, 0, .null) := by decide +kernel
theorem s_106_116 : t_OP 106 116 = some (.putfield 49, 7, 33, 0, 0, .null) := by decide +kernel
theorem s_106_119 : t_OP 106 119 = some (.aload_n 0, 0, 0, 0, 0, .null) := by decide +kernel
theorem s_106_120 : t_OP 106 120 = some (.iconst (4), 0, 0, 0, 4, .null) := by decide +kernel
theorem s_106_121 : t_OP 106 121 = some (.newarray .int, 1, 0, 0, 0, .null) := by decide +kernel
theorem s_106_123 : t_OP 106 123 = some (.putfield 52, 7, 34, 0, 0, .null) := by decide +kernel
theorem s_106_126 : t_OP 106 126 = some (.aload_n 0, 0, 0, 0, 0, .null) := by decide +kernel
theorem s_106_127 : t_OP 106 127 = some (.iconst (4), 0, 0, 0, 4, .null) := by decide +kernel
theorem s_106_128 : t_OP 106 128 = some (.newarray .int, 1, 0, 0, 0, .null) := by decide +kernel
theorem s_106_130 : t_OP 106 130 = some (.putfield 55, 7, 35, 0, 0, .null) := by decide +kernel
theorem s_106_133 : t_OP 106 133 = some (.return_, 0, 0, 0, 0, .null) := by decide +kernel
set_option maxHeartbeats 4000000 in
theorem si_17_0 {E : mm_V} : mm_ev E 17 (0, [some (.ref 2)], [], [(0, 6, 6), (0, 1, 4), (0, 4, 6)], k_3, 0, 0) (.inl none, [(0, 6, 6), (0, 1, 4), (0, 4, 6), (1, 1, 2048)], k_5, 1, 2048) := by
  refine ev_next (S' := (1, [some (.ref 2)], [.ref 2], [(0, 6, 6), (0, 1, 4), (0, 4, 6)], k_3, 0, 0)) s_17_0 rfl ?_
  refine ev_next (S' := (4, [some (.ref 2)], [], [(0, 6, 6), (0, 1, 4), (0, 4, 6)], k_3, 0, 0)) s_17_1 rfl ?_
  refine ev_next (S' := (5, [some (.ref 2)], [.ref 2], [(0, 6, 6), (0, 1, 4), (0, 4, 6)], k_3, 0, 0)) s_17_4 rfl ?_
  refine ev_next (S' := (8, [some (.ref 2)], [.int (2048), .ref 2], [(0, 6, 6), (0, 1, 4), (0, 4, 6)], k_3, 0, 0)) s_17_5 rfl ?_
  refine ev_next (S' := (10, [some (.ref 2)], [.ref 3, .ref 2], [(0, 6, 6), (0, 1, 4), (0, 4, 6), (1, 1, 2048)], k_4, 1, 2048)) s_17_8 rfl ?_
  refine ev_next (S' := (13, [some (.ref 2)], [], [(0, 6, 6), (0, 1, 4), (0, 4, 6), (1, 1, 2048)], k_5, 1, 2048)) s_17_10 rfl ?_
  exact ev_end s_17_13 rfl rfl
set_option maxHeartbeats 4000000 in
theorem si_18_1 {E : mm_V} : mm_ev E 18 (0, [some (.ref 4)], [], [(0, 6, 6), (0, 1, 4), (0, 4, 6), (1, 1, 2048), (0, 0, 11)], k_7, 0, 0) (.inl none, [(0, 6, 6), (0, 1, 4), (0, 4, 6), (1, 1, 2048), (0, 0, 11), (1, 0, 24), (1, 0, 24), (1, 0, 24), (1, 0, 24), (1, 0, 16), (1, 0, 16), (1, 0, 16)], k_21, 7, 144) := by
  refine ev_next (S' := (1, [some (.ref 4)], [.ref 4], [(0, 6, 6), (0, 1, 4), (0, 4, 6), (1, 1, 2048), (0, 0, 11)], k_7, 0, 0)) s_18_0 rfl ?_
  refine ev_next (S' := (4, [some (.ref 4)], [], [(0, 6, 6), (0, 1, 4), (0, 4, 6), (1, 1, 2048), (0, 0, 11)], k_7, 0, 0)) s_18_1 rfl ?_
  refine ev_next (S' := (5, [some (.ref 4)], [.ref 4], [(0, 6, 6), (0, 1, 4), (0, 4, 6), (1, 1, 2048), (0, 0, 11)], k_7, 0, 0)) s_18_4 rfl ?_
  refine ev_next (S' := (7, [some (.ref 4)], [.int (24), .ref 4], [(0, 6, 6), (0, 1, 4), (0, 4, 6), (1, 1, 2048), (0, 0, 11)], k_7, 0, 0)) s_18_5 rfl ?_
  refine ev_next (S' := (9, [some (.ref 4)], [.ref 5, .ref 4], [(0, 6, 6), (0, 1, 4), (0, 4, 6), (1, 1, 2048), (0, 0, 11), (1, 0, 24)], k_8, 1, 24)) s_18_7 rfl ?_
  refine ev_next (S' := (12, [some (.ref 4)], [], [(0, 6, 6), (0, 1, 4), (0, 4, 6), (1, 1, 2048), (0, 0, 11), (1, 0, 24)], k_9, 1, 24)) s_18_9 rfl ?_
  refine ev_next (S' := (13, [some (.ref 4)], [.ref 4], [(0, 6, 6), (0, 1, 4), (0, 4, 6), (1, 1, 2048), (0, 0, 11), (1, 0, 24)], k_9, 1, 24)) s_18_12 rfl ?_
  refine ev_next (S' := (15, [some (.ref 4)], [.int (24), .ref 4], [(0, 6, 6), (0, 1, 4), (0, 4, 6), (1, 1, 2048), (0, 0, 11), (1, 0, 24)], k_9, 1, 24)) s_18_13 rfl ?_
  refine ev_next (S' := (17, [some (.ref 4)], [.ref 6, .ref 4], [(0, 6, 6), (0, 1, 4), (0, 4, 6), (1, 1, 2048), (0, 0, 11), (1, 0, 24), (1, 0, 24)], k_10, 2, 48)) s_18_15 rfl ?_
  refine ev_next (S' := (20, [some (.ref 4)], [], [(0, 6, 6), (0, 1, 4), (0, 4, 6), (1, 1, 2048), (0, 0, 11), (1, 0, 24), (1, 0, 24)], k_11, 2, 48)) s_18_17 rfl ?_
  refine ev_next (S' := (21, [some (.ref 4)], [.ref 4], [(0, 6, 6), (0, 1, 4), (0, 4, 6), (1, 1, 2048), (0, 0, 11), (1, 0, 24), (1, 0, 24)], k_11, 2, 48)) s_18_20 rfl ?_
  refine ev_next (S' := (23, [some (.ref 4)], [.int (24), .ref 4], [(0, 6, 6), (0, 1, 4), (0, 4, 6), (1, 1, 2048), (0, 0, 11), (1, 0, 24), (1, 0, 24)], k_11, 2, 48)) s_18_21 rfl ?_
  refine ev_next (S' := (25, [some (.ref 4)], [.ref 7, .ref 4], [(0, 6, 6), (0, 1, 4), (0, 4, 6), (1, 1, 2048), (0, 0, 11), (1, 0, 24), (1, 0, 24), (1, 0, 24)], k_12, 3, 72)) s_18_23 rfl ?_
  refine ev_next (S' := (28, [some (.ref 4)], [], [(0, 6, 6), (0, 1, 4), (0, 4, 6), (1, 1, 2048), (0, 0, 11), (1, 0, 24), (1, 0, 24), (1, 0, 24)], k_13, 3, 72)) s_18_25 rfl ?_
  refine ev_next (S' := (29, [some (.ref 4)], [.ref 4], [(0, 6, 6), (0, 1, 4), (0, 4, 6), (1, 1, 2048), (0, 0, 11), (1, 0, 24), (1, 0, 24), (1, 0, 24)], k_13, 3, 72)) s_18_28 rfl ?_
  refine ev_next (S' := (31, [some (.ref 4)], [.int (24), .ref 4], [(0, 6, 6), (0, 1, 4), (0, 4, 6), (1, 1, 2048), (0, 0, 11), (1, 0, 24), (1, 0, 24), (1, 0, 24)], k_13, 3, 72)) s_18_29 rfl ?_
  refine ev_next (S' := (33, [some (.ref 4)], [.ref 8, .ref 4], [(0, 6, 6), (0, 1, 4), (0, 4, 6), (1, 1, 2048), (0, 0, 11), (1, 0, 24), (1, 0, 24), (1, 0, 24), (1, 0, 24)], k_14, 4, 96)) s_18_31 rfl ?_
  refine ev_next (S' := (36, [some (.ref 4)], [], [(0, 6, 6), (0, 1, 4), (0, 4, 6), (1, 1, 2048), (0, 0, 11), (1, 0, 24), (1, 0, 24), (1, 0, 24), (1, 0, 24)], k_15, 4, 96)) s_18_33 rfl ?_
  refine ev_next (S' := (37, [some (.ref 4)], [.ref 4], [(0, 6, 6), (0, 1, 4), (0, 4, 6), (1, 1, 2048), (0, 0, 11), (1, 0, 24), (1, 0, 24), (1, 0, 24), (1, 0, 24)], k_15, 4, 96)) s_18_36 rfl ?_
  refine ev_next (S' := (39, [some (.ref 4)], [.int (16), .ref 4], [(0, 6, 6), (0, 1, 4), (0, 4, 6), (1, 1, 2048), (0, 0, 11), (1, 0, 24), (1, 0, 24), (1, 0, 24), (1, 0, 24)], k_15, 4, 96)) s_18_37 rfl ?_
  refine ev_next (S' := (41, [some (.ref 4)], [.ref 9, .ref 4], [(0, 6, 6), (0, 1, 4), (0, 4, 6), (1, 1, 2048), (0, 0, 11), (1, 0, 24), (1, 0, 24), (1, 0, 24), (1, 0, 24), (1, 0, 16)], k_16, 5, 112)) s_18_39 rfl ?_
  refine ev_next (S' := (44, [some (.ref 4)], [], [(0, 6, 6), (0, 1, 4), (0, 4, 6), (1, 1, 2048), (0, 0, 11), (1, 0, 24), (1, 0, 24), (1, 0, 24), (1, 0, 24), (1, 0, 16)], k_17, 5, 112)) s_18_41 rfl ?_
  refine ev_next (S' := (45, [some (.ref 4)], [.ref 4], [(0, 6, 6), (0, 1, 4), (0, 4, 6), (1, 1, 2048), (0, 0, 11), (1, 0, 24), (1, 0, 24), (1, 0, 24), (1, 0, 24), (1, 0, 16)], k_17, 5, 112)) s_18_44 rfl ?_
  refine ev_next (S' := (47, [some (.ref 4)], [.int (16), .ref 4], [(0, 6, 6), (0, 1, 4), (0, 4, 6), (1, 1, 2048), (0, 0, 11), (1, 0, 24), (1, 0, 24), (1, 0, 24), (1, 0, 24), (1, 0, 16)], k_17, 5, 112)) s_18_45 rfl ?_
  refine ev_next (S' := (49, [some (.ref 4)], [.ref 10, .ref 4], [(0, 6, 6), (0, 1, 4), (0, 4, 6), (1, 1, 2048), (0, 0, 11), (1, 0, 24), (1, 0, 24), (1, 0, 24), (1, 0, 24), (1, 0, 16), (1, 0, 16)], k_18, 6, 128)) s_18_47 rfl ?_
  refine ev_next (S' := (52, [some (.ref 4)], [], [(0, 6, 6), (0, 1, 4), (0, 4, 6), (1, 1, 2048), (0, 0, 11), (1, 0, 24), (1, 0, 24), (1, 0, 24), (1, 0, 24), (1, 0, 16), (1, 0, 16)], k_19, 6, 128)) s_18_49 rfl ?_
  refine ev_next (S' := (53, [some (.ref 4)], [.ref 4], [(0, 6, 6), (0, 1, 4), (0, 4, 6), (1, 1, 2048), (0, 0, 11), (1, 0, 24), (1, 0, 24), (1, 0, 24), (1, 0, 24), (1, 0, 16), (1, 0, 16)], k_19, 6, 128)) s_18_52 rfl ?_
  refine ev_next (S' := (55, [some (.ref 4)], [.int (16), .ref 4], [(0, 6, 6), (0, 1, 4), (0, 4, 6), (1, 1, 2048), (0, 0, 11), (1, 0, 24), (1, 0, 24), (1, 0, 24), (1, 0, 24), (1, 0, 16), (1, 0, 16)], k_19, 6, 128)) s_18_53 rfl ?_
  refine ev_next (S' := (57, [some (.ref 4)], [.ref 11, .ref 4], [(0, 6, 6), (0, 1, 4), (0, 4, 6), (1, 1, 2048), (0, 0, 11), (1, 0, 24), (1, 0, 24), (1, 0, 24), (1, 0, 24), (1, 0, 16), (1, 0, 16), (1, 0, 16)], k_20, 7, 144)) s_18_55 rfl ?_
  refine ev_next (S' := (60, [some (.ref 4)], [], [(0, 6, 6), (0, 1, 4), (0, 4, 6), (1, 1, 2048), (0, 0, 11), (1, 0, 24), (1, 0, 24), (1, 0, 24), (1, 0, 24), (1, 0, 16), (1, 0, 16), (1, 0, 16)], k_21, 7, 144)) s_18_57 rfl ?_
  exact ev_end s_18_60 rfl rfl
set_option maxHeartbeats 4000000 in
theorem si_16_2 {E : mm_V} : mm_ev E 16 (0, [some (.ref 1)], [], [(0, 6, 6), (0, 1, 4)], k_2, 0, 0) (.inl none, [(0, 6, 6), (0, 1, 4), (0, 4, 6), (1, 1, 2048), (0, 0, 11), (1, 0, 24), (1, 0, 24), (1, 0, 24), (1, 0, 24), (1, 0, 16), (1, 0, 16), (1, 0, 16)], k_22, 10, 2209) := by
  refine ev_next (S' := (1, [some (.ref 1)], [.ref 1], [(0, 6, 6), (0, 1, 4)], k_2, 0, 0)) s_16_0 rfl ?_
  refine ev_next (S' := (4, [some (.ref 1)], [], [(0, 6, 6), (0, 1, 4)], k_2, 0, 0)) s_16_1 rfl ?_
  refine ev_next (S' := (5, [some (.ref 1)], [.ref 1], [(0, 6, 6), (0, 1, 4)], k_2, 0, 0)) s_16_4 rfl ?_
  refine ev_next (S' := (8, [some (.ref 1)], [.ref 2, .ref 1], [(0, 6, 6), (0, 1, 4), (0, 4, 6)], k_3, 1, 6)) s_16_5 rfl ?_
  refine ev_next (S' := (9, [some (.ref 1)], [.ref 2, .ref 2, .ref 1], [(0, 6, 6), (0, 1, 4), (0, 4, 6)], k_3, 1, 6)) s_16_8 rfl ?_
  refine ev_call (y := 17) (as := [.ref 2]) (r := [.ref 2, .ref 1]) s_16_9 rfl rfl rfl si_17_0 ?_
  show mm_ev E 16 (12, [some (.ref 1)], [.ref 2, .ref 1], [(0, 6, 6), (0, 1, 4), (0, 4, 6), (1, 1, 2048)], k_5, 2, 2054) _
  refine ev_next (S' := (15, [some (.ref 1)], [], [(0, 6, 6), (0, 1, 4), (0, 4, 6), (1, 1, 2048)], k_6, 2, 2054)) s_16_12 rfl ?_
  refine ev_next (S' := (16, [some (.ref 1)], [.ref 1], [(0, 6, 6), (0, 1, 4), (0, 4, 6), (1, 1, 2048)], k_6, 2, 2054)) s_16_15 rfl ?_
  refine ev_next (S' := (19, [some (.ref 1)], [.ref 4, .ref 1], [(0, 6, 6), (0, 1, 4), (0, 4, 6), (1, 1, 2048), (0, 0, 11)], k_7, 3, 2065)) s_16_16 rfl ?_
  refine ev_next (S' := (20, [some (.ref 1)], [.ref 4, .ref 4, .ref 1], [(0, 6, 6), (0, 1, 4), (0, 4, 6), (1, 1, 2048), (0, 0, 11)], k_7, 3, 2065)) s_16_19 rfl ?_
  refine ev_call (y := 18) (as := [.ref 4]) (r := [.ref 4, .ref 1]) s_16_20 rfl rfl rfl si_18_1 ?_
  show mm_ev E 16 (23, [some (.ref 1)], [.ref 4, .ref 1], [(0, 6, 6), (0, 1, 4), (0, 4, 6), (1, 1, 2048), (0, 0, 11), (1, 0, 24), (1, 0, 24), (1, 0, 24), (1, 0, 24), (1, 0, 16), (1, 0, 16), (1, 0, 16)], k_21, 10, 2209) _
  refine ev_next (S' := (26, [some (.ref 1)], [], [(0, 6, 6), (0, 1, 4), (0, 4, 6), (1, 1, 2048), (0, 0, 11), (1, 0, 24), (1, 0, 24), (1, 0, 24), (1, 0, 24), (1, 0, 16), (1, 0, 16), (1, 0, 16)], k_22, 10, 2209)) s_16_23 rfl ?_
  exact ev_end s_16_26 rfl rfl
set_option maxHeartbeats 4000000 in
theorem si_19_3 {E : mm_V} : mm_ev E 19 (0, [some (.ref 12)], [], [(0, 6, 6), (0, 1, 4), (0, 4, 6), (1, 1, 2048), (0, 0, 11), (1, 0, 24), (1, 0, 24), (1, 0, 24), (1, 0, 24), (1, 0, 16), (1, 0, 16), (1, 0, 16), (0, 2, 4)], k_26, 0, 0) (.inl none, [(0, 6, 6), (0, 1, 4), (0, 4, 6), (1, 1, 2048), (0, 0, 11), (1, 0, 24), (1, 0, 24), (1, 0, 24), (1, 0, 24), (1, 0, 16), (1, 0, 16), (1, 0, 16), (0, 2, 4), (1, 0, 12), (1, 0, 12), (1, 0, 4)], k_32, 3, 28) := by
  refine ev_next (S' := (1, [some (.ref 12)], [.ref 12], [(0, 6, 6), (0, 1, 4), (0, 4, 6), (1, 1, 2048), (0, 0, 11), (1, 0, 24), (1, 0, 24), (1, 0, 24), (1, 0, 24), (1, 0, 16), (1, 0, 16), (1, 0, 16), (0, 2, 4)], k_26, 0, 0)) s_19_0 rfl ?_
  refine ev_next (S' := (4, [some (.ref 12)], [], [(0, 6, 6), (0, 1, 4), (0, 4, 6), (1, 1, 2048), (0, 0, 11), (1, 0, 24), (1, 0, 24), (1, 0, 24), (1, 0, 24), (1, 0, 16), (1, 0, 16), (1, 0, 16), (0, 2, 4)], k_26, 0, 0)) s_19_1 rfl ?_
  refine ev_next (S' := (5, [some (.ref 12)], [.ref 12], [(0, 6, 6), (0, 1, 4), (0, 4, 6), (1, 1, 2048), (0, 0, 11), (1, 0, 24), (1, 0, 24), (1, 0, 24), (1, 0, 24), (1, 0, 16), (1, 0, 16), (1, 0, 16), (0, 2, 4)], k_26, 0, 0)) s_19_4 rfl ?_
  refine ev_next (S' := (7, [some (.ref 12)], [.int (12), .ref 12], [(0, 6, 6), (0, 1, 4), (0, 4, 6), (1, 1, 2048), (0, 0, 11), (1, 0, 24), (1, 0, 24), (1, 0, 24), (1, 0, 24), (1, 0, 16), (1, 0, 16), (1, 0, 16), (0, 2, 4)], k_26, 0, 0)) s_19_5 rfl ?_
  refine ev_next (S' := (9, [some (.ref 12)], [.ref 13, .ref 12], [(0, 6, 6), (0, 1, 4), (0, 4, 6), (1, 1, 2048), (0, 0, 11), (1, 0, 24), (1, 0, 24), (1, 0, 24), (1, 0, 24), (1, 0, 16), (1, 0, 16), (1, 0, 16), (0, 2, 4), (1, 0, 12)], k_27, 1, 12)) s_19_7 rfl ?_
  refine ev_next (S' := (12, [some (.ref 12)], [], [(0, 6, 6), (0, 1, 4), (0, 4, 6), (1, 1, 2048), (0, 0, 11), (1, 0, 24), (1, 0, 24), (1, 0, 24), (1, 0, 24), (1, 0, 16), (1, 0, 16), (1, 0, 16), (0, 2, 4), (1, 0, 12)], k_28, 1, 12)) s_19_9 rfl ?_
  refine ev_next (S' := (13, [some (.ref 12)], [.ref 12], [(0, 6, 6), (0, 1, 4), (0, 4, 6), (1, 1, 2048), (0, 0, 11), (1, 0, 24), (1, 0, 24), (1, 0, 24), (1, 0, 24), (1, 0, 16), (1, 0, 16), (1, 0, 16), (0, 2, 4), (1, 0, 12)], k_28, 1, 12)) s_19_12 rfl ?_
  refine ev_next (S' := (15, [some (.ref 12)], [.int (12), .ref 12], [(0, 6, 6), (0, 1, 4), (0, 4, 6), (1, 1, 2048), (0, 0, 11), (1, 0, 24), (1, 0, 24), (1, 0, 24), (1, 0, 24), (1, 0, 16), (1, 0, 16), (1, 0, 16), (0, 2, 4), (1, 0, 12)], k_28, 1, 12)) s_19_13 rfl ?_
  refine ev_next (S' := (17, [some (.ref 12)], [.ref 14, .ref 12], [(0, 6, 6), (0, 1, 4), (0, 4, 6), (1, 1, 2048), (0, 0, 11), (1, 0, 24), (1, 0, 24), (1, 0, 24), (1, 0, 24), (1, 0, 16), (1, 0, 16), (1, 0, 16), (0, 2, 4), (1, 0, 12), (1, 0, 12)], k_29, 2, 24)) s_19_15 rfl ?_
  refine ev_next (S' := (20, [some (.ref 12)], [], [(0, 6, 6), (0, 1, 4), (0, 4, 6), (1, 1, 2048), (0, 0, 11), (1, 0, 24), (1, 0, 24), (1, 0, 24), (1, 0, 24), (1, 0, 16), (1, 0, 16), (1, 0, 16), (0, 2, 4), (1, 0, 12), (1, 0, 12)], k_30, 2, 24)) s_19_17 rfl ?_
  refine ev_next (S' := (21, [some (.ref 12)], [.ref 12], [(0, 6, 6), (0, 1, 4), (0, 4, 6), (1, 1, 2048), (0, 0, 11), (1, 0, 24), (1, 0, 24), (1, 0, 24), (1, 0, 24), (1, 0, 16), (1, 0, 16), (1, 0, 16), (0, 2, 4), (1, 0, 12), (1, 0, 12)], k_30, 2, 24)) s_19_20 rfl ?_
  refine ev_next (S' := (22, [some (.ref 12)], [.int (4), .ref 12], [(0, 6, 6), (0, 1, 4), (0, 4, 6), (1, 1, 2048), (0, 0, 11), (1, 0, 24), (1, 0, 24), (1, 0, 24), (1, 0, 24), (1, 0, 16), (1, 0, 16), (1, 0, 16), (0, 2, 4), (1, 0, 12), (1, 0, 12)], k_30, 2, 24)) s_19_21 rfl ?_
  refine ev_next (S' := (24, [some (.ref 12)], [.ref 15, .ref 12], [(0, 6, 6), (0, 1, 4), (0, 4, 6), (1, 1, 2048), (0, 0, 11), (1, 0, 24), (1, 0, 24), (1, 0, 24), (1, 0, 24), (1, 0, 16), (1, 0, 16), (1, 0, 16), (0, 2, 4), (1, 0, 12), (1, 0, 12), (1, 0, 4)], k_31, 3, 28)) s_19_22 rfl ?_
  refine ev_next (S' := (27, [some (.ref 12)], [], [(0, 6, 6), (0, 1, 4), (0, 4, 6), (1, 1, 2048), (0, 0, 11), (1, 0, 24), (1, 0, 24), (1, 0, 24), (1, 0, 24), (1, 0, 16), (1, 0, 16), (1, 0, 16), (0, 2, 4), (1, 0, 12), (1, 0, 12), (1, 0, 4)], k_32, 3, 28)) s_19_24 rfl ?_
  exact ev_end s_19_27 rfl rfl
set_option maxHeartbeats 4000000 in
theorem si_20_4 {E : mm_V} : mm_ev E 20 (0, [some (.ref 16)], [], [(0, 6, 6), (0, 1, 4), (0, 4, 6), (1, 1, 2048), (0, 0, 11), (1, 0, 24), (1, 0, 24), (1, 0, 24), (1, 0, 24), (1, 0, 16), (1, 0, 16), (1, 0, 16), (0, 2, 4), (1, 0, 12), (1, 0, 12), (1, 0, 4), (0, 5, 5)], k_34, 0, 0) (.inl none, [(0, 6, 6), (0, 1, 4), (0, 4, 6), (1, 1, 2048), (0, 0, 11), (1, 0, 24), (1, 0, 24), (1, 0, 24), (1, 0, 24), (1, 0, 16), (1, 0, 16), (1, 0, 16), (0, 2, 4), (1, 0, 12), (1, 0, 12), (1, 0, 4), (0, 5, 5), (1, 0, 252)], k_37, 1, 252) := by
  refine ev_next (S' := (1, [some (.ref 16)], [.ref 16], [(0, 6, 6), (0, 1, 4), (0, 4, 6), (1, 1, 2048), (0, 0, 11), (1, 0, 24), (1, 0, 24), (1, 0, 24), (1, 0, 24), (1, 0, 16), (1, 0, 16), (1, 0, 16), (0, 2, 4), (1, 0, 12), (1, 0, 12), (1, 0, 4), (0, 5, 5)], k_34, 0, 0)) s_20_0 rfl ?_
  refine ev_next (S' := (4, [some (.ref 16)], [], [(0, 6, 6), (0, 1, 4), (0, 4, 6), (1, 1, 2048), (0, 0, 11), (1, 0, 24), (1, 0, 24), (1, 0, 24), (1, 0, 24), (1, 0, 16), (1, 0, 16), (1, 0, 16), (0, 2, 4), (1, 0, 12), (1, 0, 12), (1, 0, 4), (0, 5, 5)], k_34, 0, 0)) s_20_1 rfl ?_
  refine ev_next (S' := (5, [some (.ref 16)], [.ref 16], [(0, 6, 6), (0, 1, 4), (0, 4, 6), (1, 1, 2048), (0, 0, 11), (1, 0, 24), (1, 0, 24), (1, 0, 24), (1, 0, 24), (1, 0, 16), (1, 0, 16), (1, 0, 16), (0, 2, 4), (1, 0, 12), (1, 0, 12), (1, 0, 4), (0, 5, 5)], k_34, 0, 0)) s_20_4 rfl ?_
  refine ev_next (S' := (8, [some (.ref 16)], [.int (252), .ref 16], [(0, 6, 6), (0, 1, 4), (0, 4, 6), (1, 1, 2048), (0, 0, 11), (1, 0, 24), (1, 0, 24), (1, 0, 24), (1, 0, 24), (1, 0, 16), (1, 0, 16), (1, 0, 16), (0, 2, 4), (1, 0, 12), (1, 0, 12), (1, 0, 4), (0, 5, 5)], k_34, 0, 0)) s_20_5 rfl ?_
  refine ev_next (S' := (10, [some (.ref 16)], [.ref 17, .ref 16], [(0, 6, 6), (0, 1, 4), (0, 4, 6), (1, 1, 2048), (0, 0, 11), (1, 0, 24), (1, 0, 24), (1, 0, 24), (1, 0, 24), (1, 0, 16), (1, 0, 16), (1, 0, 16), (0, 2, 4), (1, 0, 12), (1, 0, 12), (1, 0, 4), (0, 5, 5), (1, 0, 252)], k_35, 1, 252)) s_20_8 rfl ?_
  refine ev_next (S' := (13, [some (.ref 16)], [], [(0, 6, 6), (0, 1, 4), (0, 4, 6), (1, 1, 2048), (0, 0, 11), (1, 0, 24), (1, 0, 24), (1, 0, 24), (1, 0, 24), (1, 0, 16), (1, 0, 16), (1, 0, 16), (0, 2, 4), (1, 0, 12), (1, 0, 12), (1, 0, 4), (0, 5, 5), (1, 0, 252)], k_36, 1, 252)) s_20_10 rfl ?_
  refine ev_next (S' := (14, [some (.ref 16)], [.ref 16], [(0, 6, 6), (0, 1, 4), (0, 4, 6), (1, 1, 2048), (0, 0, 11), (1, 0, 24), (1, 0, 24), (1, 0, 24), (1, 0, 24), (1, 0, 16), (1, 0, 16), (1, 0, 16), (0, 2, 4), (1, 0, 12), (1, 0, 12), (1, 0, 4), (0, 5, 5), (1, 0, 252)], k_36, 1, 252)) s_20_13 rfl ?_
  refine ev_next (S' := (15, [some (.ref 16)], [.int (-1), .ref 16], [(0, 6, 6), (0, 1, 4), (0, 4, 6), (1, 1, 2048), (0, 0, 11), (1, 0, 24), (1, 0, 24), (1, 0, 24), (1, 0, 24), (1, 0, 16), (1, 0, 16), (1, 0, 16), (0, 2, 4), (1, 0, 12), (1, 0, 12), (1, 0, 4), (0, 5, 5), (1, 0, 252)], k_36, 1, 252)) s_20_14 rfl ?_
  refine ev_next (S' := (18, [some (.ref 16)], [], [(0, 6, 6), (0, 1, 4), (0, 4, 6), (1, 1, 2048), (0, 0, 11), (1, 0, 24), (1, 0, 24), (1, 0, 24), (1, 0, 24), (1, 0, 16), (1, 0, 16), (1, 0, 16), (0, 2, 4), (1, 0, 12), (1, 0, 12), (1, 0, 4), (0, 5, 5), (1, 0, 252)], k_37, 1, 252)) s_20_15 rfl ?_
  exact ev_end s_20_18 rfl rfl
set_option maxHeartbeats 4000000 in
theorem si_21_5 {E : mm_V} : mm_ev E 21 (0, [some (.ref 18)], [], [(0, 6, 6), (0, 1, 4), (0, 4, 6), (1, 1, 2048), (0, 0, 11), (1, 0, 24), (1, 0, 24), (1, 0, 24), (1, 0, 24), (1, 0, 16), (1, 0, 16), (1, 0, 16), (0, 2, 4), (1, 0, 12), (1, 0, 12), (1, 0, 4), (0, 5, 5), (1, 0, 252), (0, 3, 2)], k_39, 0, 0) (.inl none, [(0, 6, 6), (0, 1, 4), (0, 4, 6), (1, 1, 2048), (0, 0, 11), (1, 0, 24), (1, 0, 24), (1, 0, 24), (1, 0, 24), (1, 0, 16), (1, 0, 16), (1, 0, 16), (0, 2, 4), (1, 0, 12), (1, 0, 12), (1, 0, 4), (0, 5, 5), (1, 0, 252), (0, 3, 2), (1, 1, 448)], k_41, 1, 448) := by
  refine ev_next (S' := (1, [some (.ref 18)], [.ref 18], [(0, 6, 6), (0, 1, 4), (0, 4, 6), (1, 1, 2048), (0, 0, 11), (1, 0, 24), (1, 0, 24), (1, 0, 24), (1, 0, 24), (1, 0, 16), (1, 0, 16), (1, 0, 16), (0, 2, 4), (1, 0, 12), (1, 0, 12), (1, 0, 4), (0, 5, 5), (1, 0, 252), (0, 3, 2)], k_39, 0, 0)) s_21_0 rfl ?_
  refine ev_next (S' := (4, [some (.ref 18)], [], [(0, 6, 6), (0, 1, 4), (0, 4, 6), (1, 1, 2048), (0, 0, 11), (1, 0, 24), (1, 0, 24), (1, 0, 24), (1, 0, 24), (1, 0, 16), (1, 0, 16), (1, 0, 16), (0, 2, 4), (1, 0, 12), (1, 0, 12), (1, 0, 4), (0, 5, 5), (1, 0, 252), (0, 3, 2)], k_39, 0, 0)) s_21_1 rfl ?_
  refine ev_next (S' := (5, [some (.ref 18)], [.ref 18], [(0, 6, 6), (0, 1, 4), (0, 4, 6), (1, 1, 2048), (0, 0, 11), (1, 0, 24), (1, 0, 24), (1, 0, 24), (1, 0, 24), (1, 0, 16), (1, 0, 16), (1, 0, 16), (0, 2, 4), (1, 0, 12), (1, 0, 12), (1, 0, 4), (0, 5, 5), (1, 0, 252), (0, 3, 2)], k_39, 0, 0)) s_21_4 rfl ?_
  refine ev_next (S' := (8, [some (.ref 18)], [.int (448), .ref 18], [(0, 6, 6), (0, 1, 4), (0, 4, 6), (1, 1, 2048), (0, 0, 11), (1, 0, 24), (1, 0, 24), (1, 0, 24), (1, 0, 24), (1, 0, 16), (1, 0, 16), (1, 0, 16), (0, 2, 4), (1, 0, 12), (1, 0, 12), (1, 0, 4), (0, 5, 5), (1, 0, 252), (0, 3, 2)], k_39, 0, 0)) s_21_5 rfl ?_
  refine ev_next (S' := (10, [some (.ref 18)], [.ref 19, .ref 18], [(0, 6, 6), (0, 1, 4), (0, 4, 6), (1, 1, 2048), (0, 0, 11), (1, 0, 24), (1, 0, 24), (1, 0, 24), (1, 0, 24), (1, 0, 16), (1, 0, 16), (1, 0, 16), (0, 2, 4), (1, 0, 12), (1, 0, 12), (1, 0, 4), (0, 5, 5), (1, 0, 252), (0, 3, 2), (1, 1, 448)], k_40, 1, 448)) s_21_8 rfl ?_
  refine ev_next (S' := (13, [some (.ref 18)], [], [(0, 6, 6), (0, 1, 4), (0, 4, 6), (1, 1, 2048), (0, 0, 11), (1, 0, 24), (1, 0, 24), (1, 0, 24), (1, 0, 24), (1, 0, 16), (1, 0, 16), (1, 0, 16), (0, 2, 4), (1, 0, 12), (1, 0, 12), (1, 0, 4), (0, 5, 5), (1, 0, 252), (0, 3, 2), (1, 1, 448)], k_41, 1, 448)) s_21_10 rfl ?_
  exact ev_end s_21_13 rfl rfl
set_option maxHeartbeats 4000000 in
theorem si_15_6 {E : mm_V} : mm_ev E 15 (0, [some (.ref 0)], [], [(0, 6, 6)], k_1, 0, 0) (.inl none, [(0, 6, 6), (0, 1, 4), (0, 4, 6), (1, 1, 2048), (0, 0, 11), (1, 0, 24), (1, 0, 24), (1, 0, 24), (1, 0, 24), (1, 0, 16), (1, 0, 16), (1, 0, 16), (0, 2, 4), (1, 0, 12), (1, 0, 12), (1, 0, 4), (0, 5, 5), (1, 0, 252), (0, 3, 2), (1, 1, 448)], k_42, 19, 2952) := by
  refine ev_next (S' := (1, [some (.ref 0)], [.ref 0], [(0, 6, 6)], k_1, 0, 0)) s_15_0 rfl ?_
  refine ev_next (S' := (4, [some (.ref 0)], [], [(0, 6, 6)], k_1, 0, 0)) s_15_1 rfl ?_
  refine ev_next (S' := (5, [some (.ref 0)], [.ref 0], [(0, 6, 6)], k_1, 0, 0)) s_15_4 rfl ?_
  refine ev_next (S' := (8, [some (.ref 0)], [.ref 1, .ref 0], [(0, 6, 6), (0, 1, 4)], k_2, 1, 4)) s_15_5 rfl ?_
  refine ev_next (S' := (9, [some (.ref 0)], [.ref 1, .ref 1, .ref 0], [(0, 6, 6), (0, 1, 4)], k_2, 1, 4)) s_15_8 rfl ?_
  refine ev_call (y := 16) (as := [.ref 1]) (r := [.ref 1, .ref 0]) s_15_9 rfl rfl rfl si_16_2 ?_
  show mm_ev E 15 (12, [some (.ref 0)], [.ref 1, .ref 0], [(0, 6, 6), (0, 1, 4), (0, 4, 6), (1, 1, 2048), (0, 0, 11), (1, 0, 24), (1, 0, 24), (1, 0, 24), (1, 0, 24), (1, 0, 16), (1, 0, 16), (1, 0, 16)], k_22, 11, 2213) _
  refine ev_next (S' := (15, [some (.ref 0)], [], [(0, 6, 6), (0, 1, 4), (0, 4, 6), (1, 1, 2048), (0, 0, 11), (1, 0, 24), (1, 0, 24), (1, 0, 24), (1, 0, 24), (1, 0, 16), (1, 0, 16), (1, 0, 16)], k_23, 11, 2213)) s_15_12 rfl ?_
  refine ev_next (S' := (16, [some (.ref 0)], [.ref 0], [(0, 6, 6), (0, 1, 4), (0, 4, 6), (1, 1, 2048), (0, 0, 11), (1, 0, 24), (1, 0, 24), (1, 0, 24), (1, 0, 24), (1, 0, 16), (1, 0, 16), (1, 0, 16)], k_23, 11, 2213)) s_15_15 rfl ?_
  refine ev_next (S' := (17, [some (.ref 0)], [.ref 0, .ref 0], [(0, 6, 6), (0, 1, 4), (0, 4, 6), (1, 1, 2048), (0, 0, 11), (1, 0, 24), (1, 0, 24), (1, 0, 24), (1, 0, 24), (1, 0, 16), (1, 0, 16), (1, 0, 16)], k_23, 11, 2213)) s_15_16 rfl ?_
  refine ev_next (S' := (20, [some (.ref 0)], [.ref 1, .ref 0], [(0, 6, 6), (0, 1, 4), (0, 4, 6), (1, 1, 2048), (0, 0, 11), (1, 0, 24), (1, 0, 24), (1, 0, 24), (1, 0, 24), (1, 0, 16), (1, 0, 16), (1, 0, 16)], k_23, 11, 2213)) s_15_17 rfl ?_
  refine ev_next (S' := (23, [some (.ref 0)], [.ref 2, .ref 0], [(0, 6, 6), (0, 1, 4), (0, 4, 6), (1, 1, 2048), (0, 0, 11), (1, 0, 24), (1, 0, 24), (1, 0, 24), (1, 0, 24), (1, 0, 16), (1, 0, 16), (1, 0, 16)], k_23, 11, 2213)) s_15_20 rfl ?_
  refine ev_next (S' := (26, [some (.ref 0)], [], [(0, 6, 6), (0, 1, 4), (0, 4, 6), (1, 1, 2048), (0, 0, 11), (1, 0, 24), (1, 0, 24), (1, 0, 24), (1, 0, 24), (1, 0, 16), (1, 0, 16), (1, 0, 16)], k_24, 11, 2213)) s_15_23 rfl ?_
  refine ev_next (S' := (27, [some (.ref 0)], [.ref 0], [(0, 6, 6), (0, 1, 4), (0, 4, 6), (1, 1, 2048), (0, 0, 11), (1, 0, 24), (1, 0, 24), (1, 0, 24), (1, 0, 24), (1, 0, 16), (1, 0, 16), (1, 0, 16)], k_24, 11, 2213)) s_15_26 rfl ?_
  refine ev_next (S' := (28, [some (.ref 0)], [.ref 0, .ref 0], [(0, 6, 6), (0, 1, 4), (0, 4, 6), (1, 1, 2048), (0, 0, 11), (1, 0, 24), (1, 0, 24), (1, 0, 24), (1, 0, 24), (1, 0, 16), (1, 0, 16), (1, 0, 16)], k_24, 11, 2213)) s_15_27 rfl ?_
  refine ev_next (S' := (31, [some (.ref 0)], [.ref 1, .ref 0], [(0, 6, 6), (0, 1, 4), (0, 4, 6), (1, 1, 2048), (0, 0, 11), (1, 0, 24), (1, 0, 24), (1, 0, 24), (1, 0, 24), (1, 0, 16), (1, 0, 16), (1, 0, 16)], k_24, 11, 2213)) s_15_28 rfl ?_
  refine ev_next (S' := (34, [some (.ref 0)], [.ref 4, .ref 0], [(0, 6, 6), (0, 1, 4), (0, 4, 6), (1, 1, 2048), (0, 0, 11), (1, 0, 24), (1, 0, 24), (1, 0, 24), (1, 0, 24), (1, 0, 16), (1, 0, 16), (1, 0, 16)], k_24, 11, 2213)) s_15_31 rfl ?_
  refine ev_next (S' := (37, [some (.ref 0)], [], [(0, 6, 6), (0, 1, 4), (0, 4, 6), (1, 1, 2048), (0, 0, 11), (1, 0, 24), (1, 0, 24), (1, 0, 24), (1, 0, 24), (1, 0, 16), (1, 0, 16), (1, 0, 16)], k_25, 11, 2213)) s_15_34 rfl ?_
  refine ev_next (S' := (38, [some (.ref 0)], [.ref 0], [(0, 6, 6), (0, 1, 4), (0, 4, 6), (1, 1, 2048), (0, 0, 11), (1, 0, 24), (1, 0, 24), (1, 0, 24), (1, 0, 24), (1, 0, 16), (1, 0, 16), (1, 0, 16)], k_25, 11, 2213)) s_15_37 rfl ?_
  refine ev_next (S' := (41, [some (.ref 0)], [.ref 12, .ref 0], [(0, 6, 6), (0, 1, 4), (0, 4, 6), (1, 1, 2048), (0, 0, 11), (1, 0, 24), (1, 0, 24), (1, 0, 24), (1, 0, 24), (1, 0, 16), (1, 0, 16), (1, 0, 16), (0, 2, 4)], k_26, 12, 2217)) s_15_38 rfl ?_
  refine ev_next (S' := (42, [some (.ref 0)], [.ref 12, .ref 12, .ref 0], [(0, 6, 6), (0, 1, 4), (0, 4, 6), (1, 1, 2048), (0, 0, 11), (1, 0, 24), (1, 0, 24), (1, 0, 24), (1, 0, 24), (1, 0, 16), (1, 0, 16), (1, 0, 16), (0, 2, 4)], k_26, 12, 2217)) s_15_41 rfl ?_
  refine ev_call (y := 19) (as := [.ref 12]) (r := [.ref 12, .ref 0]) s_15_42 rfl rfl rfl si_19_3 ?_
  show mm_ev E 15 (45, [some (.ref 0)], [.ref 12, .ref 0], [(0, 6, 6), (0, 1, 4), (0, 4, 6), (1, 1, 2048), (0, 0, 11), (1, 0, 24), (1, 0, 24), (1, 0, 24), (1, 0, 24), (1, 0, 16), (1, 0, 16), (1, 0, 16), (0, 2, 4), (1, 0, 12), (1, 0, 12), (1, 0, 4)], k_32, 15, 2245) _
  refine ev_next (S' := (48, [some (.ref 0)], [], [(0, 6, 6), (0, 1, 4), (0, 4, 6), (1, 1, 2048), (0, 0, 11), (1, 0, 24), (1, 0, 24), (1, 0, 24), (1, 0, 24), (1, 0, 16), (1, 0, 16), (1, 0, 16), (0, 2, 4), (1, 0, 12), (1, 0, 12), (1, 0, 4)], k_33, 15, 2245)) s_15_45 rfl ?_
  refine ev_next (S' := (49, [some (.ref 0)], [.ref 0], [(0, 6, 6), (0, 1, 4), (0, 4, 6), (1, 1, 2048), (0, 0, 11), (1, 0, 24), (1, 0, 24), (1, 0, 24), (1, 0, 24), (1, 0, 16), (1, 0, 16), (1, 0, 16), (0, 2, 4), (1, 0, 12), (1, 0, 12), (1, 0, 4)], k_33, 15, 2245)) s_15_48 rfl ?_
  refine ev_next (S' := (52, [some (.ref 0)], [.ref 16, .ref 0], [(0, 6, 6), (0, 1, 4), (0, 4, 6), (1, 1, 2048), (0, 0, 11), (1, 0, 24), (1, 0, 24), (1, 0, 24), (1, 0, 24), (1, 0, 16), (1, 0, 16), (1, 0, 16), (0, 2, 4), (1, 0, 12), (1, 0, 12), (1, 0, 4), (0, 5, 5)], k_34, 16, 2250)) s_15_49 rfl ?_
  refine ev_next (S' := (53, [some (.ref 0)], [.ref 16, .ref 16, .ref 0], [(0, 6, 6), (0, 1, 4), (0, 4, 6), (1, 1, 2048), (0, 0, 11), (1, 0, 24), (1, 0, 24), (1, 0, 24), (1, 0, 24), (1, 0, 16), (1, 0, 16), (1, 0, 16), (0, 2, 4), (1, 0, 12), (1, 0, 12), (1, 0, 4), (0, 5, 5)], k_34, 16, 2250)) s_15_52 rfl ?_
  refine ev_call (y := 20) (as := [.ref 16]) (r := [.ref 16, .ref 0]) s_15_53 rfl rfl rfl si_20_4 ?_
  show mm_ev E 15 (56, [some (.ref 0)], [.ref 16, .ref 0], [(0, 6, 6), (0, 1, 4), (0, 4, 6), (1, 1, 2048), (0, 0, 11), (1, 0, 24), (1, 0, 24), (1, 0, 24), (1, 0, 24), (1, 0, 16), (1, 0, 16), (1, 0, 16), (0, 2, 4), (1, 0, 12), (1, 0, 12), (1, 0, 4), (0, 5, 5), (1, 0, 252)], k_37, 17, 2502) _
  refine ev_next (S' := (59, [some (.ref 0)], [], [(0, 6, 6), (0, 1, 4), (0, 4, 6), (1, 1, 2048), (0, 0, 11), (1, 0, 24), (1, 0, 24), (1, 0, 24), (1, 0, 24), (1, 0, 16), (1, 0, 16), (1, 0, 16), (0, 2, 4), (1, 0, 12), (1, 0, 12), (1, 0, 4), (0, 5, 5), (1, 0, 252)], k_38, 17, 2502)) s_15_56 rfl ?_
  refine ev_next (S' := (60, [some (.ref 0)], [.ref 0], [(0, 6, 6), (0, 1, 4), (0, 4, 6), (1, 1, 2048), (0, 0, 11), (1, 0, 24), (1, 0, 24), (1, 0, 24), (1, 0, 24), (1, 0, 16), (1, 0, 16), (1, 0, 16), (0, 2, 4), (1, 0, 12), (1, 0, 12), (1, 0, 4), (0, 5, 5), (1, 0, 252)], k_38, 17, 2502)) s_15_59 rfl ?_
  refine ev_next (S' := (63, [some (.ref 0)], [.ref 18, .ref 0], [(0, 6, 6), (0, 1, 4), (0, 4, 6), (1, 1, 2048), (0, 0, 11), (1, 0, 24), (1, 0, 24), (1, 0, 24), (1, 0, 24), (1, 0, 16), (1, 0, 16), (1, 0, 16), (0, 2, 4), (1, 0, 12), (1, 0, 12), (1, 0, 4), (0, 5, 5), (1, 0, 252), (0, 3, 2)], k_39, 18, 2504)) s_15_60 rfl ?_
  refine ev_next (S' := (64, [some (.ref 0)], [.ref 18, .ref 18, .ref 0], [(0, 6, 6), (0, 1, 4), (0, 4, 6), (1, 1, 2048), (0, 0, 11), (1, 0, 24), (1, 0, 24), (1, 0, 24), (1, 0, 24), (1, 0, 16), (1, 0, 16), (1, 0, 16), (0, 2, 4), (1, 0, 12), (1, 0, 12), (1, 0, 4), (0, 5, 5), (1, 0, 252), (0, 3, 2)], k_39, 18, 2504)) s_15_63 rfl ?_
  refine ev_call (y := 21) (as := [.ref 18]) (r := [.ref 18, .ref 0]) s_15_64 rfl rfl rfl si_21_5 ?_
  show mm_ev E 15 (67, [some (.ref 0)], [.ref 18, .ref 0], [(0, 6, 6), (0, 1, 4), (0, 4, 6), (1, 1, 2048), (0, 0, 11), (1, 0, 24), (1, 0, 24), (1, 0, 24), (1, 0, 24), (1, 0, 16), (1, 0, 16), (1, 0, 16), (0, 2, 4), (1, 0, 12), (1, 0, 12), (1, 0, 4), (0, 5, 5), (1, 0, 252), (0, 3, 2), (1, 1, 448)], k_41, 19, 2952) _
  refine ev_next (S' := (70, [some (.ref 0)], [], [(0, 6, 6), (0, 1, 4), (0, 4, 6), (1, 1, 2048), (0, 0, 11), (1, 0, 24), (1, 0, 24), (1, 0, 24), (1, 0, 24), (1, 0, 16), (1, 0, 16), (1, 0, 16), (0, 2, 4), (1, 0, 12), (1, 0, 12), (1, 0, 4), (0, 5, 5), (1, 0, 252), (0, 3, 2), (1, 1, 448)], k_42, 19, 2952)) s_15_67 rfl ?_
  exact ev_end s_15_70 rfl rfl
set_option maxHeartbeats 4000000 in
theorem si_106_7 {E : mm_V} : mm_ev E 106 (0, [some (.ref 20)], [], [(0, 6, 6), (0, 1, 4), (0, 4, 6), (1, 1, 2048), (0, 0, 11), (1, 0, 24), (1, 0, 24), (1, 0, 24), (1, 0, 24), (1, 0, 16), (1, 0, 16), (1, 0, 16), (0, 2, 4), (1, 0, 12), (1, 0, 12), (1, 0, 4), (0, 5, 5), (1, 0, 252), (0, 3, 2), (1, 1, 448), (0, 7, 36)], k_43, 0, 0) (.inl none, [(0, 6, 6), (0, 1, 4), (0, 4, 6), (1, 1, 2048), (0, 0, 11), (1, 0, 24), (1, 0, 24), (1, 0, 24), (1, 0, 24), (1, 0, 16), (1, 0, 16), (1, 0, 16), (0, 2, 4), (1, 0, 12), (1, 0, 12), (1, 0, 4), (0, 5, 5), (1, 0, 252), (0, 3, 2), (1, 1, 448), (0, 7, 36), (1, 0, 2048), (1, 0, 48), (1, 0, 48), (1, 0, 48), (1, 0, 48), (1, 0, 17), (1, 0, 17), (1, 0, 17), (1, 0, 12), (1, 0, 4096), (1, 0, 1024), (1, 0, 12), (1, 0, 12), (1, 0, 12), (1, 0, 4), (1, 0, 4)], k_75, 16, 7467) := by
  refine ev_next (S' := (1, [some (.ref 20)], [.ref 20], [(0, 6, 6), (0, 1, 4), (0, 4, 6), (1, 1, 2048), (0, 0, 11), (1, 0, 24), (1, 0, 24), (1, 0, 24), (1, 0, 24), (1, 0, 16), (1, 0, 16), (1, 0, 16), (0, 2, 4), (1, 0, 12), (1, 0, 12), (1, 0, 4), (0, 5, 5), (1, 0, 252), (0, 3, 2), (1, 1, 448), (0, 7, 36)], k_43, 0, 0)) s_106_0 rfl ?_
  refine ev_next (S' := (4, [some (.ref 20)], [], [(0, 6, 6), (0, 1, 4), (0, 4, 6), (1, 1, 2048), (0, 0, 11), (1, 0, 24), (1, 0, 24), (1, 0, 24), (1, 0, 24), (1, 0, 16), (1, 0, 16), (1, 0, 16), (0, 2, 4), (1, 0, 12), (1, 0, 12), (1, 0, 4), (0, 5, 5), (1, 0, 252), (0, 3, 2), (1, 1, 448), (0, 7, 36)], k_43, 0, 0)) s_106_1 rfl ?_
  refine ev_next (S' := (5, [some (.ref 20)], [.ref 20], [(0, 6, 6), (0, 1, 4), (0, 4, 6), (1, 1, 2048), (0, 0, 11), (1, 0, 24), (1, 0, 24), (1, 0, 24), (1, 0, 24), (1, 0, 16), (1, 0, 16), (1, 0, 16), (0, 2, 4), (1, 0, 12), (1, 0, 12), (1, 0, 4), (0, 5, 5), (1, 0, 252), (0, 3, 2), (1, 1, 448), (0, 7, 36)], k_43, 0, 0)) s_106_4 rfl ?_
  refine ev_next (S' := (8, [some (.ref 20)], [.int (2048), .ref 20], [(0, 6, 6), (0, 1, 4), (0, 4, 6), (1, 1, 2048), (0, 0, 11), (1, 0, 24), (1, 0, 24), (1, 0, 24), (1, 0, 24), (1, 0, 16), (1, 0, 16), (1, 0, 16), (0, 2, 4), (1, 0, 12), (1, 0, 12), (1, 0, 4), (0, 5, 5), (1, 0, 252), (0, 3, 2), (1, 1, 448), (0, 7, 36)], k_43, 0, 0)) s_106_5 rfl ?_
  refine ev_next (S' := (10, [some (.ref 20)], [.ref 21, .ref 20], [(0, 6, 6), (0, 1, 4), (0, 4, 6), (1, 1, 2048), (0, 0, 11), (1, 0, 24), (1, 0, 24), (1, 0, 24), (1, 0, 24), (1, 0, 16), (1, 0, 16), (1, 0, 16), (0, 2, 4), (1, 0, 12), (1, 0, 12), (1, 0, 4), (0, 5, 5), (1, 0, 252), (0, 3, 2), (1, 1, 448), (0, 7, 36), (1, 0, 2048)], k_44, 1, 2048)) s_106_8 rfl ?_
  refine ev_next (S' := (13, [some (.ref 20)], [], [(0, 6, 6), (0, 1, 4), (0, 4, 6), (1, 1, 2048), (0, 0, 11), (1, 0, 24), (1, 0, 24), (1, 0, 24), (1, 0, 24), (1, 0, 16), (1, 0, 16), (1, 0, 16), (0, 2, 4), (1, 0, 12), (1, 0, 12), (1, 0, 4), (0, 5, 5), (1, 0, 252), (0, 3, 2), (1, 1, 448), (0, 7, 36), (1, 0, 2048)], k_45, 1, 2048)) s_106_10 rfl ?_
  refine ev_next (S' := (14, [some (.ref 20)], [.ref 20], [(0, 6, 6), (0, 1, 4), (0, 4, 6), (1, 1, 2048), (0, 0, 11), (1, 0, 24), (1, 0, 24), (1, 0, 24), (1, 0, 24), (1, 0, 16), (1, 0, 16), (1, 0, 16), (0, 2, 4), (1, 0, 12), (1, 0, 12), (1, 0, 4), (0, 5, 5), (1, 0, 252), (0, 3, 2), (1, 1, 448), (0, 7, 36), (1, 0, 2048)], k_45, 1, 2048)) s_106_13 rfl ?_
  refine ev_next (S' := (16, [some (.ref 20)], [.int (48), .ref 20], [(0, 6, 6), (0, 1, 4), (0, 4, 6), (1, 1, 2048), (0, 0, 11), (1, 0, 24), (1, 0, 24), (1, 0, 24), (1, 0, 24), (1, 0, 16), (1, 0, 16), (1, 0, 16), (0, 2, 4), (1, 0, 12), (1, 0, 12), (1, 0, 4), (0, 5, 5), (1, 0, 252), (0, 3, 2), (1, 1, 448), (0, 7, 36), (1, 0, 2048)], k_45, 1, 2048)) s_106_14 rfl ?_
  refine ev_next (S' := (18, [some (.ref 20)], [.ref 22, .ref 20], [(0, 6, 6), (0, 1, 4), (0, 4, 6), (1, 1, 2048), (0, 0, 11), (1, 0, 24), (1, 0, 24), (1, 0, 24), (1, 0, 24), (1, 0, 16), (1, 0, 16), (1, 0, 16), (0, 2, 4), (1, 0, 12), (1, 0, 12), (1, 0, 4), (0, 5, 5), (1, 0, 252), (0, 3, 2), (1, 1, 448), (0, 7, 36), (1, 0, 2048), (1, 0, 48)], k_46, 2, 2096)) s_106_16 rfl ?_
  refine ev_next (S' := (21, [some (.ref 20)], [], [(0, 6, 6), (0, 1, 4), (0, 4, 6), (1, 1, 2048), (0, 0, 11), (1, 0, 24), (1, 0, 24), (1, 0, 24), (1, 0, 24), (1, 0, 16), (1, 0, 16), (1, 0, 16), (0, 2, 4), (1, 0, 12), (1, 0, 12), (1, 0, 4), (0, 5, 5), (1, 0, 252), (0, 3, 2), (1, 1, 448), (0, 7, 36), (1, 0, 2048), (1, 0, 48)], k_47, 2, 2096)) s_106_18 rfl ?_
  refine ev_next (S' := (22, [some (.ref 20)], [.ref 20], [(0, 6, 6), (0, 1, 4), (0, 4, 6), (1, 1, 2048), (0, 0, 11), (1, 0, 24), (1, 0, 24), (1, 0, 24), (1, 0, 24), (1, 0, 16), (1, 0, 16), (1, 0, 16), (0, 2, 4), (1, 0, 12), (1, 0, 12), (1, 0, 4), (0, 5, 5), (1, 0, 252), (0, 3, 2), (1, 1, 448), (0, 7, 36), (1, 0, 2048), (1, 0, 48)], k_47, 2, 2096)) s_106_21 rfl ?_
  refine ev_next (S' := (24, [some (.ref 20)], [.int (48), .ref 20], [(0, 6, 6), (0, 1, 4), (0, 4, 6), (1, 1, 2048), (0, 0, 11), (1, 0, 24), (1, 0, 24), (1, 0, 24), (1, 0, 24), (1, 0, 16), (1, 0, 16), (1, 0, 16), (0, 2, 4), (1, 0, 12), (1, 0, 12), (1, 0, 4), (0, 5, 5), (1, 0, 252), (0, 3, 2), (1, 1, 448), (0, 7, 36), (1, 0, 2048), (1, 0, 48)], k_47, 2, 2096)) s_106_22 rfl ?_
  refine ev_next (S' := (26, [some (.ref 20)], [.ref 23, .ref 20], [(0, 6, 6), (0, 1, 4), (0, 4, 6), (1, 1, 2048), (0, 0, 11), (1, 0, 24), (1, 0, 24), (1, 0, 24), (1, 0, 24), (1, 0, 16), (1, 0, 16), (1, 0, 16), (0, 2, 4), (1, 0, 12), (1, 0, 12), (1, 0, 4), (0, 5, 5), (1, 0, 252), (0, 3, 2), (1, 1, 448), (0, 7, 36), (1, 0, 2048), (1, 0, 48), (1, 0, 48)], k_48, 3, 2144)) s_106_24 rfl ?_
  refine ev_next (S' := (29, [some (.ref 20)], [], [(0, 6, 6), (0, 1, 4), (0, 4, 6), (1, 1, 2048), (0, 0, 11), (1, 0, 24), (1, 0, 24), (1, 0, 24), (1, 0, 24), (1, 0, 16), (1, 0, 16), (1, 0, 16), (0, 2, 4), (1, 0, 12), (1, 0, 12), (1, 0, 4), (0, 5, 5), (1, 0, 252), (0, 3, 2), (1, 1, 448), (0, 7, 36), (1, 0, 2048), (1, 0, 48), (1, 0, 48)], k_49, 3, 2144)) s_106_26 rfl ?_
  refine ev_next (S' := (30, [some (.ref 20)], [.ref 20], [(0, 6, 6), (0, 1, 4), (0, 4, 6), (1, 1, 2048), (0, 0, 11), (1, 0, 24), (1, 0, 24), (1, 0, 24), (1, 0, 24), (1, 0, 16), (1, 0, 16), (1, 0, 16), (0, 2, 4), (1, 0, 12), (1, 0, 12), (1, 0, 4), (0, 5, 5), (1, 0, 252), (0, 3, 2), (1, 1, 448), (0, 7, 36), (1, 0, 2048), (1, 0, 48), (1, 0, 48)], k_49, 3, 2144)) s_106_29 rfl ?_
  refine ev_next (S' := (32, [some (.ref 20)], [.int (48), .ref 20], [(0, 6, 6), (0, 1, 4), (0, 4, 6), (1, 1, 2048), (0, 0, 11), (1, 0, 24), (1, 0, 24), (1, 0, 24), (1, 0, 24), (1, 0, 16), (1, 0, 16), (1, 0, 16), (0, 2, 4), (1, 0, 12), (1, 0, 12), (1, 0, 4), (0, 5, 5), (1, 0, 252), (0, 3, 2), (1, 1, 448), (0, 7, 36), (1, 0, 2048), (1, 0, 48), (1, 0, 48)], k_49, 3, 2144)) s_106_30 rfl ?_
  refine ev_next (S' := (34, [some (.ref 20)], [.ref 24, .ref 20], [(0, 6, 6), (0, 1, 4), (0, 4, 6), (1, 1, 2048), (0, 0, 11), (1, 0, 24), (1, 0, 24), (1, 0, 24), (1, 0, 24), (1, 0, 16), (1, 0, 16), (1, 0, 16), (0, 2, 4), (1, 0, 12), (1, 0, 12), (1, 0, 4), (0, 5, 5), (1, 0, 252), (0, 3, 2), (1, 1, 448), (0, 7, 36), (1, 0, 2048), (1, 0, 48), (1, 0, 48), (1, 0, 48)], k_50, 4, 2192)) s_106_32 rfl ?_
  refine ev_next (S' := (37, [some (.ref 20)], [], [(0, 6, 6), (0, 1, 4), (0, 4, 6), (1, 1, 2048), (0, 0, 11), (1, 0, 24), (1, 0, 24), (1, 0, 24), (1, 0, 24), (1, 0, 16), (1, 0, 16), (1, 0, 16), (0, 2, 4), (1, 0, 12), (1, 0, 12), (1, 0, 4), (0, 5, 5), (1, 0, 252), (0, 3, 2), (1, 1, 448), (0, 7, 36), (1, 0, 2048), (1, 0, 48), (1, 0, 48), (1, 0, 48)], k_51, 4, 2192)) s_106_34 rfl ?_
  refine ev_next (S' := (38, [some (.ref 20)], [.ref 20], [(0, 6, 6), (0, 1, 4), (0, 4, 6), (1, 1, 2048), (0, 0, 11), (1, 0, 24), (1, 0, 24), (1, 0, 24), (1, 0, 24), (1, 0, 16), (1, 0, 16), (1, 0, 16), (0, 2, 4), (1, 0, 12), (1, 0, 12), (1, 0, 4), (0, 5, 5), (1, 0, 252), (0, 3, 2), (1, 1, 448), (0, 7, 36), (1, 0, 2048), (1, 0, 48), (1, 0, 48), (1, 0, 48)], k_51, 4, 2192)) s_106_37 rfl ?_
  refine ev_next (S' := (40, [some (.ref 20)], [.int (48), .ref 20], [(0, 6, 6), (0, 1, 4), (0, 4, 6), (1, 1, 2048), (0, 0, 11), (1, 0, 24), (1, 0, 24), (1, 0, 24), (1, 0, 24), (1, 0, 16), (1, 0, 16), (1, 0, 16), (0, 2, 4), (1, 0, 12), (1, 0, 12), (1, 0, 4), (0, 5, 5), (1, 0, 252), (0, 3, 2), (1, 1, 448), (0, 7, 36), (1, 0, 2048), (1, 0, 48), (1, 0, 48), (1, 0, 48)], k_51, 4, 2192)) s_106_38 rfl ?_
  refine ev_next (S' := (42, [some (.ref 20)], [.ref 25, .ref 20], [(0, 6, 6), (0, 1, 4), (0, 4, 6), (1, 1, 2048), (0, 0, 11), (1, 0, 24), (1, 0, 24), (1, 0, 24), (1, 0, 24), (1, 0, 16), (1, 0, 16), (1, 0, 16), (0, 2, 4), (1, 0, 12), (1, 0, 12), (1, 0, 4), (0, 5, 5), (1, 0, 252), (0, 3, 2), (1, 1, 448), (0, 7, 36), (1, 0, 2048), (1, 0, 48), (1, 0, 48), (1, 0, 48), (1, 0, 48)], k_52, 5, 2240)) s_106_40 rfl ?_
  refine ev_next (S' := (45, [some (.ref 20)], [], [(0, 6, 6), (0, 1, 4), (0, 4, 6), (1, 1, 2048), (0, 0, 11), (1, 0, 24), (1, 0, 24), (1, 0, 24), (1, 0, 24), (1, 0, 16), (1, 0, 16), (1, 0, 16), (0, 2, 4), (1, 0, 12), (1, 0, 12), (1, 0, 4), (0, 5, 5), (1, 0, 252), (0, 3, 2), (1, 1, 448), (0, 7, 36), (1, 0, 2048), (1, 0, 48), (1, 0, 48), (1, 0, 48), (1, 0, 48)], k_53, 5, 2240)) s_106_42 rfl ?_
  refine ev_next (S' := (46, [some (.ref 20)], [.ref 20], [(0, 6, 6), (0, 1, 4), (0, 4, 6), (1, 1, 2048), (0, 0, 11), (1, 0, 24), (1, 0, 24), (1, 0, 24), (1, 0, 24), (1, 0, 16), (1, 0, 16), (1, 0, 16), (0, 2, 4), (1, 0, 12), (1, 0, 12), (1, 0, 4), (0, 5, 5), (1, 0, 252), (0, 3, 2), (1, 1, 448), (0, 7, 36), (1, 0, 2048), (1, 0, 48), (1, 0, 48), (1, 0, 48), (1, 0, 48)], k_53, 5, 2240)) s_106_45 rfl ?_
  refine ev_next (S' := (48, [some (.ref 20)], [.int (17), .ref 20], [(0, 6, 6), (0, 1, 4), (0, 4, 6), (1, 1, 2048), (0, 0, 11), (1, 0, 24), (1, 0, 24), (1, 0, 24), (1, 0, 24), (1, 0, 16), (1, 0, 16), (1, 0, 16), (0, 2, 4), (1, 0, 12), (1, 0, 12), (1, 0, 4), (0, 5, 5), (1, 0, 252), (0, 3, 2), (1, 1, 448), (0, 7, 36), (1, 0, 2048), (1, 0, 48), (1, 0, 48), (1, 0, 48), (1, 0, 48)], k_53, 5, 2240)) s_106_46 rfl ?_
  refine ev_next (S' := (50, [some (.ref 20)], [.ref 26, .ref 20], [(0, 6, 6), (0, 1, 4), (0, 4, 6), (1, 1, 2048), (0, 0, 11), (1, 0, 24), (1, 0, 24), (1, 0, 24), (1, 0, 24), (1, 0, 16), (1, 0, 16), (1, 0, 16), (0, 2, 4), (1, 0, 12), (1, 0, 12), (1, 0, 4), (0, 5, 5), (1, 0, 252), (0, 3, 2), (1, 1, 448), (0, 7, 36), (1, 0, 2048), (1, 0, 48), (1, 0, 48), (1, 0, 48), (1, 0, 48), (1, 0, 17)], k_54, 6, 2257)) s_106_48 rfl ?_
  refine ev_next (S' := (53, [some (.ref 20)], [], [(0, 6, 6), (0, 1, 4), (0, 4, 6), (1, 1, 2048), (0, 0, 11), (1, 0, 24), (1, 0, 24), (1, 0, 24), (1, 0, 24), (1, 0, 16), (1, 0, 16), (1, 0, 16), (0, 2, 4), (1, 0, 12), (1, 0, 12), (1, 0, 4), (0, 5, 5), (1, 0, 252), (0, 3, 2), (1, 1, 448), (0, 7, 36), (1, 0, 2048), (1, 0, 48), (1, 0, 48), (1, 0, 48), (1, 0, 48), (1, 0, 17)], k_55, 6, 2257)) s_106_50 rfl ?_
  refine ev_next (S' := (54, [some (.ref 20)], [.ref 20], [(0, 6, 6), (0, 1, 4), (0, 4, 6), (1, 1, 2048), (0, 0, 11), (1, 0, 24), (1, 0, 24), (1, 0, 24), (1, 0, 24), (1, 0, 16), (1, 0, 16), (1, 0, 16), (0, 2, 4), (1, 0, 12), (1, 0, 12), (1, 0, 4), (0, 5, 5), (1, 0, 252), (0, 3, 2), (1, 1, 448), (0, 7, 36), (1, 0, 2048), (1, 0, 48), (1, 0, 48), (1, 0, 48), (1, 0, 48), (1, 0, 17)], k_55, 6, 2257)) s_106_53 rfl ?_
  refine ev_next (S' := (56, [some (.ref 20)], [.int (17), .ref 20], [(0, 6, 6), (0, 1, 4), (0, 4, 6), (1, 1, 2048), (0, 0, 11), (1, 0, 24), (1, 0, 24), (1, 0, 24), (1, 0, 24), (1, 0, 16), (1, 0, 16), (1, 0, 16), (0, 2, 4), (1, 0, 12), (1, 0, 12), (1, 0, 4), (0, 5, 5), (1, 0, 252), (0, 3, 2), (1, 1, 448), (0, 7, 36), (1, 0, 2048), (1, 0, 48), (1, 0, 48), (1, 0, 48), (1, 0, 48), (1, 0, 17)], k_55, 6, 2257)) s_106_54 rfl ?_
  refine ev_next (S' := (58, [some (.ref 20)], [.ref 27, .ref 20], [(0, 6, 6), (0, 1, 4), (0, 4, 6), (1, 1, 2048), (0, 0, 11), (1, 0, 24), (1, 0, 24), (1, 0, 24), (1, 0, 24), (1, 0, 16), (1, 0, 16), (1, 0, 16), (0, 2, 4), (1, 0, 12), (1, 0, 12), (1, 0, 4), (0, 5, 5), (1, 0, 252), (0, 3, 2), (1, 1, 448), (0, 7, 36), (1, 0, 2048), (1, 0, 48), (1, 0, 48), (1, 0, 48), (1, 0, 48), (1, 0, 17), (1, 0, 17)], k_56, 7, 2274)) s_106_56 rfl ?_
  refine ev_next (S' := (61, [some (.ref 20)], [], [(0, 6, 6), (0, 1, 4), (0, 4, 6), (1, 1, 2048), (0, 0, 11), (1, 0, 24), (1, 0, 24), (1, 0, 24), (1, 0, 24), (1, 0, 16), (1, 0, 16), (1, 0, 16), (0, 2, 4), (1, 0, 12), (1, 0, 12), (1, 0, 4), (0, 5, 5), (1, 0, 252), (0, 3, 2), (1, 1, 448), (0, 7, 36), (1, 0, 2048), (1, 0, 48), (1, 0, 48), (1, 0, 48), (1, 0, 48), (1, 0, 17), (1, 0, 17)], k_57, 7, 2274)) s_106_58 rfl ?_
  refine ev_next (S' := (62, [some (.ref 20)], [.ref 20], [(0, 6, 6), (0, 1, 4), (0, 4, 6), (1, 1, 2048), (0, 0, 11), (1, 0, 24), (1, 0, 24), (1, 0, 24), (1, 0, 24), (1, 0, 16), (1, 0, 16), (1, 0, 16), (0, 2, 4), (1, 0, 12), (1, 0, 12), (1, 0, 4), (0, 5, 5), (1, 0, 252), (0, 3, 2), (1, 1, 448), (0, 7, 36), (1, 0, 2048), (1, 0, 48), (1, 0, 48), (1, 0, 48), (1, 0, 48), (1, 0, 17), (1, 0, 17)], k_57, 7, 2274)) s_106_61 rfl ?_
  refine ev_next (S' := (64, [some (.ref 20)], [.int (17), .ref 20], [(0, 6, 6), (0, 1, 4), (0, 4, 6), (1, 1, 2048), (0, 0, 11), (1, 0, 24), (1, 0, 24), (1, 0, 24), (1, 0, 24), (1, 0, 16), (1, 0, 16), (1, 0, 16), (0, 2, 4), (1, 0, 12), (1, 0, 12), (1, 0, 4), (0, 5, 5), (1, 0, 252), (0, 3, 2), (1, 1, 448), (0, 7, 36), (1, 0, 2048), (1, 0, 48), (1, 0, 48), (1, 0, 48), (1, 0, 48), (1, 0, 17), (1, 0, 17)], k_57, 7, 2274)) s_106_62 rfl ?_
  refine ev_next (S' := (66, [some (.ref 20)], [.ref 28, .ref 20], [(0, 6, 6), (0, 1, 4), (0, 4, 6), (1, 1, 2048), (0, 0, 11), (1, 0, 24), (1, 0, 24), (1, 0, 24), (1, 0, 24), (1, 0, 16), (1, 0, 16), (1, 0, 16), (0, 2, 4), (1, 0, 12), (1, 0, 12), (1, 0, 4), (0, 5, 5), (1, 0, 252), (0, 3, 2), (1, 1, 448), (0, 7, 36), (1, 0, 2048), (1, 0, 48), (1, 0, 48), (1, 0, 48), (1, 0, 48), (1, 0, 17), (1, 0, 17), (1, 0, 17)], k_58, 8, 2291)) s_106_64 rfl ?_
  refine ev_next (S' := (69, [some (.ref 20)], [], [(0, 6, 6), (0, 1, 4), (0, 4, 6), (1, 1, 2048), (0, 0, 11), (1, 0, 24), (1, 0, 24), (1, 0, 24), (1, 0, 24), (1, 0, 16), (1, 0, 16), (1, 0, 16), (0, 2, 4), (1, 0, 12), (1, 0, 12), (1, 0, 4), (0, 5, 5), (1, 0, 252), (0, 3, 2), (1, 1, 448), (0, 7, 36), (1, 0, 2048), (1, 0, 48), (1, 0, 48), (1, 0, 48), (1, 0, 48), (1, 0, 17), (1, 0, 17), (1, 0, 17)], k_59, 8, 2291)) s_106_66 rfl ?_
  refine ev_next (S' := (70, [some (.ref 20)], [.ref 20], [(0, 6, 6), (0, 1, 4), (0, 4, 6), (1, 1, 2048), (0, 0, 11), (1, 0, 24), (1, 0, 24), (1, 0, 24), (1, 0, 24), (1, 0, 16), (1, 0, 16), (1, 0, 16), (0, 2, 4), (1, 0, 12), (1, 0, 12), (1, 0, 4), (0, 5, 5), (1, 0, 252), (0, 3, 2), (1, 1, 448), (0, 7, 36), (1, 0, 2048), (1, 0, 48), (1, 0, 48), (1, 0, 48), (1, 0, 48), (1, 0, 17), (1, 0, 17), (1, 0, 17)], k_59, 8, 2291)) s_106_69 rfl ?_
  refine ev_next (S' := (72, [some (.ref 20)], [.int (12), .ref 20], [(0, 6, 6), (0, 1, 4), (0, 4, 6), (1, 1, 2048), (0, 0, 11), (1, 0, 24), (1, 0, 24), (1, 0, 24), (1, 0, 24), (1, 0, 16), (1, 0, 16), (1, 0, 16), (0, 2, 4), (1, 0, 12), (1, 0, 12), (1, 0, 4), (0, 5, 5), (1, 0, 252), (0, 3, 2), (1, 1, 448), (0, 7, 36), (1, 0, 2048), (1, 0, 48), (1, 0, 48), (1, 0, 48), (1, 0, 48), (1, 0, 17), (1, 0, 17), (1, 0, 17)], k_59, 8, 2291)) s_106_70 rfl ?_
  refine ev_next (S' := (74, [some (.ref 20)], [.ref 29, .ref 20], [(0, 6, 6), (0, 1, 4), (0, 4, 6), (1, 1, 2048), (0, 0, 11), (1, 0, 24), (1, 0, 24), (1, 0, 24), (1, 0, 24), (1, 0, 16), (1, 0, 16), (1, 0, 16), (0, 2, 4), (1, 0, 12), (1, 0, 12), (1, 0, 4), (0, 5, 5), (1, 0, 252), (0, 3, 2), (1, 1, 448), (0, 7, 36), (1, 0, 2048), (1, 0, 48), (1, 0, 48), (1, 0, 48), (1, 0, 48), (1, 0, 17), (1, 0, 17), (1, 0, 17), (1, 0, 12)], k_60, 9, 2303)) s_106_72 rfl ?_
  refine ev_next (S' := (77, [some (.ref 20)], [], [(0, 6, 6), (0, 1, 4), (0, 4, 6), (1, 1, 2048), (0, 0, 11), (1, 0, 24), (1, 0, 24), (1, 0, 24), (1, 0, 24), (1, 0, 16), (1, 0, 16), (1, 0, 16), (0, 2, 4), (1, 0, 12), (1, 0, 12), (1, 0, 4), (0, 5, 5), (1, 0, 252), (0, 3, 2), (1, 1, 448), (0, 7, 36), (1, 0, 2048), (1, 0, 48), (1, 0, 48), (1, 0, 48), (1, 0, 48), (1, 0, 17), (1, 0, 17), (1, 0, 17), (1, 0, 12)], k_61, 9, 2303)) s_106_74 rfl ?_
  refine ev_next (S' := (78, [some (.ref 20)], [.ref 20], [(0, 6, 6), (0, 1, 4), (0, 4, 6), (1, 1, 2048), (0, 0, 11), (1, 0, 24), (1, 0, 24), (1, 0, 24), (1, 0, 24), (1, 0, 16), (1, 0, 16), (1, 0, 16), (0, 2, 4), (1, 0, 12), (1, 0, 12), (1, 0, 4), (0, 5, 5), (1, 0, 252), (0, 3, 2), (1, 1, 448), (0, 7, 36), (1, 0, 2048), (1, 0, 48), (1, 0, 48), (1, 0, 48), (1, 0, 48), (1, 0, 17), (1, 0, 17), (1, 0, 17), (1, 0, 12)], k_61, 9, 2303)) s_106_77 rfl ?_
  refine ev_next (S' := (81, [some (.ref 20)], [.int (4096), .ref 20], [(0, 6, 6), (0, 1, 4), (0, 4, 6), (1, 1, 2048), (0, 0, 11), (1, 0, 24), (1, 0, 24), (1, 0, 24), (1, 0, 24), (1, 0, 16), (1, 0, 16), (1, 0, 16), (0, 2, 4), (1, 0, 12), (1, 0, 12), (1, 0, 4), (0, 5, 5), (1, 0, 252), (0, 3, 2), (1, 1, 448), (0, 7, 36), (1, 0, 2048), (1, 0, 48), (1, 0, 48), (1, 0, 48), (1, 0, 48), (1, 0, 17), (1, 0, 17), (1, 0, 17), (1, 0, 12)], k_61, 9, 2303)) s_106_78 rfl ?_
  refine ev_next (S' := (83, [some (.ref 20)], [.ref 30, .ref 20], [(0, 6, 6), (0, 1, 4), (0, 4, 6), (1, 1, 2048), (0, 0, 11), (1, 0, 24), (1, 0, 24), (1, 0, 24), (1, 0, 24), (1, 0, 16), (1, 0, 16), (1, 0, 16), (0, 2, 4), (1, 0, 12), (1, 0, 12), (1, 0, 4), (0, 5, 5), (1, 0, 252), (0, 3, 2), (1, 1, 448), (0, 7, 36), (1, 0, 2048), (1, 0, 48), (1, 0, 48), (1, 0, 48), (1, 0, 48), (1, 0, 17), (1, 0, 17), (1, 0, 17), (1, 0, 12), (1, 0, 4096)], k_62, 10, 6399)) s_106_81 rfl ?_
  refine ev_next (S' := (86, [some (.ref 20)], [], [(0, 6, 6), (0, 1, 4), (0, 4, 6), (1, 1, 2048), (0, 0, 11), (1, 0, 24), (1, 0, 24), (1, 0, 24), (1, 0, 24), (1, 0, 16), (1, 0, 16), (1, 0, 16), (0, 2, 4), (1, 0, 12), (1, 0, 12), (1, 0, 4), (0, 5, 5), (1, 0, 252), (0, 3, 2), (1, 1, 448), (0, 7, 36), (1, 0, 2048), (1, 0, 48), (1, 0, 48), (1, 0, 48), (1, 0, 48), (1, 0, 17), (1, 0, 17), (1, 0, 17), (1, 0, 12), (1, 0, 4096)], k_63, 10, 6399)) s_106_83 rfl ?_
  refine ev_next (S' := (87, [some (.ref 20)], [.ref 20], [(0, 6, 6), (0, 1, 4), (0, 4, 6), (1, 1, 2048), (0, 0, 11), (1, 0, 24), (1, 0, 24), (1, 0, 24), (1, 0, 24), (1, 0, 16), (1, 0, 16), (1, 0, 16), (0, 2, 4), (1, 0, 12), (1, 0, 12), (1, 0, 4), (0, 5, 5), (1, 0, 252), (0, 3, 2), (1, 1, 448), (0, 7, 36), (1, 0, 2048), (1, 0, 48), (1, 0, 48), (1, 0, 48), (1, 0, 48), (1, 0, 17), (1, 0, 17), (1, 0, 17), (1, 0, 12), (1, 0, 4096)], k_63, 10, 6399)) s_106_86 rfl ?_
  refine ev_next (S' := (90, [some (.ref 20)], [.int (1024), .ref 20], [(0, 6, 6), (0, 1, 4), (0, 4, 6), (1, 1, 2048), (0, 0, 11), (1, 0, 24), (1, 0, 24), (1, 0, 24), (1, 0, 24), (1, 0, 16), (1, 0, 16), (1, 0, 16), (0, 2, 4), (1, 0, 12), (1, 0, 12), (1, 0, 4), (0, 5, 5), (1, 0, 252), (0, 3, 2), (1, 1, 448), (0, 7, 36), (1, 0, 2048), (1, 0, 48), (1, 0, 48), (1, 0, 48), (1, 0, 48), (1, 0, 17), (1, 0, 17), (1, 0, 17), (1, 0, 12), (1, 0, 4096)], k_63, 10, 6399)) s_106_87 rfl ?_
  refine ev_next (S' := (92, [some (.ref 20)], [.ref 31, .ref 20], [(0, 6, 6), (0, 1, 4), (0, 4, 6), (1, 1, 2048), (0, 0, 11), (1, 0, 24), (1, 0, 24), (1, 0, 24), (1, 0, 24), (1, 0, 16), (1, 0, 16), (1, 0, 16), (0, 2, 4), (1, 0, 12), (1, 0, 12), (1, 0, 4), (0, 5, 5), (1, 0, 252), (0, 3, 2), (1, 1, 448), (0, 7, 36), (1, 0, 2048), (1, 0, 48), (1, 0, 48), (1, 0, 48), (1, 0, 48), (1, 0, 17), (1, 0, 17), (1, 0, 17), (1, 0, 12), (1, 0, 4096), (1, 0, 1024)], k_64, 11, 7423)) s_106_90 rfl ?_
  refine ev_next (S' := (95, [some (.ref 20)], [], [(0, 6, 6), (0, 1, 4), (0, 4, 6), (1, 1, 2048), (0, 0, 11), (1, 0, 24), (1, 0, 24), (1, 0, 24), (1, 0, 24), (1, 0, 16), (1, 0, 16), (1, 0, 16), (0, 2, 4), (1, 0, 12), (1, 0, 12), (1, 0, 4), (0, 5, 5), (1, 0, 252), (0, 3, 2), (1, 1, 448), (0, 7, 36), (1, 0, 2048), (1, 0, 48), (1, 0, 48), (1, 0, 48), (1, 0, 48), (1, 0, 17), (1, 0, 17), (1, 0, 17), (1, 0, 12), (1, 0, 4096), (1, 0, 1024)], k_65, 11, 7423)) s_106_92 rfl ?_
  refine ev_next (S' := (96, [some (.ref 20)], [.ref 20], [(0, 6, 6), (0, 1, 4), (0, 4, 6), (1, 1, 2048), (0, 0, 11), (1, 0, 24), (1, 0, 24), (1, 0, 24), (1, 0, 24), (1, 0, 16), (1, 0, 16), (1, 0, 16), (0, 2, 4), (1, 0, 12), (1, 0, 12), (1, 0, 4), (0, 5, 5), (1, 0, 252), (0, 3, 2), (1, 1, 448), (0, 7, 36), (1, 0, 2048), (1, 0, 48), (1, 0, 48), (1, 0, 48), (1, 0, 48), (1, 0, 17), (1, 0, 17), (1, 0, 17), (1, 0, 12), (1, 0, 4096), (1, 0, 1024)], k_65, 11, 7423)) s_106_95 rfl ?_
  refine ev_next (S' := (98, [some (.ref 20)], [.int (12), .ref 20], [(0, 6, 6), (0, 1, 4), (0, 4, 6), (1, 1, 2048), (0, 0, 11), (1, 0, 24), (1, 0, 24), (1, 0, 24), (1, 0, 24), (1, 0, 16), (1, 0, 16), (1, 0, 16), (0, 2, 4), (1, 0, 12), (1, 0, 12), (1, 0, 4), (0, 5, 5), (1, 0, 252), (0, 3, 2), (1, 1, 448), (0, 7, 36), (1, 0, 2048), (1, 0, 48), (1, 0, 48), (1, 0, 48), (1, 0, 48), (1, 0, 17), (1, 0, 17), (1, 0, 17), (1, 0, 12), (1, 0, 4096), (1, 0, 1024)], k_65, 11, 7423)) s_106_96 rfl ?_
  refine ev_next (S' := (100, [some (.ref 20)], [.ref 32, .ref 20], [(0, 6, 6), (0, 1, 4), (0, 4, 6), (1, 1, 2048), (0, 0, 11), (1, 0, 24), (1, 0, 24), (1, 0, 24), (1, 0, 24), (1, 0, 16), (1, 0, 16), (1, 0, 16), (0, 2, 4), (1, 0, 12), (1, 0, 12), (1, 0, 4), (0, 5, 5), (1, 0, 252), (0, 3, 2), (1, 1, 448), (0, 7, 36), (1, 0, 2048), (1, 0, 48), (1, 0, 48), (1, 0, 48), (1, 0, 48), (1, 0, 17), (1, 0, 17), (1, 0, 17), (1, 0, 12), (1, 0, 4096), (1, 0, 1024), (1, 0, 12)], k_66, 12, 7435)) s_106_98 rfl ?_
  refine ev_next (S' := (103, [some (.ref 20)], [], [(0, 6, 6), (0, 1, 4), (0, 4, 6), (1, 1, 2048), (0, 0, 11), (1, 0, 24), (1, 0, 24), (1, 0, 24), (1, 0, 24), (1, 0, 16), (1, 0, 16), (1, 0, 16), (0, 2, 4), (1, 0, 12), (1, 0, 12), (1, 0, 4), (0, 5, 5), (1, 0, 252), (0, 3, 2), (1, 1, 448), (0, 7, 36), (1, 0, 2048), (1, 0, 48), (1, 0, 48), (1, 0, 48), (1, 0, 48), (1, 0, 17), (1, 0, 17), (1, 0, 17), (1, 0, 12), (1, 0, 4096), (1, 0, 1024), (1, 0, 12)], k_67, 12, 7435)) s_106_100 rfl ?_
  refine ev_next (S' := (104, [some (.ref 20)], [.ref 20], [(0, 6, 6), (0, 1, 4), (0, 4, 6), (1, 1, 2048), (0, 0, 11), (1, 0, 24), (1, 0, 24), (1, 0, 24), (1, 0, 24), (1, 0, 16), (1, 0, 16), (1, 0, 16), (0, 2, 4), (1, 0, 12), (1, 0, 12), (1, 0, 4), (0, 5, 5), (1, 0, 252), (0, 3, 2), (1, 1, 448), (0, 7, 36), (1, 0, 2048), (1, 0, 48), (1, 0, 48), (1, 0, 48), (1, 0, 48), (1, 0, 17), (1, 0, 17), (1, 0, 17), (1, 0, 12), (1, 0, 4096), (1, 0, 1024), (1, 0, 12)], k_67, 12, 7435)) s_106_103 rfl ?_
  refine ev_next (S' := (106, [some (.ref 20)], [.int (12), .ref 20], [(0, 6, 6), (0, 1, 4), (0, 4, 6), (1, 1, 2048), (0, 0, 11), (1, 0, 24), (1, 0, 24), (1, 0, 24), (1, 0, 24), (1, 0, 16), (1, 0, 16), (1, 0, 16), (0, 2, 4), (1, 0, 12), (1, 0, 12), (1, 0, 4), (0, 5, 5), (1, 0, 252), (0, 3, 2), (1, 1, 448), (0, 7, 36), (1, 0, 2048), (1, 0, 48), (1, 0, 48), (1, 0, 48), (1, 0, 48), (1, 0, 17), (1, 0, 17), (1, 0, 17), (1, 0, 12), (1, 0, 4096), (1, 0, 1024), (1, 0, 12)], k_67, 12, 7435)) s_106_104 rfl ?_
  refine ev_next (S' := (108, [some (.ref 20)], [.ref 33, .ref 20], [(0, 6, 6), (0, 1, 4), (0, 4, 6), (1, 1, 2048), (0, 0, 11), (1, 0, 24), (1, 0, 24), (1, 0, 24), (1, 0, 24), (1, 0, 16), (1, 0, 16), (1, 0, 16), (0, 2, 4), (1, 0, 12), (1, 0, 12), (1, 0, 4), (0, 5, 5), (1, 0, 252), (0, 3, 2), (1, 1, 448), (0, 7, 36), (1, 0, 2048), (1, 0, 48), (1, 0, 48), (1, 0, 48), (1, 0, 48), (1, 0, 17), (1, 0, 17), (1, 0, 17), (1, 0, 12), (1, 0, 4096), (1, 0, 1024), (1, 0, 12), (1, 0, 12)], k_68, 13, 7447)) s_106_106 rfl ?_
  refine ev_next (S' := (111, [some (.ref 20)], [], [(0, 6, 6), (0, 1, 4), (0, 4, 6), (1, 1, 2048), (0, 0, 11), (1, 0, 24), (1, 0, 24), (1, 0, 24), (1, 0, 24), (1, 0, 16), (1, 0, 16), (1, 0, 16), (0, 2, 4), (1, 0, 12), (1, 0, 12), (1, 0, 4), (0, 5, 5), (1, 0, 252), (0, 3, 2), (1, 1, 448), (0, 7, 36), (1, 0, 2048), (1, 0, 48), (1, 0, 48), (1, 0, 48), (1, 0, 48), (1, 0, 17), (1, 0, 17), (1, 0, 17), (1, 0, 12), (1, 0, 4096), (1, 0, 1024), (1, 0, 12), (1, 0, 12)], k_69, 13, 7447)) s_106_108 rfl ?_
  refine ev_next (S' := (112, [some (.ref 20)], [.ref 20], [(0, 6, 6), (0, 1, 4), (0, 4, 6), (1, 1, 2048), (0, 0, 11), (1, 0, 24), (1, 0, 24), (1, 0, 24), (1, 0, 24), (1, 0, 16), (1, 0, 16), (1, 0, 16), (0, 2, 4), (1, 0, 12), (1, 0, 12), (1, 0, 4), (0, 5, 5), (1, 0, 252), (0, 3, 2), (1, 1, 448), (0, 7, 36), (1, 0, 2048), (1, 0, 48), (1, 0, 48), (1, 0, 48), (1, 0, 48), (1, 0, 17), (1, 0, 17), (1, 0, 17), (1, 0, 12), (1, 0, 4096), (1, 0, 1024), (1, 0, 12), (1, 0, 12)], k_69, 13, 7447)) s_106_111 rfl ?_
  refine ev_next (S' := (114, [some (.ref 20)], [.int (12), .ref 20], [(0, 6, 6), (0, 1, 4), (0, 4, 6), (1, 1, 2048), (0, 0, 11), (1, 0, 24), (1, 0, 24), (1, 0, 24), (1, 0, 24), (1, 0, 16), (1, 0, 16), (1, 0, 16), (0, 2, 4), (1, 0, 12), (1, 0, 12), (1, 0, 4), (0, 5, 5), (1, 0, 252), (0, 3, 2), (1, 1, 448), (0, 7, 36), (1, 0, 2048), (1, 0, 48), (1, 0, 48), (1, 0, 48), (1, 0, 48), (1, 0, 17), (1, 0, 17), (1, 0, 17), (1, 0, 12), (1, 0, 4096), (1, 0, 1024), (1, 0, 12), (1, 0, 12)], k_69, 13, 7447)) s_106_112 rfl ?_
  refine ev_next (S' := (116, [some (.ref 20)], [.ref 34, .ref 20], [(0, 6, 6), (0, 1, 4), (0, 4, 6), (1, 1, 2048), (0, 0, 11), (1, 0, 24), (1, 0, 24), (1, 0, 24), (1, 0, 24), (1, 0, 16), (1, 0, 16), (1, 0, 16), (0, 2, 4), (1, 0, 12), (1, 0, 12), (1, 0, 4), (0, 5, 5), (1, 0, 252), (0, 3, 2), (1, 1, 448), (0, 7, 36), (1, 0, 2048), (1, 0, 48), (1, 0, 48), (1, 0, 48), (1, 0, 48), (1, 0, 17), (1, 0, 17), (1, 0, 17), (1, 0, 12), (1, 0, 4096), (1, 0, 1024), (1, 0, 12), (1, 0, 12), (1, 0, 12)], k_70, 14, 7459)) s_106_114 rfl ?_
  refine ev_next (S' := (119, [some (.ref 20)], [], [(0, 6, 6), (0, 1, 4), (0, 4, 6), (1, 1, 2048), (0, 0, 11), (1, 0, 24), (1, 0, 24), (1, 0, 24), (1, 0, 24), (1, 0, 16), (1, 0, 16), (1, 0, 16), (0, 2, 4), (1, 0, 12), (1, 0, 12), (1, 0, 4), (0, 5, 5), (1, 0, 252), (0, 3, 2), (1, 1, 448), (0, 7, 36), (1, 0, 2048), (1, 0, 48), (1, 0, 48), (1, 0, 48), (1, 0, 48), (1, 0, 17), (1, 0, 17), (1, 0, 17), (1, 0, 12), (1, 0, 4096), (1, 0, 1024), (1, 0, 12), (1, 0, 12), (1, 0, 12)], k_71, 14, 7459)) s_106_116 rfl ?_
  refine ev_next (S' := (120, [some (.ref 20)], [.ref 20], [(0, 6, 6), (0, 1, 4), (0, 4, 6), (1, 1, 2048), (0, 0, 11), (1, 0, 24), (1, 0, 24), (1, 0, 24), (1, 0, 24), (1, 0, 16), (1, 0, 16), (1, 0, 16), (0, 2, 4), (1, 0, 12), (1, 0, 12), (1, 0, 4), (0, 5, 5), (1, 0, 252), (0, 3, 2), (1, 1, 448), (0, 7, 36), (1, 0, 2048), (1, 0, 48), (1, 0, 48), (1, 0, 48), (1, 0, 48), (1, 0, 17), (1, 0, 17), (1, 0, 17), (1, 0, 12), (1, 0, 4096), (1, 0, 1024), (1, 0, 12), (1, 0, 12), (1, 0, 12)], k_71, 14, 7459)) s_106_119 rfl ?_
  refine ev_next (S' := (121, [some (.ref 20)], [.int (4), .ref 20], [(0, 6, 6), (0, 1, 4), (0, 4, 6), (1, 1, 2048), (0, 0, 11), (1, 0, 24), (1, 0, 24), (1, 0, 24), (1, 0, 24), (1, 0, 16), (1, 0, 16), (1, 0, 16), (0, 2, 4), (1, 0, 12), (1, 0, 12), (1, 0, 4), (0, 5, 5), (1, 0, 252), (0, 3, 2), (1, 1, 448), (0, 7, 36), (1, 0, 2048), (1, 0, 48), (1, 0, 48), (1, 0, 48), (1, 0, 48), (1, 0, 17), (1, 0, 17), (1, 0, 17), (1, 0, 12), (1, 0, 4096), (1, 0, 1024), (1, 0, 12), (1, 0, 12), (1, 0, 12)], k_71, 14, 7459)) s_106_120 rfl ?_
  refine ev_next (S' := (123, [some (.ref 20)], [.ref 35, .ref 20], [(0, 6, 6), (0, 1, 4), (0, 4, 6), (1, 1, 2048), (0, 0, 11), (1, 0, 24), (1, 0, 24), (1, 0, 24), (1, 0, 24), (1, 0, 16), (1, 0, 16), (1, 0, 16), (0, 2, 4), (1, 0, 12), (1, 0, 12), (1, 0, 4), (0, 5, 5), (1, 0, 252), (0, 3, 2), (1, 1, 448), (0, 7, 36), (1, 0, 2048), (1, 0, 48), (1, 0, 48), (1, 0, 48), (1, 0, 48), (1, 0, 17), (1, 0, 17), (1, 0, 17), (1, 0, 12), (1, 0, 4096), (1, 0, 1024), (1, 0, 12), (1, 0, 12), (1, 0, 12), (1, 0, 4)], k_72, 15, 7463)) s_106_121 rfl ?_
  refine ev_next (S' := (126, [some (.ref 20)], [], [(0, 6, 6), (0, 1, 4), (0, 4, 6), (1, 1, 2048), (0, 0, 11), (1, 0, 24), (1, 0, 24), (1, 0, 24), (1, 0, 24), (1, 0, 16), (1, 0, 16), (1, 0, 16), (0, 2, 4), (1, 0, 12), (1, 0, 12), (1, 0, 4), (0, 5, 5), (1, 0, 252), (0, 3, 2), (1, 1, 448), (0, 7, 36), (1, 0, 2048), (1, 0, 48), (1, 0, 48), (1, 0, 48), (1, 0, 48), (1, 0, 17), (1, 0, 17), (1, 0, 17), (1, 0, 12), (1, 0, 4096), (1, 0, 1024), (1, 0, 12), (1, 0, 12), (1, 0, 12), (1, 0, 4)], k_73, 15, 7463)) s_106_123 rfl ?_
  refine ev_next (S' := (127, [some (.ref 20)], [.ref 20], [(0, 6, 6), (0, 1, 4), (0, 4, 6), (1, 1, 2048), (0, 0, 11), (1, 0, 24), (1, 0, 24), (1, 0, 24), (1, 0, 24), (1, 0, 16), (1, 0, 16), (1, 0, 16), (0, 2, 4), (1, 0, 12), (1, 0, 12), (1, 0, 4), (0, 5, 5), (1, 0, 252), (0, 3, 2), (1, 1, 448), (0, 7, 36), (1, 0, 2048), (1, 0, 48), (1, 0, 48), (1, 0, 48), (1, 0, 48), (1, 0, 17), (1, 0, 17), (1, 0, 17), (1, 0, 12), (1, 0, 4096), (1, 0, 1024), (1, 0, 12), (1, 0, 12), (1, 0, 12), (1, 0, 4)], k_73, 15, 7463)) s_106_126 rfl ?_
  refine ev_next (S' := (128, [some (.ref 20)], [.int (4), .ref 20], [(0, 6, 6), (0, 1, 4), (0, 4, 6), (1, 1, 2048), (0, 0, 11), (1, 0, 24), (1, 0, 24), (1, 0, 24), (1, 0, 24), (1, 0, 16), (1, 0, 16), (1, 0, 16), (0, 2, 4), (1, 0, 12), (1, 0, 12), (1, 0, 4), (0, 5, 5), (1, 0, 252), (0, 3, 2), (1, 1, 448), (0, 7, 36), (1, 0, 2048), (1, 0, 48), (1, 0, 48), (1, 0, 48), (1, 0, 48), (1, 0, 17), (1, 0, 17), (1, 0, 17), (1, 0, 12), (1, 0, 4096), (1, 0, 1024), (1, 0, 12), (1, 0, 12), (1, 0, 12), (1, 0, 4)], k_73, 15, 7463)) s_106_127 rfl ?_
  refine ev_next (S' := (130, [some (.ref 20)], [.ref 36, .ref 20], [(0, 6, 6), (0, 1, 4), (0, 4, 6), (1, 1, 2048), (0, 0, 11), (1, 0, 24), (1, 0, 24), (1, 0, 24), (1, 0, 24), (1, 0, 16), (1, 0, 16), (1, 0, 16), (0, 2, 4), (1, 0, 12), (1, 0, 12), (1, 0, 4), (0, 5, 5), (1, 0, 252), (0, 3, 2), (1, 1, 448), (0, 7, 36), (1, 0, 2048), (1, 0, 48), (1, 0, 48), (1, 0, 48), (1, 0, 48), (1, 0, 17), (1, 0, 17), (1, 0, 17), (1, 0, 12), (1, 0, 4096), (1, 0, 1024), (1, 0, 12), (1, 0, 12), (1, 0, 12), (1, 0, 4), (1, 0, 4)], k_74, 16, 7467)) s_106_128 rfl ?_
  refine ev_next (S' := (133, [some (.ref 20)], [], [(0, 6, 6), (0, 1, 4), (0, 4, 6), (1, 1, 2048), (0, 0, 11), (1, 0, 24), (1, 0, 24), (1, 0, 24), (1, 0, 24), (1, 0, 16), (1, 0, 16), (1, 0, 16), (0, 2, 4), (1, 0, 12), (1, 0, 12), (1, 0, 4), (0, 5, 5), (1, 0, 252), (0, 3, 2), (1, 1, 448), (0, 7, 36), (1, 0, 2048), (1, 0, 48), (1, 0, 48), (1, 0, 48), (1, 0, 48), (1, 0, 17), (1, 0, 17), (1, 0, 17), (1, 0, 12), (1, 0, 4096), (1, 0, 1024), (1, 0, 12), (1, 0, 12), (1, 0, 12), (1, 0, 4), (1, 0, 4)], k_75, 16, 7467)) s_106_130 rfl ?_
  exact ev_end s_106_133 rfl rfl
set_option maxRecDepth 100000 in
theorem k_last : k_76 = (MI0, RF0, LG0) := rfl
set_option maxHeartbeats 4000000 in
theorem st_law {E : mm_V} {o : mm_O} (h : mm_ev E 0 (23, [some (.ref 1000), some (.ref 0), some (.ref 20), some (.ref 37), some (.int 0), none, none], [], SH, (MI0, RF0, LG0), 38, 10462) o) : mm_ev E 0 (0, mm_entry 0 [.ref 1000], [], [], law_m0, 0, 0) o := by
  show mm_ev E 0 (0, [some (.ref 1000), none, none, none, none, none, none], [], [], k_0, 0, 0) o
  refine ev_next (S' := (3, [some (.ref 1000), none, none, none, none, none, none], [.ref 0], [(0, 6, 6)], k_1, 1, 6)) s_0_0 rfl ?_
  refine ev_next (S' := (4, [some (.ref 1000), none, none, none, none, none, none], [.ref 0, .ref 0], [(0, 6, 6)], k_1, 1, 6)) s_0_3 rfl ?_
  refine ev_call (y := 15) (as := [.ref 0]) (r := [.ref 0]) s_0_4 rfl rfl rfl si_15_6 ?_
  show mm_ev E 0 (7, [some (.ref 1000), none, none, none, none, none, none], [.ref 0], [(0, 6, 6), (0, 1, 4), (0, 4, 6), (1, 1, 2048), (0, 0, 11), (1, 0, 24), (1, 0, 24), (1, 0, 24), (1, 0, 24), (1, 0, 16), (1, 0, 16), (1, 0, 16), (0, 2, 4), (1, 0, 12), (1, 0, 12), (1, 0, 4), (0, 5, 5), (1, 0, 252), (0, 3, 2), (1, 1, 448)], k_42, 20, 2958) _
  refine ev_next (S' := (8, [some (.ref 1000), some (.ref 0), none, none, none, none, none], [], [(0, 6, 6), (0, 1, 4), (0, 4, 6), (1, 1, 2048), (0, 0, 11), (1, 0, 24), (1, 0, 24), (1, 0, 24), (1, 0, 24), (1, 0, 16), (1, 0, 16), (1, 0, 16), (0, 2, 4), (1, 0, 12), (1, 0, 12), (1, 0, 4), (0, 5, 5), (1, 0, 252), (0, 3, 2), (1, 1, 448)], k_42, 20, 2958)) s_0_7 rfl ?_
  refine ev_next (S' := (11, [some (.ref 1000), some (.ref 0), none, none, none, none, none], [.ref 20], [(0, 6, 6), (0, 1, 4), (0, 4, 6), (1, 1, 2048), (0, 0, 11), (1, 0, 24), (1, 0, 24), (1, 0, 24), (1, 0, 24), (1, 0, 16), (1, 0, 16), (1, 0, 16), (0, 2, 4), (1, 0, 12), (1, 0, 12), (1, 0, 4), (0, 5, 5), (1, 0, 252), (0, 3, 2), (1, 1, 448), (0, 7, 36)], k_43, 21, 2994)) s_0_8 rfl ?_
  refine ev_next (S' := (12, [some (.ref 1000), some (.ref 0), none, none, none, none, none], [.ref 20, .ref 20], [(0, 6, 6), (0, 1, 4), (0, 4, 6), (1, 1, 2048), (0, 0, 11), (1, 0, 24), (1, 0, 24), (1, 0, 24), (1, 0, 24), (1, 0, 16), (1, 0, 16), (1, 0, 16), (0, 2, 4), (1, 0, 12), (1, 0, 12), (1, 0, 4), (0, 5, 5), (1, 0, 252), (0, 3, 2), (1, 1, 448), (0, 7, 36)], k_43, 21, 2994)) s_0_11 rfl ?_
  refine ev_call (y := 106) (as := [.ref 20]) (r := [.ref 20]) s_0_12 rfl rfl rfl si_106_7 ?_
  show mm_ev E 0 (15, [some (.ref 1000), some (.ref 0), none, none, none, none, none], [.ref 20], [(0, 6, 6), (0, 1, 4), (0, 4, 6), (1, 1, 2048), (0, 0, 11), (1, 0, 24), (1, 0, 24), (1, 0, 24), (1, 0, 24), (1, 0, 16), (1, 0, 16), (1, 0, 16), (0, 2, 4), (1, 0, 12), (1, 0, 12), (1, 0, 4), (0, 5, 5), (1, 0, 252), (0, 3, 2), (1, 1, 448), (0, 7, 36), (1, 0, 2048), (1, 0, 48), (1, 0, 48), (1, 0, 48), (1, 0, 48), (1, 0, 17), (1, 0, 17), (1, 0, 17), (1, 0, 12), (1, 0, 4096), (1, 0, 1024), (1, 0, 12), (1, 0, 12), (1, 0, 12), (1, 0, 4), (1, 0, 4)], k_75, 37, 10461) _
  refine ev_next (S' := (16, [some (.ref 1000), some (.ref 0), some (.ref 20), none, none, none, none], [], [(0, 6, 6), (0, 1, 4), (0, 4, 6), (1, 1, 2048), (0, 0, 11), (1, 0, 24), (1, 0, 24), (1, 0, 24), (1, 0, 24), (1, 0, 16), (1, 0, 16), (1, 0, 16), (0, 2, 4), (1, 0, 12), (1, 0, 12), (1, 0, 4), (0, 5, 5), (1, 0, 252), (0, 3, 2), (1, 1, 448), (0, 7, 36), (1, 0, 2048), (1, 0, 48), (1, 0, 48), (1, 0, 48), (1, 0, 48), (1, 0, 17), (1, 0, 17), (1, 0, 17), (1, 0, 12), (1, 0, 4096), (1, 0, 1024), (1, 0, 12), (1, 0, 12), (1, 0, 12), (1, 0, 4), (1, 0, 4)], k_75, 37, 10461)) s_0_15 rfl ?_
  refine ev_next (S' := (17, [some (.ref 1000), some (.ref 0), some (.ref 20), none, none, none, none], [.int (1)], [(0, 6, 6), (0, 1, 4), (0, 4, 6), (1, 1, 2048), (0, 0, 11), (1, 0, 24), (1, 0, 24), (1, 0, 24), (1, 0, 24), (1, 0, 16), (1, 0, 16), (1, 0, 16), (0, 2, 4), (1, 0, 12), (1, 0, 12), (1, 0, 4), (0, 5, 5), (1, 0, 252), (0, 3, 2), (1, 1, 448), (0, 7, 36), (1, 0, 2048), (1, 0, 48), (1, 0, 48), (1, 0, 48), (1, 0, 48), (1, 0, 17), (1, 0, 17), (1, 0, 17), (1, 0, 12), (1, 0, 4096), (1, 0, 1024), (1, 0, 12), (1, 0, 12), (1, 0, 12), (1, 0, 4), (1, 0, 4)], k_75, 37, 10461)) s_0_16 rfl ?_
  refine ev_next (S' := (19, [some (.ref 1000), some (.ref 0), some (.ref 20), none, none, none, none], [.ref 37], [(0, 6, 6), (0, 1, 4), (0, 4, 6), (1, 1, 2048), (0, 0, 11), (1, 0, 24), (1, 0, 24), (1, 0, 24), (1, 0, 24), (1, 0, 16), (1, 0, 16), (1, 0, 16), (0, 2, 4), (1, 0, 12), (1, 0, 12), (1, 0, 4), (0, 5, 5), (1, 0, 252), (0, 3, 2), (1, 1, 448), (0, 7, 36), (1, 0, 2048), (1, 0, 48), (1, 0, 48), (1, 0, 48), (1, 0, 48), (1, 0, 17), (1, 0, 17), (1, 0, 17), (1, 0, 12), (1, 0, 4096), (1, 0, 1024), (1, 0, 12), (1, 0, 12), (1, 0, 12), (1, 0, 4), (1, 0, 4), (2, 0, 1)], k_76, 38, 10462)) s_0_17 rfl ?_
  refine ev_next (S' := (20, [some (.ref 1000), some (.ref 0), some (.ref 20), some (.ref 37), none, none, none], [], [(0, 6, 6), (0, 1, 4), (0, 4, 6), (1, 1, 2048), (0, 0, 11), (1, 0, 24), (1, 0, 24), (1, 0, 24), (1, 0, 24), (1, 0, 16), (1, 0, 16), (1, 0, 16), (0, 2, 4), (1, 0, 12), (1, 0, 12), (1, 0, 4), (0, 5, 5), (1, 0, 252), (0, 3, 2), (1, 1, 448), (0, 7, 36), (1, 0, 2048), (1, 0, 48), (1, 0, 48), (1, 0, 48), (1, 0, 48), (1, 0, 17), (1, 0, 17), (1, 0, 17), (1, 0, 12), (1, 0, 4096), (1, 0, 1024), (1, 0, 12), (1, 0, 12), (1, 0, 12), (1, 0, 4), (1, 0, 4), (2, 0, 1)], k_76, 38, 10462)) s_0_19 rfl ?_
  refine ev_next (S' := (21, [some (.ref 1000), some (.ref 0), some (.ref 20), some (.ref 37), none, none, none], [.int (0)], [(0, 6, 6), (0, 1, 4), (0, 4, 6), (1, 1, 2048), (0, 0, 11), (1, 0, 24), (1, 0, 24), (1, 0, 24), (1, 0, 24), (1, 0, 16), (1, 0, 16), (1, 0, 16), (0, 2, 4), (1, 0, 12), (1, 0, 12), (1, 0, 4), (0, 5, 5), (1, 0, 252), (0, 3, 2), (1, 1, 448), (0, 7, 36), (1, 0, 2048), (1, 0, 48), (1, 0, 48), (1, 0, 48), (1, 0, 48), (1, 0, 17), (1, 0, 17), (1, 0, 17), (1, 0, 12), (1, 0, 4096), (1, 0, 1024), (1, 0, 12), (1, 0, 12), (1, 0, 12), (1, 0, 4), (1, 0, 4), (2, 0, 1)], k_76, 38, 10462)) s_0_20 rfl ?_
  refine ev_next (S' := (23, [some (.ref 1000), some (.ref 0), some (.ref 20), some (.ref 37), some (.int (0)), none, none], [], [(0, 6, 6), (0, 1, 4), (0, 4, 6), (1, 1, 2048), (0, 0, 11), (1, 0, 24), (1, 0, 24), (1, 0, 24), (1, 0, 24), (1, 0, 16), (1, 0, 16), (1, 0, 16), (0, 2, 4), (1, 0, 12), (1, 0, 12), (1, 0, 4), (0, 5, 5), (1, 0, 252), (0, 3, 2), (1, 1, 448), (0, 7, 36), (1, 0, 2048), (1, 0, 48), (1, 0, 48), (1, 0, 48), (1, 0, 48), (1, 0, 17), (1, 0, 17), (1, 0, 17), (1, 0, 12), (1, 0, 4096), (1, 0, 1024), (1, 0, 12), (1, 0, 12), (1, 0, 12), (1, 0, 4), (1, 0, 4), (2, 0, 1)], k_76, 38, 10462)) s_0_21 rfl ?_
  rw [k_last]
  exact h
end MMST
