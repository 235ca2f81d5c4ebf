theorem d_Parting_find_0 : decode prog_7_method_4_code 0 = .ok (.aload_n 0, 1) := by decide +kernel
theorem d_Parting_find_1 : decode prog_7_method_4_code 1 = .ok (.iconst (-1), 1) := by decide +kernel
theorem d_Parting_find_2 : decode prog_7_method_4_code 2 = .ok (.putfield 47, 3) := by decide +kernel
theorem d_Parting_find_5 : decode prog_7_method_4_code 5 = .ok (.aload_n 0, 1) := by decide +kernel
theorem d_Parting_find_6 : decode prog_7_method_4_code 6 = .ok (.aload_n 1, 1) := by decide +kernel
theorem d_Parting_find_7 : decode prog_7_method_4_code 7 = .ok (.aload_n 2, 1) := by decide +kernel
theorem d_Parting_find_8 : decode prog_7_method_4_code 8 = .ok (.invokevirtual 50, 3) := by decide +kernel
theorem d_Parting_find_11 : decode prog_7_method_4_code 11 = .ok (.iconst 0, 1) := by decide +kernel
theorem d_Parting_find_12 : decode prog_7_method_4_code 12 = .ok (.istore_n 3, 1) := by decide +kernel
theorem d_Parting_find_13 : decode prog_7_method_4_code 13 = .ok (.iload_n 3, 1) := by decide +kernel
theorem d_Parting_find_14 : decode prog_7_method_4_code 14 = .ok (.sipush 400, 3) := by decide +kernel
theorem d_Parting_find_17 : decode prog_7_method_4_code 17 = .ok (.if_icmp .ge 77, 3) := by decide +kernel
theorem d_Parting_find_20 : decode prog_7_method_4_code 20 = .ok (.iload_n 3, 1) := by decide +kernel
theorem d_Parting_find_21 : decode prog_7_method_4_code 21 = .ok (.aload_n 0, 1) := by decide +kernel
theorem d_Parting_find_22 : decode prog_7_method_4_code 22 = .ok (.getfield 20, 3) := by decide +kernel
theorem d_Parting_find_25 : decode prog_7_method_4_code 25 = .ok (.getfield 54, 3) := by decide +kernel
theorem d_Parting_find_28 : decode prog_7_method_4_code 28 = .ok (.if_icmp .ge 66, 3) := by decide +kernel
theorem d_Parting_find_31 : decode prog_7_method_4_code 31 = .ok (.aload_n 1, 1) := by decide +kernel
theorem d_Parting_find_32 : decode prog_7_method_4_code 32 = .ok (.aload_n 0, 1) := by decide +kernel
theorem d_Parting_find_33 : decode prog_7_method_4_code 33 = .ok (.getfield 20, 3) := by decide +kernel
theorem d_Parting_find_36 : decode prog_7_method_4_code 36 = .ok (.iload_n 3, 1) := by decide +kernel
theorem d_Parting_find_37 : decode prog_7_method_4_code 37 = .ok (.iconst 0, 1) := by decide +kernel
theorem d_Parting_find_38 : decode prog_7_method_4_code 38 = .ok (.invokevirtual 57, 3) := by decide +kernel
theorem d_Parting_find_41 : decode prog_7_method_4_code 41 = .ok (.aload_n 2, 1) := by decide +kernel
theorem d_Parting_find_42 : decode prog_7_method_4_code 42 = .ok (.aload_n 0, 1) := by decide +kernel
theorem d_Parting_find_43 : decode prog_7_method_4_code 43 = .ok (.getfield 20, 3) := by decide +kernel
theorem d_Parting_find_46 : decode prog_7_method_4_code 46 = .ok (.iload_n 3, 1) := by decide +kernel
theorem d_Parting_find_47 : decode prog_7_method_4_code 47 = .ok (.iconst 1, 1) := by decide +kernel
theorem d_Parting_find_48 : decode prog_7_method_4_code 48 = .ok (.invokevirtual 57, 3) := by decide +kernel
theorem d_Parting_find_51 : decode prog_7_method_4_code 51 = .ok (.if_icmp .eq 9, 3) := by decide +kernel
theorem d_Parting_find_54 : decode prog_7_method_4_code 54 = .ok (.aload_n 0, 1) := by decide +kernel
theorem d_Parting_find_55 : decode prog_7_method_4_code 55 = .ok (.iload_n 3, 1) := by decide +kernel
theorem d_Parting_find_56 : decode prog_7_method_4_code 56 = .ok (.invokevirtual 63, 3) := by decide +kernel
theorem d_Parting_find_60 : decode prog_7_method_4_code 60 = .ok (.aload_n 0, 1) := by decide +kernel
theorem d_Parting_find_61 : decode prog_7_method_4_code 61 = .ok (.getfield 33, 3) := by decide +kernel
theorem d_Parting_find_64 : decode prog_7_method_4_code 64 = .ok (.iload_n 3, 1) := by decide +kernel
theorem d_Parting_find_65 : decode prog_7_method_4_code 65 = .ok (.iaload, 1) := by decide +kernel
theorem d_Parting_find_66 : decode prog_7_method_4_code 66 = .ok (.bipush 8, 2) := by decide +kernel
theorem d_Parting_find_68 : decode prog_7_method_4_code 68 = .ok (.if_icmp .ge 20, 3) := by decide +kernel
theorem d_Parting_find_71 : decode prog_7_method_4_code 71 = .ok (.aload_n 0, 1) := by decide +kernel
theorem d_Parting_find_72 : decode prog_7_method_4_code 72 = .ok (.aload_n 1, 1) := by decide +kernel
theorem d_Parting_find_73 : decode prog_7_method_4_code 73 = .ok (.aload_n 2, 1) := by decide +kernel
theorem d_Parting_find_74 : decode prog_7_method_4_code 74 = .ok (.iload_n 3, 1) := by decide +kernel
theorem d_Parting_find_75 : decode prog_7_method_4_code 75 = .ok (.invokevirtual 67, 3) := by decide +kernel
theorem d_Parting_find_78 : decode prog_7_method_4_code 78 = .ok (.ifCond .ne 10, 3) := by decide +kernel
theorem d_Parting_find_81 : decode prog_7_method_4_code 81 = .ok (.aload_n 0, 1) := by decide +kernel
theorem d_Parting_find_82 : decode prog_7_method_4_code 82 = .ok (.bipush (-2), 2) := by decide +kernel
theorem d_Parting_find_84 : decode prog_7_method_4_code 84 = .ok (.putfield 47, 3) := by decide +kernel
theorem d_Parting_find_88 : decode prog_7_method_4_code 88 = .ok (.iinc 3 1, 3) := by decide +kernel
theorem d_Parting_find_91 : decode prog_7_method_4_code 91 = .ok (.goto (-78), 3) := by decide +kernel
theorem d_Parting_begin_0 : decode prog_7_method_5_code 0 = .ok (.aload_n 0, 1) := by decide +kernel
theorem d_Parting_begin_1 : decode prog_7_method_5_code 1 = .ok (.getfield 24, 3) := by decide +kernel
theorem d_Parting_begin_4 : decode prog_7_method_5_code 4 = .ok (.invokevirtual 71, 3) := by decide +kernel
theorem d_Parting_begin_7 : decode prog_7_method_5_code 7 = .ok (.aload_n 1, 1) := by decide +kernel
theorem d_Parting_begin_8 : decode prog_7_method_5_code 8 = .ok (.getfield 74, 3) := by decide +kernel
theorem d_Parting_begin_11 : decode prog_7_method_5_code 11 = .ok (.ifCond .le 13, 3) := by decide +kernel
theorem d_Parting_begin_14 : decode prog_7_method_5_code 14 = .ok (.aload_n 0, 1) := by decide +kernel
theorem d_Parting_begin_15 : decode prog_7_method_5_code 15 = .ok (.getfield 24, 3) := by decide +kernel
theorem d_Parting_begin_18 : decode prog_7_method_5_code 18 = .ok (.iconst 0, 1) := by decide +kernel
theorem d_Parting_begin_19 : decode prog_7_method_5_code 19 = .ok (.iconst 0, 1) := by decide +kernel
theorem d_Parting_begin_20 : decode prog_7_method_5_code 20 = .ok (.iconst 0, 1) := by decide +kernel
theorem d_Parting_begin_21 : decode prog_7_method_5_code 21 = .ok (.invokevirtual 77, 3) := by decide +kernel
theorem d_Parting_begin_24 : decode prog_7_method_5_code 24 = .ok (.aload_n 2, 1) := by decide +kernel
theorem d_Parting_begin_25 : decode prog_7_method_5_code 25 = .ok (.getfield 74, 3) := by decide +kernel
theorem d_Parting_begin_28 : decode prog_7_method_5_code 28 = .ok (.ifCond .le 13, 3) := by decide +kernel
theorem d_Parting_begin_31 : decode prog_7_method_5_code 31 = .ok (.aload_n 0, 1) := by decide +kernel
theorem d_Parting_begin_32 : decode prog_7_method_5_code 32 = .ok (.getfield 24, 3) := by decide +kernel
theorem d_Parting_begin_35 : decode prog_7_method_5_code 35 = .ok (.iconst 0, 1) := by decide +kernel
theorem d_Parting_begin_36 : decode prog_7_method_5_code 36 = .ok (.iconst 1, 1) := by decide +kernel
theorem d_Parting_begin_37 : decode prog_7_method_5_code 37 = .ok (.iconst 0, 1) := by decide +kernel
theorem d_Parting_begin_38 : decode prog_7_method_5_code 38 = .ok (.invokevirtual 77, 3) := by decide +kernel
theorem d_Parting_begin_41 : decode prog_7_method_5_code 41 = .ok (.aload_n 0, 1) := by decide +kernel
theorem d_Parting_begin_42 : decode prog_7_method_5_code 42 = .ok (.getfield 20, 3) := by decide +kernel
theorem d_Parting_begin_45 : decode prog_7_method_5_code 45 = .ok (.invokevirtual 81, 3) := by decide +kernel
theorem d_Parting_begin_48 : decode prog_7_method_5_code 48 = .ok (.aload_n 0, 1) := by decide +kernel
theorem d_Parting_begin_49 : decode prog_7_method_5_code 49 = .ok (.getfield 20, 3) := by decide +kernel
theorem d_Parting_begin_52 : decode prog_7_method_5_code 52 = .ok (.aload_n 0, 1) := by decide +kernel
theorem d_Parting_begin_53 : decode prog_7_method_5_code 53 = .ok (.getfield 24, 3) := by decide +kernel
theorem d_Parting_begin_56 : decode prog_7_method_5_code 56 = .ok (.iconst 0, 1) := by decide +kernel
theorem d_Parting_begin_57 : decode prog_7_method_5_code 57 = .ok (.invokevirtual 84, 3) := by decide +kernel
theorem d_Parting_begin_60 : decode prog_7_method_5_code 60 = .ok (.pop, 1) := by decide +kernel
theorem d_Parting_begin_61 : decode prog_7_method_5_code 61 = .ok (.aload_n 0, 1) := by decide +kernel
theorem d_Parting_begin_62 : decode prog_7_method_5_code 62 = .ok (.getfield 33, 3) := by decide +kernel
theorem d_Parting_begin_65 : decode prog_7_method_5_code 65 = .ok (.iconst 0, 1) := by decide +kernel
theorem d_Parting_begin_66 : decode prog_7_method_5_code 66 = .ok (.iconst 0, 1) := by decide +kernel
theorem d_Parting_begin_67 : decode prog_7_method_5_code 67 = .ok (.iastore, 1) := by decide +kernel
theorem d_Sets_indexOf_0 : decode prog_8_method_11_code 0 = .ok (.aload_n 1, 1) := by decide +kernel
theorem d_Sets_indexOf_1 : decode prog_8_method_11_code 1 = .ok (.iload_n 2, 1) := by decide +kernel
theorem d_Sets_indexOf_2 : decode prog_8_method_11_code 2 = .ok (.invokevirtual 47, 3) := by decide +kernel
theorem d_Sets_indexOf_5 : decode prog_8_method_11_code 5 = .ok (.istore_n 3, 1) := by decide +kernel
theorem d_Sets_indexOf_6 : decode prog_8_method_11_code 6 = .ok (.iconst 0, 1) := by decide +kernel
theorem d_Sets_indexOf_7 : decode prog_8_method_11_code 7 = .ok (.istore 4, 2) := by decide +kernel
theorem d_Sets_indexOf_9 : decode prog_8_method_11_code 9 = .ok (.iload 4, 2) := by decide +kernel
theorem d_Sets_indexOf_11 : decode prog_8_method_11_code 11 = .ok (.aload_n 0, 1) := by decide +kernel
theorem d_Sets_indexOf_12 : decode prog_8_method_11_code 12 = .ok (.getfield 22, 3) := by decide +kernel
theorem d_Sets_indexOf_15 : decode prog_8_method_11_code 15 = .ok (.arraylength, 1) := by decide +kernel
theorem d_Sets_indexOf_16 : decode prog_8_method_11_code 16 = .ok (.if_icmp .ge 61, 3) := by decide +kernel
theorem d_Sets_indexOf_19 : decode prog_8_method_11_code 19 = .ok (.iload_n 3, 1) := by decide +kernel
theorem d_Sets_indexOf_20 : decode prog_8_method_11_code 20 = .ok (.iload 4, 2) := by decide +kernel
theorem d_Sets_indexOf_22 : decode prog_8_method_11_code 22 = .ok (.iadd, 1) := by decide +kernel
theorem d_Sets_indexOf_23 : decode prog_8_method_11_code 23 = .ok (.aload_n 0, 1) := by decide +kernel
theorem d_Sets_indexOf_24 : decode prog_8_method_11_code 24 = .ok (.getfield 22, 3) := by decide +kernel
theorem d_Sets_indexOf_27 : decode prog_8_method_11_code 27 = .ok (.arraylength, 1) := by decide +kernel
theorem d_Sets_indexOf_28 : decode prog_8_method_11_code 28 = .ok (.iconst 1, 1) := by decide +kernel
theorem d_Sets_indexOf_29 : decode prog_8_method_11_code 29 = .ok (.isub, 1) := by decide +kernel
theorem d_Sets_indexOf_30 : decode prog_8_method_11_code 30 = .ok (.iand, 1) := by decide +kernel
theorem d_Sets_indexOf_31 : decode prog_8_method_11_code 31 = .ok (.istore 5, 2) := by decide +kernel
theorem d_Sets_indexOf_33 : decode prog_8_method_11_code 33 = .ok (.aload_n 0, 1) := by decide +kernel
theorem d_Sets_indexOf_34 : decode prog_8_method_11_code 34 = .ok (.getfield 22, 3) := by decide +kernel
theorem d_Sets_indexOf_37 : decode prog_8_method_11_code 37 = .ok (.iload 5, 2) := by decide +kernel
theorem d_Sets_indexOf_39 : decode prog_8_method_11_code 39 = .ok (.iaload, 1) := by decide +kernel
theorem d_Sets_indexOf_40 : decode prog_8_method_11_code 40 = .ok (.istore 6, 2) := by decide +kernel
theorem d_Sets_indexOf_42 : decode prog_8_method_11_code 42 = .ok (.iload 6, 2) := by decide +kernel
theorem d_Sets_indexOf_44 : decode prog_8_method_11_code 44 = .ok (.iconst (-1), 1) := by decide +kernel
theorem d_Sets_indexOf_45 : decode prog_8_method_11_code 45 = .ok (.if_icmp .ne 12, 3) := by decide +kernel
theorem d_Sets_indexOf_48 : decode prog_8_method_11_code 48 = .ok (.aload_n 0, 1) := by decide +kernel
theorem d_Sets_indexOf_49 : decode prog_8_method_11_code 49 = .ok (.aload_n 1, 1) := by decide +kernel
theorem d_Sets_indexOf_50 : decode prog_8_method_11_code 50 = .ok (.iload_n 2, 1) := by decide +kernel
theorem d_Sets_indexOf_51 : decode prog_8_method_11_code 51 = .ok (.iload 5, 2) := by decide +kernel
theorem d_Sets_indexOf_53 : decode prog_8_method_11_code 53 = .ok (.invokevirtual 51, 3) := by decide +kernel
theorem d_Sets_indexOf_57 : decode prog_8_method_11_code 57 = .ok (.aload_n 0, 1) := by decide +kernel
theorem d_Sets_indexOf_58 : decode prog_8_method_11_code 58 = .ok (.iload 6, 2) := by decide +kernel
theorem d_Sets_indexOf_60 : decode prog_8_method_11_code 60 = .ok (.aload_n 1, 1) := by decide +kernel
theorem d_Sets_indexOf_61 : decode prog_8_method_11_code 61 = .ok (.iload_n 2, 1) := by decide +kernel
theorem d_Sets_indexOf_62 : decode prog_8_method_11_code 62 = .ok (.invokevirtual 55, 3) := by decide +kernel
theorem d_Sets_indexOf_65 : decode prog_8_method_11_code 65 = .ok (.ifCond .eq 6, 3) := by decide +kernel
theorem d_Sets_indexOf_68 : decode prog_8_method_11_code 68 = .ok (.iload 6, 2) := by decide +kernel
theorem d_Sets_indexOf_71 : decode prog_8_method_11_code 71 = .ok (.iinc 4 1, 3) := by decide +kernel
theorem d_Sets_indexOf_74 : decode prog_8_method_11_code 74 = .ok (.goto (-65), 3) := by decide +kernel
theorem d_Sets_indexOf_77 : decode prog_8_method_11_code 77 = .ok (.iconst (-1), 1) := by decide +kernel
theorem d_Sets_isLike_0 : decode prog_8_method_14_code 0 = .ok (.iconst 0, 1) := by decide +kernel
theorem d_Sets_isLike_1 : decode prog_8_method_14_code 1 = .ok (.istore 4, 2) := by decide +kernel
theorem d_Sets_isLike_3 : decode prog_8_method_14_code 3 = .ok (.iload 4, 2) := by decide +kernel
theorem d_Sets_isLike_5 : decode prog_8_method_14_code 5 = .ok (.aload_n 0, 1) := by decide +kernel
theorem d_Sets_isLike_6 : decode prog_8_method_14_code 6 = .ok (.getfield 15, 3) := by decide +kernel
theorem d_Sets_isLike_9 : decode prog_8_method_14_code 9 = .ok (.if_icmp .ge 43, 3) := by decide +kernel
theorem d_Sets_isLike_12 : decode prog_8_method_14_code 12 = .ok (.aload_n 0, 1) := by decide +kernel
theorem d_Sets_isLike_13 : decode prog_8_method_14_code 13 = .ok (.getfield 18, 3) := by decide +kernel
theorem d_Sets_isLike_16 : decode prog_8_method_14_code 16 = .ok (.iload_n 1, 1) := by decide +kernel
theorem d_Sets_isLike_17 : decode prog_8_method_14_code 17 = .ok (.aload_n 0, 1) := by decide +kernel
theorem d_Sets_isLike_18 : decode prog_8_method_14_code 18 = .ok (.getfield 15, 3) := by decide +kernel
theorem d_Sets_isLike_21 : decode prog_8_method_14_code 21 = .ok (.imul, 1) := by decide +kernel
theorem d_Sets_isLike_22 : decode prog_8_method_14_code 22 = .ok (.iload 4, 2) := by decide +kernel
theorem d_Sets_isLike_24 : decode prog_8_method_14_code 24 = .ok (.iadd, 1) := by decide +kernel
theorem d_Sets_isLike_25 : decode prog_8_method_14_code 25 = .ok (.laload, 1) := by decide +kernel
theorem d_Sets_isLike_26 : decode prog_8_method_14_code 26 = .ok (.aload_n 2, 1) := by decide +kernel
theorem d_Sets_isLike_27 : decode prog_8_method_14_code 27 = .ok (.getfield 18, 3) := by decide +kernel
theorem d_Sets_isLike_30 : decode prog_8_method_14_code 30 = .ok (.iload_n 3, 1) := by decide +kernel
theorem d_Sets_isLike_31 : decode prog_8_method_14_code 31 = .ok (.aload_n 0, 1) := by decide +kernel
theorem d_Sets_isLike_32 : decode prog_8_method_14_code 32 = .ok (.getfield 15, 3) := by decide +kernel
theorem d_Sets_isLike_35 : decode prog_8_method_14_code 35 = .ok (.imul, 1) := by decide +kernel
theorem d_Sets_isLike_36 : decode prog_8_method_14_code 36 = .ok (.iload 4, 2) := by decide +kernel
theorem d_Sets_isLike_38 : decode prog_8_method_14_code 38 = .ok (.iadd, 1) := by decide +kernel
theorem d_Sets_isLike_39 : decode prog_8_method_14_code 39 = .ok (.laload, 1) := by decide +kernel
theorem d_Sets_isLike_40 : decode prog_8_method_14_code 40 = .ok (.lcmp, 1) := by decide +kernel
theorem d_Sets_isLike_41 : decode prog_8_method_14_code 41 = .ok (.ifCond .eq 5, 3) := by decide +kernel
theorem d_Sets_isLike_44 : decode prog_8_method_14_code 44 = .ok (.iconst 0, 1) := by decide +kernel
theorem d_Sets_isLike_46 : decode prog_8_method_14_code 46 = .ok (.iinc 4 1, 3) := by decide +kernel
theorem d_Sets_isLike_49 : decode prog_8_method_14_code 49 = .ok (.goto (-46), 3) := by decide +kernel
theorem d_Sets_isLike_52 : decode prog_8_method_14_code 52 = .ok (.iconst 1, 1) := by decide +kernel
theorem d_Sets_append_0 : decode prog_8_method_12_code 0 = .ok (.aload_n 0, 1) := by decide +kernel
theorem d_Sets_append_1 : decode prog_8_method_12_code 1 = .ok (.getfield 26, 3) := by decide +kernel
theorem d_Sets_append_4 : decode prog_8_method_12_code 4 = .ok (.aload_n 0, 1) := by decide +kernel
theorem d_Sets_append_5 : decode prog_8_method_12_code 5 = .ok (.getfield 9, 3) := by decide +kernel
theorem d_Sets_append_8 : decode prog_8_method_12_code 8 = .ok (.if_icmp .ne 5, 3) := by decide +kernel
theorem d_Sets_append_11 : decode prog_8_method_12_code 11 = .ok (.iconst (-1), 1) := by decide +kernel
theorem d_Sets_append_13 : decode prog_8_method_12_code 13 = .ok (.aload_n 1, 1) := by decide +kernel
theorem d_Sets_append_14 : decode prog_8_method_12_code 14 = .ok (.getfield 18, 3) := by decide +kernel
theorem d_Sets_append_17 : decode prog_8_method_12_code 17 = .ok (.iload_n 2, 1) := by decide +kernel
theorem d_Sets_append_18 : decode prog_8_method_12_code 18 = .ok (.aload_n 0, 1) := by decide +kernel
theorem d_Sets_append_19 : decode prog_8_method_12_code 19 = .ok (.getfield 15, 3) := by decide +kernel
theorem d_Sets_append_22 : decode prog_8_method_12_code 22 = .ok (.imul, 1) := by decide +kernel
theorem d_Sets_append_23 : decode prog_8_method_12_code 23 = .ok (.aload_n 0, 1) := by decide +kernel
theorem d_Sets_append_24 : decode prog_8_method_12_code 24 = .ok (.getfield 18, 3) := by decide +kernel
theorem d_Sets_append_27 : decode prog_8_method_12_code 27 = .ok (.aload_n 0, 1) := by decide +kernel
theorem d_Sets_append_28 : decode prog_8_method_12_code 28 = .ok (.getfield 26, 3) := by decide +kernel
theorem d_Sets_append_31 : decode prog_8_method_12_code 31 = .ok (.aload_n 0, 1) := by decide +kernel
theorem d_Sets_append_32 : decode prog_8_method_12_code 32 = .ok (.getfield 15, 3) := by decide +kernel
theorem d_Sets_append_35 : decode prog_8_method_12_code 35 = .ok (.imul, 1) := by decide +kernel
theorem d_Sets_append_36 : decode prog_8_method_12_code 36 = .ok (.aload_n 0, 1) := by decide +kernel
theorem d_Sets_append_37 : decode prog_8_method_12_code 37 = .ok (.getfield 15, 3) := by decide +kernel
theorem d_Sets_append_40 : decode prog_8_method_12_code 40 = .ok (.invokestatic 59, 3) := by decide +kernel
theorem d_Sets_append_43 : decode prog_8_method_12_code 43 = .ok (.aload_n 0, 1) := by decide +kernel
theorem d_Sets_append_44 : decode prog_8_method_12_code 44 = .ok (.getfield 22, 3) := by decide +kernel
theorem d_Sets_append_47 : decode prog_8_method_12_code 47 = .ok (.iload_n 3, 1) := by decide +kernel
theorem d_Sets_append_48 : decode prog_8_method_12_code 48 = .ok (.aload_n 0, 1) := by decide +kernel
theorem d_Sets_append_49 : decode prog_8_method_12_code 49 = .ok (.getfield 26, 3) := by decide +kernel
theorem d_Sets_append_52 : decode prog_8_method_12_code 52 = .ok (.iastore, 1) := by decide +kernel
theorem d_Sets_append_53 : decode prog_8_method_12_code 53 = .ok (.aload_n 0, 1) := by decide +kernel
theorem d_Sets_append_54 : decode prog_8_method_12_code 54 = .ok (.dup, 1) := by decide +kernel
theorem d_Sets_append_55 : decode prog_8_method_12_code 55 = .ok (.getfield 26, 3) := by decide +kernel
theorem d_Sets_append_58 : decode prog_8_method_12_code 58 = .ok (.iconst 1, 1) := by decide +kernel
theorem d_Sets_append_59 : decode prog_8_method_12_code 59 = .ok (.iadd, 1) := by decide +kernel
theorem d_Sets_append_60 : decode prog_8_method_12_code 60 = .ok (.putfield 26, 3) := by decide +kernel
theorem d_Sets_append_63 : decode prog_8_method_12_code 63 = .ok (.aload_n 0, 1) := by decide +kernel
theorem d_Sets_append_64 : decode prog_8_method_12_code 64 = .ok (.getfield 26, 3) := by decide +kernel
theorem d_Sets_append_67 : decode prog_8_method_12_code 67 = .ok (.iconst 1, 1) := by decide +kernel
theorem d_Sets_append_68 : decode prog_8_method_12_code 68 = .ok (.isub, 1) := by decide +kernel
theorem d_Parting_goOn_0 : decode prog_7_method_6_code 0 = .ok (.aload_n 0, 1) := by decide +kernel
theorem d_Parting_goOn_1 : decode prog_7_method_6_code 1 = .ok (.getfield 24, 3) := by decide +kernel
theorem d_Parting_goOn_4 : decode prog_7_method_6_code 4 = .ok (.invokevirtual 71, 3) := by decide +kernel
theorem d_Parting_goOn_7 : decode prog_7_method_6_code 7 = .ok (.aload_n 1, 1) := by decide +kernel
theorem d_Parting_goOn_8 : decode prog_7_method_6_code 8 = .ok (.aload_n 0, 1) := by decide +kernel
theorem d_Parting_goOn_9 : decode prog_7_method_6_code 9 = .ok (.getfield 20, 3) := by decide +kernel
theorem d_Parting_goOn_12 : decode prog_7_method_6_code 12 = .ok (.iload_n 3, 1) := by decide +kernel
theorem d_Parting_goOn_13 : decode prog_7_method_6_code 13 = .ok (.iconst 0, 1) := by decide +kernel
theorem d_Parting_goOn_14 : decode prog_7_method_6_code 14 = .ok (.aload_n 0, 1) := by decide +kernel
theorem d_Parting_goOn_15 : decode prog_7_method_6_code 15 = .ok (.getfield 24, 3) := by decide +kernel
theorem d_Parting_goOn_18 : decode prog_7_method_6_code 18 = .ok (.invokevirtual 88, 3) := by decide +kernel
theorem d_Parting_goOn_21 : decode prog_7_method_6_code 21 = .ok (.aload_n 2, 1) := by decide +kernel
theorem d_Parting_goOn_22 : decode prog_7_method_6_code 22 = .ok (.aload_n 0, 1) := by decide +kernel
theorem d_Parting_goOn_23 : decode prog_7_method_6_code 23 = .ok (.getfield 20, 3) := by decide +kernel
theorem d_Parting_goOn_26 : decode prog_7_method_6_code 26 = .ok (.iload_n 3, 1) := by decide +kernel
theorem d_Parting_goOn_27 : decode prog_7_method_6_code 27 = .ok (.iconst 1, 1) := by decide +kernel
theorem d_Parting_goOn_28 : decode prog_7_method_6_code 28 = .ok (.aload_n 0, 1) := by decide +kernel
theorem d_Parting_goOn_29 : decode prog_7_method_6_code 29 = .ok (.getfield 24, 3) := by decide +kernel
theorem d_Parting_goOn_32 : decode prog_7_method_6_code 32 = .ok (.invokevirtual 88, 3) := by decide +kernel
theorem d_Parting_goOn_35 : decode prog_7_method_6_code 35 = .ok (.iconst 0, 1) := by decide +kernel
theorem d_Parting_goOn_36 : decode prog_7_method_6_code 36 = .ok (.istore 4, 2) := by decide +kernel
theorem d_Parting_goOn_38 : decode prog_7_method_6_code 38 = .ok (.iload 4, 2) := by decide +kernel
theorem d_Parting_goOn_40 : decode prog_7_method_6_code 40 = .ok (.bipush 10, 2) := by decide +kernel
theorem d_Parting_goOn_42 : decode prog_7_method_6_code 42 = .ok (.if_icmp .ge 80, 3) := by decide +kernel
theorem d_Parting_goOn_45 : decode prog_7_method_6_code 45 = .ok (.aload_n 0, 1) := by decide +kernel
theorem d_Parting_goOn_46 : decode prog_7_method_6_code 46 = .ok (.getfield 20, 3) := by decide +kernel
theorem d_Parting_goOn_49 : decode prog_7_method_6_code 49 = .ok (.getfield 54, 3) := by decide +kernel
theorem d_Parting_goOn_52 : decode prog_7_method_6_code 52 = .ok (.istore 5, 2) := by decide +kernel
theorem d_Parting_goOn_54 : decode prog_7_method_6_code 54 = .ok (.aload_n 0, 1) := by decide +kernel
theorem d_Parting_goOn_55 : decode prog_7_method_6_code 55 = .ok (.getfield 20, 3) := by decide +kernel
theorem d_Parting_goOn_58 : decode prog_7_method_6_code 58 = .ok (.aload_n 0, 1) := by decide +kernel
theorem d_Parting_goOn_59 : decode prog_7_method_6_code 59 = .ok (.getfield 24, 3) := by decide +kernel
theorem d_Parting_goOn_62 : decode prog_7_method_6_code 62 = .ok (.iload 4, 2) := by decide +kernel
theorem d_Parting_goOn_64 : decode prog_7_method_6_code 64 = .ok (.invokevirtual 84, 3) := by decide +kernel
theorem d_Parting_goOn_67 : decode prog_7_method_6_code 67 = .ok (.istore 6, 2) := by decide +kernel
theorem d_Parting_goOn_69 : decode prog_7_method_6_code 69 = .ok (.iload 6, 2) := by decide +kernel
theorem d_Parting_goOn_71 : decode prog_7_method_6_code 71 = .ok (.iconst (-1), 1) := by decide +kernel
theorem d_Parting_goOn_72 : decode prog_7_method_6_code 72 = .ok (.if_icmp .ne 5, 3) := by decide +kernel
theorem d_Parting_goOn_75 : decode prog_7_method_6_code 75 = .ok (.iconst 0, 1) := by decide +kernel
theorem d_Parting_goOn_77 : decode prog_7_method_6_code 77 = .ok (.iload 6, 2) := by decide +kernel
theorem d_Parting_goOn_79 : decode prog_7_method_6_code 79 = .ok (.iload 5, 2) := by decide +kernel
theorem d_Parting_goOn_81 : decode prog_7_method_6_code 81 = .ok (.if_icmp .ne 35, 3) := by decide +kernel
theorem d_Parting_goOn_84 : decode prog_7_method_6_code 84 = .ok (.aload_n 0, 1) := by decide +kernel
theorem d_Parting_goOn_85 : decode prog_7_method_6_code 85 = .ok (.getfield 27, 3) := by decide +kernel
theorem d_Parting_goOn_88 : decode prog_7_method_6_code 88 = .ok (.iload 6, 2) := by decide +kernel
theorem d_Parting_goOn_90 : decode prog_7_method_6_code 90 = .ok (.iload_n 3, 1) := by decide +kernel
theorem d_Parting_goOn_91 : decode prog_7_method_6_code 91 = .ok (.iastore, 1) := by decide +kernel
theorem d_Parting_goOn_92 : decode prog_7_method_6_code 92 = .ok (.aload_n 0, 1) := by decide +kernel
theorem d_Parting_goOn_93 : decode prog_7_method_6_code 93 = .ok (.getfield 30, 3) := by decide +kernel
theorem d_Parting_goOn_96 : decode prog_7_method_6_code 96 = .ok (.iload 6, 2) := by decide +kernel
theorem d_Parting_goOn_98 : decode prog_7_method_6_code 98 = .ok (.iload 4, 2) := by decide +kernel
theorem d_Parting_goOn_100 : decode prog_7_method_6_code 100 = .ok (.iastore, 1) := by decide +kernel
theorem d_Parting_goOn_101 : decode prog_7_method_6_code 101 = .ok (.aload_n 0, 1) := by decide +kernel
theorem d_Parting_goOn_102 : decode prog_7_method_6_code 102 = .ok (.getfield 33, 3) := by decide +kernel
theorem d_Parting_goOn_105 : decode prog_7_method_6_code 105 = .ok (.iload 6, 2) := by decide +kernel
theorem d_Parting_goOn_107 : decode prog_7_method_6_code 107 = .ok (.aload_n 0, 1) := by decide +kernel
theorem d_Parting_goOn_108 : decode prog_7_method_6_code 108 = .ok (.getfield 33, 3) := by decide +kernel
theorem d_Parting_goOn_111 : decode prog_7_method_6_code 111 = .ok (.iload_n 3, 1) := by decide +kernel
theorem d_Parting_goOn_112 : decode prog_7_method_6_code 112 = .ok (.iaload, 1) := by decide +kernel
theorem d_Parting_goOn_113 : decode prog_7_method_6_code 113 = .ok (.iconst 1, 1) := by decide +kernel
theorem d_Parting_goOn_114 : decode prog_7_method_6_code 114 = .ok (.iadd, 1) := by decide +kernel
theorem d_Parting_goOn_115 : decode prog_7_method_6_code 115 = .ok (.iastore, 1) := by decide +kernel
theorem d_Parting_goOn_116 : decode prog_7_method_6_code 116 = .ok (.iinc 4 1, 3) := by decide +kernel
theorem d_Parting_goOn_119 : decode prog_7_method_6_code 119 = .ok (.goto (-81), 3) := by decide +kernel
theorem d_Parting_goOn_122 : decode prog_7_method_6_code 122 = .ok (.iconst 1, 1) := by decide +kernel
theorem d_Machine_fan_0 : decode prog_4_method_17_code 0 = .ok (.iconst 0, 1) := by decide +kernel
theorem d_Machine_fan_1 : decode prog_4_method_17_code 1 = .ok (.istore 5, 2) := by decide +kernel
theorem d_Machine_fan_3 : decode prog_4_method_17_code 3 = .ok (.iload 5, 2) := by decide +kernel
theorem d_Machine_fan_5 : decode prog_4_method_17_code 5 = .ok (.iconst 4, 1) := by decide +kernel
theorem d_Machine_fan_6 : decode prog_4_method_17_code 6 = .ok (.if_icmp .ge 98, 3) := by decide +kernel
theorem d_Machine_fan_9 : decode prog_4_method_17_code 9 = .ok (.aload_n 1, 1) := by decide +kernel
theorem d_Machine_fan_10 : decode prog_4_method_17_code 10 = .ok (.iload_n 2, 1) := by decide +kernel
theorem d_Machine_fan_11 : decode prog_4_method_17_code 11 = .ok (.iload_n 3, 1) := by decide +kernel
theorem d_Machine_fan_12 : decode prog_4_method_17_code 12 = .ok (.iload 5, 2) := by decide +kernel
theorem d_Machine_fan_14 : decode prog_4_method_17_code 14 = .ok (.invokevirtual 166, 3) := by decide +kernel
theorem d_Machine_fan_17 : decode prog_4_method_17_code 17 = .ok (.lstore 6, 2) := by decide +kernel
theorem d_Machine_fan_19 : decode prog_4_method_17_code 19 = .ok (.lload 6, 2) := by decide +kernel
theorem d_Machine_fan_21 : decode prog_4_method_17_code 21 = .ok (.lconst 0, 1) := by decide +kernel
theorem d_Machine_fan_22 : decode prog_4_method_17_code 22 = .ok (.lcmp, 1) := by decide +kernel
theorem d_Machine_fan_23 : decode prog_4_method_17_code 23 = .ok (.ifCond .eq 75, 3) := by decide +kernel
theorem d_Machine_fan_26 : decode prog_4_method_17_code 26 = .ok (.bipush 64, 2) := by decide +kernel
theorem d_Machine_fan_28 : decode prog_4_method_17_code 28 = .ok (.iload 5, 2) := by decide +kernel
theorem d_Machine_fan_30 : decode prog_4_method_17_code 30 = .ok (.imul, 1) := by decide +kernel
theorem d_Machine_fan_31 : decode prog_4_method_17_code 31 = .ok (.lload 6, 2) := by decide +kernel
theorem d_Machine_fan_33 : decode prog_4_method_17_code 33 = .ok (.invokestatic 170, 3) := by decide +kernel
theorem d_Machine_fan_36 : decode prog_4_method_17_code 36 = .ok (.iadd, 1) := by decide +kernel
theorem d_Machine_fan_37 : decode prog_4_method_17_code 37 = .ok (.istore 8, 2) := by decide +kernel
theorem d_Machine_fan_39 : decode prog_4_method_17_code 39 = .ok (.aload_n 0, 1) := by decide +kernel
theorem d_Machine_fan_40 : decode prog_4_method_17_code 40 = .ok (.getfield 45, 3) := by decide +kernel
theorem d_Machine_fan_43 : decode prog_4_method_17_code 43 = .ok (.iload 8, 2) := by decide +kernel
theorem d_Machine_fan_45 : decode prog_4_method_17_code 45 = .ok (.iaload, 1) := by decide +kernel
theorem d_Machine_fan_46 : decode prog_4_method_17_code 46 = .ok (.istore 9, 2) := by decide +kernel
theorem d_Machine_fan_48 : decode prog_4_method_17_code 48 = .ok (.iload 9, 2) := by decide +kernel
theorem d_Machine_fan_50 : decode prog_4_method_17_code 50 = .ok (.aload_n 0, 1) := by decide +kernel
theorem d_Machine_fan_51 : decode prog_4_method_17_code 51 = .ok (.getfield 45, 3) := by decide +kernel
theorem d_Machine_fan_54 : decode prog_4_method_17_code 54 = .ok (.iload 8, 2) := by decide +kernel
theorem d_Machine_fan_56 : decode prog_4_method_17_code 56 = .ok (.iconst 1, 1) := by decide +kernel
theorem d_Machine_fan_57 : decode prog_4_method_17_code 57 = .ok (.iadd, 1) := by decide +kernel
theorem d_Machine_fan_58 : decode prog_4_method_17_code 58 = .ok (.iaload, 1) := by decide +kernel
theorem d_Machine_fan_59 : decode prog_4_method_17_code 59 = .ok (.if_icmp .ge 27, 3) := by decide +kernel
theorem d_Machine_fan_62 : decode prog_4_method_17_code 62 = .ok (.aload 4, 2) := by decide +kernel
theorem d_Machine_fan_64 : decode prog_4_method_17_code 64 = .ok (.aload_n 0, 1) := by decide +kernel
theorem d_Machine_fan_65 : decode prog_4_method_17_code 65 = .ok (.iload 9, 2) := by decide +kernel
theorem d_Machine_fan_67 : decode prog_4_method_17_code 67 = .ok (.invokevirtual 174, 3) := by decide +kernel
theorem d_Machine_fan_70 : decode prog_4_method_17_code 70 = .ok (.iload_n 3, 1) := by decide +kernel
theorem d_Machine_fan_71 : decode prog_4_method_17_code 71 = .ok (.aload_n 0, 1) := by decide +kernel
theorem d_Machine_fan_72 : decode prog_4_method_17_code 72 = .ok (.iload 9, 2) := by decide +kernel
theorem d_Machine_fan_74 : decode prog_4_method_17_code 74 = .ok (.invokevirtual 176, 3) := by decide +kernel
theorem d_Machine_fan_77 : decode prog_4_method_17_code 77 = .ok (.invokevirtual 139, 3) := by decide +kernel
theorem d_Machine_fan_80 : decode prog_4_method_17_code 80 = .ok (.iinc 9 1, 3) := by decide +kernel
theorem d_Machine_fan_83 : decode prog_4_method_17_code 83 = .ok (.goto (-35), 3) := by decide +kernel
theorem d_Machine_fan_86 : decode prog_4_method_17_code 86 = .ok (.lload 6, 2) := by decide +kernel
theorem d_Machine_fan_88 : decode prog_4_method_17_code 88 = .ok (.lload 6, 2) := by decide +kernel
theorem d_Machine_fan_90 : decode prog_4_method_17_code 90 = .ok (.lconst 1, 1) := by decide +kernel
theorem d_Machine_fan_91 : decode prog_4_method_17_code 91 = .ok (.lsub, 1) := by decide +kernel
theorem d_Machine_fan_92 : decode prog_4_method_17_code 92 = .ok (.land, 1) := by decide +kernel
theorem d_Machine_fan_93 : decode prog_4_method_17_code 93 = .ok (.lstore 6, 2) := by decide +kernel
theorem d_Machine_fan_95 : decode prog_4_method_17_code 95 = .ok (.goto (-76), 3) := by decide +kernel
theorem d_Machine_fan_98 : decode prog_4_method_17_code 98 = .ok (.iinc 5 1, 3) := by decide +kernel
theorem d_Machine_fan_101 : decode prog_4_method_17_code 101 = .ok (.goto (-98), 3) := by decide +kernel
theorem zc_400 : zI 400 400 400 := ⟨by decide +kernel, by decide +kernel⟩
theorem li_400 : (400 : Int32).toInt = 400 := by decide +kernel
theorem zc_1024 : zI 1024 1024 1024 := ⟨by decide +kernel, by decide +kernel⟩
theorem li_1024 : (1024 : Int32).toInt = 1024 := by decide +kernel
abbrev m_s3_Sets_clear : Room := { frames := 1, cells := 0, slots := 0, locals := 24 }
set_option maxHeartbeats 4000000 in
set_option maxRecDepth 100000 in
theorem s3_Sets_clear (l : Launch) (G : zG) (b0 : Nat) (b1 : Int32) (b2 : Nat) (b3 : Nat) (b4 : Nat → Int64) (hb1 : zI b1 0 10) (hb4 : zqa qB b4) : zM l G y_Sets_clear prog_8_method_3_code 1 (Option.none : Option Jvm.ClassFile.FieldType) m_s3_Sets_clear [.ref b0] [(b0, .inr (6, [.int b1, .int 8, .int 10, .ref b2, .ref b3])), (b2, .inl (G.2 1, 80, .inr (.inl b4)))] (fun v w => ∃ (e0 : Nat → Int64), v = none ∧ w = [(b0, .inr (6, [.int b1, .int 8, .int 10, .ref b2, .ref b3])), (b2, .inl (G.2 1, 80, .inr (.inl e0)))] ∧ (zqa qB e0)) := by
  refine z_start (by decide +kernel) (Nat.le_of_ble_eq_true rfl) ?_
  intro p e s m below meth c A Z hr hnm hA hP hD hS ls hl
  have Z : zC p s m _ meth c prog_8_method_3_code 1 "TraceMachines$StateSets" G := Z
  obtain ⟨hx, hb, hml, hown, hts, hK, hN, hlocks⟩ := id Z
  have hl : lv_has ls 1 [(0, .ref b0)] := hl
  refine lv_aload_n hx hb d_Sets_clear_0 rfl (lv_at hl 0 rfl) ?_
  refine va_get (D := G.1) (ci := 6) (v := .ref b2) (C := R_Sets) (T := F_Sets) (N := 5) hx hb hts i_Sets hown hK hP 0 rfl rfl 3 (by decide) (hts _ q244) (fun _ h9 => h9) rfl d_Sets_clear_1 ?_
  refine lv_lconst (v := 0) hx hb d_Sets_clear_4 (by decide) ?_
  refine z_callS (index := 35) (As := [.ref b2, .long 0]) (rest := []) (wr := [(b0, .inr (6, [.int b1, .int 8, .int 10, .ref b2, .ref b3]))]) Z (c_fill_J l G (b2) (80) (b4) (0) (by decide)) hl.1 q708 q623 q13 q624 ⟨by decide, by decide, by show _ = some 2; decide +kernel⟩ ⟨Nat.le_of_ble_eq_true rfl, Nat.le_of_ble_eq_true rfl⟩ ⟨Nat.le_of_ble_eq_true rfl, Nat.le_of_ble_eq_true rfl⟩ rfl (Nat.le_of_ble_eq_true rfl) d_Sets_clear_5 hP hD hS hA [1] [0] rfl rfl rfl rfl (by decide) (fun v w1 H locs hw_1 hP hD hS => ?_)
  obtain ⟨rfl, rfl⟩ := hw_1
  have hP : va_P G.1 classes [(b0, .inr (6, [.int b1, .int 8, .int 10, .ref b2, .ref b3])), (b2, .inl (G.2 1, 80, .inr (.inl (fun _ => 0))))] H := hP
  have hD := z_tie hP hD rfl
  refine W.widen (k := 0) (n := 0) (Nat.le_of_ble_eq_true rfl) (Nat.le_of_ble_eq_true rfl) ?_
  exact z_vret hx hb hr hlocks hP hD hS (Nat.le_of_ble_eq_true rfl) (Nat.le_of_ble_eq_true rfl) d_Sets_clear_8 ⟨(fun _ => 0), rfl, rfl, zQB_c⟩
abbrev m_s3_Sets_forget : Room := { frames := 1, cells := 0, slots := 0, locals := 23 }
set_option maxHeartbeats 4000000 in
set_option maxRecDepth 100000 in
theorem s3_Sets_forget (l : Launch) (G : zG) (b0 : Nat) (b1 : Int32) (b2 : Nat) (b3 : Nat) (b4 : Nat → Int32) (hb1 : zI b1 0 400) (hb4 : zR b4 (-1) 399) : zM l G y_Sets_forget prog_8_method_2_code 1 (Option.none : Option Jvm.ClassFile.FieldType) m_s3_Sets_forget [.ref b0] [(b0, .inr (6, [.int b1, .int 8, .int 400, .ref b2, .ref b3])), (b3, .inl (G.2 0, 1024, .inl b4))] (fun v w => ∃ (e0 : Nat → Int32), v = none ∧ w = [(b0, .inr (6, [.int 0, .int 8, .int 400, .ref b2, .ref b3])), (b3, .inl (G.2 0, 1024, .inl e0))] ∧ (zR e0 (-1) 399)) := by
  refine z_start (by decide +kernel) (Nat.le_of_ble_eq_true rfl) ?_
  intro p e s m below meth c A Z hr hnm hA hP hD hS ls hl
  have Z : zC p s m _ meth c prog_8_method_2_code 1 "TraceMachines$StateSets" G := Z
  obtain ⟨hx, hb, hml, hown, hts, hK, hN, hlocks⟩ := id Z
  have hl : lv_has ls 1 [(0, .ref b0)] := hl
  refine lv_aload_n hx hb d_Sets_forget_0 rfl (lv_at hl 0 rfl) ?_
  refine lv_iconst (v := 0) hx hb d_Sets_forget_1 (by decide) ?_
  refine va_put (D := G.1) (ci := 6) (v := .int 0) (ty := .int) (C := R_Sets) (T := F_Sets) (N := 5) hx hb hts i_Sets t_Sets t_Sets_ok n_Sets hown hK hP hD hS 0 rfl rfl 0 (by decide) (hts _ q239) (fun _ h9 => h9) rfl (by decide +kernel) rfl rfl (Nat.le_of_ble_eq_true rfl) d_Sets_forget_2 (fun H locs hP hD hS => ?_)
  have hP : va_P G.1 classes [(b0, .inr (6, [.int 0, .int 8, .int 400, .ref b2, .ref b3])), (b3, .inl (G.2 0, 1024, .inl b4))] H := hP
  have hD := z_tie hP hD rfl
  refine lv_aload_n hx hb d_Sets_forget_5 rfl (lv_at hl 0 rfl) ?_
  refine va_get (D := G.1) (ci := 6) (v := .ref b3) (C := R_Sets) (T := F_Sets) (N := 5) hx hb hts i_Sets hown hK hP 0 rfl rfl 4 (by decide) (hts _ q245) (fun _ h9 => h9) rfl d_Sets_forget_6 ?_
  refine lv_iconst (v := (-1)) hx hb d_Sets_forget_9 (by decide) ?_
  refine z_callS (index := 29) (As := [.ref b3, .int (-1)]) (rest := []) (wr := [(b0, .inr (6, [.int 0, .int 8, .int 400, .ref b2, .ref b3]))]) Z (c_fill_I l G (b3) (1024) (b4) ((-1)) (by decide)) hl.1 q829 q415 q13 q416 ⟨by decide, by decide, by show _ = some 2; decide +kernel⟩ ⟨Nat.le_of_ble_eq_true rfl, Nat.le_of_ble_eq_true rfl⟩ ⟨Nat.le_of_ble_eq_true rfl, Nat.le_of_ble_eq_true rfl⟩ rfl (Nat.le_of_ble_eq_true rfl) d_Sets_forget_10 hP hD hS hA [1] [0] rfl rfl rfl rfl (by decide) (fun v w1 H locs hw_1 hP hD hS => ?_)
  obtain ⟨rfl, rfl⟩ := hw_1
  have hP : va_P G.1 classes [(b0, .inr (6, [.int 0, .int 8, .int 400, .ref b2, .ref b3])), (b3, .inl (G.2 0, 1024, .inl (fun _ => (-1))))] H := hP
  have hD := z_tie hP hD rfl
  refine W.widen (k := 0) (n := 0) (Nat.le_of_ble_eq_true rfl) (Nat.le_of_ble_eq_true rfl) ?_
  exact z_vret hx hb hr hlocks hP hD hS (Nat.le_of_ble_eq_true rfl) (Nat.le_of_ble_eq_true rfl) d_Sets_forget_13 ⟨(fun _ => (-1)), rfl, rfl, (zR_c (zI.wk (l' := (-1)) (h' := 399) zc_m1 (by decide)))⟩
abbrev m_s3_Sets_hashOf : Room := { frames := 0, cells := 0, slots := 0, locals := 0 }
set_option maxHeartbeats 4000000 in
set_option maxRecDepth 100000 in
theorem s3_Sets_hashOf (l : Launch) (G : zG) (b0 : Nat) (b1 : Int32) (b2 : Int32) (b3 : Nat) (b4 : Nat) (b5 : Nat → Int64) (hb1 : zI b1 0 9) (hb2 : zI b2 0 10) (hb5 : zqa qB b5) : zM l G y_Sets_hashOf prog_8_method_13_code 5 (Option.some Jvm.ClassFile.FieldType.int) m_s3_Sets_hashOf [.ref b0, .int b1] [(b0, .inr (6, [.int b2, .int 8, .int 10, .ref b3, .ref b4])), (b3, .inl (G.2 1, 80, .inr (.inl b5)))] (fun v w => ∃ (e0 : Int32), v = some (.int e0) ∧ w = [(b0, .inr (6, [.int b2, .int 8, .int 10, .ref b3, .ref b4])), (b3, .inl (G.2 1, 80, .inr (.inl b5)))]) := by
  refine z_start (by decide +kernel) (Nat.le_of_ble_eq_true rfl) ?_
  intro p e s m below meth c A Z hr hnm hA hP hD hS ls hl
  have Z : zC p s m _ meth c prog_8_method_13_code 5 "TraceMachines$StateSets" G := Z
  obtain ⟨hx, hb, hml, hown, hts, hK, hN, hlocks⟩ := id Z
  have hl : lv_has ls 5 [(0, .ref b0), (1, .int b1)] := hl
  refine lv_lconst (v := 0) hx hb d_Sets_hashOf_0 (by decide) ?_
  refine lv_lstore_n (lv' := [(2, .long 0), (0, .ref b0), (1, .int b1)]) hx hb d_Sets_hashOf_1 rfl hl (by decide) rfl (fun ls hl => ?_)
  refine lv_iconst (v := 0) hx hb d_Sets_hashOf_2 (by decide) ?_
  refine lv_istore (lv' := [(4, .int 0), (2, .long 0), (0, .ref b0), (1, .int b1)]) hx hb d_Sets_hashOf_3 hl (by decide) rfl (fun ls hl => ?_)
  suffices key : ∀ (k_70 : Nat) (y_71 : Int32) (y_72 : Int64) (H : Heap) (locs : List Loc) (ls : Array Slot), (zI y_71 0 8) → (8 : Int) - y_71.toInt < (k_70 : Int) → va_P G.1 classes [(b0, .inr (6, [.int b2, .int 8, .int 10, .ref b3, .ref b4])), (b3, .inl (G.2 1, 80, .inr (.inl b5)))] H → va_D A [(b0, .inr (6, [.int b2, .int 8, .int 10, .ref b3, .ref b4])), (b3, .inl (G.2 1, 80, .inr (.inl b5)))] → va_S A s.heap H locs → lv_has ls 5 [(4, .int y_71), (2, .long y_72), (0, .ref b0), (1, .int b1)] → W p l e m_s3_Sets_hashOf s m ([.ref b0, .int b1] : List Value).toArray below meth c H locs 0 0 (MQ below (zQ G (fun v w => ∃ (e0 : Int32), v = some (.int e0) ∧ w = [(b0, .inr (6, [.int b2, .int 8, .int 10, .ref b3, .ref b4])), (b3, .inl (G.2 1, 80, .inr (.inl b5)))]) A) ([.ref b0, .int b1] : List Value).toArray s m_s3_Sets_hashOf.cells m_s3_Sets_hashOf.slots A) (F0 m 5 ls []) by
    exact key 9 (0) (0) _ _ _ (zI.wk (l' := 0) (h' := 8) zc_0 (by decide)) (zm_upi (zI.wk (l' := 0) (h' := 8) zc_0 (by decide)) (by decide)) hP hD hS (lv_sub hl [0, 1, 2, 3] rfl)
  intro k_70
  induction k_70 with
  | zero =>
    intro y_71 y_72 H locs ls hy_71 hmk_70 hP hD hS hl
    exact (zm_up0 hy_71 hmk_70).elim
  | succ k_70 ihk_70 =>
    intro y_71 y_72 H locs ls hy_71 hmk_70 hP hD hS hl
    refine lv_iload hx hb d_Sets_hashOf_5 (lv_at hl 0 rfl) ?_
    refine lv_aload_n hx hb d_Sets_hashOf_7 rfl (lv_at hl 2 rfl) ?_
    refine va_get (D := G.1) (ci := 6) (v := .int 8) (C := R_Sets) (T := F_Sets) (N := 5) hx hb hts i_Sets hown hK hP 0 rfl rfl 1 (by decide) (hts _ q242) (fun _ h9 => h9) rfl d_Sets_hashOf_8 ?_
    refine lv_icmp_ge (tgt := 48) hx hb d_Sets_hashOf_11 (by decide) (fun hc_73 => ?_) (fun hc_73 => ?_)
    · have _nhc_73 := hc_73
      have ni_74 := (fa_le _ _).mp hc_73
      rw [li_8] at ni_74
      have hv_75 : zI y_71 8 8 := zI.le_r zc_8 hy_71 hc_73 (by decide)
      refine lv_lload_n hx hb d_Sets_hashOf_48 rfl (lv_at hl 1 rfl) ?_
      obtain ⟨v_76, ev_76⟩ : ∃ z : Int32, z = (y_72).toInt32 := ⟨_, rfl⟩
      refine lv_l2i (v := v_76) hx hb d_Sets_hashOf_49 ev_76.symm ?_
      exact z_iret hx hb hr hlocks hP hD hS (Nat.le_of_ble_eq_true rfl) (Nat.le_of_ble_eq_true rfl) d_Sets_hashOf_50 ⟨v_76, rfl, rfl⟩
    · have _nhc_73 := hc_73
      have ni_77 := (fa_lt _ _).mp (zi_nle hc_73)
      rw [li_8] at ni_77
      have hv_78 : zI y_71 0 7 := zI.lt_l hy_71 zc_8 (zi_nle hc_73) (by decide)
      refine lv_lload_n hx hb d_Sets_hashOf_14 rfl (lv_at hl 1 rfl) ?_
      refine lv_aload_n hx hb d_Sets_hashOf_15 rfl (lv_at hl 2 rfl) ?_
      refine va_get (D := G.1) (ci := 6) (v := .ref b3) (C := R_Sets) (T := F_Sets) (N := 5) hx hb hts i_Sets hown hK hP 0 rfl rfl 3 (by decide) (hts _ q244) (fun _ h9 => h9) rfl d_Sets_hashOf_16 ?_
      refine lv_iload_n hx hb d_Sets_hashOf_19 rfl (lv_at hl 3 rfl) ?_
      refine lv_aload_n hx hb d_Sets_hashOf_20 rfl (lv_at hl 2 rfl) ?_
      refine va_get (D := G.1) (ci := 6) (v := .int 8) (C := R_Sets) (T := F_Sets) (N := 5) hx hb hts i_Sets hown hK hP 0 rfl rfl 1 (by decide) (hts _ q242) (fun _ h9 => h9) rfl d_Sets_hashOf_21 ?_
      refine lv_imul hx hb d_Sets_hashOf_24 ?_
      refine lv_topi (fun v_79 ev_79 => ?_)
      obtain ⟨qv_79, hv_79⟩ := zI_mul (l := 0) (h := 72) hb1 zc_8 ev_79 (by decide)
      rw [li_8] at qv_79
      refine lv_iload hx hb d_Sets_hashOf_25 (lv_at hl 0 rfl) ?_
      refine lv_iadd hx hb d_Sets_hashOf_27 ?_
      refine lv_topi (fun v_80 ev_80 => ?_)
      obtain ⟨qv_80, hv_80⟩ := zI_add (l := 0) (h := 79) hv_79 hv_78 ev_80 (by decide)
      refine va_lald hx hb hK hP 1 1 rfl rfl (zI.inn hv_80 (by decide)) d_Sets_hashOf_28 ?_
      refine lv_topl (fun v_81 ev_81 => ?_)
      have bv_81 := zQB.ld hb5 hv_80 ev_81 (by decide)
      refine lv_lxor hx hb d_Sets_hashOf_29 ?_
      refine lv_topl (fun v_82 ev_82 => ?_)
      refine lv_ldc2 hx hb hown (hts _ q838) d_Sets_hashOf_30 ?_
      refine lv_lmul hx hb d_Sets_hashOf_33 ?_
      refine lv_topl (fun v_83 ev_83 => ?_)
      refine lv_lstore_n (lv' := [(2, .long v_83), (4, .int y_71), (0, .ref b0), (1, .int b1)]) hx hb d_Sets_hashOf_34 rfl hl (by decide) rfl (fun ls hl => ?_)
      refine lv_lload_n hx hb d_Sets_hashOf_35 rfl (lv_at hl 0 rfl) ?_
      refine lv_lload_n hx hb d_Sets_hashOf_36 rfl (lv_at hl 0 rfl) ?_
      refine lv_bipush (v := 32) hx hb d_Sets_hashOf_37 (by decide) ?_
      obtain ⟨v_84, ev_84⟩ : ∃ z : Int64, z = ((v_83).toUInt64 >>> ((32 : Int32).toInt64.toUInt64 &&& Int64.toUInt64 63)).toInt64 := ⟨_, rfl⟩
      refine lv_lushr (v := v_84) hx hb d_Sets_hashOf_39 ev_84.symm ?_
      refine lv_lxor hx hb d_Sets_hashOf_40 ?_
      refine lv_topl (fun v_85 ev_85 => ?_)
      refine lv_lstore_n (lv' := [(2, .long v_85), (4, .int y_71), (0, .ref b0), (1, .int b1)]) hx hb d_Sets_hashOf_41 rfl hl (by decide) rfl (fun ls hl => ?_)
      obtain ⟨v_86, ev_86⟩ : ∃ z : Int32, z = y_71 + 1 := ⟨_, rfl⟩
      obtain ⟨qv_86, hv_86⟩ := zI_add (l := 1) (h := 8) hv_78 zc_1 ev_86 (by decide)
      rw [li_1] at qv_86
      refine lv_iinc (v := v_86) (lv' := [(4, .int v_86), (2, .long v_85), (0, .ref b0), (1, .int b1)]) hx hb d_Sets_hashOf_42 hl (k := 1) rfl (by rw [ev_86]; rfl) (by decide) rfl (fun ls hl => ?_)
      refine lv_goto (tgt := 5) hx hb d_Sets_hashOf_45 (by decide) ?_
      exact ihk_70 (v_86) (v_85) _ _ _ (zI.wk (l' := 0) (h' := 8) hv_86 (by decide)) (zm_up qv_86 hmk_70 (by decide)) hP hD hS (lv_sub hl [0, 1, 2, 3] rfl)
theorem d_Sets_indexOf_78 : decode prog_8_method_11_code 78 = .ok (.ireturn, 1) := by decide +kernel
theorem d_Sets_isLike_45 : decode prog_8_method_14_code 45 = .ok (.ireturn, 1) := by decide +kernel
theorem d_Sets_isLike_53 : decode prog_8_method_14_code 53 = .ok (.ireturn, 1) := by decide +kernel
abbrev m_s2_Sets_isLike : Room := { frames := 0, cells := 0, slots := 0, locals := 0 }
set_option maxHeartbeats 4000000 in
set_option maxRecDepth 100000 in
theorem s2_Sets_isLike (l : Launch) (G : zG) (b0 : Nat) (b1 : Int32) (b2 : Nat) (b3 : Int32) (b4 : Int32) (b5 : Nat) (b6 : Nat) (b7 : Nat → Int64) (b8 : Int32) (b9 : Nat) (b10 : Nat) (b11 : Nat → Int64) (hb1 : zI b1 0 399) (hb3 : zI b3 0 9) (hb4 : zI b4 0 400) (hb8 : zI b8 0 10) (hb7 : zqa qB b7) (hb11 : zqa qB b11) : zM l G y_Sets_isLike prog_8_method_14_code 5 (Option.some Jvm.ClassFile.FieldType.boolean) m_s2_Sets_isLike [.ref b0, .int b1, .ref b2, .int b3] [(b0, .inr (6, [.int b4, .int 8, .int 400, .ref b5, .ref b6])), (b5, .inl (G.2 1, 3200, .inr (.inl b7))), (b2, .inr (6, [.int b8, .int 8, .int 10, .ref b9, .ref b10])), (b9, .inl (G.2 1, 80, .inr (.inl b11)))] (fun v w => ∃ (e0 : Int32), v = some (.int e0) ∧ w = [(b0, .inr (6, [.int b4, .int 8, .int 400, .ref b5, .ref b6])), (b5, .inl (G.2 1, 3200, .inr (.inl b7))), (b2, .inr (6, [.int b8, .int 8, .int 10, .ref b9, .ref b10])), (b9, .inl (G.2 1, 80, .inr (.inl b11)))] ∧ (zI e0 0 1)) := by
  refine z_start (by decide +kernel) (Nat.le_of_ble_eq_true rfl) ?_
  intro p e s m below meth c A Z hr hnm hA hP hD hS ls hl
  have Z : zC p s m _ meth c prog_8_method_14_code 5 "TraceMachines$StateSets" G := Z
  obtain ⟨hx, hb, hml, hown, hts, hK, hN, hlocks⟩ := id Z
  have hl : lv_has ls 5 [(0, .ref b0), (1, .int b1), (2, .ref b2), (3, .int b3)] := hl
  refine lv_iconst (v := 0) hx hb d_Sets_isLike_0 (by decide) ?_
  refine lv_istore (lv' := [(4, .int 0), (0, .ref b0), (1, .int b1), (2, .ref b2), (3, .int b3)]) hx hb d_Sets_isLike_1 hl (by decide) rfl (fun ls hl => ?_)
  suffices key : ∀ (k_81 : Nat) (y_82 : Int32) (H : Heap) (locs : List Loc) (ls : Array Slot), (zI y_82 0 8) → (8 : Int) - y_82.toInt < (k_81 : Int) → va_P G.1 classes [(b0, .inr (6, [.int b4, .int 8, .int 400, .ref b5, .ref b6])), (b5, .inl (G.2 1, 3200, .inr (.inl b7))), (b2, .inr (6, [.int b8, .int 8, .int 10, .ref b9, .ref b10])), (b9, .inl (G.2 1, 80, .inr (.inl b11)))] H → va_D A [(b0, .inr (6, [.int b4, .int 8, .int 400, .ref b5, .ref b6])), (b5, .inl (G.2 1, 3200, .inr (.inl b7))), (b2, .inr (6, [.int b8, .int 8, .int 10, .ref b9, .ref b10])), (b9, .inl (G.2 1, 80, .inr (.inl b11)))] → va_S A s.heap H locs → lv_has ls 5 [(4, .int y_82), (0, .ref b0), (1, .int b1), (2, .ref b2), (3, .int b3)] → W p l e m_s2_Sets_isLike s m ([.ref b0, .int b1, .ref b2, .int b3] : List Value).toArray below meth c H locs 0 0 (MQ below (zQ G (fun v w => ∃ (e0 : Int32), v = some (.int e0) ∧ w = [(b0, .inr (6, [.int b4, .int 8, .int 400, .ref b5, .ref b6])), (b5, .inl (G.2 1, 3200, .inr (.inl b7))), (b2, .inr (6, [.int b8, .int 8, .int 10, .ref b9, .ref b10])), (b9, .inl (G.2 1, 80, .inr (.inl b11)))] ∧ (zI e0 0 1)) A) ([.ref b0, .int b1, .ref b2, .int b3] : List Value).toArray s m_s2_Sets_isLike.cells m_s2_Sets_isLike.slots A) (F0 m 3 ls []) by
    exact key 9 (0) _ _ _ (zI.wk (l' := 0) (h' := 8) zc_0 (by decide)) (zm_upi (zI.wk (l' := 0) (h' := 8) zc_0 (by decide)) (by decide)) hP hD hS (lv_sub hl [0, 1, 2, 3, 4] rfl)
  intro k_81
  induction k_81 with
  | zero =>
    intro y_82 H locs ls hy_82 hmk_81 hP hD hS hl
    exact (zm_up0 hy_82 hmk_81).elim
  | succ k_81 ihk_81 =>
    intro y_82 H locs ls hy_82 hmk_81 hP hD hS hl
    refine lv_iload hx hb d_Sets_isLike_3 (lv_at hl 0 rfl) ?_
    refine lv_aload_n hx hb d_Sets_isLike_5 rfl (lv_at hl 1 rfl) ?_
    refine va_get (D := G.1) (ci := 6) (v := .int 8) (C := R_Sets) (T := F_Sets) (N := 5) hx hb hts i_Sets hown hK hP 0 rfl rfl 1 (by decide) (hts _ q242) (fun _ h9 => h9) rfl d_Sets_isLike_6 ?_
    refine lv_icmp_ge (tgt := 52) hx hb d_Sets_isLike_9 (by decide) (fun hc_83 => ?_) (fun hc_83 => ?_)
    · have _nhc_83 := hc_83
      have ni_84 := (fa_le _ _).mp hc_83
      rw [li_8] at ni_84
      have hv_85 : zI y_82 8 8 := zI.le_r zc_8 hy_82 hc_83 (by decide)
      refine lv_iconst (v := 1) hx hb d_Sets_isLike_52 (by decide) ?_
      exact z_zret hx hb hr hlocks rfl hP hD hS (Nat.le_of_ble_eq_true rfl) (Nat.le_of_ble_eq_true rfl) d_Sets_isLike_53 ⟨1, rfl, rfl, (zI.wk (l' := 0) (h' := 1) zc_1 (by decide))⟩
    · have _nhc_83 := hc_83
      have ni_86 := (fa_lt _ _).mp (zi_nle hc_83)
      rw [li_8] at ni_86
      have hv_87 : zI y_82 0 7 := zI.lt_l hy_82 zc_8 (zi_nle hc_83) (by decide)
      refine lv_aload_n hx hb d_Sets_isLike_12 rfl (lv_at hl 1 rfl) ?_
      refine va_get (D := G.1) (ci := 6) (v := .ref b5) (C := R_Sets) (T := F_Sets) (N := 5) hx hb hts i_Sets hown hK hP 0 rfl rfl 3 (by decide) (hts _ q244) (fun _ h9 => h9) rfl d_Sets_isLike_13 ?_
      refine lv_iload_n hx hb d_Sets_isLike_16 rfl (lv_at hl 2 rfl) ?_
      refine lv_aload_n hx hb d_Sets_isLike_17 rfl (lv_at hl 1 rfl) ?_
      refine va_get (D := G.1) (ci := 6) (v := .int 8) (C := R_Sets) (T := F_Sets) (N := 5) hx hb hts i_Sets hown hK hP 0 rfl rfl 1 (by decide) (hts _ q242) (fun _ h9 => h9) rfl d_Sets_isLike_18 ?_
      refine lv_imul hx hb d_Sets_isLike_21 ?_
      refine lv_topi (fun v_88 ev_88 => ?_)
      obtain ⟨qv_88, hv_88⟩ := zI_mul (l := 0) (h := 3192) hb1 zc_8 ev_88 (by decide)
      rw [li_8] at qv_88
      refine lv_iload hx hb d_Sets_isLike_22 (lv_at hl 0 rfl) ?_
      refine lv_iadd hx hb d_Sets_isLike_24 ?_
      refine lv_topi (fun v_89 ev_89 => ?_)
      obtain ⟨qv_89, hv_89⟩ := zI_add (l := 0) (h := 3199) hv_88 hv_87 ev_89 (by decide)
      refine va_lald hx hb hK hP 1 1 rfl rfl (zI.inn hv_89 (by decide)) d_Sets_isLike_25 ?_
      refine lv_topl (fun v_90 ev_90 => ?_)
      have bv_90 := zQB.ld hb7 hv_89 ev_90 (by decide)
      refine lv_aload_n hx hb d_Sets_isLike_26 rfl (lv_at hl 3 rfl) ?_
      refine va_get (D := G.1) (ci := 6) (v := .ref b9) (C := R_Sets) (T := F_Sets) (N := 5) hx hb hts i_Sets hown hK hP 2 rfl rfl 3 (by decide) (hts _ q244) (fun _ h9 => h9) rfl d_Sets_isLike_27 ?_
      refine lv_iload_n hx hb d_Sets_isLike_30 rfl (lv_at hl 4 rfl) ?_
      refine lv_aload_n hx hb d_Sets_isLike_31 rfl (lv_at hl 1 rfl) ?_
      refine va_get (D := G.1) (ci := 6) (v := .int 8) (C := R_Sets) (T := F_Sets) (N := 5) hx hb hts i_Sets hown hK hP 0 rfl rfl 1 (by decide) (hts _ q242) (fun _ h9 => h9) rfl d_Sets_isLike_32 ?_
      refine lv_imul hx hb d_Sets_isLike_35 ?_
      refine lv_topi (fun v_91 ev_91 => ?_)
      obtain ⟨qv_91, hv_91⟩ := zI_mul (l := 0) (h := 72) hb3 zc_8 ev_91 (by decide)
      rw [li_8] at qv_91
      refine lv_iload hx hb d_Sets_isLike_36 (lv_at hl 0 rfl) ?_
      refine lv_iadd hx hb d_Sets_isLike_38 ?_
      refine lv_topi (fun v_92 ev_92 => ?_)
      obtain ⟨qv_92, hv_92⟩ := zI_add (l := 0) (h := 79) hv_91 hv_87 ev_92 (by decide)
      refine va_lald hx hb hK hP 3 1 rfl rfl (zI.inn hv_92 (by decide)) d_Sets_isLike_39 ?_
      refine lv_topl (fun v_93 ev_93 => ?_)
      have bv_93 := zQB.ld hb11 hv_92 ev_93 (by decide)
      refine W.lcmp hx hb d_Sets_isLike_40 ?_
      refine lv_topi (fun v_94 ev_94 => ?_)
      refine lv_if_eq (tgt := 46) hx hb d_Sets_isLike_41 (by decide) (fun hc_95 => ?_) (fun hc_95 => ?_)
      · have ni_96 := hc_95
        rw [ev_94] at ni_96
        simp only [lg_cmp_lt, lg_cmp_le, lg_cmp_gt, lg_cmp_ge, lg_cmp_eq, fa_lt64, fa_le64, fa_eq64, Int32.toInt_toInt64] at ni_96
        obtain ⟨v_97, ev_97⟩ : ∃ z : Int32, z = y_82 + 1 := ⟨_, rfl⟩
        obtain ⟨qv_97, hv_97⟩ := zI_add (l := 1) (h := 8) hv_87 zc_1 ev_97 (by decide)
        rw [li_1] at qv_97
        refine lv_iinc (v := v_97) (lv' := [(4, .int v_97), (0, .ref b0), (1, .int b1), (2, .ref b2), (3, .int b3)]) hx hb d_Sets_isLike_46 hl (k := 0) rfl (by rw [ev_97]; rfl) (by decide) rfl (fun ls hl => ?_)
        refine lv_goto (tgt := 3) hx hb d_Sets_isLike_49 (by decide) ?_
        exact ihk_81 (v_97) _ _ _ (zI.wk (l' := 0) (h' := 8) hv_97 (by decide)) (zm_up qv_97 hmk_81 (by decide)) hP hD hS (lv_sub hl [0, 1, 2, 3, 4] rfl)
      · have ni_98 := hc_95
        rw [ev_94] at ni_98
        simp only [lg_cmp_lt, lg_cmp_le, lg_cmp_gt, lg_cmp_ge, lg_cmp_eq, fa_lt64, fa_le64, fa_eq64, Int32.toInt_toInt64] at ni_98
        refine lv_iconst (v := 0) hx hb d_Sets_isLike_44 (by decide) ?_
        exact z_zret hx hb hr hlocks rfl hP hD hS (Nat.le_of_ble_eq_true rfl) (Nat.le_of_ble_eq_true rfl) d_Sets_isLike_45 ⟨0, rfl, rfl, (zI.wk (l' := 0) (h' := 1) zc_0 (by decide))⟩
theorem d_Sets_indexOf_70 : decode prog_8_method_11_code 70 = .ok (.ireturn, 1) := by decide +kernel
theorem d_Sets_append_12 : decode prog_8_method_12_code 12 = .ok (.ireturn, 1) := by decide +kernel
theorem d_Sets_append_69 : decode prog_8_method_12_code 69 = .ok (.ireturn, 1) := by decide +kernel
abbrev m_s2_Sets_append : Room := { frames := 1, cells := 0, slots := 0, locals := 18 }
set_option maxHeartbeats 4000000 in
set_option maxRecDepth 100000 in
theorem s2_Sets_append (l : Launch) (G : zG) (b0 : Nat) (b1 : Nat) (b2 : Int32) (b3 : Int32) (b4 : Int32) (b5 : Nat) (b6 : Nat) (b7 : Nat → Int64) (b8 : Nat → Int32) (b9 : Int32) (b10 : Nat) (b11 : Nat) (b12 : Nat → Int64) (hb2 : zI b2 0 9) (hb3 : zI b3 0 1023) (hb4 : zI b4 0 400) (hb9 : zI b9 0 10) (hb7 : zqa qB b7) (hb8 : zR b8 (-1) 399) (hb12 : zqa qB b12) : zM l G y_Sets_append prog_8_method_12_code 4 (Option.some Jvm.ClassFile.FieldType.int) m_s2_Sets_append [.ref b0, .ref b1, .int b2, .int b3] [(b0, .inr (6, [.int b4, .int 8, .int 400, .ref b5, .ref b6])), (b5, .inl (G.2 1, 3200, .inr (.inl b7))), (b6, .inl (G.2 0, 1024, .inl b8)), (b1, .inr (6, [.int b9, .int 8, .int 10, .ref b10, .ref b11])), (b10, .inl (G.2 1, 80, .inr (.inl b12)))] (fun v w => ∃ (e0 : Int32), ∃ (e1 : Int32), ∃ (e2 : Nat → Int64), ∃ (e3 : Nat → Int32), v = some (.int e0) ∧ w = [(b0, .inr (6, [.int e1, .int 8, .int 400, .ref b5, .ref b6])), (b5, .inl (G.2 1, 3200, .inr (.inl e2))), (b6, .inl (G.2 0, 1024, .inl e3)), (b1, .inr (6, [.int b9, .int 8, .int 10, .ref b10, .ref b11])), (b10, .inl (G.2 1, 80, .inr (.inl b12)))] ∧ (zI e0 (-1) 399) ∧ (zI e1 0 400) ∧ (zqa qB e2) ∧ (zR e3 (-1) 399) ∧ (b4.toInt ≤ e1.toInt)) := by
  refine z_start (by decide +kernel) (Nat.le_of_ble_eq_true rfl) ?_
  intro p e s m below meth c A Z hr hnm hA hP hD hS ls hl
  have Z : zC p s m _ meth c prog_8_method_12_code 4 "TraceMachines$StateSets" G := Z
  obtain ⟨hx, hb, hml, hown, hts, hK, hN, hlocks⟩ := id Z
  have hl : lv_has ls 4 [(0, .ref b0), (1, .ref b1), (2, .int b2), (3, .int b3)] := hl
  refine lv_aload_n hx hb d_Sets_append_0 rfl (lv_at hl 0 rfl) ?_
  refine va_get (D := G.1) (ci := 6) (v := .int b4) (C := R_Sets) (T := F_Sets) (N := 5) hx hb hts i_Sets hown hK hP 0 rfl rfl 0 (by decide) (hts _ q239) (fun _ h9 => h9) rfl d_Sets_append_1 ?_
  refine lv_aload_n hx hb d_Sets_append_4 rfl (lv_at hl 0 rfl) ?_
  refine va_get (D := G.1) (ci := 6) (v := .int 400) (C := R_Sets) (T := F_Sets) (N := 5) hx hb hts i_Sets hown hK hP 0 rfl rfl 2 (by decide) (hts _ q243) (fun _ h9 => h9) rfl d_Sets_append_5 ?_
  refine lv_icmp_ne (tgt := 13) hx hb d_Sets_append_8 (by decide) (fun hc_1 => ?_) (fun hc_1 => ?_)
  · have _nhc_1 := hc_1
    have ni_2 : ¬ (b4 : Int32).toInt = (400 : Int32).toInt := fun z => hc_1 ((fa_eq _ _).mpr z)
    simp only [li_400] at ni_2
    have hv_3 : zI b4 0 399 := zI.ne_hi hb4 zc_400 hc_1 (by decide)
    refine lv_aload_n hx hb d_Sets_append_13 rfl (lv_at hl 1 rfl) ?_
    refine va_get (D := G.1) (ci := 6) (v := .ref b10) (C := R_Sets) (T := F_Sets) (N := 5) hx hb hts i_Sets hown hK hP 3 rfl rfl 3 (by decide) (hts _ q244) (fun _ h9 => h9) rfl d_Sets_append_14 ?_
    refine lv_iload_n hx hb d_Sets_append_17 rfl (lv_at hl 2 rfl) ?_
    refine lv_aload_n hx hb d_Sets_append_18 rfl (lv_at hl 0 rfl) ?_
    refine va_get (D := G.1) (ci := 6) (v := .int 8) (C := R_Sets) (T := F_Sets) (N := 5) hx hb hts i_Sets hown hK hP 0 rfl rfl 1 (by decide) (hts _ q242) (fun _ h9 => h9) rfl d_Sets_append_19 ?_
    refine lv_imul hx hb d_Sets_append_22 ?_
    refine lv_topi (fun v_4 ev_4 => ?_)
    obtain ⟨qv_4, hv_4⟩ := zI_mul (l := 0) (h := 72) hb2 zc_8 ev_4 (by decide)
    rw [li_8] at qv_4
    refine lv_aload_n hx hb d_Sets_append_23 rfl (lv_at hl 0 rfl) ?_
    refine va_get (D := G.1) (ci := 6) (v := .ref b5) (C := R_Sets) (T := F_Sets) (N := 5) hx hb hts i_Sets hown hK hP 0 rfl rfl 3 (by decide) (hts _ q244) (fun _ h9 => h9) rfl d_Sets_append_24 ?_
    refine lv_aload_n hx hb d_Sets_append_27 rfl (lv_at hl 0 rfl) ?_
    refine va_get (D := G.1) (ci := 6) (v := .int b4) (C := R_Sets) (T := F_Sets) (N := 5) hx hb hts i_Sets hown hK hP 0 rfl rfl 0 (by decide) (hts _ q239) (fun _ h9 => h9) rfl d_Sets_append_28 ?_
    refine lv_aload_n hx hb d_Sets_append_31 rfl (lv_at hl 0 rfl) ?_
    refine va_get (D := G.1) (ci := 6) (v := .int 8) (C := R_Sets) (T := F_Sets) (N := 5) hx hb hts i_Sets hown hK hP 0 rfl rfl 1 (by decide) (hts _ q242) (fun _ h9 => h9) rfl d_Sets_append_32 ?_
    refine lv_imul hx hb d_Sets_append_35 ?_
    refine lv_topi (fun v_5 ev_5 => ?_)
    obtain ⟨qv_5, hv_5⟩ := zI_mul (l := 0) (h := 3192) hv_3 zc_8 ev_5 (by decide)
    rw [li_8] at qv_5
    refine lv_aload_n hx hb d_Sets_append_36 rfl (lv_at hl 0 rfl) ?_
    refine va_get (D := G.1) (ci := 6) (v := .int 8) (C := R_Sets) (T := F_Sets) (N := 5) hx hb hts i_Sets hown hK hP 0 rfl rfl 1 (by decide) (hts _ q242) (fun _ h9 => h9) rfl d_Sets_append_37 ?_
    refine va_copyl hx hb (hml.trans hl.1.symm) hown (hts _ q843) (hts _ q504) (hts _ q503) (hts _ q15) hK hP hD hS 4 1 1 1 rfl rfl rfl rfl rfl (zi_nn hv_4 (by decide)) (zi_nn hv_5 (by decide)) (zi_nn zc_8 (by decide)) (zi_cp hv_4 zc_8 (by decide) (by decide) (by decide)) (zi_cp hv_5 zc_8 (by decide) (by decide) (by decide)) (fun _ _ => rfl) (Nat.le_of_ble_eq_true rfl) (Nat.le_of_ble_eq_true rfl) d_Sets_append_40 (fun H locs hP hD hS => ?_)
    obtain ⟨f_6, hf_6, hP, hD⟩ := z_newlB 1 hP hD rfl (zQB.cpy hb12 hb7 (by have p9 := z_pl hv_4 (by decide); have p8 := z_pl hv_5 (by decide); omega))
    have hP : va_P G.1 classes [(b0, .inr (6, [.int b4, .int 8, .int 400, .ref b5, .ref b6])), (b5, .inl (G.2 1, 3200, .inr (.inl f_6))), (b6, .inl (G.2 0, 1024, .inl b8)), (b1, .inr (6, [.int b9, .int 8, .int 10, .ref b10, .ref b11])), (b10, .inl (G.2 1, 80, .inr (.inl b12)))] H := hP
    have hD := z_tie hP hD rfl
    refine lv_aload_n hx hb d_Sets_append_43 rfl (lv_at hl 0 rfl) ?_
    refine va_get (D := G.1) (ci := 6) (v := .ref b6) (C := R_Sets) (T := F_Sets) (N := 5) hx hb hts i_Sets hown hK hP 0 rfl rfl 4 (by decide) (hts _ q245) (fun _ h9 => h9) rfl d_Sets_append_44 ?_
    refine lv_iload_n hx hb d_Sets_append_47 rfl (lv_at hl 3 rfl) ?_
    refine lv_aload_n hx hb d_Sets_append_48 rfl (lv_at hl 0 rfl) ?_
    refine va_get (D := G.1) (ci := 6) (v := .int b4) (C := R_Sets) (T := F_Sets) (N := 5) hx hb hts i_Sets hown hK hP 0 rfl rfl 0 (by decide) (hts _ q239) (fun _ h9 => h9) rfl d_Sets_append_49 ?_
    refine va_iast hx hb hK hP hD hS 2 0 rfl rfl (zI.inn hb3 (by decide)) d_Sets_append_52 (fun H locs hP hD hS => ?_)
    obtain ⟨f_7, hf_7, gf_7, uf_7, hP, hD⟩ := z_newfu 2 hP hD rfl hb8 (zI.wk (l' := (-1)) (h' := 399) hv_3 (by decide))
    have hP : va_P G.1 classes [(b0, .inr (6, [.int b4, .int 8, .int 400, .ref b5, .ref b6])), (b5, .inl (G.2 1, 3200, .inr (.inl f_6))), (b6, .inl (G.2 0, 1024, .inl f_7)), (b1, .inr (6, [.int b9, .int 8, .int 10, .ref b10, .ref b11])), (b10, .inl (G.2 1, 80, .inr (.inl b12)))] H := hP
    have hD := z_tie hP hD rfl
    refine lv_aload_n hx hb d_Sets_append_53 rfl (lv_at hl 0 rfl) ?_
    refine lv_dup hx hb d_Sets_append_54 rfl ?_
    refine va_get (D := G.1) (ci := 6) (v := .int b4) (C := R_Sets) (T := F_Sets) (N := 5) hx hb hts i_Sets hown hK hP 0 rfl rfl 0 (by decide) (hts _ q239) (fun _ h9 => h9) rfl d_Sets_append_55 ?_
    refine lv_iconst (v := 1) hx hb d_Sets_append_58 (by decide) ?_
    refine lv_iadd hx hb d_Sets_append_59 ?_
    refine lv_topi (fun v_8 ev_8 => ?_)
    obtain ⟨qv_8, hv_8⟩ := zI_add (l := 1) (h := 400) hv_3 zc_1 ev_8 (by decide)
    rw [li_1] at qv_8
    refine va_put (D := G.1) (ci := 6) (v := .int v_8) (ty := .int) (C := R_Sets) (T := F_Sets) (N := 5) hx hb hts i_Sets t_Sets t_Sets_ok n_Sets hown hK hP hD hS 0 rfl rfl 0 (by decide) (hts _ q239) (fun _ h9 => h9) rfl (by decide +kernel) rfl rfl (Nat.le_of_ble_eq_true rfl) d_Sets_append_60 (fun H locs hP hD hS => ?_)
    have hP : va_P G.1 classes [(b0, .inr (6, [.int v_8, .int 8, .int 400, .ref b5, .ref b6])), (b5, .inl (G.2 1, 3200, .inr (.inl f_6))), (b6, .inl (G.2 0, 1024, .inl f_7)), (b1, .inr (6, [.int b9, .int 8, .int 10, .ref b10, .ref b11])), (b10, .inl (G.2 1, 80, .inr (.inl b12)))] H := hP
    have hD := z_tie hP hD rfl
    refine lv_aload_n hx hb d_Sets_append_63 rfl (lv_at hl 0 rfl) ?_
    refine va_get (D := G.1) (ci := 6) (v := .int v_8) (C := R_Sets) (T := F_Sets) (N := 5) hx hb hts i_Sets hown hK hP 0 rfl rfl 0 (by decide) (hts _ q239) (fun _ h9 => h9) rfl d_Sets_append_64 ?_
    refine lv_iconst (v := 1) hx hb d_Sets_append_67 (by decide) ?_
    refine lv_isub hx hb d_Sets_append_68 ?_
    refine lv_topi (fun v_9 ev_9 => ?_)
    obtain ⟨qv_9, hv_9⟩ := zI_sub (l := 0) (h := 399) hv_8 zc_1 ev_9 (by decide)
    rw [li_1] at qv_9
    exact z_iret hx hb hr hlocks hP hD hS (Nat.le_of_ble_eq_true rfl) (Nat.le_of_ble_eq_true rfl) d_Sets_append_69 ⟨v_9, v_8, f_6, f_7, rfl, rfl, (zI.wk (l' := (-1)) (h' := 399) hv_9 (by decide)), (zI.wk (l' := 0) (h' := 400) hv_8 (by decide)), hf_6, hf_7, (by omega)⟩
  · have _nhc_1 := hc_1
    have ni_10 := (fa_eq _ _).mp hc_1
    rw [li_400] at ni_10
    have hv_11 : zI b4 400 400 := zI.eq_l hb4 zc_400 hc_1
    refine lv_iconst (v := (-1)) hx hb d_Sets_append_11 (by decide) ?_
    exact z_iret hx hb hr hlocks hP hD hS (Nat.le_of_ble_eq_true rfl) (Nat.le_of_ble_eq_true rfl) d_Sets_append_12 ⟨(-1), b4, b7, b8, rfl, rfl, (zI.wk (l' := (-1)) (h' := 399) zc_m1 (by decide)), (zI.wk (l' := 0) (h' := 400) hv_11 (by decide)), hb7, hb8, (by omega)⟩
theorem d_Sets_indexOf_56 : decode prog_8_method_11_code 56 = .ok (.ireturn, 1) := by decide +kernel
abbrev m_s2_Sets_indexOf : Room := { frames := 2, cells := 0, slots := 0, locals := 41 }
set_option maxHeartbeats 4000000 in
set_option maxRecDepth 100000 in
theorem s2_Sets_indexOf (l : Launch) (G : zG) (b0 : Nat) (b1 : Nat) (b2 : Int32) (b3 : Int32) (b4 : Nat) (b5 : Nat) (b6 : Nat → Int64) (b7 : Nat → Int32) (b8 : Int32) (b9 : Nat) (b10 : Nat) (b11 : Nat → Int64) (hb2 : zI b2 0 9) (hb3 : zI b3 0 400) (hb8 : zI b8 0 10) (hb6 : zqa qB b6) (hb7 : zR b7 (-1) 399) (hb11 : zqa qB b11) : zM l G y_Sets_indexOf prog_8_method_11_code 7 (Option.some Jvm.ClassFile.FieldType.int) m_s2_Sets_indexOf [.ref b0, .ref b1, .int b2] [(b0, .inr (6, [.int b3, .int 8, .int 400, .ref b4, .ref b5])), (b4, .inl (G.2 1, 3200, .inr (.inl b6))), (b5, .inl (G.2 0, 1024, .inl b7)), (b1, .inr (6, [.int b8, .int 8, .int 10, .ref b9, .ref b10])), (b9, .inl (G.2 1, 80, .inr (.inl b11)))] (fun v w => ∃ (e0 : Int32), ∃ (e1 : Int32), ∃ (e2 : Nat → Int64), ∃ (e3 : Nat → Int32), v = some (.int e0) ∧ w = [(b0, .inr (6, [.int e1, .int 8, .int 400, .ref b4, .ref b5])), (b4, .inl (G.2 1, 3200, .inr (.inl e2))), (b5, .inl (G.2 0, 1024, .inl e3)), (b1, .inr (6, [.int b8, .int 8, .int 10, .ref b9, .ref b10])), (b9, .inl (G.2 1, 80, .inr (.inl b11)))] ∧ (zI e0 (-1) 399) ∧ (zI e1 0 400) ∧ (zqa qB e2) ∧ (zR e3 (-1) 399) ∧ (b3.toInt ≤ e1.toInt)) := by
  refine z_start (by decide +kernel) (Nat.le_of_ble_eq_true rfl) ?_
  intro p e s m below meth c A Z hr hnm hA hP hD hS ls hl
  have Z : zC p s m _ meth c prog_8_method_11_code 7 "TraceMachines$StateSets" G := Z
  obtain ⟨hx, hb, hml, hown, hts, hK, hN, hlocks⟩ := id Z
  have hl : lv_has ls 7 [(0, .ref b0), (1, .ref b1), (2, .int b2)] := hl
  refine lv_aload_n hx hb d_Sets_indexOf_0 rfl (lv_at hl 1 rfl) ?_
  refine lv_iload_n hx hb d_Sets_indexOf_1 rfl (lv_at hl 2 rfl) ?_
  refine z_callV (index := 47) (As := [.int b2]) (rest := []) (wr := [(b0, .inr (6, [.int b3, .int 8, .int 400, .ref b4, .ref b5])), (b4, .inl (G.2 1, 3200, .inr (.inl b6))), (b5, .inl (G.2 0, 1024, .inl b7))]) Z (s3_Sets_hashOf l G (b1) (b2) (b8) (b9) (b10) (b11) hb2 hb8 hb11) hl.1 q834 q836 qs23 q7 q837 ⟨by decide, by decide, by show _ = some 1; decide +kernel⟩ ⟨Nat.le_of_ble_eq_true rfl, Nat.le_of_ble_eq_true rfl⟩ ⟨Nat.le_of_ble_eq_true rfl, Nat.le_of_ble_eq_true rfl⟩ rfl (Nat.le_of_ble_eq_true rfl) d_Sets_indexOf_2 hP hD hS hA 3 6 rfl rfl rfl [3, 4] [0, 1, 2] rfl rfl rfl rfl (by decide) (fun v w1 H locs hw_1 hP hD hS => ?_)
  obtain ⟨x_2, rfl, rfl⟩ := hw_1
  have hP : va_P G.1 classes [(b0, .inr (6, [.int b3, .int 8, .int 400, .ref b4, .ref b5])), (b4, .inl (G.2 1, 3200, .inr (.inl b6))), (b5, .inl (G.2 0, 1024, .inl b7)), (b1, .inr (6, [.int b8, .int 8, .int 10, .ref b9, .ref b10])), (b9, .inl (G.2 1, 80, .inr (.inl b11)))] H := hP
  have hD := z_tie hP hD rfl
  refine W.widen (k := 0) (n := 0) (Nat.le_of_ble_eq_true rfl) (Nat.le_of_ble_eq_true rfl) ?_
  refine lv_istore_n (lv' := [(3, .int x_2), (0, .ref b0), (1, .ref b1), (2, .int b2)]) hx hb d_Sets_indexOf_5 rfl hl (by decide) rfl (fun ls hl => ?_)
  refine lv_iconst (v := 0) hx hb d_Sets_indexOf_6 (by decide) ?_
  refine lv_istore (lv' := [(4, .int 0), (3, .int x_2), (0, .ref b0), (1, .ref b1), (2, .int b2)]) hx hb d_Sets_indexOf_7 hl (by decide) rfl (fun ls hl => ?_)
  suffices key : ∀ (k_282 : Nat) (y_283 : Int32) (H : Heap) (locs : List Loc) (ls : Array Slot), (zI y_283 0 1024) → (1024 : Int) - y_283.toInt < (k_282 : Int) → va_P G.1 classes [(b0, .inr (6, [.int b3, .int 8, .int 400, .ref b4, .ref b5])), (b4, .inl (G.2 1, 3200, .inr (.inl b6))), (b5, .inl (G.2 0, 1024, .inl b7)), (b1, .inr (6, [.int b8, .int 8, .int 10, .ref b9, .ref b10])), (b9, .inl (G.2 1, 80, .inr (.inl b11)))] H → va_D A [(b0, .inr (6, [.int b3, .int 8, .int 400, .ref b4, .ref b5])), (b4, .inl (G.2 1, 3200, .inr (.inl b6))), (b5, .inl (G.2 0, 1024, .inl b7)), (b1, .inr (6, [.int b8, .int 8, .int 10, .ref b9, .ref b10])), (b9, .inl (G.2 1, 80, .inr (.inl b11)))] → va_S A s.heap H locs → lv_has ls 7 [(4, .int y_283), (3, .int x_2), (0, .ref b0), (1, .ref b1), (2, .int b2)] → W p l e m_s2_Sets_indexOf s m ([.ref b0, .ref b1, .int b2] : List Value).toArray below meth c H locs 0 0 (MQ below (zQ G (fun v w => ∃ (e0 : Int32), ∃ (e1 : Int32), ∃ (e2 : Nat → Int64), ∃ (e3 : Nat → Int32), v = some (.int e0) ∧ w = [(b0, .inr (6, [.int e1, .int 8, .int 400, .ref b4, .ref b5])), (b4, .inl (G.2 1, 3200, .inr (.inl e2))), (b5, .inl (G.2 0, 1024, .inl e3)), (b1, .inr (6, [.int b8, .int 8, .int 10, .ref b9, .ref b10])), (b9, .inl (G.2 1, 80, .inr (.inl b11)))] ∧ (zI e0 (-1) 399) ∧ (zI e1 0 400) ∧ (zqa qB e2) ∧ (zR e3 (-1) 399) ∧ (b3.toInt ≤ e1.toInt)) A) ([.ref b0, .ref b1, .int b2] : List Value).toArray s m_s2_Sets_indexOf.cells m_s2_Sets_indexOf.slots A) (F0 m 9 ls []) by
    exact key 1025 (0) _ _ _ (zI.wk (l' := 0) (h' := 1024) zc_0 (by decide)) (zm_upi (zI.wk (l' := 0) (h' := 1024) zc_0 (by decide)) (by decide)) hP hD hS (lv_sub hl [0, 1, 2, 3, 4] rfl)
  intro k_282
  induction k_282 with
  | zero =>
    intro y_283 H locs ls hy_283 hmk_282 hP hD hS hl
    exact (zm_up0 hy_283 hmk_282).elim
  | succ k_282 ihk_282 =>
    intro y_283 H locs ls hy_283 hmk_282 hP hD hS hl
    refine lv_iload hx hb d_Sets_indexOf_9 (lv_at hl 0 rfl) ?_
    refine lv_aload_n hx hb d_Sets_indexOf_11 rfl (lv_at hl 2 rfl) ?_
    refine va_get (D := G.1) (ci := 6) (v := .ref b5) (C := R_Sets) (T := F_Sets) (N := 5) hx hb hts i_Sets hown hK hP 0 rfl rfl 4 (by decide) (hts _ q245) (fun _ h9 => h9) rfl d_Sets_indexOf_12 ?_
    refine va_alen hx hb hK hP 2 0 rfl rfl (v := 1024) (show Int32.ofNat 1024 = 1024 from by decide +kernel) d_Sets_indexOf_15 ?_
    refine lv_icmp_ge (tgt := 77) hx hb d_Sets_indexOf_16 (by decide) (fun hc_284 => ?_) (fun hc_284 => ?_)
    · have _nhc_284 := hc_284
      have ni_285 := (fa_le _ _).mp hc_284
      rw [li_1024] at ni_285
      have hv_286 : zI y_283 1024 1024 := zI.le_r zc_1024 hy_283 hc_284 (by decide)
      refine lv_iconst (v := (-1)) hx hb d_Sets_indexOf_77 (by decide) ?_
      exact z_iret hx hb hr hlocks hP hD hS (Nat.le_of_ble_eq_true rfl) (Nat.le_of_ble_eq_true rfl) d_Sets_indexOf_78 ⟨(-1), b3, b6, b7, rfl, rfl, (zI.wk (l' := (-1)) (h' := 399) zc_m1 (by decide)), hb3, hb6, hb7, (by omega)⟩
    · have _nhc_284 := hc_284
      have ni_287 := (fa_lt _ _).mp (zi_nle hc_284)
      rw [li_1024] at ni_287
      have hv_288 : zI y_283 0 1023 := zI.lt_l hy_283 zc_1024 (zi_nle hc_284) (by decide)
      refine lv_iload_n hx hb d_Sets_indexOf_19 rfl (lv_at hl 1 rfl) ?_
      refine lv_iload hx hb d_Sets_indexOf_20 (lv_at hl 0 rfl) ?_
      refine lv_iadd hx hb d_Sets_indexOf_22 ?_
      refine lv_topi (fun v_289 ev_289 => ?_)
      refine lv_aload_n hx hb d_Sets_indexOf_23 rfl (lv_at hl 2 rfl) ?_
      refine va_get (D := G.1) (ci := 6) (v := .ref b5) (C := R_Sets) (T := F_Sets) (N := 5) hx hb hts i_Sets hown hK hP 0 rfl rfl 4 (by decide) (hts _ q245) (fun _ h9 => h9) rfl d_Sets_indexOf_24 ?_
      refine va_alen hx hb hK hP 2 0 rfl rfl (v := 1024) (show Int32.ofNat 1024 = 1024 from by decide +kernel) d_Sets_indexOf_27 ?_
      refine lv_iconst (v := 1) hx hb d_Sets_indexOf_28 (by decide) ?_
      refine lv_isub hx hb d_Sets_indexOf_29 ?_
      refine z_topi (y := 1023) (by decide +kernel) ?_
      refine lv_iand hx hb d_Sets_indexOf_30 ?_
      refine lv_topi (fun v_290 ev_290 => ?_)
      have hv_290 := zI_and (k := 10) (h := 1023) (by decide +kernel) ev_290 (by decide)
      refine lv_istore (lv' := [(5, .int v_290), (4, .int y_283), (3, .int x_2), (0, .ref b0), (1, .ref b1), (2, .int b2)]) hx hb d_Sets_indexOf_31 hl (by decide) rfl (fun ls hl => ?_)
      refine lv_aload_n hx hb d_Sets_indexOf_33 rfl (lv_at hl 3 rfl) ?_
      refine va_get (D := G.1) (ci := 6) (v := .ref b5) (C := R_Sets) (T := F_Sets) (N := 5) hx hb hts i_Sets hown hK hP 0 rfl rfl 4 (by decide) (hts _ q245) (fun _ h9 => h9) rfl d_Sets_indexOf_34 ?_
      refine lv_iload hx hb d_Sets_indexOf_37 (lv_at hl 0 rfl) ?_
      refine va_iald hx hb hK hP 2 0 rfl rfl (zI.inn hv_290 (by decide)) d_Sets_indexOf_39 ?_
      refine lv_topi (fun v_291 ev_291 => ?_)
      have hv_291 : zI v_291 (-1) 399 := (hb7 _).eq ev_291
      refine lv_istore (lv' := [(6, .int v_291), (5, .int v_290), (4, .int y_283), (3, .int x_2), (0, .ref b0), (1, .ref b1), (2, .int b2)]) hx hb d_Sets_indexOf_40 hl (by decide) rfl (fun ls hl => ?_)
      refine lv_iload hx hb d_Sets_indexOf_42 (lv_at hl 0 rfl) ?_
      refine lv_iconst (v := (-1)) hx hb d_Sets_indexOf_44 (by decide) ?_
      refine lv_icmp_ne (tgt := 57) hx hb d_Sets_indexOf_45 (by decide) (fun hc_292 => ?_) (fun hc_292 => ?_)
      · have _nhc_292 := hc_292
        have ni_293 : ¬ (v_291 : Int32).toInt = ((-1) : Int32).toInt := fun z => hc_292 ((fa_eq _ _).mpr z)
        simp only [li_m1] at ni_293
        have hv_294 : zI v_291 0 399 := zI.ne_lo hv_291 zc_m1 hc_292 (by decide)
        refine lv_aload_n hx hb d_Sets_indexOf_57 rfl (lv_at hl 4 rfl) ?_
        refine lv_iload hx hb d_Sets_indexOf_58 (lv_at hl 0 rfl) ?_
        refine lv_aload_n hx hb d_Sets_indexOf_60 rfl (lv_at hl 5 rfl) ?_
        refine lv_iload_n hx hb d_Sets_indexOf_61 rfl (lv_at hl 6 rfl) ?_
        refine z_callV (index := 55) (As := [.int v_291, .ref b1, .int b2]) (rest := []) (wr := [(b5, .inl (G.2 0, 1024, .inl b7))]) Z (s2_Sets_isLike l G (b0) (v_291) (b1) (b2) (b3) (b4) (b5) (b6) (b8) (b9) (b10) (b11) hv_294 hb2 hb3 hb8 hb6 hb11) hl.1 q844 q846 qs25 q7 q847 ⟨by decide, by decide, by show _ = some 3; decide +kernel⟩ ⟨Nat.le_of_ble_eq_true rfl, Nat.le_of_ble_eq_true rfl⟩ ⟨Nat.le_of_ble_eq_true rfl, Nat.le_of_ble_eq_true rfl⟩ rfl (Nat.le_of_ble_eq_true rfl) d_Sets_indexOf_62 hP hD hS hA 0 6 rfl rfl rfl [0, 1, 3, 4] [2] rfl rfl rfl rfl (by decide) (fun v w1 H locs hw_295 hP hD hS => ?_)
        obtain ⟨x_296, rfl, rfl, hx_296⟩ := hw_295
        have hP : va_P G.1 classes [(b5, .inl (G.2 0, 1024, .inl b7)), (b0, .inr (6, [.int b3, .int 8, .int 400, .ref b4, .ref b5])), (b4, .inl (G.2 1, 3200, .inr (.inl b6))), (b1, .inr (6, [.int b8, .int 8, .int 10, .ref b9, .ref b10])), (b9, .inl (G.2 1, 80, .inr (.inl b11)))] H := hP
        have hD := z_tie hP hD rfl
        refine W.widen (k := 0) (n := 0) (Nat.le_of_ble_eq_true rfl) (Nat.le_of_ble_eq_true rfl) ?_
        refine lv_if_eq (tgt := 71) hx hb d_Sets_indexOf_65 (by decide) (fun hc_297 => ?_) (fun hc_297 => ?_)
        · have _nhc_297 := hc_297
          have ni_298 := (fa_eq _ _).mp hc_297
          rw [li_0] at ni_298
          have hv_299 : zI x_296 0 0 := zI.eq_l hx_296 zc_0 hc_297
          obtain ⟨v_300, ev_300⟩ : ∃ z : Int32, z = y_283 + 1 := ⟨_, rfl⟩
          obtain ⟨qv_300, hv_300⟩ := zI_add (l := 1) (h := 1024) hv_288 zc_1 ev_300 (by decide)
          rw [li_1] at qv_300
          refine lv_iinc (v := v_300) (lv' := [(4, .int v_300), (6, .int v_291), (5, .int v_290), (3, .int x_2), (0, .ref b0), (1, .ref b1), (2, .int b2)]) hx hb d_Sets_indexOf_71 hl (k := 2) rfl (by rw [ev_300]; rfl) (by decide) rfl (fun ls hl => ?_)
          refine lv_goto (tgt := 9) hx hb d_Sets_indexOf_74 (by decide) ?_
          exact ihk_282 (v_300) _ _ _ (zI.wk (l' := 0) (h' := 1024) hv_300 (by decide)) (zm_up qv_300 hmk_282 (by decide)) (hP.sub [1, 2, 0, 3, 4] rfl) (hD.sub [1, 2, 0, 3, 4] (by decide) rfl) hS (lv_sub hl [0, 3, 4, 5, 6] rfl)
        · have _nhc_297 := hc_297
          have ni_301 : ¬ (x_296 : Int32).toInt = (0 : Int32).toInt := fun z => hc_297 ((fa_eq _ _).mpr z)
          simp only [li_0] at ni_301
          have hv_302 : zI x_296 1 1 := zI.ne_lo hx_296 zc_0 hc_297 (by decide)
          refine lv_iload hx hb d_Sets_indexOf_68 (lv_at hl 0 rfl) ?_
          exact z_iret hx hb hr hlocks (hP.sub [1, 2, 0, 3, 4] rfl) (hD.sub [1, 2, 0, 3, 4] (by decide) rfl) hS (Nat.le_of_ble_eq_true rfl) (Nat.le_of_ble_eq_true rfl) d_Sets_indexOf_70 ⟨v_291, b3, b6, b7, rfl, rfl, (zI.wk (l' := (-1)) (h' := 399) hv_294 (by decide)), hb3, hb6, hb7, (by omega)⟩
      · have _nhc_292 := hc_292
        have ni_303 := (fa_eq _ _).mp hc_292
        rw [li_m1] at ni_303
        have hv_304 : zI v_291 (-1) (-1) := zI.eq_l hv_291 zc_m1 hc_292
        refine lv_aload_n hx hb d_Sets_indexOf_48 rfl (lv_at hl 4 rfl) ?_
        refine lv_aload_n hx hb d_Sets_indexOf_49 rfl (lv_at hl 5 rfl) ?_
        refine lv_iload_n hx hb d_Sets_indexOf_50 rfl (lv_at hl 6 rfl) ?_
        refine lv_iload hx hb d_Sets_indexOf_51 (lv_at hl 1 rfl) ?_
        refine z_callV (index := 51) (As := [.ref b1, .int b2, .int v_290]) (rest := []) (wr := []) Z (s2_Sets_append l G (b0) (b1) (b2) (v_290) (b3) (b4) (b5) (b6) (b7) (b8) (b9) (b10) (b11) hb2 hv_290 hb3 hb8 hb6 hb7 hb11) hl.1 q839 q841 qs24 q7 q842 ⟨by decide, by decide, by show _ = some 3; decide +kernel⟩ ⟨Nat.le_of_ble_eq_true rfl, Nat.le_of_ble_eq_true rfl⟩ ⟨Nat.le_of_ble_eq_true rfl, Nat.le_of_ble_eq_true rfl⟩ rfl (Nat.le_of_ble_eq_true rfl) d_Sets_indexOf_53 hP hD hS hA 0 6 rfl rfl rfl [0, 1, 2, 3, 4] [] rfl rfl rfl rfl (by decide) (fun v w1 H locs hw_305 hP hD hS => ?_)
        obtain ⟨x_306, x_307, f_308, f_309, rfl, rfl, hx_306, hx_307, hf_308, hf_309, hfx_310⟩ := hw_305
        have hP : va_P G.1 classes [(b0, .inr (6, [.int x_307, .int 8, .int 400, .ref b4, .ref b5])), (b4, .inl (G.2 1, 3200, .inr (.inl f_308))), (b5, .inl (G.2 0, 1024, .inl f_309)), (b1, .inr (6, [.int b8, .int 8, .int 10, .ref b9, .ref b10])), (b9, .inl (G.2 1, 80, .inr (.inl b11)))] H := hP
        have hD := z_tie hP hD rfl
        refine W.widen (k := 0) (n := 0) (Nat.le_of_ble_eq_true rfl) (Nat.le_of_ble_eq_true rfl) ?_
        exact z_iret hx hb hr hlocks hP hD hS (Nat.le_of_ble_eq_true rfl) (Nat.le_of_ble_eq_true rfl) d_Sets_indexOf_56 ⟨x_306, x_307, f_308, f_309, rfl, rfl, hx_306, hx_307, hf_308, hf_309, (by omega)⟩
theorem d_Parting_begin_68 : decode prog_7_method_5_code 68 = .ok (.return_, 1) := by decide +kernel
abbrev m_s3_Sets_put : Room := { frames := 0, cells := 0, slots := 0, locals := 0 }
set_option maxHeartbeats 4000000 in
set_option maxRecDepth 100000 in
theorem s3_Sets_put (l : Launch) (G : zG) (b0 : Nat) (b1 : Int32) (b2 : Int32) (b3 : Int32) (b4 : Int32) (b5 : Nat) (b6 : Nat) (b7 : Nat → Int64) (hb1 : zI b1 0 9) (hb2 : zI b2 0 1) (hb3 : zI b3 0 240) (hb4 : zI b4 0 10) (hb7 : zqa qB b7) : zM l G y_Sets_put prog_8_method_4_code 4 (Option.none : Option Jvm.ClassFile.FieldType) m_s3_Sets_put [.ref b0, .int b1, .int b2, .int b3] [(b0, .inr (6, [.int b4, .int 8, .int 10, .ref b5, .ref b6])), (b5, .inl (G.2 1, 80, .inr (.inl b7)))] (fun v w => ∃ (e0 : Nat → Int64), v = none ∧ w = [(b0, .inr (6, [.int b4, .int 8, .int 10, .ref b5, .ref b6])), (b5, .inl (G.2 1, 80, .inr (.inl e0)))] ∧ (zqa qB e0)) := by
  refine z_start (by decide +kernel) (Nat.le_of_ble_eq_true rfl) ?_
  intro p e s m below meth c A Z hr hnm hA hP hD hS ls hl
  have Z : zC p s m _ meth c prog_8_method_4_code 4 "TraceMachines$StateSets" G := Z
  obtain ⟨hx, hb, hml, hown, hts, hK, hN, hlocks⟩ := id Z
  have hl : lv_has ls 4 [(0, .ref b0), (1, .int b1), (2, .int b2), (3, .int b3)] := hl
  refine lv_aload_n hx hb d_Sets_put_0 rfl (lv_at hl 0 rfl) ?_
  refine va_get (D := G.1) (ci := 6) (v := .ref b5) (C := R_Sets) (T := F_Sets) (N := 5) hx hb hts i_Sets hown hK hP 0 rfl rfl 3 (by decide) (hts _ q244) (fun _ h9 => h9) rfl d_Sets_put_1 ?_
  refine lv_iload_n hx hb d_Sets_put_4 rfl (lv_at hl 1 rfl) ?_
  refine lv_aload_n hx hb d_Sets_put_5 rfl (lv_at hl 0 rfl) ?_
  refine va_get (D := G.1) (ci := 6) (v := .int 8) (C := R_Sets) (T := F_Sets) (N := 5) hx hb hts i_Sets hown hK hP 0 rfl rfl 1 (by decide) (hts _ q242) (fun _ h9 => h9) rfl d_Sets_put_6 ?_
  refine lv_imul hx hb d_Sets_put_9 ?_
  refine lv_topi (fun v_1 ev_1 => ?_)
  obtain ⟨qv_1, hv_1⟩ := zI_mul (l := 0) (h := 72) hb1 zc_8 ev_1 (by decide)
  rw [li_8] at qv_1
  refine lv_iload_n hx hb d_Sets_put_10 rfl (lv_at hl 2 rfl) ?_
  refine lv_iconst (v := 4) hx hb d_Sets_put_11 (by decide) ?_
  refine lv_imul hx hb d_Sets_put_12 ?_
  refine lv_topi (fun v_2 ev_2 => ?_)
  obtain ⟨qv_2, hv_2⟩ := zI_mul (l := 0) (h := 4) hb2 zc_4 ev_2 (by decide)
  rw [li_4] at qv_2
  refine lv_iadd hx hb d_Sets_put_13 ?_
  refine lv_topi (fun v_3 ev_3 => ?_)
  obtain ⟨qv_3, hv_3⟩ := zI_add (l := 0) (h := 76) hv_1 hv_2 ev_3 (by decide)
  refine lv_iload_n hx hb d_Sets_put_14 rfl (lv_at hl 3 rfl) ?_
  refine lv_bipush (v := 6) hx hb d_Sets_put_15 (by decide) ?_
  refine lv_ishr hx hb d_Sets_put_17 ?_
  refine lv_topi (fun v_4 ev_4 => ?_)
  obtain ⟨qv_4, hv_4⟩ := zI_shr (l := 0) (h := 3) (k := 6) hb3 (by decide +kernel) ev_4 (by decide)
  refine lv_iadd hx hb d_Sets_put_18 ?_
  refine lv_topi (fun v_5 ev_5 => ?_)
  obtain ⟨qv_5, hv_5⟩ := zI_add (l := 0) (h := 79) hv_3 hv_4 ev_5 (by decide)
  refine lv_dup2_11 hx hb d_Sets_put_19 rfl rfl ?_
  refine va_lald hx hb hK hP 1 1 rfl rfl (zI.inn hv_5 (by decide)) d_Sets_put_20 ?_
  refine lv_topl (fun v_6 ev_6 => ?_)
  have bv_6 := zQB.ld hb7 hv_5 ev_6 (by decide)
  refine lv_lconst (v := 1) hx hb d_Sets_put_21 (by decide) ?_
  refine lv_iload_n hx hb d_Sets_put_22 rfl (lv_at hl 3 rfl) ?_
  refine lv_bipush (v := 63) hx hb d_Sets_put_23 (by decide) ?_
  refine lv_iand hx hb d_Sets_put_25 ?_
  refine lv_topi (fun v_7 ev_7 => ?_)
  have hv_7 := zI_and (k := 6) (h := 63) (by decide +kernel) ev_7 (by decide)
  obtain ⟨v_8, ev_8⟩ : ∃ z : Int64, z = 1 <<< ((v_7 : Int32).toInt64 &&& 63) := ⟨_, rfl⟩
  refine lv_lshl (v := v_8) hx hb d_Sets_put_26 ev_8.symm ?_
  refine lv_lor hx hb d_Sets_put_27 ?_
  refine lv_topl (fun v_9 ev_9 => ?_)
  refine va_last hx hb hK hP hD hS 1 1 rfl rfl (zI.inn hv_5 (by decide)) d_Sets_put_28 (fun H locs hP hD hS => ?_)
  obtain ⟨f_10, hf_10, uf_10, hP, hD⟩ := z_newlb 1 hP hD rfl hb7 (qB_v hv_5 (by decide) (fun h9 => by rw [ev_9]; exact zB_or (bv_6 h9) (zB_sh ev_8 ev_7 ⟨by omega, by omega⟩)))
  have hP : va_P G.1 classes [(b0, .inr (6, [.int b4, .int 8, .int 10, .ref b5, .ref b6])), (b5, .inl (G.2 1, 80, .inr (.inl f_10)))] H := hP
  have hD := z_tie hP hD rfl
  exact z_vret hx hb hr hlocks hP hD hS (Nat.le_of_ble_eq_true rfl) (Nat.le_of_ble_eq_true rfl) d_Sets_put_29 ⟨f_10, rfl, rfl, hf_10⟩
abbrev m_s2_Parting_begin : Room := { frames := 3, cells := 0, slots := 0, locals := 67 }
set_option maxHeartbeats 4000000 in
set_option maxRecDepth 100000 in
theorem s2_Parting_begin (l : Launch) (G : zG) (b0 : Nat) (b1 : Nat) (b2 : Int32) (b3 : Int32) (b4 : Nat) (b5 : Int32) (b6 : Int32) (b7 : Nat) (b8 : Nat) (b9 : Nat) (b10 : Nat) (b11 : Nat) (b12 : Int32) (b13 : Nat) (b14 : Nat) (b15 : Nat → Int64) (b16 : Nat → Int32) (b17 : Int32) (b18 : Nat) (b19 : Nat) (b20 : Nat → Int64) (b21 : Nat → Int32) (b22 : Int32) (b23 : Int32) (b24 : Nat) (b25 : Nat) (b26 : Nat) (b27 : Nat) (b28 : Nat) (b29 : Nat) (b30 : Int32) (b31 : Nat) (b32 : Nat) (b33 : Nat) (b34 : Nat) (b35 : Nat) (b36 : Nat) (hb2 : zI b2 0 1) (hb3 : zI b3 (-2) 8) (hb12 : zI b12 0 400) (hb17 : zI b17 0 10) (hb22 : zI b22 0 1) (hb23 : zI b23 0 241) (hb30 : zI b30 0 240) (hb15 : zqa qB b15) (hb16 : zR b16 (-1) 399) (hb20 : zqa qB b20) (hb21 : zR b21 0 8) : zM l G y_Parting_begin prog_7_method_5_code 3 (Option.none : Option Jvm.ClassFile.FieldType) m_s2_Parting_begin [.ref b0, .ref b1, .ref b1] [(b0, .inr (8, [.int b2, .int b3, .ref b4, .int b5, .int b6, .ref b7, .ref b8, .ref b9, .ref b10, .ref b11])), (b7, .inr (6, [.int b12, .int 8, .int 400, .ref b13, .ref b14])), (b13, .inl (G.2 1, 3200, .inr (.inl b15))), (b14, .inl (G.2 0, 1024, .inl b16)), (b8, .inr (6, [.int b17, .int 8, .int 10, .ref b18, .ref b19])), (b18, .inl (G.2 1, 80, .inr (.inl b20))), (b11, .inl (G.2 0, 400, .inl b21)), (b1, .inr (5, [.int b22, .int b23, .ref b24, .ref b25, .ref b26, .ref b27, .ref b28, .ref b29, .int b30, .ref b31, .ref b32, .ref b33, .ref b34, .ref b35, .ref b36]))] (fun v w => ∃ (e0 : Int32), ∃ (e1 : Nat → Int64), ∃ (e2 : Nat → Int32), ∃ (e3 : Nat → Int64), ∃ (e4 : Nat → Int32), v = none ∧ w = [(b0, .inr (8, [.int b2, .int b3, .ref b4, .int b5, .int b6, .ref b7, .ref b8, .ref b9, .ref b10, .ref b11])), (b7, .inr (6, [.int e0, .int 8, .int 400, .ref b13, .ref b14])), (b13, .inl (G.2 1, 3200, .inr (.inl e1))), (b14, .inl (G.2 0, 1024, .inl e2)), (b8, .inr (6, [.int b17, .int 8, .int 10, .ref b18, .ref b19])), (b18, .inl (G.2 1, 80, .inr (.inl e3))), (b11, .inl (G.2 0, 400, .inl e4)), (b1, .inr (5, [.int b22, .int b23, .ref b24, .ref b25, .ref b26, .ref b27, .ref b28, .ref b29, .int b30, .ref b31, .ref b32, .ref b33, .ref b34, .ref b35, .ref b36]))] ∧ (zI e0 0 400) ∧ (zqa qB e1) ∧ (zR e2 (-1) 399) ∧ (zqa qB e3) ∧ (zR e4 0 8)) := by
  refine z_start (by decide +kernel) (Nat.le_of_ble_eq_true rfl) ?_
  intro p e s m below meth c A Z hr hnm hA hP hD hS ls hl
  have Z : zC p s m _ meth c prog_7_method_5_code 3 "TraceMachines$Parting" G := Z
  obtain ⟨hx, hb, hml, hown, hts, hK, hN, hlocks⟩ := id Z
  have hl : lv_has ls 3 [(0, .ref b0), (1, .ref b1), (2, .ref b1)] := hl
  refine lv_aload_n hx hb d_Parting_begin_0 rfl (lv_at hl 0 rfl) ?_
  refine va_get (D := G.1) (ci := 8) (v := .ref b8) (C := R_Parting) (T := F_Parting) (N := 10) hx hb hts i_Parting hown hK hP 0 rfl rfl 6 (by decide) (hts _ q308) (fun _ h9 => h9) rfl d_Parting_begin_1 ?_
  refine z_callV (index := 71) (As := []) (rest := []) (wr := [(b0, .inr (8, [.int b2, .int b3, .ref b4, .int b5, .int b6, .ref b7, .ref b8, .ref b9, .ref b10, .ref b11])), (b7, .inr (6, [.int b12, .int 8, .int 400, .ref b13, .ref b14])), (b13, .inl (G.2 1, 3200, .inr (.inl b15))), (b14, .inl (G.2 0, 1024, .inl b16)), (b11, .inl (G.2 0, 400, .inl b21)), (b1, .inr (5, [.int b22, .int b23, .ref b24, .ref b25, .ref b26, .ref b27, .ref b28, .ref b29, .int b30, .ref b31, .ref b32, .ref b33, .ref b34, .ref b35, .ref b36]))]) Z (s3_Sets_clear l G (b8) (b17) (b18) (b19) (b20) hb17 hb20) hl.1 q882 q705 q706 q7 q707 ⟨by decide, by decide, by show _ = some 0; decide +kernel⟩ ⟨Nat.le_of_ble_eq_true rfl, Nat.le_of_ble_eq_true rfl⟩ ⟨Nat.le_of_ble_eq_true rfl, Nat.le_of_ble_eq_true rfl⟩ rfl (Nat.le_of_ble_eq_true rfl) d_Parting_begin_4 hP hD hS hA 4 6 rfl rfl rfl [4, 5] [0, 1, 2, 3, 6, 7] rfl rfl rfl rfl (by decide) (fun v w1 H locs hw_1 hP hD hS => ?_)
  obtain ⟨f_2, rfl, rfl, hf_2⟩ := hw_1
  have hP : va_P G.1 classes [(b0, .inr (8, [.int b2, .int b3, .ref b4, .int b5, .int b6, .ref b7, .ref b8, .ref b9, .ref b10, .ref b11])), (b7, .inr (6, [.int b12, .int 8, .int 400, .ref b13, .ref b14])), (b13, .inl (G.2 1, 3200, .inr (.inl b15))), (b14, .inl (G.2 0, 1024, .inl b16)), (b11, .inl (G.2 0, 400, .inl b21)), (b1, .inr (5, [.int b22, .int b23, .ref b24, .ref b25, .ref b26, .ref b27, .ref b28, .ref b29, .int b30, .ref b31, .ref b32, .ref b33, .ref b34, .ref b35, .ref b36])), (b8, .inr (6, [.int b17, .int 8, .int 10, .ref b18, .ref b19])), (b18, .inl (G.2 1, 80, .inr (.inl f_2)))] H := hP
  have hD := z_tie hP hD rfl
  refine W.widen (k := 0) (n := 0) (Nat.le_of_ble_eq_true rfl) (Nat.le_of_ble_eq_true rfl) ?_
  refine lv_aload_n hx hb d_Parting_begin_7 rfl (lv_at hl 1 rfl) ?_
  refine va_get (D := G.1) (ci := 5) (v := .int b23) (C := R_Machine) (T := F_Machine) (N := 15) hx hb hts i_Machine hown hK hP 5 rfl rfl 1 (by decide) (hts _ q167) (fun _ h9 => h9) rfl d_Parting_begin_8 ?_
  refine lv_if_le (tgt := 24) hx hb d_Parting_begin_11 (by decide) (fun hc_3 => ?_) (fun hc_3 => ?_)
  · have _nhc_3 := hc_3
    have ni_4 := (fa_le _ _).mp hc_3
    rw [li_0] at ni_4
    have hv_5 : zI b23 0 0 := zI.le_l hb23 zc_0 hc_3 (by decide)
    refine lv_aload_n hx hb d_Parting_begin_24 rfl (lv_at hl 2 rfl) ?_
    refine va_get (D := G.1) (ci := 5) (v := .int b23) (C := R_Machine) (T := F_Machine) (N := 15) hx hb hts i_Machine hown hK hP 5 rfl rfl 1 (by decide) (hts _ q167) (fun _ h9 => h9) rfl d_Parting_begin_25 ?_
    refine lv_if_le (tgt := 41) hx hb d_Parting_begin_28 (by decide) (fun _ => ?_) (fun hc => zI.no_lt zc_0 hv_5 (zi_nle hc) (by decide))
    refine lv_aload_n hx hb d_Parting_begin_41 rfl (lv_at hl 0 rfl) ?_
    refine va_get (D := G.1) (ci := 8) (v := .ref b7) (C := R_Parting) (T := F_Parting) (N := 10) hx hb hts i_Parting hown hK hP 0 rfl rfl 5 (by decide) (hts _ q307) (fun _ h9 => h9) rfl d_Parting_begin_42 ?_
    refine z_callV (index := 81) (As := []) (rest := []) (wr := [(b0, .inr (8, [.int b2, .int b3, .ref b4, .int b5, .int b6, .ref b7, .ref b8, .ref b9, .ref b10, .ref b11])), (b13, .inl (G.2 1, 3200, .inr (.inl b15))), (b11, .inl (G.2 0, 400, .inl b21)), (b1, .inr (5, [.int b22, .int b23, .ref b24, .ref b25, .ref b26, .ref b27, .ref b28, .ref b29, .int b30, .ref b31, .ref b32, .ref b33, .ref b34, .ref b35, .ref b36])), (b8, .inr (6, [.int b17, .int 8, .int 10, .ref b18, .ref b19])), (b18, .inl (G.2 1, 80, .inr (.inl f_2)))]) Z (s3_Sets_forget l G (b7) (b12) (b13) (b14) (b16) hb12 hb16) hl.1 q884 q826 q827 q7 q828 ⟨by decide, by decide, by show _ = some 0; decide +kernel⟩ ⟨Nat.le_of_ble_eq_true rfl, Nat.le_of_ble_eq_true rfl⟩ ⟨Nat.le_of_ble_eq_true rfl, Nat.le_of_ble_eq_true rfl⟩ rfl (Nat.le_of_ble_eq_true rfl) d_Parting_begin_45 hP hD hS hA 1 6 rfl rfl rfl [1, 3] [0, 2, 4, 5, 6, 7] rfl rfl rfl rfl (by decide) (fun v w1 H locs hw_6 hP hD hS => ?_)
    obtain ⟨f_7, rfl, rfl, hf_7⟩ := hw_6
    have hP : va_P G.1 classes [(b0, .inr (8, [.int b2, .int b3, .ref b4, .int b5, .int b6, .ref b7, .ref b8, .ref b9, .ref b10, .ref b11])), (b13, .inl (G.2 1, 3200, .inr (.inl b15))), (b11, .inl (G.2 0, 400, .inl b21)), (b1, .inr (5, [.int b22, .int b23, .ref b24, .ref b25, .ref b26, .ref b27, .ref b28, .ref b29, .int b30, .ref b31, .ref b32, .ref b33, .ref b34, .ref b35, .ref b36])), (b8, .inr (6, [.int b17, .int 8, .int 10, .ref b18, .ref b19])), (b18, .inl (G.2 1, 80, .inr (.inl f_2))), (b7, .inr (6, [.int 0, .int 8, .int 400, .ref b13, .ref b14])), (b14, .inl (G.2 0, 1024, .inl f_7))] H := hP
    have hD := z_tie hP hD rfl
    refine W.widen (k := 0) (n := 0) (Nat.le_of_ble_eq_true rfl) (Nat.le_of_ble_eq_true rfl) ?_
    refine lv_aload_n hx hb d_Parting_begin_48 rfl (lv_at hl 0 rfl) ?_
    refine va_get (D := G.1) (ci := 8) (v := .ref b7) (C := R_Parting) (T := F_Parting) (N := 10) hx hb hts i_Parting hown hK hP 0 rfl rfl 5 (by decide) (hts _ q307) (fun _ h9 => h9) rfl d_Parting_begin_49 ?_
    refine lv_aload_n hx hb d_Parting_begin_52 rfl (lv_at hl 0 rfl) ?_
    refine va_get (D := G.1) (ci := 8) (v := .ref b8) (C := R_Parting) (T := F_Parting) (N := 10) hx hb hts i_Parting hown hK hP 0 rfl rfl 6 (by decide) (hts _ q308) (fun _ h9 => h9) rfl d_Parting_begin_53 ?_
    refine lv_iconst (v := 0) hx hb d_Parting_begin_56 (by decide) ?_
    refine z_callV (index := 84) (As := [.ref b8, .int 0]) (rest := []) (wr := [(b0, .inr (8, [.int b2, .int b3, .ref b4, .int b5, .int b6, .ref b7, .ref b8, .ref b9, .ref b10, .ref b11])), (b11, .inl (G.2 0, 400, .inl b21)), (b1, .inr (5, [.int b22, .int b23, .ref b24, .ref b25, .ref b26, .ref b27, .ref b28, .ref b29, .int b30, .ref b31, .ref b32, .ref b33, .ref b34, .ref b35, .ref b36]))]) Z (s2_Sets_indexOf l G (b7) (b8) (0) (0) (b13) (b14) (b15) (f_7) (b17) (b18) (b19) (f_2) (zI.wk (l' := 0) (h' := 9) zc_0 (by decide)) (zI.wk (l' := 0) (h' := 400) zc_0 (by decide)) hb17 hb15 hf_7 hf_2) hl.1 q885 q831 q832 q7 q833 ⟨by decide, by decide, by show _ = some 2; decide +kernel⟩ ⟨Nat.le_of_ble_eq_true rfl, Nat.le_of_ble_eq_true rfl⟩ ⟨Nat.le_of_ble_eq_true rfl, Nat.le_of_ble_eq_true rfl⟩ rfl (Nat.le_of_ble_eq_true rfl) d_Parting_begin_57 hP hD hS hA 6 6 rfl rfl rfl [6, 1, 7, 4, 5] [0, 2, 3] rfl rfl rfl rfl (by decide) (fun v w1 H locs hw_8 hP hD hS => ?_)
    obtain ⟨x_9, x_10, f_11, f_12, rfl, rfl, hx_9, hx_10, hf_11, hf_12, hfx_13⟩ := hw_8
    have hP : va_P G.1 classes [(b0, .inr (8, [.int b2, .int b3, .ref b4, .int b5, .int b6, .ref b7, .ref b8, .ref b9, .ref b10, .ref b11])), (b11, .inl (G.2 0, 400, .inl b21)), (b1, .inr (5, [.int b22, .int b23, .ref b24, .ref b25, .ref b26, .ref b27, .ref b28, .ref b29, .int b30, .ref b31, .ref b32, .ref b33, .ref b34, .ref b35, .ref b36])), (b7, .inr (6, [.int x_10, .int 8, .int 400, .ref b13, .ref b14])), (b13, .inl (G.2 1, 3200, .inr (.inl f_11))), (b14, .inl (G.2 0, 1024, .inl f_12)), (b8, .inr (6, [.int b17, .int 8, .int 10, .ref b18, .ref b19])), (b18, .inl (G.2 1, 80, .inr (.inl f_2)))] H := hP
    have hD := z_tie hP hD rfl
    refine W.widen (k := 0) (n := 0) (Nat.le_of_ble_eq_true rfl) (Nat.le_of_ble_eq_true rfl) ?_
    refine lv_pop hx hb d_Parting_begin_60 rfl ?_
    refine lv_aload_n hx hb d_Parting_begin_61 rfl (lv_at hl 0 rfl) ?_
    refine va_get (D := G.1) (ci := 8) (v := .ref b11) (C := R_Parting) (T := F_Parting) (N := 10) hx hb hts i_Parting hown hK hP 0 rfl rfl 9 (by decide) (hts _ q311) (fun _ h9 => h9) rfl d_Parting_begin_62 ?_
    refine lv_iconst (v := 0) hx hb d_Parting_begin_65 (by decide) ?_
    refine lv_iconst (v := 0) hx hb d_Parting_begin_66 (by decide) ?_
    refine va_iast hx hb hK hP hD hS 1 0 rfl rfl (i := 0) (z_in rfl) d_Parting_begin_67 (fun H locs hP hD hS => ?_)
    obtain ⟨f_14, hf_14, gf_14, uf_14, hP, hD⟩ := z_newfu 1 hP hD rfl hb21 (zI.wk (l' := 0) (h' := 8) zc_0 (by decide))
    have hP : va_P G.1 classes [(b0, .inr (8, [.int b2, .int b3, .ref b4, .int b5, .int b6, .ref b7, .ref b8, .ref b9, .ref b10, .ref b11])), (b11, .inl (G.2 0, 400, .inl f_14)), (b1, .inr (5, [.int b22, .int b23, .ref b24, .ref b25, .ref b26, .ref b27, .ref b28, .ref b29, .int b30, .ref b31, .ref b32, .ref b33, .ref b34, .ref b35, .ref b36])), (b7, .inr (6, [.int x_10, .int 8, .int 400, .ref b13, .ref b14])), (b13, .inl (G.2 1, 3200, .inr (.inl f_11))), (b14, .inl (G.2 0, 1024, .inl f_12)), (b8, .inr (6, [.int b17, .int 8, .int 10, .ref b18, .ref b19])), (b18, .inl (G.2 1, 80, .inr (.inl f_2)))] H := hP
    have hD := z_tie hP hD rfl
    exact z_vret hx hb hr hlocks (hP.sub [0, 3, 4, 5, 6, 7, 1, 2] rfl) (hD.sub [0, 3, 4, 5, 6, 7, 1, 2] (by decide) rfl) hS (Nat.le_of_ble_eq_true rfl) (Nat.le_of_ble_eq_true rfl) d_Parting_begin_68 ⟨x_10, f_11, f_12, f_2, f_14, rfl, rfl, hx_10, hf_11, hf_12, hf_2, hf_14⟩
  · have _nhc_3 := hc_3
    have ni_15 := (fa_lt _ _).mp (zi_nle hc_3)
    rw [li_0] at ni_15
    have hv_16 : zI b23 1 241 := zI.lt_r zc_0 hb23 (zi_nle hc_3) (by decide)
    refine lv_aload_n hx hb d_Parting_begin_14 rfl (lv_at hl 0 rfl) ?_
    refine va_get (D := G.1) (ci := 8) (v := .ref b8) (C := R_Parting) (T := F_Parting) (N := 10) hx hb hts i_Parting hown hK hP 0 rfl rfl 6 (by decide) (hts _ q308) (fun _ h9 => h9) rfl d_Parting_begin_15 ?_
    refine lv_iconst (v := 0) hx hb d_Parting_begin_18 (by decide) ?_
    refine lv_iconst (v := 0) hx hb d_Parting_begin_19 (by decide) ?_
    refine lv_iconst (v := 0) hx hb d_Parting_begin_20 (by decide) ?_
    refine z_callV (index := 77) (As := [.int 0, .int 0, .int 0]) (rest := []) (wr := [(b0, .inr (8, [.int b2, .int b3, .ref b4, .int b5, .int b6, .ref b7, .ref b8, .ref b9, .ref b10, .ref b11])), (b7, .inr (6, [.int b12, .int 8, .int 400, .ref b13, .ref b14])), (b13, .inl (G.2 1, 3200, .inr (.inl b15))), (b14, .inl (G.2 0, 1024, .inl b16)), (b11, .inl (G.2 0, 400, .inl b21)), (b1, .inr (5, [.int b22, .int b23, .ref b24, .ref b25, .ref b26, .ref b27, .ref b28, .ref b29, .int b30, .ref b31, .ref b32, .ref b33, .ref b34, .ref b35, .ref b36]))]) Z (s3_Sets_put l G (b8) (0) (0) (0) (b17) (b18) (b19) (f_2) (zI.wk (l' := 0) (h' := 9) zc_0 (by decide)) (zI.wk (l' := 0) (h' := 1) zc_0 (by decide)) (zI.wk (l' := 0) (h' := 240) zc_0 (by decide)) hb17 hf_2) hl.1 q883 q710 q711 q7 q712 ⟨by decide, by decide, by show _ = some 3; decide +kernel⟩ ⟨Nat.le_of_ble_eq_true rfl, Nat.le_of_ble_eq_true rfl⟩ ⟨Nat.le_of_ble_eq_true rfl, Nat.le_of_ble_eq_true rfl⟩ rfl (Nat.le_of_ble_eq_true rfl) d_Parting_begin_21 hP hD hS hA 6 6 rfl rfl rfl [6, 7] [0, 1, 2, 3, 4, 5] rfl rfl rfl rfl (by decide) (fun v w1 H locs hw_17 hP hD hS => ?_)
    obtain ⟨f_18, rfl, rfl, hf_18⟩ := hw_17
    have hP : va_P G.1 classes [(b0, .inr (8, [.int b2, .int b3, .ref b4, .int b5, .int b6, .ref b7, .ref b8, .ref b9, .ref b10, .ref b11])), (b7, .inr (6, [.int b12, .int 8, .int 400, .ref b13, .ref b14])), (b13, .inl (G.2 1, 3200, .inr (.inl b15))), (b14, .inl (G.2 0, 1024, .inl b16)), (b11, .inl (G.2 0, 400, .inl b21)), (b1, .inr (5, [.int b22, .int b23, .ref b24, .ref b25, .ref b26, .ref b27, .ref b28, .ref b29, .int b30, .ref b31, .ref b32, .ref b33, .ref b34, .ref b35, .ref b36])), (b8, .inr (6, [.int b17, .int 8, .int 10, .ref b18, .ref b19])), (b18, .inl (G.2 1, 80, .inr (.inl f_18)))] H := hP
    have hD := z_tie hP hD rfl
    refine W.widen (k := 0) (n := 0) (Nat.le_of_ble_eq_true rfl) (Nat.le_of_ble_eq_true rfl) ?_
    refine lv_aload_n hx hb d_Parting_begin_24 rfl (lv_at hl 2 rfl) ?_
    refine va_get (D := G.1) (ci := 5) (v := .int b23) (C := R_Machine) (T := F_Machine) (N := 15) hx hb hts i_Machine hown hK hP 5 rfl rfl 1 (by decide) (hts _ q167) (fun _ h9 => h9) rfl d_Parting_begin_25 ?_
    refine lv_if_le (tgt := 41) hx hb d_Parting_begin_28 (by decide) (fun hc => zI.no_le hv_16 zc_0 hc (by decide)) (fun _ => ?_)
    refine lv_aload_n hx hb d_Parting_begin_31 rfl (lv_at hl 0 rfl) ?_
    refine va_get (D := G.1) (ci := 8) (v := .ref b8) (C := R_Parting) (T := F_Parting) (N := 10) hx hb hts i_Parting hown hK hP 0 rfl rfl 6 (by decide) (hts _ q308) (fun _ h9 => h9) rfl d_Parting_begin_32 ?_
    refine lv_iconst (v := 0) hx hb d_Parting_begin_35 (by decide) ?_
    refine lv_iconst (v := 1) hx hb d_Parting_begin_36 (by decide) ?_
    refine lv_iconst (v := 0) hx hb d_Parting_begin_37 (by decide) ?_
    refine z_callV (index := 77) (As := [.int 0, .int 1, .int 0]) (rest := []) (wr := [(b0, .inr (8, [.int b2, .int b3, .ref b4, .int b5, .int b6, .ref b7, .ref b8, .ref b9, .ref b10, .ref b11])), (b7, .inr (6, [.int b12, .int 8, .int 400, .ref b13, .ref b14])), (b13, .inl (G.2 1, 3200, .inr (.inl b15))), (b14, .inl (G.2 0, 1024, .inl b16)), (b11, .inl (G.2 0, 400, .inl b21)), (b1, .inr (5, [.int b22, .int b23, .ref b24, .ref b25, .ref b26, .ref b27, .ref b28, .ref b29, .int b30, .ref b31, .ref b32, .ref b33, .ref b34, .ref b35, .ref b36]))]) Z (s3_Sets_put l G (b8) (0) (1) (0) (b17) (b18) (b19) (f_18) (zI.wk (l' := 0) (h' := 9) zc_0 (by decide)) (zI.wk (l' := 0) (h' := 1) zc_1 (by decide)) (zI.wk (l' := 0) (h' := 240) zc_0 (by decide)) hb17 hf_18) hl.1 q883 q710 q711 q7 q712 ⟨by decide, by decide, by show _ = some 3; decide +kernel⟩ ⟨Nat.le_of_ble_eq_true rfl, Nat.le_of_ble_eq_true rfl⟩ ⟨Nat.le_of_ble_eq_true rfl, Nat.le_of_ble_eq_true rfl⟩ rfl (Nat.le_of_ble_eq_true rfl) d_Parting_begin_38 hP hD hS hA 6 6 rfl rfl rfl [6, 7] [0, 1, 2, 3, 4, 5] rfl rfl rfl rfl (by decide) (fun v w1 H locs hw_19 hP hD hS => ?_)
    obtain ⟨f_20, rfl, rfl, hf_20⟩ := hw_19
    have hP : va_P G.1 classes [(b0, .inr (8, [.int b2, .int b3, .ref b4, .int b5, .int b6, .ref b7, .ref b8, .ref b9, .ref b10, .ref b11])), (b7, .inr (6, [.int b12, .int 8, .int 400, .ref b13, .ref b14])), (b13, .inl (G.2 1, 3200, .inr (.inl b15))), (b14, .inl (G.2 0, 1024, .inl b16)), (b11, .inl (G.2 0, 400, .inl b21)), (b1, .inr (5, [.int b22, .int b23, .ref b24, .ref b25, .ref b26, .ref b27, .ref b28, .ref b29, .int b30, .ref b31, .ref b32, .ref b33, .ref b34, .ref b35, .ref b36])), (b8, .inr (6, [.int b17, .int 8, .int 10, .ref b18, .ref b19])), (b18, .inl (G.2 1, 80, .inr (.inl f_20)))] H := hP
    have hD := z_tie hP hD rfl
    refine W.widen (k := 0) (n := 0) (Nat.le_of_ble_eq_true rfl) (Nat.le_of_ble_eq_true rfl) ?_
    refine lv_aload_n hx hb d_Parting_begin_41 rfl (lv_at hl 0 rfl) ?_
    refine va_get (D := G.1) (ci := 8) (v := .ref b7) (C := R_Parting) (T := F_Parting) (N := 10) hx hb hts i_Parting hown hK hP 0 rfl rfl 5 (by decide) (hts _ q307) (fun _ h9 => h9) rfl d_Parting_begin_42 ?_
    refine z_callV (index := 81) (As := []) (rest := []) (wr := [(b0, .inr (8, [.int b2, .int b3, .ref b4, .int b5, .int b6, .ref b7, .ref b8, .ref b9, .ref b10, .ref b11])), (b13, .inl (G.2 1, 3200, .inr (.inl b15))), (b11, .inl (G.2 0, 400, .inl b21)), (b1, .inr (5, [.int b22, .int b23, .ref b24, .ref b25, .ref b26, .ref b27, .ref b28, .ref b29, .int b30, .ref b31, .ref b32, .ref b33, .ref b34, .ref b35, .ref b36])), (b8, .inr (6, [.int b17, .int 8, .int 10, .ref b18, .ref b19])), (b18, .inl (G.2 1, 80, .inr (.inl f_20)))]) Z (s3_Sets_forget l G (b7) (b12) (b13) (b14) (b16) hb12 hb16) hl.1 q884 q826 q827 q7 q828 ⟨by decide, by decide, by show _ = some 0; decide +kernel⟩ ⟨Nat.le_of_ble_eq_true rfl, Nat.le_of_ble_eq_true rfl⟩ ⟨Nat.le_of_ble_eq_true rfl, Nat.le_of_ble_eq_true rfl⟩ rfl (Nat.le_of_ble_eq_true rfl) d_Parting_begin_45 hP hD hS hA 1 6 rfl rfl rfl [1, 3] [0, 2, 4, 5, 6, 7] rfl rfl rfl rfl (by decide) (fun v w1 H locs hw_21 hP hD hS => ?_)
    obtain ⟨f_22, rfl, rfl, hf_22⟩ := hw_21
    have hP : va_P G.1 classes [(b0, .inr (8, [.int b2, .int b3, .ref b4, .int b5, .int b6, .ref b7, .ref b8, .ref b9, .ref b10, .ref b11])), (b13, .inl (G.2 1, 3200, .inr (.inl b15))), (b11, .inl (G.2 0, 400, .inl b21)), (b1, .inr (5, [.int b22, .int b23, .ref b24, .ref b25, .ref b26, .ref b27, .ref b28, .ref b29, .int b30, .ref b31, .ref b32, .ref b33, .ref b34, .ref b35, .ref b36])), (b8, .inr (6, [.int b17, .int 8, .int 10, .ref b18, .ref b19])), (b18, .inl (G.2 1, 80, .inr (.inl f_20))), (b7, .inr (6, [.int 0, .int 8, .int 400, .ref b13, .ref b14])), (b14, .inl (G.2 0, 1024, .inl f_22))] H := hP
    have hD := z_tie hP hD rfl
    refine W.widen (k := 0) (n := 0) (Nat.le_of_ble_eq_true rfl) (Nat.le_of_ble_eq_true rfl) ?_
    refine lv_aload_n hx hb d_Parting_begin_48 rfl (lv_at hl 0 rfl) ?_
    refine va_get (D := G.1) (ci := 8) (v := .ref b7) (C := R_Parting) (T := F_Parting) (N := 10) hx hb hts i_Parting hown hK hP 0 rfl rfl 5 (by decide) (hts _ q307) (fun _ h9 => h9) rfl d_Parting_begin_49 ?_
    refine lv_aload_n hx hb d_Parting_begin_52 rfl (lv_at hl 0 rfl) ?_
    refine va_get (D := G.1) (ci := 8) (v := .ref b8) (C := R_Parting) (T := F_Parting) (N := 10) hx hb hts i_Parting hown hK hP 0 rfl rfl 6 (by decide) (hts _ q308) (fun _ h9 => h9) rfl d_Parting_begin_53 ?_
    refine lv_iconst (v := 0) hx hb d_Parting_begin_56 (by decide) ?_
    refine z_callV (index := 84) (As := [.ref b8, .int 0]) (rest := []) (wr := [(b0, .inr (8, [.int b2, .int b3, .ref b4, .int b5, .int b6, .ref b7, .ref b8, .ref b9, .ref b10, .ref b11])), (b11, .inl (G.2 0, 400, .inl b21)), (b1, .inr (5, [.int b22, .int b23, .ref b24, .ref b25, .ref b26, .ref b27, .ref b28, .ref b29, .int b30, .ref b31, .ref b32, .ref b33, .ref b34, .ref b35, .ref b36]))]) Z (s2_Sets_indexOf l G (b7) (b8) (0) (0) (b13) (b14) (b15) (f_22) (b17) (b18) (b19) (f_20) (zI.wk (l' := 0) (h' := 9) zc_0 (by decide)) (zI.wk (l' := 0) (h' := 400) zc_0 (by decide)) hb17 hb15 hf_22 hf_20) hl.1 q885 q831 q832 q7 q833 ⟨by decide, by decide, by show _ = some 2; decide +kernel⟩ ⟨Nat.le_of_ble_eq_true rfl, Nat.le_of_ble_eq_true rfl⟩ ⟨Nat.le_of_ble_eq_true rfl, Nat.le_of_ble_eq_true rfl⟩ rfl (Nat.le_of_ble_eq_true rfl) d_Parting_begin_57 hP hD hS hA 6 6 rfl rfl rfl [6, 1, 7, 4, 5] [0, 2, 3] rfl rfl rfl rfl (by decide) (fun v w1 H locs hw_23 hP hD hS => ?_)
    obtain ⟨x_24, x_25, f_26, f_27, rfl, rfl, hx_24, hx_25, hf_26, hf_27, hfx_28⟩ := hw_23
    have hP : va_P G.1 classes [(b0, .inr (8, [.int b2, .int b3, .ref b4, .int b5, .int b6, .ref b7, .ref b8, .ref b9, .ref b10, .ref b11])), (b11, .inl (G.2 0, 400, .inl b21)), (b1, .inr (5, [.int b22, .int b23, .ref b24, .ref b25, .ref b26, .ref b27, .ref b28, .ref b29, .int b30, .ref b31, .ref b32, .ref b33, .ref b34, .ref b35, .ref b36])), (b7, .inr (6, [.int x_25, .int 8, .int 400, .ref b13, .ref b14])), (b13, .inl (G.2 1, 3200, .inr (.inl f_26))), (b14, .inl (G.2 0, 1024, .inl f_27)), (b8, .inr (6, [.int b17, .int 8, .int 10, .ref b18, .ref b19])), (b18, .inl (G.2 1, 80, .inr (.inl f_20)))] H := hP
    have hD := z_tie hP hD rfl
    refine W.widen (k := 0) (n := 0) (Nat.le_of_ble_eq_true rfl) (Nat.le_of_ble_eq_true rfl) ?_
    refine lv_pop hx hb d_Parting_begin_60 rfl ?_
    refine lv_aload_n hx hb d_Parting_begin_61 rfl (lv_at hl 0 rfl) ?_
    refine va_get (D := G.1) (ci := 8) (v := .ref b11) (C := R_Parting) (T := F_Parting) (N := 10) hx hb hts i_Parting hown hK hP 0 rfl rfl 9 (by decide) (hts _ q311) (fun _ h9 => h9) rfl d_Parting_begin_62 ?_
    refine lv_iconst (v := 0) hx hb d_Parting_begin_65 (by decide) ?_
    refine lv_iconst (v := 0) hx hb d_Parting_begin_66 (by decide) ?_
    refine va_iast hx hb hK hP hD hS 1 0 rfl rfl (i := 0) (z_in rfl) d_Parting_begin_67 (fun H locs hP hD hS => ?_)
    obtain ⟨f_29, hf_29, gf_29, uf_29, hP, hD⟩ := z_newfu 1 hP hD rfl hb21 (zI.wk (l' := 0) (h' := 8) zc_0 (by decide))
    have hP : va_P G.1 classes [(b0, .inr (8, [.int b2, .int b3, .ref b4, .int b5, .int b6, .ref b7, .ref b8, .ref b9, .ref b10, .ref b11])), (b11, .inl (G.2 0, 400, .inl f_29)), (b1, .inr (5, [.int b22, .int b23, .ref b24, .ref b25, .ref b26, .ref b27, .ref b28, .ref b29, .int b30, .ref b31, .ref b32, .ref b33, .ref b34, .ref b35, .ref b36])), (b7, .inr (6, [.int x_25, .int 8, .int 400, .ref b13, .ref b14])), (b13, .inl (G.2 1, 3200, .inr (.inl f_26))), (b14, .inl (G.2 0, 1024, .inl f_27)), (b8, .inr (6, [.int b17, .int 8, .int 10, .ref b18, .ref b19])), (b18, .inl (G.2 1, 80, .inr (.inl f_20)))] H := hP
    have hD := z_tie hP hD rfl
    exact z_vret hx hb hr hlocks (hP.sub [0, 3, 4, 5, 6, 7, 1, 2] rfl) (hD.sub [0, 3, 4, 5, 6, 7, 1, 2] (by decide) rfl) hS (Nat.le_of_ble_eq_true rfl) (Nat.le_of_ble_eq_true rfl) d_Parting_begin_68 ⟨x_25, f_26, f_27, f_20, f_29, rfl, rfl, hx_25, hf_26, hf_27, hf_20, hf_29⟩
theorem d_Parting_find_94 : decode prog_7_method_4_code 94 = .ok (.return_, 1) := by decide +kernel
abbrev m_s3_Sets_longAt : Room := { frames := 0, cells := 0, slots := 0, locals := 0 }
set_option maxHeartbeats 4000000 in
set_option maxRecDepth 100000 in
theorem s3_Sets_longAt (l : Launch) (G : zG) (b0 : Nat) (b1 : Int32) (b2 : Int32) (b3 : Int32) (b4 : Int32) (b5 : Nat) (b6 : Nat) (b7 : Nat → Int64) (hb1 : zI b1 0 399) (hb2 : zI b2 0 1) (hb3 : zI b3 0 3) (hb4 : zI b4 0 400) (hb7 : zqa qB b7) : zM l G y_Sets_longAt prog_8_method_5_code 4 (Option.some Jvm.ClassFile.FieldType.long) m_s3_Sets_longAt [.ref b0, .int b1, .int b2, .int b3] [(b0, .inr (6, [.int b4, .int 8, .int 400, .ref b5, .ref b6])), (b5, .inl (G.2 1, 3200, .inr (.inl b7)))] (fun v w => ∃ (e0 : Int64), v = some (.long e0) ∧ w = [(b0, .inr (6, [.int b4, .int 8, .int 400, .ref b5, .ref b6])), (b5, .inl (G.2 1, 3200, .inr (.inl b7)))] ∧ ((b3 : Int32).toInt = 3 → (e0 : Int64).toBitVec.toNat < 2 ^ 49)) := by
  refine z_start (by decide +kernel) (Nat.le_of_ble_eq_true rfl) ?_
  intro p e s m below meth c A Z hr hnm hA hP hD hS ls hl
  have Z : zC p s m _ meth c prog_8_method_5_code 4 "TraceMachines$StateSets" G := Z
  obtain ⟨hx, hb, hml, hown, hts, hK, hN, hlocks⟩ := id Z
  have hl : lv_has ls 4 [(0, .ref b0), (1, .int b1), (2, .int b2), (3, .int b3)] := hl
  refine lv_aload_n hx hb d_Sets_longAt_0 rfl (lv_at hl 0 rfl) ?_
  refine va_get (D := G.1) (ci := 6) (v := .ref b5) (C := R_Sets) (T := F_Sets) (N := 5) hx hb hts i_Sets hown hK hP 0 rfl rfl 3 (by decide) (hts _ q244) (fun _ h9 => h9) rfl d_Sets_longAt_1 ?_
  refine lv_iload_n hx hb d_Sets_longAt_4 rfl (lv_at hl 1 rfl) ?_
  refine lv_aload_n hx hb d_Sets_longAt_5 rfl (lv_at hl 0 rfl) ?_
  refine va_get (D := G.1) (ci := 6) (v := .int 8) (C := R_Sets) (T := F_Sets) (N := 5) hx hb hts i_Sets hown hK hP 0 rfl rfl 1 (by decide) (hts _ q242) (fun _ h9 => h9) rfl d_Sets_longAt_6 ?_
  refine lv_imul hx hb d_Sets_longAt_9 ?_
  refine lv_topi (fun v_1 ev_1 => ?_)
  obtain ⟨qv_1, hv_1⟩ := zI_mul (l := 0) (h := 3192) hb1 zc_8 ev_1 (by decide)
  rw [li_8] at qv_1
  refine lv_iload_n hx hb d_Sets_longAt_10 rfl (lv_at hl 2 rfl) ?_
  refine lv_iconst (v := 4) hx hb d_Sets_longAt_11 (by decide) ?_
  refine lv_imul hx hb d_Sets_longAt_12 ?_
  refine lv_topi (fun v_2 ev_2 => ?_)
  obtain ⟨qv_2, hv_2⟩ := zI_mul (l := 0) (h := 4) hb2 zc_4 ev_2 (by decide)
  rw [li_4] at qv_2
  refine lv_iadd hx hb d_Sets_longAt_13 ?_
  refine lv_topi (fun v_3 ev_3 => ?_)
  obtain ⟨qv_3, hv_3⟩ := zI_add (l := 0) (h := 3196) hv_1 hv_2 ev_3 (by decide)
  refine lv_iload_n hx hb d_Sets_longAt_14 rfl (lv_at hl 3 rfl) ?_
  refine lv_iadd hx hb d_Sets_longAt_15 ?_
  refine lv_topi (fun v_4 ev_4 => ?_)
  obtain ⟨qv_4, hv_4⟩ := zI_add (l := 0) (h := 3199) hv_3 hb3 ev_4 (by decide)
  refine va_lald hx hb hK hP 1 1 rfl rfl (zI.inn hv_4 (by decide)) d_Sets_longAt_16 ?_
  refine lv_topl (fun v_5 ev_5 => ?_)
  have bv_5 := zQB.ld hb7 hv_4 ev_5 (by decide)
  exact z_lret hx hb hr hlocks hP hD hS (Nat.le_of_ble_eq_true rfl) (Nat.le_of_ble_eq_true rfl) d_Sets_longAt_17 ⟨v_5, rfl, rfl, (fun h9 => bv_5 (by omega))⟩
abbrev m_s3_Machine_takes : Room := { frames := 1, cells := 0, slots := 0, locals := 23 }
set_option maxHeartbeats 4000000 in
set_option maxRecDepth 100000 in
theorem s3_Machine_takes (l : Launch) (G : zG) (b0 : Nat) (b1 : Nat) (b2 : Int32) (b3 : Int32) (b4 : Int32) (b5 : Int32) (b6 : Nat) (b7 : Nat) (b8 : Nat) (b9 : Nat) (b10 : Nat) (b11 : Nat) (b12 : Int32) (b13 : Nat) (b14 : Nat) (b15 : Nat) (b16 : Nat) (b17 : Nat) (b18 : Nat) (b19 : Nat → Int64) (b20 : Int32) (b21 : Nat) (b22 : Nat) (b23 : Nat → Int64) (hb2 : zI b2 0 399) (hb3 : zI b3 0 1) (hb4 : zI b4 0 1) (hb5 : zI b5 0 241) (hb12 : zI b12 0 240) (hb20 : zI b20 0 400) (hb23 : zqa qB b23) : zM l G y_Machine_takes prog_4_method_18_code 5 (Option.some Jvm.ClassFile.FieldType.boolean) m_s3_Machine_takes [.ref b0, .ref b1, .int b2, .int b3] [(b0, .inr (5, [.int b4, .int b5, .ref b6, .ref b7, .ref b8, .ref b9, .ref b10, .ref b11, .int b12, .ref b13, .ref b14, .ref b15, .ref b16, .ref b17, .ref b18])), (b11, .inl (G.2 1, 4, .inr (.inl b19))), (b1, .inr (6, [.int b20, .int 8, .int 400, .ref b21, .ref b22])), (b21, .inl (G.2 1, 3200, .inr (.inl b23)))] (fun v w => ∃ (e0 : Int32), v = some (.int e0) ∧ w = [(b0, .inr (5, [.int b4, .int b5, .ref b6, .ref b7, .ref b8, .ref b9, .ref b10, .ref b11, .int b12, .ref b13, .ref b14, .ref b15, .ref b16, .ref b17, .ref b18])), (b11, .inl (G.2 1, 4, .inr (.inl b19))), (b1, .inr (6, [.int b20, .int 8, .int 400, .ref b21, .ref b22])), (b21, .inl (G.2 1, 3200, .inr (.inl b23)))] ∧ (zI e0 0 1)) := by
  refine z_start (by decide +kernel) (Nat.le_of_ble_eq_true rfl) ?_
  intro p e s m below meth c A Z hr hnm hA hP hD hS ls hl
  have Z : zC p s m _ meth c prog_4_method_18_code 5 "TraceMachines$Machine" G := Z
  obtain ⟨hx, hb, hml, hown, hts, hK, hN, hlocks⟩ := id Z
  have hl : lv_has ls 5 [(0, .ref b0), (1, .ref b1), (2, .int b2), (3, .int b3)] := hl
  refine lv_iconst (v := 0) hx hb d_Machine_takes_0 (by decide) ?_
  refine lv_istore (lv' := [(4, .int 0), (0, .ref b0), (1, .ref b1), (2, .int b2), (3, .int b3)]) hx hb d_Machine_takes_1 hl (by decide) rfl (fun ls hl => ?_)
  suffices key : ∀ (k_81 : Nat) (y_82 : Int32) (H : Heap) (locs : List Loc) (ls : Array Slot), (zI y_82 0 4) → (4 : Int) - y_82.toInt < (k_81 : Int) → va_P G.1 classes [(b0, .inr (5, [.int b4, .int b5, .ref b6, .ref b7, .ref b8, .ref b9, .ref b10, .ref b11, .int b12, .ref b13, .ref b14, .ref b15, .ref b16, .ref b17, .ref b18])), (b11, .inl (G.2 1, 4, .inr (.inl b19))), (b1, .inr (6, [.int b20, .int 8, .int 400, .ref b21, .ref b22])), (b21, .inl (G.2 1, 3200, .inr (.inl b23)))] H → va_D A [(b0, .inr (5, [.int b4, .int b5, .ref b6, .ref b7, .ref b8, .ref b9, .ref b10, .ref b11, .int b12, .ref b13, .ref b14, .ref b15, .ref b16, .ref b17, .ref b18])), (b11, .inl (G.2 1, 4, .inr (.inl b19))), (b1, .inr (6, [.int b20, .int 8, .int 400, .ref b21, .ref b22])), (b21, .inl (G.2 1, 3200, .inr (.inl b23)))] → va_S A s.heap H locs → lv_has ls 5 [(4, .int y_82), (0, .ref b0), (1, .ref b1), (2, .int b2), (3, .int b3)] → W p l e m_s3_Machine_takes s m ([.ref b0, .ref b1, .int b2, .int b3] : List Value).toArray below meth c H locs 0 0 (MQ below (zQ G (fun v w => ∃ (e0 : Int32), v = some (.int e0) ∧ w = [(b0, .inr (5, [.int b4, .int b5, .ref b6, .ref b7, .ref b8, .ref b9, .ref b10, .ref b11, .int b12, .ref b13, .ref b14, .ref b15, .ref b16, .ref b17, .ref b18])), (b11, .inl (G.2 1, 4, .inr (.inl b19))), (b1, .inr (6, [.int b20, .int 8, .int 400, .ref b21, .ref b22])), (b21, .inl (G.2 1, 3200, .inr (.inl b23)))] ∧ (zI e0 0 1)) A) ([.ref b0, .ref b1, .int b2, .int b3] : List Value).toArray s m_s3_Machine_takes.cells m_s3_Machine_takes.slots A) (F0 m 3 ls []) by
    exact key 5 (0) _ _ _ (zI.wk (l' := 0) (h' := 4) zc_0 (by decide)) (zm_upi (zI.wk (l' := 0) (h' := 4) zc_0 (by decide)) (by decide)) hP hD hS (lv_sub hl [0, 1, 2, 3, 4] rfl)
  intro k_81
  induction k_81 with
  | zero =>
    intro y_82 H locs ls hy_82 hmk_81 hP hD hS hl
    exact (zm_up0 hy_82 hmk_81).elim
  | succ k_81 ihk_81 =>
    intro y_82 H locs ls hy_82 hmk_81 hP hD hS hl
    refine lv_iload hx hb d_Machine_takes_3 (lv_at hl 0 rfl) ?_
    refine lv_iconst (v := 4) hx hb d_Machine_takes_5 (by decide) ?_
    refine lv_icmp_ge (tgt := 38) hx hb d_Machine_takes_6 (by decide) (fun hc_83 => ?_) (fun hc_83 => ?_)
    · have _nhc_83 := hc_83
      have ni_84 := (fa_le _ _).mp hc_83
      rw [li_4] at ni_84
      have hv_85 : zI y_82 4 4 := zI.le_r zc_4 hy_82 hc_83 (by decide)
      refine lv_iconst (v := 0) hx hb d_Machine_takes_38 (by decide) ?_
      exact z_zret hx hb hr hlocks rfl hP hD hS (Nat.le_of_ble_eq_true rfl) (Nat.le_of_ble_eq_true rfl) d_Machine_takes_39 ⟨0, rfl, rfl, (zI.wk (l' := 0) (h' := 1) zc_0 (by decide))⟩
    · have _nhc_83 := hc_83
      have ni_86 := (fa_lt _ _).mp (zi_nle hc_83)
      rw [li_4] at ni_86
      have hv_87 : zI y_82 0 3 := zI.lt_l hy_82 zc_4 (zi_nle hc_83) (by decide)
      refine lv_aload_n hx hb d_Machine_takes_9 rfl (lv_at hl 2 rfl) ?_
      refine lv_iload_n hx hb d_Machine_takes_10 rfl (lv_at hl 3 rfl) ?_
      refine lv_iload_n hx hb d_Machine_takes_11 rfl (lv_at hl 4 rfl) ?_
      refine lv_iload hx hb d_Machine_takes_12 (lv_at hl 0 rfl) ?_
      refine z_callV (index := 166) (As := [.int b2, .int b3, .int y_82]) (rest := []) (wr := [(b0, .inr (5, [.int b4, .int b5, .ref b6, .ref b7, .ref b8, .ref b9, .ref b10, .ref b11, .int b12, .ref b13, .ref b14, .ref b15, .ref b16, .ref b17, .ref b18])), (b11, .inl (G.2 1, 4, .inr (.inl b19)))]) Z (s3_Sets_longAt l G (b1) (b2) (b3) (y_82) (b20) (b21) (b22) (b23) hb2 hb3 hv_87 hb20 hb23) hl.1 q719 q720 q721 q7 q722 ⟨by decide, by decide, by show _ = some 3; decide +kernel⟩ ⟨Nat.le_of_ble_eq_true rfl, Nat.le_of_ble_eq_true rfl⟩ ⟨Nat.le_of_ble_eq_true rfl, Nat.le_of_ble_eq_true rfl⟩ rfl (Nat.le_of_ble_eq_true rfl) d_Machine_takes_14 hP hD hS hA 2 6 rfl rfl rfl [2, 3] [0, 1] rfl rfl rfl rfl (by decide) (fun v w1 H locs hw_88 hP hD hS => ?_)
      obtain ⟨x_89, rfl, rfl, hfx_90⟩ := hw_88
      have hP : va_P G.1 classes [(b0, .inr (5, [.int b4, .int b5, .ref b6, .ref b7, .ref b8, .ref b9, .ref b10, .ref b11, .int b12, .ref b13, .ref b14, .ref b15, .ref b16, .ref b17, .ref b18])), (b11, .inl (G.2 1, 4, .inr (.inl b19))), (b1, .inr (6, [.int b20, .int 8, .int 400, .ref b21, .ref b22])), (b21, .inl (G.2 1, 3200, .inr (.inl b23)))] H := hP
      have hD := z_tie hP hD rfl
      refine W.widen (k := 0) (n := 0) (Nat.le_of_ble_eq_true rfl) (Nat.le_of_ble_eq_true rfl) ?_
      refine lv_aload_n hx hb d_Machine_takes_17 rfl (lv_at hl 1 rfl) ?_
      refine va_get (D := G.1) (ci := 5) (v := .ref b11) (C := R_Machine) (T := F_Machine) (N := 15) hx hb hts i_Machine hown hK hP 0 rfl rfl 7 (by decide) (hts _ q181) (fun _ h9 => h9) rfl d_Machine_takes_18 ?_
      refine lv_iload hx hb d_Machine_takes_21 (lv_at hl 0 rfl) ?_
      refine va_lald hx hb hK hP 1 1 rfl rfl (zI.inn hv_87 (by decide)) d_Machine_takes_23 ?_
      refine lv_topl (fun v_91 ev_91 => ?_)
      refine lv_land hx hb d_Machine_takes_24 ?_
      refine lv_topl (fun v_92 ev_92 => ?_)
      refine lv_lconst (v := 0) hx hb d_Machine_takes_25 (by decide) ?_
      refine W.lcmp hx hb d_Machine_takes_26 ?_
      refine lv_topi (fun v_93 ev_93 => ?_)
      refine lv_if_eq (tgt := 32) hx hb d_Machine_takes_27 (by decide) (fun hc_94 => ?_) (fun hc_94 => ?_)
      · have ni_95 := hc_94
        rw [ev_93] at ni_95
        simp only [lg_cmp_lt, lg_cmp_le, lg_cmp_gt, lg_cmp_ge, lg_cmp_eq, fa_lt64, fa_le64, fa_eq64, Int32.toInt_toInt64, ll_0] at ni_95
        have hv_96 : zJ v_92 0 0 := by have _a := ni_95; have _b := (zJ_all v_92); have _c := zcl_0; simp only [Int32.toInt_toInt64] at *; exact ⟨by omega, by omega⟩
        obtain ⟨v_97, ev_97⟩ : ∃ z : Int32, z = y_82 + 1 := ⟨_, rfl⟩
        obtain ⟨qv_97, hv_97⟩ := zI_add (l := 1) (h := 4) hv_87 zc_1 ev_97 (by decide)
        rw [li_1] at qv_97
        refine lv_iinc (v := v_97) (lv' := [(4, .int v_97), (0, .ref b0), (1, .ref b1), (2, .int b2), (3, .int b3)]) hx hb d_Machine_takes_32 hl (k := 0) rfl (by rw [ev_97]; rfl) (by decide) rfl (fun ls hl => ?_)
        refine lv_goto (tgt := 3) hx hb d_Machine_takes_35 (by decide) ?_
        exact ihk_81 (v_97) _ _ _ (zI.wk (l' := 0) (h' := 4) hv_97 (by decide)) (zm_up qv_97 hmk_81 (by decide)) hP hD hS (lv_sub hl [0, 1, 2, 3, 4] rfl)
      · have ni_98 := hc_94
        rw [ev_93] at ni_98
        simp only [lg_cmp_lt, lg_cmp_le, lg_cmp_gt, lg_cmp_ge, lg_cmp_eq, fa_lt64, fa_le64, fa_eq64, Int32.toInt_toInt64, ll_0] at ni_98
        refine lv_iconst (v := 1) hx hb d_Machine_takes_30 (by decide) ?_
        exact z_zret hx hb hr hlocks rfl hP hD hS (Nat.le_of_ble_eq_true rfl) (Nat.le_of_ble_eq_true rfl) d_Machine_takes_31 ⟨1, rfl, rfl, (zI.wk (l' := 0) (h' := 1) zc_1 (by decide))⟩
theorem d_Machine_fan_104 : decode prog_4_method_17_code 104 = .ok (.return_, 1) := by decide +kernel
abbrev m_s2_Machine_fan : Room := { frames := 2, cells := 0, slots := 0, locals := 42 }
set_option maxHeartbeats 4000000 in
set_option maxRecDepth 100000 in
theorem s2_Machine_fan (l : Launch) (G : zG) (b0 : Nat) (b1 : Nat) (b2 : Int32) (b3 : Int32) (b4 : Nat) (b5 : Int32) (b6 : Int32) (b7 : Nat) (b8 : Nat) (b9 : Nat) (b10 : Nat) (b11 : Nat) (b12 : Nat) (b13 : Int32) (b14 : Nat) (b15 : Nat) (b16 : Nat) (b17 : Nat) (b18 : Nat) (b19 : Nat) (b20 : Nat → Int32) (b21 : Nat → Int32) (b22 : Int32) (b23 : Nat) (b24 : Nat) (b25 : Nat → Int64) (b26 : Int32) (b27 : Nat) (b28 : Nat) (b29 : Nat → Int64) (hb2 : zI b2 0 399) (hb3 : zI b3 0 1) (hb5 : zI b5 0 1) (hb6 : zI b6 0 241) (hb13 : zI b13 0 240) (hb22 : zI b22 0 400) (hb26 : zI b26 0 10) (hb20 : zK b20) (hb21 : zR b21 0 240) (hb25 : zqa qB b25) (hb29 : zqa qB b29) : zM l G y_Machine_fan prog_4_method_17_code 10 (Option.none : Option Jvm.ClassFile.FieldType) m_s2_Machine_fan [.ref b0, .ref b1, .int b2, .int b3, .ref b4] [(b0, .inr (5, [.int b5, .int b6, .ref b7, .ref b8, .ref b9, .ref b10, .ref b11, .ref b12, .int b13, .ref b14, .ref b15, .ref b16, .ref b17, .ref b18, .ref b19])), (b14, .inl (G.2 0, 240, .inl b20)), (b18, .inl (G.2 0, 242, .inl b21)), (b1, .inr (6, [.int b22, .int 8, .int 400, .ref b23, .ref b24])), (b23, .inl (G.2 1, 3200, .inr (.inl b25))), (b4, .inr (6, [.int b26, .int 8, .int 10, .ref b27, .ref b28])), (b27, .inl (G.2 1, 80, .inr (.inl b29)))] (fun v w => ∃ (e0 : Nat → Int64), v = none ∧ w = [(b0, .inr (5, [.int b5, .int b6, .ref b7, .ref b8, .ref b9, .ref b10, .ref b11, .ref b12, .int b13, .ref b14, .ref b15, .ref b16, .ref b17, .ref b18, .ref b19])), (b14, .inl (G.2 0, 240, .inl b20)), (b18, .inl (G.2 0, 242, .inl b21)), (b1, .inr (6, [.int b22, .int 8, .int 400, .ref b23, .ref b24])), (b23, .inl (G.2 1, 3200, .inr (.inl b25))), (b4, .inr (6, [.int b26, .int 8, .int 10, .ref b27, .ref b28])), (b27, .inl (G.2 1, 80, .inr (.inl e0)))] ∧ (zqa qB e0)) := by
  refine z_start (by decide +kernel) (Nat.le_of_ble_eq_true rfl) ?_
  intro p e s m below meth c A Z hr hnm hA hP hD hS ls hl
  have Z : zC p s m _ meth c prog_4_method_17_code 10 "TraceMachines$Machine" G := Z
  obtain ⟨hx, hb, hml, hown, hts, hK, hN, hlocks⟩ := id Z
  have hl : lv_has ls 10 [(0, .ref b0), (1, .ref b1), (2, .int b2), (3, .int b3), (4, .ref b4)] := hl
  refine lv_iconst (v := 0) hx hb d_Machine_fan_0 (by decide) ?_
  refine lv_istore (lv' := [(5, .int 0), (0, .ref b0), (1, .ref b1), (2, .int b2), (3, .int b3), (4, .ref b4)]) hx hb d_Machine_fan_1 hl (by decide) rfl (fun ls hl => ?_)
  suffices key : ∀ (k_1218 : Nat) (y_1219 : Int32) (y_1220 : Nat → Int64) (H : Heap) (locs : List Loc) (ls : Array Slot), (zI y_1219 0 4) → (zqa qB y_1220) → (4 : Int) - y_1219.toInt < (k_1218 : Int) → va_P G.1 classes [(b0, .inr (5, [.int b5, .int b6, .ref b7, .ref b8, .ref b9, .ref b10, .ref b11, .ref b12, .int b13, .ref b14, .ref b15, .ref b16, .ref b17, .ref b18, .ref b19])), (b14, .inl (G.2 0, 240, .inl b20)), (b18, .inl (G.2 0, 242, .inl b21)), (b1, .inr (6, [.int b22, .int 8, .int 400, .ref b23, .ref b24])), (b23, .inl (G.2 1, 3200, .inr (.inl b25))), (b4, .inr (6, [.int b26, .int 8, .int 10, .ref b27, .ref b28])), (b27, .inl (G.2 1, 80, .inr (.inl y_1220)))] H → va_D A [(b0, .inr (5, [.int b5, .int b6, .ref b7, .ref b8, .ref b9, .ref b10, .ref b11, .ref b12, .int b13, .ref b14, .ref b15, .ref b16, .ref b17, .ref b18, .ref b19])), (b14, .inl (G.2 0, 240, .inl b20)), (b18, .inl (G.2 0, 242, .inl b21)), (b1, .inr (6, [.int b22, .int 8, .int 400, .ref b23, .ref b24])), (b23, .inl (G.2 1, 3200, .inr (.inl b25))), (b4, .inr (6, [.int b26, .int 8, .int 10, .ref b27, .ref b28])), (b27, .inl (G.2 1, 80, .inr (.inl y_1220)))] → va_S A s.heap H locs → lv_has ls 10 [(5, .int y_1219), (0, .ref b0), (1, .ref b1), (2, .int b2), (3, .int b3), (4, .ref b4)] → W p l e m_s2_Machine_fan s m ([.ref b0, .ref b1, .int b2, .int b3, .ref b4] : List Value).toArray below meth c H locs 0 0 (MQ below (zQ G (fun v w => ∃ (e0 : Nat → Int64), v = none ∧ w = [(b0, .inr (5, [.int b5, .int b6, .ref b7, .ref b8, .ref b9, .ref b10, .ref b11, .ref b12, .int b13, .ref b14, .ref b15, .ref b16, .ref b17, .ref b18, .ref b19])), (b14, .inl (G.2 0, 240, .inl b20)), (b18, .inl (G.2 0, 242, .inl b21)), (b1, .inr (6, [.int b22, .int 8, .int 400, .ref b23, .ref b24])), (b23, .inl (G.2 1, 3200, .inr (.inl b25))), (b4, .inr (6, [.int b26, .int 8, .int 10, .ref b27, .ref b28])), (b27, .inl (G.2 1, 80, .inr (.inl e0)))] ∧ (zqa qB e0)) A) ([.ref b0, .ref b1, .int b2, .int b3, .ref b4] : List Value).toArray s m_s2_Machine_fan.cells m_s2_Machine_fan.slots A) (F0 m 3 ls []) by
    exact key 5 (0) (b29) _ _ _ (zI.wk (l' := 0) (h' := 4) zc_0 (by decide)) hb29 (zm_upi (zI.wk (l' := 0) (h' := 4) zc_0 (by decide)) (by decide)) hP hD hS (lv_sub hl [0, 1, 2, 3, 4, 5] rfl)
  intro k_1218
  induction k_1218 with
  | zero =>
    intro y_1219 y_1220 H locs ls hy_1219 hy_1220 hmk_1218 hP hD hS hl
    exact (zm_up0 hy_1219 hmk_1218).elim
  | succ k_1218 ihk_1218 =>
    intro y_1219 y_1220 H locs ls hy_1219 hy_1220 hmk_1218 hP hD hS hl
    refine lv_iload hx hb d_Machine_fan_3 (lv_at hl 0 rfl) ?_
    refine lv_iconst (v := 4) hx hb d_Machine_fan_5 (by decide) ?_
    refine lv_icmp_ge (tgt := 104) hx hb d_Machine_fan_6 (by decide) (fun hc_1221 => ?_) (fun hc_1221 => ?_)
    · have _nhc_1221 := hc_1221
      have ni_1222 := (fa_le _ _).mp hc_1221
      rw [li_4] at ni_1222
      have hv_1223 : zI y_1219 4 4 := zI.le_r zc_4 hy_1219 hc_1221 (by decide)
      exact z_vret hx hb hr hlocks hP hD hS (Nat.le_of_ble_eq_true rfl) (Nat.le_of_ble_eq_true rfl) d_Machine_fan_104 ⟨y_1220, rfl, rfl, hy_1220⟩
    · have _nhc_1221 := hc_1221
      have ni_1224 := (fa_lt _ _).mp (zi_nle hc_1221)
      rw [li_4] at ni_1224
      have hv_1225 : zI y_1219 0 3 := zI.lt_l hy_1219 zc_4 (zi_nle hc_1221) (by decide)
      refine lv_aload_n hx hb d_Machine_fan_9 rfl (lv_at hl 2 rfl) ?_
      refine lv_iload_n hx hb d_Machine_fan_10 rfl (lv_at hl 3 rfl) ?_
      refine lv_iload_n hx hb d_Machine_fan_11 rfl (lv_at hl 4 rfl) ?_
      refine lv_iload hx hb d_Machine_fan_12 (lv_at hl 0 rfl) ?_
      refine z_callV (index := 166) (As := [.int b2, .int b3, .int y_1219]) (rest := []) (wr := [(b0, .inr (5, [.int b5, .int b6, .ref b7, .ref b8, .ref b9, .ref b10, .ref b11, .ref b12, .int b13, .ref b14, .ref b15, .ref b16, .ref b17, .ref b18, .ref b19])), (b14, .inl (G.2 0, 240, .inl b20)), (b18, .inl (G.2 0, 242, .inl b21)), (b4, .inr (6, [.int b26, .int 8, .int 10, .ref b27, .ref b28])), (b27, .inl (G.2 1, 80, .inr (.inl y_1220)))]) Z (s3_Sets_longAt l G (b1) (b2) (b3) (y_1219) (b22) (b23) (b24) (b25) hb2 hb3 hv_1225 hb22 hb25) hl.1 q719 q720 q721 q7 q722 ⟨by decide, by decide, by show _ = some 3; decide +kernel⟩ ⟨Nat.le_of_ble_eq_true rfl, Nat.le_of_ble_eq_true rfl⟩ ⟨Nat.le_of_ble_eq_true rfl, Nat.le_of_ble_eq_true rfl⟩ rfl (Nat.le_of_ble_eq_true rfl) d_Machine_fan_14 hP hD hS hA 3 6 rfl rfl rfl [3, 4] [0, 1, 2, 5, 6] rfl rfl rfl rfl (by decide) (fun v w1 H locs hw_1226 hP hD hS => ?_)
      obtain ⟨x_1227, rfl, rfl, hfx_1228⟩ := hw_1226
      have hP : va_P G.1 classes [(b0, .inr (5, [.int b5, .int b6, .ref b7, .ref b8, .ref b9, .ref b10, .ref b11, .ref b12, .int b13, .ref b14, .ref b15, .ref b16, .ref b17, .ref b18, .ref b19])), (b14, .inl (G.2 0, 240, .inl b20)), (b18, .inl (G.2 0, 242, .inl b21)), (b4, .inr (6, [.int b26, .int 8, .int 10, .ref b27, .ref b28])), (b27, .inl (G.2 1, 80, .inr (.inl y_1220))), (b1, .inr (6, [.int b22, .int 8, .int 400, .ref b23, .ref b24])), (b23, .inl (G.2 1, 3200, .inr (.inl b25)))] H := hP
      have hD := z_tie hP hD rfl
      refine W.widen (k := 0) (n := 0) (Nat.le_of_ble_eq_true rfl) (Nat.le_of_ble_eq_true rfl) ?_
      refine lv_lstore (lv' := [(6, .long x_1227), (5, .int y_1219), (0, .ref b0), (1, .ref b1), (2, .int b2), (3, .int b3), (4, .ref b4)]) hx hb d_Machine_fan_17 hl (by decide) rfl (fun ls hl => ?_)
      suffices key : ∀ (k_1361 : Nat) (y_1362 : Int64) (y_1363 : Nat → Int64) (H : Heap) (locs : List Loc) (ls : Array Slot), (zqa qB y_1363) → ((y_1219 : Int32).toInt = 3 → (y_1362 : Int64).toBitVec.toNat < 2 ^ 49) → (y_1362).toBitVec.toNat < k_1361 → va_P G.1 classes [(b0, .inr (5, [.int b5, .int b6, .ref b7, .ref b8, .ref b9, .ref b10, .ref b11, .ref b12, .int b13, .ref b14, .ref b15, .ref b16, .ref b17, .ref b18, .ref b19])), (b14, .inl (G.2 0, 240, .inl b20)), (b18, .inl (G.2 0, 242, .inl b21)), (b4, .inr (6, [.int b26, .int 8, .int 10, .ref b27, .ref b28])), (b27, .inl (G.2 1, 80, .inr (.inl y_1363))), (b1, .inr (6, [.int b22, .int 8, .int 400, .ref b23, .ref b24])), (b23, .inl (G.2 1, 3200, .inr (.inl b25)))] H → va_D A [(b0, .inr (5, [.int b5, .int b6, .ref b7, .ref b8, .ref b9, .ref b10, .ref b11, .ref b12, .int b13, .ref b14, .ref b15, .ref b16, .ref b17, .ref b18, .ref b19])), (b14, .inl (G.2 0, 240, .inl b20)), (b18, .inl (G.2 0, 242, .inl b21)), (b4, .inr (6, [.int b26, .int 8, .int 10, .ref b27, .ref b28])), (b27, .inl (G.2 1, 80, .inr (.inl y_1363))), (b1, .inr (6, [.int b22, .int 8, .int 400, .ref b23, .ref b24])), (b23, .inl (G.2 1, 3200, .inr (.inl b25)))] → va_S A s.heap H locs → lv_has ls 10 [(6, .long y_1362), (5, .int y_1219), (0, .ref b0), (1, .ref b1), (2, .int b2), (3, .int b3), (4, .ref b4)] → W p l e m_s2_Machine_fan s m ([.ref b0, .ref b1, .int b2, .int b3, .ref b4] : List Value).toArray below meth c H locs 0 0 (MQ below (zQ G (fun v w => ∃ (e0 : Nat → Int64), v = none ∧ w = [(b0, .inr (5, [.int b5, .int b6, .ref b7, .ref b8, .ref b9, .ref b10, .ref b11, .ref b12, .int b13, .ref b14, .ref b15, .ref b16, .ref b17, .ref b18, .ref b19])), (b14, .inl (G.2 0, 240, .inl b20)), (b18, .inl (G.2 0, 242, .inl b21)), (b1, .inr (6, [.int b22, .int 8, .int 400, .ref b23, .ref b24])), (b23, .inl (G.2 1, 3200, .inr (.inl b25))), (b4, .inr (6, [.int b26, .int 8, .int 10, .ref b27, .ref b28])), (b27, .inl (G.2 1, 80, .inr (.inl e0)))] ∧ (zqa qB e0)) A) ([.ref b0, .ref b1, .int b2, .int b3, .ref b4] : List Value).toArray s m_s2_Machine_fan.cells m_s2_Machine_fan.slots A) (F0 m 19 ls []) by
        exact key 18446744073709551616 (x_1227) (y_1220) _ _ _ hy_1220 hfx_1228 (Nat.lt_of_lt_of_le (x_1227).toBitVec.isLt (by decide)) hP hD hS (lv_sub hl [0, 1, 2, 3, 4, 5, 6] rfl)
      intro k_1361
      induction k_1361 with
      | zero =>
        intro y_1362 y_1363 H locs ls hy_1363 hli_1364 hmk_1361 hP hD hS hl
        exfalso; omega
      | succ k_1361 ihk_1361 =>
        intro y_1362 y_1363 H locs ls hy_1363 hli_1364 hmk_1361 hP hD hS hl
        refine lv_lload hx hb d_Machine_fan_19 (lv_at hl 0 rfl) ?_
        refine lv_lconst (v := 0) hx hb d_Machine_fan_21 (by decide) ?_
        refine W.lcmp hx hb d_Machine_fan_22 ?_
        refine lv_topi (fun v_1365 ev_1365 => ?_)
        refine lv_if_eq (tgt := 98) hx hb d_Machine_fan_23 (by decide) (fun hc_1366 => ?_) (fun hc_1366 => ?_)
        · have ni_1367 := hc_1366
          rw [ev_1365] at ni_1367
          simp only [lg_cmp_lt, lg_cmp_le, lg_cmp_gt, lg_cmp_ge, lg_cmp_eq, fa_lt64, fa_le64, fa_eq64, Int32.toInt_toInt64, ll_0] at ni_1367
          have hv_1368 : zJ y_1362 0 0 := by have _a := ni_1367; have _b := (zJ_all y_1362); have _c := zcl_0; simp only [Int32.toInt_toInt64] at *; exact ⟨by omega, by omega⟩
          obtain ⟨v_1369, ev_1369⟩ : ∃ z : Int32, z = y_1219 + 1 := ⟨_, rfl⟩
          obtain ⟨qv_1369, hv_1369⟩ := zI_add (l := 1) (h := 4) hv_1225 zc_1 ev_1369 (by decide)
          rw [li_1] at qv_1369
          refine lv_iinc (v := v_1369) (lv' := [(5, .int v_1369), (6, .long y_1362), (0, .ref b0), (1, .ref b1), (2, .int b2), (3, .int b3), (4, .ref b4)]) hx hb d_Machine_fan_98 hl (k := 1) rfl (by rw [ev_1369]; rfl) (by decide) rfl (fun ls hl => ?_)
          refine lv_goto (tgt := 3) hx hb d_Machine_fan_101 (by decide) ?_
          exact ihk_1218 (v_1369) (y_1363) _ _ _ (zI.wk (l' := 0) (h' := 4) hv_1369 (by decide)) hy_1363 (zm_up qv_1369 hmk_1218 (by decide)) (hP.sub [0, 1, 2, 5, 6, 3, 4] rfl) (hD.sub [0, 1, 2, 5, 6, 3, 4] (by decide) rfl) hS (lv_sub hl [0, 2, 3, 4, 5, 6] rfl)
        · have ni_1370 := hc_1366
          rw [ev_1365] at ni_1370
          simp only [lg_cmp_lt, lg_cmp_le, lg_cmp_gt, lg_cmp_ge, lg_cmp_eq, fa_lt64, fa_le64, fa_eq64, Int32.toInt_toInt64, ll_0] at ni_1370
          refine lv_bipush (v := 64) hx hb d_Machine_fan_26 (by decide) ?_
          refine lv_iload hx hb d_Machine_fan_28 (lv_at hl 1 rfl) ?_
          refine lv_imul hx hb d_Machine_fan_30 ?_
          refine lv_topi (fun v_1371 ev_1371 => ?_)
          obtain ⟨qv_1371, hv_1371⟩ := zI_mul (l := 0) (h := 192) zc_64 hv_1225 ev_1371 (by decide)
          rw [li_64] at qv_1371
          refine lv_lload hx hb d_Machine_fan_31 (lv_at hl 0 rfl) ?_
          refine z_callS (index := 170) (As := [.long y_1362]) (rest := [.int v_1371]) (wr := [(b0, .inr (5, [.int b5, .int b6, .ref b7, .ref b8, .ref b9, .ref b10, .ref b11, .ref b12, .int b13, .ref b14, .ref b15, .ref b16, .ref b17, .ref b18, .ref b19])), (b14, .inl (G.2 0, 240, .inl b20)), (b18, .inl (G.2 0, 242, .inl b21)), (b4, .inr (6, [.int b26, .int 8, .int 10, .ref b27, .ref b28])), (b27, .inl (G.2 1, 80, .inr (.inl y_1363))), (b1, .inr (6, [.int b22, .int 8, .int 400, .ref b23, .ref b24])), (b23, .inl (G.2 1, 3200, .inr (.inl b25)))]) Z (s2_Sets_lowest l G (y_1362) (by omega)) hl.1 q723 q724 q7 q725 ⟨by decide, by decide, by show _ = some 1; decide +kernel⟩ ⟨Nat.le_of_ble_eq_true rfl, Nat.le_of_ble_eq_true rfl⟩ ⟨Nat.le_of_ble_eq_true rfl, Nat.le_of_ble_eq_true rfl⟩ rfl (Nat.le_of_ble_eq_true rfl) d_Machine_fan_33 hP hD hS hA [] [0, 1, 2, 3, 4, 5, 6] rfl rfl rfl rfl (by decide) (fun v w1 H locs hw_1372 hP hD hS => ?_)
          obtain ⟨x_1373, rfl, rfl, hx_1373, hfx_1374⟩ := hw_1372
          have hP : va_P G.1 classes [(b0, .inr (5, [.int b5, .int b6, .ref b7, .ref b8, .ref b9, .ref b10, .ref b11, .ref b12, .int b13, .ref b14, .ref b15, .ref b16, .ref b17, .ref b18, .ref b19])), (b14, .inl (G.2 0, 240, .inl b20)), (b18, .inl (G.2 0, 242, .inl b21)), (b4, .inr (6, [.int b26, .int 8, .int 10, .ref b27, .ref b28])), (b27, .inl (G.2 1, 80, .inr (.inl y_1363))), (b1, .inr (6, [.int b22, .int 8, .int 400, .ref b23, .ref b24])), (b23, .inl (G.2 1, 3200, .inr (.inl b25)))] H := hP
          have hD := z_tie hP hD rfl
          refine W.widen (k := 0) (n := 0) (Nat.le_of_ble_eq_true rfl) (Nat.le_of_ble_eq_true rfl) ?_
          refine lv_iadd hx hb d_Machine_fan_36 ?_
          refine lv_topi (fun v_1375 ev_1375 => ?_)
          obtain ⟨qv_1375, hv_1375⟩ := zI_add (l := 0) (h := 255) hv_1371 hx_1373 ev_1375 (by decide)
          have hv_1376 : zI v_1375 0 240 := ⟨by omega, by omega⟩
          refine lv_istore (lv' := [(8, .int v_1375), (6, .long y_1362), (5, .int y_1219), (0, .ref b0), (1, .ref b1), (2, .int b2), (3, .int b3), (4, .ref b4)]) hx hb d_Machine_fan_37 hl (by decide) rfl (fun ls hl => ?_)
          refine lv_aload_n hx hb d_Machine_fan_39 rfl (lv_at hl 3 rfl) ?_
          refine va_get (D := G.1) (ci := 5) (v := .ref b18) (C := R_Machine) (T := F_Machine) (N := 15) hx hb hts i_Machine hown hK hP 0 rfl rfl 13 (by decide) (hts _ q195) (fun _ h9 => h9) rfl d_Machine_fan_40 ?_
          refine lv_iload hx hb d_Machine_fan_43 (lv_at hl 0 rfl) ?_
          refine va_iald hx hb hK hP 2 0 rfl rfl (zI.inn hv_1376 (by decide)) d_Machine_fan_45 ?_
          refine lv_topi (fun v_1377 ev_1377 => ?_)
          have hv_1377 : zI v_1377 0 240 := (hb21 _).eq ev_1377
          refine lv_istore (lv' := [(9, .int v_1377), (8, .int v_1375), (6, .long y_1362), (5, .int y_1219), (0, .ref b0), (1, .ref b1), (2, .int b2), (3, .int b3), (4, .ref b4)]) hx hb d_Machine_fan_46 hl (by decide) rfl (fun ls hl => ?_)
          suffices key : ∀ (k_1412 : Nat) (y_1413 : Int32) (y_1414 : Nat → Int64) (H : Heap) (locs : List Loc) (ls : Array Slot), (zI y_1413 0 240) → (zqa qB y_1414) → (240 : Int) - y_1413.toInt < (k_1412 : Int) → va_P G.1 classes [(b0, .inr (5, [.int b5, .int b6, .ref b7, .ref b8, .ref b9, .ref b10, .ref b11, .ref b12, .int b13, .ref b14, .ref b15, .ref b16, .ref b17, .ref b18, .ref b19])), (b14, .inl (G.2 0, 240, .inl b20)), (b18, .inl (G.2 0, 242, .inl b21)), (b4, .inr (6, [.int b26, .int 8, .int 10, .ref b27, .ref b28])), (b27, .inl (G.2 1, 80, .inr (.inl y_1414))), (b1, .inr (6, [.int b22, .int 8, .int 400, .ref b23, .ref b24])), (b23, .inl (G.2 1, 3200, .inr (.inl b25)))] H → va_D A [(b0, .inr (5, [.int b5, .int b6, .ref b7, .ref b8, .ref b9, .ref b10, .ref b11, .ref b12, .int b13, .ref b14, .ref b15, .ref b16, .ref b17, .ref b18, .ref b19])), (b14, .inl (G.2 0, 240, .inl b20)), (b18, .inl (G.2 0, 242, .inl b21)), (b4, .inr (6, [.int b26, .int 8, .int 10, .ref b27, .ref b28])), (b27, .inl (G.2 1, 80, .inr (.inl y_1414))), (b1, .inr (6, [.int b22, .int 8, .int 400, .ref b23, .ref b24])), (b23, .inl (G.2 1, 3200, .inr (.inl b25)))] → va_S A s.heap H locs → lv_has ls 10 [(9, .int y_1413), (8, .int v_1375), (6, .long y_1362), (5, .int y_1219), (0, .ref b0), (1, .ref b1), (2, .int b2), (3, .int b3), (4, .ref b4)] → W p l e m_s2_Machine_fan s m ([.ref b0, .ref b1, .int b2, .int b3, .ref b4] : List Value).toArray below meth c H locs 0 0 (MQ below (zQ G (fun v w => ∃ (e0 : Nat → Int64), v = none ∧ w = [(b0, .inr (5, [.int b5, .int b6, .ref b7, .ref b8, .ref b9, .ref b10, .ref b11, .ref b12, .int b13, .ref b14, .ref b15, .ref b16, .ref b17, .ref b18, .ref b19])), (b14, .inl (G.2 0, 240, .inl b20)), (b18, .inl (G.2 0, 242, .inl b21)), (b1, .inr (6, [.int b22, .int 8, .int 400, .ref b23, .ref b24])), (b23, .inl (G.2 1, 3200, .inr (.inl b25))), (b4, .inr (6, [.int b26, .int 8, .int 10, .ref b27, .ref b28])), (b27, .inl (G.2 1, 80, .inr (.inl e0)))] ∧ (zqa qB e0)) A) ([.ref b0, .ref b1, .int b2, .int b3, .ref b4] : List Value).toArray s m_s2_Machine_fan.cells m_s2_Machine_fan.slots A) (F0 m 48 ls []) by
            exact key 241 (v_1377) (y_1363) _ _ _ hv_1377 hy_1363 (zm_upi hv_1377 (by decide)) hP hD hS (lv_sub hl [0, 1, 2, 3, 4, 5, 6, 7, 8] rfl)
          intro k_1412
          induction k_1412 with
          | zero =>
            intro y_1413 y_1414 H locs ls hy_1413 hy_1414 hmk_1412 hP hD hS hl
            exact (zm_up0 hy_1413 hmk_1412).elim
          | succ k_1412 ihk_1412 =>
            intro y_1413 y_1414 H locs ls hy_1413 hy_1414 hmk_1412 hP hD hS hl
            refine lv_iload hx hb d_Machine_fan_48 (lv_at hl 0 rfl) ?_
            refine lv_aload_n hx hb d_Machine_fan_50 rfl (lv_at hl 4 rfl) ?_
            refine va_get (D := G.1) (ci := 5) (v := .ref b18) (C := R_Machine) (T := F_Machine) (N := 15) hx hb hts i_Machine hown hK hP 0 rfl rfl 13 (by decide) (hts _ q195) (fun _ h9 => h9) rfl d_Machine_fan_51 ?_
            refine lv_iload hx hb d_Machine_fan_54 (lv_at hl 1 rfl) ?_
            refine lv_iconst (v := 1) hx hb d_Machine_fan_56 (by decide) ?_
            refine lv_iadd hx hb d_Machine_fan_57 ?_
            refine lv_topi (fun v_1415 ev_1415 => ?_)
            obtain ⟨qv_1415, hv_1415⟩ := zI_add (l := 1) (h := 241) hv_1376 zc_1 ev_1415 (by decide)
            rw [li_1] at qv_1415
            refine va_iald hx hb hK hP 2 0 rfl rfl (zI.inn hv_1415 (by decide)) d_Machine_fan_58 ?_
            refine lv_topi (fun v_1416 ev_1416 => ?_)
            have hv_1416 : zI v_1416 0 240 := (hb21 _).eq ev_1416
            refine lv_icmp_ge (tgt := 86) hx hb d_Machine_fan_59 (by decide) (fun hc_1417 => ?_) (fun hc_1417 => ?_)
            · have _nhc_1417 := hc_1417
              have ni_1418 := (fa_le _ _).mp hc_1417
              refine lv_lload hx hb d_Machine_fan_86 (lv_at hl 2 rfl) ?_
              refine lv_lload hx hb d_Machine_fan_88 (lv_at hl 2 rfl) ?_
              refine lv_lconst (v := 1) hx hb d_Machine_fan_90 (by decide) ?_
              refine lv_lsub hx hb d_Machine_fan_91 ?_
              refine lv_topl (fun v_1419 ev_1419 => ?_)
              refine lv_land hx hb d_Machine_fan_92 ?_
              refine lv_topl (fun v_1420 ev_1420 => ?_)
              refine lv_lstore (lv' := [(6, .long v_1420), (9, .int y_1413), (8, .int v_1375), (5, .int y_1219), (0, .ref b0), (1, .ref b1), (2, .int b2), (3, .int b3), (4, .ref b4)]) hx hb d_Machine_fan_93 hl (by decide) rfl (fun ls hl => ?_)
              refine lv_goto (tgt := 19) hx hb d_Machine_fan_95 (by decide) ?_
              exact ihk_1361 (v_1420) (y_1414) _ _ _ hy_1414 (fun h9 => z_decB ev_1420 (hli_1364 h9)) (z_dec ev_1419 ev_1420 (by omega) hmk_1361) hP hD hS (lv_sub hl [0, 3, 4, 5, 6, 7, 8] rfl)
            · have _nhc_1417 := hc_1417
              have ni_1421 := (fa_lt _ _).mp (zi_nle hc_1417)
              have hv_1422 : zI y_1413 0 239 := zI.lt_l hy_1413 hv_1416 (zi_nle hc_1417) (by decide)
              have hv_1423 : zI v_1416 1 240 := zI.lt_r hy_1413 hv_1416 (zi_nle hc_1417) (by decide)
              refine lv_aload hx hb d_Machine_fan_62 (lv_at hl 8 rfl) ?_
              refine lv_aload_n hx hb d_Machine_fan_64 rfl (lv_at hl 4 rfl) ?_
              refine lv_iload hx hb d_Machine_fan_65 (lv_at hl 0 rfl) ?_
              refine z_callV (index := 174) (As := [.int y_1413]) (rest := [.ref b4]) (wr := [(b18, .inl (G.2 0, 242, .inl b21)), (b4, .inr (6, [.int b26, .int 8, .int 10, .ref b27, .ref b28])), (b27, .inl (G.2 1, 80, .inr (.inl y_1414))), (b1, .inr (6, [.int b22, .int 8, .int 400, .ref b23, .ref b24])), (b23, .inl (G.2 1, 3200, .inr (.inl b25)))]) Z (s1_Machine_letter l G (b0) (y_1413) (b5) (b6) (b7) (b8) (b9) (b10) (b11) (b12) (b13) (b14) (b15) (b16) (b17) (b18) (b19) (b20) hv_1422 hb5 hb6 hb13 hb20) hl.1 q732 q674 q675 q6 q676 ⟨by decide, by decide, by show _ = some 1; decide +kernel⟩ ⟨Nat.le_of_ble_eq_true rfl, Nat.le_of_ble_eq_true rfl⟩ ⟨Nat.le_of_ble_eq_true rfl, Nat.le_of_ble_eq_true rfl⟩ rfl (Nat.le_of_ble_eq_true rfl) d_Machine_fan_67 hP hD hS hA 0 5 rfl rfl rfl [0, 1] [2, 3, 4, 5, 6] rfl rfl rfl rfl (by decide) (fun v w1 H locs hw_1424 hP hD hS => ?_)
              obtain ⟨x_1425, rfl, rfl, hx_1425⟩ := hw_1424
              have hP : va_P G.1 classes [(b18, .inl (G.2 0, 242, .inl b21)), (b4, .inr (6, [.int b26, .int 8, .int 10, .ref b27, .ref b28])), (b27, .inl (G.2 1, 80, .inr (.inl y_1414))), (b1, .inr (6, [.int b22, .int 8, .int 400, .ref b23, .ref b24])), (b23, .inl (G.2 1, 3200, .inr (.inl b25))), (b0, .inr (5, [.int b5, .int b6, .ref b7, .ref b8, .ref b9, .ref b10, .ref b11, .ref b12, .int b13, .ref b14, .ref b15, .ref b16, .ref b17, .ref b18, .ref b19])), (b14, .inl (G.2 0, 240, .inl b20))] H := hP
              have hD := z_tie hP hD rfl
              refine W.widen (k := 0) (n := 0) (Nat.le_of_ble_eq_true rfl) (Nat.le_of_ble_eq_true rfl) ?_
              refine lv_iload_n hx hb d_Machine_fan_70 rfl (lv_at hl 7 rfl) ?_
              refine lv_aload_n hx hb d_Machine_fan_71 rfl (lv_at hl 4 rfl) ?_
              refine lv_iload hx hb d_Machine_fan_72 (lv_at hl 0 rfl) ?_
              refine z_callV (index := 176) (As := [.int y_1413]) (rest := [.int b3, .int x_1425, .ref b4]) (wr := [(b18, .inl (G.2 0, 242, .inl b21)), (b4, .inr (6, [.int b26, .int 8, .int 10, .ref b27, .ref b28])), (b27, .inl (G.2 1, 80, .inr (.inl y_1414))), (b1, .inr (6, [.int b22, .int 8, .int 400, .ref b23, .ref b24])), (b23, .inl (G.2 1, 3200, .inr (.inl b25)))]) Z (s1_Machine_to l G (b0) (y_1413) (b5) (b6) (b7) (b8) (b9) (b10) (b11) (b12) (b13) (b14) (b15) (b16) (b17) (b18) (b19) (b20) hv_1422 hb5 hb6 hb13 hb20) hl.1 q733 q681 q682 q6 q683 ⟨by decide, by decide, by show _ = some 1; decide +kernel⟩ ⟨Nat.le_of_ble_eq_true rfl, Nat.le_of_ble_eq_true rfl⟩ ⟨Nat.le_of_ble_eq_true rfl, Nat.le_of_ble_eq_true rfl⟩ rfl (Nat.le_of_ble_eq_true rfl) d_Machine_fan_74 hP hD hS hA 5 5 rfl rfl rfl [5, 6] [0, 1, 2, 3, 4] rfl rfl rfl rfl (by decide) (fun v w1 H locs hw_1426 hP hD hS => ?_)
              obtain ⟨x_1427, rfl, rfl, hx_1427⟩ := hw_1426
              have hP : va_P G.1 classes [(b18, .inl (G.2 0, 242, .inl b21)), (b4, .inr (6, [.int b26, .int 8, .int 10, .ref b27, .ref b28])), (b27, .inl (G.2 1, 80, .inr (.inl y_1414))), (b1, .inr (6, [.int b22, .int 8, .int 400, .ref b23, .ref b24])), (b23, .inl (G.2 1, 3200, .inr (.inl b25))), (b0, .inr (5, [.int b5, .int b6, .ref b7, .ref b8, .ref b9, .ref b10, .ref b11, .ref b12, .int b13, .ref b14, .ref b15, .ref b16, .ref b17, .ref b18, .ref b19])), (b14, .inl (G.2 0, 240, .inl b20))] H := hP
              have hD := z_tie hP hD rfl
              refine W.widen (k := 0) (n := 0) (Nat.le_of_ble_eq_true rfl) (Nat.le_of_ble_eq_true rfl) ?_
              refine z_callV (index := 139) (As := [.int x_1425, .int b3, .int x_1427]) (rest := []) (wr := [(b18, .inl (G.2 0, 242, .inl b21)), (b1, .inr (6, [.int b22, .int 8, .int 400, .ref b23, .ref b24])), (b23, .inl (G.2 1, 3200, .inr (.inl b25))), (b0, .inr (5, [.int b5, .int b6, .ref b7, .ref b8, .ref b9, .ref b10, .ref b11, .ref b12, .int b13, .ref b14, .ref b15, .ref b16, .ref b17, .ref b18, .ref b19])), (b14, .inl (G.2 0, 240, .inl b20))]) Z (s3_Sets_put l G (b4) (x_1425) (b3) (x_1427) (b26) (b27) (b28) (y_1414) hx_1425 hb3 hx_1427 hb26 hy_1414) hl.1 q709 q710 q711 q7 q712 ⟨by decide, by decide, by show _ = some 3; decide +kernel⟩ ⟨Nat.le_of_ble_eq_true rfl, Nat.le_of_ble_eq_true rfl⟩ ⟨Nat.le_of_ble_eq_true rfl, Nat.le_of_ble_eq_true rfl⟩ rfl (Nat.le_of_ble_eq_true rfl) d_Machine_fan_77 hP hD hS hA 1 6 rfl rfl rfl [1, 2] [0, 3, 4, 5, 6] rfl rfl rfl rfl (by decide) (fun v w1 H locs hw_1428 hP hD hS => ?_)
              obtain ⟨f_1429, rfl, rfl, hf_1429⟩ := hw_1428
              have hP : va_P G.1 classes [(b18, .inl (G.2 0, 242, .inl b21)), (b1, .inr (6, [.int b22, .int 8, .int 400, .ref b23, .ref b24])), (b23, .inl (G.2 1, 3200, .inr (.inl b25))), (b0, .inr (5, [.int b5, .int b6, .ref b7, .ref b8, .ref b9, .ref b10, .ref b11, .ref b12, .int b13, .ref b14, .ref b15, .ref b16, .ref b17, .ref b18, .ref b19])), (b14, .inl (G.2 0, 240, .inl b20)), (b4, .inr (6, [.int b26, .int 8, .int 10, .ref b27, .ref b28])), (b27, .inl (G.2 1, 80, .inr (.inl f_1429)))] H := hP
              have hD := z_tie hP hD rfl
              refine W.widen (k := 0) (n := 0) (Nat.le_of_ble_eq_true rfl) (Nat.le_of_ble_eq_true rfl) ?_
              obtain ⟨v_1430, ev_1430⟩ : ∃ z : Int32, z = y_1413 + 1 := ⟨_, rfl⟩
              obtain ⟨qv_1430, hv_1430⟩ := zI_add (l := 1) (h := 240) hv_1422 zc_1 ev_1430 (by decide)
              rw [li_1] at qv_1430
              refine lv_iinc (v := v_1430) (lv' := [(9, .int v_1430), (8, .int v_1375), (6, .long y_1362), (5, .int y_1219), (0, .ref b0), (1, .ref b1), (2, .int b2), (3, .int b3), (4, .ref b4)]) hx hb d_Machine_fan_80 hl (k := 0) rfl (by rw [ev_1430]; rfl) (by decide) rfl (fun ls hl => ?_)
              refine lv_goto (tgt := 48) hx hb d_Machine_fan_83 (by decide) ?_
              exact ihk_1412 (v_1430) (f_1429) _ _ _ (zI.wk (l' := 0) (h' := 240) hv_1430 (by decide)) hf_1429 (zm_up qv_1430 hmk_1412 (by decide)) (hP.sub [3, 4, 0, 5, 6, 1, 2] rfl) (hD.sub [3, 4, 0, 5, 6, 1, 2] (by decide) rfl) hS (lv_sub hl [0, 1, 2, 3, 4, 5, 6, 7, 8] rfl)
theorem d_Parting_goOn_76 : decode prog_7_method_6_code 76 = .ok (.ireturn, 1) := by decide +kernel
theorem d_Parting_goOn_123 : decode prog_7_method_6_code 123 = .ok (.ireturn, 1) := by decide +kernel
abbrev m_s2_Parting_goOn : Room := { frames := 3, cells := 0, slots := 0, locals := 71 }
set_option maxHeartbeats 4000000 in
set_option maxRecDepth 100000 in
theorem s2_Parting_goOn (l : Launch) (G : zG) (b0 : Nat) (b1 : Nat) (b2 : Int32) (b3 : Int32) (b4 : Int32) (b5 : Nat) (b6 : Int32) (b7 : Int32) (b8 : Nat) (b9 : Nat) (b10 : Nat) (b11 : Nat) (b12 : Nat) (b13 : Int32) (b14 : Nat) (b15 : Nat) (b16 : Nat → Int64) (b17 : Nat → Int32) (b18 : Int32) (b19 : Nat) (b20 : Nat) (b21 : Nat → Int64) (b22 : Nat → Int32) (b23 : Nat → Int32) (b24 : Nat → Int32) (b25 : Int32) (b26 : Int32) (b27 : Nat) (b28 : Nat) (b29 : Nat) (b30 : Nat) (b31 : Nat) (b32 : Nat) (b33 : Int32) (b34 : Nat) (b35 : Nat) (b36 : Nat) (b37 : Nat) (b38 : Nat) (b39 : Nat) (b40 : Nat → Int32) (b41 : Nat → Int32) (hb2 : zI b2 0 399) (hb3 : zI b3 0 1) (hb4 : zI b4 (-2) 8) (hb13 : zI b13 0 400) (hb18 : zI b18 0 10) (hb25 : zI b25 0 1) (hb26 : zI b26 0 241) (hb33 : zI b33 0 240) (hb16 : zqa qB b16) (hb17 : zR b17 (-1) 399) (hb21 : zqa qB b21) (hb22 : zR b22 0 399) (hb23 : zR b23 0 9) (hb24 : zR b24 0 8) (hb40 : zK b40) (hb41 : zR b41 0 240) (hpl : (b24 b2.toNatClampNeg).toInt ≤ 7) (hpc : b2.toInt < b13.toInt) : zM l G y_Parting_goOn prog_7_method_6_code 7 (Option.some Jvm.ClassFile.FieldType.boolean) m_s2_Parting_goOn [.ref b0, .ref b1, .ref b1, .int b2] [(b0, .inr (8, [.int b3, .int b4, .ref b5, .int b6, .int b7, .ref b8, .ref b9, .ref b10, .ref b11, .ref b12])), (b8, .inr (6, [.int b13, .int 8, .int 400, .ref b14, .ref b15])), (b14, .inl (G.2 1, 3200, .inr (.inl b16))), (b15, .inl (G.2 0, 1024, .inl b17)), (b9, .inr (6, [.int b18, .int 8, .int 10, .ref b19, .ref b20])), (b19, .inl (G.2 1, 80, .inr (.inl b21))), (b10, .inl (G.2 0, 400, .inl b22)), (b11, .inl (G.2 0, 400, .inl b23)), (b12, .inl (G.2 0, 400, .inl b24)), (b1, .inr (5, [.int b25, .int b26, .ref b27, .ref b28, .ref b29, .ref b30, .ref b31, .ref b32, .int b33, .ref b34, .ref b35, .ref b36, .ref b37, .ref b38, .ref b39])), (b34, .inl (G.2 0, 240, .inl b40)), (b38, .inl (G.2 0, 242, .inl b41))] (fun v w => ∃ (e0 : Int32), ∃ (e1 : Int32), ∃ (e2 : Nat → Int64), ∃ (e3 : Nat → Int32), ∃ (e4 : Nat → Int64), ∃ (e5 : Nat → Int32), ∃ (e6 : Nat → Int32), ∃ (e7 : Nat → Int32), v = some (.int e0) ∧ w = [(b0, .inr (8, [.int b3, .int b4, .ref b5, .int b6, .int b7, .ref b8, .ref b9, .ref b10, .ref b11, .ref b12])), (b8, .inr (6, [.int e1, .int 8, .int 400, .ref b14, .ref b15])), (b14, .inl (G.2 1, 3200, .inr (.inl e2))), (b15, .inl (G.2 0, 1024, .inl e3)), (b9, .inr (6, [.int b18, .int 8, .int 10, .ref b19, .ref b20])), (b19, .inl (G.2 1, 80, .inr (.inl e4))), (b10, .inl (G.2 0, 400, .inl e5)), (b11, .inl (G.2 0, 400, .inl e6)), (b12, .inl (G.2 0, 400, .inl e7)), (b1, .inr (5, [.int b25, .int b26, .ref b27, .ref b28, .ref b29, .ref b30, .ref b31, .ref b32, .int b33, .ref b34, .ref b35, .ref b36, .ref b37, .ref b38, .ref b39])), (b34, .inl (G.2 0, 240, .inl b40)), (b38, .inl (G.2 0, 242, .inl b41))] ∧ (zI e0 0 1) ∧ (zI e1 0 400) ∧ (zqa qB e2) ∧ (zR e3 (-1) 399) ∧ (zqa qB e4) ∧ (zR e5 0 399) ∧ (zR e6 0 9) ∧ (zR e7 0 8)) := by
  refine z_start (by decide +kernel) (Nat.le_of_ble_eq_true rfl) ?_
  intro p e s m below meth c A Z hr hnm hA hP hD hS ls hl
  have Z : zC p s m _ meth c prog_7_method_6_code 7 "TraceMachines$Parting" G := Z
  obtain ⟨hx, hb, hml, hown, hts, hK, hN, hlocks⟩ := id Z
  have hl : lv_has ls 7 [(0, .ref b0), (1, .ref b1), (2, .ref b1), (3, .int b2)] := hl
  refine lv_aload_n hx hb d_Parting_goOn_0 rfl (lv_at hl 0 rfl) ?_
  refine va_get (D := G.1) (ci := 8) (v := .ref b9) (C := R_Parting) (T := F_Parting) (N := 10) hx hb hts i_Parting hown hK hP 0 rfl rfl 6 (by decide) (hts _ q308) (fun _ h9 => h9) rfl d_Parting_goOn_1 ?_
  refine z_callV (index := 71) (As := []) (rest := []) (wr := [(b0, .inr (8, [.int b3, .int b4, .ref b5, .int b6, .int b7, .ref b8, .ref b9, .ref b10, .ref b11, .ref b12])), (b8, .inr (6, [.int b13, .int 8, .int 400, .ref b14, .ref b15])), (b14, .inl (G.2 1, 3200, .inr (.inl b16))), (b15, .inl (G.2 0, 1024, .inl b17)), (b10, .inl (G.2 0, 400, .inl b22)), (b11, .inl (G.2 0, 400, .inl b23)), (b12, .inl (G.2 0, 400, .inl b24)), (b1, .inr (5, [.int b25, .int b26, .ref b27, .ref b28, .ref b29, .ref b30, .ref b31, .ref b32, .int b33, .ref b34, .ref b35, .ref b36, .ref b37, .ref b38, .ref b39])), (b34, .inl (G.2 0, 240, .inl b40)), (b38, .inl (G.2 0, 242, .inl b41))]) Z (s3_Sets_clear l G (b9) (b18) (b19) (b20) (b21) hb18 hb21) hl.1 q882 q705 q706 q7 q707 ⟨by decide, by decide, by show _ = some 0; decide +kernel⟩ ⟨Nat.le_of_ble_eq_true rfl, Nat.le_of_ble_eq_true rfl⟩ ⟨Nat.le_of_ble_eq_true rfl, Nat.le_of_ble_eq_true rfl⟩ rfl (Nat.le_of_ble_eq_true rfl) d_Parting_goOn_4 hP hD hS hA 4 6 rfl rfl rfl [4, 5] [0, 1, 2, 3, 6, 7, 8, 9, 10, 11] rfl rfl rfl rfl (by decide) (fun v w1 H locs hw_1 hP hD hS => ?_)
  obtain ⟨f_2, rfl, rfl, hf_2⟩ := hw_1
  have hP : va_P G.1 classes [(b0, .inr (8, [.int b3, .int b4, .ref b5, .int b6, .int b7, .ref b8, .ref b9, .ref b10, .ref b11, .ref b12])), (b8, .inr (6, [.int b13, .int 8, .int 400, .ref b14, .ref b15])), (b14, .inl (G.2 1, 3200, .inr (.inl b16))), (b15, .inl (G.2 0, 1024, .inl b17)), (b10, .inl (G.2 0, 400, .inl b22)), (b11, .inl (G.2 0, 400, .inl b23)), (b12, .inl (G.2 0, 400, .inl b24)), (b1, .inr (5, [.int b25, .int b26, .ref b27, .ref b28, .ref b29, .ref b30, .ref b31, .ref b32, .int b33, .ref b34, .ref b35, .ref b36, .ref b37, .ref b38, .ref b39])), (b34, .inl (G.2 0, 240, .inl b40)), (b38, .inl (G.2 0, 242, .inl b41)), (b9, .inr (6, [.int b18, .int 8, .int 10, .ref b19, .ref b20])), (b19, .inl (G.2 1, 80, .inr (.inl f_2)))] H := hP
  have hD := z_tie hP hD rfl
  refine W.widen (k := 0) (n := 0) (Nat.le_of_ble_eq_true rfl) (Nat.le_of_ble_eq_true rfl) ?_
  refine lv_aload_n hx hb d_Parting_goOn_7 rfl (lv_at hl 1 rfl) ?_
  refine lv_aload_n hx hb d_Parting_goOn_8 rfl (lv_at hl 0 rfl) ?_
  refine va_get (D := G.1) (ci := 8) (v := .ref b8) (C := R_Parting) (T := F_Parting) (N := 10) hx hb hts i_Parting hown hK hP 0 rfl rfl 5 (by decide) (hts _ q307) (fun _ h9 => h9) rfl d_Parting_goOn_9 ?_
  refine lv_iload_n hx hb d_Parting_goOn_12 rfl (lv_at hl 3 rfl) ?_
  refine lv_iconst (v := 0) hx hb d_Parting_goOn_13 (by decide) ?_
  refine lv_aload_n hx hb d_Parting_goOn_14 rfl (lv_at hl 0 rfl) ?_
  refine va_get (D := G.1) (ci := 8) (v := .ref b9) (C := R_Parting) (T := F_Parting) (N := 10) hx hb hts i_Parting hown hK hP 0 rfl rfl 6 (by decide) (hts _ q308) (fun _ h9 => h9) rfl d_Parting_goOn_15 ?_
  refine z_callV (index := 88) (As := [.ref b8, .int b2, .int 0, .ref b9]) (rest := []) (wr := [(b0, .inr (8, [.int b3, .int b4, .ref b5, .int b6, .int b7, .ref b8, .ref b9, .ref b10, .ref b11, .ref b12])), (b15, .inl (G.2 0, 1024, .inl b17)), (b10, .inl (G.2 0, 400, .inl b22)), (b11, .inl (G.2 0, 400, .inl b23)), (b12, .inl (G.2 0, 400, .inl b24))]) Z (s2_Machine_fan l G (b1) (b8) (b2) (0) (b9) (b25) (b26) (b27) (b28) (b29) (b30) (b31) (b32) (b33) (b34) (b35) (b36) (b37) (b38) (b39) (b40) (b41) (b13) (b14) (b15) (b16) (b18) (b19) (b20) (f_2) hb2 (zI.wk (l' := 0) (h' := 1) zc_0 (by decide)) hb25 hb26 hb33 hb13 hb18 hb40 hb41 hb16 hf_2) hl.1 q895 q854 q855 q6 q856 ⟨by decide, by decide, by show _ = some 4; decide +kernel⟩ ⟨Nat.le_of_ble_eq_true rfl, Nat.le_of_ble_eq_true rfl⟩ ⟨Nat.le_of_ble_eq_true rfl, Nat.le_of_ble_eq_true rfl⟩ rfl (Nat.le_of_ble_eq_true rfl) d_Parting_goOn_18 hP hD hS hA 7 5 rfl rfl rfl [7, 8, 9, 1, 2, 10, 11] [0, 3, 4, 5, 6] rfl rfl rfl rfl (by decide) (fun v w1 H locs hw_3 hP hD hS => ?_)
  obtain ⟨f_4, rfl, rfl, hf_4⟩ := hw_3
  have hP : va_P G.1 classes [(b0, .inr (8, [.int b3, .int b4, .ref b5, .int b6, .int b7, .ref b8, .ref b9, .ref b10, .ref b11, .ref b12])), (b15, .inl (G.2 0, 1024, .inl b17)), (b10, .inl (G.2 0, 400, .inl b22)), (b11, .inl (G.2 0, 400, .inl b23)), (b12, .inl (G.2 0, 400, .inl b24)), (b1, .inr (5, [.int b25, .int b26, .ref b27, .ref b28, .ref b29, .ref b30, .ref b31, .ref b32, .int b33, .ref b34, .ref b35, .ref b36, .ref b37, .ref b38, .ref b39])), (b34, .inl (G.2 0, 240, .inl b40)), (b38, .inl (G.2 0, 242, .inl b41)), (b8, .inr (6, [.int b13, .int 8, .int 400, .ref b14, .ref b15])), (b14, .inl (G.2 1, 3200, .inr (.inl b16))), (b9, .inr (6, [.int b18, .int 8, .int 10, .ref b19, .ref b20])), (b19, .inl (G.2 1, 80, .inr (.inl f_4)))] H := hP
  have hD := z_tie hP hD rfl
  refine W.widen (k := 0) (n := 0) (Nat.le_of_ble_eq_true rfl) (Nat.le_of_ble_eq_true rfl) ?_
  refine lv_aload_n hx hb d_Parting_goOn_21 rfl (lv_at hl 2 rfl) ?_
  refine lv_aload_n hx hb d_Parting_goOn_22 rfl (lv_at hl 0 rfl) ?_
  refine va_get (D := G.1) (ci := 8) (v := .ref b8) (C := R_Parting) (T := F_Parting) (N := 10) hx hb hts i_Parting hown hK hP 0 rfl rfl 5 (by decide) (hts _ q307) (fun _ h9 => h9) rfl d_Parting_goOn_23 ?_
  refine lv_iload_n hx hb d_Parting_goOn_26 rfl (lv_at hl 3 rfl) ?_
  refine lv_iconst (v := 1) hx hb d_Parting_goOn_27 (by decide) ?_
  refine lv_aload_n hx hb d_Parting_goOn_28 rfl (lv_at hl 0 rfl) ?_
  refine va_get (D := G.1) (ci := 8) (v := .ref b9) (C := R_Parting) (T := F_Parting) (N := 10) hx hb hts i_Parting hown hK hP 0 rfl rfl 6 (by decide) (hts _ q308) (fun _ h9 => h9) rfl d_Parting_goOn_29 ?_
  refine z_callV (index := 88) (As := [.ref b8, .int b2, .int 1, .ref b9]) (rest := []) (wr := [(b0, .inr (8, [.int b3, .int b4, .ref b5, .int b6, .int b7, .ref b8, .ref b9, .ref b10, .ref b11, .ref b12])), (b15, .inl (G.2 0, 1024, .inl b17)), (b10, .inl (G.2 0, 400, .inl b22)), (b11, .inl (G.2 0, 400, .inl b23)), (b12, .inl (G.2 0, 400, .inl b24))]) Z (s2_Machine_fan l G (b1) (b8) (b2) (1) (b9) (b25) (b26) (b27) (b28) (b29) (b30) (b31) (b32) (b33) (b34) (b35) (b36) (b37) (b38) (b39) (b40) (b41) (b13) (b14) (b15) (b16) (b18) (b19) (b20) (f_4) hb2 (zI.wk (l' := 0) (h' := 1) zc_1 (by decide)) hb25 hb26 hb33 hb13 hb18 hb40 hb41 hb16 hf_4) hl.1 q895 q854 q855 q6 q856 ⟨by decide, by decide, by show _ = some 4; decide +kernel⟩ ⟨Nat.le_of_ble_eq_true rfl, Nat.le_of_ble_eq_true rfl⟩ ⟨Nat.le_of_ble_eq_true rfl, Nat.le_of_ble_eq_true rfl⟩ rfl (Nat.le_of_ble_eq_true rfl) d_Parting_goOn_32 hP hD hS hA 5 5 rfl rfl rfl [5, 6, 7, 8, 9, 10, 11] [0, 1, 2, 3, 4] rfl rfl rfl rfl (by decide) (fun v w1 H locs hw_5 hP hD hS => ?_)
  obtain ⟨f_6, rfl, rfl, hf_6⟩ := hw_5
  have hP : va_P G.1 classes [(b0, .inr (8, [.int b3, .int b4, .ref b5, .int b6, .int b7, .ref b8, .ref b9, .ref b10, .ref b11, .ref b12])), (b15, .inl (G.2 0, 1024, .inl b17)), (b10, .inl (G.2 0, 400, .inl b22)), (b11, .inl (G.2 0, 400, .inl b23)), (b12, .inl (G.2 0, 400, .inl b24)), (b1, .inr (5, [.int b25, .int b26, .ref b27, .ref b28, .ref b29, .ref b30, .ref b31, .ref b32, .int b33, .ref b34, .ref b35, .ref b36, .ref b37, .ref b38, .ref b39])), (b34, .inl (G.2 0, 240, .inl b40)), (b38, .inl (G.2 0, 242, .inl b41)), (b8, .inr (6, [.int b13, .int 8, .int 400, .ref b14, .ref b15])), (b14, .inl (G.2 1, 3200, .inr (.inl b16))), (b9, .inr (6, [.int b18, .int 8, .int 10, .ref b19, .ref b20])), (b19, .inl (G.2 1, 80, .inr (.inl f_6)))] H := hP
  have hD := z_tie hP hD rfl
  refine W.widen (k := 0) (n := 0) (Nat.le_of_ble_eq_true rfl) (Nat.le_of_ble_eq_true rfl) ?_
  refine lv_iconst (v := 0) hx hb d_Parting_goOn_35 (by decide) ?_
  refine lv_istore (lv' := [(4, .int 0), (0, .ref b0), (1, .ref b1), (2, .ref b1), (3, .int b2)]) hx hb d_Parting_goOn_36 hl (by decide) rfl (fun ls hl => ?_)
  suffices key : ∀ (k_188 : Nat) (y_189 : Int32) (y_190 : Int32) (y_191 : Nat → Int32) (y_192 : Nat → Int32) (y_193 : Nat → Int32) (y_194 : Nat → Int64) (y_195 : Nat → Int32) (H : Heap) (locs : List Loc) (ls : Array Slot), (zI y_189 0 10) → (zI y_190 0 400) → (zR y_191 0 399) → (zR y_192 0 9) → (zR y_193 0 8) → (zqa qB y_194) → (zR y_195 (-1) 399) → ((y_193 b2.toNatClampNeg).toInt ≤ 7) → (b2.toInt < y_190.toInt) → (10 : Int) - y_189.toInt < (k_188 : Int) → va_P G.1 classes [(b0, .inr (8, [.int b3, .int b4, .ref b5, .int b6, .int b7, .ref b8, .ref b9, .ref b10, .ref b11, .ref b12])), (b15, .inl (G.2 0, 1024, .inl y_195)), (b10, .inl (G.2 0, 400, .inl y_191)), (b11, .inl (G.2 0, 400, .inl y_192)), (b12, .inl (G.2 0, 400, .inl y_193)), (b1, .inr (5, [.int b25, .int b26, .ref b27, .ref b28, .ref b29, .ref b30, .ref b31, .ref b32, .int b33, .ref b34, .ref b35, .ref b36, .ref b37, .ref b38, .ref b39])), (b34, .inl (G.2 0, 240, .inl b40)), (b38, .inl (G.2 0, 242, .inl b41)), (b8, .inr (6, [.int y_190, .int 8, .int 400, .ref b14, .ref b15])), (b14, .inl (G.2 1, 3200, .inr (.inl y_194))), (b9, .inr (6, [.int b18, .int 8, .int 10, .ref b19, .ref b20])), (b19, .inl (G.2 1, 80, .inr (.inl f_6)))] H → va_D A [(b0, .inr (8, [.int b3, .int b4, .ref b5, .int b6, .int b7, .ref b8, .ref b9, .ref b10, .ref b11, .ref b12])), (b15, .inl (G.2 0, 1024, .inl y_195)), (b10, .inl (G.2 0, 400, .inl y_191)), (b11, .inl (G.2 0, 400, .inl y_192)), (b12, .inl (G.2 0, 400, .inl y_193)), (b1, .inr (5, [.int b25, .int b26, .ref b27, .ref b28, .ref b29, .ref b30, .ref b31, .ref b32, .int b33, .ref b34, .ref b35, .ref b36, .ref b37, .ref b38, .ref b39])), (b34, .inl (G.2 0, 240, .inl b40)), (b38, .inl (G.2 0, 242, .inl b41)), (b8, .inr (6, [.int y_190, .int 8, .int 400, .ref b14, .ref b15])), (b14, .inl (G.2 1, 3200, .inr (.inl y_194))), (b9, .inr (6, [.int b18, .int 8, .int 10, .ref b19, .ref b20])), (b19, .inl (G.2 1, 80, .inr (.inl f_6)))] → va_S A s.heap H locs → lv_has ls 7 [(4, .int y_189), (0, .ref b0), (1, .ref b1), (2, .ref b1), (3, .int b2)] → W p l e m_s2_Parting_goOn s m ([.ref b0, .ref b1, .ref b1, .int b2] : List Value).toArray below meth c H locs 0 0 (MQ below (zQ G (fun v w => ∃ (e0 : Int32), ∃ (e1 : Int32), ∃ (e2 : Nat → Int64), ∃ (e3 : Nat → Int32), ∃ (e4 : Nat → Int64), ∃ (e5 : Nat → Int32), ∃ (e6 : Nat → Int32), ∃ (e7 : Nat → Int32), v = some (.int e0) ∧ w = [(b0, .inr (8, [.int b3, .int b4, .ref b5, .int b6, .int b7, .ref b8, .ref b9, .ref b10, .ref b11, .ref b12])), (b8, .inr (6, [.int e1, .int 8, .int 400, .ref b14, .ref b15])), (b14, .inl (G.2 1, 3200, .inr (.inl e2))), (b15, .inl (G.2 0, 1024, .inl e3)), (b9, .inr (6, [.int b18, .int 8, .int 10, .ref b19, .ref b20])), (b19, .inl (G.2 1, 80, .inr (.inl e4))), (b10, .inl (G.2 0, 400, .inl e5)), (b11, .inl (G.2 0, 400, .inl e6)), (b12, .inl (G.2 0, 400, .inl e7)), (b1, .inr (5, [.int b25, .int b26, .ref b27, .ref b28, .ref b29, .ref b30, .ref b31, .ref b32, .int b33, .ref b34, .ref b35, .ref b36, .ref b37, .ref b38, .ref b39])), (b34, .inl (G.2 0, 240, .inl b40)), (b38, .inl (G.2 0, 242, .inl b41))] ∧ (zI e0 0 1) ∧ (zI e1 0 400) ∧ (zqa qB e2) ∧ (zR e3 (-1) 399) ∧ (zqa qB e4) ∧ (zR e5 0 399) ∧ (zR e6 0 9) ∧ (zR e7 0 8)) A) ([.ref b0, .ref b1, .ref b1, .int b2] : List Value).toArray s m_s2_Parting_goOn.cells m_s2_Parting_goOn.slots A) (F0 m 38 ls []) by
    exact key 11 (0) (b13) (b22) (b23) (b24) (b16) (b17) _ _ _ (zI.wk (l' := 0) (h' := 10) zc_0 (by decide)) hb13 hb22 hb23 hb24 hb16 hb17 hpl (by omega) (zm_upi (zI.wk (l' := 0) (h' := 10) zc_0 (by decide)) (by decide)) hP hD hS (lv_sub hl [0, 1, 2, 3, 4] rfl)
  intro k_188
  induction k_188 with
  | zero =>
    intro y_189 y_190 y_191 y_192 y_193 y_194 y_195 H locs ls hy_189 hy_190 hy_191 hy_192 hy_193 hy_194 hy_195 hli_196 hli_197 hmk_188 hP hD hS hl
    exact (zm_up0 hy_189 hmk_188).elim
  | succ k_188 ihk_188 =>
    intro y_189 y_190 y_191 y_192 y_193 y_194 y_195 H locs ls hy_189 hy_190 hy_191 hy_192 hy_193 hy_194 hy_195 hli_196 hli_197 hmk_188 hP hD hS hl
    refine lv_iload hx hb d_Parting_goOn_38 (lv_at hl 0 rfl) ?_
    refine lv_bipush (v := 10) hx hb d_Parting_goOn_40 (by decide) ?_
    refine lv_icmp_ge (tgt := 122) hx hb d_Parting_goOn_42 (by decide) (fun hc_198 => ?_) (fun hc_198 => ?_)
    · have _nhc_198 := hc_198
      have ni_199 := (fa_le _ _).mp hc_198
      rw [li_10] at ni_199
      have hv_200 : zI y_189 10 10 := zI.le_r zc_10 hy_189 hc_198 (by decide)
      refine lv_iconst (v := 1) hx hb d_Parting_goOn_122 (by decide) ?_
      exact z_zret hx hb hr hlocks rfl (hP.sub [0, 8, 9, 1, 10, 11, 2, 3, 4, 5, 6, 7] rfl) (hD.sub [0, 8, 9, 1, 10, 11, 2, 3, 4, 5, 6, 7] (by decide) rfl) hS (Nat.le_of_ble_eq_true rfl) (Nat.le_of_ble_eq_true rfl) d_Parting_goOn_123 ⟨1, y_190, y_194, y_195, f_6, y_191, y_192, y_193, rfl, rfl, (zI.wk (l' := 0) (h' := 1) zc_1 (by decide)), hy_190, hy_194, hy_195, hf_6, hy_191, hy_192, hy_193⟩
    · have _nhc_198 := hc_198
      have ni_201 := (fa_lt _ _).mp (zi_nle hc_198)
      rw [li_10] at ni_201
      have hv_202 : zI y_189 0 9 := zI.lt_l hy_189 zc_10 (zi_nle hc_198) (by decide)
      refine lv_aload_n hx hb d_Parting_goOn_45 rfl (lv_at hl 1 rfl) ?_
      refine va_get (D := G.1) (ci := 8) (v := .ref b8) (C := R_Parting) (T := F_Parting) (N := 10) hx hb hts i_Parting hown hK hP 0 rfl rfl 5 (by decide) (hts _ q307) (fun _ h9 => h9) rfl d_Parting_goOn_46 ?_
      refine va_get (D := G.1) (ci := 6) (v := .int y_190) (C := R_Sets) (T := F_Sets) (N := 5) hx hb hts i_Sets hown hK hP 8 rfl rfl 0 (by decide) (hts _ q241) (fun _ h9 => h9) rfl d_Parting_goOn_49 ?_
      refine lv_istore (lv' := [(5, .int y_190), (4, .int y_189), (0, .ref b0), (1, .ref b1), (2, .ref b1), (3, .int b2)]) hx hb d_Parting_goOn_52 hl (by decide) rfl (fun ls hl => ?_)
      refine lv_aload_n hx hb d_Parting_goOn_54 rfl (lv_at hl 2 rfl) ?_
      refine va_get (D := G.1) (ci := 8) (v := .ref b8) (C := R_Parting) (T := F_Parting) (N := 10) hx hb hts i_Parting hown hK hP 0 rfl rfl 5 (by decide) (hts _ q307) (fun _ h9 => h9) rfl d_Parting_goOn_55 ?_
      refine lv_aload_n hx hb d_Parting_goOn_58 rfl (lv_at hl 2 rfl) ?_
      refine va_get (D := G.1) (ci := 8) (v := .ref b9) (C := R_Parting) (T := F_Parting) (N := 10) hx hb hts i_Parting hown hK hP 0 rfl rfl 6 (by decide) (hts _ q308) (fun _ h9 => h9) rfl d_Parting_goOn_59 ?_
      refine lv_iload hx hb d_Parting_goOn_62 (lv_at hl 1 rfl) ?_
      refine z_callV (index := 84) (As := [.ref b9, .int y_189]) (rest := []) (wr := [(b0, .inr (8, [.int b3, .int b4, .ref b5, .int b6, .int b7, .ref b8, .ref b9, .ref b10, .ref b11, .ref b12])), (b10, .inl (G.2 0, 400, .inl y_191)), (b11, .inl (G.2 0, 400, .inl y_192)), (b12, .inl (G.2 0, 400, .inl y_193)), (b1, .inr (5, [.int b25, .int b26, .ref b27, .ref b28, .ref b29, .ref b30, .ref b31, .ref b32, .int b33, .ref b34, .ref b35, .ref b36, .ref b37, .ref b38, .ref b39])), (b34, .inl (G.2 0, 240, .inl b40)), (b38, .inl (G.2 0, 242, .inl b41))]) Z (s2_Sets_indexOf l G (b8) (b9) (y_189) (y_190) (b14) (b15) (y_194) (y_195) (b18) (b19) (b20) (f_6) hv_202 hy_190 hb18 hy_194 hy_195 hf_6) hl.1 q885 q831 q832 q7 q833 ⟨by decide, by decide, by show _ = some 2; decide +kernel⟩ ⟨Nat.le_of_ble_eq_true rfl, Nat.le_of_ble_eq_true rfl⟩ ⟨Nat.le_of_ble_eq_true rfl, Nat.le_of_ble_eq_true rfl⟩ rfl (Nat.le_of_ble_eq_true rfl) d_Parting_goOn_64 hP hD hS hA 8 6 rfl rfl rfl [8, 9, 1, 10, 11] [0, 2, 3, 4, 5, 6, 7] rfl rfl rfl rfl (by decide) (fun v w1 H locs hw_203 hP hD hS => ?_)
      obtain ⟨x_204, x_205, f_206, f_207, rfl, rfl, hx_204, hx_205, hf_206, hf_207, hfx_208⟩ := hw_203
      have hP : va_P G.1 classes [(b0, .inr (8, [.int b3, .int b4, .ref b5, .int b6, .int b7, .ref b8, .ref b9, .ref b10, .ref b11, .ref b12])), (b10, .inl (G.2 0, 400, .inl y_191)), (b11, .inl (G.2 0, 400, .inl y_192)), (b12, .inl (G.2 0, 400, .inl y_193)), (b1, .inr (5, [.int b25, .int b26, .ref b27, .ref b28, .ref b29, .ref b30, .ref b31, .ref b32, .int b33, .ref b34, .ref b35, .ref b36, .ref b37, .ref b38, .ref b39])), (b34, .inl (G.2 0, 240, .inl b40)), (b38, .inl (G.2 0, 242, .inl b41)), (b8, .inr (6, [.int x_205, .int 8, .int 400, .ref b14, .ref b15])), (b14, .inl (G.2 1, 3200, .inr (.inl f_206))), (b15, .inl (G.2 0, 1024, .inl f_207)), (b9, .inr (6, [.int b18, .int 8, .int 10, .ref b19, .ref b20])), (b19, .inl (G.2 1, 80, .inr (.inl f_6)))] H := hP
      have hD := z_tie hP hD rfl
      refine W.widen (k := 0) (n := 0) (Nat.le_of_ble_eq_true rfl) (Nat.le_of_ble_eq_true rfl) ?_
      refine lv_istore (lv' := [(6, .int x_204), (5, .int y_190), (4, .int y_189), (0, .ref b0), (1, .ref b1), (2, .ref b1), (3, .int b2)]) hx hb d_Parting_goOn_67 hl (by decide) rfl (fun ls hl => ?_)
      refine lv_iload hx hb d_Parting_goOn_69 (lv_at hl 0 rfl) ?_
      refine lv_iconst (v := (-1)) hx hb d_Parting_goOn_71 (by decide) ?_
      refine lv_icmp_ne (tgt := 77) hx hb d_Parting_goOn_72 (by decide) (fun hc_209 => ?_) (fun hc_209 => ?_)
      · have _nhc_209 := hc_209
        have ni_210 : ¬ (x_204 : Int32).toInt = ((-1) : Int32).toInt := fun z => hc_209 ((fa_eq _ _).mpr z)
        simp only [li_m1] at ni_210
        have hv_211 : zI x_204 0 399 := zI.ne_lo hx_204 zc_m1 hc_209 (by decide)
        refine lv_iload hx hb d_Parting_goOn_77 (lv_at hl 0 rfl) ?_
        refine lv_iload hx hb d_Parting_goOn_79 (lv_at hl 1 rfl) ?_
        refine lv_icmp_ne (tgt := 116) hx hb d_Parting_goOn_81 (by decide) (fun hc_212 => ?_) (fun hc_212 => ?_)
        · have _nhc_212 := hc_212
          have ni_213 : ¬ (x_204 : Int32).toInt = (y_190 : Int32).toInt := fun z => hc_212 ((fa_eq _ _).mpr z)
          obtain ⟨v_214, ev_214⟩ : ∃ z : Int32, z = y_189 + 1 := ⟨_, rfl⟩
          obtain ⟨qv_214, hv_214⟩ := zI_add (l := 1) (h := 10) hv_202 zc_1 ev_214 (by decide)
          rw [li_1] at qv_214
          refine lv_iinc (v := v_214) (lv' := [(4, .int v_214), (6, .int x_204), (5, .int y_190), (0, .ref b0), (1, .ref b1), (2, .ref b1), (3, .int b2)]) hx hb d_Parting_goOn_116 hl (k := 2) rfl (by rw [ev_214]; rfl) (by decide) rfl (fun ls hl => ?_)
          refine lv_goto (tgt := 38) hx hb d_Parting_goOn_119 (by decide) ?_
          exact ihk_188 (v_214) (x_205) (y_191) (y_192) (y_193) (f_206) (f_207) _ _ _ (zI.wk (l' := 0) (h' := 10) hv_214 (by decide)) hx_205 hy_191 hy_192 hy_193 hf_206 hf_207 hli_196 (by omega) (zm_up qv_214 hmk_188 (by decide)) (hP.sub [0, 9, 1, 2, 3, 4, 5, 6, 7, 8, 10, 11] rfl) (hD.sub [0, 9, 1, 2, 3, 4, 5, 6, 7, 8, 10, 11] (by decide) rfl) hS (lv_sub hl [0, 3, 4, 5, 6] rfl)
        · have _nhc_212 := hc_212
          have ni_215 := (fa_eq _ _).mp hc_212
          have hv_216 : zI y_190 0 399 := zI.eq_l hy_190 hv_211 hc_212.symm
          refine lv_aload_n hx hb d_Parting_goOn_84 rfl (lv_at hl 3 rfl) ?_
          refine va_get (D := G.1) (ci := 8) (v := .ref b10) (C := R_Parting) (T := F_Parting) (N := 10) hx hb hts i_Parting hown hK hP 0 rfl rfl 7 (by decide) (hts _ q309) (fun _ h9 => h9) rfl d_Parting_goOn_85 ?_
          refine lv_iload hx hb d_Parting_goOn_88 (lv_at hl 0 rfl) ?_
          refine lv_iload_n hx hb d_Parting_goOn_90 rfl (lv_at hl 6 rfl) ?_
          refine va_iast hx hb hK hP hD hS 1 0 rfl rfl (zI.inn hv_211 (by decide)) d_Parting_goOn_91 (fun H locs hP hD hS => ?_)
          obtain ⟨f_217, hf_217, gf_217, uf_217, hP, hD⟩ := z_newfu 1 hP hD rfl hy_191 hb2
          have hP : va_P G.1 classes [(b0, .inr (8, [.int b3, .int b4, .ref b5, .int b6, .int b7, .ref b8, .ref b9, .ref b10, .ref b11, .ref b12])), (b10, .inl (G.2 0, 400, .inl f_217)), (b11, .inl (G.2 0, 400, .inl y_192)), (b12, .inl (G.2 0, 400, .inl y_193)), (b1, .inr (5, [.int b25, .int b26, .ref b27, .ref b28, .ref b29, .ref b30, .ref b31, .ref b32, .int b33, .ref b34, .ref b35, .ref b36, .ref b37, .ref b38, .ref b39])), (b34, .inl (G.2 0, 240, .inl b40)), (b38, .inl (G.2 0, 242, .inl b41)), (b8, .inr (6, [.int x_205, .int 8, .int 400, .ref b14, .ref b15])), (b14, .inl (G.2 1, 3200, .inr (.inl f_206))), (b15, .inl (G.2 0, 1024, .inl f_207)), (b9, .inr (6, [.int b18, .int 8, .int 10, .ref b19, .ref b20])), (b19, .inl (G.2 1, 80, .inr (.inl f_6)))] H := hP
          have hD := z_tie hP hD rfl
          refine lv_aload_n hx hb d_Parting_goOn_92 rfl (lv_at hl 3 rfl) ?_
          refine va_get (D := G.1) (ci := 8) (v := .ref b11) (C := R_Parting) (T := F_Parting) (N := 10) hx hb hts i_Parting hown hK hP 0 rfl rfl 8 (by decide) (hts _ q310) (fun _ h9 => h9) rfl d_Parting_goOn_93 ?_
          refine lv_iload hx hb d_Parting_goOn_96 (lv_at hl 0 rfl) ?_
          refine lv_iload hx hb d_Parting_goOn_98 (lv_at hl 2 rfl) ?_
          refine va_iast hx hb hK hP hD hS 2 0 rfl rfl (zI.inn hv_211 (by decide)) d_Parting_goOn_100 (fun H locs hP hD hS => ?_)
          obtain ⟨f_218, hf_218, gf_218, uf_218, hP, hD⟩ := z_newfu 2 hP hD rfl hy_192 hv_202
          have hP : va_P G.1 classes [(b0, .inr (8, [.int b3, .int b4, .ref b5, .int b6, .int b7, .ref b8, .ref b9, .ref b10, .ref b11, .ref b12])), (b10, .inl (G.2 0, 400, .inl f_217)), (b11, .inl (G.2 0, 400, .inl f_218)), (b12, .inl (G.2 0, 400, .inl y_193)), (b1, .inr (5, [.int b25, .int b26, .ref b27, .ref b28, .ref b29, .ref b30, .ref b31, .ref b32, .int b33, .ref b34, .ref b35, .ref b36, .ref b37, .ref b38, .ref b39])), (b34, .inl (G.2 0, 240, .inl b40)), (b38, .inl (G.2 0, 242, .inl b41)), (b8, .inr (6, [.int x_205, .int 8, .int 400, .ref b14, .ref b15])), (b14, .inl (G.2 1, 3200, .inr (.inl f_206))), (b15, .inl (G.2 0, 1024, .inl f_207)), (b9, .inr (6, [.int b18, .int 8, .int 10, .ref b19, .ref b20])), (b19, .inl (G.2 1, 80, .inr (.inl f_6)))] H := hP
          have hD := z_tie hP hD rfl
          refine lv_aload_n hx hb d_Parting_goOn_101 rfl (lv_at hl 3 rfl) ?_
          refine va_get (D := G.1) (ci := 8) (v := .ref b12) (C := R_Parting) (T := F_Parting) (N := 10) hx hb hts i_Parting hown hK hP 0 rfl rfl 9 (by decide) (hts _ q311) (fun _ h9 => h9) rfl d_Parting_goOn_102 ?_
          refine lv_iload hx hb d_Parting_goOn_105 (lv_at hl 0 rfl) ?_
          refine lv_aload_n hx hb d_Parting_goOn_107 rfl (lv_at hl 3 rfl) ?_
          refine va_get (D := G.1) (ci := 8) (v := .ref b12) (C := R_Parting) (T := F_Parting) (N := 10) hx hb hts i_Parting hown hK hP 0 rfl rfl 9 (by decide) (hts _ q311) (fun _ h9 => h9) rfl d_Parting_goOn_108 ?_
          refine lv_iload_n hx hb d_Parting_goOn_111 rfl (lv_at hl 6 rfl) ?_
          refine va_iald hx hb hK hP 3 0 rfl rfl (zI.inn hb2 (by decide)) d_Parting_goOn_112 ?_
          refine lv_topi (fun v_219 ev_219 => ?_)
          have hv_219 : zI v_219 0 8 := (hy_193 _).eq ev_219
          have hv_220 : zI v_219 0 7 := ⟨hv_219.1, by rw [ev_219]; exact hli_196⟩
          refine lv_iconst (v := 1) hx hb d_Parting_goOn_113 (by decide) ?_
          refine lv_iadd hx hb d_Parting_goOn_114 ?_
          refine lv_topi (fun v_221 ev_221 => ?_)
          obtain ⟨qv_221, hv_221⟩ := zI_add (l := 1) (h := 8) hv_220 zc_1 ev_221 (by decide)
          rw [li_1] at qv_221
          refine va_iast hx hb hK hP hD hS 3 0 rfl rfl (zI.inn hv_211 (by decide)) d_Parting_goOn_115 (fun H locs hP hD hS => ?_)
          obtain ⟨f_222, hf_222, gf_222, uf_222, hP, hD⟩ := z_newfu 3 hP hD rfl hy_193 (zI.wk (l' := 0) (h' := 8) hv_221 (by decide))
          have hP : va_P G.1 classes [(b0, .inr (8, [.int b3, .int b4, .ref b5, .int b6, .int b7, .ref b8, .ref b9, .ref b10, .ref b11, .ref b12])), (b10, .inl (G.2 0, 400, .inl f_217)), (b11, .inl (G.2 0, 400, .inl f_218)), (b12, .inl (G.2 0, 400, .inl f_222)), (b1, .inr (5, [.int b25, .int b26, .ref b27, .ref b28, .ref b29, .ref b30, .ref b31, .ref b32, .int b33, .ref b34, .ref b35, .ref b36, .ref b37, .ref b38, .ref b39])), (b34, .inl (G.2 0, 240, .inl b40)), (b38, .inl (G.2 0, 242, .inl b41)), (b8, .inr (6, [.int x_205, .int 8, .int 400, .ref b14, .ref b15])), (b14, .inl (G.2 1, 3200, .inr (.inl f_206))), (b15, .inl (G.2 0, 1024, .inl f_207)), (b9, .inr (6, [.int b18, .int 8, .int 10, .ref b19, .ref b20])), (b19, .inl (G.2 1, 80, .inr (.inl f_6)))] H := hP
          have hD := z_tie hP hD rfl
          obtain ⟨v_223, ev_223⟩ : ∃ z : Int32, z = y_189 + 1 := ⟨_, rfl⟩
          obtain ⟨qv_223, hv_223⟩ := zI_add (l := 1) (h := 10) hv_202 zc_1 ev_223 (by decide)
          rw [li_1] at qv_223
          refine lv_iinc (v := v_223) (lv' := [(4, .int v_223), (6, .int x_204), (5, .int y_190), (0, .ref b0), (1, .ref b1), (2, .ref b1), (3, .int b2)]) hx hb d_Parting_goOn_116 hl (k := 2) rfl (by rw [ev_223]; rfl) (by decide) rfl (fun ls hl => ?_)
          refine lv_goto (tgt := 38) hx hb d_Parting_goOn_119 (by decide) ?_
          exact ihk_188 (v_223) (x_205) (f_217) (f_218) (f_222) (f_206) (f_207) _ _ _ (zI.wk (l' := 0) (h' := 10) hv_223 (by decide)) hx_205 hf_217 hf_218 hf_222 hf_206 hf_207 (by have p9 := z_pl hv_211 (by decide); have p8 := z_pl hb2 (by decide); rw [uf_222, z_at, if_neg (by omega)]; exact hli_196) (by omega) (zm_up qv_223 hmk_188 (by decide)) (hP.sub [0, 9, 1, 2, 3, 4, 5, 6, 7, 8, 10, 11] rfl) (hD.sub [0, 9, 1, 2, 3, 4, 5, 6, 7, 8, 10, 11] (by decide) rfl) hS (lv_sub hl [0, 3, 4, 5, 6] rfl)
      · have _nhc_209 := hc_209
        have ni_224 := (fa_eq _ _).mp hc_209
        rw [li_m1] at ni_224
        have hv_225 : zI x_204 (-1) (-1) := zI.eq_l hx_204 zc_m1 hc_209
        refine lv_iconst (v := 0) hx hb d_Parting_goOn_75 (by decide) ?_
        exact z_zret hx hb hr hlocks rfl (hP.sub [0, 7, 8, 9, 10, 11, 1, 2, 3, 4, 5, 6] rfl) (hD.sub [0, 7, 8, 9, 10, 11, 1, 2, 3, 4, 5, 6] (by decide) rfl) hS (Nat.le_of_ble_eq_true rfl) (Nat.le_of_ble_eq_true rfl) d_Parting_goOn_76 ⟨0, x_205, f_206, f_207, f_6, y_191, y_192, y_193, rfl, rfl, (zI.wk (l' := 0) (h' := 1) zc_0 (by decide)), hx_205, hf_206, hf_207, hf_6, hy_191, hy_192, hy_193⟩
theorem d_Parting_find_59 : decode prog_7_method_4_code 59 = .ok (.return_, 1) := by decide +kernel
theorem d_Parting_find_87 : decode prog_7_method_4_code 87 = .ok (.return_, 1) := by decide +kernel
theorem zc_m2 : zI (-2) (-2) (-2) := ⟨by decide +kernel, by decide +kernel⟩
abbrev m_s1_Parting_find : Room := { frames := 4, cells := 0, slots := 0, locals := 97 }
set_option maxHeartbeats 4000000 in
set_option maxRecDepth 100000 in
theorem s1_Parting_find (l : Launch) (G : zG) (b0 : Nat) (b1 : Nat) (b2 : Int32) (b3 : Int32) (b4 : Nat) (b5 : Int32) (b6 : Int32) (b7 : Nat) (b8 : Nat) (b9 : Nat) (b10 : Nat) (b11 : Nat) (b12 : Nat → Int32) (b13 : Int32) (b14 : Nat) (b15 : Nat) (b16 : Nat → Int64) (b17 : Nat → Int32) (b18 : Int32) (b19 : Nat) (b20 : Nat) (b21 : Nat → Int64) (b22 : Nat → Int32) (b23 : Nat → Int32) (b24 : Nat → Int32) (b25 : Int32) (b26 : Int32) (b27 : Nat) (b28 : Nat) (b29 : Nat) (b30 : Nat) (b31 : Nat) (b32 : Nat) (b33 : Int32) (b34 : Nat) (b35 : Nat) (b36 : Nat) (b37 : Nat) (b38 : Nat) (b39 : Nat) (b40 : Nat → Int64) (b41 : Nat → Int32) (b42 : Nat → Int32) (hb2 : zI b2 0 1) (hb3 : zI b3 (-2) 8) (hb13 : zI b13 0 400) (hb18 : zI b18 0 10) (hb25 : zI b25 0 1) (hb26 : zI b26 0 241) (hb33 : zI b33 0 240) (hb12 : zR b12 0 9) (hb16 : zqa qB b16) (hb17 : zR b17 (-1) 399) (hb21 : zqa qB b21) (hb22 : zR b22 0 399) (hb23 : zR b23 0 9) (hb24 : zR b24 0 8) (hb41 : zK b41) (hb42 : zR b42 0 240) : zM l G y_Parting_find prog_7_method_4_code 4 (Option.none : Option Jvm.ClassFile.FieldType) m_s1_Parting_find [.ref b0, .ref b1, .ref b1] [(b0, .inr (8, [.int b2, .int b3, .ref b4, .int b5, .int b6, .ref b7, .ref b8, .ref b9, .ref b10, .ref b11])), (b4, .inl (G.2 0, 8, .inl b12)), (b7, .inr (6, [.int b13, .int 8, .int 400, .ref b14, .ref b15])), (b14, .inl (G.2 1, 3200, .inr (.inl b16))), (b15, .inl (G.2 0, 1024, .inl b17)), (b8, .inr (6, [.int b18, .int 8, .int 10, .ref b19, .ref b20])), (b19, .inl (G.2 1, 80, .inr (.inl b21))), (b9, .inl (G.2 0, 400, .inl b22)), (b10, .inl (G.2 0, 400, .inl b23)), (b11, .inl (G.2 0, 400, .inl b24)), (b1, .inr (5, [.int b25, .int b26, .ref b27, .ref b28, .ref b29, .ref b30, .ref b31, .ref b32, .int b33, .ref b34, .ref b35, .ref b36, .ref b37, .ref b38, .ref b39])), (b32, .inl (G.2 1, 4, .inr (.inl b40))), (b34, .inl (G.2 0, 240, .inl b41)), (b38, .inl (G.2 0, 242, .inl b42))] (fun v w => ∃ (e0 : Int32), ∃ (e1 : Nat → Int32), ∃ (e2 : Int32), ∃ (e3 : Nat → Int64), ∃ (e4 : Nat → Int32), ∃ (e5 : Nat → Int64), ∃ (e6 : Nat → Int32), ∃ (e7 : Nat → Int32), ∃ (e8 : Nat → Int32), v = none ∧ w = [(b0, .inr (8, [.int b2, .int e0, .ref b4, .int b5, .int b6, .ref b7, .ref b8, .ref b9, .ref b10, .ref b11])), (b4, .inl (G.2 0, 8, .inl e1)), (b7, .inr (6, [.int e2, .int 8, .int 400, .ref b14, .ref b15])), (b14, .inl (G.2 1, 3200, .inr (.inl e3))), (b15, .inl (G.2 0, 1024, .inl e4)), (b8, .inr (6, [.int b18, .int 8, .int 10, .ref b19, .ref b20])), (b19, .inl (G.2 1, 80, .inr (.inl e5))), (b9, .inl (G.2 0, 400, .inl e6)), (b10, .inl (G.2 0, 400, .inl e7)), (b11, .inl (G.2 0, 400, .inl e8)), (b1, .inr (5, [.int b25, .int b26, .ref b27, .ref b28, .ref b29, .ref b30, .ref b31, .ref b32, .int b33, .ref b34, .ref b35, .ref b36, .ref b37, .ref b38, .ref b39])), (b32, .inl (G.2 1, 4, .inr (.inl b40))), (b34, .inl (G.2 0, 240, .inl b41)), (b38, .inl (G.2 0, 242, .inl b42))] ∧ (zI e0 (-2) 8) ∧ (zR e1 0 9) ∧ (zI e2 0 400) ∧ (zqa qB e3) ∧ (zR e4 (-1) 399) ∧ (zqa qB e5) ∧ (zR e6 0 399) ∧ (zR e7 0 9) ∧ (zR e8 0 8)) := by
  refine z_start (by decide +kernel) (Nat.le_of_ble_eq_true rfl) ?_
  intro p e s m below meth c A Z hr hnm hA hP hD hS ls hl
  have Z : zC p s m _ meth c prog_7_method_4_code 4 "TraceMachines$Parting" G := Z
  obtain ⟨hx, hb, hml, hown, hts, hK, hN, hlocks⟩ := id Z
  have hl : lv_has ls 4 [(0, .ref b0), (1, .ref b1), (2, .ref b1)] := hl
  refine lv_aload_n hx hb d_Parting_find_0 rfl (lv_at hl 0 rfl) ?_
  refine lv_iconst (v := (-1)) hx hb d_Parting_find_1 (by decide) ?_
  refine va_put (D := G.1) (ci := 8) (v := .int (-1)) (ty := .int) (C := R_Parting) (T := F_Parting) (N := 10) hx hb hts i_Parting t_Parting t_Parting_ok n_Parting hown hK hP hD hS 0 rfl rfl 1 (by decide) (hts _ q301) (fun _ h9 => h9) rfl (by decide +kernel) rfl rfl (Nat.le_of_ble_eq_true rfl) d_Parting_find_2 (fun H locs hP hD hS => ?_)
  have hP : va_P G.1 classes [(b0, .inr (8, [.int b2, .int (-1), .ref b4, .int b5, .int b6, .ref b7, .ref b8, .ref b9, .ref b10, .ref b11])), (b4, .inl (G.2 0, 8, .inl b12)), (b7, .inr (6, [.int b13, .int 8, .int 400, .ref b14, .ref b15])), (b14, .inl (G.2 1, 3200, .inr (.inl b16))), (b15, .inl (G.2 0, 1024, .inl b17)), (b8, .inr (6, [.int b18, .int 8, .int 10, .ref b19, .ref b20])), (b19, .inl (G.2 1, 80, .inr (.inl b21))), (b9, .inl (G.2 0, 400, .inl b22)), (b10, .inl (G.2 0, 400, .inl b23)), (b11, .inl (G.2 0, 400, .inl b24)), (b1, .inr (5, [.int b25, .int b26, .ref b27, .ref b28, .ref b29, .ref b30, .ref b31, .ref b32, .int b33, .ref b34, .ref b35, .ref b36, .ref b37, .ref b38, .ref b39])), (b32, .inl (G.2 1, 4, .inr (.inl b40))), (b34, .inl (G.2 0, 240, .inl b41)), (b38, .inl (G.2 0, 242, .inl b42))] H := hP
  have hD := z_tie hP hD rfl
  refine lv_aload_n hx hb d_Parting_find_5 rfl (lv_at hl 0 rfl) ?_
  refine lv_aload_n hx hb d_Parting_find_6 rfl (lv_at hl 1 rfl) ?_
  refine lv_aload_n hx hb d_Parting_find_7 rfl (lv_at hl 2 rfl) ?_
  refine z_callV (index := 50) (As := [.ref b1, .ref b1]) (rest := []) (wr := [(b4, .inl (G.2 0, 8, .inl b12)), (b9, .inl (G.2 0, 400, .inl b22)), (b10, .inl (G.2 0, 400, .inl b23)), (b32, .inl (G.2 1, 4, .inr (.inl b40))), (b34, .inl (G.2 0, 240, .inl b41)), (b38, .inl (G.2 0, 242, .inl b42))]) Z (s2_Parting_begin l G (b0) (b1) (b2) ((-1)) (b4) (b5) (b6) (b7) (b8) (b9) (b10) (b11) (b13) (b14) (b15) (b16) (b17) (b18) (b19) (b20) (b21) (b24) (b25) (b26) (b27) (b28) (b29) (b30) (b31) (b32) (b33) (b34) (b35) (b36) (b37) (b38) (b39) hb2 (zI.wk (l' := (-2)) (h' := 8) zc_m1 (by decide)) hb13 hb18 hb25 hb26 hb33 hb16 hb17 hb21 hb24) hl.1 q878 q880 qs29 q9 q881 ⟨by decide, by decide, by show _ = some 2; decide +kernel⟩ ⟨Nat.le_of_ble_eq_true rfl, Nat.le_of_ble_eq_true rfl⟩ ⟨Nat.le_of_ble_eq_true rfl, Nat.le_of_ble_eq_true rfl⟩ rfl (Nat.le_of_ble_eq_true rfl) d_Parting_find_8 hP hD hS hA 0 8 rfl rfl rfl [0, 2, 3, 4, 5, 6, 9, 10] [1, 7, 8, 11, 12, 13] rfl rfl rfl rfl (by decide) (fun v w1 H locs hw_1 hP hD hS => ?_)
  obtain ⟨x_2, f_3, f_4, f_5, f_6, rfl, rfl, hx_2, hf_3, hf_4, hf_5, hf_6⟩ := hw_1
  have hP : va_P G.1 classes [(b4, .inl (G.2 0, 8, .inl b12)), (b9, .inl (G.2 0, 400, .inl b22)), (b10, .inl (G.2 0, 400, .inl b23)), (b32, .inl (G.2 1, 4, .inr (.inl b40))), (b34, .inl (G.2 0, 240, .inl b41)), (b38, .inl (G.2 0, 242, .inl b42)), (b0, .inr (8, [.int b2, .int (-1), .ref b4, .int b5, .int b6, .ref b7, .ref b8, .ref b9, .ref b10, .ref b11])), (b7, .inr (6, [.int x_2, .int 8, .int 400, .ref b14, .ref b15])), (b14, .inl (G.2 1, 3200, .inr (.inl f_3))), (b15, .inl (G.2 0, 1024, .inl f_4)), (b8, .inr (6, [.int b18, .int 8, .int 10, .ref b19, .ref b20])), (b19, .inl (G.2 1, 80, .inr (.inl f_5))), (b11, .inl (G.2 0, 400, .inl f_6)), (b1, .inr (5, [.int b25, .int b26, .ref b27, .ref b28, .ref b29, .ref b30, .ref b31, .ref b32, .int b33, .ref b34, .ref b35, .ref b36, .ref b37, .ref b38, .ref b39]))] H := hP
  have hD := z_tie hP hD rfl
  refine W.widen (k := 0) (n := 0) (Nat.le_of_ble_eq_true rfl) (Nat.le_of_ble_eq_true rfl) ?_
  refine lv_iconst (v := 0) hx hb d_Parting_find_11 (by decide) ?_
  refine lv_istore_n (lv' := [(3, .int 0), (0, .ref b0), (1, .ref b1), (2, .ref b1)]) hx hb d_Parting_find_12 rfl hl (by decide) rfl (fun ls hl => ?_)
  suffices key : ∀ (k_452 : Nat) (y_453 : Int32) (y_454 : Int32) (y_455 : Nat → Int32) (y_456 : Nat → Int32) (y_457 : Nat → Int64) (y_458 : Nat → Int32) (y_459 : Nat → Int64) (y_460 : Nat → Int32) (H : Heap) (locs : List Loc) (ls : Array Slot), (zI y_453 0 400) → (zI y_454 0 400) → (zR y_455 0 9) → (zR y_456 0 8) → (zqa qB y_457) → (zR y_458 (-1) 399) → (zqa qB y_459) → (zR y_460 0 399) → (400 : Int) - y_453.toInt < (k_452 : Int) → va_P G.1 classes [(b4, .inl (G.2 0, 8, .inl b12)), (b9, .inl (G.2 0, 400, .inl y_460)), (b10, .inl (G.2 0, 400, .inl y_455)), (b32, .inl (G.2 1, 4, .inr (.inl b40))), (b34, .inl (G.2 0, 240, .inl b41)), (b38, .inl (G.2 0, 242, .inl b42)), (b0, .inr (8, [.int b2, .int (-1), .ref b4, .int b5, .int b6, .ref b7, .ref b8, .ref b9, .ref b10, .ref b11])), (b7, .inr (6, [.int y_454, .int 8, .int 400, .ref b14, .ref b15])), (b14, .inl (G.2 1, 3200, .inr (.inl y_457))), (b15, .inl (G.2 0, 1024, .inl y_458)), (b8, .inr (6, [.int b18, .int 8, .int 10, .ref b19, .ref b20])), (b19, .inl (G.2 1, 80, .inr (.inl y_459))), (b11, .inl (G.2 0, 400, .inl y_456)), (b1, .inr (5, [.int b25, .int b26, .ref b27, .ref b28, .ref b29, .ref b30, .ref b31, .ref b32, .int b33, .ref b34, .ref b35, .ref b36, .ref b37, .ref b38, .ref b39]))] H → va_D A [(b4, .inl (G.2 0, 8, .inl b12)), (b9, .inl (G.2 0, 400, .inl y_460)), (b10, .inl (G.2 0, 400, .inl y_455)), (b32, .inl (G.2 1, 4, .inr (.inl b40))), (b34, .inl (G.2 0, 240, .inl b41)), (b38, .inl (G.2 0, 242, .inl b42)), (b0, .inr (8, [.int b2, .int (-1), .ref b4, .int b5, .int b6, .ref b7, .ref b8, .ref b9, .ref b10, .ref b11])), (b7, .inr (6, [.int y_454, .int 8, .int 400, .ref b14, .ref b15])), (b14, .inl (G.2 1, 3200, .inr (.inl y_457))), (b15, .inl (G.2 0, 1024, .inl y_458)), (b8, .inr (6, [.int b18, .int 8, .int 10, .ref b19, .ref b20])), (b19, .inl (G.2 1, 80, .inr (.inl y_459))), (b11, .inl (G.2 0, 400, .inl y_456)), (b1, .inr (5, [.int b25, .int b26, .ref b27, .ref b28, .ref b29, .ref b30, .ref b31, .ref b32, .int b33, .ref b34, .ref b35, .ref b36, .ref b37, .ref b38, .ref b39]))] → va_S A s.heap H locs → lv_has ls 4 [(3, .int y_453), (0, .ref b0), (1, .ref b1), (2, .ref b1)] → W p l e m_s1_Parting_find s m ([.ref b0, .ref b1, .ref b1] : List Value).toArray below meth c H locs 0 0 (MQ below (zQ G (fun v w => ∃ (e0 : Int32), ∃ (e1 : Nat → Int32), ∃ (e2 : Int32), ∃ (e3 : Nat → Int64), ∃ (e4 : Nat → Int32), ∃ (e5 : Nat → Int64), ∃ (e6 : Nat → Int32), ∃ (e7 : Nat → Int32), ∃ (e8 : Nat → Int32), v = none ∧ w = [(b0, .inr (8, [.int b2, .int e0, .ref b4, .int b5, .int b6, .ref b7, .ref b8, .ref b9, .ref b10, .ref b11])), (b4, .inl (G.2 0, 8, .inl e1)), (b7, .inr (6, [.int e2, .int 8, .int 400, .ref b14, .ref b15])), (b14, .inl (G.2 1, 3200, .inr (.inl e3))), (b15, .inl (G.2 0, 1024, .inl e4)), (b8, .inr (6, [.int b18, .int 8, .int 10, .ref b19, .ref b20])), (b19, .inl (G.2 1, 80, .inr (.inl e5))), (b9, .inl (G.2 0, 400, .inl e6)), (b10, .inl (G.2 0, 400, .inl e7)), (b11, .inl (G.2 0, 400, .inl e8)), (b1, .inr (5, [.int b25, .int b26, .ref b27, .ref b28, .ref b29, .ref b30, .ref b31, .ref b32, .int b33, .ref b34, .ref b35, .ref b36, .ref b37, .ref b38, .ref b39])), (b32, .inl (G.2 1, 4, .inr (.inl b40))), (b34, .inl (G.2 0, 240, .inl b41)), (b38, .inl (G.2 0, 242, .inl b42))] ∧ (zI e0 (-2) 8) ∧ (zR e1 0 9) ∧ (zI e2 0 400) ∧ (zqa qB e3) ∧ (zR e4 (-1) 399) ∧ (zqa qB e5) ∧ (zR e6 0 399) ∧ (zR e7 0 9) ∧ (zR e8 0 8)) A) ([.ref b0, .ref b1, .ref b1] : List Value).toArray s m_s1_Parting_find.cells m_s1_Parting_find.slots A) (F0 m 13 ls []) by
    exact key 401 (0) (x_2) (b23) (f_6) (f_3) (f_4) (f_5) (b22) _ _ _ (zI.wk (l' := 0) (h' := 400) zc_0 (by decide)) hx_2 hb23 hf_6 hf_3 hf_4 hf_5 hb22 (zm_upi (zI.wk (l' := 0) (h' := 400) zc_0 (by decide)) (by decide)) hP hD hS (lv_sub hl [0, 1, 2, 3] rfl)
  intro k_452
  induction k_452 with
  | zero =>
    intro y_453 y_454 y_455 y_456 y_457 y_458 y_459 y_460 H locs ls hy_453 hy_454 hy_455 hy_456 hy_457 hy_458 hy_459 hy_460 hmk_452 hP hD hS hl
    exact (zm_up0 hy_453 hmk_452).elim
  | succ k_452 ihk_452 =>
    intro y_453 y_454 y_455 y_456 y_457 y_458 y_459 y_460 H locs ls hy_453 hy_454 hy_455 hy_456 hy_457 hy_458 hy_459 hy_460 hmk_452 hP hD hS hl
    refine lv_iload_n hx hb d_Parting_find_13 rfl (lv_at hl 0 rfl) ?_
    refine lv_sipush (v := 400) hx hb d_Parting_find_14 (by decide) ?_
    refine lv_icmp_ge (tgt := 94) hx hb d_Parting_find_17 (by decide) (fun hc_461 => ?_) (fun hc_461 => ?_)
    · have _nhc_461 := hc_461
      have ni_462 := (fa_le _ _).mp hc_461
      rw [li_400] at ni_462
      have hv_463 : zI y_453 400 400 := zI.le_r zc_400 hy_453 hc_461 (by decide)
      exact z_vret hx hb hr hlocks (hP.sub [6, 0, 7, 8, 9, 10, 11, 1, 2, 12, 13, 3, 4, 5] rfl) (hD.sub [6, 0, 7, 8, 9, 10, 11, 1, 2, 12, 13, 3, 4, 5] (by decide) rfl) hS (Nat.le_of_ble_eq_true rfl) (Nat.le_of_ble_eq_true rfl) d_Parting_find_94 ⟨(-1), b12, y_454, y_457, y_458, y_459, y_460, y_455, y_456, rfl, rfl, (zI.wk (l' := (-2)) (h' := 8) zc_m1 (by decide)), hb12, hy_454, hy_457, hy_458, hy_459, hy_460, hy_455, hy_456⟩
    · have _nhc_461 := hc_461
      have ni_464 := (fa_lt _ _).mp (zi_nle hc_461)
      rw [li_400] at ni_464
      have hv_465 : zI y_453 0 399 := zI.lt_l hy_453 zc_400 (zi_nle hc_461) (by decide)
      refine lv_iload_n hx hb d_Parting_find_20 rfl (lv_at hl 0 rfl) ?_
      refine lv_aload_n hx hb d_Parting_find_21 rfl (lv_at hl 1 rfl) ?_
      refine va_get (D := G.1) (ci := 8) (v := .ref b7) (C := R_Parting) (T := F_Parting) (N := 10) hx hb hts i_Parting hown hK hP 6 rfl rfl 5 (by decide) (hts _ q307) (fun _ h9 => h9) rfl d_Parting_find_22 ?_
      refine va_get (D := G.1) (ci := 6) (v := .int y_454) (C := R_Sets) (T := F_Sets) (N := 5) hx hb hts i_Sets hown hK hP 7 rfl rfl 0 (by decide) (hts _ q241) (fun _ h9 => h9) rfl d_Parting_find_25 ?_
      refine lv_icmp_ge (tgt := 94) hx hb d_Parting_find_28 (by decide) (fun hc_466 => ?_) (fun hc_466 => ?_)
      · have _nhc_466 := hc_466
        have ni_467 := (fa_le _ _).mp hc_466
        have hv_468 : zI y_454 0 399 := zI.le_l hy_454 hv_465 hc_466 (by decide)
        exact z_vret hx hb hr hlocks (hP.sub [6, 0, 7, 8, 9, 10, 11, 1, 2, 12, 13, 3, 4, 5] rfl) (hD.sub [6, 0, 7, 8, 9, 10, 11, 1, 2, 12, 13, 3, 4, 5] (by decide) rfl) hS (Nat.le_of_ble_eq_true rfl) (Nat.le_of_ble_eq_true rfl) d_Parting_find_94 ⟨(-1), b12, y_454, y_457, y_458, y_459, y_460, y_455, y_456, rfl, rfl, (zI.wk (l' := (-2)) (h' := 8) zc_m1 (by decide)), hb12, (zI.wk (l' := 0) (h' := 400) hv_468 (by decide)), hy_457, hy_458, hy_459, hy_460, hy_455, hy_456⟩
      · have _nhc_466 := hc_466
        have ni_469 := (fa_lt _ _).mp (zi_nle hc_466)
        have hv_470 : zI y_454 1 400 := zI.lt_r hv_465 hy_454 (zi_nle hc_466) (by decide)
        refine lv_aload_n hx hb d_Parting_find_31 rfl (lv_at hl 2 rfl) ?_
        refine lv_aload_n hx hb d_Parting_find_32 rfl (lv_at hl 1 rfl) ?_
        refine va_get (D := G.1) (ci := 8) (v := .ref b7) (C := R_Parting) (T := F_Parting) (N := 10) hx hb hts i_Parting hown hK hP 6 rfl rfl 5 (by decide) (hts _ q307) (fun _ h9 => h9) rfl d_Parting_find_33 ?_
        refine lv_iload_n hx hb d_Parting_find_36 rfl (lv_at hl 0 rfl) ?_
        refine lv_iconst (v := 0) hx hb d_Parting_find_37 (by decide) ?_
        refine z_callV (index := 57) (As := [.ref b7, .int y_453, .int 0]) (rest := []) (wr := [(b4, .inl (G.2 0, 8, .inl b12)), (b9, .inl (G.2 0, 400, .inl y_460)), (b10, .inl (G.2 0, 400, .inl y_455)), (b34, .inl (G.2 0, 240, .inl b41)), (b38, .inl (G.2 0, 242, .inl b42)), (b0, .inr (8, [.int b2, .int (-1), .ref b4, .int b5, .int b6, .ref b7, .ref b8, .ref b9, .ref b10, .ref b11])), (b15, .inl (G.2 0, 1024, .inl y_458)), (b8, .inr (6, [.int b18, .int 8, .int 10, .ref b19, .ref b20])), (b19, .inl (G.2 1, 80, .inr (.inl y_459))), (b11, .inl (G.2 0, 400, .inl y_456))]) Z (s3_Machine_takes l G (b1) (b7) (y_453) (0) (b25) (b26) (b27) (b28) (b29) (b30) (b31) (b32) (b33) (b34) (b35) (b36) (b37) (b38) (b39) (b40) (y_454) (b14) (b15) (y_457) hv_465 (zI.wk (l' := 0) (h' := 1) zc_0 (by decide)) hb25 hb26 hb33 (zI.wk (l' := 0) (h' := 400) hv_470 (by decide)) hy_457) hl.1 q886 q743 q744 q6 q745 ⟨by decide, by decide, by show _ = some 3; decide +kernel⟩ ⟨Nat.le_of_ble_eq_true rfl, Nat.le_of_ble_eq_true rfl⟩ ⟨Nat.le_of_ble_eq_true rfl, Nat.le_of_ble_eq_true rfl⟩ rfl (Nat.le_of_ble_eq_true rfl) d_Parting_find_38 hP hD hS hA 13 5 rfl rfl rfl [13, 3, 7, 8] [0, 1, 2, 4, 5, 6, 9, 10, 11, 12] rfl rfl rfl rfl (by decide) (fun v w1 H locs hw_471 hP hD hS => ?_)
        obtain ⟨x_472, rfl, rfl, hx_472⟩ := hw_471
        have hP : va_P G.1 classes [(b4, .inl (G.2 0, 8, .inl b12)), (b9, .inl (G.2 0, 400, .inl y_460)), (b10, .inl (G.2 0, 400, .inl y_455)), (b34, .inl (G.2 0, 240, .inl b41)), (b38, .inl (G.2 0, 242, .inl b42)), (b0, .inr (8, [.int b2, .int (-1), .ref b4, .int b5, .int b6, .ref b7, .ref b8, .ref b9, .ref b10, .ref b11])), (b15, .inl (G.2 0, 1024, .inl y_458)), (b8, .inr (6, [.int b18, .int 8, .int 10, .ref b19, .ref b20])), (b19, .inl (G.2 1, 80, .inr (.inl y_459))), (b11, .inl (G.2 0, 400, .inl y_456)), (b1, .inr (5, [.int b25, .int b26, .ref b27, .ref b28, .ref b29, .ref b30, .ref b31, .ref b32, .int b33, .ref b34, .ref b35, .ref b36, .ref b37, .ref b38, .ref b39])), (b32, .inl (G.2 1, 4, .inr (.inl b40))), (b7, .inr (6, [.int y_454, .int 8, .int 400, .ref b14, .ref b15])), (b14, .inl (G.2 1, 3200, .inr (.inl y_457)))] H := hP
        have hD := z_tie hP hD rfl
        refine W.widen (k := 0) (n := 0) (Nat.le_of_ble_eq_true rfl) (Nat.le_of_ble_eq_true rfl) ?_
        refine lv_aload_n hx hb d_Parting_find_41 rfl (lv_at hl 3 rfl) ?_
        refine lv_aload_n hx hb d_Parting_find_42 rfl (lv_at hl 1 rfl) ?_
        refine va_get (D := G.1) (ci := 8) (v := .ref b7) (C := R_Parting) (T := F_Parting) (N := 10) hx hb hts i_Parting hown hK hP 5 rfl rfl 5 (by decide) (hts _ q307) (fun _ h9 => h9) rfl d_Parting_find_43 ?_
        refine lv_iload_n hx hb d_Parting_find_46 rfl (lv_at hl 0 rfl) ?_
        refine lv_iconst (v := 1) hx hb d_Parting_find_47 (by decide) ?_
        refine z_callV (index := 57) (As := [.ref b7, .int y_453, .int 1]) (rest := [.int x_472]) (wr := [(b4, .inl (G.2 0, 8, .inl b12)), (b9, .inl (G.2 0, 400, .inl y_460)), (b10, .inl (G.2 0, 400, .inl y_455)), (b34, .inl (G.2 0, 240, .inl b41)), (b38, .inl (G.2 0, 242, .inl b42)), (b0, .inr (8, [.int b2, .int (-1), .ref b4, .int b5, .int b6, .ref b7, .ref b8, .ref b9, .ref b10, .ref b11])), (b15, .inl (G.2 0, 1024, .inl y_458)), (b8, .inr (6, [.int b18, .int 8, .int 10, .ref b19, .ref b20])), (b19, .inl (G.2 1, 80, .inr (.inl y_459))), (b11, .inl (G.2 0, 400, .inl y_456))]) Z (s3_Machine_takes l G (b1) (b7) (y_453) (1) (b25) (b26) (b27) (b28) (b29) (b30) (b31) (b32) (b33) (b34) (b35) (b36) (b37) (b38) (b39) (b40) (y_454) (b14) (b15) (y_457) hv_465 (zI.wk (l' := 0) (h' := 1) zc_1 (by decide)) hb25 hb26 hb33 (zI.wk (l' := 0) (h' := 400) hv_470 (by decide)) hy_457) hl.1 q886 q743 q744 q6 q745 ⟨by decide, by decide, by show _ = some 3; decide +kernel⟩ ⟨Nat.le_of_ble_eq_true rfl, Nat.le_of_ble_eq_true rfl⟩ ⟨Nat.le_of_ble_eq_true rfl, Nat.le_of_ble_eq_true rfl⟩ rfl (Nat.le_of_ble_eq_true rfl) d_Parting_find_48 hP hD hS hA 10 5 rfl rfl rfl [10, 11, 12, 13] [0, 1, 2, 3, 4, 5, 6, 7, 8, 9] rfl rfl rfl rfl (by decide) (fun v w1 H locs hw_473 hP hD hS => ?_)
        obtain ⟨x_474, rfl, rfl, hx_474⟩ := hw_473
        have hP : va_P G.1 classes [(b4, .inl (G.2 0, 8, .inl b12)), (b9, .inl (G.2 0, 400, .inl y_460)), (b10, .inl (G.2 0, 400, .inl y_455)), (b34, .inl (G.2 0, 240, .inl b41)), (b38, .inl (G.2 0, 242, .inl b42)), (b0, .inr (8, [.int b2, .int (-1), .ref b4, .int b5, .int b6, .ref b7, .ref b8, .ref b9, .ref b10, .ref b11])), (b15, .inl (G.2 0, 1024, .inl y_458)), (b8, .inr (6, [.int b18, .int 8, .int 10, .ref b19, .ref b20])), (b19, .inl (G.2 1, 80, .inr (.inl y_459))), (b11, .inl (G.2 0, 400, .inl y_456)), (b1, .inr (5, [.int b25, .int b26, .ref b27, .ref b28, .ref b29, .ref b30, .ref b31, .ref b32, .int b33, .ref b34, .ref b35, .ref b36, .ref b37, .ref b38, .ref b39])), (b32, .inl (G.2 1, 4, .inr (.inl b40))), (b7, .inr (6, [.int y_454, .int 8, .int 400, .ref b14, .ref b15])), (b14, .inl (G.2 1, 3200, .inr (.inl y_457)))] H := hP
        have hD := z_tie hP hD rfl
        refine W.widen (k := 0) (n := 0) (Nat.le_of_ble_eq_true rfl) (Nat.le_of_ble_eq_true rfl) ?_
        refine lv_icmp_eq (tgt := 60) hx hb d_Parting_find_51 (by decide) (fun hc_475 => ?_) (fun hc_475 => ?_)
        · have _nhc_475 := hc_475
          have ni_476 := (fa_eq _ _).mp hc_475
          refine lv_aload_n hx hb d_Parting_find_60 rfl (lv_at hl 1 rfl) ?_
          refine va_get (D := G.1) (ci := 8) (v := .ref b11) (C := R_Parting) (T := F_Parting) (N := 10) hx hb hts i_Parting hown hK hP 5 rfl rfl 9 (by decide) (hts _ q311) (fun _ h9 => h9) rfl d_Parting_find_61 ?_
          refine lv_iload_n hx hb d_Parting_find_64 rfl (lv_at hl 0 rfl) ?_
          refine va_iald hx hb hK hP 9 0 rfl rfl (zI.inn hv_465 (by decide)) d_Parting_find_65 ?_
          refine lv_topi (fun v_477 ev_477 => ?_)
          have hv_477 : zI v_477 0 8 := (hy_456 _).eq ev_477
          refine lv_bipush (v := 8) hx hb d_Parting_find_66 (by decide) ?_
          refine lv_icmp_ge (tgt := 88) hx hb d_Parting_find_68 (by decide) (fun hc_478 => ?_) (fun hc_478 => ?_)
          · have _nhc_478 := hc_478
            have ni_479 := (fa_le _ _).mp hc_478
            rw [li_8] at ni_479
            have hv_480 : zI v_477 8 8 := zI.le_r zc_8 hv_477 hc_478 (by decide)
            obtain ⟨v_481, ev_481⟩ : ∃ z : Int32, z = y_453 + 1 := ⟨_, rfl⟩
            obtain ⟨qv_481, hv_481⟩ := zI_add (l := 1) (h := 400) hv_465 zc_1 ev_481 (by decide)
            rw [li_1] at qv_481
            refine lv_iinc (v := v_481) (lv' := [(3, .int v_481), (0, .ref b0), (1, .ref b1), (2, .ref b1)]) hx hb d_Parting_find_88 hl (k := 0) rfl (by rw [ev_481]; rfl) (by decide) rfl (fun ls hl => ?_)
            refine lv_goto (tgt := 13) hx hb d_Parting_find_91 (by decide) ?_
            exact ihk_452 (v_481) (y_454) (y_455) (y_456) (y_457) (y_458) (y_459) (y_460) _ _ _ (zI.wk (l' := 0) (h' := 400) hv_481 (by decide)) (zI.wk (l' := 0) (h' := 400) hv_470 (by decide)) hy_455 hy_456 hy_457 hy_458 hy_459 hy_460 (zm_up qv_481 hmk_452 (by decide)) (hP.sub [0, 1, 2, 11, 3, 4, 5, 12, 13, 6, 7, 8, 9, 10] rfl) (hD.sub [0, 1, 2, 11, 3, 4, 5, 12, 13, 6, 7, 8, 9, 10] (by decide) rfl) hS (lv_sub hl [0, 1, 2, 3] rfl)
          · have _nhc_478 := hc_478
            have ni_482 := (fa_lt _ _).mp (zi_nle hc_478)
            rw [li_8] at ni_482
            have hv_483 : zI v_477 0 7 := zI.lt_l hv_477 zc_8 (zi_nle hc_478) (by decide)
            refine lv_aload_n hx hb d_Parting_find_71 rfl (lv_at hl 1 rfl) ?_
            refine lv_aload_n hx hb d_Parting_find_72 rfl (lv_at hl 2 rfl) ?_
            refine lv_aload_n hx hb d_Parting_find_73 rfl (lv_at hl 3 rfl) ?_
            refine lv_iload_n hx hb d_Parting_find_74 rfl (lv_at hl 0 rfl) ?_
            refine z_callV (index := 67) (As := [.ref b1, .ref b1, .int y_453]) (rest := []) (wr := [(b4, .inl (G.2 0, 8, .inl b12)), (b32, .inl (G.2 1, 4, .inr (.inl b40)))]) Z (s2_Parting_goOn l G (b0) (b1) (y_453) (b2) ((-1)) (b4) (b5) (b6) (b7) (b8) (b9) (b10) (b11) (y_454) (b14) (b15) (y_457) (y_458) (b18) (b19) (b20) (y_459) (y_460) (y_455) (y_456) (b25) (b26) (b27) (b28) (b29) (b30) (b31) (b32) (b33) (b34) (b35) (b36) (b37) (b38) (b39) (b41) (b42) hv_465 hb2 (zI.wk (l' := (-2)) (h' := 8) zc_m1 (by decide)) (zI.wk (l' := 0) (h' := 400) hv_470 (by decide)) hb18 hb25 hb26 hb33 hy_457 hy_458 hy_459 hy_460 hy_455 hy_456 hb41 hb42 (by rw [← ev_477]; omega) (by omega)) hl.1 q891 q893 qs31 q9 q894 ⟨by decide, by decide, by show _ = some 3; decide +kernel⟩ ⟨Nat.le_of_ble_eq_true rfl, Nat.le_of_ble_eq_true rfl⟩ ⟨Nat.le_of_ble_eq_true rfl, Nat.le_of_ble_eq_true rfl⟩ rfl (Nat.le_of_ble_eq_true rfl) d_Parting_find_75 hP hD hS hA 5 8 rfl rfl rfl [5, 12, 13, 6, 7, 8, 1, 2, 9, 10, 3, 4] [0, 11] rfl rfl rfl rfl (by decide) (fun v w1 H locs hw_484 hP hD hS => ?_)
            obtain ⟨x_485, x_486, f_487, f_488, f_489, f_490, f_491, f_492, rfl, rfl, hx_485, hx_486, hf_487, hf_488, hf_489, hf_490, hf_491, hf_492⟩ := hw_484
            have hP : va_P G.1 classes [(b4, .inl (G.2 0, 8, .inl b12)), (b32, .inl (G.2 1, 4, .inr (.inl b40))), (b0, .inr (8, [.int b2, .int (-1), .ref b4, .int b5, .int b6, .ref b7, .ref b8, .ref b9, .ref b10, .ref b11])), (b7, .inr (6, [.int x_486, .int 8, .int 400, .ref b14, .ref b15])), (b14, .inl (G.2 1, 3200, .inr (.inl f_487))), (b15, .inl (G.2 0, 1024, .inl f_488)), (b8, .inr (6, [.int b18, .int 8, .int 10, .ref b19, .ref b20])), (b19, .inl (G.2 1, 80, .inr (.inl f_489))), (b9, .inl (G.2 0, 400, .inl f_490)), (b10, .inl (G.2 0, 400, .inl f_491)), (b11, .inl (G.2 0, 400, .inl f_492)), (b1, .inr (5, [.int b25, .int b26, .ref b27, .ref b28, .ref b29, .ref b30, .ref b31, .ref b32, .int b33, .ref b34, .ref b35, .ref b36, .ref b37, .ref b38, .ref b39])), (b34, .inl (G.2 0, 240, .inl b41)), (b38, .inl (G.2 0, 242, .inl b42))] H := hP
            have hD := z_tie hP hD rfl
            refine W.widen (k := 0) (n := 0) (Nat.le_of_ble_eq_true rfl) (Nat.le_of_ble_eq_true rfl) ?_
            refine lv_if_ne (tgt := 88) hx hb d_Parting_find_78 (by decide) (fun hc_493 => ?_) (fun hc_493 => ?_)
            · have _nhc_493 := hc_493
              have ni_494 : ¬ (x_485 : Int32).toInt = (0 : Int32).toInt := fun z => hc_493 ((fa_eq _ _).mpr z)
              simp only [li_0] at ni_494
              have hv_495 : zI x_485 1 1 := zI.ne_lo hx_485 zc_0 hc_493 (by decide)
              obtain ⟨v_496, ev_496⟩ : ∃ z : Int32, z = y_453 + 1 := ⟨_, rfl⟩
              obtain ⟨qv_496, hv_496⟩ := zI_add (l := 1) (h := 400) hv_465 zc_1 ev_496 (by decide)
              rw [li_1] at qv_496
              refine lv_iinc (v := v_496) (lv' := [(3, .int v_496), (0, .ref b0), (1, .ref b1), (2, .ref b1)]) hx hb d_Parting_find_88 hl (k := 0) rfl (by rw [ev_496]; rfl) (by decide) rfl (fun ls hl => ?_)
              refine lv_goto (tgt := 13) hx hb d_Parting_find_91 (by decide) ?_
              exact ihk_452 (v_496) (x_486) (f_491) (f_492) (f_487) (f_488) (f_489) (f_490) _ _ _ (zI.wk (l' := 0) (h' := 400) hv_496 (by decide)) hx_486 hf_491 hf_492 hf_487 hf_488 hf_489 hf_490 (zm_up qv_496 hmk_452 (by decide)) (hP.sub [0, 8, 9, 1, 12, 13, 2, 3, 4, 5, 6, 7, 10, 11] rfl) (hD.sub [0, 8, 9, 1, 12, 13, 2, 3, 4, 5, 6, 7, 10, 11] (by decide) rfl) hS (lv_sub hl [0, 1, 2, 3] rfl)
            · have _nhc_493 := hc_493
              have ni_497 := (fa_eq _ _).mp hc_493
              rw [li_0] at ni_497
              have hv_498 : zI x_485 0 0 := zI.eq_l hx_485 zc_0 hc_493
              refine lv_aload_n hx hb d_Parting_find_81 rfl (lv_at hl 1 rfl) ?_
              refine lv_bipush (v := (-2)) hx hb d_Parting_find_82 (by decide) ?_
              refine va_put (D := G.1) (ci := 8) (v := .int (-2)) (ty := .int) (C := R_Parting) (T := F_Parting) (N := 10) hx hb hts i_Parting t_Parting t_Parting_ok n_Parting hown hK hP hD hS 2 rfl rfl 1 (by decide) (hts _ q301) (fun _ h9 => h9) rfl (by decide +kernel) rfl rfl (Nat.le_of_ble_eq_true rfl) d_Parting_find_84 (fun H locs hP hD hS => ?_)
              have hP : va_P G.1 classes [(b4, .inl (G.2 0, 8, .inl b12)), (b32, .inl (G.2 1, 4, .inr (.inl b40))), (b0, .inr (8, [.int b2, .int (-2), .ref b4, .int b5, .int b6, .ref b7, .ref b8, .ref b9, .ref b10, .ref b11])), (b7, .inr (6, [.int x_486, .int 8, .int 400, .ref b14, .ref b15])), (b14, .inl (G.2 1, 3200, .inr (.inl f_487))), (b15, .inl (G.2 0, 1024, .inl f_488)), (b8, .inr (6, [.int b18, .int 8, .int 10, .ref b19, .ref b20])), (b19, .inl (G.2 1, 80, .inr (.inl f_489))), (b9, .inl (G.2 0, 400, .inl f_490)), (b10, .inl (G.2 0, 400, .inl f_491)), (b11, .inl (G.2 0, 400, .inl f_492)), (b1, .inr (5, [.int b25, .int b26, .ref b27, .ref b28, .ref b29, .ref b30, .ref b31, .ref b32, .int b33, .ref b34, .ref b35, .ref b36, .ref b37, .ref b38, .ref b39])), (b34, .inl (G.2 0, 240, .inl b41)), (b38, .inl (G.2 0, 242, .inl b42))] H := hP
              have hD := z_tie hP hD rfl
              exact z_vret hx hb hr hlocks (hP.sub [2, 0, 3, 4, 5, 6, 7, 8, 9, 10, 11, 1, 12, 13] rfl) (hD.sub [2, 0, 3, 4, 5, 6, 7, 8, 9, 10, 11, 1, 12, 13] (by decide) rfl) hS (Nat.le_of_ble_eq_true rfl) (Nat.le_of_ble_eq_true rfl) d_Parting_find_87 ⟨(-2), b12, x_486, f_487, f_488, f_489, f_490, f_491, f_492, rfl, rfl, (zI.wk (l' := (-2)) (h' := 8) zc_m2 (by decide)), hb12, hx_486, hf_487, hf_488, hf_489, hf_490, hf_491, hf_492⟩
        · have _nhc_475 := hc_475
          have ni_499 : ¬ (x_472 : Int32).toInt = (x_474 : Int32).toInt := fun z => hc_475 ((fa_eq _ _).mpr z)
          refine lv_aload_n hx hb d_Parting_find_54 rfl (lv_at hl 1 rfl) ?_
          refine lv_iload_n hx hb d_Parting_find_55 rfl (lv_at hl 0 rfl) ?_
          refine z_callV (index := 63) (As := [.int y_453]) (rest := []) (wr := [(b34, .inl (G.2 0, 240, .inl b41)), (b38, .inl (G.2 0, 242, .inl b42)), (b15, .inl (G.2 0, 1024, .inl y_458)), (b8, .inr (6, [.int b18, .int 8, .int 10, .ref b19, .ref b20])), (b19, .inl (G.2 1, 80, .inr (.inl y_459))), (b1, .inr (5, [.int b25, .int b26, .ref b27, .ref b28, .ref b29, .ref b30, .ref b31, .ref b32, .int b33, .ref b34, .ref b35, .ref b36, .ref b37, .ref b38, .ref b39])), (b32, .inl (G.2 1, 4, .inr (.inl b40))), (b7, .inr (6, [.int y_454, .int 8, .int 400, .ref b14, .ref b15])), (b14, .inl (G.2 1, 3200, .inr (.inl y_457)))]) Z (s1_Parting_spell l G (b0) (y_453) (b2) ((-1)) (b4) (b5) (b6) (b7) (b8) (b9) (b10) (b11) (b12) (y_460) (y_455) (y_456) hv_465 hb2 (zI.wk (l' := (-2)) (h' := 8) zc_m1 (by decide)) hb12 hy_460 hy_455 hy_456) hl.1 q887 q889 qs30 q9 q890 ⟨by decide, by decide, by show _ = some 1; decide +kernel⟩ ⟨Nat.le_of_ble_eq_true rfl, Nat.le_of_ble_eq_true rfl⟩ ⟨Nat.le_of_ble_eq_true rfl, Nat.le_of_ble_eq_true rfl⟩ rfl (Nat.le_of_ble_eq_true rfl) d_Parting_find_56 hP hD hS hA 5 8 rfl rfl rfl [5, 0, 1, 2, 9] [3, 4, 6, 7, 8, 10, 11, 12, 13] rfl rfl rfl rfl (by decide) (fun v w1 H locs hw_500 hP hD hS => ?_)
          obtain ⟨x_501, f_502, rfl, rfl, hx_501, hf_502⟩ := hw_500
          have hP : va_P G.1 classes [(b34, .inl (G.2 0, 240, .inl b41)), (b38, .inl (G.2 0, 242, .inl b42)), (b15, .inl (G.2 0, 1024, .inl y_458)), (b8, .inr (6, [.int b18, .int 8, .int 10, .ref b19, .ref b20])), (b19, .inl (G.2 1, 80, .inr (.inl y_459))), (b1, .inr (5, [.int b25, .int b26, .ref b27, .ref b28, .ref b29, .ref b30, .ref b31, .ref b32, .int b33, .ref b34, .ref b35, .ref b36, .ref b37, .ref b38, .ref b39])), (b32, .inl (G.2 1, 4, .inr (.inl b40))), (b7, .inr (6, [.int y_454, .int 8, .int 400, .ref b14, .ref b15])), (b14, .inl (G.2 1, 3200, .inr (.inl y_457))), (b0, .inr (8, [.int b2, .int x_501, .ref b4, .int b5, .int b6, .ref b7, .ref b8, .ref b9, .ref b10, .ref b11])), (b4, .inl (G.2 0, 8, .inl f_502)), (b9, .inl (G.2 0, 400, .inl y_460)), (b10, .inl (G.2 0, 400, .inl y_455)), (b11, .inl (G.2 0, 400, .inl y_456))] H := hP
          have hD := z_tie hP hD rfl
          refine W.widen (k := 0) (n := 0) (Nat.le_of_ble_eq_true rfl) (Nat.le_of_ble_eq_true rfl) ?_
          exact z_vret hx hb hr hlocks (hP.sub [9, 10, 7, 8, 2, 3, 4, 11, 12, 13, 5, 6, 0, 1] rfl) (hD.sub [9, 10, 7, 8, 2, 3, 4, 11, 12, 13, 5, 6, 0, 1] (by decide) rfl) hS (Nat.le_of_ble_eq_true rfl) (Nat.le_of_ble_eq_true rfl) d_Parting_find_59 ⟨x_501, f_502, y_454, y_457, y_458, y_459, y_460, y_455, y_456, rfl, rfl, hx_501, hf_502, (zI.wk (l' := 0) (h' := 400) hv_470 (by decide)), hy_457, hy_458, hy_459, hy_460, hy_455, hy_456⟩
abbrev m_s4_Parting_begin : Room := { frames := 3, cells := 0, slots := 0, locals := 67 }
set_option maxHeartbeats 4000000 in
set_option maxRecDepth 100000 in
theorem s4_Parting_begin (l : Launch) (G : zG) (b0 : Nat) (b1 : Nat) (b2 : Nat) (b3 : Int32) (b4 : Int32) (b5 : Nat) (b6 : Int32) (b7 : Int32) (b8 : Nat) (b9 : Nat) (b10 : Nat) (b11 : Nat) (b12 : Nat) (b13 : Int32) (b14 : Nat) (b15 : Nat) (b16 : Nat → Int64) (b17 : Nat → Int32) (b18 : Int32) (b19 : Nat) (b20 : Nat) (b21 : Nat → Int64) (b22 : Nat → Int32) (b23 : Int32) (b24 : Int32) (b25 : Nat) (b26 : Nat) (b27 : Nat) (b28 : Nat) (b29 : Nat) (b30 : Nat) (b31 : Int32) (b32 : Nat) (b33 : Nat) (b34 : Nat) (b35 : Nat) (b36 : Nat) (b37 : Nat) (b38 : Int32) (b39 : Int32) (b40 : Nat) (b41 : Nat) (b42 : Nat) (b43 : Nat) (b44 : Nat) (b45 : Nat) (b46 : Int32) (b47 : Nat) (b48 : Nat) (b49 : Nat) (b50 : Nat) (b51 : Nat) (b52 : Nat) (hb3 : zI b3 0 1) (hb4 : zI b4 (-2) 8) (hb13 : zI b13 0 400) (hb18 : zI b18 0 10) (hb23 : zI b23 0 1) (hb24 : zI b24 0 241) (hb31 : zI b31 0 240) (hb38 : zI b38 0 1) (hb39 : zI b39 0 241) (hb46 : zI b46 0 240) (hb16 : zqa qB b16) (hb17 : zR b17 (-1) 399) (hb21 : zqa qB b21) (hb22 : zR b22 0 8) : zM l G y_Parting_begin prog_7_method_5_code 3 (Option.none : Option Jvm.ClassFile.FieldType) m_s4_Parting_begin [.ref b0, .ref b1, .ref b2] [(b0, .inr (8, [.int b3, .int b4, .ref b5, .int b6, .int b7, .ref b8, .ref b9, .ref b10, .ref b11, .ref b12])), (b8, .inr (6, [.int b13, .int 8, .int 400, .ref b14, .ref b15])), (b14, .inl (G.2 1, 3200, .inr (.inl b16))), (b15, .inl (G.2 0, 1024, .inl b17)), (b9, .inr (6, [.int b18, .int 8, .int 10, .ref b19, .ref b20])), (b19, .inl (G.2 1, 80, .inr (.inl b21))), (b12, .inl (G.2 0, 400, .inl b22)), (b1, .inr (5, [.int b23, .int b24, .ref b25, .ref b26, .ref b27, .ref b28, .ref b29, .ref b30, .int b31, .ref b32, .ref b33, .ref b34, .ref b35, .ref b36, .ref b37])), (b2, .inr (5, [.int b38, .int b39, .ref b40, .ref b41, .ref b42, .ref b43, .ref b44, .ref b45, .int b46, .ref b47, .ref b48, .ref b49, .ref b50, .ref b51, .ref b52]))] (fun v w => ∃ (e0 : Int32), ∃ (e1 : Nat → Int64), ∃ (e2 : Nat → Int32), ∃ (e3 : Nat → Int64), ∃ (e4 : Nat → Int32), v = none ∧ w = [(b0, .inr (8, [.int b3, .int b4, .ref b5, .int b6, .int b7, .ref b8, .ref b9, .ref b10, .ref b11, .ref b12])), (b8, .inr (6, [.int e0, .int 8, .int 400, .ref b14, .ref b15])), (b14, .inl (G.2 1, 3200, .inr (.inl e1))), (b15, .inl (G.2 0, 1024, .inl e2)), (b9, .inr (6, [.int b18, .int 8, .int 10, .ref b19, .ref b20])), (b19, .inl (G.2 1, 80, .inr (.inl e3))), (b12, .inl (G.2 0, 400, .inl e4)), (b1, .inr (5, [.int b23, .int b24, .ref b25, .ref b26, .ref b27, .ref b28, .ref b29, .ref b30, .int b31, .ref b32, .ref b33, .ref b34, .ref b35, .ref b36, .ref b37])), (b2, .inr (5, [.int b38, .int b39, .ref b40, .ref b41, .ref b42, .ref b43, .ref b44, .ref b45, .int b46, .ref b47, .ref b48, .ref b49, .ref b50, .ref b51, .ref b52]))] ∧ (zI e0 0 400) ∧ (zqa qB e1) ∧ (zR e2 (-1) 399) ∧ (zqa qB e3) ∧ (zR e4 0 8)) := by
  refine z_start (by decide +kernel) (Nat.le_of_ble_eq_true rfl) ?_
  intro p e s m below meth c A Z hr hnm hA hP hD hS ls hl
  have Z : zC p s m _ meth c prog_7_method_5_code 3 "TraceMachines$Parting" G := Z
  obtain ⟨hx, hb, hml, hown, hts, hK, hN, hlocks⟩ := id Z
  have hl : lv_has ls 3 [(0, .ref b0), (1, .ref b1), (2, .ref b2)] := hl
  refine lv_aload_n hx hb d_Parting_begin_0 rfl (lv_at hl 0 rfl) ?_
  refine va_get (D := G.1) (ci := 8) (v := .ref b9) (C := R_Parting) (T := F_Parting) (N := 10) hx hb hts i_Parting hown hK hP 0 rfl rfl 6 (by decide) (hts _ q308) (fun _ h9 => h9) rfl d_Parting_begin_1 ?_
  refine z_callV (index := 71) (As := []) (rest := []) (wr := [(b0, .inr (8, [.int b3, .int b4, .ref b5, .int b6, .int b7, .ref b8, .ref b9, .ref b10, .ref b11, .ref b12])), (b8, .inr (6, [.int b13, .int 8, .int 400, .ref b14, .ref b15])), (b14, .inl (G.2 1, 3200, .inr (.inl b16))), (b15, .inl (G.2 0, 1024, .inl b17)), (b12, .inl (G.2 0, 400, .inl b22)), (b1, .inr (5, [.int b23, .int b24, .ref b25, .ref b26, .ref b27, .ref b28, .ref b29, .ref b30, .int b31, .ref b32, .ref b33, .ref b34, .ref b35, .ref b36, .ref b37])), (b2, .inr (5, [.int b38, .int b39, .ref b40, .ref b41, .ref b42, .ref b43, .ref b44, .ref b45, .int b46, .ref b47, .ref b48, .ref b49, .ref b50, .ref b51, .ref b52]))]) Z (s3_Sets_clear l G (b9) (b18) (b19) (b20) (b21) hb18 hb21) hl.1 q882 q705 q706 q7 q707 ⟨by decide, by decide, by show _ = some 0; decide +kernel⟩ ⟨Nat.le_of_ble_eq_true rfl, Nat.le_of_ble_eq_true rfl⟩ ⟨Nat.le_of_ble_eq_true rfl, Nat.le_of_ble_eq_true rfl⟩ rfl (Nat.le_of_ble_eq_true rfl) d_Parting_begin_4 hP hD hS hA 4 6 rfl rfl rfl [4, 5] [0, 1, 2, 3, 6, 7, 8] rfl rfl rfl rfl (by decide) (fun v w1 H locs hw_1 hP hD hS => ?_)
  obtain ⟨f_2, rfl, rfl, hf_2⟩ := hw_1
  have hP : va_P G.1 classes [(b0, .inr (8, [.int b3, .int b4, .ref b5, .int b6, .int b7, .ref b8, .ref b9, .ref b10, .ref b11, .ref b12])), (b8, .inr (6, [.int b13, .int 8, .int 400, .ref b14, .ref b15])), (b14, .inl (G.2 1, 3200, .inr (.inl b16))), (b15, .inl (G.2 0, 1024, .inl b17)), (b12, .inl (G.2 0, 400, .inl b22)), (b1, .inr (5, [.int b23, .int b24, .ref b25, .ref b26, .ref b27, .ref b28, .ref b29, .ref b30, .int b31, .ref b32, .ref b33, .ref b34, .ref b35, .ref b36, .ref b37])), (b2, .inr (5, [.int b38, .int b39, .ref b40, .ref b41, .ref b42, .ref b43, .ref b44, .ref b45, .int b46, .ref b47, .ref b48, .ref b49, .ref b50, .ref b51, .ref b52])), (b9, .inr (6, [.int b18, .int 8, .int 10, .ref b19, .ref b20])), (b19, .inl (G.2 1, 80, .inr (.inl f_2)))] H := hP
  have hD := z_tie hP hD rfl
  refine W.widen (k := 0) (n := 0) (Nat.le_of_ble_eq_true rfl) (Nat.le_of_ble_eq_true rfl) ?_
  refine lv_aload_n hx hb d_Parting_begin_7 rfl (lv_at hl 1 rfl) ?_
  refine va_get (D := G.1) (ci := 5) (v := .int b24) (C := R_Machine) (T := F_Machine) (N := 15) hx hb hts i_Machine hown hK hP 5 rfl rfl 1 (by decide) (hts _ q167) (fun _ h9 => h9) rfl d_Parting_begin_8 ?_
  refine lv_if_le (tgt := 24) hx hb d_Parting_begin_11 (by decide) (fun hc_3 => ?_) (fun hc_3 => ?_)
  · have _nhc_3 := hc_3
    have ni_4 := (fa_le _ _).mp hc_3
    rw [li_0] at ni_4
    have hv_5 : zI b24 0 0 := zI.le_l hb24 zc_0 hc_3 (by decide)
    refine lv_aload_n hx hb d_Parting_begin_24 rfl (lv_at hl 2 rfl) ?_
    refine va_get (D := G.1) (ci := 5) (v := .int b39) (C := R_Machine) (T := F_Machine) (N := 15) hx hb hts i_Machine hown hK hP 6 rfl rfl 1 (by decide) (hts _ q167) (fun _ h9 => h9) rfl d_Parting_begin_25 ?_
    refine lv_if_le (tgt := 41) hx hb d_Parting_begin_28 (by decide) (fun hc_6 => ?_) (fun hc_6 => ?_)
    · have _nhc_6 := hc_6
      have ni_7 := (fa_le _ _).mp hc_6
      rw [li_0] at ni_7
      have hv_8 : zI b39 0 0 := zI.le_l hb39 zc_0 hc_6 (by decide)
      refine lv_aload_n hx hb d_Parting_begin_41 rfl (lv_at hl 0 rfl) ?_
      refine va_get (D := G.1) (ci := 8) (v := .ref b8) (C := R_Parting) (T := F_Parting) (N := 10) hx hb hts i_Parting hown hK hP 0 rfl rfl 5 (by decide) (hts _ q307) (fun _ h9 => h9) rfl d_Parting_begin_42 ?_
      refine z_callV (index := 81) (As := []) (rest := []) (wr := [(b0, .inr (8, [.int b3, .int b4, .ref b5, .int b6, .int b7, .ref b8, .ref b9, .ref b10, .ref b11, .ref b12])), (b14, .inl (G.2 1, 3200, .inr (.inl b16))), (b12, .inl (G.2 0, 400, .inl b22)), (b1, .inr (5, [.int b23, .int b24, .ref b25, .ref b26, .ref b27, .ref b28, .ref b29, .ref b30, .int b31, .ref b32, .ref b33, .ref b34, .ref b35, .ref b36, .ref b37])), (b2, .inr (5, [.int b38, .int b39, .ref b40, .ref b41, .ref b42, .ref b43, .ref b44, .ref b45, .int b46, .ref b47, .ref b48, .ref b49, .ref b50, .ref b51, .ref b52])), (b9, .inr (6, [.int b18, .int 8, .int 10, .ref b19, .ref b20])), (b19, .inl (G.2 1, 80, .inr (.inl f_2)))]) Z (s3_Sets_forget l G (b8) (b13) (b14) (b15) (b17) hb13 hb17) hl.1 q884 q826 q827 q7 q828 ⟨by decide, by decide, by show _ = some 0; decide +kernel⟩ ⟨Nat.le_of_ble_eq_true rfl, Nat.le_of_ble_eq_true rfl⟩ ⟨Nat.le_of_ble_eq_true rfl, Nat.le_of_ble_eq_true rfl⟩ rfl (Nat.le_of_ble_eq_true rfl) d_Parting_begin_45 hP hD hS hA 1 6 rfl rfl rfl [1, 3] [0, 2, 4, 5, 6, 7, 8] rfl rfl rfl rfl (by decide) (fun v w1 H locs hw_9 hP hD hS => ?_)
      obtain ⟨f_10, rfl, rfl, hf_10⟩ := hw_9
      have hP : va_P G.1 classes [(b0, .inr (8, [.int b3, .int b4, .ref b5, .int b6, .int b7, .ref b8, .ref b9, .ref b10, .ref b11, .ref b12])), (b14, .inl (G.2 1, 3200, .inr (.inl b16))), (b12, .inl (G.2 0, 400, .inl b22)), (b1, .inr (5, [.int b23, .int b24, .ref b25, .ref b26, .ref b27, .ref b28, .ref b29, .ref b30, .int b31, .ref b32, .ref b33, .ref b34, .ref b35, .ref b36, .ref b37])), (b2, .inr (5, [.int b38, .int b39, .ref b40, .ref b41, .ref b42, .ref b43, .ref b44, .ref b45, .int b46, .ref b47, .ref b48, .ref b49, .ref b50, .ref b51, .ref b52])), (b9, .inr (6, [.int b18, .int 8, .int 10, .ref b19, .ref b20])), (b19, .inl (G.2 1, 80, .inr (.inl f_2))), (b8, .inr (6, [.int 0, .int 8, .int 400, .ref b14, .ref b15])), (b15, .inl (G.2 0, 1024, .inl f_10))] H := hP
      have hD := z_tie hP hD rfl
      refine W.widen (k := 0) (n := 0) (Nat.le_of_ble_eq_true rfl) (Nat.le_of_ble_eq_true rfl) ?_
      refine lv_aload_n hx hb d_Parting_begin_48 rfl (lv_at hl 0 rfl) ?_
      refine va_get (D := G.1) (ci := 8) (v := .ref b8) (C := R_Parting) (T := F_Parting) (N := 10) hx hb hts i_Parting hown hK hP 0 rfl rfl 5 (by decide) (hts _ q307) (fun _ h9 => h9) rfl d_Parting_begin_49 ?_
      refine lv_aload_n hx hb d_Parting_begin_52 rfl (lv_at hl 0 rfl) ?_
      refine va_get (D := G.1) (ci := 8) (v := .ref b9) (C := R_Parting) (T := F_Parting) (N := 10) hx hb hts i_Parting hown hK hP 0 rfl rfl 6 (by decide) (hts _ q308) (fun _ h9 => h9) rfl d_Parting_begin_53 ?_
      refine lv_iconst (v := 0) hx hb d_Parting_begin_56 (by decide) ?_
      refine z_callV (index := 84) (As := [.ref b9, .int 0]) (rest := []) (wr := [(b0, .inr (8, [.int b3, .int b4, .ref b5, .int b6, .int b7, .ref b8, .ref b9, .ref b10, .ref b11, .ref b12])), (b12, .inl (G.2 0, 400, .inl b22)), (b1, .inr (5, [.int b23, .int b24, .ref b25, .ref b26, .ref b27, .ref b28, .ref b29, .ref b30, .int b31, .ref b32, .ref b33, .ref b34, .ref b35, .ref b36, .ref b37])), (b2, .inr (5, [.int b38, .int b39, .ref b40, .ref b41, .ref b42, .ref b43, .ref b44, .ref b45, .int b46, .ref b47, .ref b48, .ref b49, .ref b50, .ref b51, .ref b52]))]) Z (s2_Sets_indexOf l G (b8) (b9) (0) (0) (b14) (b15) (b16) (f_10) (b18) (b19) (b20) (f_2) (zI.wk (l' := 0) (h' := 9) zc_0 (by decide)) (zI.wk (l' := 0) (h' := 400) zc_0 (by decide)) hb18 hb16 hf_10 hf_2) hl.1 q885 q831 q832 q7 q833 ⟨by decide, by decide, by show _ = some 2; decide +kernel⟩ ⟨Nat.le_of_ble_eq_true rfl, Nat.le_of_ble_eq_true rfl⟩ ⟨Nat.le_of_ble_eq_true rfl, Nat.le_of_ble_eq_true rfl⟩ rfl (Nat.le_of_ble_eq_true rfl) d_Parting_begin_57 hP hD hS hA 7 6 rfl rfl rfl [7, 1, 8, 5, 6] [0, 2, 3, 4] rfl rfl rfl rfl (by decide) (fun v w1 H locs hw_11 hP hD hS => ?_)
      obtain ⟨x_12, x_13, f_14, f_15, rfl, rfl, hx_12, hx_13, hf_14, hf_15, hfx_16⟩ := hw_11
      have hP : va_P G.1 classes [(b0, .inr (8, [.int b3, .int b4, .ref b5, .int b6, .int b7, .ref b8, .ref b9, .ref b10, .ref b11, .ref b12])), (b12, .inl (G.2 0, 400, .inl b22)), (b1, .inr (5, [.int b23, .int b24, .ref b25, .ref b26, .ref b27, .ref b28, .ref b29, .ref b30, .int b31, .ref b32, .ref b33, .ref b34, .ref b35, .ref b36, .ref b37])), (b2, .inr (5, [.int b38, .int b39, .ref b40, .ref b41, .ref b42, .ref b43, .ref b44, .ref b45, .int b46, .ref b47, .ref b48, .ref b49, .ref b50, .ref b51, .ref b52])), (b8, .inr (6, [.int x_13, .int 8, .int 400, .ref b14, .ref b15])), (b14, .inl (G.2 1, 3200, .inr (.inl f_14))), (b15, .inl (G.2 0, 1024, .inl f_15)), (b9, .inr (6, [.int b18, .int 8, .int 10, .ref b19, .ref b20])), (b19, .inl (G.2 1, 80, .inr (.inl f_2)))] H := hP
      have hD := z_tie hP hD rfl
      refine W.widen (k := 0) (n := 0) (Nat.le_of_ble_eq_true rfl) (Nat.le_of_ble_eq_true rfl) ?_
      refine lv_pop hx hb d_Parting_begin_60 rfl ?_
      refine lv_aload_n hx hb d_Parting_begin_61 rfl (lv_at hl 0 rfl) ?_
      refine va_get (D := G.1) (ci := 8) (v := .ref b12) (C := R_Parting) (T := F_Parting) (N := 10) hx hb hts i_Parting hown hK hP 0 rfl rfl 9 (by decide) (hts _ q311) (fun _ h9 => h9) rfl d_Parting_begin_62 ?_
      refine lv_iconst (v := 0) hx hb d_Parting_begin_65 (by decide) ?_
      refine lv_iconst (v := 0) hx hb d_Parting_begin_66 (by decide) ?_
      refine va_iast hx hb hK hP hD hS 1 0 rfl rfl (i := 0) (z_in rfl) d_Parting_begin_67 (fun H locs hP hD hS => ?_)
      obtain ⟨f_17, hf_17, gf_17, uf_17, hP, hD⟩ := z_newfu 1 hP hD rfl hb22 (zI.wk (l' := 0) (h' := 8) zc_0 (by decide))
      have hP : va_P G.1 classes [(b0, .inr (8, [.int b3, .int b4, .ref b5, .int b6, .int b7, .ref b8, .ref b9, .ref b10, .ref b11, .ref b12])), (b12, .inl (G.2 0, 400, .inl f_17)), (b1, .inr (5, [.int b23, .int b24, .ref b25, .ref b26, .ref b27, .ref b28, .ref b29, .ref b30, .int b31, .ref b32, .ref b33, .ref b34, .ref b35, .ref b36, .ref b37])), (b2, .inr (5, [.int b38, .int b39, .ref b40, .ref b41, .ref b42, .ref b43, .ref b44, .ref b45, .int b46, .ref b47, .ref b48, .ref b49, .ref b50, .ref b51, .ref b52])), (b8, .inr (6, [.int x_13, .int 8, .int 400, .ref b14, .ref b15])), (b14, .inl (G.2 1, 3200, .inr (.inl f_14))), (b15, .inl (G.2 0, 1024, .inl f_15)), (b9, .inr (6, [.int b18, .int 8, .int 10, .ref b19, .ref b20])), (b19, .inl (G.2 1, 80, .inr (.inl f_2)))] H := hP
      have hD := z_tie hP hD rfl
      exact z_vret hx hb hr hlocks (hP.sub [0, 4, 5, 6, 7, 8, 1, 2, 3] rfl) (hD.sub [0, 4, 5, 6, 7, 8, 1, 2, 3] (by decide) rfl) hS (Nat.le_of_ble_eq_true rfl) (Nat.le_of_ble_eq_true rfl) d_Parting_begin_68 ⟨x_13, f_14, f_15, f_2, f_17, rfl, rfl, hx_13, hf_14, hf_15, hf_2, hf_17⟩
    · have _nhc_6 := hc_6
      have ni_18 := (fa_lt _ _).mp (zi_nle hc_6)
      rw [li_0] at ni_18
      have hv_19 : zI b39 1 241 := zI.lt_r zc_0 hb39 (zi_nle hc_6) (by decide)
      refine lv_aload_n hx hb d_Parting_begin_31 rfl (lv_at hl 0 rfl) ?_
      refine va_get (D := G.1) (ci := 8) (v := .ref b9) (C := R_Parting) (T := F_Parting) (N := 10) hx hb hts i_Parting hown hK hP 0 rfl rfl 6 (by decide) (hts _ q308) (fun _ h9 => h9) rfl d_Parting_begin_32 ?_
      refine lv_iconst (v := 0) hx hb d_Parting_begin_35 (by decide) ?_
      refine lv_iconst (v := 1) hx hb d_Parting_begin_36 (by decide) ?_
      refine lv_iconst (v := 0) hx hb d_Parting_begin_37 (by decide) ?_
      refine z_callV (index := 77) (As := [.int 0, .int 1, .int 0]) (rest := []) (wr := [(b0, .inr (8, [.int b3, .int b4, .ref b5, .int b6, .int b7, .ref b8, .ref b9, .ref b10, .ref b11, .ref b12])), (b8, .inr (6, [.int b13, .int 8, .int 400, .ref b14, .ref b15])), (b14, .inl (G.2 1, 3200, .inr (.inl b16))), (b15, .inl (G.2 0, 1024, .inl b17)), (b12, .inl (G.2 0, 400, .inl b22)), (b1, .inr (5, [.int b23, .int b24, .ref b25, .ref b26, .ref b27, .ref b28, .ref b29, .ref b30, .int b31, .ref b32, .ref b33, .ref b34, .ref b35, .ref b36, .ref b37])), (b2, .inr (5, [.int b38, .int b39, .ref b40, .ref b41, .ref b42, .ref b43, .ref b44, .ref b45, .int b46, .ref b47, .ref b48, .ref b49, .ref b50, .ref b51, .ref b52]))]) Z (s3_Sets_put l G (b9) (0) (1) (0) (b18) (b19) (b20) (f_2) (zI.wk (l' := 0) (h' := 9) zc_0 (by decide)) (zI.wk (l' := 0) (h' := 1) zc_1 (by decide)) (zI.wk (l' := 0) (h' := 240) zc_0 (by decide)) hb18 hf_2) hl.1 q883 q710 q711 q7 q712 ⟨by decide, by decide, by show _ = some 3; decide +kernel⟩ ⟨Nat.le_of_ble_eq_true rfl, Nat.le_of_ble_eq_true rfl⟩ ⟨Nat.le_of_ble_eq_true rfl, Nat.le_of_ble_eq_true rfl⟩ rfl (Nat.le_of_ble_eq_true rfl) d_Parting_begin_38 hP hD hS hA 7 6 rfl rfl rfl [7, 8] [0, 1, 2, 3, 4, 5, 6] rfl rfl rfl rfl (by decide) (fun v w1 H locs hw_20 hP hD hS => ?_)
      obtain ⟨f_21, rfl, rfl, hf_21⟩ := hw_20
      have hP : va_P G.1 classes [(b0, .inr (8, [.int b3, .int b4, .ref b5, .int b6, .int b7, .ref b8, .ref b9, .ref b10, .ref b11, .ref b12])), (b8, .inr (6, [.int b13, .int 8, .int 400, .ref b14, .ref b15])), (b14, .inl (G.2 1, 3200, .inr (.inl b16))), (b15, .inl (G.2 0, 1024, .inl b17)), (b12, .inl (G.2 0, 400, .inl b22)), (b1, .inr (5, [.int b23, .int b24, .ref b25, .ref b26, .ref b27, .ref b28, .ref b29, .ref b30, .int b31, .ref b32, .ref b33, .ref b34, .ref b35, .ref b36, .ref b37])), (b2, .inr (5, [.int b38, .int b39, .ref b40, .ref b41, .ref b42, .ref b43, .ref b44, .ref b45, .int b46, .ref b47, .ref b48, .ref b49, .ref b50, .ref b51, .ref b52])), (b9, .inr (6, [.int b18, .int 8, .int 10, .ref b19, .ref b20])), (b19, .inl (G.2 1, 80, .inr (.inl f_21)))] H := hP
      have hD := z_tie hP hD rfl
      refine W.widen (k := 0) (n := 0) (Nat.le_of_ble_eq_true rfl) (Nat.le_of_ble_eq_true rfl) ?_
      refine lv_aload_n hx hb d_Parting_begin_41 rfl (lv_at hl 0 rfl) ?_
      refine va_get (D := G.1) (ci := 8) (v := .ref b8) (C := R_Parting) (T := F_Parting) (N := 10) hx hb hts i_Parting hown hK hP 0 rfl rfl 5 (by decide) (hts _ q307) (fun _ h9 => h9) rfl d_Parting_begin_42 ?_
      refine z_callV (index := 81) (As := []) (rest := []) (wr := [(b0, .inr (8, [.int b3, .int b4, .ref b5, .int b6, .int b7, .ref b8, .ref b9, .ref b10, .ref b11, .ref b12])), (b14, .inl (G.2 1, 3200, .inr (.inl b16))), (b12, .inl (G.2 0, 400, .inl b22)), (b1, .inr (5, [.int b23, .int b24, .ref b25, .ref b26, .ref b27, .ref b28, .ref b29, .ref b30, .int b31, .ref b32, .ref b33, .ref b34, .ref b35, .ref b36, .ref b37])), (b2, .inr (5, [.int b38, .int b39, .ref b40, .ref b41, .ref b42, .ref b43, .ref b44, .ref b45, .int b46, .ref b47, .ref b48, .ref b49, .ref b50, .ref b51, .ref b52])), (b9, .inr (6, [.int b18, .int 8, .int 10, .ref b19, .ref b20])), (b19, .inl (G.2 1, 80, .inr (.inl f_21)))]) Z (s3_Sets_forget l G (b8) (b13) (b14) (b15) (b17) hb13 hb17) hl.1 q884 q826 q827 q7 q828 ⟨by decide, by decide, by show _ = some 0; decide +kernel⟩ ⟨Nat.le_of_ble_eq_true rfl, Nat.le_of_ble_eq_true rfl⟩ ⟨Nat.le_of_ble_eq_true rfl, Nat.le_of_ble_eq_true rfl⟩ rfl (Nat.le_of_ble_eq_true rfl) d_Parting_begin_45 hP hD hS hA 1 6 rfl rfl rfl [1, 3] [0, 2, 4, 5, 6, 7, 8] rfl rfl rfl rfl (by decide) (fun v w1 H locs hw_22 hP hD hS => ?_)
      obtain ⟨f_23, rfl, rfl, hf_23⟩ := hw_22
      have hP : va_P G.1 classes [(b0, .inr (8, [.int b3, .int b4, .ref b5, .int b6, .int b7, .ref b8, .ref b9, .ref b10, .ref b11, .ref b12])), (b14, .inl (G.2 1, 3200, .inr (.inl b16))), (b12, .inl (G.2 0, 400, .inl b22)), (b1, .inr (5, [.int b23, .int b24, .ref b25, .ref b26, .ref b27, .ref b28, .ref b29, .ref b30, .int b31, .ref b32, .ref b33, .ref b34, .ref b35, .ref b36, .ref b37])), (b2, .inr (5, [.int b38, .int b39, .ref b40, .ref b41, .ref b42, .ref b43, .ref b44, .ref b45, .int b46, .ref b47, .ref b48, .ref b49, .ref b50, .ref b51, .ref b52])), (b9, .inr (6, [.int b18, .int 8, .int 10, .ref b19, .ref b20])), (b19, .inl (G.2 1, 80, .inr (.inl f_21))), (b8, .inr (6, [.int 0, .int 8, .int 400, .ref b14, .ref b15])), (b15, .inl (G.2 0, 1024, .inl f_23))] H := hP
      have hD := z_tie hP hD rfl
      refine W.widen (k := 0) (n := 0) (Nat.le_of_ble_eq_true rfl) (Nat.le_of_ble_eq_true rfl) ?_
      refine lv_aload_n hx hb d_Parting_begin_48 rfl (lv_at hl 0 rfl) ?_
      refine va_get (D := G.1) (ci := 8) (v := .ref b8) (C := R_Parting) (T := F_Parting) (N := 10) hx hb hts i_Parting hown hK hP 0 rfl rfl 5 (by decide) (hts _ q307) (fun _ h9 => h9) rfl d_Parting_begin_49 ?_
      refine lv_aload_n hx hb d_Parting_begin_52 rfl (lv_at hl 0 rfl) ?_
      refine va_get (D := G.1) (ci := 8) (v := .ref b9) (C := R_Parting) (T := F_Parting) (N := 10) hx hb hts i_Parting hown hK hP 0 rfl rfl 6 (by decide) (hts _ q308) (fun _ h9 => h9) rfl d_Parting_begin_53 ?_
      refine lv_iconst (v := 0) hx hb d_Parting_begin_56 (by decide) ?_
      refine z_callV (index := 84) (As := [.ref b9, .int 0]) (rest := []) (wr := [(b0, .inr (8, [.int b3, .int b4, .ref b5, .int b6, .int b7, .ref b8, .ref b9, .ref b10, .ref b11, .ref b12])), (b12, .inl (G.2 0, 400, .inl b22)), (b1, .inr (5, [.int b23, .int b24, .ref b25, .ref b26, .ref b27, .ref b28, .ref b29, .ref b30, .int b31, .ref b32, .ref b33, .ref b34, .ref b35, .ref b36, .ref b37])), (b2, .inr (5, [.int b38, .int b39, .ref b40, .ref b41, .ref b42, .ref b43, .ref b44, .ref b45, .int b46, .ref b47, .ref b48, .ref b49, .ref b50, .ref b51, .ref b52]))]) Z (s2_Sets_indexOf l G (b8) (b9) (0) (0) (b14) (b15) (b16) (f_23) (b18) (b19) (b20) (f_21) (zI.wk (l' := 0) (h' := 9) zc_0 (by decide)) (zI.wk (l' := 0) (h' := 400) zc_0 (by decide)) hb18 hb16 hf_23 hf_21) hl.1 q885 q831 q832 q7 q833 ⟨by decide, by decide, by show _ = some 2; decide +kernel⟩ ⟨Nat.le_of_ble_eq_true rfl, Nat.le_of_ble_eq_true rfl⟩ ⟨Nat.le_of_ble_eq_true rfl, Nat.le_of_ble_eq_true rfl⟩ rfl (Nat.le_of_ble_eq_true rfl) d_Parting_begin_57 hP hD hS hA 7 6 rfl rfl rfl [7, 1, 8, 5, 6] [0, 2, 3, 4] rfl rfl rfl rfl (by decide) (fun v w1 H locs hw_24 hP hD hS => ?_)
      obtain ⟨x_25, x_26, f_27, f_28, rfl, rfl, hx_25, hx_26, hf_27, hf_28, hfx_29⟩ := hw_24
      have hP : va_P G.1 classes [(b0, .inr (8, [.int b3, .int b4, .ref b5, .int b6, .int b7, .ref b8, .ref b9, .ref b10, .ref b11, .ref b12])), (b12, .inl (G.2 0, 400, .inl b22)), (b1, .inr (5, [.int b23, .int b24, .ref b25, .ref b26, .ref b27, .ref b28, .ref b29, .ref b30, .int b31, .ref b32, .ref b33, .ref b34, .ref b35, .ref b36, .ref b37])), (b2, .inr (5, [.int b38, .int b39, .ref b40, .ref b41, .ref b42, .ref b43, .ref b44, .ref b45, .int b46, .ref b47, .ref b48, .ref b49, .ref b50, .ref b51, .ref b52])), (b8, .inr (6, [.int x_26, .int 8, .int 400, .ref b14, .ref b15])), (b14, .inl (G.2 1, 3200, .inr (.inl f_27))), (b15, .inl (G.2 0, 1024, .inl f_28)), (b9, .inr (6, [.int b18, .int 8, .int 10, .ref b19, .ref b20])), (b19, .inl (G.2 1, 80, .inr (.inl f_21)))] H := hP
      have hD := z_tie hP hD rfl
      refine W.widen (k := 0) (n := 0) (Nat.le_of_ble_eq_true rfl) (Nat.le_of_ble_eq_true rfl) ?_
      refine lv_pop hx hb d_Parting_begin_60 rfl ?_
      refine lv_aload_n hx hb d_Parting_begin_61 rfl (lv_at hl 0 rfl) ?_
      refine va_get (D := G.1) (ci := 8) (v := .ref b12) (C := R_Parting) (T := F_Parting) (N := 10) hx hb hts i_Parting hown hK hP 0 rfl rfl 9 (by decide) (hts _ q311) (fun _ h9 => h9) rfl d_Parting_begin_62 ?_
      refine lv_iconst (v := 0) hx hb d_Parting_begin_65 (by decide) ?_
      refine lv_iconst (v := 0) hx hb d_Parting_begin_66 (by decide) ?_
      refine va_iast hx hb hK hP hD hS 1 0 rfl rfl (i := 0) (z_in rfl) d_Parting_begin_67 (fun H locs hP hD hS => ?_)
      obtain ⟨f_30, hf_30, gf_30, uf_30, hP, hD⟩ := z_newfu 1 hP hD rfl hb22 (zI.wk (l' := 0) (h' := 8) zc_0 (by decide))
      have hP : va_P G.1 classes [(b0, .inr (8, [.int b3, .int b4, .ref b5, .int b6, .int b7, .ref b8, .ref b9, .ref b10, .ref b11, .ref b12])), (b12, .inl (G.2 0, 400, .inl f_30)), (b1, .inr (5, [.int b23, .int b24, .ref b25, .ref b26, .ref b27, .ref b28, .ref b29, .ref b30, .int b31, .ref b32, .ref b33, .ref b34, .ref b35, .ref b36, .ref b37])), (b2, .inr (5, [.int b38, .int b39, .ref b40, .ref b41, .ref b42, .ref b43, .ref b44, .ref b45, .int b46, .ref b47, .ref b48, .ref b49, .ref b50, .ref b51, .ref b52])), (b8, .inr (6, [.int x_26, .int 8, .int 400, .ref b14, .ref b15])), (b14, .inl (G.2 1, 3200, .inr (.inl f_27))), (b15, .inl (G.2 0, 1024, .inl f_28)), (b9, .inr (6, [.int b18, .int 8, .int 10, .ref b19, .ref b20])), (b19, .inl (G.2 1, 80, .inr (.inl f_21)))] H := hP
      have hD := z_tie hP hD rfl
      exact z_vret hx hb hr hlocks (hP.sub [0, 4, 5, 6, 7, 8, 1, 2, 3] rfl) (hD.sub [0, 4, 5, 6, 7, 8, 1, 2, 3] (by decide) rfl) hS (Nat.le_of_ble_eq_true rfl) (Nat.le_of_ble_eq_true rfl) d_Parting_begin_68 ⟨x_26, f_27, f_28, f_21, f_30, rfl, rfl, hx_26, hf_27, hf_28, hf_21, hf_30⟩
  · have _nhc_3 := hc_3
    have ni_31 := (fa_lt _ _).mp (zi_nle hc_3)
    rw [li_0] at ni_31
    have hv_32 : zI b24 1 241 := zI.lt_r zc_0 hb24 (zi_nle hc_3) (by decide)
    refine lv_aload_n hx hb d_Parting_begin_14 rfl (lv_at hl 0 rfl) ?_
    refine va_get (D := G.1) (ci := 8) (v := .ref b9) (C := R_Parting) (T := F_Parting) (N := 10) hx hb hts i_Parting hown hK hP 0 rfl rfl 6 (by decide) (hts _ q308) (fun _ h9 => h9) rfl d_Parting_begin_15 ?_
    refine lv_iconst (v := 0) hx hb d_Parting_begin_18 (by decide) ?_
    refine lv_iconst (v := 0) hx hb d_Parting_begin_19 (by decide) ?_
    refine lv_iconst (v := 0) hx hb d_Parting_begin_20 (by decide) ?_
    refine z_callV (index := 77) (As := [.int 0, .int 0, .int 0]) (rest := []) (wr := [(b0, .inr (8, [.int b3, .int b4, .ref b5, .int b6, .int b7, .ref b8, .ref b9, .ref b10, .ref b11, .ref b12])), (b8, .inr (6, [.int b13, .int 8, .int 400, .ref b14, .ref b15])), (b14, .inl (G.2 1, 3200, .inr (.inl b16))), (b15, .inl (G.2 0, 1024, .inl b17)), (b12, .inl (G.2 0, 400, .inl b22)), (b1, .inr (5, [.int b23, .int b24, .ref b25, .ref b26, .ref b27, .ref b28, .ref b29, .ref b30, .int b31, .ref b32, .ref b33, .ref b34, .ref b35, .ref b36, .ref b37])), (b2, .inr (5, [.int b38, .int b39, .ref b40, .ref b41, .ref b42, .ref b43, .ref b44, .ref b45, .int b46, .ref b47, .ref b48, .ref b49, .ref b50, .ref b51, .ref b52]))]) Z (s3_Sets_put l G (b9) (0) (0) (0) (b18) (b19) (b20) (f_2) (zI.wk (l' := 0) (h' := 9) zc_0 (by decide)) (zI.wk (l' := 0) (h' := 1) zc_0 (by decide)) (zI.wk (l' := 0) (h' := 240) zc_0 (by decide)) hb18 hf_2) hl.1 q883 q710 q711 q7 q712 ⟨by decide, by decide, by show _ = some 3; decide +kernel⟩ ⟨Nat.le_of_ble_eq_true rfl, Nat.le_of_ble_eq_true rfl⟩ ⟨Nat.le_of_ble_eq_true rfl, Nat.le_of_ble_eq_true rfl⟩ rfl (Nat.le_of_ble_eq_true rfl) d_Parting_begin_21 hP hD hS hA 7 6 rfl rfl rfl [7, 8] [0, 1, 2, 3, 4, 5, 6] rfl rfl rfl rfl (by decide) (fun v w1 H locs hw_33 hP hD hS => ?_)
    obtain ⟨f_34, rfl, rfl, hf_34⟩ := hw_33
    have hP : va_P G.1 classes [(b0, .inr (8, [.int b3, .int b4, .ref b5, .int b6, .int b7, .ref b8, .ref b9, .ref b10, .ref b11, .ref b12])), (b8, .inr (6, [.int b13, .int 8, .int 400, .ref b14, .ref b15])), (b14, .inl (G.2 1, 3200, .inr (.inl b16))), (b15, .inl (G.2 0, 1024, .inl b17)), (b12, .inl (G.2 0, 400, .inl b22)), (b1, .inr (5, [.int b23, .int b24, .ref b25, .ref b26, .ref b27, .ref b28, .ref b29, .ref b30, .int b31, .ref b32, .ref b33, .ref b34, .ref b35, .ref b36, .ref b37])), (b2, .inr (5, [.int b38, .int b39, .ref b40, .ref b41, .ref b42, .ref b43, .ref b44, .ref b45, .int b46, .ref b47, .ref b48, .ref b49, .ref b50, .ref b51, .ref b52])), (b9, .inr (6, [.int b18, .int 8, .int 10, .ref b19, .ref b20])), (b19, .inl (G.2 1, 80, .inr (.inl f_34)))] H := hP
    have hD := z_tie hP hD rfl
    refine W.widen (k := 0) (n := 0) (Nat.le_of_ble_eq_true rfl) (Nat.le_of_ble_eq_true rfl) ?_
    refine lv_aload_n hx hb d_Parting_begin_24 rfl (lv_at hl 2 rfl) ?_
    refine va_get (D := G.1) (ci := 5) (v := .int b39) (C := R_Machine) (T := F_Machine) (N := 15) hx hb hts i_Machine hown hK hP 6 rfl rfl 1 (by decide) (hts _ q167) (fun _ h9 => h9) rfl d_Parting_begin_25 ?_
    refine lv_if_le (tgt := 41) hx hb d_Parting_begin_28 (by decide) (fun hc_35 => ?_) (fun hc_35 => ?_)
    · have _nhc_35 := hc_35
      have ni_36 := (fa_le _ _).mp hc_35
      rw [li_0] at ni_36
      have hv_37 : zI b39 0 0 := zI.le_l hb39 zc_0 hc_35 (by decide)
      refine lv_aload_n hx hb d_Parting_begin_41 rfl (lv_at hl 0 rfl) ?_
      refine va_get (D := G.1) (ci := 8) (v := .ref b8) (C := R_Parting) (T := F_Parting) (N := 10) hx hb hts i_Parting hown hK hP 0 rfl rfl 5 (by decide) (hts _ q307) (fun _ h9 => h9) rfl d_Parting_begin_42 ?_
      refine z_callV (index := 81) (As := []) (rest := []) (wr := [(b0, .inr (8, [.int b3, .int b4, .ref b5, .int b6, .int b7, .ref b8, .ref b9, .ref b10, .ref b11, .ref b12])), (b14, .inl (G.2 1, 3200, .inr (.inl b16))), (b12, .inl (G.2 0, 400, .inl b22)), (b1, .inr (5, [.int b23, .int b24, .ref b25, .ref b26, .ref b27, .ref b28, .ref b29, .ref b30, .int b31, .ref b32, .ref b33, .ref b34, .ref b35, .ref b36, .ref b37])), (b2, .inr (5, [.int b38, .int b39, .ref b40, .ref b41, .ref b42, .ref b43, .ref b44, .ref b45, .int b46, .ref b47, .ref b48, .ref b49, .ref b50, .ref b51, .ref b52])), (b9, .inr (6, [.int b18, .int 8, .int 10, .ref b19, .ref b20])), (b19, .inl (G.2 1, 80, .inr (.inl f_34)))]) Z (s3_Sets_forget l G (b8) (b13) (b14) (b15) (b17) hb13 hb17) hl.1 q884 q826 q827 q7 q828 ⟨by decide, by decide, by show _ = some 0; decide +kernel⟩ ⟨Nat.le_of_ble_eq_true rfl, Nat.le_of_ble_eq_true rfl⟩ ⟨Nat.le_of_ble_eq_true rfl, Nat.le_of_ble_eq_true rfl⟩ rfl (Nat.le_of_ble_eq_true rfl) d_Parting_begin_45 hP hD hS hA 1 6 rfl rfl rfl [1, 3] [0, 2, 4, 5, 6, 7, 8] rfl rfl rfl rfl (by decide) (fun v w1 H locs hw_38 hP hD hS => ?_)
      obtain ⟨f_39, rfl, rfl, hf_39⟩ := hw_38
      have hP : va_P G.1 classes [(b0, .inr (8, [.int b3, .int b4, .ref b5, .int b6, .int b7, .ref b8, .ref b9, .ref b10, .ref b11, .ref b12])), (b14, .inl (G.2 1, 3200, .inr (.inl b16))), (b12, .inl (G.2 0, 400, .inl b22)), (b1, .inr (5, [.int b23, .int b24, .ref b25, .ref b26, .ref b27, .ref b28, .ref b29, .ref b30, .int b31, .ref b32, .ref b33, .ref b34, .ref b35, .ref b36, .ref b37])), (b2, .inr (5, [.int b38, .int b39, .ref b40, .ref b41, .ref b42, .ref b43, .ref b44, .ref b45, .int b46, .ref b47, .ref b48, .ref b49, .ref b50, .ref b51, .ref b52])), (b9, .inr (6, [.int b18, .int 8, .int 10, .ref b19, .ref b20])), (b19, .inl (G.2 1, 80, .inr (.inl f_34))), (b8, .inr (6, [.int 0, .int 8, .int 400, .ref b14, .ref b15])), (b15, .inl (G.2 0, 1024, .inl f_39))] H := hP
      have hD := z_tie hP hD rfl
      refine W.widen (k := 0) (n := 0) (Nat.le_of_ble_eq_true rfl) (Nat.le_of_ble_eq_true rfl) ?_
      refine lv_aload_n hx hb d_Parting_begin_48 rfl (lv_at hl 0 rfl) ?_
      refine va_get (D := G.1) (ci := 8) (v := .ref b8) (C := R_Parting) (T := F_Parting) (N := 10) hx hb hts i_Parting hown hK hP 0 rfl rfl 5 (by decide) (hts _ q307) (fun _ h9 => h9) rfl d_Parting_begin_49 ?_
      refine lv_aload_n hx hb d_Parting_begin_52 rfl (lv_at hl 0 rfl) ?_
      refine va_get (D := G.1) (ci := 8) (v := .ref b9) (C := R_Parting) (T := F_Parting) (N := 10) hx hb hts i_Parting hown hK hP 0 rfl rfl 6 (by decide) (hts _ q308) (fun _ h9 => h9) rfl d_Parting_begin_53 ?_
      refine lv_iconst (v := 0) hx hb d_Parting_begin_56 (by decide) ?_
      refine z_callV (index := 84) (As := [.ref b9, .int 0]) (rest := []) (wr := [(b0, .inr (8, [.int b3, .int b4, .ref b5, .int b6, .int b7, .ref b8, .ref b9, .ref b10, .ref b11, .ref b12])), (b12, .inl (G.2 0, 400, .inl b22)), (b1, .inr (5, [.int b23, .int b24, .ref b25, .ref b26, .ref b27, .ref b28, .ref b29, .ref b30, .int b31, .ref b32, .ref b33, .ref b34, .ref b35, .ref b36, .ref b37])), (b2, .inr (5, [.int b38, .int b39, .ref b40, .ref b41, .ref b42, .ref b43, .ref b44, .ref b45, .int b46, .ref b47, .ref b48, .ref b49, .ref b50, .ref b51, .ref b52]))]) Z (s2_Sets_indexOf l G (b8) (b9) (0) (0) (b14) (b15) (b16) (f_39) (b18) (b19) (b20) (f_34) (zI.wk (l' := 0) (h' := 9) zc_0 (by decide)) (zI.wk (l' := 0) (h' := 400) zc_0 (by decide)) hb18 hb16 hf_39 hf_34) hl.1 q885 q831 q832 q7 q833 ⟨by decide, by decide, by show _ = some 2; decide +kernel⟩ ⟨Nat.le_of_ble_eq_true rfl, Nat.le_of_ble_eq_true rfl⟩ ⟨Nat.le_of_ble_eq_true rfl, Nat.le_of_ble_eq_true rfl⟩ rfl (Nat.le_of_ble_eq_true rfl) d_Parting_begin_57 hP hD hS hA 7 6 rfl rfl rfl [7, 1, 8, 5, 6] [0, 2, 3, 4] rfl rfl rfl rfl (by decide) (fun v w1 H locs hw_40 hP hD hS => ?_)
      obtain ⟨x_41, x_42, f_43, f_44, rfl, rfl, hx_41, hx_42, hf_43, hf_44, hfx_45⟩ := hw_40
      have hP : va_P G.1 classes [(b0, .inr (8, [.int b3, .int b4, .ref b5, .int b6, .int b7, .ref b8, .ref b9, .ref b10, .ref b11, .ref b12])), (b12, .inl (G.2 0, 400, .inl b22)), (b1, .inr (5, [.int b23, .int b24, .ref b25, .ref b26, .ref b27, .ref b28, .ref b29, .ref b30, .int b31, .ref b32, .ref b33, .ref b34, .ref b35, .ref b36, .ref b37])), (b2, .inr (5, [.int b38, .int b39, .ref b40, .ref b41, .ref b42, .ref b43, .ref b44, .ref b45, .int b46, .ref b47, .ref b48, .ref b49, .ref b50, .ref b51, .ref b52])), (b8, .inr (6, [.int x_42, .int 8, .int 400, .ref b14, .ref b15])), (b14, .inl (G.2 1, 3200, .inr (.inl f_43))), (b15, .inl (G.2 0, 1024, .inl f_44)), (b9, .inr (6, [.int b18, .int 8, .int 10, .ref b19, .ref b20])), (b19, .inl (G.2 1, 80, .inr (.inl f_34)))] H := hP
      have hD := z_tie hP hD rfl
      refine W.widen (k := 0) (n := 0) (Nat.le_of_ble_eq_true rfl) (Nat.le_of_ble_eq_true rfl) ?_
      refine lv_pop hx hb d_Parting_begin_60 rfl ?_
      refine lv_aload_n hx hb d_Parting_begin_61 rfl (lv_at hl 0 rfl) ?_
      refine va_get (D := G.1) (ci := 8) (v := .ref b12) (C := R_Parting) (T := F_Parting) (N := 10) hx hb hts i_Parting hown hK hP 0 rfl rfl 9 (by decide) (hts _ q311) (fun _ h9 => h9) rfl d_Parting_begin_62 ?_
      refine lv_iconst (v := 0) hx hb d_Parting_begin_65 (by decide) ?_
      refine lv_iconst (v := 0) hx hb d_Parting_begin_66 (by decide) ?_
      refine va_iast hx hb hK hP hD hS 1 0 rfl rfl (i := 0) (z_in rfl) d_Parting_begin_67 (fun H locs hP hD hS => ?_)
      obtain ⟨f_46, hf_46, gf_46, uf_46, hP, hD⟩ := z_newfu 1 hP hD rfl hb22 (zI.wk (l' := 0) (h' := 8) zc_0 (by decide))
      have hP : va_P G.1 classes [(b0, .inr (8, [.int b3, .int b4, .ref b5, .int b6, .int b7, .ref b8, .ref b9, .ref b10, .ref b11, .ref b12])), (b12, .inl (G.2 0, 400, .inl f_46)), (b1, .inr (5, [.int b23, .int b24, .ref b25, .ref b26, .ref b27, .ref b28, .ref b29, .ref b30, .int b31, .ref b32, .ref b33, .ref b34, .ref b35, .ref b36, .ref b37])), (b2, .inr (5, [.int b38, .int b39, .ref b40, .ref b41, .ref b42, .ref b43, .ref b44, .ref b45, .int b46, .ref b47, .ref b48, .ref b49, .ref b50, .ref b51, .ref b52])), (b8, .inr (6, [.int x_42, .int 8, .int 400, .ref b14, .ref b15])), (b14, .inl (G.2 1, 3200, .inr (.inl f_43))), (b15, .inl (G.2 0, 1024, .inl f_44)), (b9, .inr (6, [.int b18, .int 8, .int 10, .ref b19, .ref b20])), (b19, .inl (G.2 1, 80, .inr (.inl f_34)))] H := hP
      have hD := z_tie hP hD rfl
      exact z_vret hx hb hr hlocks (hP.sub [0, 4, 5, 6, 7, 8, 1, 2, 3] rfl) (hD.sub [0, 4, 5, 6, 7, 8, 1, 2, 3] (by decide) rfl) hS (Nat.le_of_ble_eq_true rfl) (Nat.le_of_ble_eq_true rfl) d_Parting_begin_68 ⟨x_42, f_43, f_44, f_34, f_46, rfl, rfl, hx_42, hf_43, hf_44, hf_34, hf_46⟩
    · have _nhc_35 := hc_35
      have ni_47 := (fa_lt _ _).mp (zi_nle hc_35)
      rw [li_0] at ni_47
      have hv_48 : zI b39 1 241 := zI.lt_r zc_0 hb39 (zi_nle hc_35) (by decide)
      refine lv_aload_n hx hb d_Parting_begin_31 rfl (lv_at hl 0 rfl) ?_
      refine va_get (D := G.1) (ci := 8) (v := .ref b9) (C := R_Parting) (T := F_Parting) (N := 10) hx hb hts i_Parting hown hK hP 0 rfl rfl 6 (by decide) (hts _ q308) (fun _ h9 => h9) rfl d_Parting_begin_32 ?_
      refine lv_iconst (v := 0) hx hb d_Parting_begin_35 (by decide) ?_
      refine lv_iconst (v := 1) hx hb d_Parting_begin_36 (by decide) ?_
      refine lv_iconst (v := 0) hx hb d_Parting_begin_37 (by decide) ?_
      refine z_callV (index := 77) (As := [.int 0, .int 1, .int 0]) (rest := []) (wr := [(b0, .inr (8, [.int b3, .int b4, .ref b5, .int b6, .int b7, .ref b8, .ref b9, .ref b10, .ref b11, .ref b12])), (b8, .inr (6, [.int b13, .int 8, .int 400, .ref b14, .ref b15])), (b14, .inl (G.2 1, 3200, .inr (.inl b16))), (b15, .inl (G.2 0, 1024, .inl b17)), (b12, .inl (G.2 0, 400, .inl b22)), (b1, .inr (5, [.int b23, .int b24, .ref b25, .ref b26, .ref b27, .ref b28, .ref b29, .ref b30, .int b31, .ref b32, .ref b33, .ref b34, .ref b35, .ref b36, .ref b37])), (b2, .inr (5, [.int b38, .int b39, .ref b40, .ref b41, .ref b42, .ref b43, .ref b44, .ref b45, .int b46, .ref b47, .ref b48, .ref b49, .ref b50, .ref b51, .ref b52]))]) Z (s3_Sets_put l G (b9) (0) (1) (0) (b18) (b19) (b20) (f_34) (zI.wk (l' := 0) (h' := 9) zc_0 (by decide)) (zI.wk (l' := 0) (h' := 1) zc_1 (by decide)) (zI.wk (l' := 0) (h' := 240) zc_0 (by decide)) hb18 hf_34) hl.1 q883 q710 q711 q7 q712 ⟨by decide, by decide, by show _ = some 3; decide +kernel⟩ ⟨Nat.le_of_ble_eq_true rfl, Nat.le_of_ble_eq_true rfl⟩ ⟨Nat.le_of_ble_eq_true rfl, Nat.le_of_ble_eq_true rfl⟩ rfl (Nat.le_of_ble_eq_true rfl) d_Parting_begin_38 hP hD hS hA 7 6 rfl rfl rfl [7, 8] [0, 1, 2, 3, 4, 5, 6] rfl rfl rfl rfl (by decide) (fun v w1 H locs hw_49 hP hD hS => ?_)
      obtain ⟨f_50, rfl, rfl, hf_50⟩ := hw_49
      have hP : va_P G.1 classes [(b0, .inr (8, [.int b3, .int b4, .ref b5, .int b6, .int b7, .ref b8, .ref b9, .ref b10, .ref b11, .ref b12])), (b8, .inr (6, [.int b13, .int 8, .int 400, .ref b14, .ref b15])), (b14, .inl (G.2 1, 3200, .inr (.inl b16))), (b15, .inl (G.2 0, 1024, .inl b17)), (b12, .inl (G.2 0, 400, .inl b22)), (b1, .inr (5, [.int b23, .int b24, .ref b25, .ref b26, .ref b27, .ref b28, .ref b29, .ref b30, .int b31, .ref b32, .ref b33, .ref b34, .ref b35, .ref b36, .ref b37])), (b2, .inr (5, [.int b38, .int b39, .ref b40, .ref b41, .ref b42, .ref b43, .ref b44, .ref b45, .int b46, .ref b47, .ref b48, .ref b49, .ref b50, .ref b51, .ref b52])), (b9, .inr (6, [.int b18, .int 8, .int 10, .ref b19, .ref b20])), (b19, .inl (G.2 1, 80, .inr (.inl f_50)))] H := hP
      have hD := z_tie hP hD rfl
      refine W.widen (k := 0) (n := 0) (Nat.le_of_ble_eq_true rfl) (Nat.le_of_ble_eq_true rfl) ?_
      refine lv_aload_n hx hb d_Parting_begin_41 rfl (lv_at hl 0 rfl) ?_
      refine va_get (D := G.1) (ci := 8) (v := .ref b8) (C := R_Parting) (T := F_Parting) (N := 10) hx hb hts i_Parting hown hK hP 0 rfl rfl 5 (by decide) (hts _ q307) (fun _ h9 => h9) rfl d_Parting_begin_42 ?_
      refine z_callV (index := 81) (As := []) (rest := []) (wr := [(b0, .inr (8, [.int b3, .int b4, .ref b5, .int b6, .int b7, .ref b8, .ref b9, .ref b10, .ref b11, .ref b12])), (b14, .inl (G.2 1, 3200, .inr (.inl b16))), (b12, .inl (G.2 0, 400, .inl b22)), (b1, .inr (5, [.int b23, .int b24, .ref b25, .ref b26, .ref b27, .ref b28, .ref b29, .ref b30, .int b31, .ref b32, .ref b33, .ref b34, .ref b35, .ref b36, .ref b37])), (b2, .inr (5, [.int b38, .int b39, .ref b40, .ref b41, .ref b42, .ref b43, .ref b44, .ref b45, .int b46, .ref b47, .ref b48, .ref b49, .ref b50, .ref b51, .ref b52])), (b9, .inr (6, [.int b18, .int 8, .int 10, .ref b19, .ref b20])), (b19, .inl (G.2 1, 80, .inr (.inl f_50)))]) Z (s3_Sets_forget l G (b8) (b13) (b14) (b15) (b17) hb13 hb17) hl.1 q884 q826 q827 q7 q828 ⟨by decide, by decide, by show _ = some 0; decide +kernel⟩ ⟨Nat.le_of_ble_eq_true rfl, Nat.le_of_ble_eq_true rfl⟩ ⟨Nat.le_of_ble_eq_true rfl, Nat.le_of_ble_eq_true rfl⟩ rfl (Nat.le_of_ble_eq_true rfl) d_Parting_begin_45 hP hD hS hA 1 6 rfl rfl rfl [1, 3] [0, 2, 4, 5, 6, 7, 8] rfl rfl rfl rfl (by decide) (fun v w1 H locs hw_51 hP hD hS => ?_)
      obtain ⟨f_52, rfl, rfl, hf_52⟩ := hw_51
      have hP : va_P G.1 classes [(b0, .inr (8, [.int b3, .int b4, .ref b5, .int b6, .int b7, .ref b8, .ref b9, .ref b10, .ref b11, .ref b12])), (b14, .inl (G.2 1, 3200, .inr (.inl b16))), (b12, .inl (G.2 0, 400, .inl b22)), (b1, .inr (5, [.int b23, .int b24, .ref b25, .ref b26, .ref b27, .ref b28, .ref b29, .ref b30, .int b31, .ref b32, .ref b33, .ref b34, .ref b35, .ref b36, .ref b37])), (b2, .inr (5, [.int b38, .int b39, .ref b40, .ref b41, .ref b42, .ref b43, .ref b44, .ref b45, .int b46, .ref b47, .ref b48, .ref b49, .ref b50, .ref b51, .ref b52])), (b9, .inr (6, [.int b18, .int 8, .int 10, .ref b19, .ref b20])), (b19, .inl (G.2 1, 80, .inr (.inl f_50))), (b8, .inr (6, [.int 0, .int 8, .int 400, .ref b14, .ref b15])), (b15, .inl (G.2 0, 1024, .inl f_52))] H := hP
      have hD := z_tie hP hD rfl
      refine W.widen (k := 0) (n := 0) (Nat.le_of_ble_eq_true rfl) (Nat.le_of_ble_eq_true rfl) ?_
      refine lv_aload_n hx hb d_Parting_begin_48 rfl (lv_at hl 0 rfl) ?_
      refine va_get (D := G.1) (ci := 8) (v := .ref b8) (C := R_Parting) (T := F_Parting) (N := 10) hx hb hts i_Parting hown hK hP 0 rfl rfl 5 (by decide) (hts _ q307) (fun _ h9 => h9) rfl d_Parting_begin_49 ?_
      refine lv_aload_n hx hb d_Parting_begin_52 rfl (lv_at hl 0 rfl) ?_
      refine va_get (D := G.1) (ci := 8) (v := .ref b9) (C := R_Parting) (T := F_Parting) (N := 10) hx hb hts i_Parting hown hK hP 0 rfl rfl 6 (by decide) (hts _ q308) (fun _ h9 => h9) rfl d_Parting_begin_53 ?_
      refine lv_iconst (v := 0) hx hb d_Parting_begin_56 (by decide) ?_
      refine z_callV (index := 84) (As := [.ref b9, .int 0]) (rest := []) (wr := [(b0, .inr (8, [.int b3, .int b4, .ref b5, .int b6, .int b7, .ref b8, .ref b9, .ref b10, .ref b11, .ref b12])), (b12, .inl (G.2 0, 400, .inl b22)), (b1, .inr (5, [.int b23, .int b24, .ref b25, .ref b26, .ref b27, .ref b28, .ref b29, .ref b30, .int b31, .ref b32, .ref b33, .ref b34, .ref b35, .ref b36, .ref b37])), (b2, .inr (5, [.int b38, .int b39, .ref b40, .ref b41, .ref b42, .ref b43, .ref b44, .ref b45, .int b46, .ref b47, .ref b48, .ref b49, .ref b50, .ref b51, .ref b52]))]) Z (s2_Sets_indexOf l G (b8) (b9) (0) (0) (b14) (b15) (b16) (f_52) (b18) (b19) (b20) (f_50) (zI.wk (l' := 0) (h' := 9) zc_0 (by decide)) (zI.wk (l' := 0) (h' := 400) zc_0 (by decide)) hb18 hb16 hf_52 hf_50) hl.1 q885 q831 q832 q7 q833 ⟨by decide, by decide, by show _ = some 2; decide +kernel⟩ ⟨Nat.le_of_ble_eq_true rfl, Nat.le_of_ble_eq_true rfl⟩ ⟨Nat.le_of_ble_eq_true rfl, Nat.le_of_ble_eq_true rfl⟩ rfl (Nat.le_of_ble_eq_true rfl) d_Parting_begin_57 hP hD hS hA 7 6 rfl rfl rfl [7, 1, 8, 5, 6] [0, 2, 3, 4] rfl rfl rfl rfl (by decide) (fun v w1 H locs hw_53 hP hD hS => ?_)
      obtain ⟨x_54, x_55, f_56, f_57, rfl, rfl, hx_54, hx_55, hf_56, hf_57, hfx_58⟩ := hw_53
      have hP : va_P G.1 classes [(b0, .inr (8, [.int b3, .int b4, .ref b5, .int b6, .int b7, .ref b8, .ref b9, .ref b10, .ref b11, .ref b12])), (b12, .inl (G.2 0, 400, .inl b22)), (b1, .inr (5, [.int b23, .int b24, .ref b25, .ref b26, .ref b27, .ref b28, .ref b29, .ref b30, .int b31, .ref b32, .ref b33, .ref b34, .ref b35, .ref b36, .ref b37])), (b2, .inr (5, [.int b38, .int b39, .ref b40, .ref b41, .ref b42, .ref b43, .ref b44, .ref b45, .int b46, .ref b47, .ref b48, .ref b49, .ref b50, .ref b51, .ref b52])), (b8, .inr (6, [.int x_55, .int 8, .int 400, .ref b14, .ref b15])), (b14, .inl (G.2 1, 3200, .inr (.inl f_56))), (b15, .inl (G.2 0, 1024, .inl f_57)), (b9, .inr (6, [.int b18, .int 8, .int 10, .ref b19, .ref b20])), (b19, .inl (G.2 1, 80, .inr (.inl f_50)))] H := hP
      have hD := z_tie hP hD rfl
      refine W.widen (k := 0) (n := 0) (Nat.le_of_ble_eq_true rfl) (Nat.le_of_ble_eq_true rfl) ?_
      refine lv_pop hx hb d_Parting_begin_60 rfl ?_
      refine lv_aload_n hx hb d_Parting_begin_61 rfl (lv_at hl 0 rfl) ?_
      refine va_get (D := G.1) (ci := 8) (v := .ref b12) (C := R_Parting) (T := F_Parting) (N := 10) hx hb hts i_Parting hown hK hP 0 rfl rfl 9 (by decide) (hts _ q311) (fun _ h9 => h9) rfl d_Parting_begin_62 ?_
      refine lv_iconst (v := 0) hx hb d_Parting_begin_65 (by decide) ?_
      refine lv_iconst (v := 0) hx hb d_Parting_begin_66 (by decide) ?_
      refine va_iast hx hb hK hP hD hS 1 0 rfl rfl (i := 0) (z_in rfl) d_Parting_begin_67 (fun H locs hP hD hS => ?_)
      obtain ⟨f_59, hf_59, gf_59, uf_59, hP, hD⟩ := z_newfu 1 hP hD rfl hb22 (zI.wk (l' := 0) (h' := 8) zc_0 (by decide))
      have hP : va_P G.1 classes [(b0, .inr (8, [.int b3, .int b4, .ref b5, .int b6, .int b7, .ref b8, .ref b9, .ref b10, .ref b11, .ref b12])), (b12, .inl (G.2 0, 400, .inl f_59)), (b1, .inr (5, [.int b23, .int b24, .ref b25, .ref b26, .ref b27, .ref b28, .ref b29, .ref b30, .int b31, .ref b32, .ref b33, .ref b34, .ref b35, .ref b36, .ref b37])), (b2, .inr (5, [.int b38, .int b39, .ref b40, .ref b41, .ref b42, .ref b43, .ref b44, .ref b45, .int b46, .ref b47, .ref b48, .ref b49, .ref b50, .ref b51, .ref b52])), (b8, .inr (6, [.int x_55, .int 8, .int 400, .ref b14, .ref b15])), (b14, .inl (G.2 1, 3200, .inr (.inl f_56))), (b15, .inl (G.2 0, 1024, .inl f_57)), (b9, .inr (6, [.int b18, .int 8, .int 10, .ref b19, .ref b20])), (b19, .inl (G.2 1, 80, .inr (.inl f_50)))] H := hP
      have hD := z_tie hP hD rfl
      exact z_vret hx hb hr hlocks (hP.sub [0, 4, 5, 6, 7, 8, 1, 2, 3] rfl) (hD.sub [0, 4, 5, 6, 7, 8, 1, 2, 3] (by decide) rfl) hS (Nat.le_of_ble_eq_true rfl) (Nat.le_of_ble_eq_true rfl) d_Parting_begin_68 ⟨x_55, f_56, f_57, f_50, f_59, rfl, rfl, hx_55, hf_56, hf_57, hf_50, hf_59⟩
abbrev m_s4_Parting_goOn : Room := { frames := 3, cells := 0, slots := 0, locals := 71 }
set_option maxHeartbeats 4000000 in
set_option maxRecDepth 100000 in
theorem s4_Parting_goOn (l : Launch) (G : zG) (b0 : Nat) (b1 : Nat) (b2 : Nat) (b3 : Int32) (b4 : Int32) (b5 : Int32) (b6 : Nat) (b7 : Int32) (b8 : Int32) (b9 : Nat) (b10 : Nat) (b11 : Nat) (b12 : Nat) (b13 : Nat) (b14 : Int32) (b15 : Nat) (b16 : Nat) (b17 : Nat → Int64) (b18 : Nat → Int32) (b19 : Int32) (b20 : Nat) (b21 : Nat) (b22 : Nat → Int64) (b23 : Nat → Int32) (b24 : Nat → Int32) (b25 : Nat → Int32) (b26 : Int32) (b27 : Int32) (b28 : Nat) (b29 : Nat) (b30 : Nat) (b31 : Nat) (b32 : Nat) (b33 : Nat) (b34 : Int32) (b35 : Nat) (b36 : Nat) (b37 : Nat) (b38 : Nat) (b39 : Nat) (b40 : Nat) (b41 : Nat → Int32) (b42 : Nat → Int32) (b43 : Int32) (b44 : Int32) (b45 : Nat) (b46 : Nat) (b47 : Nat) (b48 : Nat) (b49 : Nat) (b50 : Nat) (b51 : Int32) (b52 : Nat) (b53 : Nat) (b54 : Nat) (b55 : Nat) (b56 : Nat) (b57 : Nat) (b58 : Nat → Int32) (b59 : Nat → Int32) (hb3 : zI b3 0 399) (hb4 : zI b4 0 1) (hb5 : zI b5 (-2) 8) (hb14 : zI b14 0 400) (hb19 : zI b19 0 10) (hb26 : zI b26 0 1) (hb27 : zI b27 0 241) (hb34 : zI b34 0 240) (hb43 : zI b43 0 1) (hb44 : zI b44 0 241) (hb51 : zI b51 0 240) (hb17 : zqa qB b17) (hb18 : zR b18 (-1) 399) (hb22 : zqa qB b22) (hb23 : zR b23 0 399) (hb24 : zR b24 0 9) (hb25 : zR b25 0 8) (hb41 : zK b41) (hb42 : zR b42 0 240) (hb58 : zK b58) (hb59 : zR b59 0 240) (hpl : (b25 b3.toNatClampNeg).toInt ≤ 7) (hpc : b3.toInt < b14.toInt) : zM l G y_Parting_goOn prog_7_method_6_code 7 (Option.some Jvm.ClassFile.FieldType.boolean) m_s4_Parting_goOn [.ref b0, .ref b1, .ref b2, .int b3] [(b0, .inr (8, [.int b4, .int b5, .ref b6, .int b7, .int b8, .ref b9, .ref b10, .ref b11, .ref b12, .ref b13])), (b9, .inr (6, [.int b14, .int 8, .int 400, .ref b15, .ref b16])), (b15, .inl (G.2 1, 3200, .inr (.inl b17))), (b16, .inl (G.2 0, 1024, .inl b18)), (b10, .inr (6, [.int b19, .int 8, .int 10, .ref b20, .ref b21])), (b20, .inl (G.2 1, 80, .inr (.inl b22))), (b11, .inl (G.2 0, 400, .inl b23)), (b12, .inl (G.2 0, 400, .inl b24)), (b13, .inl (G.2 0, 400, .inl b25)), (b1, .inr (5, [.int b26, .int b27, .ref b28, .ref b29, .ref b30, .ref b31, .ref b32, .ref b33, .int b34, .ref b35, .ref b36, .ref b37, .ref b38, .ref b39, .ref b40])), (b35, .inl (G.2 0, 240, .inl b41)), (b39, .inl (G.2 0, 242, .inl b42)), (b2, .inr (5, [.int b43, .int b44, .ref b45, .ref b46, .ref b47, .ref b48, .ref b49, .ref b50, .int b51, .ref b52, .ref b53, .ref b54, .ref b55, .ref b56, .ref b57])), (b52, .inl (G.2 0, 240, .inl b58)), (b56, .inl (G.2 0, 242, .inl b59))] (fun v w => ∃ (e0 : Int32), ∃ (e1 : Int32), ∃ (e2 : Nat → Int64), ∃ (e3 : Nat → Int32), ∃ (e4 : Nat → Int64), ∃ (e5 : Nat → Int32), ∃ (e6 : Nat → Int32), ∃ (e7 : Nat → Int32), v = some (.int e0) ∧ w = [(b0, .inr (8, [.int b4, .int b5, .ref b6, .int b7, .int b8, .ref b9, .ref b10, .ref b11, .ref b12, .ref b13])), (b9, .inr (6, [.int e1, .int 8, .int 400, .ref b15, .ref b16])), (b15, .inl (G.2 1, 3200, .inr (.inl e2))), (b16, .inl (G.2 0, 1024, .inl e3)), (b10, .inr (6, [.int b19, .int 8, .int 10, .ref b20, .ref b21])), (b20, .inl (G.2 1, 80, .inr (.inl e4))), (b11, .inl (G.2 0, 400, .inl e5)), (b12, .inl (G.2 0, 400, .inl e6)), (b13, .inl (G.2 0, 400, .inl e7)), (b1, .inr (5, [.int b26, .int b27, .ref b28, .ref b29, .ref b30, .ref b31, .ref b32, .ref b33, .int b34, .ref b35, .ref b36, .ref b37, .ref b38, .ref b39, .ref b40])), (b35, .inl (G.2 0, 240, .inl b41)), (b39, .inl (G.2 0, 242, .inl b42)), (b2, .inr (5, [.int b43, .int b44, .ref b45, .ref b46, .ref b47, .ref b48, .ref b49, .ref b50, .int b51, .ref b52, .ref b53, .ref b54, .ref b55, .ref b56, .ref b57])), (b52, .inl (G.2 0, 240, .inl b58)), (b56, .inl (G.2 0, 242, .inl b59))] ∧ (zI e0 0 1) ∧ (zI e1 0 400) ∧ (zqa qB e2) ∧ (zR e3 (-1) 399) ∧ (zqa qB e4) ∧ (zR e5 0 399) ∧ (zR e6 0 9) ∧ (zR e7 0 8)) := by
  refine z_start (by decide +kernel) (Nat.le_of_ble_eq_true rfl) ?_
  intro p e s m below meth c A Z hr hnm hA hP hD hS ls hl
  have Z : zC p s m _ meth c prog_7_method_6_code 7 "TraceMachines$Parting" G := Z
  obtain ⟨hx, hb, hml, hown, hts, hK, hN, hlocks⟩ := id Z
  have hl : lv_has ls 7 [(0, .ref b0), (1, .ref b1), (2, .ref b2), (3, .int b3)] := hl
  refine lv_aload_n hx hb d_Parting_goOn_0 rfl (lv_at hl 0 rfl) ?_
  refine va_get (D := G.1) (ci := 8) (v := .ref b10) (C := R_Parting) (T := F_Parting) (N := 10) hx hb hts i_Parting hown hK hP 0 rfl rfl 6 (by decide) (hts _ q308) (fun _ h9 => h9) rfl d_Parting_goOn_1 ?_
  refine z_callV (index := 71) (As := []) (rest := []) (wr := [(b0, .inr (8, [.int b4, .int b5, .ref b6, .int b7, .int b8, .ref b9, .ref b10, .ref b11, .ref b12, .ref b13])), (b9, .inr (6, [.int b14, .int 8, .int 400, .ref b15, .ref b16])), (b15, .inl (G.2 1, 3200, .inr (.inl b17))), (b16, .inl (G.2 0, 1024, .inl b18)), (b11, .inl (G.2 0, 400, .inl b23)), (b12, .inl (G.2 0, 400, .inl b24)), (b13, .inl (G.2 0, 400, .inl b25)), (b1, .inr (5, [.int b26, .int b27, .ref b28, .ref b29, .ref b30, .ref b31, .ref b32, .ref b33, .int b34, .ref b35, .ref b36, .ref b37, .ref b38, .ref b39, .ref b40])), (b35, .inl (G.2 0, 240, .inl b41)), (b39, .inl (G.2 0, 242, .inl b42)), (b2, .inr (5, [.int b43, .int b44, .ref b45, .ref b46, .ref b47, .ref b48, .ref b49, .ref b50, .int b51, .ref b52, .ref b53, .ref b54, .ref b55, .ref b56, .ref b57])), (b52, .inl (G.2 0, 240, .inl b58)), (b56, .inl (G.2 0, 242, .inl b59))]) Z (s3_Sets_clear l G (b10) (b19) (b20) (b21) (b22) hb19 hb22) hl.1 q882 q705 q706 q7 q707 ⟨by decide, by decide, by show _ = some 0; decide +kernel⟩ ⟨Nat.le_of_ble_eq_true rfl, Nat.le_of_ble_eq_true rfl⟩ ⟨Nat.le_of_ble_eq_true rfl, Nat.le_of_ble_eq_true rfl⟩ rfl (Nat.le_of_ble_eq_true rfl) d_Parting_goOn_4 hP hD hS hA 4 6 rfl rfl rfl [4, 5] [0, 1, 2, 3, 6, 7, 8, 9, 10, 11, 12, 13, 14] rfl rfl rfl rfl (by decide) (fun v w1 H locs hw_1 hP hD hS => ?_)
  obtain ⟨f_2, rfl, rfl, hf_2⟩ := hw_1
  have hP : va_P G.1 classes [(b0, .inr (8, [.int b4, .int b5, .ref b6, .int b7, .int b8, .ref b9, .ref b10, .ref b11, .ref b12, .ref b13])), (b9, .inr (6, [.int b14, .int 8, .int 400, .ref b15, .ref b16])), (b15, .inl (G.2 1, 3200, .inr (.inl b17))), (b16, .inl (G.2 0, 1024, .inl b18)), (b11, .inl (G.2 0, 400, .inl b23)), (b12, .inl (G.2 0, 400, .inl b24)), (b13, .inl (G.2 0, 400, .inl b25)), (b1, .inr (5, [.int b26, .int b27, .ref b28, .ref b29, .ref b30, .ref b31, .ref b32, .ref b33, .int b34, .ref b35, .ref b36, .ref b37, .ref b38, .ref b39, .ref b40])), (b35, .inl (G.2 0, 240, .inl b41)), (b39, .inl (G.2 0, 242, .inl b42)), (b2, .inr (5, [.int b43, .int b44, .ref b45, .ref b46, .ref b47, .ref b48, .ref b49, .ref b50, .int b51, .ref b52, .ref b53, .ref b54, .ref b55, .ref b56, .ref b57])), (b52, .inl (G.2 0, 240, .inl b58)), (b56, .inl (G.2 0, 242, .inl b59)), (b10, .inr (6, [.int b19, .int 8, .int 10, .ref b20, .ref b21])), (b20, .inl (G.2 1, 80, .inr (.inl f_2)))] H := hP
  have hD := z_tie hP hD rfl
  refine W.widen (k := 0) (n := 0) (Nat.le_of_ble_eq_true rfl) (Nat.le_of_ble_eq_true rfl) ?_
  refine lv_aload_n hx hb d_Parting_goOn_7 rfl (lv_at hl 1 rfl) ?_
  refine lv_aload_n hx hb d_Parting_goOn_8 rfl (lv_at hl 0 rfl) ?_
  refine va_get (D := G.1) (ci := 8) (v := .ref b9) (C := R_Parting) (T := F_Parting) (N := 10) hx hb hts i_Parting hown hK hP 0 rfl rfl 5 (by decide) (hts _ q307) (fun _ h9 => h9) rfl d_Parting_goOn_9 ?_
  refine lv_iload_n hx hb d_Parting_goOn_12 rfl (lv_at hl 3 rfl) ?_
  refine lv_iconst (v := 0) hx hb d_Parting_goOn_13 (by decide) ?_
  refine lv_aload_n hx hb d_Parting_goOn_14 rfl (lv_at hl 0 rfl) ?_
  refine va_get (D := G.1) (ci := 8) (v := .ref b10) (C := R_Parting) (T := F_Parting) (N := 10) hx hb hts i_Parting hown hK hP 0 rfl rfl 6 (by decide) (hts _ q308) (fun _ h9 => h9) rfl d_Parting_goOn_15 ?_
  refine z_callV (index := 88) (As := [.ref b9, .int b3, .int 0, .ref b10]) (rest := []) (wr := [(b0, .inr (8, [.int b4, .int b5, .ref b6, .int b7, .int b8, .ref b9, .ref b10, .ref b11, .ref b12, .ref b13])), (b16, .inl (G.2 0, 1024, .inl b18)), (b11, .inl (G.2 0, 400, .inl b23)), (b12, .inl (G.2 0, 400, .inl b24)), (b13, .inl (G.2 0, 400, .inl b25)), (b2, .inr (5, [.int b43, .int b44, .ref b45, .ref b46, .ref b47, .ref b48, .ref b49, .ref b50, .int b51, .ref b52, .ref b53, .ref b54, .ref b55, .ref b56, .ref b57])), (b52, .inl (G.2 0, 240, .inl b58)), (b56, .inl (G.2 0, 242, .inl b59))]) Z (s2_Machine_fan l G (b1) (b9) (b3) (0) (b10) (b26) (b27) (b28) (b29) (b30) (b31) (b32) (b33) (b34) (b35) (b36) (b37) (b38) (b39) (b40) (b41) (b42) (b14) (b15) (b16) (b17) (b19) (b20) (b21) (f_2) hb3 (zI.wk (l' := 0) (h' := 1) zc_0 (by decide)) hb26 hb27 hb34 hb14 hb19 hb41 hb42 hb17 hf_2) hl.1 q895 q854 q855 q6 q856 ⟨by decide, by decide, by show _ = some 4; decide +kernel⟩ ⟨Nat.le_of_ble_eq_true rfl, Nat.le_of_ble_eq_true rfl⟩ ⟨Nat.le_of_ble_eq_true rfl, Nat.le_of_ble_eq_true rfl⟩ rfl (Nat.le_of_ble_eq_true rfl) d_Parting_goOn_18 hP hD hS hA 7 5 rfl rfl rfl [7, 8, 9, 1, 2, 13, 14] [0, 3, 4, 5, 6, 10, 11, 12] rfl rfl rfl rfl (by decide) (fun v w1 H locs hw_3 hP hD hS => ?_)
  obtain ⟨f_4, rfl, rfl, hf_4⟩ := hw_3
  have hP : va_P G.1 classes [(b0, .inr (8, [.int b4, .int b5, .ref b6, .int b7, .int b8, .ref b9, .ref b10, .ref b11, .ref b12, .ref b13])), (b16, .inl (G.2 0, 1024, .inl b18)), (b11, .inl (G.2 0, 400, .inl b23)), (b12, .inl (G.2 0, 400, .inl b24)), (b13, .inl (G.2 0, 400, .inl b25)), (b2, .inr (5, [.int b43, .int b44, .ref b45, .ref b46, .ref b47, .ref b48, .ref b49, .ref b50, .int b51, .ref b52, .ref b53, .ref b54, .ref b55, .ref b56, .ref b57])), (b52, .inl (G.2 0, 240, .inl b58)), (b56, .inl (G.2 0, 242, .inl b59)), (b1, .inr (5, [.int b26, .int b27, .ref b28, .ref b29, .ref b30, .ref b31, .ref b32, .ref b33, .int b34, .ref b35, .ref b36, .ref b37, .ref b38, .ref b39, .ref b40])), (b35, .inl (G.2 0, 240, .inl b41)), (b39, .inl (G.2 0, 242, .inl b42)), (b9, .inr (6, [.int b14, .int 8, .int 400, .ref b15, .ref b16])), (b15, .inl (G.2 1, 3200, .inr (.inl b17))), (b10, .inr (6, [.int b19, .int 8, .int 10, .ref b20, .ref b21])), (b20, .inl (G.2 1, 80, .inr (.inl f_4)))] H := hP
  have hD := z_tie hP hD rfl
  refine W.widen (k := 0) (n := 0) (Nat.le_of_ble_eq_true rfl) (Nat.le_of_ble_eq_true rfl) ?_
  refine lv_aload_n hx hb d_Parting_goOn_21 rfl (lv_at hl 2 rfl) ?_
  refine lv_aload_n hx hb d_Parting_goOn_22 rfl (lv_at hl 0 rfl) ?_
  refine va_get (D := G.1) (ci := 8) (v := .ref b9) (C := R_Parting) (T := F_Parting) (N := 10) hx hb hts i_Parting hown hK hP 0 rfl rfl 5 (by decide) (hts _ q307) (fun _ h9 => h9) rfl d_Parting_goOn_23 ?_
  refine lv_iload_n hx hb d_Parting_goOn_26 rfl (lv_at hl 3 rfl) ?_
  refine lv_iconst (v := 1) hx hb d_Parting_goOn_27 (by decide) ?_
  refine lv_aload_n hx hb d_Parting_goOn_28 rfl (lv_at hl 0 rfl) ?_
  refine va_get (D := G.1) (ci := 8) (v := .ref b10) (C := R_Parting) (T := F_Parting) (N := 10) hx hb hts i_Parting hown hK hP 0 rfl rfl 6 (by decide) (hts _ q308) (fun _ h9 => h9) rfl d_Parting_goOn_29 ?_
  refine z_callV (index := 88) (As := [.ref b9, .int b3, .int 1, .ref b10]) (rest := []) (wr := [(b0, .inr (8, [.int b4, .int b5, .ref b6, .int b7, .int b8, .ref b9, .ref b10, .ref b11, .ref b12, .ref b13])), (b16, .inl (G.2 0, 1024, .inl b18)), (b11, .inl (G.2 0, 400, .inl b23)), (b12, .inl (G.2 0, 400, .inl b24)), (b13, .inl (G.2 0, 400, .inl b25)), (b1, .inr (5, [.int b26, .int b27, .ref b28, .ref b29, .ref b30, .ref b31, .ref b32, .ref b33, .int b34, .ref b35, .ref b36, .ref b37, .ref b38, .ref b39, .ref b40])), (b35, .inl (G.2 0, 240, .inl b41)), (b39, .inl (G.2 0, 242, .inl b42))]) Z (s2_Machine_fan l G (b2) (b9) (b3) (1) (b10) (b43) (b44) (b45) (b46) (b47) (b48) (b49) (b50) (b51) (b52) (b53) (b54) (b55) (b56) (b57) (b58) (b59) (b14) (b15) (b16) (b17) (b19) (b20) (b21) (f_4) hb3 (zI.wk (l' := 0) (h' := 1) zc_1 (by decide)) hb43 hb44 hb51 hb14 hb19 hb58 hb59 hb17 hf_4) hl.1 q895 q854 q855 q6 q856 ⟨by decide, by decide, by show _ = some 4; decide +kernel⟩ ⟨Nat.le_of_ble_eq_true rfl, Nat.le_of_ble_eq_true rfl⟩ ⟨Nat.le_of_ble_eq_true rfl, Nat.le_of_ble_eq_true rfl⟩ rfl (Nat.le_of_ble_eq_true rfl) d_Parting_goOn_32 hP hD hS hA 5 5 rfl rfl rfl [5, 6, 7, 11, 12, 13, 14] [0, 1, 2, 3, 4, 8, 9, 10] rfl rfl rfl rfl (by decide) (fun v w1 H locs hw_5 hP hD hS => ?_)
  obtain ⟨f_6, rfl, rfl, hf_6⟩ := hw_5
  have hP : va_P G.1 classes [(b0, .inr (8, [.int b4, .int b5, .ref b6, .int b7, .int b8, .ref b9, .ref b10, .ref b11, .ref b12, .ref b13])), (b16, .inl (G.2 0, 1024, .inl b18)), (b11, .inl (G.2 0, 400, .inl b23)), (b12, .inl (G.2 0, 400, .inl b24)), (b13, .inl (G.2 0, 400, .inl b25)), (b1, .inr (5, [.int b26, .int b27, .ref b28, .ref b29, .ref b30, .ref b31, .ref b32, .ref b33, .int b34, .ref b35, .ref b36, .ref b37, .ref b38, .ref b39, .ref b40])), (b35, .inl (G.2 0, 240, .inl b41)), (b39, .inl (G.2 0, 242, .inl b42)), (b2, .inr (5, [.int b43, .int b44, .ref b45, .ref b46, .ref b47, .ref b48, .ref b49, .ref b50, .int b51, .ref b52, .ref b53, .ref b54, .ref b55, .ref b56, .ref b57])), (b52, .inl (G.2 0, 240, .inl b58)), (b56, .inl (G.2 0, 242, .inl b59)), (b9, .inr (6, [.int b14, .int 8, .int 400, .ref b15, .ref b16])), (b15, .inl (G.2 1, 3200, .inr (.inl b17))), (b10, .inr (6, [.int b19, .int 8, .int 10, .ref b20, .ref b21])), (b20, .inl (G.2 1, 80, .inr (.inl f_6)))] H := hP
  have hD := z_tie hP hD rfl
  refine W.widen (k := 0) (n := 0) (Nat.le_of_ble_eq_true rfl) (Nat.le_of_ble_eq_true rfl) ?_
  refine lv_iconst (v := 0) hx hb d_Parting_goOn_35 (by decide) ?_
  refine lv_istore (lv' := [(4, .int 0), (0, .ref b0), (1, .ref b1), (2, .ref b2), (3, .int b3)]) hx hb d_Parting_goOn_36 hl (by decide) rfl (fun ls hl => ?_)
  suffices key : ∀ (k_188 : Nat) (y_189 : Int32) (y_190 : Int32) (y_191 : Nat → Int32) (y_192 : Nat → Int32) (y_193 : Nat → Int32) (y_194 : Nat → Int64) (y_195 : Nat → Int32) (H : Heap) (locs : List Loc) (ls : Array Slot), (zI y_189 0 10) → (zI y_190 0 400) → (zR y_191 0 399) → (zR y_192 0 9) → (zR y_193 0 8) → (zqa qB y_194) → (zR y_195 (-1) 399) → ((y_193 b3.toNatClampNeg).toInt ≤ 7) → (b3.toInt < y_190.toInt) → (10 : Int) - y_189.toInt < (k_188 : Int) → va_P G.1 classes [(b0, .inr (8, [.int b4, .int b5, .ref b6, .int b7, .int b8, .ref b9, .ref b10, .ref b11, .ref b12, .ref b13])), (b16, .inl (G.2 0, 1024, .inl y_195)), (b11, .inl (G.2 0, 400, .inl y_191)), (b12, .inl (G.2 0, 400, .inl y_192)), (b13, .inl (G.2 0, 400, .inl y_193)), (b1, .inr (5, [.int b26, .int b27, .ref b28, .ref b29, .ref b30, .ref b31, .ref b32, .ref b33, .int b34, .ref b35, .ref b36, .ref b37, .ref b38, .ref b39, .ref b40])), (b35, .inl (G.2 0, 240, .inl b41)), (b39, .inl (G.2 0, 242, .inl b42)), (b2, .inr (5, [.int b43, .int b44, .ref b45, .ref b46, .ref b47, .ref b48, .ref b49, .ref b50, .int b51, .ref b52, .ref b53, .ref b54, .ref b55, .ref b56, .ref b57])), (b52, .inl (G.2 0, 240, .inl b58)), (b56, .inl (G.2 0, 242, .inl b59)), (b9, .inr (6, [.int y_190, .int 8, .int 400, .ref b15, .ref b16])), (b15, .inl (G.2 1, 3200, .inr (.inl y_194))), (b10, .inr (6, [.int b19, .int 8, .int 10, .ref b20, .ref b21])), (b20, .inl (G.2 1, 80, .inr (.inl f_6)))] H → va_D A [(b0, .inr (8, [.int b4, .int b5, .ref b6, .int b7, .int b8, .ref b9, .ref b10, .ref b11, .ref b12, .ref b13])), (b16, .inl (G.2 0, 1024, .inl y_195)), (b11, .inl (G.2 0, 400, .inl y_191)), (b12, .inl (G.2 0, 400, .inl y_192)), (b13, .inl (G.2 0, 400, .inl y_193)), (b1, .inr (5, [.int b26, .int b27, .ref b28, .ref b29, .ref b30, .ref b31, .ref b32, .ref b33, .int b34, .ref b35, .ref b36, .ref b37, .ref b38, .ref b39, .ref b40])), (b35, .inl (G.2 0, 240, .inl b41)), (b39, .inl (G.2 0, 242, .inl b42)), (b2, .inr (5, [.int b43, .int b44, .ref b45, .ref b46, .ref b47, .ref b48, .ref b49, .ref b50, .int b51, .ref b52, .ref b53, .ref b54, .ref b55, .ref b56, .ref b57])), (b52, .inl (G.2 0, 240, .inl b58)), (b56, .inl (G.2 0, 242, .inl b59)), (b9, .inr (6, [.int y_190, .int 8, .int 400, .ref b15, .ref b16])), (b15, .inl (G.2 1, 3200, .inr (.inl y_194))), (b10, .inr (6, [.int b19, .int 8, .int 10, .ref b20, .ref b21])), (b20, .inl (G.2 1, 80, .inr (.inl f_6)))] → va_S A s.heap H locs → lv_has ls 7 [(4, .int y_189), (0, .ref b0), (1, .ref b1), (2, .ref b2), (3, .int b3)] → W p l e m_s4_Parting_goOn s m ([.ref b0, .ref b1, .ref b2, .int b3] : List Value).toArray below meth c H locs 0 0 (MQ below (zQ G (fun v w => ∃ (e0 : Int32), ∃ (e1 : Int32), ∃ (e2 : Nat → Int64), ∃ (e3 : Nat → Int32), ∃ (e4 : Nat → Int64), ∃ (e5 : Nat → Int32), ∃ (e6 : Nat → Int32), ∃ (e7 : Nat → Int32), v = some (.int e0) ∧ w = [(b0, .inr (8, [.int b4, .int b5, .ref b6, .int b7, .int b8, .ref b9, .ref b10, .ref b11, .ref b12, .ref b13])), (b9, .inr (6, [.int e1, .int 8, .int 400, .ref b15, .ref b16])), (b15, .inl (G.2 1, 3200, .inr (.inl e2))), (b16, .inl (G.2 0, 1024, .inl e3)), (b10, .inr (6, [.int b19, .int 8, .int 10, .ref b20, .ref b21])), (b20, .inl (G.2 1, 80, .inr (.inl e4))), (b11, .inl (G.2 0, 400, .inl e5)), (b12, .inl (G.2 0, 400, .inl e6)), (b13, .inl (G.2 0, 400, .inl e7)), (b1, .inr (5, [.int b26, .int b27, .ref b28, .ref b29, .ref b30, .ref b31, .ref b32, .ref b33, .int b34, .ref b35, .ref b36, .ref b37, .ref b38, .ref b39, .ref b40])), (b35, .inl (G.2 0, 240, .inl b41)), (b39, .inl (G.2 0, 242, .inl b42)), (b2, .inr (5, [.int b43, .int b44, .ref b45, .ref b46, .ref b47, .ref b48, .ref b49, .ref b50, .int b51, .ref b52, .ref b53, .ref b54, .ref b55, .ref b56, .ref b57])), (b52, .inl (G.2 0, 240, .inl b58)), (b56, .inl (G.2 0, 242, .inl b59))] ∧ (zI e0 0 1) ∧ (zI e1 0 400) ∧ (zqa qB e2) ∧ (zR e3 (-1) 399) ∧ (zqa qB e4) ∧ (zR e5 0 399) ∧ (zR e6 0 9) ∧ (zR e7 0 8)) A) ([.ref b0, .ref b1, .ref b2, .int b3] : List Value).toArray s m_s4_Parting_goOn.cells m_s4_Parting_goOn.slots A) (F0 m 38 ls []) by
    exact key 11 (0) (b14) (b23) (b24) (b25) (b17) (b18) _ _ _ (zI.wk (l' := 0) (h' := 10) zc_0 (by decide)) hb14 hb23 hb24 hb25 hb17 hb18 hpl (by omega) (zm_upi (zI.wk (l' := 0) (h' := 10) zc_0 (by decide)) (by decide)) hP hD hS (lv_sub hl [0, 1, 2, 3, 4] rfl)
  intro k_188
  induction k_188 with
  | zero =>
    intro y_189 y_190 y_191 y_192 y_193 y_194 y_195 H locs ls hy_189 hy_190 hy_191 hy_192 hy_193 hy_194 hy_195 hli_196 hli_197 hmk_188 hP hD hS hl
    exact (zm_up0 hy_189 hmk_188).elim
  | succ k_188 ihk_188 =>
    intro y_189 y_190 y_191 y_192 y_193 y_194 y_195 H locs ls hy_189 hy_190 hy_191 hy_192 hy_193 hy_194 hy_195 hli_196 hli_197 hmk_188 hP hD hS hl
    refine lv_iload hx hb d_Parting_goOn_38 (lv_at hl 0 rfl) ?_
    refine lv_bipush (v := 10) hx hb d_Parting_goOn_40 (by decide) ?_
    refine lv_icmp_ge (tgt := 122) hx hb d_Parting_goOn_42 (by decide) (fun hc_198 => ?_) (fun hc_198 => ?_)
    · have _nhc_198 := hc_198
      have ni_199 := (fa_le _ _).mp hc_198
      rw [li_10] at ni_199
      have hv_200 : zI y_189 10 10 := zI.le_r zc_10 hy_189 hc_198 (by decide)
      refine lv_iconst (v := 1) hx hb d_Parting_goOn_122 (by decide) ?_
      exact z_zret hx hb hr hlocks rfl (hP.sub [0, 11, 12, 1, 13, 14, 2, 3, 4, 5, 6, 7, 8, 9, 10] rfl) (hD.sub [0, 11, 12, 1, 13, 14, 2, 3, 4, 5, 6, 7, 8, 9, 10] (by decide) rfl) hS (Nat.le_of_ble_eq_true rfl) (Nat.le_of_ble_eq_true rfl) d_Parting_goOn_123 ⟨1, y_190, y_194, y_195, f_6, y_191, y_192, y_193, rfl, rfl, (zI.wk (l' := 0) (h' := 1) zc_1 (by decide)), hy_190, hy_194, hy_195, hf_6, hy_191, hy_192, hy_193⟩
    · have _nhc_198 := hc_198
      have ni_201 := (fa_lt _ _).mp (zi_nle hc_198)
      rw [li_10] at ni_201
      have hv_202 : zI y_189 0 9 := zI.lt_l hy_189 zc_10 (zi_nle hc_198) (by decide)
      refine lv_aload_n hx hb d_Parting_goOn_45 rfl (lv_at hl 1 rfl) ?_
      refine va_get (D := G.1) (ci := 8) (v := .ref b9) (C := R_Parting) (T := F_Parting) (N := 10) hx hb hts i_Parting hown hK hP 0 rfl rfl 5 (by decide) (hts _ q307) (fun _ h9 => h9) rfl d_Parting_goOn_46 ?_
      refine va_get (D := G.1) (ci := 6) (v := .int y_190) (C := R_Sets) (T := F_Sets) (N := 5) hx hb hts i_Sets hown hK hP 11 rfl rfl 0 (by decide) (hts _ q241) (fun _ h9 => h9) rfl d_Parting_goOn_49 ?_
      refine lv_istore (lv' := [(5, .int y_190), (4, .int y_189), (0, .ref b0), (1, .ref b1), (2, .ref b2), (3, .int b3)]) hx hb d_Parting_goOn_52 hl (by decide) rfl (fun ls hl => ?_)
      refine lv_aload_n hx hb d_Parting_goOn_54 rfl (lv_at hl 2 rfl) ?_
      refine va_get (D := G.1) (ci := 8) (v := .ref b9) (C := R_Parting) (T := F_Parting) (N := 10) hx hb hts i_Parting hown hK hP 0 rfl rfl 5 (by decide) (hts _ q307) (fun _ h9 => h9) rfl d_Parting_goOn_55 ?_
      refine lv_aload_n hx hb d_Parting_goOn_58 rfl (lv_at hl 2 rfl) ?_
      refine va_get (D := G.1) (ci := 8) (v := .ref b10) (C := R_Parting) (T := F_Parting) (N := 10) hx hb hts i_Parting hown hK hP 0 rfl rfl 6 (by decide) (hts _ q308) (fun _ h9 => h9) rfl d_Parting_goOn_59 ?_
      refine lv_iload hx hb d_Parting_goOn_62 (lv_at hl 1 rfl) ?_
      refine z_callV (index := 84) (As := [.ref b10, .int y_189]) (rest := []) (wr := [(b0, .inr (8, [.int b4, .int b5, .ref b6, .int b7, .int b8, .ref b9, .ref b10, .ref b11, .ref b12, .ref b13])), (b11, .inl (G.2 0, 400, .inl y_191)), (b12, .inl (G.2 0, 400, .inl y_192)), (b13, .inl (G.2 0, 400, .inl y_193)), (b1, .inr (5, [.int b26, .int b27, .ref b28, .ref b29, .ref b30, .ref b31, .ref b32, .ref b33, .int b34, .ref b35, .ref b36, .ref b37, .ref b38, .ref b39, .ref b40])), (b35, .inl (G.2 0, 240, .inl b41)), (b39, .inl (G.2 0, 242, .inl b42)), (b2, .inr (5, [.int b43, .int b44, .ref b45, .ref b46, .ref b47, .ref b48, .ref b49, .ref b50, .int b51, .ref b52, .ref b53, .ref b54, .ref b55, .ref b56, .ref b57])), (b52, .inl (G.2 0, 240, .inl b58)), (b56, .inl (G.2 0, 242, .inl b59))]) Z (s2_Sets_indexOf l G (b9) (b10) (y_189) (y_190) (b15) (b16) (y_194) (y_195) (b19) (b20) (b21) (f_6) hv_202 hy_190 hb19 hy_194 hy_195 hf_6) hl.1 q885 q831 q832 q7 q833 ⟨by decide, by decide, by show _ = some 2; decide +kernel⟩ ⟨Nat.le_of_ble_eq_true rfl, Nat.le_of_ble_eq_true rfl⟩ ⟨Nat.le_of_ble_eq_true rfl, Nat.le_of_ble_eq_true rfl⟩ rfl (Nat.le_of_ble_eq_true rfl) d_Parting_goOn_64 hP hD hS hA 11 6 rfl rfl rfl [11, 12, 1, 13, 14] [0, 2, 3, 4, 5, 6, 7, 8, 9, 10] rfl rfl rfl rfl (by decide) (fun v w1 H locs hw_203 hP hD hS => ?_)
      obtain ⟨x_204, x_205, f_206, f_207, rfl, rfl, hx_204, hx_205, hf_206, hf_207, hfx_208⟩ := hw_203
      have hP : va_P G.1 classes [(b0, .inr (8, [.int b4, .int b5, .ref b6, .int b7, .int b8, .ref b9, .ref b10, .ref b11, .ref b12, .ref b13])), (b11, .inl (G.2 0, 400, .inl y_191)), (b12, .inl (G.2 0, 400, .inl y_192)), (b13, .inl (G.2 0, 400, .inl y_193)), (b1, .inr (5, [.int b26, .int b27, .ref b28, .ref b29, .ref b30, .ref b31, .ref b32, .ref b33, .int b34, .ref b35, .ref b36, .ref b37, .ref b38, .ref b39, .ref b40])), (b35, .inl (G.2 0, 240, .inl b41)), (b39, .inl (G.2 0, 242, .inl b42)), (b2, .inr (5, [.int b43, .int b44, .ref b45, .ref b46, .ref b47, .ref b48, .ref b49, .ref b50, .int b51, .ref b52, .ref b53, .ref b54, .ref b55, .ref b56, .ref b57])), (b52, .inl (G.2 0, 240, .inl b58)), (b56, .inl (G.2 0, 242, .inl b59)), (b9, .inr (6, [.int x_205, .int 8, .int 400, .ref b15, .ref b16])), (b15, .inl (G.2 1, 3200, .inr (.inl f_206))), (b16, .inl (G.2 0, 1024, .inl f_207)), (b10, .inr (6, [.int b19, .int 8, .int 10, .ref b20, .ref b21])), (b20, .inl (G.2 1, 80, .inr (.inl f_6)))] H := hP
      have hD := z_tie hP hD rfl
      refine W.widen (k := 0) (n := 0) (Nat.le_of_ble_eq_true rfl) (Nat.le_of_ble_eq_true rfl) ?_
      refine lv_istore (lv' := [(6, .int x_204), (5, .int y_190), (4, .int y_189), (0, .ref b0), (1, .ref b1), (2, .ref b2), (3, .int b3)]) hx hb d_Parting_goOn_67 hl (by decide) rfl (fun ls hl => ?_)
      refine lv_iload hx hb d_Parting_goOn_69 (lv_at hl 0 rfl) ?_
      refine lv_iconst (v := (-1)) hx hb d_Parting_goOn_71 (by decide) ?_
      refine lv_icmp_ne (tgt := 77) hx hb d_Parting_goOn_72 (by decide) (fun hc_209 => ?_) (fun hc_209 => ?_)
      · have _nhc_209 := hc_209
        have ni_210 : ¬ (x_204 : Int32).toInt = ((-1) : Int32).toInt := fun z => hc_209 ((fa_eq _ _).mpr z)
        simp only [li_m1] at ni_210
        have hv_211 : zI x_204 0 399 := zI.ne_lo hx_204 zc_m1 hc_209 (by decide)
        refine lv_iload hx hb d_Parting_goOn_77 (lv_at hl 0 rfl) ?_
        refine lv_iload hx hb d_Parting_goOn_79 (lv_at hl 1 rfl) ?_
        refine lv_icmp_ne (tgt := 116) hx hb d_Parting_goOn_81 (by decide) (fun hc_212 => ?_) (fun hc_212 => ?_)
        · have _nhc_212 := hc_212
          have ni_213 : ¬ (x_204 : Int32).toInt = (y_190 : Int32).toInt := fun z => hc_212 ((fa_eq _ _).mpr z)
          obtain ⟨v_214, ev_214⟩ : ∃ z : Int32, z = y_189 + 1 := ⟨_, rfl⟩
          obtain ⟨qv_214, hv_214⟩ := zI_add (l := 1) (h := 10) hv_202 zc_1 ev_214 (by decide)
          rw [li_1] at qv_214
          refine lv_iinc (v := v_214) (lv' := [(4, .int v_214), (6, .int x_204), (5, .int y_190), (0, .ref b0), (1, .ref b1), (2, .ref b2), (3, .int b3)]) hx hb d_Parting_goOn_116 hl (k := 2) rfl (by rw [ev_214]; rfl) (by decide) rfl (fun ls hl => ?_)
          refine lv_goto (tgt := 38) hx hb d_Parting_goOn_119 (by decide) ?_
          exact ihk_188 (v_214) (x_205) (y_191) (y_192) (y_193) (f_206) (f_207) _ _ _ (zI.wk (l' := 0) (h' := 10) hv_214 (by decide)) hx_205 hy_191 hy_192 hy_193 hf_206 hf_207 hli_196 (by omega) (zm_up qv_214 hmk_188 (by decide)) (hP.sub [0, 12, 1, 2, 3, 4, 5, 6, 7, 8, 9, 10, 11, 13, 14] rfl) (hD.sub [0, 12, 1, 2, 3, 4, 5, 6, 7, 8, 9, 10, 11, 13, 14] (by decide) rfl) hS (lv_sub hl [0, 3, 4, 5, 6] rfl)
        · have _nhc_212 := hc_212
          have ni_215 := (fa_eq _ _).mp hc_212
          have hv_216 : zI y_190 0 399 := zI.eq_l hy_190 hv_211 hc_212.symm
          refine lv_aload_n hx hb d_Parting_goOn_84 rfl (lv_at hl 3 rfl) ?_
          refine va_get (D := G.1) (ci := 8) (v := .ref b11) (C := R_Parting) (T := F_Parting) (N := 10) hx hb hts i_Parting hown hK hP 0 rfl rfl 7 (by decide) (hts _ q309) (fun _ h9 => h9) rfl d_Parting_goOn_85 ?_
          refine lv_iload hx hb d_Parting_goOn_88 (lv_at hl 0 rfl) ?_
          refine lv_iload_n hx hb d_Parting_goOn_90 rfl (lv_at hl 6 rfl) ?_
          refine va_iast hx hb hK hP hD hS 1 0 rfl rfl (zI.inn hv_211 (by decide)) d_Parting_goOn_91 (fun H locs hP hD hS => ?_)
          obtain ⟨f_217, hf_217, gf_217, uf_217, hP, hD⟩ := z_newfu 1 hP hD rfl hy_191 hb3
          have hP : va_P G.1 classes [(b0, .inr (8, [.int b4, .int b5, .ref b6, .int b7, .int b8, .ref b9, .ref b10, .ref b11, .ref b12, .ref b13])), (b11, .inl (G.2 0, 400, .inl f_217)), (b12, .inl (G.2 0, 400, .inl y_192)), (b13, .inl (G.2 0, 400, .inl y_193)), (b1, .inr (5, [.int b26, .int b27, .ref b28, .ref b29, .ref b30, .ref b31, .ref b32, .ref b33, .int b34, .ref b35, .ref b36, .ref b37, .ref b38, .ref b39, .ref b40])), (b35, .inl (G.2 0, 240, .inl b41)), (b39, .inl (G.2 0, 242, .inl b42)), (b2, .inr (5, [.int b43, .int b44, .ref b45, .ref b46, .ref b47, .ref b48, .ref b49, .ref b50, .int b51, .ref b52, .ref b53, .ref b54, .ref b55, .ref b56, .ref b57])), (b52, .inl (G.2 0, 240, .inl b58)), (b56, .inl (G.2 0, 242, .inl b59)), (b9, .inr (6, [.int x_205, .int 8, .int 400, .ref b15, .ref b16])), (b15, .inl (G.2 1, 3200, .inr (.inl f_206))), (b16, .inl (G.2 0, 1024, .inl f_207)), (b10, .inr (6, [.int b19, .int 8, .int 10, .ref b20, .ref b21])), (b20, .inl (G.2 1, 80, .inr (.inl f_6)))] H := hP
          have hD := z_tie hP hD rfl
          refine lv_aload_n hx hb d_Parting_goOn_92 rfl (lv_at hl 3 rfl) ?_
          refine va_get (D := G.1) (ci := 8) (v := .ref b12) (C := R_Parting) (T := F_Parting) (N := 10) hx hb hts i_Parting hown hK hP 0 rfl rfl 8 (by decide) (hts _ q310) (fun _ h9 => h9) rfl d_Parting_goOn_93 ?_
          refine lv_iload hx hb d_Parting_goOn_96 (lv_at hl 0 rfl) ?_
          refine lv_iload hx hb d_Parting_goOn_98 (lv_at hl 2 rfl) ?_
          refine va_iast hx hb hK hP hD hS 2 0 rfl rfl (zI.inn hv_211 (by decide)) d_Parting_goOn_100 (fun H locs hP hD hS => ?_)
          obtain ⟨f_218, hf_218, gf_218, uf_218, hP, hD⟩ := z_newfu 2 hP hD rfl hy_192 hv_202
          have hP : va_P G.1 classes [(b0, .inr (8, [.int b4, .int b5, .ref b6, .int b7, .int b8, .ref b9, .ref b10, .ref b11, .ref b12, .ref b13])), (b11, .inl (G.2 0, 400, .inl f_217)), (b12, .inl (G.2 0, 400, .inl f_218)), (b13, .inl (G.2 0, 400, .inl y_193)), (b1, .inr (5, [.int b26, .int b27, .ref b28, .ref b29, .ref b30, .ref b31, .ref b32, .ref b33, .int b34, .ref b35, .ref b36, .ref b37, .ref b38, .ref b39, .ref b40])), (b35, .inl (G.2 0, 240, .inl b41)), (b39, .inl (G.2 0, 242, .inl b42)), (b2, .inr (5, [.int b43, .int b44, .ref b45, .ref b46, .ref b47, .ref b48, .ref b49, .ref b50, .int b51, .ref b52, .ref b53, .ref b54, .ref b55, .ref b56, .ref b57])), (b52, .inl (G.2 0, 240, .inl b58)), (b56, .inl (G.2 0, 242, .inl b59)), (b9, .inr (6, [.int x_205, .int 8, .int 400, .ref b15, .ref b16])), (b15, .inl (G.2 1, 3200, .inr (.inl f_206))), (b16, .inl (G.2 0, 1024, .inl f_207)), (b10, .inr (6, [.int b19, .int 8, .int 10, .ref b20, .ref b21])), (b20, .inl (G.2 1, 80, .inr (.inl f_6)))] H := hP
          have hD := z_tie hP hD rfl
          refine lv_aload_n hx hb d_Parting_goOn_101 rfl (lv_at hl 3 rfl) ?_
          refine va_get (D := G.1) (ci := 8) (v := .ref b13) (C := R_Parting) (T := F_Parting) (N := 10) hx hb hts i_Parting hown hK hP 0 rfl rfl 9 (by decide) (hts _ q311) (fun _ h9 => h9) rfl d_Parting_goOn_102 ?_
          refine lv_iload hx hb d_Parting_goOn_105 (lv_at hl 0 rfl) ?_
          refine lv_aload_n hx hb d_Parting_goOn_107 rfl (lv_at hl 3 rfl) ?_
          refine va_get (D := G.1) (ci := 8) (v := .ref b13) (C := R_Parting) (T := F_Parting) (N := 10) hx hb hts i_Parting hown hK hP 0 rfl rfl 9 (by decide) (hts _ q311) (fun _ h9 => h9) rfl d_Parting_goOn_108 ?_
          refine lv_iload_n hx hb d_Parting_goOn_111 rfl (lv_at hl 6 rfl) ?_
          refine va_iald hx hb hK hP 3 0 rfl rfl (zI.inn hb3 (by decide)) d_Parting_goOn_112 ?_
          refine lv_topi (fun v_219 ev_219 => ?_)
          have hv_219 : zI v_219 0 8 := (hy_193 _).eq ev_219
          have hv_220 : zI v_219 0 7 := ⟨hv_219.1, by rw [ev_219]; exact hli_196⟩
          refine lv_iconst (v := 1) hx hb d_Parting_goOn_113 (by decide) ?_
          refine lv_iadd hx hb d_Parting_goOn_114 ?_
          refine lv_topi (fun v_221 ev_221 => ?_)
          obtain ⟨qv_221, hv_221⟩ := zI_add (l := 1) (h := 8) hv_220 zc_1 ev_221 (by decide)
          rw [li_1] at qv_221
          refine va_iast hx hb hK hP hD hS 3 0 rfl rfl (zI.inn hv_211 (by decide)) d_Parting_goOn_115 (fun H locs hP hD hS => ?_)
          obtain ⟨f_222, hf_222, gf_222, uf_222, hP, hD⟩ := z_newfu 3 hP hD rfl hy_193 (zI.wk (l' := 0) (h' := 8) hv_221 (by decide))
          have hP : va_P G.1 classes [(b0, .inr (8, [.int b4, .int b5, .ref b6, .int b7, .int b8, .ref b9, .ref b10, .ref b11, .ref b12, .ref b13])), (b11, .inl (G.2 0, 400, .inl f_217)), (b12, .inl (G.2 0, 400, .inl f_218)), (b13, .inl (G.2 0, 400, .inl f_222)), (b1, .inr (5, [.int b26, .int b27, .ref b28, .ref b29, .ref b30, .ref b31, .ref b32, .ref b33, .int b34, .ref b35, .ref b36, .ref b37, .ref b38, .ref b39, .ref b40])), (b35, .inl (G.2 0, 240, .inl b41)), (b39, .inl (G.2 0, 242, .inl b42)), (b2, .inr (5, [.int b43, .int b44, .ref b45, .ref b46, .ref b47, .ref b48, .ref b49, .ref b50, .int b51, .ref b52, .ref b53, .ref b54, .ref b55, .ref b56, .ref b57])), (b52, .inl (G.2 0, 240, .inl b58)), (b56, .inl (G.2 0, 242, .inl b59)), (b9, .inr (6, [.int x_205, .int 8, .int 400, .ref b15, .ref b16])), (b15, .inl (G.2 1, 3200, .inr (.inl f_206))), (b16, .inl (G.2 0, 1024, .inl f_207)), (b10, .inr (6, [.int b19, .int 8, .int 10, .ref b20, .ref b21])), (b20, .inl (G.2 1, 80, .inr (.inl f_6)))] H := hP
          have hD := z_tie hP hD rfl
          obtain ⟨v_223, ev_223⟩ : ∃ z : Int32, z = y_189 + 1 := ⟨_, rfl⟩
          obtain ⟨qv_223, hv_223⟩ := zI_add (l := 1) (h := 10) hv_202 zc_1 ev_223 (by decide)
          rw [li_1] at qv_223
          refine lv_iinc (v := v_223) (lv' := [(4, .int v_223), (6, .int x_204), (5, .int y_190), (0, .ref b0), (1, .ref b1), (2, .ref b2), (3, .int b3)]) hx hb d_Parting_goOn_116 hl (k := 2) rfl (by rw [ev_223]; rfl) (by decide) rfl (fun ls hl => ?_)
          refine lv_goto (tgt := 38) hx hb d_Parting_goOn_119 (by decide) ?_
          exact ihk_188 (v_223) (x_205) (f_217) (f_218) (f_222) (f_206) (f_207) _ _ _ (zI.wk (l' := 0) (h' := 10) hv_223 (by decide)) hx_205 hf_217 hf_218 hf_222 hf_206 hf_207 (by have p9 := z_pl hv_211 (by decide); have p8 := z_pl hb3 (by decide); rw [uf_222, z_at, if_neg (by omega)]; exact hli_196) (by omega) (zm_up qv_223 hmk_188 (by decide)) (hP.sub [0, 12, 1, 2, 3, 4, 5, 6, 7, 8, 9, 10, 11, 13, 14] rfl) (hD.sub [0, 12, 1, 2, 3, 4, 5, 6, 7, 8, 9, 10, 11, 13, 14] (by decide) rfl) hS (lv_sub hl [0, 3, 4, 5, 6] rfl)
      · have _nhc_209 := hc_209
        have ni_224 := (fa_eq _ _).mp hc_209
        rw [li_m1] at ni_224
        have hv_225 : zI x_204 (-1) (-1) := zI.eq_l hx_204 zc_m1 hc_209
        refine lv_iconst (v := 0) hx hb d_Parting_goOn_75 (by decide) ?_
        exact z_zret hx hb hr hlocks rfl (hP.sub [0, 10, 11, 12, 13, 14, 1, 2, 3, 4, 5, 6, 7, 8, 9] rfl) (hD.sub [0, 10, 11, 12, 13, 14, 1, 2, 3, 4, 5, 6, 7, 8, 9] (by decide) rfl) hS (Nat.le_of_ble_eq_true rfl) (Nat.le_of_ble_eq_true rfl) d_Parting_goOn_76 ⟨0, x_205, f_206, f_207, f_6, y_191, y_192, y_193, rfl, rfl, (zI.wk (l' := 0) (h' := 1) zc_0 (by decide)), hx_205, hf_206, hf_207, hf_6, hy_191, hy_192, hy_193⟩
abbrev m_s2_Parting_find : Room := { frames := 4, cells := 0, slots := 0, locals := 97 }
set_option maxHeartbeats 4000000 in
set_option maxRecDepth 100000 in
theorem s2_Parting_find (l : Launch) (G : zG) (b0 : Nat) (b1 : Nat) (b2 : Nat) (b3 : Int32) (b4 : Int32) (b5 : Nat) (b6 : Int32) (b7 : Int32) (b8 : Nat) (b9 : Nat) (b10 : Nat) (b11 : Nat) (b12 : Nat) (b13 : Nat → Int32) (b14 : Int32) (b15 : Nat) (b16 : Nat) (b17 : Nat → Int64) (b18 : Nat → Int32) (b19 : Int32) (b20 : Nat) (b21 : Nat) (b22 : Nat → Int64) (b23 : Nat → Int32) (b24 : Nat → Int32) (b25 : Nat → Int32) (b26 : Int32) (b27 : Int32) (b28 : Nat) (b29 : Nat) (b30 : Nat) (b31 : Nat) (b32 : Nat) (b33 : Nat) (b34 : Int32) (b35 : Nat) (b36 : Nat) (b37 : Nat) (b38 : Nat) (b39 : Nat) (b40 : Nat) (b41 : Nat → Int64) (b42 : Nat → Int32) (b43 : Nat → Int32) (b44 : Int32) (b45 : Int32) (b46 : Nat) (b47 : Nat) (b48 : Nat) (b49 : Nat) (b50 : Nat) (b51 : Nat) (b52 : Int32) (b53 : Nat) (b54 : Nat) (b55 : Nat) (b56 : Nat) (b57 : Nat) (b58 : Nat) (b59 : Nat → Int64) (b60 : Nat → Int32) (b61 : Nat → Int32) (hb3 : zI b3 0 1) (hb4 : zI b4 (-2) 8) (hb14 : zI b14 0 400) (hb19 : zI b19 0 10) (hb26 : zI b26 0 1) (hb27 : zI b27 0 241) (hb34 : zI b34 0 240) (hb44 : zI b44 0 1) (hb45 : zI b45 0 241) (hb52 : zI b52 0 240) (hb13 : zR b13 0 9) (hb17 : zqa qB b17) (hb18 : zR b18 (-1) 399) (hb22 : zqa qB b22) (hb23 : zR b23 0 399) (hb24 : zR b24 0 9) (hb25 : zR b25 0 8) (hb42 : zK b42) (hb43 : zR b43 0 240) (hb60 : zK b60) (hb61 : zR b61 0 240) : zM l G y_Parting_find prog_7_method_4_code 4 (Option.none : Option Jvm.ClassFile.FieldType) m_s2_Parting_find [.ref b0, .ref b1, .ref b2] [(b0, .inr (8, [.int b3, .int b4, .ref b5, .int b6, .int b7, .ref b8, .ref b9, .ref b10, .ref b11, .ref b12])), (b5, .inl (G.2 0, 8, .inl b13)), (b8, .inr (6, [.int b14, .int 8, .int 400, .ref b15, .ref b16])), (b15, .inl (G.2 1, 3200, .inr (.inl b17))), (b16, .inl (G.2 0, 1024, .inl b18)), (b9, .inr (6, [.int b19, .int 8, .int 10, .ref b20, .ref b21])), (b20, .inl (G.2 1, 80, .inr (.inl b22))), (b10, .inl (G.2 0, 400, .inl b23)), (b11, .inl (G.2 0, 400, .inl b24)), (b12, .inl (G.2 0, 400, .inl b25)), (b1, .inr (5, [.int b26, .int b27, .ref b28, .ref b29, .ref b30, .ref b31, .ref b32, .ref b33, .int b34, .ref b35, .ref b36, .ref b37, .ref b38, .ref b39, .ref b40])), (b33, .inl (G.2 1, 4, .inr (.inl b41))), (b35, .inl (G.2 0, 240, .inl b42)), (b39, .inl (G.2 0, 242, .inl b43)), (b2, .inr (5, [.int b44, .int b45, .ref b46, .ref b47, .ref b48, .ref b49, .ref b50, .ref b51, .int b52, .ref b53, .ref b54, .ref b55, .ref b56, .ref b57, .ref b58])), (b51, .inl (G.2 1, 4, .inr (.inl b59))), (b53, .inl (G.2 0, 240, .inl b60)), (b57, .inl (G.2 0, 242, .inl b61))] (fun v w => ∃ (e0 : Int32), ∃ (e1 : Nat → Int32), ∃ (e2 : Int32), ∃ (e3 : Nat → Int64), ∃ (e4 : Nat → Int32), ∃ (e5 : Nat → Int64), ∃ (e6 : Nat → Int32), ∃ (e7 : Nat → Int32), ∃ (e8 : Nat → Int32), v = none ∧ w = [(b0, .inr (8, [.int b3, .int e0, .ref b5, .int b6, .int b7, .ref b8, .ref b9, .ref b10, .ref b11, .ref b12])), (b5, .inl (G.2 0, 8, .inl e1)), (b8, .inr (6, [.int e2, .int 8, .int 400, .ref b15, .ref b16])), (b15, .inl (G.2 1, 3200, .inr (.inl e3))), (b16, .inl (G.2 0, 1024, .inl e4)), (b9, .inr (6, [.int b19, .int 8, .int 10, .ref b20, .ref b21])), (b20, .inl (G.2 1, 80, .inr (.inl e5))), (b10, .inl (G.2 0, 400, .inl e6)), (b11, .inl (G.2 0, 400, .inl e7)), (b12, .inl (G.2 0, 400, .inl e8)), (b1, .inr (5, [.int b26, .int b27, .ref b28, .ref b29, .ref b30, .ref b31, .ref b32, .ref b33, .int b34, .ref b35, .ref b36, .ref b37, .ref b38, .ref b39, .ref b40])), (b33, .inl (G.2 1, 4, .inr (.inl b41))), (b35, .inl (G.2 0, 240, .inl b42)), (b39, .inl (G.2 0, 242, .inl b43)), (b2, .inr (5, [.int b44, .int b45, .ref b46, .ref b47, .ref b48, .ref b49, .ref b50, .ref b51, .int b52, .ref b53, .ref b54, .ref b55, .ref b56, .ref b57, .ref b58])), (b51, .inl (G.2 1, 4, .inr (.inl b59))), (b53, .inl (G.2 0, 240, .inl b60)), (b57, .inl (G.2 0, 242, .inl b61))] ∧ (zI e0 (-2) 8) ∧ (zR e1 0 9) ∧ (zI e2 0 400) ∧ (zqa qB e3) ∧ (zR e4 (-1) 399) ∧ (zqa qB e5) ∧ (zR e6 0 399) ∧ (zR e7 0 9) ∧ (zR e8 0 8)) := by
  refine z_start (by decide +kernel) (Nat.le_of_ble_eq_true rfl) ?_
  intro p e s m below meth c A Z hr hnm hA hP hD hS ls hl
  have Z : zC p s m _ meth c prog_7_method_4_code 4 "TraceMachines$Parting" G := Z
  obtain ⟨hx, hb, hml, hown, hts, hK, hN, hlocks⟩ := id Z
  have hl : lv_has ls 4 [(0, .ref b0), (1, .ref b1), (2, .ref b2)] := hl
  refine lv_aload_n hx hb d_Parting_find_0 rfl (lv_at hl 0 rfl) ?_
  refine lv_iconst (v := (-1)) hx hb d_Parting_find_1 (by decide) ?_
  refine va_put (D := G.1) (ci := 8) (v := .int (-1)) (ty := .int) (C := R_Parting) (T := F_Parting) (N := 10) hx hb hts i_Parting t_Parting t_Parting_ok n_Parting hown hK hP hD hS 0 rfl rfl 1 (by decide) (hts _ q301) (fun _ h9 => h9) rfl (by decide +kernel) rfl rfl (Nat.le_of_ble_eq_true rfl) d_Parting_find_2 (fun H locs hP hD hS => ?_)
  have hP : va_P G.1 classes [(b0, .inr (8, [.int b3, .int (-1), .ref b5, .int b6, .int b7, .ref b8, .ref b9, .ref b10, .ref b11, .ref b12])), (b5, .inl (G.2 0, 8, .inl b13)), (b8, .inr (6, [.int b14, .int 8, .int 400, .ref b15, .ref b16])), (b15, .inl (G.2 1, 3200, .inr (.inl b17))), (b16, .inl (G.2 0, 1024, .inl b18)), (b9, .inr (6, [.int b19, .int 8, .int 10, .ref b20, .ref b21])), (b20, .inl (G.2 1, 80, .inr (.inl b22))), (b10, .inl (G.2 0, 400, .inl b23)), (b11, .inl (G.2 0, 400, .inl b24)), (b12, .inl (G.2 0, 400, .inl b25)), (b1, .inr (5, [.int b26, .int b27, .ref b28, .ref b29, .ref b30, .ref b31, .ref b32, .ref b33, .int b34, .ref b35, .ref b36, .ref b37, .ref b38, .ref b39, .ref b40])), (b33, .inl (G.2 1, 4, .inr (.inl b41))), (b35, .inl (G.2 0, 240, .inl b42)), (b39, .inl (G.2 0, 242, .inl b43)), (b2, .inr (5, [.int b44, .int b45, .ref b46, .ref b47, .ref b48, .ref b49, .ref b50, .ref b51, .int b52, .ref b53, .ref b54, .ref b55, .ref b56, .ref b57, .ref b58])), (b51, .inl (G.2 1, 4, .inr (.inl b59))), (b53, .inl (G.2 0, 240, .inl b60)), (b57, .inl (G.2 0, 242, .inl b61))] H := hP
  have hD := z_tie hP hD rfl
  refine lv_aload_n hx hb d_Parting_find_5 rfl (lv_at hl 0 rfl) ?_
  refine lv_aload_n hx hb d_Parting_find_6 rfl (lv_at hl 1 rfl) ?_
  refine lv_aload_n hx hb d_Parting_find_7 rfl (lv_at hl 2 rfl) ?_
  refine z_callV (index := 50) (As := [.ref b1, .ref b2]) (rest := []) (wr := [(b5, .inl (G.2 0, 8, .inl b13)), (b10, .inl (G.2 0, 400, .inl b23)), (b11, .inl (G.2 0, 400, .inl b24)), (b33, .inl (G.2 1, 4, .inr (.inl b41))), (b35, .inl (G.2 0, 240, .inl b42)), (b39, .inl (G.2 0, 242, .inl b43)), (b51, .inl (G.2 1, 4, .inr (.inl b59))), (b53, .inl (G.2 0, 240, .inl b60)), (b57, .inl (G.2 0, 242, .inl b61))]) Z (s4_Parting_begin l G (b0) (b1) (b2) (b3) ((-1)) (b5) (b6) (b7) (b8) (b9) (b10) (b11) (b12) (b14) (b15) (b16) (b17) (b18) (b19) (b20) (b21) (b22) (b25) (b26) (b27) (b28) (b29) (b30) (b31) (b32) (b33) (b34) (b35) (b36) (b37) (b38) (b39) (b40) (b44) (b45) (b46) (b47) (b48) (b49) (b50) (b51) (b52) (b53) (b54) (b55) (b56) (b57) (b58) hb3 (zI.wk (l' := (-2)) (h' := 8) zc_m1 (by decide)) hb14 hb19 hb26 hb27 hb34 hb44 hb45 hb52 hb17 hb18 hb22 hb25) hl.1 q878 q880 qs29 q9 q881 ⟨by decide, by decide, by show _ = some 2; decide +kernel⟩ ⟨Nat.le_of_ble_eq_true rfl, Nat.le_of_ble_eq_true rfl⟩ ⟨Nat.le_of_ble_eq_true rfl, Nat.le_of_ble_eq_true rfl⟩ rfl (Nat.le_of_ble_eq_true rfl) d_Parting_find_8 hP hD hS hA 0 8 rfl rfl rfl [0, 2, 3, 4, 5, 6, 9, 10, 14] [1, 7, 8, 11, 12, 13, 15, 16, 17] rfl rfl rfl rfl (by decide) (fun v w1 H locs hw_1 hP hD hS => ?_)
  obtain ⟨x_2, f_3, f_4, f_5, f_6, rfl, rfl, hx_2, hf_3, hf_4, hf_5, hf_6⟩ := hw_1
  have hP : va_P G.1 classes [(b5, .inl (G.2 0, 8, .inl b13)), (b10, .inl (G.2 0, 400, .inl b23)), (b11, .inl (G.2 0, 400, .inl b24)), (b33, .inl (G.2 1, 4, .inr (.inl b41))), (b35, .inl (G.2 0, 240, .inl b42)), (b39, .inl (G.2 0, 242, .inl b43)), (b51, .inl (G.2 1, 4, .inr (.inl b59))), (b53, .inl (G.2 0, 240, .inl b60)), (b57, .inl (G.2 0, 242, .inl b61)), (b0, .inr (8, [.int b3, .int (-1), .ref b5, .int b6, .int b7, .ref b8, .ref b9, .ref b10, .ref b11, .ref b12])), (b8, .inr (6, [.int x_2, .int 8, .int 400, .ref b15, .ref b16])), (b15, .inl (G.2 1, 3200, .inr (.inl f_3))), (b16, .inl (G.2 0, 1024, .inl f_4)), (b9, .inr (6, [.int b19, .int 8, .int 10, .ref b20, .ref b21])), (b20, .inl (G.2 1, 80, .inr (.inl f_5))), (b12, .inl (G.2 0, 400, .inl f_6)), (b1, .inr (5, [.int b26, .int b27, .ref b28, .ref b29, .ref b30, .ref b31, .ref b32, .ref b33, .int b34, .ref b35, .ref b36, .ref b37, .ref b38, .ref b39, .ref b40])), (b2, .inr (5, [.int b44, .int b45, .ref b46, .ref b47, .ref b48, .ref b49, .ref b50, .ref b51, .int b52, .ref b53, .ref b54, .ref b55, .ref b56, .ref b57, .ref b58]))] H := hP
  have hD := z_tie hP hD rfl
  refine W.widen (k := 0) (n := 0) (Nat.le_of_ble_eq_true rfl) (Nat.le_of_ble_eq_true rfl) ?_
  refine lv_iconst (v := 0) hx hb d_Parting_find_11 (by decide) ?_
  refine lv_istore_n (lv' := [(3, .int 0), (0, .ref b0), (1, .ref b1), (2, .ref b2)]) hx hb d_Parting_find_12 rfl hl (by decide) rfl (fun ls hl => ?_)
  suffices key : ∀ (k_452 : Nat) (y_453 : Int32) (y_454 : Int32) (y_455 : Nat → Int32) (y_456 : Nat → Int32) (y_457 : Nat → Int32) (y_458 : Nat → Int64) (y_459 : Nat → Int32) (y_460 : Nat → Int64) (H : Heap) (locs : List Loc) (ls : Array Slot), (zI y_453 0 400) → (zI y_454 0 400) → (zR y_455 0 399) → (zR y_456 0 9) → (zR y_457 0 8) → (zqa qB y_458) → (zR y_459 (-1) 399) → (zqa qB y_460) → (400 : Int) - y_453.toInt < (k_452 : Int) → va_P G.1 classes [(b5, .inl (G.2 0, 8, .inl b13)), (b10, .inl (G.2 0, 400, .inl y_455)), (b11, .inl (G.2 0, 400, .inl y_456)), (b33, .inl (G.2 1, 4, .inr (.inl b41))), (b35, .inl (G.2 0, 240, .inl b42)), (b39, .inl (G.2 0, 242, .inl b43)), (b51, .inl (G.2 1, 4, .inr (.inl b59))), (b53, .inl (G.2 0, 240, .inl b60)), (b57, .inl (G.2 0, 242, .inl b61)), (b0, .inr (8, [.int b3, .int (-1), .ref b5, .int b6, .int b7, .ref b8, .ref b9, .ref b10, .ref b11, .ref b12])), (b8, .inr (6, [.int y_454, .int 8, .int 400, .ref b15, .ref b16])), (b15, .inl (G.2 1, 3200, .inr (.inl y_458))), (b16, .inl (G.2 0, 1024, .inl y_459)), (b9, .inr (6, [.int b19, .int 8, .int 10, .ref b20, .ref b21])), (b20, .inl (G.2 1, 80, .inr (.inl y_460))), (b12, .inl (G.2 0, 400, .inl y_457)), (b1, .inr (5, [.int b26, .int b27, .ref b28, .ref b29, .ref b30, .ref b31, .ref b32, .ref b33, .int b34, .ref b35, .ref b36, .ref b37, .ref b38, .ref b39, .ref b40])), (b2, .inr (5, [.int b44, .int b45, .ref b46, .ref b47, .ref b48, .ref b49, .ref b50, .ref b51, .int b52, .ref b53, .ref b54, .ref b55, .ref b56, .ref b57, .ref b58]))] H → va_D A [(b5, .inl (G.2 0, 8, .inl b13)), (b10, .inl (G.2 0, 400, .inl y_455)), (b11, .inl (G.2 0, 400, .inl y_456)), (b33, .inl (G.2 1, 4, .inr (.inl b41))), (b35, .inl (G.2 0, 240, .inl b42)), (b39, .inl (G.2 0, 242, .inl b43)), (b51, .inl (G.2 1, 4, .inr (.inl b59))), (b53, .inl (G.2 0, 240, .inl b60)), (b57, .inl (G.2 0, 242, .inl b61)), (b0, .inr (8, [.int b3, .int (-1), .ref b5, .int b6, .int b7, .ref b8, .ref b9, .ref b10, .ref b11, .ref b12])), (b8, .inr (6, [.int y_454, .int 8, .int 400, .ref b15, .ref b16])), (b15, .inl (G.2 1, 3200, .inr (.inl y_458))), (b16, .inl (G.2 0, 1024, .inl y_459)), (b9, .inr (6, [.int b19, .int 8, .int 10, .ref b20, .ref b21])), (b20, .inl (G.2 1, 80, .inr (.inl y_460))), (b12, .inl (G.2 0, 400, .inl y_457)), (b1, .inr (5, [.int b26, .int b27, .ref b28, .ref b29, .ref b30, .ref b31, .ref b32, .ref b33, .int b34, .ref b35, .ref b36, .ref b37, .ref b38, .ref b39, .ref b40])), (b2, .inr (5, [.int b44, .int b45, .ref b46, .ref b47, .ref b48, .ref b49, .ref b50, .ref b51, .int b52, .ref b53, .ref b54, .ref b55, .ref b56, .ref b57, .ref b58]))] → va_S A s.heap H locs → lv_has ls 4 [(3, .int y_453), (0, .ref b0), (1, .ref b1), (2, .ref b2)] → W p l e m_s2_Parting_find s m ([.ref b0, .ref b1, .ref b2] : List Value).toArray below meth c H locs 0 0 (MQ below (zQ G (fun v w => ∃ (e0 : Int32), ∃ (e1 : Nat → Int32), ∃ (e2 : Int32), ∃ (e3 : Nat → Int64), ∃ (e4 : Nat → Int32), ∃ (e5 : Nat → Int64), ∃ (e6 : Nat → Int32), ∃ (e7 : Nat → Int32), ∃ (e8 : Nat → Int32), v = none ∧ w = [(b0, .inr (8, [.int b3, .int e0, .ref b5, .int b6, .int b7, .ref b8, .ref b9, .ref b10, .ref b11, .ref b12])), (b5, .inl (G.2 0, 8, .inl e1)), (b8, .inr (6, [.int e2, .int 8, .int 400, .ref b15, .ref b16])), (b15, .inl (G.2 1, 3200, .inr (.inl e3))), (b16, .inl (G.2 0, 1024, .inl e4)), (b9, .inr (6, [.int b19, .int 8, .int 10, .ref b20, .ref b21])), (b20, .inl (G.2 1, 80, .inr (.inl e5))), (b10, .inl (G.2 0, 400, .inl e6)), (b11, .inl (G.2 0, 400, .inl e7)), (b12, .inl (G.2 0, 400, .inl e8)), (b1, .inr (5, [.int b26, .int b27, .ref b28, .ref b29, .ref b30, .ref b31, .ref b32, .ref b33, .int b34, .ref b35, .ref b36, .ref b37, .ref b38, .ref b39, .ref b40])), (b33, .inl (G.2 1, 4, .inr (.inl b41))), (b35, .inl (G.2 0, 240, .inl b42)), (b39, .inl (G.2 0, 242, .inl b43)), (b2, .inr (5, [.int b44, .int b45, .ref b46, .ref b47, .ref b48, .ref b49, .ref b50, .ref b51, .int b52, .ref b53, .ref b54, .ref b55, .ref b56, .ref b57, .ref b58])), (b51, .inl (G.2 1, 4, .inr (.inl b59))), (b53, .inl (G.2 0, 240, .inl b60)), (b57, .inl (G.2 0, 242, .inl b61))] ∧ (zI e0 (-2) 8) ∧ (zR e1 0 9) ∧ (zI e2 0 400) ∧ (zqa qB e3) ∧ (zR e4 (-1) 399) ∧ (zqa qB e5) ∧ (zR e6 0 399) ∧ (zR e7 0 9) ∧ (zR e8 0 8)) A) ([.ref b0, .ref b1, .ref b2] : List Value).toArray s m_s2_Parting_find.cells m_s2_Parting_find.slots A) (F0 m 13 ls []) by
    exact key 401 (0) (x_2) (b23) (b24) (f_6) (f_3) (f_4) (f_5) _ _ _ (zI.wk (l' := 0) (h' := 400) zc_0 (by decide)) hx_2 hb23 hb24 hf_6 hf_3 hf_4 hf_5 (zm_upi (zI.wk (l' := 0) (h' := 400) zc_0 (by decide)) (by decide)) hP hD hS (lv_sub hl [0, 1, 2, 3] rfl)
  intro k_452
  induction k_452 with
  | zero =>
    intro y_453 y_454 y_455 y_456 y_457 y_458 y_459 y_460 H locs ls hy_453 hy_454 hy_455 hy_456 hy_457 hy_458 hy_459 hy_460 hmk_452 hP hD hS hl
    exact (zm_up0 hy_453 hmk_452).elim
  | succ k_452 ihk_452 =>
    intro y_453 y_454 y_455 y_456 y_457 y_458 y_459 y_460 H locs ls hy_453 hy_454 hy_455 hy_456 hy_457 hy_458 hy_459 hy_460 hmk_452 hP hD hS hl
    refine lv_iload_n hx hb d_Parting_find_13 rfl (lv_at hl 0 rfl) ?_
    refine lv_sipush (v := 400) hx hb d_Parting_find_14 (by decide) ?_
    refine lv_icmp_ge (tgt := 94) hx hb d_Parting_find_17 (by decide) (fun hc_461 => ?_) (fun hc_461 => ?_)
    · have _nhc_461 := hc_461
      have ni_462 := (fa_le _ _).mp hc_461
      rw [li_400] at ni_462
      have hv_463 : zI y_453 400 400 := zI.le_r zc_400 hy_453 hc_461 (by decide)
      exact z_vret hx hb hr hlocks (hP.sub [9, 0, 10, 11, 12, 13, 14, 1, 2, 15, 16, 3, 4, 5, 17, 6, 7, 8] rfl) (hD.sub [9, 0, 10, 11, 12, 13, 14, 1, 2, 15, 16, 3, 4, 5, 17, 6, 7, 8] (by decide) rfl) hS (Nat.le_of_ble_eq_true rfl) (Nat.le_of_ble_eq_true rfl) d_Parting_find_94 ⟨(-1), b13, y_454, y_458, y_459, y_460, y_455, y_456, y_457, rfl, rfl, (zI.wk (l' := (-2)) (h' := 8) zc_m1 (by decide)), hb13, hy_454, hy_458, hy_459, hy_460, hy_455, hy_456, hy_457⟩
    · have _nhc_461 := hc_461
      have ni_464 := (fa_lt _ _).mp (zi_nle hc_461)
      rw [li_400] at ni_464
      have hv_465 : zI y_453 0 399 := zI.lt_l hy_453 zc_400 (zi_nle hc_461) (by decide)
      refine lv_iload_n hx hb d_Parting_find_20 rfl (lv_at hl 0 rfl) ?_
      refine lv_aload_n hx hb d_Parting_find_21 rfl (lv_at hl 1 rfl) ?_
      refine va_get (D := G.1) (ci := 8) (v := .ref b8) (C := R_Parting) (T := F_Parting) (N := 10) hx hb hts i_Parting hown hK hP 9 rfl rfl 5 (by decide) (hts _ q307) (fun _ h9 => h9) rfl d_Parting_find_22 ?_
      refine va_get (D := G.1) (ci := 6) (v := .int y_454) (C := R_Sets) (T := F_Sets) (N := 5) hx hb hts i_Sets hown hK hP 10 rfl rfl 0 (by decide) (hts _ q241) (fun _ h9 => h9) rfl d_Parting_find_25 ?_
      refine lv_icmp_ge (tgt := 94) hx hb d_Parting_find_28 (by decide) (fun hc_466 => ?_) (fun hc_466 => ?_)
      · have _nhc_466 := hc_466
        have ni_467 := (fa_le _ _).mp hc_466
        have hv_468 : zI y_454 0 399 := zI.le_l hy_454 hv_465 hc_466 (by decide)
        exact z_vret hx hb hr hlocks (hP.sub [9, 0, 10, 11, 12, 13, 14, 1, 2, 15, 16, 3, 4, 5, 17, 6, 7, 8] rfl) (hD.sub [9, 0, 10, 11, 12, 13, 14, 1, 2, 15, 16, 3, 4, 5, 17, 6, 7, 8] (by decide) rfl) hS (Nat.le_of_ble_eq_true rfl) (Nat.le_of_ble_eq_true rfl) d_Parting_find_94 ⟨(-1), b13, y_454, y_458, y_459, y_460, y_455, y_456, y_457, rfl, rfl, (zI.wk (l' := (-2)) (h' := 8) zc_m1 (by decide)), hb13, (zI.wk (l' := 0) (h' := 400) hv_468 (by decide)), hy_458, hy_459, hy_460, hy_455, hy_456, hy_457⟩
      · have _nhc_466 := hc_466
        have ni_469 := (fa_lt _ _).mp (zi_nle hc_466)
        have hv_470 : zI y_454 1 400 := zI.lt_r hv_465 hy_454 (zi_nle hc_466) (by decide)
        refine lv_aload_n hx hb d_Parting_find_31 rfl (lv_at hl 2 rfl) ?_
        refine lv_aload_n hx hb d_Parting_find_32 rfl (lv_at hl 1 rfl) ?_
        refine va_get (D := G.1) (ci := 8) (v := .ref b8) (C := R_Parting) (T := F_Parting) (N := 10) hx hb hts i_Parting hown hK hP 9 rfl rfl 5 (by decide) (hts _ q307) (fun _ h9 => h9) rfl d_Parting_find_33 ?_
        refine lv_iload_n hx hb d_Parting_find_36 rfl (lv_at hl 0 rfl) ?_
        refine lv_iconst (v := 0) hx hb d_Parting_find_37 (by decide) ?_
        refine z_callV (index := 57) (As := [.ref b8, .int y_453, .int 0]) (rest := []) (wr := [(b5, .inl (G.2 0, 8, .inl b13)), (b10, .inl (G.2 0, 400, .inl y_455)), (b11, .inl (G.2 0, 400, .inl y_456)), (b35, .inl (G.2 0, 240, .inl b42)), (b39, .inl (G.2 0, 242, .inl b43)), (b51, .inl (G.2 1, 4, .inr (.inl b59))), (b53, .inl (G.2 0, 240, .inl b60)), (b57, .inl (G.2 0, 242, .inl b61)), (b0, .inr (8, [.int b3, .int (-1), .ref b5, .int b6, .int b7, .ref b8, .ref b9, .ref b10, .ref b11, .ref b12])), (b16, .inl (G.2 0, 1024, .inl y_459)), (b9, .inr (6, [.int b19, .int 8, .int 10, .ref b20, .ref b21])), (b20, .inl (G.2 1, 80, .inr (.inl y_460))), (b12, .inl (G.2 0, 400, .inl y_457)), (b2, .inr (5, [.int b44, .int b45, .ref b46, .ref b47, .ref b48, .ref b49, .ref b50, .ref b51, .int b52, .ref b53, .ref b54, .ref b55, .ref b56, .ref b57, .ref b58]))]) Z (s3_Machine_takes l G (b1) (b8) (y_453) (0) (b26) (b27) (b28) (b29) (b30) (b31) (b32) (b33) (b34) (b35) (b36) (b37) (b38) (b39) (b40) (b41) (y_454) (b15) (b16) (y_458) hv_465 (zI.wk (l' := 0) (h' := 1) zc_0 (by decide)) hb26 hb27 hb34 (zI.wk (l' := 0) (h' := 400) hv_470 (by decide)) hy_458) hl.1 q886 q743 q744 q6 q745 ⟨by decide, by decide, by show _ = some 3; decide +kernel⟩ ⟨Nat.le_of_ble_eq_true rfl, Nat.le_of_ble_eq_true rfl⟩ ⟨Nat.le_of_ble_eq_true rfl, Nat.le_of_ble_eq_true rfl⟩ rfl (Nat.le_of_ble_eq_true rfl) d_Parting_find_38 hP hD hS hA 16 5 rfl rfl rfl [16, 3, 10, 11] [0, 1, 2, 4, 5, 6, 7, 8, 9, 12, 13, 14, 15, 17] rfl rfl rfl rfl (by decide) (fun v w1 H locs hw_471 hP hD hS => ?_)
        obtain ⟨x_472, rfl, rfl, hx_472⟩ := hw_471
        have hP : va_P G.1 classes [(b5, .inl (G.2 0, 8, .inl b13)), (b10, .inl (G.2 0, 400, .inl y_455)), (b11, .inl (G.2 0, 400, .inl y_456)), (b35, .inl (G.2 0, 240, .inl b42)), (b39, .inl (G.2 0, 242, .inl b43)), (b51, .inl (G.2 1, 4, .inr (.inl b59))), (b53, .inl (G.2 0, 240, .inl b60)), (b57, .inl (G.2 0, 242, .inl b61)), (b0, .inr (8, [.int b3, .int (-1), .ref b5, .int b6, .int b7, .ref b8, .ref b9, .ref b10, .ref b11, .ref b12])), (b16, .inl (G.2 0, 1024, .inl y_459)), (b9, .inr (6, [.int b19, .int 8, .int 10, .ref b20, .ref b21])), (b20, .inl (G.2 1, 80, .inr (.inl y_460))), (b12, .inl (G.2 0, 400, .inl y_457)), (b2, .inr (5, [.int b44, .int b45, .ref b46, .ref b47, .ref b48, .ref b49, .ref b50, .ref b51, .int b52, .ref b53, .ref b54, .ref b55, .ref b56, .ref b57, .ref b58])), (b1, .inr (5, [.int b26, .int b27, .ref b28, .ref b29, .ref b30, .ref b31, .ref b32, .ref b33, .int b34, .ref b35, .ref b36, .ref b37, .ref b38, .ref b39, .ref b40])), (b33, .inl (G.2 1, 4, .inr (.inl b41))), (b8, .inr (6, [.int y_454, .int 8, .int 400, .ref b15, .ref b16])), (b15, .inl (G.2 1, 3200, .inr (.inl y_458)))] H := hP
        have hD := z_tie hP hD rfl
        refine W.widen (k := 0) (n := 0) (Nat.le_of_ble_eq_true rfl) (Nat.le_of_ble_eq_true rfl) ?_
        refine lv_aload_n hx hb d_Parting_find_41 rfl (lv_at hl 3 rfl) ?_
        refine lv_aload_n hx hb d_Parting_find_42 rfl (lv_at hl 1 rfl) ?_
        refine va_get (D := G.1) (ci := 8) (v := .ref b8) (C := R_Parting) (T := F_Parting) (N := 10) hx hb hts i_Parting hown hK hP 8 rfl rfl 5 (by decide) (hts _ q307) (fun _ h9 => h9) rfl d_Parting_find_43 ?_
        refine lv_iload_n hx hb d_Parting_find_46 rfl (lv_at hl 0 rfl) ?_
        refine lv_iconst (v := 1) hx hb d_Parting_find_47 (by decide) ?_
        refine z_callV (index := 57) (As := [.ref b8, .int y_453, .int 1]) (rest := [.int x_472]) (wr := [(b5, .inl (G.2 0, 8, .inl b13)), (b10, .inl (G.2 0, 400, .inl y_455)), (b11, .inl (G.2 0, 400, .inl y_456)), (b35, .inl (G.2 0, 240, .inl b42)), (b39, .inl (G.2 0, 242, .inl b43)), (b53, .inl (G.2 0, 240, .inl b60)), (b57, .inl (G.2 0, 242, .inl b61)), (b0, .inr (8, [.int b3, .int (-1), .ref b5, .int b6, .int b7, .ref b8, .ref b9, .ref b10, .ref b11, .ref b12])), (b16, .inl (G.2 0, 1024, .inl y_459)), (b9, .inr (6, [.int b19, .int 8, .int 10, .ref b20, .ref b21])), (b20, .inl (G.2 1, 80, .inr (.inl y_460))), (b12, .inl (G.2 0, 400, .inl y_457)), (b1, .inr (5, [.int b26, .int b27, .ref b28, .ref b29, .ref b30, .ref b31, .ref b32, .ref b33, .int b34, .ref b35, .ref b36, .ref b37, .ref b38, .ref b39, .ref b40])), (b33, .inl (G.2 1, 4, .inr (.inl b41)))]) Z (s3_Machine_takes l G (b2) (b8) (y_453) (1) (b44) (b45) (b46) (b47) (b48) (b49) (b50) (b51) (b52) (b53) (b54) (b55) (b56) (b57) (b58) (b59) (y_454) (b15) (b16) (y_458) hv_465 (zI.wk (l' := 0) (h' := 1) zc_1 (by decide)) hb44 hb45 hb52 (zI.wk (l' := 0) (h' := 400) hv_470 (by decide)) hy_458) hl.1 q886 q743 q744 q6 q745 ⟨by decide, by decide, by show _ = some 3; decide +kernel⟩ ⟨Nat.le_of_ble_eq_true rfl, Nat.le_of_ble_eq_true rfl⟩ ⟨Nat.le_of_ble_eq_true rfl, Nat.le_of_ble_eq_true rfl⟩ rfl (Nat.le_of_ble_eq_true rfl) d_Parting_find_48 hP hD hS hA 13 5 rfl rfl rfl [13, 5, 16, 17] [0, 1, 2, 3, 4, 6, 7, 8, 9, 10, 11, 12, 14, 15] rfl rfl rfl rfl (by decide) (fun v w1 H locs hw_473 hP hD hS => ?_)
        obtain ⟨x_474, rfl, rfl, hx_474⟩ := hw_473
        have hP : va_P G.1 classes [(b5, .inl (G.2 0, 8, .inl b13)), (b10, .inl (G.2 0, 400, .inl y_455)), (b11, .inl (G.2 0, 400, .inl y_456)), (b35, .inl (G.2 0, 240, .inl b42)), (b39, .inl (G.2 0, 242, .inl b43)), (b53, .inl (G.2 0, 240, .inl b60)), (b57, .inl (G.2 0, 242, .inl b61)), (b0, .inr (8, [.int b3, .int (-1), .ref b5, .int b6, .int b7, .ref b8, .ref b9, .ref b10, .ref b11, .ref b12])), (b16, .inl (G.2 0, 1024, .inl y_459)), (b9, .inr (6, [.int b19, .int 8, .int 10, .ref b20, .ref b21])), (b20, .inl (G.2 1, 80, .inr (.inl y_460))), (b12, .inl (G.2 0, 400, .inl y_457)), (b1, .inr (5, [.int b26, .int b27, .ref b28, .ref b29, .ref b30, .ref b31, .ref b32, .ref b33, .int b34, .ref b35, .ref b36, .ref b37, .ref b38, .ref b39, .ref b40])), (b33, .inl (G.2 1, 4, .inr (.inl b41))), (b2, .inr (5, [.int b44, .int b45, .ref b46, .ref b47, .ref b48, .ref b49, .ref b50, .ref b51, .int b52, .ref b53, .ref b54, .ref b55, .ref b56, .ref b57, .ref b58])), (b51, .inl (G.2 1, 4, .inr (.inl b59))), (b8, .inr (6, [.int y_454, .int 8, .int 400, .ref b15, .ref b16])), (b15, .inl (G.2 1, 3200, .inr (.inl y_458)))] H := hP
        have hD := z_tie hP hD rfl
        refine W.widen (k := 0) (n := 0) (Nat.le_of_ble_eq_true rfl) (Nat.le_of_ble_eq_true rfl) ?_
        refine lv_icmp_eq (tgt := 60) hx hb d_Parting_find_51 (by decide) (fun hc_475 => ?_) (fun hc_475 => ?_)
        · have _nhc_475 := hc_475
          have ni_476 := (fa_eq _ _).mp hc_475
          refine lv_aload_n hx hb d_Parting_find_60 rfl (lv_at hl 1 rfl) ?_
          refine va_get (D := G.1) (ci := 8) (v := .ref b12) (C := R_Parting) (T := F_Parting) (N := 10) hx hb hts i_Parting hown hK hP 7 rfl rfl 9 (by decide) (hts _ q311) (fun _ h9 => h9) rfl d_Parting_find_61 ?_
          refine lv_iload_n hx hb d_Parting_find_64 rfl (lv_at hl 0 rfl) ?_
          refine va_iald hx hb hK hP 11 0 rfl rfl (zI.inn hv_465 (by decide)) d_Parting_find_65 ?_
          refine lv_topi (fun v_477 ev_477 => ?_)
          have hv_477 : zI v_477 0 8 := (hy_457 _).eq ev_477
          refine lv_bipush (v := 8) hx hb d_Parting_find_66 (by decide) ?_
          refine lv_icmp_ge (tgt := 88) hx hb d_Parting_find_68 (by decide) (fun hc_478 => ?_) (fun hc_478 => ?_)
          · have _nhc_478 := hc_478
            have ni_479 := (fa_le _ _).mp hc_478
            rw [li_8] at ni_479
            have hv_480 : zI v_477 8 8 := zI.le_r zc_8 hv_477 hc_478 (by decide)
            obtain ⟨v_481, ev_481⟩ : ∃ z : Int32, z = y_453 + 1 := ⟨_, rfl⟩
            obtain ⟨qv_481, hv_481⟩ := zI_add (l := 1) (h := 400) hv_465 zc_1 ev_481 (by decide)
            rw [li_1] at qv_481
            refine lv_iinc (v := v_481) (lv' := [(3, .int v_481), (0, .ref b0), (1, .ref b1), (2, .ref b2)]) hx hb d_Parting_find_88 hl (k := 0) rfl (by rw [ev_481]; rfl) (by decide) rfl (fun ls hl => ?_)
            refine lv_goto (tgt := 13) hx hb d_Parting_find_91 (by decide) ?_
            exact ihk_452 (v_481) (y_454) (y_455) (y_456) (y_457) (y_458) (y_459) (y_460) _ _ _ (zI.wk (l' := 0) (h' := 400) hv_481 (by decide)) (zI.wk (l' := 0) (h' := 400) hv_470 (by decide)) hy_455 hy_456 hy_457 hy_458 hy_459 hy_460 (zm_up qv_481 hmk_452 (by decide)) (hP.sub [0, 1, 2, 13, 3, 4, 15, 5, 6, 7, 16, 17, 8, 9, 10, 11, 12, 14] rfl) (hD.sub [0, 1, 2, 13, 3, 4, 15, 5, 6, 7, 16, 17, 8, 9, 10, 11, 12, 14] (by decide) rfl) hS (lv_sub hl [0, 1, 2, 3] rfl)
          · have _nhc_478 := hc_478
            have ni_482 := (fa_lt _ _).mp (zi_nle hc_478)
            rw [li_8] at ni_482
            have hv_483 : zI v_477 0 7 := zI.lt_l hv_477 zc_8 (zi_nle hc_478) (by decide)
            refine lv_aload_n hx hb d_Parting_find_71 rfl (lv_at hl 1 rfl) ?_
            refine lv_aload_n hx hb d_Parting_find_72 rfl (lv_at hl 2 rfl) ?_
            refine lv_aload_n hx hb d_Parting_find_73 rfl (lv_at hl 3 rfl) ?_
            refine lv_iload_n hx hb d_Parting_find_74 rfl (lv_at hl 0 rfl) ?_
            refine z_callV (index := 67) (As := [.ref b1, .ref b2, .int y_453]) (rest := []) (wr := [(b5, .inl (G.2 0, 8, .inl b13)), (b33, .inl (G.2 1, 4, .inr (.inl b41))), (b51, .inl (G.2 1, 4, .inr (.inl b59)))]) Z (s4_Parting_goOn l G (b0) (b1) (b2) (y_453) (b3) ((-1)) (b5) (b6) (b7) (b8) (b9) (b10) (b11) (b12) (y_454) (b15) (b16) (y_458) (y_459) (b19) (b20) (b21) (y_460) (y_455) (y_456) (y_457) (b26) (b27) (b28) (b29) (b30) (b31) (b32) (b33) (b34) (b35) (b36) (b37) (b38) (b39) (b40) (b42) (b43) (b44) (b45) (b46) (b47) (b48) (b49) (b50) (b51) (b52) (b53) (b54) (b55) (b56) (b57) (b58) (b60) (b61) hv_465 hb3 (zI.wk (l' := (-2)) (h' := 8) zc_m1 (by decide)) (zI.wk (l' := 0) (h' := 400) hv_470 (by decide)) hb19 hb26 hb27 hb34 hb44 hb45 hb52 hy_458 hy_459 hy_460 hy_455 hy_456 hy_457 hb42 hb43 hb60 hb61 (by rw [← ev_477]; omega) (by omega)) hl.1 q891 q893 qs31 q9 q894 ⟨by decide, by decide, by show _ = some 3; decide +kernel⟩ ⟨Nat.le_of_ble_eq_true rfl, Nat.le_of_ble_eq_true rfl⟩ ⟨Nat.le_of_ble_eq_true rfl, Nat.le_of_ble_eq_true rfl⟩ rfl (Nat.le_of_ble_eq_true rfl) d_Parting_find_75 hP hD hS hA 7 8 rfl rfl rfl [7, 16, 17, 8, 9, 10, 1, 2, 11, 12, 3, 4, 14, 5, 6] [0, 13, 15] rfl rfl rfl rfl (by decide) (fun v w1 H locs hw_484 hP hD hS => ?_)
            obtain ⟨x_485, x_486, f_487, f_488, f_489, f_490, f_491, f_492, rfl, rfl, hx_485, hx_486, hf_487, hf_488, hf_489, hf_490, hf_491, hf_492⟩ := hw_484
            have hP : va_P G.1 classes [(b5, .inl (G.2 0, 8, .inl b13)), (b33, .inl (G.2 1, 4, .inr (.inl b41))), (b51, .inl (G.2 1, 4, .inr (.inl b59))), (b0, .inr (8, [.int b3, .int (-1), .ref b5, .int b6, .int b7, .ref b8, .ref b9, .ref b10, .ref b11, .ref b12])), (b8, .inr (6, [.int x_486, .int 8, .int 400, .ref b15, .ref b16])), (b15, .inl (G.2 1, 3200, .inr (.inl f_487))), (b16, .inl (G.2 0, 1024, .inl f_488)), (b9, .inr (6, [.int b19, .int 8, .int 10, .ref b20, .ref b21])), (b20, .inl (G.2 1, 80, .inr (.inl f_489))), (b10, .inl (G.2 0, 400, .inl f_490)), (b11, .inl (G.2 0, 400, .inl f_491)), (b12, .inl (G.2 0, 400, .inl f_492)), (b1, .inr (5, [.int b26, .int b27, .ref b28, .ref b29, .ref b30, .ref b31, .ref b32, .ref b33, .int b34, .ref b35, .ref b36, .ref b37, .ref b38, .ref b39, .ref b40])), (b35, .inl (G.2 0, 240, .inl b42)), (b39, .inl (G.2 0, 242, .inl b43)), (b2, .inr (5, [.int b44, .int b45, .ref b46, .ref b47, .ref b48, .ref b49, .ref b50, .ref b51, .int b52, .ref b53, .ref b54, .ref b55, .ref b56, .ref b57, .ref b58])), (b53, .inl (G.2 0, 240, .inl b60)), (b57, .inl (G.2 0, 242, .inl b61))] H := hP
            have hD := z_tie hP hD rfl
            refine W.widen (k := 0) (n := 0) (Nat.le_of_ble_eq_true rfl) (Nat.le_of_ble_eq_true rfl) ?_
            refine lv_if_ne (tgt := 88) hx hb d_Parting_find_78 (by decide) (fun hc_493 => ?_) (fun hc_493 => ?_)
            · have _nhc_493 := hc_493
              have ni_494 : ¬ (x_485 : Int32).toInt = (0 : Int32).toInt := fun z => hc_493 ((fa_eq _ _).mpr z)
              simp only [li_0] at ni_494
              have hv_495 : zI x_485 1 1 := zI.ne_lo hx_485 zc_0 hc_493 (by decide)
              obtain ⟨v_496, ev_496⟩ : ∃ z : Int32, z = y_453 + 1 := ⟨_, rfl⟩
              obtain ⟨qv_496, hv_496⟩ := zI_add (l := 1) (h := 400) hv_465 zc_1 ev_496 (by decide)
              rw [li_1] at qv_496
              refine lv_iinc (v := v_496) (lv' := [(3, .int v_496), (0, .ref b0), (1, .ref b1), (2, .ref b2)]) hx hb d_Parting_find_88 hl (k := 0) rfl (by rw [ev_496]; rfl) (by decide) rfl (fun ls hl => ?_)
              refine lv_goto (tgt := 13) hx hb d_Parting_find_91 (by decide) ?_
              exact ihk_452 (v_496) (x_486) (f_490) (f_491) (f_492) (f_487) (f_488) (f_489) _ _ _ (zI.wk (l' := 0) (h' := 400) hv_496 (by decide)) hx_486 hf_490 hf_491 hf_492 hf_487 hf_488 hf_489 (zm_up qv_496 hmk_452 (by decide)) (hP.sub [0, 9, 10, 1, 13, 14, 2, 16, 17, 3, 4, 5, 6, 7, 8, 11, 12, 15] rfl) (hD.sub [0, 9, 10, 1, 13, 14, 2, 16, 17, 3, 4, 5, 6, 7, 8, 11, 12, 15] (by decide) rfl) hS (lv_sub hl [0, 1, 2, 3] rfl)
            · have _nhc_493 := hc_493
              have ni_497 := (fa_eq _ _).mp hc_493
              rw [li_0] at ni_497
              have hv_498 : zI x_485 0 0 := zI.eq_l hx_485 zc_0 hc_493
              refine lv_aload_n hx hb d_Parting_find_81 rfl (lv_at hl 1 rfl) ?_
              refine lv_bipush (v := (-2)) hx hb d_Parting_find_82 (by decide) ?_
              refine va_put (D := G.1) (ci := 8) (v := .int (-2)) (ty := .int) (C := R_Parting) (T := F_Parting) (N := 10) hx hb hts i_Parting t_Parting t_Parting_ok n_Parting hown hK hP hD hS 3 rfl rfl 1 (by decide) (hts _ q301) (fun _ h9 => h9) rfl (by decide +kernel) rfl rfl (Nat.le_of_ble_eq_true rfl) d_Parting_find_84 (fun H locs hP hD hS => ?_)
              have hP : va_P G.1 classes [(b5, .inl (G.2 0, 8, .inl b13)), (b33, .inl (G.2 1, 4, .inr (.inl b41))), (b51, .inl (G.2 1, 4, .inr (.inl b59))), (b0, .inr (8, [.int b3, .int (-2), .ref b5, .int b6, .int b7, .ref b8, .ref b9, .ref b10, .ref b11, .ref b12])), (b8, .inr (6, [.int x_486, .int 8, .int 400, .ref b15, .ref b16])), (b15, .inl (G.2 1, 3200, .inr (.inl f_487))), (b16, .inl (G.2 0, 1024, .inl f_488)), (b9, .inr (6, [.int b19, .int 8, .int 10, .ref b20, .ref b21])), (b20, .inl (G.2 1, 80, .inr (.inl f_489))), (b10, .inl (G.2 0, 400, .inl f_490)), (b11, .inl (G.2 0, 400, .inl f_491)), (b12, .inl (G.2 0, 400, .inl f_492)), (b1, .inr (5, [.int b26, .int b27, .ref b28, .ref b29, .ref b30, .ref b31, .ref b32, .ref b33, .int b34, .ref b35, .ref b36, .ref b37, .ref b38, .ref b39, .ref b40])), (b35, .inl (G.2 0, 240, .inl b42)), (b39, .inl (G.2 0, 242, .inl b43)), (b2, .inr (5, [.int b44, .int b45, .ref b46, .ref b47, .ref b48, .ref b49, .ref b50, .ref b51, .int b52, .ref b53, .ref b54, .ref b55, .ref b56, .ref b57, .ref b58])), (b53, .inl (G.2 0, 240, .inl b60)), (b57, .inl (G.2 0, 242, .inl b61))] H := hP
              have hD := z_tie hP hD rfl
              exact z_vret hx hb hr hlocks (hP.sub [3, 0, 4, 5, 6, 7, 8, 9, 10, 11, 12, 1, 13, 14, 15, 2, 16, 17] rfl) (hD.sub [3, 0, 4, 5, 6, 7, 8, 9, 10, 11, 12, 1, 13, 14, 15, 2, 16, 17] (by decide) rfl) hS (Nat.le_of_ble_eq_true rfl) (Nat.le_of_ble_eq_true rfl) d_Parting_find_87 ⟨(-2), b13, x_486, f_487, f_488, f_489, f_490, f_491, f_492, rfl, rfl, (zI.wk (l' := (-2)) (h' := 8) zc_m2 (by decide)), hb13, hx_486, hf_487, hf_488, hf_489, hf_490, hf_491, hf_492⟩
        · have _nhc_475 := hc_475
          have ni_499 : ¬ (x_472 : Int32).toInt = (x_474 : Int32).toInt := fun z => hc_475 ((fa_eq _ _).mpr z)
          refine lv_aload_n hx hb d_Parting_find_54 rfl (lv_at hl 1 rfl) ?_
          refine lv_iload_n hx hb d_Parting_find_55 rfl (lv_at hl 0 rfl) ?_
          refine z_callV (index := 63) (As := [.int y_453]) (rest := []) (wr := [(b35, .inl (G.2 0, 240, .inl b42)), (b39, .inl (G.2 0, 242, .inl b43)), (b53, .inl (G.2 0, 240, .inl b60)), (b57, .inl (G.2 0, 242, .inl b61)), (b16, .inl (G.2 0, 1024, .inl y_459)), (b9, .inr (6, [.int b19, .int 8, .int 10, .ref b20, .ref b21])), (b20, .inl (G.2 1, 80, .inr (.inl y_460))), (b1, .inr (5, [.int b26, .int b27, .ref b28, .ref b29, .ref b30, .ref b31, .ref b32, .ref b33, .int b34, .ref b35, .ref b36, .ref b37, .ref b38, .ref b39, .ref b40])), (b33, .inl (G.2 1, 4, .inr (.inl b41))), (b2, .inr (5, [.int b44, .int b45, .ref b46, .ref b47, .ref b48, .ref b49, .ref b50, .ref b51, .int b52, .ref b53, .ref b54, .ref b55, .ref b56, .ref b57, .ref b58])), (b51, .inl (G.2 1, 4, .inr (.inl b59))), (b8, .inr (6, [.int y_454, .int 8, .int 400, .ref b15, .ref b16])), (b15, .inl (G.2 1, 3200, .inr (.inl y_458)))]) Z (s1_Parting_spell l G (b0) (y_453) (b3) ((-1)) (b5) (b6) (b7) (b8) (b9) (b10) (b11) (b12) (b13) (y_455) (y_456) (y_457) hv_465 hb3 (zI.wk (l' := (-2)) (h' := 8) zc_m1 (by decide)) hb13 hy_455 hy_456 hy_457) hl.1 q887 q889 qs30 q9 q890 ⟨by decide, by decide, by show _ = some 1; decide +kernel⟩ ⟨Nat.le_of_ble_eq_true rfl, Nat.le_of_ble_eq_true rfl⟩ ⟨Nat.le_of_ble_eq_true rfl, Nat.le_of_ble_eq_true rfl⟩ rfl (Nat.le_of_ble_eq_true rfl) d_Parting_find_56 hP hD hS hA 7 8 rfl rfl rfl [7, 0, 1, 2, 11] [3, 4, 5, 6, 8, 9, 10, 12, 13, 14, 15, 16, 17] rfl rfl rfl rfl (by decide) (fun v w1 H locs hw_500 hP hD hS => ?_)
          obtain ⟨x_501, f_502, rfl, rfl, hx_501, hf_502⟩ := hw_500
          have hP : va_P G.1 classes [(b35, .inl (G.2 0, 240, .inl b42)), (b39, .inl (G.2 0, 242, .inl b43)), (b53, .inl (G.2 0, 240, .inl b60)), (b57, .inl (G.2 0, 242, .inl b61)), (b16, .inl (G.2 0, 1024, .inl y_459)), (b9, .inr (6, [.int b19, .int 8, .int 10, .ref b20, .ref b21])), (b20, .inl (G.2 1, 80, .inr (.inl y_460))), (b1, .inr (5, [.int b26, .int b27, .ref b28, .ref b29, .ref b30, .ref b31, .ref b32, .ref b33, .int b34, .ref b35, .ref b36, .ref b37, .ref b38, .ref b39, .ref b40])), (b33, .inl (G.2 1, 4, .inr (.inl b41))), (b2, .inr (5, [.int b44, .int b45, .ref b46, .ref b47, .ref b48, .ref b49, .ref b50, .ref b51, .int b52, .ref b53, .ref b54, .ref b55, .ref b56, .ref b57, .ref b58])), (b51, .inl (G.2 1, 4, .inr (.inl b59))), (b8, .inr (6, [.int y_454, .int 8, .int 400, .ref b15, .ref b16])), (b15, .inl (G.2 1, 3200, .inr (.inl y_458))), (b0, .inr (8, [.int b3, .int x_501, .ref b5, .int b6, .int b7, .ref b8, .ref b9, .ref b10, .ref b11, .ref b12])), (b5, .inl (G.2 0, 8, .inl f_502)), (b10, .inl (G.2 0, 400, .inl y_455)), (b11, .inl (G.2 0, 400, .inl y_456)), (b12, .inl (G.2 0, 400, .inl y_457))] H := hP
          have hD := z_tie hP hD rfl
          refine W.widen (k := 0) (n := 0) (Nat.le_of_ble_eq_true rfl) (Nat.le_of_ble_eq_true rfl) ?_
          exact z_vret hx hb hr hlocks (hP.sub [13, 14, 11, 12, 4, 5, 6, 15, 16, 17, 7, 8, 0, 1, 9, 10, 2, 3] rfl) (hD.sub [13, 14, 11, 12, 4, 5, 6, 15, 16, 17, 7, 8, 0, 1, 9, 10, 2, 3] (by decide) rfl) hS (Nat.le_of_ble_eq_true rfl) (Nat.le_of_ble_eq_true rfl) d_Parting_find_59 ⟨x_501, f_502, y_454, y_458, y_459, y_460, y_455, y_456, y_457, rfl, rfl, hx_501, hf_502, (zI.wk (l' := 0) (h' := 400) hv_470 (by decide)), hy_458, hy_459, hy_460, hy_455, hy_456, hy_457⟩
theorem d_Words_number_0 : decode prog_12_method_2_code 0 = .ok (.aload_n 1, 1) := by decide +kernel
theorem d_Words_number_1 : decode prog_12_method_2_code 1 = .ok (.getfield 42, 3) := by decide +kernel
theorem d_Words_number_4 : decode prog_12_method_2_code 4 = .ok (.ifCond .ne 5, 3) := by decide +kernel
theorem d_Words_number_7 : decode prog_12_method_2_code 7 = .ok (.iconst 0, 1) := by decide +kernel
theorem d_Words_number_9 : decode prog_12_method_2_code 9 = .ok (.aload_n 0, 1) := by decide +kernel
theorem d_Words_number_10 : decode prog_12_method_2_code 10 = .ok (.getfield 20, 3) := by decide +kernel
theorem d_Words_number_13 : decode prog_12_method_2_code 13 = .ok (.invokevirtual 48, 3) := by decide +kernel
theorem d_Words_number_16 : decode prog_12_method_2_code 16 = .ok (.aload_n 0, 1) := by decide +kernel
theorem d_Words_number_17 : decode prog_12_method_2_code 17 = .ok (.getfield 20, 3) := by decide +kernel
theorem d_Words_number_20 : decode prog_12_method_2_code 20 = .ok (.iconst 0, 1) := by decide +kernel
theorem d_Words_number_21 : decode prog_12_method_2_code 21 = .ok (.iconst 0, 1) := by decide +kernel
theorem d_Words_number_22 : decode prog_12_method_2_code 22 = .ok (.iconst 0, 1) := by decide +kernel
theorem d_Words_number_23 : decode prog_12_method_2_code 23 = .ok (.invokevirtual 51, 3) := by decide +kernel
theorem d_Words_number_26 : decode prog_12_method_2_code 26 = .ok (.aload_n 0, 1) := by decide +kernel
theorem d_Words_number_27 : decode prog_12_method_2_code 27 = .ok (.getfield 24, 3) := by decide +kernel
theorem d_Words_number_30 : decode prog_12_method_2_code 30 = .ok (.invokevirtual 55, 3) := by decide +kernel
theorem d_Words_number_33 : decode prog_12_method_2_code 33 = .ok (.aload_n 0, 1) := by decide +kernel
theorem d_Words_number_34 : decode prog_12_method_2_code 34 = .ok (.getfield 24, 3) := by decide +kernel
theorem d_Words_number_37 : decode prog_12_method_2_code 37 = .ok (.aload_n 0, 1) := by decide +kernel
theorem d_Words_number_38 : decode prog_12_method_2_code 38 = .ok (.getfield 20, 3) := by decide +kernel
theorem d_Words_number_41 : decode prog_12_method_2_code 41 = .ok (.iconst 0, 1) := by decide +kernel
theorem d_Words_number_42 : decode prog_12_method_2_code 42 = .ok (.invokevirtual 58, 3) := by decide +kernel
theorem d_Words_number_45 : decode prog_12_method_2_code 45 = .ok (.pop, 1) := by decide +kernel
theorem d_Words_number_46 : decode prog_12_method_2_code 46 = .ok (.aload_n 0, 1) := by decide +kernel
theorem d_Words_number_47 : decode prog_12_method_2_code 47 = .ok (.getfield 30, 3) := by decide +kernel
theorem d_Words_number_50 : decode prog_12_method_2_code 50 = .ok (.iconst 0, 1) := by decide +kernel
theorem d_Words_number_51 : decode prog_12_method_2_code 51 = .ok (.iconst 1, 1) := by decide +kernel
theorem d_Words_number_52 : decode prog_12_method_2_code 52 = .ok (.iastore, 1) := by decide +kernel
theorem d_Words_number_53 : decode prog_12_method_2_code 53 = .ok (.iload_n 2, 1) := by decide +kernel
theorem d_Words_number_54 : decode prog_12_method_2_code 54 = .ok (.ifCond .ne 22, 3) := by decide +kernel
theorem d_Words_number_57 : decode prog_12_method_2_code 57 = .ok (.aload_n 1, 1) := by decide +kernel
theorem d_Words_number_58 : decode prog_12_method_2_code 58 = .ok (.aload_n 0, 1) := by decide +kernel
theorem d_Words_number_59 : decode prog_12_method_2_code 59 = .ok (.getfield 24, 3) := by decide +kernel
theorem d_Words_number_62 : decode prog_12_method_2_code 62 = .ok (.iconst 0, 1) := by decide +kernel
theorem d_Words_number_63 : decode prog_12_method_2_code 63 = .ok (.iconst 0, 1) := by decide +kernel
theorem d_Words_number_64 : decode prog_12_method_2_code 64 = .ok (.invokevirtual 62, 3) := by decide +kernel
theorem d_Words_number_67 : decode prog_12_method_2_code 67 = .ok (.ifCond .eq 7, 3) := by decide +kernel
theorem d_Words_number_70 : decode prog_12_method_2_code 70 = .ok (.iconst 1, 1) := by decide +kernel
theorem d_Words_number_71 : decode prog_12_method_2_code 71 = .ok (.goto 4, 3) := by decide +kernel
theorem d_Words_number_74 : decode prog_12_method_2_code 74 = .ok (.iconst 0, 1) := by decide +kernel
theorem d_Words_number_76 : decode prog_12_method_2_code 76 = .ok (.iconst 1, 1) := by decide +kernel
theorem d_Words_number_77 : decode prog_12_method_2_code 77 = .ok (.istore_n 3, 1) := by decide +kernel
theorem d_Words_number_78 : decode prog_12_method_2_code 78 = .ok (.iload_n 3, 1) := by decide +kernel
theorem d_Words_number_79 : decode prog_12_method_2_code 79 = .ok (.iload_n 2, 1) := by decide +kernel
theorem d_Words_number_80 : decode prog_12_method_2_code 80 = .ok (.if_icmp .ge 20, 3) := by decide +kernel
theorem d_Words_number_83 : decode prog_12_method_2_code 83 = .ok (.aload_n 0, 1) := by decide +kernel
theorem d_Words_number_84 : decode prog_12_method_2_code 84 = .ok (.aload_n 1, 1) := by decide +kernel
theorem d_Words_number_85 : decode prog_12_method_2_code 85 = .ok (.invokevirtual 66, 3) := by decide +kernel
theorem d_Words_number_88 : decode prog_12_method_2_code 88 = .ok (.ifCond .ne 6, 3) := by decide +kernel
theorem d_Words_number_91 : decode prog_12_method_2_code 91 = .ok (.bipush (-2), 2) := by decide +kernel
theorem d_Words_number_94 : decode prog_12_method_2_code 94 = .ok (.iinc 3 1, 3) := by decide +kernel
theorem d_Words_number_97 : decode prog_12_method_2_code 97 = .ok (.goto (-19), 3) := by decide +kernel
theorem d_Words_number_100 : decode prog_12_method_2_code 100 = .ok (.aload_n 0, 1) := by decide +kernel
theorem d_Words_number_101 : decode prog_12_method_2_code 101 = .ok (.aload_n 1, 1) := by decide +kernel
theorem d_Words_number_102 : decode prog_12_method_2_code 102 = .ok (.invokevirtual 70, 3) := by decide +kernel
theorem d_Words_takenNext_0 : decode prog_12_method_5_code 0 = .ok (.iconst 0, 1) := by decide +kernel
theorem d_Words_takenNext_1 : decode prog_12_method_5_code 1 = .ok (.istore_n 2, 1) := by decide +kernel
theorem d_Words_takenNext_2 : decode prog_12_method_5_code 2 = .ok (.iconst 0, 1) := by decide +kernel
theorem d_Words_takenNext_3 : decode prog_12_method_5_code 3 = .ok (.istore_n 3, 1) := by decide +kernel
theorem d_Words_takenNext_4 : decode prog_12_method_5_code 4 = .ok (.iload_n 3, 1) := by decide +kernel
theorem d_Words_takenNext_5 : decode prog_12_method_5_code 5 = .ok (.aload_n 0, 1) := by decide +kernel
theorem d_Words_takenNext_6 : decode prog_12_method_5_code 6 = .ok (.getfield 24, 3) := by decide +kernel
theorem d_Words_takenNext_9 : decode prog_12_method_5_code 9 = .ok (.getfield 74, 3) := by decide +kernel
theorem d_Words_takenNext_12 : decode prog_12_method_5_code 12 = .ok (.if_icmp .ge 69, 3) := by decide +kernel
theorem d_Words_takenNext_15 : decode prog_12_method_5_code 15 = .ok (.aload_n 0, 1) := by decide +kernel
theorem d_Words_takenNext_16 : decode prog_12_method_5_code 16 = .ok (.getfield 20, 3) := by decide +kernel
theorem d_Words_takenNext_19 : decode prog_12_method_5_code 19 = .ok (.invokevirtual 48, 3) := by decide +kernel
theorem d_Words_takenNext_22 : decode prog_12_method_5_code 22 = .ok (.aload_n 1, 1) := by decide +kernel
theorem d_Words_takenNext_23 : decode prog_12_method_5_code 23 = .ok (.aload_n 0, 1) := by decide +kernel
theorem d_Words_takenNext_24 : decode prog_12_method_5_code 24 = .ok (.getfield 24, 3) := by decide +kernel
theorem d_Words_takenNext_27 : decode prog_12_method_5_code 27 = .ok (.iload_n 3, 1) := by decide +kernel
theorem d_Words_takenNext_28 : decode prog_12_method_5_code 28 = .ok (.iconst 0, 1) := by decide +kernel
theorem d_Words_takenNext_29 : decode prog_12_method_5_code 29 = .ok (.aload_n 0, 1) := by decide +kernel
theorem d_Words_takenNext_30 : decode prog_12_method_5_code 30 = .ok (.getfield 20, 3) := by decide +kernel
theorem d_Words_takenNext_33 : decode prog_12_method_5_code 33 = .ok (.invokevirtual 77, 3) := by decide +kernel
theorem d_Words_takenNext_36 : decode prog_12_method_5_code 36 = .ok (.iconst 0, 1) := by decide +kernel
theorem d_Words_takenNext_37 : decode prog_12_method_5_code 37 = .ok (.istore 4, 2) := by decide +kernel
theorem d_Words_takenNext_39 : decode prog_12_method_5_code 39 = .ok (.iload 4, 2) := by decide +kernel
theorem d_Words_takenNext_41 : decode prog_12_method_5_code 41 = .ok (.bipush 10, 2) := by decide +kernel
theorem d_Words_takenNext_43 : decode prog_12_method_5_code 43 = .ok (.if_icmp .ge 32, 3) := by decide +kernel
theorem d_Words_takenNext_46 : decode prog_12_method_5_code 46 = .ok (.aload_n 1, 1) := by decide +kernel
theorem d_Words_takenNext_47 : decode prog_12_method_5_code 47 = .ok (.aload_n 0, 1) := by decide +kernel
theorem d_Words_takenNext_48 : decode prog_12_method_5_code 48 = .ok (.getfield 20, 3) := by decide +kernel
theorem d_Words_takenNext_51 : decode prog_12_method_5_code 51 = .ok (.iload 4, 2) := by decide +kernel
theorem d_Words_takenNext_53 : decode prog_12_method_5_code 53 = .ok (.iconst 0, 1) := by decide +kernel
theorem d_Words_takenNext_54 : decode prog_12_method_5_code 54 = .ok (.invokevirtual 62, 3) := by decide +kernel
theorem d_Words_takenNext_57 : decode prog_12_method_5_code 57 = .ok (.ifCond .eq 12, 3) := by decide +kernel
theorem d_Words_takenNext_60 : decode prog_12_method_5_code 60 = .ok (.iload_n 2, 1) := by decide +kernel
theorem d_Words_takenNext_61 : decode prog_12_method_5_code 61 = .ok (.aload_n 0, 1) := by decide +kernel
theorem d_Words_takenNext_62 : decode prog_12_method_5_code 62 = .ok (.getfield 30, 3) := by decide +kernel
theorem d_Words_takenNext_65 : decode prog_12_method_5_code 65 = .ok (.iload_n 3, 1) := by decide +kernel
theorem d_Words_takenNext_66 : decode prog_12_method_5_code 66 = .ok (.iaload, 1) := by decide +kernel
theorem d_Words_takenNext_67 : decode prog_12_method_5_code 67 = .ok (.iadd, 1) := by decide +kernel
theorem d_Words_takenNext_68 : decode prog_12_method_5_code 68 = .ok (.istore_n 2, 1) := by decide +kernel
theorem d_Words_takenNext_69 : decode prog_12_method_5_code 69 = .ok (.iinc 4 1, 3) := by decide +kernel
theorem d_Words_takenNext_72 : decode prog_12_method_5_code 72 = .ok (.goto (-33), 3) := by decide +kernel
theorem d_Words_takenNext_75 : decode prog_12_method_5_code 75 = .ok (.iinc 3 1, 3) := by decide +kernel
theorem d_Words_takenNext_78 : decode prog_12_method_5_code 78 = .ok (.goto (-74), 3) := by decide +kernel
theorem d_Words_takenNext_81 : decode prog_12_method_5_code 81 = .ok (.iload_n 2, 1) := by decide +kernel
theorem d_Words_goOn_0 : decode prog_12_method_3_code 0 = .ok (.aload_n 0, 1) := by decide +kernel
theorem d_Words_goOn_1 : decode prog_12_method_3_code 1 = .ok (.getfield 27, 3) := by decide +kernel
theorem d_Words_goOn_4 : decode prog_12_method_3_code 4 = .ok (.invokevirtual 55, 3) := by decide +kernel
theorem d_Words_goOn_7 : decode prog_12_method_3_code 7 = .ok (.iconst 0, 1) := by decide +kernel
theorem d_Words_goOn_8 : decode prog_12_method_3_code 8 = .ok (.istore_n 2, 1) := by decide +kernel
theorem d_Words_goOn_9 : decode prog_12_method_3_code 9 = .ok (.iload_n 2, 1) := by decide +kernel
theorem d_Words_goOn_10 : decode prog_12_method_3_code 10 = .ok (.aload_n 0, 1) := by decide +kernel
theorem d_Words_goOn_11 : decode prog_12_method_3_code 11 = .ok (.getfield 24, 3) := by decide +kernel
theorem d_Words_goOn_14 : decode prog_12_method_3_code 14 = .ok (.getfield 74, 3) := by decide +kernel
theorem d_Words_goOn_17 : decode prog_12_method_3_code 17 = .ok (.if_icmp .ge 71, 3) := by decide +kernel
theorem d_Words_goOn_20 : decode prog_12_method_3_code 20 = .ok (.aload_n 0, 1) := by decide +kernel
theorem d_Words_goOn_21 : decode prog_12_method_3_code 21 = .ok (.getfield 20, 3) := by decide +kernel
theorem d_Words_goOn_24 : decode prog_12_method_3_code 24 = .ok (.invokevirtual 48, 3) := by decide +kernel
theorem d_Words_goOn_27 : decode prog_12_method_3_code 27 = .ok (.aload_n 1, 1) := by decide +kernel
theorem d_Words_goOn_28 : decode prog_12_method_3_code 28 = .ok (.aload_n 0, 1) := by decide +kernel
theorem d_Words_goOn_29 : decode prog_12_method_3_code 29 = .ok (.getfield 24, 3) := by decide +kernel
theorem d_Words_goOn_32 : decode prog_12_method_3_code 32 = .ok (.iload_n 2, 1) := by decide +kernel
theorem d_Words_goOn_33 : decode prog_12_method_3_code 33 = .ok (.iconst 0, 1) := by decide +kernel
theorem d_Words_goOn_34 : decode prog_12_method_3_code 34 = .ok (.aload_n 0, 1) := by decide +kernel
theorem d_Words_goOn_35 : decode prog_12_method_3_code 35 = .ok (.getfield 20, 3) := by decide +kernel
theorem d_Words_goOn_38 : decode prog_12_method_3_code 38 = .ok (.invokevirtual 77, 3) := by decide +kernel
theorem d_Words_goOn_41 : decode prog_12_method_3_code 41 = .ok (.iconst 0, 1) := by decide +kernel
theorem d_Words_goOn_42 : decode prog_12_method_3_code 42 = .ok (.istore_n 3, 1) := by decide +kernel
theorem d_Words_goOn_43 : decode prog_12_method_3_code 43 = .ok (.iload_n 3, 1) := by decide +kernel
theorem d_Words_goOn_44 : decode prog_12_method_3_code 44 = .ok (.bipush 10, 2) := by decide +kernel
theorem d_Words_goOn_46 : decode prog_12_method_3_code 46 = .ok (.if_icmp .ge 36, 3) := by decide +kernel
theorem d_Words_goOn_49 : decode prog_12_method_3_code 49 = .ok (.aload_n 0, 1) := by decide +kernel
theorem d_Words_goOn_50 : decode prog_12_method_3_code 50 = .ok (.getfield 20, 3) := by decide +kernel
theorem d_Words_goOn_53 : decode prog_12_method_3_code 53 = .ok (.iload_n 3, 1) := by decide +kernel
theorem d_Words_goOn_54 : decode prog_12_method_3_code 54 = .ok (.invokevirtual 80, 3) := by decide +kernel
theorem d_Words_goOn_57 : decode prog_12_method_3_code 57 = .ok (.ifCond .ne 19, 3) := by decide +kernel
theorem d_Words_goOn_60 : decode prog_12_method_3_code 60 = .ok (.aload_n 0, 1) := by decide +kernel
theorem d_Words_goOn_61 : decode prog_12_method_3_code 61 = .ok (.iload_n 3, 1) := by decide +kernel
theorem d_Words_goOn_62 : decode prog_12_method_3_code 62 = .ok (.aload_n 0, 1) := by decide +kernel
theorem d_Words_goOn_63 : decode prog_12_method_3_code 63 = .ok (.getfield 30, 3) := by decide +kernel
theorem d_Words_goOn_66 : decode prog_12_method_3_code 66 = .ok (.iload_n 2, 1) := by decide +kernel
theorem d_Words_goOn_67 : decode prog_12_method_3_code 67 = .ok (.iaload, 1) := by decide +kernel
theorem d_Words_goOn_68 : decode prog_12_method_3_code 68 = .ok (.invokevirtual 84, 3) := by decide +kernel
theorem d_Words_goOn_71 : decode prog_12_method_3_code 71 = .ok (.ifCond .ne 5, 3) := by decide +kernel
theorem d_Words_goOn_74 : decode prog_12_method_3_code 74 = .ok (.iconst 0, 1) := by decide +kernel
theorem d_Words_goOn_76 : decode prog_12_method_3_code 76 = .ok (.iinc 3 1, 3) := by decide +kernel
theorem d_Words_goOn_79 : decode prog_12_method_3_code 79 = .ok (.goto (-36), 3) := by decide +kernel
theorem d_Words_goOn_82 : decode prog_12_method_3_code 82 = .ok (.iinc 2 1, 3) := by decide +kernel
theorem d_Words_goOn_85 : decode prog_12_method_3_code 85 = .ok (.goto (-76), 3) := by decide +kernel
theorem d_Words_goOn_88 : decode prog_12_method_3_code 88 = .ok (.aload_n 0, 1) := by decide +kernel
theorem d_Words_goOn_89 : decode prog_12_method_3_code 89 = .ok (.getfield 24, 3) := by decide +kernel
theorem d_Words_goOn_92 : decode prog_12_method_3_code 92 = .ok (.astore_n 2, 1) := by decide +kernel
theorem d_Words_goOn_93 : decode prog_12_method_3_code 93 = .ok (.aload_n 0, 1) := by decide +kernel
theorem d_Words_goOn_94 : decode prog_12_method_3_code 94 = .ok (.aload_n 0, 1) := by decide +kernel
theorem d_Words_goOn_95 : decode prog_12_method_3_code 95 = .ok (.getfield 27, 3) := by decide +kernel
theorem d_Words_goOn_98 : decode prog_12_method_3_code 98 = .ok (.putfield 24, 3) := by decide +kernel
theorem d_Words_goOn_101 : decode prog_12_method_3_code 101 = .ok (.aload_n 0, 1) := by decide +kernel
theorem d_Words_goOn_102 : decode prog_12_method_3_code 102 = .ok (.aload_n 2, 1) := by decide +kernel
theorem d_Words_goOn_103 : decode prog_12_method_3_code 103 = .ok (.putfield 27, 3) := by decide +kernel
theorem d_Words_goOn_106 : decode prog_12_method_3_code 106 = .ok (.aload_n 0, 1) := by decide +kernel
theorem d_Words_goOn_107 : decode prog_12_method_3_code 107 = .ok (.getfield 30, 3) := by decide +kernel
theorem d_Words_goOn_110 : decode prog_12_method_3_code 110 = .ok (.astore_n 3, 1) := by decide +kernel
theorem d_Words_goOn_111 : decode prog_12_method_3_code 111 = .ok (.aload_n 0, 1) := by decide +kernel
theorem d_Words_goOn_112 : decode prog_12_method_3_code 112 = .ok (.aload_n 0, 1) := by decide +kernel
theorem d_Words_goOn_113 : decode prog_12_method_3_code 113 = .ok (.getfield 33, 3) := by decide +kernel
theorem d_Words_goOn_116 : decode prog_12_method_3_code 116 = .ok (.putfield 30, 3) := by decide +kernel
theorem d_Words_goOn_119 : decode prog_12_method_3_code 119 = .ok (.aload_n 0, 1) := by decide +kernel
theorem d_Words_goOn_120 : decode prog_12_method_3_code 120 = .ok (.aload_n 3, 1) := by decide +kernel
theorem d_Words_goOn_121 : decode prog_12_method_3_code 121 = .ok (.putfield 33, 3) := by decide +kernel
theorem d_Words_goOn_124 : decode prog_12_method_3_code 124 = .ok (.iconst 1, 1) := by decide +kernel
theorem d_Words_comeTo_0 : decode prog_12_method_4_code 0 = .ok (.aload_n 0, 1) := by decide +kernel
theorem d_Words_comeTo_1 : decode prog_12_method_4_code 1 = .ok (.getfield 27, 3) := by decide +kernel
theorem d_Words_comeTo_4 : decode prog_12_method_4_code 4 = .ok (.getfield 74, 3) := by decide +kernel
theorem d_Words_comeTo_7 : decode prog_12_method_4_code 7 = .ok (.istore_n 3, 1) := by decide +kernel
theorem d_Words_comeTo_8 : decode prog_12_method_4_code 8 = .ok (.aload_n 0, 1) := by decide +kernel
theorem d_Words_comeTo_9 : decode prog_12_method_4_code 9 = .ok (.getfield 27, 3) := by decide +kernel
theorem d_Words_comeTo_12 : decode prog_12_method_4_code 12 = .ok (.aload_n 0, 1) := by decide +kernel
theorem d_Words_comeTo_13 : decode prog_12_method_4_code 13 = .ok (.getfield 20, 3) := by decide +kernel
theorem d_Words_comeTo_16 : decode prog_12_method_4_code 16 = .ok (.iload_n 1, 1) := by decide +kernel
theorem d_Words_comeTo_17 : decode prog_12_method_4_code 17 = .ok (.invokevirtual 58, 3) := by decide +kernel
theorem d_Words_comeTo_20 : decode prog_12_method_4_code 20 = .ok (.istore 4, 2) := by decide +kernel
theorem d_Words_comeTo_22 : decode prog_12_method_4_code 22 = .ok (.iload 4, 2) := by decide +kernel
theorem d_Words_comeTo_24 : decode prog_12_method_4_code 24 = .ok (.iconst (-1), 1) := by decide +kernel
theorem d_Words_comeTo_25 : decode prog_12_method_4_code 25 = .ok (.if_icmp .ne 5, 3) := by decide +kernel
theorem d_Words_comeTo_28 : decode prog_12_method_4_code 28 = .ok (.iconst 0, 1) := by decide +kernel
theorem d_Words_comeTo_30 : decode prog_12_method_4_code 30 = .ok (.aload_n 0, 1) := by decide +kernel
theorem d_Words_comeTo_31 : decode prog_12_method_4_code 31 = .ok (.getfield 33, 3) := by decide +kernel
theorem d_Words_comeTo_34 : decode prog_12_method_4_code 34 = .ok (.iload 4, 2) := by decide +kernel
theorem d_Words_comeTo_36 : decode prog_12_method_4_code 36 = .ok (.iload 4, 2) := by decide +kernel
theorem d_Words_comeTo_38 : decode prog_12_method_4_code 38 = .ok (.iload_n 3, 1) := by decide +kernel
theorem d_Words_comeTo_39 : decode prog_12_method_4_code 39 = .ok (.if_icmp .ne 7, 3) := by decide +kernel
theorem d_Words_comeTo_42 : decode prog_12_method_4_code 42 = .ok (.iload_n 2, 1) := by decide +kernel
theorem d_Words_comeTo_43 : decode prog_12_method_4_code 43 = .ok (.goto 12, 3) := by decide +kernel
theorem d_Words_comeTo_46 : decode prog_12_method_4_code 46 = .ok (.aload_n 0, 1) := by decide +kernel
theorem d_Words_comeTo_47 : decode prog_12_method_4_code 47 = .ok (.getfield 33, 3) := by decide +kernel
theorem d_Words_comeTo_50 : decode prog_12_method_4_code 50 = .ok (.iload 4, 2) := by decide +kernel
theorem d_Words_comeTo_52 : decode prog_12_method_4_code 52 = .ok (.iaload, 1) := by decide +kernel
theorem d_Words_comeTo_53 : decode prog_12_method_4_code 53 = .ok (.iload_n 2, 1) := by decide +kernel
theorem d_Words_comeTo_54 : decode prog_12_method_4_code 54 = .ok (.iadd, 1) := by decide +kernel
theorem d_Words_comeTo_55 : decode prog_12_method_4_code 55 = .ok (.iastore, 1) := by decide +kernel
theorem d_Words_comeTo_56 : decode prog_12_method_4_code 56 = .ok (.iconst 1, 1) := by decide +kernel
theorem zc_5 : zI 5 5 5 := ⟨by decide +kernel, by decide +kernel⟩
theorem li_5 : (5 : Int32).toInt = 5 := by decide +kernel
theorem zc_7 : zI 7 7 7 := ⟨by decide +kernel, by decide +kernel⟩
theorem li_7 : (7 : Int32).toInt = 7 := by decide +kernel
abbrev m_s5_Sets_clear : Room := { frames := 1, cells := 0, slots := 0, locals := 24 }
set_option maxHeartbeats 4000000 in
set_option maxRecDepth 100000 in
theorem s5_Sets_clear (l : Launch) (G : zG) (b0 : Nat) (b1 : Int32) (b2 : Nat) (b3 : Nat) (b4 : Nat → Int64) (hb1 : zI b1 0 10) (hb4 : zqa qB b4) : zM l G y_Sets_clear prog_8_method_3_code 1 (Option.none : Option Jvm.ClassFile.FieldType) m_s5_Sets_clear [.ref b0] [(b0, .inr (6, [.int b1, .int 4, .int 10, .ref b2, .ref b3])), (b2, .inl (G.2 1, 40, .inr (.inl b4)))] (fun v w => ∃ (e0 : Nat → Int64), v = none ∧ w = [(b0, .inr (6, [.int b1, .int 4, .int 10, .ref b2, .ref b3])), (b2, .inl (G.2 1, 40, .inr (.inl e0)))] ∧ (zqa qB e0)) := by
  refine z_start (by decide +kernel) (Nat.le_of_ble_eq_true rfl) ?_
  intro p e s m below meth c A Z hr hnm hA hP hD hS ls hl
  have Z : zC p s m _ meth c prog_8_method_3_code 1 "TraceMachines$StateSets" G := Z
  obtain ⟨hx, hb, hml, hown, hts, hK, hN, hlocks⟩ := id Z
  have hl : lv_has ls 1 [(0, .ref b0)] := hl
  refine lv_aload_n hx hb d_Sets_clear_0 rfl (lv_at hl 0 rfl) ?_
  refine va_get (D := G.1) (ci := 6) (v := .ref b2) (C := R_Sets) (T := F_Sets) (N := 5) hx hb hts i_Sets hown hK hP 0 rfl rfl 3 (by decide) (hts _ q244) (fun _ h9 => h9) rfl d_Sets_clear_1 ?_
  refine lv_lconst (v := 0) hx hb d_Sets_clear_4 (by decide) ?_
  refine z_callS (index := 35) (As := [.ref b2, .long 0]) (rest := []) (wr := [(b0, .inr (6, [.int b1, .int 4, .int 10, .ref b2, .ref b3]))]) Z (c_fill_J l G (b2) (40) (b4) (0) (by decide)) hl.1 q708 q623 q13 q624 ⟨by decide, by decide, by show _ = some 2; decide +kernel⟩ ⟨Nat.le_of_ble_eq_true rfl, Nat.le_of_ble_eq_true rfl⟩ ⟨Nat.le_of_ble_eq_true rfl, Nat.le_of_ble_eq_true rfl⟩ rfl (Nat.le_of_ble_eq_true rfl) d_Sets_clear_5 hP hD hS hA [1] [0] rfl rfl rfl rfl (by decide) (fun v w1 H locs hw_1 hP hD hS => ?_)
  obtain ⟨rfl, rfl⟩ := hw_1
  have hP : va_P G.1 classes [(b0, .inr (6, [.int b1, .int 4, .int 10, .ref b2, .ref b3])), (b2, .inl (G.2 1, 40, .inr (.inl (fun _ => 0))))] H := hP
  have hD := z_tie hP hD rfl
  refine W.widen (k := 0) (n := 0) (Nat.le_of_ble_eq_true rfl) (Nat.le_of_ble_eq_true rfl) ?_
  exact z_vret hx hb hr hlocks hP hD hS (Nat.le_of_ble_eq_true rfl) (Nat.le_of_ble_eq_true rfl) d_Sets_clear_8 ⟨(fun _ => 0), rfl, rfl, zQB_c⟩
abbrev m_s5_Sets_put : Room := { frames := 0, cells := 0, slots := 0, locals := 0 }
set_option maxHeartbeats 4000000 in
set_option maxRecDepth 100000 in
theorem s5_Sets_put (l : Launch) (G : zG) (b0 : Nat) (b1 : Int32) (b2 : Int32) (b3 : Int32) (b4 : Int32) (b5 : Nat) (b6 : Nat) (b7 : Nat → Int64) (hb1 : zI b1 0 9) (hb2 : zI b2 0 0) (hb3 : zI b3 0 240) (hb4 : zI b4 0 10) (hb7 : zqa qB b7) : zM l G y_Sets_put prog_8_method_4_code 4 (Option.none : Option Jvm.ClassFile.FieldType) m_s5_Sets_put [.ref b0, .int b1, .int b2, .int b3] [(b0, .inr (6, [.int b4, .int 4, .int 10, .ref b5, .ref b6])), (b5, .inl (G.2 1, 40, .inr (.inl b7)))] (fun v w => ∃ (e0 : Nat → Int64), v = none ∧ w = [(b0, .inr (6, [.int b4, .int 4, .int 10, .ref b5, .ref b6])), (b5, .inl (G.2 1, 40, .inr (.inl e0)))] ∧ (zqa qB e0)) := by
  refine z_start (by decide +kernel) (Nat.le_of_ble_eq_true rfl) ?_
  intro p e s m below meth c A Z hr hnm hA hP hD hS ls hl
  have Z : zC p s m _ meth c prog_8_method_4_code 4 "TraceMachines$StateSets" G := Z
  obtain ⟨hx, hb, hml, hown, hts, hK, hN, hlocks⟩ := id Z
  have hl : lv_has ls 4 [(0, .ref b0), (1, .int b1), (2, .int b2), (3, .int b3)] := hl
  refine lv_aload_n hx hb d_Sets_put_0 rfl (lv_at hl 0 rfl) ?_
  refine va_get (D := G.1) (ci := 6) (v := .ref b5) (C := R_Sets) (T := F_Sets) (N := 5) hx hb hts i_Sets hown hK hP 0 rfl rfl 3 (by decide) (hts _ q244) (fun _ h9 => h9) rfl d_Sets_put_1 ?_
  refine lv_iload_n hx hb d_Sets_put_4 rfl (lv_at hl 1 rfl) ?_
  refine lv_aload_n hx hb d_Sets_put_5 rfl (lv_at hl 0 rfl) ?_
  refine va_get (D := G.1) (ci := 6) (v := .int 4) (C := R_Sets) (T := F_Sets) (N := 5) hx hb hts i_Sets hown hK hP 0 rfl rfl 1 (by decide) (hts _ q242) (fun _ h9 => h9) rfl d_Sets_put_6 ?_
  refine lv_imul hx hb d_Sets_put_9 ?_
  refine lv_topi (fun v_1 ev_1 => ?_)
  obtain ⟨qv_1, hv_1⟩ := zI_mul (l := 0) (h := 36) hb1 zc_4 ev_1 (by decide)
  rw [li_4] at qv_1
  refine lv_iload_n hx hb d_Sets_put_10 rfl (lv_at hl 2 rfl) ?_
  refine lv_iconst (v := 4) hx hb d_Sets_put_11 (by decide) ?_
  refine lv_imul hx hb d_Sets_put_12 ?_
  refine lv_topi (fun v_2 ev_2 => ?_)
  obtain ⟨qv_2, hv_2⟩ := zI_mul (l := 0) (h := 0) hb2 zc_4 ev_2 (by decide)
  rw [li_4] at qv_2
  refine lv_iadd hx hb d_Sets_put_13 ?_
  refine lv_topi (fun v_3 ev_3 => ?_)
  obtain ⟨qv_3, hv_3⟩ := zI_add (l := 0) (h := 36) hv_1 hv_2 ev_3 (by decide)
  refine lv_iload_n hx hb d_Sets_put_14 rfl (lv_at hl 3 rfl) ?_
  refine lv_bipush (v := 6) hx hb d_Sets_put_15 (by decide) ?_
  refine lv_ishr hx hb d_Sets_put_17 ?_
  refine lv_topi (fun v_4 ev_4 => ?_)
  obtain ⟨qv_4, hv_4⟩ := zI_shr (l := 0) (h := 3) (k := 6) hb3 (by decide +kernel) ev_4 (by decide)
  refine lv_iadd hx hb d_Sets_put_18 ?_
  refine lv_topi (fun v_5 ev_5 => ?_)
  obtain ⟨qv_5, hv_5⟩ := zI_add (l := 0) (h := 39) hv_3 hv_4 ev_5 (by decide)
  refine lv_dup2_11 hx hb d_Sets_put_19 rfl rfl ?_
  refine va_lald hx hb hK hP 1 1 rfl rfl (zI.inn hv_5 (by decide)) d_Sets_put_20 ?_
  refine lv_topl (fun v_6 ev_6 => ?_)
  have bv_6 := zQB.ld hb7 hv_5 ev_6 (by decide)
  refine lv_lconst (v := 1) hx hb d_Sets_put_21 (by decide) ?_
  refine lv_iload_n hx hb d_Sets_put_22 rfl (lv_at hl 3 rfl) ?_
  refine lv_bipush (v := 63) hx hb d_Sets_put_23 (by decide) ?_
  refine lv_iand hx hb d_Sets_put_25 ?_
  refine lv_topi (fun v_7 ev_7 => ?_)
  have hv_7 := zI_and (k := 6) (h := 63) (by decide +kernel) ev_7 (by decide)
  obtain ⟨v_8, ev_8⟩ : ∃ z : Int64, z = 1 <<< ((v_7 : Int32).toInt64 &&& 63) := ⟨_, rfl⟩
  refine lv_lshl (v := v_8) hx hb d_Sets_put_26 ev_8.symm ?_
  refine lv_lor hx hb d_Sets_put_27 ?_
  refine lv_topl (fun v_9 ev_9 => ?_)
  refine va_last hx hb hK hP hD hS 1 1 rfl rfl (zI.inn hv_5 (by decide)) d_Sets_put_28 (fun H locs hP hD hS => ?_)
  obtain ⟨f_10, hf_10, uf_10, hP, hD⟩ := z_newlb 1 hP hD rfl hb7 (qB_v hv_5 (by decide) (fun h9 => by rw [ev_9]; exact zB_or (bv_6 h9) (zB_sh ev_8 ev_7 ⟨by omega, by omega⟩)))
  have hP : va_P G.1 classes [(b0, .inr (6, [.int b4, .int 4, .int 10, .ref b5, .ref b6])), (b5, .inl (G.2 1, 40, .inr (.inl f_10)))] H := hP
  have hD := z_tie hP hD rfl
  exact z_vret hx hb hr hlocks hP hD hS (Nat.le_of_ble_eq_true rfl) (Nat.le_of_ble_eq_true rfl) d_Sets_put_29 ⟨f_10, rfl, rfl, hf_10⟩
abbrev m_s5_Sets_forget : Room := { frames := 1, cells := 0, slots := 0, locals := 23 }
set_option maxHeartbeats 4000000 in
set_option maxRecDepth 100000 in
theorem s5_Sets_forget (l : Launch) (G : zG) (b0 : Nat) (b1 : Int32) (b2 : Nat) (b3 : Nat) (b4 : Nat → Int32) (hb1 : zI b1 0 100) (hb4 : zR b4 (-1) 99) : zM l G y_Sets_forget prog_8_method_2_code 1 (Option.none : Option Jvm.ClassFile.FieldType) m_s5_Sets_forget [.ref b0] [(b0, .inr (6, [.int b1, .int 4, .int 100, .ref b2, .ref b3])), (b3, .inl (G.2 0, 256, .inl b4))] (fun v w => ∃ (e0 : Nat → Int32), v = none ∧ w = [(b0, .inr (6, [.int 0, .int 4, .int 100, .ref b2, .ref b3])), (b3, .inl (G.2 0, 256, .inl e0))] ∧ (zR e0 (-1) 99)) := by
  refine z_start (by decide +kernel) (Nat.le_of_ble_eq_true rfl) ?_
  intro p e s m below meth c A Z hr hnm hA hP hD hS ls hl
  have Z : zC p s m _ meth c prog_8_method_2_code 1 "TraceMachines$StateSets" G := Z
  obtain ⟨hx, hb, hml, hown, hts, hK, hN, hlocks⟩ := id Z
  have hl : lv_has ls 1 [(0, .ref b0)] := hl
  refine lv_aload_n hx hb d_Sets_forget_0 rfl (lv_at hl 0 rfl) ?_
  refine lv_iconst (v := 0) hx hb d_Sets_forget_1 (by decide) ?_
  refine va_put (D := G.1) (ci := 6) (v := .int 0) (ty := .int) (C := R_Sets) (T := F_Sets) (N := 5) hx hb hts i_Sets t_Sets t_Sets_ok n_Sets hown hK hP hD hS 0 rfl rfl 0 (by decide) (hts _ q239) (fun _ h9 => h9) rfl (by decide +kernel) rfl rfl (Nat.le_of_ble_eq_true rfl) d_Sets_forget_2 (fun H locs hP hD hS => ?_)
  have hP : va_P G.1 classes [(b0, .inr (6, [.int 0, .int 4, .int 100, .ref b2, .ref b3])), (b3, .inl (G.2 0, 256, .inl b4))] H := hP
  have hD := z_tie hP hD rfl
  refine lv_aload_n hx hb d_Sets_forget_5 rfl (lv_at hl 0 rfl) ?_
  refine va_get (D := G.1) (ci := 6) (v := .ref b3) (C := R_Sets) (T := F_Sets) (N := 5) hx hb hts i_Sets hown hK hP 0 rfl rfl 4 (by decide) (hts _ q245) (fun _ h9 => h9) rfl d_Sets_forget_6 ?_
  refine lv_iconst (v := (-1)) hx hb d_Sets_forget_9 (by decide) ?_
  refine z_callS (index := 29) (As := [.ref b3, .int (-1)]) (rest := []) (wr := [(b0, .inr (6, [.int 0, .int 4, .int 100, .ref b2, .ref b3]))]) Z (c_fill_I l G (b3) (256) (b4) ((-1)) (by decide)) hl.1 q829 q415 q13 q416 ⟨by decide, by decide, by show _ = some 2; decide +kernel⟩ ⟨Nat.le_of_ble_eq_true rfl, Nat.le_of_ble_eq_true rfl⟩ ⟨Nat.le_of_ble_eq_true rfl, Nat.le_of_ble_eq_true rfl⟩ rfl (Nat.le_of_ble_eq_true rfl) d_Sets_forget_10 hP hD hS hA [1] [0] rfl rfl rfl rfl (by decide) (fun v w1 H locs hw_1 hP hD hS => ?_)
  obtain ⟨rfl, rfl⟩ := hw_1
  have hP : va_P G.1 classes [(b0, .inr (6, [.int 0, .int 4, .int 100, .ref b2, .ref b3])), (b3, .inl (G.2 0, 256, .inl (fun _ => (-1))))] H := hP
  have hD := z_tie hP hD rfl
  refine W.widen (k := 0) (n := 0) (Nat.le_of_ble_eq_true rfl) (Nat.le_of_ble_eq_true rfl) ?_
  exact z_vret hx hb hr hlocks hP hD hS (Nat.le_of_ble_eq_true rfl) (Nat.le_of_ble_eq_true rfl) d_Sets_forget_13 ⟨(fun _ => (-1)), rfl, rfl, (zR_c (zI.wk (l' := (-1)) (h' := 99) zc_m1 (by decide)))⟩
abbrev m_s5_Sets_hashOf : Room := { frames := 0, cells := 0, slots := 0, locals := 0 }
set_option maxHeartbeats 4000000 in
set_option maxRecDepth 100000 in
theorem s5_Sets_hashOf (l : Launch) (G : zG) (b0 : Nat) (b1 : Int32) (b2 : Int32) (b3 : Nat) (b4 : Nat) (b5 : Nat → Int64) (hb1 : zI b1 0 9) (hb2 : zI b2 0 10) (hb5 : zqa qB b5) : zM l G y_Sets_hashOf prog_8_method_13_code 5 (Option.some Jvm.ClassFile.FieldType.int) m_s5_Sets_hashOf [.ref b0, .int b1] [(b0, .inr (6, [.int b2, .int 4, .int 10, .ref b3, .ref b4])), (b3, .inl (G.2 1, 40, .inr (.inl b5)))] (fun v w => ∃ (e0 : Int32), v = some (.int e0) ∧ w = [(b0, .inr (6, [.int b2, .int 4, .int 10, .ref b3, .ref b4])), (b3, .inl (G.2 1, 40, .inr (.inl b5)))]) := by
  refine z_start (by decide +kernel) (Nat.le_of_ble_eq_true rfl) ?_
  intro p e s m below meth c A Z hr hnm hA hP hD hS ls hl
  have Z : zC p s m _ meth c prog_8_method_13_code 5 "TraceMachines$StateSets" G := Z
  obtain ⟨hx, hb, hml, hown, hts, hK, hN, hlocks⟩ := id Z
  have hl : lv_has ls 5 [(0, .ref b0), (1, .int b1)] := hl
  refine lv_lconst (v := 0) hx hb d_Sets_hashOf_0 (by decide) ?_
  refine lv_lstore_n (lv' := [(2, .long 0), (0, .ref b0), (1, .int b1)]) hx hb d_Sets_hashOf_1 rfl hl (by decide) rfl (fun ls hl => ?_)
  refine lv_iconst (v := 0) hx hb d_Sets_hashOf_2 (by decide) ?_
  refine lv_istore (lv' := [(4, .int 0), (2, .long 0), (0, .ref b0), (1, .int b1)]) hx hb d_Sets_hashOf_3 hl (by decide) rfl (fun ls hl => ?_)
  suffices key : ∀ (k_70 : Nat) (y_71 : Int32) (y_72 : Int64) (H : Heap) (locs : List Loc) (ls : Array Slot), (zI y_71 0 4) → (4 : Int) - y_71.toInt < (k_70 : Int) → va_P G.1 classes [(b0, .inr (6, [.int b2, .int 4, .int 10, .ref b3, .ref b4])), (b3, .inl (G.2 1, 40, .inr (.inl b5)))] H → va_D A [(b0, .inr (6, [.int b2, .int 4, .int 10, .ref b3, .ref b4])), (b3, .inl (G.2 1, 40, .inr (.inl b5)))] → va_S A s.heap H locs → lv_has ls 5 [(4, .int y_71), (2, .long y_72), (0, .ref b0), (1, .int b1)] → W p l e m_s5_Sets_hashOf s m ([.ref b0, .int b1] : List Value).toArray below meth c H locs 0 0 (MQ below (zQ G (fun v w => ∃ (e0 : Int32), v = some (.int e0) ∧ w = [(b0, .inr (6, [.int b2, .int 4, .int 10, .ref b3, .ref b4])), (b3, .inl (G.2 1, 40, .inr (.inl b5)))]) A) ([.ref b0, .int b1] : List Value).toArray s m_s5_Sets_hashOf.cells m_s5_Sets_hashOf.slots A) (F0 m 5 ls []) by
    exact key 5 (0) (0) _ _ _ (zI.wk (l' := 0) (h' := 4) zc_0 (by decide)) (zm_upi (zI.wk (l' := 0) (h' := 4) zc_0 (by decide)) (by decide)) hP hD hS (lv_sub hl [0, 1, 2, 3] rfl)
  intro k_70
  induction k_70 with
  | zero =>
    intro y_71 y_72 H locs ls hy_71 hmk_70 hP hD hS hl
    exact (zm_up0 hy_71 hmk_70).elim
  | succ k_70 ihk_70 =>
    intro y_71 y_72 H locs ls hy_71 hmk_70 hP hD hS hl
    refine lv_iload hx hb d_Sets_hashOf_5 (lv_at hl 0 rfl) ?_
    refine lv_aload_n hx hb d_Sets_hashOf_7 rfl (lv_at hl 2 rfl) ?_
    refine va_get (D := G.1) (ci := 6) (v := .int 4) (C := R_Sets) (T := F_Sets) (N := 5) hx hb hts i_Sets hown hK hP 0 rfl rfl 1 (by decide) (hts _ q242) (fun _ h9 => h9) rfl d_Sets_hashOf_8 ?_
    refine lv_icmp_ge (tgt := 48) hx hb d_Sets_hashOf_11 (by decide) (fun hc_73 => ?_) (fun hc_73 => ?_)
    · have _nhc_73 := hc_73
      have ni_74 := (fa_le _ _).mp hc_73
      rw [li_4] at ni_74
      have hv_75 : zI y_71 4 4 := zI.le_r zc_4 hy_71 hc_73 (by decide)
      refine lv_lload_n hx hb d_Sets_hashOf_48 rfl (lv_at hl 1 rfl) ?_
      obtain ⟨v_76, ev_76⟩ : ∃ z : Int32, z = (y_72).toInt32 := ⟨_, rfl⟩
      refine lv_l2i (v := v_76) hx hb d_Sets_hashOf_49 ev_76.symm ?_
      exact z_iret hx hb hr hlocks hP hD hS (Nat.le_of_ble_eq_true rfl) (Nat.le_of_ble_eq_true rfl) d_Sets_hashOf_50 ⟨v_76, rfl, rfl⟩
    · have _nhc_73 := hc_73
      have ni_77 := (fa_lt _ _).mp (zi_nle hc_73)
      rw [li_4] at ni_77
      have hv_78 : zI y_71 0 3 := zI.lt_l hy_71 zc_4 (zi_nle hc_73) (by decide)
      refine lv_lload_n hx hb d_Sets_hashOf_14 rfl (lv_at hl 1 rfl) ?_
      refine lv_aload_n hx hb d_Sets_hashOf_15 rfl (lv_at hl 2 rfl) ?_
      refine va_get (D := G.1) (ci := 6) (v := .ref b3) (C := R_Sets) (T := F_Sets) (N := 5) hx hb hts i_Sets hown hK hP 0 rfl rfl 3 (by decide) (hts _ q244) (fun _ h9 => h9) rfl d_Sets_hashOf_16 ?_
      refine lv_iload_n hx hb d_Sets_hashOf_19 rfl (lv_at hl 3 rfl) ?_
      refine lv_aload_n hx hb d_Sets_hashOf_20 rfl (lv_at hl 2 rfl) ?_
      refine va_get (D := G.1) (ci := 6) (v := .int 4) (C := R_Sets) (T := F_Sets) (N := 5) hx hb hts i_Sets hown hK hP 0 rfl rfl 1 (by decide) (hts _ q242) (fun _ h9 => h9) rfl d_Sets_hashOf_21 ?_
      refine lv_imul hx hb d_Sets_hashOf_24 ?_
      refine lv_topi (fun v_79 ev_79 => ?_)
      obtain ⟨qv_79, hv_79⟩ := zI_mul (l := 0) (h := 36) hb1 zc_4 ev_79 (by decide)
      rw [li_4] at qv_79
      refine lv_iload hx hb d_Sets_hashOf_25 (lv_at hl 0 rfl) ?_
      refine lv_iadd hx hb d_Sets_hashOf_27 ?_
      refine lv_topi (fun v_80 ev_80 => ?_)
      obtain ⟨qv_80, hv_80⟩ := zI_add (l := 0) (h := 39) hv_79 hv_78 ev_80 (by decide)
      refine va_lald hx hb hK hP 1 1 rfl rfl (zI.inn hv_80 (by decide)) d_Sets_hashOf_28 ?_
      refine lv_topl (fun v_81 ev_81 => ?_)
      have bv_81 := zQB.ld hb5 hv_80 ev_81 (by decide)
      refine lv_lxor hx hb d_Sets_hashOf_29 ?_
      refine lv_topl (fun v_82 ev_82 => ?_)
      refine lv_ldc2 hx hb hown (hts _ q838) d_Sets_hashOf_30 ?_
      refine lv_lmul hx hb d_Sets_hashOf_33 ?_
      refine lv_topl (fun v_83 ev_83 => ?_)
      refine lv_lstore_n (lv' := [(2, .long v_83), (4, .int y_71), (0, .ref b0), (1, .int b1)]) hx hb d_Sets_hashOf_34 rfl hl (by decide) rfl (fun ls hl => ?_)
      refine lv_lload_n hx hb d_Sets_hashOf_35 rfl (lv_at hl 0 rfl) ?_
      refine lv_lload_n hx hb d_Sets_hashOf_36 rfl (lv_at hl 0 rfl) ?_
      refine lv_bipush (v := 32) hx hb d_Sets_hashOf_37 (by decide) ?_
      obtain ⟨v_84, ev_84⟩ : ∃ z : Int64, z = ((v_83).toUInt64 >>> ((32 : Int32).toInt64.toUInt64 &&& Int64.toUInt64 63)).toInt64 := ⟨_, rfl⟩
      refine lv_lushr (v := v_84) hx hb d_Sets_hashOf_39 ev_84.symm ?_
      refine lv_lxor hx hb d_Sets_hashOf_40 ?_
      refine lv_topl (fun v_85 ev_85 => ?_)
      refine lv_lstore_n (lv' := [(2, .long v_85), (4, .int y_71), (0, .ref b0), (1, .int b1)]) hx hb d_Sets_hashOf_41 rfl hl (by decide) rfl (fun ls hl => ?_)
      obtain ⟨v_86, ev_86⟩ : ∃ z : Int32, z = y_71 + 1 := ⟨_, rfl⟩
      obtain ⟨qv_86, hv_86⟩ := zI_add (l := 1) (h := 4) hv_78 zc_1 ev_86 (by decide)
      rw [li_1] at qv_86
      refine lv_iinc (v := v_86) (lv' := [(4, .int v_86), (2, .long v_85), (0, .ref b0), (1, .int b1)]) hx hb d_Sets_hashOf_42 hl (k := 1) rfl (by rw [ev_86]; rfl) (by decide) rfl (fun ls hl => ?_)
      refine lv_goto (tgt := 5) hx hb d_Sets_hashOf_45 (by decide) ?_
      exact ihk_70 (v_86) (v_85) _ _ _ (zI.wk (l' := 0) (h' := 4) hv_86 (by decide)) (zm_up qv_86 hmk_70 (by decide)) hP hD hS (lv_sub hl [0, 1, 2, 3] rfl)
abbrev m_s4_Sets_isLike : Room := { frames := 0, cells := 0, slots := 0, locals := 0 }
set_option maxHeartbeats 4000000 in
set_option maxRecDepth 100000 in
theorem s4_Sets_isLike (l : Launch) (G : zG) (b0 : Nat) (b1 : Int32) (b2 : Nat) (b3 : Int32) (b4 : Int32) (b5 : Nat) (b6 : Nat) (b7 : Nat → Int64) (b8 : Int32) (b9 : Nat) (b10 : Nat) (b11 : Nat → Int64) (hb1 : zI b1 0 99) (hb3 : zI b3 0 9) (hb4 : zI b4 0 100) (hb8 : zI b8 0 10) (hb7 : zqa qB b7) (hb11 : zqa qB b11) : zM l G y_Sets_isLike prog_8_method_14_code 5 (Option.some Jvm.ClassFile.FieldType.boolean) m_s4_Sets_isLike [.ref b0, .int b1, .ref b2, .int b3] [(b0, .inr (6, [.int b4, .int 4, .int 100, .ref b5, .ref b6])), (b5, .inl (G.2 1, 400, .inr (.inl b7))), (b2, .inr (6, [.int b8, .int 4, .int 10, .ref b9, .ref b10])), (b9, .inl (G.2 1, 40, .inr (.inl b11)))] (fun v w => ∃ (e0 : Int32), v = some (.int e0) ∧ w = [(b0, .inr (6, [.int b4, .int 4, .int 100, .ref b5, .ref b6])), (b5, .inl (G.2 1, 400, .inr (.inl b7))), (b2, .inr (6, [.int b8, .int 4, .int 10, .ref b9, .ref b10])), (b9, .inl (G.2 1, 40, .inr (.inl b11)))] ∧ (zI e0 0 1)) := by
  refine z_start (by decide +kernel) (Nat.le_of_ble_eq_true rfl) ?_
  intro p e s m below meth c A Z hr hnm hA hP hD hS ls hl
  have Z : zC p s m _ meth c prog_8_method_14_code 5 "TraceMachines$StateSets" G := Z
  obtain ⟨hx, hb, hml, hown, hts, hK, hN, hlocks⟩ := id Z
  have hl : lv_has ls 5 [(0, .ref b0), (1, .int b1), (2, .ref b2), (3, .int b3)] := hl
  refine lv_iconst (v := 0) hx hb d_Sets_isLike_0 (by decide) ?_
  refine lv_istore (lv' := [(4, .int 0), (0, .ref b0), (1, .int b1), (2, .ref b2), (3, .int b3)]) hx hb d_Sets_isLike_1 hl (by decide) rfl (fun ls hl => ?_)
  suffices key : ∀ (k_81 : Nat) (y_82 : Int32) (H : Heap) (locs : List Loc) (ls : Array Slot), (zI y_82 0 4) → (4 : Int) - y_82.toInt < (k_81 : Int) → va_P G.1 classes [(b0, .inr (6, [.int b4, .int 4, .int 100, .ref b5, .ref b6])), (b5, .inl (G.2 1, 400, .inr (.inl b7))), (b2, .inr (6, [.int b8, .int 4, .int 10, .ref b9, .ref b10])), (b9, .inl (G.2 1, 40, .inr (.inl b11)))] H → va_D A [(b0, .inr (6, [.int b4, .int 4, .int 100, .ref b5, .ref b6])), (b5, .inl (G.2 1, 400, .inr (.inl b7))), (b2, .inr (6, [.int b8, .int 4, .int 10, .ref b9, .ref b10])), (b9, .inl (G.2 1, 40, .inr (.inl b11)))] → va_S A s.heap H locs → lv_has ls 5 [(4, .int y_82), (0, .ref b0), (1, .int b1), (2, .ref b2), (3, .int b3)] → W p l e m_s4_Sets_isLike s m ([.ref b0, .int b1, .ref b2, .int b3] : List Value).toArray below meth c H locs 0 0 (MQ below (zQ G (fun v w => ∃ (e0 : Int32), v = some (.int e0) ∧ w = [(b0, .inr (6, [.int b4, .int 4, .int 100, .ref b5, .ref b6])), (b5, .inl (G.2 1, 400, .inr (.inl b7))), (b2, .inr (6, [.int b8, .int 4, .int 10, .ref b9, .ref b10])), (b9, .inl (G.2 1, 40, .inr (.inl b11)))] ∧ (zI e0 0 1)) A) ([.ref b0, .int b1, .ref b2, .int b3] : List Value).toArray s m_s4_Sets_isLike.cells m_s4_Sets_isLike.slots A) (F0 m 3 ls []) by
    exact key 5 (0) _ _ _ (zI.wk (l' := 0) (h' := 4) zc_0 (by decide)) (zm_upi (zI.wk (l' := 0) (h' := 4) zc_0 (by decide)) (by decide)) hP hD hS (lv_sub hl [0, 1, 2, 3, 4] rfl)
  intro k_81
  induction k_81 with
  | zero =>
    intro y_82 H locs ls hy_82 hmk_81 hP hD hS hl
    exact (zm_up0 hy_82 hmk_81).elim
  | succ k_81 ihk_81 =>
    intro y_82 H locs ls hy_82 hmk_81 hP hD hS hl
    refine lv_iload hx hb d_Sets_isLike_3 (lv_at hl 0 rfl) ?_
    refine lv_aload_n hx hb d_Sets_isLike_5 rfl (lv_at hl 1 rfl) ?_
    refine va_get (D := G.1) (ci := 6) (v := .int 4) (C := R_Sets) (T := F_Sets) (N := 5) hx hb hts i_Sets hown hK hP 0 rfl rfl 1 (by decide) (hts _ q242) (fun _ h9 => h9) rfl d_Sets_isLike_6 ?_
    refine lv_icmp_ge (tgt := 52) hx hb d_Sets_isLike_9 (by decide) (fun hc_83 => ?_) (fun hc_83 => ?_)
    · have _nhc_83 := hc_83
      have ni_84 := (fa_le _ _).mp hc_83
      rw [li_4] at ni_84
      have hv_85 : zI y_82 4 4 := zI.le_r zc_4 hy_82 hc_83 (by decide)
      refine lv_iconst (v := 1) hx hb d_Sets_isLike_52 (by decide) ?_
      exact z_zret hx hb hr hlocks rfl hP hD hS (Nat.le_of_ble_eq_true rfl) (Nat.le_of_ble_eq_true rfl) d_Sets_isLike_53 ⟨1, rfl, rfl, (zI.wk (l' := 0) (h' := 1) zc_1 (by decide))⟩
    · have _nhc_83 := hc_83
      have ni_86 := (fa_lt _ _).mp (zi_nle hc_83)
      rw [li_4] at ni_86
      have hv_87 : zI y_82 0 3 := zI.lt_l hy_82 zc_4 (zi_nle hc_83) (by decide)
      refine lv_aload_n hx hb d_Sets_isLike_12 rfl (lv_at hl 1 rfl) ?_
      refine va_get (D := G.1) (ci := 6) (v := .ref b5) (C := R_Sets) (T := F_Sets) (N := 5) hx hb hts i_Sets hown hK hP 0 rfl rfl 3 (by decide) (hts _ q244) (fun _ h9 => h9) rfl d_Sets_isLike_13 ?_
      refine lv_iload_n hx hb d_Sets_isLike_16 rfl (lv_at hl 2 rfl) ?_
      refine lv_aload_n hx hb d_Sets_isLike_17 rfl (lv_at hl 1 rfl) ?_
      refine va_get (D := G.1) (ci := 6) (v := .int 4) (C := R_Sets) (T := F_Sets) (N := 5) hx hb hts i_Sets hown hK hP 0 rfl rfl 1 (by decide) (hts _ q242) (fun _ h9 => h9) rfl d_Sets_isLike_18 ?_
      refine lv_imul hx hb d_Sets_isLike_21 ?_
      refine lv_topi (fun v_88 ev_88 => ?_)
      obtain ⟨qv_88, hv_88⟩ := zI_mul (l := 0) (h := 396) hb1 zc_4 ev_88 (by decide)
      rw [li_4] at qv_88
      refine lv_iload hx hb d_Sets_isLike_22 (lv_at hl 0 rfl) ?_
      refine lv_iadd hx hb d_Sets_isLike_24 ?_
      refine lv_topi (fun v_89 ev_89 => ?_)
      obtain ⟨qv_89, hv_89⟩ := zI_add (l := 0) (h := 399) hv_88 hv_87 ev_89 (by decide)
      refine va_lald hx hb hK hP 1 1 rfl rfl (zI.inn hv_89 (by decide)) d_Sets_isLike_25 ?_
      refine lv_topl (fun v_90 ev_90 => ?_)
      have bv_90 := zQB.ld hb7 hv_89 ev_90 (by decide)
      refine lv_aload_n hx hb d_Sets_isLike_26 rfl (lv_at hl 3 rfl) ?_
      refine va_get (D := G.1) (ci := 6) (v := .ref b9) (C := R_Sets) (T := F_Sets) (N := 5) hx hb hts i_Sets hown hK hP 2 rfl rfl 3 (by decide) (hts _ q244) (fun _ h9 => h9) rfl d_Sets_isLike_27 ?_
      refine lv_iload_n hx hb d_Sets_isLike_30 rfl (lv_at hl 4 rfl) ?_
      refine lv_aload_n hx hb d_Sets_isLike_31 rfl (lv_at hl 1 rfl) ?_
      refine va_get (D := G.1) (ci := 6) (v := .int 4) (C := R_Sets) (T := F_Sets) (N := 5) hx hb hts i_Sets hown hK hP 0 rfl rfl 1 (by decide) (hts _ q242) (fun _ h9 => h9) rfl d_Sets_isLike_32 ?_
      refine lv_imul hx hb d_Sets_isLike_35 ?_
      refine lv_topi (fun v_91 ev_91 => ?_)
      obtain ⟨qv_91, hv_91⟩ := zI_mul (l := 0) (h := 36) hb3 zc_4 ev_91 (by decide)
      rw [li_4] at qv_91
      refine lv_iload hx hb d_Sets_isLike_36 (lv_at hl 0 rfl) ?_
      refine lv_iadd hx hb d_Sets_isLike_38 ?_
      refine lv_topi (fun v_92 ev_92 => ?_)
      obtain ⟨qv_92, hv_92⟩ := zI_add (l := 0) (h := 39) hv_91 hv_87 ev_92 (by decide)
      refine va_lald hx hb hK hP 3 1 rfl rfl (zI.inn hv_92 (by decide)) d_Sets_isLike_39 ?_
      refine lv_topl (fun v_93 ev_93 => ?_)
      have bv_93 := zQB.ld hb11 hv_92 ev_93 (by decide)
      refine W.lcmp hx hb d_Sets_isLike_40 ?_
      refine lv_topi (fun v_94 ev_94 => ?_)
      refine lv_if_eq (tgt := 46) hx hb d_Sets_isLike_41 (by decide) (fun hc_95 => ?_) (fun hc_95 => ?_)
      · have ni_96 := hc_95
        rw [ev_94] at ni_96
        simp only [lg_cmp_lt, lg_cmp_le, lg_cmp_gt, lg_cmp_ge, lg_cmp_eq, fa_lt64, fa_le64, fa_eq64, Int32.toInt_toInt64] at ni_96
        obtain ⟨v_97, ev_97⟩ : ∃ z : Int32, z = y_82 + 1 := ⟨_, rfl⟩
        obtain ⟨qv_97, hv_97⟩ := zI_add (l := 1) (h := 4) hv_87 zc_1 ev_97 (by decide)
        rw [li_1] at qv_97
        refine lv_iinc (v := v_97) (lv' := [(4, .int v_97), (0, .ref b0), (1, .int b1), (2, .ref b2), (3, .int b3)]) hx hb d_Sets_isLike_46 hl (k := 0) rfl (by rw [ev_97]; rfl) (by decide) rfl (fun ls hl => ?_)
        refine lv_goto (tgt := 3) hx hb d_Sets_isLike_49 (by decide) ?_
        exact ihk_81 (v_97) _ _ _ (zI.wk (l' := 0) (h' := 4) hv_97 (by decide)) (zm_up qv_97 hmk_81 (by decide)) hP hD hS (lv_sub hl [0, 1, 2, 3, 4] rfl)
      · have ni_98 := hc_95
        rw [ev_94] at ni_98
        simp only [lg_cmp_lt, lg_cmp_le, lg_cmp_gt, lg_cmp_ge, lg_cmp_eq, fa_lt64, fa_le64, fa_eq64, Int32.toInt_toInt64] at ni_98
        refine lv_iconst (v := 0) hx hb d_Sets_isLike_44 (by decide) ?_
        exact z_zret hx hb hr hlocks rfl hP hD hS (Nat.le_of_ble_eq_true rfl) (Nat.le_of_ble_eq_true rfl) d_Sets_isLike_45 ⟨0, rfl, rfl, (zI.wk (l' := 0) (h' := 1) zc_0 (by decide))⟩
abbrev m_s4_Sets_append : Room := { frames := 1, cells := 0, slots := 0, locals := 18 }
set_option maxHeartbeats 4000000 in
set_option maxRecDepth 100000 in
theorem s4_Sets_append (l : Launch) (G : zG) (b0 : Nat) (b1 : Nat) (b2 : Int32) (b3 : Int32) (b4 : Int32) (b5 : Nat) (b6 : Nat) (b7 : Nat → Int64) (b8 : Nat → Int32) (b9 : Int32) (b10 : Nat) (b11 : Nat) (b12 : Nat → Int64) (hb2 : zI b2 0 9) (hb3 : zI b3 0 255) (hb4 : zI b4 0 100) (hb9 : zI b9 0 10) (hb7 : zqa qB b7) (hb8 : zR b8 (-1) 99) (hb12 : zqa qB b12) : zM l G y_Sets_append prog_8_method_12_code 4 (Option.some Jvm.ClassFile.FieldType.int) m_s4_Sets_append [.ref b0, .ref b1, .int b2, .int b3] [(b0, .inr (6, [.int b4, .int 4, .int 100, .ref b5, .ref b6])), (b5, .inl (G.2 1, 400, .inr (.inl b7))), (b6, .inl (G.2 0, 256, .inl b8)), (b1, .inr (6, [.int b9, .int 4, .int 10, .ref b10, .ref b11])), (b10, .inl (G.2 1, 40, .inr (.inl b12)))] (fun v w => ∃ (e0 : Int32), ∃ (e1 : Int32), ∃ (e2 : Nat → Int64), ∃ (e3 : Nat → Int32), v = some (.int e0) ∧ w = [(b0, .inr (6, [.int e1, .int 4, .int 100, .ref b5, .ref b6])), (b5, .inl (G.2 1, 400, .inr (.inl e2))), (b6, .inl (G.2 0, 256, .inl e3)), (b1, .inr (6, [.int b9, .int 4, .int 10, .ref b10, .ref b11])), (b10, .inl (G.2 1, 40, .inr (.inl b12)))] ∧ (zI e0 (-1) 99) ∧ (zI e1 0 100) ∧ (zqa qB e2) ∧ (zR e3 (-1) 99) ∧ (b4.toInt ≤ e1.toInt)) := by
  refine z_start (by decide +kernel) (Nat.le_of_ble_eq_true rfl) ?_
  intro p e s m below meth c A Z hr hnm hA hP hD hS ls hl
  have Z : zC p s m _ meth c prog_8_method_12_code 4 "TraceMachines$StateSets" G := Z
  obtain ⟨hx, hb, hml, hown, hts, hK, hN, hlocks⟩ := id Z
  have hl : lv_has ls 4 [(0, .ref b0), (1, .ref b1), (2, .int b2), (3, .int b3)] := hl
  refine lv_aload_n hx hb d_Sets_append_0 rfl (lv_at hl 0 rfl) ?_
  refine va_get (D := G.1) (ci := 6) (v := .int b4) (C := R_Sets) (T := F_Sets) (N := 5) hx hb hts i_Sets hown hK hP 0 rfl rfl 0 (by decide) (hts _ q239) (fun _ h9 => h9) rfl d_Sets_append_1 ?_
  refine lv_aload_n hx hb d_Sets_append_4 rfl (lv_at hl 0 rfl) ?_
  refine va_get (D := G.1) (ci := 6) (v := .int 100) (C := R_Sets) (T := F_Sets) (N := 5) hx hb hts i_Sets hown hK hP 0 rfl rfl 2 (by decide) (hts _ q243) (fun _ h9 => h9) rfl d_Sets_append_5 ?_
  refine lv_icmp_ne (tgt := 13) hx hb d_Sets_append_8 (by decide) (fun hc_1 => ?_) (fun hc_1 => ?_)
  · have _nhc_1 := hc_1
    have ni_2 : ¬ (b4 : Int32).toInt = (100 : Int32).toInt := fun z => hc_1 ((fa_eq _ _).mpr z)
    simp only [li_100] at ni_2
    have hv_3 : zI b4 0 99 := zI.ne_hi hb4 zc_100 hc_1 (by decide)
    refine lv_aload_n hx hb d_Sets_append_13 rfl (lv_at hl 1 rfl) ?_
    refine va_get (D := G.1) (ci := 6) (v := .ref b10) (C := R_Sets) (T := F_Sets) (N := 5) hx hb hts i_Sets hown hK hP 3 rfl rfl 3 (by decide) (hts _ q244) (fun _ h9 => h9) rfl d_Sets_append_14 ?_
    refine lv_iload_n hx hb d_Sets_append_17 rfl (lv_at hl 2 rfl) ?_
    refine lv_aload_n hx hb d_Sets_append_18 rfl (lv_at hl 0 rfl) ?_
    refine va_get (D := G.1) (ci := 6) (v := .int 4) (C := R_Sets) (T := F_Sets) (N := 5) hx hb hts i_Sets hown hK hP 0 rfl rfl 1 (by decide) (hts _ q242) (fun _ h9 => h9) rfl d_Sets_append_19 ?_
    refine lv_imul hx hb d_Sets_append_22 ?_
    refine lv_topi (fun v_4 ev_4 => ?_)
    obtain ⟨qv_4, hv_4⟩ := zI_mul (l := 0) (h := 36) hb2 zc_4 ev_4 (by decide)
    rw [li_4] at qv_4
    refine lv_aload_n hx hb d_Sets_append_23 rfl (lv_at hl 0 rfl) ?_
    refine va_get (D := G.1) (ci := 6) (v := .ref b5) (C := R_Sets) (T := F_Sets) (N := 5) hx hb hts i_Sets hown hK hP 0 rfl rfl 3 (by decide) (hts _ q244) (fun _ h9 => h9) rfl d_Sets_append_24 ?_
    refine lv_aload_n hx hb d_Sets_append_27 rfl (lv_at hl 0 rfl) ?_
    refine va_get (D := G.1) (ci := 6) (v := .int b4) (C := R_Sets) (T := F_Sets) (N := 5) hx hb hts i_Sets hown hK hP 0 rfl rfl 0 (by decide) (hts _ q239) (fun _ h9 => h9) rfl d_Sets_append_28 ?_
    refine lv_aload_n hx hb d_Sets_append_31 rfl (lv_at hl 0 rfl) ?_
    refine va_get (D := G.1) (ci := 6) (v := .int 4) (C := R_Sets) (T := F_Sets) (N := 5) hx hb hts i_Sets hown hK hP 0 rfl rfl 1 (by decide) (hts _ q242) (fun _ h9 => h9) rfl d_Sets_append_32 ?_
    refine lv_imul hx hb d_Sets_append_35 ?_
    refine lv_topi (fun v_5 ev_5 => ?_)
    obtain ⟨qv_5, hv_5⟩ := zI_mul (l := 0) (h := 396) hv_3 zc_4 ev_5 (by decide)
    rw [li_4] at qv_5
    refine lv_aload_n hx hb d_Sets_append_36 rfl (lv_at hl 0 rfl) ?_
    refine va_get (D := G.1) (ci := 6) (v := .int 4) (C := R_Sets) (T := F_Sets) (N := 5) hx hb hts i_Sets hown hK hP 0 rfl rfl 1 (by decide) (hts _ q242) (fun _ h9 => h9) rfl d_Sets_append_37 ?_
    refine va_copyl hx hb (hml.trans hl.1.symm) hown (hts _ q843) (hts _ q504) (hts _ q503) (hts _ q15) hK hP hD hS 4 1 1 1 rfl rfl rfl rfl rfl (zi_nn hv_4 (by decide)) (zi_nn hv_5 (by decide)) (zi_nn zc_4 (by decide)) (zi_cp hv_4 zc_4 (by decide) (by decide) (by decide)) (zi_cp hv_5 zc_4 (by decide) (by decide) (by decide)) (fun _ _ => rfl) (Nat.le_of_ble_eq_true rfl) (Nat.le_of_ble_eq_true rfl) d_Sets_append_40 (fun H locs hP hD hS => ?_)
    obtain ⟨f_6, hf_6, hP, hD⟩ := z_newlB 1 hP hD rfl (zQB.cpy hb12 hb7 (by have p9 := z_pl hv_4 (by decide); have p8 := z_pl hv_5 (by decide); omega))
    have hP : va_P G.1 classes [(b0, .inr (6, [.int b4, .int 4, .int 100, .ref b5, .ref b6])), (b5, .inl (G.2 1, 400, .inr (.inl f_6))), (b6, .inl (G.2 0, 256, .inl b8)), (b1, .inr (6, [.int b9, .int 4, .int 10, .ref b10, .ref b11])), (b10, .inl (G.2 1, 40, .inr (.inl b12)))] H := hP
    have hD := z_tie hP hD rfl
    refine lv_aload_n hx hb d_Sets_append_43 rfl (lv_at hl 0 rfl) ?_
    refine va_get (D := G.1) (ci := 6) (v := .ref b6) (C := R_Sets) (T := F_Sets) (N := 5) hx hb hts i_Sets hown hK hP 0 rfl rfl 4 (by decide) (hts _ q245) (fun _ h9 => h9) rfl d_Sets_append_44 ?_
    refine lv_iload_n hx hb d_Sets_append_47 rfl (lv_at hl 3 rfl) ?_
    refine lv_aload_n hx hb d_Sets_append_48 rfl (lv_at hl 0 rfl) ?_
    refine va_get (D := G.1) (ci := 6) (v := .int b4) (C := R_Sets) (T := F_Sets) (N := 5) hx hb hts i_Sets hown hK hP 0 rfl rfl 0 (by decide) (hts _ q239) (fun _ h9 => h9) rfl d_Sets_append_49 ?_
    refine va_iast hx hb hK hP hD hS 2 0 rfl rfl (zI.inn hb3 (by decide)) d_Sets_append_52 (fun H locs hP hD hS => ?_)
    obtain ⟨f_7, hf_7, gf_7, uf_7, hP, hD⟩ := z_newfu 2 hP hD rfl hb8 (zI.wk (l' := (-1)) (h' := 99) hv_3 (by decide))
    have hP : va_P G.1 classes [(b0, .inr (6, [.int b4, .int 4, .int 100, .ref b5, .ref b6])), (b5, .inl (G.2 1, 400, .inr (.inl f_6))), (b6, .inl (G.2 0, 256, .inl f_7)), (b1, .inr (6, [.int b9, .int 4, .int 10, .ref b10, .ref b11])), (b10, .inl (G.2 1, 40, .inr (.inl b12)))] H := hP
    have hD := z_tie hP hD rfl
    refine lv_aload_n hx hb d_Sets_append_53 rfl (lv_at hl 0 rfl) ?_
    refine lv_dup hx hb d_Sets_append_54 rfl ?_
    refine va_get (D := G.1) (ci := 6) (v := .int b4) (C := R_Sets) (T := F_Sets) (N := 5) hx hb hts i_Sets hown hK hP 0 rfl rfl 0 (by decide) (hts _ q239) (fun _ h9 => h9) rfl d_Sets_append_55 ?_
    refine lv_iconst (v := 1) hx hb d_Sets_append_58 (by decide) ?_
    refine lv_iadd hx hb d_Sets_append_59 ?_
    refine lv_topi (fun v_8 ev_8 => ?_)
    obtain ⟨qv_8, hv_8⟩ := zI_add (l := 1) (h := 100) hv_3 zc_1 ev_8 (by decide)
    rw [li_1] at qv_8
    refine va_put (D := G.1) (ci := 6) (v := .int v_8) (ty := .int) (C := R_Sets) (T := F_Sets) (N := 5) hx hb hts i_Sets t_Sets t_Sets_ok n_Sets hown hK hP hD hS 0 rfl rfl 0 (by decide) (hts _ q239) (fun _ h9 => h9) rfl (by decide +kernel) rfl rfl (Nat.le_of_ble_eq_true rfl) d_Sets_append_60 (fun H locs hP hD hS => ?_)
    have hP : va_P G.1 classes [(b0, .inr (6, [.int v_8, .int 4, .int 100, .ref b5, .ref b6])), (b5, .inl (G.2 1, 400, .inr (.inl f_6))), (b6, .inl (G.2 0, 256, .inl f_7)), (b1, .inr (6, [.int b9, .int 4, .int 10, .ref b10, .ref b11])), (b10, .inl (G.2 1, 40, .inr (.inl b12)))] H := hP
    have hD := z_tie hP hD rfl
    refine lv_aload_n hx hb d_Sets_append_63 rfl (lv_at hl 0 rfl) ?_
    refine va_get (D := G.1) (ci := 6) (v := .int v_8) (C := R_Sets) (T := F_Sets) (N := 5) hx hb hts i_Sets hown hK hP 0 rfl rfl 0 (by decide) (hts _ q239) (fun _ h9 => h9) rfl d_Sets_append_64 ?_
    refine lv_iconst (v := 1) hx hb d_Sets_append_67 (by decide) ?_
    refine lv_isub hx hb d_Sets_append_68 ?_
    refine lv_topi (fun v_9 ev_9 => ?_)
    obtain ⟨qv_9, hv_9⟩ := zI_sub (l := 0) (h := 99) hv_8 zc_1 ev_9 (by decide)
    rw [li_1] at qv_9
    exact z_iret hx hb hr hlocks hP hD hS (Nat.le_of_ble_eq_true rfl) (Nat.le_of_ble_eq_true rfl) d_Sets_append_69 ⟨v_9, v_8, f_6, f_7, rfl, rfl, (zI.wk (l' := (-1)) (h' := 99) hv_9 (by decide)), (zI.wk (l' := 0) (h' := 100) hv_8 (by decide)), hf_6, hf_7, (by omega)⟩
  · have _nhc_1 := hc_1
    have ni_10 := (fa_eq _ _).mp hc_1
    rw [li_100] at ni_10
    have hv_11 : zI b4 100 100 := zI.eq_l hb4 zc_100 hc_1
    refine lv_iconst (v := (-1)) hx hb d_Sets_append_11 (by decide) ?_
    exact z_iret hx hb hr hlocks hP hD hS (Nat.le_of_ble_eq_true rfl) (Nat.le_of_ble_eq_true rfl) d_Sets_append_12 ⟨(-1), b4, b7, b8, rfl, rfl, (zI.wk (l' := (-1)) (h' := 99) zc_m1 (by decide)), (zI.wk (l' := 0) (h' := 100) hv_11 (by decide)), hb7, hb8, (by omega)⟩
abbrev m_s4_Sets_indexOf : Room := { frames := 2, cells := 0, slots := 0, locals := 41 }
set_option maxHeartbeats 4000000 in
set_option maxRecDepth 100000 in
theorem s4_Sets_indexOf (l : Launch) (G : zG) (b0 : Nat) (b1 : Nat) (b2 : Int32) (b3 : Int32) (b4 : Nat) (b5 : Nat) (b6 : Nat → Int64) (b7 : Nat → Int32) (b8 : Int32) (b9 : Nat) (b10 : Nat) (b11 : Nat → Int64) (hb2 : zI b2 0 9) (hb3 : zI b3 0 100) (hb8 : zI b8 0 10) (hb6 : zqa qB b6) (hb7 : zR b7 (-1) 99) (hb11 : zqa qB b11) : zM l G y_Sets_indexOf prog_8_method_11_code 7 (Option.some Jvm.ClassFile.FieldType.int) m_s4_Sets_indexOf [.ref b0, .ref b1, .int b2] [(b0, .inr (6, [.int b3, .int 4, .int 100, .ref b4, .ref b5])), (b4, .inl (G.2 1, 400, .inr (.inl b6))), (b5, .inl (G.2 0, 256, .inl b7)), (b1, .inr (6, [.int b8, .int 4, .int 10, .ref b9, .ref b10])), (b9, .inl (G.2 1, 40, .inr (.inl b11)))] (fun v w => ∃ (e0 : Int32), ∃ (e1 : Int32), ∃ (e2 : Nat → Int64), ∃ (e3 : Nat → Int32), v = some (.int e0) ∧ w = [(b0, .inr (6, [.int e1, .int 4, .int 100, .ref b4, .ref b5])), (b4, .inl (G.2 1, 400, .inr (.inl e2))), (b5, .inl (G.2 0, 256, .inl e3)), (b1, .inr (6, [.int b8, .int 4, .int 10, .ref b9, .ref b10])), (b9, .inl (G.2 1, 40, .inr (.inl b11)))] ∧ (zI e0 (-1) 99) ∧ (zI e1 0 100) ∧ (zqa qB e2) ∧ (zR e3 (-1) 99) ∧ (b3.toInt ≤ e1.toInt)) := by
  refine z_start (by decide +kernel) (Nat.le_of_ble_eq_true rfl) ?_
  intro p e s m below meth c A Z hr hnm hA hP hD hS ls hl
  have Z : zC p s m _ meth c prog_8_method_11_code 7 "TraceMachines$StateSets" G := Z
  obtain ⟨hx, hb, hml, hown, hts, hK, hN, hlocks⟩ := id Z
  have hl : lv_has ls 7 [(0, .ref b0), (1, .ref b1), (2, .int b2)] := hl
  refine lv_aload_n hx hb d_Sets_indexOf_0 rfl (lv_at hl 1 rfl) ?_
  refine lv_iload_n hx hb d_Sets_indexOf_1 rfl (lv_at hl 2 rfl) ?_
  refine z_callV (index := 47) (As := [.int b2]) (rest := []) (wr := [(b0, .inr (6, [.int b3, .int 4, .int 100, .ref b4, .ref b5])), (b4, .inl (G.2 1, 400, .inr (.inl b6))), (b5, .inl (G.2 0, 256, .inl b7))]) Z (s5_Sets_hashOf l G (b1) (b2) (b8) (b9) (b10) (b11) hb2 hb8 hb11) hl.1 q834 q836 qs23 q7 q837 ⟨by decide, by decide, by show _ = some 1; decide +kernel⟩ ⟨Nat.le_of_ble_eq_true rfl, Nat.le_of_ble_eq_true rfl⟩ ⟨Nat.le_of_ble_eq_true rfl, Nat.le_of_ble_eq_true rfl⟩ rfl (Nat.le_of_ble_eq_true rfl) d_Sets_indexOf_2 hP hD hS hA 3 6 rfl rfl rfl [3, 4] [0, 1, 2] rfl rfl rfl rfl (by decide) (fun v w1 H locs hw_1 hP hD hS => ?_)
  obtain ⟨x_2, rfl, rfl⟩ := hw_1
  have hP : va_P G.1 classes [(b0, .inr (6, [.int b3, .int 4, .int 100, .ref b4, .ref b5])), (b4, .inl (G.2 1, 400, .inr (.inl b6))), (b5, .inl (G.2 0, 256, .inl b7)), (b1, .inr (6, [.int b8, .int 4, .int 10, .ref b9, .ref b10])), (b9, .inl (G.2 1, 40, .inr (.inl b11)))] H := hP
  have hD := z_tie hP hD rfl
  refine W.widen (k := 0) (n := 0) (Nat.le_of_ble_eq_true rfl) (Nat.le_of_ble_eq_true rfl) ?_
  refine lv_istore_n (lv' := [(3, .int x_2), (0, .ref b0), (1, .ref b1), (2, .int b2)]) hx hb d_Sets_indexOf_5 rfl hl (by decide) rfl (fun ls hl => ?_)
  refine lv_iconst (v := 0) hx hb d_Sets_indexOf_6 (by decide) ?_
  refine lv_istore (lv' := [(4, .int 0), (3, .int x_2), (0, .ref b0), (1, .ref b1), (2, .int b2)]) hx hb d_Sets_indexOf_7 hl (by decide) rfl (fun ls hl => ?_)
  suffices key : ∀ (k_264 : Nat) (y_265 : Int32) (H : Heap) (locs : List Loc) (ls : Array Slot), (zI y_265 0 256) → (256 : Int) - y_265.toInt < (k_264 : Int) → va_P G.1 classes [(b0, .inr (6, [.int b3, .int 4, .int 100, .ref b4, .ref b5])), (b4, .inl (G.2 1, 400, .inr (.inl b6))), (b5, .inl (G.2 0, 256, .inl b7)), (b1, .inr (6, [.int b8, .int 4, .int 10, .ref b9, .ref b10])), (b9, .inl (G.2 1, 40, .inr (.inl b11)))] H → va_D A [(b0, .inr (6, [.int b3, .int 4, .int 100, .ref b4, .ref b5])), (b4, .inl (G.2 1, 400, .inr (.inl b6))), (b5, .inl (G.2 0, 256, .inl b7)), (b1, .inr (6, [.int b8, .int 4, .int 10, .ref b9, .ref b10])), (b9, .inl (G.2 1, 40, .inr (.inl b11)))] → va_S A s.heap H locs → lv_has ls 7 [(4, .int y_265), (3, .int x_2), (0, .ref b0), (1, .ref b1), (2, .int b2)] → W p l e m_s4_Sets_indexOf s m ([.ref b0, .ref b1, .int b2] : List Value).toArray below meth c H locs 0 0 (MQ below (zQ G (fun v w => ∃ (e0 : Int32), ∃ (e1 : Int32), ∃ (e2 : Nat → Int64), ∃ (e3 : Nat → Int32), v = some (.int e0) ∧ w = [(b0, .inr (6, [.int e1, .int 4, .int 100, .ref b4, .ref b5])), (b4, .inl (G.2 1, 400, .inr (.inl e2))), (b5, .inl (G.2 0, 256, .inl e3)), (b1, .inr (6, [.int b8, .int 4, .int 10, .ref b9, .ref b10])), (b9, .inl (G.2 1, 40, .inr (.inl b11)))] ∧ (zI e0 (-1) 99) ∧ (zI e1 0 100) ∧ (zqa qB e2) ∧ (zR e3 (-1) 99) ∧ (b3.toInt ≤ e1.toInt)) A) ([.ref b0, .ref b1, .int b2] : List Value).toArray s m_s4_Sets_indexOf.cells m_s4_Sets_indexOf.slots A) (F0 m 9 ls []) by
    exact key 257 (0) _ _ _ (zI.wk (l' := 0) (h' := 256) zc_0 (by decide)) (zm_upi (zI.wk (l' := 0) (h' := 256) zc_0 (by decide)) (by decide)) hP hD hS (lv_sub hl [0, 1, 2, 3, 4] rfl)
  intro k_264
  induction k_264 with
  | zero =>
    intro y_265 H locs ls hy_265 hmk_264 hP hD hS hl
    exact (zm_up0 hy_265 hmk_264).elim
  | succ k_264 ihk_264 =>
    intro y_265 H locs ls hy_265 hmk_264 hP hD hS hl
    refine lv_iload hx hb d_Sets_indexOf_9 (lv_at hl 0 rfl) ?_
    refine lv_aload_n hx hb d_Sets_indexOf_11 rfl (lv_at hl 2 rfl) ?_
    refine va_get (D := G.1) (ci := 6) (v := .ref b5) (C := R_Sets) (T := F_Sets) (N := 5) hx hb hts i_Sets hown hK hP 0 rfl rfl 4 (by decide) (hts _ q245) (fun _ h9 => h9) rfl d_Sets_indexOf_12 ?_
    refine va_alen hx hb hK hP 2 0 rfl rfl (v := 256) (show Int32.ofNat 256 = 256 from by decide +kernel) d_Sets_indexOf_15 ?_
    refine lv_icmp_ge (tgt := 77) hx hb d_Sets_indexOf_16 (by decide) (fun hc_266 => ?_) (fun hc_266 => ?_)
    · have _nhc_266 := hc_266
      have ni_267 := (fa_le _ _).mp hc_266
      rw [li_256] at ni_267
      have hv_268 : zI y_265 256 256 := zI.le_r zc_256 hy_265 hc_266 (by decide)
      refine lv_iconst (v := (-1)) hx hb d_Sets_indexOf_77 (by decide) ?_
      exact z_iret hx hb hr hlocks hP hD hS (Nat.le_of_ble_eq_true rfl) (Nat.le_of_ble_eq_true rfl) d_Sets_indexOf_78 ⟨(-1), b3, b6, b7, rfl, rfl, (zI.wk (l' := (-1)) (h' := 99) zc_m1 (by decide)), hb3, hb6, hb7, (by omega)⟩
    · have _nhc_266 := hc_266
      have ni_269 := (fa_lt _ _).mp (zi_nle hc_266)
      rw [li_256] at ni_269
      have hv_270 : zI y_265 0 255 := zI.lt_l hy_265 zc_256 (zi_nle hc_266) (by decide)
      refine lv_iload_n hx hb d_Sets_indexOf_19 rfl (lv_at hl 1 rfl) ?_
      refine lv_iload hx hb d_Sets_indexOf_20 (lv_at hl 0 rfl) ?_
      refine lv_iadd hx hb d_Sets_indexOf_22 ?_
      refine lv_topi (fun v_271 ev_271 => ?_)
      refine lv_aload_n hx hb d_Sets_indexOf_23 rfl (lv_at hl 2 rfl) ?_
      refine va_get (D := G.1) (ci := 6) (v := .ref b5) (C := R_Sets) (T := F_Sets) (N := 5) hx hb hts i_Sets hown hK hP 0 rfl rfl 4 (by decide) (hts _ q245) (fun _ h9 => h9) rfl d_Sets_indexOf_24 ?_
      refine va_alen hx hb hK hP 2 0 rfl rfl (v := 256) (show Int32.ofNat 256 = 256 from by decide +kernel) d_Sets_indexOf_27 ?_
      refine lv_iconst (v := 1) hx hb d_Sets_indexOf_28 (by decide) ?_
      refine lv_isub hx hb d_Sets_indexOf_29 ?_
      refine z_topi (y := 255) (by decide +kernel) ?_
      refine lv_iand hx hb d_Sets_indexOf_30 ?_
      refine lv_topi (fun v_272 ev_272 => ?_)
      have hv_272 := zI_and (k := 8) (h := 255) (by decide +kernel) ev_272 (by decide)
      refine lv_istore (lv' := [(5, .int v_272), (4, .int y_265), (3, .int x_2), (0, .ref b0), (1, .ref b1), (2, .int b2)]) hx hb d_Sets_indexOf_31 hl (by decide) rfl (fun ls hl => ?_)
      refine lv_aload_n hx hb d_Sets_indexOf_33 rfl (lv_at hl 3 rfl) ?_
      refine va_get (D := G.1) (ci := 6) (v := .ref b5) (C := R_Sets) (T := F_Sets) (N := 5) hx hb hts i_Sets hown hK hP 0 rfl rfl 4 (by decide) (hts _ q245) (fun _ h9 => h9) rfl d_Sets_indexOf_34 ?_
      refine lv_iload hx hb d_Sets_indexOf_37 (lv_at hl 0 rfl) ?_
      refine va_iald hx hb hK hP 2 0 rfl rfl (zI.inn hv_272 (by decide)) d_Sets_indexOf_39 ?_
      refine lv_topi (fun v_273 ev_273 => ?_)
      have hv_273 : zI v_273 (-1) 99 := (hb7 _).eq ev_273
      refine lv_istore (lv' := [(6, .int v_273), (5, .int v_272), (4, .int y_265), (3, .int x_2), (0, .ref b0), (1, .ref b1), (2, .int b2)]) hx hb d_Sets_indexOf_40 hl (by decide) rfl (fun ls hl => ?_)
      refine lv_iload hx hb d_Sets_indexOf_42 (lv_at hl 0 rfl) ?_
      refine lv_iconst (v := (-1)) hx hb d_Sets_indexOf_44 (by decide) ?_
      refine lv_icmp_ne (tgt := 57) hx hb d_Sets_indexOf_45 (by decide) (fun hc_274 => ?_) (fun hc_274 => ?_)
      · have _nhc_274 := hc_274
        have ni_275 : ¬ (v_273 : Int32).toInt = ((-1) : Int32).toInt := fun z => hc_274 ((fa_eq _ _).mpr z)
        simp only [li_m1] at ni_275
        have hv_276 : zI v_273 0 99 := zI.ne_lo hv_273 zc_m1 hc_274 (by decide)
        refine lv_aload_n hx hb d_Sets_indexOf_57 rfl (lv_at hl 4 rfl) ?_
        refine lv_iload hx hb d_Sets_indexOf_58 (lv_at hl 0 rfl) ?_
        refine lv_aload_n hx hb d_Sets_indexOf_60 rfl (lv_at hl 5 rfl) ?_
        refine lv_iload_n hx hb d_Sets_indexOf_61 rfl (lv_at hl 6 rfl) ?_
        refine z_callV (index := 55) (As := [.int v_273, .ref b1, .int b2]) (rest := []) (wr := [(b5, .inl (G.2 0, 256, .inl b7))]) Z (s4_Sets_isLike l G (b0) (v_273) (b1) (b2) (b3) (b4) (b5) (b6) (b8) (b9) (b10) (b11) hv_276 hb2 hb3 hb8 hb6 hb11) hl.1 q844 q846 qs25 q7 q847 ⟨by decide, by decide, by show _ = some 3; decide +kernel⟩ ⟨Nat.le_of_ble_eq_true rfl, Nat.le_of_ble_eq_true rfl⟩ ⟨Nat.le_of_ble_eq_true rfl, Nat.le_of_ble_eq_true rfl⟩ rfl (Nat.le_of_ble_eq_true rfl) d_Sets_indexOf_62 hP hD hS hA 0 6 rfl rfl rfl [0, 1, 3, 4] [2] rfl rfl rfl rfl (by decide) (fun v w1 H locs hw_277 hP hD hS => ?_)
        obtain ⟨x_278, rfl, rfl, hx_278⟩ := hw_277
        have hP : va_P G.1 classes [(b5, .inl (G.2 0, 256, .inl b7)), (b0, .inr (6, [.int b3, .int 4, .int 100, .ref b4, .ref b5])), (b4, .inl (G.2 1, 400, .inr (.inl b6))), (b1, .inr (6, [.int b8, .int 4, .int 10, .ref b9, .ref b10])), (b9, .inl (G.2 1, 40, .inr (.inl b11)))] H := hP
        have hD := z_tie hP hD rfl
        refine W.widen (k := 0) (n := 0) (Nat.le_of_ble_eq_true rfl) (Nat.le_of_ble_eq_true rfl) ?_
        refine lv_if_eq (tgt := 71) hx hb d_Sets_indexOf_65 (by decide) (fun hc_279 => ?_) (fun hc_279 => ?_)
        · have _nhc_279 := hc_279
          have ni_280 := (fa_eq _ _).mp hc_279
          rw [li_0] at ni_280
          have hv_281 : zI x_278 0 0 := zI.eq_l hx_278 zc_0 hc_279
          obtain ⟨v_282, ev_282⟩ : ∃ z : Int32, z = y_265 + 1 := ⟨_, rfl⟩
          obtain ⟨qv_282, hv_282⟩ := zI_add (l := 1) (h := 256) hv_270 zc_1 ev_282 (by decide)
          rw [li_1] at qv_282
          refine lv_iinc (v := v_282) (lv' := [(4, .int v_282), (6, .int v_273), (5, .int v_272), (3, .int x_2), (0, .ref b0), (1, .ref b1), (2, .int b2)]) hx hb d_Sets_indexOf_71 hl (k := 2) rfl (by rw [ev_282]; rfl) (by decide) rfl (fun ls hl => ?_)
          refine lv_goto (tgt := 9) hx hb d_Sets_indexOf_74 (by decide) ?_
          exact ihk_264 (v_282) _ _ _ (zI.wk (l' := 0) (h' := 256) hv_282 (by decide)) (zm_up qv_282 hmk_264 (by decide)) (hP.sub [1, 2, 0, 3, 4] rfl) (hD.sub [1, 2, 0, 3, 4] (by decide) rfl) hS (lv_sub hl [0, 3, 4, 5, 6] rfl)
        · have _nhc_279 := hc_279
          have ni_283 : ¬ (x_278 : Int32).toInt = (0 : Int32).toInt := fun z => hc_279 ((fa_eq _ _).mpr z)
          simp only [li_0] at ni_283
          have hv_284 : zI x_278 1 1 := zI.ne_lo hx_278 zc_0 hc_279 (by decide)
          refine lv_iload hx hb d_Sets_indexOf_68 (lv_at hl 0 rfl) ?_
          exact z_iret hx hb hr hlocks (hP.sub [1, 2, 0, 3, 4] rfl) (hD.sub [1, 2, 0, 3, 4] (by decide) rfl) hS (Nat.le_of_ble_eq_true rfl) (Nat.le_of_ble_eq_true rfl) d_Sets_indexOf_70 ⟨v_273, b3, b6, b7, rfl, rfl, (zI.wk (l' := (-1)) (h' := 99) hv_276 (by decide)), hb3, hb6, hb7, (by omega)⟩
      · have _nhc_274 := hc_274
        have ni_285 := (fa_eq _ _).mp hc_274
        rw [li_m1] at ni_285
        have hv_286 : zI v_273 (-1) (-1) := zI.eq_l hv_273 zc_m1 hc_274
        refine lv_aload_n hx hb d_Sets_indexOf_48 rfl (lv_at hl 4 rfl) ?_
        refine lv_aload_n hx hb d_Sets_indexOf_49 rfl (lv_at hl 5 rfl) ?_
        refine lv_iload_n hx hb d_Sets_indexOf_50 rfl (lv_at hl 6 rfl) ?_
        refine lv_iload hx hb d_Sets_indexOf_51 (lv_at hl 1 rfl) ?_
        refine z_callV (index := 51) (As := [.ref b1, .int b2, .int v_272]) (rest := []) (wr := []) Z (s4_Sets_append l G (b0) (b1) (b2) (v_272) (b3) (b4) (b5) (b6) (b7) (b8) (b9) (b10) (b11) hb2 hv_272 hb3 hb8 hb6 hb7 hb11) hl.1 q839 q841 qs24 q7 q842 ⟨by decide, by decide, by show _ = some 3; decide +kernel⟩ ⟨Nat.le_of_ble_eq_true rfl, Nat.le_of_ble_eq_true rfl⟩ ⟨Nat.le_of_ble_eq_true rfl, Nat.le_of_ble_eq_true rfl⟩ rfl (Nat.le_of_ble_eq_true rfl) d_Sets_indexOf_53 hP hD hS hA 0 6 rfl rfl rfl [0, 1, 2, 3, 4] [] rfl rfl rfl rfl (by decide) (fun v w1 H locs hw_287 hP hD hS => ?_)
        obtain ⟨x_288, x_289, f_290, f_291, rfl, rfl, hx_288, hx_289, hf_290, hf_291, hfx_292⟩ := hw_287
        have hP : va_P G.1 classes [(b0, .inr (6, [.int x_289, .int 4, .int 100, .ref b4, .ref b5])), (b4, .inl (G.2 1, 400, .inr (.inl f_290))), (b5, .inl (G.2 0, 256, .inl f_291)), (b1, .inr (6, [.int b8, .int 4, .int 10, .ref b9, .ref b10])), (b9, .inl (G.2 1, 40, .inr (.inl b11)))] H := hP
        have hD := z_tie hP hD rfl
        refine W.widen (k := 0) (n := 0) (Nat.le_of_ble_eq_true rfl) (Nat.le_of_ble_eq_true rfl) ?_
        exact z_iret hx hb hr hlocks hP hD hS (Nat.le_of_ble_eq_true rfl) (Nat.le_of_ble_eq_true rfl) d_Sets_indexOf_56 ⟨x_288, x_289, f_290, f_291, rfl, rfl, hx_288, hx_289, hf_290, hf_291, (by omega)⟩
theorem d_Words_takenNext_82 : decode prog_12_method_5_code 82 = .ok (.ireturn, 1) := by decide +kernel
abbrev m_s6_Sets_longAt : Room := { frames := 0, cells := 0, slots := 0, locals := 0 }
set_option maxHeartbeats 4000000 in
set_option maxRecDepth 100000 in
theorem s6_Sets_longAt (l : Launch) (G : zG) (b0 : Nat) (b1 : Int32) (b2 : Int32) (b3 : Int32) (b4 : Int32) (b5 : Nat) (b6 : Nat) (b7 : Nat → Int64) (hb1 : zI b1 0 99) (hb2 : zI b2 0 0) (hb3 : zI b3 0 3) (hb4 : zI b4 0 100) (hb7 : zqa qB b7) : zM l G y_Sets_longAt prog_8_method_5_code 4 (Option.some Jvm.ClassFile.FieldType.long) m_s6_Sets_longAt [.ref b0, .int b1, .int b2, .int b3] [(b0, .inr (6, [.int b4, .int 4, .int 100, .ref b5, .ref b6])), (b5, .inl (G.2 1, 400, .inr (.inl b7)))] (fun v w => ∃ (e0 : Int64), v = some (.long e0) ∧ w = [(b0, .inr (6, [.int b4, .int 4, .int 100, .ref b5, .ref b6])), (b5, .inl (G.2 1, 400, .inr (.inl b7)))] ∧ ((b3 : Int32).toInt = 3 → (e0 : Int64).toBitVec.toNat < 2 ^ 49)) := by
  refine z_start (by decide +kernel) (Nat.le_of_ble_eq_true rfl) ?_
  intro p e s m below meth c A Z hr hnm hA hP hD hS ls hl
  have Z : zC p s m _ meth c prog_8_method_5_code 4 "TraceMachines$StateSets" G := Z
  obtain ⟨hx, hb, hml, hown, hts, hK, hN, hlocks⟩ := id Z
  have hl : lv_has ls 4 [(0, .ref b0), (1, .int b1), (2, .int b2), (3, .int b3)] := hl
  refine lv_aload_n hx hb d_Sets_longAt_0 rfl (lv_at hl 0 rfl) ?_
  refine va_get (D := G.1) (ci := 6) (v := .ref b5) (C := R_Sets) (T := F_Sets) (N := 5) hx hb hts i_Sets hown hK hP 0 rfl rfl 3 (by decide) (hts _ q244) (fun _ h9 => h9) rfl d_Sets_longAt_1 ?_
  refine lv_iload_n hx hb d_Sets_longAt_4 rfl (lv_at hl 1 rfl) ?_
  refine lv_aload_n hx hb d_Sets_longAt_5 rfl (lv_at hl 0 rfl) ?_
  refine va_get (D := G.1) (ci := 6) (v := .int 4) (C := R_Sets) (T := F_Sets) (N := 5) hx hb hts i_Sets hown hK hP 0 rfl rfl 1 (by decide) (hts _ q242) (fun _ h9 => h9) rfl d_Sets_longAt_6 ?_
  refine lv_imul hx hb d_Sets_longAt_9 ?_
  refine lv_topi (fun v_1 ev_1 => ?_)
  obtain ⟨qv_1, hv_1⟩ := zI_mul (l := 0) (h := 396) hb1 zc_4 ev_1 (by decide)
  rw [li_4] at qv_1
  refine lv_iload_n hx hb d_Sets_longAt_10 rfl (lv_at hl 2 rfl) ?_
  refine lv_iconst (v := 4) hx hb d_Sets_longAt_11 (by decide) ?_
  refine lv_imul hx hb d_Sets_longAt_12 ?_
  refine lv_topi (fun v_2 ev_2 => ?_)
  obtain ⟨qv_2, hv_2⟩ := zI_mul (l := 0) (h := 0) hb2 zc_4 ev_2 (by decide)
  rw [li_4] at qv_2
  refine lv_iadd hx hb d_Sets_longAt_13 ?_
  refine lv_topi (fun v_3 ev_3 => ?_)
  obtain ⟨qv_3, hv_3⟩ := zI_add (l := 0) (h := 396) hv_1 hv_2 ev_3 (by decide)
  refine lv_iload_n hx hb d_Sets_longAt_14 rfl (lv_at hl 3 rfl) ?_
  refine lv_iadd hx hb d_Sets_longAt_15 ?_
  refine lv_topi (fun v_4 ev_4 => ?_)
  obtain ⟨qv_4, hv_4⟩ := zI_add (l := 0) (h := 399) hv_3 hb3 ev_4 (by decide)
  refine va_lald hx hb hK hP 1 1 rfl rfl (zI.inn hv_4 (by decide)) d_Sets_longAt_16 ?_
  refine lv_topl (fun v_5 ev_5 => ?_)
  have bv_5 := zQB.ld hb7 hv_4 ev_5 (by decide)
  exact z_lret hx hb hr hlocks hP hD hS (Nat.le_of_ble_eq_true rfl) (Nat.le_of_ble_eq_true rfl) d_Sets_longAt_17 ⟨v_5, rfl, rfl, (fun h9 => bv_5 (by omega))⟩
abbrev m_s4_Machine_fan : Room := { frames := 2, cells := 0, slots := 0, locals := 42 }
set_option maxHeartbeats 4000000 in
set_option maxRecDepth 100000 in
theorem s4_Machine_fan (l : Launch) (G : zG) (b0 : Nat) (b1 : Nat) (b2 : Int32) (b3 : Int32) (b4 : Nat) (b5 : Int32) (b6 : Int32) (b7 : Nat) (b8 : Nat) (b9 : Nat) (b10 : Nat) (b11 : Nat) (b12 : Nat) (b13 : Int32) (b14 : Nat) (b15 : Nat) (b16 : Nat) (b17 : Nat) (b18 : Nat) (b19 : Nat) (b20 : Nat → Int32) (b21 : Nat → Int32) (b22 : Int32) (b23 : Nat) (b24 : Nat) (b25 : Nat → Int64) (b26 : Int32) (b27 : Nat) (b28 : Nat) (b29 : Nat → Int64) (hb2 : zI b2 0 99) (hb3 : zI b3 0 0) (hb5 : zI b5 0 1) (hb6 : zI b6 0 241) (hb13 : zI b13 0 240) (hb22 : zI b22 0 100) (hb26 : zI b26 0 10) (hb20 : zK b20) (hb21 : zR b21 0 240) (hb25 : zqa qB b25) (hb29 : zqa qB b29) : zM l G y_Machine_fan prog_4_method_17_code 10 (Option.none : Option Jvm.ClassFile.FieldType) m_s4_Machine_fan [.ref b0, .ref b1, .int b2, .int b3, .ref b4] [(b0, .inr (5, [.int b5, .int b6, .ref b7, .ref b8, .ref b9, .ref b10, .ref b11, .ref b12, .int b13, .ref b14, .ref b15, .ref b16, .ref b17, .ref b18, .ref b19])), (b14, .inl (G.2 0, 240, .inl b20)), (b18, .inl (G.2 0, 242, .inl b21)), (b1, .inr (6, [.int b22, .int 4, .int 100, .ref b23, .ref b24])), (b23, .inl (G.2 1, 400, .inr (.inl b25))), (b4, .inr (6, [.int b26, .int 4, .int 10, .ref b27, .ref b28])), (b27, .inl (G.2 1, 40, .inr (.inl b29)))] (fun v w => ∃ (e0 : Nat → Int64), v = none ∧ w = [(b0, .inr (5, [.int b5, .int b6, .ref b7, .ref b8, .ref b9, .ref b10, .ref b11, .ref b12, .int b13, .ref b14, .ref b15, .ref b16, .ref b17, .ref b18, .ref b19])), (b14, .inl (G.2 0, 240, .inl b20)), (b18, .inl (G.2 0, 242, .inl b21)), (b1, .inr (6, [.int b22, .int 4, .int 100, .ref b23, .ref b24])), (b23, .inl (G.2 1, 400, .inr (.inl b25))), (b4, .inr (6, [.int b26, .int 4, .int 10, .ref b27, .ref b28])), (b27, .inl (G.2 1, 40, .inr (.inl e0)))] ∧ (zqa qB e0)) := by
  refine z_start (by decide +kernel) (Nat.le_of_ble_eq_true rfl) ?_
  intro p e s m below meth c A Z hr hnm hA hP hD hS ls hl
  have Z : zC p s m _ meth c prog_4_method_17_code 10 "TraceMachines$Machine" G := Z
  obtain ⟨hx, hb, hml, hown, hts, hK, hN, hlocks⟩ := id Z
  have hl : lv_has ls 10 [(0, .ref b0), (1, .ref b1), (2, .int b2), (3, .int b3), (4, .ref b4)] := hl
  refine lv_iconst (v := 0) hx hb d_Machine_fan_0 (by decide) ?_
  refine lv_istore (lv' := [(5, .int 0), (0, .ref b0), (1, .ref b1), (2, .int b2), (3, .int b3), (4, .ref b4)]) hx hb d_Machine_fan_1 hl (by decide) rfl (fun ls hl => ?_)
  suffices key : ∀ (k_1218 : Nat) (y_1219 : Int32) (y_1220 : Nat → Int64) (H : Heap) (locs : List Loc) (ls : Array Slot), (zI y_1219 0 4) → (zqa qB y_1220) → (4 : Int) - y_1219.toInt < (k_1218 : Int) → va_P G.1 classes [(b0, .inr (5, [.int b5, .int b6, .ref b7, .ref b8, .ref b9, .ref b10, .ref b11, .ref b12, .int b13, .ref b14, .ref b15, .ref b16, .ref b17, .ref b18, .ref b19])), (b14, .inl (G.2 0, 240, .inl b20)), (b18, .inl (G.2 0, 242, .inl b21)), (b1, .inr (6, [.int b22, .int 4, .int 100, .ref b23, .ref b24])), (b23, .inl (G.2 1, 400, .inr (.inl b25))), (b4, .inr (6, [.int b26, .int 4, .int 10, .ref b27, .ref b28])), (b27, .inl (G.2 1, 40, .inr (.inl y_1220)))] H → va_D A [(b0, .inr (5, [.int b5, .int b6, .ref b7, .ref b8, .ref b9, .ref b10, .ref b11, .ref b12, .int b13, .ref b14, .ref b15, .ref b16, .ref b17, .ref b18, .ref b19])), (b14, .inl (G.2 0, 240, .inl b20)), (b18, .inl (G.2 0, 242, .inl b21)), (b1, .inr (6, [.int b22, .int 4, .int 100, .ref b23, .ref b24])), (b23, .inl (G.2 1, 400, .inr (.inl b25))), (b4, .inr (6, [.int b26, .int 4, .int 10, .ref b27, .ref b28])), (b27, .inl (G.2 1, 40, .inr (.inl y_1220)))] → va_S A s.heap H locs → lv_has ls 10 [(5, .int y_1219), (0, .ref b0), (1, .ref b1), (2, .int b2), (3, .int b3), (4, .ref b4)] → W p l e m_s4_Machine_fan s m ([.ref b0, .ref b1, .int b2, .int b3, .ref b4] : List Value).toArray below meth c H locs 0 0 (MQ below (zQ G (fun v w => ∃ (e0 : Nat → Int64), v = none ∧ w = [(b0, .inr (5, [.int b5, .int b6, .ref b7, .ref b8, .ref b9, .ref b10, .ref b11, .ref b12, .int b13, .ref b14, .ref b15, .ref b16, .ref b17, .ref b18, .ref b19])), (b14, .inl (G.2 0, 240, .inl b20)), (b18, .inl (G.2 0, 242, .inl b21)), (b1, .inr (6, [.int b22, .int 4, .int 100, .ref b23, .ref b24])), (b23, .inl (G.2 1, 400, .inr (.inl b25))), (b4, .inr (6, [.int b26, .int 4, .int 10, .ref b27, .ref b28])), (b27, .inl (G.2 1, 40, .inr (.inl e0)))] ∧ (zqa qB e0)) A) ([.ref b0, .ref b1, .int b2, .int b3, .ref b4] : List Value).toArray s m_s4_Machine_fan.cells m_s4_Machine_fan.slots A) (F0 m 3 ls []) by
    exact key 5 (0) (b29) _ _ _ (zI.wk (l' := 0) (h' := 4) zc_0 (by decide)) hb29 (zm_upi (zI.wk (l' := 0) (h' := 4) zc_0 (by decide)) (by decide)) hP hD hS (lv_sub hl [0, 1, 2, 3, 4, 5] rfl)
  intro k_1218
  induction k_1218 with
  | zero =>
    intro y_1219 y_1220 H locs ls hy_1219 hy_1220 hmk_1218 hP hD hS hl
    exact (zm_up0 hy_1219 hmk_1218).elim
  | succ k_1218 ihk_1218 =>
    intro y_1219 y_1220 H locs ls hy_1219 hy_1220 hmk_1218 hP hD hS hl
    refine lv_iload hx hb d_Machine_fan_3 (lv_at hl 0 rfl) ?_
    refine lv_iconst (v := 4) hx hb d_Machine_fan_5 (by decide) ?_
    refine lv_icmp_ge (tgt := 104) hx hb d_Machine_fan_6 (by decide) (fun hc_1221 => ?_) (fun hc_1221 => ?_)
    · have _nhc_1221 := hc_1221
      have ni_1222 := (fa_le _ _).mp hc_1221
      rw [li_4] at ni_1222
      have hv_1223 : zI y_1219 4 4 := zI.le_r zc_4 hy_1219 hc_1221 (by decide)
      exact z_vret hx hb hr hlocks hP hD hS (Nat.le_of_ble_eq_true rfl) (Nat.le_of_ble_eq_true rfl) d_Machine_fan_104 ⟨y_1220, rfl, rfl, hy_1220⟩
    · have _nhc_1221 := hc_1221
      have ni_1224 := (fa_lt _ _).mp (zi_nle hc_1221)
      rw [li_4] at ni_1224
      have hv_1225 : zI y_1219 0 3 := zI.lt_l hy_1219 zc_4 (zi_nle hc_1221) (by decide)
      refine lv_aload_n hx hb d_Machine_fan_9 rfl (lv_at hl 2 rfl) ?_
      refine lv_iload_n hx hb d_Machine_fan_10 rfl (lv_at hl 3 rfl) ?_
      refine lv_iload_n hx hb d_Machine_fan_11 rfl (lv_at hl 4 rfl) ?_
      refine lv_iload hx hb d_Machine_fan_12 (lv_at hl 0 rfl) ?_
      refine z_callV (index := 166) (As := [.int b2, .int b3, .int y_1219]) (rest := []) (wr := [(b0, .inr (5, [.int b5, .int b6, .ref b7, .ref b8, .ref b9, .ref b10, .ref b11, .ref b12, .int b13, .ref b14, .ref b15, .ref b16, .ref b17, .ref b18, .ref b19])), (b14, .inl (G.2 0, 240, .inl b20)), (b18, .inl (G.2 0, 242, .inl b21)), (b4, .inr (6, [.int b26, .int 4, .int 10, .ref b27, .ref b28])), (b27, .inl (G.2 1, 40, .inr (.inl y_1220)))]) Z (s6_Sets_longAt l G (b1) (b2) (b3) (y_1219) (b22) (b23) (b24) (b25) hb2 hb3 hv_1225 hb22 hb25) hl.1 q719 q720 q721 q7 q722 ⟨by decide, by decide, by show _ = some 3; decide +kernel⟩ ⟨Nat.le_of_ble_eq_true rfl, Nat.le_of_ble_eq_true rfl⟩ ⟨Nat.le_of_ble_eq_true rfl, Nat.le_of_ble_eq_true rfl⟩ rfl (Nat.le_of_ble_eq_true rfl) d_Machine_fan_14 hP hD hS hA 3 6 rfl rfl rfl [3, 4] [0, 1, 2, 5, 6] rfl rfl rfl rfl (by decide) (fun v w1 H locs hw_1226 hP hD hS => ?_)
      obtain ⟨x_1227, rfl, rfl, hfx_1228⟩ := hw_1226
      have hP : va_P G.1 classes [(b0, .inr (5, [.int b5, .int b6, .ref b7, .ref b8, .ref b9, .ref b10, .ref b11, .ref b12, .int b13, .ref b14, .ref b15, .ref b16, .ref b17, .ref b18, .ref b19])), (b14, .inl (G.2 0, 240, .inl b20)), (b18, .inl (G.2 0, 242, .inl b21)), (b4, .inr (6, [.int b26, .int 4, .int 10, .ref b27, .ref b28])), (b27, .inl (G.2 1, 40, .inr (.inl y_1220))), (b1, .inr (6, [.int b22, .int 4, .int 100, .ref b23, .ref b24])), (b23, .inl (G.2 1, 400, .inr (.inl b25)))] H := hP
      have hD := z_tie hP hD rfl
      refine W.widen (k := 0) (n := 0) (Nat.le_of_ble_eq_true rfl) (Nat.le_of_ble_eq_true rfl) ?_
      refine lv_lstore (lv' := [(6, .long x_1227), (5, .int y_1219), (0, .ref b0), (1, .ref b1), (2, .int b2), (3, .int b3), (4, .ref b4)]) hx hb d_Machine_fan_17 hl (by decide) rfl (fun ls hl => ?_)
      suffices key : ∀ (k_1361 : Nat) (y_1362 : Int64) (y_1363 : Nat → Int64) (H : Heap) (locs : List Loc) (ls : Array Slot), (zqa qB y_1363) → ((y_1219 : Int32).toInt = 3 → (y_1362 : Int64).toBitVec.toNat < 2 ^ 49) → (y_1362).toBitVec.toNat < k_1361 → va_P G.1 classes [(b0, .inr (5, [.int b5, .int b6, .ref b7, .ref b8, .ref b9, .ref b10, .ref b11, .ref b12, .int b13, .ref b14, .ref b15, .ref b16, .ref b17, .ref b18, .ref b19])), (b14, .inl (G.2 0, 240, .inl b20)), (b18, .inl (G.2 0, 242, .inl b21)), (b4, .inr (6, [.int b26, .int 4, .int 10, .ref b27, .ref b28])), (b27, .inl (G.2 1, 40, .inr (.inl y_1363))), (b1, .inr (6, [.int b22, .int 4, .int 100, .ref b23, .ref b24])), (b23, .inl (G.2 1, 400, .inr (.inl b25)))] H → va_D A [(b0, .inr (5, [.int b5, .int b6, .ref b7, .ref b8, .ref b9, .ref b10, .ref b11, .ref b12, .int b13, .ref b14, .ref b15, .ref b16, .ref b17, .ref b18, .ref b19])), (b14, .inl (G.2 0, 240, .inl b20)), (b18, .inl (G.2 0, 242, .inl b21)), (b4, .inr (6, [.int b26, .int 4, .int 10, .ref b27, .ref b28])), (b27, .inl (G.2 1, 40, .inr (.inl y_1363))), (b1, .inr (6, [.int b22, .int 4, .int 100, .ref b23, .ref b24])), (b23, .inl (G.2 1, 400, .inr (.inl b25)))] → va_S A s.heap H locs → lv_has ls 10 [(6, .long y_1362), (5, .int y_1219), (0, .ref b0), (1, .ref b1), (2, .int b2), (3, .int b3), (4, .ref b4)] → W p l e m_s4_Machine_fan s m ([.ref b0, .ref b1, .int b2, .int b3, .ref b4] : List Value).toArray below meth c H locs 0 0 (MQ below (zQ G (fun v w => ∃ (e0 : Nat → Int64), v = none ∧ w = [(b0, .inr (5, [.int b5, .int b6, .ref b7, .ref b8, .ref b9, .ref b10, .ref b11, .ref b12, .int b13, .ref b14, .ref b15, .ref b16, .ref b17, .ref b18, .ref b19])), (b14, .inl (G.2 0, 240, .inl b20)), (b18, .inl (G.2 0, 242, .inl b21)), (b1, .inr (6, [.int b22, .int 4, .int 100, .ref b23, .ref b24])), (b23, .inl (G.2 1, 400, .inr (.inl b25))), (b4, .inr (6, [.int b26, .int 4, .int 10, .ref b27, .ref b28])), (b27, .inl (G.2 1, 40, .inr (.inl e0)))] ∧ (zqa qB e0)) A) ([.ref b0, .ref b1, .int b2, .int b3, .ref b4] : List Value).toArray s m_s4_Machine_fan.cells m_s4_Machine_fan.slots A) (F0 m 19 ls []) by
        exact key 18446744073709551616 (x_1227) (y_1220) _ _ _ hy_1220 hfx_1228 (Nat.lt_of_lt_of_le (x_1227).toBitVec.isLt (by decide)) hP hD hS (lv_sub hl [0, 1, 2, 3, 4, 5, 6] rfl)
      intro k_1361
      induction k_1361 with
      | zero =>
        intro y_1362 y_1363 H locs ls hy_1363 hli_1364 hmk_1361 hP hD hS hl
        exfalso; omega
      | succ k_1361 ihk_1361 =>
        intro y_1362 y_1363 H locs ls hy_1363 hli_1364 hmk_1361 hP hD hS hl
        refine lv_lload hx hb d_Machine_fan_19 (lv_at hl 0 rfl) ?_
        refine lv_lconst (v := 0) hx hb d_Machine_fan_21 (by decide) ?_
        refine W.lcmp hx hb d_Machine_fan_22 ?_
        refine lv_topi (fun v_1365 ev_1365 => ?_)
        refine lv_if_eq (tgt := 98) hx hb d_Machine_fan_23 (by decide) (fun hc_1366 => ?_) (fun hc_1366 => ?_)
        · have ni_1367 := hc_1366
          rw [ev_1365] at ni_1367
          simp only [lg_cmp_lt, lg_cmp_le, lg_cmp_gt, lg_cmp_ge, lg_cmp_eq, fa_lt64, fa_le64, fa_eq64, Int32.toInt_toInt64, ll_0] at ni_1367
          have hv_1368 : zJ y_1362 0 0 := by have _a := ni_1367; have _b := (zJ_all y_1362); have _c := zcl_0; simp only [Int32.toInt_toInt64] at *; exact ⟨by omega, by omega⟩
          obtain ⟨v_1369, ev_1369⟩ : ∃ z : Int32, z = y_1219 + 1 := ⟨_, rfl⟩
          obtain ⟨qv_1369, hv_1369⟩ := zI_add (l := 1) (h := 4) hv_1225 zc_1 ev_1369 (by decide)
          rw [li_1] at qv_1369
          refine lv_iinc (v := v_1369) (lv' := [(5, .int v_1369), (6, .long y_1362), (0, .ref b0), (1, .ref b1), (2, .int b2), (3, .int b3), (4, .ref b4)]) hx hb d_Machine_fan_98 hl (k := 1) rfl (by rw [ev_1369]; rfl) (by decide) rfl (fun ls hl => ?_)
          refine lv_goto (tgt := 3) hx hb d_Machine_fan_101 (by decide) ?_
          exact ihk_1218 (v_1369) (y_1363) _ _ _ (zI.wk (l' := 0) (h' := 4) hv_1369 (by decide)) hy_1363 (zm_up qv_1369 hmk_1218 (by decide)) (hP.sub [0, 1, 2, 5, 6, 3, 4] rfl) (hD.sub [0, 1, 2, 5, 6, 3, 4] (by decide) rfl) hS (lv_sub hl [0, 2, 3, 4, 5, 6] rfl)
        · have ni_1370 := hc_1366
          rw [ev_1365] at ni_1370
          simp only [lg_cmp_lt, lg_cmp_le, lg_cmp_gt, lg_cmp_ge, lg_cmp_eq, fa_lt64, fa_le64, fa_eq64, Int32.toInt_toInt64, ll_0] at ni_1370
          refine lv_bipush (v := 64) hx hb d_Machine_fan_26 (by decide) ?_
          refine lv_iload hx hb d_Machine_fan_28 (lv_at hl 1 rfl) ?_
          refine lv_imul hx hb d_Machine_fan_30 ?_
          refine lv_topi (fun v_1371 ev_1371 => ?_)
          obtain ⟨qv_1371, hv_1371⟩ := zI_mul (l := 0) (h := 192) zc_64 hv_1225 ev_1371 (by decide)
          rw [li_64] at qv_1371
          refine lv_lload hx hb d_Machine_fan_31 (lv_at hl 0 rfl) ?_
          refine z_callS (index := 170) (As := [.long y_1362]) (rest := [.int v_1371]) (wr := [(b0, .inr (5, [.int b5, .int b6, .ref b7, .ref b8, .ref b9, .ref b10, .ref b11, .ref b12, .int b13, .ref b14, .ref b15, .ref b16, .ref b17, .ref b18, .ref b19])), (b14, .inl (G.2 0, 240, .inl b20)), (b18, .inl (G.2 0, 242, .inl b21)), (b4, .inr (6, [.int b26, .int 4, .int 10, .ref b27, .ref b28])), (b27, .inl (G.2 1, 40, .inr (.inl y_1363))), (b1, .inr (6, [.int b22, .int 4, .int 100, .ref b23, .ref b24])), (b23, .inl (G.2 1, 400, .inr (.inl b25)))]) Z (s2_Sets_lowest l G (y_1362) (by omega)) hl.1 q723 q724 q7 q725 ⟨by decide, by decide, by show _ = some 1; decide +kernel⟩ ⟨Nat.le_of_ble_eq_true rfl, Nat.le_of_ble_eq_true rfl⟩ ⟨Nat.le_of_ble_eq_true rfl, Nat.le_of_ble_eq_true rfl⟩ rfl (Nat.le_of_ble_eq_true rfl) d_Machine_fan_33 hP hD hS hA [] [0, 1, 2, 3, 4, 5, 6] rfl rfl rfl rfl (by decide) (fun v w1 H locs hw_1372 hP hD hS => ?_)
          obtain ⟨x_1373, rfl, rfl, hx_1373, hfx_1374⟩ := hw_1372
          have hP : va_P G.1 classes [(b0, .inr (5, [.int b5, .int b6, .ref b7, .ref b8, .ref b9, .ref b10, .ref b11, .ref b12, .int b13, .ref b14, .ref b15, .ref b16, .ref b17, .ref b18, .ref b19])), (b14, .inl (G.2 0, 240, .inl b20)), (b18, .inl (G.2 0, 242, .inl b21)), (b4, .inr (6, [.int b26, .int 4, .int 10, .ref b27, .ref b28])), (b27, .inl (G.2 1, 40, .inr (.inl y_1363))), (b1, .inr (6, [.int b22, .int 4, .int 100, .ref b23, .ref b24])), (b23, .inl (G.2 1, 400, .inr (.inl b25)))] H := hP
          have hD := z_tie hP hD rfl
          refine W.widen (k := 0) (n := 0) (Nat.le_of_ble_eq_true rfl) (Nat.le_of_ble_eq_true rfl) ?_
          refine lv_iadd hx hb d_Machine_fan_36 ?_
          refine lv_topi (fun v_1375 ev_1375 => ?_)
          obtain ⟨qv_1375, hv_1375⟩ := zI_add (l := 0) (h := 255) hv_1371 hx_1373 ev_1375 (by decide)
          have hv_1376 : zI v_1375 0 240 := ⟨by omega, by omega⟩
          refine lv_istore (lv' := [(8, .int v_1375), (6, .long y_1362), (5, .int y_1219), (0, .ref b0), (1, .ref b1), (2, .int b2), (3, .int b3), (4, .ref b4)]) hx hb d_Machine_fan_37 hl (by decide) rfl (fun ls hl => ?_)
          refine lv_aload_n hx hb d_Machine_fan_39 rfl (lv_at hl 3 rfl) ?_
          refine va_get (D := G.1) (ci := 5) (v := .ref b18) (C := R_Machine) (T := F_Machine) (N := 15) hx hb hts i_Machine hown hK hP 0 rfl rfl 13 (by decide) (hts _ q195) (fun _ h9 => h9) rfl d_Machine_fan_40 ?_
          refine lv_iload hx hb d_Machine_fan_43 (lv_at hl 0 rfl) ?_
          refine va_iald hx hb hK hP 2 0 rfl rfl (zI.inn hv_1376 (by decide)) d_Machine_fan_45 ?_
          refine lv_topi (fun v_1377 ev_1377 => ?_)
          have hv_1377 : zI v_1377 0 240 := (hb21 _).eq ev_1377
          refine lv_istore (lv' := [(9, .int v_1377), (8, .int v_1375), (6, .long y_1362), (5, .int y_1219), (0, .ref b0), (1, .ref b1), (2, .int b2), (3, .int b3), (4, .ref b4)]) hx hb d_Machine_fan_46 hl (by decide) rfl (fun ls hl => ?_)
          suffices key : ∀ (k_1412 : Nat) (y_1413 : Int32) (y_1414 : Nat → Int64) (H : Heap) (locs : List Loc) (ls : Array Slot), (zI y_1413 0 240) → (zqa qB y_1414) → (240 : Int) - y_1413.toInt < (k_1412 : Int) → va_P G.1 classes [(b0, .inr (5, [.int b5, .int b6, .ref b7, .ref b8, .ref b9, .ref b10, .ref b11, .ref b12, .int b13, .ref b14, .ref b15, .ref b16, .ref b17, .ref b18, .ref b19])), (b14, .inl (G.2 0, 240, .inl b20)), (b18, .inl (G.2 0, 242, .inl b21)), (b4, .inr (6, [.int b26, .int 4, .int 10, .ref b27, .ref b28])), (b27, .inl (G.2 1, 40, .inr (.inl y_1414))), (b1, .inr (6, [.int b22, .int 4, .int 100, .ref b23, .ref b24])), (b23, .inl (G.2 1, 400, .inr (.inl b25)))] H → va_D A [(b0, .inr (5, [.int b5, .int b6, .ref b7, .ref b8, .ref b9, .ref b10, .ref b11, .ref b12, .int b13, .ref b14, .ref b15, .ref b16, .ref b17, .ref b18, .ref b19])), (b14, .inl (G.2 0, 240, .inl b20)), (b18, .inl (G.2 0, 242, .inl b21)), (b4, .inr (6, [.int b26, .int 4, .int 10, .ref b27, .ref b28])), (b27, .inl (G.2 1, 40, .inr (.inl y_1414))), (b1, .inr (6, [.int b22, .int 4, .int 100, .ref b23, .ref b24])), (b23, .inl (G.2 1, 400, .inr (.inl b25)))] → va_S A s.heap H locs → lv_has ls 10 [(9, .int y_1413), (8, .int v_1375), (6, .long y_1362), (5, .int y_1219), (0, .ref b0), (1, .ref b1), (2, .int b2), (3, .int b3), (4, .ref b4)] → W p l e m_s4_Machine_fan s m ([.ref b0, .ref b1, .int b2, .int b3, .ref b4] : List Value).toArray below meth c H locs 0 0 (MQ below (zQ G (fun v w => ∃ (e0 : Nat → Int64), v = none ∧ w = [(b0, .inr (5, [.int b5, .int b6, .ref b7, .ref b8, .ref b9, .ref b10, .ref b11, .ref b12, .int b13, .ref b14, .ref b15, .ref b16, .ref b17, .ref b18, .ref b19])), (b14, .inl (G.2 0, 240, .inl b20)), (b18, .inl (G.2 0, 242, .inl b21)), (b1, .inr (6, [.int b22, .int 4, .int 100, .ref b23, .ref b24])), (b23, .inl (G.2 1, 400, .inr (.inl b25))), (b4, .inr (6, [.int b26, .int 4, .int 10, .ref b27, .ref b28])), (b27, .inl (G.2 1, 40, .inr (.inl e0)))] ∧ (zqa qB e0)) A) ([.ref b0, .ref b1, .int b2, .int b3, .ref b4] : List Value).toArray s m_s4_Machine_fan.cells m_s4_Machine_fan.slots A) (F0 m 48 ls []) by
            exact key 241 (v_1377) (y_1363) _ _ _ hv_1377 hy_1363 (zm_upi hv_1377 (by decide)) hP hD hS (lv_sub hl [0, 1, 2, 3, 4, 5, 6, 7, 8] rfl)
          intro k_1412
          induction k_1412 with
          | zero =>
            intro y_1413 y_1414 H locs ls hy_1413 hy_1414 hmk_1412 hP hD hS hl
            exact (zm_up0 hy_1413 hmk_1412).elim
          | succ k_1412 ihk_1412 =>
            intro y_1413 y_1414 H locs ls hy_1413 hy_1414 hmk_1412 hP hD hS hl
            refine lv_iload hx hb d_Machine_fan_48 (lv_at hl 0 rfl) ?_
            refine lv_aload_n hx hb d_Machine_fan_50 rfl (lv_at hl 4 rfl) ?_
            refine va_get (D := G.1) (ci := 5) (v := .ref b18) (C := R_Machine) (T := F_Machine) (N := 15) hx hb hts i_Machine hown hK hP 0 rfl rfl 13 (by decide) (hts _ q195) (fun _ h9 => h9) rfl d_Machine_fan_51 ?_
            refine lv_iload hx hb d_Machine_fan_54 (lv_at hl 1 rfl) ?_
            refine lv_iconst (v := 1) hx hb d_Machine_fan_56 (by decide) ?_
            refine lv_iadd hx hb d_Machine_fan_57 ?_
            refine lv_topi (fun v_1415 ev_1415 => ?_)
            obtain ⟨qv_1415, hv_1415⟩ := zI_add (l := 1) (h := 241) hv_1376 zc_1 ev_1415 (by decide)
            rw [li_1] at qv_1415
            refine va_iald hx hb hK hP 2 0 rfl rfl (zI.inn hv_1415 (by decide)) d_Machine_fan_58 ?_
            refine lv_topi (fun v_1416 ev_1416 => ?_)
            have hv_1416 : zI v_1416 0 240 := (hb21 _).eq ev_1416
            refine lv_icmp_ge (tgt := 86) hx hb d_Machine_fan_59 (by decide) (fun hc_1417 => ?_) (fun hc_1417 => ?_)
            · have _nhc_1417 := hc_1417
              have ni_1418 := (fa_le _ _).mp hc_1417
              refine lv_lload hx hb d_Machine_fan_86 (lv_at hl 2 rfl) ?_
              refine lv_lload hx hb d_Machine_fan_88 (lv_at hl 2 rfl) ?_
              refine lv_lconst (v := 1) hx hb d_Machine_fan_90 (by decide) ?_
              refine lv_lsub hx hb d_Machine_fan_91 ?_
              refine lv_topl (fun v_1419 ev_1419 => ?_)
              refine lv_land hx hb d_Machine_fan_92 ?_
              refine lv_topl (fun v_1420 ev_1420 => ?_)
              refine lv_lstore (lv' := [(6, .long v_1420), (9, .int y_1413), (8, .int v_1375), (5, .int y_1219), (0, .ref b0), (1, .ref b1), (2, .int b2), (3, .int b3), (4, .ref b4)]) hx hb d_Machine_fan_93 hl (by decide) rfl (fun ls hl => ?_)
              refine lv_goto (tgt := 19) hx hb d_Machine_fan_95 (by decide) ?_
              exact ihk_1361 (v_1420) (y_1414) _ _ _ hy_1414 (fun h9 => z_decB ev_1420 (hli_1364 h9)) (z_dec ev_1419 ev_1420 (by omega) hmk_1361) hP hD hS (lv_sub hl [0, 3, 4, 5, 6, 7, 8] rfl)
            · have _nhc_1417 := hc_1417
              have ni_1421 := (fa_lt _ _).mp (zi_nle hc_1417)
              have hv_1422 : zI y_1413 0 239 := zI.lt_l hy_1413 hv_1416 (zi_nle hc_1417) (by decide)
              have hv_1423 : zI v_1416 1 240 := zI.lt_r hy_1413 hv_1416 (zi_nle hc_1417) (by decide)
              refine lv_aload hx hb d_Machine_fan_62 (lv_at hl 8 rfl) ?_
              refine lv_aload_n hx hb d_Machine_fan_64 rfl (lv_at hl 4 rfl) ?_
              refine lv_iload hx hb d_Machine_fan_65 (lv_at hl 0 rfl) ?_
              refine z_callV (index := 174) (As := [.int y_1413]) (rest := [.ref b4]) (wr := [(b18, .inl (G.2 0, 242, .inl b21)), (b4, .inr (6, [.int b26, .int 4, .int 10, .ref b27, .ref b28])), (b27, .inl (G.2 1, 40, .inr (.inl y_1414))), (b1, .inr (6, [.int b22, .int 4, .int 100, .ref b23, .ref b24])), (b23, .inl (G.2 1, 400, .inr (.inl b25)))]) Z (s1_Machine_letter l G (b0) (y_1413) (b5) (b6) (b7) (b8) (b9) (b10) (b11) (b12) (b13) (b14) (b15) (b16) (b17) (b18) (b19) (b20) hv_1422 hb5 hb6 hb13 hb20) hl.1 q732 q674 q675 q6 q676 ⟨by decide, by decide, by show _ = some 1; decide +kernel⟩ ⟨Nat.le_of_ble_eq_true rfl, Nat.le_of_ble_eq_true rfl⟩ ⟨Nat.le_of_ble_eq_true rfl, Nat.le_of_ble_eq_true rfl⟩ rfl (Nat.le_of_ble_eq_true rfl) d_Machine_fan_67 hP hD hS hA 0 5 rfl rfl rfl [0, 1] [2, 3, 4, 5, 6] rfl rfl rfl rfl (by decide) (fun v w1 H locs hw_1424 hP hD hS => ?_)
              obtain ⟨x_1425, rfl, rfl, hx_1425⟩ := hw_1424
              have hP : va_P G.1 classes [(b18, .inl (G.2 0, 242, .inl b21)), (b4, .inr (6, [.int b26, .int 4, .int 10, .ref b27, .ref b28])), (b27, .inl (G.2 1, 40, .inr (.inl y_1414))), (b1, .inr (6, [.int b22, .int 4, .int 100, .ref b23, .ref b24])), (b23, .inl (G.2 1, 400, .inr (.inl b25))), (b0, .inr (5, [.int b5, .int b6, .ref b7, .ref b8, .ref b9, .ref b10, .ref b11, .ref b12, .int b13, .ref b14, .ref b15, .ref b16, .ref b17, .ref b18, .ref b19])), (b14, .inl (G.2 0, 240, .inl b20))] H := hP
              have hD := z_tie hP hD rfl
              refine W.widen (k := 0) (n := 0) (Nat.le_of_ble_eq_true rfl) (Nat.le_of_ble_eq_true rfl) ?_
              refine lv_iload_n hx hb d_Machine_fan_70 rfl (lv_at hl 7 rfl) ?_
              refine lv_aload_n hx hb d_Machine_fan_71 rfl (lv_at hl 4 rfl) ?_
              refine lv_iload hx hb d_Machine_fan_72 (lv_at hl 0 rfl) ?_
              refine z_callV (index := 176) (As := [.int y_1413]) (rest := [.int b3, .int x_1425, .ref b4]) (wr := [(b18, .inl (G.2 0, 242, .inl b21)), (b4, .inr (6, [.int b26, .int 4, .int 10, .ref b27, .ref b28])), (b27, .inl (G.2 1, 40, .inr (.inl y_1414))), (b1, .inr (6, [.int b22, .int 4, .int 100, .ref b23, .ref b24])), (b23, .inl (G.2 1, 400, .inr (.inl b25)))]) Z (s1_Machine_to l G (b0) (y_1413) (b5) (b6) (b7) (b8) (b9) (b10) (b11) (b12) (b13) (b14) (b15) (b16) (b17) (b18) (b19) (b20) hv_1422 hb5 hb6 hb13 hb20) hl.1 q733 q681 q682 q6 q683 ⟨by decide, by decide, by show _ = some 1; decide +kernel⟩ ⟨Nat.le_of_ble_eq_true rfl, Nat.le_of_ble_eq_true rfl⟩ ⟨Nat.le_of_ble_eq_true rfl, Nat.le_of_ble_eq_true rfl⟩ rfl (Nat.le_of_ble_eq_true rfl) d_Machine_fan_74 hP hD hS hA 5 5 rfl rfl rfl [5, 6] [0, 1, 2, 3, 4] rfl rfl rfl rfl (by decide) (fun v w1 H locs hw_1426 hP hD hS => ?_)
              obtain ⟨x_1427, rfl, rfl, hx_1427⟩ := hw_1426
              have hP : va_P G.1 classes [(b18, .inl (G.2 0, 242, .inl b21)), (b4, .inr (6, [.int b26, .int 4, .int 10, .ref b27, .ref b28])), (b27, .inl (G.2 1, 40, .inr (.inl y_1414))), (b1, .inr (6, [.int b22, .int 4, .int 100, .ref b23, .ref b24])), (b23, .inl (G.2 1, 400, .inr (.inl b25))), (b0, .inr (5, [.int b5, .int b6, .ref b7, .ref b8, .ref b9, .ref b10, .ref b11, .ref b12, .int b13, .ref b14, .ref b15, .ref b16, .ref b17, .ref b18, .ref b19])), (b14, .inl (G.2 0, 240, .inl b20))] H := hP
              have hD := z_tie hP hD rfl
              refine W.widen (k := 0) (n := 0) (Nat.le_of_ble_eq_true rfl) (Nat.le_of_ble_eq_true rfl) ?_
              refine z_callV (index := 139) (As := [.int x_1425, .int b3, .int x_1427]) (rest := []) (wr := [(b18, .inl (G.2 0, 242, .inl b21)), (b1, .inr (6, [.int b22, .int 4, .int 100, .ref b23, .ref b24])), (b23, .inl (G.2 1, 400, .inr (.inl b25))), (b0, .inr (5, [.int b5, .int b6, .ref b7, .ref b8, .ref b9, .ref b10, .ref b11, .ref b12, .int b13, .ref b14, .ref b15, .ref b16, .ref b17, .ref b18, .ref b19])), (b14, .inl (G.2 0, 240, .inl b20))]) Z (s5_Sets_put l G (b4) (x_1425) (b3) (x_1427) (b26) (b27) (b28) (y_1414) hx_1425 hb3 hx_1427 hb26 hy_1414) hl.1 q709 q710 q711 q7 q712 ⟨by decide, by decide, by show _ = some 3; decide +kernel⟩ ⟨Nat.le_of_ble_eq_true rfl, Nat.le_of_ble_eq_true rfl⟩ ⟨Nat.le_of_ble_eq_true rfl, Nat.le_of_ble_eq_true rfl⟩ rfl (Nat.le_of_ble_eq_true rfl) d_Machine_fan_77 hP hD hS hA 1 6 rfl rfl rfl [1, 2] [0, 3, 4, 5, 6] rfl rfl rfl rfl (by decide) (fun v w1 H locs hw_1428 hP hD hS => ?_)
              obtain ⟨f_1429, rfl, rfl, hf_1429⟩ := hw_1428
              have hP : va_P G.1 classes [(b18, .inl (G.2 0, 242, .inl b21)), (b1, .inr (6, [.int b22, .int 4, .int 100, .ref b23, .ref b24])), (b23, .inl (G.2 1, 400, .inr (.inl b25))), (b0, .inr (5, [.int b5, .int b6, .ref b7, .ref b8, .ref b9, .ref b10, .ref b11, .ref b12, .int b13, .ref b14, .ref b15, .ref b16, .ref b17, .ref b18, .ref b19])), (b14, .inl (G.2 0, 240, .inl b20)), (b4, .inr (6, [.int b26, .int 4, .int 10, .ref b27, .ref b28])), (b27, .inl (G.2 1, 40, .inr (.inl f_1429)))] H := hP
              have hD := z_tie hP hD rfl
              refine W.widen (k := 0) (n := 0) (Nat.le_of_ble_eq_true rfl) (Nat.le_of_ble_eq_true rfl) ?_
              obtain ⟨v_1430, ev_1430⟩ : ∃ z : Int32, z = y_1413 + 1 := ⟨_, rfl⟩
              obtain ⟨qv_1430, hv_1430⟩ := zI_add (l := 1) (h := 240) hv_1422 zc_1 ev_1430 (by decide)
              rw [li_1] at qv_1430
              refine lv_iinc (v := v_1430) (lv' := [(9, .int v_1430), (8, .int v_1375), (6, .long y_1362), (5, .int y_1219), (0, .ref b0), (1, .ref b1), (2, .int b2), (3, .int b3), (4, .ref b4)]) hx hb d_Machine_fan_80 hl (k := 0) rfl (by rw [ev_1430]; rfl) (by decide) rfl (fun ls hl => ?_)
              refine lv_goto (tgt := 48) hx hb d_Machine_fan_83 (by decide) ?_
              exact ihk_1412 (v_1430) (f_1429) _ _ _ (zI.wk (l' := 0) (h' := 240) hv_1430 (by decide)) hf_1429 (zm_up qv_1430 hmk_1412 (by decide)) (hP.sub [3, 4, 0, 5, 6, 1, 2] rfl) (hD.sub [3, 4, 0, 5, 6, 1, 2] (by decide) rfl) hS (lv_sub hl [0, 1, 2, 3, 4, 5, 6, 7, 8] rfl)
abbrev m_s7_Sets_longAt : Room := { frames := 0, cells := 0, slots := 0, locals := 0 }
set_option maxHeartbeats 4000000 in
set_option maxRecDepth 100000 in
theorem s7_Sets_longAt (l : Launch) (G : zG) (b0 : Nat) (b1 : Int32) (b2 : Int32) (b3 : Int32) (b4 : Int32) (b5 : Nat) (b6 : Nat) (b7 : Nat → Int64) (hb1 : zI b1 0 9) (hb2 : zI b2 0 0) (hb3 : zI b3 0 3) (hb4 : zI b4 0 10) (hb7 : zqa qB b7) : zM l G y_Sets_longAt prog_8_method_5_code 4 (Option.some Jvm.ClassFile.FieldType.long) m_s7_Sets_longAt [.ref b0, .int b1, .int b2, .int b3] [(b0, .inr (6, [.int b4, .int 4, .int 10, .ref b5, .ref b6])), (b5, .inl (G.2 1, 40, .inr (.inl b7)))] (fun v w => ∃ (e0 : Int64), v = some (.long e0) ∧ w = [(b0, .inr (6, [.int b4, .int 4, .int 10, .ref b5, .ref b6])), (b5, .inl (G.2 1, 40, .inr (.inl b7)))] ∧ ((b3 : Int32).toInt = 3 → (e0 : Int64).toBitVec.toNat < 2 ^ 49)) := by
  refine z_start (by decide +kernel) (Nat.le_of_ble_eq_true rfl) ?_
  intro p e s m below meth c A Z hr hnm hA hP hD hS ls hl
  have Z : zC p s m _ meth c prog_8_method_5_code 4 "TraceMachines$StateSets" G := Z
  obtain ⟨hx, hb, hml, hown, hts, hK, hN, hlocks⟩ := id Z
  have hl : lv_has ls 4 [(0, .ref b0), (1, .int b1), (2, .int b2), (3, .int b3)] := hl
  refine lv_aload_n hx hb d_Sets_longAt_0 rfl (lv_at hl 0 rfl) ?_
  refine va_get (D := G.1) (ci := 6) (v := .ref b5) (C := R_Sets) (T := F_Sets) (N := 5) hx hb hts i_Sets hown hK hP 0 rfl rfl 3 (by decide) (hts _ q244) (fun _ h9 => h9) rfl d_Sets_longAt_1 ?_
  refine lv_iload_n hx hb d_Sets_longAt_4 rfl (lv_at hl 1 rfl) ?_
  refine lv_aload_n hx hb d_Sets_longAt_5 rfl (lv_at hl 0 rfl) ?_
  refine va_get (D := G.1) (ci := 6) (v := .int 4) (C := R_Sets) (T := F_Sets) (N := 5) hx hb hts i_Sets hown hK hP 0 rfl rfl 1 (by decide) (hts _ q242) (fun _ h9 => h9) rfl d_Sets_longAt_6 ?_
  refine lv_imul hx hb d_Sets_longAt_9 ?_
  refine lv_topi (fun v_1 ev_1 => ?_)
  obtain ⟨qv_1, hv_1⟩ := zI_mul (l := 0) (h := 36) hb1 zc_4 ev_1 (by decide)
  rw [li_4] at qv_1
  refine lv_iload_n hx hb d_Sets_longAt_10 rfl (lv_at hl 2 rfl) ?_
  refine lv_iconst (v := 4) hx hb d_Sets_longAt_11 (by decide) ?_
  refine lv_imul hx hb d_Sets_longAt_12 ?_
  refine lv_topi (fun v_2 ev_2 => ?_)
  obtain ⟨qv_2, hv_2⟩ := zI_mul (l := 0) (h := 0) hb2 zc_4 ev_2 (by decide)
  rw [li_4] at qv_2
  refine lv_iadd hx hb d_Sets_longAt_13 ?_
  refine lv_topi (fun v_3 ev_3 => ?_)
  obtain ⟨qv_3, hv_3⟩ := zI_add (l := 0) (h := 36) hv_1 hv_2 ev_3 (by decide)
  refine lv_iload_n hx hb d_Sets_longAt_14 rfl (lv_at hl 3 rfl) ?_
  refine lv_iadd hx hb d_Sets_longAt_15 ?_
  refine lv_topi (fun v_4 ev_4 => ?_)
  obtain ⟨qv_4, hv_4⟩ := zI_add (l := 0) (h := 39) hv_3 hb3 ev_4 (by decide)
  refine va_lald hx hb hK hP 1 1 rfl rfl (zI.inn hv_4 (by decide)) d_Sets_longAt_16 ?_
  refine lv_topl (fun v_5 ev_5 => ?_)
  have bv_5 := zQB.ld hb7 hv_4 ev_5 (by decide)
  exact z_lret hx hb hr hlocks hP hD hS (Nat.le_of_ble_eq_true rfl) (Nat.le_of_ble_eq_true rfl) d_Sets_longAt_17 ⟨v_5, rfl, rfl, (fun h9 => bv_5 (by omega))⟩
abbrev m_s6_Machine_takes : Room := { frames := 1, cells := 0, slots := 0, locals := 23 }
set_option maxHeartbeats 4000000 in
set_option maxRecDepth 100000 in
theorem s6_Machine_takes (l : Launch) (G : zG) (b0 : Nat) (b1 : Nat) (b2 : Int32) (b3 : Int32) (b4 : Int32) (b5 : Int32) (b6 : Nat) (b7 : Nat) (b8 : Nat) (b9 : Nat) (b10 : Nat) (b11 : Nat) (b12 : Int32) (b13 : Nat) (b14 : Nat) (b15 : Nat) (b16 : Nat) (b17 : Nat) (b18 : Nat) (b19 : Nat → Int64) (b20 : Int32) (b21 : Nat) (b22 : Nat) (b23 : Nat → Int64) (hb2 : zI b2 0 9) (hb3 : zI b3 0 0) (hb4 : zI b4 0 1) (hb5 : zI b5 0 241) (hb12 : zI b12 0 240) (hb20 : zI b20 0 10) (hb23 : zqa qB b23) : zM l G y_Machine_takes prog_4_method_18_code 5 (Option.some Jvm.ClassFile.FieldType.boolean) m_s6_Machine_takes [.ref b0, .ref b1, .int b2, .int b3] [(b0, .inr (5, [.int b4, .int b5, .ref b6, .ref b7, .ref b8, .ref b9, .ref b10, .ref b11, .int b12, .ref b13, .ref b14, .ref b15, .ref b16, .ref b17, .ref b18])), (b11, .inl (G.2 1, 4, .inr (.inl b19))), (b1, .inr (6, [.int b20, .int 4, .int 10, .ref b21, .ref b22])), (b21, .inl (G.2 1, 40, .inr (.inl b23)))] (fun v w => ∃ (e0 : Int32), v = some (.int e0) ∧ w = [(b0, .inr (5, [.int b4, .int b5, .ref b6, .ref b7, .ref b8, .ref b9, .ref b10, .ref b11, .int b12, .ref b13, .ref b14, .ref b15, .ref b16, .ref b17, .ref b18])), (b11, .inl (G.2 1, 4, .inr (.inl b19))), (b1, .inr (6, [.int b20, .int 4, .int 10, .ref b21, .ref b22])), (b21, .inl (G.2 1, 40, .inr (.inl b23)))] ∧ (zI e0 0 1)) := by
  refine z_start (by decide +kernel) (Nat.le_of_ble_eq_true rfl) ?_
  intro p e s m below meth c A Z hr hnm hA hP hD hS ls hl
  have Z : zC p s m _ meth c prog_4_method_18_code 5 "TraceMachines$Machine" G := Z
  obtain ⟨hx, hb, hml, hown, hts, hK, hN, hlocks⟩ := id Z
  have hl : lv_has ls 5 [(0, .ref b0), (1, .ref b1), (2, .int b2), (3, .int b3)] := hl
  refine lv_iconst (v := 0) hx hb d_Machine_takes_0 (by decide) ?_
  refine lv_istore (lv' := [(4, .int 0), (0, .ref b0), (1, .ref b1), (2, .int b2), (3, .int b3)]) hx hb d_Machine_takes_1 hl (by decide) rfl (fun ls hl => ?_)
  suffices key : ∀ (k_81 : Nat) (y_82 : Int32) (H : Heap) (locs : List Loc) (ls : Array Slot), (zI y_82 0 4) → (4 : Int) - y_82.toInt < (k_81 : Int) → va_P G.1 classes [(b0, .inr (5, [.int b4, .int b5, .ref b6, .ref b7, .ref b8, .ref b9, .ref b10, .ref b11, .int b12, .ref b13, .ref b14, .ref b15, .ref b16, .ref b17, .ref b18])), (b11, .inl (G.2 1, 4, .inr (.inl b19))), (b1, .inr (6, [.int b20, .int 4, .int 10, .ref b21, .ref b22])), (b21, .inl (G.2 1, 40, .inr (.inl b23)))] H → va_D A [(b0, .inr (5, [.int b4, .int b5, .ref b6, .ref b7, .ref b8, .ref b9, .ref b10, .ref b11, .int b12, .ref b13, .ref b14, .ref b15, .ref b16, .ref b17, .ref b18])), (b11, .inl (G.2 1, 4, .inr (.inl b19))), (b1, .inr (6, [.int b20, .int 4, .int 10, .ref b21, .ref b22])), (b21, .inl (G.2 1, 40, .inr (.inl b23)))] → va_S A s.heap H locs → lv_has ls 5 [(4, .int y_82), (0, .ref b0), (1, .ref b1), (2, .int b2), (3, .int b3)] → W p l e m_s6_Machine_takes s m ([.ref b0, .ref b1, .int b2, .int b3] : List Value).toArray below meth c H locs 0 0 (MQ below (zQ G (fun v w => ∃ (e0 : Int32), v = some (.int e0) ∧ w = [(b0, .inr (5, [.int b4, .int b5, .ref b6, .ref b7, .ref b8, .ref b9, .ref b10, .ref b11, .int b12, .ref b13, .ref b14, .ref b15, .ref b16, .ref b17, .ref b18])), (b11, .inl (G.2 1, 4, .inr (.inl b19))), (b1, .inr (6, [.int b20, .int 4, .int 10, .ref b21, .ref b22])), (b21, .inl (G.2 1, 40, .inr (.inl b23)))] ∧ (zI e0 0 1)) A) ([.ref b0, .ref b1, .int b2, .int b3] : List Value).toArray s m_s6_Machine_takes.cells m_s6_Machine_takes.slots A) (F0 m 3 ls []) by
    exact key 5 (0) _ _ _ (zI.wk (l' := 0) (h' := 4) zc_0 (by decide)) (zm_upi (zI.wk (l' := 0) (h' := 4) zc_0 (by decide)) (by decide)) hP hD hS (lv_sub hl [0, 1, 2, 3, 4] rfl)
  intro k_81
  induction k_81 with
  | zero =>
    intro y_82 H locs ls hy_82 hmk_81 hP hD hS hl
    exact (zm_up0 hy_82 hmk_81).elim
  | succ k_81 ihk_81 =>
    intro y_82 H locs ls hy_82 hmk_81 hP hD hS hl
    refine lv_iload hx hb d_Machine_takes_3 (lv_at hl 0 rfl) ?_
    refine lv_iconst (v := 4) hx hb d_Machine_takes_5 (by decide) ?_
    refine lv_icmp_ge (tgt := 38) hx hb d_Machine_takes_6 (by decide) (fun hc_83 => ?_) (fun hc_83 => ?_)
    · have _nhc_83 := hc_83
      have ni_84 := (fa_le _ _).mp hc_83
      rw [li_4] at ni_84
      have hv_85 : zI y_82 4 4 := zI.le_r zc_4 hy_82 hc_83 (by decide)
      refine lv_iconst (v := 0) hx hb d_Machine_takes_38 (by decide) ?_
      exact z_zret hx hb hr hlocks rfl hP hD hS (Nat.le_of_ble_eq_true rfl) (Nat.le_of_ble_eq_true rfl) d_Machine_takes_39 ⟨0, rfl, rfl, (zI.wk (l' := 0) (h' := 1) zc_0 (by decide))⟩
    · have _nhc_83 := hc_83
      have ni_86 := (fa_lt _ _).mp (zi_nle hc_83)
      rw [li_4] at ni_86
      have hv_87 : zI y_82 0 3 := zI.lt_l hy_82 zc_4 (zi_nle hc_83) (by decide)
      refine lv_aload_n hx hb d_Machine_takes_9 rfl (lv_at hl 2 rfl) ?_
      refine lv_iload_n hx hb d_Machine_takes_10 rfl (lv_at hl 3 rfl) ?_
      refine lv_iload_n hx hb d_Machine_takes_11 rfl (lv_at hl 4 rfl) ?_
      refine lv_iload hx hb d_Machine_takes_12 (lv_at hl 0 rfl) ?_
      refine z_callV (index := 166) (As := [.int b2, .int b3, .int y_82]) (rest := []) (wr := [(b0, .inr (5, [.int b4, .int b5, .ref b6, .ref b7, .ref b8, .ref b9, .ref b10, .ref b11, .int b12, .ref b13, .ref b14, .ref b15, .ref b16, .ref b17, .ref b18])), (b11, .inl (G.2 1, 4, .inr (.inl b19)))]) Z (s7_Sets_longAt l G (b1) (b2) (b3) (y_82) (b20) (b21) (b22) (b23) hb2 hb3 hv_87 hb20 hb23) hl.1 q719 q720 q721 q7 q722 ⟨by decide, by decide, by show _ = some 3; decide +kernel⟩ ⟨Nat.le_of_ble_eq_true rfl, Nat.le_of_ble_eq_true rfl⟩ ⟨Nat.le_of_ble_eq_true rfl, Nat.le_of_ble_eq_true rfl⟩ rfl (Nat.le_of_ble_eq_true rfl) d_Machine_takes_14 hP hD hS hA 2 6 rfl rfl rfl [2, 3] [0, 1] rfl rfl rfl rfl (by decide) (fun v w1 H locs hw_88 hP hD hS => ?_)
      obtain ⟨x_89, rfl, rfl, hfx_90⟩ := hw_88
      have hP : va_P G.1 classes [(b0, .inr (5, [.int b4, .int b5, .ref b6, .ref b7, .ref b8, .ref b9, .ref b10, .ref b11, .int b12, .ref b13, .ref b14, .ref b15, .ref b16, .ref b17, .ref b18])), (b11, .inl (G.2 1, 4, .inr (.inl b19))), (b1, .inr (6, [.int b20, .int 4, .int 10, .ref b21, .ref b22])), (b21, .inl (G.2 1, 40, .inr (.inl b23)))] H := hP
      have hD := z_tie hP hD rfl
      refine W.widen (k := 0) (n := 0) (Nat.le_of_ble_eq_true rfl) (Nat.le_of_ble_eq_true rfl) ?_
      refine lv_aload_n hx hb d_Machine_takes_17 rfl (lv_at hl 1 rfl) ?_
      refine va_get (D := G.1) (ci := 5) (v := .ref b11) (C := R_Machine) (T := F_Machine) (N := 15) hx hb hts i_Machine hown hK hP 0 rfl rfl 7 (by decide) (hts _ q181) (fun _ h9 => h9) rfl d_Machine_takes_18 ?_
      refine lv_iload hx hb d_Machine_takes_21 (lv_at hl 0 rfl) ?_
      refine va_lald hx hb hK hP 1 1 rfl rfl (zI.inn hv_87 (by decide)) d_Machine_takes_23 ?_
      refine lv_topl (fun v_91 ev_91 => ?_)
      refine lv_land hx hb d_Machine_takes_24 ?_
      refine lv_topl (fun v_92 ev_92 => ?_)
      refine lv_lconst (v := 0) hx hb d_Machine_takes_25 (by decide) ?_
      refine W.lcmp hx hb d_Machine_takes_26 ?_
      refine lv_topi (fun v_93 ev_93 => ?_)
      refine lv_if_eq (tgt := 32) hx hb d_Machine_takes_27 (by decide) (fun hc_94 => ?_) (fun hc_94 => ?_)
      · have ni_95 := hc_94
        rw [ev_93] at ni_95
        simp only [lg_cmp_lt, lg_cmp_le, lg_cmp_gt, lg_cmp_ge, lg_cmp_eq, fa_lt64, fa_le64, fa_eq64, Int32.toInt_toInt64, ll_0] at ni_95
        have hv_96 : zJ v_92 0 0 := by have _a := ni_95; have _b := (zJ_all v_92); have _c := zcl_0; simp only [Int32.toInt_toInt64] at *; exact ⟨by omega, by omega⟩
        obtain ⟨v_97, ev_97⟩ : ∃ z : Int32, z = y_82 + 1 := ⟨_, rfl⟩
        obtain ⟨qv_97, hv_97⟩ := zI_add (l := 1) (h := 4) hv_87 zc_1 ev_97 (by decide)
        rw [li_1] at qv_97
        refine lv_iinc (v := v_97) (lv' := [(4, .int v_97), (0, .ref b0), (1, .ref b1), (2, .int b2), (3, .int b3)]) hx hb d_Machine_takes_32 hl (k := 0) rfl (by rw [ev_97]; rfl) (by decide) rfl (fun ls hl => ?_)
        refine lv_goto (tgt := 3) hx hb d_Machine_takes_35 (by decide) ?_
        exact ihk_81 (v_97) _ _ _ (zI.wk (l' := 0) (h' := 4) hv_97 (by decide)) (zm_up qv_97 hmk_81 (by decide)) hP hD hS (lv_sub hl [0, 1, 2, 3, 4] rfl)
      · have ni_98 := hc_94
        rw [ev_93] at ni_98
        simp only [lg_cmp_lt, lg_cmp_le, lg_cmp_gt, lg_cmp_ge, lg_cmp_eq, fa_lt64, fa_le64, fa_eq64, Int32.toInt_toInt64, ll_0] at ni_98
        refine lv_iconst (v := 1) hx hb d_Machine_takes_30 (by decide) ?_
        exact z_zret hx hb hr hlocks rfl hP hD hS (Nat.le_of_ble_eq_true rfl) (Nat.le_of_ble_eq_true rfl) d_Machine_takes_31 ⟨1, rfl, rfl, (zI.wk (l' := 0) (h' := 1) zc_1 (by decide))⟩
abbrev m_s2_Words_takenNext : Room := { frames := 3, cells := 0, slots := 0, locals := 71 }
set_option maxHeartbeats 4000000 in
set_option maxRecDepth 100000 in
theorem s2_Words_takenNext (l : Launch) (G : zG) (b0 : Nat) (b1 : Nat) (b2 : Nat) (b3 : Nat) (b4 : Nat) (b5 : Nat) (b6 : Nat) (b7 : Nat) (b8 : Nat) (b9 : Nat) (b10 : Int32) (b11 : Nat) (b12 : Nat) (b13 : Nat → Int64) (b14 : Int32) (b15 : Nat) (b16 : Nat) (b17 : Nat → Int64) (b18 : Nat → Int32) (b19 : Int32) (b20 : Int32) (b21 : Nat) (b22 : Nat) (b23 : Nat) (b24 : Nat) (b25 : Nat) (b26 : Nat) (b27 : Int32) (b28 : Nat) (b29 : Nat) (b30 : Nat) (b31 : Nat) (b32 : Nat) (b33 : Nat) (b34 : Nat → Int64) (b35 : Nat → Int32) (b36 : Nat → Int32) (hb10 : zI b10 0 10) (hb14 : zI b14 0 100) (hb19 : zI b19 0 1) (hb20 : zI b20 0 241) (hb27 : zI b27 0 240) (hb13 : zqa qB b13) (hb17 : zqa qB b17) (hb35 : zK b35) (hb36 : zR b36 0 240) : zM l G y_Words_takenNext prog_12_method_5_code 5 (Option.some Jvm.ClassFile.FieldType.int) m_s2_Words_takenNext [.ref b0, .ref b1] [(b0, .inr (7, [.ref b2, .ref b3, .ref b4, .ref b5, .ref b6, .ref b7, .ref b8, .ref b9])), (b3, .inr (6, [.int b10, .int 4, .int 10, .ref b11, .ref b12])), (b11, .inl (G.2 1, 40, .inr (.inl b13))), (b4, .inr (6, [.int b14, .int 4, .int 100, .ref b15, .ref b16])), (b15, .inl (G.2 1, 400, .inr (.inl b17))), (b6, .inl (G.2 0, 100, .inl b18)), (b1, .inr (5, [.int b19, .int b20, .ref b21, .ref b22, .ref b23, .ref b24, .ref b25, .ref b26, .int b27, .ref b28, .ref b29, .ref b30, .ref b31, .ref b32, .ref b33])), (b26, .inl (G.2 1, 4, .inr (.inl b34))), (b28, .inl (G.2 0, 240, .inl b35)), (b32, .inl (G.2 0, 242, .inl b36))] (fun v w => ∃ (e0 : Int32), ∃ (e1 : Nat → Int64), v = some (.int e0) ∧ w = [(b0, .inr (7, [.ref b2, .ref b3, .ref b4, .ref b5, .ref b6, .ref b7, .ref b8, .ref b9])), (b3, .inr (6, [.int b10, .int 4, .int 10, .ref b11, .ref b12])), (b11, .inl (G.2 1, 40, .inr (.inl e1))), (b4, .inr (6, [.int b14, .int 4, .int 100, .ref b15, .ref b16])), (b15, .inl (G.2 1, 400, .inr (.inl b17))), (b6, .inl (G.2 0, 100, .inl b18)), (b1, .inr (5, [.int b19, .int b20, .ref b21, .ref b22, .ref b23, .ref b24, .ref b25, .ref b26, .int b27, .ref b28, .ref b29, .ref b30, .ref b31, .ref b32, .ref b33])), (b26, .inl (G.2 1, 4, .inr (.inl b34))), (b28, .inl (G.2 0, 240, .inl b35)), (b32, .inl (G.2 0, 242, .inl b36))] ∧ (zqa qB e1)) := by
  refine z_start (by decide +kernel) (Nat.le_of_ble_eq_true rfl) ?_
  intro p e s m below meth c A Z hr hnm hA hP hD hS ls hl
  have Z : zC p s m _ meth c prog_12_method_5_code 5 "TraceMachines$Words" G := Z
  obtain ⟨hx, hb, hml, hown, hts, hK, hN, hlocks⟩ := id Z
  have hl : lv_has ls 5 [(0, .ref b0), (1, .ref b1)] := hl
  refine lv_iconst (v := 0) hx hb d_Words_takenNext_0 (by decide) ?_
  refine lv_istore_n (lv' := [(2, .int 0), (0, .ref b0), (1, .ref b1)]) hx hb d_Words_takenNext_1 rfl hl (by decide) rfl (fun ls hl => ?_)
  refine lv_iconst (v := 0) hx hb d_Words_takenNext_2 (by decide) ?_
  refine lv_istore_n (lv' := [(3, .int 0), (2, .int 0), (0, .ref b0), (1, .ref b1)]) hx hb d_Words_takenNext_3 rfl hl (by decide) rfl (fun ls hl => ?_)
  suffices key : ∀ (k_814 : Nat) (y_815 : Int32) (y_816 : Int32) (y_817 : Nat → Int64) (H : Heap) (locs : List Loc) (ls : Array Slot), (zI y_815 0 100) → (zqa qB y_817) → (100 : Int) - y_815.toInt < (k_814 : Int) → va_P G.1 classes [(b0, .inr (7, [.ref b2, .ref b3, .ref b4, .ref b5, .ref b6, .ref b7, .ref b8, .ref b9])), (b3, .inr (6, [.int b10, .int 4, .int 10, .ref b11, .ref b12])), (b11, .inl (G.2 1, 40, .inr (.inl y_817))), (b4, .inr (6, [.int b14, .int 4, .int 100, .ref b15, .ref b16])), (b15, .inl (G.2 1, 400, .inr (.inl b17))), (b6, .inl (G.2 0, 100, .inl b18)), (b1, .inr (5, [.int b19, .int b20, .ref b21, .ref b22, .ref b23, .ref b24, .ref b25, .ref b26, .int b27, .ref b28, .ref b29, .ref b30, .ref b31, .ref b32, .ref b33])), (b26, .inl (G.2 1, 4, .inr (.inl b34))), (b28, .inl (G.2 0, 240, .inl b35)), (b32, .inl (G.2 0, 242, .inl b36))] H → va_D A [(b0, .inr (7, [.ref b2, .ref b3, .ref b4, .ref b5, .ref b6, .ref b7, .ref b8, .ref b9])), (b3, .inr (6, [.int b10, .int 4, .int 10, .ref b11, .ref b12])), (b11, .inl (G.2 1, 40, .inr (.inl y_817))), (b4, .inr (6, [.int b14, .int 4, .int 100, .ref b15, .ref b16])), (b15, .inl (G.2 1, 400, .inr (.inl b17))), (b6, .inl (G.2 0, 100, .inl b18)), (b1, .inr (5, [.int b19, .int b20, .ref b21, .ref b22, .ref b23, .ref b24, .ref b25, .ref b26, .int b27, .ref b28, .ref b29, .ref b30, .ref b31, .ref b32, .ref b33])), (b26, .inl (G.2 1, 4, .inr (.inl b34))), (b28, .inl (G.2 0, 240, .inl b35)), (b32, .inl (G.2 0, 242, .inl b36))] → va_S A s.heap H locs → lv_has ls 5 [(3, .int y_815), (2, .int y_816), (0, .ref b0), (1, .ref b1)] → W p l e m_s2_Words_takenNext s m ([.ref b0, .ref b1] : List Value).toArray below meth c H locs 0 0 (MQ below (zQ G (fun v w => ∃ (e0 : Int32), ∃ (e1 : Nat → Int64), v = some (.int e0) ∧ w = [(b0, .inr (7, [.ref b2, .ref b3, .ref b4, .ref b5, .ref b6, .ref b7, .ref b8, .ref b9])), (b3, .inr (6, [.int b10, .int 4, .int 10, .ref b11, .ref b12])), (b11, .inl (G.2 1, 40, .inr (.inl e1))), (b4, .inr (6, [.int b14, .int 4, .int 100, .ref b15, .ref b16])), (b15, .inl (G.2 1, 400, .inr (.inl b17))), (b6, .inl (G.2 0, 100, .inl b18)), (b1, .inr (5, [.int b19, .int b20, .ref b21, .ref b22, .ref b23, .ref b24, .ref b25, .ref b26, .int b27, .ref b28, .ref b29, .ref b30, .ref b31, .ref b32, .ref b33])), (b26, .inl (G.2 1, 4, .inr (.inl b34))), (b28, .inl (G.2 0, 240, .inl b35)), (b32, .inl (G.2 0, 242, .inl b36))] ∧ (zqa qB e1)) A) ([.ref b0, .ref b1] : List Value).toArray s m_s2_Words_takenNext.cells m_s2_Words_takenNext.slots A) (F0 m 4 ls []) by
    exact key 101 (0) (0) (b13) _ _ _ (zI.wk (l' := 0) (h' := 100) zc_0 (by decide)) hb13 (zm_upi (zI.wk (l' := 0) (h' := 100) zc_0 (by decide)) (by decide)) hP hD hS (lv_sub hl [0, 1, 2, 3] rfl)
  intro k_814
  induction k_814 with
  | zero =>
    intro y_815 y_816 y_817 H locs ls hy_815 hy_817 hmk_814 hP hD hS hl
    exact (zm_up0 hy_815 hmk_814).elim
  | succ k_814 ihk_814 =>
    intro y_815 y_816 y_817 H locs ls hy_815 hy_817 hmk_814 hP hD hS hl
    refine lv_iload_n hx hb d_Words_takenNext_4 rfl (lv_at hl 0 rfl) ?_
    refine lv_aload_n hx hb d_Words_takenNext_5 rfl (lv_at hl 2 rfl) ?_
    refine va_get (D := G.1) (ci := 7) (v := .ref b4) (C := R_Words) (T := F_Words) (N := 8) hx hb hts i_Words hown hK hP 0 rfl rfl 2 (by decide) (hts _ q268) (fun _ h9 => h9) rfl d_Words_takenNext_6 ?_
    refine va_get (D := G.1) (ci := 6) (v := .int b14) (C := R_Sets) (T := F_Sets) (N := 5) hx hb hts i_Sets hown hK hP 3 rfl rfl 0 (by decide) (hts _ q240) (fun _ h9 => h9) rfl d_Words_takenNext_9 ?_
    refine lv_icmp_ge (tgt := 81) hx hb d_Words_takenNext_12 (by decide) (fun hc_818 => ?_) (fun hc_818 => ?_)
    · have _nhc_818 := hc_818
      have ni_819 := (fa_le _ _).mp hc_818
      refine lv_iload_n hx hb d_Words_takenNext_81 rfl (lv_at hl 1 rfl) ?_
      exact z_iret hx hb hr hlocks hP hD hS (Nat.le_of_ble_eq_true rfl) (Nat.le_of_ble_eq_true rfl) d_Words_takenNext_82 ⟨y_816, y_817, rfl, rfl, hy_817⟩
    · have _nhc_818 := hc_818
      have ni_820 := (fa_lt _ _).mp (zi_nle hc_818)
      have hv_821 : zI y_815 0 99 := zI.lt_l hy_815 hb14 (zi_nle hc_818) (by decide)
      have hv_822 : zI b14 1 100 := zI.lt_r hy_815 hb14 (zi_nle hc_818) (by decide)
      refine lv_aload_n hx hb d_Words_takenNext_15 rfl (lv_at hl 2 rfl) ?_
      refine va_get (D := G.1) (ci := 7) (v := .ref b3) (C := R_Words) (T := F_Words) (N := 8) hx hb hts i_Words hown hK hP 0 rfl rfl 1 (by decide) (hts _ q267) (fun _ h9 => h9) rfl d_Words_takenNext_16 ?_
      refine z_callV (index := 48) (As := []) (rest := []) (wr := [(b0, .inr (7, [.ref b2, .ref b3, .ref b4, .ref b5, .ref b6, .ref b7, .ref b8, .ref b9])), (b4, .inr (6, [.int b14, .int 4, .int 100, .ref b15, .ref b16])), (b15, .inl (G.2 1, 400, .inr (.inl b17))), (b6, .inl (G.2 0, 100, .inl b18)), (b1, .inr (5, [.int b19, .int b20, .ref b21, .ref b22, .ref b23, .ref b24, .ref b25, .ref b26, .int b27, .ref b28, .ref b29, .ref b30, .ref b31, .ref b32, .ref b33])), (b26, .inl (G.2 1, 4, .inr (.inl b34))), (b28, .inl (G.2 0, 240, .inl b35)), (b32, .inl (G.2 0, 242, .inl b36))]) Z (s5_Sets_clear l G (b3) (b10) (b11) (b12) (y_817) hb10 hy_817) hl.1 q823 q705 q706 q7 q707 ⟨by decide, by decide, by show _ = some 0; decide +kernel⟩ ⟨Nat.le_of_ble_eq_true rfl, Nat.le_of_ble_eq_true rfl⟩ ⟨Nat.le_of_ble_eq_true rfl, Nat.le_of_ble_eq_true rfl⟩ rfl (Nat.le_of_ble_eq_true rfl) d_Words_takenNext_19 hP hD hS hA 1 6 rfl rfl rfl [1, 2] [0, 3, 4, 5, 6, 7, 8, 9] rfl rfl rfl rfl (by decide) (fun v w1 H locs hw_823 hP hD hS => ?_)
      obtain ⟨f_824, rfl, rfl, hf_824⟩ := hw_823
      have hP : va_P G.1 classes [(b0, .inr (7, [.ref b2, .ref b3, .ref b4, .ref b5, .ref b6, .ref b7, .ref b8, .ref b9])), (b4, .inr (6, [.int b14, .int 4, .int 100, .ref b15, .ref b16])), (b15, .inl (G.2 1, 400, .inr (.inl b17))), (b6, .inl (G.2 0, 100, .inl b18)), (b1, .inr (5, [.int b19, .int b20, .ref b21, .ref b22, .ref b23, .ref b24, .ref b25, .ref b26, .int b27, .ref b28, .ref b29, .ref b30, .ref b31, .ref b32, .ref b33])), (b26, .inl (G.2 1, 4, .inr (.inl b34))), (b28, .inl (G.2 0, 240, .inl b35)), (b32, .inl (G.2 0, 242, .inl b36)), (b3, .inr (6, [.int b10, .int 4, .int 10, .ref b11, .ref b12])), (b11, .inl (G.2 1, 40, .inr (.inl f_824)))] H := hP
      have hD := z_tie hP hD rfl
      refine W.widen (k := 0) (n := 0) (Nat.le_of_ble_eq_true rfl) (Nat.le_of_ble_eq_true rfl) ?_
      refine lv_aload_n hx hb d_Words_takenNext_22 rfl (lv_at hl 3 rfl) ?_
      refine lv_aload_n hx hb d_Words_takenNext_23 rfl (lv_at hl 2 rfl) ?_
      refine va_get (D := G.1) (ci := 7) (v := .ref b4) (C := R_Words) (T := F_Words) (N := 8) hx hb hts i_Words hown hK hP 0 rfl rfl 2 (by decide) (hts _ q268) (fun _ h9 => h9) rfl d_Words_takenNext_24 ?_
      refine lv_iload_n hx hb d_Words_takenNext_27 rfl (lv_at hl 0 rfl) ?_
      refine lv_iconst (v := 0) hx hb d_Words_takenNext_28 (by decide) ?_
      refine lv_aload_n hx hb d_Words_takenNext_29 rfl (lv_at hl 2 rfl) ?_
      refine va_get (D := G.1) (ci := 7) (v := .ref b3) (C := R_Words) (T := F_Words) (N := 8) hx hb hts i_Words hown hK hP 0 rfl rfl 1 (by decide) (hts _ q267) (fun _ h9 => h9) rfl d_Words_takenNext_30 ?_
      refine z_callV (index := 77) (As := [.ref b4, .int y_815, .int 0, .ref b3]) (rest := []) (wr := [(b0, .inr (7, [.ref b2, .ref b3, .ref b4, .ref b5, .ref b6, .ref b7, .ref b8, .ref b9])), (b6, .inl (G.2 0, 100, .inl b18)), (b26, .inl (G.2 1, 4, .inr (.inl b34)))]) Z (s4_Machine_fan l G (b1) (b4) (y_815) (0) (b3) (b19) (b20) (b21) (b22) (b23) (b24) (b25) (b26) (b27) (b28) (b29) (b30) (b31) (b32) (b33) (b35) (b36) (b14) (b15) (b16) (b17) (b10) (b11) (b12) (f_824) hv_821 zc_0 hb19 hb20 hb27 (zI.wk (l' := 0) (h' := 100) hv_822 (by decide)) hb10 hb35 hb36 hb17 hf_824) hl.1 q853 q854 q855 q6 q856 ⟨by decide, by decide, by show _ = some 4; decide +kernel⟩ ⟨Nat.le_of_ble_eq_true rfl, Nat.le_of_ble_eq_true rfl⟩ ⟨Nat.le_of_ble_eq_true rfl, Nat.le_of_ble_eq_true rfl⟩ rfl (Nat.le_of_ble_eq_true rfl) d_Words_takenNext_33 hP hD hS hA 4 5 rfl rfl rfl [4, 6, 7, 1, 2, 8, 9] [0, 3, 5] rfl rfl rfl rfl (by decide) (fun v w1 H locs hw_825 hP hD hS => ?_)
      obtain ⟨f_826, rfl, rfl, hf_826⟩ := hw_825
      have hP : va_P G.1 classes [(b0, .inr (7, [.ref b2, .ref b3, .ref b4, .ref b5, .ref b6, .ref b7, .ref b8, .ref b9])), (b6, .inl (G.2 0, 100, .inl b18)), (b26, .inl (G.2 1, 4, .inr (.inl b34))), (b1, .inr (5, [.int b19, .int b20, .ref b21, .ref b22, .ref b23, .ref b24, .ref b25, .ref b26, .int b27, .ref b28, .ref b29, .ref b30, .ref b31, .ref b32, .ref b33])), (b28, .inl (G.2 0, 240, .inl b35)), (b32, .inl (G.2 0, 242, .inl b36)), (b4, .inr (6, [.int b14, .int 4, .int 100, .ref b15, .ref b16])), (b15, .inl (G.2 1, 400, .inr (.inl b17))), (b3, .inr (6, [.int b10, .int 4, .int 10, .ref b11, .ref b12])), (b11, .inl (G.2 1, 40, .inr (.inl f_826)))] H := hP
      have hD := z_tie hP hD rfl
      refine W.widen (k := 0) (n := 0) (Nat.le_of_ble_eq_true rfl) (Nat.le_of_ble_eq_true rfl) ?_
      refine lv_iconst (v := 0) hx hb d_Words_takenNext_36 (by decide) ?_
      refine lv_istore (lv' := [(4, .int 0), (3, .int y_815), (2, .int y_816), (0, .ref b0), (1, .ref b1)]) hx hb d_Words_takenNext_37 hl (by decide) rfl (fun ls hl => ?_)
      suffices key : ∀ (k_913 : Nat) (y_914 : Int32) (y_915 : Int32) (H : Heap) (locs : List Loc) (ls : Array Slot), (zI y_914 0 10) → (10 : Int) - y_914.toInt < (k_913 : Int) → va_P G.1 classes [(b0, .inr (7, [.ref b2, .ref b3, .ref b4, .ref b5, .ref b6, .ref b7, .ref b8, .ref b9])), (b6, .inl (G.2 0, 100, .inl b18)), (b26, .inl (G.2 1, 4, .inr (.inl b34))), (b1, .inr (5, [.int b19, .int b20, .ref b21, .ref b22, .ref b23, .ref b24, .ref b25, .ref b26, .int b27, .ref b28, .ref b29, .ref b30, .ref b31, .ref b32, .ref b33])), (b28, .inl (G.2 0, 240, .inl b35)), (b32, .inl (G.2 0, 242, .inl b36)), (b4, .inr (6, [.int b14, .int 4, .int 100, .ref b15, .ref b16])), (b15, .inl (G.2 1, 400, .inr (.inl b17))), (b3, .inr (6, [.int b10, .int 4, .int 10, .ref b11, .ref b12])), (b11, .inl (G.2 1, 40, .inr (.inl f_826)))] H → va_D A [(b0, .inr (7, [.ref b2, .ref b3, .ref b4, .ref b5, .ref b6, .ref b7, .ref b8, .ref b9])), (b6, .inl (G.2 0, 100, .inl b18)), (b26, .inl (G.2 1, 4, .inr (.inl b34))), (b1, .inr (5, [.int b19, .int b20, .ref b21, .ref b22, .ref b23, .ref b24, .ref b25, .ref b26, .int b27, .ref b28, .ref b29, .ref b30, .ref b31, .ref b32, .ref b33])), (b28, .inl (G.2 0, 240, .inl b35)), (b32, .inl (G.2 0, 242, .inl b36)), (b4, .inr (6, [.int b14, .int 4, .int 100, .ref b15, .ref b16])), (b15, .inl (G.2 1, 400, .inr (.inl b17))), (b3, .inr (6, [.int b10, .int 4, .int 10, .ref b11, .ref b12])), (b11, .inl (G.2 1, 40, .inr (.inl f_826)))] → va_S A s.heap H locs → lv_has ls 5 [(4, .int y_914), (3, .int y_815), (2, .int y_915), (0, .ref b0), (1, .ref b1)] → W p l e m_s2_Words_takenNext s m ([.ref b0, .ref b1] : List Value).toArray below meth c H locs 0 0 (MQ below (zQ G (fun v w => ∃ (e0 : Int32), ∃ (e1 : Nat → Int64), v = some (.int e0) ∧ w = [(b0, .inr (7, [.ref b2, .ref b3, .ref b4, .ref b5, .ref b6, .ref b7, .ref b8, .ref b9])), (b3, .inr (6, [.int b10, .int 4, .int 10, .ref b11, .ref b12])), (b11, .inl (G.2 1, 40, .inr (.inl e1))), (b4, .inr (6, [.int b14, .int 4, .int 100, .ref b15, .ref b16])), (b15, .inl (G.2 1, 400, .inr (.inl b17))), (b6, .inl (G.2 0, 100, .inl b18)), (b1, .inr (5, [.int b19, .int b20, .ref b21, .ref b22, .ref b23, .ref b24, .ref b25, .ref b26, .int b27, .ref b28, .ref b29, .ref b30, .ref b31, .ref b32, .ref b33])), (b26, .inl (G.2 1, 4, .inr (.inl b34))), (b28, .inl (G.2 0, 240, .inl b35)), (b32, .inl (G.2 0, 242, .inl b36))] ∧ (zqa qB e1)) A) ([.ref b0, .ref b1] : List Value).toArray s m_s2_Words_takenNext.cells m_s2_Words_takenNext.slots A) (F0 m 39 ls []) by
        exact key 11 (0) (y_816) _ _ _ (zI.wk (l' := 0) (h' := 10) zc_0 (by decide)) (zm_upi (zI.wk (l' := 0) (h' := 10) zc_0 (by decide)) (by decide)) hP hD hS (lv_sub hl [0, 1, 2, 3, 4] rfl)
      intro k_913
      induction k_913 with
      | zero =>
        intro y_914 y_915 H locs ls hy_914 hmk_913 hP hD hS hl
        exact (zm_up0 hy_914 hmk_913).elim
      | succ k_913 ihk_913 =>
        intro y_914 y_915 H locs ls hy_914 hmk_913 hP hD hS hl
        refine lv_iload hx hb d_Words_takenNext_39 (lv_at hl 0 rfl) ?_
        refine lv_bipush (v := 10) hx hb d_Words_takenNext_41 (by decide) ?_
        refine lv_icmp_ge (tgt := 75) hx hb d_Words_takenNext_43 (by decide) (fun hc_916 => ?_) (fun hc_916 => ?_)
        · have _nhc_916 := hc_916
          have ni_917 := (fa_le _ _).mp hc_916
          rw [li_10] at ni_917
          have hv_918 : zI y_914 10 10 := zI.le_r zc_10 hy_914 hc_916 (by decide)
          obtain ⟨v_919, ev_919⟩ : ∃ z : Int32, z = y_815 + 1 := ⟨_, rfl⟩
          obtain ⟨qv_919, hv_919⟩ := zI_add (l := 1) (h := 100) hv_821 zc_1 ev_919 (by decide)
          rw [li_1] at qv_919
          refine lv_iinc (v := v_919) (lv' := [(3, .int v_919), (4, .int y_914), (2, .int y_915), (0, .ref b0), (1, .ref b1)]) hx hb d_Words_takenNext_75 hl (k := 1) rfl (by rw [ev_919]; rfl) (by decide) rfl (fun ls hl => ?_)
          refine lv_goto (tgt := 4) hx hb d_Words_takenNext_78 (by decide) ?_
          exact ihk_814 (v_919) (y_915) (f_826) _ _ _ (zI.wk (l' := 0) (h' := 100) hv_919 (by decide)) hf_826 (zm_up qv_919 hmk_814 (by decide)) (hP.sub [0, 8, 9, 6, 7, 1, 3, 2, 4, 5] rfl) (hD.sub [0, 8, 9, 6, 7, 1, 3, 2, 4, 5] (by decide) rfl) hS (lv_sub hl [0, 2, 3, 4] rfl)
        · have _nhc_916 := hc_916
          have ni_920 := (fa_lt _ _).mp (zi_nle hc_916)
          rw [li_10] at ni_920
          have hv_921 : zI y_914 0 9 := zI.lt_l hy_914 zc_10 (zi_nle hc_916) (by decide)
          refine lv_aload_n hx hb d_Words_takenNext_46 rfl (lv_at hl 4 rfl) ?_
          refine lv_aload_n hx hb d_Words_takenNext_47 rfl (lv_at hl 3 rfl) ?_
          refine va_get (D := G.1) (ci := 7) (v := .ref b3) (C := R_Words) (T := F_Words) (N := 8) hx hb hts i_Words hown hK hP 0 rfl rfl 1 (by decide) (hts _ q267) (fun _ h9 => h9) rfl d_Words_takenNext_48 ?_
          refine lv_iload hx hb d_Words_takenNext_51 (lv_at hl 0 rfl) ?_
          refine lv_iconst (v := 0) hx hb d_Words_takenNext_53 (by decide) ?_
          refine z_callV (index := 62) (As := [.ref b3, .int y_914, .int 0]) (rest := []) (wr := [(b0, .inr (7, [.ref b2, .ref b3, .ref b4, .ref b5, .ref b6, .ref b7, .ref b8, .ref b9])), (b6, .inl (G.2 0, 100, .inl b18)), (b28, .inl (G.2 0, 240, .inl b35)), (b32, .inl (G.2 0, 242, .inl b36)), (b4, .inr (6, [.int b14, .int 4, .int 100, .ref b15, .ref b16])), (b15, .inl (G.2 1, 400, .inr (.inl b17)))]) Z (s6_Machine_takes l G (b1) (b3) (y_914) (0) (b19) (b20) (b21) (b22) (b23) (b24) (b25) (b26) (b27) (b28) (b29) (b30) (b31) (b32) (b33) (b34) (b10) (b11) (b12) (f_826) hv_921 zc_0 hb19 hb20 hb27 hb10 hf_826) hl.1 q848 q743 q744 q6 q745 ⟨by decide, by decide, by show _ = some 3; decide +kernel⟩ ⟨Nat.le_of_ble_eq_true rfl, Nat.le_of_ble_eq_true rfl⟩ ⟨Nat.le_of_ble_eq_true rfl, Nat.le_of_ble_eq_true rfl⟩ rfl (Nat.le_of_ble_eq_true rfl) d_Words_takenNext_54 hP hD hS hA 3 5 rfl rfl rfl [3, 2, 8, 9] [0, 1, 4, 5, 6, 7] rfl rfl rfl rfl (by decide) (fun v w1 H locs hw_922 hP hD hS => ?_)
          obtain ⟨x_923, rfl, rfl, hx_923⟩ := hw_922
          have hP : va_P G.1 classes [(b0, .inr (7, [.ref b2, .ref b3, .ref b4, .ref b5, .ref b6, .ref b7, .ref b8, .ref b9])), (b6, .inl (G.2 0, 100, .inl b18)), (b28, .inl (G.2 0, 240, .inl b35)), (b32, .inl (G.2 0, 242, .inl b36)), (b4, .inr (6, [.int b14, .int 4, .int 100, .ref b15, .ref b16])), (b15, .inl (G.2 1, 400, .inr (.inl b17))), (b1, .inr (5, [.int b19, .int b20, .ref b21, .ref b22, .ref b23, .ref b24, .ref b25, .ref b26, .int b27, .ref b28, .ref b29, .ref b30, .ref b31, .ref b32, .ref b33])), (b26, .inl (G.2 1, 4, .inr (.inl b34))), (b3, .inr (6, [.int b10, .int 4, .int 10, .ref b11, .ref b12])), (b11, .inl (G.2 1, 40, .inr (.inl f_826)))] H := hP
          have hD := z_tie hP hD rfl
          refine W.widen (k := 0) (n := 0) (Nat.le_of_ble_eq_true rfl) (Nat.le_of_ble_eq_true rfl) ?_
          refine lv_if_eq (tgt := 69) hx hb d_Words_takenNext_57 (by decide) (fun hc_924 => ?_) (fun hc_924 => ?_)
          · have _nhc_924 := hc_924
            have ni_925 := (fa_eq _ _).mp hc_924
            rw [li_0] at ni_925
            have hv_926 : zI x_923 0 0 := zI.eq_l hx_923 zc_0 hc_924
            obtain ⟨v_927, ev_927⟩ : ∃ z : Int32, z = y_914 + 1 := ⟨_, rfl⟩
            obtain ⟨qv_927, hv_927⟩ := zI_add (l := 1) (h := 10) hv_921 zc_1 ev_927 (by decide)
            rw [li_1] at qv_927
            refine lv_iinc (v := v_927) (lv' := [(4, .int v_927), (3, .int y_815), (2, .int y_915), (0, .ref b0), (1, .ref b1)]) hx hb d_Words_takenNext_69 hl (k := 0) rfl (by rw [ev_927]; rfl) (by decide) rfl (fun ls hl => ?_)
            refine lv_goto (tgt := 39) hx hb d_Words_takenNext_72 (by decide) ?_
            exact ihk_913 (v_927) (y_915) _ _ _ (zI.wk (l' := 0) (h' := 10) hv_927 (by decide)) (zm_up qv_927 hmk_913 (by decide)) (hP.sub [0, 1, 7, 6, 2, 3, 4, 5, 8, 9] rfl) (hD.sub [0, 1, 7, 6, 2, 3, 4, 5, 8, 9] (by decide) rfl) hS (lv_sub hl [0, 1, 2, 3, 4] rfl)
          · have _nhc_924 := hc_924
            have ni_928 : ¬ (x_923 : Int32).toInt = (0 : Int32).toInt := fun z => hc_924 ((fa_eq _ _).mpr z)
            simp only [li_0] at ni_928
            have hv_929 : zI x_923 1 1 := zI.ne_lo hx_923 zc_0 hc_924 (by decide)
            refine lv_iload_n hx hb d_Words_takenNext_60 rfl (lv_at hl 2 rfl) ?_
            refine lv_aload_n hx hb d_Words_takenNext_61 rfl (lv_at hl 3 rfl) ?_
            refine va_get (D := G.1) (ci := 7) (v := .ref b6) (C := R_Words) (T := F_Words) (N := 8) hx hb hts i_Words hown hK hP 0 rfl rfl 4 (by decide) (hts _ q270) (fun _ h9 => h9) rfl d_Words_takenNext_62 ?_
            refine lv_iload_n hx hb d_Words_takenNext_65 rfl (lv_at hl 1 rfl) ?_
            refine va_iald hx hb hK hP 1 0 rfl rfl (zI.inn hv_821 (by decide)) d_Words_takenNext_66 ?_
            refine lv_topi (fun v_930 ev_930 => ?_)
            refine lv_iadd hx hb d_Words_takenNext_67 ?_
            refine lv_topi (fun v_931 ev_931 => ?_)
            refine lv_istore_n (lv' := [(2, .int v_931), (4, .int y_914), (3, .int y_815), (0, .ref b0), (1, .ref b1)]) hx hb d_Words_takenNext_68 rfl hl (by decide) rfl (fun ls hl => ?_)
            obtain ⟨v_932, ev_932⟩ : ∃ z : Int32, z = y_914 + 1 := ⟨_, rfl⟩
            obtain ⟨qv_932, hv_932⟩ := zI_add (l := 1) (h := 10) hv_921 zc_1 ev_932 (by decide)
            rw [li_1] at qv_932
            refine lv_iinc (v := v_932) (lv' := [(4, .int v_932), (2, .int v_931), (3, .int y_815), (0, .ref b0), (1, .ref b1)]) hx hb d_Words_takenNext_69 hl (k := 1) rfl (by rw [ev_932]; rfl) (by decide) rfl (fun ls hl => ?_)
            refine lv_goto (tgt := 39) hx hb d_Words_takenNext_72 (by decide) ?_
            exact ihk_913 (v_932) (v_931) _ _ _ (zI.wk (l' := 0) (h' := 10) hv_932 (by decide)) (zm_up qv_932 hmk_913 (by decide)) (hP.sub [0, 1, 7, 6, 2, 3, 4, 5, 8, 9] rfl) (hD.sub [0, 1, 7, 6, 2, 3, 4, 5, 8, 9] (by decide) rfl) hS (lv_sub hl [0, 2, 1, 3, 4] rfl)
theorem d_Words_number_105 : decode prog_12_method_2_code 105 = .ok (.ireturn, 1) := by decide +kernel
theorem d_Words_goOn_125 : decode prog_12_method_3_code 125 = .ok (.ireturn, 1) := by decide +kernel
abbrev m_s3_Sets_isEmpty : Room := { frames := 0, cells := 0, slots := 0, locals := 0 }
set_option maxHeartbeats 4000000 in
set_option maxRecDepth 100000 in
theorem s3_Sets_isEmpty (l : Launch) (G : zG) (b0 : Nat) (b1 : Int32) (b2 : Int32) (b3 : Nat) (b4 : Nat) (b5 : Nat → Int64) (hb1 : zI b1 0 9) (hb2 : zI b2 0 10) (hb5 : zqa qB b5) : zM l G y_Sets_isEmpty prog_8_method_7_code 3 (Option.some Jvm.ClassFile.FieldType.boolean) m_s3_Sets_isEmpty [.ref b0, .int b1] [(b0, .inr (6, [.int b2, .int 4, .int 10, .ref b3, .ref b4])), (b3, .inl (G.2 1, 40, .inr (.inl b5)))] (fun v w => ∃ (e0 : Int32), v = some (.int e0) ∧ w = [(b0, .inr (6, [.int b2, .int 4, .int 10, .ref b3, .ref b4])), (b3, .inl (G.2 1, 40, .inr (.inl b5)))] ∧ (zI e0 0 1)) := by
  refine z_start (by decide +kernel) (Nat.le_of_ble_eq_true rfl) ?_
  intro p e s m below meth c A Z hr hnm hA hP hD hS ls hl
  have Z : zC p s m _ meth c prog_8_method_7_code 3 "TraceMachines$StateSets" G := Z
  obtain ⟨hx, hb, hml, hown, hts, hK, hN, hlocks⟩ := id Z
  have hl : lv_has ls 3 [(0, .ref b0), (1, .int b1)] := hl
  refine lv_iconst (v := 0) hx hb d_Sets_isEmpty_0 (by decide) ?_
  refine lv_istore_n (lv' := [(2, .int 0), (0, .ref b0), (1, .int b1)]) hx hb d_Sets_isEmpty_1 rfl hl (by decide) rfl (fun ls hl => ?_)
  suffices key : ∀ (k_69 : Nat) (y_70 : Int32) (H : Heap) (locs : List Loc) (ls : Array Slot), (zI y_70 0 4) → (4 : Int) - y_70.toInt < (k_69 : Int) → va_P G.1 classes [(b0, .inr (6, [.int b2, .int 4, .int 10, .ref b3, .ref b4])), (b3, .inl (G.2 1, 40, .inr (.inl b5)))] H → va_D A [(b0, .inr (6, [.int b2, .int 4, .int 10, .ref b3, .ref b4])), (b3, .inl (G.2 1, 40, .inr (.inl b5)))] → va_S A s.heap H locs → lv_has ls 3 [(2, .int y_70), (0, .ref b0), (1, .int b1)] → W p l e m_s3_Sets_isEmpty s m ([.ref b0, .int b1] : List Value).toArray below meth c H locs 0 0 (MQ below (zQ G (fun v w => ∃ (e0 : Int32), v = some (.int e0) ∧ w = [(b0, .inr (6, [.int b2, .int 4, .int 10, .ref b3, .ref b4])), (b3, .inl (G.2 1, 40, .inr (.inl b5)))] ∧ (zI e0 0 1)) A) ([.ref b0, .int b1] : List Value).toArray s m_s3_Sets_isEmpty.cells m_s3_Sets_isEmpty.slots A) (F0 m 2 ls []) by
    exact key 5 (0) _ _ _ (zI.wk (l' := 0) (h' := 4) zc_0 (by decide)) (zm_upi (zI.wk (l' := 0) (h' := 4) zc_0 (by decide)) (by decide)) hP hD hS (lv_sub hl [0, 1, 2] rfl)
  intro k_69
  induction k_69 with
  | zero =>
    intro y_70 H locs ls hy_70 hmk_69 hP hD hS hl
    exact (zm_up0 hy_70 hmk_69).elim
  | succ k_69 ihk_69 =>
    intro y_70 H locs ls hy_70 hmk_69 hP hD hS hl
    refine lv_iload_n hx hb d_Sets_isEmpty_2 rfl (lv_at hl 0 rfl) ?_
    refine lv_aload_n hx hb d_Sets_isEmpty_3 rfl (lv_at hl 1 rfl) ?_
    refine va_get (D := G.1) (ci := 6) (v := .int 4) (C := R_Sets) (T := F_Sets) (N := 5) hx hb hts i_Sets hown hK hP 0 rfl rfl 1 (by decide) (hts _ q242) (fun _ h9 => h9) rfl d_Sets_isEmpty_4 ?_
    refine lv_icmp_ge (tgt := 36) hx hb d_Sets_isEmpty_7 (by decide) (fun hc_71 => ?_) (fun hc_71 => ?_)
    · have _nhc_71 := hc_71
      have ni_72 := (fa_le _ _).mp hc_71
      rw [li_4] at ni_72
      have hv_73 : zI y_70 4 4 := zI.le_r zc_4 hy_70 hc_71 (by decide)
      refine lv_iconst (v := 1) hx hb d_Sets_isEmpty_36 (by decide) ?_
      exact z_zret hx hb hr hlocks rfl hP hD hS (Nat.le_of_ble_eq_true rfl) (Nat.le_of_ble_eq_true rfl) d_Sets_isEmpty_37 ⟨1, rfl, rfl, (zI.wk (l' := 0) (h' := 1) zc_1 (by decide))⟩
    · have _nhc_71 := hc_71
      have ni_74 := (fa_lt _ _).mp (zi_nle hc_71)
      rw [li_4] at ni_74
      have hv_75 : zI y_70 0 3 := zI.lt_l hy_70 zc_4 (zi_nle hc_71) (by decide)
      refine lv_aload_n hx hb d_Sets_isEmpty_10 rfl (lv_at hl 1 rfl) ?_
      refine va_get (D := G.1) (ci := 6) (v := .ref b3) (C := R_Sets) (T := F_Sets) (N := 5) hx hb hts i_Sets hown hK hP 0 rfl rfl 3 (by decide) (hts _ q244) (fun _ h9 => h9) rfl d_Sets_isEmpty_11 ?_
      refine lv_iload_n hx hb d_Sets_isEmpty_14 rfl (lv_at hl 2 rfl) ?_
      refine lv_aload_n hx hb d_Sets_isEmpty_15 rfl (lv_at hl 1 rfl) ?_
      refine va_get (D := G.1) (ci := 6) (v := .int 4) (C := R_Sets) (T := F_Sets) (N := 5) hx hb hts i_Sets hown hK hP 0 rfl rfl 1 (by decide) (hts _ q242) (fun _ h9 => h9) rfl d_Sets_isEmpty_16 ?_
      refine lv_imul hx hb d_Sets_isEmpty_19 ?_
      refine lv_topi (fun v_76 ev_76 => ?_)
      obtain ⟨qv_76, hv_76⟩ := zI_mul (l := 0) (h := 36) hb1 zc_4 ev_76 (by decide)
      rw [li_4] at qv_76
      refine lv_iload_n hx hb d_Sets_isEmpty_20 rfl (lv_at hl 0 rfl) ?_
      refine lv_iadd hx hb d_Sets_isEmpty_21 ?_
      refine lv_topi (fun v_77 ev_77 => ?_)
      obtain ⟨qv_77, hv_77⟩ := zI_add (l := 0) (h := 39) hv_76 hv_75 ev_77 (by decide)
      refine va_lald hx hb hK hP 1 1 rfl rfl (zI.inn hv_77 (by decide)) d_Sets_isEmpty_22 ?_
      refine lv_topl (fun v_78 ev_78 => ?_)
      have bv_78 := zQB.ld hb5 hv_77 ev_78 (by decide)
      refine lv_lconst (v := 0) hx hb d_Sets_isEmpty_23 (by decide) ?_
      refine W.lcmp hx hb d_Sets_isEmpty_24 ?_
      refine lv_topi (fun v_79 ev_79 => ?_)
      refine lv_if_eq (tgt := 30) hx hb d_Sets_isEmpty_25 (by decide) (fun hc_80 => ?_) (fun hc_80 => ?_)
      · have ni_81 := hc_80
        rw [ev_79] at ni_81
        simp only [lg_cmp_lt, lg_cmp_le, lg_cmp_gt, lg_cmp_ge, lg_cmp_eq, fa_lt64, fa_le64, fa_eq64, Int32.toInt_toInt64, ll_0] at ni_81
        have hv_82 : zJ v_78 0 0 := by have _a := ni_81; have _b := (zJ_all v_78); have _c := zcl_0; simp only [Int32.toInt_toInt64] at *; exact ⟨by omega, by omega⟩
        obtain ⟨v_83, ev_83⟩ : ∃ z : Int32, z = y_70 + 1 := ⟨_, rfl⟩
        obtain ⟨qv_83, hv_83⟩ := zI_add (l := 1) (h := 4) hv_75 zc_1 ev_83 (by decide)
        rw [li_1] at qv_83
        refine lv_iinc (v := v_83) (lv' := [(2, .int v_83), (0, .ref b0), (1, .int b1)]) hx hb d_Sets_isEmpty_30 hl (k := 0) rfl (by rw [ev_83]; rfl) (by decide) rfl (fun ls hl => ?_)
        refine lv_goto (tgt := 2) hx hb d_Sets_isEmpty_33 (by decide) ?_
        exact ihk_69 (v_83) _ _ _ (zI.wk (l' := 0) (h' := 4) hv_83 (by decide)) (zm_up qv_83 hmk_69 (by decide)) hP hD hS (lv_sub hl [0, 1, 2] rfl)
      · have ni_84 := hc_80
        rw [ev_79] at ni_84
        simp only [lg_cmp_lt, lg_cmp_le, lg_cmp_gt, lg_cmp_ge, lg_cmp_eq, fa_lt64, fa_le64, fa_eq64, Int32.toInt_toInt64, ll_0] at ni_84
        refine lv_iconst (v := 0) hx hb d_Sets_isEmpty_28 (by decide) ?_
        exact z_zret hx hb hr hlocks rfl hP hD hS (Nat.le_of_ble_eq_true rfl) (Nat.le_of_ble_eq_true rfl) d_Sets_isEmpty_29 ⟨0, rfl, rfl, (zI.wk (l' := 0) (h' := 1) zc_0 (by decide))⟩
theorem d_Words_comeTo_29 : decode prog_12_method_4_code 29 = .ok (.ireturn, 1) := by decide +kernel
theorem d_Words_comeTo_57 : decode prog_12_method_4_code 57 = .ok (.ireturn, 1) := by decide +kernel
abbrev m_s2_Words_comeTo : Room := { frames := 3, cells := 0, slots := 0, locals := 67 }
set_option maxHeartbeats 4000000 in
set_option maxRecDepth 100000 in
theorem s2_Words_comeTo (l : Launch) (G : zG) (b0 : Nat) (b1 : Int32) (b2 : Int32) (b3 : Nat) (b4 : Nat) (b5 : Nat) (b6 : Nat) (b7 : Nat) (b8 : Nat) (b9 : Nat) (b10 : Nat) (b11 : Int32) (b12 : Nat) (b13 : Nat) (b14 : Nat → Int64) (b15 : Int32) (b16 : Nat) (b17 : Nat) (b18 : Nat → Int64) (b19 : Nat → Int32) (b20 : Nat → Int32) (hb1 : zI b1 0 9) (hb11 : zI b11 0 10) (hb15 : zI b15 0 100) (hb14 : zqa qB b14) (hb18 : zqa qB b18) (hb19 : zR b19 (-1) 99) : zM l G y_Words_comeTo prog_12_method_4_code 5 (Option.some Jvm.ClassFile.FieldType.boolean) m_s2_Words_comeTo [.ref b0, .int b1, .int b2] [(b0, .inr (7, [.ref b3, .ref b4, .ref b5, .ref b6, .ref b7, .ref b8, .ref b9, .ref b10])), (b4, .inr (6, [.int b11, .int 4, .int 10, .ref b12, .ref b13])), (b12, .inl (G.2 1, 40, .inr (.inl b14))), (b6, .inr (6, [.int b15, .int 4, .int 100, .ref b16, .ref b17])), (b16, .inl (G.2 1, 400, .inr (.inl b18))), (b17, .inl (G.2 0, 256, .inl b19)), (b8, .inl (G.2 0, 100, .inl b20))] (fun v w => ∃ (e0 : Int32), ∃ (e1 : Int32), ∃ (e2 : Nat → Int64), ∃ (e3 : Nat → Int32), ∃ (e4 : Nat → Int32), v = some (.int e0) ∧ w = [(b0, .inr (7, [.ref b3, .ref b4, .ref b5, .ref b6, .ref b7, .ref b8, .ref b9, .ref b10])), (b4, .inr (6, [.int b11, .int 4, .int 10, .ref b12, .ref b13])), (b12, .inl (G.2 1, 40, .inr (.inl b14))), (b6, .inr (6, [.int e1, .int 4, .int 100, .ref b16, .ref b17])), (b16, .inl (G.2 1, 400, .inr (.inl e2))), (b17, .inl (G.2 0, 256, .inl e3)), (b8, .inl (G.2 0, 100, .inl e4))] ∧ (zI e0 0 1) ∧ (zI e1 0 100) ∧ (zqa qB e2) ∧ (zR e3 (-1) 99)) := by
  refine z_start (by decide +kernel) (Nat.le_of_ble_eq_true rfl) ?_
  intro p e s m below meth c A Z hr hnm hA hP hD hS ls hl
  have Z : zC p s m _ meth c prog_12_method_4_code 5 "TraceMachines$Words" G := Z
  obtain ⟨hx, hb, hml, hown, hts, hK, hN, hlocks⟩ := id Z
  have hl : lv_has ls 5 [(0, .ref b0), (1, .int b1), (2, .int b2)] := hl
  refine lv_aload_n hx hb d_Words_comeTo_0 rfl (lv_at hl 0 rfl) ?_
  refine va_get (D := G.1) (ci := 7) (v := .ref b6) (C := R_Words) (T := F_Words) (N := 8) hx hb hts i_Words hown hK hP 0 rfl rfl 3 (by decide) (hts _ q269) (fun _ h9 => h9) rfl d_Words_comeTo_1 ?_
  refine va_get (D := G.1) (ci := 6) (v := .int b15) (C := R_Sets) (T := F_Sets) (N := 5) hx hb hts i_Sets hown hK hP 3 rfl rfl 0 (by decide) (hts _ q240) (fun _ h9 => h9) rfl d_Words_comeTo_4 ?_
  refine lv_istore_n (lv' := [(3, .int b15), (0, .ref b0), (1, .int b1), (2, .int b2)]) hx hb d_Words_comeTo_7 rfl hl (by decide) rfl (fun ls hl => ?_)
  refine lv_aload_n hx hb d_Words_comeTo_8 rfl (lv_at hl 1 rfl) ?_
  refine va_get (D := G.1) (ci := 7) (v := .ref b6) (C := R_Words) (T := F_Words) (N := 8) hx hb hts i_Words hown hK hP 0 rfl rfl 3 (by decide) (hts _ q269) (fun _ h9 => h9) rfl d_Words_comeTo_9 ?_
  refine lv_aload_n hx hb d_Words_comeTo_12 rfl (lv_at hl 1 rfl) ?_
  refine va_get (D := G.1) (ci := 7) (v := .ref b4) (C := R_Words) (T := F_Words) (N := 8) hx hb hts i_Words hown hK hP 0 rfl rfl 1 (by decide) (hts _ q267) (fun _ h9 => h9) rfl d_Words_comeTo_13 ?_
  refine lv_iload_n hx hb d_Words_comeTo_16 rfl (lv_at hl 2 rfl) ?_
  refine z_callV (index := 58) (As := [.ref b4, .int b1]) (rest := []) (wr := [(b0, .inr (7, [.ref b3, .ref b4, .ref b5, .ref b6, .ref b7, .ref b8, .ref b9, .ref b10])), (b8, .inl (G.2 0, 100, .inl b20))]) Z (s4_Sets_indexOf l G (b6) (b4) (b1) (b15) (b16) (b17) (b18) (b19) (b11) (b12) (b13) (b14) hb1 hb15 hb11 hb18 hb19 hb14) hl.1 q830 q831 q832 q7 q833 ⟨by decide, by decide, by show _ = some 2; decide +kernel⟩ ⟨Nat.le_of_ble_eq_true rfl, Nat.le_of_ble_eq_true rfl⟩ ⟨Nat.le_of_ble_eq_true rfl, Nat.le_of_ble_eq_true rfl⟩ rfl (Nat.le_of_ble_eq_true rfl) d_Words_comeTo_17 hP hD hS hA 3 6 rfl rfl rfl [3, 4, 5, 1, 2] [0, 6] rfl rfl rfl rfl (by decide) (fun v w1 H locs hw_1 hP hD hS => ?_)
  obtain ⟨x_2, x_3, f_4, f_5, rfl, rfl, hx_2, hx_3, hf_4, hf_5, hfx_6⟩ := hw_1
  have hP : va_P G.1 classes [(b0, .inr (7, [.ref b3, .ref b4, .ref b5, .ref b6, .ref b7, .ref b8, .ref b9, .ref b10])), (b8, .inl (G.2 0, 100, .inl b20)), (b6, .inr (6, [.int x_3, .int 4, .int 100, .ref b16, .ref b17])), (b16, .inl (G.2 1, 400, .inr (.inl f_4))), (b17, .inl (G.2 0, 256, .inl f_5)), (b4, .inr (6, [.int b11, .int 4, .int 10, .ref b12, .ref b13])), (b12, .inl (G.2 1, 40, .inr (.inl b14)))] H := hP
  have hD := z_tie hP hD rfl
  refine W.widen (k := 0) (n := 0) (Nat.le_of_ble_eq_true rfl) (Nat.le_of_ble_eq_true rfl) ?_
  refine lv_istore (lv' := [(4, .int x_2), (3, .int b15), (0, .ref b0), (1, .int b1), (2, .int b2)]) hx hb d_Words_comeTo_20 hl (by decide) rfl (fun ls hl => ?_)
  refine lv_iload hx hb d_Words_comeTo_22 (lv_at hl 0 rfl) ?_
  refine lv_iconst (v := (-1)) hx hb d_Words_comeTo_24 (by decide) ?_
  refine lv_icmp_ne (tgt := 30) hx hb d_Words_comeTo_25 (by decide) (fun hc_7 => ?_) (fun hc_7 => ?_)
  · have _nhc_7 := hc_7
    have ni_8 : ¬ (x_2 : Int32).toInt = ((-1) : Int32).toInt := fun z => hc_7 ((fa_eq _ _).mpr z)
    simp only [li_m1] at ni_8
    have hv_9 : zI x_2 0 99 := zI.ne_lo hx_2 zc_m1 hc_7 (by decide)
    refine lv_aload_n hx hb d_Words_comeTo_30 rfl (lv_at hl 2 rfl) ?_
    refine va_get (D := G.1) (ci := 7) (v := .ref b8) (C := R_Words) (T := F_Words) (N := 8) hx hb hts i_Words hown hK hP 0 rfl rfl 5 (by decide) (hts _ q271) (fun _ h9 => h9) rfl d_Words_comeTo_31 ?_
    refine lv_iload hx hb d_Words_comeTo_34 (lv_at hl 0 rfl) ?_
    refine lv_iload hx hb d_Words_comeTo_36 (lv_at hl 0 rfl) ?_
    refine lv_iload_n hx hb d_Words_comeTo_38 rfl (lv_at hl 1 rfl) ?_
    refine lv_icmp_ne (tgt := 46) hx hb d_Words_comeTo_39 (by decide) (fun hc_10 => ?_) (fun hc_10 => ?_)
    · have _nhc_10 := hc_10
      have ni_11 : ¬ (x_2 : Int32).toInt = (b15 : Int32).toInt := fun z => hc_10 ((fa_eq _ _).mpr z)
      refine lv_aload_n hx hb d_Words_comeTo_46 rfl (lv_at hl 2 rfl) ?_
      refine va_get (D := G.1) (ci := 7) (v := .ref b8) (C := R_Words) (T := F_Words) (N := 8) hx hb hts i_Words hown hK hP 0 rfl rfl 5 (by decide) (hts _ q271) (fun _ h9 => h9) rfl d_Words_comeTo_47 ?_
      refine lv_iload hx hb d_Words_comeTo_50 (lv_at hl 0 rfl) ?_
      refine va_iald hx hb hK hP 1 0 rfl rfl (zI.inn hv_9 (by decide)) d_Words_comeTo_52 ?_
      refine lv_topi (fun v_12 ev_12 => ?_)
      refine lv_iload_n hx hb d_Words_comeTo_53 rfl (lv_at hl 4 rfl) ?_
      refine lv_iadd hx hb d_Words_comeTo_54 ?_
      refine lv_topi (fun v_13 ev_13 => ?_)
      refine va_iast hx hb hK hP hD hS 1 0 rfl rfl (zI.inn hv_9 (by decide)) d_Words_comeTo_55 (fun H locs hP hD hS => ?_)
      obtain ⟨f_14, gf_14, uf_14, hP, hD⟩ := z_newFu 1 hP hD rfl
      have hP : va_P G.1 classes [(b0, .inr (7, [.ref b3, .ref b4, .ref b5, .ref b6, .ref b7, .ref b8, .ref b9, .ref b10])), (b8, .inl (G.2 0, 100, .inl f_14)), (b6, .inr (6, [.int x_3, .int 4, .int 100, .ref b16, .ref b17])), (b16, .inl (G.2 1, 400, .inr (.inl f_4))), (b17, .inl (G.2 0, 256, .inl f_5)), (b4, .inr (6, [.int b11, .int 4, .int 10, .ref b12, .ref b13])), (b12, .inl (G.2 1, 40, .inr (.inl b14)))] H := hP
      have hD := z_tie hP hD rfl
      refine lv_iconst (v := 1) hx hb d_Words_comeTo_56 (by decide) ?_
      exact z_zret hx hb hr hlocks rfl (hP.sub [0, 5, 6, 2, 3, 4, 1] rfl) (hD.sub [0, 5, 6, 2, 3, 4, 1] (by decide) rfl) hS (Nat.le_of_ble_eq_true rfl) (Nat.le_of_ble_eq_true rfl) d_Words_comeTo_57 ⟨1, x_3, f_4, f_5, f_14, rfl, rfl, (zI.wk (l' := 0) (h' := 1) zc_1 (by decide)), hx_3, hf_4, hf_5⟩
    · have _nhc_10 := hc_10
      have ni_15 := (fa_eq _ _).mp hc_10
      have hv_16 : zI b15 0 99 := zI.eq_l hb15 hv_9 hc_10.symm
      refine lv_iload_n hx hb d_Words_comeTo_42 rfl (lv_at hl 4 rfl) ?_
      refine lv_goto (tgt := 55) hx hb d_Words_comeTo_43 (by decide) ?_
      refine va_iast hx hb hK hP hD hS 1 0 rfl rfl (zI.inn hv_9 (by decide)) d_Words_comeTo_55 (fun H locs hP hD hS => ?_)
      obtain ⟨f_17, gf_17, uf_17, hP, hD⟩ := z_newFu 1 hP hD rfl
      have hP : va_P G.1 classes [(b0, .inr (7, [.ref b3, .ref b4, .ref b5, .ref b6, .ref b7, .ref b8, .ref b9, .ref b10])), (b8, .inl (G.2 0, 100, .inl f_17)), (b6, .inr (6, [.int x_3, .int 4, .int 100, .ref b16, .ref b17])), (b16, .inl (G.2 1, 400, .inr (.inl f_4))), (b17, .inl (G.2 0, 256, .inl f_5)), (b4, .inr (6, [.int b11, .int 4, .int 10, .ref b12, .ref b13])), (b12, .inl (G.2 1, 40, .inr (.inl b14)))] H := hP
      have hD := z_tie hP hD rfl
      refine lv_iconst (v := 1) hx hb d_Words_comeTo_56 (by decide) ?_
      exact z_zret hx hb hr hlocks rfl (hP.sub [0, 5, 6, 2, 3, 4, 1] rfl) (hD.sub [0, 5, 6, 2, 3, 4, 1] (by decide) rfl) hS (Nat.le_of_ble_eq_true rfl) (Nat.le_of_ble_eq_true rfl) d_Words_comeTo_57 ⟨1, x_3, f_4, f_5, f_17, rfl, rfl, (zI.wk (l' := 0) (h' := 1) zc_1 (by decide)), hx_3, hf_4, hf_5⟩
  · have _nhc_7 := hc_7
    have ni_18 := (fa_eq _ _).mp hc_7
    rw [li_m1] at ni_18
    have hv_19 : zI x_2 (-1) (-1) := zI.eq_l hx_2 zc_m1 hc_7
    refine lv_iconst (v := 0) hx hb d_Words_comeTo_28 (by decide) ?_
    exact z_zret hx hb hr hlocks rfl (hP.sub [0, 5, 6, 2, 3, 4, 1] rfl) (hD.sub [0, 5, 6, 2, 3, 4, 1] (by decide) rfl) hS (Nat.le_of_ble_eq_true rfl) (Nat.le_of_ble_eq_true rfl) d_Words_comeTo_29 ⟨0, x_3, f_4, f_5, b20, rfl, rfl, (zI.wk (l' := 0) (h' := 1) zc_0 (by decide)), hx_3, hf_4, hf_5⟩
theorem d_Words_goOn_75 : decode prog_12_method_3_code 75 = .ok (.ireturn, 1) := by decide +kernel
abbrev m_s2_Words_goOn : Room := { frames := 4, cells := 0, slots := 0, locals := 91 }
set_option maxHeartbeats 4000000 in
set_option maxRecDepth 100000 in
theorem s2_Words_goOn (l : Launch) (G : zG) (b0 : Nat) (b1 : Nat) (b2 : Nat) (b3 : Nat) (b4 : Nat) (b5 : Nat) (b6 : Nat) (b7 : Nat) (b8 : Nat) (b9 : Nat) (b10 : Int32) (b11 : Nat) (b12 : Nat) (b13 : Nat → Int64) (b14 : Int32) (b15 : Nat) (b16 : Nat) (b17 : Nat → Int64) (b18 : Nat → Int32) (b19 : Int32) (b20 : Nat) (b21 : Nat) (b22 : Nat → Int64) (b23 : Nat → Int32) (b24 : Nat → Int32) (b25 : Nat → Int32) (b26 : Int32) (b27 : Int32) (b28 : Nat) (b29 : Nat) (b30 : Nat) (b31 : Nat) (b32 : Nat) (b33 : Nat) (b34 : Int32) (b35 : Nat) (b36 : Nat) (b37 : Nat) (b38 : Nat) (b39 : Nat) (b40 : Nat) (b41 : Nat → Int32) (b42 : Nat → Int32) (hb10 : zI b10 0 10) (hb14 : zI b14 0 100) (hb19 : zI b19 0 100) (hb26 : zI b26 0 1) (hb27 : zI b27 0 241) (hb34 : zI b34 0 240) (hb13 : zqa qB b13) (hb17 : zqa qB b17) (hb18 : zR b18 (-1) 99) (hb22 : zqa qB b22) (hb23 : zR b23 (-1) 99) (hb41 : zK b41) (hb42 : zR b42 0 240) : zM l G y_Words_goOn prog_12_method_3_code 4 (Option.some Jvm.ClassFile.FieldType.boolean) m_s2_Words_goOn [.ref b0, .ref b1] [(b0, .inr (7, [.ref b2, .ref b3, .ref b4, .ref b5, .ref b6, .ref b7, .ref b8, .ref b9])), (b3, .inr (6, [.int b10, .int 4, .int 10, .ref b11, .ref b12])), (b11, .inl (G.2 1, 40, .inr (.inl b13))), (b4, .inr (6, [.int b14, .int 4, .int 100, .ref b15, .ref b16])), (b15, .inl (G.2 1, 400, .inr (.inl b17))), (b16, .inl (G.2 0, 256, .inl b18)), (b5, .inr (6, [.int b19, .int 4, .int 100, .ref b20, .ref b21])), (b20, .inl (G.2 1, 400, .inr (.inl b22))), (b21, .inl (G.2 0, 256, .inl b23)), (b6, .inl (G.2 0, 100, .inl b24)), (b7, .inl (G.2 0, 100, .inl b25)), (b1, .inr (5, [.int b26, .int b27, .ref b28, .ref b29, .ref b30, .ref b31, .ref b32, .ref b33, .int b34, .ref b35, .ref b36, .ref b37, .ref b38, .ref b39, .ref b40])), (b35, .inl (G.2 0, 240, .inl b41)), (b39, .inl (G.2 0, 242, .inl b42))] (fun v w => ∃ (e0 : Int32), ∃ (e1 : Nat), ∃ (e2 : Nat), ∃ (e3 : Nat), ∃ (e4 : Nat), ∃ (e5 : Nat), ∃ (e6 : Nat), ∃ (e7 : Nat), ∃ (e8 : Nat), ∃ (e9 : Nat → Int64), ∃ (e10 : Int32), ∃ (e11 : Nat → Int64), ∃ (e12 : Nat → Int32), ∃ (e13 : Int32), ∃ (e14 : Nat → Int64), ∃ (e15 : Nat → Int32), ∃ (e16 : Nat → Int32), ∃ (e17 : Nat → Int32), v = some (.int e0) ∧ w = [(b0, .inr (7, [.ref b2, .ref b3, .ref e1, .ref e4, .ref e7, .ref e8, .ref b8, .ref b9])), (b3, .inr (6, [.int b10, .int 4, .int 10, .ref b11, .ref b12])), (b11, .inl (G.2 1, 40, .inr (.inl e9))), (e1, .inr (6, [.int e10, .int 4, .int 100, .ref e2, .ref e3])), (e2, .inl (G.2 1, 400, .inr (.inl e11))), (e3, .inl (G.2 0, 256, .inl e12)), (e4, .inr (6, [.int e13, .int 4, .int 100, .ref e5, .ref e6])), (e5, .inl (G.2 1, 400, .inr (.inl e14))), (e6, .inl (G.2 0, 256, .inl e15)), (e7, .inl (G.2 0, 100, .inl e16)), (e8, .inl (G.2 0, 100, .inl e17)), (b1, .inr (5, [.int b26, .int b27, .ref b28, .ref b29, .ref b30, .ref b31, .ref b32, .ref b33, .int b34, .ref b35, .ref b36, .ref b37, .ref b38, .ref b39, .ref b40])), (b35, .inl (G.2 0, 240, .inl b41)), (b39, .inl (G.2 0, 242, .inl b42))] ∧ (zI e0 0 1) ∧ (zqa qB e9) ∧ (zI e10 0 100) ∧ (zqa qB e11) ∧ (zR e12 (-1) 99) ∧ (zI e13 0 100) ∧ (zqa qB e14) ∧ (zR e15 (-1) 99)) := by
  refine z_start (by decide +kernel) (Nat.le_of_ble_eq_true rfl) ?_
  intro p e s m below meth c A Z hr hnm hA hP hD hS ls hl
  have Z : zC p s m _ meth c prog_12_method_3_code 4 "TraceMachines$Words" G := Z
  obtain ⟨hx, hb, hml, hown, hts, hK, hN, hlocks⟩ := id Z
  have hl : lv_has ls 4 [(0, .ref b0), (1, .ref b1)] := hl
  refine lv_aload_n hx hb d_Words_goOn_0 rfl (lv_at hl 0 rfl) ?_
  refine va_get (D := G.1) (ci := 7) (v := .ref b5) (C := R_Words) (T := F_Words) (N := 8) hx hb hts i_Words hown hK hP 0 rfl rfl 3 (by decide) (hts _ q269) (fun _ h9 => h9) rfl d_Words_goOn_1 ?_
  refine z_callV (index := 55) (As := []) (rest := []) (wr := [(b0, .inr (7, [.ref b2, .ref b3, .ref b4, .ref b5, .ref b6, .ref b7, .ref b8, .ref b9])), (b3, .inr (6, [.int b10, .int 4, .int 10, .ref b11, .ref b12])), (b11, .inl (G.2 1, 40, .inr (.inl b13))), (b4, .inr (6, [.int b14, .int 4, .int 100, .ref b15, .ref b16])), (b15, .inl (G.2 1, 400, .inr (.inl b17))), (b16, .inl (G.2 0, 256, .inl b18)), (b20, .inl (G.2 1, 400, .inr (.inl b22))), (b6, .inl (G.2 0, 100, .inl b24)), (b7, .inl (G.2 0, 100, .inl b25)), (b1, .inr (5, [.int b26, .int b27, .ref b28, .ref b29, .ref b30, .ref b31, .ref b32, .ref b33, .int b34, .ref b35, .ref b36, .ref b37, .ref b38, .ref b39, .ref b40])), (b35, .inl (G.2 0, 240, .inl b41)), (b39, .inl (G.2 0, 242, .inl b42))]) Z (s5_Sets_forget l G (b5) (b19) (b20) (b21) (b23) hb19 hb23) hl.1 q825 q826 q827 q7 q828 ⟨by decide, by decide, by show _ = some 0; decide +kernel⟩ ⟨Nat.le_of_ble_eq_true rfl, Nat.le_of_ble_eq_true rfl⟩ ⟨Nat.le_of_ble_eq_true rfl, Nat.le_of_ble_eq_true rfl⟩ rfl (Nat.le_of_ble_eq_true rfl) d_Words_goOn_4 hP hD hS hA 6 6 rfl rfl rfl [6, 8] [0, 1, 2, 3, 4, 5, 7, 9, 10, 11, 12, 13] rfl rfl rfl rfl (by decide) (fun v w1 H locs hw_1 hP hD hS => ?_)
  obtain ⟨f_2, rfl, rfl, hf_2⟩ := hw_1
  have hP : va_P G.1 classes [(b0, .inr (7, [.ref b2, .ref b3, .ref b4, .ref b5, .ref b6, .ref b7, .ref b8, .ref b9])), (b3, .inr (6, [.int b10, .int 4, .int 10, .ref b11, .ref b12])), (b11, .inl (G.2 1, 40, .inr (.inl b13))), (b4, .inr (6, [.int b14, .int 4, .int 100, .ref b15, .ref b16])), (b15, .inl (G.2 1, 400, .inr (.inl b17))), (b16, .inl (G.2 0, 256, .inl b18)), (b20, .inl (G.2 1, 400, .inr (.inl b22))), (b6, .inl (G.2 0, 100, .inl b24)), (b7, .inl (G.2 0, 100, .inl b25)), (b1, .inr (5, [.int b26, .int b27, .ref b28, .ref b29, .ref b30, .ref b31, .ref b32, .ref b33, .int b34, .ref b35, .ref b36, .ref b37, .ref b38, .ref b39, .ref b40])), (b35, .inl (G.2 0, 240, .inl b41)), (b39, .inl (G.2 0, 242, .inl b42)), (b5, .inr (6, [.int 0, .int 4, .int 100, .ref b20, .ref b21])), (b21, .inl (G.2 0, 256, .inl f_2))] H := hP
  have hD := z_tie hP hD rfl
  refine W.widen (k := 0) (n := 0) (Nat.le_of_ble_eq_true rfl) (Nat.le_of_ble_eq_true rfl) ?_
  refine lv_iconst (v := 0) hx hb d_Words_goOn_7 (by decide) ?_
  refine lv_istore_n (lv' := [(2, .int 0), (0, .ref b0), (1, .ref b1)]) hx hb d_Words_goOn_8 rfl hl (by decide) rfl (fun ls hl => ?_)
  suffices key : ∀ (k_1450 : Nat) (y_1451 : Int32) (y_1452 : Int32) (y_1453 : Nat → Int64) (y_1454 : Nat → Int64) (y_1455 : Nat → Int32) (y_1456 : Nat → Int32) (H : Heap) (locs : List Loc) (ls : Array Slot), (zI y_1451 0 100) → (zI y_1452 0 100) → (zqa qB y_1453) → (zqa qB y_1454) → (zR y_1455 (-1) 99) → (100 : Int) - y_1451.toInt < (k_1450 : Int) → va_P G.1 classes [(b0, .inr (7, [.ref b2, .ref b3, .ref b4, .ref b5, .ref b6, .ref b7, .ref b8, .ref b9])), (b3, .inr (6, [.int b10, .int 4, .int 10, .ref b11, .ref b12])), (b11, .inl (G.2 1, 40, .inr (.inl y_1453))), (b4, .inr (6, [.int b14, .int 4, .int 100, .ref b15, .ref b16])), (b15, .inl (G.2 1, 400, .inr (.inl b17))), (b16, .inl (G.2 0, 256, .inl b18)), (b20, .inl (G.2 1, 400, .inr (.inl y_1454))), (b6, .inl (G.2 0, 100, .inl b24)), (b7, .inl (G.2 0, 100, .inl y_1456)), (b1, .inr (5, [.int b26, .int b27, .ref b28, .ref b29, .ref b30, .ref b31, .ref b32, .ref b33, .int b34, .ref b35, .ref b36, .ref b37, .ref b38, .ref b39, .ref b40])), (b35, .inl (G.2 0, 240, .inl b41)), (b39, .inl (G.2 0, 242, .inl b42)), (b5, .inr (6, [.int y_1452, .int 4, .int 100, .ref b20, .ref b21])), (b21, .inl (G.2 0, 256, .inl y_1455))] H → va_D A [(b0, .inr (7, [.ref b2, .ref b3, .ref b4, .ref b5, .ref b6, .ref b7, .ref b8, .ref b9])), (b3, .inr (6, [.int b10, .int 4, .int 10, .ref b11, .ref b12])), (b11, .inl (G.2 1, 40, .inr (.inl y_1453))), (b4, .inr (6, [.int b14, .int 4, .int 100, .ref b15, .ref b16])), (b15, .inl (G.2 1, 400, .inr (.inl b17))), (b16, .inl (G.2 0, 256, .inl b18)), (b20, .inl (G.2 1, 400, .inr (.inl y_1454))), (b6, .inl (G.2 0, 100, .inl b24)), (b7, .inl (G.2 0, 100, .inl y_1456)), (b1, .inr (5, [.int b26, .int b27, .ref b28, .ref b29, .ref b30, .ref b31, .ref b32, .ref b33, .int b34, .ref b35, .ref b36, .ref b37, .ref b38, .ref b39, .ref b40])), (b35, .inl (G.2 0, 240, .inl b41)), (b39, .inl (G.2 0, 242, .inl b42)), (b5, .inr (6, [.int y_1452, .int 4, .int 100, .ref b20, .ref b21])), (b21, .inl (G.2 0, 256, .inl y_1455))] → va_S A s.heap H locs → lv_has ls 4 [(2, .int y_1451), (0, .ref b0), (1, .ref b1)] → W p l e m_s2_Words_goOn s m ([.ref b0, .ref b1] : List Value).toArray below meth c H locs 0 0 (MQ below (zQ G (fun v w => ∃ (e0 : Int32), ∃ (e1 : Nat), ∃ (e2 : Nat), ∃ (e3 : Nat), ∃ (e4 : Nat), ∃ (e5 : Nat), ∃ (e6 : Nat), ∃ (e7 : Nat), ∃ (e8 : Nat), ∃ (e9 : Nat → Int64), ∃ (e10 : Int32), ∃ (e11 : Nat → Int64), ∃ (e12 : Nat → Int32), ∃ (e13 : Int32), ∃ (e14 : Nat → Int64), ∃ (e15 : Nat → Int32), ∃ (e16 : Nat → Int32), ∃ (e17 : Nat → Int32), v = some (.int e0) ∧ w = [(b0, .inr (7, [.ref b2, .ref b3, .ref e1, .ref e4, .ref e7, .ref e8, .ref b8, .ref b9])), (b3, .inr (6, [.int b10, .int 4, .int 10, .ref b11, .ref b12])), (b11, .inl (G.2 1, 40, .inr (.inl e9))), (e1, .inr (6, [.int e10, .int 4, .int 100, .ref e2, .ref e3])), (e2, .inl (G.2 1, 400, .inr (.inl e11))), (e3, .inl (G.2 0, 256, .inl e12)), (e4, .inr (6, [.int e13, .int 4, .int 100, .ref e5, .ref e6])), (e5, .inl (G.2 1, 400, .inr (.inl e14))), (e6, .inl (G.2 0, 256, .inl e15)), (e7, .inl (G.2 0, 100, .inl e16)), (e8, .inl (G.2 0, 100, .inl e17)), (b1, .inr (5, [.int b26, .int b27, .ref b28, .ref b29, .ref b30, .ref b31, .ref b32, .ref b33, .int b34, .ref b35, .ref b36, .ref b37, .ref b38, .ref b39, .ref b40])), (b35, .inl (G.2 0, 240, .inl b41)), (b39, .inl (G.2 0, 242, .inl b42))] ∧ (zI e0 0 1) ∧ (zqa qB e9) ∧ (zI e10 0 100) ∧ (zqa qB e11) ∧ (zR e12 (-1) 99) ∧ (zI e13 0 100) ∧ (zqa qB e14) ∧ (zR e15 (-1) 99)) A) ([.ref b0, .ref b1] : List Value).toArray s m_s2_Words_goOn.cells m_s2_Words_goOn.slots A) (F0 m 9 ls []) by
    exact key 101 (0) (0) (b13) (b22) (f_2) (b25) _ _ _ (zI.wk (l' := 0) (h' := 100) zc_0 (by decide)) (zI.wk (l' := 0) (h' := 100) zc_0 (by decide)) hb13 hb22 hf_2 (zm_upi (zI.wk (l' := 0) (h' := 100) zc_0 (by decide)) (by decide)) hP hD hS (lv_sub hl [0, 1, 2] rfl)
  intro k_1450
  induction k_1450 with
  | zero =>
    intro y_1451 y_1452 y_1453 y_1454 y_1455 y_1456 H locs ls hy_1451 hy_1452 hy_1453 hy_1454 hy_1455 hmk_1450 hP hD hS hl
    exact (zm_up0 hy_1451 hmk_1450).elim
  | succ k_1450 ihk_1450 =>
    intro y_1451 y_1452 y_1453 y_1454 y_1455 y_1456 H locs ls hy_1451 hy_1452 hy_1453 hy_1454 hy_1455 hmk_1450 hP hD hS hl
    refine lv_iload_n hx hb d_Words_goOn_9 rfl (lv_at hl 0 rfl) ?_
    refine lv_aload_n hx hb d_Words_goOn_10 rfl (lv_at hl 1 rfl) ?_
    refine va_get (D := G.1) (ci := 7) (v := .ref b4) (C := R_Words) (T := F_Words) (N := 8) hx hb hts i_Words hown hK hP 0 rfl rfl 2 (by decide) (hts _ q268) (fun _ h9 => h9) rfl d_Words_goOn_11 ?_
    refine va_get (D := G.1) (ci := 6) (v := .int b14) (C := R_Sets) (T := F_Sets) (N := 5) hx hb hts i_Sets hown hK hP 3 rfl rfl 0 (by decide) (hts _ q240) (fun _ h9 => h9) rfl d_Words_goOn_14 ?_
    refine lv_icmp_ge (tgt := 88) hx hb d_Words_goOn_17 (by decide) (fun hc_1457 => ?_) (fun hc_1457 => ?_)
    · have _nhc_1457 := hc_1457
      have ni_1458 := (fa_le _ _).mp hc_1457
      refine lv_aload_n hx hb d_Words_goOn_88 rfl (lv_at hl 1 rfl) ?_
      refine va_get (D := G.1) (ci := 7) (v := .ref b4) (C := R_Words) (T := F_Words) (N := 8) hx hb hts i_Words hown hK hP 0 rfl rfl 2 (by decide) (hts _ q268) (fun _ h9 => h9) rfl d_Words_goOn_89 ?_
      refine lv_astore_n (lv' := [(2, .ref b4), (0, .ref b0), (1, .ref b1)]) hx hb d_Words_goOn_92 rfl hl (by decide) rfl (fun ls hl => ?_)
      refine lv_aload_n hx hb d_Words_goOn_93 rfl (lv_at hl 1 rfl) ?_
      refine lv_aload_n hx hb d_Words_goOn_94 rfl (lv_at hl 1 rfl) ?_
      refine va_get (D := G.1) (ci := 7) (v := .ref b5) (C := R_Words) (T := F_Words) (N := 8) hx hb hts i_Words hown hK hP 0 rfl rfl 3 (by decide) (hts _ q269) (fun _ h9 => h9) rfl d_Words_goOn_95 ?_
      refine va_put (D := G.1) (ci := 7) (v := .ref b5) (ty := .object "TraceMachines$StateSets") (C := R_Words) (T := F_Words) (N := 8) hx hb hts i_Words t_Words t_Words_ok n_Words hown hK hP hD hS 0 rfl rfl 2 (by decide) (hts _ q268) (fun _ h9 => h9) rfl (by decide +kernel) rfl rfl (Nat.le_of_ble_eq_true rfl) d_Words_goOn_98 (fun H locs hP hD hS => ?_)
      have hP : va_P G.1 classes [(b0, .inr (7, [.ref b2, .ref b3, .ref b5, .ref b5, .ref b6, .ref b7, .ref b8, .ref b9])), (b3, .inr (6, [.int b10, .int 4, .int 10, .ref b11, .ref b12])), (b11, .inl (G.2 1, 40, .inr (.inl y_1453))), (b4, .inr (6, [.int b14, .int 4, .int 100, .ref b15, .ref b16])), (b15, .inl (G.2 1, 400, .inr (.inl b17))), (b16, .inl (G.2 0, 256, .inl b18)), (b20, .inl (G.2 1, 400, .inr (.inl y_1454))), (b6, .inl (G.2 0, 100, .inl b24)), (b7, .inl (G.2 0, 100, .inl y_1456)), (b1, .inr (5, [.int b26, .int b27, .ref b28, .ref b29, .ref b30, .ref b31, .ref b32, .ref b33, .int b34, .ref b35, .ref b36, .ref b37, .ref b38, .ref b39, .ref b40])), (b35, .inl (G.2 0, 240, .inl b41)), (b39, .inl (G.2 0, 242, .inl b42)), (b5, .inr (6, [.int y_1452, .int 4, .int 100, .ref b20, .ref b21])), (b21, .inl (G.2 0, 256, .inl y_1455))] H := hP
      have hD := z_tie hP hD rfl
      refine lv_aload_n hx hb d_Words_goOn_101 rfl (lv_at hl 1 rfl) ?_
      refine lv_aload_n hx hb d_Words_goOn_102 rfl (lv_at hl 0 rfl) ?_
      refine va_put (D := G.1) (ci := 7) (v := .ref b4) (ty := .object "TraceMachines$StateSets") (C := R_Words) (T := F_Words) (N := 8) hx hb hts i_Words t_Words t_Words_ok n_Words hown hK hP hD hS 0 rfl rfl 3 (by decide) (hts _ q269) (fun _ h9 => h9) rfl (by decide +kernel) rfl rfl (Nat.le_of_ble_eq_true rfl) d_Words_goOn_103 (fun H locs hP hD hS => ?_)
      have hP : va_P G.1 classes [(b0, .inr (7, [.ref b2, .ref b3, .ref b5, .ref b4, .ref b6, .ref b7, .ref b8, .ref b9])), (b3, .inr (6, [.int b10, .int 4, .int 10, .ref b11, .ref b12])), (b11, .inl (G.2 1, 40, .inr (.inl y_1453))), (b4, .inr (6, [.int b14, .int 4, .int 100, .ref b15, .ref b16])), (b15, .inl (G.2 1, 400, .inr (.inl b17))), (b16, .inl (G.2 0, 256, .inl b18)), (b20, .inl (G.2 1, 400, .inr (.inl y_1454))), (b6, .inl (G.2 0, 100, .inl b24)), (b7, .inl (G.2 0, 100, .inl y_1456)), (b1, .inr (5, [.int b26, .int b27, .ref b28, .ref b29, .ref b30, .ref b31, .ref b32, .ref b33, .int b34, .ref b35, .ref b36, .ref b37, .ref b38, .ref b39, .ref b40])), (b35, .inl (G.2 0, 240, .inl b41)), (b39, .inl (G.2 0, 242, .inl b42)), (b5, .inr (6, [.int y_1452, .int 4, .int 100, .ref b20, .ref b21])), (b21, .inl (G.2 0, 256, .inl y_1455))] H := hP
      have hD := z_tie hP hD rfl
      refine lv_aload_n hx hb d_Words_goOn_106 rfl (lv_at hl 1 rfl) ?_
      refine va_get (D := G.1) (ci := 7) (v := .ref b6) (C := R_Words) (T := F_Words) (N := 8) hx hb hts i_Words hown hK hP 0 rfl rfl 4 (by decide) (hts _ q270) (fun _ h9 => h9) rfl d_Words_goOn_107 ?_
      refine lv_astore_n (lv' := [(3, .ref b6), (2, .ref b4), (0, .ref b0), (1, .ref b1)]) hx hb d_Words_goOn_110 rfl hl (by decide) rfl (fun ls hl => ?_)
      refine lv_aload_n hx hb d_Words_goOn_111 rfl (lv_at hl 2 rfl) ?_
      refine lv_aload_n hx hb d_Words_goOn_112 rfl (lv_at hl 2 rfl) ?_
      refine va_get (D := G.1) (ci := 7) (v := .ref b7) (C := R_Words) (T := F_Words) (N := 8) hx hb hts i_Words hown hK hP 0 rfl rfl 5 (by decide) (hts _ q271) (fun _ h9 => h9) rfl d_Words_goOn_113 ?_
      refine va_put (D := G.1) (ci := 7) (v := .ref b7) (ty := .array .int) (C := R_Words) (T := F_Words) (N := 8) hx hb hts i_Words t_Words t_Words_ok n_Words hown hK hP hD hS 0 rfl rfl 4 (by decide) (hts _ q270) (fun _ h9 => h9) rfl (by decide +kernel) rfl rfl (Nat.le_of_ble_eq_true rfl) d_Words_goOn_116 (fun H locs hP hD hS => ?_)
      have hP : va_P G.1 classes [(b0, .inr (7, [.ref b2, .ref b3, .ref b5, .ref b4, .ref b7, .ref b7, .ref b8, .ref b9])), (b3, .inr (6, [.int b10, .int 4, .int 10, .ref b11, .ref b12])), (b11, .inl (G.2 1, 40, .inr (.inl y_1453))), (b4, .inr (6, [.int b14, .int 4, .int 100, .ref b15, .ref b16])), (b15, .inl (G.2 1, 400, .inr (.inl b17))), (b16, .inl (G.2 0, 256, .inl b18)), (b20, .inl (G.2 1, 400, .inr (.inl y_1454))), (b6, .inl (G.2 0, 100, .inl b24)), (b7, .inl (G.2 0, 100, .inl y_1456)), (b1, .inr (5, [.int b26, .int b27, .ref b28, .ref b29, .ref b30, .ref b31, .ref b32, .ref b33, .int b34, .ref b35, .ref b36, .ref b37, .ref b38, .ref b39, .ref b40])), (b35, .inl (G.2 0, 240, .inl b41)), (b39, .inl (G.2 0, 242, .inl b42)), (b5, .inr (6, [.int y_1452, .int 4, .int 100, .ref b20, .ref b21])), (b21, .inl (G.2 0, 256, .inl y_1455))] H := hP
      have hD := z_tie hP hD rfl
      refine lv_aload_n hx hb d_Words_goOn_119 rfl (lv_at hl 2 rfl) ?_
      refine lv_aload_n hx hb d_Words_goOn_120 rfl (lv_at hl 0 rfl) ?_
      refine va_put (D := G.1) (ci := 7) (v := .ref b6) (ty := .array .int) (C := R_Words) (T := F_Words) (N := 8) hx hb hts i_Words t_Words t_Words_ok n_Words hown hK hP hD hS 0 rfl rfl 5 (by decide) (hts _ q271) (fun _ h9 => h9) rfl (by decide +kernel) rfl rfl (Nat.le_of_ble_eq_true rfl) d_Words_goOn_121 (fun H locs hP hD hS => ?_)
      have hP : va_P G.1 classes [(b0, .inr (7, [.ref b2, .ref b3, .ref b5, .ref b4, .ref b7, .ref b6, .ref b8, .ref b9])), (b3, .inr (6, [.int b10, .int 4, .int 10, .ref b11, .ref b12])), (b11, .inl (G.2 1, 40, .inr (.inl y_1453))), (b4, .inr (6, [.int b14, .int 4, .int 100, .ref b15, .ref b16])), (b15, .inl (G.2 1, 400, .inr (.inl b17))), (b16, .inl (G.2 0, 256, .inl b18)), (b20, .inl (G.2 1, 400, .inr (.inl y_1454))), (b6, .inl (G.2 0, 100, .inl b24)), (b7, .inl (G.2 0, 100, .inl y_1456)), (b1, .inr (5, [.int b26, .int b27, .ref b28, .ref b29, .ref b30, .ref b31, .ref b32, .ref b33, .int b34, .ref b35, .ref b36, .ref b37, .ref b38, .ref b39, .ref b40])), (b35, .inl (G.2 0, 240, .inl b41)), (b39, .inl (G.2 0, 242, .inl b42)), (b5, .inr (6, [.int y_1452, .int 4, .int 100, .ref b20, .ref b21])), (b21, .inl (G.2 0, 256, .inl y_1455))] H := hP
      have hD := z_tie hP hD rfl
      refine lv_iconst (v := 1) hx hb d_Words_goOn_124 (by decide) ?_
      exact z_zret hx hb hr hlocks rfl (hP.sub [0, 1, 2, 12, 6, 13, 3, 4, 5, 8, 7, 9, 10, 11] rfl) (hD.sub [0, 1, 2, 12, 6, 13, 3, 4, 5, 8, 7, 9, 10, 11] (by decide) rfl) hS (Nat.le_of_ble_eq_true rfl) (Nat.le_of_ble_eq_true rfl) d_Words_goOn_125 ⟨1, b5, b20, b21, b4, b15, b16, b7, b6, y_1453, y_1452, y_1454, y_1455, b14, b17, b18, y_1456, b24, rfl, rfl, (zI.wk (l' := 0) (h' := 1) zc_1 (by decide)), hy_1453, hy_1452, hy_1454, hy_1455, hb14, hb17, hb18⟩
    · have _nhc_1457 := hc_1457
      have ni_1459 := (fa_lt _ _).mp (zi_nle hc_1457)
      have hv_1460 : zI y_1451 0 99 := zI.lt_l hy_1451 hb14 (zi_nle hc_1457) (by decide)
      have hv_1461 : zI b14 1 100 := zI.lt_r hy_1451 hb14 (zi_nle hc_1457) (by decide)
      refine lv_aload_n hx hb d_Words_goOn_20 rfl (lv_at hl 1 rfl) ?_
      refine va_get (D := G.1) (ci := 7) (v := .ref b3) (C := R_Words) (T := F_Words) (N := 8) hx hb hts i_Words hown hK hP 0 rfl rfl 1 (by decide) (hts _ q267) (fun _ h9 => h9) rfl d_Words_goOn_21 ?_
      refine z_callV (index := 48) (As := []) (rest := []) (wr := [(b0, .inr (7, [.ref b2, .ref b3, .ref b4, .ref b5, .ref b6, .ref b7, .ref b8, .ref b9])), (b4, .inr (6, [.int b14, .int 4, .int 100, .ref b15, .ref b16])), (b15, .inl (G.2 1, 400, .inr (.inl b17))), (b16, .inl (G.2 0, 256, .inl b18)), (b20, .inl (G.2 1, 400, .inr (.inl y_1454))), (b6, .inl (G.2 0, 100, .inl b24)), (b7, .inl (G.2 0, 100, .inl y_1456)), (b1, .inr (5, [.int b26, .int b27, .ref b28, .ref b29, .ref b30, .ref b31, .ref b32, .ref b33, .int b34, .ref b35, .ref b36, .ref b37, .ref b38, .ref b39, .ref b40])), (b35, .inl (G.2 0, 240, .inl b41)), (b39, .inl (G.2 0, 242, .inl b42)), (b5, .inr (6, [.int y_1452, .int 4, .int 100, .ref b20, .ref b21])), (b21, .inl (G.2 0, 256, .inl y_1455))]) Z (s5_Sets_clear l G (b3) (b10) (b11) (b12) (y_1453) hb10 hy_1453) hl.1 q823 q705 q706 q7 q707 ⟨by decide, by decide, by show _ = some 0; decide +kernel⟩ ⟨Nat.le_of_ble_eq_true rfl, Nat.le_of_ble_eq_true rfl⟩ ⟨Nat.le_of_ble_eq_true rfl, Nat.le_of_ble_eq_true rfl⟩ rfl (Nat.le_of_ble_eq_true rfl) d_Words_goOn_24 hP hD hS hA 1 6 rfl rfl rfl [1, 2] [0, 3, 4, 5, 6, 7, 8, 9, 10, 11, 12, 13] rfl rfl rfl rfl (by decide) (fun v w1 H locs hw_1462 hP hD hS => ?_)
      obtain ⟨f_1463, rfl, rfl, hf_1463⟩ := hw_1462
      have hP : va_P G.1 classes [(b0, .inr (7, [.ref b2, .ref b3, .ref b4, .ref b5, .ref b6, .ref b7, .ref b8, .ref b9])), (b4, .inr (6, [.int b14, .int 4, .int 100, .ref b15, .ref b16])), (b15, .inl (G.2 1, 400, .inr (.inl b17))), (b16, .inl (G.2 0, 256, .inl b18)), (b20, .inl (G.2 1, 400, .inr (.inl y_1454))), (b6, .inl (G.2 0, 100, .inl b24)), (b7, .inl (G.2 0, 100, .inl y_1456)), (b1, .inr (5, [.int b26, .int b27, .ref b28, .ref b29, .ref b30, .ref b31, .ref b32, .ref b33, .int b34, .ref b35, .ref b36, .ref b37, .ref b38, .ref b39, .ref b40])), (b35, .inl (G.2 0, 240, .inl b41)), (b39, .inl (G.2 0, 242, .inl b42)), (b5, .inr (6, [.int y_1452, .int 4, .int 100, .ref b20, .ref b21])), (b21, .inl (G.2 0, 256, .inl y_1455)), (b3, .inr (6, [.int b10, .int 4, .int 10, .ref b11, .ref b12])), (b11, .inl (G.2 1, 40, .inr (.inl f_1463)))] H := hP
      have hD := z_tie hP hD rfl
      refine W.widen (k := 0) (n := 0) (Nat.le_of_ble_eq_true rfl) (Nat.le_of_ble_eq_true rfl) ?_
      refine lv_aload_n hx hb d_Words_goOn_27 rfl (lv_at hl 2 rfl) ?_
      refine lv_aload_n hx hb d_Words_goOn_28 rfl (lv_at hl 1 rfl) ?_
      refine va_get (D := G.1) (ci := 7) (v := .ref b4) (C := R_Words) (T := F_Words) (N := 8) hx hb hts i_Words hown hK hP 0 rfl rfl 2 (by decide) (hts _ q268) (fun _ h9 => h9) rfl d_Words_goOn_29 ?_
      refine lv_iload_n hx hb d_Words_goOn_32 rfl (lv_at hl 0 rfl) ?_
      refine lv_iconst (v := 0) hx hb d_Words_goOn_33 (by decide) ?_
      refine lv_aload_n hx hb d_Words_goOn_34 rfl (lv_at hl 1 rfl) ?_
      refine va_get (D := G.1) (ci := 7) (v := .ref b3) (C := R_Words) (T := F_Words) (N := 8) hx hb hts i_Words hown hK hP 0 rfl rfl 1 (by decide) (hts _ q267) (fun _ h9 => h9) rfl d_Words_goOn_35 ?_
      refine z_callV (index := 77) (As := [.ref b4, .int y_1451, .int 0, .ref b3]) (rest := []) (wr := [(b0, .inr (7, [.ref b2, .ref b3, .ref b4, .ref b5, .ref b6, .ref b7, .ref b8, .ref b9])), (b16, .inl (G.2 0, 256, .inl b18)), (b20, .inl (G.2 1, 400, .inr (.inl y_1454))), (b6, .inl (G.2 0, 100, .inl b24)), (b7, .inl (G.2 0, 100, .inl y_1456)), (b5, .inr (6, [.int y_1452, .int 4, .int 100, .ref b20, .ref b21])), (b21, .inl (G.2 0, 256, .inl y_1455))]) Z (s4_Machine_fan l G (b1) (b4) (y_1451) (0) (b3) (b26) (b27) (b28) (b29) (b30) (b31) (b32) (b33) (b34) (b35) (b36) (b37) (b38) (b39) (b40) (b41) (b42) (b14) (b15) (b16) (b17) (b10) (b11) (b12) (f_1463) hv_1460 zc_0 hb26 hb27 hb34 (zI.wk (l' := 0) (h' := 100) hv_1461 (by decide)) hb10 hb41 hb42 hb17 hf_1463) hl.1 q853 q854 q855 q6 q856 ⟨by decide, by decide, by show _ = some 4; decide +kernel⟩ ⟨Nat.le_of_ble_eq_true rfl, Nat.le_of_ble_eq_true rfl⟩ ⟨Nat.le_of_ble_eq_true rfl, Nat.le_of_ble_eq_true rfl⟩ rfl (Nat.le_of_ble_eq_true rfl) d_Words_goOn_38 hP hD hS hA 7 5 rfl rfl rfl [7, 8, 9, 1, 2, 12, 13] [0, 3, 4, 5, 6, 10, 11] rfl rfl rfl rfl (by decide) (fun v w1 H locs hw_1464 hP hD hS => ?_)
      obtain ⟨f_1465, rfl, rfl, hf_1465⟩ := hw_1464
      have hP : va_P G.1 classes [(b0, .inr (7, [.ref b2, .ref b3, .ref b4, .ref b5, .ref b6, .ref b7, .ref b8, .ref b9])), (b16, .inl (G.2 0, 256, .inl b18)), (b20, .inl (G.2 1, 400, .inr (.inl y_1454))), (b6, .inl (G.2 0, 100, .inl b24)), (b7, .inl (G.2 0, 100, .inl y_1456)), (b5, .inr (6, [.int y_1452, .int 4, .int 100, .ref b20, .ref b21])), (b21, .inl (G.2 0, 256, .inl y_1455)), (b1, .inr (5, [.int b26, .int b27, .ref b28, .ref b29, .ref b30, .ref b31, .ref b32, .ref b33, .int b34, .ref b35, .ref b36, .ref b37, .ref b38, .ref b39, .ref b40])), (b35, .inl (G.2 0, 240, .inl b41)), (b39, .inl (G.2 0, 242, .inl b42)), (b4, .inr (6, [.int b14, .int 4, .int 100, .ref b15, .ref b16])), (b15, .inl (G.2 1, 400, .inr (.inl b17))), (b3, .inr (6, [.int b10, .int 4, .int 10, .ref b11, .ref b12])), (b11, .inl (G.2 1, 40, .inr (.inl f_1465)))] H := hP
      have hD := z_tie hP hD rfl
      refine W.widen (k := 0) (n := 0) (Nat.le_of_ble_eq_true rfl) (Nat.le_of_ble_eq_true rfl) ?_
      refine lv_iconst (v := 0) hx hb d_Words_goOn_41 (by decide) ?_
      refine lv_istore_n (lv' := [(3, .int 0), (2, .int y_1451), (0, .ref b0), (1, .ref b1)]) hx hb d_Words_goOn_42 rfl hl (by decide) rfl (fun ls hl => ?_)
      suffices key : ∀ (k_1627 : Nat) (y_1628 : Int32) (y_1629 : Int32) (y_1630 : Nat → Int64) (y_1631 : Nat → Int32) (y_1632 : Nat → Int32) (H : Heap) (locs : List Loc) (ls : Array Slot), (zI y_1628 0 10) → (zI y_1629 0 100) → (zqa qB y_1630) → (zR y_1631 (-1) 99) → (10 : Int) - y_1628.toInt < (k_1627 : Int) → va_P G.1 classes [(b0, .inr (7, [.ref b2, .ref b3, .ref b4, .ref b5, .ref b6, .ref b7, .ref b8, .ref b9])), (b16, .inl (G.2 0, 256, .inl b18)), (b20, .inl (G.2 1, 400, .inr (.inl y_1630))), (b6, .inl (G.2 0, 100, .inl b24)), (b7, .inl (G.2 0, 100, .inl y_1632)), (b5, .inr (6, [.int y_1629, .int 4, .int 100, .ref b20, .ref b21])), (b21, .inl (G.2 0, 256, .inl y_1631)), (b1, .inr (5, [.int b26, .int b27, .ref b28, .ref b29, .ref b30, .ref b31, .ref b32, .ref b33, .int b34, .ref b35, .ref b36, .ref b37, .ref b38, .ref b39, .ref b40])), (b35, .inl (G.2 0, 240, .inl b41)), (b39, .inl (G.2 0, 242, .inl b42)), (b4, .inr (6, [.int b14, .int 4, .int 100, .ref b15, .ref b16])), (b15, .inl (G.2 1, 400, .inr (.inl b17))), (b3, .inr (6, [.int b10, .int 4, .int 10, .ref b11, .ref b12])), (b11, .inl (G.2 1, 40, .inr (.inl f_1465)))] H → va_D A [(b0, .inr (7, [.ref b2, .ref b3, .ref b4, .ref b5, .ref b6, .ref b7, .ref b8, .ref b9])), (b16, .inl (G.2 0, 256, .inl b18)), (b20, .inl (G.2 1, 400, .inr (.inl y_1630))), (b6, .inl (G.2 0, 100, .inl b24)), (b7, .inl (G.2 0, 100, .inl y_1632)), (b5, .inr (6, [.int y_1629, .int 4, .int 100, .ref b20, .ref b21])), (b21, .inl (G.2 0, 256, .inl y_1631)), (b1, .inr (5, [.int b26, .int b27, .ref b28, .ref b29, .ref b30, .ref b31, .ref b32, .ref b33, .int b34, .ref b35, .ref b36, .ref b37, .ref b38, .ref b39, .ref b40])), (b35, .inl (G.2 0, 240, .inl b41)), (b39, .inl (G.2 0, 242, .inl b42)), (b4, .inr (6, [.int b14, .int 4, .int 100, .ref b15, .ref b16])), (b15, .inl (G.2 1, 400, .inr (.inl b17))), (b3, .inr (6, [.int b10, .int 4, .int 10, .ref b11, .ref b12])), (b11, .inl (G.2 1, 40, .inr (.inl f_1465)))] → va_S A s.heap H locs → lv_has ls 4 [(3, .int y_1628), (2, .int y_1451), (0, .ref b0), (1, .ref b1)] → W p l e m_s2_Words_goOn s m ([.ref b0, .ref b1] : List Value).toArray below meth c H locs 0 0 (MQ below (zQ G (fun v w => ∃ (e0 : Int32), ∃ (e1 : Nat), ∃ (e2 : Nat), ∃ (e3 : Nat), ∃ (e4 : Nat), ∃ (e5 : Nat), ∃ (e6 : Nat), ∃ (e7 : Nat), ∃ (e8 : Nat), ∃ (e9 : Nat → Int64), ∃ (e10 : Int32), ∃ (e11 : Nat → Int64), ∃ (e12 : Nat → Int32), ∃ (e13 : Int32), ∃ (e14 : Nat → Int64), ∃ (e15 : Nat → Int32), ∃ (e16 : Nat → Int32), ∃ (e17 : Nat → Int32), v = some (.int e0) ∧ w = [(b0, .inr (7, [.ref b2, .ref b3, .ref e1, .ref e4, .ref e7, .ref e8, .ref b8, .ref b9])), (b3, .inr (6, [.int b10, .int 4, .int 10, .ref b11, .ref b12])), (b11, .inl (G.2 1, 40, .inr (.inl e9))), (e1, .inr (6, [.int e10, .int 4, .int 100, .ref e2, .ref e3])), (e2, .inl (G.2 1, 400, .inr (.inl e11))), (e3, .inl (G.2 0, 256, .inl e12)), (e4, .inr (6, [.int e13, .int 4, .int 100, .ref e5, .ref e6])), (e5, .inl (G.2 1, 400, .inr (.inl e14))), (e6, .inl (G.2 0, 256, .inl e15)), (e7, .inl (G.2 0, 100, .inl e16)), (e8, .inl (G.2 0, 100, .inl e17)), (b1, .inr (5, [.int b26, .int b27, .ref b28, .ref b29, .ref b30, .ref b31, .ref b32, .ref b33, .int b34, .ref b35, .ref b36, .ref b37, .ref b38, .ref b39, .ref b40])), (b35, .inl (G.2 0, 240, .inl b41)), (b39, .inl (G.2 0, 242, .inl b42))] ∧ (zI e0 0 1) ∧ (zqa qB e9) ∧ (zI e10 0 100) ∧ (zqa qB e11) ∧ (zR e12 (-1) 99) ∧ (zI e13 0 100) ∧ (zqa qB e14) ∧ (zR e15 (-1) 99)) A) ([.ref b0, .ref b1] : List Value).toArray s m_s2_Words_goOn.cells m_s2_Words_goOn.slots A) (F0 m 43 ls []) by
        exact key 11 (0) (y_1452) (y_1454) (y_1455) (y_1456) _ _ _ (zI.wk (l' := 0) (h' := 10) zc_0 (by decide)) hy_1452 hy_1454 hy_1455 (zm_upi (zI.wk (l' := 0) (h' := 10) zc_0 (by decide)) (by decide)) hP hD hS (lv_sub hl [0, 1, 2, 3] rfl)
      intro k_1627
      induction k_1627 with
      | zero =>
        intro y_1628 y_1629 y_1630 y_1631 y_1632 H locs ls hy_1628 hy_1629 hy_1630 hy_1631 hmk_1627 hP hD hS hl
        exact (zm_up0 hy_1628 hmk_1627).elim
      | succ k_1627 ihk_1627 =>
        intro y_1628 y_1629 y_1630 y_1631 y_1632 H locs ls hy_1628 hy_1629 hy_1630 hy_1631 hmk_1627 hP hD hS hl
        refine lv_iload_n hx hb d_Words_goOn_43 rfl (lv_at hl 0 rfl) ?_
        refine lv_bipush (v := 10) hx hb d_Words_goOn_44 (by decide) ?_
        refine lv_icmp_ge (tgt := 82) hx hb d_Words_goOn_46 (by decide) (fun hc_1633 => ?_) (fun hc_1633 => ?_)
        · have _nhc_1633 := hc_1633
          have ni_1634 := (fa_le _ _).mp hc_1633
          rw [li_10] at ni_1634
          have hv_1635 : zI y_1628 10 10 := zI.le_r zc_10 hy_1628 hc_1633 (by decide)
          obtain ⟨v_1636, ev_1636⟩ : ∃ z : Int32, z = y_1451 + 1 := ⟨_, rfl⟩
          obtain ⟨qv_1636, hv_1636⟩ := zI_add (l := 1) (h := 100) hv_1460 zc_1 ev_1636 (by decide)
          rw [li_1] at qv_1636
          refine lv_iinc (v := v_1636) (lv' := [(2, .int v_1636), (3, .int y_1628), (0, .ref b0), (1, .ref b1)]) hx hb d_Words_goOn_82 hl (k := 1) rfl (by rw [ev_1636]; rfl) (by decide) rfl (fun ls hl => ?_)
          refine lv_goto (tgt := 9) hx hb d_Words_goOn_85 (by decide) ?_
          exact ihk_1450 (v_1636) (y_1629) (f_1465) (y_1630) (y_1631) (y_1632) _ _ _ (zI.wk (l' := 0) (h' := 100) hv_1636 (by decide)) hy_1629 hf_1465 hy_1630 hy_1631 (zm_up qv_1636 hmk_1450 (by decide)) (hP.sub [0, 12, 13, 10, 11, 1, 2, 3, 4, 7, 8, 9, 5, 6] rfl) (hD.sub [0, 12, 13, 10, 11, 1, 2, 3, 4, 7, 8, 9, 5, 6] (by decide) rfl) hS (lv_sub hl [0, 2, 3] rfl)
        · have _nhc_1633 := hc_1633
          have ni_1637 := (fa_lt _ _).mp (zi_nle hc_1633)
          rw [li_10] at ni_1637
          have hv_1638 : zI y_1628 0 9 := zI.lt_l hy_1628 zc_10 (zi_nle hc_1633) (by decide)
          refine lv_aload_n hx hb d_Words_goOn_49 rfl (lv_at hl 2 rfl) ?_
          refine va_get (D := G.1) (ci := 7) (v := .ref b3) (C := R_Words) (T := F_Words) (N := 8) hx hb hts i_Words hown hK hP 0 rfl rfl 1 (by decide) (hts _ q267) (fun _ h9 => h9) rfl d_Words_goOn_50 ?_
          refine lv_iload_n hx hb d_Words_goOn_53 rfl (lv_at hl 0 rfl) ?_
          refine z_callV (index := 80) (As := [.int y_1628]) (rest := []) (wr := [(b0, .inr (7, [.ref b2, .ref b3, .ref b4, .ref b5, .ref b6, .ref b7, .ref b8, .ref b9])), (b16, .inl (G.2 0, 256, .inl b18)), (b20, .inl (G.2 1, 400, .inr (.inl y_1630))), (b6, .inl (G.2 0, 100, .inl b24)), (b7, .inl (G.2 0, 100, .inl y_1632)), (b5, .inr (6, [.int y_1629, .int 4, .int 100, .ref b20, .ref b21])), (b21, .inl (G.2 0, 256, .inl y_1631)), (b1, .inr (5, [.int b26, .int b27, .ref b28, .ref b29, .ref b30, .ref b31, .ref b32, .ref b33, .int b34, .ref b35, .ref b36, .ref b37, .ref b38, .ref b39, .ref b40])), (b35, .inl (G.2 0, 240, .inl b41)), (b39, .inl (G.2 0, 242, .inl b42)), (b4, .inr (6, [.int b14, .int 4, .int 100, .ref b15, .ref b16])), (b15, .inl (G.2 1, 400, .inr (.inl b17)))]) Z (s3_Sets_isEmpty l G (b3) (y_1628) (b10) (b11) (b12) (f_1465) hv_1638 hb10 hf_1465) hl.1 q857 q739 q740 q7 q741 ⟨by decide, by decide, by show _ = some 1; decide +kernel⟩ ⟨Nat.le_of_ble_eq_true rfl, Nat.le_of_ble_eq_true rfl⟩ ⟨Nat.le_of_ble_eq_true rfl, Nat.le_of_ble_eq_true rfl⟩ rfl (Nat.le_of_ble_eq_true rfl) d_Words_goOn_54 hP hD hS hA 12 6 rfl rfl rfl [12, 13] [0, 1, 2, 3, 4, 5, 6, 7, 8, 9, 10, 11] rfl rfl rfl rfl (by decide) (fun v w1 H locs hw_1639 hP hD hS => ?_)
          obtain ⟨x_1640, rfl, rfl, hx_1640⟩ := hw_1639
          have hP : va_P G.1 classes [(b0, .inr (7, [.ref b2, .ref b3, .ref b4, .ref b5, .ref b6, .ref b7, .ref b8, .ref b9])), (b16, .inl (G.2 0, 256, .inl b18)), (b20, .inl (G.2 1, 400, .inr (.inl y_1630))), (b6, .inl (G.2 0, 100, .inl b24)), (b7, .inl (G.2 0, 100, .inl y_1632)), (b5, .inr (6, [.int y_1629, .int 4, .int 100, .ref b20, .ref b21])), (b21, .inl (G.2 0, 256, .inl y_1631)), (b1, .inr (5, [.int b26, .int b27, .ref b28, .ref b29, .ref b30, .ref b31, .ref b32, .ref b33, .int b34, .ref b35, .ref b36, .ref b37, .ref b38, .ref b39, .ref b40])), (b35, .inl (G.2 0, 240, .inl b41)), (b39, .inl (G.2 0, 242, .inl b42)), (b4, .inr (6, [.int b14, .int 4, .int 100, .ref b15, .ref b16])), (b15, .inl (G.2 1, 400, .inr (.inl b17))), (b3, .inr (6, [.int b10, .int 4, .int 10, .ref b11, .ref b12])), (b11, .inl (G.2 1, 40, .inr (.inl f_1465)))] H := hP
          have hD := z_tie hP hD rfl
          refine W.widen (k := 0) (n := 0) (Nat.le_of_ble_eq_true rfl) (Nat.le_of_ble_eq_true rfl) ?_
          refine lv_if_ne (tgt := 76) hx hb d_Words_goOn_57 (by decide) (fun hc_1641 => ?_) (fun hc_1641 => ?_)
          · have _nhc_1641 := hc_1641
            have ni_1642 : ¬ (x_1640 : Int32).toInt = (0 : Int32).toInt := fun z => hc_1641 ((fa_eq _ _).mpr z)
            simp only [li_0] at ni_1642
            have hv_1643 : zI x_1640 1 1 := zI.ne_lo hx_1640 zc_0 hc_1641 (by decide)
            obtain ⟨v_1644, ev_1644⟩ : ∃ z : Int32, z = y_1628 + 1 := ⟨_, rfl⟩
            obtain ⟨qv_1644, hv_1644⟩ := zI_add (l := 1) (h := 10) hv_1638 zc_1 ev_1644 (by decide)
            rw [li_1] at qv_1644
            refine lv_iinc (v := v_1644) (lv' := [(3, .int v_1644), (2, .int y_1451), (0, .ref b0), (1, .ref b1)]) hx hb d_Words_goOn_76 hl (k := 0) rfl (by rw [ev_1644]; rfl) (by decide) rfl (fun ls hl => ?_)
            refine lv_goto (tgt := 43) hx hb d_Words_goOn_79 (by decide) ?_
            exact ihk_1627 (v_1644) (y_1629) (y_1630) (y_1631) (y_1632) _ _ _ (zI.wk (l' := 0) (h' := 10) hv_1644 (by decide)) hy_1629 hy_1630 hy_1631 (zm_up qv_1644 hmk_1627 (by decide)) hP hD hS (lv_sub hl [0, 1, 2, 3] rfl)
          · have _nhc_1641 := hc_1641
            have ni_1645 := (fa_eq _ _).mp hc_1641
            rw [li_0] at ni_1645
            have hv_1646 : zI x_1640 0 0 := zI.eq_l hx_1640 zc_0 hc_1641
            refine lv_aload_n hx hb d_Words_goOn_60 rfl (lv_at hl 2 rfl) ?_
            refine lv_iload_n hx hb d_Words_goOn_61 rfl (lv_at hl 0 rfl) ?_
            refine lv_aload_n hx hb d_Words_goOn_62 rfl (lv_at hl 2 rfl) ?_
            refine va_get (D := G.1) (ci := 7) (v := .ref b6) (C := R_Words) (T := F_Words) (N := 8) hx hb hts i_Words hown hK hP 0 rfl rfl 4 (by decide) (hts _ q270) (fun _ h9 => h9) rfl d_Words_goOn_63 ?_
            refine lv_iload_n hx hb d_Words_goOn_66 rfl (lv_at hl 1 rfl) ?_
            refine va_iald hx hb hK hP 3 0 rfl rfl (zI.inn hv_1460 (by decide)) d_Words_goOn_67 ?_
            refine lv_topi (fun v_1647 ev_1647 => ?_)
            refine z_callV (index := 84) (As := [.int y_1628, .int v_1647]) (rest := []) (wr := [(b16, .inl (G.2 0, 256, .inl b18)), (b6, .inl (G.2 0, 100, .inl b24)), (b1, .inr (5, [.int b26, .int b27, .ref b28, .ref b29, .ref b30, .ref b31, .ref b32, .ref b33, .int b34, .ref b35, .ref b36, .ref b37, .ref b38, .ref b39, .ref b40])), (b35, .inl (G.2 0, 240, .inl b41)), (b39, .inl (G.2 0, 242, .inl b42)), (b4, .inr (6, [.int b14, .int 4, .int 100, .ref b15, .ref b16])), (b15, .inl (G.2 1, 400, .inr (.inl b17)))]) Z (s2_Words_comeTo l G (b0) (y_1628) (v_1647) (b2) (b3) (b4) (b5) (b6) (b7) (b8) (b9) (b10) (b11) (b12) (f_1465) (y_1629) (b20) (b21) (y_1630) (y_1631) (y_1632) hv_1638 hb10 hy_1629 hf_1465 hy_1630 hy_1631) hl.1 q858 q860 qs27 q8 q861 ⟨by decide, by decide, by show _ = some 2; decide +kernel⟩ ⟨Nat.le_of_ble_eq_true rfl, Nat.le_of_ble_eq_true rfl⟩ ⟨Nat.le_of_ble_eq_true rfl, Nat.le_of_ble_eq_true rfl⟩ rfl (Nat.le_of_ble_eq_true rfl) d_Words_goOn_68 hP hD hS hA 0 7 rfl rfl rfl [0, 12, 13, 5, 2, 6, 4] [1, 3, 7, 8, 9, 10, 11] rfl rfl rfl rfl (by decide) (fun v w1 H locs hw_1648 hP hD hS => ?_)
            obtain ⟨x_1649, x_1650, f_1651, f_1652, f_1653, rfl, rfl, hx_1649, hx_1650, hf_1651, hf_1652⟩ := hw_1648
            have hP : va_P G.1 classes [(b16, .inl (G.2 0, 256, .inl b18)), (b6, .inl (G.2 0, 100, .inl b24)), (b1, .inr (5, [.int b26, .int b27, .ref b28, .ref b29, .ref b30, .ref b31, .ref b32, .ref b33, .int b34, .ref b35, .ref b36, .ref b37, .ref b38, .ref b39, .ref b40])), (b35, .inl (G.2 0, 240, .inl b41)), (b39, .inl (G.2 0, 242, .inl b42)), (b4, .inr (6, [.int b14, .int 4, .int 100, .ref b15, .ref b16])), (b15, .inl (G.2 1, 400, .inr (.inl b17))), (b0, .inr (7, [.ref b2, .ref b3, .ref b4, .ref b5, .ref b6, .ref b7, .ref b8, .ref b9])), (b3, .inr (6, [.int b10, .int 4, .int 10, .ref b11, .ref b12])), (b11, .inl (G.2 1, 40, .inr (.inl f_1465))), (b5, .inr (6, [.int x_1650, .int 4, .int 100, .ref b20, .ref b21])), (b20, .inl (G.2 1, 400, .inr (.inl f_1651))), (b21, .inl (G.2 0, 256, .inl f_1652)), (b7, .inl (G.2 0, 100, .inl f_1653))] H := hP
            have hD := z_tie hP hD rfl
            refine W.widen (k := 0) (n := 0) (Nat.le_of_ble_eq_true rfl) (Nat.le_of_ble_eq_true rfl) ?_
            refine lv_if_ne (tgt := 76) hx hb d_Words_goOn_71 (by decide) (fun hc_1654 => ?_) (fun hc_1654 => ?_)
            · have _nhc_1654 := hc_1654
              have ni_1655 : ¬ (x_1649 : Int32).toInt = (0 : Int32).toInt := fun z => hc_1654 ((fa_eq _ _).mpr z)
              simp only [li_0] at ni_1655
              have hv_1656 : zI x_1649 1 1 := zI.ne_lo hx_1649 zc_0 hc_1654 (by decide)
              obtain ⟨v_1657, ev_1657⟩ : ∃ z : Int32, z = y_1628 + 1 := ⟨_, rfl⟩
              obtain ⟨qv_1657, hv_1657⟩ := zI_add (l := 1) (h := 10) hv_1638 zc_1 ev_1657 (by decide)
              rw [li_1] at qv_1657
              refine lv_iinc (v := v_1657) (lv' := [(3, .int v_1657), (2, .int y_1451), (0, .ref b0), (1, .ref b1)]) hx hb d_Words_goOn_76 hl (k := 0) rfl (by rw [ev_1657]; rfl) (by decide) rfl (fun ls hl => ?_)
              refine lv_goto (tgt := 43) hx hb d_Words_goOn_79 (by decide) ?_
              exact ihk_1627 (v_1657) (x_1650) (f_1651) (f_1652) (f_1653) _ _ _ (zI.wk (l' := 0) (h' := 10) hv_1657 (by decide)) hx_1650 hf_1651 hf_1652 (zm_up qv_1657 hmk_1627 (by decide)) (hP.sub [7, 0, 11, 1, 13, 10, 12, 2, 3, 4, 5, 6, 8, 9] rfl) (hD.sub [7, 0, 11, 1, 13, 10, 12, 2, 3, 4, 5, 6, 8, 9] (by decide) rfl) hS (lv_sub hl [0, 1, 2, 3] rfl)
            · have _nhc_1654 := hc_1654
              have ni_1658 := (fa_eq _ _).mp hc_1654
              rw [li_0] at ni_1658
              have hv_1659 : zI x_1649 0 0 := zI.eq_l hx_1649 zc_0 hc_1654
              refine lv_iconst (v := 0) hx hb d_Words_goOn_74 (by decide) ?_
              exact z_zret hx hb hr hlocks rfl (hP.sub [7, 8, 9, 5, 6, 0, 10, 11, 12, 1, 13, 2, 3, 4] rfl) (hD.sub [7, 8, 9, 5, 6, 0, 10, 11, 12, 1, 13, 2, 3, 4] (by decide) rfl) hS (Nat.le_of_ble_eq_true rfl) (Nat.le_of_ble_eq_true rfl) d_Words_goOn_75 ⟨0, b4, b15, b16, b5, b20, b21, b6, b7, f_1465, b14, b17, b18, x_1650, f_1651, f_1652, b24, f_1653, rfl, rfl, (zI.wk (l' := 0) (h' := 1) zc_0 (by decide)), hf_1465, (zI.wk (l' := 0) (h' := 100) hv_1461 (by decide)), hb17, hb18, hx_1650, hf_1651, hf_1652⟩
theorem d_Words_number_93 : decode prog_12_method_2_code 93 = .ok (.ireturn, 1) := by decide +kernel
abbrev m_s7_Machine_takes : Room := { frames := 1, cells := 0, slots := 0, locals := 23 }
set_option maxHeartbeats 4000000 in
set_option maxRecDepth 100000 in
theorem s7_Machine_takes (l : Launch) (G : zG) (b0 : Nat) (b1 : Nat) (b2 : Int32) (b3 : Int32) (b4 : Int32) (b5 : Int32) (b6 : Nat) (b7 : Nat) (b8 : Nat) (b9 : Nat) (b10 : Nat) (b11 : Nat) (b12 : Int32) (b13 : Nat) (b14 : Nat) (b15 : Nat) (b16 : Nat) (b17 : Nat) (b18 : Nat) (b19 : Nat → Int64) (b20 : Int32) (b21 : Nat) (b22 : Nat) (b23 : Nat → Int64) (hb2 : zI b2 0 99) (hb3 : zI b3 0 0) (hb4 : zI b4 0 1) (hb5 : zI b5 0 241) (hb12 : zI b12 0 240) (hb20 : zI b20 0 100) (hb23 : zqa qB b23) : zM l G y_Machine_takes prog_4_method_18_code 5 (Option.some Jvm.ClassFile.FieldType.boolean) m_s7_Machine_takes [.ref b0, .ref b1, .int b2, .int b3] [(b0, .inr (5, [.int b4, .int b5, .ref b6, .ref b7, .ref b8, .ref b9, .ref b10, .ref b11, .int b12, .ref b13, .ref b14, .ref b15, .ref b16, .ref b17, .ref b18])), (b11, .inl (G.2 1, 4, .inr (.inl b19))), (b1, .inr (6, [.int b20, .int 4, .int 100, .ref b21, .ref b22])), (b21, .inl (G.2 1, 400, .inr (.inl b23)))] (fun v w => ∃ (e0 : Int32), v = some (.int e0) ∧ w = [(b0, .inr (5, [.int b4, .int b5, .ref b6, .ref b7, .ref b8, .ref b9, .ref b10, .ref b11, .int b12, .ref b13, .ref b14, .ref b15, .ref b16, .ref b17, .ref b18])), (b11, .inl (G.2 1, 4, .inr (.inl b19))), (b1, .inr (6, [.int b20, .int 4, .int 100, .ref b21, .ref b22])), (b21, .inl (G.2 1, 400, .inr (.inl b23)))] ∧ (zI e0 0 1)) := by
  refine z_start (by decide +kernel) (Nat.le_of_ble_eq_true rfl) ?_
  intro p e s m below meth c A Z hr hnm hA hP hD hS ls hl
  have Z : zC p s m _ meth c prog_4_method_18_code 5 "TraceMachines$Machine" G := Z
  obtain ⟨hx, hb, hml, hown, hts, hK, hN, hlocks⟩ := id Z
  have hl : lv_has ls 5 [(0, .ref b0), (1, .ref b1), (2, .int b2), (3, .int b3)] := hl
  refine lv_iconst (v := 0) hx hb d_Machine_takes_0 (by decide) ?_
  refine lv_istore (lv' := [(4, .int 0), (0, .ref b0), (1, .ref b1), (2, .int b2), (3, .int b3)]) hx hb d_Machine_takes_1 hl (by decide) rfl (fun ls hl => ?_)
  suffices key : ∀ (k_81 : Nat) (y_82 : Int32) (H : Heap) (locs : List Loc) (ls : Array Slot), (zI y_82 0 4) → (4 : Int) - y_82.toInt < (k_81 : Int) → va_P G.1 classes [(b0, .inr (5, [.int b4, .int b5, .ref b6, .ref b7, .ref b8, .ref b9, .ref b10, .ref b11, .int b12, .ref b13, .ref b14, .ref b15, .ref b16, .ref b17, .ref b18])), (b11, .inl (G.2 1, 4, .inr (.inl b19))), (b1, .inr (6, [.int b20, .int 4, .int 100, .ref b21, .ref b22])), (b21, .inl (G.2 1, 400, .inr (.inl b23)))] H → va_D A [(b0, .inr (5, [.int b4, .int b5, .ref b6, .ref b7, .ref b8, .ref b9, .ref b10, .ref b11, .int b12, .ref b13, .ref b14, .ref b15, .ref b16, .ref b17, .ref b18])), (b11, .inl (G.2 1, 4, .inr (.inl b19))), (b1, .inr (6, [.int b20, .int 4, .int 100, .ref b21, .ref b22])), (b21, .inl (G.2 1, 400, .inr (.inl b23)))] → va_S A s.heap H locs → lv_has ls 5 [(4, .int y_82), (0, .ref b0), (1, .ref b1), (2, .int b2), (3, .int b3)] → W p l e m_s7_Machine_takes s m ([.ref b0, .ref b1, .int b2, .int b3] : List Value).toArray below meth c H locs 0 0 (MQ below (zQ G (fun v w => ∃ (e0 : Int32), v = some (.int e0) ∧ w = [(b0, .inr (5, [.int b4, .int b5, .ref b6, .ref b7, .ref b8, .ref b9, .ref b10, .ref b11, .int b12, .ref b13, .ref b14, .ref b15, .ref b16, .ref b17, .ref b18])), (b11, .inl (G.2 1, 4, .inr (.inl b19))), (b1, .inr (6, [.int b20, .int 4, .int 100, .ref b21, .ref b22])), (b21, .inl (G.2 1, 400, .inr (.inl b23)))] ∧ (zI e0 0 1)) A) ([.ref b0, .ref b1, .int b2, .int b3] : List Value).toArray s m_s7_Machine_takes.cells m_s7_Machine_takes.slots A) (F0 m 3 ls []) by
    exact key 5 (0) _ _ _ (zI.wk (l' := 0) (h' := 4) zc_0 (by decide)) (zm_upi (zI.wk (l' := 0) (h' := 4) zc_0 (by decide)) (by decide)) hP hD hS (lv_sub hl [0, 1, 2, 3, 4] rfl)
  intro k_81
  induction k_81 with
  | zero =>
    intro y_82 H locs ls hy_82 hmk_81 hP hD hS hl
    exact (zm_up0 hy_82 hmk_81).elim
  | succ k_81 ihk_81 =>
    intro y_82 H locs ls hy_82 hmk_81 hP hD hS hl
    refine lv_iload hx hb d_Machine_takes_3 (lv_at hl 0 rfl) ?_
    refine lv_iconst (v := 4) hx hb d_Machine_takes_5 (by decide) ?_
    refine lv_icmp_ge (tgt := 38) hx hb d_Machine_takes_6 (by decide) (fun hc_83 => ?_) (fun hc_83 => ?_)
    · have _nhc_83 := hc_83
      have ni_84 := (fa_le _ _).mp hc_83
      rw [li_4] at ni_84
      have hv_85 : zI y_82 4 4 := zI.le_r zc_4 hy_82 hc_83 (by decide)
      refine lv_iconst (v := 0) hx hb d_Machine_takes_38 (by decide) ?_
      exact z_zret hx hb hr hlocks rfl hP hD hS (Nat.le_of_ble_eq_true rfl) (Nat.le_of_ble_eq_true rfl) d_Machine_takes_39 ⟨0, rfl, rfl, (zI.wk (l' := 0) (h' := 1) zc_0 (by decide))⟩
    · have _nhc_83 := hc_83
      have ni_86 := (fa_lt _ _).mp (zi_nle hc_83)
      rw [li_4] at ni_86
      have hv_87 : zI y_82 0 3 := zI.lt_l hy_82 zc_4 (zi_nle hc_83) (by decide)
      refine lv_aload_n hx hb d_Machine_takes_9 rfl (lv_at hl 2 rfl) ?_
      refine lv_iload_n hx hb d_Machine_takes_10 rfl (lv_at hl 3 rfl) ?_
      refine lv_iload_n hx hb d_Machine_takes_11 rfl (lv_at hl 4 rfl) ?_
      refine lv_iload hx hb d_Machine_takes_12 (lv_at hl 0 rfl) ?_
      refine z_callV (index := 166) (As := [.int b2, .int b3, .int y_82]) (rest := []) (wr := [(b0, .inr (5, [.int b4, .int b5, .ref b6, .ref b7, .ref b8, .ref b9, .ref b10, .ref b11, .int b12, .ref b13, .ref b14, .ref b15, .ref b16, .ref b17, .ref b18])), (b11, .inl (G.2 1, 4, .inr (.inl b19)))]) Z (s6_Sets_longAt l G (b1) (b2) (b3) (y_82) (b20) (b21) (b22) (b23) hb2 hb3 hv_87 hb20 hb23) hl.1 q719 q720 q721 q7 q722 ⟨by decide, by decide, by show _ = some 3; decide +kernel⟩ ⟨Nat.le_of_ble_eq_true rfl, Nat.le_of_ble_eq_true rfl⟩ ⟨Nat.le_of_ble_eq_true rfl, Nat.le_of_ble_eq_true rfl⟩ rfl (Nat.le_of_ble_eq_true rfl) d_Machine_takes_14 hP hD hS hA 2 6 rfl rfl rfl [2, 3] [0, 1] rfl rfl rfl rfl (by decide) (fun v w1 H locs hw_88 hP hD hS => ?_)
      obtain ⟨x_89, rfl, rfl, hfx_90⟩ := hw_88
      have hP : va_P G.1 classes [(b0, .inr (5, [.int b4, .int b5, .ref b6, .ref b7, .ref b8, .ref b9, .ref b10, .ref b11, .int b12, .ref b13, .ref b14, .ref b15, .ref b16, .ref b17, .ref b18])), (b11, .inl (G.2 1, 4, .inr (.inl b19))), (b1, .inr (6, [.int b20, .int 4, .int 100, .ref b21, .ref b22])), (b21, .inl (G.2 1, 400, .inr (.inl b23)))] H := hP
      have hD := z_tie hP hD rfl
      refine W.widen (k := 0) (n := 0) (Nat.le_of_ble_eq_true rfl) (Nat.le_of_ble_eq_true rfl) ?_
      refine lv_aload_n hx hb d_Machine_takes_17 rfl (lv_at hl 1 rfl) ?_
      refine va_get (D := G.1) (ci := 5) (v := .ref b11) (C := R_Machine) (T := F_Machine) (N := 15) hx hb hts i_Machine hown hK hP 0 rfl rfl 7 (by decide) (hts _ q181) (fun _ h9 => h9) rfl d_Machine_takes_18 ?_
      refine lv_iload hx hb d_Machine_takes_21 (lv_at hl 0 rfl) ?_
      refine va_lald hx hb hK hP 1 1 rfl rfl (zI.inn hv_87 (by decide)) d_Machine_takes_23 ?_
      refine lv_topl (fun v_91 ev_91 => ?_)
      refine lv_land hx hb d_Machine_takes_24 ?_
      refine lv_topl (fun v_92 ev_92 => ?_)
      refine lv_lconst (v := 0) hx hb d_Machine_takes_25 (by decide) ?_
      refine W.lcmp hx hb d_Machine_takes_26 ?_
      refine lv_topi (fun v_93 ev_93 => ?_)
      refine lv_if_eq (tgt := 32) hx hb d_Machine_takes_27 (by decide) (fun hc_94 => ?_) (fun hc_94 => ?_)
      · have ni_95 := hc_94
        rw [ev_93] at ni_95
        simp only [lg_cmp_lt, lg_cmp_le, lg_cmp_gt, lg_cmp_ge, lg_cmp_eq, fa_lt64, fa_le64, fa_eq64, Int32.toInt_toInt64, ll_0] at ni_95
        have hv_96 : zJ v_92 0 0 := by have _a := ni_95; have _b := (zJ_all v_92); have _c := zcl_0; simp only [Int32.toInt_toInt64] at *; exact ⟨by omega, by omega⟩
        obtain ⟨v_97, ev_97⟩ : ∃ z : Int32, z = y_82 + 1 := ⟨_, rfl⟩
        obtain ⟨qv_97, hv_97⟩ := zI_add (l := 1) (h := 4) hv_87 zc_1 ev_97 (by decide)
        rw [li_1] at qv_97
        refine lv_iinc (v := v_97) (lv' := [(4, .int v_97), (0, .ref b0), (1, .ref b1), (2, .int b2), (3, .int b3)]) hx hb d_Machine_takes_32 hl (k := 0) rfl (by rw [ev_97]; rfl) (by decide) rfl (fun ls hl => ?_)
        refine lv_goto (tgt := 3) hx hb d_Machine_takes_35 (by decide) ?_
        exact ihk_81 (v_97) _ _ _ (zI.wk (l' := 0) (h' := 4) hv_97 (by decide)) (zm_up qv_97 hmk_81 (by decide)) hP hD hS (lv_sub hl [0, 1, 2, 3, 4] rfl)
      · have ni_98 := hc_94
        rw [ev_93] at ni_98
        simp only [lg_cmp_lt, lg_cmp_le, lg_cmp_gt, lg_cmp_ge, lg_cmp_eq, fa_lt64, fa_le64, fa_eq64, Int32.toInt_toInt64, ll_0] at ni_98
        refine lv_iconst (v := 1) hx hb d_Machine_takes_30 (by decide) ?_
        exact z_zret hx hb hr hlocks rfl hP hD hS (Nat.le_of_ble_eq_true rfl) (Nat.le_of_ble_eq_true rfl) d_Machine_takes_31 ⟨1, rfl, rfl, (zI.wk (l' := 0) (h' := 1) zc_1 (by decide))⟩
theorem d_Words_number_8 : decode prog_12_method_2_code 8 = .ok (.ireturn, 1) := by decide +kernel
theorem d_Words_number_75 : decode prog_12_method_2_code 75 = .ok (.ireturn, 1) := by decide +kernel
abbrev m_s1_Words_number : Room := { frames := 5, cells := 0, slots := 0, locals := 114 }
set_option maxHeartbeats 4000000 in
set_option maxRecDepth 100000 in
theorem s1_Words_number (l : Launch) (G : zG) (b0 : Nat) (b1 : Nat) (b2 : Int32) (b3 : Nat) (b4 : Nat) (b5 : Nat) (b6 : Nat) (b7 : Nat) (b8 : Nat) (b9 : Nat) (b10 : Nat) (b11 : Int32) (b12 : Nat) (b13 : Nat) (b14 : Nat → Int64) (b15 : Int32) (b16 : Nat) (b17 : Nat) (b18 : Nat → Int64) (b19 : Nat → Int32) (b20 : Int32) (b21 : Nat) (b22 : Nat) (b23 : Nat → Int64) (b24 : Nat → Int32) (b25 : Nat → Int32) (b26 : Nat → Int32) (b27 : Int32) (b28 : Int32) (b29 : Nat) (b30 : Nat) (b31 : Nat) (b32 : Nat) (b33 : Nat) (b34 : Nat) (b35 : Int32) (b36 : Nat) (b37 : Nat) (b38 : Nat) (b39 : Nat) (b40 : Nat) (b41 : Nat) (b42 : Nat → Int64) (b43 : Nat → Int32) (b44 : Nat → Int32) (hb2 : zI b2 0 8) (hb11 : zI b11 0 10) (hb15 : zI b15 0 100) (hb20 : zI b20 0 100) (hb27 : zI b27 0 1) (hb28 : zI b28 0 241) (hb35 : zI b35 0 240) (hb14 : zqa qB b14) (hb18 : zqa qB b18) (hb19 : zR b19 (-1) 99) (hb23 : zqa qB b23) (hb24 : zR b24 (-1) 99) (hb43 : zK b43) (hb44 : zR b44 0 240) : zM l G y_Words_number prog_12_method_2_code 4 (Option.some Jvm.ClassFile.FieldType.int) m_s1_Words_number [.ref b0, .ref b1, .int b2] [(b0, .inr (7, [.ref b3, .ref b4, .ref b5, .ref b6, .ref b7, .ref b8, .ref b9, .ref b10])), (b4, .inr (6, [.int b11, .int 4, .int 10, .ref b12, .ref b13])), (b12, .inl (G.2 1, 40, .inr (.inl b14))), (b5, .inr (6, [.int b15, .int 4, .int 100, .ref b16, .ref b17])), (b16, .inl (G.2 1, 400, .inr (.inl b18))), (b17, .inl (G.2 0, 256, .inl b19)), (b6, .inr (6, [.int b20, .int 4, .int 100, .ref b21, .ref b22])), (b21, .inl (G.2 1, 400, .inr (.inl b23))), (b22, .inl (G.2 0, 256, .inl b24)), (b7, .inl (G.2 0, 100, .inl b25)), (b8, .inl (G.2 0, 100, .inl b26)), (b1, .inr (5, [.int b27, .int b28, .ref b29, .ref b30, .ref b31, .ref b32, .ref b33, .ref b34, .int b35, .ref b36, .ref b37, .ref b38, .ref b39, .ref b40, .ref b41])), (b34, .inl (G.2 1, 4, .inr (.inl b42))), (b36, .inl (G.2 0, 240, .inl b43)), (b40, .inl (G.2 0, 242, .inl b44))] (fun v w => ∃ (e0 : Int32), ∃ (e1 : Nat), ∃ (e2 : Nat), ∃ (e3 : Nat), ∃ (e4 : Nat), ∃ (e5 : Nat), ∃ (e6 : Nat), ∃ (e7 : Nat), ∃ (e8 : Nat), ∃ (e9 : Nat → Int64), ∃ (e10 : Int32), ∃ (e11 : Nat → Int64), ∃ (e12 : Nat → Int32), ∃ (e13 : Int32), ∃ (e14 : Nat → Int64), ∃ (e15 : Nat → Int32), ∃ (e16 : Nat → Int32), ∃ (e17 : Nat → Int32), v = some (.int e0) ∧ w = [(b0, .inr (7, [.ref b3, .ref b4, .ref e1, .ref e4, .ref e7, .ref e8, .ref b9, .ref b10])), (b4, .inr (6, [.int b11, .int 4, .int 10, .ref b12, .ref b13])), (b12, .inl (G.2 1, 40, .inr (.inl e9))), (e1, .inr (6, [.int e10, .int 4, .int 100, .ref e2, .ref e3])), (e2, .inl (G.2 1, 400, .inr (.inl e11))), (e3, .inl (G.2 0, 256, .inl e12)), (e4, .inr (6, [.int e13, .int 4, .int 100, .ref e5, .ref e6])), (e5, .inl (G.2 1, 400, .inr (.inl e14))), (e6, .inl (G.2 0, 256, .inl e15)), (e7, .inl (G.2 0, 100, .inl e16)), (e8, .inl (G.2 0, 100, .inl e17)), (b1, .inr (5, [.int b27, .int b28, .ref b29, .ref b30, .ref b31, .ref b32, .ref b33, .ref b34, .int b35, .ref b36, .ref b37, .ref b38, .ref b39, .ref b40, .ref b41])), (b34, .inl (G.2 1, 4, .inr (.inl b42))), (b36, .inl (G.2 0, 240, .inl b43)), (b40, .inl (G.2 0, 242, .inl b44))] ∧ (zqa qB e9) ∧ (zI e10 0 100) ∧ (zqa qB e11) ∧ (zR e12 (-1) 99) ∧ (zI e13 0 100) ∧ (zqa qB e14) ∧ (zR e15 (-1) 99)) := by
  refine z_start (by decide +kernel) (Nat.le_of_ble_eq_true rfl) ?_
  intro p e s m below meth c A Z hr hnm hA hP hD hS ls hl
  have Z : zC p s m _ meth c prog_12_method_2_code 4 "TraceMachines$Words" G := Z
  obtain ⟨hx, hb, hml, hown, hts, hK, hN, hlocks⟩ := id Z
  have hl : lv_has ls 4 [(0, .ref b0), (1, .ref b1), (2, .int b2)] := hl
  refine lv_aload_n hx hb d_Words_number_0 rfl (lv_at hl 1 rfl) ?_
  refine va_get (D := G.1) (ci := 5) (v := .int b28) (C := R_Machine) (T := F_Machine) (N := 15) hx hb hts i_Machine hown hK hP 11 rfl rfl 1 (by decide) (hts _ q166) (fun _ h9 => h9) rfl d_Words_number_1 ?_
  refine lv_if_ne (tgt := 9) hx hb d_Words_number_4 (by decide) (fun hc_1 => ?_) (fun hc_1 => ?_)
  · have _nhc_1 := hc_1
    have ni_2 : ¬ (b28 : Int32).toInt = (0 : Int32).toInt := fun z => hc_1 ((fa_eq _ _).mpr z)
    simp only [li_0] at ni_2
    have hv_3 : zI b28 1 241 := zI.ne_lo hb28 zc_0 hc_1 (by decide)
    refine lv_aload_n hx hb d_Words_number_9 rfl (lv_at hl 0 rfl) ?_
    refine va_get (D := G.1) (ci := 7) (v := .ref b4) (C := R_Words) (T := F_Words) (N := 8) hx hb hts i_Words hown hK hP 0 rfl rfl 1 (by decide) (hts _ q267) (fun _ h9 => h9) rfl d_Words_number_10 ?_
    refine z_callV (index := 48) (As := []) (rest := []) (wr := [(b0, .inr (7, [.ref b3, .ref b4, .ref b5, .ref b6, .ref b7, .ref b8, .ref b9, .ref b10])), (b5, .inr (6, [.int b15, .int 4, .int 100, .ref b16, .ref b17])), (b16, .inl (G.2 1, 400, .inr (.inl b18))), (b17, .inl (G.2 0, 256, .inl b19)), (b6, .inr (6, [.int b20, .int 4, .int 100, .ref b21, .ref b22])), (b21, .inl (G.2 1, 400, .inr (.inl b23))), (b22, .inl (G.2 0, 256, .inl b24)), (b7, .inl (G.2 0, 100, .inl b25)), (b8, .inl (G.2 0, 100, .inl b26)), (b1, .inr (5, [.int b27, .int b28, .ref b29, .ref b30, .ref b31, .ref b32, .ref b33, .ref b34, .int b35, .ref b36, .ref b37, .ref b38, .ref b39, .ref b40, .ref b41])), (b34, .inl (G.2 1, 4, .inr (.inl b42))), (b36, .inl (G.2 0, 240, .inl b43)), (b40, .inl (G.2 0, 242, .inl b44))]) Z (s5_Sets_clear l G (b4) (b11) (b12) (b13) (b14) hb11 hb14) hl.1 q823 q705 q706 q7 q707 ⟨by decide, by decide, by show _ = some 0; decide +kernel⟩ ⟨Nat.le_of_ble_eq_true rfl, Nat.le_of_ble_eq_true rfl⟩ ⟨Nat.le_of_ble_eq_true rfl, Nat.le_of_ble_eq_true rfl⟩ rfl (Nat.le_of_ble_eq_true rfl) d_Words_number_13 hP hD hS hA 1 6 rfl rfl rfl [1, 2] [0, 3, 4, 5, 6, 7, 8, 9, 10, 11, 12, 13, 14] rfl rfl rfl rfl (by decide) (fun v w1 H locs hw_4 hP hD hS => ?_)
    obtain ⟨f_5, rfl, rfl, hf_5⟩ := hw_4
    have hP : va_P G.1 classes [(b0, .inr (7, [.ref b3, .ref b4, .ref b5, .ref b6, .ref b7, .ref b8, .ref b9, .ref b10])), (b5, .inr (6, [.int b15, .int 4, .int 100, .ref b16, .ref b17])), (b16, .inl (G.2 1, 400, .inr (.inl b18))), (b17, .inl (G.2 0, 256, .inl b19)), (b6, .inr (6, [.int b20, .int 4, .int 100, .ref b21, .ref b22])), (b21, .inl (G.2 1, 400, .inr (.inl b23))), (b22, .inl (G.2 0, 256, .inl b24)), (b7, .inl (G.2 0, 100, .inl b25)), (b8, .inl (G.2 0, 100, .inl b26)), (b1, .inr (5, [.int b27, .int b28, .ref b29, .ref b30, .ref b31, .ref b32, .ref b33, .ref b34, .int b35, .ref b36, .ref b37, .ref b38, .ref b39, .ref b40, .ref b41])), (b34, .inl (G.2 1, 4, .inr (.inl b42))), (b36, .inl (G.2 0, 240, .inl b43)), (b40, .inl (G.2 0, 242, .inl b44)), (b4, .inr (6, [.int b11, .int 4, .int 10, .ref b12, .ref b13])), (b12, .inl (G.2 1, 40, .inr (.inl f_5)))] H := hP
    have hD := z_tie hP hD rfl
    refine W.widen (k := 0) (n := 0) (Nat.le_of_ble_eq_true rfl) (Nat.le_of_ble_eq_true rfl) ?_
    refine lv_aload_n hx hb d_Words_number_16 rfl (lv_at hl 0 rfl) ?_
    refine va_get (D := G.1) (ci := 7) (v := .ref b4) (C := R_Words) (T := F_Words) (N := 8) hx hb hts i_Words hown hK hP 0 rfl rfl 1 (by decide) (hts _ q267) (fun _ h9 => h9) rfl d_Words_number_17 ?_
    refine lv_iconst (v := 0) hx hb d_Words_number_20 (by decide) ?_
    refine lv_iconst (v := 0) hx hb d_Words_number_21 (by decide) ?_
    refine lv_iconst (v := 0) hx hb d_Words_number_22 (by decide) ?_
    refine z_callV (index := 51) (As := [.int 0, .int 0, .int 0]) (rest := []) (wr := [(b0, .inr (7, [.ref b3, .ref b4, .ref b5, .ref b6, .ref b7, .ref b8, .ref b9, .ref b10])), (b5, .inr (6, [.int b15, .int 4, .int 100, .ref b16, .ref b17])), (b16, .inl (G.2 1, 400, .inr (.inl b18))), (b17, .inl (G.2 0, 256, .inl b19)), (b6, .inr (6, [.int b20, .int 4, .int 100, .ref b21, .ref b22])), (b21, .inl (G.2 1, 400, .inr (.inl b23))), (b22, .inl (G.2 0, 256, .inl b24)), (b7, .inl (G.2 0, 100, .inl b25)), (b8, .inl (G.2 0, 100, .inl b26)), (b1, .inr (5, [.int b27, .int b28, .ref b29, .ref b30, .ref b31, .ref b32, .ref b33, .ref b34, .int b35, .ref b36, .ref b37, .ref b38, .ref b39, .ref b40, .ref b41])), (b34, .inl (G.2 1, 4, .inr (.inl b42))), (b36, .inl (G.2 0, 240, .inl b43)), (b40, .inl (G.2 0, 242, .inl b44))]) Z (s5_Sets_put l G (b4) (0) (0) (0) (b11) (b12) (b13) (f_5) (zI.wk (l' := 0) (h' := 9) zc_0 (by decide)) zc_0 (zI.wk (l' := 0) (h' := 240) zc_0 (by decide)) hb11 hf_5) hl.1 q824 q710 q711 q7 q712 ⟨by decide, by decide, by show _ = some 3; decide +kernel⟩ ⟨Nat.le_of_ble_eq_true rfl, Nat.le_of_ble_eq_true rfl⟩ ⟨Nat.le_of_ble_eq_true rfl, Nat.le_of_ble_eq_true rfl⟩ rfl (Nat.le_of_ble_eq_true rfl) d_Words_number_23 hP hD hS hA 13 6 rfl rfl rfl [13, 14] [0, 1, 2, 3, 4, 5, 6, 7, 8, 9, 10, 11, 12] rfl rfl rfl rfl (by decide) (fun v w1 H locs hw_6 hP hD hS => ?_)
    obtain ⟨f_7, rfl, rfl, hf_7⟩ := hw_6
    have hP : va_P G.1 classes [(b0, .inr (7, [.ref b3, .ref b4, .ref b5, .ref b6, .ref b7, .ref b8, .ref b9, .ref b10])), (b5, .inr (6, [.int b15, .int 4, .int 100, .ref b16, .ref b17])), (b16, .inl (G.2 1, 400, .inr (.inl b18))), (b17, .inl (G.2 0, 256, .inl b19)), (b6, .inr (6, [.int b20, .int 4, .int 100, .ref b21, .ref b22])), (b21, .inl (G.2 1, 400, .inr (.inl b23))), (b22, .inl (G.2 0, 256, .inl b24)), (b7, .inl (G.2 0, 100, .inl b25)), (b8, .inl (G.2 0, 100, .inl b26)), (b1, .inr (5, [.int b27, .int b28, .ref b29, .ref b30, .ref b31, .ref b32, .ref b33, .ref b34, .int b35, .ref b36, .ref b37, .ref b38, .ref b39, .ref b40, .ref b41])), (b34, .inl (G.2 1, 4, .inr (.inl b42))), (b36, .inl (G.2 0, 240, .inl b43)), (b40, .inl (G.2 0, 242, .inl b44)), (b4, .inr (6, [.int b11, .int 4, .int 10, .ref b12, .ref b13])), (b12, .inl (G.2 1, 40, .inr (.inl f_7)))] H := hP
    have hD := z_tie hP hD rfl
    refine W.widen (k := 0) (n := 0) (Nat.le_of_ble_eq_true rfl) (Nat.le_of_ble_eq_true rfl) ?_
    refine lv_aload_n hx hb d_Words_number_26 rfl (lv_at hl 0 rfl) ?_
    refine va_get (D := G.1) (ci := 7) (v := .ref b5) (C := R_Words) (T := F_Words) (N := 8) hx hb hts i_Words hown hK hP 0 rfl rfl 2 (by decide) (hts _ q268) (fun _ h9 => h9) rfl d_Words_number_27 ?_
    refine z_callV (index := 55) (As := []) (rest := []) (wr := [(b0, .inr (7, [.ref b3, .ref b4, .ref b5, .ref b6, .ref b7, .ref b8, .ref b9, .ref b10])), (b16, .inl (G.2 1, 400, .inr (.inl b18))), (b6, .inr (6, [.int b20, .int 4, .int 100, .ref b21, .ref b22])), (b21, .inl (G.2 1, 400, .inr (.inl b23))), (b22, .inl (G.2 0, 256, .inl b24)), (b7, .inl (G.2 0, 100, .inl b25)), (b8, .inl (G.2 0, 100, .inl b26)), (b1, .inr (5, [.int b27, .int b28, .ref b29, .ref b30, .ref b31, .ref b32, .ref b33, .ref b34, .int b35, .ref b36, .ref b37, .ref b38, .ref b39, .ref b40, .ref b41])), (b34, .inl (G.2 1, 4, .inr (.inl b42))), (b36, .inl (G.2 0, 240, .inl b43)), (b40, .inl (G.2 0, 242, .inl b44)), (b4, .inr (6, [.int b11, .int 4, .int 10, .ref b12, .ref b13])), (b12, .inl (G.2 1, 40, .inr (.inl f_7)))]) Z (s5_Sets_forget l G (b5) (b15) (b16) (b17) (b19) hb15 hb19) hl.1 q825 q826 q827 q7 q828 ⟨by decide, by decide, by show _ = some 0; decide +kernel⟩ ⟨Nat.le_of_ble_eq_true rfl, Nat.le_of_ble_eq_true rfl⟩ ⟨Nat.le_of_ble_eq_true rfl, Nat.le_of_ble_eq_true rfl⟩ rfl (Nat.le_of_ble_eq_true rfl) d_Words_number_30 hP hD hS hA 1 6 rfl rfl rfl [1, 3] [0, 2, 4, 5, 6, 7, 8, 9, 10, 11, 12, 13, 14] rfl rfl rfl rfl (by decide) (fun v w1 H locs hw_8 hP hD hS => ?_)
    obtain ⟨f_9, rfl, rfl, hf_9⟩ := hw_8
    have hP : va_P G.1 classes [(b0, .inr (7, [.ref b3, .ref b4, .ref b5, .ref b6, .ref b7, .ref b8, .ref b9, .ref b10])), (b16, .inl (G.2 1, 400, .inr (.inl b18))), (b6, .inr (6, [.int b20, .int 4, .int 100, .ref b21, .ref b22])), (b21, .inl (G.2 1, 400, .inr (.inl b23))), (b22, .inl (G.2 0, 256, .inl b24)), (b7, .inl (G.2 0, 100, .inl b25)), (b8, .inl (G.2 0, 100, .inl b26)), (b1, .inr (5, [.int b27, .int b28, .ref b29, .ref b30, .ref b31, .ref b32, .ref b33, .ref b34, .int b35, .ref b36, .ref b37, .ref b38, .ref b39, .ref b40, .ref b41])), (b34, .inl (G.2 1, 4, .inr (.inl b42))), (b36, .inl (G.2 0, 240, .inl b43)), (b40, .inl (G.2 0, 242, .inl b44)), (b4, .inr (6, [.int b11, .int 4, .int 10, .ref b12, .ref b13])), (b12, .inl (G.2 1, 40, .inr (.inl f_7))), (b5, .inr (6, [.int 0, .int 4, .int 100, .ref b16, .ref b17])), (b17, .inl (G.2 0, 256, .inl f_9))] H := hP
    have hD := z_tie hP hD rfl
    refine W.widen (k := 0) (n := 0) (Nat.le_of_ble_eq_true rfl) (Nat.le_of_ble_eq_true rfl) ?_
    refine lv_aload_n hx hb d_Words_number_33 rfl (lv_at hl 0 rfl) ?_
    refine va_get (D := G.1) (ci := 7) (v := .ref b5) (C := R_Words) (T := F_Words) (N := 8) hx hb hts i_Words hown hK hP 0 rfl rfl 2 (by decide) (hts _ q268) (fun _ h9 => h9) rfl d_Words_number_34 ?_
    refine lv_aload_n hx hb d_Words_number_37 rfl (lv_at hl 0 rfl) ?_
    refine va_get (D := G.1) (ci := 7) (v := .ref b4) (C := R_Words) (T := F_Words) (N := 8) hx hb hts i_Words hown hK hP 0 rfl rfl 1 (by decide) (hts _ q267) (fun _ h9 => h9) rfl d_Words_number_38 ?_
    refine lv_iconst (v := 0) hx hb d_Words_number_41 (by decide) ?_
    refine z_callV (index := 58) (As := [.ref b4, .int 0]) (rest := []) (wr := [(b0, .inr (7, [.ref b3, .ref b4, .ref b5, .ref b6, .ref b7, .ref b8, .ref b9, .ref b10])), (b6, .inr (6, [.int b20, .int 4, .int 100, .ref b21, .ref b22])), (b21, .inl (G.2 1, 400, .inr (.inl b23))), (b22, .inl (G.2 0, 256, .inl b24)), (b7, .inl (G.2 0, 100, .inl b25)), (b8, .inl (G.2 0, 100, .inl b26)), (b1, .inr (5, [.int b27, .int b28, .ref b29, .ref b30, .ref b31, .ref b32, .ref b33, .ref b34, .int b35, .ref b36, .ref b37, .ref b38, .ref b39, .ref b40, .ref b41])), (b34, .inl (G.2 1, 4, .inr (.inl b42))), (b36, .inl (G.2 0, 240, .inl b43)), (b40, .inl (G.2 0, 242, .inl b44))]) Z (s4_Sets_indexOf l G (b5) (b4) (0) (0) (b16) (b17) (b18) (f_9) (b11) (b12) (b13) (f_7) (zI.wk (l' := 0) (h' := 9) zc_0 (by decide)) (zI.wk (l' := 0) (h' := 100) zc_0 (by decide)) hb11 hb18 hf_9 hf_7) hl.1 q830 q831 q832 q7 q833 ⟨by decide, by decide, by show _ = some 2; decide +kernel⟩ ⟨Nat.le_of_ble_eq_true rfl, Nat.le_of_ble_eq_true rfl⟩ ⟨Nat.le_of_ble_eq_true rfl, Nat.le_of_ble_eq_true rfl⟩ rfl (Nat.le_of_ble_eq_true rfl) d_Words_number_42 hP hD hS hA 13 6 rfl rfl rfl [13, 1, 14, 11, 12] [0, 2, 3, 4, 5, 6, 7, 8, 9, 10] rfl rfl rfl rfl (by decide) (fun v w1 H locs hw_10 hP hD hS => ?_)
    obtain ⟨x_11, x_12, f_13, f_14, rfl, rfl, hx_11, hx_12, hf_13, hf_14, hfx_15⟩ := hw_10
    have hP : va_P G.1 classes [(b0, .inr (7, [.ref b3, .ref b4, .ref b5, .ref b6, .ref b7, .ref b8, .ref b9, .ref b10])), (b6, .inr (6, [.int b20, .int 4, .int 100, .ref b21, .ref b22])), (b21, .inl (G.2 1, 400, .inr (.inl b23))), (b22, .inl (G.2 0, 256, .inl b24)), (b7, .inl (G.2 0, 100, .inl b25)), (b8, .inl (G.2 0, 100, .inl b26)), (b1, .inr (5, [.int b27, .int b28, .ref b29, .ref b30, .ref b31, .ref b32, .ref b33, .ref b34, .int b35, .ref b36, .ref b37, .ref b38, .ref b39, .ref b40, .ref b41])), (b34, .inl (G.2 1, 4, .inr (.inl b42))), (b36, .inl (G.2 0, 240, .inl b43)), (b40, .inl (G.2 0, 242, .inl b44)), (b5, .inr (6, [.int x_12, .int 4, .int 100, .ref b16, .ref b17])), (b16, .inl (G.2 1, 400, .inr (.inl f_13))), (b17, .inl (G.2 0, 256, .inl f_14)), (b4, .inr (6, [.int b11, .int 4, .int 10, .ref b12, .ref b13])), (b12, .inl (G.2 1, 40, .inr (.inl f_7)))] H := hP
    have hD := z_tie hP hD rfl
    refine W.widen (k := 0) (n := 0) (Nat.le_of_ble_eq_true rfl) (Nat.le_of_ble_eq_true rfl) ?_
    refine lv_pop hx hb d_Words_number_45 rfl ?_
    refine lv_aload_n hx hb d_Words_number_46 rfl (lv_at hl 0 rfl) ?_
    refine va_get (D := G.1) (ci := 7) (v := .ref b7) (C := R_Words) (T := F_Words) (N := 8) hx hb hts i_Words hown hK hP 0 rfl rfl 4 (by decide) (hts _ q270) (fun _ h9 => h9) rfl d_Words_number_47 ?_
    refine lv_iconst (v := 0) hx hb d_Words_number_50 (by decide) ?_
    refine lv_iconst (v := 1) hx hb d_Words_number_51 (by decide) ?_
    refine va_iast hx hb hK hP hD hS 4 0 rfl rfl (i := 0) (z_in rfl) d_Words_number_52 (fun H locs hP hD hS => ?_)
    obtain ⟨f_16, gf_16, uf_16, hP, hD⟩ := z_newFu 4 hP hD rfl
    have hP : va_P G.1 classes [(b0, .inr (7, [.ref b3, .ref b4, .ref b5, .ref b6, .ref b7, .ref b8, .ref b9, .ref b10])), (b6, .inr (6, [.int b20, .int 4, .int 100, .ref b21, .ref b22])), (b21, .inl (G.2 1, 400, .inr (.inl b23))), (b22, .inl (G.2 0, 256, .inl b24)), (b7, .inl (G.2 0, 100, .inl f_16)), (b8, .inl (G.2 0, 100, .inl b26)), (b1, .inr (5, [.int b27, .int b28, .ref b29, .ref b30, .ref b31, .ref b32, .ref b33, .ref b34, .int b35, .ref b36, .ref b37, .ref b38, .ref b39, .ref b40, .ref b41])), (b34, .inl (G.2 1, 4, .inr (.inl b42))), (b36, .inl (G.2 0, 240, .inl b43)), (b40, .inl (G.2 0, 242, .inl b44)), (b5, .inr (6, [.int x_12, .int 4, .int 100, .ref b16, .ref b17])), (b16, .inl (G.2 1, 400, .inr (.inl f_13))), (b17, .inl (G.2 0, 256, .inl f_14)), (b4, .inr (6, [.int b11, .int 4, .int 10, .ref b12, .ref b13])), (b12, .inl (G.2 1, 40, .inr (.inl f_7)))] H := hP
    have hD := z_tie hP hD rfl
    refine lv_iload_n hx hb d_Words_number_53 rfl (lv_at hl 2 rfl) ?_
    refine lv_if_ne (tgt := 76) hx hb d_Words_number_54 (by decide) (fun hc_17 => ?_) (fun hc_17 => ?_)
    · have _nhc_17 := hc_17
      have ni_18 : ¬ (b2 : Int32).toInt = (0 : Int32).toInt := fun z => hc_17 ((fa_eq _ _).mpr z)
      simp only [li_0] at ni_18
      have hv_19 : zI b2 1 8 := zI.ne_lo hb2 zc_0 hc_17 (by decide)
      refine lv_iconst (v := 1) hx hb d_Words_number_76 (by decide) ?_
      refine lv_istore_n (lv' := [(3, .int 1), (0, .ref b0), (1, .ref b1), (2, .int b2)]) hx hb d_Words_number_77 rfl hl (by decide) rfl (fun ls hl => ?_)
      refine lv_iload_n hx hb d_Words_number_78 rfl (lv_at hl 0 rfl) ?_
      refine lv_iload_n hx hb d_Words_number_79 rfl (lv_at hl 3 rfl) ?_
      refine lv_icmp_ge (tgt := 100) hx hb d_Words_number_80 (by decide) (fun hc_20 => ?_) (fun hc_20 => ?_)
      · have _nhc_20 := hc_20
        have ni_21 := (fa_le _ _).mp hc_20
        rw [li_1] at ni_21
        have hv_22 : zI b2 1 1 := zI.le_l hv_19 zc_1 hc_20 (by decide)
        refine lv_aload_n hx hb d_Words_number_100 rfl (lv_at hl 1 rfl) ?_
        refine lv_aload_n hx hb d_Words_number_101 rfl (lv_at hl 2 rfl) ?_
        refine z_callV (index := 70) (As := [.ref b1]) (rest := []) (wr := [(b6, .inr (6, [.int b20, .int 4, .int 100, .ref b21, .ref b22])), (b21, .inl (G.2 1, 400, .inr (.inl b23))), (b22, .inl (G.2 0, 256, .inl b24)), (b8, .inl (G.2 0, 100, .inl b26)), (b17, .inl (G.2 0, 256, .inl f_14))]) Z (s2_Words_takenNext l G (b0) (b1) (b3) (b4) (b5) (b6) (b7) (b8) (b9) (b10) (b11) (b12) (b13) (f_7) (x_12) (b16) (b17) (f_13) (f_16) (b27) (b28) (b29) (b30) (b31) (b32) (b33) (b34) (b35) (b36) (b37) (b38) (b39) (b40) (b41) (b42) (b43) (b44) hb11 hx_12 hb27 (zI.wk (l' := 0) (h' := 241) hv_3 (by decide)) hb35 hf_7 hf_13 hb43 hb44) hl.1 q862 q864 qs28 q8 q865 ⟨by decide, by decide, by show _ = some 1; decide +kernel⟩ ⟨Nat.le_of_ble_eq_true rfl, Nat.le_of_ble_eq_true rfl⟩ ⟨Nat.le_of_ble_eq_true rfl, Nat.le_of_ble_eq_true rfl⟩ rfl (Nat.le_of_ble_eq_true rfl) d_Words_number_102 hP hD hS hA 0 7 rfl rfl rfl [0, 13, 14, 10, 11, 4, 6, 7, 8, 9] [1, 2, 3, 5, 12] rfl rfl rfl rfl (by decide) (fun v w1 H locs hw_23 hP hD hS => ?_)
        obtain ⟨x_24, f_25, rfl, rfl, hf_25⟩ := hw_23
        have hP : va_P G.1 classes [(b6, .inr (6, [.int b20, .int 4, .int 100, .ref b21, .ref b22])), (b21, .inl (G.2 1, 400, .inr (.inl b23))), (b22, .inl (G.2 0, 256, .inl b24)), (b8, .inl (G.2 0, 100, .inl b26)), (b17, .inl (G.2 0, 256, .inl f_14)), (b0, .inr (7, [.ref b3, .ref b4, .ref b5, .ref b6, .ref b7, .ref b8, .ref b9, .ref b10])), (b4, .inr (6, [.int b11, .int 4, .int 10, .ref b12, .ref b13])), (b12, .inl (G.2 1, 40, .inr (.inl f_25))), (b5, .inr (6, [.int x_12, .int 4, .int 100, .ref b16, .ref b17])), (b16, .inl (G.2 1, 400, .inr (.inl f_13))), (b7, .inl (G.2 0, 100, .inl f_16)), (b1, .inr (5, [.int b27, .int b28, .ref b29, .ref b30, .ref b31, .ref b32, .ref b33, .ref b34, .int b35, .ref b36, .ref b37, .ref b38, .ref b39, .ref b40, .ref b41])), (b34, .inl (G.2 1, 4, .inr (.inl b42))), (b36, .inl (G.2 0, 240, .inl b43)), (b40, .inl (G.2 0, 242, .inl b44))] H := hP
        have hD := z_tie hP hD rfl
        refine W.widen (k := 0) (n := 0) (Nat.le_of_ble_eq_true rfl) (Nat.le_of_ble_eq_true rfl) ?_
        exact z_iret hx hb hr hlocks (hP.sub [5, 6, 7, 8, 9, 4, 0, 1, 2, 10, 3, 11, 12, 13, 14] rfl) (hD.sub [5, 6, 7, 8, 9, 4, 0, 1, 2, 10, 3, 11, 12, 13, 14] (by decide) rfl) hS (Nat.le_of_ble_eq_true rfl) (Nat.le_of_ble_eq_true rfl) d_Words_number_105 ⟨x_24, b5, b16, b17, b6, b21, b22, b7, b8, f_25, x_12, f_13, f_14, b20, b23, b24, f_16, b26, rfl, rfl, hf_25, hx_12, hf_13, hf_14, hb20, hb23, hb24⟩
      · have _nhc_20 := hc_20
        have ni_26 := (fa_lt _ _).mp (zi_nle hc_20)
        rw [li_1] at ni_26
        have hv_27 : zI b2 2 8 := zI.lt_r zc_1 hv_19 (zi_nle hc_20) (by decide)
        refine lv_aload_n hx hb d_Words_number_83 rfl (lv_at hl 1 rfl) ?_
        refine lv_aload_n hx hb d_Words_number_84 rfl (lv_at hl 2 rfl) ?_
        refine z_callV (index := 66) (As := [.ref b1]) (rest := []) (wr := [(b34, .inl (G.2 1, 4, .inr (.inl b42)))]) Z (s2_Words_goOn l G (b0) (b1) (b3) (b4) (b5) (b6) (b7) (b8) (b9) (b10) (b11) (b12) (b13) (f_7) (x_12) (b16) (b17) (f_13) (f_14) (b20) (b21) (b22) (b23) (b24) (f_16) (b26) (b27) (b28) (b29) (b30) (b31) (b32) (b33) (b34) (b35) (b36) (b37) (b38) (b39) (b40) (b41) (b43) (b44) hb11 hx_12 hb20 hb27 (zI.wk (l' := 0) (h' := 241) hv_3 (by decide)) hb35 hf_7 hf_13 hf_14 hb23 hb24 hb43 hb44) hl.1 q849 q851 qs26 q8 q852 ⟨by decide, by decide, by show _ = some 1; decide +kernel⟩ ⟨Nat.le_of_ble_eq_true rfl, Nat.le_of_ble_eq_true rfl⟩ ⟨Nat.le_of_ble_eq_true rfl, Nat.le_of_ble_eq_true rfl⟩ rfl (Nat.le_of_ble_eq_true rfl) d_Words_number_85 hP hD hS hA 0 7 rfl rfl rfl [0, 13, 14, 10, 11, 12, 1, 2, 3, 4, 5, 6, 8, 9] [7] rfl rfl rfl rfl (by decide) (fun v w1 H locs hw_28 hP hD hS => ?_)
        refine Exists.elim hw_28 (fun x_29 hz_47 => Exists.elim hz_47 (fun x_30 hz_48 => Exists.elim hz_48 (fun x_31 hz_49 => Exists.elim hz_49 (fun x_32 hz_50 => Exists.elim hz_50 (fun x_33 hz_51 => Exists.elim hz_51 (fun x_34 hz_52 => Exists.elim hz_52 (fun x_35 hz_53 => Exists.elim hz_53 (fun x_36 hz_54 => Exists.elim hz_54 (fun x_37 hz_55 => Exists.elim hz_55 (fun f_38 hz_56 => Exists.elim hz_56 (fun x_39 hz_57 => Exists.elim hz_57 (fun f_40 hz_58 => Exists.elim hz_58 (fun f_41 hz_59 => Exists.elim hz_59 (fun x_42 hz_60 => Exists.elim hz_60 (fun f_43 hz_61 => Exists.elim hz_61 (fun f_44 hz_62 => Exists.elim hz_62 (fun f_45 hz_63 => Exists.elim hz_63 (fun f_46 hz_64 => ?_))))))))))))))))))
        obtain ⟨rfl, rfl, hx_29, hf_38, hx_39, hf_40, hf_41, hx_42, hf_43, hf_44⟩ := hz_64
        have hP : va_P G.1 classes [(b34, .inl (G.2 1, 4, .inr (.inl b42))), (b0, .inr (7, [.ref b3, .ref b4, .ref x_30, .ref x_33, .ref x_36, .ref x_37, .ref b9, .ref b10])), (b4, .inr (6, [.int b11, .int 4, .int 10, .ref b12, .ref b13])), (b12, .inl (G.2 1, 40, .inr (.inl f_38))), (x_30, .inr (6, [.int x_39, .int 4, .int 100, .ref x_31, .ref x_32])), (x_31, .inl (G.2 1, 400, .inr (.inl f_40))), (x_32, .inl (G.2 0, 256, .inl f_41)), (x_33, .inr (6, [.int x_42, .int 4, .int 100, .ref x_34, .ref x_35])), (x_34, .inl (G.2 1, 400, .inr (.inl f_43))), (x_35, .inl (G.2 0, 256, .inl f_44)), (x_36, .inl (G.2 0, 100, .inl f_45)), (x_37, .inl (G.2 0, 100, .inl f_46)), (b1, .inr (5, [.int b27, .int b28, .ref b29, .ref b30, .ref b31, .ref b32, .ref b33, .ref b34, .int b35, .ref b36, .ref b37, .ref b38, .ref b39, .ref b40, .ref b41])), (b36, .inl (G.2 0, 240, .inl b43)), (b40, .inl (G.2 0, 242, .inl b44))] H := hP
        have hD := z_tie hP hD rfl
        refine W.widen (k := 0) (n := 0) (Nat.le_of_ble_eq_true rfl) (Nat.le_of_ble_eq_true rfl) ?_
        refine lv_if_ne (tgt := 94) hx hb d_Words_number_88 (by decide) (fun hc_65 => ?_) (fun hc_65 => ?_)
        · have _nhc_65 := hc_65
          have ni_66 : ¬ (x_29 : Int32).toInt = (0 : Int32).toInt := fun z => hc_65 ((fa_eq _ _).mpr z)
          simp only [li_0] at ni_66
          have hv_67 : zI x_29 1 1 := zI.ne_lo hx_29 zc_0 hc_65 (by decide)
          refine lv_iinc (v := 2) (lv' := [(3, .int 2), (0, .ref b0), (1, .ref b1), (2, .int b2)]) hx hb d_Words_number_94 hl (k := 0) rfl (by decide +kernel) (by decide) rfl (fun ls hl => ?_)
          refine lv_goto (tgt := 78) hx hb d_Words_number_97 (by decide) ?_
          refine lv_iload_n hx hb d_Words_number_78 rfl (lv_at hl 0 rfl) ?_
          refine lv_iload_n hx hb d_Words_number_79 rfl (lv_at hl 3 rfl) ?_
          refine lv_icmp_ge (tgt := 100) hx hb d_Words_number_80 (by decide) (fun hc_68 => ?_) (fun hc_68 => ?_)
          · have _nhc_68 := hc_68
            have ni_69 := (fa_le _ _).mp hc_68
            rw [li_2] at ni_69
            have hv_70 : zI b2 2 2 := zI.le_l hv_27 zc_2 hc_68 (by decide)
            refine lv_aload_n hx hb d_Words_number_100 rfl (lv_at hl 1 rfl) ?_
            refine lv_aload_n hx hb d_Words_number_101 rfl (lv_at hl 2 rfl) ?_
            refine z_callV (index := 70) (As := [.ref b1]) (rest := []) (wr := [(x_32, .inl (G.2 0, 256, .inl f_41)), (x_33, .inr (6, [.int x_42, .int 4, .int 100, .ref x_34, .ref x_35])), (x_34, .inl (G.2 1, 400, .inr (.inl f_43))), (x_35, .inl (G.2 0, 256, .inl f_44)), (x_37, .inl (G.2 0, 100, .inl f_46))]) Z (s2_Words_takenNext l G (b0) (b1) (b3) (b4) (x_30) (x_33) (x_36) (x_37) (b9) (b10) (b11) (b12) (b13) (f_38) (x_39) (x_31) (x_32) (f_40) (f_45) (b27) (b28) (b29) (b30) (b31) (b32) (b33) (b34) (b35) (b36) (b37) (b38) (b39) (b40) (b41) (b42) (b43) (b44) hb11 hx_39 hb27 (zI.wk (l' := 0) (h' := 241) hv_3 (by decide)) hb35 hf_38 hf_40 hb43 hb44) hl.1 q862 q864 qs28 q8 q865 ⟨by decide, by decide, by show _ = some 1; decide +kernel⟩ ⟨Nat.le_of_ble_eq_true rfl, Nat.le_of_ble_eq_true rfl⟩ ⟨Nat.le_of_ble_eq_true rfl, Nat.le_of_ble_eq_true rfl⟩ rfl (Nat.le_of_ble_eq_true rfl) d_Words_number_102 hP hD hS hA 1 7 rfl rfl rfl [1, 2, 3, 4, 5, 10, 12, 0, 13, 14] [6, 7, 8, 9, 11] rfl rfl rfl rfl (by decide) (fun v w1 H locs hw_71 hP hD hS => ?_)
            obtain ⟨x_72, f_73, rfl, rfl, hf_73⟩ := hw_71
            have hP : va_P G.1 classes [(x_32, .inl (G.2 0, 256, .inl f_41)), (x_33, .inr (6, [.int x_42, .int 4, .int 100, .ref x_34, .ref x_35])), (x_34, .inl (G.2 1, 400, .inr (.inl f_43))), (x_35, .inl (G.2 0, 256, .inl f_44)), (x_37, .inl (G.2 0, 100, .inl f_46)), (b0, .inr (7, [.ref b3, .ref b4, .ref x_30, .ref x_33, .ref x_36, .ref x_37, .ref b9, .ref b10])), (b4, .inr (6, [.int b11, .int 4, .int 10, .ref b12, .ref b13])), (b12, .inl (G.2 1, 40, .inr (.inl f_73))), (x_30, .inr (6, [.int x_39, .int 4, .int 100, .ref x_31, .ref x_32])), (x_31, .inl (G.2 1, 400, .inr (.inl f_40))), (x_36, .inl (G.2 0, 100, .inl f_45)), (b1, .inr (5, [.int b27, .int b28, .ref b29, .ref b30, .ref b31, .ref b32, .ref b33, .ref b34, .int b35, .ref b36, .ref b37, .ref b38, .ref b39, .ref b40, .ref b41])), (b34, .inl (G.2 1, 4, .inr (.inl b42))), (b36, .inl (G.2 0, 240, .inl b43)), (b40, .inl (G.2 0, 242, .inl b44))] H := hP
            have hD := z_tie hP hD rfl
            refine W.widen (k := 0) (n := 0) (Nat.le_of_ble_eq_true rfl) (Nat.le_of_ble_eq_true rfl) ?_
            exact z_iret hx hb hr hlocks (hP.sub [5, 6, 7, 8, 9, 0, 1, 2, 3, 10, 4, 11, 12, 13, 14] rfl) (hD.sub [5, 6, 7, 8, 9, 0, 1, 2, 3, 10, 4, 11, 12, 13, 14] (by decide) rfl) hS (Nat.le_of_ble_eq_true rfl) (Nat.le_of_ble_eq_true rfl) d_Words_number_105 ⟨x_72, x_30, x_31, x_32, x_33, x_34, x_35, x_36, x_37, f_73, x_39, f_40, f_41, x_42, f_43, f_44, f_45, f_46, rfl, rfl, hf_73, hx_39, hf_40, hf_41, hx_42, hf_43, hf_44⟩
          · have _nhc_68 := hc_68
            have ni_74 := (fa_lt _ _).mp (zi_nle hc_68)
            rw [li_2] at ni_74
            have hv_75 : zI b2 3 8 := zI.lt_r zc_2 hv_27 (zi_nle hc_68) (by decide)
            refine lv_aload_n hx hb d_Words_number_83 rfl (lv_at hl 1 rfl) ?_
            refine lv_aload_n hx hb d_Words_number_84 rfl (lv_at hl 2 rfl) ?_
            refine z_callV (index := 66) (As := [.ref b1]) (rest := []) (wr := [(b34, .inl (G.2 1, 4, .inr (.inl b42)))]) Z (s2_Words_goOn l G (b0) (b1) (b3) (b4) (x_30) (x_33) (x_36) (x_37) (b9) (b10) (b11) (b12) (b13) (f_38) (x_39) (x_31) (x_32) (f_40) (f_41) (x_42) (x_34) (x_35) (f_43) (f_44) (f_45) (f_46) (b27) (b28) (b29) (b30) (b31) (b32) (b33) (b34) (b35) (b36) (b37) (b38) (b39) (b40) (b41) (b43) (b44) hb11 hx_39 hx_42 hb27 (zI.wk (l' := 0) (h' := 241) hv_3 (by decide)) hb35 hf_38 hf_40 hf_41 hf_43 hf_44 hb43 hb44) hl.1 q849 q851 qs26 q8 q852 ⟨by decide, by decide, by show _ = some 1; decide +kernel⟩ ⟨Nat.le_of_ble_eq_true rfl, Nat.le_of_ble_eq_true rfl⟩ ⟨Nat.le_of_ble_eq_true rfl, Nat.le_of_ble_eq_true rfl⟩ rfl (Nat.le_of_ble_eq_true rfl) d_Words_number_85 hP hD hS hA 1 7 rfl rfl rfl [1, 2, 3, 4, 5, 6, 7, 8, 9, 10, 11, 12, 13, 14] [0] rfl rfl rfl rfl (by decide) (fun v w1 H locs hw_76 hP hD hS => ?_)
            refine Exists.elim hw_76 (fun x_77 hz_95 => Exists.elim hz_95 (fun x_78 hz_96 => Exists.elim hz_96 (fun x_79 hz_97 => Exists.elim hz_97 (fun x_80 hz_98 => Exists.elim hz_98 (fun x_81 hz_99 => Exists.elim hz_99 (fun x_82 hz_100 => Exists.elim hz_100 (fun x_83 hz_101 => Exists.elim hz_101 (fun x_84 hz_102 => Exists.elim hz_102 (fun x_85 hz_103 => Exists.elim hz_103 (fun f_86 hz_104 => Exists.elim hz_104 (fun x_87 hz_105 => Exists.elim hz_105 (fun f_88 hz_106 => Exists.elim hz_106 (fun f_89 hz_107 => Exists.elim hz_107 (fun x_90 hz_108 => Exists.elim hz_108 (fun f_91 hz_109 => Exists.elim hz_109 (fun f_92 hz_110 => Exists.elim hz_110 (fun f_93 hz_111 => Exists.elim hz_111 (fun f_94 hz_112 => ?_))))))))))))))))))
            obtain ⟨rfl, rfl, hx_77, hf_86, hx_87, hf_88, hf_89, hx_90, hf_91, hf_92⟩ := hz_112
            have hP : va_P G.1 classes [(b34, .inl (G.2 1, 4, .inr (.inl b42))), (b0, .inr (7, [.ref b3, .ref b4, .ref x_78, .ref x_81, .ref x_84, .ref x_85, .ref b9, .ref b10])), (b4, .inr (6, [.int b11, .int 4, .int 10, .ref b12, .ref b13])), (b12, .inl (G.2 1, 40, .inr (.inl f_86))), (x_78, .inr (6, [.int x_87, .int 4, .int 100, .ref x_79, .ref x_80])), (x_79, .inl (G.2 1, 400, .inr (.inl f_88))), (x_80, .inl (G.2 0, 256, .inl f_89)), (x_81, .inr (6, [.int x_90, .int 4, .int 100, .ref x_82, .ref x_83])), (x_82, .inl (G.2 1, 400, .inr (.inl f_91))), (x_83, .inl (G.2 0, 256, .inl f_92)), (x_84, .inl (G.2 0, 100, .inl f_93)), (x_85, .inl (G.2 0, 100, .inl f_94)), (b1, .inr (5, [.int b27, .int b28, .ref b29, .ref b30, .ref b31, .ref b32, .ref b33, .ref b34, .int b35, .ref b36, .ref b37, .ref b38, .ref b39, .ref b40, .ref b41])), (b36, .inl (G.2 0, 240, .inl b43)), (b40, .inl (G.2 0, 242, .inl b44))] H := hP
            have hD := z_tie hP hD rfl
            refine W.widen (k := 0) (n := 0) (Nat.le_of_ble_eq_true rfl) (Nat.le_of_ble_eq_true rfl) ?_
            refine lv_if_ne (tgt := 94) hx hb d_Words_number_88 (by decide) (fun hc_113 => ?_) (fun hc_113 => ?_)
            · have _nhc_113 := hc_113
              have ni_114 : ¬ (x_77 : Int32).toInt = (0 : Int32).toInt := fun z => hc_113 ((fa_eq _ _).mpr z)
              simp only [li_0] at ni_114
              have hv_115 : zI x_77 1 1 := zI.ne_lo hx_77 zc_0 hc_113 (by decide)
              refine lv_iinc (v := 3) (lv' := [(3, .int 3), (0, .ref b0), (1, .ref b1), (2, .int b2)]) hx hb d_Words_number_94 hl (k := 0) rfl (by decide +kernel) (by decide) rfl (fun ls hl => ?_)
              refine lv_goto (tgt := 78) hx hb d_Words_number_97 (by decide) ?_
              refine lv_iload_n hx hb d_Words_number_78 rfl (lv_at hl 0 rfl) ?_
              refine lv_iload_n hx hb d_Words_number_79 rfl (lv_at hl 3 rfl) ?_
              refine lv_icmp_ge (tgt := 100) hx hb d_Words_number_80 (by decide) (fun hc_116 => ?_) (fun hc_116 => ?_)
              · have _nhc_116 := hc_116
                have ni_117 := (fa_le _ _).mp hc_116
                rw [li_3] at ni_117
                have hv_118 : zI b2 3 3 := zI.le_l hv_75 zc_3 hc_116 (by decide)
                refine lv_aload_n hx hb d_Words_number_100 rfl (lv_at hl 1 rfl) ?_
                refine lv_aload_n hx hb d_Words_number_101 rfl (lv_at hl 2 rfl) ?_
                refine z_callV (index := 70) (As := [.ref b1]) (rest := []) (wr := [(x_80, .inl (G.2 0, 256, .inl f_89)), (x_81, .inr (6, [.int x_90, .int 4, .int 100, .ref x_82, .ref x_83])), (x_82, .inl (G.2 1, 400, .inr (.inl f_91))), (x_83, .inl (G.2 0, 256, .inl f_92)), (x_85, .inl (G.2 0, 100, .inl f_94))]) Z (s2_Words_takenNext l G (b0) (b1) (b3) (b4) (x_78) (x_81) (x_84) (x_85) (b9) (b10) (b11) (b12) (b13) (f_86) (x_87) (x_79) (x_80) (f_88) (f_93) (b27) (b28) (b29) (b30) (b31) (b32) (b33) (b34) (b35) (b36) (b37) (b38) (b39) (b40) (b41) (b42) (b43) (b44) hb11 hx_87 hb27 (zI.wk (l' := 0) (h' := 241) hv_3 (by decide)) hb35 hf_86 hf_88 hb43 hb44) hl.1 q862 q864 qs28 q8 q865 ⟨by decide, by decide, by show _ = some 1; decide +kernel⟩ ⟨Nat.le_of_ble_eq_true rfl, Nat.le_of_ble_eq_true rfl⟩ ⟨Nat.le_of_ble_eq_true rfl, Nat.le_of_ble_eq_true rfl⟩ rfl (Nat.le_of_ble_eq_true rfl) d_Words_number_102 hP hD hS hA 1 7 rfl rfl rfl [1, 2, 3, 4, 5, 10, 12, 0, 13, 14] [6, 7, 8, 9, 11] rfl rfl rfl rfl (by decide) (fun v w1 H locs hw_119 hP hD hS => ?_)
                obtain ⟨x_120, f_121, rfl, rfl, hf_121⟩ := hw_119
                have hP : va_P G.1 classes [(x_80, .inl (G.2 0, 256, .inl f_89)), (x_81, .inr (6, [.int x_90, .int 4, .int 100, .ref x_82, .ref x_83])), (x_82, .inl (G.2 1, 400, .inr (.inl f_91))), (x_83, .inl (G.2 0, 256, .inl f_92)), (x_85, .inl (G.2 0, 100, .inl f_94)), (b0, .inr (7, [.ref b3, .ref b4, .ref x_78, .ref x_81, .ref x_84, .ref x_85, .ref b9, .ref b10])), (b4, .inr (6, [.int b11, .int 4, .int 10, .ref b12, .ref b13])), (b12, .inl (G.2 1, 40, .inr (.inl f_121))), (x_78, .inr (6, [.int x_87, .int 4, .int 100, .ref x_79, .ref x_80])), (x_79, .inl (G.2 1, 400, .inr (.inl f_88))), (x_84, .inl (G.2 0, 100, .inl f_93)), (b1, .inr (5, [.int b27, .int b28, .ref b29, .ref b30, .ref b31, .ref b32, .ref b33, .ref b34, .int b35, .ref b36, .ref b37, .ref b38, .ref b39, .ref b40, .ref b41])), (b34, .inl (G.2 1, 4, .inr (.inl b42))), (b36, .inl (G.2 0, 240, .inl b43)), (b40, .inl (G.2 0, 242, .inl b44))] H := hP
                have hD := z_tie hP hD rfl
                refine W.widen (k := 0) (n := 0) (Nat.le_of_ble_eq_true rfl) (Nat.le_of_ble_eq_true rfl) ?_
                exact z_iret hx hb hr hlocks (hP.sub [5, 6, 7, 8, 9, 0, 1, 2, 3, 10, 4, 11, 12, 13, 14] rfl) (hD.sub [5, 6, 7, 8, 9, 0, 1, 2, 3, 10, 4, 11, 12, 13, 14] (by decide) rfl) hS (Nat.le_of_ble_eq_true rfl) (Nat.le_of_ble_eq_true rfl) d_Words_number_105 ⟨x_120, x_78, x_79, x_80, x_81, x_82, x_83, x_84, x_85, f_121, x_87, f_88, f_89, x_90, f_91, f_92, f_93, f_94, rfl, rfl, hf_121, hx_87, hf_88, hf_89, hx_90, hf_91, hf_92⟩
              · have _nhc_116 := hc_116
                have ni_122 := (fa_lt _ _).mp (zi_nle hc_116)
                rw [li_3] at ni_122
                have hv_123 : zI b2 4 8 := zI.lt_r zc_3 hv_75 (zi_nle hc_116) (by decide)
                refine lv_aload_n hx hb d_Words_number_83 rfl (lv_at hl 1 rfl) ?_
                refine lv_aload_n hx hb d_Words_number_84 rfl (lv_at hl 2 rfl) ?_
                refine z_callV (index := 66) (As := [.ref b1]) (rest := []) (wr := [(b34, .inl (G.2 1, 4, .inr (.inl b42)))]) Z (s2_Words_goOn l G (b0) (b1) (b3) (b4) (x_78) (x_81) (x_84) (x_85) (b9) (b10) (b11) (b12) (b13) (f_86) (x_87) (x_79) (x_80) (f_88) (f_89) (x_90) (x_82) (x_83) (f_91) (f_92) (f_93) (f_94) (b27) (b28) (b29) (b30) (b31) (b32) (b33) (b34) (b35) (b36) (b37) (b38) (b39) (b40) (b41) (b43) (b44) hb11 hx_87 hx_90 hb27 (zI.wk (l' := 0) (h' := 241) hv_3 (by decide)) hb35 hf_86 hf_88 hf_89 hf_91 hf_92 hb43 hb44) hl.1 q849 q851 qs26 q8 q852 ⟨by decide, by decide, by show _ = some 1; decide +kernel⟩ ⟨Nat.le_of_ble_eq_true rfl, Nat.le_of_ble_eq_true rfl⟩ ⟨Nat.le_of_ble_eq_true rfl, Nat.le_of_ble_eq_true rfl⟩ rfl (Nat.le_of_ble_eq_true rfl) d_Words_number_85 hP hD hS hA 1 7 rfl rfl rfl [1, 2, 3, 4, 5, 6, 7, 8, 9, 10, 11, 12, 13, 14] [0] rfl rfl rfl rfl (by decide) (fun v w1 H locs hw_124 hP hD hS => ?_)
                refine Exists.elim hw_124 (fun x_125 hz_143 => Exists.elim hz_143 (fun x_126 hz_144 => Exists.elim hz_144 (fun x_127 hz_145 => Exists.elim hz_145 (fun x_128 hz_146 => Exists.elim hz_146 (fun x_129 hz_147 => Exists.elim hz_147 (fun x_130 hz_148 => Exists.elim hz_148 (fun x_131 hz_149 => Exists.elim hz_149 (fun x_132 hz_150 => Exists.elim hz_150 (fun x_133 hz_151 => Exists.elim hz_151 (fun f_134 hz_152 => Exists.elim hz_152 (fun x_135 hz_153 => Exists.elim hz_153 (fun f_136 hz_154 => Exists.elim hz_154 (fun f_137 hz_155 => Exists.elim hz_155 (fun x_138 hz_156 => Exists.elim hz_156 (fun f_139 hz_157 => Exists.elim hz_157 (fun f_140 hz_158 => Exists.elim hz_158 (fun f_141 hz_159 => Exists.elim hz_159 (fun f_142 hz_160 => ?_))))))))))))))))))
                obtain ⟨rfl, rfl, hx_125, hf_134, hx_135, hf_136, hf_137, hx_138, hf_139, hf_140⟩ := hz_160
                have hP : va_P G.1 classes [(b34, .inl (G.2 1, 4, .inr (.inl b42))), (b0, .inr (7, [.ref b3, .ref b4, .ref x_126, .ref x_129, .ref x_132, .ref x_133, .ref b9, .ref b10])), (b4, .inr (6, [.int b11, .int 4, .int 10, .ref b12, .ref b13])), (b12, .inl (G.2 1, 40, .inr (.inl f_134))), (x_126, .inr (6, [.int x_135, .int 4, .int 100, .ref x_127, .ref x_128])), (x_127, .inl (G.2 1, 400, .inr (.inl f_136))), (x_128, .inl (G.2 0, 256, .inl f_137)), (x_129, .inr (6, [.int x_138, .int 4, .int 100, .ref x_130, .ref x_131])), (x_130, .inl (G.2 1, 400, .inr (.inl f_139))), (x_131, .inl (G.2 0, 256, .inl f_140)), (x_132, .inl (G.2 0, 100, .inl f_141)), (x_133, .inl (G.2 0, 100, .inl f_142)), (b1, .inr (5, [.int b27, .int b28, .ref b29, .ref b30, .ref b31, .ref b32, .ref b33, .ref b34, .int b35, .ref b36, .ref b37, .ref b38, .ref b39, .ref b40, .ref b41])), (b36, .inl (G.2 0, 240, .inl b43)), (b40, .inl (G.2 0, 242, .inl b44))] H := hP
                have hD := z_tie hP hD rfl
                refine W.widen (k := 0) (n := 0) (Nat.le_of_ble_eq_true rfl) (Nat.le_of_ble_eq_true rfl) ?_
                refine lv_if_ne (tgt := 94) hx hb d_Words_number_88 (by decide) (fun hc_161 => ?_) (fun hc_161 => ?_)
                · have _nhc_161 := hc_161
                  have ni_162 : ¬ (x_125 : Int32).toInt = (0 : Int32).toInt := fun z => hc_161 ((fa_eq _ _).mpr z)
                  simp only [li_0] at ni_162
                  have hv_163 : zI x_125 1 1 := zI.ne_lo hx_125 zc_0 hc_161 (by decide)
                  refine lv_iinc (v := 4) (lv' := [(3, .int 4), (0, .ref b0), (1, .ref b1), (2, .int b2)]) hx hb d_Words_number_94 hl (k := 0) rfl (by decide +kernel) (by decide) rfl (fun ls hl => ?_)
                  refine lv_goto (tgt := 78) hx hb d_Words_number_97 (by decide) ?_
                  refine lv_iload_n hx hb d_Words_number_78 rfl (lv_at hl 0 rfl) ?_
                  refine lv_iload_n hx hb d_Words_number_79 rfl (lv_at hl 3 rfl) ?_
                  refine lv_icmp_ge (tgt := 100) hx hb d_Words_number_80 (by decide) (fun hc_164 => ?_) (fun hc_164 => ?_)
                  · have _nhc_164 := hc_164
                    have ni_165 := (fa_le _ _).mp hc_164
                    rw [li_4] at ni_165
                    have hv_166 : zI b2 4 4 := zI.le_l hv_123 zc_4 hc_164 (by decide)
                    refine lv_aload_n hx hb d_Words_number_100 rfl (lv_at hl 1 rfl) ?_
                    refine lv_aload_n hx hb d_Words_number_101 rfl (lv_at hl 2 rfl) ?_
                    refine z_callV (index := 70) (As := [.ref b1]) (rest := []) (wr := [(x_128, .inl (G.2 0, 256, .inl f_137)), (x_129, .inr (6, [.int x_138, .int 4, .int 100, .ref x_130, .ref x_131])), (x_130, .inl (G.2 1, 400, .inr (.inl f_139))), (x_131, .inl (G.2 0, 256, .inl f_140)), (x_133, .inl (G.2 0, 100, .inl f_142))]) Z (s2_Words_takenNext l G (b0) (b1) (b3) (b4) (x_126) (x_129) (x_132) (x_133) (b9) (b10) (b11) (b12) (b13) (f_134) (x_135) (x_127) (x_128) (f_136) (f_141) (b27) (b28) (b29) (b30) (b31) (b32) (b33) (b34) (b35) (b36) (b37) (b38) (b39) (b40) (b41) (b42) (b43) (b44) hb11 hx_135 hb27 (zI.wk (l' := 0) (h' := 241) hv_3 (by decide)) hb35 hf_134 hf_136 hb43 hb44) hl.1 q862 q864 qs28 q8 q865 ⟨by decide, by decide, by show _ = some 1; decide +kernel⟩ ⟨Nat.le_of_ble_eq_true rfl, Nat.le_of_ble_eq_true rfl⟩ ⟨Nat.le_of_ble_eq_true rfl, Nat.le_of_ble_eq_true rfl⟩ rfl (Nat.le_of_ble_eq_true rfl) d_Words_number_102 hP hD hS hA 1 7 rfl rfl rfl [1, 2, 3, 4, 5, 10, 12, 0, 13, 14] [6, 7, 8, 9, 11] rfl rfl rfl rfl (by decide) (fun v w1 H locs hw_167 hP hD hS => ?_)
                    obtain ⟨x_168, f_169, rfl, rfl, hf_169⟩ := hw_167
                    have hP : va_P G.1 classes [(x_128, .inl (G.2 0, 256, .inl f_137)), (x_129, .inr (6, [.int x_138, .int 4, .int 100, .ref x_130, .ref x_131])), (x_130, .inl (G.2 1, 400, .inr (.inl f_139))), (x_131, .inl (G.2 0, 256, .inl f_140)), (x_133, .inl (G.2 0, 100, .inl f_142)), (b0, .inr (7, [.ref b3, .ref b4, .ref x_126, .ref x_129, .ref x_132, .ref x_133, .ref b9, .ref b10])), (b4, .inr (6, [.int b11, .int 4, .int 10, .ref b12, .ref b13])), (b12, .inl (G.2 1, 40, .inr (.inl f_169))), (x_126, .inr (6, [.int x_135, .int 4, .int 100, .ref x_127, .ref x_128])), (x_127, .inl (G.2 1, 400, .inr (.inl f_136))), (x_132, .inl (G.2 0, 100, .inl f_141)), (b1, .inr (5, [.int b27, .int b28, .ref b29, .ref b30, .ref b31, .ref b32, .ref b33, .ref b34, .int b35, .ref b36, .ref b37, .ref b38, .ref b39, .ref b40, .ref b41])), (b34, .inl (G.2 1, 4, .inr (.inl b42))), (b36, .inl (G.2 0, 240, .inl b43)), (b40, .inl (G.2 0, 242, .inl b44))] H := hP
                    have hD := z_tie hP hD rfl
                    refine W.widen (k := 0) (n := 0) (Nat.le_of_ble_eq_true rfl) (Nat.le_of_ble_eq_true rfl) ?_
                    exact z_iret hx hb hr hlocks (hP.sub [5, 6, 7, 8, 9, 0, 1, 2, 3, 10, 4, 11, 12, 13, 14] rfl) (hD.sub [5, 6, 7, 8, 9, 0, 1, 2, 3, 10, 4, 11, 12, 13, 14] (by decide) rfl) hS (Nat.le_of_ble_eq_true rfl) (Nat.le_of_ble_eq_true rfl) d_Words_number_105 ⟨x_168, x_126, x_127, x_128, x_129, x_130, x_131, x_132, x_133, f_169, x_135, f_136, f_137, x_138, f_139, f_140, f_141, f_142, rfl, rfl, hf_169, hx_135, hf_136, hf_137, hx_138, hf_139, hf_140⟩
                  · have _nhc_164 := hc_164
                    have ni_170 := (fa_lt _ _).mp (zi_nle hc_164)
                    rw [li_4] at ni_170
                    have hv_171 : zI b2 5 8 := zI.lt_r zc_4 hv_123 (zi_nle hc_164) (by decide)
                    refine lv_aload_n hx hb d_Words_number_83 rfl (lv_at hl 1 rfl) ?_
                    refine lv_aload_n hx hb d_Words_number_84 rfl (lv_at hl 2 rfl) ?_
                    refine z_callV (index := 66) (As := [.ref b1]) (rest := []) (wr := [(b34, .inl (G.2 1, 4, .inr (.inl b42)))]) Z (s2_Words_goOn l G (b0) (b1) (b3) (b4) (x_126) (x_129) (x_132) (x_133) (b9) (b10) (b11) (b12) (b13) (f_134) (x_135) (x_127) (x_128) (f_136) (f_137) (x_138) (x_130) (x_131) (f_139) (f_140) (f_141) (f_142) (b27) (b28) (b29) (b30) (b31) (b32) (b33) (b34) (b35) (b36) (b37) (b38) (b39) (b40) (b41) (b43) (b44) hb11 hx_135 hx_138 hb27 (zI.wk (l' := 0) (h' := 241) hv_3 (by decide)) hb35 hf_134 hf_136 hf_137 hf_139 hf_140 hb43 hb44) hl.1 q849 q851 qs26 q8 q852 ⟨by decide, by decide, by show _ = some 1; decide +kernel⟩ ⟨Nat.le_of_ble_eq_true rfl, Nat.le_of_ble_eq_true rfl⟩ ⟨Nat.le_of_ble_eq_true rfl, Nat.le_of_ble_eq_true rfl⟩ rfl (Nat.le_of_ble_eq_true rfl) d_Words_number_85 hP hD hS hA 1 7 rfl rfl rfl [1, 2, 3, 4, 5, 6, 7, 8, 9, 10, 11, 12, 13, 14] [0] rfl rfl rfl rfl (by decide) (fun v w1 H locs hw_172 hP hD hS => ?_)
                    refine Exists.elim hw_172 (fun x_173 hz_191 => Exists.elim hz_191 (fun x_174 hz_192 => Exists.elim hz_192 (fun x_175 hz_193 => Exists.elim hz_193 (fun x_176 hz_194 => Exists.elim hz_194 (fun x_177 hz_195 => Exists.elim hz_195 (fun x_178 hz_196 => Exists.elim hz_196 (fun x_179 hz_197 => Exists.elim hz_197 (fun x_180 hz_198 => Exists.elim hz_198 (fun x_181 hz_199 => Exists.elim hz_199 (fun f_182 hz_200 => Exists.elim hz_200 (fun x_183 hz_201 => Exists.elim hz_201 (fun f_184 hz_202 => Exists.elim hz_202 (fun f_185 hz_203 => Exists.elim hz_203 (fun x_186 hz_204 => Exists.elim hz_204 (fun f_187 hz_205 => Exists.elim hz_205 (fun f_188 hz_206 => Exists.elim hz_206 (fun f_189 hz_207 => Exists.elim hz_207 (fun f_190 hz_208 => ?_))))))))))))))))))
                    obtain ⟨rfl, rfl, hx_173, hf_182, hx_183, hf_184, hf_185, hx_186, hf_187, hf_188⟩ := hz_208
                    have hP : va_P G.1 classes [(b34, .inl (G.2 1, 4, .inr (.inl b42))), (b0, .inr (7, [.ref b3, .ref b4, .ref x_174, .ref x_177, .ref x_180, .ref x_181, .ref b9, .ref b10])), (b4, .inr (6, [.int b11, .int 4, .int 10, .ref b12, .ref b13])), (b12, .inl (G.2 1, 40, .inr (.inl f_182))), (x_174, .inr (6, [.int x_183, .int 4, .int 100, .ref x_175, .ref x_176])), (x_175, .inl (G.2 1, 400, .inr (.inl f_184))), (x_176, .inl (G.2 0, 256, .inl f_185)), (x_177, .inr (6, [.int x_186, .int 4, .int 100, .ref x_178, .ref x_179])), (x_178, .inl (G.2 1, 400, .inr (.inl f_187))), (x_179, .inl (G.2 0, 256, .inl f_188)), (x_180, .inl (G.2 0, 100, .inl f_189)), (x_181, .inl (G.2 0, 100, .inl f_190)), (b1, .inr (5, [.int b27, .int b28, .ref b29, .ref b30, .ref b31, .ref b32, .ref b33, .ref b34, .int b35, .ref b36, .ref b37, .ref b38, .ref b39, .ref b40, .ref b41])), (b36, .inl (G.2 0, 240, .inl b43)), (b40, .inl (G.2 0, 242, .inl b44))] H := hP
                    have hD := z_tie hP hD rfl
                    refine W.widen (k := 0) (n := 0) (Nat.le_of_ble_eq_true rfl) (Nat.le_of_ble_eq_true rfl) ?_
                    refine lv_if_ne (tgt := 94) hx hb d_Words_number_88 (by decide) (fun hc_209 => ?_) (fun hc_209 => ?_)
                    · have _nhc_209 := hc_209
                      have ni_210 : ¬ (x_173 : Int32).toInt = (0 : Int32).toInt := fun z => hc_209 ((fa_eq _ _).mpr z)
                      simp only [li_0] at ni_210
                      have hv_211 : zI x_173 1 1 := zI.ne_lo hx_173 zc_0 hc_209 (by decide)
                      refine lv_iinc (v := 5) (lv' := [(3, .int 5), (0, .ref b0), (1, .ref b1), (2, .int b2)]) hx hb d_Words_number_94 hl (k := 0) rfl (by decide +kernel) (by decide) rfl (fun ls hl => ?_)
                      refine lv_goto (tgt := 78) hx hb d_Words_number_97 (by decide) ?_
                      refine lv_iload_n hx hb d_Words_number_78 rfl (lv_at hl 0 rfl) ?_
                      refine lv_iload_n hx hb d_Words_number_79 rfl (lv_at hl 3 rfl) ?_
                      refine lv_icmp_ge (tgt := 100) hx hb d_Words_number_80 (by decide) (fun hc_212 => ?_) (fun hc_212 => ?_)
                      · have _nhc_212 := hc_212
                        have ni_213 := (fa_le _ _).mp hc_212
                        rw [li_5] at ni_213
                        have hv_214 : zI b2 5 5 := zI.le_l hv_171 zc_5 hc_212 (by decide)
                        refine lv_aload_n hx hb d_Words_number_100 rfl (lv_at hl 1 rfl) ?_
                        refine lv_aload_n hx hb d_Words_number_101 rfl (lv_at hl 2 rfl) ?_
                        refine z_callV (index := 70) (As := [.ref b1]) (rest := []) (wr := [(x_176, .inl (G.2 0, 256, .inl f_185)), (x_177, .inr (6, [.int x_186, .int 4, .int 100, .ref x_178, .ref x_179])), (x_178, .inl (G.2 1, 400, .inr (.inl f_187))), (x_179, .inl (G.2 0, 256, .inl f_188)), (x_181, .inl (G.2 0, 100, .inl f_190))]) Z (s2_Words_takenNext l G (b0) (b1) (b3) (b4) (x_174) (x_177) (x_180) (x_181) (b9) (b10) (b11) (b12) (b13) (f_182) (x_183) (x_175) (x_176) (f_184) (f_189) (b27) (b28) (b29) (b30) (b31) (b32) (b33) (b34) (b35) (b36) (b37) (b38) (b39) (b40) (b41) (b42) (b43) (b44) hb11 hx_183 hb27 (zI.wk (l' := 0) (h' := 241) hv_3 (by decide)) hb35 hf_182 hf_184 hb43 hb44) hl.1 q862 q864 qs28 q8 q865 ⟨by decide, by decide, by show _ = some 1; decide +kernel⟩ ⟨Nat.le_of_ble_eq_true rfl, Nat.le_of_ble_eq_true rfl⟩ ⟨Nat.le_of_ble_eq_true rfl, Nat.le_of_ble_eq_true rfl⟩ rfl (Nat.le_of_ble_eq_true rfl) d_Words_number_102 hP hD hS hA 1 7 rfl rfl rfl [1, 2, 3, 4, 5, 10, 12, 0, 13, 14] [6, 7, 8, 9, 11] rfl rfl rfl rfl (by decide) (fun v w1 H locs hw_215 hP hD hS => ?_)
                        obtain ⟨x_216, f_217, rfl, rfl, hf_217⟩ := hw_215
                        have hP : va_P G.1 classes [(x_176, .inl (G.2 0, 256, .inl f_185)), (x_177, .inr (6, [.int x_186, .int 4, .int 100, .ref x_178, .ref x_179])), (x_178, .inl (G.2 1, 400, .inr (.inl f_187))), (x_179, .inl (G.2 0, 256, .inl f_188)), (x_181, .inl (G.2 0, 100, .inl f_190)), (b0, .inr (7, [.ref b3, .ref b4, .ref x_174, .ref x_177, .ref x_180, .ref x_181, .ref b9, .ref b10])), (b4, .inr (6, [.int b11, .int 4, .int 10, .ref b12, .ref b13])), (b12, .inl (G.2 1, 40, .inr (.inl f_217))), (x_174, .inr (6, [.int x_183, .int 4, .int 100, .ref x_175, .ref x_176])), (x_175, .inl (G.2 1, 400, .inr (.inl f_184))), (x_180, .inl (G.2 0, 100, .inl f_189)), (b1, .inr (5, [.int b27, .int b28, .ref b29, .ref b30, .ref b31, .ref b32, .ref b33, .ref b34, .int b35, .ref b36, .ref b37, .ref b38, .ref b39, .ref b40, .ref b41])), (b34, .inl (G.2 1, 4, .inr (.inl b42))), (b36, .inl (G.2 0, 240, .inl b43)), (b40, .inl (G.2 0, 242, .inl b44))] H := hP
                        have hD := z_tie hP hD rfl
                        refine W.widen (k := 0) (n := 0) (Nat.le_of_ble_eq_true rfl) (Nat.le_of_ble_eq_true rfl) ?_
                        exact z_iret hx hb hr hlocks (hP.sub [5, 6, 7, 8, 9, 0, 1, 2, 3, 10, 4, 11, 12, 13, 14] rfl) (hD.sub [5, 6, 7, 8, 9, 0, 1, 2, 3, 10, 4, 11, 12, 13, 14] (by decide) rfl) hS (Nat.le_of_ble_eq_true rfl) (Nat.le_of_ble_eq_true rfl) d_Words_number_105 ⟨x_216, x_174, x_175, x_176, x_177, x_178, x_179, x_180, x_181, f_217, x_183, f_184, f_185, x_186, f_187, f_188, f_189, f_190, rfl, rfl, hf_217, hx_183, hf_184, hf_185, hx_186, hf_187, hf_188⟩
                      · have _nhc_212 := hc_212
                        have ni_218 := (fa_lt _ _).mp (zi_nle hc_212)
                        rw [li_5] at ni_218
                        have hv_219 : zI b2 6 8 := zI.lt_r zc_5 hv_171 (zi_nle hc_212) (by decide)
                        refine lv_aload_n hx hb d_Words_number_83 rfl (lv_at hl 1 rfl) ?_
                        refine lv_aload_n hx hb d_Words_number_84 rfl (lv_at hl 2 rfl) ?_
                        refine z_callV (index := 66) (As := [.ref b1]) (rest := []) (wr := [(b34, .inl (G.2 1, 4, .inr (.inl b42)))]) Z (s2_Words_goOn l G (b0) (b1) (b3) (b4) (x_174) (x_177) (x_180) (x_181) (b9) (b10) (b11) (b12) (b13) (f_182) (x_183) (x_175) (x_176) (f_184) (f_185) (x_186) (x_178) (x_179) (f_187) (f_188) (f_189) (f_190) (b27) (b28) (b29) (b30) (b31) (b32) (b33) (b34) (b35) (b36) (b37) (b38) (b39) (b40) (b41) (b43) (b44) hb11 hx_183 hx_186 hb27 (zI.wk (l' := 0) (h' := 241) hv_3 (by decide)) hb35 hf_182 hf_184 hf_185 hf_187 hf_188 hb43 hb44) hl.1 q849 q851 qs26 q8 q852 ⟨by decide, by decide, by show _ = some 1; decide +kernel⟩ ⟨Nat.le_of_ble_eq_true rfl, Nat.le_of_ble_eq_true rfl⟩ ⟨Nat.le_of_ble_eq_true rfl, Nat.le_of_ble_eq_true rfl⟩ rfl (Nat.le_of_ble_eq_true rfl) d_Words_number_85 hP hD hS hA 1 7 rfl rfl rfl [1, 2, 3, 4, 5, 6, 7, 8, 9, 10, 11, 12, 13, 14] [0] rfl rfl rfl rfl (by decide) (fun v w1 H locs hw_220 hP hD hS => ?_)
                        refine Exists.elim hw_220 (fun x_221 hz_239 => Exists.elim hz_239 (fun x_222 hz_240 => Exists.elim hz_240 (fun x_223 hz_241 => Exists.elim hz_241 (fun x_224 hz_242 => Exists.elim hz_242 (fun x_225 hz_243 => Exists.elim hz_243 (fun x_226 hz_244 => Exists.elim hz_244 (fun x_227 hz_245 => Exists.elim hz_245 (fun x_228 hz_246 => Exists.elim hz_246 (fun x_229 hz_247 => Exists.elim hz_247 (fun f_230 hz_248 => Exists.elim hz_248 (fun x_231 hz_249 => Exists.elim hz_249 (fun f_232 hz_250 => Exists.elim hz_250 (fun f_233 hz_251 => Exists.elim hz_251 (fun x_234 hz_252 => Exists.elim hz_252 (fun f_235 hz_253 => Exists.elim hz_253 (fun f_236 hz_254 => Exists.elim hz_254 (fun f_237 hz_255 => Exists.elim hz_255 (fun f_238 hz_256 => ?_))))))))))))))))))
                        obtain ⟨rfl, rfl, hx_221, hf_230, hx_231, hf_232, hf_233, hx_234, hf_235, hf_236⟩ := hz_256
                        have hP : va_P G.1 classes [(b34, .inl (G.2 1, 4, .inr (.inl b42))), (b0, .inr (7, [.ref b3, .ref b4, .ref x_222, .ref x_225, .ref x_228, .ref x_229, .ref b9, .ref b10])), (b4, .inr (6, [.int b11, .int 4, .int 10, .ref b12, .ref b13])), (b12, .inl (G.2 1, 40, .inr (.inl f_230))), (x_222, .inr (6, [.int x_231, .int 4, .int 100, .ref x_223, .ref x_224])), (x_223, .inl (G.2 1, 400, .inr (.inl f_232))), (x_224, .inl (G.2 0, 256, .inl f_233)), (x_225, .inr (6, [.int x_234, .int 4, .int 100, .ref x_226, .ref x_227])), (x_226, .inl (G.2 1, 400, .inr (.inl f_235))), (x_227, .inl (G.2 0, 256, .inl f_236)), (x_228, .inl (G.2 0, 100, .inl f_237)), (x_229, .inl (G.2 0, 100, .inl f_238)), (b1, .inr (5, [.int b27, .int b28, .ref b29, .ref b30, .ref b31, .ref b32, .ref b33, .ref b34, .int b35, .ref b36, .ref b37, .ref b38, .ref b39, .ref b40, .ref b41])), (b36, .inl (G.2 0, 240, .inl b43)), (b40, .inl (G.2 0, 242, .inl b44))] H := hP
                        have hD := z_tie hP hD rfl
                        refine W.widen (k := 0) (n := 0) (Nat.le_of_ble_eq_true rfl) (Nat.le_of_ble_eq_true rfl) ?_
                        refine lv_if_ne (tgt := 94) hx hb d_Words_number_88 (by decide) (fun hc_257 => ?_) (fun hc_257 => ?_)
                        · have _nhc_257 := hc_257
                          have ni_258 : ¬ (x_221 : Int32).toInt = (0 : Int32).toInt := fun z => hc_257 ((fa_eq _ _).mpr z)
                          simp only [li_0] at ni_258
                          have hv_259 : zI x_221 1 1 := zI.ne_lo hx_221 zc_0 hc_257 (by decide)
                          refine lv_iinc (v := 6) (lv' := [(3, .int 6), (0, .ref b0), (1, .ref b1), (2, .int b2)]) hx hb d_Words_number_94 hl (k := 0) rfl (by decide +kernel) (by decide) rfl (fun ls hl => ?_)
                          refine lv_goto (tgt := 78) hx hb d_Words_number_97 (by decide) ?_
                          refine lv_iload_n hx hb d_Words_number_78 rfl (lv_at hl 0 rfl) ?_
                          refine lv_iload_n hx hb d_Words_number_79 rfl (lv_at hl 3 rfl) ?_
                          refine lv_icmp_ge (tgt := 100) hx hb d_Words_number_80 (by decide) (fun hc_260 => ?_) (fun hc_260 => ?_)
                          · have _nhc_260 := hc_260
                            have ni_261 := (fa_le _ _).mp hc_260
                            rw [li_6] at ni_261
                            have hv_262 : zI b2 6 6 := zI.le_l hv_219 zc_6 hc_260 (by decide)
                            refine lv_aload_n hx hb d_Words_number_100 rfl (lv_at hl 1 rfl) ?_
                            refine lv_aload_n hx hb d_Words_number_101 rfl (lv_at hl 2 rfl) ?_
                            refine z_callV (index := 70) (As := [.ref b1]) (rest := []) (wr := [(x_224, .inl (G.2 0, 256, .inl f_233)), (x_225, .inr (6, [.int x_234, .int 4, .int 100, .ref x_226, .ref x_227])), (x_226, .inl (G.2 1, 400, .inr (.inl f_235))), (x_227, .inl (G.2 0, 256, .inl f_236)), (x_229, .inl (G.2 0, 100, .inl f_238))]) Z (s2_Words_takenNext l G (b0) (b1) (b3) (b4) (x_222) (x_225) (x_228) (x_229) (b9) (b10) (b11) (b12) (b13) (f_230) (x_231) (x_223) (x_224) (f_232) (f_237) (b27) (b28) (b29) (b30) (b31) (b32) (b33) (b34) (b35) (b36) (b37) (b38) (b39) (b40) (b41) (b42) (b43) (b44) hb11 hx_231 hb27 (zI.wk (l' := 0) (h' := 241) hv_3 (by decide)) hb35 hf_230 hf_232 hb43 hb44) hl.1 q862 q864 qs28 q8 q865 ⟨by decide, by decide, by show _ = some 1; decide +kernel⟩ ⟨Nat.le_of_ble_eq_true rfl, Nat.le_of_ble_eq_true rfl⟩ ⟨Nat.le_of_ble_eq_true rfl, Nat.le_of_ble_eq_true rfl⟩ rfl (Nat.le_of_ble_eq_true rfl) d_Words_number_102 hP hD hS hA 1 7 rfl rfl rfl [1, 2, 3, 4, 5, 10, 12, 0, 13, 14] [6, 7, 8, 9, 11] rfl rfl rfl rfl (by decide) (fun v w1 H locs hw_263 hP hD hS => ?_)
                            obtain ⟨x_264, f_265, rfl, rfl, hf_265⟩ := hw_263
                            have hP : va_P G.1 classes [(x_224, .inl (G.2 0, 256, .inl f_233)), (x_225, .inr (6, [.int x_234, .int 4, .int 100, .ref x_226, .ref x_227])), (x_226, .inl (G.2 1, 400, .inr (.inl f_235))), (x_227, .inl (G.2 0, 256, .inl f_236)), (x_229, .inl (G.2 0, 100, .inl f_238)), (b0, .inr (7, [.ref b3, .ref b4, .ref x_222, .ref x_225, .ref x_228, .ref x_229, .ref b9, .ref b10])), (b4, .inr (6, [.int b11, .int 4, .int 10, .ref b12, .ref b13])), (b12, .inl (G.2 1, 40, .inr (.inl f_265))), (x_222, .inr (6, [.int x_231, .int 4, .int 100, .ref x_223, .ref x_224])), (x_223, .inl (G.2 1, 400, .inr (.inl f_232))), (x_228, .inl (G.2 0, 100, .inl f_237)), (b1, .inr (5, [.int b27, .int b28, .ref b29, .ref b30, .ref b31, .ref b32, .ref b33, .ref b34, .int b35, .ref b36, .ref b37, .ref b38, .ref b39, .ref b40, .ref b41])), (b34, .inl (G.2 1, 4, .inr (.inl b42))), (b36, .inl (G.2 0, 240, .inl b43)), (b40, .inl (G.2 0, 242, .inl b44))] H := hP
                            have hD := z_tie hP hD rfl
                            refine W.widen (k := 0) (n := 0) (Nat.le_of_ble_eq_true rfl) (Nat.le_of_ble_eq_true rfl) ?_
                            exact z_iret hx hb hr hlocks (hP.sub [5, 6, 7, 8, 9, 0, 1, 2, 3, 10, 4, 11, 12, 13, 14] rfl) (hD.sub [5, 6, 7, 8, 9, 0, 1, 2, 3, 10, 4, 11, 12, 13, 14] (by decide) rfl) hS (Nat.le_of_ble_eq_true rfl) (Nat.le_of_ble_eq_true rfl) d_Words_number_105 ⟨x_264, x_222, x_223, x_224, x_225, x_226, x_227, x_228, x_229, f_265, x_231, f_232, f_233, x_234, f_235, f_236, f_237, f_238, rfl, rfl, hf_265, hx_231, hf_232, hf_233, hx_234, hf_235, hf_236⟩
                          · have _nhc_260 := hc_260
                            have ni_266 := (fa_lt _ _).mp (zi_nle hc_260)
                            rw [li_6] at ni_266
                            have hv_267 : zI b2 7 8 := zI.lt_r zc_6 hv_219 (zi_nle hc_260) (by decide)
                            refine lv_aload_n hx hb d_Words_number_83 rfl (lv_at hl 1 rfl) ?_
                            refine lv_aload_n hx hb d_Words_number_84 rfl (lv_at hl 2 rfl) ?_
                            refine z_callV (index := 66) (As := [.ref b1]) (rest := []) (wr := [(b34, .inl (G.2 1, 4, .inr (.inl b42)))]) Z (s2_Words_goOn l G (b0) (b1) (b3) (b4) (x_222) (x_225) (x_228) (x_229) (b9) (b10) (b11) (b12) (b13) (f_230) (x_231) (x_223) (x_224) (f_232) (f_233) (x_234) (x_226) (x_227) (f_235) (f_236) (f_237) (f_238) (b27) (b28) (b29) (b30) (b31) (b32) (b33) (b34) (b35) (b36) (b37) (b38) (b39) (b40) (b41) (b43) (b44) hb11 hx_231 hx_234 hb27 (zI.wk (l' := 0) (h' := 241) hv_3 (by decide)) hb35 hf_230 hf_232 hf_233 hf_235 hf_236 hb43 hb44) hl.1 q849 q851 qs26 q8 q852 ⟨by decide, by decide, by show _ = some 1; decide +kernel⟩ ⟨Nat.le_of_ble_eq_true rfl, Nat.le_of_ble_eq_true rfl⟩ ⟨Nat.le_of_ble_eq_true rfl, Nat.le_of_ble_eq_true rfl⟩ rfl (Nat.le_of_ble_eq_true rfl) d_Words_number_85 hP hD hS hA 1 7 rfl rfl rfl [1, 2, 3, 4, 5, 6, 7, 8, 9, 10, 11, 12, 13, 14] [0] rfl rfl rfl rfl (by decide) (fun v w1 H locs hw_268 hP hD hS => ?_)
                            refine Exists.elim hw_268 (fun x_269 hz_287 => Exists.elim hz_287 (fun x_270 hz_288 => Exists.elim hz_288 (fun x_271 hz_289 => Exists.elim hz_289 (fun x_272 hz_290 => Exists.elim hz_290 (fun x_273 hz_291 => Exists.elim hz_291 (fun x_274 hz_292 => Exists.elim hz_292 (fun x_275 hz_293 => Exists.elim hz_293 (fun x_276 hz_294 => Exists.elim hz_294 (fun x_277 hz_295 => Exists.elim hz_295 (fun f_278 hz_296 => Exists.elim hz_296 (fun x_279 hz_297 => Exists.elim hz_297 (fun f_280 hz_298 => Exists.elim hz_298 (fun f_281 hz_299 => Exists.elim hz_299 (fun x_282 hz_300 => Exists.elim hz_300 (fun f_283 hz_301 => Exists.elim hz_301 (fun f_284 hz_302 => Exists.elim hz_302 (fun f_285 hz_303 => Exists.elim hz_303 (fun f_286 hz_304 => ?_))))))))))))))))))
                            obtain ⟨rfl, rfl, hx_269, hf_278, hx_279, hf_280, hf_281, hx_282, hf_283, hf_284⟩ := hz_304
                            have hP : va_P G.1 classes [(b34, .inl (G.2 1, 4, .inr (.inl b42))), (b0, .inr (7, [.ref b3, .ref b4, .ref x_270, .ref x_273, .ref x_276, .ref x_277, .ref b9, .ref b10])), (b4, .inr (6, [.int b11, .int 4, .int 10, .ref b12, .ref b13])), (b12, .inl (G.2 1, 40, .inr (.inl f_278))), (x_270, .inr (6, [.int x_279, .int 4, .int 100, .ref x_271, .ref x_272])), (x_271, .inl (G.2 1, 400, .inr (.inl f_280))), (x_272, .inl (G.2 0, 256, .inl f_281)), (x_273, .inr (6, [.int x_282, .int 4, .int 100, .ref x_274, .ref x_275])), (x_274, .inl (G.2 1, 400, .inr (.inl f_283))), (x_275, .inl (G.2 0, 256, .inl f_284)), (x_276, .inl (G.2 0, 100, .inl f_285)), (x_277, .inl (G.2 0, 100, .inl f_286)), (b1, .inr (5, [.int b27, .int b28, .ref b29, .ref b30, .ref b31, .ref b32, .ref b33, .ref b34, .int b35, .ref b36, .ref b37, .ref b38, .ref b39, .ref b40, .ref b41])), (b36, .inl (G.2 0, 240, .inl b43)), (b40, .inl (G.2 0, 242, .inl b44))] H := hP
                            have hD := z_tie hP hD rfl
                            refine W.widen (k := 0) (n := 0) (Nat.le_of_ble_eq_true rfl) (Nat.le_of_ble_eq_true rfl) ?_
                            refine lv_if_ne (tgt := 94) hx hb d_Words_number_88 (by decide) (fun hc_305 => ?_) (fun hc_305 => ?_)
                            · have _nhc_305 := hc_305
                              have ni_306 : ¬ (x_269 : Int32).toInt = (0 : Int32).toInt := fun z => hc_305 ((fa_eq _ _).mpr z)
                              simp only [li_0] at ni_306
                              have hv_307 : zI x_269 1 1 := zI.ne_lo hx_269 zc_0 hc_305 (by decide)
                              refine lv_iinc (v := 7) (lv' := [(3, .int 7), (0, .ref b0), (1, .ref b1), (2, .int b2)]) hx hb d_Words_number_94 hl (k := 0) rfl (by decide +kernel) (by decide) rfl (fun ls hl => ?_)
                              refine lv_goto (tgt := 78) hx hb d_Words_number_97 (by decide) ?_
                              refine lv_iload_n hx hb d_Words_number_78 rfl (lv_at hl 0 rfl) ?_
                              refine lv_iload_n hx hb d_Words_number_79 rfl (lv_at hl 3 rfl) ?_
                              refine lv_icmp_ge (tgt := 100) hx hb d_Words_number_80 (by decide) (fun hc_308 => ?_) (fun hc_308 => ?_)
                              · have _nhc_308 := hc_308
                                have ni_309 := (fa_le _ _).mp hc_308
                                rw [li_7] at ni_309
                                have hv_310 : zI b2 7 7 := zI.le_l hv_267 zc_7 hc_308 (by decide)
                                refine lv_aload_n hx hb d_Words_number_100 rfl (lv_at hl 1 rfl) ?_
                                refine lv_aload_n hx hb d_Words_number_101 rfl (lv_at hl 2 rfl) ?_
                                refine z_callV (index := 70) (As := [.ref b1]) (rest := []) (wr := [(x_272, .inl (G.2 0, 256, .inl f_281)), (x_273, .inr (6, [.int x_282, .int 4, .int 100, .ref x_274, .ref x_275])), (x_274, .inl (G.2 1, 400, .inr (.inl f_283))), (x_275, .inl (G.2 0, 256, .inl f_284)), (x_277, .inl (G.2 0, 100, .inl f_286))]) Z (s2_Words_takenNext l G (b0) (b1) (b3) (b4) (x_270) (x_273) (x_276) (x_277) (b9) (b10) (b11) (b12) (b13) (f_278) (x_279) (x_271) (x_272) (f_280) (f_285) (b27) (b28) (b29) (b30) (b31) (b32) (b33) (b34) (b35) (b36) (b37) (b38) (b39) (b40) (b41) (b42) (b43) (b44) hb11 hx_279 hb27 (zI.wk (l' := 0) (h' := 241) hv_3 (by decide)) hb35 hf_278 hf_280 hb43 hb44) hl.1 q862 q864 qs28 q8 q865 ⟨by decide, by decide, by show _ = some 1; decide +kernel⟩ ⟨Nat.le_of_ble_eq_true rfl, Nat.le_of_ble_eq_true rfl⟩ ⟨Nat.le_of_ble_eq_true rfl, Nat.le_of_ble_eq_true rfl⟩ rfl (Nat.le_of_ble_eq_true rfl) d_Words_number_102 hP hD hS hA 1 7 rfl rfl rfl [1, 2, 3, 4, 5, 10, 12, 0, 13, 14] [6, 7, 8, 9, 11] rfl rfl rfl rfl (by decide) (fun v w1 H locs hw_311 hP hD hS => ?_)
                                obtain ⟨x_312, f_313, rfl, rfl, hf_313⟩ := hw_311
                                have hP : va_P G.1 classes [(x_272, .inl (G.2 0, 256, .inl f_281)), (x_273, .inr (6, [.int x_282, .int 4, .int 100, .ref x_274, .ref x_275])), (x_274, .inl (G.2 1, 400, .inr (.inl f_283))), (x_275, .inl (G.2 0, 256, .inl f_284)), (x_277, .inl (G.2 0, 100, .inl f_286)), (b0, .inr (7, [.ref b3, .ref b4, .ref x_270, .ref x_273, .ref x_276, .ref x_277, .ref b9, .ref b10])), (b4, .inr (6, [.int b11, .int 4, .int 10, .ref b12, .ref b13])), (b12, .inl (G.2 1, 40, .inr (.inl f_313))), (x_270, .inr (6, [.int x_279, .int 4, .int 100, .ref x_271, .ref x_272])), (x_271, .inl (G.2 1, 400, .inr (.inl f_280))), (x_276, .inl (G.2 0, 100, .inl f_285)), (b1, .inr (5, [.int b27, .int b28, .ref b29, .ref b30, .ref b31, .ref b32, .ref b33, .ref b34, .int b35, .ref b36, .ref b37, .ref b38, .ref b39, .ref b40, .ref b41])), (b34, .inl (G.2 1, 4, .inr (.inl b42))), (b36, .inl (G.2 0, 240, .inl b43)), (b40, .inl (G.2 0, 242, .inl b44))] H := hP
                                have hD := z_tie hP hD rfl
                                refine W.widen (k := 0) (n := 0) (Nat.le_of_ble_eq_true rfl) (Nat.le_of_ble_eq_true rfl) ?_
                                exact z_iret hx hb hr hlocks (hP.sub [5, 6, 7, 8, 9, 0, 1, 2, 3, 10, 4, 11, 12, 13, 14] rfl) (hD.sub [5, 6, 7, 8, 9, 0, 1, 2, 3, 10, 4, 11, 12, 13, 14] (by decide) rfl) hS (Nat.le_of_ble_eq_true rfl) (Nat.le_of_ble_eq_true rfl) d_Words_number_105 ⟨x_312, x_270, x_271, x_272, x_273, x_274, x_275, x_276, x_277, f_313, x_279, f_280, f_281, x_282, f_283, f_284, f_285, f_286, rfl, rfl, hf_313, hx_279, hf_280, hf_281, hx_282, hf_283, hf_284⟩
                              · have _nhc_308 := hc_308
                                have ni_314 := (fa_lt _ _).mp (zi_nle hc_308)
                                rw [li_7] at ni_314
                                have hv_315 : zI b2 8 8 := zI.lt_r zc_7 hv_267 (zi_nle hc_308) (by decide)
                                refine lv_aload_n hx hb d_Words_number_83 rfl (lv_at hl 1 rfl) ?_
                                refine lv_aload_n hx hb d_Words_number_84 rfl (lv_at hl 2 rfl) ?_
                                refine z_callV (index := 66) (As := [.ref b1]) (rest := []) (wr := [(b34, .inl (G.2 1, 4, .inr (.inl b42)))]) Z (s2_Words_goOn l G (b0) (b1) (b3) (b4) (x_270) (x_273) (x_276) (x_277) (b9) (b10) (b11) (b12) (b13) (f_278) (x_279) (x_271) (x_272) (f_280) (f_281) (x_282) (x_274) (x_275) (f_283) (f_284) (f_285) (f_286) (b27) (b28) (b29) (b30) (b31) (b32) (b33) (b34) (b35) (b36) (b37) (b38) (b39) (b40) (b41) (b43) (b44) hb11 hx_279 hx_282 hb27 (zI.wk (l' := 0) (h' := 241) hv_3 (by decide)) hb35 hf_278 hf_280 hf_281 hf_283 hf_284 hb43 hb44) hl.1 q849 q851 qs26 q8 q852 ⟨by decide, by decide, by show _ = some 1; decide +kernel⟩ ⟨Nat.le_of_ble_eq_true rfl, Nat.le_of_ble_eq_true rfl⟩ ⟨Nat.le_of_ble_eq_true rfl, Nat.le_of_ble_eq_true rfl⟩ rfl (Nat.le_of_ble_eq_true rfl) d_Words_number_85 hP hD hS hA 1 7 rfl rfl rfl [1, 2, 3, 4, 5, 6, 7, 8, 9, 10, 11, 12, 13, 14] [0] rfl rfl rfl rfl (by decide) (fun v w1 H locs hw_316 hP hD hS => ?_)
                                refine Exists.elim hw_316 (fun x_317 hz_335 => Exists.elim hz_335 (fun x_318 hz_336 => Exists.elim hz_336 (fun x_319 hz_337 => Exists.elim hz_337 (fun x_320 hz_338 => Exists.elim hz_338 (fun x_321 hz_339 => Exists.elim hz_339 (fun x_322 hz_340 => Exists.elim hz_340 (fun x_323 hz_341 => Exists.elim hz_341 (fun x_324 hz_342 => Exists.elim hz_342 (fun x_325 hz_343 => Exists.elim hz_343 (fun f_326 hz_344 => Exists.elim hz_344 (fun x_327 hz_345 => Exists.elim hz_345 (fun f_328 hz_346 => Exists.elim hz_346 (fun f_329 hz_347 => Exists.elim hz_347 (fun x_330 hz_348 => Exists.elim hz_348 (fun f_331 hz_349 => Exists.elim hz_349 (fun f_332 hz_350 => Exists.elim hz_350 (fun f_333 hz_351 => Exists.elim hz_351 (fun f_334 hz_352 => ?_))))))))))))))))))
                                obtain ⟨rfl, rfl, hx_317, hf_326, hx_327, hf_328, hf_329, hx_330, hf_331, hf_332⟩ := hz_352
                                have hP : va_P G.1 classes [(b34, .inl (G.2 1, 4, .inr (.inl b42))), (b0, .inr (7, [.ref b3, .ref b4, .ref x_318, .ref x_321, .ref x_324, .ref x_325, .ref b9, .ref b10])), (b4, .inr (6, [.int b11, .int 4, .int 10, .ref b12, .ref b13])), (b12, .inl (G.2 1, 40, .inr (.inl f_326))), (x_318, .inr (6, [.int x_327, .int 4, .int 100, .ref x_319, .ref x_320])), (x_319, .inl (G.2 1, 400, .inr (.inl f_328))), (x_320, .inl (G.2 0, 256, .inl f_329)), (x_321, .inr (6, [.int x_330, .int 4, .int 100, .ref x_322, .ref x_323])), (x_322, .inl (G.2 1, 400, .inr (.inl f_331))), (x_323, .inl (G.2 0, 256, .inl f_332)), (x_324, .inl (G.2 0, 100, .inl f_333)), (x_325, .inl (G.2 0, 100, .inl f_334)), (b1, .inr (5, [.int b27, .int b28, .ref b29, .ref b30, .ref b31, .ref b32, .ref b33, .ref b34, .int b35, .ref b36, .ref b37, .ref b38, .ref b39, .ref b40, .ref b41])), (b36, .inl (G.2 0, 240, .inl b43)), (b40, .inl (G.2 0, 242, .inl b44))] H := hP
                                have hD := z_tie hP hD rfl
                                refine W.widen (k := 0) (n := 0) (Nat.le_of_ble_eq_true rfl) (Nat.le_of_ble_eq_true rfl) ?_
                                refine lv_if_ne (tgt := 94) hx hb d_Words_number_88 (by decide) (fun hc_353 => ?_) (fun hc_353 => ?_)
                                · have _nhc_353 := hc_353
                                  have ni_354 : ¬ (x_317 : Int32).toInt = (0 : Int32).toInt := fun z => hc_353 ((fa_eq _ _).mpr z)
                                  simp only [li_0] at ni_354
                                  have hv_355 : zI x_317 1 1 := zI.ne_lo hx_317 zc_0 hc_353 (by decide)
                                  refine lv_iinc (v := 8) (lv' := [(3, .int 8), (0, .ref b0), (1, .ref b1), (2, .int b2)]) hx hb d_Words_number_94 hl (k := 0) rfl (by decide +kernel) (by decide) rfl (fun ls hl => ?_)
                                  refine lv_goto (tgt := 78) hx hb d_Words_number_97 (by decide) ?_
                                  refine lv_iload_n hx hb d_Words_number_78 rfl (lv_at hl 0 rfl) ?_
                                  refine lv_iload_n hx hb d_Words_number_79 rfl (lv_at hl 3 rfl) ?_
                                  refine lv_icmp_ge (tgt := 100) hx hb d_Words_number_80 (by decide) (fun _ => ?_) (fun hc => zI.no_lt zc_8 hv_315 (zi_nle hc) (by decide))
                                  refine lv_aload_n hx hb d_Words_number_100 rfl (lv_at hl 1 rfl) ?_
                                  refine lv_aload_n hx hb d_Words_number_101 rfl (lv_at hl 2 rfl) ?_
                                  refine z_callV (index := 70) (As := [.ref b1]) (rest := []) (wr := [(x_320, .inl (G.2 0, 256, .inl f_329)), (x_321, .inr (6, [.int x_330, .int 4, .int 100, .ref x_322, .ref x_323])), (x_322, .inl (G.2 1, 400, .inr (.inl f_331))), (x_323, .inl (G.2 0, 256, .inl f_332)), (x_325, .inl (G.2 0, 100, .inl f_334))]) Z (s2_Words_takenNext l G (b0) (b1) (b3) (b4) (x_318) (x_321) (x_324) (x_325) (b9) (b10) (b11) (b12) (b13) (f_326) (x_327) (x_319) (x_320) (f_328) (f_333) (b27) (b28) (b29) (b30) (b31) (b32) (b33) (b34) (b35) (b36) (b37) (b38) (b39) (b40) (b41) (b42) (b43) (b44) hb11 hx_327 hb27 (zI.wk (l' := 0) (h' := 241) hv_3 (by decide)) hb35 hf_326 hf_328 hb43 hb44) hl.1 q862 q864 qs28 q8 q865 ⟨by decide, by decide, by show _ = some 1; decide +kernel⟩ ⟨Nat.le_of_ble_eq_true rfl, Nat.le_of_ble_eq_true rfl⟩ ⟨Nat.le_of_ble_eq_true rfl, Nat.le_of_ble_eq_true rfl⟩ rfl (Nat.le_of_ble_eq_true rfl) d_Words_number_102 hP hD hS hA 1 7 rfl rfl rfl [1, 2, 3, 4, 5, 10, 12, 0, 13, 14] [6, 7, 8, 9, 11] rfl rfl rfl rfl (by decide) (fun v w1 H locs hw_356 hP hD hS => ?_)
                                  obtain ⟨x_357, f_358, rfl, rfl, hf_358⟩ := hw_356
                                  have hP : va_P G.1 classes [(x_320, .inl (G.2 0, 256, .inl f_329)), (x_321, .inr (6, [.int x_330, .int 4, .int 100, .ref x_322, .ref x_323])), (x_322, .inl (G.2 1, 400, .inr (.inl f_331))), (x_323, .inl (G.2 0, 256, .inl f_332)), (x_325, .inl (G.2 0, 100, .inl f_334)), (b0, .inr (7, [.ref b3, .ref b4, .ref x_318, .ref x_321, .ref x_324, .ref x_325, .ref b9, .ref b10])), (b4, .inr (6, [.int b11, .int 4, .int 10, .ref b12, .ref b13])), (b12, .inl (G.2 1, 40, .inr (.inl f_358))), (x_318, .inr (6, [.int x_327, .int 4, .int 100, .ref x_319, .ref x_320])), (x_319, .inl (G.2 1, 400, .inr (.inl f_328))), (x_324, .inl (G.2 0, 100, .inl f_333)), (b1, .inr (5, [.int b27, .int b28, .ref b29, .ref b30, .ref b31, .ref b32, .ref b33, .ref b34, .int b35, .ref b36, .ref b37, .ref b38, .ref b39, .ref b40, .ref b41])), (b34, .inl (G.2 1, 4, .inr (.inl b42))), (b36, .inl (G.2 0, 240, .inl b43)), (b40, .inl (G.2 0, 242, .inl b44))] H := hP
                                  have hD := z_tie hP hD rfl
                                  refine W.widen (k := 0) (n := 0) (Nat.le_of_ble_eq_true rfl) (Nat.le_of_ble_eq_true rfl) ?_
                                  exact z_iret hx hb hr hlocks (hP.sub [5, 6, 7, 8, 9, 0, 1, 2, 3, 10, 4, 11, 12, 13, 14] rfl) (hD.sub [5, 6, 7, 8, 9, 0, 1, 2, 3, 10, 4, 11, 12, 13, 14] (by decide) rfl) hS (Nat.le_of_ble_eq_true rfl) (Nat.le_of_ble_eq_true rfl) d_Words_number_105 ⟨x_357, x_318, x_319, x_320, x_321, x_322, x_323, x_324, x_325, f_358, x_327, f_328, f_329, x_330, f_331, f_332, f_333, f_334, rfl, rfl, hf_358, hx_327, hf_328, hf_329, hx_330, hf_331, hf_332⟩
                                · have _nhc_353 := hc_353
                                  have ni_359 := (fa_eq _ _).mp hc_353
                                  rw [li_0] at ni_359
                                  have hv_360 : zI x_317 0 0 := zI.eq_l hx_317 zc_0 hc_353
                                  refine lv_bipush (v := (-2)) hx hb d_Words_number_91 (by decide) ?_
                                  exact z_iret hx hb hr hlocks (hP.sub [1, 2, 3, 4, 5, 6, 7, 8, 9, 10, 11, 12, 0, 13, 14] rfl) (hD.sub [1, 2, 3, 4, 5, 6, 7, 8, 9, 10, 11, 12, 0, 13, 14] (by decide) rfl) hS (Nat.le_of_ble_eq_true rfl) (Nat.le_of_ble_eq_true rfl) d_Words_number_93 ⟨(-2), x_318, x_319, x_320, x_321, x_322, x_323, x_324, x_325, f_326, x_327, f_328, f_329, x_330, f_331, f_332, f_333, f_334, rfl, rfl, hf_326, hx_327, hf_328, hf_329, hx_330, hf_331, hf_332⟩
                            · have _nhc_305 := hc_305
                              have ni_361 := (fa_eq _ _).mp hc_305
                              rw [li_0] at ni_361
                              have hv_362 : zI x_269 0 0 := zI.eq_l hx_269 zc_0 hc_305
                              refine lv_bipush (v := (-2)) hx hb d_Words_number_91 (by decide) ?_
                              exact z_iret hx hb hr hlocks (hP.sub [1, 2, 3, 4, 5, 6, 7, 8, 9, 10, 11, 12, 0, 13, 14] rfl) (hD.sub [1, 2, 3, 4, 5, 6, 7, 8, 9, 10, 11, 12, 0, 13, 14] (by decide) rfl) hS (Nat.le_of_ble_eq_true rfl) (Nat.le_of_ble_eq_true rfl) d_Words_number_93 ⟨(-2), x_270, x_271, x_272, x_273, x_274, x_275, x_276, x_277, f_278, x_279, f_280, f_281, x_282, f_283, f_284, f_285, f_286, rfl, rfl, hf_278, hx_279, hf_280, hf_281, hx_282, hf_283, hf_284⟩
                        · have _nhc_257 := hc_257
                          have ni_363 := (fa_eq _ _).mp hc_257
                          rw [li_0] at ni_363
                          have hv_364 : zI x_221 0 0 := zI.eq_l hx_221 zc_0 hc_257
                          refine lv_bipush (v := (-2)) hx hb d_Words_number_91 (by decide) ?_
                          exact z_iret hx hb hr hlocks (hP.sub [1, 2, 3, 4, 5, 6, 7, 8, 9, 10, 11, 12, 0, 13, 14] rfl) (hD.sub [1, 2, 3, 4, 5, 6, 7, 8, 9, 10, 11, 12, 0, 13, 14] (by decide) rfl) hS (Nat.le_of_ble_eq_true rfl) (Nat.le_of_ble_eq_true rfl) d_Words_number_93 ⟨(-2), x_222, x_223, x_224, x_225, x_226, x_227, x_228, x_229, f_230, x_231, f_232, f_233, x_234, f_235, f_236, f_237, f_238, rfl, rfl, hf_230, hx_231, hf_232, hf_233, hx_234, hf_235, hf_236⟩
                    · have _nhc_209 := hc_209
                      have ni_365 := (fa_eq _ _).mp hc_209
                      rw [li_0] at ni_365
                      have hv_366 : zI x_173 0 0 := zI.eq_l hx_173 zc_0 hc_209
                      refine lv_bipush (v := (-2)) hx hb d_Words_number_91 (by decide) ?_
                      exact z_iret hx hb hr hlocks (hP.sub [1, 2, 3, 4, 5, 6, 7, 8, 9, 10, 11, 12, 0, 13, 14] rfl) (hD.sub [1, 2, 3, 4, 5, 6, 7, 8, 9, 10, 11, 12, 0, 13, 14] (by decide) rfl) hS (Nat.le_of_ble_eq_true rfl) (Nat.le_of_ble_eq_true rfl) d_Words_number_93 ⟨(-2), x_174, x_175, x_176, x_177, x_178, x_179, x_180, x_181, f_182, x_183, f_184, f_185, x_186, f_187, f_188, f_189, f_190, rfl, rfl, hf_182, hx_183, hf_184, hf_185, hx_186, hf_187, hf_188⟩
                · have _nhc_161 := hc_161
                  have ni_367 := (fa_eq _ _).mp hc_161
                  rw [li_0] at ni_367
                  have hv_368 : zI x_125 0 0 := zI.eq_l hx_125 zc_0 hc_161
                  refine lv_bipush (v := (-2)) hx hb d_Words_number_91 (by decide) ?_
                  exact z_iret hx hb hr hlocks (hP.sub [1, 2, 3, 4, 5, 6, 7, 8, 9, 10, 11, 12, 0, 13, 14] rfl) (hD.sub [1, 2, 3, 4, 5, 6, 7, 8, 9, 10, 11, 12, 0, 13, 14] (by decide) rfl) hS (Nat.le_of_ble_eq_true rfl) (Nat.le_of_ble_eq_true rfl) d_Words_number_93 ⟨(-2), x_126, x_127, x_128, x_129, x_130, x_131, x_132, x_133, f_134, x_135, f_136, f_137, x_138, f_139, f_140, f_141, f_142, rfl, rfl, hf_134, hx_135, hf_136, hf_137, hx_138, hf_139, hf_140⟩
            · have _nhc_113 := hc_113
              have ni_369 := (fa_eq _ _).mp hc_113
              rw [li_0] at ni_369
              have hv_370 : zI x_77 0 0 := zI.eq_l hx_77 zc_0 hc_113
              refine lv_bipush (v := (-2)) hx hb d_Words_number_91 (by decide) ?_
              exact z_iret hx hb hr hlocks (hP.sub [1, 2, 3, 4, 5, 6, 7, 8, 9, 10, 11, 12, 0, 13, 14] rfl) (hD.sub [1, 2, 3, 4, 5, 6, 7, 8, 9, 10, 11, 12, 0, 13, 14] (by decide) rfl) hS (Nat.le_of_ble_eq_true rfl) (Nat.le_of_ble_eq_true rfl) d_Words_number_93 ⟨(-2), x_78, x_79, x_80, x_81, x_82, x_83, x_84, x_85, f_86, x_87, f_88, f_89, x_90, f_91, f_92, f_93, f_94, rfl, rfl, hf_86, hx_87, hf_88, hf_89, hx_90, hf_91, hf_92⟩
        · have _nhc_65 := hc_65
          have ni_371 := (fa_eq _ _).mp hc_65
          rw [li_0] at ni_371
          have hv_372 : zI x_29 0 0 := zI.eq_l hx_29 zc_0 hc_65
          refine lv_bipush (v := (-2)) hx hb d_Words_number_91 (by decide) ?_
          exact z_iret hx hb hr hlocks (hP.sub [1, 2, 3, 4, 5, 6, 7, 8, 9, 10, 11, 12, 0, 13, 14] rfl) (hD.sub [1, 2, 3, 4, 5, 6, 7, 8, 9, 10, 11, 12, 0, 13, 14] (by decide) rfl) hS (Nat.le_of_ble_eq_true rfl) (Nat.le_of_ble_eq_true rfl) d_Words_number_93 ⟨(-2), x_30, x_31, x_32, x_33, x_34, x_35, x_36, x_37, f_38, x_39, f_40, f_41, x_42, f_43, f_44, f_45, f_46, rfl, rfl, hf_38, hx_39, hf_40, hf_41, hx_42, hf_43, hf_44⟩
    · have _nhc_17 := hc_17
      have ni_373 := (fa_eq _ _).mp hc_17
      rw [li_0] at ni_373
      have hv_374 : zI b2 0 0 := zI.eq_l hb2 zc_0 hc_17
      refine lv_aload_n hx hb d_Words_number_57 rfl (lv_at hl 1 rfl) ?_
      refine lv_aload_n hx hb d_Words_number_58 rfl (lv_at hl 0 rfl) ?_
      refine va_get (D := G.1) (ci := 7) (v := .ref b5) (C := R_Words) (T := F_Words) (N := 8) hx hb hts i_Words hown hK hP 0 rfl rfl 2 (by decide) (hts _ q268) (fun _ h9 => h9) rfl d_Words_number_59 ?_
      refine lv_iconst (v := 0) hx hb d_Words_number_62 (by decide) ?_
      refine lv_iconst (v := 0) hx hb d_Words_number_63 (by decide) ?_
      refine z_callV (index := 62) (As := [.ref b5, .int 0, .int 0]) (rest := []) (wr := [(b0, .inr (7, [.ref b3, .ref b4, .ref b5, .ref b6, .ref b7, .ref b8, .ref b9, .ref b10])), (b6, .inr (6, [.int b20, .int 4, .int 100, .ref b21, .ref b22])), (b21, .inl (G.2 1, 400, .inr (.inl b23))), (b22, .inl (G.2 0, 256, .inl b24)), (b7, .inl (G.2 0, 100, .inl f_16)), (b8, .inl (G.2 0, 100, .inl b26)), (b36, .inl (G.2 0, 240, .inl b43)), (b40, .inl (G.2 0, 242, .inl b44)), (b17, .inl (G.2 0, 256, .inl f_14)), (b4, .inr (6, [.int b11, .int 4, .int 10, .ref b12, .ref b13])), (b12, .inl (G.2 1, 40, .inr (.inl f_7)))]) Z (s7_Machine_takes l G (b1) (b5) (0) (0) (b27) (b28) (b29) (b30) (b31) (b32) (b33) (b34) (b35) (b36) (b37) (b38) (b39) (b40) (b41) (b42) (x_12) (b16) (b17) (f_13) (zI.wk (l' := 0) (h' := 99) zc_0 (by decide)) zc_0 hb27 (zI.wk (l' := 0) (h' := 241) hv_3 (by decide)) hb35 hx_12 hf_13) hl.1 q848 q743 q744 q6 q745 ⟨by decide, by decide, by show _ = some 3; decide +kernel⟩ ⟨Nat.le_of_ble_eq_true rfl, Nat.le_of_ble_eq_true rfl⟩ ⟨Nat.le_of_ble_eq_true rfl, Nat.le_of_ble_eq_true rfl⟩ rfl (Nat.le_of_ble_eq_true rfl) d_Words_number_64 hP hD hS hA 6 5 rfl rfl rfl [6, 7, 10, 11] [0, 1, 2, 3, 4, 5, 8, 9, 12, 13, 14] rfl rfl rfl rfl (by decide) (fun v w1 H locs hw_375 hP hD hS => ?_)
      obtain ⟨x_376, rfl, rfl, hx_376⟩ := hw_375
      have hP : va_P G.1 classes [(b0, .inr (7, [.ref b3, .ref b4, .ref b5, .ref b6, .ref b7, .ref b8, .ref b9, .ref b10])), (b6, .inr (6, [.int b20, .int 4, .int 100, .ref b21, .ref b22])), (b21, .inl (G.2 1, 400, .inr (.inl b23))), (b22, .inl (G.2 0, 256, .inl b24)), (b7, .inl (G.2 0, 100, .inl f_16)), (b8, .inl (G.2 0, 100, .inl b26)), (b36, .inl (G.2 0, 240, .inl b43)), (b40, .inl (G.2 0, 242, .inl b44)), (b17, .inl (G.2 0, 256, .inl f_14)), (b4, .inr (6, [.int b11, .int 4, .int 10, .ref b12, .ref b13])), (b12, .inl (G.2 1, 40, .inr (.inl f_7))), (b1, .inr (5, [.int b27, .int b28, .ref b29, .ref b30, .ref b31, .ref b32, .ref b33, .ref b34, .int b35, .ref b36, .ref b37, .ref b38, .ref b39, .ref b40, .ref b41])), (b34, .inl (G.2 1, 4, .inr (.inl b42))), (b5, .inr (6, [.int x_12, .int 4, .int 100, .ref b16, .ref b17])), (b16, .inl (G.2 1, 400, .inr (.inl f_13)))] H := hP
      have hD := z_tie hP hD rfl
      refine W.widen (k := 0) (n := 0) (Nat.le_of_ble_eq_true rfl) (Nat.le_of_ble_eq_true rfl) ?_
      refine lv_if_eq (tgt := 74) hx hb d_Words_number_67 (by decide) (fun hc_377 => ?_) (fun hc_377 => ?_)
      · have _nhc_377 := hc_377
        have ni_378 := (fa_eq _ _).mp hc_377
        rw [li_0] at ni_378
        have hv_379 : zI x_376 0 0 := zI.eq_l hx_376 zc_0 hc_377
        refine lv_iconst (v := 0) hx hb d_Words_number_74 (by decide) ?_
        exact z_iret hx hb hr hlocks (hP.sub [0, 9, 10, 13, 14, 8, 1, 2, 3, 4, 5, 11, 12, 6, 7] rfl) (hD.sub [0, 9, 10, 13, 14, 8, 1, 2, 3, 4, 5, 11, 12, 6, 7] (by decide) rfl) hS (Nat.le_of_ble_eq_true rfl) (Nat.le_of_ble_eq_true rfl) d_Words_number_75 ⟨0, b5, b16, b17, b6, b21, b22, b7, b8, f_7, x_12, f_13, f_14, b20, b23, b24, f_16, b26, rfl, rfl, hf_7, hx_12, hf_13, hf_14, hb20, hb23, hb24⟩
      · have _nhc_377 := hc_377
        have ni_380 : ¬ (x_376 : Int32).toInt = (0 : Int32).toInt := fun z => hc_377 ((fa_eq _ _).mpr z)
        simp only [li_0] at ni_380
        have hv_381 : zI x_376 1 1 := zI.ne_lo hx_376 zc_0 hc_377 (by decide)
        refine lv_iconst (v := 1) hx hb d_Words_number_70 (by decide) ?_
        refine lv_goto (tgt := 75) hx hb d_Words_number_71 (by decide) ?_
        exact z_iret hx hb hr hlocks (hP.sub [0, 9, 10, 13, 14, 8, 1, 2, 3, 4, 5, 11, 12, 6, 7] rfl) (hD.sub [0, 9, 10, 13, 14, 8, 1, 2, 3, 4, 5, 11, 12, 6, 7] (by decide) rfl) hS (Nat.le_of_ble_eq_true rfl) (Nat.le_of_ble_eq_true rfl) d_Words_number_75 ⟨1, b5, b16, b17, b6, b21, b22, b7, b8, f_7, x_12, f_13, f_14, b20, b23, b24, f_16, b26, rfl, rfl, hf_7, hx_12, hf_13, hf_14, hb20, hb23, hb24⟩
  · have _nhc_1 := hc_1
    have ni_382 := (fa_eq _ _).mp hc_1
    rw [li_0] at ni_382
    have hv_383 : zI b28 0 0 := zI.eq_l hb28 zc_0 hc_1
    refine lv_iconst (v := 0) hx hb d_Words_number_7 (by decide) ?_
    exact z_iret hx hb hr hlocks hP hD hS (Nat.le_of_ble_eq_true rfl) (Nat.le_of_ble_eq_true rfl) d_Words_number_8 ⟨0, b5, b16, b17, b6, b21, b22, b7, b8, b14, b15, b18, b19, b20, b23, b24, b25, b26, rfl, rfl, hb14, hb15, hb18, hb19, hb20, hb23, hb24⟩
theorem d_Words_waysOf_0 : decode prog_12_method_6_code 0 = .ok (.aload_n 0, 1) := by decide +kernel
theorem d_Words_waysOf_1 : decode prog_12_method_6_code 1 = .ok (.getfield 36, 3) := by decide +kernel
theorem d_Words_waysOf_4 : decode prog_12_method_6_code 4 = .ok (.iconst 0, 1) := by decide +kernel
theorem d_Words_waysOf_5 : decode prog_12_method_6_code 5 = .ok (.invokestatic 88, 3) := by decide +kernel
theorem d_Words_waysOf_8 : decode prog_12_method_6_code 8 = .ok (.aload_n 0, 1) := by decide +kernel
theorem d_Words_waysOf_9 : decode prog_12_method_6_code 9 = .ok (.getfield 36, 3) := by decide +kernel
theorem d_Words_waysOf_12 : decode prog_12_method_6_code 12 = .ok (.iconst 0, 1) := by decide +kernel
theorem d_Words_waysOf_13 : decode prog_12_method_6_code 13 = .ok (.iconst 1, 1) := by decide +kernel
theorem d_Words_waysOf_14 : decode prog_12_method_6_code 14 = .ok (.iastore, 1) := by decide +kernel
theorem d_Words_waysOf_15 : decode prog_12_method_6_code 15 = .ok (.iconst 0, 1) := by decide +kernel
theorem d_Words_waysOf_16 : decode prog_12_method_6_code 16 = .ok (.istore 4, 2) := by decide +kernel
theorem d_Words_waysOf_18 : decode prog_12_method_6_code 18 = .ok (.iload 4, 2) := by decide +kernel
theorem d_Words_waysOf_20 : decode prog_12_method_6_code 20 = .ok (.aload_n 1, 1) := by decide +kernel
theorem d_Words_waysOf_21 : decode prog_12_method_6_code 21 = .ok (.getfield 94, 3) := by decide +kernel
theorem d_Words_waysOf_24 : decode prog_12_method_6_code 24 = .ok (.iload_n 2, 1) := by decide +kernel
theorem d_Words_waysOf_25 : decode prog_12_method_6_code 25 = .ok (.iaload, 1) := by decide +kernel
theorem d_Words_waysOf_26 : decode prog_12_method_6_code 26 = .ok (.if_icmp .ge 21, 3) := by decide +kernel
theorem d_Words_waysOf_29 : decode prog_12_method_6_code 29 = .ok (.aload_n 0, 1) := by decide +kernel
theorem d_Words_waysOf_30 : decode prog_12_method_6_code 30 = .ok (.aload_n 3, 1) := by decide +kernel
theorem d_Words_waysOf_31 : decode prog_12_method_6_code 31 = .ok (.aload_n 1, 1) := by decide +kernel
theorem d_Words_waysOf_32 : decode prog_12_method_6_code 32 = .ok (.iload_n 2, 1) := by decide +kernel
theorem d_Words_waysOf_33 : decode prog_12_method_6_code 33 = .ok (.iload 4, 2) := by decide +kernel
theorem d_Words_waysOf_35 : decode prog_12_method_6_code 35 = .ok (.invokevirtual 99, 3) := by decide +kernel
theorem d_Words_waysOf_38 : decode prog_12_method_6_code 38 = .ok (.invokevirtual 103, 3) := by decide +kernel
theorem d_Words_waysOf_41 : decode prog_12_method_6_code 41 = .ok (.iinc 4 1, 3) := by decide +kernel
theorem d_Words_waysOf_44 : decode prog_12_method_6_code 44 = .ok (.goto (-26), 3) := by decide +kernel
theorem d_Words_waysOf_47 : decode prog_12_method_6_code 47 = .ok (.iconst 0, 1) := by decide +kernel
theorem d_Words_waysOf_48 : decode prog_12_method_6_code 48 = .ok (.istore 4, 2) := by decide +kernel
theorem d_Words_waysOf_50 : decode prog_12_method_6_code 50 = .ok (.iconst 0, 1) := by decide +kernel
theorem d_Words_waysOf_51 : decode prog_12_method_6_code 51 = .ok (.istore 5, 2) := by decide +kernel
theorem d_Words_waysOf_53 : decode prog_12_method_6_code 53 = .ok (.iload 5, 2) := by decide +kernel
theorem d_Words_waysOf_55 : decode prog_12_method_6_code 55 = .ok (.aload_n 3, 1) := by decide +kernel
theorem d_Words_waysOf_56 : decode prog_12_method_6_code 56 = .ok (.getfield 42, 3) := by decide +kernel
theorem d_Words_waysOf_59 : decode prog_12_method_6_code 59 = .ok (.if_icmp .ge 36, 3) := by decide +kernel
theorem d_Words_waysOf_62 : decode prog_12_method_6_code 62 = .ok (.aload_n 3, 1) := by decide +kernel
theorem d_Words_waysOf_63 : decode prog_12_method_6_code 63 = .ok (.getfield 107, 3) := by decide +kernel
theorem d_Words_waysOf_66 : decode prog_12_method_6_code 66 = .ok (.iload 5, 2) := by decide +kernel
theorem d_Words_waysOf_68 : decode prog_12_method_6_code 68 = .ok (.iaload, 1) := by decide +kernel
theorem d_Words_waysOf_69 : decode prog_12_method_6_code 69 = .ok (.ifCond .le 20, 3) := by decide +kernel
theorem d_Words_waysOf_72 : decode prog_12_method_6_code 72 = .ok (.iload 4, 2) := by decide +kernel
theorem d_Words_waysOf_74 : decode prog_12_method_6_code 74 = .ok (.aload_n 0, 1) := by decide +kernel
theorem d_Words_waysOf_75 : decode prog_12_method_6_code 75 = .ok (.getfield 36, 3) := by decide +kernel
theorem d_Words_waysOf_78 : decode prog_12_method_6_code 78 = .ok (.iload 5, 2) := by decide +kernel
theorem d_Words_waysOf_80 : decode prog_12_method_6_code 80 = .ok (.iaload, 1) := by decide +kernel
theorem d_Words_waysOf_81 : decode prog_12_method_6_code 81 = .ok (.iadd, 1) := by decide +kernel
theorem d_Words_waysOf_82 : decode prog_12_method_6_code 82 = .ok (.ldc 110, 2) := by decide +kernel
theorem d_Words_waysOf_84 : decode prog_12_method_6_code 84 = .ok (.invokestatic 111, 3) := by decide +kernel
theorem d_Words_waysOf_87 : decode prog_12_method_6_code 87 = .ok (.istore 4, 2) := by decide +kernel
theorem d_Words_waysOf_89 : decode prog_12_method_6_code 89 = .ok (.iinc 5 1, 3) := by decide +kernel
theorem d_Words_waysOf_92 : decode prog_12_method_6_code 92 = .ok (.goto (-39), 3) := by decide +kernel
theorem d_Words_waysOf_95 : decode prog_12_method_6_code 95 = .ok (.iload 4, 2) := by decide +kernel
theorem d_Words_waysOf_97 : decode prog_12_method_6_code 97 = .ok (.ireturn, 1) := by decide +kernel
theorem d_Words_stepWays_0 : decode prog_12_method_7_code 0 = .ok (.aload_n 0, 1) := by decide +kernel
theorem d_Words_stepWays_1 : decode prog_12_method_7_code 1 = .ok (.getfield 39, 3) := by decide +kernel
theorem d_Words_stepWays_4 : decode prog_12_method_7_code 4 = .ok (.iconst 0, 1) := by decide +kernel
theorem d_Words_stepWays_5 : decode prog_12_method_7_code 5 = .ok (.invokestatic 88, 3) := by decide +kernel
theorem d_Words_stepWays_8 : decode prog_12_method_7_code 8 = .ok (.iconst 0, 1) := by decide +kernel
theorem d_Words_stepWays_9 : decode prog_12_method_7_code 9 = .ok (.istore_n 3, 1) := by decide +kernel
theorem d_Words_stepWays_10 : decode prog_12_method_7_code 10 = .ok (.iload_n 3, 1) := by decide +kernel
theorem d_Words_stepWays_11 : decode prog_12_method_7_code 11 = .ok (.aload_n 1, 1) := by decide +kernel
theorem d_Words_stepWays_12 : decode prog_12_method_7_code 12 = .ok (.getfield 116, 3) := by decide +kernel
theorem d_Words_stepWays_15 : decode prog_12_method_7_code 15 = .ok (.if_icmp .ge 55, 3) := by decide +kernel
theorem d_Words_stepWays_18 : decode prog_12_method_7_code 18 = .ok (.aload_n 1, 1) := by decide +kernel
theorem d_Words_stepWays_19 : decode prog_12_method_7_code 19 = .ok (.iload_n 3, 1) := by decide +kernel
theorem d_Words_stepWays_20 : decode prog_12_method_7_code 20 = .ok (.invokevirtual 119, 3) := by decide +kernel
theorem d_Words_stepWays_23 : decode prog_12_method_7_code 23 = .ok (.iload_n 2, 1) := by decide +kernel
theorem d_Words_stepWays_24 : decode prog_12_method_7_code 24 = .ok (.if_icmp .ne 40, 3) := by decide +kernel
theorem d_Words_stepWays_27 : decode prog_12_method_7_code 27 = .ok (.aload_n 1, 1) := by decide +kernel
theorem d_Words_stepWays_28 : decode prog_12_method_7_code 28 = .ok (.iload_n 3, 1) := by decide +kernel
theorem d_Words_stepWays_29 : decode prog_12_method_7_code 29 = .ok (.invokevirtual 123, 3) := by decide +kernel
theorem d_Words_stepWays_32 : decode prog_12_method_7_code 32 = .ok (.istore 4, 2) := by decide +kernel
theorem d_Words_stepWays_34 : decode prog_12_method_7_code 34 = .ok (.aload_n 0, 1) := by decide +kernel
theorem d_Words_stepWays_35 : decode prog_12_method_7_code 35 = .ok (.getfield 39, 3) := by decide +kernel
theorem d_Words_stepWays_38 : decode prog_12_method_7_code 38 = .ok (.iload 4, 2) := by decide +kernel
theorem d_Words_stepWays_40 : decode prog_12_method_7_code 40 = .ok (.aload_n 0, 1) := by decide +kernel
theorem d_Words_stepWays_41 : decode prog_12_method_7_code 41 = .ok (.getfield 39, 3) := by decide +kernel
theorem d_Words_stepWays_44 : decode prog_12_method_7_code 44 = .ok (.iload 4, 2) := by decide +kernel
theorem d_Words_stepWays_46 : decode prog_12_method_7_code 46 = .ok (.iaload, 1) := by decide +kernel
theorem d_Words_stepWays_47 : decode prog_12_method_7_code 47 = .ok (.aload_n 0, 1) := by decide +kernel
theorem d_Words_stepWays_48 : decode prog_12_method_7_code 48 = .ok (.getfield 36, 3) := by decide +kernel
theorem d_Words_stepWays_51 : decode prog_12_method_7_code 51 = .ok (.aload_n 1, 1) := by decide +kernel
theorem d_Words_stepWays_52 : decode prog_12_method_7_code 52 = .ok (.iload_n 3, 1) := by decide +kernel
theorem d_Words_stepWays_53 : decode prog_12_method_7_code 53 = .ok (.invokevirtual 126, 3) := by decide +kernel
theorem d_Words_stepWays_56 : decode prog_12_method_7_code 56 = .ok (.iaload, 1) := by decide +kernel
theorem d_Words_stepWays_57 : decode prog_12_method_7_code 57 = .ok (.iadd, 1) := by decide +kernel
theorem d_Words_stepWays_58 : decode prog_12_method_7_code 58 = .ok (.ldc 110, 2) := by decide +kernel
theorem d_Words_stepWays_60 : decode prog_12_method_7_code 60 = .ok (.invokestatic 111, 3) := by decide +kernel
theorem d_Words_stepWays_63 : decode prog_12_method_7_code 63 = .ok (.iastore, 1) := by decide +kernel
theorem d_Words_stepWays_64 : decode prog_12_method_7_code 64 = .ok (.iinc 3 1, 3) := by decide +kernel
theorem d_Words_stepWays_67 : decode prog_12_method_7_code 67 = .ok (.goto (-57), 3) := by decide +kernel
theorem d_Words_stepWays_70 : decode prog_12_method_7_code 70 = .ok (.aload_n 0, 1) := by decide +kernel
theorem d_Words_stepWays_71 : decode prog_12_method_7_code 71 = .ok (.getfield 36, 3) := by decide +kernel
theorem d_Words_stepWays_74 : decode prog_12_method_7_code 74 = .ok (.astore_n 3, 1) := by decide +kernel
theorem d_Words_stepWays_75 : decode prog_12_method_7_code 75 = .ok (.aload_n 0, 1) := by decide +kernel
theorem d_Words_stepWays_76 : decode prog_12_method_7_code 76 = .ok (.aload_n 0, 1) := by decide +kernel
theorem d_Words_stepWays_77 : decode prog_12_method_7_code 77 = .ok (.getfield 39, 3) := by decide +kernel
theorem d_Words_stepWays_80 : decode prog_12_method_7_code 80 = .ok (.putfield 36, 3) := by decide +kernel
theorem d_Words_stepWays_83 : decode prog_12_method_7_code 83 = .ok (.aload_n 0, 1) := by decide +kernel
theorem d_Words_stepWays_84 : decode prog_12_method_7_code 84 = .ok (.aload_n 3, 1) := by decide +kernel
theorem d_Words_stepWays_85 : decode prog_12_method_7_code 85 = .ok (.putfield 39, 3) := by decide +kernel
theorem d_Words_stepWays_88 : decode prog_12_method_7_code 88 = .ok (.return_, 1) := by decide +kernel
theorem zc_1000000 : zI 1000000 1000000 1000000 := ⟨by decide +kernel, by decide +kernel⟩
theorem zc_9 : zI 9 9 9 := ⟨by decide +kernel, by decide +kernel⟩
theorem li_9 : (9 : Int32).toInt = 9 := by decide +kernel
abbrev m_s2_Words_stepWays : Room := { frames := 1, cells := 0, slots := 0, locals := 23 }
set_option maxHeartbeats 4000000 in
set_option maxRecDepth 100000 in
theorem s2_Words_stepWays (l : Launch) (G : zG) (b0 : Nat) (b1 : Nat) (b2 : Int32) (b3 : Nat) (b4 : Nat) (b5 : Nat) (b6 : Nat) (b7 : Nat) (b8 : Nat) (b9 : Nat) (b10 : Nat) (b11 : Nat → Int32) (b12 : Nat → Int32) (b13 : Int32) (b14 : Int32) (b15 : Nat) (b16 : Nat) (b17 : Nat) (b18 : Nat) (b19 : Nat) (b20 : Nat) (b21 : Int32) (b22 : Nat) (b23 : Nat) (b24 : Nat) (b25 : Nat) (b26 : Nat) (b27 : Nat) (b28 : Nat → Int32) (hb2 : zI b2 0 9) (hb13 : zI b13 0 1) (hb14 : zI b14 0 241) (hb21 : zI b21 0 240) (hb28 : zK b28) : zM l G y_Words_stepWays prog_12_method_7_code 5 (Option.none : Option Jvm.ClassFile.FieldType) m_s2_Words_stepWays [.ref b0, .ref b1, .int b2] [(b0, .inr (7, [.ref b3, .ref b4, .ref b5, .ref b6, .ref b7, .ref b8, .ref b9, .ref b10])), (b9, .inl (G.2 0, 241, .inl b11)), (b10, .inl (G.2 0, 241, .inl b12)), (b1, .inr (5, [.int b13, .int b14, .ref b15, .ref b16, .ref b17, .ref b18, .ref b19, .ref b20, .int b21, .ref b22, .ref b23, .ref b24, .ref b25, .ref b26, .ref b27])), (b22, .inl (G.2 0, 240, .inl b28))] (fun v w => ∃ (e0 : Nat), ∃ (e1 : Nat), ∃ (e2 : Nat → Int32), ∃ (e3 : Nat → Int32), v = none ∧ w = [(b0, .inr (7, [.ref b3, .ref b4, .ref b5, .ref b6, .ref b7, .ref b8, .ref e0, .ref e1])), (e0, .inl (G.2 0, 241, .inl e2)), (e1, .inl (G.2 0, 241, .inl e3)), (b1, .inr (5, [.int b13, .int b14, .ref b15, .ref b16, .ref b17, .ref b18, .ref b19, .ref b20, .int b21, .ref b22, .ref b23, .ref b24, .ref b25, .ref b26, .ref b27])), (b22, .inl (G.2 0, 240, .inl b28))]) := by
  refine z_start (by decide +kernel) (Nat.le_of_ble_eq_true rfl) ?_
  intro p e s m below meth c A Z hr hnm hA hP hD hS ls hl
  have Z : zC p s m _ meth c prog_12_method_7_code 5 "TraceMachines$Words" G := Z
  obtain ⟨hx, hb, hml, hown, hts, hK, hN, hlocks⟩ := id Z
  have hl : lv_has ls 5 [(0, .ref b0), (1, .ref b1), (2, .int b2)] := hl
  refine lv_aload_n hx hb d_Words_stepWays_0 rfl (lv_at hl 0 rfl) ?_
  refine va_get (D := G.1) (ci := 7) (v := .ref b10) (C := R_Words) (T := F_Words) (N := 8) hx hb hts i_Words hown hK hP 0 rfl rfl 7 (by decide) (hts _ q273) (fun _ h9 => h9) rfl d_Words_stepWays_1 ?_
  refine lv_iconst (v := 0) hx hb d_Words_stepWays_4 (by decide) ?_
  refine z_callS (index := 88) (As := [.ref b10, .int 0]) (rest := []) (wr := [(b0, .inr (7, [.ref b3, .ref b4, .ref b5, .ref b6, .ref b7, .ref b8, .ref b9, .ref b10])), (b9, .inl (G.2 0, 241, .inl b11)), (b1, .inr (5, [.int b13, .int b14, .ref b15, .ref b16, .ref b17, .ref b18, .ref b19, .ref b20, .int b21, .ref b22, .ref b23, .ref b24, .ref b25, .ref b26, .ref b27])), (b22, .inl (G.2 0, 240, .inl b28))]) Z (c_fill_I l G (b10) (241) (b12) (0) (by decide)) hl.1 q804 q415 q13 q416 ⟨by decide, by decide, by show _ = some 2; decide +kernel⟩ ⟨Nat.le_of_ble_eq_true rfl, Nat.le_of_ble_eq_true rfl⟩ ⟨Nat.le_of_ble_eq_true rfl, Nat.le_of_ble_eq_true rfl⟩ rfl (Nat.le_of_ble_eq_true rfl) d_Words_stepWays_5 hP hD hS hA [2] [0, 1, 3, 4] rfl rfl rfl rfl (by decide) (fun v w1 H locs hw_1 hP hD hS => ?_)
  obtain ⟨rfl, rfl⟩ := hw_1
  have hP : va_P G.1 classes [(b0, .inr (7, [.ref b3, .ref b4, .ref b5, .ref b6, .ref b7, .ref b8, .ref b9, .ref b10])), (b9, .inl (G.2 0, 241, .inl b11)), (b1, .inr (5, [.int b13, .int b14, .ref b15, .ref b16, .ref b17, .ref b18, .ref b19, .ref b20, .int b21, .ref b22, .ref b23, .ref b24, .ref b25, .ref b26, .ref b27])), (b22, .inl (G.2 0, 240, .inl b28)), (b10, .inl (G.2 0, 241, .inl (fun _ => 0)))] H := hP
  have hD := z_tie hP hD rfl
  refine W.widen (k := 0) (n := 0) (Nat.le_of_ble_eq_true rfl) (Nat.le_of_ble_eq_true rfl) ?_
  refine lv_iconst (v := 0) hx hb d_Words_stepWays_8 (by decide) ?_
  refine lv_istore_n (lv' := [(3, .int 0), (0, .ref b0), (1, .ref b1), (2, .int b2)]) hx hb d_Words_stepWays_9 rfl hl (by decide) rfl (fun ls hl => ?_)
  suffices key : ∀ (k_182 : Nat) (y_183 : Int32) (y_184 : Nat → Int32) (H : Heap) (locs : List Loc) (ls : Array Slot), (zI y_183 0 240) → (240 : Int) - y_183.toInt < (k_182 : Int) → va_P G.1 classes [(b0, .inr (7, [.ref b3, .ref b4, .ref b5, .ref b6, .ref b7, .ref b8, .ref b9, .ref b10])), (b9, .inl (G.2 0, 241, .inl b11)), (b1, .inr (5, [.int b13, .int b14, .ref b15, .ref b16, .ref b17, .ref b18, .ref b19, .ref b20, .int b21, .ref b22, .ref b23, .ref b24, .ref b25, .ref b26, .ref b27])), (b22, .inl (G.2 0, 240, .inl b28)), (b10, .inl (G.2 0, 241, .inl y_184))] H → va_D A [(b0, .inr (7, [.ref b3, .ref b4, .ref b5, .ref b6, .ref b7, .ref b8, .ref b9, .ref b10])), (b9, .inl (G.2 0, 241, .inl b11)), (b1, .inr (5, [.int b13, .int b14, .ref b15, .ref b16, .ref b17, .ref b18, .ref b19, .ref b20, .int b21, .ref b22, .ref b23, .ref b24, .ref b25, .ref b26, .ref b27])), (b22, .inl (G.2 0, 240, .inl b28)), (b10, .inl (G.2 0, 241, .inl y_184))] → va_S A s.heap H locs → lv_has ls 5 [(3, .int y_183), (0, .ref b0), (1, .ref b1), (2, .int b2)] → W p l e m_s2_Words_stepWays s m ([.ref b0, .ref b1, .int b2] : List Value).toArray below meth c H locs 0 0 (MQ below (zQ G (fun v w => ∃ (e0 : Nat), ∃ (e1 : Nat), ∃ (e2 : Nat → Int32), ∃ (e3 : Nat → Int32), v = none ∧ w = [(b0, .inr (7, [.ref b3, .ref b4, .ref b5, .ref b6, .ref b7, .ref b8, .ref e0, .ref e1])), (e0, .inl (G.2 0, 241, .inl e2)), (e1, .inl (G.2 0, 241, .inl e3)), (b1, .inr (5, [.int b13, .int b14, .ref b15, .ref b16, .ref b17, .ref b18, .ref b19, .ref b20, .int b21, .ref b22, .ref b23, .ref b24, .ref b25, .ref b26, .ref b27])), (b22, .inl (G.2 0, 240, .inl b28))]) A) ([.ref b0, .ref b1, .int b2] : List Value).toArray s m_s2_Words_stepWays.cells m_s2_Words_stepWays.slots A) (F0 m 10 ls []) by
    exact key 241 (0) ((fun _ => 0)) _ _ _ (zI.wk (l' := 0) (h' := 240) zc_0 (by decide)) (zm_upi (zI.wk (l' := 0) (h' := 240) zc_0 (by decide)) (by decide)) hP hD hS (lv_sub hl [0, 1, 2, 3] rfl)
  intro k_182
  induction k_182 with
  | zero =>
    intro y_183 y_184 H locs ls hy_183 hmk_182 hP hD hS hl
    exact (zm_up0 hy_183 hmk_182).elim
  | succ k_182 ihk_182 =>
    intro y_183 y_184 H locs ls hy_183 hmk_182 hP hD hS hl
    refine lv_iload_n hx hb d_Words_stepWays_10 rfl (lv_at hl 0 rfl) ?_
    refine lv_aload_n hx hb d_Words_stepWays_11 rfl (lv_at hl 2 rfl) ?_
    refine va_get (D := G.1) (ci := 5) (v := .int b21) (C := R_Machine) (T := F_Machine) (N := 15) hx hb hts i_Machine hown hK hP 2 rfl rfl 8 (by decide) (hts _ q183) (fun _ h9 => h9) rfl d_Words_stepWays_12 ?_
    refine lv_icmp_ge (tgt := 70) hx hb d_Words_stepWays_15 (by decide) (fun hc_185 => ?_) (fun hc_185 => ?_)
    · have _nhc_185 := hc_185
      have ni_186 := (fa_le _ _).mp hc_185
      refine lv_aload_n hx hb d_Words_stepWays_70 rfl (lv_at hl 1 rfl) ?_
      refine va_get (D := G.1) (ci := 7) (v := .ref b9) (C := R_Words) (T := F_Words) (N := 8) hx hb hts i_Words hown hK hP 0 rfl rfl 6 (by decide) (hts _ q272) (fun _ h9 => h9) rfl d_Words_stepWays_71 ?_
      refine lv_astore_n (lv' := [(3, .ref b9), (0, .ref b0), (1, .ref b1), (2, .int b2)]) hx hb d_Words_stepWays_74 rfl hl (by decide) rfl (fun ls hl => ?_)
      refine lv_aload_n hx hb d_Words_stepWays_75 rfl (lv_at hl 1 rfl) ?_
      refine lv_aload_n hx hb d_Words_stepWays_76 rfl (lv_at hl 1 rfl) ?_
      refine va_get (D := G.1) (ci := 7) (v := .ref b10) (C := R_Words) (T := F_Words) (N := 8) hx hb hts i_Words hown hK hP 0 rfl rfl 7 (by decide) (hts _ q273) (fun _ h9 => h9) rfl d_Words_stepWays_77 ?_
      refine va_put (D := G.1) (ci := 7) (v := .ref b10) (ty := .array .int) (C := R_Words) (T := F_Words) (N := 8) hx hb hts i_Words t_Words t_Words_ok n_Words hown hK hP hD hS 0 rfl rfl 6 (by decide) (hts _ q272) (fun _ h9 => h9) rfl (by decide +kernel) rfl rfl (Nat.le_of_ble_eq_true rfl) d_Words_stepWays_80 (fun H locs hP hD hS => ?_)
      have hP : va_P G.1 classes [(b0, .inr (7, [.ref b3, .ref b4, .ref b5, .ref b6, .ref b7, .ref b8, .ref b10, .ref b10])), (b9, .inl (G.2 0, 241, .inl b11)), (b1, .inr (5, [.int b13, .int b14, .ref b15, .ref b16, .ref b17, .ref b18, .ref b19, .ref b20, .int b21, .ref b22, .ref b23, .ref b24, .ref b25, .ref b26, .ref b27])), (b22, .inl (G.2 0, 240, .inl b28)), (b10, .inl (G.2 0, 241, .inl y_184))] H := hP
      have hD := z_tie hP hD rfl
      refine lv_aload_n hx hb d_Words_stepWays_83 rfl (lv_at hl 1 rfl) ?_
      refine lv_aload_n hx hb d_Words_stepWays_84 rfl (lv_at hl 0 rfl) ?_
      refine va_put (D := G.1) (ci := 7) (v := .ref b9) (ty := .array .int) (C := R_Words) (T := F_Words) (N := 8) hx hb hts i_Words t_Words t_Words_ok n_Words hown hK hP hD hS 0 rfl rfl 7 (by decide) (hts _ q273) (fun _ h9 => h9) rfl (by decide +kernel) rfl rfl (Nat.le_of_ble_eq_true rfl) d_Words_stepWays_85 (fun H locs hP hD hS => ?_)
      have hP : va_P G.1 classes [(b0, .inr (7, [.ref b3, .ref b4, .ref b5, .ref b6, .ref b7, .ref b8, .ref b10, .ref b9])), (b9, .inl (G.2 0, 241, .inl b11)), (b1, .inr (5, [.int b13, .int b14, .ref b15, .ref b16, .ref b17, .ref b18, .ref b19, .ref b20, .int b21, .ref b22, .ref b23, .ref b24, .ref b25, .ref b26, .ref b27])), (b22, .inl (G.2 0, 240, .inl b28)), (b10, .inl (G.2 0, 241, .inl y_184))] H := hP
      have hD := z_tie hP hD rfl
      exact z_vret hx hb hr hlocks (hP.sub [0, 4, 1, 2, 3] rfl) (hD.sub [0, 4, 1, 2, 3] (by decide) rfl) hS (Nat.le_of_ble_eq_true rfl) (Nat.le_of_ble_eq_true rfl) d_Words_stepWays_88 ⟨b10, b9, y_184, b11, rfl, rfl⟩
    · have _nhc_185 := hc_185
      have ni_187 := (fa_lt _ _).mp (zi_nle hc_185)
      have hv_188 : zI y_183 0 239 := zI.lt_l hy_183 hb21 (zi_nle hc_185) (by decide)
      have hv_189 : zI b21 1 240 := zI.lt_r hy_183 hb21 (zi_nle hc_185) (by decide)
      refine lv_aload_n hx hb d_Words_stepWays_18 rfl (lv_at hl 2 rfl) ?_
      refine lv_iload_n hx hb d_Words_stepWays_19 rfl (lv_at hl 0 rfl) ?_
      refine z_callV (index := 119) (As := [.int y_183]) (rest := []) (wr := [(b0, .inr (7, [.ref b3, .ref b4, .ref b5, .ref b6, .ref b7, .ref b8, .ref b9, .ref b10])), (b9, .inl (G.2 0, 241, .inl b11)), (b10, .inl (G.2 0, 241, .inl y_184))]) Z (s1_Machine_letter l G (b1) (y_183) (b13) (b14) (b15) (b16) (b17) (b18) (b19) (b20) (b21) (b22) (b23) (b24) (b25) (b26) (b27) (b28) hv_188 hb13 hb14 (zI.wk (l' := 0) (h' := 240) hv_189 (by decide)) hb28) hl.1 q810 q674 q675 q6 q676 ⟨by decide, by decide, by show _ = some 1; decide +kernel⟩ ⟨Nat.le_of_ble_eq_true rfl, Nat.le_of_ble_eq_true rfl⟩ ⟨Nat.le_of_ble_eq_true rfl, Nat.le_of_ble_eq_true rfl⟩ rfl (Nat.le_of_ble_eq_true rfl) d_Words_stepWays_20 hP hD hS hA 2 5 rfl rfl rfl [2, 3] [0, 1, 4] rfl rfl rfl rfl (by decide) (fun v w1 H locs hw_190 hP hD hS => ?_)
      obtain ⟨x_191, rfl, rfl, hx_191⟩ := hw_190
      have hP : va_P G.1 classes [(b0, .inr (7, [.ref b3, .ref b4, .ref b5, .ref b6, .ref b7, .ref b8, .ref b9, .ref b10])), (b9, .inl (G.2 0, 241, .inl b11)), (b10, .inl (G.2 0, 241, .inl y_184)), (b1, .inr (5, [.int b13, .int b14, .ref b15, .ref b16, .ref b17, .ref b18, .ref b19, .ref b20, .int b21, .ref b22, .ref b23, .ref b24, .ref b25, .ref b26, .ref b27])), (b22, .inl (G.2 0, 240, .inl b28))] H := hP
      have hD := z_tie hP hD rfl
      refine W.widen (k := 0) (n := 0) (Nat.le_of_ble_eq_true rfl) (Nat.le_of_ble_eq_true rfl) ?_
      refine lv_iload_n hx hb d_Words_stepWays_23 rfl (lv_at hl 3 rfl) ?_
      refine lv_icmp_ne (tgt := 64) hx hb d_Words_stepWays_24 (by decide) (fun hc_192 => ?_) (fun hc_192 => ?_)
      · have _nhc_192 := hc_192
        have ni_193 : ¬ (x_191 : Int32).toInt = (b2 : Int32).toInt := fun z => hc_192 ((fa_eq _ _).mpr z)
        obtain ⟨v_194, ev_194⟩ : ∃ z : Int32, z = y_183 + 1 := ⟨_, rfl⟩
        obtain ⟨qv_194, hv_194⟩ := zI_add (l := 1) (h := 240) hv_188 zc_1 ev_194 (by decide)
        rw [li_1] at qv_194
        refine lv_iinc (v := v_194) (lv' := [(3, .int v_194), (0, .ref b0), (1, .ref b1), (2, .int b2)]) hx hb d_Words_stepWays_64 hl (k := 0) rfl (by rw [ev_194]; rfl) (by decide) rfl (fun ls hl => ?_)
        refine lv_goto (tgt := 10) hx hb d_Words_stepWays_67 (by decide) ?_
        exact ihk_182 (v_194) (y_184) _ _ _ (zI.wk (l' := 0) (h' := 240) hv_194 (by decide)) (zm_up qv_194 hmk_182 (by decide)) (hP.sub [0, 1, 3, 4, 2] rfl) (hD.sub [0, 1, 3, 4, 2] (by decide) rfl) hS (lv_sub hl [0, 1, 2, 3] rfl)
      · have _nhc_192 := hc_192
        have ni_195 := (fa_eq _ _).mp hc_192
        refine lv_aload_n hx hb d_Words_stepWays_27 rfl (lv_at hl 2 rfl) ?_
        refine lv_iload_n hx hb d_Words_stepWays_28 rfl (lv_at hl 0 rfl) ?_
        refine z_callV (index := 123) (As := [.int y_183]) (rest := []) (wr := [(b0, .inr (7, [.ref b3, .ref b4, .ref b5, .ref b6, .ref b7, .ref b8, .ref b9, .ref b10])), (b9, .inl (G.2 0, 241, .inl b11)), (b10, .inl (G.2 0, 241, .inl y_184))]) Z (s1_Machine_to l G (b1) (y_183) (b13) (b14) (b15) (b16) (b17) (b18) (b19) (b20) (b21) (b22) (b23) (b24) (b25) (b26) (b27) (b28) hv_188 hb13 hb14 (zI.wk (l' := 0) (h' := 240) hv_189 (by decide)) hb28) hl.1 q811 q681 q682 q6 q683 ⟨by decide, by decide, by show _ = some 1; decide +kernel⟩ ⟨Nat.le_of_ble_eq_true rfl, Nat.le_of_ble_eq_true rfl⟩ ⟨Nat.le_of_ble_eq_true rfl, Nat.le_of_ble_eq_true rfl⟩ rfl (Nat.le_of_ble_eq_true rfl) d_Words_stepWays_29 hP hD hS hA 3 5 rfl rfl rfl [3, 4] [0, 1, 2] rfl rfl rfl rfl (by decide) (fun v w1 H locs hw_196 hP hD hS => ?_)
        obtain ⟨x_197, rfl, rfl, hx_197⟩ := hw_196
        have hP : va_P G.1 classes [(b0, .inr (7, [.ref b3, .ref b4, .ref b5, .ref b6, .ref b7, .ref b8, .ref b9, .ref b10])), (b9, .inl (G.2 0, 241, .inl b11)), (b10, .inl (G.2 0, 241, .inl y_184)), (b1, .inr (5, [.int b13, .int b14, .ref b15, .ref b16, .ref b17, .ref b18, .ref b19, .ref b20, .int b21, .ref b22, .ref b23, .ref b24, .ref b25, .ref b26, .ref b27])), (b22, .inl (G.2 0, 240, .inl b28))] H := hP
        have hD := z_tie hP hD rfl
        refine W.widen (k := 0) (n := 0) (Nat.le_of_ble_eq_true rfl) (Nat.le_of_ble_eq_true rfl) ?_
        refine lv_istore (lv' := [(4, .int x_197), (3, .int y_183), (0, .ref b0), (1, .ref b1), (2, .int b2)]) hx hb d_Words_stepWays_32 hl (by decide) rfl (fun ls hl => ?_)
        refine lv_aload_n hx hb d_Words_stepWays_34 rfl (lv_at hl 2 rfl) ?_
        refine va_get (D := G.1) (ci := 7) (v := .ref b10) (C := R_Words) (T := F_Words) (N := 8) hx hb hts i_Words hown hK hP 0 rfl rfl 7 (by decide) (hts _ q273) (fun _ h9 => h9) rfl d_Words_stepWays_35 ?_
        refine lv_iload hx hb d_Words_stepWays_38 (lv_at hl 0 rfl) ?_
        refine lv_aload_n hx hb d_Words_stepWays_40 rfl (lv_at hl 2 rfl) ?_
        refine va_get (D := G.1) (ci := 7) (v := .ref b10) (C := R_Words) (T := F_Words) (N := 8) hx hb hts i_Words hown hK hP 0 rfl rfl 7 (by decide) (hts _ q273) (fun _ h9 => h9) rfl d_Words_stepWays_41 ?_
        refine lv_iload hx hb d_Words_stepWays_44 (lv_at hl 0 rfl) ?_
        refine va_iald hx hb hK hP 2 0 rfl rfl (zI.inn hx_197 (by decide)) d_Words_stepWays_46 ?_
        refine lv_topi (fun v_198 ev_198 => ?_)
        refine lv_aload_n hx hb d_Words_stepWays_47 rfl (lv_at hl 2 rfl) ?_
        refine va_get (D := G.1) (ci := 7) (v := .ref b9) (C := R_Words) (T := F_Words) (N := 8) hx hb hts i_Words hown hK hP 0 rfl rfl 6 (by decide) (hts _ q272) (fun _ h9 => h9) rfl d_Words_stepWays_48 ?_
        refine lv_aload_n hx hb d_Words_stepWays_51 rfl (lv_at hl 3 rfl) ?_
        refine lv_iload_n hx hb d_Words_stepWays_52 rfl (lv_at hl 1 rfl) ?_
        refine z_callV (index := 126) (As := [.int y_183]) (rest := [.ref b9, .int v_198, .int x_197, .ref b10]) (wr := [(b0, .inr (7, [.ref b3, .ref b4, .ref b5, .ref b6, .ref b7, .ref b8, .ref b9, .ref b10])), (b9, .inl (G.2 0, 241, .inl b11)), (b10, .inl (G.2 0, 241, .inl y_184))]) Z (s1_Machine_from l G (b1) (y_183) (b13) (b14) (b15) (b16) (b17) (b18) (b19) (b20) (b21) (b22) (b23) (b24) (b25) (b26) (b27) (b28) hv_188 hb13 hb14 (zI.wk (l' := 0) (h' := 240) hv_189 (by decide)) hb28) hl.1 q812 q661 q662 q6 q663 ⟨by decide, by decide, by show _ = some 1; decide +kernel⟩ ⟨Nat.le_of_ble_eq_true rfl, Nat.le_of_ble_eq_true rfl⟩ ⟨Nat.le_of_ble_eq_true rfl, Nat.le_of_ble_eq_true rfl⟩ rfl (Nat.le_of_ble_eq_true rfl) d_Words_stepWays_53 hP hD hS hA 3 5 rfl rfl rfl [3, 4] [0, 1, 2] rfl rfl rfl rfl (by decide) (fun v w1 H locs hw_199 hP hD hS => ?_)
        obtain ⟨x_200, rfl, rfl, hx_200⟩ := hw_199
        have hP : va_P G.1 classes [(b0, .inr (7, [.ref b3, .ref b4, .ref b5, .ref b6, .ref b7, .ref b8, .ref b9, .ref b10])), (b9, .inl (G.2 0, 241, .inl b11)), (b10, .inl (G.2 0, 241, .inl y_184)), (b1, .inr (5, [.int b13, .int b14, .ref b15, .ref b16, .ref b17, .ref b18, .ref b19, .ref b20, .int b21, .ref b22, .ref b23, .ref b24, .ref b25, .ref b26, .ref b27])), (b22, .inl (G.2 0, 240, .inl b28))] H := hP
        have hD := z_tie hP hD rfl
        refine W.widen (k := 0) (n := 0) (Nat.le_of_ble_eq_true rfl) (Nat.le_of_ble_eq_true rfl) ?_
        refine va_iald hx hb hK hP 1 0 rfl rfl (zI.inn hx_200 (by decide)) d_Words_stepWays_56 ?_
        refine lv_topi (fun v_201 ev_201 => ?_)
        refine lv_iadd hx hb d_Words_stepWays_57 ?_
        refine lv_topi (fun v_202 ev_202 => ?_)
        refine lv_ldc hx hb hown (hts _ q813) d_Words_stepWays_58 ?_
        refine va_mmin hx hb (hml.trans hl.1.symm) hown (hts _ q814) (hts _ q592) (hts _ q20) (hts _ q593) (Nat.le_of_ble_eq_true rfl) (Nat.le_of_ble_eq_true rfl) (Nat.le_of_ble_eq_true rfl) (Nat.le_of_ble_eq_true rfl) d_Words_stepWays_60 ?_
        refine lv_topi (fun v_203 ev_203 => ?_)
        have hv_203 := zI_min (l := (-2147483648)) (h := 1000000) (zI_all v_202) zc_1000000 ev_203 (by decide)
        refine va_iast hx hb hK hP hD hS 2 0 rfl rfl (zI.inn hx_197 (by decide)) d_Words_stepWays_63 (fun H locs hP hD hS => ?_)
        obtain ⟨f_204, gf_204, uf_204, hP, hD⟩ := z_newFu 2 hP hD rfl
        have hP : va_P G.1 classes [(b0, .inr (7, [.ref b3, .ref b4, .ref b5, .ref b6, .ref b7, .ref b8, .ref b9, .ref b10])), (b9, .inl (G.2 0, 241, .inl b11)), (b10, .inl (G.2 0, 241, .inl f_204)), (b1, .inr (5, [.int b13, .int b14, .ref b15, .ref b16, .ref b17, .ref b18, .ref b19, .ref b20, .int b21, .ref b22, .ref b23, .ref b24, .ref b25, .ref b26, .ref b27])), (b22, .inl (G.2 0, 240, .inl b28))] H := hP
        have hD := z_tie hP hD rfl
        obtain ⟨v_205, ev_205⟩ : ∃ z : Int32, z = y_183 + 1 := ⟨_, rfl⟩
        obtain ⟨qv_205, hv_205⟩ := zI_add (l := 1) (h := 240) hv_188 zc_1 ev_205 (by decide)
        rw [li_1] at qv_205
        refine lv_iinc (v := v_205) (lv' := [(3, .int v_205), (4, .int x_197), (0, .ref b0), (1, .ref b1), (2, .int b2)]) hx hb d_Words_stepWays_64 hl (k := 1) rfl (by rw [ev_205]; rfl) (by decide) rfl (fun ls hl => ?_)
        refine lv_goto (tgt := 10) hx hb d_Words_stepWays_67 (by decide) ?_
        exact ihk_182 (v_205) (f_204) _ _ _ (zI.wk (l' := 0) (h' := 240) hv_205 (by decide)) (zm_up qv_205 hmk_182 (by decide)) (hP.sub [0, 1, 3, 4, 2] rfl) (hD.sub [0, 1, 3, 4, 2] (by decide) rfl) hS (lv_sub hl [0, 2, 3, 4] rfl)
abbrev m_s1_Words_waysOf : Room := { frames := 2, cells := 0, slots := 0, locals := 47 }
set_option maxHeartbeats 4000000 in
set_option maxRecDepth 100000 in
theorem s1_Words_waysOf (l : Launch) (G : zG) (b0 : Nat) (b1 : Nat) (b2 : Int32) (b3 : Nat) (b4 : Nat) (b5 : Nat) (b6 : Nat) (b7 : Nat) (b8 : Nat) (b9 : Nat) (b10 : Nat) (b11 : Nat) (b12 : Nat → Int32) (b13 : Nat → Int32) (b14 : Int32) (b15 : Int32) (b16 : Int32) (b17 : Nat) (b18 : Nat) (b19 : Nat) (b20 : Nat → Int32) (b21 : Nat → Int32) (b22 : Int32) (b23 : Int32) (b24 : Nat) (b25 : Nat) (b26 : Nat) (b27 : Nat) (b28 : Nat) (b29 : Nat) (b30 : Int32) (b31 : Nat) (b32 : Nat) (b33 : Nat) (b34 : Nat) (b35 : Nat) (b36 : Nat) (b37 : Nat → Int32) (b38 : Nat → Int32) (hb2 : zI b2 0 19) (hb14 : zI b14 0 20) (hb15 : zI b15 0 3) (hb16 : zI b16 0 20) (hb22 : zI b22 0 1) (hb23 : zI b23 0 241) (hb30 : zI b30 0 240) (hb20 : zR b20 0 12) (hb21 : zR b21 0 9) (hb38 : zK b38) : zM l G y_Words_waysOf prog_12_method_6_code 6 (Option.some Jvm.ClassFile.FieldType.int) m_s1_Words_waysOf [.ref b0, .ref b1, .int b2, .ref b3] [(b0, .inr (7, [.ref b4, .ref b5, .ref b6, .ref b7, .ref b8, .ref b9, .ref b10, .ref b11])), (b10, .inl (G.2 0, 241, .inl b12)), (b11, .inl (G.2 0, 241, .inl b13)), (b1, .inr (2, [.int b14, .int b15, .int b16, .ref b17, .ref b18, .ref b19])), (b17, .inl (G.2 0, 20, .inl b20)), (b18, .inl (G.2 0, 240, .inl b21)), (b3, .inr (5, [.int b22, .int b23, .ref b24, .ref b25, .ref b26, .ref b27, .ref b28, .ref b29, .int b30, .ref b31, .ref b32, .ref b33, .ref b34, .ref b35, .ref b36])), (b27, .inl (G.2 0, 241, .inl b37)), (b31, .inl (G.2 0, 240, .inl b38))] (fun v w => ∃ (e0 : Int32), ∃ (e1 : Nat), ∃ (e2 : Nat), ∃ (e3 : Nat → Int32), ∃ (e4 : Nat → Int32), v = some (.int e0) ∧ w = [(b0, .inr (7, [.ref b4, .ref b5, .ref b6, .ref b7, .ref b8, .ref b9, .ref e1, .ref e2])), (e1, .inl (G.2 0, 241, .inl e3)), (e2, .inl (G.2 0, 241, .inl e4)), (b1, .inr (2, [.int b14, .int b15, .int b16, .ref b17, .ref b18, .ref b19])), (b17, .inl (G.2 0, 20, .inl b20)), (b18, .inl (G.2 0, 240, .inl b21)), (b3, .inr (5, [.int b22, .int b23, .ref b24, .ref b25, .ref b26, .ref b27, .ref b28, .ref b29, .int b30, .ref b31, .ref b32, .ref b33, .ref b34, .ref b35, .ref b36])), (b27, .inl (G.2 0, 241, .inl b37)), (b31, .inl (G.2 0, 240, .inl b38))] ∧ (zI e0 (-2147483648) 1000000)) := by
  refine z_start (by decide +kernel) (Nat.le_of_ble_eq_true rfl) ?_
  intro p e s m below meth c A Z hr hnm hA hP hD hS ls hl
  have Z : zC p s m _ meth c prog_12_method_6_code 6 "TraceMachines$Words" G := Z
  obtain ⟨hx, hb, hml, hown, hts, hK, hN, hlocks⟩ := id Z
  have hl : lv_has ls 6 [(0, .ref b0), (1, .ref b1), (2, .int b2), (3, .ref b3)] := hl
  refine lv_aload_n hx hb d_Words_waysOf_0 rfl (lv_at hl 0 rfl) ?_
  refine va_get (D := G.1) (ci := 7) (v := .ref b10) (C := R_Words) (T := F_Words) (N := 8) hx hb hts i_Words hown hK hP 0 rfl rfl 6 (by decide) (hts _ q272) (fun _ h9 => h9) rfl d_Words_waysOf_1 ?_
  refine lv_iconst (v := 0) hx hb d_Words_waysOf_4 (by decide) ?_
  refine z_callS (index := 88) (As := [.ref b10, .int 0]) (rest := []) (wr := [(b0, .inr (7, [.ref b4, .ref b5, .ref b6, .ref b7, .ref b8, .ref b9, .ref b10, .ref b11])), (b11, .inl (G.2 0, 241, .inl b13)), (b1, .inr (2, [.int b14, .int b15, .int b16, .ref b17, .ref b18, .ref b19])), (b17, .inl (G.2 0, 20, .inl b20)), (b18, .inl (G.2 0, 240, .inl b21)), (b3, .inr (5, [.int b22, .int b23, .ref b24, .ref b25, .ref b26, .ref b27, .ref b28, .ref b29, .int b30, .ref b31, .ref b32, .ref b33, .ref b34, .ref b35, .ref b36])), (b27, .inl (G.2 0, 241, .inl b37)), (b31, .inl (G.2 0, 240, .inl b38))]) Z (c_fill_I l G (b10) (241) (b12) (0) (by decide)) hl.1 q804 q415 q13 q416 ⟨by decide, by decide, by show _ = some 2; decide +kernel⟩ ⟨Nat.le_of_ble_eq_true rfl, Nat.le_of_ble_eq_true rfl⟩ ⟨Nat.le_of_ble_eq_true rfl, Nat.le_of_ble_eq_true rfl⟩ rfl (Nat.le_of_ble_eq_true rfl) d_Words_waysOf_5 hP hD hS hA [1] [0, 2, 3, 4, 5, 6, 7, 8] rfl rfl rfl rfl (by decide) (fun v w1 H locs hw_1 hP hD hS => ?_)
  obtain ⟨rfl, rfl⟩ := hw_1
  have hP : va_P G.1 classes [(b0, .inr (7, [.ref b4, .ref b5, .ref b6, .ref b7, .ref b8, .ref b9, .ref b10, .ref b11])), (b11, .inl (G.2 0, 241, .inl b13)), (b1, .inr (2, [.int b14, .int b15, .int b16, .ref b17, .ref b18, .ref b19])), (b17, .inl (G.2 0, 20, .inl b20)), (b18, .inl (G.2 0, 240, .inl b21)), (b3, .inr (5, [.int b22, .int b23, .ref b24, .ref b25, .ref b26, .ref b27, .ref b28, .ref b29, .int b30, .ref b31, .ref b32, .ref b33, .ref b34, .ref b35, .ref b36])), (b27, .inl (G.2 0, 241, .inl b37)), (b31, .inl (G.2 0, 240, .inl b38)), (b10, .inl (G.2 0, 241, .inl (fun _ => 0)))] H := hP
  have hD := z_tie hP hD rfl
  refine W.widen (k := 0) (n := 0) (Nat.le_of_ble_eq_true rfl) (Nat.le_of_ble_eq_true rfl) ?_
  refine lv_aload_n hx hb d_Words_waysOf_8 rfl (lv_at hl 0 rfl) ?_
  refine va_get (D := G.1) (ci := 7) (v := .ref b10) (C := R_Words) (T := F_Words) (N := 8) hx hb hts i_Words hown hK hP 0 rfl rfl 6 (by decide) (hts _ q272) (fun _ h9 => h9) rfl d_Words_waysOf_9 ?_
  refine lv_iconst (v := 0) hx hb d_Words_waysOf_12 (by decide) ?_
  refine lv_iconst (v := 1) hx hb d_Words_waysOf_13 (by decide) ?_
  refine va_iast hx hb hK hP hD hS 8 0 rfl rfl (i := 0) (z_in rfl) d_Words_waysOf_14 (fun H locs hP hD hS => ?_)
  obtain ⟨f_2, gf_2, uf_2, hP, hD⟩ := z_newFu 8 hP hD rfl
  have hP : va_P G.1 classes [(b0, .inr (7, [.ref b4, .ref b5, .ref b6, .ref b7, .ref b8, .ref b9, .ref b10, .ref b11])), (b11, .inl (G.2 0, 241, .inl b13)), (b1, .inr (2, [.int b14, .int b15, .int b16, .ref b17, .ref b18, .ref b19])), (b17, .inl (G.2 0, 20, .inl b20)), (b18, .inl (G.2 0, 240, .inl b21)), (b3, .inr (5, [.int b22, .int b23, .ref b24, .ref b25, .ref b26, .ref b27, .ref b28, .ref b29, .int b30, .ref b31, .ref b32, .ref b33, .ref b34, .ref b35, .ref b36])), (b27, .inl (G.2 0, 241, .inl b37)), (b31, .inl (G.2 0, 240, .inl b38)), (b10, .inl (G.2 0, 241, .inl f_2))] H := hP
  have hD := z_tie hP hD rfl
  refine lv_iconst (v := 0) hx hb d_Words_waysOf_15 (by decide) ?_
  refine lv_istore (lv' := [(4, .int 0), (0, .ref b0), (1, .ref b1), (2, .int b2), (3, .ref b3)]) hx hb d_Words_waysOf_16 hl (by decide) rfl (fun ls hl => ?_)
  refine lv_iload hx hb d_Words_waysOf_18 (lv_at hl 0 rfl) ?_
  refine lv_aload_n hx hb d_Words_waysOf_20 rfl (lv_at hl 2 rfl) ?_
  refine va_get (D := G.1) (ci := 2) (v := .ref b17) (C := R_Traces) (T := F_Traces) (N := 6) hx hb hts i_Traces hown hK hP 2 rfl rfl 3 (by decide) (hts _ q69) (fun _ h9 => h9) rfl d_Words_waysOf_21 ?_
  refine lv_iload_n hx hb d_Words_waysOf_24 rfl (lv_at hl 3 rfl) ?_
  refine va_iald hx hb hK hP 3 0 rfl rfl (zI.inn hb2 (by decide)) d_Words_waysOf_25 ?_
  refine lv_topi (fun v_3 ev_3 => ?_)
  have hv_3 : zI v_3 0 12 := (hb20 _).eq ev_3
  refine lv_icmp_ge (tgt := 47) hx hb d_Words_waysOf_26 (by decide) (fun hc_4 => ?_) (fun hc_4 => ?_)
  · have _nhc_4 := hc_4
    have ni_5 := (fa_le _ _).mp hc_4
    rw [li_0] at ni_5
    have hv_6 : zI v_3 0 0 := zI.le_l hv_3 zc_0 hc_4 (by decide)
    refine lv_iconst (v := 0) hx hb d_Words_waysOf_47 (by decide) ?_
    refine lv_istore (lv' := [(4, .int 0), (0, .ref b0), (1, .ref b1), (2, .int b2), (3, .ref b3)]) hx hb d_Words_waysOf_48 hl (by decide) rfl (fun ls hl => ?_)
    refine lv_iconst (v := 0) hx hb d_Words_waysOf_50 (by decide) ?_
    refine lv_istore (lv' := [(5, .int 0), (4, .int 0), (0, .ref b0), (1, .ref b1), (2, .int b2), (3, .ref b3)]) hx hb d_Words_waysOf_51 hl (by decide) rfl (fun ls hl => ?_)
    suffices key : ∀ (k_164 : Nat) (y_165 : Int32) (y_166 : Int32) (H : Heap) (locs : List Loc) (ls : Array Slot), (zI y_165 0 241) → (zI y_166 (-2147483648) 1000000) → (241 : Int) - y_165.toInt < (k_164 : Int) → va_P G.1 classes [(b0, .inr (7, [.ref b4, .ref b5, .ref b6, .ref b7, .ref b8, .ref b9, .ref b10, .ref b11])), (b11, .inl (G.2 0, 241, .inl b13)), (b1, .inr (2, [.int b14, .int b15, .int b16, .ref b17, .ref b18, .ref b19])), (b17, .inl (G.2 0, 20, .inl b20)), (b18, .inl (G.2 0, 240, .inl b21)), (b3, .inr (5, [.int b22, .int b23, .ref b24, .ref b25, .ref b26, .ref b27, .ref b28, .ref b29, .int b30, .ref b31, .ref b32, .ref b33, .ref b34, .ref b35, .ref b36])), (b27, .inl (G.2 0, 241, .inl b37)), (b31, .inl (G.2 0, 240, .inl b38)), (b10, .inl (G.2 0, 241, .inl f_2))] H → va_D A [(b0, .inr (7, [.ref b4, .ref b5, .ref b6, .ref b7, .ref b8, .ref b9, .ref b10, .ref b11])), (b11, .inl (G.2 0, 241, .inl b13)), (b1, .inr (2, [.int b14, .int b15, .int b16, .ref b17, .ref b18, .ref b19])), (b17, .inl (G.2 0, 20, .inl b20)), (b18, .inl (G.2 0, 240, .inl b21)), (b3, .inr (5, [.int b22, .int b23, .ref b24, .ref b25, .ref b26, .ref b27, .ref b28, .ref b29, .int b30, .ref b31, .ref b32, .ref b33, .ref b34, .ref b35, .ref b36])), (b27, .inl (G.2 0, 241, .inl b37)), (b31, .inl (G.2 0, 240, .inl b38)), (b10, .inl (G.2 0, 241, .inl f_2))] → va_S A s.heap H locs → lv_has ls 6 [(5, .int y_165), (4, .int y_166), (0, .ref b0), (1, .ref b1), (2, .int b2), (3, .ref b3)] → W p l e m_s1_Words_waysOf s m ([.ref b0, .ref b1, .int b2, .ref b3] : List Value).toArray below meth c H locs 0 0 (MQ below (zQ G (fun v w => ∃ (e0 : Int32), ∃ (e1 : Nat), ∃ (e2 : Nat), ∃ (e3 : Nat → Int32), ∃ (e4 : Nat → Int32), v = some (.int e0) ∧ w = [(b0, .inr (7, [.ref b4, .ref b5, .ref b6, .ref b7, .ref b8, .ref b9, .ref e1, .ref e2])), (e1, .inl (G.2 0, 241, .inl e3)), (e2, .inl (G.2 0, 241, .inl e4)), (b1, .inr (2, [.int b14, .int b15, .int b16, .ref b17, .ref b18, .ref b19])), (b17, .inl (G.2 0, 20, .inl b20)), (b18, .inl (G.2 0, 240, .inl b21)), (b3, .inr (5, [.int b22, .int b23, .ref b24, .ref b25, .ref b26, .ref b27, .ref b28, .ref b29, .int b30, .ref b31, .ref b32, .ref b33, .ref b34, .ref b35, .ref b36])), (b27, .inl (G.2 0, 241, .inl b37)), (b31, .inl (G.2 0, 240, .inl b38))] ∧ (zI e0 (-2147483648) 1000000)) A) ([.ref b0, .ref b1, .int b2, .ref b3] : List Value).toArray s m_s1_Words_waysOf.cells m_s1_Words_waysOf.slots A) (F0 m 53 ls []) by
      exact key 242 (0) (0) _ _ _ (zI.wk (l' := 0) (h' := 241) zc_0 (by decide)) (zI.wk (l' := (-2147483648)) (h' := 1000000) zc_0 (by decide)) (zm_upi (zI.wk (l' := 0) (h' := 241) zc_0 (by decide)) (by decide)) hP hD hS (lv_sub hl [0, 1, 2, 3, 4, 5] rfl)
    intro k_164
    induction k_164 with
    | zero =>
      intro y_165 y_166 H locs ls hy_165 hy_166 hmk_164 hP hD hS hl
      exact (zm_up0 hy_165 hmk_164).elim
    | succ k_164 ihk_164 =>
      intro y_165 y_166 H locs ls hy_165 hy_166 hmk_164 hP hD hS hl
      refine lv_iload hx hb d_Words_waysOf_53 (lv_at hl 0 rfl) ?_
      refine lv_aload_n hx hb d_Words_waysOf_55 rfl (lv_at hl 5 rfl) ?_
      refine va_get (D := G.1) (ci := 5) (v := .int b23) (C := R_Machine) (T := F_Machine) (N := 15) hx hb hts i_Machine hown hK hP 5 rfl rfl 1 (by decide) (hts _ q166) (fun _ h9 => h9) rfl d_Words_waysOf_56 ?_
      refine lv_icmp_ge (tgt := 95) hx hb d_Words_waysOf_59 (by decide) (fun hc_167 => ?_) (fun hc_167 => ?_)
      · have _nhc_167 := hc_167
        have ni_168 := (fa_le _ _).mp hc_167
        refine lv_iload hx hb d_Words_waysOf_95 (lv_at hl 1 rfl) ?_
        exact z_iret hx hb hr hlocks (hP.sub [0, 8, 1, 2, 3, 4, 5, 6, 7] rfl) (hD.sub [0, 8, 1, 2, 3, 4, 5, 6, 7] (by decide) rfl) hS (Nat.le_of_ble_eq_true rfl) (Nat.le_of_ble_eq_true rfl) d_Words_waysOf_97 ⟨y_166, b10, b11, f_2, b13, rfl, rfl, hy_166⟩
      · have _nhc_167 := hc_167
        have ni_169 := (fa_lt _ _).mp (zi_nle hc_167)
        have hv_170 : zI y_165 0 240 := zI.lt_l hy_165 hb23 (zi_nle hc_167) (by decide)
        have hv_171 : zI b23 1 241 := zI.lt_r hy_165 hb23 (zi_nle hc_167) (by decide)
        refine lv_aload_n hx hb d_Words_waysOf_62 rfl (lv_at hl 5 rfl) ?_
        refine va_get (D := G.1) (ci := 5) (v := .ref b27) (C := R_Machine) (T := F_Machine) (N := 15) hx hb hts i_Machine hown hK hP 5 rfl rfl 5 (by decide) (hts _ q177) (fun _ h9 => h9) rfl d_Words_waysOf_63 ?_
        refine lv_iload hx hb d_Words_waysOf_66 (lv_at hl 0 rfl) ?_
        refine va_iald hx hb hK hP 6 0 rfl rfl (zI.inn hv_170 (by decide)) d_Words_waysOf_68 ?_
        refine lv_topi (fun v_172 ev_172 => ?_)
        refine lv_if_le (tgt := 89) hx hb d_Words_waysOf_69 (by decide) (fun hc_173 => ?_) (fun hc_173 => ?_)
        · have _nhc_173 := hc_173
          have ni_174 := (fa_le _ _).mp hc_173
          rw [li_0] at ni_174
          have hv_175 : zI v_172 (-2147483648) 0 := zI.le_l (zI_all v_172) zc_0 hc_173 (by decide)
          obtain ⟨v_176, ev_176⟩ : ∃ z : Int32, z = y_165 + 1 := ⟨_, rfl⟩
          obtain ⟨qv_176, hv_176⟩ := zI_add (l := 1) (h := 241) hv_170 zc_1 ev_176 (by decide)
          rw [li_1] at qv_176
          refine lv_iinc (v := v_176) (lv' := [(5, .int v_176), (4, .int y_166), (0, .ref b0), (1, .ref b1), (2, .int b2), (3, .ref b3)]) hx hb d_Words_waysOf_89 hl (k := 0) rfl (by rw [ev_176]; rfl) (by decide) rfl (fun ls hl => ?_)
          refine lv_goto (tgt := 53) hx hb d_Words_waysOf_92 (by decide) ?_
          exact ihk_164 (v_176) (y_166) _ _ _ (zI.wk (l' := 0) (h' := 241) hv_176 (by decide)) hy_166 (zm_up qv_176 hmk_164 (by decide)) hP hD hS (lv_sub hl [0, 1, 2, 3, 4, 5] rfl)
        · have _nhc_173 := hc_173
          have ni_177 := (fa_lt _ _).mp (zi_nle hc_173)
          rw [li_0] at ni_177
          have hv_178 : zI v_172 1 2147483647 := zI.lt_r zc_0 (zI_all v_172) (zi_nle hc_173) (by decide)
          refine lv_iload hx hb d_Words_waysOf_72 (lv_at hl 1 rfl) ?_
          refine lv_aload_n hx hb d_Words_waysOf_74 rfl (lv_at hl 2 rfl) ?_
          refine va_get (D := G.1) (ci := 7) (v := .ref b10) (C := R_Words) (T := F_Words) (N := 8) hx hb hts i_Words hown hK hP 0 rfl rfl 6 (by decide) (hts _ q272) (fun _ h9 => h9) rfl d_Words_waysOf_75 ?_
          refine lv_iload hx hb d_Words_waysOf_78 (lv_at hl 0 rfl) ?_
          refine va_iald hx hb hK hP 8 0 rfl rfl (zI.inn hv_170 (by decide)) d_Words_waysOf_80 ?_
          refine lv_topi (fun v_179 ev_179 => ?_)
          refine lv_iadd hx hb d_Words_waysOf_81 ?_
          refine lv_topi (fun v_180 ev_180 => ?_)
          refine lv_ldc hx hb hown (hts _ q813) d_Words_waysOf_82 ?_
          refine va_mmin hx hb (hml.trans hl.1.symm) hown (hts _ q814) (hts _ q592) (hts _ q20) (hts _ q593) (Nat.le_of_ble_eq_true rfl) (Nat.le_of_ble_eq_true rfl) (Nat.le_of_ble_eq_true rfl) (Nat.le_of_ble_eq_true rfl) d_Words_waysOf_84 ?_
          refine lv_topi (fun v_181 ev_181 => ?_)
          have hv_181 := zI_min (l := (-2147483648)) (h := 1000000) (zI_all v_180) zc_1000000 ev_181 (by decide)
          refine lv_istore (lv' := [(4, .int v_181), (5, .int y_165), (0, .ref b0), (1, .ref b1), (2, .int b2), (3, .ref b3)]) hx hb d_Words_waysOf_87 hl (by decide) rfl (fun ls hl => ?_)
          obtain ⟨v_182, ev_182⟩ : ∃ z : Int32, z = y_165 + 1 := ⟨_, rfl⟩
          obtain ⟨qv_182, hv_182⟩ := zI_add (l := 1) (h := 241) hv_170 zc_1 ev_182 (by decide)
          rw [li_1] at qv_182
          refine lv_iinc (v := v_182) (lv' := [(5, .int v_182), (4, .int v_181), (0, .ref b0), (1, .ref b1), (2, .int b2), (3, .ref b3)]) hx hb d_Words_waysOf_89 hl (k := 1) rfl (by rw [ev_182]; rfl) (by decide) rfl (fun ls hl => ?_)
          refine lv_goto (tgt := 53) hx hb d_Words_waysOf_92 (by decide) ?_
          exact ihk_164 (v_182) (v_181) _ _ _ (zI.wk (l' := 0) (h' := 241) hv_182 (by decide)) hv_181 (zm_up qv_182 hmk_164 (by decide)) hP hD hS (lv_sub hl [0, 1, 2, 3, 4, 5] rfl)
  · have _nhc_4 := hc_4
    have ni_183 := (fa_lt _ _).mp (zi_nle hc_4)
    rw [li_0] at ni_183
    have hv_184 : zI v_3 1 12 := zI.lt_r zc_0 hv_3 (zi_nle hc_4) (by decide)
    refine lv_aload_n hx hb d_Words_waysOf_29 rfl (lv_at hl 1 rfl) ?_
    refine lv_aload_n hx hb d_Words_waysOf_30 rfl (lv_at hl 4 rfl) ?_
    refine lv_aload_n hx hb d_Words_waysOf_31 rfl (lv_at hl 2 rfl) ?_
    refine lv_iload_n hx hb d_Words_waysOf_32 rfl (lv_at hl 3 rfl) ?_
    refine lv_iload hx hb d_Words_waysOf_33 (lv_at hl 0 rfl) ?_
    refine z_callV (index := 99) (As := [.int b2, .int 0]) (rest := [.ref b3, .ref b0]) (wr := [(b0, .inr (7, [.ref b4, .ref b5, .ref b6, .ref b7, .ref b8, .ref b9, .ref b10, .ref b11])), (b11, .inl (G.2 0, 241, .inl b13)), (b17, .inl (G.2 0, 20, .inl b20)), (b3, .inr (5, [.int b22, .int b23, .ref b24, .ref b25, .ref b26, .ref b27, .ref b28, .ref b29, .int b30, .ref b31, .ref b32, .ref b33, .ref b34, .ref b35, .ref b36])), (b27, .inl (G.2 0, 241, .inl b37)), (b31, .inl (G.2 0, 240, .inl b38)), (b10, .inl (G.2 0, 241, .inl f_2))]) Z (s1_Traces_letterAt l G (b1) (b2) (0) (b14) (b15) (b16) (b17) (b18) (b19) (b21) hb2 (zI.wk (l' := 0) (h' := 11) zc_0 (by decide)) hb14 hb15 hb16 hb21) hl.1 q805 q580 q581 q3 q582 ⟨by decide, by decide, by show _ = some 2; decide +kernel⟩ ⟨Nat.le_of_ble_eq_true rfl, Nat.le_of_ble_eq_true rfl⟩ ⟨Nat.le_of_ble_eq_true rfl, Nat.le_of_ble_eq_true rfl⟩ rfl (Nat.le_of_ble_eq_true rfl) d_Words_waysOf_35 hP hD hS hA 2 2 rfl rfl rfl [2, 4] [0, 1, 3, 5, 6, 7, 8] rfl rfl rfl rfl (by decide) (fun v w1 H locs hw_185 hP hD hS => ?_)
    obtain ⟨x_186, rfl, rfl, hx_186⟩ := hw_185
    have hP : va_P G.1 classes [(b0, .inr (7, [.ref b4, .ref b5, .ref b6, .ref b7, .ref b8, .ref b9, .ref b10, .ref b11])), (b11, .inl (G.2 0, 241, .inl b13)), (b17, .inl (G.2 0, 20, .inl b20)), (b3, .inr (5, [.int b22, .int b23, .ref b24, .ref b25, .ref b26, .ref b27, .ref b28, .ref b29, .int b30, .ref b31, .ref b32, .ref b33, .ref b34, .ref b35, .ref b36])), (b27, .inl (G.2 0, 241, .inl b37)), (b31, .inl (G.2 0, 240, .inl b38)), (b10, .inl (G.2 0, 241, .inl f_2)), (b1, .inr (2, [.int b14, .int b15, .int b16, .ref b17, .ref b18, .ref b19])), (b18, .inl (G.2 0, 240, .inl b21))] H := hP
    have hD := z_tie hP hD rfl
    refine W.widen (k := 0) (n := 0) (Nat.le_of_ble_eq_true rfl) (Nat.le_of_ble_eq_true rfl) ?_
    refine z_callV (index := 103) (As := [.ref b3, .int x_186]) (rest := []) (wr := [(b17, .inl (G.2 0, 20, .inl b20)), (b27, .inl (G.2 0, 241, .inl b37)), (b1, .inr (2, [.int b14, .int b15, .int b16, .ref b17, .ref b18, .ref b19])), (b18, .inl (G.2 0, 240, .inl b21))]) Z (s2_Words_stepWays l G (b0) (b3) (x_186) (b4) (b5) (b6) (b7) (b8) (b9) (b10) (b11) (f_2) (b13) (b22) (b23) (b24) (b25) (b26) (b27) (b28) (b29) (b30) (b31) (b32) (b33) (b34) (b35) (b36) (b38) hx_186 hb22 hb23 hb30 hb38) hl.1 q806 q808 qs22 q8 q809 ⟨by decide, by decide, by show _ = some 2; decide +kernel⟩ ⟨Nat.le_of_ble_eq_true rfl, Nat.le_of_ble_eq_true rfl⟩ ⟨Nat.le_of_ble_eq_true rfl, Nat.le_of_ble_eq_true rfl⟩ rfl (Nat.le_of_ble_eq_true rfl) d_Words_waysOf_38 hP hD hS hA 0 7 rfl rfl rfl [0, 6, 1, 3, 5] [2, 4, 7, 8] rfl rfl rfl rfl (by decide) (fun v w1 H locs hw_187 hP hD hS => ?_)
    obtain ⟨x_188, x_189, f_190, f_191, rfl, rfl⟩ := hw_187
    have hP : va_P G.1 classes [(b17, .inl (G.2 0, 20, .inl b20)), (b27, .inl (G.2 0, 241, .inl b37)), (b1, .inr (2, [.int b14, .int b15, .int b16, .ref b17, .ref b18, .ref b19])), (b18, .inl (G.2 0, 240, .inl b21)), (b0, .inr (7, [.ref b4, .ref b5, .ref b6, .ref b7, .ref b8, .ref b9, .ref x_188, .ref x_189])), (x_188, .inl (G.2 0, 241, .inl f_190)), (x_189, .inl (G.2 0, 241, .inl f_191)), (b3, .inr (5, [.int b22, .int b23, .ref b24, .ref b25, .ref b26, .ref b27, .ref b28, .ref b29, .int b30, .ref b31, .ref b32, .ref b33, .ref b34, .ref b35, .ref b36])), (b31, .inl (G.2 0, 240, .inl b38))] H := hP
    have hD := z_tie hP hD rfl
    refine W.widen (k := 0) (n := 0) (Nat.le_of_ble_eq_true rfl) (Nat.le_of_ble_eq_true rfl) ?_
    refine lv_iinc (v := 1) (lv' := [(4, .int 1), (0, .ref b0), (1, .ref b1), (2, .int b2), (3, .ref b3)]) hx hb d_Words_waysOf_41 hl (k := 0) rfl (by decide +kernel) (by decide) rfl (fun ls hl => ?_)
    refine lv_goto (tgt := 18) hx hb d_Words_waysOf_44 (by decide) ?_
    refine lv_iload hx hb d_Words_waysOf_18 (lv_at hl 0 rfl) ?_
    refine lv_aload_n hx hb d_Words_waysOf_20 rfl (lv_at hl 2 rfl) ?_
    refine va_get (D := G.1) (ci := 2) (v := .ref b17) (C := R_Traces) (T := F_Traces) (N := 6) hx hb hts i_Traces hown hK hP 2 rfl rfl 3 (by decide) (hts _ q69) (fun _ h9 => h9) rfl d_Words_waysOf_21 ?_
    refine lv_iload_n hx hb d_Words_waysOf_24 rfl (lv_at hl 3 rfl) ?_
    refine va_iald hx hb hK hP 0 0 rfl rfl (zI.inn hb2 (by decide)) d_Words_waysOf_25 ?_
    refine lv_topi (fun v_192 ev_192 => ?_)
    obtain rfl : v_3 = v_192 := ev_3.trans ev_192.symm
    refine lv_icmp_ge (tgt := 47) hx hb d_Words_waysOf_26 (by decide) (fun hc_193 => ?_) (fun hc_193 => ?_)
    · have _nhc_193 := hc_193
      have ni_194 := (fa_le _ _).mp hc_193
      rw [li_1] at ni_194
      have hv_195 : zI v_3 1 1 := zI.le_l hv_184 zc_1 hc_193 (by decide)
      refine lv_iconst (v := 0) hx hb d_Words_waysOf_47 (by decide) ?_
      refine lv_istore (lv' := [(4, .int 0), (0, .ref b0), (1, .ref b1), (2, .int b2), (3, .ref b3)]) hx hb d_Words_waysOf_48 hl (by decide) rfl (fun ls hl => ?_)
      refine lv_iconst (v := 0) hx hb d_Words_waysOf_50 (by decide) ?_
      refine lv_istore (lv' := [(5, .int 0), (4, .int 0), (0, .ref b0), (1, .ref b1), (2, .int b2), (3, .ref b3)]) hx hb d_Words_waysOf_51 hl (by decide) rfl (fun ls hl => ?_)
      suffices key : ∀ (k_354 : Nat) (y_355 : Int32) (y_356 : Int32) (H : Heap) (locs : List Loc) (ls : Array Slot), (zI y_355 0 241) → (zI y_356 (-2147483648) 1000000) → (241 : Int) - y_355.toInt < (k_354 : Int) → va_P G.1 classes [(b17, .inl (G.2 0, 20, .inl b20)), (b27, .inl (G.2 0, 241, .inl b37)), (b1, .inr (2, [.int b14, .int b15, .int b16, .ref b17, .ref b18, .ref b19])), (b18, .inl (G.2 0, 240, .inl b21)), (b0, .inr (7, [.ref b4, .ref b5, .ref b6, .ref b7, .ref b8, .ref b9, .ref x_188, .ref x_189])), (x_188, .inl (G.2 0, 241, .inl f_190)), (x_189, .inl (G.2 0, 241, .inl f_191)), (b3, .inr (5, [.int b22, .int b23, .ref b24, .ref b25, .ref b26, .ref b27, .ref b28, .ref b29, .int b30, .ref b31, .ref b32, .ref b33, .ref b34, .ref b35, .ref b36])), (b31, .inl (G.2 0, 240, .inl b38))] H → va_D A [(b17, .inl (G.2 0, 20, .inl b20)), (b27, .inl (G.2 0, 241, .inl b37)), (b1, .inr (2, [.int b14, .int b15, .int b16, .ref b17, .ref b18, .ref b19])), (b18, .inl (G.2 0, 240, .inl b21)), (b0, .inr (7, [.ref b4, .ref b5, .ref b6, .ref b7, .ref b8, .ref b9, .ref x_188, .ref x_189])), (x_188, .inl (G.2 0, 241, .inl f_190)), (x_189, .inl (G.2 0, 241, .inl f_191)), (b3, .inr (5, [.int b22, .int b23, .ref b24, .ref b25, .ref b26, .ref b27, .ref b28, .ref b29, .int b30, .ref b31, .ref b32, .ref b33, .ref b34, .ref b35, .ref b36])), (b31, .inl (G.2 0, 240, .inl b38))] → va_S A s.heap H locs → lv_has ls 6 [(5, .int y_355), (4, .int y_356), (0, .ref b0), (1, .ref b1), (2, .int b2), (3, .ref b3)] → W p l e m_s1_Words_waysOf s m ([.ref b0, .ref b1, .int b2, .ref b3] : List Value).toArray below meth c H locs 0 0 (MQ below (zQ G (fun v w => ∃ (e0 : Int32), ∃ (e1 : Nat), ∃ (e2 : Nat), ∃ (e3 : Nat → Int32), ∃ (e4 : Nat → Int32), v = some (.int e0) ∧ w = [(b0, .inr (7, [.ref b4, .ref b5, .ref b6, .ref b7, .ref b8, .ref b9, .ref e1, .ref e2])), (e1, .inl (G.2 0, 241, .inl e3)), (e2, .inl (G.2 0, 241, .inl e4)), (b1, .inr (2, [.int b14, .int b15, .int b16, .ref b17, .ref b18, .ref b19])), (b17, .inl (G.2 0, 20, .inl b20)), (b18, .inl (G.2 0, 240, .inl b21)), (b3, .inr (5, [.int b22, .int b23, .ref b24, .ref b25, .ref b26, .ref b27, .ref b28, .ref b29, .int b30, .ref b31, .ref b32, .ref b33, .ref b34, .ref b35, .ref b36])), (b27, .inl (G.2 0, 241, .inl b37)), (b31, .inl (G.2 0, 240, .inl b38))] ∧ (zI e0 (-2147483648) 1000000)) A) ([.ref b0, .ref b1, .int b2, .ref b3] : List Value).toArray s m_s1_Words_waysOf.cells m_s1_Words_waysOf.slots A) (F0 m 53 ls []) by
        exact key 242 (0) (0) _ _ _ (zI.wk (l' := 0) (h' := 241) zc_0 (by decide)) (zI.wk (l' := (-2147483648)) (h' := 1000000) zc_0 (by decide)) (zm_upi (zI.wk (l' := 0) (h' := 241) zc_0 (by decide)) (by decide)) hP hD hS (lv_sub hl [0, 1, 2, 3, 4, 5] rfl)
      intro k_354
      induction k_354 with
      | zero =>
        intro y_355 y_356 H locs ls hy_355 hy_356 hmk_354 hP hD hS hl
        exact (zm_up0 hy_355 hmk_354).elim
      | succ k_354 ihk_354 =>
        intro y_355 y_356 H locs ls hy_355 hy_356 hmk_354 hP hD hS hl
        refine lv_iload hx hb d_Words_waysOf_53 (lv_at hl 0 rfl) ?_
        refine lv_aload_n hx hb d_Words_waysOf_55 rfl (lv_at hl 5 rfl) ?_
        refine va_get (D := G.1) (ci := 5) (v := .int b23) (C := R_Machine) (T := F_Machine) (N := 15) hx hb hts i_Machine hown hK hP 7 rfl rfl 1 (by decide) (hts _ q166) (fun _ h9 => h9) rfl d_Words_waysOf_56 ?_
        refine lv_icmp_ge (tgt := 95) hx hb d_Words_waysOf_59 (by decide) (fun hc_357 => ?_) (fun hc_357 => ?_)
        · have _nhc_357 := hc_357
          have ni_358 := (fa_le _ _).mp hc_357
          refine lv_iload hx hb d_Words_waysOf_95 (lv_at hl 1 rfl) ?_
          exact z_iret hx hb hr hlocks (hP.sub [4, 5, 6, 2, 0, 3, 7, 1, 8] rfl) (hD.sub [4, 5, 6, 2, 0, 3, 7, 1, 8] (by decide) rfl) hS (Nat.le_of_ble_eq_true rfl) (Nat.le_of_ble_eq_true rfl) d_Words_waysOf_97 ⟨y_356, x_188, x_189, f_190, f_191, rfl, rfl, hy_356⟩
        · have _nhc_357 := hc_357
          have ni_359 := (fa_lt _ _).mp (zi_nle hc_357)
          have hv_360 : zI y_355 0 240 := zI.lt_l hy_355 hb23 (zi_nle hc_357) (by decide)
          have hv_361 : zI b23 1 241 := zI.lt_r hy_355 hb23 (zi_nle hc_357) (by decide)
          refine lv_aload_n hx hb d_Words_waysOf_62 rfl (lv_at hl 5 rfl) ?_
          refine va_get (D := G.1) (ci := 5) (v := .ref b27) (C := R_Machine) (T := F_Machine) (N := 15) hx hb hts i_Machine hown hK hP 7 rfl rfl 5 (by decide) (hts _ q177) (fun _ h9 => h9) rfl d_Words_waysOf_63 ?_
          refine lv_iload hx hb d_Words_waysOf_66 (lv_at hl 0 rfl) ?_
          refine va_iald hx hb hK hP 1 0 rfl rfl (zI.inn hv_360 (by decide)) d_Words_waysOf_68 ?_
          refine lv_topi (fun v_362 ev_362 => ?_)
          refine lv_if_le (tgt := 89) hx hb d_Words_waysOf_69 (by decide) (fun hc_363 => ?_) (fun hc_363 => ?_)
          · have _nhc_363 := hc_363
            have ni_364 := (fa_le _ _).mp hc_363
            rw [li_0] at ni_364
            have hv_365 : zI v_362 (-2147483648) 0 := zI.le_l (zI_all v_362) zc_0 hc_363 (by decide)
            obtain ⟨v_366, ev_366⟩ : ∃ z : Int32, z = y_355 + 1 := ⟨_, rfl⟩
            obtain ⟨qv_366, hv_366⟩ := zI_add (l := 1) (h := 241) hv_360 zc_1 ev_366 (by decide)
            rw [li_1] at qv_366
            refine lv_iinc (v := v_366) (lv' := [(5, .int v_366), (4, .int y_356), (0, .ref b0), (1, .ref b1), (2, .int b2), (3, .ref b3)]) hx hb d_Words_waysOf_89 hl (k := 0) rfl (by rw [ev_366]; rfl) (by decide) rfl (fun ls hl => ?_)
            refine lv_goto (tgt := 53) hx hb d_Words_waysOf_92 (by decide) ?_
            exact ihk_354 (v_366) (y_356) _ _ _ (zI.wk (l' := 0) (h' := 241) hv_366 (by decide)) hy_356 (zm_up qv_366 hmk_354 (by decide)) hP hD hS (lv_sub hl [0, 1, 2, 3, 4, 5] rfl)
          · have _nhc_363 := hc_363
            have ni_367 := (fa_lt _ _).mp (zi_nle hc_363)
            rw [li_0] at ni_367
            have hv_368 : zI v_362 1 2147483647 := zI.lt_r zc_0 (zI_all v_362) (zi_nle hc_363) (by decide)
            refine lv_iload hx hb d_Words_waysOf_72 (lv_at hl 1 rfl) ?_
            refine lv_aload_n hx hb d_Words_waysOf_74 rfl (lv_at hl 2 rfl) ?_
            refine va_get (D := G.1) (ci := 7) (v := .ref x_188) (C := R_Words) (T := F_Words) (N := 8) hx hb hts i_Words hown hK hP 4 rfl rfl 6 (by decide) (hts _ q272) (fun _ h9 => h9) rfl d_Words_waysOf_75 ?_
            refine lv_iload hx hb d_Words_waysOf_78 (lv_at hl 0 rfl) ?_
            refine va_iald hx hb hK hP 5 0 rfl rfl (zI.inn hv_360 (by decide)) d_Words_waysOf_80 ?_
            refine lv_topi (fun v_369 ev_369 => ?_)
            refine lv_iadd hx hb d_Words_waysOf_81 ?_
            refine lv_topi (fun v_370 ev_370 => ?_)
            refine lv_ldc hx hb hown (hts _ q813) d_Words_waysOf_82 ?_
            refine va_mmin hx hb (hml.trans hl.1.symm) hown (hts _ q814) (hts _ q592) (hts _ q20) (hts _ q593) (Nat.le_of_ble_eq_true rfl) (Nat.le_of_ble_eq_true rfl) (Nat.le_of_ble_eq_true rfl) (Nat.le_of_ble_eq_true rfl) d_Words_waysOf_84 ?_
            refine lv_topi (fun v_371 ev_371 => ?_)
            have hv_371 := zI_min (l := (-2147483648)) (h := 1000000) (zI_all v_370) zc_1000000 ev_371 (by decide)
            refine lv_istore (lv' := [(4, .int v_371), (5, .int y_355), (0, .ref b0), (1, .ref b1), (2, .int b2), (3, .ref b3)]) hx hb d_Words_waysOf_87 hl (by decide) rfl (fun ls hl => ?_)
            obtain ⟨v_372, ev_372⟩ : ∃ z : Int32, z = y_355 + 1 := ⟨_, rfl⟩
            obtain ⟨qv_372, hv_372⟩ := zI_add (l := 1) (h := 241) hv_360 zc_1 ev_372 (by decide)
            rw [li_1] at qv_372
            refine lv_iinc (v := v_372) (lv' := [(5, .int v_372), (4, .int v_371), (0, .ref b0), (1, .ref b1), (2, .int b2), (3, .ref b3)]) hx hb d_Words_waysOf_89 hl (k := 1) rfl (by rw [ev_372]; rfl) (by decide) rfl (fun ls hl => ?_)
            refine lv_goto (tgt := 53) hx hb d_Words_waysOf_92 (by decide) ?_
            exact ihk_354 (v_372) (v_371) _ _ _ (zI.wk (l' := 0) (h' := 241) hv_372 (by decide)) hv_371 (zm_up qv_372 hmk_354 (by decide)) hP hD hS (lv_sub hl [0, 1, 2, 3, 4, 5] rfl)
    · have _nhc_193 := hc_193
      have ni_373 := (fa_lt _ _).mp (zi_nle hc_193)
      rw [li_1] at ni_373
      have hv_374 : zI v_3 2 12 := zI.lt_r zc_1 hv_184 (zi_nle hc_193) (by decide)
      refine lv_aload_n hx hb d_Words_waysOf_29 rfl (lv_at hl 1 rfl) ?_
      refine lv_aload_n hx hb d_Words_waysOf_30 rfl (lv_at hl 4 rfl) ?_
      refine lv_aload_n hx hb d_Words_waysOf_31 rfl (lv_at hl 2 rfl) ?_
      refine lv_iload_n hx hb d_Words_waysOf_32 rfl (lv_at hl 3 rfl) ?_
      refine lv_iload hx hb d_Words_waysOf_33 (lv_at hl 0 rfl) ?_
      refine z_callV (index := 99) (As := [.int b2, .int 1]) (rest := [.ref b3, .ref b0]) (wr := [(b17, .inl (G.2 0, 20, .inl b20)), (b27, .inl (G.2 0, 241, .inl b37)), (b0, .inr (7, [.ref b4, .ref b5, .ref b6, .ref b7, .ref b8, .ref b9, .ref x_188, .ref x_189])), (x_188, .inl (G.2 0, 241, .inl f_190)), (x_189, .inl (G.2 0, 241, .inl f_191)), (b3, .inr (5, [.int b22, .int b23, .ref b24, .ref b25, .ref b26, .ref b27, .ref b28, .ref b29, .int b30, .ref b31, .ref b32, .ref b33, .ref b34, .ref b35, .ref b36])), (b31, .inl (G.2 0, 240, .inl b38))]) Z (s1_Traces_letterAt l G (b1) (b2) (1) (b14) (b15) (b16) (b17) (b18) (b19) (b21) hb2 (zI.wk (l' := 0) (h' := 11) zc_1 (by decide)) hb14 hb15 hb16 hb21) hl.1 q805 q580 q581 q3 q582 ⟨by decide, by decide, by show _ = some 2; decide +kernel⟩ ⟨Nat.le_of_ble_eq_true rfl, Nat.le_of_ble_eq_true rfl⟩ ⟨Nat.le_of_ble_eq_true rfl, Nat.le_of_ble_eq_true rfl⟩ rfl (Nat.le_of_ble_eq_true rfl) d_Words_waysOf_35 hP hD hS hA 2 2 rfl rfl rfl [2, 3] [0, 1, 4, 5, 6, 7, 8] rfl rfl rfl rfl (by decide) (fun v w1 H locs hw_375 hP hD hS => ?_)
      obtain ⟨x_376, rfl, rfl, hx_376⟩ := hw_375
      have hP : va_P G.1 classes [(b17, .inl (G.2 0, 20, .inl b20)), (b27, .inl (G.2 0, 241, .inl b37)), (b0, .inr (7, [.ref b4, .ref b5, .ref b6, .ref b7, .ref b8, .ref b9, .ref x_188, .ref x_189])), (x_188, .inl (G.2 0, 241, .inl f_190)), (x_189, .inl (G.2 0, 241, .inl f_191)), (b3, .inr (5, [.int b22, .int b23, .ref b24, .ref b25, .ref b26, .ref b27, .ref b28, .ref b29, .int b30, .ref b31, .ref b32, .ref b33, .ref b34, .ref b35, .ref b36])), (b31, .inl (G.2 0, 240, .inl b38)), (b1, .inr (2, [.int b14, .int b15, .int b16, .ref b17, .ref b18, .ref b19])), (b18, .inl (G.2 0, 240, .inl b21))] H := hP
      have hD := z_tie hP hD rfl
      refine W.widen (k := 0) (n := 0) (Nat.le_of_ble_eq_true rfl) (Nat.le_of_ble_eq_true rfl) ?_
      refine z_callV (index := 103) (As := [.ref b3, .int x_376]) (rest := []) (wr := [(b17, .inl (G.2 0, 20, .inl b20)), (b27, .inl (G.2 0, 241, .inl b37)), (b1, .inr (2, [.int b14, .int b15, .int b16, .ref b17, .ref b18, .ref b19])), (b18, .inl (G.2 0, 240, .inl b21))]) Z (s2_Words_stepWays l G (b0) (b3) (x_376) (b4) (b5) (b6) (b7) (b8) (b9) (x_188) (x_189) (f_190) (f_191) (b22) (b23) (b24) (b25) (b26) (b27) (b28) (b29) (b30) (b31) (b32) (b33) (b34) (b35) (b36) (b38) hx_376 hb22 hb23 hb30 hb38) hl.1 q806 q808 qs22 q8 q809 ⟨by decide, by decide, by show _ = some 2; decide +kernel⟩ ⟨Nat.le_of_ble_eq_true rfl, Nat.le_of_ble_eq_true rfl⟩ ⟨Nat.le_of_ble_eq_true rfl, Nat.le_of_ble_eq_true rfl⟩ rfl (Nat.le_of_ble_eq_true rfl) d_Words_waysOf_38 hP hD hS hA 2 7 rfl rfl rfl [2, 3, 4, 5, 6] [0, 1, 7, 8] rfl rfl rfl rfl (by decide) (fun v w1 H locs hw_377 hP hD hS => ?_)
      obtain ⟨x_378, x_379, f_380, f_381, rfl, rfl⟩ := hw_377
      have hP : va_P G.1 classes [(b17, .inl (G.2 0, 20, .inl b20)), (b27, .inl (G.2 0, 241, .inl b37)), (b1, .inr (2, [.int b14, .int b15, .int b16, .ref b17, .ref b18, .ref b19])), (b18, .inl (G.2 0, 240, .inl b21)), (b0, .inr (7, [.ref b4, .ref b5, .ref b6, .ref b7, .ref b8, .ref b9, .ref x_378, .ref x_379])), (x_378, .inl (G.2 0, 241, .inl f_380)), (x_379, .inl (G.2 0, 241, .inl f_381)), (b3, .inr (5, [.int b22, .int b23, .ref b24, .ref b25, .ref b26, .ref b27, .ref b28, .ref b29, .int b30, .ref b31, .ref b32, .ref b33, .ref b34, .ref b35, .ref b36])), (b31, .inl (G.2 0, 240, .inl b38))] H := hP
      have hD := z_tie hP hD rfl
      refine W.widen (k := 0) (n := 0) (Nat.le_of_ble_eq_true rfl) (Nat.le_of_ble_eq_true rfl) ?_
      refine lv_iinc (v := 2) (lv' := [(4, .int 2), (0, .ref b0), (1, .ref b1), (2, .int b2), (3, .ref b3)]) hx hb d_Words_waysOf_41 hl (k := 0) rfl (by decide +kernel) (by decide) rfl (fun ls hl => ?_)
      refine lv_goto (tgt := 18) hx hb d_Words_waysOf_44 (by decide) ?_
      refine lv_iload hx hb d_Words_waysOf_18 (lv_at hl 0 rfl) ?_
      refine lv_aload_n hx hb d_Words_waysOf_20 rfl (lv_at hl 2 rfl) ?_
      refine va_get (D := G.1) (ci := 2) (v := .ref b17) (C := R_Traces) (T := F_Traces) (N := 6) hx hb hts i_Traces hown hK hP 2 rfl rfl 3 (by decide) (hts _ q69) (fun _ h9 => h9) rfl d_Words_waysOf_21 ?_
      refine lv_iload_n hx hb d_Words_waysOf_24 rfl (lv_at hl 3 rfl) ?_
      refine va_iald hx hb hK hP 0 0 rfl rfl (zI.inn hb2 (by decide)) d_Words_waysOf_25 ?_
      refine lv_topi (fun v_382 ev_382 => ?_)
      obtain rfl : v_3 = v_382 := ev_3.trans ev_382.symm
      refine lv_icmp_ge (tgt := 47) hx hb d_Words_waysOf_26 (by decide) (fun hc_383 => ?_) (fun hc_383 => ?_)
      · have _nhc_383 := hc_383
        have ni_384 := (fa_le _ _).mp hc_383
        rw [li_2] at ni_384
        have hv_385 : zI v_3 2 2 := zI.le_l hv_374 zc_2 hc_383 (by decide)
        refine lv_iconst (v := 0) hx hb d_Words_waysOf_47 (by decide) ?_
        refine lv_istore (lv' := [(4, .int 0), (0, .ref b0), (1, .ref b1), (2, .int b2), (3, .ref b3)]) hx hb d_Words_waysOf_48 hl (by decide) rfl (fun ls hl => ?_)
        refine lv_iconst (v := 0) hx hb d_Words_waysOf_50 (by decide) ?_
        refine lv_istore (lv' := [(5, .int 0), (4, .int 0), (0, .ref b0), (1, .ref b1), (2, .int b2), (3, .ref b3)]) hx hb d_Words_waysOf_51 hl (by decide) rfl (fun ls hl => ?_)
        suffices key : ∀ (k_544 : Nat) (y_545 : Int32) (y_546 : Int32) (H : Heap) (locs : List Loc) (ls : Array Slot), (zI y_545 0 241) → (zI y_546 (-2147483648) 1000000) → (241 : Int) - y_545.toInt < (k_544 : Int) → va_P G.1 classes [(b17, .inl (G.2 0, 20, .inl b20)), (b27, .inl (G.2 0, 241, .inl b37)), (b1, .inr (2, [.int b14, .int b15, .int b16, .ref b17, .ref b18, .ref b19])), (b18, .inl (G.2 0, 240, .inl b21)), (b0, .inr (7, [.ref b4, .ref b5, .ref b6, .ref b7, .ref b8, .ref b9, .ref x_378, .ref x_379])), (x_378, .inl (G.2 0, 241, .inl f_380)), (x_379, .inl (G.2 0, 241, .inl f_381)), (b3, .inr (5, [.int b22, .int b23, .ref b24, .ref b25, .ref b26, .ref b27, .ref b28, .ref b29, .int b30, .ref b31, .ref b32, .ref b33, .ref b34, .ref b35, .ref b36])), (b31, .inl (G.2 0, 240, .inl b38))] H → va_D A [(b17, .inl (G.2 0, 20, .inl b20)), (b27, .inl (G.2 0, 241, .inl b37)), (b1, .inr (2, [.int b14, .int b15, .int b16, .ref b17, .ref b18, .ref b19])), (b18, .inl (G.2 0, 240, .inl b21)), (b0, .inr (7, [.ref b4, .ref b5, .ref b6, .ref b7, .ref b8, .ref b9, .ref x_378, .ref x_379])), (x_378, .inl (G.2 0, 241, .inl f_380)), (x_379, .inl (G.2 0, 241, .inl f_381)), (b3, .inr (5, [.int b22, .int b23, .ref b24, .ref b25, .ref b26, .ref b27, .ref b28, .ref b29, .int b30, .ref b31, .ref b32, .ref b33, .ref b34, .ref b35, .ref b36])), (b31, .inl (G.2 0, 240, .inl b38))] → va_S A s.heap H locs → lv_has ls 6 [(5, .int y_545), (4, .int y_546), (0, .ref b0), (1, .ref b1), (2, .int b2), (3, .ref b3)] → W p l e m_s1_Words_waysOf s m ([.ref b0, .ref b1, .int b2, .ref b3] : List Value).toArray below meth c H locs 0 0 (MQ below (zQ G (fun v w => ∃ (e0 : Int32), ∃ (e1 : Nat), ∃ (e2 : Nat), ∃ (e3 : Nat → Int32), ∃ (e4 : Nat → Int32), v = some (.int e0) ∧ w = [(b0, .inr (7, [.ref b4, .ref b5, .ref b6, .ref b7, .ref b8, .ref b9, .ref e1, .ref e2])), (e1, .inl (G.2 0, 241, .inl e3)), (e2, .inl (G.2 0, 241, .inl e4)), (b1, .inr (2, [.int b14, .int b15, .int b16, .ref b17, .ref b18, .ref b19])), (b17, .inl (G.2 0, 20, .inl b20)), (b18, .inl (G.2 0, 240, .inl b21)), (b3, .inr (5, [.int b22, .int b23, .ref b24, .ref b25, .ref b26, .ref b27, .ref b28, .ref b29, .int b30, .ref b31, .ref b32, .ref b33, .ref b34, .ref b35, .ref b36])), (b27, .inl (G.2 0, 241, .inl b37)), (b31, .inl (G.2 0, 240, .inl b38))] ∧ (zI e0 (-2147483648) 1000000)) A) ([.ref b0, .ref b1, .int b2, .ref b3] : List Value).toArray s m_s1_Words_waysOf.cells m_s1_Words_waysOf.slots A) (F0 m 53 ls []) by
          exact key 242 (0) (0) _ _ _ (zI.wk (l' := 0) (h' := 241) zc_0 (by decide)) (zI.wk (l' := (-2147483648)) (h' := 1000000) zc_0 (by decide)) (zm_upi (zI.wk (l' := 0) (h' := 241) zc_0 (by decide)) (by decide)) hP hD hS (lv_sub hl [0, 1, 2, 3, 4, 5] rfl)
        intro k_544
        induction k_544 with
        | zero =>
          intro y_545 y_546 H locs ls hy_545 hy_546 hmk_544 hP hD hS hl
          exact (zm_up0 hy_545 hmk_544).elim
        | succ k_544 ihk_544 =>
          intro y_545 y_546 H locs ls hy_545 hy_546 hmk_544 hP hD hS hl
          refine lv_iload hx hb d_Words_waysOf_53 (lv_at hl 0 rfl) ?_
          refine lv_aload_n hx hb d_Words_waysOf_55 rfl (lv_at hl 5 rfl) ?_
          refine va_get (D := G.1) (ci := 5) (v := .int b23) (C := R_Machine) (T := F_Machine) (N := 15) hx hb hts i_Machine hown hK hP 7 rfl rfl 1 (by decide) (hts _ q166) (fun _ h9 => h9) rfl d_Words_waysOf_56 ?_
          refine lv_icmp_ge (tgt := 95) hx hb d_Words_waysOf_59 (by decide) (fun hc_547 => ?_) (fun hc_547 => ?_)
          · have _nhc_547 := hc_547
            have ni_548 := (fa_le _ _).mp hc_547
            refine lv_iload hx hb d_Words_waysOf_95 (lv_at hl 1 rfl) ?_
            exact z_iret hx hb hr hlocks (hP.sub [4, 5, 6, 2, 0, 3, 7, 1, 8] rfl) (hD.sub [4, 5, 6, 2, 0, 3, 7, 1, 8] (by decide) rfl) hS (Nat.le_of_ble_eq_true rfl) (Nat.le_of_ble_eq_true rfl) d_Words_waysOf_97 ⟨y_546, x_378, x_379, f_380, f_381, rfl, rfl, hy_546⟩
          · have _nhc_547 := hc_547
            have ni_549 := (fa_lt _ _).mp (zi_nle hc_547)
            have hv_550 : zI y_545 0 240 := zI.lt_l hy_545 hb23 (zi_nle hc_547) (by decide)
            have hv_551 : zI b23 1 241 := zI.lt_r hy_545 hb23 (zi_nle hc_547) (by decide)
            refine lv_aload_n hx hb d_Words_waysOf_62 rfl (lv_at hl 5 rfl) ?_
            refine va_get (D := G.1) (ci := 5) (v := .ref b27) (C := R_Machine) (T := F_Machine) (N := 15) hx hb hts i_Machine hown hK hP 7 rfl rfl 5 (by decide) (hts _ q177) (fun _ h9 => h9) rfl d_Words_waysOf_63 ?_
            refine lv_iload hx hb d_Words_waysOf_66 (lv_at hl 0 rfl) ?_
            refine va_iald hx hb hK hP 1 0 rfl rfl (zI.inn hv_550 (by decide)) d_Words_waysOf_68 ?_
            refine lv_topi (fun v_552 ev_552 => ?_)
            refine lv_if_le (tgt := 89) hx hb d_Words_waysOf_69 (by decide) (fun hc_553 => ?_) (fun hc_553 => ?_)
            · have _nhc_553 := hc_553
              have ni_554 := (fa_le _ _).mp hc_553
              rw [li_0] at ni_554
              have hv_555 : zI v_552 (-2147483648) 0 := zI.le_l (zI_all v_552) zc_0 hc_553 (by decide)
              obtain ⟨v_556, ev_556⟩ : ∃ z : Int32, z = y_545 + 1 := ⟨_, rfl⟩
              obtain ⟨qv_556, hv_556⟩ := zI_add (l := 1) (h := 241) hv_550 zc_1 ev_556 (by decide)
              rw [li_1] at qv_556
              refine lv_iinc (v := v_556) (lv' := [(5, .int v_556), (4, .int y_546), (0, .ref b0), (1, .ref b1), (2, .int b2), (3, .ref b3)]) hx hb d_Words_waysOf_89 hl (k := 0) rfl (by rw [ev_556]; rfl) (by decide) rfl (fun ls hl => ?_)
              refine lv_goto (tgt := 53) hx hb d_Words_waysOf_92 (by decide) ?_
              exact ihk_544 (v_556) (y_546) _ _ _ (zI.wk (l' := 0) (h' := 241) hv_556 (by decide)) hy_546 (zm_up qv_556 hmk_544 (by decide)) hP hD hS (lv_sub hl [0, 1, 2, 3, 4, 5] rfl)
            · have _nhc_553 := hc_553
              have ni_557 := (fa_lt _ _).mp (zi_nle hc_553)
              rw [li_0] at ni_557
              have hv_558 : zI v_552 1 2147483647 := zI.lt_r zc_0 (zI_all v_552) (zi_nle hc_553) (by decide)
              refine lv_iload hx hb d_Words_waysOf_72 (lv_at hl 1 rfl) ?_
              refine lv_aload_n hx hb d_Words_waysOf_74 rfl (lv_at hl 2 rfl) ?_
              refine va_get (D := G.1) (ci := 7) (v := .ref x_378) (C := R_Words) (T := F_Words) (N := 8) hx hb hts i_Words hown hK hP 4 rfl rfl 6 (by decide) (hts _ q272) (fun _ h9 => h9) rfl d_Words_waysOf_75 ?_
              refine lv_iload hx hb d_Words_waysOf_78 (lv_at hl 0 rfl) ?_
              refine va_iald hx hb hK hP 5 0 rfl rfl (zI.inn hv_550 (by decide)) d_Words_waysOf_80 ?_
              refine lv_topi (fun v_559 ev_559 => ?_)
              refine lv_iadd hx hb d_Words_waysOf_81 ?_
              refine lv_topi (fun v_560 ev_560 => ?_)
              refine lv_ldc hx hb hown (hts _ q813) d_Words_waysOf_82 ?_
              refine va_mmin hx hb (hml.trans hl.1.symm) hown (hts _ q814) (hts _ q592) (hts _ q20) (hts _ q593) (Nat.le_of_ble_eq_true rfl) (Nat.le_of_ble_eq_true rfl) (Nat.le_of_ble_eq_true rfl) (Nat.le_of_ble_eq_true rfl) d_Words_waysOf_84 ?_
              refine lv_topi (fun v_561 ev_561 => ?_)
              have hv_561 := zI_min (l := (-2147483648)) (h := 1000000) (zI_all v_560) zc_1000000 ev_561 (by decide)
              refine lv_istore (lv' := [(4, .int v_561), (5, .int y_545), (0, .ref b0), (1, .ref b1), (2, .int b2), (3, .ref b3)]) hx hb d_Words_waysOf_87 hl (by decide) rfl (fun ls hl => ?_)
              obtain ⟨v_562, ev_562⟩ : ∃ z : Int32, z = y_545 + 1 := ⟨_, rfl⟩
              obtain ⟨qv_562, hv_562⟩ := zI_add (l := 1) (h := 241) hv_550 zc_1 ev_562 (by decide)
              rw [li_1] at qv_562
              refine lv_iinc (v := v_562) (lv' := [(5, .int v_562), (4, .int v_561), (0, .ref b0), (1, .ref b1), (2, .int b2), (3, .ref b3)]) hx hb d_Words_waysOf_89 hl (k := 1) rfl (by rw [ev_562]; rfl) (by decide) rfl (fun ls hl => ?_)
              refine lv_goto (tgt := 53) hx hb d_Words_waysOf_92 (by decide) ?_
              exact ihk_544 (v_562) (v_561) _ _ _ (zI.wk (l' := 0) (h' := 241) hv_562 (by decide)) hv_561 (zm_up qv_562 hmk_544 (by decide)) hP hD hS (lv_sub hl [0, 1, 2, 3, 4, 5] rfl)
      · have _nhc_383 := hc_383
        have ni_563 := (fa_lt _ _).mp (zi_nle hc_383)
        rw [li_2] at ni_563
        have hv_564 : zI v_3 3 12 := zI.lt_r zc_2 hv_374 (zi_nle hc_383) (by decide)
        refine lv_aload_n hx hb d_Words_waysOf_29 rfl (lv_at hl 1 rfl) ?_
        refine lv_aload_n hx hb d_Words_waysOf_30 rfl (lv_at hl 4 rfl) ?_
        refine lv_aload_n hx hb d_Words_waysOf_31 rfl (lv_at hl 2 rfl) ?_
        refine lv_iload_n hx hb d_Words_waysOf_32 rfl (lv_at hl 3 rfl) ?_
        refine lv_iload hx hb d_Words_waysOf_33 (lv_at hl 0 rfl) ?_
        refine z_callV (index := 99) (As := [.int b2, .int 2]) (rest := [.ref b3, .ref b0]) (wr := [(b17, .inl (G.2 0, 20, .inl b20)), (b27, .inl (G.2 0, 241, .inl b37)), (b0, .inr (7, [.ref b4, .ref b5, .ref b6, .ref b7, .ref b8, .ref b9, .ref x_378, .ref x_379])), (x_378, .inl (G.2 0, 241, .inl f_380)), (x_379, .inl (G.2 0, 241, .inl f_381)), (b3, .inr (5, [.int b22, .int b23, .ref b24, .ref b25, .ref b26, .ref b27, .ref b28, .ref b29, .int b30, .ref b31, .ref b32, .ref b33, .ref b34, .ref b35, .ref b36])), (b31, .inl (G.2 0, 240, .inl b38))]) Z (s1_Traces_letterAt l G (b1) (b2) (2) (b14) (b15) (b16) (b17) (b18) (b19) (b21) hb2 (zI.wk (l' := 0) (h' := 11) zc_2 (by decide)) hb14 hb15 hb16 hb21) hl.1 q805 q580 q581 q3 q582 ⟨by decide, by decide, by show _ = some 2; decide +kernel⟩ ⟨Nat.le_of_ble_eq_true rfl, Nat.le_of_ble_eq_true rfl⟩ ⟨Nat.le_of_ble_eq_true rfl, Nat.le_of_ble_eq_true rfl⟩ rfl (Nat.le_of_ble_eq_true rfl) d_Words_waysOf_35 hP hD hS hA 2 2 rfl rfl rfl [2, 3] [0, 1, 4, 5, 6, 7, 8] rfl rfl rfl rfl (by decide) (fun v w1 H locs hw_565 hP hD hS => ?_)
        obtain ⟨x_566, rfl, rfl, hx_566⟩ := hw_565
        have hP : va_P G.1 classes [(b17, .inl (G.2 0, 20, .inl b20)), (b27, .inl (G.2 0, 241, .inl b37)), (b0, .inr (7, [.ref b4, .ref b5, .ref b6, .ref b7, .ref b8, .ref b9, .ref x_378, .ref x_379])), (x_378, .inl (G.2 0, 241, .inl f_380)), (x_379, .inl (G.2 0, 241, .inl f_381)), (b3, .inr (5, [.int b22, .int b23, .ref b24, .ref b25, .ref b26, .ref b27, .ref b28, .ref b29, .int b30, .ref b31, .ref b32, .ref b33, .ref b34, .ref b35, .ref b36])), (b31, .inl (G.2 0, 240, .inl b38)), (b1, .inr (2, [.int b14, .int b15, .int b16, .ref b17, .ref b18, .ref b19])), (b18, .inl (G.2 0, 240, .inl b21))] H := hP
        have hD := z_tie hP hD rfl
        refine W.widen (k := 0) (n := 0) (Nat.le_of_ble_eq_true rfl) (Nat.le_of_ble_eq_true rfl) ?_
        refine z_callV (index := 103) (As := [.ref b3, .int x_566]) (rest := []) (wr := [(b17, .inl (G.2 0, 20, .inl b20)), (b27, .inl (G.2 0, 241, .inl b37)), (b1, .inr (2, [.int b14, .int b15, .int b16, .ref b17, .ref b18, .ref b19])), (b18, .inl (G.2 0, 240, .inl b21))]) Z (s2_Words_stepWays l G (b0) (b3) (x_566) (b4) (b5) (b6) (b7) (b8) (b9) (x_378) (x_379) (f_380) (f_381) (b22) (b23) (b24) (b25) (b26) (b27) (b28) (b29) (b30) (b31) (b32) (b33) (b34) (b35) (b36) (b38) hx_566 hb22 hb23 hb30 hb38) hl.1 q806 q808 qs22 q8 q809 ⟨by decide, by decide, by show _ = some 2; decide +kernel⟩ ⟨Nat.le_of_ble_eq_true rfl, Nat.le_of_ble_eq_true rfl⟩ ⟨Nat.le_of_ble_eq_true rfl, Nat.le_of_ble_eq_true rfl⟩ rfl (Nat.le_of_ble_eq_true rfl) d_Words_waysOf_38 hP hD hS hA 2 7 rfl rfl rfl [2, 3, 4, 5, 6] [0, 1, 7, 8] rfl rfl rfl rfl (by decide) (fun v w1 H locs hw_567 hP hD hS => ?_)
        obtain ⟨x_568, x_569, f_570, f_571, rfl, rfl⟩ := hw_567
        have hP : va_P G.1 classes [(b17, .inl (G.2 0, 20, .inl b20)), (b27, .inl (G.2 0, 241, .inl b37)), (b1, .inr (2, [.int b14, .int b15, .int b16, .ref b17, .ref b18, .ref b19])), (b18, .inl (G.2 0, 240, .inl b21)), (b0, .inr (7, [.ref b4, .ref b5, .ref b6, .ref b7, .ref b8, .ref b9, .ref x_568, .ref x_569])), (x_568, .inl (G.2 0, 241, .inl f_570)), (x_569, .inl (G.2 0, 241, .inl f_571)), (b3, .inr (5, [.int b22, .int b23, .ref b24, .ref b25, .ref b26, .ref b27, .ref b28, .ref b29, .int b30, .ref b31, .ref b32, .ref b33, .ref b34, .ref b35, .ref b36])), (b31, .inl (G.2 0, 240, .inl b38))] H := hP
        have hD := z_tie hP hD rfl
        refine W.widen (k := 0) (n := 0) (Nat.le_of_ble_eq_true rfl) (Nat.le_of_ble_eq_true rfl) ?_
        refine lv_iinc (v := 3) (lv' := [(4, .int 3), (0, .ref b0), (1, .ref b1), (2, .int b2), (3, .ref b3)]) hx hb d_Words_waysOf_41 hl (k := 0) rfl (by decide +kernel) (by decide) rfl (fun ls hl => ?_)
        refine lv_goto (tgt := 18) hx hb d_Words_waysOf_44 (by decide) ?_
        refine lv_iload hx hb d_Words_waysOf_18 (lv_at hl 0 rfl) ?_
        refine lv_aload_n hx hb d_Words_waysOf_20 rfl (lv_at hl 2 rfl) ?_
        refine va_get (D := G.1) (ci := 2) (v := .ref b17) (C := R_Traces) (T := F_Traces) (N := 6) hx hb hts i_Traces hown hK hP 2 rfl rfl 3 (by decide) (hts _ q69) (fun _ h9 => h9) rfl d_Words_waysOf_21 ?_
        refine lv_iload_n hx hb d_Words_waysOf_24 rfl (lv_at hl 3 rfl) ?_
        refine va_iald hx hb hK hP 0 0 rfl rfl (zI.inn hb2 (by decide)) d_Words_waysOf_25 ?_
        refine lv_topi (fun v_572 ev_572 => ?_)
        obtain rfl : v_3 = v_572 := ev_3.trans ev_572.symm
        refine lv_icmp_ge (tgt := 47) hx hb d_Words_waysOf_26 (by decide) (fun hc_573 => ?_) (fun hc_573 => ?_)
        · have _nhc_573 := hc_573
          have ni_574 := (fa_le _ _).mp hc_573
          rw [li_3] at ni_574
          have hv_575 : zI v_3 3 3 := zI.le_l hv_564 zc_3 hc_573 (by decide)
          refine lv_iconst (v := 0) hx hb d_Words_waysOf_47 (by decide) ?_
          refine lv_istore (lv' := [(4, .int 0), (0, .ref b0), (1, .ref b1), (2, .int b2), (3, .ref b3)]) hx hb d_Words_waysOf_48 hl (by decide) rfl (fun ls hl => ?_)
          refine lv_iconst (v := 0) hx hb d_Words_waysOf_50 (by decide) ?_
          refine lv_istore (lv' := [(5, .int 0), (4, .int 0), (0, .ref b0), (1, .ref b1), (2, .int b2), (3, .ref b3)]) hx hb d_Words_waysOf_51 hl (by decide) rfl (fun ls hl => ?_)
          suffices key : ∀ (k_734 : Nat) (y_735 : Int32) (y_736 : Int32) (H : Heap) (locs : List Loc) (ls : Array Slot), (zI y_735 0 241) → (zI y_736 (-2147483648) 1000000) → (241 : Int) - y_735.toInt < (k_734 : Int) → va_P G.1 classes [(b17, .inl (G.2 0, 20, .inl b20)), (b27, .inl (G.2 0, 241, .inl b37)), (b1, .inr (2, [.int b14, .int b15, .int b16, .ref b17, .ref b18, .ref b19])), (b18, .inl (G.2 0, 240, .inl b21)), (b0, .inr (7, [.ref b4, .ref b5, .ref b6, .ref b7, .ref b8, .ref b9, .ref x_568, .ref x_569])), (x_568, .inl (G.2 0, 241, .inl f_570)), (x_569, .inl (G.2 0, 241, .inl f_571)), (b3, .inr (5, [.int b22, .int b23, .ref b24, .ref b25, .ref b26, .ref b27, .ref b28, .ref b29, .int b30, .ref b31, .ref b32, .ref b33, .ref b34, .ref b35, .ref b36])), (b31, .inl (G.2 0, 240, .inl b38))] H → va_D A [(b17, .inl (G.2 0, 20, .inl b20)), (b27, .inl (G.2 0, 241, .inl b37)), (b1, .inr (2, [.int b14, .int b15, .int b16, .ref b17, .ref b18, .ref b19])), (b18, .inl (G.2 0, 240, .inl b21)), (b0, .inr (7, [.ref b4, .ref b5, .ref b6, .ref b7, .ref b8, .ref b9, .ref x_568, .ref x_569])), (x_568, .inl (G.2 0, 241, .inl f_570)), (x_569, .inl (G.2 0, 241, .inl f_571)), (b3, .inr (5, [.int b22, .int b23, .ref b24, .ref b25, .ref b26, .ref b27, .ref b28, .ref b29, .int b30, .ref b31, .ref b32, .ref b33, .ref b34, .ref b35, .ref b36])), (b31, .inl (G.2 0, 240, .inl b38))] → va_S A s.heap H locs → lv_has ls 6 [(5, .int y_735), (4, .int y_736), (0, .ref b0), (1, .ref b1), (2, .int b2), (3, .ref b3)] → W p l e m_s1_Words_waysOf s m ([.ref b0, .ref b1, .int b2, .ref b3] : List Value).toArray below meth c H locs 0 0 (MQ below (zQ G (fun v w => ∃ (e0 : Int32), ∃ (e1 : Nat), ∃ (e2 : Nat), ∃ (e3 : Nat → Int32), ∃ (e4 : Nat → Int32), v = some (.int e0) ∧ w = [(b0, .inr (7, [.ref b4, .ref b5, .ref b6, .ref b7, .ref b8, .ref b9, .ref e1, .ref e2])), (e1, .inl (G.2 0, 241, .inl e3)), (e2, .inl (G.2 0, 241, .inl e4)), (b1, .inr (2, [.int b14, .int b15, .int b16, .ref b17, .ref b18, .ref b19])), (b17, .inl (G.2 0, 20, .inl b20)), (b18, .inl (G.2 0, 240, .inl b21)), (b3, .inr (5, [.int b22, .int b23, .ref b24, .ref b25, .ref b26, .ref b27, .ref b28, .ref b29, .int b30, .ref b31, .ref b32, .ref b33, .ref b34, .ref b35, .ref b36])), (b27, .inl (G.2 0, 241, .inl b37)), (b31, .inl (G.2 0, 240, .inl b38))] ∧ (zI e0 (-2147483648) 1000000)) A) ([.ref b0, .ref b1, .int b2, .ref b3] : List Value).toArray s m_s1_Words_waysOf.cells m_s1_Words_waysOf.slots A) (F0 m 53 ls []) by
            exact key 242 (0) (0) _ _ _ (zI.wk (l' := 0) (h' := 241) zc_0 (by decide)) (zI.wk (l' := (-2147483648)) (h' := 1000000) zc_0 (by decide)) (zm_upi (zI.wk (l' := 0) (h' := 241) zc_0 (by decide)) (by decide)) hP hD hS (lv_sub hl [0, 1, 2, 3, 4, 5] rfl)
          intro k_734
          induction k_734 with
          | zero =>
            intro y_735 y_736 H locs ls hy_735 hy_736 hmk_734 hP hD hS hl
            exact (zm_up0 hy_735 hmk_734).elim
          | succ k_734 ihk_734 =>
            intro y_735 y_736 H locs ls hy_735 hy_736 hmk_734 hP hD hS hl
            refine lv_iload hx hb d_Words_waysOf_53 (lv_at hl 0 rfl) ?_
            refine lv_aload_n hx hb d_Words_waysOf_55 rfl (lv_at hl 5 rfl) ?_
            refine va_get (D := G.1) (ci := 5) (v := .int b23) (C := R_Machine) (T := F_Machine) (N := 15) hx hb hts i_Machine hown hK hP 7 rfl rfl 1 (by decide) (hts _ q166) (fun _ h9 => h9) rfl d_Words_waysOf_56 ?_
            refine lv_icmp_ge (tgt := 95) hx hb d_Words_waysOf_59 (by decide) (fun hc_737 => ?_) (fun hc_737 => ?_)
            · have _nhc_737 := hc_737
              have ni_738 := (fa_le _ _).mp hc_737
              refine lv_iload hx hb d_Words_waysOf_95 (lv_at hl 1 rfl) ?_
              exact z_iret hx hb hr hlocks (hP.sub [4, 5, 6, 2, 0, 3, 7, 1, 8] rfl) (hD.sub [4, 5, 6, 2, 0, 3, 7, 1, 8] (by decide) rfl) hS (Nat.le_of_ble_eq_true rfl) (Nat.le_of_ble_eq_true rfl) d_Words_waysOf_97 ⟨y_736, x_568, x_569, f_570, f_571, rfl, rfl, hy_736⟩
            · have _nhc_737 := hc_737
              have ni_739 := (fa_lt _ _).mp (zi_nle hc_737)
              have hv_740 : zI y_735 0 240 := zI.lt_l hy_735 hb23 (zi_nle hc_737) (by decide)
              have hv_741 : zI b23 1 241 := zI.lt_r hy_735 hb23 (zi_nle hc_737) (by decide)
              refine lv_aload_n hx hb d_Words_waysOf_62 rfl (lv_at hl 5 rfl) ?_
              refine va_get (D := G.1) (ci := 5) (v := .ref b27) (C := R_Machine) (T := F_Machine) (N := 15) hx hb hts i_Machine hown hK hP 7 rfl rfl 5 (by decide) (hts _ q177) (fun _ h9 => h9) rfl d_Words_waysOf_63 ?_
              refine lv_iload hx hb d_Words_waysOf_66 (lv_at hl 0 rfl) ?_
              refine va_iald hx hb hK hP 1 0 rfl rfl (zI.inn hv_740 (by decide)) d_Words_waysOf_68 ?_
              refine lv_topi (fun v_742 ev_742 => ?_)
              refine lv_if_le (tgt := 89) hx hb d_Words_waysOf_69 (by decide) (fun hc_743 => ?_) (fun hc_743 => ?_)
              · have _nhc_743 := hc_743
                have ni_744 := (fa_le _ _).mp hc_743
                rw [li_0] at ni_744
                have hv_745 : zI v_742 (-2147483648) 0 := zI.le_l (zI_all v_742) zc_0 hc_743 (by decide)
                obtain ⟨v_746, ev_746⟩ : ∃ z : Int32, z = y_735 + 1 := ⟨_, rfl⟩
                obtain ⟨qv_746, hv_746⟩ := zI_add (l := 1) (h := 241) hv_740 zc_1 ev_746 (by decide)
                rw [li_1] at qv_746
                refine lv_iinc (v := v_746) (lv' := [(5, .int v_746), (4, .int y_736), (0, .ref b0), (1, .ref b1), (2, .int b2), (3, .ref b3)]) hx hb d_Words_waysOf_89 hl (k := 0) rfl (by rw [ev_746]; rfl) (by decide) rfl (fun ls hl => ?_)
                refine lv_goto (tgt := 53) hx hb d_Words_waysOf_92 (by decide) ?_
                exact ihk_734 (v_746) (y_736) _ _ _ (zI.wk (l' := 0) (h' := 241) hv_746 (by decide)) hy_736 (zm_up qv_746 hmk_734 (by decide)) hP hD hS (lv_sub hl [0, 1, 2, 3, 4, 5] rfl)
              · have _nhc_743 := hc_743
                have ni_747 := (fa_lt _ _).mp (zi_nle hc_743)
                rw [li_0] at ni_747
                have hv_748 : zI v_742 1 2147483647 := zI.lt_r zc_0 (zI_all v_742) (zi_nle hc_743) (by decide)
                refine lv_iload hx hb d_Words_waysOf_72 (lv_at hl 1 rfl) ?_
                refine lv_aload_n hx hb d_Words_waysOf_74 rfl (lv_at hl 2 rfl) ?_
                refine va_get (D := G.1) (ci := 7) (v := .ref x_568) (C := R_Words) (T := F_Words) (N := 8) hx hb hts i_Words hown hK hP 4 rfl rfl 6 (by decide) (hts _ q272) (fun _ h9 => h9) rfl d_Words_waysOf_75 ?_
                refine lv_iload hx hb d_Words_waysOf_78 (lv_at hl 0 rfl) ?_
                refine va_iald hx hb hK hP 5 0 rfl rfl (zI.inn hv_740 (by decide)) d_Words_waysOf_80 ?_
                refine lv_topi (fun v_749 ev_749 => ?_)
                refine lv_iadd hx hb d_Words_waysOf_81 ?_
                refine lv_topi (fun v_750 ev_750 => ?_)
                refine lv_ldc hx hb hown (hts _ q813) d_Words_waysOf_82 ?_
                refine va_mmin hx hb (hml.trans hl.1.symm) hown (hts _ q814) (hts _ q592) (hts _ q20) (hts _ q593) (Nat.le_of_ble_eq_true rfl) (Nat.le_of_ble_eq_true rfl) (Nat.le_of_ble_eq_true rfl) (Nat.le_of_ble_eq_true rfl) d_Words_waysOf_84 ?_
                refine lv_topi (fun v_751 ev_751 => ?_)
                have hv_751 := zI_min (l := (-2147483648)) (h := 1000000) (zI_all v_750) zc_1000000 ev_751 (by decide)
                refine lv_istore (lv' := [(4, .int v_751), (5, .int y_735), (0, .ref b0), (1, .ref b1), (2, .int b2), (3, .ref b3)]) hx hb d_Words_waysOf_87 hl (by decide) rfl (fun ls hl => ?_)
                obtain ⟨v_752, ev_752⟩ : ∃ z : Int32, z = y_735 + 1 := ⟨_, rfl⟩
                obtain ⟨qv_752, hv_752⟩ := zI_add (l := 1) (h := 241) hv_740 zc_1 ev_752 (by decide)
                rw [li_1] at qv_752
                refine lv_iinc (v := v_752) (lv' := [(5, .int v_752), (4, .int v_751), (0, .ref b0), (1, .ref b1), (2, .int b2), (3, .ref b3)]) hx hb d_Words_waysOf_89 hl (k := 1) rfl (by rw [ev_752]; rfl) (by decide) rfl (fun ls hl => ?_)
                refine lv_goto (tgt := 53) hx hb d_Words_waysOf_92 (by decide) ?_
                exact ihk_734 (v_752) (v_751) _ _ _ (zI.wk (l' := 0) (h' := 241) hv_752 (by decide)) hv_751 (zm_up qv_752 hmk_734 (by decide)) hP hD hS (lv_sub hl [0, 1, 2, 3, 4, 5] rfl)
        · have _nhc_573 := hc_573
          have ni_753 := (fa_lt _ _).mp (zi_nle hc_573)
          rw [li_3] at ni_753
          have hv_754 : zI v_3 4 12 := zI.lt_r zc_3 hv_564 (zi_nle hc_573) (by decide)
          refine lv_aload_n hx hb d_Words_waysOf_29 rfl (lv_at hl 1 rfl) ?_
          refine lv_aload_n hx hb d_Words_waysOf_30 rfl (lv_at hl 4 rfl) ?_
          refine lv_aload_n hx hb d_Words_waysOf_31 rfl (lv_at hl 2 rfl) ?_
          refine lv_iload_n hx hb d_Words_waysOf_32 rfl (lv_at hl 3 rfl) ?_
          refine lv_iload hx hb d_Words_waysOf_33 (lv_at hl 0 rfl) ?_
          refine z_callV (index := 99) (As := [.int b2, .int 3]) (rest := [.ref b3, .ref b0]) (wr := [(b17, .inl (G.2 0, 20, .inl b20)), (b27, .inl (G.2 0, 241, .inl b37)), (b0, .inr (7, [.ref b4, .ref b5, .ref b6, .ref b7, .ref b8, .ref b9, .ref x_568, .ref x_569])), (x_568, .inl (G.2 0, 241, .inl f_570)), (x_569, .inl (G.2 0, 241, .inl f_571)), (b3, .inr (5, [.int b22, .int b23, .ref b24, .ref b25, .ref b26, .ref b27, .ref b28, .ref b29, .int b30, .ref b31, .ref b32, .ref b33, .ref b34, .ref b35, .ref b36])), (b31, .inl (G.2 0, 240, .inl b38))]) Z (s1_Traces_letterAt l G (b1) (b2) (3) (b14) (b15) (b16) (b17) (b18) (b19) (b21) hb2 (zI.wk (l' := 0) (h' := 11) zc_3 (by decide)) hb14 hb15 hb16 hb21) hl.1 q805 q580 q581 q3 q582 ⟨by decide, by decide, by show _ = some 2; decide +kernel⟩ ⟨Nat.le_of_ble_eq_true rfl, Nat.le_of_ble_eq_true rfl⟩ ⟨Nat.le_of_ble_eq_true rfl, Nat.le_of_ble_eq_true rfl⟩ rfl (Nat.le_of_ble_eq_true rfl) d_Words_waysOf_35 hP hD hS hA 2 2 rfl rfl rfl [2, 3] [0, 1, 4, 5, 6, 7, 8] rfl rfl rfl rfl (by decide) (fun v w1 H locs hw_755 hP hD hS => ?_)
          obtain ⟨x_756, rfl, rfl, hx_756⟩ := hw_755
          have hP : va_P G.1 classes [(b17, .inl (G.2 0, 20, .inl b20)), (b27, .inl (G.2 0, 241, .inl b37)), (b0, .inr (7, [.ref b4, .ref b5, .ref b6, .ref b7, .ref b8, .ref b9, .ref x_568, .ref x_569])), (x_568, .inl (G.2 0, 241, .inl f_570)), (x_569, .inl (G.2 0, 241, .inl f_571)), (b3, .inr (5, [.int b22, .int b23, .ref b24, .ref b25, .ref b26, .ref b27, .ref b28, .ref b29, .int b30, .ref b31, .ref b32, .ref b33, .ref b34, .ref b35, .ref b36])), (b31, .inl (G.2 0, 240, .inl b38)), (b1, .inr (2, [.int b14, .int b15, .int b16, .ref b17, .ref b18, .ref b19])), (b18, .inl (G.2 0, 240, .inl b21))] H := hP
          have hD := z_tie hP hD rfl
          refine W.widen (k := 0) (n := 0) (Nat.le_of_ble_eq_true rfl) (Nat.le_of_ble_eq_true rfl) ?_
          refine z_callV (index := 103) (As := [.ref b3, .int x_756]) (rest := []) (wr := [(b17, .inl (G.2 0, 20, .inl b20)), (b27, .inl (G.2 0, 241, .inl b37)), (b1, .inr (2, [.int b14, .int b15, .int b16, .ref b17, .ref b18, .ref b19])), (b18, .inl (G.2 0, 240, .inl b21))]) Z (s2_Words_stepWays l G (b0) (b3) (x_756) (b4) (b5) (b6) (b7) (b8) (b9) (x_568) (x_569) (f_570) (f_571) (b22) (b23) (b24) (b25) (b26) (b27) (b28) (b29) (b30) (b31) (b32) (b33) (b34) (b35) (b36) (b38) hx_756 hb22 hb23 hb30 hb38) hl.1 q806 q808 qs22 q8 q809 ⟨by decide, by decide, by show _ = some 2; decide +kernel⟩ ⟨Nat.le_of_ble_eq_true rfl, Nat.le_of_ble_eq_true rfl⟩ ⟨Nat.le_of_ble_eq_true rfl, Nat.le_of_ble_eq_true rfl⟩ rfl (Nat.le_of_ble_eq_true rfl) d_Words_waysOf_38 hP hD hS hA 2 7 rfl rfl rfl [2, 3, 4, 5, 6] [0, 1, 7, 8] rfl rfl rfl rfl (by decide) (fun v w1 H locs hw_757 hP hD hS => ?_)
          obtain ⟨x_758, x_759, f_760, f_761, rfl, rfl⟩ := hw_757
          have hP : va_P G.1 classes [(b17, .inl (G.2 0, 20, .inl b20)), (b27, .inl (G.2 0, 241, .inl b37)), (b1, .inr (2, [.int b14, .int b15, .int b16, .ref b17, .ref b18, .ref b19])), (b18, .inl (G.2 0, 240, .inl b21)), (b0, .inr (7, [.ref b4, .ref b5, .ref b6, .ref b7, .ref b8, .ref b9, .ref x_758, .ref x_759])), (x_758, .inl (G.2 0, 241, .inl f_760)), (x_759, .inl (G.2 0, 241, .inl f_761)), (b3, .inr (5, [.int b22, .int b23, .ref b24, .ref b25, .ref b26, .ref b27, .ref b28, .ref b29, .int b30, .ref b31, .ref b32, .ref b33, .ref b34, .ref b35, .ref b36])), (b31, .inl (G.2 0, 240, .inl b38))] H := hP
          have hD := z_tie hP hD rfl
          refine W.widen (k := 0) (n := 0) (Nat.le_of_ble_eq_true rfl) (Nat.le_of_ble_eq_true rfl) ?_
          refine lv_iinc (v := 4) (lv' := [(4, .int 4), (0, .ref b0), (1, .ref b1), (2, .int b2), (3, .ref b3)]) hx hb d_Words_waysOf_41 hl (k := 0) rfl (by decide +kernel) (by decide) rfl (fun ls hl => ?_)
          refine lv_goto (tgt := 18) hx hb d_Words_waysOf_44 (by decide) ?_
          refine lv_iload hx hb d_Words_waysOf_18 (lv_at hl 0 rfl) ?_
          refine lv_aload_n hx hb d_Words_waysOf_20 rfl (lv_at hl 2 rfl) ?_
          refine va_get (D := G.1) (ci := 2) (v := .ref b17) (C := R_Traces) (T := F_Traces) (N := 6) hx hb hts i_Traces hown hK hP 2 rfl rfl 3 (by decide) (hts _ q69) (fun _ h9 => h9) rfl d_Words_waysOf_21 ?_
          refine lv_iload_n hx hb d_Words_waysOf_24 rfl (lv_at hl 3 rfl) ?_
          refine va_iald hx hb hK hP 0 0 rfl rfl (zI.inn hb2 (by decide)) d_Words_waysOf_25 ?_
          refine lv_topi (fun v_762 ev_762 => ?_)
          obtain rfl : v_3 = v_762 := ev_3.trans ev_762.symm
          refine lv_icmp_ge (tgt := 47) hx hb d_Words_waysOf_26 (by decide) (fun hc_763 => ?_) (fun hc_763 => ?_)
          · have _nhc_763 := hc_763
            have ni_764 := (fa_le _ _).mp hc_763
            rw [li_4] at ni_764
            have hv_765 : zI v_3 4 4 := zI.le_l hv_754 zc_4 hc_763 (by decide)
            refine lv_iconst (v := 0) hx hb d_Words_waysOf_47 (by decide) ?_
            refine lv_istore (lv' := [(4, .int 0), (0, .ref b0), (1, .ref b1), (2, .int b2), (3, .ref b3)]) hx hb d_Words_waysOf_48 hl (by decide) rfl (fun ls hl => ?_)
            refine lv_iconst (v := 0) hx hb d_Words_waysOf_50 (by decide) ?_
            refine lv_istore (lv' := [(5, .int 0), (4, .int 0), (0, .ref b0), (1, .ref b1), (2, .int b2), (3, .ref b3)]) hx hb d_Words_waysOf_51 hl (by decide) rfl (fun ls hl => ?_)
            suffices key : ∀ (k_924 : Nat) (y_925 : Int32) (y_926 : Int32) (H : Heap) (locs : List Loc) (ls : Array Slot), (zI y_925 0 241) → (zI y_926 (-2147483648) 1000000) → (241 : Int) - y_925.toInt < (k_924 : Int) → va_P G.1 classes [(b17, .inl (G.2 0, 20, .inl b20)), (b27, .inl (G.2 0, 241, .inl b37)), (b1, .inr (2, [.int b14, .int b15, .int b16, .ref b17, .ref b18, .ref b19])), (b18, .inl (G.2 0, 240, .inl b21)), (b0, .inr (7, [.ref b4, .ref b5, .ref b6, .ref b7, .ref b8, .ref b9, .ref x_758, .ref x_759])), (x_758, .inl (G.2 0, 241, .inl f_760)), (x_759, .inl (G.2 0, 241, .inl f_761)), (b3, .inr (5, [.int b22, .int b23, .ref b24, .ref b25, .ref b26, .ref b27, .ref b28, .ref b29, .int b30, .ref b31, .ref b32, .ref b33, .ref b34, .ref b35, .ref b36])), (b31, .inl (G.2 0, 240, .inl b38))] H → va_D A [(b17, .inl (G.2 0, 20, .inl b20)), (b27, .inl (G.2 0, 241, .inl b37)), (b1, .inr (2, [.int b14, .int b15, .int b16, .ref b17, .ref b18, .ref b19])), (b18, .inl (G.2 0, 240, .inl b21)), (b0, .inr (7, [.ref b4, .ref b5, .ref b6, .ref b7, .ref b8, .ref b9, .ref x_758, .ref x_759])), (x_758, .inl (G.2 0, 241, .inl f_760)), (x_759, .inl (G.2 0, 241, .inl f_761)), (b3, .inr (5, [.int b22, .int b23, .ref b24, .ref b25, .ref b26, .ref b27, .ref b28, .ref b29, .int b30, .ref b31, .ref b32, .ref b33, .ref b34, .ref b35, .ref b36])), (b31, .inl (G.2 0, 240, .inl b38))] → va_S A s.heap H locs → lv_has ls 6 [(5, .int y_925), (4, .int y_926), (0, .ref b0), (1, .ref b1), (2, .int b2), (3, .ref b3)] → W p l e m_s1_Words_waysOf s m ([.ref b0, .ref b1, .int b2, .ref b3] : List Value).toArray below meth c H locs 0 0 (MQ below (zQ G (fun v w => ∃ (e0 : Int32), ∃ (e1 : Nat), ∃ (e2 : Nat), ∃ (e3 : Nat → Int32), ∃ (e4 : Nat → Int32), v = some (.int e0) ∧ w = [(b0, .inr (7, [.ref b4, .ref b5, .ref b6, .ref b7, .ref b8, .ref b9, .ref e1, .ref e2])), (e1, .inl (G.2 0, 241, .inl e3)), (e2, .inl (G.2 0, 241, .inl e4)), (b1, .inr (2, [.int b14, .int b15, .int b16, .ref b17, .ref b18, .ref b19])), (b17, .inl (G.2 0, 20, .inl b20)), (b18, .inl (G.2 0, 240, .inl b21)), (b3, .inr (5, [.int b22, .int b23, .ref b24, .ref b25, .ref b26, .ref b27, .ref b28, .ref b29, .int b30, .ref b31, .ref b32, .ref b33, .ref b34, .ref b35, .ref b36])), (b27, .inl (G.2 0, 241, .inl b37)), (b31, .inl (G.2 0, 240, .inl b38))] ∧ (zI e0 (-2147483648) 1000000)) A) ([.ref b0, .ref b1, .int b2, .ref b3] : List Value).toArray s m_s1_Words_waysOf.cells m_s1_Words_waysOf.slots A) (F0 m 53 ls []) by
              exact key 242 (0) (0) _ _ _ (zI.wk (l' := 0) (h' := 241) zc_0 (by decide)) (zI.wk (l' := (-2147483648)) (h' := 1000000) zc_0 (by decide)) (zm_upi (zI.wk (l' := 0) (h' := 241) zc_0 (by decide)) (by decide)) hP hD hS (lv_sub hl [0, 1, 2, 3, 4, 5] rfl)
            intro k_924
            induction k_924 with
            | zero =>
              intro y_925 y_926 H locs ls hy_925 hy_926 hmk_924 hP hD hS hl
              exact (zm_up0 hy_925 hmk_924).elim
            | succ k_924 ihk_924 =>
              intro y_925 y_926 H locs ls hy_925 hy_926 hmk_924 hP hD hS hl
              refine lv_iload hx hb d_Words_waysOf_53 (lv_at hl 0 rfl) ?_
              refine lv_aload_n hx hb d_Words_waysOf_55 rfl (lv_at hl 5 rfl) ?_
              refine va_get (D := G.1) (ci := 5) (v := .int b23) (C := R_Machine) (T := F_Machine) (N := 15) hx hb hts i_Machine hown hK hP 7 rfl rfl 1 (by decide) (hts _ q166) (fun _ h9 => h9) rfl d_Words_waysOf_56 ?_
              refine lv_icmp_ge (tgt := 95) hx hb d_Words_waysOf_59 (by decide) (fun hc_927 => ?_) (fun hc_927 => ?_)
              · have _nhc_927 := hc_927
                have ni_928 := (fa_le _ _).mp hc_927
                refine lv_iload hx hb d_Words_waysOf_95 (lv_at hl 1 rfl) ?_
                exact z_iret hx hb hr hlocks (hP.sub [4, 5, 6, 2, 0, 3, 7, 1, 8] rfl) (hD.sub [4, 5, 6, 2, 0, 3, 7, 1, 8] (by decide) rfl) hS (Nat.le_of_ble_eq_true rfl) (Nat.le_of_ble_eq_true rfl) d_Words_waysOf_97 ⟨y_926, x_758, x_759, f_760, f_761, rfl, rfl, hy_926⟩
              · have _nhc_927 := hc_927
                have ni_929 := (fa_lt _ _).mp (zi_nle hc_927)
                have hv_930 : zI y_925 0 240 := zI.lt_l hy_925 hb23 (zi_nle hc_927) (by decide)
                have hv_931 : zI b23 1 241 := zI.lt_r hy_925 hb23 (zi_nle hc_927) (by decide)
                refine lv_aload_n hx hb d_Words_waysOf_62 rfl (lv_at hl 5 rfl) ?_
                refine va_get (D := G.1) (ci := 5) (v := .ref b27) (C := R_Machine) (T := F_Machine) (N := 15) hx hb hts i_Machine hown hK hP 7 rfl rfl 5 (by decide) (hts _ q177) (fun _ h9 => h9) rfl d_Words_waysOf_63 ?_
                refine lv_iload hx hb d_Words_waysOf_66 (lv_at hl 0 rfl) ?_
                refine va_iald hx hb hK hP 1 0 rfl rfl (zI.inn hv_930 (by decide)) d_Words_waysOf_68 ?_
                refine lv_topi (fun v_932 ev_932 => ?_)
                refine lv_if_le (tgt := 89) hx hb d_Words_waysOf_69 (by decide) (fun hc_933 => ?_) (fun hc_933 => ?_)
                · have _nhc_933 := hc_933
                  have ni_934 := (fa_le _ _).mp hc_933
                  rw [li_0] at ni_934
                  have hv_935 : zI v_932 (-2147483648) 0 := zI.le_l (zI_all v_932) zc_0 hc_933 (by decide)
                  obtain ⟨v_936, ev_936⟩ : ∃ z : Int32, z = y_925 + 1 := ⟨_, rfl⟩
                  obtain ⟨qv_936, hv_936⟩ := zI_add (l := 1) (h := 241) hv_930 zc_1 ev_936 (by decide)
                  rw [li_1] at qv_936
                  refine lv_iinc (v := v_936) (lv' := [(5, .int v_936), (4, .int y_926), (0, .ref b0), (1, .ref b1), (2, .int b2), (3, .ref b3)]) hx hb d_Words_waysOf_89 hl (k := 0) rfl (by rw [ev_936]; rfl) (by decide) rfl (fun ls hl => ?_)
                  refine lv_goto (tgt := 53) hx hb d_Words_waysOf_92 (by decide) ?_
                  exact ihk_924 (v_936) (y_926) _ _ _ (zI.wk (l' := 0) (h' := 241) hv_936 (by decide)) hy_926 (zm_up qv_936 hmk_924 (by decide)) hP hD hS (lv_sub hl [0, 1, 2, 3, 4, 5] rfl)
                · have _nhc_933 := hc_933
                  have ni_937 := (fa_lt _ _).mp (zi_nle hc_933)
                  rw [li_0] at ni_937
                  have hv_938 : zI v_932 1 2147483647 := zI.lt_r zc_0 (zI_all v_932) (zi_nle hc_933) (by decide)
                  refine lv_iload hx hb d_Words_waysOf_72 (lv_at hl 1 rfl) ?_
                  refine lv_aload_n hx hb d_Words_waysOf_74 rfl (lv_at hl 2 rfl) ?_
                  refine va_get (D := G.1) (ci := 7) (v := .ref x_758) (C := R_Words) (T := F_Words) (N := 8) hx hb hts i_Words hown hK hP 4 rfl rfl 6 (by decide) (hts _ q272) (fun _ h9 => h9) rfl d_Words_waysOf_75 ?_
                  refine lv_iload hx hb d_Words_waysOf_78 (lv_at hl 0 rfl) ?_
                  refine va_iald hx hb hK hP 5 0 rfl rfl (zI.inn hv_930 (by decide)) d_Words_waysOf_80 ?_
                  refine lv_topi (fun v_939 ev_939 => ?_)
                  refine lv_iadd hx hb d_Words_waysOf_81 ?_
                  refine lv_topi (fun v_940 ev_940 => ?_)
                  refine lv_ldc hx hb hown (hts _ q813) d_Words_waysOf_82 ?_
                  refine va_mmin hx hb (hml.trans hl.1.symm) hown (hts _ q814) (hts _ q592) (hts _ q20) (hts _ q593) (Nat.le_of_ble_eq_true rfl) (Nat.le_of_ble_eq_true rfl) (Nat.le_of_ble_eq_true rfl) (Nat.le_of_ble_eq_true rfl) d_Words_waysOf_84 ?_
                  refine lv_topi (fun v_941 ev_941 => ?_)
                  have hv_941 := zI_min (l := (-2147483648)) (h := 1000000) (zI_all v_940) zc_1000000 ev_941 (by decide)
                  refine lv_istore (lv' := [(4, .int v_941), (5, .int y_925), (0, .ref b0), (1, .ref b1), (2, .int b2), (3, .ref b3)]) hx hb d_Words_waysOf_87 hl (by decide) rfl (fun ls hl => ?_)
                  obtain ⟨v_942, ev_942⟩ : ∃ z : Int32, z = y_925 + 1 := ⟨_, rfl⟩
                  obtain ⟨qv_942, hv_942⟩ := zI_add (l := 1) (h := 241) hv_930 zc_1 ev_942 (by decide)
                  rw [li_1] at qv_942
                  refine lv_iinc (v := v_942) (lv' := [(5, .int v_942), (4, .int v_941), (0, .ref b0), (1, .ref b1), (2, .int b2), (3, .ref b3)]) hx hb d_Words_waysOf_89 hl (k := 1) rfl (by rw [ev_942]; rfl) (by decide) rfl (fun ls hl => ?_)
                  refine lv_goto (tgt := 53) hx hb d_Words_waysOf_92 (by decide) ?_
                  exact ihk_924 (v_942) (v_941) _ _ _ (zI.wk (l' := 0) (h' := 241) hv_942 (by decide)) hv_941 (zm_up qv_942 hmk_924 (by decide)) hP hD hS (lv_sub hl [0, 1, 2, 3, 4, 5] rfl)
          · have _nhc_763 := hc_763
            have ni_943 := (fa_lt _ _).mp (zi_nle hc_763)
            rw [li_4] at ni_943
            have hv_944 : zI v_3 5 12 := zI.lt_r zc_4 hv_754 (zi_nle hc_763) (by decide)
            refine lv_aload_n hx hb d_Words_waysOf_29 rfl (lv_at hl 1 rfl) ?_
            refine lv_aload_n hx hb d_Words_waysOf_30 rfl (lv_at hl 4 rfl) ?_
            refine lv_aload_n hx hb d_Words_waysOf_31 rfl (lv_at hl 2 rfl) ?_
            refine lv_iload_n hx hb d_Words_waysOf_32 rfl (lv_at hl 3 rfl) ?_
            refine lv_iload hx hb d_Words_waysOf_33 (lv_at hl 0 rfl) ?_
            refine z_callV (index := 99) (As := [.int b2, .int 4]) (rest := [.ref b3, .ref b0]) (wr := [(b17, .inl (G.2 0, 20, .inl b20)), (b27, .inl (G.2 0, 241, .inl b37)), (b0, .inr (7, [.ref b4, .ref b5, .ref b6, .ref b7, .ref b8, .ref b9, .ref x_758, .ref x_759])), (x_758, .inl (G.2 0, 241, .inl f_760)), (x_759, .inl (G.2 0, 241, .inl f_761)), (b3, .inr (5, [.int b22, .int b23, .ref b24, .ref b25, .ref b26, .ref b27, .ref b28, .ref b29, .int b30, .ref b31, .ref b32, .ref b33, .ref b34, .ref b35, .ref b36])), (b31, .inl (G.2 0, 240, .inl b38))]) Z (s1_Traces_letterAt l G (b1) (b2) (4) (b14) (b15) (b16) (b17) (b18) (b19) (b21) hb2 (zI.wk (l' := 0) (h' := 11) zc_4 (by decide)) hb14 hb15 hb16 hb21) hl.1 q805 q580 q581 q3 q582 ⟨by decide, by decide, by show _ = some 2; decide +kernel⟩ ⟨Nat.le_of_ble_eq_true rfl, Nat.le_of_ble_eq_true rfl⟩ ⟨Nat.le_of_ble_eq_true rfl, Nat.le_of_ble_eq_true rfl⟩ rfl (Nat.le_of_ble_eq_true rfl) d_Words_waysOf_35 hP hD hS hA 2 2 rfl rfl rfl [2, 3] [0, 1, 4, 5, 6, 7, 8] rfl rfl rfl rfl (by decide) (fun v w1 H locs hw_945 hP hD hS => ?_)
            obtain ⟨x_946, rfl, rfl, hx_946⟩ := hw_945
            have hP : va_P G.1 classes [(b17, .inl (G.2 0, 20, .inl b20)), (b27, .inl (G.2 0, 241, .inl b37)), (b0, .inr (7, [.ref b4, .ref b5, .ref b6, .ref b7, .ref b8, .ref b9, .ref x_758, .ref x_759])), (x_758, .inl (G.2 0, 241, .inl f_760)), (x_759, .inl (G.2 0, 241, .inl f_761)), (b3, .inr (5, [.int b22, .int b23, .ref b24, .ref b25, .ref b26, .ref b27, .ref b28, .ref b29, .int b30, .ref b31, .ref b32, .ref b33, .ref b34, .ref b35, .ref b36])), (b31, .inl (G.2 0, 240, .inl b38)), (b1, .inr (2, [.int b14, .int b15, .int b16, .ref b17, .ref b18, .ref b19])), (b18, .inl (G.2 0, 240, .inl b21))] H := hP
            have hD := z_tie hP hD rfl
            refine W.widen (k := 0) (n := 0) (Nat.le_of_ble_eq_true rfl) (Nat.le_of_ble_eq_true rfl) ?_
            refine z_callV (index := 103) (As := [.ref b3, .int x_946]) (rest := []) (wr := [(b17, .inl (G.2 0, 20, .inl b20)), (b27, .inl (G.2 0, 241, .inl b37)), (b1, .inr (2, [.int b14, .int b15, .int b16, .ref b17, .ref b18, .ref b19])), (b18, .inl (G.2 0, 240, .inl b21))]) Z (s2_Words_stepWays l G (b0) (b3) (x_946) (b4) (b5) (b6) (b7) (b8) (b9) (x_758) (x_759) (f_760) (f_761) (b22) (b23) (b24) (b25) (b26) (b27) (b28) (b29) (b30) (b31) (b32) (b33) (b34) (b35) (b36) (b38) hx_946 hb22 hb23 hb30 hb38) hl.1 q806 q808 qs22 q8 q809 ⟨by decide, by decide, by show _ = some 2; decide +kernel⟩ ⟨Nat.le_of_ble_eq_true rfl, Nat.le_of_ble_eq_true rfl⟩ ⟨Nat.le_of_ble_eq_true rfl, Nat.le_of_ble_eq_true rfl⟩ rfl (Nat.le_of_ble_eq_true rfl) d_Words_waysOf_38 hP hD hS hA 2 7 rfl rfl rfl [2, 3, 4, 5, 6] [0, 1, 7, 8] rfl rfl rfl rfl (by decide) (fun v w1 H locs hw_947 hP hD hS => ?_)
            obtain ⟨x_948, x_949, f_950, f_951, rfl, rfl⟩ := hw_947
            have hP : va_P G.1 classes [(b17, .inl (G.2 0, 20, .inl b20)), (b27, .inl (G.2 0, 241, .inl b37)), (b1, .inr (2, [.int b14, .int b15, .int b16, .ref b17, .ref b18, .ref b19])), (b18, .inl (G.2 0, 240, .inl b21)), (b0, .inr (7, [.ref b4, .ref b5, .ref b6, .ref b7, .ref b8, .ref b9, .ref x_948, .ref x_949])), (x_948, .inl (G.2 0, 241, .inl f_950)), (x_949, .inl (G.2 0, 241, .inl f_951)), (b3, .inr (5, [.int b22, .int b23, .ref b24, .ref b25, .ref b26, .ref b27, .ref b28, .ref b29, .int b30, .ref b31, .ref b32, .ref b33, .ref b34, .ref b35, .ref b36])), (b31, .inl (G.2 0, 240, .inl b38))] H := hP
            have hD := z_tie hP hD rfl
            refine W.widen (k := 0) (n := 0) (Nat.le_of_ble_eq_true rfl) (Nat.le_of_ble_eq_true rfl) ?_
            refine lv_iinc (v := 5) (lv' := [(4, .int 5), (0, .ref b0), (1, .ref b1), (2, .int b2), (3, .ref b3)]) hx hb d_Words_waysOf_41 hl (k := 0) rfl (by decide +kernel) (by decide) rfl (fun ls hl => ?_)
            refine lv_goto (tgt := 18) hx hb d_Words_waysOf_44 (by decide) ?_
            refine lv_iload hx hb d_Words_waysOf_18 (lv_at hl 0 rfl) ?_
            refine lv_aload_n hx hb d_Words_waysOf_20 rfl (lv_at hl 2 rfl) ?_
            refine va_get (D := G.1) (ci := 2) (v := .ref b17) (C := R_Traces) (T := F_Traces) (N := 6) hx hb hts i_Traces hown hK hP 2 rfl rfl 3 (by decide) (hts _ q69) (fun _ h9 => h9) rfl d_Words_waysOf_21 ?_
            refine lv_iload_n hx hb d_Words_waysOf_24 rfl (lv_at hl 3 rfl) ?_
            refine va_iald hx hb hK hP 0 0 rfl rfl (zI.inn hb2 (by decide)) d_Words_waysOf_25 ?_
            refine lv_topi (fun v_952 ev_952 => ?_)
            obtain rfl : v_3 = v_952 := ev_3.trans ev_952.symm
            refine lv_icmp_ge (tgt := 47) hx hb d_Words_waysOf_26 (by decide) (fun hc_953 => ?_) (fun hc_953 => ?_)
            · have _nhc_953 := hc_953
              have ni_954 := (fa_le _ _).mp hc_953
              rw [li_5] at ni_954
              have hv_955 : zI v_3 5 5 := zI.le_l hv_944 zc_5 hc_953 (by decide)
              refine lv_iconst (v := 0) hx hb d_Words_waysOf_47 (by decide) ?_
              refine lv_istore (lv' := [(4, .int 0), (0, .ref b0), (1, .ref b1), (2, .int b2), (3, .ref b3)]) hx hb d_Words_waysOf_48 hl (by decide) rfl (fun ls hl => ?_)
              refine lv_iconst (v := 0) hx hb d_Words_waysOf_50 (by decide) ?_
              refine lv_istore (lv' := [(5, .int 0), (4, .int 0), (0, .ref b0), (1, .ref b1), (2, .int b2), (3, .ref b3)]) hx hb d_Words_waysOf_51 hl (by decide) rfl (fun ls hl => ?_)
              suffices key : ∀ (k_1114 : Nat) (y_1115 : Int32) (y_1116 : Int32) (H : Heap) (locs : List Loc) (ls : Array Slot), (zI y_1115 0 241) → (zI y_1116 (-2147483648) 1000000) → (241 : Int) - y_1115.toInt < (k_1114 : Int) → va_P G.1 classes [(b17, .inl (G.2 0, 20, .inl b20)), (b27, .inl (G.2 0, 241, .inl b37)), (b1, .inr (2, [.int b14, .int b15, .int b16, .ref b17, .ref b18, .ref b19])), (b18, .inl (G.2 0, 240, .inl b21)), (b0, .inr (7, [.ref b4, .ref b5, .ref b6, .ref b7, .ref b8, .ref b9, .ref x_948, .ref x_949])), (x_948, .inl (G.2 0, 241, .inl f_950)), (x_949, .inl (G.2 0, 241, .inl f_951)), (b3, .inr (5, [.int b22, .int b23, .ref b24, .ref b25, .ref b26, .ref b27, .ref b28, .ref b29, .int b30, .ref b31, .ref b32, .ref b33, .ref b34, .ref b35, .ref b36])), (b31, .inl (G.2 0, 240, .inl b38))] H → va_D A [(b17, .inl (G.2 0, 20, .inl b20)), (b27, .inl (G.2 0, 241, .inl b37)), (b1, .inr (2, [.int b14, .int b15, .int b16, .ref b17, .ref b18, .ref b19])), (b18, .inl (G.2 0, 240, .inl b21)), (b0, .inr (7, [.ref b4, .ref b5, .ref b6, .ref b7, .ref b8, .ref b9, .ref x_948, .ref x_949])), (x_948, .inl (G.2 0, 241, .inl f_950)), (x_949, .inl (G.2 0, 241, .inl f_951)), (b3, .inr (5, [.int b22, .int b23, .ref b24, .ref b25, .ref b26, .ref b27, .ref b28, .ref b29, .int b30, .ref b31, .ref b32, .ref b33, .ref b34, .ref b35, .ref b36])), (b31, .inl (G.2 0, 240, .inl b38))] → va_S A s.heap H locs → lv_has ls 6 [(5, .int y_1115), (4, .int y_1116), (0, .ref b0), (1, .ref b1), (2, .int b2), (3, .ref b3)] → W p l e m_s1_Words_waysOf s m ([.ref b0, .ref b1, .int b2, .ref b3] : List Value).toArray below meth c H locs 0 0 (MQ below (zQ G (fun v w => ∃ (e0 : Int32), ∃ (e1 : Nat), ∃ (e2 : Nat), ∃ (e3 : Nat → Int32), ∃ (e4 : Nat → Int32), v = some (.int e0) ∧ w = [(b0, .inr (7, [.ref b4, .ref b5, .ref b6, .ref b7, .ref b8, .ref b9, .ref e1, .ref e2])), (e1, .inl (G.2 0, 241, .inl e3)), (e2, .inl (G.2 0, 241, .inl e4)), (b1, .inr (2, [.int b14, .int b15, .int b16, .ref b17, .ref b18, .ref b19])), (b17, .inl (G.2 0, 20, .inl b20)), (b18, .inl (G.2 0, 240, .inl b21)), (b3, .inr (5, [.int b22, .int b23, .ref b24, .ref b25, .ref b26, .ref b27, .ref b28, .ref b29, .int b30, .ref b31, .ref b32, .ref b33, .ref b34, .ref b35, .ref b36])), (b27, .inl (G.2 0, 241, .inl b37)), (b31, .inl (G.2 0, 240, .inl b38))] ∧ (zI e0 (-2147483648) 1000000)) A) ([.ref b0, .ref b1, .int b2, .ref b3] : List Value).toArray s m_s1_Words_waysOf.cells m_s1_Words_waysOf.slots A) (F0 m 53 ls []) by
                exact key 242 (0) (0) _ _ _ (zI.wk (l' := 0) (h' := 241) zc_0 (by decide)) (zI.wk (l' := (-2147483648)) (h' := 1000000) zc_0 (by decide)) (zm_upi (zI.wk (l' := 0) (h' := 241) zc_0 (by decide)) (by decide)) hP hD hS (lv_sub hl [0, 1, 2, 3, 4, 5] rfl)
              intro k_1114
              induction k_1114 with
              | zero =>
                intro y_1115 y_1116 H locs ls hy_1115 hy_1116 hmk_1114 hP hD hS hl
                exact (zm_up0 hy_1115 hmk_1114).elim
              | succ k_1114 ihk_1114 =>
                intro y_1115 y_1116 H locs ls hy_1115 hy_1116 hmk_1114 hP hD hS hl
                refine lv_iload hx hb d_Words_waysOf_53 (lv_at hl 0 rfl) ?_
                refine lv_aload_n hx hb d_Words_waysOf_55 rfl (lv_at hl 5 rfl) ?_
                refine va_get (D := G.1) (ci := 5) (v := .int b23) (C := R_Machine) (T := F_Machine) (N := 15) hx hb hts i_Machine hown hK hP 7 rfl rfl 1 (by decide) (hts _ q166) (fun _ h9 => h9) rfl d_Words_waysOf_56 ?_
                refine lv_icmp_ge (tgt := 95) hx hb d_Words_waysOf_59 (by decide) (fun hc_1117 => ?_) (fun hc_1117 => ?_)
                · have _nhc_1117 := hc_1117
                  have ni_1118 := (fa_le _ _).mp hc_1117
                  refine lv_iload hx hb d_Words_waysOf_95 (lv_at hl 1 rfl) ?_
                  exact z_iret hx hb hr hlocks (hP.sub [4, 5, 6, 2, 0, 3, 7, 1, 8] rfl) (hD.sub [4, 5, 6, 2, 0, 3, 7, 1, 8] (by decide) rfl) hS (Nat.le_of_ble_eq_true rfl) (Nat.le_of_ble_eq_true rfl) d_Words_waysOf_97 ⟨y_1116, x_948, x_949, f_950, f_951, rfl, rfl, hy_1116⟩
                · have _nhc_1117 := hc_1117
                  have ni_1119 := (fa_lt _ _).mp (zi_nle hc_1117)
                  have hv_1120 : zI y_1115 0 240 := zI.lt_l hy_1115 hb23 (zi_nle hc_1117) (by decide)
                  have hv_1121 : zI b23 1 241 := zI.lt_r hy_1115 hb23 (zi_nle hc_1117) (by decide)
                  refine lv_aload_n hx hb d_Words_waysOf_62 rfl (lv_at hl 5 rfl) ?_
                  refine va_get (D := G.1) (ci := 5) (v := .ref b27) (C := R_Machine) (T := F_Machine) (N := 15) hx hb hts i_Machine hown hK hP 7 rfl rfl 5 (by decide) (hts _ q177) (fun _ h9 => h9) rfl d_Words_waysOf_63 ?_
                  refine lv_iload hx hb d_Words_waysOf_66 (lv_at hl 0 rfl) ?_
                  refine va_iald hx hb hK hP 1 0 rfl rfl (zI.inn hv_1120 (by decide)) d_Words_waysOf_68 ?_
                  refine lv_topi (fun v_1122 ev_1122 => ?_)
                  refine lv_if_le (tgt := 89) hx hb d_Words_waysOf_69 (by decide) (fun hc_1123 => ?_) (fun hc_1123 => ?_)
                  · have _nhc_1123 := hc_1123
                    have ni_1124 := (fa_le _ _).mp hc_1123
                    rw [li_0] at ni_1124
                    have hv_1125 : zI v_1122 (-2147483648) 0 := zI.le_l (zI_all v_1122) zc_0 hc_1123 (by decide)
                    obtain ⟨v_1126, ev_1126⟩ : ∃ z : Int32, z = y_1115 + 1 := ⟨_, rfl⟩
                    obtain ⟨qv_1126, hv_1126⟩ := zI_add (l := 1) (h := 241) hv_1120 zc_1 ev_1126 (by decide)
                    rw [li_1] at qv_1126
                    refine lv_iinc (v := v_1126) (lv' := [(5, .int v_1126), (4, .int y_1116), (0, .ref b0), (1, .ref b1), (2, .int b2), (3, .ref b3)]) hx hb d_Words_waysOf_89 hl (k := 0) rfl (by rw [ev_1126]; rfl) (by decide) rfl (fun ls hl => ?_)
                    refine lv_goto (tgt := 53) hx hb d_Words_waysOf_92 (by decide) ?_
                    exact ihk_1114 (v_1126) (y_1116) _ _ _ (zI.wk (l' := 0) (h' := 241) hv_1126 (by decide)) hy_1116 (zm_up qv_1126 hmk_1114 (by decide)) hP hD hS (lv_sub hl [0, 1, 2, 3, 4, 5] rfl)
                  · have _nhc_1123 := hc_1123
                    have ni_1127 := (fa_lt _ _).mp (zi_nle hc_1123)
                    rw [li_0] at ni_1127
                    have hv_1128 : zI v_1122 1 2147483647 := zI.lt_r zc_0 (zI_all v_1122) (zi_nle hc_1123) (by decide)
                    refine lv_iload hx hb d_Words_waysOf_72 (lv_at hl 1 rfl) ?_
                    refine lv_aload_n hx hb d_Words_waysOf_74 rfl (lv_at hl 2 rfl) ?_
                    refine va_get (D := G.1) (ci := 7) (v := .ref x_948) (C := R_Words) (T := F_Words) (N := 8) hx hb hts i_Words hown hK hP 4 rfl rfl 6 (by decide) (hts _ q272) (fun _ h9 => h9) rfl d_Words_waysOf_75 ?_
                    refine lv_iload hx hb d_Words_waysOf_78 (lv_at hl 0 rfl) ?_
                    refine va_iald hx hb hK hP 5 0 rfl rfl (zI.inn hv_1120 (by decide)) d_Words_waysOf_80 ?_
                    refine lv_topi (fun v_1129 ev_1129 => ?_)
                    refine lv_iadd hx hb d_Words_waysOf_81 ?_
                    refine lv_topi (fun v_1130 ev_1130 => ?_)
                    refine lv_ldc hx hb hown (hts _ q813) d_Words_waysOf_82 ?_
                    refine va_mmin hx hb (hml.trans hl.1.symm) hown (hts _ q814) (hts _ q592) (hts _ q20) (hts _ q593) (Nat.le_of_ble_eq_true rfl) (Nat.le_of_ble_eq_true rfl) (Nat.le_of_ble_eq_true rfl) (Nat.le_of_ble_eq_true rfl) d_Words_waysOf_84 ?_
                    refine lv_topi (fun v_1131 ev_1131 => ?_)
                    have hv_1131 := zI_min (l := (-2147483648)) (h := 1000000) (zI_all v_1130) zc_1000000 ev_1131 (by decide)
                    refine lv_istore (lv' := [(4, .int v_1131), (5, .int y_1115), (0, .ref b0), (1, .ref b1), (2, .int b2), (3, .ref b3)]) hx hb d_Words_waysOf_87 hl (by decide) rfl (fun ls hl => ?_)
                    obtain ⟨v_1132, ev_1132⟩ : ∃ z : Int32, z = y_1115 + 1 := ⟨_, rfl⟩
                    obtain ⟨qv_1132, hv_1132⟩ := zI_add (l := 1) (h := 241) hv_1120 zc_1 ev_1132 (by decide)
                    rw [li_1] at qv_1132
                    refine lv_iinc (v := v_1132) (lv' := [(5, .int v_1132), (4, .int v_1131), (0, .ref b0), (1, .ref b1), (2, .int b2), (3, .ref b3)]) hx hb d_Words_waysOf_89 hl (k := 1) rfl (by rw [ev_1132]; rfl) (by decide) rfl (fun ls hl => ?_)
                    refine lv_goto (tgt := 53) hx hb d_Words_waysOf_92 (by decide) ?_
                    exact ihk_1114 (v_1132) (v_1131) _ _ _ (zI.wk (l' := 0) (h' := 241) hv_1132 (by decide)) hv_1131 (zm_up qv_1132 hmk_1114 (by decide)) hP hD hS (lv_sub hl [0, 1, 2, 3, 4, 5] rfl)
            · have _nhc_953 := hc_953
              have ni_1133 := (fa_lt _ _).mp (zi_nle hc_953)
              rw [li_5] at ni_1133
              have hv_1134 : zI v_3 6 12 := zI.lt_r zc_5 hv_944 (zi_nle hc_953) (by decide)
              refine lv_aload_n hx hb d_Words_waysOf_29 rfl (lv_at hl 1 rfl) ?_
              refine lv_aload_n hx hb d_Words_waysOf_30 rfl (lv_at hl 4 rfl) ?_
              refine lv_aload_n hx hb d_Words_waysOf_31 rfl (lv_at hl 2 rfl) ?_
              refine lv_iload_n hx hb d_Words_waysOf_32 rfl (lv_at hl 3 rfl) ?_
              refine lv_iload hx hb d_Words_waysOf_33 (lv_at hl 0 rfl) ?_
              refine z_callV (index := 99) (As := [.int b2, .int 5]) (rest := [.ref b3, .ref b0]) (wr := [(b17, .inl (G.2 0, 20, .inl b20)), (b27, .inl (G.2 0, 241, .inl b37)), (b0, .inr (7, [.ref b4, .ref b5, .ref b6, .ref b7, .ref b8, .ref b9, .ref x_948, .ref x_949])), (x_948, .inl (G.2 0, 241, .inl f_950)), (x_949, .inl (G.2 0, 241, .inl f_951)), (b3, .inr (5, [.int b22, .int b23, .ref b24, .ref b25, .ref b26, .ref b27, .ref b28, .ref b29, .int b30, .ref b31, .ref b32, .ref b33, .ref b34, .ref b35, .ref b36])), (b31, .inl (G.2 0, 240, .inl b38))]) Z (s1_Traces_letterAt l G (b1) (b2) (5) (b14) (b15) (b16) (b17) (b18) (b19) (b21) hb2 (zI.wk (l' := 0) (h' := 11) zc_5 (by decide)) hb14 hb15 hb16 hb21) hl.1 q805 q580 q581 q3 q582 ⟨by decide, by decide, by show _ = some 2; decide +kernel⟩ ⟨Nat.le_of_ble_eq_true rfl, Nat.le_of_ble_eq_true rfl⟩ ⟨Nat.le_of_ble_eq_true rfl, Nat.le_of_ble_eq_true rfl⟩ rfl (Nat.le_of_ble_eq_true rfl) d_Words_waysOf_35 hP hD hS hA 2 2 rfl rfl rfl [2, 3] [0, 1, 4, 5, 6, 7, 8] rfl rfl rfl rfl (by decide) (fun v w1 H locs hw_1135 hP hD hS => ?_)
              obtain ⟨x_1136, rfl, rfl, hx_1136⟩ := hw_1135
              have hP : va_P G.1 classes [(b17, .inl (G.2 0, 20, .inl b20)), (b27, .inl (G.2 0, 241, .inl b37)), (b0, .inr (7, [.ref b4, .ref b5, .ref b6, .ref b7, .ref b8, .ref b9, .ref x_948, .ref x_949])), (x_948, .inl (G.2 0, 241, .inl f_950)), (x_949, .inl (G.2 0, 241, .inl f_951)), (b3, .inr (5, [.int b22, .int b23, .ref b24, .ref b25, .ref b26, .ref b27, .ref b28, .ref b29, .int b30, .ref b31, .ref b32, .ref b33, .ref b34, .ref b35, .ref b36])), (b31, .inl (G.2 0, 240, .inl b38)), (b1, .inr (2, [.int b14, .int b15, .int b16, .ref b17, .ref b18, .ref b19])), (b18, .inl (G.2 0, 240, .inl b21))] H := hP
              have hD := z_tie hP hD rfl
              refine W.widen (k := 0) (n := 0) (Nat.le_of_ble_eq_true rfl) (Nat.le_of_ble_eq_true rfl) ?_
              refine z_callV (index := 103) (As := [.ref b3, .int x_1136]) (rest := []) (wr := [(b17, .inl (G.2 0, 20, .inl b20)), (b27, .inl (G.2 0, 241, .inl b37)), (b1, .inr (2, [.int b14, .int b15, .int b16, .ref b17, .ref b18, .ref b19])), (b18, .inl (G.2 0, 240, .inl b21))]) Z (s2_Words_stepWays l G (b0) (b3) (x_1136) (b4) (b5) (b6) (b7) (b8) (b9) (x_948) (x_949) (f_950) (f_951) (b22) (b23) (b24) (b25) (b26) (b27) (b28) (b29) (b30) (b31) (b32) (b33) (b34) (b35) (b36) (b38) hx_1136 hb22 hb23 hb30 hb38) hl.1 q806 q808 qs22 q8 q809 ⟨by decide, by decide, by show _ = some 2; decide +kernel⟩ ⟨Nat.le_of_ble_eq_true rfl, Nat.le_of_ble_eq_true rfl⟩ ⟨Nat.le_of_ble_eq_true rfl, Nat.le_of_ble_eq_true rfl⟩ rfl (Nat.le_of_ble_eq_true rfl) d_Words_waysOf_38 hP hD hS hA 2 7 rfl rfl rfl [2, 3, 4, 5, 6] [0, 1, 7, 8] rfl rfl rfl rfl (by decide) (fun v w1 H locs hw_1137 hP hD hS => ?_)
              obtain ⟨x_1138, x_1139, f_1140, f_1141, rfl, rfl⟩ := hw_1137
              have hP : va_P G.1 classes [(b17, .inl (G.2 0, 20, .inl b20)), (b27, .inl (G.2 0, 241, .inl b37)), (b1, .inr (2, [.int b14, .int b15, .int b16, .ref b17, .ref b18, .ref b19])), (b18, .inl (G.2 0, 240, .inl b21)), (b0, .inr (7, [.ref b4, .ref b5, .ref b6, .ref b7, .ref b8, .ref b9, .ref x_1138, .ref x_1139])), (x_1138, .inl (G.2 0, 241, .inl f_1140)), (x_1139, .inl (G.2 0, 241, .inl f_1141)), (b3, .inr (5, [.int b22, .int b23, .ref b24, .ref b25, .ref b26, .ref b27, .ref b28, .ref b29, .int b30, .ref b31, .ref b32, .ref b33, .ref b34, .ref b35, .ref b36])), (b31, .inl (G.2 0, 240, .inl b38))] H := hP
              have hD := z_tie hP hD rfl
              refine W.widen (k := 0) (n := 0) (Nat.le_of_ble_eq_true rfl) (Nat.le_of_ble_eq_true rfl) ?_
              refine lv_iinc (v := 6) (lv' := [(4, .int 6), (0, .ref b0), (1, .ref b1), (2, .int b2), (3, .ref b3)]) hx hb d_Words_waysOf_41 hl (k := 0) rfl (by decide +kernel) (by decide) rfl (fun ls hl => ?_)
              refine lv_goto (tgt := 18) hx hb d_Words_waysOf_44 (by decide) ?_
              refine lv_iload hx hb d_Words_waysOf_18 (lv_at hl 0 rfl) ?_
              refine lv_aload_n hx hb d_Words_waysOf_20 rfl (lv_at hl 2 rfl) ?_
              refine va_get (D := G.1) (ci := 2) (v := .ref b17) (C := R_Traces) (T := F_Traces) (N := 6) hx hb hts i_Traces hown hK hP 2 rfl rfl 3 (by decide) (hts _ q69) (fun _ h9 => h9) rfl d_Words_waysOf_21 ?_
              refine lv_iload_n hx hb d_Words_waysOf_24 rfl (lv_at hl 3 rfl) ?_
              refine va_iald hx hb hK hP 0 0 rfl rfl (zI.inn hb2 (by decide)) d_Words_waysOf_25 ?_
              refine lv_topi (fun v_1142 ev_1142 => ?_)
              obtain rfl : v_3 = v_1142 := ev_3.trans ev_1142.symm
              refine lv_icmp_ge (tgt := 47) hx hb d_Words_waysOf_26 (by decide) (fun hc_1143 => ?_) (fun hc_1143 => ?_)
              · have _nhc_1143 := hc_1143
                have ni_1144 := (fa_le _ _).mp hc_1143
                rw [li_6] at ni_1144
                have hv_1145 : zI v_3 6 6 := zI.le_l hv_1134 zc_6 hc_1143 (by decide)
                refine lv_iconst (v := 0) hx hb d_Words_waysOf_47 (by decide) ?_
                refine lv_istore (lv' := [(4, .int 0), (0, .ref b0), (1, .ref b1), (2, .int b2), (3, .ref b3)]) hx hb d_Words_waysOf_48 hl (by decide) rfl (fun ls hl => ?_)
                refine lv_iconst (v := 0) hx hb d_Words_waysOf_50 (by decide) ?_
                refine lv_istore (lv' := [(5, .int 0), (4, .int 0), (0, .ref b0), (1, .ref b1), (2, .int b2), (3, .ref b3)]) hx hb d_Words_waysOf_51 hl (by decide) rfl (fun ls hl => ?_)
                suffices key : ∀ (k_1304 : Nat) (y_1305 : Int32) (y_1306 : Int32) (H : Heap) (locs : List Loc) (ls : Array Slot), (zI y_1305 0 241) → (zI y_1306 (-2147483648) 1000000) → (241 : Int) - y_1305.toInt < (k_1304 : Int) → va_P G.1 classes [(b17, .inl (G.2 0, 20, .inl b20)), (b27, .inl (G.2 0, 241, .inl b37)), (b1, .inr (2, [.int b14, .int b15, .int b16, .ref b17, .ref b18, .ref b19])), (b18, .inl (G.2 0, 240, .inl b21)), (b0, .inr (7, [.ref b4, .ref b5, .ref b6, .ref b7, .ref b8, .ref b9, .ref x_1138, .ref x_1139])), (x_1138, .inl (G.2 0, 241, .inl f_1140)), (x_1139, .inl (G.2 0, 241, .inl f_1141)), (b3, .inr (5, [.int b22, .int b23, .ref b24, .ref b25, .ref b26, .ref b27, .ref b28, .ref b29, .int b30, .ref b31, .ref b32, .ref b33, .ref b34, .ref b35, .ref b36])), (b31, .inl (G.2 0, 240, .inl b38))] H → va_D A [(b17, .inl (G.2 0, 20, .inl b20)), (b27, .inl (G.2 0, 241, .inl b37)), (b1, .inr (2, [.int b14, .int b15, .int b16, .ref b17, .ref b18, .ref b19])), (b18, .inl (G.2 0, 240, .inl b21)), (b0, .inr (7, [.ref b4, .ref b5, .ref b6, .ref b7, .ref b8, .ref b9, .ref x_1138, .ref x_1139])), (x_1138, .inl (G.2 0, 241, .inl f_1140)), (x_1139, .inl (G.2 0, 241, .inl f_1141)), (b3, .inr (5, [.int b22, .int b23, .ref b24, .ref b25, .ref b26, .ref b27, .ref b28, .ref b29, .int b30, .ref b31, .ref b32, .ref b33, .ref b34, .ref b35, .ref b36])), (b31, .inl (G.2 0, 240, .inl b38))] → va_S A s.heap H locs → lv_has ls 6 [(5, .int y_1305), (4, .int y_1306), (0, .ref b0), (1, .ref b1), (2, .int b2), (3, .ref b3)] → W p l e m_s1_Words_waysOf s m ([.ref b0, .ref b1, .int b2, .ref b3] : List Value).toArray below meth c H locs 0 0 (MQ below (zQ G (fun v w => ∃ (e0 : Int32), ∃ (e1 : Nat), ∃ (e2 : Nat), ∃ (e3 : Nat → Int32), ∃ (e4 : Nat → Int32), v = some (.int e0) ∧ w = [(b0, .inr (7, [.ref b4, .ref b5, .ref b6, .ref b7, .ref b8, .ref b9, .ref e1, .ref e2])), (e1, .inl (G.2 0, 241, .inl e3)), (e2, .inl (G.2 0, 241, .inl e4)), (b1, .inr (2, [.int b14, .int b15, .int b16, .ref b17, .ref b18, .ref b19])), (b17, .inl (G.2 0, 20, .inl b20)), (b18, .inl (G.2 0, 240, .inl b21)), (b3, .inr (5, [.int b22, .int b23, .ref b24, .ref b25, .ref b26, .ref b27, .ref b28, .ref b29, .int b30, .ref b31, .ref b32, .ref b33, .ref b34, .ref b35, .ref b36])), (b27, .inl (G.2 0, 241, .inl b37)), (b31, .inl (G.2 0, 240, .inl b38))] ∧ (zI e0 (-2147483648) 1000000)) A) ([.ref b0, .ref b1, .int b2, .ref b3] : List Value).toArray s m_s1_Words_waysOf.cells m_s1_Words_waysOf.slots A) (F0 m 53 ls []) by
                  exact key 242 (0) (0) _ _ _ (zI.wk (l' := 0) (h' := 241) zc_0 (by decide)) (zI.wk (l' := (-2147483648)) (h' := 1000000) zc_0 (by decide)) (zm_upi (zI.wk (l' := 0) (h' := 241) zc_0 (by decide)) (by decide)) hP hD hS (lv_sub hl [0, 1, 2, 3, 4, 5] rfl)
                intro k_1304
                induction k_1304 with
                | zero =>
                  intro y_1305 y_1306 H locs ls hy_1305 hy_1306 hmk_1304 hP hD hS hl
                  exact (zm_up0 hy_1305 hmk_1304).elim
                | succ k_1304 ihk_1304 =>
                  intro y_1305 y_1306 H locs ls hy_1305 hy_1306 hmk_1304 hP hD hS hl
                  refine lv_iload hx hb d_Words_waysOf_53 (lv_at hl 0 rfl) ?_
                  refine lv_aload_n hx hb d_Words_waysOf_55 rfl (lv_at hl 5 rfl) ?_
                  refine va_get (D := G.1) (ci := 5) (v := .int b23) (C := R_Machine) (T := F_Machine) (N := 15) hx hb hts i_Machine hown hK hP 7 rfl rfl 1 (by decide) (hts _ q166) (fun _ h9 => h9) rfl d_Words_waysOf_56 ?_
                  refine lv_icmp_ge (tgt := 95) hx hb d_Words_waysOf_59 (by decide) (fun hc_1307 => ?_) (fun hc_1307 => ?_)
                  · have _nhc_1307 := hc_1307
                    have ni_1308 := (fa_le _ _).mp hc_1307
                    refine lv_iload hx hb d_Words_waysOf_95 (lv_at hl 1 rfl) ?_
                    exact z_iret hx hb hr hlocks (hP.sub [4, 5, 6, 2, 0, 3, 7, 1, 8] rfl) (hD.sub [4, 5, 6, 2, 0, 3, 7, 1, 8] (by decide) rfl) hS (Nat.le_of_ble_eq_true rfl) (Nat.le_of_ble_eq_true rfl) d_Words_waysOf_97 ⟨y_1306, x_1138, x_1139, f_1140, f_1141, rfl, rfl, hy_1306⟩
                  · have _nhc_1307 := hc_1307
                    have ni_1309 := (fa_lt _ _).mp (zi_nle hc_1307)
                    have hv_1310 : zI y_1305 0 240 := zI.lt_l hy_1305 hb23 (zi_nle hc_1307) (by decide)
                    have hv_1311 : zI b23 1 241 := zI.lt_r hy_1305 hb23 (zi_nle hc_1307) (by decide)
                    refine lv_aload_n hx hb d_Words_waysOf_62 rfl (lv_at hl 5 rfl) ?_
                    refine va_get (D := G.1) (ci := 5) (v := .ref b27) (C := R_Machine) (T := F_Machine) (N := 15) hx hb hts i_Machine hown hK hP 7 rfl rfl 5 (by decide) (hts _ q177) (fun _ h9 => h9) rfl d_Words_waysOf_63 ?_
                    refine lv_iload hx hb d_Words_waysOf_66 (lv_at hl 0 rfl) ?_
                    refine va_iald hx hb hK hP 1 0 rfl rfl (zI.inn hv_1310 (by decide)) d_Words_waysOf_68 ?_
                    refine lv_topi (fun v_1312 ev_1312 => ?_)
                    refine lv_if_le (tgt := 89) hx hb d_Words_waysOf_69 (by decide) (fun hc_1313 => ?_) (fun hc_1313 => ?_)
                    · have _nhc_1313 := hc_1313
                      have ni_1314 := (fa_le _ _).mp hc_1313
                      rw [li_0] at ni_1314
                      have hv_1315 : zI v_1312 (-2147483648) 0 := zI.le_l (zI_all v_1312) zc_0 hc_1313 (by decide)
                      obtain ⟨v_1316, ev_1316⟩ : ∃ z : Int32, z = y_1305 + 1 := ⟨_, rfl⟩
                      obtain ⟨qv_1316, hv_1316⟩ := zI_add (l := 1) (h := 241) hv_1310 zc_1 ev_1316 (by decide)
                      rw [li_1] at qv_1316
                      refine lv_iinc (v := v_1316) (lv' := [(5, .int v_1316), (4, .int y_1306), (0, .ref b0), (1, .ref b1), (2, .int b2), (3, .ref b3)]) hx hb d_Words_waysOf_89 hl (k := 0) rfl (by rw [ev_1316]; rfl) (by decide) rfl (fun ls hl => ?_)
                      refine lv_goto (tgt := 53) hx hb d_Words_waysOf_92 (by decide) ?_
                      exact ihk_1304 (v_1316) (y_1306) _ _ _ (zI.wk (l' := 0) (h' := 241) hv_1316 (by decide)) hy_1306 (zm_up qv_1316 hmk_1304 (by decide)) hP hD hS (lv_sub hl [0, 1, 2, 3, 4, 5] rfl)
                    · have _nhc_1313 := hc_1313
                      have ni_1317 := (fa_lt _ _).mp (zi_nle hc_1313)
                      rw [li_0] at ni_1317
                      have hv_1318 : zI v_1312 1 2147483647 := zI.lt_r zc_0 (zI_all v_1312) (zi_nle hc_1313) (by decide)
                      refine lv_iload hx hb d_Words_waysOf_72 (lv_at hl 1 rfl) ?_
                      refine lv_aload_n hx hb d_Words_waysOf_74 rfl (lv_at hl 2 rfl) ?_
                      refine va_get (D := G.1) (ci := 7) (v := .ref x_1138) (C := R_Words) (T := F_Words) (N := 8) hx hb hts i_Words hown hK hP 4 rfl rfl 6 (by decide) (hts _ q272) (fun _ h9 => h9) rfl d_Words_waysOf_75 ?_
                      refine lv_iload hx hb d_Words_waysOf_78 (lv_at hl 0 rfl) ?_
                      refine va_iald hx hb hK hP 5 0 rfl rfl (zI.inn hv_1310 (by decide)) d_Words_waysOf_80 ?_
                      refine lv_topi (fun v_1319 ev_1319 => ?_)
                      refine lv_iadd hx hb d_Words_waysOf_81 ?_
                      refine lv_topi (fun v_1320 ev_1320 => ?_)
                      refine lv_ldc hx hb hown (hts _ q813) d_Words_waysOf_82 ?_
                      refine va_mmin hx hb (hml.trans hl.1.symm) hown (hts _ q814) (hts _ q592) (hts _ q20) (hts _ q593) (Nat.le_of_ble_eq_true rfl) (Nat.le_of_ble_eq_true rfl) (Nat.le_of_ble_eq_true rfl) (Nat.le_of_ble_eq_true rfl) d_Words_waysOf_84 ?_
                      refine lv_topi (fun v_1321 ev_1321 => ?_)
                      have hv_1321 := zI_min (l := (-2147483648)) (h := 1000000) (zI_all v_1320) zc_1000000 ev_1321 (by decide)
                      refine lv_istore (lv' := [(4, .int v_1321), (5, .int y_1305), (0, .ref b0), (1, .ref b1), (2, .int b2), (3, .ref b3)]) hx hb d_Words_waysOf_87 hl (by decide) rfl (fun ls hl => ?_)
                      obtain ⟨v_1322, ev_1322⟩ : ∃ z : Int32, z = y_1305 + 1 := ⟨_, rfl⟩
                      obtain ⟨qv_1322, hv_1322⟩ := zI_add (l := 1) (h := 241) hv_1310 zc_1 ev_1322 (by decide)
                      rw [li_1] at qv_1322
                      refine lv_iinc (v := v_1322) (lv' := [(5, .int v_1322), (4, .int v_1321), (0, .ref b0), (1, .ref b1), (2, .int b2), (3, .ref b3)]) hx hb d_Words_waysOf_89 hl (k := 1) rfl (by rw [ev_1322]; rfl) (by decide) rfl (fun ls hl => ?_)
                      refine lv_goto (tgt := 53) hx hb d_Words_waysOf_92 (by decide) ?_
                      exact ihk_1304 (v_1322) (v_1321) _ _ _ (zI.wk (l' := 0) (h' := 241) hv_1322 (by decide)) hv_1321 (zm_up qv_1322 hmk_1304 (by decide)) hP hD hS (lv_sub hl [0, 1, 2, 3, 4, 5] rfl)
              · have _nhc_1143 := hc_1143
                have ni_1323 := (fa_lt _ _).mp (zi_nle hc_1143)
                rw [li_6] at ni_1323
                have hv_1324 : zI v_3 7 12 := zI.lt_r zc_6 hv_1134 (zi_nle hc_1143) (by decide)
                refine lv_aload_n hx hb d_Words_waysOf_29 rfl (lv_at hl 1 rfl) ?_
                refine lv_aload_n hx hb d_Words_waysOf_30 rfl (lv_at hl 4 rfl) ?_
                refine lv_aload_n hx hb d_Words_waysOf_31 rfl (lv_at hl 2 rfl) ?_
                refine lv_iload_n hx hb d_Words_waysOf_32 rfl (lv_at hl 3 rfl) ?_
                refine lv_iload hx hb d_Words_waysOf_33 (lv_at hl 0 rfl) ?_
                refine z_callV (index := 99) (As := [.int b2, .int 6]) (rest := [.ref b3, .ref b0]) (wr := [(b17, .inl (G.2 0, 20, .inl b20)), (b27, .inl (G.2 0, 241, .inl b37)), (b0, .inr (7, [.ref b4, .ref b5, .ref b6, .ref b7, .ref b8, .ref b9, .ref x_1138, .ref x_1139])), (x_1138, .inl (G.2 0, 241, .inl f_1140)), (x_1139, .inl (G.2 0, 241, .inl f_1141)), (b3, .inr (5, [.int b22, .int b23, .ref b24, .ref b25, .ref b26, .ref b27, .ref b28, .ref b29, .int b30, .ref b31, .ref b32, .ref b33, .ref b34, .ref b35, .ref b36])), (b31, .inl (G.2 0, 240, .inl b38))]) Z (s1_Traces_letterAt l G (b1) (b2) (6) (b14) (b15) (b16) (b17) (b18) (b19) (b21) hb2 (zI.wk (l' := 0) (h' := 11) zc_6 (by decide)) hb14 hb15 hb16 hb21) hl.1 q805 q580 q581 q3 q582 ⟨by decide, by decide, by show _ = some 2; decide +kernel⟩ ⟨Nat.le_of_ble_eq_true rfl, Nat.le_of_ble_eq_true rfl⟩ ⟨Nat.le_of_ble_eq_true rfl, Nat.le_of_ble_eq_true rfl⟩ rfl (Nat.le_of_ble_eq_true rfl) d_Words_waysOf_35 hP hD hS hA 2 2 rfl rfl rfl [2, 3] [0, 1, 4, 5, 6, 7, 8] rfl rfl rfl rfl (by decide) (fun v w1 H locs hw_1325 hP hD hS => ?_)
                obtain ⟨x_1326, rfl, rfl, hx_1326⟩ := hw_1325
                have hP : va_P G.1 classes [(b17, .inl (G.2 0, 20, .inl b20)), (b27, .inl (G.2 0, 241, .inl b37)), (b0, .inr (7, [.ref b4, .ref b5, .ref b6, .ref b7, .ref b8, .ref b9, .ref x_1138, .ref x_1139])), (x_1138, .inl (G.2 0, 241, .inl f_1140)), (x_1139, .inl (G.2 0, 241, .inl f_1141)), (b3, .inr (5, [.int b22, .int b23, .ref b24, .ref b25, .ref b26, .ref b27, .ref b28, .ref b29, .int b30, .ref b31, .ref b32, .ref b33, .ref b34, .ref b35, .ref b36])), (b31, .inl (G.2 0, 240, .inl b38)), (b1, .inr (2, [.int b14, .int b15, .int b16, .ref b17, .ref b18, .ref b19])), (b18, .inl (G.2 0, 240, .inl b21))] H := hP
                have hD := z_tie hP hD rfl
                refine W.widen (k := 0) (n := 0) (Nat.le_of_ble_eq_true rfl) (Nat.le_of_ble_eq_true rfl) ?_
                refine z_callV (index := 103) (As := [.ref b3, .int x_1326]) (rest := []) (wr := [(b17, .inl (G.2 0, 20, .inl b20)), (b27, .inl (G.2 0, 241, .inl b37)), (b1, .inr (2, [.int b14, .int b15, .int b16, .ref b17, .ref b18, .ref b19])), (b18, .inl (G.2 0, 240, .inl b21))]) Z (s2_Words_stepWays l G (b0) (b3) (x_1326) (b4) (b5) (b6) (b7) (b8) (b9) (x_1138) (x_1139) (f_1140) (f_1141) (b22) (b23) (b24) (b25) (b26) (b27) (b28) (b29) (b30) (b31) (b32) (b33) (b34) (b35) (b36) (b38) hx_1326 hb22 hb23 hb30 hb38) hl.1 q806 q808 qs22 q8 q809 ⟨by decide, by decide, by show _ = some 2; decide +kernel⟩ ⟨Nat.le_of_ble_eq_true rfl, Nat.le_of_ble_eq_true rfl⟩ ⟨Nat.le_of_ble_eq_true rfl, Nat.le_of_ble_eq_true rfl⟩ rfl (Nat.le_of_ble_eq_true rfl) d_Words_waysOf_38 hP hD hS hA 2 7 rfl rfl rfl [2, 3, 4, 5, 6] [0, 1, 7, 8] rfl rfl rfl rfl (by decide) (fun v w1 H locs hw_1327 hP hD hS => ?_)
                obtain ⟨x_1328, x_1329, f_1330, f_1331, rfl, rfl⟩ := hw_1327
                have hP : va_P G.1 classes [(b17, .inl (G.2 0, 20, .inl b20)), (b27, .inl (G.2 0, 241, .inl b37)), (b1, .inr (2, [.int b14, .int b15, .int b16, .ref b17, .ref b18, .ref b19])), (b18, .inl (G.2 0, 240, .inl b21)), (b0, .inr (7, [.ref b4, .ref b5, .ref b6, .ref b7, .ref b8, .ref b9, .ref x_1328, .ref x_1329])), (x_1328, .inl (G.2 0, 241, .inl f_1330)), (x_1329, .inl (G.2 0, 241, .inl f_1331)), (b3, .inr (5, [.int b22, .int b23, .ref b24, .ref b25, .ref b26, .ref b27, .ref b28, .ref b29, .int b30, .ref b31, .ref b32, .ref b33, .ref b34, .ref b35, .ref b36])), (b31, .inl (G.2 0, 240, .inl b38))] H := hP
                have hD := z_tie hP hD rfl
                refine W.widen (k := 0) (n := 0) (Nat.le_of_ble_eq_true rfl) (Nat.le_of_ble_eq_true rfl) ?_
                refine lv_iinc (v := 7) (lv' := [(4, .int 7), (0, .ref b0), (1, .ref b1), (2, .int b2), (3, .ref b3)]) hx hb d_Words_waysOf_41 hl (k := 0) rfl (by decide +kernel) (by decide) rfl (fun ls hl => ?_)
                refine lv_goto (tgt := 18) hx hb d_Words_waysOf_44 (by decide) ?_
                refine lv_iload hx hb d_Words_waysOf_18 (lv_at hl 0 rfl) ?_
                refine lv_aload_n hx hb d_Words_waysOf_20 rfl (lv_at hl 2 rfl) ?_
                refine va_get (D := G.1) (ci := 2) (v := .ref b17) (C := R_Traces) (T := F_Traces) (N := 6) hx hb hts i_Traces hown hK hP 2 rfl rfl 3 (by decide) (hts _ q69) (fun _ h9 => h9) rfl d_Words_waysOf_21 ?_
                refine lv_iload_n hx hb d_Words_waysOf_24 rfl (lv_at hl 3 rfl) ?_
                refine va_iald hx hb hK hP 0 0 rfl rfl (zI.inn hb2 (by decide)) d_Words_waysOf_25 ?_
                refine lv_topi (fun v_1332 ev_1332 => ?_)
                obtain rfl : v_3 = v_1332 := ev_3.trans ev_1332.symm
                refine lv_icmp_ge (tgt := 47) hx hb d_Words_waysOf_26 (by decide) (fun hc_1333 => ?_) (fun hc_1333 => ?_)
                · have _nhc_1333 := hc_1333
                  have ni_1334 := (fa_le _ _).mp hc_1333
                  rw [li_7] at ni_1334
                  have hv_1335 : zI v_3 7 7 := zI.le_l hv_1324 zc_7 hc_1333 (by decide)
                  refine lv_iconst (v := 0) hx hb d_Words_waysOf_47 (by decide) ?_
                  refine lv_istore (lv' := [(4, .int 0), (0, .ref b0), (1, .ref b1), (2, .int b2), (3, .ref b3)]) hx hb d_Words_waysOf_48 hl (by decide) rfl (fun ls hl => ?_)
                  refine lv_iconst (v := 0) hx hb d_Words_waysOf_50 (by decide) ?_
                  refine lv_istore (lv' := [(5, .int 0), (4, .int 0), (0, .ref b0), (1, .ref b1), (2, .int b2), (3, .ref b3)]) hx hb d_Words_waysOf_51 hl (by decide) rfl (fun ls hl => ?_)
                  suffices key : ∀ (k_1494 : Nat) (y_1495 : Int32) (y_1496 : Int32) (H : Heap) (locs : List Loc) (ls : Array Slot), (zI y_1495 0 241) → (zI y_1496 (-2147483648) 1000000) → (241 : Int) - y_1495.toInt < (k_1494 : Int) → va_P G.1 classes [(b17, .inl (G.2 0, 20, .inl b20)), (b27, .inl (G.2 0, 241, .inl b37)), (b1, .inr (2, [.int b14, .int b15, .int b16, .ref b17, .ref b18, .ref b19])), (b18, .inl (G.2 0, 240, .inl b21)), (b0, .inr (7, [.ref b4, .ref b5, .ref b6, .ref b7, .ref b8, .ref b9, .ref x_1328, .ref x_1329])), (x_1328, .inl (G.2 0, 241, .inl f_1330)), (x_1329, .inl (G.2 0, 241, .inl f_1331)), (b3, .inr (5, [.int b22, .int b23, .ref b24, .ref b25, .ref b26, .ref b27, .ref b28, .ref b29, .int b30, .ref b31, .ref b32, .ref b33, .ref b34, .ref b35, .ref b36])), (b31, .inl (G.2 0, 240, .inl b38))] H → va_D A [(b17, .inl (G.2 0, 20, .inl b20)), (b27, .inl (G.2 0, 241, .inl b37)), (b1, .inr (2, [.int b14, .int b15, .int b16, .ref b17, .ref b18, .ref b19])), (b18, .inl (G.2 0, 240, .inl b21)), (b0, .inr (7, [.ref b4, .ref b5, .ref b6, .ref b7, .ref b8, .ref b9, .ref x_1328, .ref x_1329])), (x_1328, .inl (G.2 0, 241, .inl f_1330)), (x_1329, .inl (G.2 0, 241, .inl f_1331)), (b3, .inr (5, [.int b22, .int b23, .ref b24, .ref b25, .ref b26, .ref b27, .ref b28, .ref b29, .int b30, .ref b31, .ref b32, .ref b33, .ref b34, .ref b35, .ref b36])), (b31, .inl (G.2 0, 240, .inl b38))] → va_S A s.heap H locs → lv_has ls 6 [(5, .int y_1495), (4, .int y_1496), (0, .ref b0), (1, .ref b1), (2, .int b2), (3, .ref b3)] → W p l e m_s1_Words_waysOf s m ([.ref b0, .ref b1, .int b2, .ref b3] : List Value).toArray below meth c H locs 0 0 (MQ below (zQ G (fun v w => ∃ (e0 : Int32), ∃ (e1 : Nat), ∃ (e2 : Nat), ∃ (e3 : Nat → Int32), ∃ (e4 : Nat → Int32), v = some (.int e0) ∧ w = [(b0, .inr (7, [.ref b4, .ref b5, .ref b6, .ref b7, .ref b8, .ref b9, .ref e1, .ref e2])), (e1, .inl (G.2 0, 241, .inl e3)), (e2, .inl (G.2 0, 241, .inl e4)), (b1, .inr (2, [.int b14, .int b15, .int b16, .ref b17, .ref b18, .ref b19])), (b17, .inl (G.2 0, 20, .inl b20)), (b18, .inl (G.2 0, 240, .inl b21)), (b3, .inr (5, [.int b22, .int b23, .ref b24, .ref b25, .ref b26, .ref b27, .ref b28, .ref b29, .int b30, .ref b31, .ref b32, .ref b33, .ref b34, .ref b35, .ref b36])), (b27, .inl (G.2 0, 241, .inl b37)), (b31, .inl (G.2 0, 240, .inl b38))] ∧ (zI e0 (-2147483648) 1000000)) A) ([.ref b0, .ref b1, .int b2, .ref b3] : List Value).toArray s m_s1_Words_waysOf.cells m_s1_Words_waysOf.slots A) (F0 m 53 ls []) by
                    exact key 242 (0) (0) _ _ _ (zI.wk (l' := 0) (h' := 241) zc_0 (by decide)) (zI.wk (l' := (-2147483648)) (h' := 1000000) zc_0 (by decide)) (zm_upi (zI.wk (l' := 0) (h' := 241) zc_0 (by decide)) (by decide)) hP hD hS (lv_sub hl [0, 1, 2, 3, 4, 5] rfl)
                  intro k_1494
                  induction k_1494 with
                  | zero =>
                    intro y_1495 y_1496 H locs ls hy_1495 hy_1496 hmk_1494 hP hD hS hl
                    exact (zm_up0 hy_1495 hmk_1494).elim
                  | succ k_1494 ihk_1494 =>
                    intro y_1495 y_1496 H locs ls hy_1495 hy_1496 hmk_1494 hP hD hS hl
                    refine lv_iload hx hb d_Words_waysOf_53 (lv_at hl 0 rfl) ?_
                    refine lv_aload_n hx hb d_Words_waysOf_55 rfl (lv_at hl 5 rfl) ?_
                    refine va_get (D := G.1) (ci := 5) (v := .int b23) (C := R_Machine) (T := F_Machine) (N := 15) hx hb hts i_Machine hown hK hP 7 rfl rfl 1 (by decide) (hts _ q166) (fun _ h9 => h9) rfl d_Words_waysOf_56 ?_
                    refine lv_icmp_ge (tgt := 95) hx hb d_Words_waysOf_59 (by decide) (fun hc_1497 => ?_) (fun hc_1497 => ?_)
                    · have _nhc_1497 := hc_1497
                      have ni_1498 := (fa_le _ _).mp hc_1497
                      refine lv_iload hx hb d_Words_waysOf_95 (lv_at hl 1 rfl) ?_
                      exact z_iret hx hb hr hlocks (hP.sub [4, 5, 6, 2, 0, 3, 7, 1, 8] rfl) (hD.sub [4, 5, 6, 2, 0, 3, 7, 1, 8] (by decide) rfl) hS (Nat.le_of_ble_eq_true rfl) (Nat.le_of_ble_eq_true rfl) d_Words_waysOf_97 ⟨y_1496, x_1328, x_1329, f_1330, f_1331, rfl, rfl, hy_1496⟩
                    · have _nhc_1497 := hc_1497
                      have ni_1499 := (fa_lt _ _).mp (zi_nle hc_1497)
                      have hv_1500 : zI y_1495 0 240 := zI.lt_l hy_1495 hb23 (zi_nle hc_1497) (by decide)
                      have hv_1501 : zI b23 1 241 := zI.lt_r hy_1495 hb23 (zi_nle hc_1497) (by decide)
                      refine lv_aload_n hx hb d_Words_waysOf_62 rfl (lv_at hl 5 rfl) ?_
                      refine va_get (D := G.1) (ci := 5) (v := .ref b27) (C := R_Machine) (T := F_Machine) (N := 15) hx hb hts i_Machine hown hK hP 7 rfl rfl 5 (by decide) (hts _ q177) (fun _ h9 => h9) rfl d_Words_waysOf_63 ?_
                      refine lv_iload hx hb d_Words_waysOf_66 (lv_at hl 0 rfl) ?_
                      refine va_iald hx hb hK hP 1 0 rfl rfl (zI.inn hv_1500 (by decide)) d_Words_waysOf_68 ?_
                      refine lv_topi (fun v_1502 ev_1502 => ?_)
                      refine lv_if_le (tgt := 89) hx hb d_Words_waysOf_69 (by decide) (fun hc_1503 => ?_) (fun hc_1503 => ?_)
                      · have _nhc_1503 := hc_1503
                        have ni_1504 := (fa_le _ _).mp hc_1503
                        rw [li_0] at ni_1504
                        have hv_1505 : zI v_1502 (-2147483648) 0 := zI.le_l (zI_all v_1502) zc_0 hc_1503 (by decide)
                        obtain ⟨v_1506, ev_1506⟩ : ∃ z : Int32, z = y_1495 + 1 := ⟨_, rfl⟩
                        obtain ⟨qv_1506, hv_1506⟩ := zI_add (l := 1) (h := 241) hv_1500 zc_1 ev_1506 (by decide)
                        rw [li_1] at qv_1506
                        refine lv_iinc (v := v_1506) (lv' := [(5, .int v_1506), (4, .int y_1496), (0, .ref b0), (1, .ref b1), (2, .int b2), (3, .ref b3)]) hx hb d_Words_waysOf_89 hl (k := 0) rfl (by rw [ev_1506]; rfl) (by decide) rfl (fun ls hl => ?_)
                        refine lv_goto (tgt := 53) hx hb d_Words_waysOf_92 (by decide) ?_
                        exact ihk_1494 (v_1506) (y_1496) _ _ _ (zI.wk (l' := 0) (h' := 241) hv_1506 (by decide)) hy_1496 (zm_up qv_1506 hmk_1494 (by decide)) hP hD hS (lv_sub hl [0, 1, 2, 3, 4, 5] rfl)
                      · have _nhc_1503 := hc_1503
                        have ni_1507 := (fa_lt _ _).mp (zi_nle hc_1503)
                        rw [li_0] at ni_1507
                        have hv_1508 : zI v_1502 1 2147483647 := zI.lt_r zc_0 (zI_all v_1502) (zi_nle hc_1503) (by decide)
                        refine lv_iload hx hb d_Words_waysOf_72 (lv_at hl 1 rfl) ?_
                        refine lv_aload_n hx hb d_Words_waysOf_74 rfl (lv_at hl 2 rfl) ?_
                        refine va_get (D := G.1) (ci := 7) (v := .ref x_1328) (C := R_Words) (T := F_Words) (N := 8) hx hb hts i_Words hown hK hP 4 rfl rfl 6 (by decide) (hts _ q272) (fun _ h9 => h9) rfl d_Words_waysOf_75 ?_
                        refine lv_iload hx hb d_Words_waysOf_78 (lv_at hl 0 rfl) ?_
                        refine va_iald hx hb hK hP 5 0 rfl rfl (zI.inn hv_1500 (by decide)) d_Words_waysOf_80 ?_
                        refine lv_topi (fun v_1509 ev_1509 => ?_)
                        refine lv_iadd hx hb d_Words_waysOf_81 ?_
                        refine lv_topi (fun v_1510 ev_1510 => ?_)
                        refine lv_ldc hx hb hown (hts _ q813) d_Words_waysOf_82 ?_
                        refine va_mmin hx hb (hml.trans hl.1.symm) hown (hts _ q814) (hts _ q592) (hts _ q20) (hts _ q593) (Nat.le_of_ble_eq_true rfl) (Nat.le_of_ble_eq_true rfl) (Nat.le_of_ble_eq_true rfl) (Nat.le_of_ble_eq_true rfl) d_Words_waysOf_84 ?_
                        refine lv_topi (fun v_1511 ev_1511 => ?_)
                        have hv_1511 := zI_min (l := (-2147483648)) (h := 1000000) (zI_all v_1510) zc_1000000 ev_1511 (by decide)
                        refine lv_istore (lv' := [(4, .int v_1511), (5, .int y_1495), (0, .ref b0), (1, .ref b1), (2, .int b2), (3, .ref b3)]) hx hb d_Words_waysOf_87 hl (by decide) rfl (fun ls hl => ?_)
                        obtain ⟨v_1512, ev_1512⟩ : ∃ z : Int32, z = y_1495 + 1 := ⟨_, rfl⟩
                        obtain ⟨qv_1512, hv_1512⟩ := zI_add (l := 1) (h := 241) hv_1500 zc_1 ev_1512 (by decide)
                        rw [li_1] at qv_1512
                        refine lv_iinc (v := v_1512) (lv' := [(5, .int v_1512), (4, .int v_1511), (0, .ref b0), (1, .ref b1), (2, .int b2), (3, .ref b3)]) hx hb d_Words_waysOf_89 hl (k := 1) rfl (by rw [ev_1512]; rfl) (by decide) rfl (fun ls hl => ?_)
                        refine lv_goto (tgt := 53) hx hb d_Words_waysOf_92 (by decide) ?_
                        exact ihk_1494 (v_1512) (v_1511) _ _ _ (zI.wk (l' := 0) (h' := 241) hv_1512 (by decide)) hv_1511 (zm_up qv_1512 hmk_1494 (by decide)) hP hD hS (lv_sub hl [0, 1, 2, 3, 4, 5] rfl)
                · have _nhc_1333 := hc_1333
                  have ni_1513 := (fa_lt _ _).mp (zi_nle hc_1333)
                  rw [li_7] at ni_1513
                  have hv_1514 : zI v_3 8 12 := zI.lt_r zc_7 hv_1324 (zi_nle hc_1333) (by decide)
                  refine lv_aload_n hx hb d_Words_waysOf_29 rfl (lv_at hl 1 rfl) ?_
                  refine lv_aload_n hx hb d_Words_waysOf_30 rfl (lv_at hl 4 rfl) ?_
                  refine lv_aload_n hx hb d_Words_waysOf_31 rfl (lv_at hl 2 rfl) ?_
                  refine lv_iload_n hx hb d_Words_waysOf_32 rfl (lv_at hl 3 rfl) ?_
                  refine lv_iload hx hb d_Words_waysOf_33 (lv_at hl 0 rfl) ?_
                  refine z_callV (index := 99) (As := [.int b2, .int 7]) (rest := [.ref b3, .ref b0]) (wr := [(b17, .inl (G.2 0, 20, .inl b20)), (b27, .inl (G.2 0, 241, .inl b37)), (b0, .inr (7, [.ref b4, .ref b5, .ref b6, .ref b7, .ref b8, .ref b9, .ref x_1328, .ref x_1329])), (x_1328, .inl (G.2 0, 241, .inl f_1330)), (x_1329, .inl (G.2 0, 241, .inl f_1331)), (b3, .inr (5, [.int b22, .int b23, .ref b24, .ref b25, .ref b26, .ref b27, .ref b28, .ref b29, .int b30, .ref b31, .ref b32, .ref b33, .ref b34, .ref b35, .ref b36])), (b31, .inl (G.2 0, 240, .inl b38))]) Z (s1_Traces_letterAt l G (b1) (b2) (7) (b14) (b15) (b16) (b17) (b18) (b19) (b21) hb2 (zI.wk (l' := 0) (h' := 11) zc_7 (by decide)) hb14 hb15 hb16 hb21) hl.1 q805 q580 q581 q3 q582 ⟨by decide, by decide, by show _ = some 2; decide +kernel⟩ ⟨Nat.le_of_ble_eq_true rfl, Nat.le_of_ble_eq_true rfl⟩ ⟨Nat.le_of_ble_eq_true rfl, Nat.le_of_ble_eq_true rfl⟩ rfl (Nat.le_of_ble_eq_true rfl) d_Words_waysOf_35 hP hD hS hA 2 2 rfl rfl rfl [2, 3] [0, 1, 4, 5, 6, 7, 8] rfl rfl rfl rfl (by decide) (fun v w1 H locs hw_1515 hP hD hS => ?_)
                  obtain ⟨x_1516, rfl, rfl, hx_1516⟩ := hw_1515
                  have hP : va_P G.1 classes [(b17, .inl (G.2 0, 20, .inl b20)), (b27, .inl (G.2 0, 241, .inl b37)), (b0, .inr (7, [.ref b4, .ref b5, .ref b6, .ref b7, .ref b8, .ref b9, .ref x_1328, .ref x_1329])), (x_1328, .inl (G.2 0, 241, .inl f_1330)), (x_1329, .inl (G.2 0, 241, .inl f_1331)), (b3, .inr (5, [.int b22, .int b23, .ref b24, .ref b25, .ref b26, .ref b27, .ref b28, .ref b29, .int b30, .ref b31, .ref b32, .ref b33, .ref b34, .ref b35, .ref b36])), (b31, .inl (G.2 0, 240, .inl b38)), (b1, .inr (2, [.int b14, .int b15, .int b16, .ref b17, .ref b18, .ref b19])), (b18, .inl (G.2 0, 240, .inl b21))] H := hP
                  have hD := z_tie hP hD rfl
                  refine W.widen (k := 0) (n := 0) (Nat.le_of_ble_eq_true rfl) (Nat.le_of_ble_eq_true rfl) ?_
                  refine z_callV (index := 103) (As := [.ref b3, .int x_1516]) (rest := []) (wr := [(b17, .inl (G.2 0, 20, .inl b20)), (b27, .inl (G.2 0, 241, .inl b37)), (b1, .inr (2, [.int b14, .int b15, .int b16, .ref b17, .ref b18, .ref b19])), (b18, .inl (G.2 0, 240, .inl b21))]) Z (s2_Words_stepWays l G (b0) (b3) (x_1516) (b4) (b5) (b6) (b7) (b8) (b9) (x_1328) (x_1329) (f_1330) (f_1331) (b22) (b23) (b24) (b25) (b26) (b27) (b28) (b29) (b30) (b31) (b32) (b33) (b34) (b35) (b36) (b38) hx_1516 hb22 hb23 hb30 hb38) hl.1 q806 q808 qs22 q8 q809 ⟨by decide, by decide, by show _ = some 2; decide +kernel⟩ ⟨Nat.le_of_ble_eq_true rfl, Nat.le_of_ble_eq_true rfl⟩ ⟨Nat.le_of_ble_eq_true rfl, Nat.le_of_ble_eq_true rfl⟩ rfl (Nat.le_of_ble_eq_true rfl) d_Words_waysOf_38 hP hD hS hA 2 7 rfl rfl rfl [2, 3, 4, 5, 6] [0, 1, 7, 8] rfl rfl rfl rfl (by decide) (fun v w1 H locs hw_1517 hP hD hS => ?_)
                  obtain ⟨x_1518, x_1519, f_1520, f_1521, rfl, rfl⟩ := hw_1517
                  have hP : va_P G.1 classes [(b17, .inl (G.2 0, 20, .inl b20)), (b27, .inl (G.2 0, 241, .inl b37)), (b1, .inr (2, [.int b14, .int b15, .int b16, .ref b17, .ref b18, .ref b19])), (b18, .inl (G.2 0, 240, .inl b21)), (b0, .inr (7, [.ref b4, .ref b5, .ref b6, .ref b7, .ref b8, .ref b9, .ref x_1518, .ref x_1519])), (x_1518, .inl (G.2 0, 241, .inl f_1520)), (x_1519, .inl (G.2 0, 241, .inl f_1521)), (b3, .inr (5, [.int b22, .int b23, .ref b24, .ref b25, .ref b26, .ref b27, .ref b28, .ref b29, .int b30, .ref b31, .ref b32, .ref b33, .ref b34, .ref b35, .ref b36])), (b31, .inl (G.2 0, 240, .inl b38))] H := hP
                  have hD := z_tie hP hD rfl
                  refine W.widen (k := 0) (n := 0) (Nat.le_of_ble_eq_true rfl) (Nat.le_of_ble_eq_true rfl) ?_
                  refine lv_iinc (v := 8) (lv' := [(4, .int 8), (0, .ref b0), (1, .ref b1), (2, .int b2), (3, .ref b3)]) hx hb d_Words_waysOf_41 hl (k := 0) rfl (by decide +kernel) (by decide) rfl (fun ls hl => ?_)
                  refine lv_goto (tgt := 18) hx hb d_Words_waysOf_44 (by decide) ?_
                  refine lv_iload hx hb d_Words_waysOf_18 (lv_at hl 0 rfl) ?_
                  refine lv_aload_n hx hb d_Words_waysOf_20 rfl (lv_at hl 2 rfl) ?_
                  refine va_get (D := G.1) (ci := 2) (v := .ref b17) (C := R_Traces) (T := F_Traces) (N := 6) hx hb hts i_Traces hown hK hP 2 rfl rfl 3 (by decide) (hts _ q69) (fun _ h9 => h9) rfl d_Words_waysOf_21 ?_
                  refine lv_iload_n hx hb d_Words_waysOf_24 rfl (lv_at hl 3 rfl) ?_
                  refine va_iald hx hb hK hP 0 0 rfl rfl (zI.inn hb2 (by decide)) d_Words_waysOf_25 ?_
                  refine lv_topi (fun v_1522 ev_1522 => ?_)
                  obtain rfl : v_3 = v_1522 := ev_3.trans ev_1522.symm
                  refine lv_icmp_ge (tgt := 47) hx hb d_Words_waysOf_26 (by decide) (fun hc_1523 => ?_) (fun hc_1523 => ?_)
                  · have _nhc_1523 := hc_1523
                    have ni_1524 := (fa_le _ _).mp hc_1523
                    rw [li_8] at ni_1524
                    have hv_1525 : zI v_3 8 8 := zI.le_l hv_1514 zc_8 hc_1523 (by decide)
                    refine lv_iconst (v := 0) hx hb d_Words_waysOf_47 (by decide) ?_
                    refine lv_istore (lv' := [(4, .int 0), (0, .ref b0), (1, .ref b1), (2, .int b2), (3, .ref b3)]) hx hb d_Words_waysOf_48 hl (by decide) rfl (fun ls hl => ?_)
                    refine lv_iconst (v := 0) hx hb d_Words_waysOf_50 (by decide) ?_
                    refine lv_istore (lv' := [(5, .int 0), (4, .int 0), (0, .ref b0), (1, .ref b1), (2, .int b2), (3, .ref b3)]) hx hb d_Words_waysOf_51 hl (by decide) rfl (fun ls hl => ?_)
                    suffices key : ∀ (k_1684 : Nat) (y_1685 : Int32) (y_1686 : Int32) (H : Heap) (locs : List Loc) (ls : Array Slot), (zI y_1685 0 241) → (zI y_1686 (-2147483648) 1000000) → (241 : Int) - y_1685.toInt < (k_1684 : Int) → va_P G.1 classes [(b17, .inl (G.2 0, 20, .inl b20)), (b27, .inl (G.2 0, 241, .inl b37)), (b1, .inr (2, [.int b14, .int b15, .int b16, .ref b17, .ref b18, .ref b19])), (b18, .inl (G.2 0, 240, .inl b21)), (b0, .inr (7, [.ref b4, .ref b5, .ref b6, .ref b7, .ref b8, .ref b9, .ref x_1518, .ref x_1519])), (x_1518, .inl (G.2 0, 241, .inl f_1520)), (x_1519, .inl (G.2 0, 241, .inl f_1521)), (b3, .inr (5, [.int b22, .int b23, .ref b24, .ref b25, .ref b26, .ref b27, .ref b28, .ref b29, .int b30, .ref b31, .ref b32, .ref b33, .ref b34, .ref b35, .ref b36])), (b31, .inl (G.2 0, 240, .inl b38))] H → va_D A [(b17, .inl (G.2 0, 20, .inl b20)), (b27, .inl (G.2 0, 241, .inl b37)), (b1, .inr (2, [.int b14, .int b15, .int b16, .ref b17, .ref b18, .ref b19])), (b18, .inl (G.2 0, 240, .inl b21)), (b0, .inr (7, [.ref b4, .ref b5, .ref b6, .ref b7, .ref b8, .ref b9, .ref x_1518, .ref x_1519])), (x_1518, .inl (G.2 0, 241, .inl f_1520)), (x_1519, .inl (G.2 0, 241, .inl f_1521)), (b3, .inr (5, [.int b22, .int b23, .ref b24, .ref b25, .ref b26, .ref b27, .ref b28, .ref b29, .int b30, .ref b31, .ref b32, .ref b33, .ref b34, .ref b35, .ref b36])), (b31, .inl (G.2 0, 240, .inl b38))] → va_S A s.heap H locs → lv_has ls 6 [(5, .int y_1685), (4, .int y_1686), (0, .ref b0), (1, .ref b1), (2, .int b2), (3, .ref b3)] → W p l e m_s1_Words_waysOf s m ([.ref b0, .ref b1, .int b2, .ref b3] : List Value).toArray below meth c H locs 0 0 (MQ below (zQ G (fun v w => ∃ (e0 : Int32), ∃ (e1 : Nat), ∃ (e2 : Nat), ∃ (e3 : Nat → Int32), ∃ (e4 : Nat → Int32), v = some (.int e0) ∧ w = [(b0, .inr (7, [.ref b4, .ref b5, .ref b6, .ref b7, .ref b8, .ref b9, .ref e1, .ref e2])), (e1, .inl (G.2 0, 241, .inl e3)), (e2, .inl (G.2 0, 241, .inl e4)), (b1, .inr (2, [.int b14, .int b15, .int b16, .ref b17, .ref b18, .ref b19])), (b17, .inl (G.2 0, 20, .inl b20)), (b18, .inl (G.2 0, 240, .inl b21)), (b3, .inr (5, [.int b22, .int b23, .ref b24, .ref b25, .ref b26, .ref b27, .ref b28, .ref b29, .int b30, .ref b31, .ref b32, .ref b33, .ref b34, .ref b35, .ref b36])), (b27, .inl (G.2 0, 241, .inl b37)), (b31, .inl (G.2 0, 240, .inl b38))] ∧ (zI e0 (-2147483648) 1000000)) A) ([.ref b0, .ref b1, .int b2, .ref b3] : List Value).toArray s m_s1_Words_waysOf.cells m_s1_Words_waysOf.slots A) (F0 m 53 ls []) by
                      exact key 242 (0) (0) _ _ _ (zI.wk (l' := 0) (h' := 241) zc_0 (by decide)) (zI.wk (l' := (-2147483648)) (h' := 1000000) zc_0 (by decide)) (zm_upi (zI.wk (l' := 0) (h' := 241) zc_0 (by decide)) (by decide)) hP hD hS (lv_sub hl [0, 1, 2, 3, 4, 5] rfl)
                    intro k_1684
                    induction k_1684 with
                    | zero =>
                      intro y_1685 y_1686 H locs ls hy_1685 hy_1686 hmk_1684 hP hD hS hl
                      exact (zm_up0 hy_1685 hmk_1684).elim
                    | succ k_1684 ihk_1684 =>
                      intro y_1685 y_1686 H locs ls hy_1685 hy_1686 hmk_1684 hP hD hS hl
                      refine lv_iload hx hb d_Words_waysOf_53 (lv_at hl 0 rfl) ?_
                      refine lv_aload_n hx hb d_Words_waysOf_55 rfl (lv_at hl 5 rfl) ?_
                      refine va_get (D := G.1) (ci := 5) (v := .int b23) (C := R_Machine) (T := F_Machine) (N := 15) hx hb hts i_Machine hown hK hP 7 rfl rfl 1 (by decide) (hts _ q166) (fun _ h9 => h9) rfl d_Words_waysOf_56 ?_
                      refine lv_icmp_ge (tgt := 95) hx hb d_Words_waysOf_59 (by decide) (fun hc_1687 => ?_) (fun hc_1687 => ?_)
                      · have _nhc_1687 := hc_1687
                        have ni_1688 := (fa_le _ _).mp hc_1687
                        refine lv_iload hx hb d_Words_waysOf_95 (lv_at hl 1 rfl) ?_
                        exact z_iret hx hb hr hlocks (hP.sub [4, 5, 6, 2, 0, 3, 7, 1, 8] rfl) (hD.sub [4, 5, 6, 2, 0, 3, 7, 1, 8] (by decide) rfl) hS (Nat.le_of_ble_eq_true rfl) (Nat.le_of_ble_eq_true rfl) d_Words_waysOf_97 ⟨y_1686, x_1518, x_1519, f_1520, f_1521, rfl, rfl, hy_1686⟩
                      · have _nhc_1687 := hc_1687
                        have ni_1689 := (fa_lt _ _).mp (zi_nle hc_1687)
                        have hv_1690 : zI y_1685 0 240 := zI.lt_l hy_1685 hb23 (zi_nle hc_1687) (by decide)
                        have hv_1691 : zI b23 1 241 := zI.lt_r hy_1685 hb23 (zi_nle hc_1687) (by decide)
                        refine lv_aload_n hx hb d_Words_waysOf_62 rfl (lv_at hl 5 rfl) ?_
                        refine va_get (D := G.1) (ci := 5) (v := .ref b27) (C := R_Machine) (T := F_Machine) (N := 15) hx hb hts i_Machine hown hK hP 7 rfl rfl 5 (by decide) (hts _ q177) (fun _ h9 => h9) rfl d_Words_waysOf_63 ?_
                        refine lv_iload hx hb d_Words_waysOf_66 (lv_at hl 0 rfl) ?_
                        refine va_iald hx hb hK hP 1 0 rfl rfl (zI.inn hv_1690 (by decide)) d_Words_waysOf_68 ?_
                        refine lv_topi (fun v_1692 ev_1692 => ?_)
                        refine lv_if_le (tgt := 89) hx hb d_Words_waysOf_69 (by decide) (fun hc_1693 => ?_) (fun hc_1693 => ?_)
                        · have _nhc_1693 := hc_1693
                          have ni_1694 := (fa_le _ _).mp hc_1693
                          rw [li_0] at ni_1694
                          have hv_1695 : zI v_1692 (-2147483648) 0 := zI.le_l (zI_all v_1692) zc_0 hc_1693 (by decide)
                          obtain ⟨v_1696, ev_1696⟩ : ∃ z : Int32, z = y_1685 + 1 := ⟨_, rfl⟩
                          obtain ⟨qv_1696, hv_1696⟩ := zI_add (l := 1) (h := 241) hv_1690 zc_1 ev_1696 (by decide)
                          rw [li_1] at qv_1696
                          refine lv_iinc (v := v_1696) (lv' := [(5, .int v_1696), (4, .int y_1686), (0, .ref b0), (1, .ref b1), (2, .int b2), (3, .ref b3)]) hx hb d_Words_waysOf_89 hl (k := 0) rfl (by rw [ev_1696]; rfl) (by decide) rfl (fun ls hl => ?_)
                          refine lv_goto (tgt := 53) hx hb d_Words_waysOf_92 (by decide) ?_
                          exact ihk_1684 (v_1696) (y_1686) _ _ _ (zI.wk (l' := 0) (h' := 241) hv_1696 (by decide)) hy_1686 (zm_up qv_1696 hmk_1684 (by decide)) hP hD hS (lv_sub hl [0, 1, 2, 3, 4, 5] rfl)
                        · have _nhc_1693 := hc_1693
                          have ni_1697 := (fa_lt _ _).mp (zi_nle hc_1693)
                          rw [li_0] at ni_1697
                          have hv_1698 : zI v_1692 1 2147483647 := zI.lt_r zc_0 (zI_all v_1692) (zi_nle hc_1693) (by decide)
                          refine lv_iload hx hb d_Words_waysOf_72 (lv_at hl 1 rfl) ?_
                          refine lv_aload_n hx hb d_Words_waysOf_74 rfl (lv_at hl 2 rfl) ?_
                          refine va_get (D := G.1) (ci := 7) (v := .ref x_1518) (C := R_Words) (T := F_Words) (N := 8) hx hb hts i_Words hown hK hP 4 rfl rfl 6 (by decide) (hts _ q272) (fun _ h9 => h9) rfl d_Words_waysOf_75 ?_
                          refine lv_iload hx hb d_Words_waysOf_78 (lv_at hl 0 rfl) ?_
                          refine va_iald hx hb hK hP 5 0 rfl rfl (zI.inn hv_1690 (by decide)) d_Words_waysOf_80 ?_
                          refine lv_topi (fun v_1699 ev_1699 => ?_)
                          refine lv_iadd hx hb d_Words_waysOf_81 ?_
                          refine lv_topi (fun v_1700 ev_1700 => ?_)
                          refine lv_ldc hx hb hown (hts _ q813) d_Words_waysOf_82 ?_
                          refine va_mmin hx hb (hml.trans hl.1.symm) hown (hts _ q814) (hts _ q592) (hts _ q20) (hts _ q593) (Nat.le_of_ble_eq_true rfl) (Nat.le_of_ble_eq_true rfl) (Nat.le_of_ble_eq_true rfl) (Nat.le_of_ble_eq_true rfl) d_Words_waysOf_84 ?_
                          refine lv_topi (fun v_1701 ev_1701 => ?_)
                          have hv_1701 := zI_min (l := (-2147483648)) (h := 1000000) (zI_all v_1700) zc_1000000 ev_1701 (by decide)
                          refine lv_istore (lv' := [(4, .int v_1701), (5, .int y_1685), (0, .ref b0), (1, .ref b1), (2, .int b2), (3, .ref b3)]) hx hb d_Words_waysOf_87 hl (by decide) rfl (fun ls hl => ?_)
                          obtain ⟨v_1702, ev_1702⟩ : ∃ z : Int32, z = y_1685 + 1 := ⟨_, rfl⟩
                          obtain ⟨qv_1702, hv_1702⟩ := zI_add (l := 1) (h := 241) hv_1690 zc_1 ev_1702 (by decide)
                          rw [li_1] at qv_1702
                          refine lv_iinc (v := v_1702) (lv' := [(5, .int v_1702), (4, .int v_1701), (0, .ref b0), (1, .ref b1), (2, .int b2), (3, .ref b3)]) hx hb d_Words_waysOf_89 hl (k := 1) rfl (by rw [ev_1702]; rfl) (by decide) rfl (fun ls hl => ?_)
                          refine lv_goto (tgt := 53) hx hb d_Words_waysOf_92 (by decide) ?_
                          exact ihk_1684 (v_1702) (v_1701) _ _ _ (zI.wk (l' := 0) (h' := 241) hv_1702 (by decide)) hv_1701 (zm_up qv_1702 hmk_1684 (by decide)) hP hD hS (lv_sub hl [0, 1, 2, 3, 4, 5] rfl)
                  · have _nhc_1523 := hc_1523
                    have ni_1703 := (fa_lt _ _).mp (zi_nle hc_1523)
                    rw [li_8] at ni_1703
                    have hv_1704 : zI v_3 9 12 := zI.lt_r zc_8 hv_1514 (zi_nle hc_1523) (by decide)
                    refine lv_aload_n hx hb d_Words_waysOf_29 rfl (lv_at hl 1 rfl) ?_
                    refine lv_aload_n hx hb d_Words_waysOf_30 rfl (lv_at hl 4 rfl) ?_
                    refine lv_aload_n hx hb d_Words_waysOf_31 rfl (lv_at hl 2 rfl) ?_
                    refine lv_iload_n hx hb d_Words_waysOf_32 rfl (lv_at hl 3 rfl) ?_
                    refine lv_iload hx hb d_Words_waysOf_33 (lv_at hl 0 rfl) ?_
                    refine z_callV (index := 99) (As := [.int b2, .int 8]) (rest := [.ref b3, .ref b0]) (wr := [(b17, .inl (G.2 0, 20, .inl b20)), (b27, .inl (G.2 0, 241, .inl b37)), (b0, .inr (7, [.ref b4, .ref b5, .ref b6, .ref b7, .ref b8, .ref b9, .ref x_1518, .ref x_1519])), (x_1518, .inl (G.2 0, 241, .inl f_1520)), (x_1519, .inl (G.2 0, 241, .inl f_1521)), (b3, .inr (5, [.int b22, .int b23, .ref b24, .ref b25, .ref b26, .ref b27, .ref b28, .ref b29, .int b30, .ref b31, .ref b32, .ref b33, .ref b34, .ref b35, .ref b36])), (b31, .inl (G.2 0, 240, .inl b38))]) Z (s1_Traces_letterAt l G (b1) (b2) (8) (b14) (b15) (b16) (b17) (b18) (b19) (b21) hb2 (zI.wk (l' := 0) (h' := 11) zc_8 (by decide)) hb14 hb15 hb16 hb21) hl.1 q805 q580 q581 q3 q582 ⟨by decide, by decide, by show _ = some 2; decide +kernel⟩ ⟨Nat.le_of_ble_eq_true rfl, Nat.le_of_ble_eq_true rfl⟩ ⟨Nat.le_of_ble_eq_true rfl, Nat.le_of_ble_eq_true rfl⟩ rfl (Nat.le_of_ble_eq_true rfl) d_Words_waysOf_35 hP hD hS hA 2 2 rfl rfl rfl [2, 3] [0, 1, 4, 5, 6, 7, 8] rfl rfl rfl rfl (by decide) (fun v w1 H locs hw_1705 hP hD hS => ?_)
                    obtain ⟨x_1706, rfl, rfl, hx_1706⟩ := hw_1705
                    have hP : va_P G.1 classes [(b17, .inl (G.2 0, 20, .inl b20)), (b27, .inl (G.2 0, 241, .inl b37)), (b0, .inr (7, [.ref b4, .ref b5, .ref b6, .ref b7, .ref b8, .ref b9, .ref x_1518, .ref x_1519])), (x_1518, .inl (G.2 0, 241, .inl f_1520)), (x_1519, .inl (G.2 0, 241, .inl f_1521)), (b3, .inr (5, [.int b22, .int b23, .ref b24, .ref b25, .ref b26, .ref b27, .ref b28, .ref b29, .int b30, .ref b31, .ref b32, .ref b33, .ref b34, .ref b35, .ref b36])), (b31, .inl (G.2 0, 240, .inl b38)), (b1, .inr (2, [.int b14, .int b15, .int b16, .ref b17, .ref b18, .ref b19])), (b18, .inl (G.2 0, 240, .inl b21))] H := hP
                    have hD := z_tie hP hD rfl
                    refine W.widen (k := 0) (n := 0) (Nat.le_of_ble_eq_true rfl) (Nat.le_of_ble_eq_true rfl) ?_
                    refine z_callV (index := 103) (As := [.ref b3, .int x_1706]) (rest := []) (wr := [(b17, .inl (G.2 0, 20, .inl b20)), (b27, .inl (G.2 0, 241, .inl b37)), (b1, .inr (2, [.int b14, .int b15, .int b16, .ref b17, .ref b18, .ref b19])), (b18, .inl (G.2 0, 240, .inl b21))]) Z (s2_Words_stepWays l G (b0) (b3) (x_1706) (b4) (b5) (b6) (b7) (b8) (b9) (x_1518) (x_1519) (f_1520) (f_1521) (b22) (b23) (b24) (b25) (b26) (b27) (b28) (b29) (b30) (b31) (b32) (b33) (b34) (b35) (b36) (b38) hx_1706 hb22 hb23 hb30 hb38) hl.1 q806 q808 qs22 q8 q809 ⟨by decide, by decide, by show _ = some 2; decide +kernel⟩ ⟨Nat.le_of_ble_eq_true rfl, Nat.le_of_ble_eq_true rfl⟩ ⟨Nat.le_of_ble_eq_true rfl, Nat.le_of_ble_eq_true rfl⟩ rfl (Nat.le_of_ble_eq_true rfl) d_Words_waysOf_38 hP hD hS hA 2 7 rfl rfl rfl [2, 3, 4, 5, 6] [0, 1, 7, 8] rfl rfl rfl rfl (by decide) (fun v w1 H locs hw_1707 hP hD hS => ?_)
                    obtain ⟨x_1708, x_1709, f_1710, f_1711, rfl, rfl⟩ := hw_1707
                    have hP : va_P G.1 classes [(b17, .inl (G.2 0, 20, .inl b20)), (b27, .inl (G.2 0, 241, .inl b37)), (b1, .inr (2, [.int b14, .int b15, .int b16, .ref b17, .ref b18, .ref b19])), (b18, .inl (G.2 0, 240, .inl b21)), (b0, .inr (7, [.ref b4, .ref b5, .ref b6, .ref b7, .ref b8, .ref b9, .ref x_1708, .ref x_1709])), (x_1708, .inl (G.2 0, 241, .inl f_1710)), (x_1709, .inl (G.2 0, 241, .inl f_1711)), (b3, .inr (5, [.int b22, .int b23, .ref b24, .ref b25, .ref b26, .ref b27, .ref b28, .ref b29, .int b30, .ref b31, .ref b32, .ref b33, .ref b34, .ref b35, .ref b36])), (b31, .inl (G.2 0, 240, .inl b38))] H := hP
                    have hD := z_tie hP hD rfl
                    refine W.widen (k := 0) (n := 0) (Nat.le_of_ble_eq_true rfl) (Nat.le_of_ble_eq_true rfl) ?_
                    refine lv_iinc (v := 9) (lv' := [(4, .int 9), (0, .ref b0), (1, .ref b1), (2, .int b2), (3, .ref b3)]) hx hb d_Words_waysOf_41 hl (k := 0) rfl (by decide +kernel) (by decide) rfl (fun ls hl => ?_)
                    refine lv_goto (tgt := 18) hx hb d_Words_waysOf_44 (by decide) ?_
                    refine lv_iload hx hb d_Words_waysOf_18 (lv_at hl 0 rfl) ?_
                    refine lv_aload_n hx hb d_Words_waysOf_20 rfl (lv_at hl 2 rfl) ?_
                    refine va_get (D := G.1) (ci := 2) (v := .ref b17) (C := R_Traces) (T := F_Traces) (N := 6) hx hb hts i_Traces hown hK hP 2 rfl rfl 3 (by decide) (hts _ q69) (fun _ h9 => h9) rfl d_Words_waysOf_21 ?_
                    refine lv_iload_n hx hb d_Words_waysOf_24 rfl (lv_at hl 3 rfl) ?_
                    refine va_iald hx hb hK hP 0 0 rfl rfl (zI.inn hb2 (by decide)) d_Words_waysOf_25 ?_
                    refine lv_topi (fun v_1712 ev_1712 => ?_)
                    obtain rfl : v_3 = v_1712 := ev_3.trans ev_1712.symm
                    refine lv_icmp_ge (tgt := 47) hx hb d_Words_waysOf_26 (by decide) (fun hc_1713 => ?_) (fun hc_1713 => ?_)
                    · have _nhc_1713 := hc_1713
                      have ni_1714 := (fa_le _ _).mp hc_1713
                      rw [li_9] at ni_1714
                      have hv_1715 : zI v_3 9 9 := zI.le_l hv_1704 zc_9 hc_1713 (by decide)
                      refine lv_iconst (v := 0) hx hb d_Words_waysOf_47 (by decide) ?_
                      refine lv_istore (lv' := [(4, .int 0), (0, .ref b0), (1, .ref b1), (2, .int b2), (3, .ref b3)]) hx hb d_Words_waysOf_48 hl (by decide) rfl (fun ls hl => ?_)
                      refine lv_iconst (v := 0) hx hb d_Words_waysOf_50 (by decide) ?_
                      refine lv_istore (lv' := [(5, .int 0), (4, .int 0), (0, .ref b0), (1, .ref b1), (2, .int b2), (3, .ref b3)]) hx hb d_Words_waysOf_51 hl (by decide) rfl (fun ls hl => ?_)
                      suffices key : ∀ (k_1874 : Nat) (y_1875 : Int32) (y_1876 : Int32) (H : Heap) (locs : List Loc) (ls : Array Slot), (zI y_1875 0 241) → (zI y_1876 (-2147483648) 1000000) → (241 : Int) - y_1875.toInt < (k_1874 : Int) → va_P G.1 classes [(b17, .inl (G.2 0, 20, .inl b20)), (b27, .inl (G.2 0, 241, .inl b37)), (b1, .inr (2, [.int b14, .int b15, .int b16, .ref b17, .ref b18, .ref b19])), (b18, .inl (G.2 0, 240, .inl b21)), (b0, .inr (7, [.ref b4, .ref b5, .ref b6, .ref b7, .ref b8, .ref b9, .ref x_1708, .ref x_1709])), (x_1708, .inl (G.2 0, 241, .inl f_1710)), (x_1709, .inl (G.2 0, 241, .inl f_1711)), (b3, .inr (5, [.int b22, .int b23, .ref b24, .ref b25, .ref b26, .ref b27, .ref b28, .ref b29, .int b30, .ref b31, .ref b32, .ref b33, .ref b34, .ref b35, .ref b36])), (b31, .inl (G.2 0, 240, .inl b38))] H → va_D A [(b17, .inl (G.2 0, 20, .inl b20)), (b27, .inl (G.2 0, 241, .inl b37)), (b1, .inr (2, [.int b14, .int b15, .int b16, .ref b17, .ref b18, .ref b19])), (b18, .inl (G.2 0, 240, .inl b21)), (b0, .inr (7, [.ref b4, .ref b5, .ref b6, .ref b7, .ref b8, .ref b9, .ref x_1708, .ref x_1709])), (x_1708, .inl (G.2 0, 241, .inl f_1710)), (x_1709, .inl (G.2 0, 241, .inl f_1711)), (b3, .inr (5, [.int b22, .int b23, .ref b24, .ref b25, .ref b26, .ref b27, .ref b28, .ref b29, .int b30, .ref b31, .ref b32, .ref b33, .ref b34, .ref b35, .ref b36])), (b31, .inl (G.2 0, 240, .inl b38))] → va_S A s.heap H locs → lv_has ls 6 [(5, .int y_1875), (4, .int y_1876), (0, .ref b0), (1, .ref b1), (2, .int b2), (3, .ref b3)] → W p l e m_s1_Words_waysOf s m ([.ref b0, .ref b1, .int b2, .ref b3] : List Value).toArray below meth c H locs 0 0 (MQ below (zQ G (fun v w => ∃ (e0 : Int32), ∃ (e1 : Nat), ∃ (e2 : Nat), ∃ (e3 : Nat → Int32), ∃ (e4 : Nat → Int32), v = some (.int e0) ∧ w = [(b0, .inr (7, [.ref b4, .ref b5, .ref b6, .ref b7, .ref b8, .ref b9, .ref e1, .ref e2])), (e1, .inl (G.2 0, 241, .inl e3)), (e2, .inl (G.2 0, 241, .inl e4)), (b1, .inr (2, [.int b14, .int b15, .int b16, .ref b17, .ref b18, .ref b19])), (b17, .inl (G.2 0, 20, .inl b20)), (b18, .inl (G.2 0, 240, .inl b21)), (b3, .inr (5, [.int b22, .int b23, .ref b24, .ref b25, .ref b26, .ref b27, .ref b28, .ref b29, .int b30, .ref b31, .ref b32, .ref b33, .ref b34, .ref b35, .ref b36])), (b27, .inl (G.2 0, 241, .inl b37)), (b31, .inl (G.2 0, 240, .inl b38))] ∧ (zI e0 (-2147483648) 1000000)) A) ([.ref b0, .ref b1, .int b2, .ref b3] : List Value).toArray s m_s1_Words_waysOf.cells m_s1_Words_waysOf.slots A) (F0 m 53 ls []) by
                        exact key 242 (0) (0) _ _ _ (zI.wk (l' := 0) (h' := 241) zc_0 (by decide)) (zI.wk (l' := (-2147483648)) (h' := 1000000) zc_0 (by decide)) (zm_upi (zI.wk (l' := 0) (h' := 241) zc_0 (by decide)) (by decide)) hP hD hS (lv_sub hl [0, 1, 2, 3, 4, 5] rfl)
                      intro k_1874
                      induction k_1874 with
                      | zero =>
                        intro y_1875 y_1876 H locs ls hy_1875 hy_1876 hmk_1874 hP hD hS hl
                        exact (zm_up0 hy_1875 hmk_1874).elim
                      | succ k_1874 ihk_1874 =>
                        intro y_1875 y_1876 H locs ls hy_1875 hy_1876 hmk_1874 hP hD hS hl
                        refine lv_iload hx hb d_Words_waysOf_53 (lv_at hl 0 rfl) ?_
                        refine lv_aload_n hx hb d_Words_waysOf_55 rfl (lv_at hl 5 rfl) ?_
                        refine va_get (D := G.1) (ci := 5) (v := .int b23) (C := R_Machine) (T := F_Machine) (N := 15) hx hb hts i_Machine hown hK hP 7 rfl rfl 1 (by decide) (hts _ q166) (fun _ h9 => h9) rfl d_Words_waysOf_56 ?_
                        refine lv_icmp_ge (tgt := 95) hx hb d_Words_waysOf_59 (by decide) (fun hc_1877 => ?_) (fun hc_1877 => ?_)
                        · have _nhc_1877 := hc_1877
                          have ni_1878 := (fa_le _ _).mp hc_1877
                          refine lv_iload hx hb d_Words_waysOf_95 (lv_at hl 1 rfl) ?_
                          exact z_iret hx hb hr hlocks (hP.sub [4, 5, 6, 2, 0, 3, 7, 1, 8] rfl) (hD.sub [4, 5, 6, 2, 0, 3, 7, 1, 8] (by decide) rfl) hS (Nat.le_of_ble_eq_true rfl) (Nat.le_of_ble_eq_true rfl) d_Words_waysOf_97 ⟨y_1876, x_1708, x_1709, f_1710, f_1711, rfl, rfl, hy_1876⟩
                        · have _nhc_1877 := hc_1877
                          have ni_1879 := (fa_lt _ _).mp (zi_nle hc_1877)
                          have hv_1880 : zI y_1875 0 240 := zI.lt_l hy_1875 hb23 (zi_nle hc_1877) (by decide)
                          have hv_1881 : zI b23 1 241 := zI.lt_r hy_1875 hb23 (zi_nle hc_1877) (by decide)
                          refine lv_aload_n hx hb d_Words_waysOf_62 rfl (lv_at hl 5 rfl) ?_
                          refine va_get (D := G.1) (ci := 5) (v := .ref b27) (C := R_Machine) (T := F_Machine) (N := 15) hx hb hts i_Machine hown hK hP 7 rfl rfl 5 (by decide) (hts _ q177) (fun _ h9 => h9) rfl d_Words_waysOf_63 ?_
                          refine lv_iload hx hb d_Words_waysOf_66 (lv_at hl 0 rfl) ?_
                          refine va_iald hx hb hK hP 1 0 rfl rfl (zI.inn hv_1880 (by decide)) d_Words_waysOf_68 ?_
                          refine lv_topi (fun v_1882 ev_1882 => ?_)
                          refine lv_if_le (tgt := 89) hx hb d_Words_waysOf_69 (by decide) (fun hc_1883 => ?_) (fun hc_1883 => ?_)
                          · have _nhc_1883 := hc_1883
                            have ni_1884 := (fa_le _ _).mp hc_1883
                            rw [li_0] at ni_1884
                            have hv_1885 : zI v_1882 (-2147483648) 0 := zI.le_l (zI_all v_1882) zc_0 hc_1883 (by decide)
                            obtain ⟨v_1886, ev_1886⟩ : ∃ z : Int32, z = y_1875 + 1 := ⟨_, rfl⟩
                            obtain ⟨qv_1886, hv_1886⟩ := zI_add (l := 1) (h := 241) hv_1880 zc_1 ev_1886 (by decide)
                            rw [li_1] at qv_1886
                            refine lv_iinc (v := v_1886) (lv' := [(5, .int v_1886), (4, .int y_1876), (0, .ref b0), (1, .ref b1), (2, .int b2), (3, .ref b3)]) hx hb d_Words_waysOf_89 hl (k := 0) rfl (by rw [ev_1886]; rfl) (by decide) rfl (fun ls hl => ?_)
                            refine lv_goto (tgt := 53) hx hb d_Words_waysOf_92 (by decide) ?_
                            exact ihk_1874 (v_1886) (y_1876) _ _ _ (zI.wk (l' := 0) (h' := 241) hv_1886 (by decide)) hy_1876 (zm_up qv_1886 hmk_1874 (by decide)) hP hD hS (lv_sub hl [0, 1, 2, 3, 4, 5] rfl)
                          · have _nhc_1883 := hc_1883
                            have ni_1887 := (fa_lt _ _).mp (zi_nle hc_1883)
                            rw [li_0] at ni_1887
                            have hv_1888 : zI v_1882 1 2147483647 := zI.lt_r zc_0 (zI_all v_1882) (zi_nle hc_1883) (by decide)
                            refine lv_iload hx hb d_Words_waysOf_72 (lv_at hl 1 rfl) ?_
                            refine lv_aload_n hx hb d_Words_waysOf_74 rfl (lv_at hl 2 rfl) ?_
                            refine va_get (D := G.1) (ci := 7) (v := .ref x_1708) (C := R_Words) (T := F_Words) (N := 8) hx hb hts i_Words hown hK hP 4 rfl rfl 6 (by decide) (hts _ q272) (fun _ h9 => h9) rfl d_Words_waysOf_75 ?_
                            refine lv_iload hx hb d_Words_waysOf_78 (lv_at hl 0 rfl) ?_
                            refine va_iald hx hb hK hP 5 0 rfl rfl (zI.inn hv_1880 (by decide)) d_Words_waysOf_80 ?_
                            refine lv_topi (fun v_1889 ev_1889 => ?_)
                            refine lv_iadd hx hb d_Words_waysOf_81 ?_
                            refine lv_topi (fun v_1890 ev_1890 => ?_)
                            refine lv_ldc hx hb hown (hts _ q813) d_Words_waysOf_82 ?_
                            refine va_mmin hx hb (hml.trans hl.1.symm) hown (hts _ q814) (hts _ q592) (hts _ q20) (hts _ q593) (Nat.le_of_ble_eq_true rfl) (Nat.le_of_ble_eq_true rfl) (Nat.le_of_ble_eq_true rfl) (Nat.le_of_ble_eq_true rfl) d_Words_waysOf_84 ?_
                            refine lv_topi (fun v_1891 ev_1891 => ?_)
                            have hv_1891 := zI_min (l := (-2147483648)) (h := 1000000) (zI_all v_1890) zc_1000000 ev_1891 (by decide)
                            refine lv_istore (lv' := [(4, .int v_1891), (5, .int y_1875), (0, .ref b0), (1, .ref b1), (2, .int b2), (3, .ref b3)]) hx hb d_Words_waysOf_87 hl (by decide) rfl (fun ls hl => ?_)
                            obtain ⟨v_1892, ev_1892⟩ : ∃ z : Int32, z = y_1875 + 1 := ⟨_, rfl⟩
                            obtain ⟨qv_1892, hv_1892⟩ := zI_add (l := 1) (h := 241) hv_1880 zc_1 ev_1892 (by decide)
                            rw [li_1] at qv_1892
                            refine lv_iinc (v := v_1892) (lv' := [(5, .int v_1892), (4, .int v_1891), (0, .ref b0), (1, .ref b1), (2, .int b2), (3, .ref b3)]) hx hb d_Words_waysOf_89 hl (k := 1) rfl (by rw [ev_1892]; rfl) (by decide) rfl (fun ls hl => ?_)
                            refine lv_goto (tgt := 53) hx hb d_Words_waysOf_92 (by decide) ?_
                            exact ihk_1874 (v_1892) (v_1891) _ _ _ (zI.wk (l' := 0) (h' := 241) hv_1892 (by decide)) hv_1891 (zm_up qv_1892 hmk_1874 (by decide)) hP hD hS (lv_sub hl [0, 1, 2, 3, 4, 5] rfl)
                    · have _nhc_1713 := hc_1713
                      have ni_1893 := (fa_lt _ _).mp (zi_nle hc_1713)
                      rw [li_9] at ni_1893
                      have hv_1894 : zI v_3 10 12 := zI.lt_r zc_9 hv_1704 (zi_nle hc_1713) (by decide)
                      refine lv_aload_n hx hb d_Words_waysOf_29 rfl (lv_at hl 1 rfl) ?_
                      refine lv_aload_n hx hb d_Words_waysOf_30 rfl (lv_at hl 4 rfl) ?_
                      refine lv_aload_n hx hb d_Words_waysOf_31 rfl (lv_at hl 2 rfl) ?_
                      refine lv_iload_n hx hb d_Words_waysOf_32 rfl (lv_at hl 3 rfl) ?_
                      refine lv_iload hx hb d_Words_waysOf_33 (lv_at hl 0 rfl) ?_
                      refine z_callV (index := 99) (As := [.int b2, .int 9]) (rest := [.ref b3, .ref b0]) (wr := [(b17, .inl (G.2 0, 20, .inl b20)), (b27, .inl (G.2 0, 241, .inl b37)), (b0, .inr (7, [.ref b4, .ref b5, .ref b6, .ref b7, .ref b8, .ref b9, .ref x_1708, .ref x_1709])), (x_1708, .inl (G.2 0, 241, .inl f_1710)), (x_1709, .inl (G.2 0, 241, .inl f_1711)), (b3, .inr (5, [.int b22, .int b23, .ref b24, .ref b25, .ref b26, .ref b27, .ref b28, .ref b29, .int b30, .ref b31, .ref b32, .ref b33, .ref b34, .ref b35, .ref b36])), (b31, .inl (G.2 0, 240, .inl b38))]) Z (s1_Traces_letterAt l G (b1) (b2) (9) (b14) (b15) (b16) (b17) (b18) (b19) (b21) hb2 (zI.wk (l' := 0) (h' := 11) zc_9 (by decide)) hb14 hb15 hb16 hb21) hl.1 q805 q580 q581 q3 q582 ⟨by decide, by decide, by show _ = some 2; decide +kernel⟩ ⟨Nat.le_of_ble_eq_true rfl, Nat.le_of_ble_eq_true rfl⟩ ⟨Nat.le_of_ble_eq_true rfl, Nat.le_of_ble_eq_true rfl⟩ rfl (Nat.le_of_ble_eq_true rfl) d_Words_waysOf_35 hP hD hS hA 2 2 rfl rfl rfl [2, 3] [0, 1, 4, 5, 6, 7, 8] rfl rfl rfl rfl (by decide) (fun v w1 H locs hw_1895 hP hD hS => ?_)
                      obtain ⟨x_1896, rfl, rfl, hx_1896⟩ := hw_1895
                      have hP : va_P G.1 classes [(b17, .inl (G.2 0, 20, .inl b20)), (b27, .inl (G.2 0, 241, .inl b37)), (b0, .inr (7, [.ref b4, .ref b5, .ref b6, .ref b7, .ref b8, .ref b9, .ref x_1708, .ref x_1709])), (x_1708, .inl (G.2 0, 241, .inl f_1710)), (x_1709, .inl (G.2 0, 241, .inl f_1711)), (b3, .inr (5, [.int b22, .int b23, .ref b24, .ref b25, .ref b26, .ref b27, .ref b28, .ref b29, .int b30, .ref b31, .ref b32, .ref b33, .ref b34, .ref b35, .ref b36])), (b31, .inl (G.2 0, 240, .inl b38)), (b1, .inr (2, [.int b14, .int b15, .int b16, .ref b17, .ref b18, .ref b19])), (b18, .inl (G.2 0, 240, .inl b21))] H := hP
                      have hD := z_tie hP hD rfl
                      refine W.widen (k := 0) (n := 0) (Nat.le_of_ble_eq_true rfl) (Nat.le_of_ble_eq_true rfl) ?_
                      refine z_callV (index := 103) (As := [.ref b3, .int x_1896]) (rest := []) (wr := [(b17, .inl (G.2 0, 20, .inl b20)), (b27, .inl (G.2 0, 241, .inl b37)), (b1, .inr (2, [.int b14, .int b15, .int b16, .ref b17, .ref b18, .ref b19])), (b18, .inl (G.2 0, 240, .inl b21))]) Z (s2_Words_stepWays l G (b0) (b3) (x_1896) (b4) (b5) (b6) (b7) (b8) (b9) (x_1708) (x_1709) (f_1710) (f_1711) (b22) (b23) (b24) (b25) (b26) (b27) (b28) (b29) (b30) (b31) (b32) (b33) (b34) (b35) (b36) (b38) hx_1896 hb22 hb23 hb30 hb38) hl.1 q806 q808 qs22 q8 q809 ⟨by decide, by decide, by show _ = some 2; decide +kernel⟩ ⟨Nat.le_of_ble_eq_true rfl, Nat.le_of_ble_eq_true rfl⟩ ⟨Nat.le_of_ble_eq_true rfl, Nat.le_of_ble_eq_true rfl⟩ rfl (Nat.le_of_ble_eq_true rfl) d_Words_waysOf_38 hP hD hS hA 2 7 rfl rfl rfl [2, 3, 4, 5, 6] [0, 1, 7, 8] rfl rfl rfl rfl (by decide) (fun v w1 H locs hw_1897 hP hD hS => ?_)
                      obtain ⟨x_1898, x_1899, f_1900, f_1901, rfl, rfl⟩ := hw_1897
                      have hP : va_P G.1 classes [(b17, .inl (G.2 0, 20, .inl b20)), (b27, .inl (G.2 0, 241, .inl b37)), (b1, .inr (2, [.int b14, .int b15, .int b16, .ref b17, .ref b18, .ref b19])), (b18, .inl (G.2 0, 240, .inl b21)), (b0, .inr (7, [.ref b4, .ref b5, .ref b6, .ref b7, .ref b8, .ref b9, .ref x_1898, .ref x_1899])), (x_1898, .inl (G.2 0, 241, .inl f_1900)), (x_1899, .inl (G.2 0, 241, .inl f_1901)), (b3, .inr (5, [.int b22, .int b23, .ref b24, .ref b25, .ref b26, .ref b27, .ref b28, .ref b29, .int b30, .ref b31, .ref b32, .ref b33, .ref b34, .ref b35, .ref b36])), (b31, .inl (G.2 0, 240, .inl b38))] H := hP
                      have hD := z_tie hP hD rfl
                      refine W.widen (k := 0) (n := 0) (Nat.le_of_ble_eq_true rfl) (Nat.le_of_ble_eq_true rfl) ?_
                      refine lv_iinc (v := 10) (lv' := [(4, .int 10), (0, .ref b0), (1, .ref b1), (2, .int b2), (3, .ref b3)]) hx hb d_Words_waysOf_41 hl (k := 0) rfl (by decide +kernel) (by decide) rfl (fun ls hl => ?_)
                      refine lv_goto (tgt := 18) hx hb d_Words_waysOf_44 (by decide) ?_
                      refine lv_iload hx hb d_Words_waysOf_18 (lv_at hl 0 rfl) ?_
                      refine lv_aload_n hx hb d_Words_waysOf_20 rfl (lv_at hl 2 rfl) ?_
                      refine va_get (D := G.1) (ci := 2) (v := .ref b17) (C := R_Traces) (T := F_Traces) (N := 6) hx hb hts i_Traces hown hK hP 2 rfl rfl 3 (by decide) (hts _ q69) (fun _ h9 => h9) rfl d_Words_waysOf_21 ?_
                      refine lv_iload_n hx hb d_Words_waysOf_24 rfl (lv_at hl 3 rfl) ?_
                      refine va_iald hx hb hK hP 0 0 rfl rfl (zI.inn hb2 (by decide)) d_Words_waysOf_25 ?_
                      refine lv_topi (fun v_1902 ev_1902 => ?_)
                      obtain rfl : v_3 = v_1902 := ev_3.trans ev_1902.symm
                      refine lv_icmp_ge (tgt := 47) hx hb d_Words_waysOf_26 (by decide) (fun hc_1903 => ?_) (fun hc_1903 => ?_)
                      · have _nhc_1903 := hc_1903
                        have ni_1904 := (fa_le _ _).mp hc_1903
                        rw [li_10] at ni_1904
                        have hv_1905 : zI v_3 10 10 := zI.le_l hv_1894 zc_10 hc_1903 (by decide)
                        refine lv_iconst (v := 0) hx hb d_Words_waysOf_47 (by decide) ?_
                        refine lv_istore (lv' := [(4, .int 0), (0, .ref b0), (1, .ref b1), (2, .int b2), (3, .ref b3)]) hx hb d_Words_waysOf_48 hl (by decide) rfl (fun ls hl => ?_)
                        refine lv_iconst (v := 0) hx hb d_Words_waysOf_50 (by decide) ?_
                        refine lv_istore (lv' := [(5, .int 0), (4, .int 0), (0, .ref b0), (1, .ref b1), (2, .int b2), (3, .ref b3)]) hx hb d_Words_waysOf_51 hl (by decide) rfl (fun ls hl => ?_)
                        suffices key : ∀ (k_2064 : Nat) (y_2065 : Int32) (y_2066 : Int32) (H : Heap) (locs : List Loc) (ls : Array Slot), (zI y_2065 0 241) → (zI y_2066 (-2147483648) 1000000) → (241 : Int) - y_2065.toInt < (k_2064 : Int) → va_P G.1 classes [(b17, .inl (G.2 0, 20, .inl b20)), (b27, .inl (G.2 0, 241, .inl b37)), (b1, .inr (2, [.int b14, .int b15, .int b16, .ref b17, .ref b18, .ref b19])), (b18, .inl (G.2 0, 240, .inl b21)), (b0, .inr (7, [.ref b4, .ref b5, .ref b6, .ref b7, .ref b8, .ref b9, .ref x_1898, .ref x_1899])), (x_1898, .inl (G.2 0, 241, .inl f_1900)), (x_1899, .inl (G.2 0, 241, .inl f_1901)), (b3, .inr (5, [.int b22, .int b23, .ref b24, .ref b25, .ref b26, .ref b27, .ref b28, .ref b29, .int b30, .ref b31, .ref b32, .ref b33, .ref b34, .ref b35, .ref b36])), (b31, .inl (G.2 0, 240, .inl b38))] H → va_D A [(b17, .inl (G.2 0, 20, .inl b20)), (b27, .inl (G.2 0, 241, .inl b37)), (b1, .inr (2, [.int b14, .int b15, .int b16, .ref b17, .ref b18, .ref b19])), (b18, .inl (G.2 0, 240, .inl b21)), (b0, .inr (7, [.ref b4, .ref b5, .ref b6, .ref b7, .ref b8, .ref b9, .ref x_1898, .ref x_1899])), (x_1898, .inl (G.2 0, 241, .inl f_1900)), (x_1899, .inl (G.2 0, 241, .inl f_1901)), (b3, .inr (5, [.int b22, .int b23, .ref b24, .ref b25, .ref b26, .ref b27, .ref b28, .ref b29, .int b30, .ref b31, .ref b32, .ref b33, .ref b34, .ref b35, .ref b36])), (b31, .inl (G.2 0, 240, .inl b38))] → va_S A s.heap H locs → lv_has ls 6 [(5, .int y_2065), (4, .int y_2066), (0, .ref b0), (1, .ref b1), (2, .int b2), (3, .ref b3)] → W p l e m_s1_Words_waysOf s m ([.ref b0, .ref b1, .int b2, .ref b3] : List Value).toArray below meth c H locs 0 0 (MQ below (zQ G (fun v w => ∃ (e0 : Int32), ∃ (e1 : Nat), ∃ (e2 : Nat), ∃ (e3 : Nat → Int32), ∃ (e4 : Nat → Int32), v = some (.int e0) ∧ w = [(b0, .inr (7, [.ref b4, .ref b5, .ref b6, .ref b7, .ref b8, .ref b9, .ref e1, .ref e2])), (e1, .inl (G.2 0, 241, .inl e3)), (e2, .inl (G.2 0, 241, .inl e4)), (b1, .inr (2, [.int b14, .int b15, .int b16, .ref b17, .ref b18, .ref b19])), (b17, .inl (G.2 0, 20, .inl b20)), (b18, .inl (G.2 0, 240, .inl b21)), (b3, .inr (5, [.int b22, .int b23, .ref b24, .ref b25, .ref b26, .ref b27, .ref b28, .ref b29, .int b30, .ref b31, .ref b32, .ref b33, .ref b34, .ref b35, .ref b36])), (b27, .inl (G.2 0, 241, .inl b37)), (b31, .inl (G.2 0, 240, .inl b38))] ∧ (zI e0 (-2147483648) 1000000)) A) ([.ref b0, .ref b1, .int b2, .ref b3] : List Value).toArray s m_s1_Words_waysOf.cells m_s1_Words_waysOf.slots A) (F0 m 53 ls []) by
                          exact key 242 (0) (0) _ _ _ (zI.wk (l' := 0) (h' := 241) zc_0 (by decide)) (zI.wk (l' := (-2147483648)) (h' := 1000000) zc_0 (by decide)) (zm_upi (zI.wk (l' := 0) (h' := 241) zc_0 (by decide)) (by decide)) hP hD hS (lv_sub hl [0, 1, 2, 3, 4, 5] rfl)
                        intro k_2064
                        induction k_2064 with
                        | zero =>
                          intro y_2065 y_2066 H locs ls hy_2065 hy_2066 hmk_2064 hP hD hS hl
                          exact (zm_up0 hy_2065 hmk_2064).elim
                        | succ k_2064 ihk_2064 =>
                          intro y_2065 y_2066 H locs ls hy_2065 hy_2066 hmk_2064 hP hD hS hl
                          refine lv_iload hx hb d_Words_waysOf_53 (lv_at hl 0 rfl) ?_
                          refine lv_aload_n hx hb d_Words_waysOf_55 rfl (lv_at hl 5 rfl) ?_
                          refine va_get (D := G.1) (ci := 5) (v := .int b23) (C := R_Machine) (T := F_Machine) (N := 15) hx hb hts i_Machine hown hK hP 7 rfl rfl 1 (by decide) (hts _ q166) (fun _ h9 => h9) rfl d_Words_waysOf_56 ?_
                          refine lv_icmp_ge (tgt := 95) hx hb d_Words_waysOf_59 (by decide) (fun hc_2067 => ?_) (fun hc_2067 => ?_)
                          · have _nhc_2067 := hc_2067
                            have ni_2068 := (fa_le _ _).mp hc_2067
                            refine lv_iload hx hb d_Words_waysOf_95 (lv_at hl 1 rfl) ?_
                            exact z_iret hx hb hr hlocks (hP.sub [4, 5, 6, 2, 0, 3, 7, 1, 8] rfl) (hD.sub [4, 5, 6, 2, 0, 3, 7, 1, 8] (by decide) rfl) hS (Nat.le_of_ble_eq_true rfl) (Nat.le_of_ble_eq_true rfl) d_Words_waysOf_97 ⟨y_2066, x_1898, x_1899, f_1900, f_1901, rfl, rfl, hy_2066⟩
                          · have _nhc_2067 := hc_2067
                            have ni_2069 := (fa_lt _ _).mp (zi_nle hc_2067)
                            have hv_2070 : zI y_2065 0 240 := zI.lt_l hy_2065 hb23 (zi_nle hc_2067) (by decide)
                            have hv_2071 : zI b23 1 241 := zI.lt_r hy_2065 hb23 (zi_nle hc_2067) (by decide)
                            refine lv_aload_n hx hb d_Words_waysOf_62 rfl (lv_at hl 5 rfl) ?_
                            refine va_get (D := G.1) (ci := 5) (v := .ref b27) (C := R_Machine) (T := F_Machine) (N := 15) hx hb hts i_Machine hown hK hP 7 rfl rfl 5 (by decide) (hts _ q177) (fun _ h9 => h9) rfl d_Words_waysOf_63 ?_
                            refine lv_iload hx hb d_Words_waysOf_66 (lv_at hl 0 rfl) ?_
                            refine va_iald hx hb hK hP 1 0 rfl rfl (zI.inn hv_2070 (by decide)) d_Words_waysOf_68 ?_
                            refine lv_topi (fun v_2072 ev_2072 => ?_)
                            refine lv_if_le (tgt := 89) hx hb d_Words_waysOf_69 (by decide) (fun hc_2073 => ?_) (fun hc_2073 => ?_)
                            · have _nhc_2073 := hc_2073
                              have ni_2074 := (fa_le _ _).mp hc_2073
                              rw [li_0] at ni_2074
                              have hv_2075 : zI v_2072 (-2147483648) 0 := zI.le_l (zI_all v_2072) zc_0 hc_2073 (by decide)
                              obtain ⟨v_2076, ev_2076⟩ : ∃ z : Int32, z = y_2065 + 1 := ⟨_, rfl⟩
                              obtain ⟨qv_2076, hv_2076⟩ := zI_add (l := 1) (h := 241) hv_2070 zc_1 ev_2076 (by decide)
                              rw [li_1] at qv_2076
                              refine lv_iinc (v := v_2076) (lv' := [(5, .int v_2076), (4, .int y_2066), (0, .ref b0), (1, .ref b1), (2, .int b2), (3, .ref b3)]) hx hb d_Words_waysOf_89 hl (k := 0) rfl (by rw [ev_2076]; rfl) (by decide) rfl (fun ls hl => ?_)
                              refine lv_goto (tgt := 53) hx hb d_Words_waysOf_92 (by decide) ?_
                              exact ihk_2064 (v_2076) (y_2066) _ _ _ (zI.wk (l' := 0) (h' := 241) hv_2076 (by decide)) hy_2066 (zm_up qv_2076 hmk_2064 (by decide)) hP hD hS (lv_sub hl [0, 1, 2, 3, 4, 5] rfl)
                            · have _nhc_2073 := hc_2073
                              have ni_2077 := (fa_lt _ _).mp (zi_nle hc_2073)
                              rw [li_0] at ni_2077
                              have hv_2078 : zI v_2072 1 2147483647 := zI.lt_r zc_0 (zI_all v_2072) (zi_nle hc_2073) (by decide)
                              refine lv_iload hx hb d_Words_waysOf_72 (lv_at hl 1 rfl) ?_
                              refine lv_aload_n hx hb d_Words_waysOf_74 rfl (lv_at hl 2 rfl) ?_
                              refine va_get (D := G.1) (ci := 7) (v := .ref x_1898) (C := R_Words) (T := F_Words) (N := 8) hx hb hts i_Words hown hK hP 4 rfl rfl 6 (by decide) (hts _ q272) (fun _ h9 => h9) rfl d_Words_waysOf_75 ?_
                              refine lv_iload hx hb d_Words_waysOf_78 (lv_at hl 0 rfl) ?_
                              refine va_iald hx hb hK hP 5 0 rfl rfl (zI.inn hv_2070 (by decide)) d_Words_waysOf_80 ?_
                              refine lv_topi (fun v_2079 ev_2079 => ?_)
                              refine lv_iadd hx hb d_Words_waysOf_81 ?_
                              refine lv_topi (fun v_2080 ev_2080 => ?_)
                              refine lv_ldc hx hb hown (hts _ q813) d_Words_waysOf_82 ?_
                              refine va_mmin hx hb (hml.trans hl.1.symm) hown (hts _ q814) (hts _ q592) (hts _ q20) (hts _ q593) (Nat.le_of_ble_eq_true rfl) (Nat.le_of_ble_eq_true rfl) (Nat.le_of_ble_eq_true rfl) (Nat.le_of_ble_eq_true rfl) d_Words_waysOf_84 ?_
                              refine lv_topi (fun v_2081 ev_2081 => ?_)
                              have hv_2081 := zI_min (l := (-2147483648)) (h := 1000000) (zI_all v_2080) zc_1000000 ev_2081 (by decide)
                              refine lv_istore (lv' := [(4, .int v_2081), (5, .int y_2065), (0, .ref b0), (1, .ref b1), (2, .int b2), (3, .ref b3)]) hx hb d_Words_waysOf_87 hl (by decide) rfl (fun ls hl => ?_)
                              obtain ⟨v_2082, ev_2082⟩ : ∃ z : Int32, z = y_2065 + 1 := ⟨_, rfl⟩
                              obtain ⟨qv_2082, hv_2082⟩ := zI_add (l := 1) (h := 241) hv_2070 zc_1 ev_2082 (by decide)
                              rw [li_1] at qv_2082
                              refine lv_iinc (v := v_2082) (lv' := [(5, .int v_2082), (4, .int v_2081), (0, .ref b0), (1, .ref b1), (2, .int b2), (3, .ref b3)]) hx hb d_Words_waysOf_89 hl (k := 1) rfl (by rw [ev_2082]; rfl) (by decide) rfl (fun ls hl => ?_)
                              refine lv_goto (tgt := 53) hx hb d_Words_waysOf_92 (by decide) ?_
                              exact ihk_2064 (v_2082) (v_2081) _ _ _ (zI.wk (l' := 0) (h' := 241) hv_2082 (by decide)) hv_2081 (zm_up qv_2082 hmk_2064 (by decide)) hP hD hS (lv_sub hl [0, 1, 2, 3, 4, 5] rfl)
                      · have _nhc_1903 := hc_1903
                        have ni_2083 := (fa_lt _ _).mp (zi_nle hc_1903)
                        rw [li_10] at ni_2083
                        have hv_2084 : zI v_3 11 12 := zI.lt_r zc_10 hv_1894 (zi_nle hc_1903) (by decide)
                        refine lv_aload_n hx hb d_Words_waysOf_29 rfl (lv_at hl 1 rfl) ?_
                        refine lv_aload_n hx hb d_Words_waysOf_30 rfl (lv_at hl 4 rfl) ?_
                        refine lv_aload_n hx hb d_Words_waysOf_31 rfl (lv_at hl 2 rfl) ?_
                        refine lv_iload_n hx hb d_Words_waysOf_32 rfl (lv_at hl 3 rfl) ?_
                        refine lv_iload hx hb d_Words_waysOf_33 (lv_at hl 0 rfl) ?_
                        refine z_callV (index := 99) (As := [.int b2, .int 10]) (rest := [.ref b3, .ref b0]) (wr := [(b17, .inl (G.2 0, 20, .inl b20)), (b27, .inl (G.2 0, 241, .inl b37)), (b0, .inr (7, [.ref b4, .ref b5, .ref b6, .ref b7, .ref b8, .ref b9, .ref x_1898, .ref x_1899])), (x_1898, .inl (G.2 0, 241, .inl f_1900)), (x_1899, .inl (G.2 0, 241, .inl f_1901)), (b3, .inr (5, [.int b22, .int b23, .ref b24, .ref b25, .ref b26, .ref b27, .ref b28, .ref b29, .int b30, .ref b31, .ref b32, .ref b33, .ref b34, .ref b35, .ref b36])), (b31, .inl (G.2 0, 240, .inl b38))]) Z (s1_Traces_letterAt l G (b1) (b2) (10) (b14) (b15) (b16) (b17) (b18) (b19) (b21) hb2 (zI.wk (l' := 0) (h' := 11) zc_10 (by decide)) hb14 hb15 hb16 hb21) hl.1 q805 q580 q581 q3 q582 ⟨by decide, by decide, by show _ = some 2; decide +kernel⟩ ⟨Nat.le_of_ble_eq_true rfl, Nat.le_of_ble_eq_true rfl⟩ ⟨Nat.le_of_ble_eq_true rfl, Nat.le_of_ble_eq_true rfl⟩ rfl (Nat.le_of_ble_eq_true rfl) d_Words_waysOf_35 hP hD hS hA 2 2 rfl rfl rfl [2, 3] [0, 1, 4, 5, 6, 7, 8] rfl rfl rfl rfl (by decide) (fun v w1 H locs hw_2085 hP hD hS => ?_)
                        obtain ⟨x_2086, rfl, rfl, hx_2086⟩ := hw_2085
                        have hP : va_P G.1 classes [(b17, .inl (G.2 0, 20, .inl b20)), (b27, .inl (G.2 0, 241, .inl b37)), (b0, .inr (7, [.ref b4, .ref b5, .ref b6, .ref b7, .ref b8, .ref b9, .ref x_1898, .ref x_1899])), (x_1898, .inl (G.2 0, 241, .inl f_1900)), (x_1899, .inl (G.2 0, 241, .inl f_1901)), (b3, .inr (5, [.int b22, .int b23, .ref b24, .ref b25, .ref b26, .ref b27, .ref b28, .ref b29, .int b30, .ref b31, .ref b32, .ref b33, .ref b34, .ref b35, .ref b36])), (b31, .inl (G.2 0, 240, .inl b38)), (b1, .inr (2, [.int b14, .int b15, .int b16, .ref b17, .ref b18, .ref b19])), (b18, .inl (G.2 0, 240, .inl b21))] H := hP
                        have hD := z_tie hP hD rfl
                        refine W.widen (k := 0) (n := 0) (Nat.le_of_ble_eq_true rfl) (Nat.le_of_ble_eq_true rfl) ?_
                        refine z_callV (index := 103) (As := [.ref b3, .int x_2086]) (rest := []) (wr := [(b17, .inl (G.2 0, 20, .inl b20)), (b27, .inl (G.2 0, 241, .inl b37)), (b1, .inr (2, [.int b14, .int b15, .int b16, .ref b17, .ref b18, .ref b19])), (b18, .inl (G.2 0, 240, .inl b21))]) Z (s2_Words_stepWays l G (b0) (b3) (x_2086) (b4) (b5) (b6) (b7) (b8) (b9) (x_1898) (x_1899) (f_1900) (f_1901) (b22) (b23) (b24) (b25) (b26) (b27) (b28) (b29) (b30) (b31) (b32) (b33) (b34) (b35) (b36) (b38) hx_2086 hb22 hb23 hb30 hb38) hl.1 q806 q808 qs22 q8 q809 ⟨by decide, by decide, by show _ = some 2; decide +kernel⟩ ⟨Nat.le_of_ble_eq_true rfl, Nat.le_of_ble_eq_true rfl⟩ ⟨Nat.le_of_ble_eq_true rfl, Nat.le_of_ble_eq_true rfl⟩ rfl (Nat.le_of_ble_eq_true rfl) d_Words_waysOf_38 hP hD hS hA 2 7 rfl rfl rfl [2, 3, 4, 5, 6] [0, 1, 7, 8] rfl rfl rfl rfl (by decide) (fun v w1 H locs hw_2087 hP hD hS => ?_)
                        obtain ⟨x_2088, x_2089, f_2090, f_2091, rfl, rfl⟩ := hw_2087
                        have hP : va_P G.1 classes [(b17, .inl (G.2 0, 20, .inl b20)), (b27, .inl (G.2 0, 241, .inl b37)), (b1, .inr (2, [.int b14, .int b15, .int b16, .ref b17, .ref b18, .ref b19])), (b18, .inl (G.2 0, 240, .inl b21)), (b0, .inr (7, [.ref b4, .ref b5, .ref b6, .ref b7, .ref b8, .ref b9, .ref x_2088, .ref x_2089])), (x_2088, .inl (G.2 0, 241, .inl f_2090)), (x_2089, .inl (G.2 0, 241, .inl f_2091)), (b3, .inr (5, [.int b22, .int b23, .ref b24, .ref b25, .ref b26, .ref b27, .ref b28, .ref b29, .int b30, .ref b31, .ref b32, .ref b33, .ref b34, .ref b35, .ref b36])), (b31, .inl (G.2 0, 240, .inl b38))] H := hP
                        have hD := z_tie hP hD rfl
                        refine W.widen (k := 0) (n := 0) (Nat.le_of_ble_eq_true rfl) (Nat.le_of_ble_eq_true rfl) ?_
                        refine lv_iinc (v := 11) (lv' := [(4, .int 11), (0, .ref b0), (1, .ref b1), (2, .int b2), (3, .ref b3)]) hx hb d_Words_waysOf_41 hl (k := 0) rfl (by decide +kernel) (by decide) rfl (fun ls hl => ?_)
                        refine lv_goto (tgt := 18) hx hb d_Words_waysOf_44 (by decide) ?_
                        refine lv_iload hx hb d_Words_waysOf_18 (lv_at hl 0 rfl) ?_
                        refine lv_aload_n hx hb d_Words_waysOf_20 rfl (lv_at hl 2 rfl) ?_
                        refine va_get (D := G.1) (ci := 2) (v := .ref b17) (C := R_Traces) (T := F_Traces) (N := 6) hx hb hts i_Traces hown hK hP 2 rfl rfl 3 (by decide) (hts _ q69) (fun _ h9 => h9) rfl d_Words_waysOf_21 ?_
                        refine lv_iload_n hx hb d_Words_waysOf_24 rfl (lv_at hl 3 rfl) ?_
                        refine va_iald hx hb hK hP 0 0 rfl rfl (zI.inn hb2 (by decide)) d_Words_waysOf_25 ?_
                        refine lv_topi (fun v_2092 ev_2092 => ?_)
                        obtain rfl : v_3 = v_2092 := ev_3.trans ev_2092.symm
                        refine lv_icmp_ge (tgt := 47) hx hb d_Words_waysOf_26 (by decide) (fun hc_2093 => ?_) (fun hc_2093 => ?_)
                        · have _nhc_2093 := hc_2093
                          have ni_2094 := (fa_le _ _).mp hc_2093
                          rw [li_11] at ni_2094
                          have hv_2095 : zI v_3 11 11 := zI.le_l hv_2084 zc_11 hc_2093 (by decide)
                          refine lv_iconst (v := 0) hx hb d_Words_waysOf_47 (by decide) ?_
                          refine lv_istore (lv' := [(4, .int 0), (0, .ref b0), (1, .ref b1), (2, .int b2), (3, .ref b3)]) hx hb d_Words_waysOf_48 hl (by decide) rfl (fun ls hl => ?_)
                          refine lv_iconst (v := 0) hx hb d_Words_waysOf_50 (by decide) ?_
                          refine lv_istore (lv' := [(5, .int 0), (4, .int 0), (0, .ref b0), (1, .ref b1), (2, .int b2), (3, .ref b3)]) hx hb d_Words_waysOf_51 hl (by decide) rfl (fun ls hl => ?_)
                          suffices key : ∀ (k_2254 : Nat) (y_2255 : Int32) (y_2256 : Int32) (H : Heap) (locs : List Loc) (ls : Array Slot), (zI y_2255 0 241) → (zI y_2256 (-2147483648) 1000000) → (241 : Int) - y_2255.toInt < (k_2254 : Int) → va_P G.1 classes [(b17, .inl (G.2 0, 20, .inl b20)), (b27, .inl (G.2 0, 241, .inl b37)), (b1, .inr (2, [.int b14, .int b15, .int b16, .ref b17, .ref b18, .ref b19])), (b18, .inl (G.2 0, 240, .inl b21)), (b0, .inr (7, [.ref b4, .ref b5, .ref b6, .ref b7, .ref b8, .ref b9, .ref x_2088, .ref x_2089])), (x_2088, .inl (G.2 0, 241, .inl f_2090)), (x_2089, .inl (G.2 0, 241, .inl f_2091)), (b3, .inr (5, [.int b22, .int b23, .ref b24, .ref b25, .ref b26, .ref b27, .ref b28, .ref b29, .int b30, .ref b31, .ref b32, .ref b33, .ref b34, .ref b35, .ref b36])), (b31, .inl (G.2 0, 240, .inl b38))] H → va_D A [(b17, .inl (G.2 0, 20, .inl b20)), (b27, .inl (G.2 0, 241, .inl b37)), (b1, .inr (2, [.int b14, .int b15, .int b16, .ref b17, .ref b18, .ref b19])), (b18, .inl (G.2 0, 240, .inl b21)), (b0, .inr (7, [.ref b4, .ref b5, .ref b6, .ref b7, .ref b8, .ref b9, .ref x_2088, .ref x_2089])), (x_2088, .inl (G.2 0, 241, .inl f_2090)), (x_2089, .inl (G.2 0, 241, .inl f_2091)), (b3, .inr (5, [.int b22, .int b23, .ref b24, .ref b25, .ref b26, .ref b27, .ref b28, .ref b29, .int b30, .ref b31, .ref b32, .ref b33, .ref b34, .ref b35, .ref b36])), (b31, .inl (G.2 0, 240, .inl b38))] → va_S A s.heap H locs → lv_has ls 6 [(5, .int y_2255), (4, .int y_2256), (0, .ref b0), (1, .ref b1), (2, .int b2), (3, .ref b3)] → W p l e m_s1_Words_waysOf s m ([.ref b0, .ref b1, .int b2, .ref b3] : List Value).toArray below meth c H locs 0 0 (MQ below (zQ G (fun v w => ∃ (e0 : Int32), ∃ (e1 : Nat), ∃ (e2 : Nat), ∃ (e3 : Nat → Int32), ∃ (e4 : Nat → Int32), v = some (.int e0) ∧ w = [(b0, .inr (7, [.ref b4, .ref b5, .ref b6, .ref b7, .ref b8, .ref b9, .ref e1, .ref e2])), (e1, .inl (G.2 0, 241, .inl e3)), (e2, .inl (G.2 0, 241, .inl e4)), (b1, .inr (2, [.int b14, .int b15, .int b16, .ref b17, .ref b18, .ref b19])), (b17, .inl (G.2 0, 20, .inl b20)), (b18, .inl (G.2 0, 240, .inl b21)), (b3, .inr (5, [.int b22, .int b23, .ref b24, .ref b25, .ref b26, .ref b27, .ref b28, .ref b29, .int b30, .ref b31, .ref b32, .ref b33, .ref b34, .ref b35, .ref b36])), (b27, .inl (G.2 0, 241, .inl b37)), (b31, .inl (G.2 0, 240, .inl b38))] ∧ (zI e0 (-2147483648) 1000000)) A) ([.ref b0, .ref b1, .int b2, .ref b3] : List Value).toArray s m_s1_Words_waysOf.cells m_s1_Words_waysOf.slots A) (F0 m 53 ls []) by
                            exact key 242 (0) (0) _ _ _ (zI.wk (l' := 0) (h' := 241) zc_0 (by decide)) (zI.wk (l' := (-2147483648)) (h' := 1000000) zc_0 (by decide)) (zm_upi (zI.wk (l' := 0) (h' := 241) zc_0 (by decide)) (by decide)) hP hD hS (lv_sub hl [0, 1, 2, 3, 4, 5] rfl)
                          intro k_2254
                          induction k_2254 with
                          | zero =>
                            intro y_2255 y_2256 H locs ls hy_2255 hy_2256 hmk_2254 hP hD hS hl
                            exact (zm_up0 hy_2255 hmk_2254).elim
                          | succ k_2254 ihk_2254 =>
                            intro y_2255 y_2256 H locs ls hy_2255 hy_2256 hmk_2254 hP hD hS hl
                            refine lv_iload hx hb d_Words_waysOf_53 (lv_at hl 0 rfl) ?_
                            refine lv_aload_n hx hb d_Words_waysOf_55 rfl (lv_at hl 5 rfl) ?_
                            refine va_get (D := G.1) (ci := 5) (v := .int b23) (C := R_Machine) (T := F_Machine) (N := 15) hx hb hts i_Machine hown hK hP 7 rfl rfl 1 (by decide) (hts _ q166) (fun _ h9 => h9) rfl d_Words_waysOf_56 ?_
                            refine lv_icmp_ge (tgt := 95) hx hb d_Words_waysOf_59 (by decide) (fun hc_2257 => ?_) (fun hc_2257 => ?_)
                            · have _nhc_2257 := hc_2257
                              have ni_2258 := (fa_le _ _).mp hc_2257
                              refine lv_iload hx hb d_Words_waysOf_95 (lv_at hl 1 rfl) ?_
                              exact z_iret hx hb hr hlocks (hP.sub [4, 5, 6, 2, 0, 3, 7, 1, 8] rfl) (hD.sub [4, 5, 6, 2, 0, 3, 7, 1, 8] (by decide) rfl) hS (Nat.le_of_ble_eq_true rfl) (Nat.le_of_ble_eq_true rfl) d_Words_waysOf_97 ⟨y_2256, x_2088, x_2089, f_2090, f_2091, rfl, rfl, hy_2256⟩
                            · have _nhc_2257 := hc_2257
                              have ni_2259 := (fa_lt _ _).mp (zi_nle hc_2257)
                              have hv_2260 : zI y_2255 0 240 := zI.lt_l hy_2255 hb23 (zi_nle hc_2257) (by decide)
                              have hv_2261 : zI b23 1 241 := zI.lt_r hy_2255 hb23 (zi_nle hc_2257) (by decide)
                              refine lv_aload_n hx hb d_Words_waysOf_62 rfl (lv_at hl 5 rfl) ?_
                              refine va_get (D := G.1) (ci := 5) (v := .ref b27) (C := R_Machine) (T := F_Machine) (N := 15) hx hb hts i_Machine hown hK hP 7 rfl rfl 5 (by decide) (hts _ q177) (fun _ h9 => h9) rfl d_Words_waysOf_63 ?_
                              refine lv_iload hx hb d_Words_waysOf_66 (lv_at hl 0 rfl) ?_
                              refine va_iald hx hb hK hP 1 0 rfl rfl (zI.inn hv_2260 (by decide)) d_Words_waysOf_68 ?_
                              refine lv_topi (fun v_2262 ev_2262 => ?_)
                              refine lv_if_le (tgt := 89) hx hb d_Words_waysOf_69 (by decide) (fun hc_2263 => ?_) (fun hc_2263 => ?_)
                              · have _nhc_2263 := hc_2263
                                have ni_2264 := (fa_le _ _).mp hc_2263
                                rw [li_0] at ni_2264
                                have hv_2265 : zI v_2262 (-2147483648) 0 := zI.le_l (zI_all v_2262) zc_0 hc_2263 (by decide)
                                obtain ⟨v_2266, ev_2266⟩ : ∃ z : Int32, z = y_2255 + 1 := ⟨_, rfl⟩
                                obtain ⟨qv_2266, hv_2266⟩ := zI_add (l := 1) (h := 241) hv_2260 zc_1 ev_2266 (by decide)
                                rw [li_1] at qv_2266
                                refine lv_iinc (v := v_2266) (lv' := [(5, .int v_2266), (4, .int y_2256), (0, .ref b0), (1, .ref b1), (2, .int b2), (3, .ref b3)]) hx hb d_Words_waysOf_89 hl (k := 0) rfl (by rw [ev_2266]; rfl) (by decide) rfl (fun ls hl => ?_)
                                refine lv_goto (tgt := 53) hx hb d_Words_waysOf_92 (by decide) ?_
                                exact ihk_2254 (v_2266) (y_2256) _ _ _ (zI.wk (l' := 0) (h' := 241) hv_2266 (by decide)) hy_2256 (zm_up qv_2266 hmk_2254 (by decide)) hP hD hS (lv_sub hl [0, 1, 2, 3, 4, 5] rfl)
                              · have _nhc_2263 := hc_2263
                                have ni_2267 := (fa_lt _ _).mp (zi_nle hc_2263)
                                rw [li_0] at ni_2267
                                have hv_2268 : zI v_2262 1 2147483647 := zI.lt_r zc_0 (zI_all v_2262) (zi_nle hc_2263) (by decide)
                                refine lv_iload hx hb d_Words_waysOf_72 (lv_at hl 1 rfl) ?_
                                refine lv_aload_n hx hb d_Words_waysOf_74 rfl (lv_at hl 2 rfl) ?_
                                refine va_get (D := G.1) (ci := 7) (v := .ref x_2088) (C := R_Words) (T := F_Words) (N := 8) hx hb hts i_Words hown hK hP 4 rfl rfl 6 (by decide) (hts _ q272) (fun _ h9 => h9) rfl d_Words_waysOf_75 ?_
                                refine lv_iload hx hb d_Words_waysOf_78 (lv_at hl 0 rfl) ?_
                                refine va_iald hx hb hK hP 5 0 rfl rfl (zI.inn hv_2260 (by decide)) d_Words_waysOf_80 ?_
                                refine lv_topi (fun v_2269 ev_2269 => ?_)
                                refine lv_iadd hx hb d_Words_waysOf_81 ?_
                                refine lv_topi (fun v_2270 ev_2270 => ?_)
                                refine lv_ldc hx hb hown (hts _ q813) d_Words_waysOf_82 ?_
                                refine va_mmin hx hb (hml.trans hl.1.symm) hown (hts _ q814) (hts _ q592) (hts _ q20) (hts _ q593) (Nat.le_of_ble_eq_true rfl) (Nat.le_of_ble_eq_true rfl) (Nat.le_of_ble_eq_true rfl) (Nat.le_of_ble_eq_true rfl) d_Words_waysOf_84 ?_
                                refine lv_topi (fun v_2271 ev_2271 => ?_)
                                have hv_2271 := zI_min (l := (-2147483648)) (h := 1000000) (zI_all v_2270) zc_1000000 ev_2271 (by decide)
                                refine lv_istore (lv' := [(4, .int v_2271), (5, .int y_2255), (0, .ref b0), (1, .ref b1), (2, .int b2), (3, .ref b3)]) hx hb d_Words_waysOf_87 hl (by decide) rfl (fun ls hl => ?_)
                                obtain ⟨v_2272, ev_2272⟩ : ∃ z : Int32, z = y_2255 + 1 := ⟨_, rfl⟩
                                obtain ⟨qv_2272, hv_2272⟩ := zI_add (l := 1) (h := 241) hv_2260 zc_1 ev_2272 (by decide)
                                rw [li_1] at qv_2272
                                refine lv_iinc (v := v_2272) (lv' := [(5, .int v_2272), (4, .int v_2271), (0, .ref b0), (1, .ref b1), (2, .int b2), (3, .ref b3)]) hx hb d_Words_waysOf_89 hl (k := 1) rfl (by rw [ev_2272]; rfl) (by decide) rfl (fun ls hl => ?_)
                                refine lv_goto (tgt := 53) hx hb d_Words_waysOf_92 (by decide) ?_
                                exact ihk_2254 (v_2272) (v_2271) _ _ _ (zI.wk (l' := 0) (h' := 241) hv_2272 (by decide)) hv_2271 (zm_up qv_2272 hmk_2254 (by decide)) hP hD hS (lv_sub hl [0, 1, 2, 3, 4, 5] rfl)
                        · have _nhc_2093 := hc_2093
                          have ni_2273 := (fa_lt _ _).mp (zi_nle hc_2093)
                          rw [li_11] at ni_2273
                          have hv_2274 : zI v_3 12 12 := zI.lt_r zc_11 hv_2084 (zi_nle hc_2093) (by decide)
                          refine lv_aload_n hx hb d_Words_waysOf_29 rfl (lv_at hl 1 rfl) ?_
                          refine lv_aload_n hx hb d_Words_waysOf_30 rfl (lv_at hl 4 rfl) ?_
                          refine lv_aload_n hx hb d_Words_waysOf_31 rfl (lv_at hl 2 rfl) ?_
                          refine lv_iload_n hx hb d_Words_waysOf_32 rfl (lv_at hl 3 rfl) ?_
                          refine lv_iload hx hb d_Words_waysOf_33 (lv_at hl 0 rfl) ?_
                          refine z_callV (index := 99) (As := [.int b2, .int 11]) (rest := [.ref b3, .ref b0]) (wr := [(b17, .inl (G.2 0, 20, .inl b20)), (b27, .inl (G.2 0, 241, .inl b37)), (b0, .inr (7, [.ref b4, .ref b5, .ref b6, .ref b7, .ref b8, .ref b9, .ref x_2088, .ref x_2089])), (x_2088, .inl (G.2 0, 241, .inl f_2090)), (x_2089, .inl (G.2 0, 241, .inl f_2091)), (b3, .inr (5, [.int b22, .int b23, .ref b24, .ref b25, .ref b26, .ref b27, .ref b28, .ref b29, .int b30, .ref b31, .ref b32, .ref b33, .ref b34, .ref b35, .ref b36])), (b31, .inl (G.2 0, 240, .inl b38))]) Z (s1_Traces_letterAt l G (b1) (b2) (11) (b14) (b15) (b16) (b17) (b18) (b19) (b21) hb2 (zI.wk (l' := 0) (h' := 11) zc_11 (by decide)) hb14 hb15 hb16 hb21) hl.1 q805 q580 q581 q3 q582 ⟨by decide, by decide, by show _ = some 2; decide +kernel⟩ ⟨Nat.le_of_ble_eq_true rfl, Nat.le_of_ble_eq_true rfl⟩ ⟨Nat.le_of_ble_eq_true rfl, Nat.le_of_ble_eq_true rfl⟩ rfl (Nat.le_of_ble_eq_true rfl) d_Words_waysOf_35 hP hD hS hA 2 2 rfl rfl rfl [2, 3] [0, 1, 4, 5, 6, 7, 8] rfl rfl rfl rfl (by decide) (fun v w1 H locs hw_2275 hP hD hS => ?_)
                          obtain ⟨x_2276, rfl, rfl, hx_2276⟩ := hw_2275
                          have hP : va_P G.1 classes [(b17, .inl (G.2 0, 20, .inl b20)), (b27, .inl (G.2 0, 241, .inl b37)), (b0, .inr (7, [.ref b4, .ref b5, .ref b6, .ref b7, .ref b8, .ref b9, .ref x_2088, .ref x_2089])), (x_2088, .inl (G.2 0, 241, .inl f_2090)), (x_2089, .inl (G.2 0, 241, .inl f_2091)), (b3, .inr (5, [.int b22, .int b23, .ref b24, .ref b25, .ref b26, .ref b27, .ref b28, .ref b29, .int b30, .ref b31, .ref b32, .ref b33, .ref b34, .ref b35, .ref b36])), (b31, .inl (G.2 0, 240, .inl b38)), (b1, .inr (2, [.int b14, .int b15, .int b16, .ref b17, .ref b18, .ref b19])), (b18, .inl (G.2 0, 240, .inl b21))] H := hP
                          have hD := z_tie hP hD rfl
                          refine W.widen (k := 0) (n := 0) (Nat.le_of_ble_eq_true rfl) (Nat.le_of_ble_eq_true rfl) ?_
                          refine z_callV (index := 103) (As := [.ref b3, .int x_2276]) (rest := []) (wr := [(b17, .inl (G.2 0, 20, .inl b20)), (b27, .inl (G.2 0, 241, .inl b37)), (b1, .inr (2, [.int b14, .int b15, .int b16, .ref b17, .ref b18, .ref b19])), (b18, .inl (G.2 0, 240, .inl b21))]) Z (s2_Words_stepWays l G (b0) (b3) (x_2276) (b4) (b5) (b6) (b7) (b8) (b9) (x_2088) (x_2089) (f_2090) (f_2091) (b22) (b23) (b24) (b25) (b26) (b27) (b28) (b29) (b30) (b31) (b32) (b33) (b34) (b35) (b36) (b38) hx_2276 hb22 hb23 hb30 hb38) hl.1 q806 q808 qs22 q8 q809 ⟨by decide, by decide, by show _ = some 2; decide +kernel⟩ ⟨Nat.le_of_ble_eq_true rfl, Nat.le_of_ble_eq_true rfl⟩ ⟨Nat.le_of_ble_eq_true rfl, Nat.le_of_ble_eq_true rfl⟩ rfl (Nat.le_of_ble_eq_true rfl) d_Words_waysOf_38 hP hD hS hA 2 7 rfl rfl rfl [2, 3, 4, 5, 6] [0, 1, 7, 8] rfl rfl rfl rfl (by decide) (fun v w1 H locs hw_2277 hP hD hS => ?_)
                          obtain ⟨x_2278, x_2279, f_2280, f_2281, rfl, rfl⟩ := hw_2277
                          have hP : va_P G.1 classes [(b17, .inl (G.2 0, 20, .inl b20)), (b27, .inl (G.2 0, 241, .inl b37)), (b1, .inr (2, [.int b14, .int b15, .int b16, .ref b17, .ref b18, .ref b19])), (b18, .inl (G.2 0, 240, .inl b21)), (b0, .inr (7, [.ref b4, .ref b5, .ref b6, .ref b7, .ref b8, .ref b9, .ref x_2278, .ref x_2279])), (x_2278, .inl (G.2 0, 241, .inl f_2280)), (x_2279, .inl (G.2 0, 241, .inl f_2281)), (b3, .inr (5, [.int b22, .int b23, .ref b24, .ref b25, .ref b26, .ref b27, .ref b28, .ref b29, .int b30, .ref b31, .ref b32, .ref b33, .ref b34, .ref b35, .ref b36])), (b31, .inl (G.2 0, 240, .inl b38))] H := hP
                          have hD := z_tie hP hD rfl
                          refine W.widen (k := 0) (n := 0) (Nat.le_of_ble_eq_true rfl) (Nat.le_of_ble_eq_true rfl) ?_
                          refine lv_iinc (v := 12) (lv' := [(4, .int 12), (0, .ref b0), (1, .ref b1), (2, .int b2), (3, .ref b3)]) hx hb d_Words_waysOf_41 hl (k := 0) rfl (by decide +kernel) (by decide) rfl (fun ls hl => ?_)
                          refine lv_goto (tgt := 18) hx hb d_Words_waysOf_44 (by decide) ?_
                          refine lv_iload hx hb d_Words_waysOf_18 (lv_at hl 0 rfl) ?_
                          refine lv_aload_n hx hb d_Words_waysOf_20 rfl (lv_at hl 2 rfl) ?_
                          refine va_get (D := G.1) (ci := 2) (v := .ref b17) (C := R_Traces) (T := F_Traces) (N := 6) hx hb hts i_Traces hown hK hP 2 rfl rfl 3 (by decide) (hts _ q69) (fun _ h9 => h9) rfl d_Words_waysOf_21 ?_
                          refine lv_iload_n hx hb d_Words_waysOf_24 rfl (lv_at hl 3 rfl) ?_
                          refine va_iald hx hb hK hP 0 0 rfl rfl (zI.inn hb2 (by decide)) d_Words_waysOf_25 ?_
                          refine lv_topi (fun v_2282 ev_2282 => ?_)
                          obtain rfl : v_3 = v_2282 := ev_3.trans ev_2282.symm
                          refine lv_icmp_ge (tgt := 47) hx hb d_Words_waysOf_26 (by decide) (fun _ => ?_) (fun hc => zI.no_lt zc_12 hv_2274 (zi_nle hc) (by decide))
                          refine lv_iconst (v := 0) hx hb d_Words_waysOf_47 (by decide) ?_
                          refine lv_istore (lv' := [(4, .int 0), (0, .ref b0), (1, .ref b1), (2, .int b2), (3, .ref b3)]) hx hb d_Words_waysOf_48 hl (by decide) rfl (fun ls hl => ?_)
                          refine lv_iconst (v := 0) hx hb d_Words_waysOf_50 (by decide) ?_
                          refine lv_istore (lv' := [(5, .int 0), (4, .int 0), (0, .ref b0), (1, .ref b1), (2, .int b2), (3, .ref b3)]) hx hb d_Words_waysOf_51 hl (by decide) rfl (fun ls hl => ?_)
                          suffices key : ∀ (k_2441 : Nat) (y_2442 : Int32) (y_2443 : Int32) (H : Heap) (locs : List Loc) (ls : Array Slot), (zI y_2442 0 241) → (zI y_2443 (-2147483648) 1000000) → (241 : Int) - y_2442.toInt < (k_2441 : Int) → va_P G.1 classes [(b17, .inl (G.2 0, 20, .inl b20)), (b27, .inl (G.2 0, 241, .inl b37)), (b1, .inr (2, [.int b14, .int b15, .int b16, .ref b17, .ref b18, .ref b19])), (b18, .inl (G.2 0, 240, .inl b21)), (b0, .inr (7, [.ref b4, .ref b5, .ref b6, .ref b7, .ref b8, .ref b9, .ref x_2278, .ref x_2279])), (x_2278, .inl (G.2 0, 241, .inl f_2280)), (x_2279, .inl (G.2 0, 241, .inl f_2281)), (b3, .inr (5, [.int b22, .int b23, .ref b24, .ref b25, .ref b26, .ref b27, .ref b28, .ref b29, .int b30, .ref b31, .ref b32, .ref b33, .ref b34, .ref b35, .ref b36])), (b31, .inl (G.2 0, 240, .inl b38))] H → va_D A [(b17, .inl (G.2 0, 20, .inl b20)), (b27, .inl (G.2 0, 241, .inl b37)), (b1, .inr (2, [.int b14, .int b15, .int b16, .ref b17, .ref b18, .ref b19])), (b18, .inl (G.2 0, 240, .inl b21)), (b0, .inr (7, [.ref b4, .ref b5, .ref b6, .ref b7, .ref b8, .ref b9, .ref x_2278, .ref x_2279])), (x_2278, .inl (G.2 0, 241, .inl f_2280)), (x_2279, .inl (G.2 0, 241, .inl f_2281)), (b3, .inr (5, [.int b22, .int b23, .ref b24, .ref b25, .ref b26, .ref b27, .ref b28, .ref b29, .int b30, .ref b31, .ref b32, .ref b33, .ref b34, .ref b35, .ref b36])), (b31, .inl (G.2 0, 240, .inl b38))] → va_S A s.heap H locs → lv_has ls 6 [(5, .int y_2442), (4, .int y_2443), (0, .ref b0), (1, .ref b1), (2, .int b2), (3, .ref b3)] → W p l e m_s1_Words_waysOf s m ([.ref b0, .ref b1, .int b2, .ref b3] : List Value).toArray below meth c H locs 0 0 (MQ below (zQ G (fun v w => ∃ (e0 : Int32), ∃ (e1 : Nat), ∃ (e2 : Nat), ∃ (e3 : Nat → Int32), ∃ (e4 : Nat → Int32), v = some (.int e0) ∧ w = [(b0, .inr (7, [.ref b4, .ref b5, .ref b6, .ref b7, .ref b8, .ref b9, .ref e1, .ref e2])), (e1, .inl (G.2 0, 241, .inl e3)), (e2, .inl (G.2 0, 241, .inl e4)), (b1, .inr (2, [.int b14, .int b15, .int b16, .ref b17, .ref b18, .ref b19])), (b17, .inl (G.2 0, 20, .inl b20)), (b18, .inl (G.2 0, 240, .inl b21)), (b3, .inr (5, [.int b22, .int b23, .ref b24, .ref b25, .ref b26, .ref b27, .ref b28, .ref b29, .int b30, .ref b31, .ref b32, .ref b33, .ref b34, .ref b35, .ref b36])), (b27, .inl (G.2 0, 241, .inl b37)), (b31, .inl (G.2 0, 240, .inl b38))] ∧ (zI e0 (-2147483648) 1000000)) A) ([.ref b0, .ref b1, .int b2, .ref b3] : List Value).toArray s m_s1_Words_waysOf.cells m_s1_Words_waysOf.slots A) (F0 m 53 ls []) by
                            exact key 242 (0) (0) _ _ _ (zI.wk (l' := 0) (h' := 241) zc_0 (by decide)) (zI.wk (l' := (-2147483648)) (h' := 1000000) zc_0 (by decide)) (zm_upi (zI.wk (l' := 0) (h' := 241) zc_0 (by decide)) (by decide)) hP hD hS (lv_sub hl [0, 1, 2, 3, 4, 5] rfl)
                          intro k_2441
                          induction k_2441 with
                          | zero =>
                            intro y_2442 y_2443 H locs ls hy_2442 hy_2443 hmk_2441 hP hD hS hl
                            exact (zm_up0 hy_2442 hmk_2441).elim
                          | succ k_2441 ihk_2441 =>
                            intro y_2442 y_2443 H locs ls hy_2442 hy_2443 hmk_2441 hP hD hS hl
                            refine lv_iload hx hb d_Words_waysOf_53 (lv_at hl 0 rfl) ?_
                            refine lv_aload_n hx hb d_Words_waysOf_55 rfl (lv_at hl 5 rfl) ?_
                            refine va_get (D := G.1) (ci := 5) (v := .int b23) (C := R_Machine) (T := F_Machine) (N := 15) hx hb hts i_Machine hown hK hP 7 rfl rfl 1 (by decide) (hts _ q166) (fun _ h9 => h9) rfl d_Words_waysOf_56 ?_
                            refine lv_icmp_ge (tgt := 95) hx hb d_Words_waysOf_59 (by decide) (fun hc_2444 => ?_) (fun hc_2444 => ?_)
                            · have _nhc_2444 := hc_2444
                              have ni_2445 := (fa_le _ _).mp hc_2444
                              refine lv_iload hx hb d_Words_waysOf_95 (lv_at hl 1 rfl) ?_
                              exact z_iret hx hb hr hlocks (hP.sub [4, 5, 6, 2, 0, 3, 7, 1, 8] rfl) (hD.sub [4, 5, 6, 2, 0, 3, 7, 1, 8] (by decide) rfl) hS (Nat.le_of_ble_eq_true rfl) (Nat.le_of_ble_eq_true rfl) d_Words_waysOf_97 ⟨y_2443, x_2278, x_2279, f_2280, f_2281, rfl, rfl, hy_2443⟩
                            · have _nhc_2444 := hc_2444
                              have ni_2446 := (fa_lt _ _).mp (zi_nle hc_2444)
                              have hv_2447 : zI y_2442 0 240 := zI.lt_l hy_2442 hb23 (zi_nle hc_2444) (by decide)
                              have hv_2448 : zI b23 1 241 := zI.lt_r hy_2442 hb23 (zi_nle hc_2444) (by decide)
                              refine lv_aload_n hx hb d_Words_waysOf_62 rfl (lv_at hl 5 rfl) ?_
                              refine va_get (D := G.1) (ci := 5) (v := .ref b27) (C := R_Machine) (T := F_Machine) (N := 15) hx hb hts i_Machine hown hK hP 7 rfl rfl 5 (by decide) (hts _ q177) (fun _ h9 => h9) rfl d_Words_waysOf_63 ?_
                              refine lv_iload hx hb d_Words_waysOf_66 (lv_at hl 0 rfl) ?_
                              refine va_iald hx hb hK hP 1 0 rfl rfl (zI.inn hv_2447 (by decide)) d_Words_waysOf_68 ?_
                              refine lv_topi (fun v_2449 ev_2449 => ?_)
                              refine lv_if_le (tgt := 89) hx hb d_Words_waysOf_69 (by decide) (fun hc_2450 => ?_) (fun hc_2450 => ?_)
                              · have _nhc_2450 := hc_2450
                                have ni_2451 := (fa_le _ _).mp hc_2450
                                rw [li_0] at ni_2451
                                have hv_2452 : zI v_2449 (-2147483648) 0 := zI.le_l (zI_all v_2449) zc_0 hc_2450 (by decide)
                                obtain ⟨v_2453, ev_2453⟩ : ∃ z : Int32, z = y_2442 + 1 := ⟨_, rfl⟩
                                obtain ⟨qv_2453, hv_2453⟩ := zI_add (l := 1) (h := 241) hv_2447 zc_1 ev_2453 (by decide)
                                rw [li_1] at qv_2453
                                refine lv_iinc (v := v_2453) (lv' := [(5, .int v_2453), (4, .int y_2443), (0, .ref b0), (1, .ref b1), (2, .int b2), (3, .ref b3)]) hx hb d_Words_waysOf_89 hl (k := 0) rfl (by rw [ev_2453]; rfl) (by decide) rfl (fun ls hl => ?_)
                                refine lv_goto (tgt := 53) hx hb d_Words_waysOf_92 (by decide) ?_
                                exact ihk_2441 (v_2453) (y_2443) _ _ _ (zI.wk (l' := 0) (h' := 241) hv_2453 (by decide)) hy_2443 (zm_up qv_2453 hmk_2441 (by decide)) hP hD hS (lv_sub hl [0, 1, 2, 3, 4, 5] rfl)
                              · have _nhc_2450 := hc_2450
                                have ni_2454 := (fa_lt _ _).mp (zi_nle hc_2450)
                                rw [li_0] at ni_2454
                                have hv_2455 : zI v_2449 1 2147483647 := zI.lt_r zc_0 (zI_all v_2449) (zi_nle hc_2450) (by decide)
                                refine lv_iload hx hb d_Words_waysOf_72 (lv_at hl 1 rfl) ?_
                                refine lv_aload_n hx hb d_Words_waysOf_74 rfl (lv_at hl 2 rfl) ?_
                                refine va_get (D := G.1) (ci := 7) (v := .ref x_2278) (C := R_Words) (T := F_Words) (N := 8) hx hb hts i_Words hown hK hP 4 rfl rfl 6 (by decide) (hts _ q272) (fun _ h9 => h9) rfl d_Words_waysOf_75 ?_
                                refine lv_iload hx hb d_Words_waysOf_78 (lv_at hl 0 rfl) ?_
                                refine va_iald hx hb hK hP 5 0 rfl rfl (zI.inn hv_2447 (by decide)) d_Words_waysOf_80 ?_
                                refine lv_topi (fun v_2456 ev_2456 => ?_)
                                refine lv_iadd hx hb d_Words_waysOf_81 ?_
                                refine lv_topi (fun v_2457 ev_2457 => ?_)
                                refine lv_ldc hx hb hown (hts _ q813) d_Words_waysOf_82 ?_
                                refine va_mmin hx hb (hml.trans hl.1.symm) hown (hts _ q814) (hts _ q592) (hts _ q20) (hts _ q593) (Nat.le_of_ble_eq_true rfl) (Nat.le_of_ble_eq_true rfl) (Nat.le_of_ble_eq_true rfl) (Nat.le_of_ble_eq_true rfl) d_Words_waysOf_84 ?_
                                refine lv_topi (fun v_2458 ev_2458 => ?_)
                                have hv_2458 := zI_min (l := (-2147483648)) (h := 1000000) (zI_all v_2457) zc_1000000 ev_2458 (by decide)
                                refine lv_istore (lv' := [(4, .int v_2458), (5, .int y_2442), (0, .ref b0), (1, .ref b1), (2, .int b2), (3, .ref b3)]) hx hb d_Words_waysOf_87 hl (by decide) rfl (fun ls hl => ?_)
                                obtain ⟨v_2459, ev_2459⟩ : ∃ z : Int32, z = y_2442 + 1 := ⟨_, rfl⟩
                                obtain ⟨qv_2459, hv_2459⟩ := zI_add (l := 1) (h := 241) hv_2447 zc_1 ev_2459 (by decide)
                                rw [li_1] at qv_2459
                                refine lv_iinc (v := v_2459) (lv' := [(5, .int v_2459), (4, .int v_2458), (0, .ref b0), (1, .ref b1), (2, .int b2), (3, .ref b3)]) hx hb d_Words_waysOf_89 hl (k := 1) rfl (by rw [ev_2459]; rfl) (by decide) rfl (fun ls hl => ?_)
                                refine lv_goto (tgt := 53) hx hb d_Words_waysOf_92 (by decide) ?_
                                exact ihk_2441 (v_2459) (v_2458) _ _ _ (zI.wk (l' := 0) (h' := 241) hv_2459 (by decide)) hv_2458 (zm_up qv_2459 hmk_2441 (by decide)) hP hD hS (lv_sub hl [0, 1, 2, 3, 4, 5] rfl)
theorem d_Words_draw_0 : decode prog_12_method_8_code 0 = .ok (.iload_n 2, 1) := by decide +kernel
theorem d_Words_draw_1 : decode prog_12_method_8_code 1 = .ok (.istore_n 3, 1) := by decide +kernel
theorem d_Words_draw_2 : decode prog_12_method_8_code 2 = .ok (.iconst 0, 1) := by decide +kernel
theorem d_Words_draw_3 : decode prog_12_method_8_code 3 = .ok (.istore 4, 2) := by decide +kernel
theorem d_Words_draw_5 : decode prog_12_method_8_code 5 = .ok (.iconst 0, 1) := by decide +kernel
theorem d_Words_draw_6 : decode prog_12_method_8_code 6 = .ok (.istore 5, 2) := by decide +kernel
theorem d_Words_draw_8 : decode prog_12_method_8_code 8 = .ok (.iload 5, 2) := by decide +kernel
theorem d_Words_draw_10 : decode prog_12_method_8_code 10 = .ok (.bipush 12, 2) := by decide +kernel
theorem d_Words_draw_12 : decode prog_12_method_8_code 12 = .ok (.if_icmp .gt 154, 3) := by decide +kernel
theorem d_Words_draw_15 : decode prog_12_method_8_code 15 = .ok (.aload_n 1, 1) := by decide +kernel
theorem d_Words_draw_16 : decode prog_12_method_8_code 16 = .ok (.getfield 107, 3) := by decide +kernel
theorem d_Words_draw_19 : decode prog_12_method_8_code 19 = .ok (.iload 4, 2) := by decide +kernel
theorem d_Words_draw_21 : decode prog_12_method_8_code 21 = .ok (.iaload, 1) := by decide +kernel
theorem d_Words_draw_22 : decode prog_12_method_8_code 22 = .ok (.aload_n 1, 1) := by decide +kernel
theorem d_Words_draw_23 : decode prog_12_method_8_code 23 = .ok (.iload 4, 2) := by decide +kernel
theorem d_Words_draw_25 : decode prog_12_method_8_code 25 = .ok (.invokevirtual 129, 3) := by decide +kernel
theorem d_Words_draw_28 : decode prog_12_method_8_code 28 = .ok (.iadd, 1) := by decide +kernel
theorem d_Words_draw_29 : decode prog_12_method_8_code 29 = .ok (.istore 6, 2) := by decide +kernel
theorem d_Words_draw_31 : decode prog_12_method_8_code 31 = .ok (.iload 6, 2) := by decide +kernel
theorem d_Words_draw_33 : decode prog_12_method_8_code 33 = .ok (.ifCond .gt 6, 3) := by decide +kernel
theorem d_Words_draw_36 : decode prog_12_method_8_code 36 = .ok (.iload 5, 2) := by decide +kernel
theorem d_Words_draw_38 : decode prog_12_method_8_code 38 = .ok (.ireturn, 1) := by decide +kernel
theorem d_Words_draw_39 : decode prog_12_method_8_code 39 = .ok (.sipush 1103, 3) := by decide +kernel
theorem d_Words_draw_42 : decode prog_12_method_8_code 42 = .ok (.iload_n 3, 1) := by decide +kernel
theorem d_Words_draw_43 : decode prog_12_method_8_code 43 = .ok (.imul, 1) := by decide +kernel
theorem d_Words_draw_44 : decode prog_12_method_8_code 44 = .ok (.sipush 12345, 3) := by decide +kernel
theorem d_Words_draw_47 : decode prog_12_method_8_code 47 = .ok (.iadd, 1) := by decide +kernel
theorem d_Words_draw_48 : decode prog_12_method_8_code 48 = .ok (.ldc 132, 2) := by decide +kernel
theorem d_Words_draw_50 : decode prog_12_method_8_code 50 = .ok (.irem, 1) := by decide +kernel
theorem d_Words_draw_51 : decode prog_12_method_8_code 51 = .ok (.istore_n 3, 1) := by decide +kernel
theorem d_Words_draw_52 : decode prog_12_method_8_code 52 = .ok (.iload_n 3, 1) := by decide +kernel
theorem d_Words_draw_53 : decode prog_12_method_8_code 53 = .ok (.iload 6, 2) := by decide +kernel
theorem d_Words_draw_55 : decode prog_12_method_8_code 55 = .ok (.irem, 1) := by decide +kernel
theorem d_Words_draw_56 : decode prog_12_method_8_code 56 = .ok (.aload_n 1, 1) := by decide +kernel
theorem d_Words_draw_57 : decode prog_12_method_8_code 57 = .ok (.getfield 107, 3) := by decide +kernel
theorem d_Words_draw_60 : decode prog_12_method_8_code 60 = .ok (.iload 4, 2) := by decide +kernel
theorem d_Words_draw_62 : decode prog_12_method_8_code 62 = .ok (.iaload, 1) := by decide +kernel
theorem d_Words_draw_63 : decode prog_12_method_8_code 63 = .ok (.isub, 1) := by decide +kernel
theorem d_Words_draw_64 : decode prog_12_method_8_code 64 = .ok (.istore 7, 2) := by decide +kernel
theorem d_Words_draw_66 : decode prog_12_method_8_code 66 = .ok (.iload 7, 2) := by decide +kernel
theorem d_Words_draw_68 : decode prog_12_method_8_code 68 = .ok (.ifCond .ge 6, 3) := by decide +kernel
theorem d_Words_draw_71 : decode prog_12_method_8_code 71 = .ok (.iload 5, 2) := by decide +kernel
theorem d_Words_draw_73 : decode prog_12_method_8_code 73 = .ok (.ireturn, 1) := by decide +kernel
theorem d_Words_draw_74 : decode prog_12_method_8_code 74 = .ok (.iload 5, 2) := by decide +kernel
theorem d_Words_draw_76 : decode prog_12_method_8_code 76 = .ok (.bipush 12, 2) := by decide +kernel
theorem d_Words_draw_78 : decode prog_12_method_8_code 78 = .ok (.if_icmp .ne 6, 3) := by decide +kernel
theorem d_Words_draw_81 : decode prog_12_method_8_code 81 = .ok (.bipush (-2), 2) := by decide +kernel
theorem d_Words_draw_83 : decode prog_12_method_8_code 83 = .ok (.ireturn, 1) := by decide +kernel
theorem d_Words_draw_84 : decode prog_12_method_8_code 84 = .ok (.aload_n 1, 1) := by decide +kernel
theorem d_Words_draw_85 : decode prog_12_method_8_code 85 = .ok (.getfield 133, 3) := by decide +kernel
theorem d_Words_draw_88 : decode prog_12_method_8_code 88 = .ok (.iload 4, 2) := by decide +kernel
theorem d_Words_draw_90 : decode prog_12_method_8_code 90 = .ok (.iaload, 1) := by decide +kernel
theorem d_Words_draw_91 : decode prog_12_method_8_code 91 = .ok (.istore 8, 2) := by decide +kernel
theorem d_Words_draw_93 : decode prog_12_method_8_code 93 = .ok (.iload 8, 2) := by decide +kernel
theorem d_Words_draw_95 : decode prog_12_method_8_code 95 = .ok (.aload_n 1, 1) := by decide +kernel
theorem d_Words_draw_96 : decode prog_12_method_8_code 96 = .ok (.getfield 133, 3) := by decide +kernel
theorem d_Words_draw_99 : decode prog_12_method_8_code 99 = .ok (.iload 4, 2) := by decide +kernel
theorem d_Words_draw_101 : decode prog_12_method_8_code 101 = .ok (.iconst 1, 1) := by decide +kernel
theorem d_Words_draw_102 : decode prog_12_method_8_code 102 = .ok (.iadd, 1) := by decide +kernel
theorem d_Words_draw_103 : decode prog_12_method_8_code 103 = .ok (.iaload, 1) := by decide +kernel
theorem d_Words_draw_104 : decode prog_12_method_8_code 104 = .ok (.iconst 1, 1) := by decide +kernel
theorem d_Words_draw_105 : decode prog_12_method_8_code 105 = .ok (.isub, 1) := by decide +kernel
theorem d_Words_draw_106 : decode prog_12_method_8_code 106 = .ok (.if_icmp .ge 33, 3) := by decide +kernel
theorem d_Words_draw_109 : decode prog_12_method_8_code 109 = .ok (.iload 7, 2) := by decide +kernel
theorem d_Words_draw_111 : decode prog_12_method_8_code 111 = .ok (.aload_n 1, 1) := by decide +kernel
theorem d_Words_draw_112 : decode prog_12_method_8_code 112 = .ok (.getfield 136, 3) := by decide +kernel
theorem d_Words_draw_115 : decode prog_12_method_8_code 115 = .ok (.iload 8, 2) := by decide +kernel
theorem d_Words_draw_117 : decode prog_12_method_8_code 117 = .ok (.iaload, 1) := by decide +kernel
theorem d_Words_draw_118 : decode prog_12_method_8_code 118 = .ok (.if_icmp .lt 21, 3) := by decide +kernel
theorem d_Words_draw_121 : decode prog_12_method_8_code 121 = .ok (.iload 7, 2) := by decide +kernel
theorem d_Words_draw_123 : decode prog_12_method_8_code 123 = .ok (.aload_n 1, 1) := by decide +kernel
theorem d_Words_draw_124 : decode prog_12_method_8_code 124 = .ok (.getfield 136, 3) := by decide +kernel
theorem d_Words_draw_127 : decode prog_12_method_8_code 127 = .ok (.iload 8, 2) := by decide +kernel
theorem d_Words_draw_129 : decode prog_12_method_8_code 129 = .ok (.iaload, 1) := by decide +kernel
theorem d_Words_draw_130 : decode prog_12_method_8_code 130 = .ok (.isub, 1) := by decide +kernel
theorem d_Words_draw_131 : decode prog_12_method_8_code 131 = .ok (.istore 7, 2) := by decide +kernel
theorem d_Words_draw_133 : decode prog_12_method_8_code 133 = .ok (.iinc 8 1, 3) := by decide +kernel
theorem d_Words_draw_136 : decode prog_12_method_8_code 136 = .ok (.goto (-43), 3) := by decide +kernel
theorem d_Words_draw_139 : decode prog_12_method_8_code 139 = .ok (.aload_n 0, 1) := by decide +kernel
theorem d_Words_draw_140 : decode prog_12_method_8_code 140 = .ok (.getfield 9, 3) := by decide +kernel
theorem d_Words_draw_143 : decode prog_12_method_8_code 143 = .ok (.iload 5, 2) := by decide +kernel
theorem d_Words_draw_145 : decode prog_12_method_8_code 145 = .ok (.aload_n 1, 1) := by decide +kernel
theorem d_Words_draw_146 : decode prog_12_method_8_code 146 = .ok (.iload 8, 2) := by decide +kernel
theorem d_Words_draw_148 : decode prog_12_method_8_code 148 = .ok (.invokevirtual 119, 3) := by decide +kernel
theorem d_Words_draw_151 : decode prog_12_method_8_code 151 = .ok (.iastore, 1) := by decide +kernel
theorem d_Words_draw_152 : decode prog_12_method_8_code 152 = .ok (.aload_n 1, 1) := by decide +kernel
theorem d_Words_draw_153 : decode prog_12_method_8_code 153 = .ok (.iload 8, 2) := by decide +kernel
theorem d_Words_draw_155 : decode prog_12_method_8_code 155 = .ok (.invokevirtual 123, 3) := by decide +kernel
theorem d_Words_draw_158 : decode prog_12_method_8_code 158 = .ok (.istore 4, 2) := by decide +kernel
theorem d_Words_draw_160 : decode prog_12_method_8_code 160 = .ok (.iinc 5 1, 3) := by decide +kernel
theorem d_Words_draw_163 : decode prog_12_method_8_code 163 = .ok (.goto (-155), 3) := by decide +kernel
theorem zc_1103 : zI 1103 1103 1103 := ⟨by decide +kernel, by decide +kernel⟩
theorem li_1103 : (1103 : Int32).toInt = 1103 := by decide +kernel
theorem zc_12345 : zI 12345 12345 12345 := ⟨by decide +kernel, by decide +kernel⟩
theorem li_12345 : (12345 : Int32).toInt = 12345 := by decide +kernel
abbrev m_s1_Words_draw : Room := { frames := 1, cells := 0, slots := 0, locals := 23 }
set_option maxHeartbeats 4000000 in
set_option maxRecDepth 100000 in
theorem s1_Words_draw (l : Launch) (G : zG) (b0 : Nat) (b1 : Nat) (b2 : Int32) (b3 : Nat) (b4 : Nat) (b5 : Nat) (b6 : Nat) (b7 : Nat) (b8 : Nat) (b9 : Nat) (b10 : Nat) (b11 : Nat → Int32) (b12 : Int32) (b13 : Int32) (b14 : Nat) (b15 : Nat) (b16 : Nat) (b17 : Nat) (b18 : Nat) (b19 : Nat) (b20 : Int32) (b21 : Nat) (b22 : Nat) (b23 : Nat) (b24 : Nat) (b25 : Nat) (b26 : Nat) (b27 : Nat → Int32) (b28 : Nat → Int32) (b29 : Nat → Int32) (b30 : Nat → Int32) (hb2 : zI b2 0 999999) (hb12 : zI b12 0 1) (hb13 : zI b13 0 241) (hb20 : zI b20 0 240) (hb28 : zK b28) (hb30 : zR b30 0 240) : zM l G y_Words_draw prog_12_method_8_code 9 (Option.some Jvm.ClassFile.FieldType.int) m_s1_Words_draw [.ref b0, .ref b1, .int b2] [(b0, .inr (7, [.ref b3, .ref b4, .ref b5, .ref b6, .ref b7, .ref b8, .ref b9, .ref b10])), (b3, .inl (G.2 0, 12, .inl b11)), (b1, .inr (5, [.int b12, .int b13, .ref b14, .ref b15, .ref b16, .ref b17, .ref b18, .ref b19, .int b20, .ref b21, .ref b22, .ref b23, .ref b24, .ref b25, .ref b26])), (b17, .inl (G.2 0, 241, .inl b27)), (b21, .inl (G.2 0, 240, .inl b28)), (b22, .inl (G.2 0, 240, .inl b29)), (b25, .inl (G.2 0, 242, .inl b30))] (fun v w => ∃ (e0 : Int32), ∃ (e1 : Nat → Int32), v = some (.int e0) ∧ w = [(b0, .inr (7, [.ref b3, .ref b4, .ref b5, .ref b6, .ref b7, .ref b8, .ref b9, .ref b10])), (b3, .inl (G.2 0, 12, .inl e1)), (b1, .inr (5, [.int b12, .int b13, .ref b14, .ref b15, .ref b16, .ref b17, .ref b18, .ref b19, .int b20, .ref b21, .ref b22, .ref b23, .ref b24, .ref b25, .ref b26])), (b17, .inl (G.2 0, 241, .inl b27)), (b21, .inl (G.2 0, 240, .inl b28)), (b22, .inl (G.2 0, 240, .inl b29)), (b25, .inl (G.2 0, 242, .inl b30))] ∧ (zI e0 (-2) 12)) := by
  refine z_start (by decide +kernel) (Nat.le_of_ble_eq_true rfl) ?_
  intro p e s m below meth c A Z hr hnm hA hP hD hS ls hl
  have Z : zC p s m _ meth c prog_12_method_8_code 9 "TraceMachines$Words" G := Z
  obtain ⟨hx, hb, hml, hown, hts, hK, hN, hlocks⟩ := id Z
  have hl : lv_has ls 9 [(0, .ref b0), (1, .ref b1), (2, .int b2)] := hl
  refine lv_iload_n hx hb d_Words_draw_0 rfl (lv_at hl 2 rfl) ?_
  refine lv_istore_n (lv' := [(3, .int b2), (0, .ref b0), (1, .ref b1), (2, .int b2)]) hx hb d_Words_draw_1 rfl hl (by decide) rfl (fun ls hl => ?_)
  refine lv_iconst (v := 0) hx hb d_Words_draw_2 (by decide) ?_
  refine lv_istore (lv' := [(4, .int 0), (3, .int b2), (0, .ref b0), (1, .ref b1), (2, .int b2)]) hx hb d_Words_draw_3 hl (by decide) rfl (fun ls hl => ?_)
  refine lv_iconst (v := 0) hx hb d_Words_draw_5 (by decide) ?_
  refine lv_istore (lv' := [(5, .int 0), (4, .int 0), (3, .int b2), (0, .ref b0), (1, .ref b1), (2, .int b2)]) hx hb d_Words_draw_6 hl (by decide) rfl (fun ls hl => ?_)
  suffices key : ∀ (k_583 : Nat) (y_584 : Int32) (y_585 : Int32) (y_586 : Int32) (y_587 : Nat → Int32) (H : Heap) (locs : List Loc) (ls : Array Slot), (zI y_584 0 12) → (zI y_585 0 240) → (zI y_586 0 1000002) → (12 : Int) - y_584.toInt < (k_583 : Int) → va_P G.1 classes [(b0, .inr (7, [.ref b3, .ref b4, .ref b5, .ref b6, .ref b7, .ref b8, .ref b9, .ref b10])), (b3, .inl (G.2 0, 12, .inl y_587)), (b1, .inr (5, [.int b12, .int b13, .ref b14, .ref b15, .ref b16, .ref b17, .ref b18, .ref b19, .int b20, .ref b21, .ref b22, .ref b23, .ref b24, .ref b25, .ref b26])), (b17, .inl (G.2 0, 241, .inl b27)), (b21, .inl (G.2 0, 240, .inl b28)), (b22, .inl (G.2 0, 240, .inl b29)), (b25, .inl (G.2 0, 242, .inl b30))] H → va_D A [(b0, .inr (7, [.ref b3, .ref b4, .ref b5, .ref b6, .ref b7, .ref b8, .ref b9, .ref b10])), (b3, .inl (G.2 0, 12, .inl y_587)), (b1, .inr (5, [.int b12, .int b13, .ref b14, .ref b15, .ref b16, .ref b17, .ref b18, .ref b19, .int b20, .ref b21, .ref b22, .ref b23, .ref b24, .ref b25, .ref b26])), (b17, .inl (G.2 0, 241, .inl b27)), (b21, .inl (G.2 0, 240, .inl b28)), (b22, .inl (G.2 0, 240, .inl b29)), (b25, .inl (G.2 0, 242, .inl b30))] → va_S A s.heap H locs → lv_has ls 9 [(5, .int y_584), (4, .int y_585), (3, .int y_586), (0, .ref b0), (1, .ref b1), (2, .int b2)] → W p l e m_s1_Words_draw s m ([.ref b0, .ref b1, .int b2] : List Value).toArray below meth c H locs 0 0 (MQ below (zQ G (fun v w => ∃ (e0 : Int32), ∃ (e1 : Nat → Int32), v = some (.int e0) ∧ w = [(b0, .inr (7, [.ref b3, .ref b4, .ref b5, .ref b6, .ref b7, .ref b8, .ref b9, .ref b10])), (b3, .inl (G.2 0, 12, .inl e1)), (b1, .inr (5, [.int b12, .int b13, .ref b14, .ref b15, .ref b16, .ref b17, .ref b18, .ref b19, .int b20, .ref b21, .ref b22, .ref b23, .ref b24, .ref b25, .ref b26])), (b17, .inl (G.2 0, 241, .inl b27)), (b21, .inl (G.2 0, 240, .inl b28)), (b22, .inl (G.2 0, 240, .inl b29)), (b25, .inl (G.2 0, 242, .inl b30))] ∧ (zI e0 (-2) 12)) A) ([.ref b0, .ref b1, .int b2] : List Value).toArray s m_s1_Words_draw.cells m_s1_Words_draw.slots A) (F0 m 8 ls []) by
    exact key 13 (0) (0) (b2) (b11) _ _ _ (zI.wk (l' := 0) (h' := 12) zc_0 (by decide)) (zI.wk (l' := 0) (h' := 240) zc_0 (by decide)) (zI.wk (l' := 0) (h' := 1000002) hb2 (by decide)) (zm_upi (zI.wk (l' := 0) (h' := 12) zc_0 (by decide)) (by decide)) hP hD hS (lv_sub hl [0, 1, 2, 3, 4, 5] rfl)
  intro k_583
  induction k_583 with
  | zero =>
    intro y_584 y_585 y_586 y_587 H locs ls hy_584 hy_585 hy_586 hmk_583 hP hD hS hl
    exact (zm_up0 hy_584 hmk_583).elim
  | succ k_583 ihk_583 =>
    intro y_584 y_585 y_586 y_587 H locs ls hy_584 hy_585 hy_586 hmk_583 hP hD hS hl
    refine lv_iload hx hb d_Words_draw_8 (lv_at hl 0 rfl) ?_
    refine lv_bipush (v := 12) hx hb d_Words_draw_10 (by decide) ?_
    refine lv_icmp_gt (tgt := 166) hx hb d_Words_draw_12 (by decide) (fun hc => zI.no_lt zc_12 hy_584 hc (by decide)) (fun _ => ?_)
    refine lv_aload_n hx hb d_Words_draw_15 rfl (lv_at hl 4 rfl) ?_
    refine va_get (D := G.1) (ci := 5) (v := .ref b17) (C := R_Machine) (T := F_Machine) (N := 15) hx hb hts i_Machine hown hK hP 2 rfl rfl 5 (by decide) (hts _ q177) (fun _ h9 => h9) rfl d_Words_draw_16 ?_
    refine lv_iload hx hb d_Words_draw_19 (lv_at hl 1 rfl) ?_
    refine va_iald hx hb hK hP 3 0 rfl rfl (zI.inn hy_585 (by decide)) d_Words_draw_21 ?_
    refine lv_topi (fun v_588 ev_588 => ?_)
    refine lv_aload_n hx hb d_Words_draw_22 rfl (lv_at hl 4 rfl) ?_
    refine lv_iload hx hb d_Words_draw_23 (lv_at hl 1 rfl) ?_
    refine z_callV (index := 129) (As := [.int y_585]) (rest := [.int v_588]) (wr := [(b0, .inr (7, [.ref b3, .ref b4, .ref b5, .ref b6, .ref b7, .ref b8, .ref b9, .ref b10])), (b3, .inl (G.2 0, 12, .inl y_587)), (b17, .inl (G.2 0, 241, .inl b27)), (b21, .inl (G.2 0, 240, .inl b28))]) Z (s1_Machine_leavers l G (b1) (y_585) (b12) (b13) (b14) (b15) (b16) (b17) (b18) (b19) (b20) (b21) (b22) (b23) (b24) (b25) (b26) (b29) (b30) hy_585 hb12 hb13 hb20 hb30) hl.1 q909 q665 q666 q6 q667 ⟨by decide, by decide, by show _ = some 1; decide +kernel⟩ ⟨Nat.le_of_ble_eq_true rfl, Nat.le_of_ble_eq_true rfl⟩ ⟨Nat.le_of_ble_eq_true rfl, Nat.le_of_ble_eq_true rfl⟩ rfl (Nat.le_of_ble_eq_true rfl) d_Words_draw_25 hP hD hS hA 2 5 rfl rfl rfl [2, 5, 6] [0, 1, 3, 4] rfl rfl rfl rfl (by decide) (fun v w1 H locs hw_589 hP hD hS => ?_)
    obtain ⟨x_590, rfl, rfl, hfx_591⟩ := hw_589
    have hP : va_P G.1 classes [(b0, .inr (7, [.ref b3, .ref b4, .ref b5, .ref b6, .ref b7, .ref b8, .ref b9, .ref b10])), (b3, .inl (G.2 0, 12, .inl y_587)), (b17, .inl (G.2 0, 241, .inl b27)), (b21, .inl (G.2 0, 240, .inl b28)), (b1, .inr (5, [.int b12, .int b13, .ref b14, .ref b15, .ref b16, .ref b17, .ref b18, .ref b19, .int b20, .ref b21, .ref b22, .ref b23, .ref b24, .ref b25, .ref b26])), (b22, .inl (G.2 0, 240, .inl b29)), (b25, .inl (G.2 0, 242, .inl b30))] H := hP
    have hD := z_tie hP hD rfl
    refine W.widen (k := 0) (n := 0) (Nat.le_of_ble_eq_true rfl) (Nat.le_of_ble_eq_true rfl) ?_
    refine lv_iadd hx hb d_Words_draw_28 ?_
    refine lv_topi (fun v_592 ev_592 => ?_)
    refine lv_istore (lv' := [(6, .int v_592), (5, .int y_584), (4, .int y_585), (3, .int y_586), (0, .ref b0), (1, .ref b1), (2, .int b2)]) hx hb d_Words_draw_29 hl (by decide) rfl (fun ls hl => ?_)
    refine lv_iload hx hb d_Words_draw_31 (lv_at hl 0 rfl) ?_
    refine lv_if_gt (tgt := 39) hx hb d_Words_draw_33 (by decide) (fun hc_593 => ?_) (fun hc_593 => ?_)
    · have _nhc_593 := hc_593
      have ni_594 := (fa_lt _ _).mp hc_593
      rw [li_0] at ni_594
      have hv_595 : zI v_592 1 2147483647 := zI.lt_r zc_0 (zI_all v_592) hc_593 (by decide)
      refine lv_sipush (v := 1103) hx hb d_Words_draw_39 (by decide) ?_
      refine lv_iload_n hx hb d_Words_draw_42 rfl (lv_at hl 3 rfl) ?_
      refine lv_imul hx hb d_Words_draw_43 ?_
      refine lv_topi (fun v_596 ev_596 => ?_)
      obtain ⟨qv_596, hv_596⟩ := zI_mul (l := 0) (h := 1103002206) zc_1103 hy_586 ev_596 (by decide)
      rw [li_1103] at qv_596
      refine lv_sipush (v := 12345) hx hb d_Words_draw_44 (by decide) ?_
      refine lv_iadd hx hb d_Words_draw_47 ?_
      refine lv_topi (fun v_597 ev_597 => ?_)
      obtain ⟨qv_597, hv_597⟩ := zI_add (l := 12345) (h := 1103014551) hv_596 zc_12345 ev_597 (by decide)
      rw [li_12345] at qv_597
      refine lv_ldc hx hb hown (hts _ q910) d_Words_draw_48 ?_
      refine lv_irem hx hb d_Words_draw_50 (by decide +kernel) ?_
      refine lv_topi (fun v_598 ev_598 => ?_)
      obtain ⟨qv_598, hv_598⟩ := zI_rem (h := 1000002) (d := 1000003) hv_597 rfl ev_598 (by decide)
      refine lv_istore_n (lv' := [(3, .int v_598), (6, .int v_592), (5, .int y_584), (4, .int y_585), (0, .ref b0), (1, .ref b1), (2, .int b2)]) hx hb d_Words_draw_51 rfl hl (by decide) rfl (fun ls hl => ?_)
      refine lv_iload_n hx hb d_Words_draw_52 rfl (lv_at hl 0 rfl) ?_
      refine lv_iload hx hb d_Words_draw_53 (lv_at hl 1 rfl) ?_
      refine lv_irem hx hb d_Words_draw_55 (by intro h0; exact zI.no_eq hv_595 zc_0 h0 (by decide)) ?_
      refine lv_topi (fun v_599 ev_599 => ?_)
      refine lv_aload_n hx hb d_Words_draw_56 rfl (lv_at hl 5 rfl) ?_
      refine va_get (D := G.1) (ci := 5) (v := .ref b17) (C := R_Machine) (T := F_Machine) (N := 15) hx hb hts i_Machine hown hK hP 4 rfl rfl 5 (by decide) (hts _ q177) (fun _ h9 => h9) rfl d_Words_draw_57 ?_
      refine lv_iload hx hb d_Words_draw_60 (lv_at hl 3 rfl) ?_
      refine va_iald hx hb hK hP 2 0 rfl rfl (zI.inn hy_585 (by decide)) d_Words_draw_62 ?_
      refine lv_topi (fun v_600 ev_600 => ?_)
      obtain rfl : v_588 = v_600 := ev_588.trans ev_600.symm
      refine lv_isub hx hb d_Words_draw_63 ?_
      refine lv_topi (fun v_601 ev_601 => ?_)
      refine lv_istore (lv' := [(7, .int v_601), (3, .int v_598), (6, .int v_592), (5, .int y_584), (4, .int y_585), (0, .ref b0), (1, .ref b1), (2, .int b2)]) hx hb d_Words_draw_64 hl (by decide) rfl (fun ls hl => ?_)
      refine lv_iload hx hb d_Words_draw_66 (lv_at hl 0 rfl) ?_
      refine lv_if_ge (tgt := 74) hx hb d_Words_draw_68 (by decide) (fun hc_602 => ?_) (fun hc_602 => ?_)
      · have _nhc_602 := hc_602
        have ni_603 := (fa_le _ _).mp hc_602
        rw [li_0] at ni_603
        have hv_604 : zI v_601 0 2147483647 := zI.le_r zc_0 (zI_all v_601) hc_602 (by decide)
        refine lv_iload hx hb d_Words_draw_74 (lv_at hl 3 rfl) ?_
        refine lv_bipush (v := 12) hx hb d_Words_draw_76 (by decide) ?_
        refine lv_icmp_ne (tgt := 84) hx hb d_Words_draw_78 (by decide) (fun hc_605 => ?_) (fun hc_605 => ?_)
        · have _nhc_605 := hc_605
          have ni_606 : ¬ (y_584 : Int32).toInt = (12 : Int32).toInt := fun z => hc_605 ((fa_eq _ _).mpr z)
          simp only [li_12] at ni_606
          have hv_607 : zI y_584 0 11 := zI.ne_hi hy_584 zc_12 hc_605 (by decide)
          refine lv_aload_n hx hb d_Words_draw_84 rfl (lv_at hl 6 rfl) ?_
          refine va_get (D := G.1) (ci := 5) (v := .ref b25) (C := R_Machine) (T := F_Machine) (N := 15) hx hb hts i_Machine hown hK hP 4 rfl rfl 13 (by decide) (hts _ q196) (fun _ h9 => h9) rfl d_Words_draw_85 ?_
          refine lv_iload hx hb d_Words_draw_88 (lv_at hl 4 rfl) ?_
          refine va_iald hx hb hK hP 6 0 rfl rfl (zI.inn hy_585 (by decide)) d_Words_draw_90 ?_
          refine lv_topi (fun v_608 ev_608 => ?_)
          have hv_608 : zI v_608 0 240 := (hb30 _).eq ev_608
          have hv_609 : zI v_608 0 239 := ⟨hv_608.1, by have h9 : ¬ v_608.toInt = 240 := (fun h9 => by have h8 := hfx_591 (by rw [← ev_608]; exact h9); have h7 := z_draw ev_592 h8 (by omega) ev_599 hv_598 (by decide) ev_601; omega); omega⟩
          refine lv_istore (lv' := [(8, .int v_608), (7, .int v_601), (3, .int v_598), (6, .int v_592), (5, .int y_584), (4, .int y_585), (0, .ref b0), (1, .ref b1), (2, .int b2)]) hx hb d_Words_draw_91 hl (by decide) rfl (fun ls hl => ?_)
          suffices key : ∀ (k_670 : Nat) (y_671 : Int32) (y_672 : Int32) (H : Heap) (locs : List Loc) (ls : Array Slot), (zI y_671 0 239) → (239 : Int) - y_671.toInt < (k_670 : Int) → va_P G.1 classes [(b0, .inr (7, [.ref b3, .ref b4, .ref b5, .ref b6, .ref b7, .ref b8, .ref b9, .ref b10])), (b3, .inl (G.2 0, 12, .inl y_587)), (b17, .inl (G.2 0, 241, .inl b27)), (b21, .inl (G.2 0, 240, .inl b28)), (b1, .inr (5, [.int b12, .int b13, .ref b14, .ref b15, .ref b16, .ref b17, .ref b18, .ref b19, .int b20, .ref b21, .ref b22, .ref b23, .ref b24, .ref b25, .ref b26])), (b22, .inl (G.2 0, 240, .inl b29)), (b25, .inl (G.2 0, 242, .inl b30))] H → va_D A [(b0, .inr (7, [.ref b3, .ref b4, .ref b5, .ref b6, .ref b7, .ref b8, .ref b9, .ref b10])), (b3, .inl (G.2 0, 12, .inl y_587)), (b17, .inl (G.2 0, 241, .inl b27)), (b21, .inl (G.2 0, 240, .inl b28)), (b1, .inr (5, [.int b12, .int b13, .ref b14, .ref b15, .ref b16, .ref b17, .ref b18, .ref b19, .int b20, .ref b21, .ref b22, .ref b23, .ref b24, .ref b25, .ref b26])), (b22, .inl (G.2 0, 240, .inl b29)), (b25, .inl (G.2 0, 242, .inl b30))] → va_S A s.heap H locs → lv_has ls 9 [(8, .int y_671), (7, .int y_672), (3, .int v_598), (6, .int v_592), (5, .int y_584), (4, .int y_585), (0, .ref b0), (1, .ref b1), (2, .int b2)] → W p l e m_s1_Words_draw s m ([.ref b0, .ref b1, .int b2] : List Value).toArray below meth c H locs 0 0 (MQ below (zQ G (fun v w => ∃ (e0 : Int32), ∃ (e1 : Nat → Int32), v = some (.int e0) ∧ w = [(b0, .inr (7, [.ref b3, .ref b4, .ref b5, .ref b6, .ref b7, .ref b8, .ref b9, .ref b10])), (b3, .inl (G.2 0, 12, .inl e1)), (b1, .inr (5, [.int b12, .int b13, .ref b14, .ref b15, .ref b16, .ref b17, .ref b18, .ref b19, .int b20, .ref b21, .ref b22, .ref b23, .ref b24, .ref b25, .ref b26])), (b17, .inl (G.2 0, 241, .inl b27)), (b21, .inl (G.2 0, 240, .inl b28)), (b22, .inl (G.2 0, 240, .inl b29)), (b25, .inl (G.2 0, 242, .inl b30))] ∧ (zI e0 (-2) 12)) A) ([.ref b0, .ref b1, .int b2] : List Value).toArray s m_s1_Words_draw.cells m_s1_Words_draw.slots A) (F0 m 93 ls []) by
            exact key 240 (v_608) (v_601) _ _ _ hv_609 (zm_upi hv_609 (by decide)) hP hD hS (lv_sub hl [0, 1, 2, 3, 4, 5, 6, 7, 8] rfl)
          intro k_670
          induction k_670 with
          | zero =>
            intro y_671 y_672 H locs ls hy_671 hmk_670 hP hD hS hl
            exact (zm_up0 hy_671 hmk_670).elim
          | succ k_670 ihk_670 =>
            intro y_671 y_672 H locs ls hy_671 hmk_670 hP hD hS hl
            refine lv_iload hx hb d_Words_draw_93 (lv_at hl 0 rfl) ?_
            refine lv_aload_n hx hb d_Words_draw_95 rfl (lv_at hl 7 rfl) ?_
            refine va_get (D := G.1) (ci := 5) (v := .ref b25) (C := R_Machine) (T := F_Machine) (N := 15) hx hb hts i_Machine hown hK hP 4 rfl rfl 13 (by decide) (hts _ q196) (fun _ h9 => h9) rfl d_Words_draw_96 ?_
            refine lv_iload hx hb d_Words_draw_99 (lv_at hl 5 rfl) ?_
            refine lv_iconst (v := 1) hx hb d_Words_draw_101 (by decide) ?_
            refine lv_iadd hx hb d_Words_draw_102 ?_
            refine lv_topi (fun v_673 ev_673 => ?_)
            obtain ⟨qv_673, hv_673⟩ := zI_add (l := 1) (h := 241) hy_585 zc_1 ev_673 (by decide)
            rw [li_1] at qv_673
            refine va_iald hx hb hK hP 6 0 rfl rfl (zI.inn hv_673 (by decide)) d_Words_draw_103 ?_
            refine lv_topi (fun v_674 ev_674 => ?_)
            have hv_674 : zI v_674 0 240 := (hb30 _).eq ev_674
            refine lv_iconst (v := 1) hx hb d_Words_draw_104 (by decide) ?_
            refine lv_isub hx hb d_Words_draw_105 ?_
            refine lv_topi (fun v_675 ev_675 => ?_)
            obtain ⟨qv_675, hv_675⟩ := zI_sub (l := -1) (h := 239) hv_674 zc_1 ev_675 (by decide)
            rw [li_1] at qv_675
            refine lv_icmp_ge (tgt := 139) hx hb d_Words_draw_106 (by decide) (fun hc_676 => ?_) (fun hc_676 => ?_)
            · have _nhc_676 := hc_676
              have ni_677 := (fa_le _ _).mp hc_676
              refine lv_aload_n hx hb d_Words_draw_139 rfl (lv_at hl 6 rfl) ?_
              refine va_get (D := G.1) (ci := 7) (v := .ref b3) (C := R_Words) (T := F_Words) (N := 8) hx hb hts i_Words hown hK hP 0 rfl rfl 0 (by decide) (hts _ q265) (fun _ h9 => h9) rfl d_Words_draw_140 ?_
              refine lv_iload hx hb d_Words_draw_143 (lv_at hl 4 rfl) ?_
              refine lv_aload_n hx hb d_Words_draw_145 rfl (lv_at hl 7 rfl) ?_
              refine lv_iload hx hb d_Words_draw_146 (lv_at hl 0 rfl) ?_
              refine z_callV (index := 119) (As := [.int y_671]) (rest := [.int y_584, .ref b3]) (wr := [(b0, .inr (7, [.ref b3, .ref b4, .ref b5, .ref b6, .ref b7, .ref b8, .ref b9, .ref b10])), (b3, .inl (G.2 0, 12, .inl y_587)), (b17, .inl (G.2 0, 241, .inl b27)), (b22, .inl (G.2 0, 240, .inl b29)), (b25, .inl (G.2 0, 242, .inl b30))]) Z (s1_Machine_letter l G (b1) (y_671) (b12) (b13) (b14) (b15) (b16) (b17) (b18) (b19) (b20) (b21) (b22) (b23) (b24) (b25) (b26) (b28) hy_671 hb12 hb13 hb20 hb28) hl.1 q810 q674 q675 q6 q676 ⟨by decide, by decide, by show _ = some 1; decide +kernel⟩ ⟨Nat.le_of_ble_eq_true rfl, Nat.le_of_ble_eq_true rfl⟩ ⟨Nat.le_of_ble_eq_true rfl, Nat.le_of_ble_eq_true rfl⟩ rfl (Nat.le_of_ble_eq_true rfl) d_Words_draw_148 hP hD hS hA 4 5 rfl rfl rfl [4, 3] [0, 1, 2, 5, 6] rfl rfl rfl rfl (by decide) (fun v w1 H locs hw_678 hP hD hS => ?_)
              obtain ⟨x_679, rfl, rfl, hx_679⟩ := hw_678
              have hP : va_P G.1 classes [(b0, .inr (7, [.ref b3, .ref b4, .ref b5, .ref b6, .ref b7, .ref b8, .ref b9, .ref b10])), (b3, .inl (G.2 0, 12, .inl y_587)), (b17, .inl (G.2 0, 241, .inl b27)), (b22, .inl (G.2 0, 240, .inl b29)), (b25, .inl (G.2 0, 242, .inl b30)), (b1, .inr (5, [.int b12, .int b13, .ref b14, .ref b15, .ref b16, .ref b17, .ref b18, .ref b19, .int b20, .ref b21, .ref b22, .ref b23, .ref b24, .ref b25, .ref b26])), (b21, .inl (G.2 0, 240, .inl b28))] H := hP
              have hD := z_tie hP hD rfl
              refine W.widen (k := 0) (n := 0) (Nat.le_of_ble_eq_true rfl) (Nat.le_of_ble_eq_true rfl) ?_
              refine va_iast hx hb hK hP hD hS 1 0 rfl rfl (zI.inn hv_607 (by decide)) d_Words_draw_151 (fun H locs hP hD hS => ?_)
              obtain ⟨f_680, gf_680, uf_680, hP, hD⟩ := z_newFu 1 hP hD rfl
              have hP : va_P G.1 classes [(b0, .inr (7, [.ref b3, .ref b4, .ref b5, .ref b6, .ref b7, .ref b8, .ref b9, .ref b10])), (b3, .inl (G.2 0, 12, .inl f_680)), (b17, .inl (G.2 0, 241, .inl b27)), (b22, .inl (G.2 0, 240, .inl b29)), (b25, .inl (G.2 0, 242, .inl b30)), (b1, .inr (5, [.int b12, .int b13, .ref b14, .ref b15, .ref b16, .ref b17, .ref b18, .ref b19, .int b20, .ref b21, .ref b22, .ref b23, .ref b24, .ref b25, .ref b26])), (b21, .inl (G.2 0, 240, .inl b28))] H := hP
              have hD := z_tie hP hD rfl
              refine lv_aload_n hx hb d_Words_draw_152 rfl (lv_at hl 7 rfl) ?_
              refine lv_iload hx hb d_Words_draw_153 (lv_at hl 0 rfl) ?_
              refine z_callV (index := 123) (As := [.int y_671]) (rest := []) (wr := [(b0, .inr (7, [.ref b3, .ref b4, .ref b5, .ref b6, .ref b7, .ref b8, .ref b9, .ref b10])), (b3, .inl (G.2 0, 12, .inl f_680)), (b17, .inl (G.2 0, 241, .inl b27)), (b22, .inl (G.2 0, 240, .inl b29)), (b25, .inl (G.2 0, 242, .inl b30))]) Z (s1_Machine_to l G (b1) (y_671) (b12) (b13) (b14) (b15) (b16) (b17) (b18) (b19) (b20) (b21) (b22) (b23) (b24) (b25) (b26) (b28) hy_671 hb12 hb13 hb20 hb28) hl.1 q811 q681 q682 q6 q683 ⟨by decide, by decide, by show _ = some 1; decide +kernel⟩ ⟨Nat.le_of_ble_eq_true rfl, Nat.le_of_ble_eq_true rfl⟩ ⟨Nat.le_of_ble_eq_true rfl, Nat.le_of_ble_eq_true rfl⟩ rfl (Nat.le_of_ble_eq_true rfl) d_Words_draw_155 hP hD hS hA 5 5 rfl rfl rfl [5, 6] [0, 1, 2, 3, 4] rfl rfl rfl rfl (by decide) (fun v w1 H locs hw_681 hP hD hS => ?_)
              obtain ⟨x_682, rfl, rfl, hx_682⟩ := hw_681
              have hP : va_P G.1 classes [(b0, .inr (7, [.ref b3, .ref b4, .ref b5, .ref b6, .ref b7, .ref b8, .ref b9, .ref b10])), (b3, .inl (G.2 0, 12, .inl f_680)), (b17, .inl (G.2 0, 241, .inl b27)), (b22, .inl (G.2 0, 240, .inl b29)), (b25, .inl (G.2 0, 242, .inl b30)), (b1, .inr (5, [.int b12, .int b13, .ref b14, .ref b15, .ref b16, .ref b17, .ref b18, .ref b19, .int b20, .ref b21, .ref b22, .ref b23, .ref b24, .ref b25, .ref b26])), (b21, .inl (G.2 0, 240, .inl b28))] H := hP
              have hD := z_tie hP hD rfl
              refine W.widen (k := 0) (n := 0) (Nat.le_of_ble_eq_true rfl) (Nat.le_of_ble_eq_true rfl) ?_
              refine lv_istore (lv' := [(4, .int x_682), (8, .int y_671), (7, .int y_672), (3, .int v_598), (6, .int v_592), (5, .int y_584), (0, .ref b0), (1, .ref b1), (2, .int b2)]) hx hb d_Words_draw_158 hl (by decide) rfl (fun ls hl => ?_)
              obtain ⟨v_683, ev_683⟩ : ∃ z : Int32, z = y_584 + 1 := ⟨_, rfl⟩
              obtain ⟨qv_683, hv_683⟩ := zI_add (l := 1) (h := 12) hv_607 zc_1 ev_683 (by decide)
              rw [li_1] at qv_683
              refine lv_iinc (v := v_683) (lv' := [(5, .int v_683), (4, .int x_682), (8, .int y_671), (7, .int y_672), (3, .int v_598), (6, .int v_592), (0, .ref b0), (1, .ref b1), (2, .int b2)]) hx hb d_Words_draw_160 hl (k := 5) rfl (by rw [ev_683]; rfl) (by decide) rfl (fun ls hl => ?_)
              refine lv_goto (tgt := 8) hx hb d_Words_draw_163 (by decide) ?_
              exact ihk_583 (v_683) (x_682) (v_598) (f_680) _ _ _ (zI.wk (l' := 0) (h' := 12) hv_683 (by decide)) hx_682 hv_598 (zm_up qv_683 hmk_583 (by decide)) (hP.sub [0, 1, 5, 2, 6, 3, 4] rfl) (hD.sub [0, 1, 5, 2, 6, 3, 4] (by decide) rfl) hS (lv_sub hl [0, 1, 4, 6, 7, 8] rfl)
            · have _nhc_676 := hc_676
              have ni_684 := (fa_lt _ _).mp (zi_nle hc_676)
              have hv_685 : zI y_671 0 238 := zI.lt_l hy_671 hv_675 (zi_nle hc_676) (by decide)
              have hv_686 : zI v_675 1 239 := zI.lt_r hy_671 hv_675 (zi_nle hc_676) (by decide)
              refine lv_iload hx hb d_Words_draw_109 (lv_at hl 1 rfl) ?_
              refine lv_aload_n hx hb d_Words_draw_111 rfl (lv_at hl 7 rfl) ?_
              refine va_get (D := G.1) (ci := 5) (v := .ref b22) (C := R_Machine) (T := F_Machine) (N := 15) hx hb hts i_Machine hown hK hP 4 rfl rfl 10 (by decide) (hts _ q189) (fun _ h9 => h9) rfl d_Words_draw_112 ?_
              refine lv_iload hx hb d_Words_draw_115 (lv_at hl 0 rfl) ?_
              refine va_iald hx hb hK hP 5 0 rfl rfl (zI.inn hv_685 (by decide)) d_Words_draw_117 ?_
              refine lv_topi (fun v_687 ev_687 => ?_)
              refine lv_icmp_lt (tgt := 139) hx hb d_Words_draw_118 (by decide) (fun hc_688 => ?_) (fun hc_688 => ?_)
              · have _nhc_688 := hc_688
                have ni_689 := (fa_lt _ _).mp hc_688
                have hv_690 : zI y_672 (-2147483648) 2147483646 := zI.lt_l (zI_all y_672) (zI_all v_687) hc_688 (by decide)
                have hv_691 : zI v_687 (-2147483647) 2147483647 := zI.lt_r (zI_all y_672) (zI_all v_687) hc_688 (by decide)
                refine lv_aload_n hx hb d_Words_draw_139 rfl (lv_at hl 6 rfl) ?_
                refine va_get (D := G.1) (ci := 7) (v := .ref b3) (C := R_Words) (T := F_Words) (N := 8) hx hb hts i_Words hown hK hP 0 rfl rfl 0 (by decide) (hts _ q265) (fun _ h9 => h9) rfl d_Words_draw_140 ?_
                refine lv_iload hx hb d_Words_draw_143 (lv_at hl 4 rfl) ?_
                refine lv_aload_n hx hb d_Words_draw_145 rfl (lv_at hl 7 rfl) ?_
                refine lv_iload hx hb d_Words_draw_146 (lv_at hl 0 rfl) ?_
                refine z_callV (index := 119) (As := [.int y_671]) (rest := [.int y_584, .ref b3]) (wr := [(b0, .inr (7, [.ref b3, .ref b4, .ref b5, .ref b6, .ref b7, .ref b8, .ref b9, .ref b10])), (b3, .inl (G.2 0, 12, .inl y_587)), (b17, .inl (G.2 0, 241, .inl b27)), (b22, .inl (G.2 0, 240, .inl b29)), (b25, .inl (G.2 0, 242, .inl b30))]) Z (s1_Machine_letter l G (b1) (y_671) (b12) (b13) (b14) (b15) (b16) (b17) (b18) (b19) (b20) (b21) (b22) (b23) (b24) (b25) (b26) (b28) (zI.wk (l' := 0) (h' := 239) hv_685 (by decide)) hb12 hb13 hb20 hb28) hl.1 q810 q674 q675 q6 q676 ⟨by decide, by decide, by show _ = some 1; decide +kernel⟩ ⟨Nat.le_of_ble_eq_true rfl, Nat.le_of_ble_eq_true rfl⟩ ⟨Nat.le_of_ble_eq_true rfl, Nat.le_of_ble_eq_true rfl⟩ rfl (Nat.le_of_ble_eq_true rfl) d_Words_draw_148 hP hD hS hA 4 5 rfl rfl rfl [4, 3] [0, 1, 2, 5, 6] rfl rfl rfl rfl (by decide) (fun v w1 H locs hw_692 hP hD hS => ?_)
                obtain ⟨x_693, rfl, rfl, hx_693⟩ := hw_692
                have hP : va_P G.1 classes [(b0, .inr (7, [.ref b3, .ref b4, .ref b5, .ref b6, .ref b7, .ref b8, .ref b9, .ref b10])), (b3, .inl (G.2 0, 12, .inl y_587)), (b17, .inl (G.2 0, 241, .inl b27)), (b22, .inl (G.2 0, 240, .inl b29)), (b25, .inl (G.2 0, 242, .inl b30)), (b1, .inr (5, [.int b12, .int b13, .ref b14, .ref b15, .ref b16, .ref b17, .ref b18, .ref b19, .int b20, .ref b21, .ref b22, .ref b23, .ref b24, .ref b25, .ref b26])), (b21, .inl (G.2 0, 240, .inl b28))] H := hP
                have hD := z_tie hP hD rfl
                refine W.widen (k := 0) (n := 0) (Nat.le_of_ble_eq_true rfl) (Nat.le_of_ble_eq_true rfl) ?_
                refine va_iast hx hb hK hP hD hS 1 0 rfl rfl (zI.inn hv_607 (by decide)) d_Words_draw_151 (fun H locs hP hD hS => ?_)
                obtain ⟨f_694, gf_694, uf_694, hP, hD⟩ := z_newFu 1 hP hD rfl
                have hP : va_P G.1 classes [(b0, .inr (7, [.ref b3, .ref b4, .ref b5, .ref b6, .ref b7, .ref b8, .ref b9, .ref b10])), (b3, .inl (G.2 0, 12, .inl f_694)), (b17, .inl (G.2 0, 241, .inl b27)), (b22, .inl (G.2 0, 240, .inl b29)), (b25, .inl (G.2 0, 242, .inl b30)), (b1, .inr (5, [.int b12, .int b13, .ref b14, .ref b15, .ref b16, .ref b17, .ref b18, .ref b19, .int b20, .ref b21, .ref b22, .ref b23, .ref b24, .ref b25, .ref b26])), (b21, .inl (G.2 0, 240, .inl b28))] H := hP
                have hD := z_tie hP hD rfl
                refine lv_aload_n hx hb d_Words_draw_152 rfl (lv_at hl 7 rfl) ?_
                refine lv_iload hx hb d_Words_draw_153 (lv_at hl 0 rfl) ?_
                refine z_callV (index := 123) (As := [.int y_671]) (rest := []) (wr := [(b0, .inr (7, [.ref b3, .ref b4, .ref b5, .ref b6, .ref b7, .ref b8, .ref b9, .ref b10])), (b3, .inl (G.2 0, 12, .inl f_694)), (b17, .inl (G.2 0, 241, .inl b27)), (b22, .inl (G.2 0, 240, .inl b29)), (b25, .inl (G.2 0, 242, .inl b30))]) Z (s1_Machine_to l G (b1) (y_671) (b12) (b13) (b14) (b15) (b16) (b17) (b18) (b19) (b20) (b21) (b22) (b23) (b24) (b25) (b26) (b28) (zI.wk (l' := 0) (h' := 239) hv_685 (by decide)) hb12 hb13 hb20 hb28) hl.1 q811 q681 q682 q6 q683 ⟨by decide, by decide, by show _ = some 1; decide +kernel⟩ ⟨Nat.le_of_ble_eq_true rfl, Nat.le_of_ble_eq_true rfl⟩ ⟨Nat.le_of_ble_eq_true rfl, Nat.le_of_ble_eq_true rfl⟩ rfl (Nat.le_of_ble_eq_true rfl) d_Words_draw_155 hP hD hS hA 5 5 rfl rfl rfl [5, 6] [0, 1, 2, 3, 4] rfl rfl rfl rfl (by decide) (fun v w1 H locs hw_695 hP hD hS => ?_)
                obtain ⟨x_696, rfl, rfl, hx_696⟩ := hw_695
                have hP : va_P G.1 classes [(b0, .inr (7, [.ref b3, .ref b4, .ref b5, .ref b6, .ref b7, .ref b8, .ref b9, .ref b10])), (b3, .inl (G.2 0, 12, .inl f_694)), (b17, .inl (G.2 0, 241, .inl b27)), (b22, .inl (G.2 0, 240, .inl b29)), (b25, .inl (G.2 0, 242, .inl b30)), (b1, .inr (5, [.int b12, .int b13, .ref b14, .ref b15, .ref b16, .ref b17, .ref b18, .ref b19, .int b20, .ref b21, .ref b22, .ref b23, .ref b24, .ref b25, .ref b26])), (b21, .inl (G.2 0, 240, .inl b28))] H := hP
                have hD := z_tie hP hD rfl
                refine W.widen (k := 0) (n := 0) (Nat.le_of_ble_eq_true rfl) (Nat.le_of_ble_eq_true rfl) ?_
                refine lv_istore (lv' := [(4, .int x_696), (8, .int y_671), (7, .int y_672), (3, .int v_598), (6, .int v_592), (5, .int y_584), (0, .ref b0), (1, .ref b1), (2, .int b2)]) hx hb d_Words_draw_158 hl (by decide) rfl (fun ls hl => ?_)
                obtain ⟨v_697, ev_697⟩ : ∃ z : Int32, z = y_584 + 1 := ⟨_, rfl⟩
                obtain ⟨qv_697, hv_697⟩ := zI_add (l := 1) (h := 12) hv_607 zc_1 ev_697 (by decide)
                rw [li_1] at qv_697
                refine lv_iinc (v := v_697) (lv' := [(5, .int v_697), (4, .int x_696), (8, .int y_671), (7, .int y_672), (3, .int v_598), (6, .int v_592), (0, .ref b0), (1, .ref b1), (2, .int b2)]) hx hb d_Words_draw_160 hl (k := 5) rfl (by rw [ev_697]; rfl) (by decide) rfl (fun ls hl => ?_)
                refine lv_goto (tgt := 8) hx hb d_Words_draw_163 (by decide) ?_
                exact ihk_583 (v_697) (x_696) (v_598) (f_694) _ _ _ (zI.wk (l' := 0) (h' := 12) hv_697 (by decide)) hx_696 hv_598 (zm_up qv_697 hmk_583 (by decide)) (hP.sub [0, 1, 5, 2, 6, 3, 4] rfl) (hD.sub [0, 1, 5, 2, 6, 3, 4] (by decide) rfl) hS (lv_sub hl [0, 1, 4, 6, 7, 8] rfl)
              · have _nhc_688 := hc_688
                have ni_698 := (fa_le _ _).mp (zi_nlt hc_688)
                refine lv_iload hx hb d_Words_draw_121 (lv_at hl 1 rfl) ?_
                refine lv_aload_n hx hb d_Words_draw_123 rfl (lv_at hl 7 rfl) ?_
                refine va_get (D := G.1) (ci := 5) (v := .ref b22) (C := R_Machine) (T := F_Machine) (N := 15) hx hb hts i_Machine hown hK hP 4 rfl rfl 10 (by decide) (hts _ q189) (fun _ h9 => h9) rfl d_Words_draw_124 ?_
                refine lv_iload hx hb d_Words_draw_127 (lv_at hl 0 rfl) ?_
                refine va_iald hx hb hK hP 5 0 rfl rfl (zI.inn hv_685 (by decide)) d_Words_draw_129 ?_
                refine lv_topi (fun v_699 ev_699 => ?_)
                obtain rfl : v_687 = v_699 := ev_687.trans ev_699.symm
                refine lv_isub hx hb d_Words_draw_130 ?_
                refine lv_topi (fun v_700 ev_700 => ?_)
                refine lv_istore (lv' := [(7, .int v_700), (8, .int y_671), (3, .int v_598), (6, .int v_592), (5, .int y_584), (4, .int y_585), (0, .ref b0), (1, .ref b1), (2, .int b2)]) hx hb d_Words_draw_131 hl (by decide) rfl (fun ls hl => ?_)
                obtain ⟨v_701, ev_701⟩ : ∃ z : Int32, z = y_671 + 1 := ⟨_, rfl⟩
                obtain ⟨qv_701, hv_701⟩ := zI_add (l := 1) (h := 239) hv_685 zc_1 ev_701 (by decide)
                rw [li_1] at qv_701
                refine lv_iinc (v := v_701) (lv' := [(8, .int v_701), (7, .int v_700), (3, .int v_598), (6, .int v_592), (5, .int y_584), (4, .int y_585), (0, .ref b0), (1, .ref b1), (2, .int b2)]) hx hb d_Words_draw_133 hl (k := 1) rfl (by rw [ev_701]; rfl) (by decide) rfl (fun ls hl => ?_)
                refine lv_goto (tgt := 93) hx hb d_Words_draw_136 (by decide) ?_
                exact ihk_670 (v_701) (v_700) _ _ _ (zI.wk (l' := 0) (h' := 239) hv_701 (by decide)) (zm_up qv_701 hmk_670 (by decide)) hP hD hS (lv_sub hl [0, 1, 2, 3, 4, 5, 6, 7, 8] rfl)
        · have _nhc_605 := hc_605
          have ni_702 := (fa_eq _ _).mp hc_605
          rw [li_12] at ni_702
          have hv_703 : zI y_584 12 12 := zI.eq_l hy_584 zc_12 hc_605
          refine lv_bipush (v := (-2)) hx hb d_Words_draw_81 (by decide) ?_
          exact z_iret hx hb hr hlocks (hP.sub [0, 1, 4, 2, 3, 5, 6] rfl) (hD.sub [0, 1, 4, 2, 3, 5, 6] (by decide) rfl) hS (Nat.le_of_ble_eq_true rfl) (Nat.le_of_ble_eq_true rfl) d_Words_draw_83 ⟨(-2), y_587, rfl, rfl, (zI.wk (l' := (-2)) (h' := 12) zc_m2 (by decide))⟩
      · have _nhc_602 := hc_602
        have ni_704 := (fa_lt _ _).mp (zi_nle hc_602)
        rw [li_0] at ni_704
        have hv_705 : zI v_601 (-2147483648) (-1) := zI.lt_l (zI_all v_601) zc_0 (zi_nle hc_602) (by decide)
        refine lv_iload hx hb d_Words_draw_71 (lv_at hl 3 rfl) ?_
        exact z_iret hx hb hr hlocks (hP.sub [0, 1, 4, 2, 3, 5, 6] rfl) (hD.sub [0, 1, 4, 2, 3, 5, 6] (by decide) rfl) hS (Nat.le_of_ble_eq_true rfl) (Nat.le_of_ble_eq_true rfl) d_Words_draw_73 ⟨y_584, y_587, rfl, rfl, (zI.wk (l' := (-2)) (h' := 12) hy_584 (by decide))⟩
    · have _nhc_593 := hc_593
      have ni_706 := (fa_le _ _).mp (zi_nlt hc_593)
      rw [li_0] at ni_706
      have hv_707 : zI v_592 (-2147483648) 0 := zI.le_l (zI_all v_592) zc_0 (zi_nlt hc_593) (by decide)
      refine lv_iload hx hb d_Words_draw_36 (lv_at hl 1 rfl) ?_
      exact z_iret hx hb hr hlocks (hP.sub [0, 1, 4, 2, 3, 5, 6] rfl) (hD.sub [0, 1, 4, 2, 3, 5, 6] (by decide) rfl) hS (Nat.le_of_ble_eq_true rfl) (Nat.le_of_ble_eq_true rfl) d_Words_draw_38 ⟨y_584, y_587, rfl, rfl, (zI.wk (l' := (-2)) (h' := 12) hy_584 (by decide))⟩
