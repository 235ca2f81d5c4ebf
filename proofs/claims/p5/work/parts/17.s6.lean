theorem d_Parting_find_0 : decode prog_7_method_4_code 0 = .ok (.aload_n 0, 1) := by decide +kernel
theorem d_Parting_find_1 : decode prog_7_method_4_code 1 = .ok (.iconst (-1), 1) := by decide +kernel
theorem d_Parting_find_2 : decode prog_7_method_4_code 2 = .ok (.putfield 47, 3) := by decide +kernel
theorem d_Parting_find_5 : decode prog_7_method_4_code 5 = .ok (.aload_n 0, 1) := by decide +kernel
theorem d_Parting_find_6 : decode prog_7_method_4_code 6 = .ok (.aload_n 1, 1) := by decide +kernel
theorem d_Parting_find_7 : decode prog_7_method_4_code 7 = .ok (.aload_n 2, 1) := by decide +kernel
theorem d_Parting_find_8 : decode prog_7_method_4_code 8 = .ok (.invokevirtual 50, 3) := by decide +kernel
theorem d_Parting_find_11 : decode prog_7_method_4_code 11 = .ok (.iconst 0, 1) := by decide +kernel
theorem d_Parting_find_12 : decode prog_7_method_4_code 12 = .ok (.istore_n 3, 1) := by decide +kernel
theorem d_Parting_find_13 : decode prog_7_method_4_code 13 = .ok (.iload_n 3, 1) := by decide +kernel
theorem d_Parting_find_14 : decode prog_7_method_4_code 14 = .ok (.sipush 400, 3) := by decide +kernel
theorem d_Parting_find_17 : decode prog_7_method_4_code 17 = .ok (.if_icmp .ge 77, 3) := by decide +kernel
theorem d_Parting_find_20 : decode prog_7_method_4_code 20 = .ok (.iload_n 3, 1) := by decide +kernel
theorem d_Parting_find_21 : decode prog_7_method_4_code 21 = .ok (.aload_n 0, 1) := by decide +kernel
theorem d_Parting_find_22 : decode prog_7_method_4_code 22 = .ok (.getfield 20, 3) := by decide +kernel
theorem d_Parting_find_25 : decode prog_7_method_4_code 25 = .ok (.getfield 54, 3) := by decide +kernel
theorem d_Parting_find_28 : decode prog_7_method_4_code 28 = .ok (.if_icmp .ge 66, 3) := by decide +kernel
theorem d_Parting_find_31 : decode prog_7_method_4_code 31 = .ok (.aload_n 1, 1) := by decide +kernel
theorem d_Parting_find_32 : decode prog_7_method_4_code 32 = .ok (.aload_n 0, 1) := by decide +kernel
theorem d_Parting_find_33 : decode prog_7_method_4_code 33 = .ok (.getfield 20, 3) := by decide +kernel
theorem d_Parting_find_36 : decode prog_7_method_4_code 36 = .ok (.iload_n 3, 1) := by decide +kernel
theorem d_Parting_find_37 : decode prog_7_method_4_code 37 = .ok (.iconst 0, 1) := by decide +kernel
theorem d_Parting_find_38 : decode prog_7_method_4_code 38 = .ok (.invokevirtual 57, 3) := by decide +kernel
theorem d_Parting_find_41 : decode prog_7_method_4_code 41 = .ok (.aload_n 2, 1) := by decide +kernel
theorem d_Parting_find_42 : decode prog_7_method_4_code 42 = .ok (.aload_n 0, 1) := by decide +kernel
theorem d_Parting_find_43 : decode prog_7_method_4_code 43 = .ok (.getfield 20, 3) := by decide +kernel
theorem d_Parting_find_46 : decode prog_7_method_4_code 46 = .ok (.iload_n 3, 1) := by decide +kernel
theorem d_Parting_find_47 : decode prog_7_method_4_code 47 = .ok (.iconst 1, 1) := by decide +kernel
theorem d_Parting_find_48 : decode prog_7_method_4_code 48 = .ok (.invokevirtual 57, 3) := by decide +kernel
theorem d_Parting_find_51 : decode prog_7_method_4_code 51 = .ok (.if_icmp .eq 9, 3) := by decide +kernel
theorem d_Parting_find_54 : decode prog_7_method_4_code 54 = .ok (.aload_n 0, 1) := by decide +kernel
theorem d_Parting_find_55 : decode prog_7_method_4_code 55 = .ok (.iload_n 3, 1) := by decide +kernel
theorem d_Parting_find_56 : decode prog_7_method_4_code 56 = .ok (.invokevirtual 63, 3) := by decide +kernel
theorem d_Parting_find_60 : decode prog_7_method_4_code 60 = .ok (.aload_n 0, 1) := by decide +kernel
theorem d_Parting_find_61 : decode prog_7_method_4_code 61 = .ok (.getfield 33, 3) := by decide +kernel
theorem d_Parting_find_64 : decode prog_7_method_4_code 64 = .ok (.iload_n 3, 1) := by decide +kernel
theorem d_Parting_find_65 : decode prog_7_method_4_code 65 = .ok (.iaload, 1) := by decide +kernel
theorem d_Parting_find_66 : decode prog_7_method_4_code 66 = .ok (.bipush 8, 2) := by decide +kernel
theorem d_Parting_find_68 : decode prog_7_method_4_code 68 = .ok (.if_icmp .ge 20, 3) := by decide +kernel
theorem d_Parting_find_71 : decode prog_7_method_4_code 71 = .ok (.aload_n 0, 1) := by decide +kernel
theorem d_Parting_find_72 : decode prog_7_method_4_code 72 = .ok (.aload_n 1, 1) := by decide +kernel
theorem d_Parting_find_73 : decode prog_7_method_4_code 73 = .ok (.aload_n 2, 1) := by decide +kernel
theorem d_Parting_find_74 : decode prog_7_method_4_code 74 = .ok (.iload_n 3, 1) := by decide +kernel
theorem d_Parting_find_75 : decode prog_7_method_4_code 75 = .ok (.invokevirtual 67, 3) := by decide +kernel
theorem d_Parting_find_78 : decode prog_7_method_4_code 78 = .ok (.ifCond .ne 10, 3) := by decide +kernel
theorem d_Parting_find_81 : decode prog_7_method_4_code 81 = .ok (.aload_n 0, 1) := by decide +kernel
theorem d_Parting_find_82 : decode prog_7_method_4_code 82 = .ok (.bipush (-2), 2) := by decide +kernel
theorem d_Parting_find_84 : decode prog_7_method_4_code 84 = .ok (.putfield 47, 3) := by decide +kernel
theorem d_Parting_find_88 : decode prog_7_method_4_code 88 = .ok (.iinc 3 1, 3) := by decide +kernel
theorem d_Parting_find_91 : decode prog_7_method_4_code 91 = .ok (.goto (-78), 3) := by decide +kernel
theorem d_Parting_begin_0 : decode prog_7_method_5_code 0 = .ok (.aload_n 0, 1) := by decide +kernel
theorem d_Parting_begin_1 : decode prog_7_method_5_code 1 = .ok (.getfield 24, 3) := by decide +kernel
theorem d_Parting_begin_4 : decode prog_7_method_5_code 4 = .ok (.invokevirtual 71, 3) := by decide +kernel
theorem d_Parting_begin_7 : decode prog_7_method_5_code 7 = .ok (.aload_n 1, 1) := by decide +kernel
theorem d_Parting_begin_8 : decode prog_7_method_5_code 8 = .ok (.getfield 74, 3) := by decide +kernel
theorem d_Parting_begin_11 : decode prog_7_method_5_code 11 = .ok (.ifCond .le 13, 3) := by decide +kernel
theorem d_Parting_begin_14 : decode prog_7_method_5_code 14 = .ok (.aload_n 0, 1) := by decide +kernel
theorem d_Parting_begin_15 : decode prog_7_method_5_code 15 = .ok (.getfield 24, 3) := by decide +kernel
theorem d_Parting_begin_18 : decode prog_7_method_5_code 18 = .ok (.iconst 0, 1) := by decide +kernel
theorem d_Parting_begin_19 : decode prog_7_method_5_code 19 = .ok (.iconst 0, 1) := by decide +kernel
theorem d_Parting_begin_20 : decode prog_7_method_5_code 20 = .ok (.iconst 0, 1) := by decide +kernel
theorem d_Parting_begin_21 : decode prog_7_method_5_code 21 = .ok (.invokevirtual 77, 3) := by decide +kernel
theorem d_Parting_begin_24 : decode prog_7_method_5_code 24 = .ok (.aload_n 2, 1) := by decide +kernel
theorem d_Parting_begin_25 : decode prog_7_method_5_code 25 = .ok (.getfield 74, 3) := by decide +kernel
theorem d_Parting_begin_28 : decode prog_7_method_5_code 28 = .ok (.ifCond .le 13, 3) := by decide +kernel
theorem d_Parting_begin_31 : decode prog_7_method_5_code 31 = .ok (.aload_n 0, 1) := by decide +kernel
theorem d_Parting_begin_32 : decode prog_7_method_5_code 32 = .ok (.getfield 24, 3) := by decide +kernel
theorem d_Parting_begin_35 : decode prog_7_method_5_code 35 = .ok (.iconst 0, 1) := by decide +kernel
theorem d_Parting_begin_36 : decode prog_7_method_5_code 36 = .ok (.iconst 1, 1) := by decide +kernel
theorem d_Parting_begin_37 : decode prog_7_method_5_code 37 = .ok (.iconst 0, 1) := by decide +kernel
theorem d_Parting_begin_38 : decode prog_7_method_5_code 38 = .ok (.invokevirtual 77, 3) := by decide +kernel
theorem d_Parting_begin_41 : decode prog_7_method_5_code 41 = .ok (.aload_n 0, 1) := by decide +kernel
theorem d_Parting_begin_42 : decode prog_7_method_5_code 42 = .ok (.getfield 20, 3) := by decide +kernel
theorem d_Parting_begin_45 : decode prog_7_method_5_code 45 = .ok (.invokevirtual 81, 3) := by decide +kernel
theorem d_Parting_begin_48 : decode prog_7_method_5_code 48 = .ok (.aload_n 0, 1) := by decide +kernel
theorem d_Parting_begin_49 : decode prog_7_method_5_code 49 = .ok (.getfield 20, 3) := by decide +kernel
theorem d_Parting_begin_52 : decode prog_7_method_5_code 52 = .ok (.aload_n 0, 1) := by decide +kernel
theorem d_Parting_begin_53 : decode prog_7_method_5_code 53 = .ok (.getfield 24, 3) := by decide +kernel
theorem d_Parting_begin_56 : decode prog_7_method_5_code 56 = .ok (.iconst 0, 1) := by decide +kernel
theorem d_Parting_begin_57 : decode prog_7_method_5_code 57 = .ok (.invokevirtual 84, 3) := by decide +kernel
theorem d_Parting_begin_60 : decode prog_7_method_5_code 60 = .ok (.pop, 1) := by decide +kernel
theorem d_Parting_begin_61 : decode prog_7_method_5_code 61 = .ok (.aload_n 0, 1) := by decide +kernel
theorem d_Parting_begin_62 : decode prog_7_method_5_code 62 = .ok (.getfield 33, 3) := by decide +kernel
theorem d_Parting_begin_65 : decode prog_7_method_5_code 65 = .ok (.iconst 0, 1) := by decide +kernel
theorem d_Parting_begin_66 : decode prog_7_method_5_code 66 = .ok (.iconst 0, 1) := by decide +kernel
theorem d_Parting_begin_67 : decode prog_7_method_5_code 67 = .ok (.iastore, 1) := by decide +kernel
theorem d_Sets_indexOf_0 : decode prog_8_method_11_code 0 = .ok (.aload_n 1, 1) := by decide +kernel
theorem d_Sets_indexOf_1 : decode prog_8_method_11_code 1 = .ok (.iload_n 2, 1) := by decide +kernel
theorem d_Sets_indexOf_2 : decode prog_8_method_11_code 2 = .ok (.invokevirtual 47, 3) := by decide +kernel
theorem d_Sets_indexOf_5 : decode prog_8_method_11_code 5 = .ok (.istore_n 3, 1) := by decide +kernel
theorem d_Sets_indexOf_6 : decode prog_8_method_11_code 6 = .ok (.iconst 0, 1) := by decide +kernel
theorem d_Sets_indexOf_7 : decode prog_8_method_11_code 7 = .ok (.istore 4, 2) := by decide +kernel
theorem d_Sets_indexOf_9 : decode prog_8_method_11_code 9 = .ok (.iload 4, 2) := by decide +kernel
theorem d_Sets_indexOf_11 : decode prog_8_method_11_code 11 = .ok (.aload_n 0, 1) := by decide +kernel
theorem d_Sets_indexOf_12 : decode prog_8_method_11_code 12 = .ok (.getfield 22, 3) := by decide +kernel
theorem d_Sets_indexOf_15 : decode prog_8_method_11_code 15 = .ok (.arraylength, 1) := by decide +kernel
theorem d_Sets_indexOf_16 : decode prog_8_method_11_code 16 = .ok (.if_icmp .ge 61, 3) := by decide +kernel
theorem d_Sets_indexOf_19 : decode prog_8_method_11_code 19 = .ok (.iload_n 3, 1) := by decide +kernel
theorem d_Sets_indexOf_20 : decode prog_8_method_11_code 20 = .ok (.iload 4, 2) := by decide +kernel
theorem d_Sets_indexOf_22 : decode prog_8_method_11_code 22 = .ok (.iadd, 1) := by decide +kernel
theorem d_Sets_indexOf_23 : decode prog_8_method_11_code 23 = .ok (.aload_n 0, 1) := by decide +kernel
theorem d_Sets_indexOf_24 : decode prog_8_method_11_code 24 = .ok (.getfield 22, 3) := by decide +kernel
theorem d_Sets_indexOf_27 : decode prog_8_method_11_code 27 = .ok (.arraylength, 1) := by decide +kernel
theorem d_Sets_indexOf_28 : decode prog_8_method_11_code 28 = .ok (.iconst 1, 1) := by decide +kernel
theorem d_Sets_indexOf_29 : decode prog_8_method_11_code 29 = .ok (.isub, 1) := by decide +kernel
theorem d_Sets_indexOf_30 : decode prog_8_method_11_code 30 = .ok (.iand, 1) := by decide +kernel
theorem d_Sets_indexOf_31 : decode prog_8_method_11_code 31 = .ok (.istore 5, 2) := by decide +kernel
theorem d_Sets_indexOf_33 : decode prog_8_method_11_code 33 = .ok (.aload_n 0, 1) := by decide +kernel
theorem d_Sets_indexOf_34 : decode prog_8_method_11_code 34 = .ok (.getfield 22, 3) := by decide +kernel
theorem d_Sets_indexOf_37 : decode prog_8_method_11_code 37 = .ok (.iload 5, 2) := by decide +kernel
theorem d_Sets_indexOf_39 : decode prog_8_method_11_code 39 = .ok (.iaload, 1) := by decide +kernel
theorem d_Sets_indexOf_40 : decode prog_8_method_11_code 40 = .ok (.istore 6, 2) := by decide +kernel
theorem d_Sets_indexOf_42 : decode prog_8_method_11_code 42 = .ok (.iload 6, 2) := by decide +kernel
theorem d_Sets_indexOf_44 : decode prog_8_method_11_code 44 = .ok (.iconst (-1), 1) := by decide +kernel
theorem d_Sets_indexOf_45 : decode prog_8_method_11_code 45 = .ok (.if_icmp .ne 12, 3) := by decide +kernel
theorem d_Sets_indexOf_48 : decode prog_8_method_11_code 48 = .ok (.aload_n 0, 1) := by decide +kernel
theorem d_Sets_indexOf_49 : decode prog_8_method_11_code 49 = .ok (.aload_n 1, 1) := by decide +kernel
theorem d_Sets_indexOf_50 : decode prog_8_method_11_code 50 = .ok (.iload_n 2, 1) := by decide +kernel
theorem d_Sets_indexOf_51 : decode prog_8_method_11_code 51 = .ok (.iload 5, 2) := by decide +kernel
theorem d_Sets_indexOf_53 : decode prog_8_method_11_code 53 = .ok (.invokevirtual 51, 3) := by decide +kernel
theorem d_Sets_indexOf_57 : decode prog_8_method_11_code 57 = .ok (.aload_n 0, 1) := by decide +kernel
theorem d_Sets_indexOf_58 : decode prog_8_method_11_code 58 = .ok (.iload 6, 2) := by decide +kernel
theorem d_Sets_indexOf_60 : decode prog_8_method_11_code 60 = .ok (.aload_n 1, 1) := by decide +kernel
theorem d_Sets_indexOf_61 : decode prog_8_method_11_code 61 = .ok (.iload_n 2, 1) := by decide +kernel
theorem d_Sets_indexOf_62 : decode prog_8_method_11_code 62 = .ok (.invokevirtual 55, 3) := by decide +kernel
theorem d_Sets_indexOf_65 : decode prog_8_method_11_code 65 = .ok (.ifCond .eq 6, 3) := by decide +kernel
theorem d_Sets_indexOf_68 : decode prog_8_method_11_code 68 = .ok (.iload 6, 2) := by decide +kernel
theorem d_Sets_indexOf_71 : decode prog_8_method_11_code 71 = .ok (.iinc 4 1, 3) := by decide +kernel
theorem d_Sets_indexOf_74 : decode prog_8_method_11_code 74 = .ok (.goto (-65), 3) := by decide +kernel
theorem d_Sets_indexOf_77 : decode prog_8_method_11_code 77 = .ok (.iconst (-1), 1) := by decide +kernel
theorem d_Sets_isLike_0 : decode prog_8_method_14_code 0 = .ok (.iconst 0, 1) := by decide +kernel
theorem d_Sets_isLike_1 : decode prog_8_method_14_code 1 = .ok (.istore 4, 2) := by decide +kernel
theorem d_Sets_isLike_3 : decode prog_8_method_14_code 3 = .ok (.iload 4, 2) := by decide +kernel
theorem d_Sets_isLike_5 : decode prog_8_method_14_code 5 = .ok (.aload_n 0, 1) := by decide +kernel
theorem d_Sets_isLike_6 : decode prog_8_method_14_code 6 = .ok (.getfield 15, 3) := by decide +kernel
theorem d_Sets_isLike_9 : decode prog_8_method_14_code 9 = .ok (.if_icmp .ge 43, 3) := by decide +kernel
theorem d_Sets_isLike_12 : decode prog_8_method_14_code 12 = .ok (.aload_n 0, 1) := by decide +kernel
theorem d_Sets_isLike_13 : decode prog_8_method_14_code 13 = .ok (.getfield 18, 3) := by decide +kernel
theorem d_Sets_isLike_16 : decode prog_8_method_14_code 16 = .ok (.iload_n 1, 1) := by decide +kernel
theorem d_Sets_isLike_17 : decode prog_8_method_14_code 17 = .ok (.aload_n 0, 1) := by decide +kernel
theorem d_Sets_isLike_18 : decode prog_8_method_14_code 18 = .ok (.getfield 15, 3) := by decide +kernel
theorem d_Sets_isLike_21 : decode prog_8_method_14_code 21 = .ok (.imul, 1) := by decide +kernel
theorem d_Sets_isLike_22 : decode prog_8_method_14_code 22 = .ok (.iload 4, 2) := by decide +kernel
theorem d_Sets_isLike_24 : decode prog_8_method_14_code 24 = .ok (.iadd, 1) := by decide +kernel
theorem d_Sets_isLike_25 : decode prog_8_method_14_code 25 = .ok (.laload, 1) := by decide +kernel
theorem d_Sets_isLike_26 : decode prog_8_method_14_code 26 = .ok (.aload_n 2, 1) := by decide +kernel
theorem d_Sets_isLike_27 : decode prog_8_method_14_code 27 = .ok (.getfield 18, 3) := by decide +kernel
theorem d_Sets_isLike_30 : decode prog_8_method_14_code 30 = .ok (.iload_n 3, 1) := by decide +kernel
theorem d_Sets_isLike_31 : decode prog_8_method_14_code 31 = .ok (.aload_n 0, 1) := by decide +kernel
theorem d_Sets_isLike_32 : decode prog_8_method_14_code 32 = .ok (.getfield 15, 3) := by decide +kernel
theorem d_Sets_isLike_35 : decode prog_8_method_14_code 35 = .ok (.imul, 1) := by decide +kernel
theorem d_Sets_isLike_36 : decode prog_8_method_14_code 36 = .ok (.iload 4, 2) := by decide +kernel
theorem d_Sets_isLike_38 : decode prog_8_method_14_code 38 = .ok (.iadd, 1) := by decide +kernel
theorem d_Sets_isLike_39 : decode prog_8_method_14_code 39 = .ok (.laload, 1) := by decide +kernel
theorem d_Sets_isLike_40 : decode prog_8_method_14_code 40 = .ok (.lcmp, 1) := by decide +kernel
theorem d_Sets_isLike_41 : decode prog_8_method_14_code 41 = .ok (.ifCond .eq 5, 3) := by decide +kernel
theorem d_Sets_isLike_44 : decode prog_8_method_14_code 44 = .ok (.iconst 0, 1) := by decide +kernel
theorem d_Sets_isLike_46 : decode prog_8_method_14_code 46 = .ok (.iinc 4 1, 3) := by decide +kernel
theorem d_Sets_isLike_49 : decode prog_8_method_14_code 49 = .ok (.goto (-46), 3) := by decide +kernel
theorem d_Sets_isLike_52 : decode prog_8_method_14_code 52 = .ok (.iconst 1, 1) := by decide +kernel
theorem d_Sets_append_0 : decode prog_8_method_12_code 0 = .ok (.aload_n 0, 1) := by decide +kernel
theorem d_Sets_append_1 : decode prog_8_method_12_code 1 = .ok (.getfield 26, 3) := by decide +kernel
theorem d_Sets_append_4 : decode prog_8_method_12_code 4 = .ok (.aload_n 0, 1) := by decide +kernel
theorem d_Sets_append_5 : decode prog_8_method_12_code 5 = .ok (.getfield 9, 3) := by decide +kernel
theorem d_Sets_append_8 : decode prog_8_method_12_code 8 = .ok (.if_icmp .ne 5, 3) := by decide +kernel
theorem d_Sets_append_11 : decode prog_8_method_12_code 11 = .ok (.iconst (-1), 1) := by decide +kernel
theorem d_Sets_append_13 : decode prog_8_method_12_code 13 = .ok (.aload_n 1, 1) := by decide +kernel
theorem d_Sets_append_14 : decode prog_8_method_12_code 14 = .ok (.getfield 18, 3) := by decide +kernel
theorem d_Sets_append_17 : decode prog_8_method_12_code 17 = .ok (.iload_n 2, 1) := by decide +kernel
theorem d_Sets_append_18 : decode prog_8_method_12_code 18 = .ok (.aload_n 0, 1) := by decide +kernel
theorem d_Sets_append_19 : decode prog_8_method_12_code 19 = .ok (.getfield 15, 3) := by decide +kernel
theorem d_Sets_append_22 : decode prog_8_method_12_code 22 = .ok (.imul, 1) := by decide +kernel
theorem d_Sets_append_23 : decode prog_8_method_12_code 23 = .ok (.aload_n 0, 1) := by decide +kernel
theorem d_Sets_append_24 : decode prog_8_method_12_code 24 = .ok (.getfield 18, 3) := by decide +kernel
theorem d_Sets_append_27 : decode prog_8_method_12_code 27 = .ok (.aload_n 0, 1) := by decide +kernel
theorem d_Sets_append_28 : decode prog_8_method_12_code 28 = .ok (.getfield 26, 3) := by decide +kernel
theorem d_Sets_append_31 : decode prog_8_method_12_code 31 = .ok (.aload_n 0, 1) := by decide +kernel
theorem d_Sets_append_32 : decode prog_8_method_12_code 32 = .ok (.getfield 15, 3) := by decide +kernel
theorem d_Sets_append_35 : decode prog_8_method_12_code 35 = .ok (.imul, 1) := by decide +kernel
theorem d_Sets_append_36 : decode prog_8_method_12_code 36 = .ok (.aload_n 0, 1) := by decide +kernel
theorem d_Sets_append_37 : decode prog_8_method_12_code 37 = .ok (.getfield 15, 3) := by decide +kernel
theorem d_Sets_append_40 : decode prog_8_method_12_code 40 = .ok (.invokestatic 59, 3) := by decide +kernel
theorem d_Sets_append_43 : decode prog_8_method_12_code 43 = .ok (.aload_n 0, 1) := by decide +kernel
theorem d_Sets_append_44 : decode prog_8_method_12_code 44 = .ok (.getfield 22, 3) := by decide +kernel
theorem d_Sets_append_47 : decode prog_8_method_12_code 47 = .ok (.iload_n 3, 1) := by decide +kernel
theorem d_Sets_append_48 : decode prog_8_method_12_code 48 = .ok (.aload_n 0, 1) := by decide +kernel
theorem d_Sets_append_49 : decode prog_8_method_12_code 49 = .ok (.getfield 26, 3) := by decide +kernel
theorem d_Sets_append_52 : decode prog_8_method_12_code 52 = .ok (.iastore, 1) := by decide +kernel
theorem d_Sets_append_53 : decode prog_8_method_12_code 53 = .ok (.aload_n 0, 1) := by decide +kernel
theorem d_Sets_append_54 : decode prog_8_method_12_code 54 = .ok (.dup, 1) := by decide +kernel
theorem d_Sets_append_55 : decode prog_8_method_12_code 55 = .ok (.getfield 26, 3) := by decide +kernel
theorem d_Sets_append_58 : decode prog_8_method_12_code 58 = .ok (.iconst 1, 1) := by decide +kernel
theorem d_Sets_append_59 : decode prog_8_method_12_code 59 = .ok (.iadd, 1) := by decide +kernel
theorem d_Sets_append_60 : decode prog_8_method_12_code 60 = .ok (.putfield 26, 3) := by decide +kernel
theorem d_Sets_append_63 : decode prog_8_method_12_code 63 = .ok (.aload_n 0, 1) := by decide +kernel
theorem d_Sets_append_64 : decode prog_8_method_12_code 64 = .ok (.getfield 26, 3) := by decide +kernel
theorem d_Sets_append_67 : decode prog_8_method_12_code 67 = .ok (.iconst 1, 1) := by decide +kernel
theorem d_Sets_append_68 : decode prog_8_method_12_code 68 = .ok (.isub, 1) := by decide +kernel
theorem d_Parting_goOn_0 : decode prog_7_method_6_code 0 = .ok (.aload_n 0, 1) := by decide +kernel
theorem d_Parting_goOn_1 : decode prog_7_method_6_code 1 = .ok (.getfield 24, 3) := by decide +kernel
theorem d_Parting_goOn_4 : decode prog_7_method_6_code 4 = .ok (.invokevirtual 71, 3) := by decide +kernel
theorem d_Parting_goOn_7 : decode prog_7_method_6_code 7 = .ok (.aload_n 1, 1) := by decide +kernel
theorem d_Parting_goOn_8 : decode prog_7_method_6_code 8 = .ok (.aload_n 0, 1) := by decide +kernel
theorem d_Parting_goOn_9 : decode prog_7_method_6_code 9 = .ok (.getfield 20, 3) := by decide +kernel
theorem d_Parting_goOn_12 : decode prog_7_method_6_code 12 = .ok (.iload_n 3, 1) := by decide +kernel
theorem d_Parting_goOn_13 : decode prog_7_method_6_code 13 = .ok (.iconst 0, 1) := by decide +kernel
theorem d_Parting_goOn_14 : decode prog_7_method_6_code 14 = .ok (.aload_n 0, 1) := by decide +kernel
theorem d_Parting_goOn_15 : decode prog_7_method_6_code 15 = .ok (.getfield 24, 3) := by decide +kernel
theorem d_Parting_goOn_18 : decode prog_7_method_6_code 18 = .ok (.invokevirtual 88, 3) := by decide +kernel
theorem d_Parting_goOn_21 : decode prog_7_method_6_code 21 = .ok (.aload_n 2, 1) := by decide +kernel
theorem d_Parting_goOn_22 : decode prog_7_method_6_code 22 = .ok (.aload_n 0, 1) := by decide +kernel
theorem d_Parting_goOn_23 : decode prog_7_method_6_code 23 = .ok (.getfield 20, 3) := by decide +kernel
theorem d_Parting_goOn_26 : decode prog_7_method_6_code 26 = .ok (.iload_n 3, 1) := by decide +kernel
theorem d_Parting_goOn_27 : decode prog_7_method_6_code 27 = .ok (.iconst 1, 1) := by decide +kernel
theorem d_Parting_goOn_28 : decode prog_7_method_6_code 28 = .ok (.aload_n 0, 1) := by decide +kernel
theorem d_Parting_goOn_29 : decode prog_7_method_6_code 29 = .ok (.getfield 24, 3) := by decide +kernel
theorem d_Parting_goOn_32 : decode prog_7_method_6_code 32 = .ok (.invokevirtual 88, 3) := by decide +kernel
theorem d_Parting_goOn_35 : decode prog_7_method_6_code 35 = .ok (.iconst 0, 1) := by decide +kernel
theorem d_Parting_goOn_36 : decode prog_7_method_6_code 36 = .ok (.istore 4, 2) := by decide +kernel
theorem d_Parting_goOn_38 : decode prog_7_method_6_code 38 = .ok (.iload 4, 2) := by decide +kernel
theorem d_Parting_goOn_40 : decode prog_7_method_6_code 40 = .ok (.bipush 10, 2) := by decide +kernel
theorem d_Parting_goOn_42 : decode prog_7_method_6_code 42 = .ok (.if_icmp .ge 80, 3) := by decide +kernel
theorem d_Parting_goOn_45 : decode prog_7_method_6_code 45 = .ok (.aload_n 0, 1) := by decide +kernel
theorem d_Parting_goOn_46 : decode prog_7_method_6_code 46 = .ok (.getfield 20, 3) := by decide +kernel
theorem d_Parting_goOn_49 : decode prog_7_method_6_code 49 = .ok (.getfield 54, 3) := by decide +kernel
theorem d_Parting_goOn_52 : decode prog_7_method_6_code 52 = .ok (.istore 5, 2) := by decide +kernel
theorem d_Parting_goOn_54 : decode prog_7_method_6_code 54 = .ok (.aload_n 0, 1) := by decide +kernel
theorem d_Parting_goOn_55 : decode prog_7_method_6_code 55 = .ok (.getfield 20, 3) := by decide +kernel
theorem d_Parting_goOn_58 : decode prog_7_method_6_code 58 = .ok (.aload_n 0, 1) := by decide +kernel
theorem d_Parting_goOn_59 : decode prog_7_method_6_code 59 = .ok (.getfield 24, 3) := by decide +kernel
theorem d_Parting_goOn_62 : decode prog_7_method_6_code 62 = .ok (.iload 4, 2) := by decide +kernel
theorem d_Parting_goOn_64 : decode prog_7_method_6_code 64 = .ok (.invokevirtual 84, 3) := by decide +kernel
theorem d_Parting_goOn_67 : decode prog_7_method_6_code 67 = .ok (.istore 6, 2) := by decide +kernel
theorem d_Parting_goOn_69 : decode prog_7_method_6_code 69 = .ok (.iload 6, 2) := by decide +kernel
theorem d_Parting_goOn_71 : decode prog_7_method_6_code 71 = .ok (.iconst (-1), 1) := by decide +kernel
theorem d_Parting_goOn_72 : decode prog_7_method_6_code 72 = .ok (.if_icmp .ne 5, 3) := by decide +kernel
theorem d_Parting_goOn_75 : decode prog_7_method_6_code 75 = .ok (.iconst 0, 1) := by decide +kernel
theorem d_Parting_goOn_77 : decode prog_7_method_6_code 77 = .ok (.iload 6, 2) := by decide +kernel
theorem d_Parting_goOn_79 : decode prog_7_method_6_code 79 = .ok (.iload 5, 2) := by decide +kernel
theorem d_Parting_goOn_81 : decode prog_7_method_6_code 81 = .ok (.if_icmp .ne 35, 3) := by decide +kernel
theorem d_Parting_goOn_84 : decode prog_7_method_6_code 84 = .ok (.aload_n 0, 1) := by decide +kernel
theorem d_Parting_goOn_85 : decode prog_7_method_6_code 85 = .ok (.getfield 27, 3) := by decide +kernel
theorem d_Parting_goOn_88 : decode prog_7_method_6_code 88 = .ok (.iload 6, 2) := by decide +kernel
theorem d_Parting_goOn_90 : decode prog_7_method_6_code 90 = .ok (.iload_n 3, 1) := by decide +kernel
theorem d_Parting_goOn_91 : decode prog_7_method_6_code 91 = .ok (.iastore, 1) := by decide +kernel
theorem d_Parting_goOn_92 : decode prog_7_method_6_code 92 = .ok (.aload_n 0, 1) := by decide +kernel
theorem d_Parting_goOn_93 : decode prog_7_method_6_code 93 = .ok (.getfield 30, 3) := by decide +kernel
theorem d_Parting_goOn_96 : decode prog_7_method_6_code 96 = .ok (.iload 6, 2) := by decide +kernel
theorem d_Parting_goOn_98 : decode prog_7_method_6_code 98 = .ok (.iload 4, 2) := by decide +kernel
theorem d_Parting_goOn_100 : decode prog_7_method_6_code 100 = .ok (.iastore, 1) := by decide +kernel
theorem d_Parting_goOn_101 : decode prog_7_method_6_code 101 = .ok (.aload_n 0, 1) := by decide +kernel
theorem d_Parting_goOn_102 : decode prog_7_method_6_code 102 = .ok (.getfield 33, 3) := by decide +kernel
theorem d_Parting_goOn_105 : decode prog_7_method_6_code 105 = .ok (.iload 6, 2) := by decide +kernel
theorem d_Parting_goOn_107 : decode prog_7_method_6_code 107 = .ok (.aload_n 0, 1) := by decide +kernel
theorem d_Parting_goOn_108 : decode prog_7_method_6_code 108 = .ok (.getfield 33, 3) := by decide +kernel
theorem d_Parting_goOn_111 : decode prog_7_method_6_code 111 = .ok (.iload_n 3, 1) := by decide +kernel
theorem d_Parting_goOn_112 : decode prog_7_method_6_code 112 = .ok (.iaload, 1) := by decide +kernel
theorem d_Parting_goOn_113 : decode prog_7_method_6_code 113 = .ok (.iconst 1, 1) := by decide +kernel
theorem d_Parting_goOn_114 : decode prog_7_method_6_code 114 = .ok (.iadd, 1) := by decide +kernel
theorem d_Parting_goOn_115 : decode prog_7_method_6_code 115 = .ok (.iastore, 1) := by decide +kernel
theorem d_Parting_goOn_116 : decode prog_7_method_6_code 116 = .ok (.iinc 4 1, 3) := by decide +kernel
theorem d_Parting_goOn_119 : decode prog_7_method_6_code 119 = .ok (.goto (-81), 3) := by decide +kernel
theorem d_Parting_goOn_122 : decode prog_7_method_6_code 122 = .ok (.iconst 1, 1) := by decide +kernel
theorem d_Machine_fan_0 : decode prog_4_method_17_code 0 = .ok (.iconst 0, 1) := by decide +kernel
theorem d_Machine_fan_1 : decode prog_4_method_17_code 1 = .ok (.istore 5, 2) := by decide +kernel
theorem d_Machine_fan_3 : decode prog_4_method_17_code 3 = .ok (.iload 5, 2) := by decide +kernel
theorem d_Machine_fan_5 : decode prog_4_method_17_code 5 = .ok (.iconst 4, 1) := by decide +kernel
theorem d_Machine_fan_6 : decode prog_4_method_17_code 6 = .ok (.if_icmp .ge 98, 3) := by decide +kernel
theorem d_Machine_fan_9 : decode prog_4_method_17_code 9 = .ok (.aload_n 1, 1) := by decide +kernel
theorem d_Machine_fan_10 : decode prog_4_method_17_code 10 = .ok (.iload_n 2, 1) := by decide +kernel
theorem d_Machine_fan_11 : decode prog_4_method_17_code 11 = .ok (.iload_n 3, 1) := by decide +kernel
theorem d_Machine_fan_12 : decode prog_4_method_17_code 12 = .ok (.iload 5, 2) := by decide +kernel
theorem d_Machine_fan_14 : decode prog_4_method_17_code 14 = .ok (.invokevirtual 166, 3) := by decide +kernel
theorem d_Machine_fan_17 : decode prog_4_method_17_code 17 = .ok (.lstore 6, 2) := by decide +kernel
theorem d_Machine_fan_19 : decode prog_4_method_17_code 19 = .ok (.lload 6, 2) := by decide +kernel
theorem d_Machine_fan_21 : decode prog_4_method_17_code 21 = .ok (.lconst 0, 1) := by decide +kernel
theorem d_Machine_fan_22 : decode prog_4_method_17_code 22 = .ok (.lcmp, 1) := by decide +kernel
theorem d_Machine_fan_23 : decode prog_4_method_17_code 23 = .ok (.ifCond .eq 75, 3) := by decide +kernel
theorem d_Machine_fan_26 : decode prog_4_method_17_code 26 = .ok (.bipush 64, 2) := by decide +kernel
theorem d_Machine_fan_28 : decode prog_4_method_17_code 28 = .ok (.iload 5, 2) := by decide +kernel
theorem d_Machine_fan_30 : decode prog_4_method_17_code 30 = .ok (.imul, 1) := by decide +kernel
theorem d_Machine_fan_31 : decode prog_4_method_17_code 31 = .ok (.lload 6, 2) := by decide +kernel
theorem d_Machine_fan_33 : decode prog_4_method_17_code 33 = .ok (.invokestatic 170, 3) := by decide +kernel
theorem d_Machine_fan_36 : decode prog_4_method_17_code 36 = .ok (.iadd, 1) := by decide +kernel
theorem d_Machine_fan_37 : decode prog_4_method_17_code 37 = .ok (.istore 8, 2) := by decide +kernel
theorem d_Machine_fan_39 : decode prog_4_method_17_code 39 = .ok (.aload_n 0, 1) := by decide +kernel
theorem d_Machine_fan_40 : decode prog_4_method_17_code 40 = .ok (.getfield 45, 3) := by decide +kernel
theorem d_Machine_fan_43 : decode prog_4_method_17_code 43 = .ok (.iload 8, 2) := by decide +kernel
theorem d_Machine_fan_45 : decode prog_4_method_17_code 45 = .ok (.iaload, 1) := by decide +kernel
theorem d_Machine_fan_46 : decode prog_4_method_17_code 46 = .ok (.istore 9, 2) := by decide +kernel
theorem d_Machine_fan_48 : decode prog_4_method_17_code 48 = .ok (.iload 9, 2) := by decide +kernel
theorem d_Machine_fan_50 : decode prog_4_method_17_code 50 = .ok (.aload_n 0, 1) := by decide +kernel
theorem d_Machine_fan_51 : decode prog_4_method_17_code 51 = .ok (.getfield 45, 3) := by decide +kernel
theorem d_Machine_fan_54 : decode prog_4_method_17_code 54 = .ok (.iload 8, 2) := by decide +kernel
theorem d_Machine_fan_56 : decode prog_4_method_17_code 56 = .ok (.iconst 1, 1) := by decide +kernel
theorem d_Machine_fan_57 : decode prog_4_method_17_code 57 = .ok (.iadd, 1) := by decide +kernel
theorem d_Machine_fan_58 : decode prog_4_method_17_code 58 = .ok (.iaload, 1) := by decide +kernel
theorem d_Machine_fan_59 : decode prog_4_method_17_code 59 = .ok (.if_icmp .ge 27, 3) := by decide +kernel
theorem d_Machine_fan_62 : decode prog_4_method_17_code 62 = .ok (.aload 4, 2) := by decide +kernel
theorem d_Machine_fan_64 : decode prog_4_method_17_code 64 = .ok (.aload_n 0, 1) := by decide +kernel
theorem d_Machine_fan_65 : decode prog_4_method_17_code 65 = .ok (.iload 9, 2) := by decide +kernel
theorem d_Machine_fan_67 : decode prog_4_method_17_code 67 = .ok (.invokevirtual 174, 3) := by decide +kernel
theorem d_Machine_fan_70 : decode prog_4_method_17_code 70 = .ok (.iload_n 3, 1) := by decide +kernel
theorem d_Machine_fan_71 : decode prog_4_method_17_code 71 = .ok (.aload_n 0, 1) := by decide +kernel
theorem d_Machine_fan_72 : decode prog_4_method_17_code 72 = .ok (.iload 9, 2) := by decide +kernel
theorem d_Machine_fan_74 : decode prog_4_method_17_code 74 = .ok (.invokevirtual 176, 3) := by decide +kernel
theorem d_Machine_fan_77 : decode prog_4_method_17_code 77 = .ok (.invokevirtual 139, 3) := by decide +kernel
theorem d_Machine_fan_80 : decode prog_4_method_17_code 80 = .ok (.iinc 9 1, 3) := by decide +kernel
theorem d_Machine_fan_83 : decode prog_4_method_17_code 83 = .ok (.goto (-35), 3) := by decide +kernel
theorem d_Machine_fan_86 : decode prog_4_method_17_code 86 = .ok (.lload 6, 2) := by decide +kernel
theorem d_Machine_fan_88 : decode prog_4_method_17_code 88 = .ok (.lload 6, 2) := by decide +kernel
theorem d_Machine_fan_90 : decode prog_4_method_17_code 90 = .ok (.lconst 1, 1) := by decide +kernel
theorem d_Machine_fan_91 : decode prog_4_method_17_code 91 = .ok (.lsub, 1) := by decide +kernel
theorem d_Machine_fan_92 : decode prog_4_method_17_code 92 = .ok (.land, 1) := by decide +kernel
theorem d_Machine_fan_93 : decode prog_4_method_17_code 93 = .ok (.lstore 6, 2) := by decide +kernel
theorem d_Machine_fan_95 : decode prog_4_method_17_code 95 = .ok (.goto (-76), 3) := by decide +kernel
theorem d_Machine_fan_98 : decode prog_4_method_17_code 98 = .ok (.iinc 5 1, 3) := by decide +kernel
theorem d_Machine_fan_101 : decode prog_4_method_17_code 101 = .ok (.goto (-98), 3) := by decide +kernel
theorem zc_8 : zI 8 8 8 := ⟨by decide +kernel, by decide +kernel⟩
theorem li_8 : (8 : Int32).toInt = 8 := by decide +kernel
theorem zc_400 : zI 400 400 400 := ⟨by decide +kernel, by decide +kernel⟩
theorem li_400 : (400 : Int32).toInt = 400 := by decide +kernel
theorem zc_1024 : zI 1024 1024 1024 := ⟨by decide +kernel, by decide +kernel⟩
theorem li_1024 : (1024 : Int32).toInt = 1024 := by decide +kernel
abbrev m_s3_Sets_clear : Room := { frames := 1, cells := 0, slots := 0, locals := 24 }
set_option maxHeartbeats 4000000 in
set_option maxRecDepth 100000 in
theorem s3_Sets_clear (l : Launch) (G : zG) (b0 : Nat) (b1 : Int32) (b2 : Nat) (b3 : Nat) (b4 : Nat → Int64) (hb1 : zI b1 0 10) (hb4 : zqa qB b4) : zM l G y_Sets_clear prog_8_method_3_code 1 (Option.none : Option Jvm.ClassFile.FieldType) m_s3_Sets_clear [.ref b0] [(b0, .inr (6, [.int b1, .int 8, .int 10, .ref b2, .ref b3])), (b2, .inl (G.2 1, 80, .inr (.inl b4)))] (fun v w => ∃ (e0 : Nat → Int64), v = none ∧ w = [(b0, .inr (6, [.int b1, .int 8, .int 10, .ref b2, .ref b3])), (b2, .inl (G.2 1, 80, .inr (.inl e0)))] ∧ (zqa qB e0)) := by
  refine z_start (by decide +kernel) (Nat.le_of_ble_eq_true rfl) ?_
  intro p e s m below meth c A Z hr hnm hA hP hD hS ls hl
  have Z : zC p s m _ meth c prog_8_method_3_code 1 "TraceMachines$StateSets" G := Z
  obtain ⟨hx, hb, hml, hown, hts, hK, hN, hlocks⟩ := id Z
  have hl : lv_has ls 1 [(0, .ref b0)] := hl
  refine lv_aload_n hx hb d_Sets_clear_0 rfl (lv_at hl 0 rfl) ?_
  refine va_get (D := G.1) (ci := 6) (v := .ref b2) (C := R_Sets) (T := F_Sets) (N := 5) hx hb hts i_Sets hown hK hP 0 rfl rfl 3 (by decide) (hts _ q244) (fun _ h9 => h9) rfl d_Sets_clear_1 ?_
  refine lv_lconst (v := 0) hx hb d_Sets_clear_4 (by decide) ?_
  refine z_callS (index := 35) (As := [.ref b2, .long 0]) (rest := []) (wr := [(b0, .inr (6, [.int b1, .int 8, .int 10, .ref b2, .ref b3]))]) Z (c_fill_J l G (b2) (80) (b4) (0) (by decide)) hl.1 q708 q623 q13 q624 ⟨by decide, by decide, by show _ = some 2; decide +kernel⟩ ⟨Nat.le_of_ble_eq_true rfl, Nat.le_of_ble_eq_true rfl⟩ ⟨Nat.le_of_ble_eq_true rfl, Nat.le_of_ble_eq_true rfl⟩ rfl (Nat.le_of_ble_eq_true rfl) d_Sets_clear_5 hP hD hS hA [1] [0] rfl rfl rfl rfl (by decide) (fun v w1 H locs hw_1 hP hD hS => ?_)
  obtain ⟨rfl, rfl⟩ := hw_1
  have hP : va_P G.1 classes [(b0, .inr (6, [.int b1, .int 8, .int 10, .ref b2, .ref b3])), (b2, .inl (G.2 1, 80, .inr (.inl (fun _ => 0))))] H := hP
  have hD := z_tie hP hD rfl
  refine W.widen (k := 0) (n := 0) (Nat.le_of_ble_eq_true rfl) (Nat.le_of_ble_eq_true rfl) ?_
  exact z_vret hx hb hr hlocks hP hD hS (Nat.le_of_ble_eq_true rfl) (Nat.le_of_ble_eq_true rfl) d_Sets_clear_8 ⟨(fun _ => 0), rfl, rfl, zQB_c⟩
abbrev m_s3_Sets_forget : Room := { frames := 1, cells := 0, slots := 0, locals := 23 }
set_option maxHeartbeats 4000000 in
set_option maxRecDepth 100000 in
theorem s3_Sets_forget (l : Launch) (G : zG) (b0 : Nat) (b1 : Int32) (b2 : Nat) (b3 : Nat) (b4 : Nat → Int32) (hb1 : zI b1 0 400) (hb4 : zR b4 (-1) 399) : zM l G y_Sets_forget prog_8_method_2_code 1 (Option.none : Option Jvm.ClassFile.FieldType) m_s3_Sets_forget [.ref b0] [(b0, .inr (6, [.int b1, .int 8, .int 400, .ref b2, .ref b3])), (b3, .inl (G.2 0, 1024, .inl b4))] (fun v w => ∃ (e0 : Nat → Int32), v = none ∧ w = [(b0, .inr (6, [.int 0, .int 8, .int 400, .ref b2, .ref b3])), (b3, .inl (G.2 0, 1024, .inl e0))] ∧ (zR e0 (-1) 399)) := by
  refine z_start (by decide +kernel) (Nat.le_of_ble_eq_true rfl) ?_
  intro p e s m below meth c A Z hr hnm hA hP hD hS ls hl
  have Z : zC p s m _ meth c prog_8_method_2_code 1 "TraceMachines$StateSets" G := Z
  obtain ⟨hx, hb, hml, hown, hts, hK, hN, hlocks⟩ := id Z
  have hl : lv_has ls 1 [(0, .ref b0)] := hl
  refine lv_aload_n hx hb d_Sets_forget_0 rfl (lv_at hl 0 rfl) ?_
  refine lv_iconst (v := 0) hx hb d_Sets_forget_1 (by decide) ?_
  refine va_put (D := G.1) (ci := 6) (v := .int 0) (ty := .int) (C := R_Sets) (T := F_Sets) (N := 5) hx hb hts i_Sets t_Sets t_Sets_ok n_Sets hown hK hP hD hS 0 rfl rfl 0 (by decide) (hts _ q239) (fun _ h9 => h9) rfl (by decide +kernel) rfl rfl (Nat.le_of_ble_eq_true rfl) d_Sets_forget_2 (fun H locs hP hD hS => ?_)
  have hP : va_P G.1 classes [(b0, .inr (6, [.int 0, .int 8, .int 400, .ref b2, .ref b3])), (b3, .inl (G.2 0, 1024, .inl b4))] H := hP
  have hD := z_tie hP hD rfl
  refine lv_aload_n hx hb d_Sets_forget_5 rfl (lv_at hl 0 rfl) ?_
  refine va_get (D := G.1) (ci := 6) (v := .ref b3) (C := R_Sets) (T := F_Sets) (N := 5) hx hb hts i_Sets hown hK hP 0 rfl rfl 4 (by decide) (hts _ q245) (fun _ h9 => h9) rfl d_Sets_forget_6 ?_
  refine lv_iconst (v := (-1)) hx hb d_Sets_forget_9 (by decide) ?_
  refine z_callS (index := 29) (As := [.ref b3, .int (-1)]) (rest := []) (wr := [(b0, .inr (6, [.int 0, .int 8, .int 400, .ref b2, .ref b3]))]) Z (c_fill_I l G (b3) (1024) (b4) ((-1)) (by decide)) hl.1 q829 q415 q13 q416 ⟨by decide, by decide, by show _ = some 2; decide +kernel⟩ ⟨Nat.le_of_ble_eq_true rfl, Nat.le_of_ble_eq_true rfl⟩ ⟨Nat.le_of_ble_eq_true rfl, Nat.le_of_ble_eq_true rfl⟩ rfl (Nat.le_of_ble_eq_true rfl) d_Sets_forget_10 hP hD hS hA [1] [0] rfl rfl rfl rfl (by decide) (fun v w1 H locs hw_1 hP hD hS => ?_)
  obtain ⟨rfl, rfl⟩ := hw_1
  have hP : va_P G.1 classes [(b0, .inr (6, [.int 0, .int 8, .int 400, .ref b2, .ref b3])), (b3, .inl (G.2 0, 1024, .inl (fun _ => (-1))))] H := hP
  have hD := z_tie hP hD rfl
  refine W.widen (k := 0) (n := 0) (Nat.le_of_ble_eq_true rfl) (Nat.le_of_ble_eq_true rfl) ?_
  exact z_vret hx hb hr hlocks hP hD hS (Nat.le_of_ble_eq_true rfl) (Nat.le_of_ble_eq_true rfl) d_Sets_forget_13 ⟨(fun _ => (-1)), rfl, rfl, (zR_c (zI.wk (l' := (-1)) (h' := 399) zc_m1 (by decide)))⟩
abbrev m_s3_Sets_hashOf : Room := { frames := 0, cells := 0, slots := 0, locals := 0 }
set_option maxHeartbeats 4000000 in
set_option maxRecDepth 100000 in
theorem s3_Sets_hashOf (l : Launch) (G : zG) (b0 : Nat) (b1 : Int32) (b2 : Int32) (b3 : Nat) (b4 : Nat) (b5 : Nat → Int64) (hb1 : zI b1 0 9) (hb2 : zI b2 0 10) (hb5 : zqa qB b5) : zM l G y_Sets_hashOf prog_8_method_13_code 5 (Option.some Jvm.ClassFile.FieldType.int) m_s3_Sets_hashOf [.ref b0, .int b1] [(b0, .inr (6, [.int b2, .int 8, .int 10, .ref b3, .ref b4])), (b3, .inl (G.2 1, 80, .inr (.inl b5)))] (fun v w => ∃ (e0 : Int32), v = some (.int e0) ∧ w = [(b0, .inr (6, [.int b2, .int 8, .int 10, .ref b3, .ref b4])), (b3, .inl (G.2 1, 80, .inr (.inl b5)))]) := by
  refine z_start (by decide +kernel) (Nat.le_of_ble_eq_true rfl) ?_
  intro p e s m below meth c A Z hr hnm hA hP hD hS ls hl
  have Z : zC p s m _ meth c prog_8_method_13_code 5 "TraceMachines$StateSets" G := Z
  obtain ⟨hx, hb, hml, hown, hts, hK, hN, hlocks⟩ := id Z
  have hl : lv_has ls 5 [(0, .ref b0), (1, .int b1)] := hl
  refine lv_lconst (v := 0) hx hb d_Sets_hashOf_0 (by decide) ?_
  refine lv_lstore_n (lv' := [(2, .long 0), (0, .ref b0), (1, .int b1)]) hx hb d_Sets_hashOf_1 rfl hl (by decide) rfl (fun ls hl => ?_)
  refine lv_iconst (v := 0) hx hb d_Sets_hashOf_2 (by decide) ?_
  refine lv_istore (lv' := [(4, .int 0), (2, .long 0), (0, .ref b0), (1, .int b1)]) hx hb d_Sets_hashOf_3 hl (by decide) rfl (fun ls hl => ?_)
  suffices key : ∀ (k_17 : Nat) (y_18 : Int32) (y_19 : Int64) (H : Heap) (locs : List Loc) (ls : Array Slot), (zI y_18 0 8) → (8 : Int) - y_18.toInt < (k_17 : Int) → va_P G.1 classes [(b0, .inr (6, [.int b2, .int 8, .int 10, .ref b3, .ref b4])), (b3, .inl (G.2 1, 80, .inr (.inl b5)))] H → va_D A [(b0, .inr (6, [.int b2, .int 8, .int 10, .ref b3, .ref b4])), (b3, .inl (G.2 1, 80, .inr (.inl b5)))] → va_S A s.heap H locs → lv_has ls 5 [(4, .int y_18), (2, .long y_19), (0, .ref b0), (1, .int b1)] → W p l e m_s3_Sets_hashOf s m ([.ref b0, .int b1] : List Value).toArray below meth c H locs 0 0 (MQ below (zQ G (fun v w => ∃ (e0 : Int32), v = some (.int e0) ∧ w = [(b0, .inr (6, [.int b2, .int 8, .int 10, .ref b3, .ref b4])), (b3, .inl (G.2 1, 80, .inr (.inl b5)))]) A) ([.ref b0, .int b1] : List Value).toArray s m_s3_Sets_hashOf.cells m_s3_Sets_hashOf.slots A) (F0 m 5 ls []) by
    exact key 9 (0) (0) _ _ _ (zI.wk (l' := 0) (h' := 8) zc_0 (by decide)) (zm_upi (zI.wk (l' := 0) (h' := 8) zc_0 (by decide)) (by decide)) hP hD hS (lv_sub hl [0, 1, 2, 3] rfl)
  intro k_17
  induction k_17 with
  | zero =>
    intro y_18 y_19 H locs ls hy_18 hmk_17 hP hD hS hl
    exact (zm_up0 hy_18 hmk_17).elim
  | succ k_17 ihk_17 =>
    intro y_18 y_19 H locs ls hy_18 hmk_17 hP hD hS hl
    refine lv_iload hx hb d_Sets_hashOf_5 (lv_at hl 0 rfl) ?_
    refine lv_aload_n hx hb d_Sets_hashOf_7 rfl (lv_at hl 2 rfl) ?_
    refine va_get (D := G.1) (ci := 6) (v := .int 8) (C := R_Sets) (T := F_Sets) (N := 5) hx hb hts i_Sets hown hK hP 0 rfl rfl 1 (by decide) (hts _ q242) (fun _ h9 => h9) rfl d_Sets_hashOf_8 ?_
    refine lv_icmp_ge (tgt := 48) hx hb d_Sets_hashOf_11 (by decide) (fun hc_20 => ?_) (fun hc_20 => ?_)
    · have _nhc_20 := hc_20
      have ni_21 := (fa_le _ _).mp hc_20
      rw [li_8] at ni_21
      have hv_22 : zI y_18 8 8 := zI.le_r zc_8 hy_18 hc_20 (by decide)
      refine lv_lload_n hx hb d_Sets_hashOf_48 rfl (lv_at hl 1 rfl) ?_
      obtain ⟨v_23, ev_23⟩ : ∃ z : Int32, z = (y_19).toInt32 := ⟨_, rfl⟩
      refine lv_l2i (v := v_23) hx hb d_Sets_hashOf_49 ev_23.symm ?_
      exact z_iret hx hb hr hlocks hP hD hS (Nat.le_of_ble_eq_true rfl) (Nat.le_of_ble_eq_true rfl) d_Sets_hashOf_50 ⟨v_23, rfl, rfl⟩
    · have _nhc_20 := hc_20
      have ni_24 := (fa_lt _ _).mp (zi_nle hc_20)
      rw [li_8] at ni_24
      have hv_25 : zI y_18 0 7 := zI.lt_l hy_18 zc_8 (zi_nle hc_20) (by decide)
      refine lv_lload_n hx hb d_Sets_hashOf_14 rfl (lv_at hl 1 rfl) ?_
      refine lv_aload_n hx hb d_Sets_hashOf_15 rfl (lv_at hl 2 rfl) ?_
      refine va_get (D := G.1) (ci := 6) (v := .ref b3) (C := R_Sets) (T := F_Sets) (N := 5) hx hb hts i_Sets hown hK hP 0 rfl rfl 3 (by decide) (hts _ q244) (fun _ h9 => h9) rfl d_Sets_hashOf_16 ?_
      refine lv_iload_n hx hb d_Sets_hashOf_19 rfl (lv_at hl 3 rfl) ?_
      refine lv_aload_n hx hb d_Sets_hashOf_20 rfl (lv_at hl 2 rfl) ?_
      refine va_get (D := G.1) (ci := 6) (v := .int 8) (C := R_Sets) (T := F_Sets) (N := 5) hx hb hts i_Sets hown hK hP 0 rfl rfl 1 (by decide) (hts _ q242) (fun _ h9 => h9) rfl d_Sets_hashOf_21 ?_
      refine lv_imul hx hb d_Sets_hashOf_24 ?_
      refine lv_topi (fun v_26 ev_26 => ?_)
      obtain ⟨qv_26, hv_26⟩ := zI_mul (l := 0) (h := 72) hb1 zc_8 ev_26 (by decide)
      rw [li_8] at qv_26
      refine lv_iload hx hb d_Sets_hashOf_25 (lv_at hl 0 rfl) ?_
      refine lv_iadd hx hb d_Sets_hashOf_27 ?_
      refine lv_topi (fun v_27 ev_27 => ?_)
      obtain ⟨qv_27, hv_27⟩ := zI_add (l := 0) (h := 79) hv_26 hv_25 ev_27 (by decide)
      refine va_lald hx hb hK hP 1 1 rfl rfl (zI.inn hv_27 (by decide)) d_Sets_hashOf_28 ?_
      refine lv_topl (fun v_28 ev_28 => ?_)
      have bv_28 := zQB.ld hb5 hv_27 ev_28 (by decide)
      refine lv_lxor hx hb d_Sets_hashOf_29 ?_
      refine lv_topl (fun v_29 ev_29 => ?_)
      refine lv_ldc2 hx hb hown (hts _ q838) d_Sets_hashOf_30 ?_
      refine lv_lmul hx hb d_Sets_hashOf_33 ?_
      refine lv_topl (fun v_30 ev_30 => ?_)
      refine lv_lstore_n (lv' := [(2, .long v_30), (4, .int y_18), (0, .ref b0), (1, .int b1)]) hx hb d_Sets_hashOf_34 rfl hl (by decide) rfl (fun ls hl => ?_)
      refine lv_lload_n hx hb d_Sets_hashOf_35 rfl (lv_at hl 0 rfl) ?_
      refine lv_lload_n hx hb d_Sets_hashOf_36 rfl (lv_at hl 0 rfl) ?_
      refine lv_bipush (v := 32) hx hb d_Sets_hashOf_37 (by decide) ?_
      obtain ⟨v_31, ev_31⟩ : ∃ z : Int64, z = ((v_30).toUInt64 >>> ((32 : Int32).toInt64.toUInt64 &&& Int64.toUInt64 63)).toInt64 := ⟨_, rfl⟩
      refine lv_lushr (v := v_31) hx hb d_Sets_hashOf_39 ev_31.symm ?_
      refine lv_lxor hx hb d_Sets_hashOf_40 ?_
      refine lv_topl (fun v_32 ev_32 => ?_)
      refine lv_lstore_n (lv' := [(2, .long v_32), (4, .int y_18), (0, .ref b0), (1, .int b1)]) hx hb d_Sets_hashOf_41 rfl hl (by decide) rfl (fun ls hl => ?_)
      obtain ⟨v_33, ev_33⟩ : ∃ z : Int32, z = y_18 + 1 := ⟨_, rfl⟩
      obtain ⟨qv_33, hv_33⟩ := zI_add (l := 1) (h := 8) hv_25 zc_1 ev_33 (by decide)
      rw [li_1] at qv_33
      refine lv_iinc (v := v_33) (lv' := [(4, .int v_33), (2, .long v_32), (0, .ref b0), (1, .int b1)]) hx hb d_Sets_hashOf_42 hl (k := 1) rfl (by rw [ev_33]; rfl) (by decide) rfl (fun ls hl => ?_)
      refine lv_goto (tgt := 5) hx hb d_Sets_hashOf_45 (by decide) ?_
      exact ihk_17 (v_33) (v_32) _ _ _ (zI.wk (l' := 0) (h' := 8) hv_33 (by decide)) (zm_up qv_33 hmk_17 (by decide)) hP hD hS (lv_sub hl [0, 1, 2, 3] rfl)
theorem d_Sets_indexOf_78 : decode prog_8_method_11_code 78 = .ok (.ireturn, 1) := by decide +kernel
theorem d_Sets_isLike_45 : decode prog_8_method_14_code 45 = .ok (.ireturn, 1) := by decide +kernel
theorem d_Sets_isLike_53 : decode prog_8_method_14_code 53 = .ok (.ireturn, 1) := by decide +kernel
abbrev m_s2_Sets_isLike : Room := { frames := 0, cells := 0, slots := 0, locals := 0 }
set_option maxHeartbeats 4000000 in
set_option maxRecDepth 100000 in
theorem s2_Sets_isLike (l : Launch) (G : zG) (b0 : Nat) (b1 : Int32) (b2 : Nat) (b3 : Int32) (b4 : Int32) (b5 : Nat) (b6 : Nat) (b7 : Nat → Int64) (b8 : Int32) (b9 : Nat) (b10 : Nat) (b11 : Nat → Int64) (hb1 : zI b1 0 399) (hb3 : zI b3 0 9) (hb4 : zI b4 0 400) (hb8 : zI b8 0 10) (hb7 : zqa qB b7) (hb11 : zqa qB b11) : zM l G y_Sets_isLike prog_8_method_14_code 5 (Option.some Jvm.ClassFile.FieldType.boolean) m_s2_Sets_isLike [.ref b0, .int b1, .ref b2, .int b3] [(b0, .inr (6, [.int b4, .int 8, .int 400, .ref b5, .ref b6])), (b5, .inl (G.2 1, 3200, .inr (.inl b7))), (b2, .inr (6, [.int b8, .int 8, .int 10, .ref b9, .ref b10])), (b9, .inl (G.2 1, 80, .inr (.inl b11)))] (fun v w => ∃ (e0 : Int32), v = some (.int e0) ∧ w = [(b0, .inr (6, [.int b4, .int 8, .int 400, .ref b5, .ref b6])), (b5, .inl (G.2 1, 3200, .inr (.inl b7))), (b2, .inr (6, [.int b8, .int 8, .int 10, .ref b9, .ref b10])), (b9, .inl (G.2 1, 80, .inr (.inl b11)))] ∧ (zI e0 0 1)) := by
  refine z_start (by decide +kernel) (Nat.le_of_ble_eq_true rfl) ?_
  intro p e s m below meth c A Z hr hnm hA hP hD hS ls hl
  have Z : zC p s m _ meth c prog_8_method_14_code 5 "TraceMachines$StateSets" G := Z
  obtain ⟨hx, hb, hml, hown, hts, hK, hN, hlocks⟩ := id Z
  have hl : lv_has ls 5 [(0, .ref b0), (1, .int b1), (2, .ref b2), (3, .int b3)] := hl
  refine lv_iconst (v := 0) hx hb d_Sets_isLike_0 (by decide) ?_
  refine lv_istore (lv' := [(4, .int 0), (0, .ref b0), (1, .int b1), (2, .ref b2), (3, .int b3)]) hx hb d_Sets_isLike_1 hl (by decide) rfl (fun ls hl => ?_)
  suffices key : ∀ (k_18 : Nat) (y_19 : Int32) (H : Heap) (locs : List Loc) (ls : Array Slot), (zI y_19 0 8) → (8 : Int) - y_19.toInt < (k_18 : Int) → va_P G.1 classes [(b0, .inr (6, [.int b4, .int 8, .int 400, .ref b5, .ref b6])), (b5, .inl (G.2 1, 3200, .inr (.inl b7))), (b2, .inr (6, [.int b8, .int 8, .int 10, .ref b9, .ref b10])), (b9, .inl (G.2 1, 80, .inr (.inl b11)))] H → va_D A [(b0, .inr (6, [.int b4, .int 8, .int 400, .ref b5, .ref b6])), (b5, .inl (G.2 1, 3200, .inr (.inl b7))), (b2, .inr (6, [.int b8, .int 8, .int 10, .ref b9, .ref b10])), (b9, .inl (G.2 1, 80, .inr (.inl b11)))] → va_S A s.heap H locs → lv_has ls 5 [(4, .int y_19), (0, .ref b0), (1, .int b1), (2, .ref b2), (3, .int b3)] → W p l e m_s2_Sets_isLike s m ([.ref b0, .int b1, .ref b2, .int b3] : List Value).toArray below meth c H locs 0 0 (MQ below (zQ G (fun v w => ∃ (e0 : Int32), v = some (.int e0) ∧ w = [(b0, .inr (6, [.int b4, .int 8, .int 400, .ref b5, .ref b6])), (b5, .inl (G.2 1, 3200, .inr (.inl b7))), (b2, .inr (6, [.int b8, .int 8, .int 10, .ref b9, .ref b10])), (b9, .inl (G.2 1, 80, .inr (.inl b11)))] ∧ (zI e0 0 1)) A) ([.ref b0, .int b1, .ref b2, .int b3] : List Value).toArray s m_s2_Sets_isLike.cells m_s2_Sets_isLike.slots A) (F0 m 3 ls []) by
    exact key 9 (0) _ _ _ (zI.wk (l' := 0) (h' := 8) zc_0 (by decide)) (zm_upi (zI.wk (l' := 0) (h' := 8) zc_0 (by decide)) (by decide)) hP hD hS (lv_sub hl [0, 1, 2, 3, 4] rfl)
  intro k_18
  induction k_18 with
  | zero =>
    intro y_19 H locs ls hy_19 hmk_18 hP hD hS hl
    exact (zm_up0 hy_19 hmk_18).elim
  | succ k_18 ihk_18 =>
    intro y_19 H locs ls hy_19 hmk_18 hP hD hS hl
    refine lv_iload hx hb d_Sets_isLike_3 (lv_at hl 0 rfl) ?_
    refine lv_aload_n hx hb d_Sets_isLike_5 rfl (lv_at hl 1 rfl) ?_
    refine va_get (D := G.1) (ci := 6) (v := .int 8) (C := R_Sets) (T := F_Sets) (N := 5) hx hb hts i_Sets hown hK hP 0 rfl rfl 1 (by decide) (hts _ q242) (fun _ h9 => h9) rfl d_Sets_isLike_6 ?_
    refine lv_icmp_ge (tgt := 52) hx hb d_Sets_isLike_9 (by decide) (fun hc_20 => ?_) (fun hc_20 => ?_)
    · have _nhc_20 := hc_20
      have ni_21 := (fa_le _ _).mp hc_20
      rw [li_8] at ni_21
      have hv_22 : zI y_19 8 8 := zI.le_r zc_8 hy_19 hc_20 (by decide)
      refine lv_iconst (v := 1) hx hb d_Sets_isLike_52 (by decide) ?_
      exact z_zret hx hb hr hlocks rfl hP hD hS (Nat.le_of_ble_eq_true rfl) (Nat.le_of_ble_eq_true rfl) d_Sets_isLike_53 ⟨1, rfl, rfl, (zI.wk (l' := 0) (h' := 1) zc_1 (by decide))⟩
    · have _nhc_20 := hc_20
      have ni_23 := (fa_lt _ _).mp (zi_nle hc_20)
      rw [li_8] at ni_23
      have hv_24 : zI y_19 0 7 := zI.lt_l hy_19 zc_8 (zi_nle hc_20) (by decide)
      refine lv_aload_n hx hb d_Sets_isLike_12 rfl (lv_at hl 1 rfl) ?_
      refine va_get (D := G.1) (ci := 6) (v := .ref b5) (C := R_Sets) (T := F_Sets) (N := 5) hx hb hts i_Sets hown hK hP 0 rfl rfl 3 (by decide) (hts _ q244) (fun _ h9 => h9) rfl d_Sets_isLike_13 ?_
      refine lv_iload_n hx hb d_Sets_isLike_16 rfl (lv_at hl 2 rfl) ?_
      refine lv_aload_n hx hb d_Sets_isLike_17 rfl (lv_at hl 1 rfl) ?_
      refine va_get (D := G.1) (ci := 6) (v := .int 8) (C := R_Sets) (T := F_Sets) (N := 5) hx hb hts i_Sets hown hK hP 0 rfl rfl 1 (by decide) (hts _ q242) (fun _ h9 => h9) rfl d_Sets_isLike_18 ?_
      refine lv_imul hx hb d_Sets_isLike_21 ?_
      refine lv_topi (fun v_25 ev_25 => ?_)
      obtain ⟨qv_25, hv_25⟩ := zI_mul (l := 0) (h := 3192) hb1 zc_8 ev_25 (by decide)
      rw [li_8] at qv_25
      refine lv_iload hx hb d_Sets_isLike_22 (lv_at hl 0 rfl) ?_
      refine lv_iadd hx hb d_Sets_isLike_24 ?_
      refine lv_topi (fun v_26 ev_26 => ?_)
      obtain ⟨qv_26, hv_26⟩ := zI_add (l := 0) (h := 3199) hv_25 hv_24 ev_26 (by decide)
      refine va_lald hx hb hK hP 1 1 rfl rfl (zI.inn hv_26 (by decide)) d_Sets_isLike_25 ?_
      refine lv_topl (fun v_27 ev_27 => ?_)
      have bv_27 := zQB.ld hb7 hv_26 ev_27 (by decide)
      refine lv_aload_n hx hb d_Sets_isLike_26 rfl (lv_at hl 3 rfl) ?_
      refine va_get (D := G.1) (ci := 6) (v := .ref b9) (C := R_Sets) (T := F_Sets) (N := 5) hx hb hts i_Sets hown hK hP 2 rfl rfl 3 (by decide) (hts _ q244) (fun _ h9 => h9) rfl d_Sets_isLike_27 ?_
      refine lv_iload_n hx hb d_Sets_isLike_30 rfl (lv_at hl 4 rfl) ?_
      refine lv_aload_n hx hb d_Sets_isLike_31 rfl (lv_at hl 1 rfl) ?_
      refine va_get (D := G.1) (ci := 6) (v := .int 8) (C := R_Sets) (T := F_Sets) (N := 5) hx hb hts i_Sets hown hK hP 0 rfl rfl 1 (by decide) (hts _ q242) (fun _ h9 => h9) rfl d_Sets_isLike_32 ?_
      refine lv_imul hx hb d_Sets_isLike_35 ?_
      refine lv_topi (fun v_28 ev_28 => ?_)
      obtain ⟨qv_28, hv_28⟩ := zI_mul (l := 0) (h := 72) hb3 zc_8 ev_28 (by decide)
      rw [li_8] at qv_28
      refine lv_iload hx hb d_Sets_isLike_36 (lv_at hl 0 rfl) ?_
      refine lv_iadd hx hb d_Sets_isLike_38 ?_
      refine lv_topi (fun v_29 ev_29 => ?_)
      obtain ⟨qv_29, hv_29⟩ := zI_add (l := 0) (h := 79) hv_28 hv_24 ev_29 (by decide)
      refine va_lald hx hb hK hP 3 1 rfl rfl (zI.inn hv_29 (by decide)) d_Sets_isLike_39 ?_
      refine lv_topl (fun v_30 ev_30 => ?_)
      have bv_30 := zQB.ld hb11 hv_29 ev_30 (by decide)
      refine W.lcmp hx hb d_Sets_isLike_40 ?_
      refine lv_topi (fun v_31 ev_31 => ?_)
      refine lv_if_eq (tgt := 46) hx hb d_Sets_isLike_41 (by decide) (fun hc_32 => ?_) (fun hc_32 => ?_)
      · have ni_33 := hc_32
        rw [ev_31] at ni_33
        simp only [lg_cmp_lt, lg_cmp_le, lg_cmp_gt, lg_cmp_ge, lg_cmp_eq, fa_lt64, fa_le64, fa_eq64, Int32.toInt_toInt64] at ni_33
        obtain ⟨v_34, ev_34⟩ : ∃ z : Int32, z = y_19 + 1 := ⟨_, rfl⟩
        obtain ⟨qv_34, hv_34⟩ := zI_add (l := 1) (h := 8) hv_24 zc_1 ev_34 (by decide)
        rw [li_1] at qv_34
        refine lv_iinc (v := v_34) (lv' := [(4, .int v_34), (0, .ref b0), (1, .int b1), (2, .ref b2), (3, .int b3)]) hx hb d_Sets_isLike_46 hl (k := 0) rfl (by rw [ev_34]; rfl) (by decide) rfl (fun ls hl => ?_)
        refine lv_goto (tgt := 3) hx hb d_Sets_isLike_49 (by decide) ?_
        exact ihk_18 (v_34) _ _ _ (zI.wk (l' := 0) (h' := 8) hv_34 (by decide)) (zm_up qv_34 hmk_18 (by decide)) hP hD hS (lv_sub hl [0, 1, 2, 3, 4] rfl)
      · have ni_35 := hc_32
        rw [ev_31] at ni_35
        simp only [lg_cmp_lt, lg_cmp_le, lg_cmp_gt, lg_cmp_ge, lg_cmp_eq, fa_lt64, fa_le64, fa_eq64, Int32.toInt_toInt64] at ni_35
        refine lv_iconst (v := 0) hx hb d_Sets_isLike_44 (by decide) ?_
        exact z_zret hx hb hr hlocks rfl hP hD hS (Nat.le_of_ble_eq_true rfl) (Nat.le_of_ble_eq_true rfl) d_Sets_isLike_45 ⟨0, rfl, rfl, (zI.wk (l' := 0) (h' := 1) zc_0 (by decide))⟩
theorem d_Sets_indexOf_70 : decode prog_8_method_11_code 70 = .ok (.ireturn, 1) := by decide +kernel
theorem d_Sets_append_12 : decode prog_8_method_12_code 12 = .ok (.ireturn, 1) := by decide +kernel
theorem d_Sets_append_69 : decode prog_8_method_12_code 69 = .ok (.ireturn, 1) := by decide +kernel
abbrev m_s2_Sets_append : Room := { frames := 1, cells := 0, slots := 0, locals := 18 }
set_option maxHeartbeats 4000000 in
set_option maxRecDepth 100000 in
theorem s2_Sets_append (l : Launch) (G : zG) (b0 : Nat) (b1 : Nat) (b2 : Int32) (b3 : Int32) (b4 : Int32) (b5 : Nat) (b6 : Nat) (b7 : Nat → Int64) (b8 : Nat → Int32) (b9 : Int32) (b10 : Nat) (b11 : Nat) (b12 : Nat → Int64) (hb2 : zI b2 0 9) (hb3 : zI b3 0 1023) (hb4 : zI b4 0 400) (hb9 : zI b9 0 10) (hb7 : zqa qB b7) (hb8 : zR b8 (-1) 399) (hb12 : zqa qB b12) : zM l G y_Sets_append prog_8_method_12_code 4 (Option.some Jvm.ClassFile.FieldType.int) m_s2_Sets_append [.ref b0, .ref b1, .int b2, .int b3] [(b0, .inr (6, [.int b4, .int 8, .int 400, .ref b5, .ref b6])), (b5, .inl (G.2 1, 3200, .inr (.inl b7))), (b6, .inl (G.2 0, 1024, .inl b8)), (b1, .inr (6, [.int b9, .int 8, .int 10, .ref b10, .ref b11])), (b10, .inl (G.2 1, 80, .inr (.inl b12)))] (fun v w => ∃ (e0 : Int32), ∃ (e1 : Int32), ∃ (e2 : Nat → Int64), ∃ (e3 : Nat → Int32), v = some (.int e0) ∧ w = [(b0, .inr (6, [.int e1, .int 8, .int 400, .ref b5, .ref b6])), (b5, .inl (G.2 1, 3200, .inr (.inl e2))), (b6, .inl (G.2 0, 1024, .inl e3)), (b1, .inr (6, [.int b9, .int 8, .int 10, .ref b10, .ref b11])), (b10, .inl (G.2 1, 80, .inr (.inl b12)))] ∧ (zI e0 (-1) 399) ∧ (zI e1 0 400) ∧ (zqa qB e2) ∧ (zR e3 (-1) 399) ∧ (b4.toInt ≤ e1.toInt)) := by
  refine z_start (by decide +kernel) (Nat.le_of_ble_eq_true rfl) ?_
  intro p e s m below meth c A Z hr hnm hA hP hD hS ls hl
  have Z : zC p s m _ meth c prog_8_method_12_code 4 "TraceMachines$StateSets" G := Z
  obtain ⟨hx, hb, hml, hown, hts, hK, hN, hlocks⟩ := id Z
  have hl : lv_has ls 4 [(0, .ref b0), (1, .ref b1), (2, .int b2), (3, .int b3)] := hl
  refine lv_aload_n hx hb d_Sets_append_0 rfl (lv_at hl 0 rfl) ?_
  refine va_get (D := G.1) (ci := 6) (v := .int b4) (C := R_Sets) (T := F_Sets) (N := 5) hx hb hts i_Sets hown hK hP 0 rfl rfl 0 (by decide) (hts _ q239) (fun _ h9 => h9) rfl d_Sets_append_1 ?_
  refine lv_aload_n hx hb d_Sets_append_4 rfl (lv_at hl 0 rfl) ?_
  refine va_get (D := G.1) (ci := 6) (v := .int 400) (C := R_Sets) (T := F_Sets) (N := 5) hx hb hts i_Sets hown hK hP 0 rfl rfl 2 (by decide) (hts _ q243) (fun _ h9 => h9) rfl d_Sets_append_5 ?_
  refine lv_icmp_ne (tgt := 13) hx hb d_Sets_append_8 (by decide) (fun hc_1 => ?_) (fun hc_1 => ?_)
  · have _nhc_1 := hc_1
    have ni_2 : ¬ (b4 : Int32).toInt = (400 : Int32).toInt := fun z => hc_1 ((fa_eq _ _).mpr z)
    simp only [li_400] at ni_2
    have hv_3 : zI b4 0 399 := zI.ne_hi hb4 zc_400 hc_1 (by decide)
    refine lv_aload_n hx hb d_Sets_append_13 rfl (lv_at hl 1 rfl) ?_
    refine va_get (D := G.1) (ci := 6) (v := .ref b10) (C := R_Sets) (T := F_Sets) (N := 5) hx hb hts i_Sets hown hK hP 3 rfl rfl 3 (by decide) (hts _ q244) (fun _ h9 => h9) rfl d_Sets_append_14 ?_
    refine lv_iload_n hx hb d_Sets_append_17 rfl (lv_at hl 2 rfl) ?_
    refine lv_aload_n hx hb d_Sets_append_18 rfl (lv_at hl 0 rfl) ?_
    refine va_get (D := G.1) (ci := 6) (v := .int 8) (C := R_Sets) (T := F_Sets) (N := 5) hx hb hts i_Sets hown hK hP 0 rfl rfl 1 (by decide) (hts _ q242) (fun _ h9 => h9) rfl d_Sets_append_19 ?_
    refine lv_imul hx hb d_Sets_append_22 ?_
    refine lv_topi (fun v_4 ev_4 => ?_)
    obtain ⟨qv_4, hv_4⟩ := zI_mul (l := 0) (h := 72) hb2 zc_8 ev_4 (by decide)
    rw [li_8] at qv_4
    refine lv_aload_n hx hb d_Sets_append_23 rfl (lv_at hl 0 rfl) ?_
    refine va_get (D := G.1) (ci := 6) (v := .ref b5) (C := R_Sets) (T := F_Sets) (N := 5) hx hb hts i_Sets hown hK hP 0 rfl rfl 3 (by decide) (hts _ q244) (fun _ h9 => h9) rfl d_Sets_append_24 ?_
    refine lv_aload_n hx hb d_Sets_append_27 rfl (lv_at hl 0 rfl) ?_
    refine va_get (D := G.1) (ci := 6) (v := .int b4) (C := R_Sets) (T := F_Sets) (N := 5) hx hb hts i_Sets hown hK hP 0 rfl rfl 0 (by decide) (hts _ q239) (fun _ h9 => h9) rfl d_Sets_append_28 ?_
    refine lv_aload_n hx hb d_Sets_append_31 rfl (lv_at hl 0 rfl) ?_
    refine va_get (D := G.1) (ci := 6) (v := .int 8) (C := R_Sets) (T := F_Sets) (N := 5) hx hb hts i_Sets hown hK hP 0 rfl rfl 1 (by decide) (hts _ q242) (fun _ h9 => h9) rfl d_Sets_append_32 ?_
    refine lv_imul hx hb d_Sets_append_35 ?_
    refine lv_topi (fun v_5 ev_5 => ?_)
    obtain ⟨qv_5, hv_5⟩ := zI_mul (l := 0) (h := 3192) hv_3 zc_8 ev_5 (by decide)
    rw [li_8] at qv_5
    refine lv_aload_n hx hb d_Sets_append_36 rfl (lv_at hl 0 rfl) ?_
    refine va_get (D := G.1) (ci := 6) (v := .int 8) (C := R_Sets) (T := F_Sets) (N := 5) hx hb hts i_Sets hown hK hP 0 rfl rfl 1 (by decide) (hts _ q242) (fun _ h9 => h9) rfl d_Sets_append_37 ?_
    refine va_copyl hx hb (hml.trans hl.1.symm) hown (hts _ q843) (hts _ q504) (hts _ q503) (hts _ q15) hK hP hD hS 4 1 1 1 rfl rfl rfl rfl rfl (zi_nn hv_4 (by decide)) (zi_nn hv_5 (by decide)) (zi_nn zc_8 (by decide)) (zi_cp hv_4 zc_8 (by decide) (by decide) (by decide)) (zi_cp hv_5 zc_8 (by decide) (by decide) (by decide)) (fun _ _ => rfl) (Nat.le_of_ble_eq_true rfl) (Nat.le_of_ble_eq_true rfl) d_Sets_append_40 (fun H locs hP hD hS => ?_)
    obtain ⟨f_6, hf_6, hP, hD⟩ := z_newlB 1 hP hD rfl (zQB.cpy hb12 hb7 (by have p9 := z_pl hv_4 (by decide); have p8 := z_pl hv_5 (by decide); omega))
    have hP : va_P G.1 classes [(b0, .inr (6, [.int b4, .int 8, .int 400, .ref b5, .ref b6])), (b5, .inl (G.2 1, 3200, .inr (.inl f_6))), (b6, .inl (G.2 0, 1024, .inl b8)), (b1, .inr (6, [.int b9, .int 8, .int 10, .ref b10, .ref b11])), (b10, .inl (G.2 1, 80, .inr (.inl b12)))] H := hP
    have hD := z_tie hP hD rfl
    refine lv_aload_n hx hb d_Sets_append_43 rfl (lv_at hl 0 rfl) ?_
    refine va_get (D := G.1) (ci := 6) (v := .ref b6) (C := R_Sets) (T := F_Sets) (N := 5) hx hb hts i_Sets hown hK hP 0 rfl rfl 4 (by decide) (hts _ q245) (fun _ h9 => h9) rfl d_Sets_append_44 ?_
    refine lv_iload_n hx hb d_Sets_append_47 rfl (lv_at hl 3 rfl) ?_
    refine lv_aload_n hx hb d_Sets_append_48 rfl (lv_at hl 0 rfl) ?_
    refine va_get (D := G.1) (ci := 6) (v := .int b4) (C := R_Sets) (T := F_Sets) (N := 5) hx hb hts i_Sets hown hK hP 0 rfl rfl 0 (by decide) (hts _ q239) (fun _ h9 => h9) rfl d_Sets_append_49 ?_
    refine va_iast hx hb hK hP hD hS 2 0 rfl rfl (zI.inn hb3 (by decide)) d_Sets_append_52 (fun H locs hP hD hS => ?_)
    obtain ⟨f_7, hf_7, gf_7, uf_7, hP, hD⟩ := z_newfu 2 hP hD rfl hb8 (zI.wk (l' := (-1)) (h' := 399) hv_3 (by decide))
    have hP : va_P G.1 classes [(b0, .inr (6, [.int b4, .int 8, .int 400, .ref b5, .ref b6])), (b5, .inl (G.2 1, 3200, .inr (.inl f_6))), (b6, .inl (G.2 0, 1024, .inl f_7)), (b1, .inr (6, [.int b9, .int 8, .int 10, .ref b10, .ref b11])), (b10, .inl (G.2 1, 80, .inr (.inl b12)))] H := hP
    have hD := z_tie hP hD rfl
    refine lv_aload_n hx hb d_Sets_append_53 rfl (lv_at hl 0 rfl) ?_
    refine lv_dup hx hb d_Sets_append_54 rfl ?_
    refine va_get (D := G.1) (ci := 6) (v := .int b4) (C := R_Sets) (T := F_Sets) (N := 5) hx hb hts i_Sets hown hK hP 0 rfl rfl 0 (by decide) (hts _ q239) (fun _ h9 => h9) rfl d_Sets_append_55 ?_
    refine lv_iconst (v := 1) hx hb d_Sets_append_58 (by decide) ?_
    refine lv_iadd hx hb d_Sets_append_59 ?_
    refine lv_topi (fun v_8 ev_8 => ?_)
    obtain ⟨qv_8, hv_8⟩ := zI_add (l := 1) (h := 400) hv_3 zc_1 ev_8 (by decide)
    rw [li_1] at qv_8
    refine va_put (D := G.1) (ci := 6) (v := .int v_8) (ty := .int) (C := R_Sets) (T := F_Sets) (N := 5) hx hb hts i_Sets t_Sets t_Sets_ok n_Sets hown hK hP hD hS 0 rfl rfl 0 (by decide) (hts _ q239) (fun _ h9 => h9) rfl (by decide +kernel) rfl rfl (Nat.le_of_ble_eq_true rfl) d_Sets_append_60 (fun H locs hP hD hS => ?_)
    have hP : va_P G.1 classes [(b0, .inr (6, [.int v_8, .int 8, .int 400, .ref b5, .ref b6])), (b5, .inl (G.2 1, 3200, .inr (.inl f_6))), (b6, .inl (G.2 0, 1024, .inl f_7)), (b1, .inr (6, [.int b9, .int 8, .int 10, .ref b10, .ref b11])), (b10, .inl (G.2 1, 80, .inr (.inl b12)))] H := hP
    have hD := z_tie hP hD rfl
    refine lv_aload_n hx hb d_Sets_append_63 rfl (lv_at hl 0 rfl) ?_
    refine va_get (D := G.1) (ci := 6) (v := .int v_8) (C := R_Sets) (T := F_Sets) (N := 5) hx hb hts i_Sets hown hK hP 0 rfl rfl 0 (by decide) (hts _ q239) (fun _ h9 => h9) rfl d_Sets_append_64 ?_
    refine lv_iconst (v := 1) hx hb d_Sets_append_67 (by decide) ?_
    refine lv_isub hx hb d_Sets_append_68 ?_
    refine lv_topi (fun v_9 ev_9 => ?_)
    obtain ⟨qv_9, hv_9⟩ := zI_sub (l := 0) (h := 399) hv_8 zc_1 ev_9 (by decide)
    rw [li_1] at qv_9
    exact z_iret hx hb hr hlocks hP hD hS (Nat.le_of_ble_eq_true rfl) (Nat.le_of_ble_eq_true rfl) d_Sets_append_69 ⟨v_9, v_8, f_6, f_7, rfl, rfl, (zI.wk (l' := (-1)) (h' := 399) hv_9 (by decide)), (zI.wk (l' := 0) (h' := 400) hv_8 (by decide)), hf_6, hf_7, (by omega)⟩
  · have _nhc_1 := hc_1
    have ni_10 := (fa_eq _ _).mp hc_1
    rw [li_400] at ni_10
    have hv_11 : zI b4 400 400 := zI.eq_l hb4 zc_400 hc_1
    refine lv_iconst (v := (-1)) hx hb d_Sets_append_11 (by decide) ?_
    exact z_iret hx hb hr hlocks hP hD hS (Nat.le_of_ble_eq_true rfl) (Nat.le_of_ble_eq_true rfl) d_Sets_append_12 ⟨(-1), b4, b7, b8, rfl, rfl, (zI.wk (l' := (-1)) (h' := 399) zc_m1 (by decide)), (zI.wk (l' := 0) (h' := 400) hv_11 (by decide)), hb7, hb8, (by omega)⟩
theorem d_Sets_indexOf_56 : decode prog_8_method_11_code 56 = .ok (.ireturn, 1) := by decide +kernel
abbrev m_s2_Sets_indexOf : Room := { frames := 2, cells := 0, slots := 0, locals := 41 }
set_option maxHeartbeats 4000000 in
set_option maxRecDepth 100000 in
theorem s2_Sets_indexOf (l : Launch) (G : zG) (b0 : Nat) (b1 : Nat) (b2 : Int32) (b3 : Int32) (b4 : Nat) (b5 : Nat) (b6 : Nat → Int64) (b7 : Nat → Int32) (b8 : Int32) (b9 : Nat) (b10 : Nat) (b11 : Nat → Int64) (hb2 : zI b2 0 9) (hb3 : zI b3 0 400) (hb8 : zI b8 0 10) (hb6 : zqa qB b6) (hb7 : zR b7 (-1) 399) (hb11 : zqa qB b11) : zM l G y_Sets_indexOf prog_8_method_11_code 7 (Option.some Jvm.ClassFile.FieldType.int) m_s2_Sets_indexOf [.ref b0, .ref b1, .int b2] [(b0, .inr (6, [.int b3, .int 8, .int 400, .ref b4, .ref b5])), (b4, .inl (G.2 1, 3200, .inr (.inl b6))), (b5, .inl (G.2 0, 1024, .inl b7)), (b1, .inr (6, [.int b8, .int 8, .int 10, .ref b9, .ref b10])), (b9, .inl (G.2 1, 80, .inr (.inl b11)))] (fun v w => ∃ (e0 : Int32), ∃ (e1 : Int32), ∃ (e2 : Nat → Int64), ∃ (e3 : Nat → Int32), v = some (.int e0) ∧ w = [(b0, .inr (6, [.int e1, .int 8, .int 400, .ref b4, .ref b5])), (b4, .inl (G.2 1, 3200, .inr (.inl e2))), (b5, .inl (G.2 0, 1024, .inl e3)), (b1, .inr (6, [.int b8, .int 8, .int 10, .ref b9, .ref b10])), (b9, .inl (G.2 1, 80, .inr (.inl b11)))] ∧ (zI e0 (-1) 399) ∧ (zI e1 0 400) ∧ (zqa qB e2) ∧ (zR e3 (-1) 399) ∧ (b3.toInt ≤ e1.toInt)) := by
  refine z_start (by decide +kernel) (Nat.le_of_ble_eq_true rfl) ?_
  intro p e s m below meth c A Z hr hnm hA hP hD hS ls hl
  have Z : zC p s m _ meth c prog_8_method_11_code 7 "TraceMachines$StateSets" G := Z
  obtain ⟨hx, hb, hml, hown, hts, hK, hN, hlocks⟩ := id Z
  have hl : lv_has ls 7 [(0, .ref b0), (1, .ref b1), (2, .int b2)] := hl
  refine lv_aload_n hx hb d_Sets_indexOf_0 rfl (lv_at hl 1 rfl) ?_
  refine lv_iload_n hx hb d_Sets_indexOf_1 rfl (lv_at hl 2 rfl) ?_
  refine z_callV (index := 47) (As := [.int b2]) (rest := []) (wr := [(b0, .inr (6, [.int b3, .int 8, .int 400, .ref b4, .ref b5])), (b4, .inl (G.2 1, 3200, .inr (.inl b6))), (b5, .inl (G.2 0, 1024, .inl b7))]) Z (s3_Sets_hashOf l G (b1) (b2) (b8) (b9) (b10) (b11) hb2 hb8 hb11) hl.1 q834 q836 qs23 q7 q837 ⟨by decide, by decide, by show _ = some 1; decide +kernel⟩ ⟨Nat.le_of_ble_eq_true rfl, Nat.le_of_ble_eq_true rfl⟩ ⟨Nat.le_of_ble_eq_true rfl, Nat.le_of_ble_eq_true rfl⟩ rfl (Nat.le_of_ble_eq_true rfl) d_Sets_indexOf_2 hP hD hS hA 3 6 rfl rfl rfl [3, 4] [0, 1, 2] rfl rfl rfl rfl (by decide) (fun v w1 H locs hw_1 hP hD hS => ?_)
  obtain ⟨x_2, rfl, rfl⟩ := hw_1
  have hP : va_P G.1 classes [(b0, .inr (6, [.int b3, .int 8, .int 400, .ref b4, .ref b5])), (b4, .inl (G.2 1, 3200, .inr (.inl b6))), (b5, .inl (G.2 0, 1024, .inl b7)), (b1, .inr (6, [.int b8, .int 8, .int 10, .ref b9, .ref b10])), (b9, .inl (G.2 1, 80, .inr (.inl b11)))] H := hP
  have hD := z_tie hP hD rfl
  refine W.widen (k := 0) (n := 0) (Nat.le_of_ble_eq_true rfl) (Nat.le_of_ble_eq_true rfl) ?_
  refine lv_istore_n (lv' := [(3, .int x_2), (0, .ref b0), (1, .ref b1), (2, .int b2)]) hx hb d_Sets_indexOf_5 rfl hl (by decide) rfl (fun ls hl => ?_)
  refine lv_iconst (v := 0) hx hb d_Sets_indexOf_6 (by decide) ?_
  refine lv_istore (lv' := [(4, .int 0), (3, .int x_2), (0, .ref b0), (1, .ref b1), (2, .int b2)]) hx hb d_Sets_indexOf_7 hl (by decide) rfl (fun ls hl => ?_)
  suffices key : ∀ (k_31 : Nat) (y_32 : Int32) (H : Heap) (locs : List Loc) (ls : Array Slot), (zI y_32 0 1024) → (1024 : Int) - y_32.toInt < (k_31 : Int) → va_P G.1 classes [(b0, .inr (6, [.int b3, .int 8, .int 400, .ref b4, .ref b5])), (b4, .inl (G.2 1, 3200, .inr (.inl b6))), (b5, .inl (G.2 0, 1024, .inl b7)), (b1, .inr (6, [.int b8, .int 8, .int 10, .ref b9, .ref b10])), (b9, .inl (G.2 1, 80, .inr (.inl b11)))] H → va_D A [(b0, .inr (6, [.int b3, .int 8, .int 400, .ref b4, .ref b5])), (b4, .inl (G.2 1, 3200, .inr (.inl b6))), (b5, .inl (G.2 0, 1024, .inl b7)), (b1, .inr (6, [.int b8, .int 8, .int 10, .ref b9, .ref b10])), (b9, .inl (G.2 1, 80, .inr (.inl b11)))] → va_S A s.heap H locs → lv_has ls 7 [(4, .int y_32), (3, .int x_2), (0, .ref b0), (1, .ref b1), (2, .int b2)] → W p l e m_s2_Sets_indexOf s m ([.ref b0, .ref b1, .int b2] : List Value).toArray below meth c H locs 0 0 (MQ below (zQ G (fun v w => ∃ (e0 : Int32), ∃ (e1 : Int32), ∃ (e2 : Nat → Int64), ∃ (e3 : Nat → Int32), v = some (.int e0) ∧ w = [(b0, .inr (6, [.int e1, .int 8, .int 400, .ref b4, .ref b5])), (b4, .inl (G.2 1, 3200, .inr (.inl e2))), (b5, .inl (G.2 0, 1024, .inl e3)), (b1, .inr (6, [.int b8, .int 8, .int 10, .ref b9, .ref b10])), (b9, .inl (G.2 1, 80, .inr (.inl b11)))] ∧ (zI e0 (-1) 399) ∧ (zI e1 0 400) ∧ (zqa qB e2) ∧ (zR e3 (-1) 399) ∧ (b3.toInt ≤ e1.toInt)) A) ([.ref b0, .ref b1, .int b2] : List Value).toArray s m_s2_Sets_indexOf.cells m_s2_Sets_indexOf.slots A) (F0 m 9 ls []) by
    exact key 1025 (0) _ _ _ (zI.wk (l' := 0) (h' := 1024) zc_0 (by decide)) (zm_upi (zI.wk (l' := 0) (h' := 1024) zc_0 (by decide)) (by decide)) hP hD hS (lv_sub hl [0, 1, 2, 3, 4] rfl)
  intro k_31
  induction k_31 with
  | zero =>
    intro y_32 H locs ls hy_32 hmk_31 hP hD hS hl
    exact (zm_up0 hy_32 hmk_31).elim
  | succ k_31 ihk_31 =>
    intro y_32 H locs ls hy_32 hmk_31 hP hD hS hl
    refine lv_iload hx hb d_Sets_indexOf_9 (lv_at hl 0 rfl) ?_
    refine lv_aload_n hx hb d_Sets_indexOf_11 rfl (lv_at hl 2 rfl) ?_
    refine va_get (D := G.1) (ci := 6) (v := .ref b5) (C := R_Sets) (T := F_Sets) (N := 5) hx hb hts i_Sets hown hK hP 0 rfl rfl 4 (by decide) (hts _ q245) (fun _ h9 => h9) rfl d_Sets_indexOf_12 ?_
    refine va_alen hx hb hK hP 2 0 rfl rfl (v := 1024) (show Int32.ofNat 1024 = 1024 from by decide +kernel) d_Sets_indexOf_15 ?_
    refine lv_icmp_ge (tgt := 77) hx hb d_Sets_indexOf_16 (by decide) (fun hc_33 => ?_) (fun hc_33 => ?_)
    · have _nhc_33 := hc_33
      have ni_34 := (fa_le _ _).mp hc_33
      rw [li_1024] at ni_34
      have hv_35 : zI y_32 1024 1024 := zI.le_r zc_1024 hy_32 hc_33 (by decide)
      refine lv_iconst (v := (-1)) hx hb d_Sets_indexOf_77 (by decide) ?_
      exact z_iret hx hb hr hlocks hP hD hS (Nat.le_of_ble_eq_true rfl) (Nat.le_of_ble_eq_true rfl) d_Sets_indexOf_78 ⟨(-1), b3, b6, b7, rfl, rfl, (zI.wk (l' := (-1)) (h' := 399) zc_m1 (by decide)), hb3, hb6, hb7, (by omega)⟩
    · have _nhc_33 := hc_33
      have ni_36 := (fa_lt _ _).mp (zi_nle hc_33)
      rw [li_1024] at ni_36
      have hv_37 : zI y_32 0 1023 := zI.lt_l hy_32 zc_1024 (zi_nle hc_33) (by decide)
      refine lv_iload_n hx hb d_Sets_indexOf_19 rfl (lv_at hl 1 rfl) ?_
      refine lv_iload hx hb d_Sets_indexOf_20 (lv_at hl 0 rfl) ?_
      refine lv_iadd hx hb d_Sets_indexOf_22 ?_
      refine lv_topi (fun v_38 ev_38 => ?_)
      refine lv_aload_n hx hb d_Sets_indexOf_23 rfl (lv_at hl 2 rfl) ?_
      refine va_get (D := G.1) (ci := 6) (v := .ref b5) (C := R_Sets) (T := F_Sets) (N := 5) hx hb hts i_Sets hown hK hP 0 rfl rfl 4 (by decide) (hts _ q245) (fun _ h9 => h9) rfl d_Sets_indexOf_24 ?_
      refine va_alen hx hb hK hP 2 0 rfl rfl (v := 1024) (show Int32.ofNat 1024 = 1024 from by decide +kernel) d_Sets_indexOf_27 ?_
      refine lv_iconst (v := 1) hx hb d_Sets_indexOf_28 (by decide) ?_
      refine lv_isub hx hb d_Sets_indexOf_29 ?_
      refine z_topi (y := 1023) (by decide +kernel) ?_
      refine lv_iand hx hb d_Sets_indexOf_30 ?_
      refine lv_topi (fun v_39 ev_39 => ?_)
      have hv_39 := zI_and (k := 10) (h := 1023) (by decide +kernel) ev_39 (by decide)
      refine lv_istore (lv' := [(5, .int v_39), (4, .int y_32), (3, .int x_2), (0, .ref b0), (1, .ref b1), (2, .int b2)]) hx hb d_Sets_indexOf_31 hl (by decide) rfl (fun ls hl => ?_)
      refine lv_aload_n hx hb d_Sets_indexOf_33 rfl (lv_at hl 3 rfl) ?_
      refine va_get (D := G.1) (ci := 6) (v := .ref b5) (C := R_Sets) (T := F_Sets) (N := 5) hx hb hts i_Sets hown hK hP 0 rfl rfl 4 (by decide) (hts _ q245) (fun _ h9 => h9) rfl d_Sets_indexOf_34 ?_
      refine lv_iload hx hb d_Sets_indexOf_37 (lv_at hl 0 rfl) ?_
      refine va_iald hx hb hK hP 2 0 rfl rfl (zI.inn hv_39 (by decide)) d_Sets_indexOf_39 ?_
      refine lv_topi (fun v_40 ev_40 => ?_)
      have hv_40 : zI v_40 (-1) 399 := (hb7 _).eq ev_40
      refine lv_istore (lv' := [(6, .int v_40), (5, .int v_39), (4, .int y_32), (3, .int x_2), (0, .ref b0), (1, .ref b1), (2, .int b2)]) hx hb d_Sets_indexOf_40 hl (by decide) rfl (fun ls hl => ?_)
      refine lv_iload hx hb d_Sets_indexOf_42 (lv_at hl 0 rfl) ?_
      refine lv_iconst (v := (-1)) hx hb d_Sets_indexOf_44 (by decide) ?_
      refine lv_icmp_ne (tgt := 57) hx hb d_Sets_indexOf_45 (by decide) (fun hc_41 => ?_) (fun hc_41 => ?_)
      · have _nhc_41 := hc_41
        have ni_42 : ¬ (v_40 : Int32).toInt = ((-1) : Int32).toInt := fun z => hc_41 ((fa_eq _ _).mpr z)
        simp only [li_m1] at ni_42
        have hv_43 : zI v_40 0 399 := zI.ne_lo hv_40 zc_m1 hc_41 (by decide)
        refine lv_aload_n hx hb d_Sets_indexOf_57 rfl (lv_at hl 4 rfl) ?_
        refine lv_iload hx hb d_Sets_indexOf_58 (lv_at hl 0 rfl) ?_
        refine lv_aload_n hx hb d_Sets_indexOf_60 rfl (lv_at hl 5 rfl) ?_
        refine lv_iload_n hx hb d_Sets_indexOf_61 rfl (lv_at hl 6 rfl) ?_
        refine z_callV (index := 55) (As := [.int v_40, .ref b1, .int b2]) (rest := []) (wr := [(b5, .inl (G.2 0, 1024, .inl b7))]) Z (s2_Sets_isLike l G (b0) (v_40) (b1) (b2) (b3) (b4) (b5) (b6) (b8) (b9) (b10) (b11) hv_43 hb2 hb3 hb8 hb6 hb11) hl.1 q844 q846 qs25 q7 q847 ⟨by decide, by decide, by show _ = some 3; decide +kernel⟩ ⟨Nat.le_of_ble_eq_true rfl, Nat.le_of_ble_eq_true rfl⟩ ⟨Nat.le_of_ble_eq_true rfl, Nat.le_of_ble_eq_true rfl⟩ rfl (Nat.le_of_ble_eq_true rfl) d_Sets_indexOf_62 hP hD hS hA 0 6 rfl rfl rfl [0, 1, 3, 4] [2] rfl rfl rfl rfl (by decide) (fun v w1 H locs hw_44 hP hD hS => ?_)
        obtain ⟨x_45, rfl, rfl, hx_45⟩ := hw_44
        have hP : va_P G.1 classes [(b5, .inl (G.2 0, 1024, .inl b7)), (b0, .inr (6, [.int b3, .int 8, .int 400, .ref b4, .ref b5])), (b4, .inl (G.2 1, 3200, .inr (.inl b6))), (b1, .inr (6, [.int b8, .int 8, .int 10, .ref b9, .ref b10])), (b9, .inl (G.2 1, 80, .inr (.inl b11)))] H := hP
        have hD := z_tie hP hD rfl
        refine W.widen (k := 0) (n := 0) (Nat.le_of_ble_eq_true rfl) (Nat.le_of_ble_eq_true rfl) ?_
        refine lv_if_eq (tgt := 71) hx hb d_Sets_indexOf_65 (by decide) (fun hc_46 => ?_) (fun hc_46 => ?_)
        · have _nhc_46 := hc_46
          have ni_47 := (fa_eq _ _).mp hc_46
          rw [li_0] at ni_47
          have hv_48 : zI x_45 0 0 := zI.eq_l hx_45 zc_0 hc_46
          obtain ⟨v_49, ev_49⟩ : ∃ z : Int32, z = y_32 + 1 := ⟨_, rfl⟩
          obtain ⟨qv_49, hv_49⟩ := zI_add (l := 1) (h := 1024) hv_37 zc_1 ev_49 (by decide)
          rw [li_1] at qv_49
          refine lv_iinc (v := v_49) (lv' := [(4, .int v_49), (6, .int v_40), (5, .int v_39), (3, .int x_2), (0, .ref b0), (1, .ref b1), (2, .int b2)]) hx hb d_Sets_indexOf_71 hl (k := 2) rfl (by rw [ev_49]; rfl) (by decide) rfl (fun ls hl => ?_)
          refine lv_goto (tgt := 9) hx hb d_Sets_indexOf_74 (by decide) ?_
          exact ihk_31 (v_49) _ _ _ (zI.wk (l' := 0) (h' := 1024) hv_49 (by decide)) (zm_up qv_49 hmk_31 (by decide)) (hP.sub [1, 2, 0, 3, 4] rfl) (hD.sub [1, 2, 0, 3, 4] (by decide) rfl) hS (lv_sub hl [0, 3, 4, 5, 6] rfl)
        · have _nhc_46 := hc_46
          have ni_50 : ¬ (x_45 : Int32).toInt = (0 : Int32).toInt := fun z => hc_46 ((fa_eq _ _).mpr z)
          simp only [li_0] at ni_50
          have hv_51 : zI x_45 1 1 := zI.ne_lo hx_45 zc_0 hc_46 (by decide)
          refine lv_iload hx hb d_Sets_indexOf_68 (lv_at hl 0 rfl) ?_
          exact z_iret hx hb hr hlocks (hP.sub [1, 2, 0, 3, 4] rfl) (hD.sub [1, 2, 0, 3, 4] (by decide) rfl) hS (Nat.le_of_ble_eq_true rfl) (Nat.le_of_ble_eq_true rfl) d_Sets_indexOf_70 ⟨v_40, b3, b6, b7, rfl, rfl, (zI.wk (l' := (-1)) (h' := 399) hv_43 (by decide)), hb3, hb6, hb7, (by omega)⟩
      · have _nhc_41 := hc_41
        have ni_52 := (fa_eq _ _).mp hc_41
        rw [li_m1] at ni_52
        have hv_53 : zI v_40 (-1) (-1) := zI.eq_l hv_40 zc_m1 hc_41
        refine lv_aload_n hx hb d_Sets_indexOf_48 rfl (lv_at hl 4 rfl) ?_
        refine lv_aload_n hx hb d_Sets_indexOf_49 rfl (lv_at hl 5 rfl) ?_
        refine lv_iload_n hx hb d_Sets_indexOf_50 rfl (lv_at hl 6 rfl) ?_
        refine lv_iload hx hb d_Sets_indexOf_51 (lv_at hl 1 rfl) ?_
        refine z_callV (index := 51) (As := [.ref b1, .int b2, .int v_39]) (rest := []) (wr := []) Z (s2_Sets_append l G (b0) (b1) (b2) (v_39) (b3) (b4) (b5) (b6) (b7) (b8) (b9) (b10) (b11) hb2 hv_39 hb3 hb8 hb6 hb7 hb11) hl.1 q839 q841 qs24 q7 q842 ⟨by decide, by decide, by show _ = some 3; decide +kernel⟩ ⟨Nat.le_of_ble_eq_true rfl, Nat.le_of_ble_eq_true rfl⟩ ⟨Nat.le_of_ble_eq_true rfl, Nat.le_of_ble_eq_true rfl⟩ rfl (Nat.le_of_ble_eq_true rfl) d_Sets_indexOf_53 hP hD hS hA 0 6 rfl rfl rfl [0, 1, 2, 3, 4] [] rfl rfl rfl rfl (by decide) (fun v w1 H locs hw_54 hP hD hS => ?_)
        obtain ⟨x_55, x_56, f_57, f_58, rfl, rfl, hx_55, hx_56, hf_57, hf_58, hfx_59⟩ := hw_54
        have hP : va_P G.1 classes [(b0, .inr (6, [.int x_56, .int 8, .int 400, .ref b4, .ref b5])), (b4, .inl (G.2 1, 3200, .inr (.inl f_57))), (b5, .inl (G.2 0, 1024, .inl f_58)), (b1, .inr (6, [.int b8, .int 8, .int 10, .ref b9, .ref b10])), (b9, .inl (G.2 1, 80, .inr (.inl b11)))] H := hP
        have hD := z_tie hP hD rfl
        refine W.widen (k := 0) (n := 0) (Nat.le_of_ble_eq_true rfl) (Nat.le_of_ble_eq_true rfl) ?_
        exact z_iret hx hb hr hlocks hP hD hS (Nat.le_of_ble_eq_true rfl) (Nat.le_of_ble_eq_true rfl) d_Sets_indexOf_56 ⟨x_55, x_56, f_57, f_58, rfl, rfl, hx_55, hx_56, hf_57, hf_58, (by omega)⟩
theorem d_Parting_begin_68 : decode prog_7_method_5_code 68 = .ok (.return_, 1) := by decide +kernel
abbrev m_s3_Sets_put : Room := { frames := 0, cells := 0, slots := 0, locals := 0 }
set_option maxHeartbeats 4000000 in
set_option maxRecDepth 100000 in
theorem s3_Sets_put (l : Launch) (G : zG) (b0 : Nat) (b1 : Int32) (b2 : Int32) (b3 : Int32) (b4 : Int32) (b5 : Nat) (b6 : Nat) (b7 : Nat → Int64) (hb1 : zI b1 0 9) (hb2 : zI b2 0 1) (hb3 : zI b3 0 240) (hb4 : zI b4 0 10) (hb7 : zqa qB b7) : zM l G y_Sets_put prog_8_method_4_code 4 (Option.none : Option Jvm.ClassFile.FieldType) m_s3_Sets_put [.ref b0, .int b1, .int b2, .int b3] [(b0, .inr (6, [.int b4, .int 8, .int 10, .ref b5, .ref b6])), (b5, .inl (G.2 1, 80, .inr (.inl b7)))] (fun v w => ∃ (e0 : Nat → Int64), v = none ∧ w = [(b0, .inr (6, [.int b4, .int 8, .int 10, .ref b5, .ref b6])), (b5, .inl (G.2 1, 80, .inr (.inl e0)))] ∧ (zqa qB e0)) := by
  refine z_start (by decide +kernel) (Nat.le_of_ble_eq_true rfl) ?_
  intro p e s m below meth c A Z hr hnm hA hP hD hS ls hl
  have Z : zC p s m _ meth c prog_8_method_4_code 4 "TraceMachines$StateSets" G := Z
  obtain ⟨hx, hb, hml, hown, hts, hK, hN, hlocks⟩ := id Z
  have hl : lv_has ls 4 [(0, .ref b0), (1, .int b1), (2, .int b2), (3, .int b3)] := hl
  refine lv_aload_n hx hb d_Sets_put_0 rfl (lv_at hl 0 rfl) ?_
  refine va_get (D := G.1) (ci := 6) (v := .ref b5) (C := R_Sets) (T := F_Sets) (N := 5) hx hb hts i_Sets hown hK hP 0 rfl rfl 3 (by decide) (hts _ q244) (fun _ h9 => h9) rfl d_Sets_put_1 ?_
  refine lv_iload_n hx hb d_Sets_put_4 rfl (lv_at hl 1 rfl) ?_
  refine lv_aload_n hx hb d_Sets_put_5 rfl (lv_at hl 0 rfl) ?_
  refine va_get (D := G.1) (ci := 6) (v := .int 8) (C := R_Sets) (T := F_Sets) (N := 5) hx hb hts i_Sets hown hK hP 0 rfl rfl 1 (by decide) (hts _ q242) (fun _ h9 => h9) rfl d_Sets_put_6 ?_
  refine lv_imul hx hb d_Sets_put_9 ?_
  refine lv_topi (fun v_1 ev_1 => ?_)
  obtain ⟨qv_1, hv_1⟩ := zI_mul (l := 0) (h := 72) hb1 zc_8 ev_1 (by decide)
  rw [li_8] at qv_1
  refine lv_iload_n hx hb d_Sets_put_10 rfl (lv_at hl 2 rfl) ?_
  refine lv_iconst (v := 4) hx hb d_Sets_put_11 (by decide) ?_
  refine lv_imul hx hb d_Sets_put_12 ?_
  refine lv_topi (fun v_2 ev_2 => ?_)
  obtain ⟨qv_2, hv_2⟩ := zI_mul (l := 0) (h := 4) hb2 zc_4 ev_2 (by decide)
  rw [li_4] at qv_2
  refine lv_iadd hx hb d_Sets_put_13 ?_
  refine lv_topi (fun v_3 ev_3 => ?_)
  obtain ⟨qv_3, hv_3⟩ := zI_add (l := 0) (h := 76) hv_1 hv_2 ev_3 (by decide)
  refine lv_iload_n hx hb d_Sets_put_14 rfl (lv_at hl 3 rfl) ?_
  refine lv_bipush (v := 6) hx hb d_Sets_put_15 (by decide) ?_
  refine lv_ishr hx hb d_Sets_put_17 ?_
  refine lv_topi (fun v_4 ev_4 => ?_)
  obtain ⟨qv_4, hv_4⟩ := zI_shr (l := 0) (h := 3) (k := 6) hb3 (by decide +kernel) ev_4 (by decide)
  refine lv_iadd hx hb d_Sets_put_18 ?_
  refine lv_topi (fun v_5 ev_5 => ?_)
  obtain ⟨qv_5, hv_5⟩ := zI_add (l := 0) (h := 79) hv_3 hv_4 ev_5 (by decide)
  refine lv_dup2_11 hx hb d_Sets_put_19 rfl rfl ?_
  refine va_lald hx hb hK hP 1 1 rfl rfl (zI.inn hv_5 (by decide)) d_Sets_put_20 ?_
  refine lv_topl (fun v_6 ev_6 => ?_)
  have bv_6 := zQB.ld hb7 hv_5 ev_6 (by decide)
  refine lv_lconst (v := 1) hx hb d_Sets_put_21 (by decide) ?_
  refine lv_iload_n hx hb d_Sets_put_22 rfl (lv_at hl 3 rfl) ?_
  refine lv_bipush (v := 63) hx hb d_Sets_put_23 (by decide) ?_
  refine lv_iand hx hb d_Sets_put_25 ?_
  refine lv_topi (fun v_7 ev_7 => ?_)
  have hv_7 := zI_and (k := 6) (h := 63) (by decide +kernel) ev_7 (by decide)
  obtain ⟨v_8, ev_8⟩ : ∃ z : Int64, z = 1 <<< ((v_7 : Int32).toInt64 &&& 63) := ⟨_, rfl⟩
  refine lv_lshl (v := v_8) hx hb d_Sets_put_26 ev_8.symm ?_
  refine lv_lor hx hb d_Sets_put_27 ?_
  refine lv_topl (fun v_9 ev_9 => ?_)
  refine va_last hx hb hK hP hD hS 1 1 rfl rfl (zI.inn hv_5 (by decide)) d_Sets_put_28 (fun H locs hP hD hS => ?_)
  obtain ⟨f_10, hf_10, uf_10, hP, hD⟩ := z_newlb 1 hP hD rfl hb7 (qB_v hv_5 (by decide) (fun h9 => by rw [ev_9]; exact zB_or (bv_6 h9) (zB_sh ev_8 ev_7 ⟨by omega, by omega⟩)))
  have hP : va_P G.1 classes [(b0, .inr (6, [.int b4, .int 8, .int 10, .ref b5, .ref b6])), (b5, .inl (G.2 1, 80, .inr (.inl f_10)))] H := hP
  have hD := z_tie hP hD rfl
  exact z_vret hx hb hr hlocks hP hD hS (Nat.le_of_ble_eq_true rfl) (Nat.le_of_ble_eq_true rfl) d_Sets_put_29 ⟨f_10, rfl, rfl, hf_10⟩
abbrev m_s2_Parting_begin : Room := { frames := 3, cells := 0, slots := 0, locals := 67 }
set_option maxHeartbeats 4000000 in
set_option maxRecDepth 100000 in
theorem s2_Parting_begin (l : Launch) (G : zG) (b0 : Nat) (b1 : Nat) (b2 : Int32) (b3 : Int32) (b4 : Nat) (b5 : Int32) (b6 : Int32) (b7 : Nat) (b8 : Nat) (b9 : Nat) (b10 : Nat) (b11 : Nat) (b12 : Int32) (b13 : Nat) (b14 : Nat) (b15 : Nat → Int64) (b16 : Nat → Int32) (b17 : Int32) (b18 : Nat) (b19 : Nat) (b20 : Nat → Int64) (b21 : Nat → Int32) (b22 : Int32) (b23 : Int32) (b24 : Nat) (b25 : Nat) (b26 : Nat) (b27 : Nat) (b28 : Nat) (b29 : Nat) (b30 : Int32) (b31 : Nat) (b32 : Nat) (b33 : Nat) (b34 : Nat) (b35 : Nat) (b36 : Nat) (hb2 : zI b2 0 1) (hb3 : zI b3 (-2) 8) (hb12 : zI b12 0 400) (hb17 : zI b17 0 10) (hb22 : zI b22 0 1) (hb23 : zI b23 0 241) (hb30 : zI b30 0 240) (hb15 : zqa qB b15) (hb16 : zR b16 (-1) 399) (hb20 : zqa qB b20) (hb21 : zR b21 0 8) : zM l G y_Parting_begin prog_7_method_5_code 3 (Option.none : Option Jvm.ClassFile.FieldType) m_s2_Parting_begin [.ref b0, .ref b1, .ref b1] [(b0, .inr (8, [.int b2, .int b3, .ref b4, .int b5, .int b6, .ref b7, .ref b8, .ref b9, .ref b10, .ref b11])), (b7, .inr (6, [.int b12, .int 8, .int 400, .ref b13, .ref b14])), (b13, .inl (G.2 1, 3200, .inr (.inl b15))), (b14, .inl (G.2 0, 1024, .inl b16)), (b8, .inr (6, [.int b17, .int 8, .int 10, .ref b18, .ref b19])), (b18, .inl (G.2 1, 80, .inr (.inl b20))), (b11, .inl (G.2 0, 400, .inl b21)), (b1, .inr (5, [.int b22, .int b23, .ref b24, .ref b25, .ref b26, .ref b27, .ref b28, .ref b29, .int b30, .ref b31, .ref b32, .ref b33, .ref b34, .ref b35, .ref b36]))] (fun v w => ∃ (e0 : Int32), ∃ (e1 : Nat → Int64), ∃ (e2 : Nat → Int32), ∃ (e3 : Nat → Int64), ∃ (e4 : Nat → Int32), v = none ∧ w = [(b0, .inr (8, [.int b2, .int b3, .ref b4, .int b5, .int b6, .ref b7, .ref b8, .ref b9, .ref b10, .ref b11])), (b7, .inr (6, [.int e0, .int 8, .int 400, .ref b13, .ref b14])), (b13, .inl (G.2 1, 3200, .inr (.inl e1))), (b14, .inl (G.2 0, 1024, .inl e2)), (b8, .inr (6, [.int b17, .int 8, .int 10, .ref b18, .ref b19])), (b18, .inl (G.2 1, 80, .inr (.inl e3))), (b11, .inl (G.2 0, 400, .inl e4)), (b1, .inr (5, [.int b22, .int b23, .ref b24, .ref b25, .ref b26, .ref b27, .ref b28, .ref b29, .int b30, .ref b31, .ref b32, .ref b33, .ref b34, .ref b35, .ref b36]))] ∧ (zI e0 0 400) ∧ (zqa qB e1) ∧ (zR e2 (-1) 399) ∧ (zqa qB e3) ∧ (zR e4 0 8)) := by
  refine z_start (by decide +kernel) (Nat.le_of_ble_eq_true rfl) ?_
  intro p e s m below meth c A Z hr hnm hA hP hD hS ls hl
  have Z : zC p s m _ meth c prog_7_method_5_code 3 "TraceMachines$Parting" G := Z
  obtain ⟨hx, hb, hml, hown, hts, hK, hN, hlocks⟩ := id Z
  have hl : lv_has ls 3 [(0, .ref b0), (1, .ref b1), (2, .ref b1)] := hl
  refine lv_aload_n hx hb d_Parting_begin_0 rfl (lv_at hl 0 rfl) ?_
  refine va_get (D := G.1) (ci := 8) (v := .ref b8) (C := R_Parting) (T := F_Parting) (N := 10) hx hb hts i_Parting hown hK hP 0 rfl rfl 6 (by decide) (hts _ q308) (fun _ h9 => h9) rfl d_Parting_begin_1 ?_
  refine z_callV (index := 71) (As := []) (rest := []) (wr := [(b0, .inr (8, [.int b2, .int b3, .ref b4, .int b5, .int b6, .ref b7, .ref b8, .ref b9, .ref b10, .ref b11])), (b7, .inr (6, [.int b12, .int 8, .int 400, .ref b13, .ref b14])), (b13, .inl (G.2 1, 3200, .inr (.inl b15))), (b14, .inl (G.2 0, 1024, .inl b16)), (b11, .inl (G.2 0, 400, .inl b21)), (b1, .inr (5, [.int b22, .int b23, .ref b24, .ref b25, .ref b26, .ref b27, .ref b28, .ref b29, .int b30, .ref b31, .ref b32, .ref b33, .ref b34, .ref b35, .ref b36]))]) Z (s3_Sets_clear l G (b8) (b17) (b18) (b19) (b20) hb17 hb20) hl.1 q882 q705 q706 q7 q707 ⟨by decide, by decide, by show _ = some 0; decide +kernel⟩ ⟨Nat.le_of_ble_eq_true rfl, Nat.le_of_ble_eq_true rfl⟩ ⟨Nat.le_of_ble_eq_true rfl, Nat.le_of_ble_eq_true rfl⟩ rfl (Nat.le_of_ble_eq_true rfl) d_Parting_begin_4 hP hD hS hA 4 6 rfl rfl rfl [4, 5] [0, 1, 2, 3, 6, 7] rfl rfl rfl rfl (by decide) (fun v w1 H locs hw_1 hP hD hS => ?_)
  obtain ⟨f_2, rfl, rfl, hf_2⟩ := hw_1
  have hP : va_P G.1 classes [(b0, .inr (8, [.int b2, .int b3, .ref b4, .int b5, .int b6, .ref b7, .ref b8, .ref b9, .ref b10, .ref b11])), (b7, .inr (6, [.int b12, .int 8, .int 400, .ref b13, .ref b14])), (b13, .inl (G.2 1, 3200, .inr (.inl b15))), (b14, .inl (G.2 0, 1024, .inl b16)), (b11, .inl (G.2 0, 400, .inl b21)), (b1, .inr (5, [.int b22, .int b23, .ref b24, .ref b25, .ref b26, .ref b27, .ref b28, .ref b29, .int b30, .ref b31, .ref b32, .ref b33, .ref b34, .ref b35, .ref b36])), (b8, .inr (6, [.int b17, .int 8, .int 10, .ref b18, .ref b19])), (b18, .inl (G.2 1, 80, .inr (.inl f_2)))] H := hP
  have hD := z_tie hP hD rfl
  refine W.widen (k := 0) (n := 0) (Nat.le_of_ble_eq_true rfl) (Nat.le_of_ble_eq_true rfl) ?_
  refine lv_aload_n hx hb d_Parting_begin_7 rfl (lv_at hl 1 rfl) ?_
  refine va_get (D := G.1) (ci := 5) (v := .int b23) (C := R_Machine) (T := F_Machine) (N := 15) hx hb hts i_Machine hown hK hP 5 rfl rfl 1 (by decide) (hts _ q167) (fun _ h9 => h9) rfl d_Parting_begin_8 ?_
  refine lv_if_le (tgt := 24) hx hb d_Parting_begin_11 (by decide) (fun hc_3 => ?_) (fun hc_3 => ?_)
  · have _nhc_3 := hc_3
    have ni_4 := (fa_le _ _).mp hc_3
    rw [li_0] at ni_4
    have hv_5 : zI b23 0 0 := zI.le_l hb23 zc_0 hc_3 (by decide)
    refine lv_aload_n hx hb d_Parting_begin_24 rfl (lv_at hl 2 rfl) ?_
    refine va_get (D := G.1) (ci := 5) (v := .int b23) (C := R_Machine) (T := F_Machine) (N := 15) hx hb hts i_Machine hown hK hP 5 rfl rfl 1 (by decide) (hts _ q167) (fun _ h9 => h9) rfl d_Parting_begin_25 ?_
    refine lv_if_le (tgt := 41) hx hb d_Parting_begin_28 (by decide) (fun _ => ?_) (fun hc => zI.no_lt zc_0 hv_5 (zi_nle hc) (by decide))
    refine lv_aload_n hx hb d_Parting_begin_41 rfl (lv_at hl 0 rfl) ?_
    refine va_get (D := G.1) (ci := 8) (v := .ref b7) (C := R_Parting) (T := F_Parting) (N := 10) hx hb hts i_Parting hown hK hP 0 rfl rfl 5 (by decide) (hts _ q307) (fun _ h9 => h9) rfl d_Parting_begin_42 ?_
    refine z_callV (index := 81) (As := []) (rest := []) (wr := [(b0, .inr (8, [.int b2, .int b3, .ref b4, .int b5, .int b6, .ref b7, .ref b8, .ref b9, .ref b10, .ref b11])), (b13, .inl (G.2 1, 3200, .inr (.inl b15))), (b11, .inl (G.2 0, 400, .inl b21)), (b1, .inr (5, [.int b22, .int b23, .ref b24, .ref b25, .ref b26, .ref b27, .ref b28, .ref b29, .int b30, .ref b31, .ref b32, .ref b33, .ref b34, .ref b35, .ref b36])), (b8, .inr (6, [.int b17, .int 8, .int 10, .ref b18, .ref b19])), (b18, .inl (G.2 1, 80, .inr (.inl f_2)))]) Z (s3_Sets_forget l G (b7) (b12) (b13) (b14) (b16) hb12 hb16) hl.1 q884 q826 q827 q7 q828 ⟨by decide, by decide, by show _ = some 0; decide +kernel⟩ ⟨Nat.le_of_ble_eq_true rfl, Nat.le_of_ble_eq_true rfl⟩ ⟨Nat.le_of_ble_eq_true rfl, Nat.le_of_ble_eq_true rfl⟩ rfl (Nat.le_of_ble_eq_true rfl) d_Parting_begin_45 hP hD hS hA 1 6 rfl rfl rfl [1, 3] [0, 2, 4, 5, 6, 7] rfl rfl rfl rfl (by decide) (fun v w1 H locs hw_6 hP hD hS => ?_)
    obtain ⟨f_7, rfl, rfl, hf_7⟩ := hw_6
    have hP : va_P G.1 classes [(b0, .inr (8, [.int b2, .int b3, .ref b4, .int b5, .int b6, .ref b7, .ref b8, .ref b9, .ref b10, .ref b11])), (b13, .inl (G.2 1, 3200, .inr (.inl b15))), (b11, .inl (G.2 0, 400, .inl b21)), (b1, .inr (5, [.int b22, .int b23, .ref b24, .ref b25, .ref b26, .ref b27, .ref b28, .ref b29, .int b30, .ref b31, .ref b32, .ref b33, .ref b34, .ref b35, .ref b36])), (b8, .inr (6, [.int b17, .int 8, .int 10, .ref b18, .ref b19])), (b18, .inl (G.2 1, 80, .inr (.inl f_2))), (b7, .inr (6, [.int 0, .int 8, .int 400, .ref b13, .ref b14])), (b14, .inl (G.2 0, 1024, .inl f_7))] H := hP
    have hD := z_tie hP hD rfl
    refine W.widen (k := 0) (n := 0) (Nat.le_of_ble_eq_true rfl) (Nat.le_of_ble_eq_true rfl) ?_
    refine lv_aload_n hx hb d_Parting_begin_48 rfl (lv_at hl 0 rfl) ?_
    refine va_get (D := G.1) (ci := 8) (v := .ref b7) (C := R_Parting) (T := F_Parting) (N := 10) hx hb hts i_Parting hown hK hP 0 rfl rfl 5 (by decide) (hts _ q307) (fun _ h9 => h9) rfl d_Parting_begin_49 ?_
    refine lv_aload_n hx hb d_Parting_begin_52 rfl (lv_at hl 0 rfl) ?_
    refine va_get (D := G.1) (ci := 8) (v := .ref b8) (C := R_Parting) (T := F_Parting) (N := 10) hx hb hts i_Parting hown hK hP 0 rfl rfl 6 (by decide) (hts _ q308) (fun _ h9 => h9) rfl d_Parting_begin_53 ?_
    refine lv_iconst (v := 0) hx hb d_Parting_begin_56 (by decide) ?_
    refine z_callV (index := 84) (As := [.ref b8, .int 0]) (rest := []) (wr := [(b0, .inr (8, [.int b2, .int b3, .ref b4, .int b5, .int b6, .ref b7, .ref b8, .ref b9, .ref b10, .ref b11])), (b11, .inl (G.2 0, 400, .inl b21)), (b1, .inr (5, [.int b22, .int b23, .ref b24, .ref b25, .ref b26, .ref b27, .ref b28, .ref b29, .int b30, .ref b31, .ref b32, .ref b33, .ref b34, .ref b35, .ref b36]))]) Z (s2_Sets_indexOf l G (b7) (b8) (0) (0) (b13) (b14) (b15) (f_7) (b17) (b18) (b19) (f_2) (zI.wk (l' := 0) (h' := 9) zc_0 (by decide)) (zI.wk (l' := 0) (h' := 400) zc_0 (by decide)) hb17 hb15 hf_7 hf_2) hl.1 q885 q831 q832 q7 q833 ⟨by decide, by decide, by show _ = some 2; decide +kernel⟩ ⟨Nat.le_of_ble_eq_true rfl, Nat.le_of_ble_eq_true rfl⟩ ⟨Nat.le_of_ble_eq_true rfl, Nat.le_of_ble_eq_true rfl⟩ rfl (Nat.le_of_ble_eq_true rfl) d_Parting_begin_57 hP hD hS hA 6 6 rfl rfl rfl [6, 1, 7, 4, 5] [0, 2, 3] rfl rfl rfl rfl (by decide) (fun v w1 H locs hw_8 hP hD hS => ?_)
    obtain ⟨x_9, x_10, f_11, f_12, rfl, rfl, hx_9, hx_10, hf_11, hf_12, hfx_13⟩ := hw_8
    have hP : va_P G.1 classes [(b0, .inr (8, [.int b2, .int b3, .ref b4, .int b5, .int b6, .ref b7, .ref b8, .ref b9, .ref b10, .ref b11])), (b11, .inl (G.2 0, 400, .inl b21)), (b1, .inr (5, [.int b22, .int b23, .ref b24, .ref b25, .ref b26, .ref b27, .ref b28, .ref b29, .int b30, .ref b31, .ref b32, .ref b33, .ref b34, .ref b35, .ref b36])), (b7, .inr (6, [.int x_10, .int 8, .int 400, .ref b13, .ref b14])), (b13, .inl (G.2 1, 3200, .inr (.inl f_11))), (b14, .inl (G.2 0, 1024, .inl f_12)), (b8, .inr (6, [.int b17, .int 8, .int 10, .ref b18, .ref b19])), (b18, .inl (G.2 1, 80, .inr (.inl f_2)))] H := hP
    have hD := z_tie hP hD rfl
    refine W.widen (k := 0) (n := 0) (Nat.le_of_ble_eq_true rfl) (Nat.le_of_ble_eq_true rfl) ?_
    refine lv_pop hx hb d_Parting_begin_60 rfl ?_
    refine lv_aload_n hx hb d_Parting_begin_61 rfl (lv_at hl 0 rfl) ?_
    refine va_get (D := G.1) (ci := 8) (v := .ref b11) (C := R_Parting) (T := F_Parting) (N := 10) hx hb hts i_Parting hown hK hP 0 rfl rfl 9 (by decide) (hts _ q311) (fun _ h9 => h9) rfl d_Parting_begin_62 ?_
    refine lv_iconst (v := 0) hx hb d_Parting_begin_65 (by decide) ?_
    refine lv_iconst (v := 0) hx hb d_Parting_begin_66 (by decide) ?_
    refine va_iast hx hb hK hP hD hS 1 0 rfl rfl (i := 0) (z_in rfl) d_Parting_begin_67 (fun H locs hP hD hS => ?_)
    obtain ⟨f_14, hf_14, gf_14, uf_14, hP, hD⟩ := z_newfu 1 hP hD rfl hb21 (zI.wk (l' := 0) (h' := 8) zc_0 (by decide))
    have hP : va_P G.1 classes [(b0, .inr (8, [.int b2, .int b3, .ref b4, .int b5, .int b6, .ref b7, .ref b8, .ref b9, .ref b10, .ref b11])), (b11, .inl (G.2 0, 400, .inl f_14)), (b1, .inr (5, [.int b22, .int b23, .ref b24, .ref b25, .ref b26, .ref b27, .ref b28, .ref b29, .int b30, .ref b31, .ref b32, .ref b33, .ref b34, .ref b35, .ref b36])), (b7, .inr (6, [.int x_10, .int 8, .int 400, .ref b13, .ref b14])), (b13, .inl (G.2 1, 3200, .inr (.inl f_11))), (b14, .inl (G.2 0, 1024, .inl f_12)), (b8, .inr (6, [.int b17, .int 8, .int 10, .ref b18, .ref b19])), (b18, .inl (G.2 1, 80, .inr (.inl f_2)))] H := hP
    have hD := z_tie hP hD rfl
    exact z_vret hx hb hr hlocks (hP.sub [0, 3, 4, 5, 6, 7, 1, 2] rfl) (hD.sub [0, 3, 4, 5, 6, 7, 1, 2] (by decide) rfl) hS (Nat.le_of_ble_eq_true rfl) (Nat.le_of_ble_eq_true rfl) d_Parting_begin_68 ⟨x_10, f_11, f_12, f_2, f_14, rfl, rfl, hx_10, hf_11, hf_12, hf_2, hf_14⟩
  · have _nhc_3 := hc_3
    have ni_15 := (fa_lt _ _).mp (zi_nle hc_3)
    rw [li_0] at ni_15
    have hv_16 : zI b23 1 241 := zI.lt_r zc_0 hb23 (zi_nle hc_3) (by decide)
    refine lv_aload_n hx hb d_Parting_begin_14 rfl (lv_at hl 0 rfl) ?_
    refine va_get (D := G.1) (ci := 8) (v := .ref b8) (C := R_Parting) (T := F_Parting) (N := 10) hx hb hts i_Parting hown hK hP 0 rfl rfl 6 (by decide) (hts _ q308) (fun _ h9 => h9) rfl d_Parting_begin_15 ?_
    refine lv_iconst (v := 0) hx hb d_Parting_begin_18 (by decide) ?_
    refine lv_iconst (v := 0) hx hb d_Parting_begin_19 (by decide) ?_
    refine lv_iconst (v := 0) hx hb d_Parting_begin_20 (by decide) ?_
    refine z_callV (index := 77) (As := [.int 0, .int 0, .int 0]) (rest := []) (wr := [(b0, .inr (8, [.int b2, .int b3, .ref b4, .int b5, .int b6, .ref b7, .ref b8, .ref b9, .ref b10, .ref b11])), (b7, .inr (6, [.int b12, .int 8, .int 400, .ref b13, .ref b14])), (b13, .inl (G.2 1, 3200, .inr (.inl b15))), (b14, .inl (G.2 0, 1024, .inl b16)), (b11, .inl (G.2 0, 400, .inl b21)), (b1, .inr (5, [.int b22, .int b23, .ref b24, .ref b25, .ref b26, .ref b27, .ref b28, .ref b29, .int b30, .ref b31, .ref b32, .ref b33, .ref b34, .ref b35, .ref b36]))]) Z (s3_Sets_put l G (b8) (0) (0) (0) (b17) (b18) (b19) (f_2) (zI.wk (l' := 0) (h' := 9) zc_0 (by decide)) (zI.wk (l' := 0) (h' := 1) zc_0 (by decide)) (zI.wk (l' := 0) (h' := 240) zc_0 (by decide)) hb17 hf_2) hl.1 q883 q710 q711 q7 q712 ⟨by decide, by decide, by show _ = some 3; decide +kernel⟩ ⟨Nat.le_of_ble_eq_true rfl, Nat.le_of_ble_eq_true rfl⟩ ⟨Nat.le_of_ble_eq_true rfl, Nat.le_of_ble_eq_true rfl⟩ rfl (Nat.le_of_ble_eq_true rfl) d_Parting_begin_21 hP hD hS hA 6 6 rfl rfl rfl [6, 7] [0, 1, 2, 3, 4, 5] rfl rfl rfl rfl (by decide) (fun v w1 H locs hw_17 hP hD hS => ?_)
    obtain ⟨f_18, rfl, rfl, hf_18⟩ := hw_17
    have hP : va_P G.1 classes [(b0, .inr (8, [.int b2, .int b3, .ref b4, .int b5, .int b6, .ref b7, .ref b8, .ref b9, .ref b10, .ref b11])), (b7, .inr (6, [.int b12, .int 8, .int 400, .ref b13, .ref b14])), (b13, .inl (G.2 1, 3200, .inr (.inl b15))), (b14, .inl (G.2 0, 1024, .inl b16)), (b11, .inl (G.2 0, 400, .inl b21)), (b1, .inr (5, [.int b22, .int b23, .ref b24, .ref b25, .ref b26, .ref b27, .ref b28, .ref b29, .int b30, .ref b31, .ref b32, .ref b33, .ref b34, .ref b35, .ref b36])), (b8, .inr (6, [.int b17, .int 8, .int 10, .ref b18, .ref b19])), (b18, .inl (G.2 1, 80, .inr (.inl f_18)))] H := hP
    have hD := z_tie hP hD rfl
    refine W.widen (k := 0) (n := 0) (Nat.le_of_ble_eq_true rfl) (Nat.le_of_ble_eq_true rfl) ?_
    refine lv_aload_n hx hb d_Parting_begin_24 rfl (lv_at hl 2 rfl) ?_
    refine va_get (D := G.1) (ci := 5) (v := .int b23) (C := R_Machine) (T := F_Machine) (N := 15) hx hb hts i_Machine hown hK hP 5 rfl rfl 1 (by decide) (hts _ q167) (fun _ h9 => h9) rfl d_Parting_begin_25 ?_
    refine lv_if_le (tgt := 41) hx hb d_Parting_begin_28 (by decide) (fun hc => zI.no_le hv_16 zc_0 hc (by decide)) (fun _ => ?_)
    refine lv_aload_n hx hb d_Parting_begin_31 rfl (lv_at hl 0 rfl) ?_
    refine va_get (D := G.1) (ci := 8) (v := .ref b8) (C := R_Parting) (T := F_Parting) (N := 10) hx hb hts i_Parting hown hK hP 0 rfl rfl 6 (by decide) (hts _ q308) (fun _ h9 => h9) rfl d_Parting_begin_32 ?_
    refine lv_iconst (v := 0) hx hb d_Parting_begin_35 (by decide) ?_
    refine lv_iconst (v := 1) hx hb d_Parting_begin_36 (by decide) ?_
    refine lv_iconst (v := 0) hx hb d_Parting_begin_37 (by decide) ?_
    refine z_callV (index := 77) (As := [.int 0, .int 1, .int 0]) (rest := []) (wr := [(b0, .inr (8, [.int b2, .int b3, .ref b4, .int b5, .int b6, .ref b7, .ref b8, .ref b9, .ref b10, .ref b11])), (b7, .inr (6, [.int b12, .int 8, .int 400, .ref b13, .ref b14])), (b13, .inl (G.2 1, 3200, .inr (.inl b15))), (b14, .inl (G.2 0, 1024, .inl b16)), (b11, .inl (G.2 0, 400, .inl b21)), (b1, .inr (5, [.int b22, .int b23, .ref b24, .ref b25, .ref b26, .ref b27, .ref b28, .ref b29, .int b30, .ref b31, .ref b32, .ref b33, .ref b34, .ref b35, .ref b36]))]) Z (s3_Sets_put l G (b8) (0) (1) (0) (b17) (b18) (b19) (f_18) (zI.wk (l' := 0) (h' := 9) zc_0 (by decide)) (zI.wk (l' := 0) (h' := 1) zc_1 (by decide)) (zI.wk (l' := 0) (h' := 240) zc_0 (by decide)) hb17 hf_18) hl.1 q883 q710 q711 q7 q712 ⟨by decide, by decide, by show _ = some 3; decide +kernel⟩ ⟨Nat.le_of_ble_eq_true rfl, Nat.le_of_ble_eq_true rfl⟩ ⟨Nat.le_of_ble_eq_true rfl, Nat.le_of_ble_eq_true rfl⟩ rfl (Nat.le_of_ble_eq_true rfl) d_Parting_begin_38 hP hD hS hA 6 6 rfl rfl rfl [6, 7] [0, 1, 2, 3, 4, 5] rfl rfl rfl rfl (by decide) (fun v w1 H locs hw_19 hP hD hS => ?_)
    obtain ⟨f_20, rfl, rfl, hf_20⟩ := hw_19
    have hP : va_P G.1 classes [(b0, .inr (8, [.int b2, .int b3, .ref b4, .int b5, .int b6, .ref b7, .ref b8, .ref b9, .ref b10, .ref b11])), (b7, .inr (6, [.int b12, .int 8, .int 400, .ref b13, .ref b14])), (b13, .inl (G.2 1, 3200, .inr (.inl b15))), (b14, .inl (G.2 0, 1024, .inl b16)), (b11, .inl (G.2 0, 400, .inl b21)), (b1, .inr (5, [.int b22, .int b23, .ref b24, .ref b25, .ref b26, .ref b27, .ref b28, .ref b29, .int b30, .ref b31, .ref b32, .ref b33, .ref b34, .ref b35, .ref b36])), (b8, .inr (6, [.int b17, .int 8, .int 10, .ref b18, .ref b19])), (b18, .inl (G.2 1, 80, .inr (.inl f_20)))] H := hP
    have hD := z_tie hP hD rfl
    refine W.widen (k := 0) (n := 0) (Nat.le_of_ble_eq_true rfl) (Nat.le_of_ble_eq_true rfl) ?_
    refine lv_aload_n hx hb d_Parting_begin_41 rfl (lv_at hl 0 rfl) ?_
    refine va_get (D := G.1) (ci := 8) (v := .ref b7) (C := R_Parting) (T := F_Parting) (N := 10) hx hb hts i_Parting hown hK hP 0 rfl rfl 5 (by decide) (hts _ q307) (fun _ h9 => h9) rfl d_Parting_begin_42 ?_
    refine z_callV (index := 81) (As := []) (rest := []) (wr := [(b0, .inr (8, [.int b2, .int b3, .ref b4, .int b5, .int b6, .ref b7, .ref b8, .ref b9, .ref b10, .ref b11])), (b13, .inl (G.2 1, 3200, .inr (.inl b15))), (b11, .inl (G.2 0, 400, .inl b21)), (b1, .inr (5, [.int b22, .int b23, .ref b24, .ref b25, .ref b26, .ref b27, .ref b28, .ref b29, .int b30, .ref b31, .ref b32, .ref b33, .ref b34, .ref b35, .ref b36])), (b8, .inr (6, [.int b17, .int 8, .int 10, .ref b18, .ref b19])), (b18, .inl (G.2 1, 80, .inr (.inl f_20)))]) Z (s3_Sets_forget l G (b7) (b12) (b13) (b14) (b16) hb12 hb16) hl.1 q884 q826 q827 q7 q828 ⟨by decide, by decide, by show _ = some 0; decide +kernel⟩ ⟨Nat.le_of_ble_eq_true rfl, Nat.le_of_ble_eq_true rfl⟩ ⟨Nat.le_of_ble_eq_true rfl, Nat.le_of_ble_eq_true rfl⟩ rfl (Nat.le_of_ble_eq_true rfl) d_Parting_begin_45 hP hD hS hA 1 6 rfl rfl rfl [1, 3] [0, 2, 4, 5, 6, 7] rfl rfl rfl rfl (by decide) (fun v w1 H locs hw_21 hP hD hS => ?_)
    obtain ⟨f_22, rfl, rfl, hf_22⟩ := hw_21
    have hP : va_P G.1 classes [(b0, .inr (8, [.int b2, .int b3, .ref b4, .int b5, .int b6, .ref b7, .ref b8, .ref b9, .ref b10, .ref b11])), (b13, .inl (G.2 1, 3200, .inr (.inl b15))), (b11, .inl (G.2 0, 400, .inl b21)), (b1, .inr (5, [.int b22, .int b23, .ref b24, .ref b25, .ref b26, .ref b27, .ref b28, .ref b29, .int b30, .ref b31, .ref b32, .ref b33, .ref b34, .ref b35, .ref b36])), (b8, .inr (6, [.int b17, .int 8, .int 10, .ref b18, .ref b19])), (b18, .inl (G.2 1, 80, .inr (.inl f_20))), (b7, .inr (6, [.int 0, .int 8, .int 400, .ref b13, .ref b14])), (b14, .inl (G.2 0, 1024, .inl f_22))] H := hP
    have hD := z_tie hP hD rfl
    refine W.widen (k := 0) (n := 0) (Nat.le_of_ble_eq_true rfl) (Nat.le_of_ble_eq_true rfl) ?_
    refine lv_aload_n hx hb d_Parting_begin_48 rfl (lv_at hl 0 rfl) ?_
    refine va_get (D := G.1) (ci := 8) (v := .ref b7) (C := R_Parting) (T := F_Parting) (N := 10) hx hb hts i_Parting hown hK hP 0 rfl rfl 5 (by decide) (hts _ q307) (fun _ h9 => h9) rfl d_Parting_begin_49 ?_
    refine lv_aload_n hx hb d_Parting_begin_52 rfl (lv_at hl 0 rfl) ?_
    refine va_get (D := G.1) (ci := 8) (v := .ref b8) (C := R_Parting) (T := F_Parting) (N := 10) hx hb hts i_Parting hown hK hP 0 rfl rfl 6 (by decide) (hts _ q308) (fun _ h9 => h9) rfl d_Parting_begin_53 ?_
    refine lv_iconst (v := 0) hx hb d_Parting_begin_56 (by decide) ?_
    refine z_callV (index := 84) (As := [.ref b8, .int 0]) (rest := []) (wr := [(b0, .inr (8, [.int b2, .int b3, .ref b4, .int b5, .int b6, .ref b7, .ref b8, .ref b9, .ref b10, .ref b11])), (b11, .inl (G.2 0, 400, .inl b21)), (b1, .inr (5, [.int b22, .int b23, .ref b24, .ref b25, .ref b26, .ref b27, .ref b28, .ref b29, .int b30, .ref b31, .ref b32, .ref b33, .ref b34, .ref b35, .ref b36]))]) Z (s2_Sets_indexOf l G (b7) (b8) (0) (0) (b13) (b14) (b15) (f_22) (b17) (b18) (b19) (f_20) (zI.wk (l' := 0) (h' := 9) zc_0 (by decide)) (zI.wk (l' := 0) (h' := 400) zc_0 (by decide)) hb17 hb15 hf_22 hf_20) hl.1 q885 q831 q832 q7 q833 ⟨by decide, by decide, by show _ = some 2; decide +kernel⟩ ⟨Nat.le_of_ble_eq_true rfl, Nat.le_of_ble_eq_true rfl⟩ ⟨Nat.le_of_ble_eq_true rfl, Nat.le_of_ble_eq_true rfl⟩ rfl (Nat.le_of_ble_eq_true rfl) d_Parting_begin_57 hP hD hS hA 6 6 rfl rfl rfl [6, 1, 7, 4, 5] [0, 2, 3] rfl rfl rfl rfl (by decide) (fun v w1 H locs hw_23 hP hD hS => ?_)
    obtain ⟨x_24, x_25, f_26, f_27, rfl, rfl, hx_24, hx_25, hf_26, hf_27, hfx_28⟩ := hw_23
    have hP : va_P G.1 classes [(b0, .inr (8, [.int b2, .int b3, .ref b4, .int b5, .int b6, .ref b7, .ref b8, .ref b9, .ref b10, .ref b11])), (b11, .inl (G.2 0, 400, .inl b21)), (b1, .inr (5, [.int b22, .int b23, .ref b24, .ref b25, .ref b26, .ref b27, .ref b28, .ref b29, .int b30, .ref b31, .ref b32, .ref b33, .ref b34, .ref b35, .ref b36])), (b7, .inr (6, [.int x_25, .int 8, .int 400, .ref b13, .ref b14])), (b13, .inl (G.2 1, 3200, .inr (.inl f_26))), (b14, .inl (G.2 0, 1024, .inl f_27)), (b8, .inr (6, [.int b17, .int 8, .int 10, .ref b18, .ref b19])), (b18, .inl (G.2 1, 80, .inr (.inl f_20)))] H := hP
    have hD := z_tie hP hD rfl
    refine W.widen (k := 0) (n := 0) (Nat.le_of_ble_eq_true rfl) (Nat.le_of_ble_eq_true rfl) ?_
    refine lv_pop hx hb d_Parting_begin_60 rfl ?_
    refine lv_aload_n hx hb d_Parting_begin_61 rfl (lv_at hl 0 rfl) ?_
    refine va_get (D := G.1) (ci := 8) (v := .ref b11) (C := R_Parting) (T := F_Parting) (N := 10) hx hb hts i_Parting hown hK hP 0 rfl rfl 9 (by decide) (hts _ q311) (fun _ h9 => h9) rfl d_Parting_begin_62 ?_
    refine lv_iconst (v := 0) hx hb d_Parting_begin_65 (by decide) ?_
    refine lv_iconst (v := 0) hx hb d_Parting_begin_66 (by decide) ?_
    refine va_iast hx hb hK hP hD hS 1 0 rfl rfl (i := 0) (z_in rfl) d_Parting_begin_67 (fun H locs hP hD hS => ?_)
    obtain ⟨f_29, hf_29, gf_29, uf_29, hP, hD⟩ := z_newfu 1 hP hD rfl hb21 (zI.wk (l' := 0) (h' := 8) zc_0 (by decide))
    have hP : va_P G.1 classes [(b0, .inr (8, [.int b2, .int b3, .ref b4, .int b5, .int b6, .ref b7, .ref b8, .ref b9, .ref b10, .ref b11])), (b11, .inl (G.2 0, 400, .inl f_29)), (b1, .inr (5, [.int b22, .int b23, .ref b24, .ref b25, .ref b26, .ref b27, .ref b28, .ref b29, .int b30, .ref b31, .ref b32, .ref b33, .ref b34, .ref b35, .ref b36])), (b7, .inr (6, [.int x_25, .int 8, .int 400, .ref b13, .ref b14])), (b13, .inl (G.2 1, 3200, .inr (.inl f_26))), (b14, .inl (G.2 0, 1024, .inl f_27)), (b8, .inr (6, [.int b17, .int 8, .int 10, .ref b18, .ref b19])), (b18, .inl (G.2 1, 80, .inr (.inl f_20)))] H := hP
    have hD := z_tie hP hD rfl
    exact z_vret hx hb hr hlocks (hP.sub [0, 3, 4, 5, 6, 7, 1, 2] rfl) (hD.sub [0, 3, 4, 5, 6, 7, 1, 2] (by decide) rfl) hS (Nat.le_of_ble_eq_true rfl) (Nat.le_of_ble_eq_true rfl) d_Parting_begin_68 ⟨x_25, f_26, f_27, f_20, f_29, rfl, rfl, hx_25, hf_26, hf_27, hf_20, hf_29⟩
theorem d_Parting_find_94 : decode prog_7_method_4_code 94 = .ok (.return_, 1) := by decide +kernel
abbrev m_s3_Sets_longAt : Room := { frames := 0, cells := 0, slots := 0, locals := 0 }
set_option maxHeartbeats 4000000 in
set_option maxRecDepth 100000 in
theorem s3_Sets_longAt (l : Launch) (G : zG) (b0 : Nat) (b1 : Int32) (b2 : Int32) (b3 : Int32) (b4 : Int32) (b5 : Nat) (b6 : Nat) (b7 : Nat → Int64) (hb1 : zI b1 0 399) (hb2 : zI b2 0 1) (hb3 : zI b3 0 3) (hb4 : zI b4 0 400) (hb7 : zqa qB b7) : zM l G y_Sets_longAt prog_8_method_5_code 4 (Option.some Jvm.ClassFile.FieldType.long) m_s3_Sets_longAt [.ref b0, .int b1, .int b2, .int b3] [(b0, .inr (6, [.int b4, .int 8, .int 400, .ref b5, .ref b6])), (b5, .inl (G.2 1, 3200, .inr (.inl b7)))] (fun v w => ∃ (e0 : Int64), v = some (.long e0) ∧ w = [(b0, .inr (6, [.int b4, .int 8, .int 400, .ref b5, .ref b6])), (b5, .inl (G.2 1, 3200, .inr (.inl b7)))] ∧ ((b3 : Int32).toInt = 3 → (e0 : Int64).toBitVec.toNat < 2 ^ 49)) := by
  refine z_start (by decide +kernel) (Nat.le_of_ble_eq_true rfl) ?_
  intro p e s m below meth c A Z hr hnm hA hP hD hS ls hl
  have Z : zC p s m _ meth c prog_8_method_5_code 4 "TraceMachines$StateSets" G := Z
  obtain ⟨hx, hb, hml, hown, hts, hK, hN, hlocks⟩ := id Z
  have hl : lv_has ls 4 [(0, .ref b0), (1, .int b1), (2, .int b2), (3, .int b3)] := hl
  refine lv_aload_n hx hb d_Sets_longAt_0 rfl (lv_at hl 0 rfl) ?_
  refine va_get (D := G.1) (ci := 6) (v := .ref b5) (C := R_Sets) (T := F_Sets) (N := 5) hx hb hts i_Sets hown hK hP 0 rfl rfl 3 (by decide) (hts _ q244) (fun _ h9 => h9) rfl d_Sets_longAt_1 ?_
  refine lv_iload_n hx hb d_Sets_longAt_4 rfl (lv_at hl 1 rfl) ?_
  refine lv_aload_n hx hb d_Sets_longAt_5 rfl (lv_at hl 0 rfl) ?_
  refine va_get (D := G.1) (ci := 6) (v := .int 8) (C := R_Sets) (T := F_Sets) (N := 5) hx hb hts i_Sets hown hK hP 0 rfl rfl 1 (by decide) (hts _ q242) (fun _ h9 => h9) rfl d_Sets_longAt_6 ?_
  refine lv_imul hx hb d_Sets_longAt_9 ?_
  refine lv_topi (fun v_1 ev_1 => ?_)
  obtain ⟨qv_1, hv_1⟩ := zI_mul (l := 0) (h := 3192) hb1 zc_8 ev_1 (by decide)
  rw [li_8] at qv_1
  refine lv_iload_n hx hb d_Sets_longAt_10 rfl (lv_at hl 2 rfl) ?_
  refine lv_iconst (v := 4) hx hb d_Sets_longAt_11 (by decide) ?_
  refine lv_imul hx hb d_Sets_longAt_12 ?_
  refine lv_topi (fun v_2 ev_2 => ?_)
  obtain ⟨qv_2, hv_2⟩ := zI_mul (l := 0) (h := 4) hb2 zc_4 ev_2 (by decide)
  rw [li_4] at qv_2
  refine lv_iadd hx hb d_Sets_longAt_13 ?_
  refine lv_topi (fun v_3 ev_3 => ?_)
  obtain ⟨qv_3, hv_3⟩ := zI_add (l := 0) (h := 3196) hv_1 hv_2 ev_3 (by decide)
  refine lv_iload_n hx hb d_Sets_longAt_14 rfl (lv_at hl 3 rfl) ?_
  refine lv_iadd hx hb d_Sets_longAt_15 ?_
  refine lv_topi (fun v_4 ev_4 => ?_)
  obtain ⟨qv_4, hv_4⟩ := zI_add (l := 0) (h := 3199) hv_3 hb3 ev_4 (by decide)
  refine va_lald hx hb hK hP 1 1 rfl rfl (zI.inn hv_4 (by decide)) d_Sets_longAt_16 ?_
  refine lv_topl (fun v_5 ev_5 => ?_)
  have bv_5 := zQB.ld hb7 hv_4 ev_5 (by decide)
  exact z_lret hx hb hr hlocks hP hD hS (Nat.le_of_ble_eq_true rfl) (Nat.le_of_ble_eq_true rfl) d_Sets_longAt_17 ⟨v_5, rfl, rfl, (fun h9 => bv_5 (by omega))⟩
abbrev m_s3_Machine_takes : Room := { frames := 1, cells := 0, slots := 0, locals := 23 }
set_option maxHeartbeats 4000000 in
set_option maxRecDepth 100000 in
theorem s3_Machine_takes (l : Launch) (G : zG) (b0 : Nat) (b1 : Nat) (b2 : Int32) (b3 : Int32) (b4 : Int32) (b5 : Int32) (b6 : Nat) (b7 : Nat) (b8 : Nat) (b9 : Nat) (b10 : Nat) (b11 : Nat) (b12 : Int32) (b13 : Nat) (b14 : Nat) (b15 : Nat) (b16 : Nat) (b17 : Nat) (b18 : Nat) (b19 : Nat → Int64) (b20 : Int32) (b21 : Nat) (b22 : Nat) (b23 : Nat → Int64) (hb2 : zI b2 0 399) (hb3 : zI b3 0 1) (hb4 : zI b4 0 1) (hb5 : zI b5 0 241) (hb12 : zI b12 0 240) (hb20 : zI b20 0 400) (hb23 : zqa qB b23) : zM l G y_Machine_takes prog_4_method_18_code 5 (Option.some Jvm.ClassFile.FieldType.boolean) m_s3_Machine_takes [.ref b0, .ref b1, .int b2, .int b3] [(b0, .inr (5, [.int b4, .int b5, .ref b6, .ref b7, .ref b8, .ref b9, .ref b10, .ref b11, .int b12, .ref b13, .ref b14, .ref b15, .ref b16, .ref b17, .ref b18])), (b11, .inl (G.2 1, 4, .inr (.inl b19))), (b1, .inr (6, [.int b20, .int 8, .int 400, .ref b21, .ref b22])), (b21, .inl (G.2 1, 3200, .inr (.inl b23)))] (fun v w => ∃ (e0 : Int32), v = some (.int e0) ∧ w = [(b0, .inr (5, [.int b4, .int b5, .ref b6, .ref b7, .ref b8, .ref b9, .ref b10, .ref b11, .int b12, .ref b13, .ref b14, .ref b15, .ref b16, .ref b17, .ref b18])), (b11, .inl (G.2 1, 4, .inr (.inl b19))), (b1, .inr (6, [.int b20, .int 8, .int 400, .ref b21, .ref b22])), (b21, .inl (G.2 1, 3200, .inr (.inl b23)))] ∧ (zI e0 0 1)) := by
  refine z_start (by decide +kernel) (Nat.le_of_ble_eq_true rfl) ?_
  intro p e s m below meth c A Z hr hnm hA hP hD hS ls hl
  have Z : zC p s m _ meth c prog_4_method_18_code 5 "TraceMachines$Machine" G := Z
  obtain ⟨hx, hb, hml, hown, hts, hK, hN, hlocks⟩ := id Z
  have hl : lv_has ls 5 [(0, .ref b0), (1, .ref b1), (2, .int b2), (3, .int b3)] := hl
  refine lv_iconst (v := 0) hx hb d_Machine_takes_0 (by decide) ?_
  refine lv_istore (lv' := [(4, .int 0), (0, .ref b0), (1, .ref b1), (2, .int b2), (3, .int b3)]) hx hb d_Machine_takes_1 hl (by decide) rfl (fun ls hl => ?_)
  suffices key : ∀ (k_18 : Nat) (y_19 : Int32) (H : Heap) (locs : List Loc) (ls : Array Slot), (zI y_19 0 4) → (4 : Int) - y_19.toInt < (k_18 : Int) → va_P G.1 classes [(b0, .inr (5, [.int b4, .int b5, .ref b6, .ref b7, .ref b8, .ref b9, .ref b10, .ref b11, .int b12, .ref b13, .ref b14, .ref b15, .ref b16, .ref b17, .ref b18])), (b11, .inl (G.2 1, 4, .inr (.inl b19))), (b1, .inr (6, [.int b20, .int 8, .int 400, .ref b21, .ref b22])), (b21, .inl (G.2 1, 3200, .inr (.inl b23)))] H → va_D A [(b0, .inr (5, [.int b4, .int b5, .ref b6, .ref b7, .ref b8, .ref b9, .ref b10, .ref b11, .int b12, .ref b13, .ref b14, .ref b15, .ref b16, .ref b17, .ref b18])), (b11, .inl (G.2 1, 4, .inr (.inl b19))), (b1, .inr (6, [.int b20, .int 8, .int 400, .ref b21, .ref b22])), (b21, .inl (G.2 1, 3200, .inr (.inl b23)))] → va_S A s.heap H locs → lv_has ls 5 [(4, .int y_19), (0, .ref b0), (1, .ref b1), (2, .int b2), (3, .int b3)] → W p l e m_s3_Machine_takes s m ([.ref b0, .ref b1, .int b2, .int b3] : List Value).toArray below meth c H locs 0 0 (MQ below (zQ G (fun v w => ∃ (e0 : Int32), v = some (.int e0) ∧ w = [(b0, .inr (5, [.int b4, .int b5, .ref b6, .ref b7, .ref b8, .ref b9, .ref b10, .ref b11, .int b12, .ref b13, .ref b14, .ref b15, .ref b16, .ref b17, .ref b18])), (b11, .inl (G.2 1, 4, .inr (.inl b19))), (b1, .inr (6, [.int b20, .int 8, .int 400, .ref b21, .ref b22])), (b21, .inl (G.2 1, 3200, .inr (.inl b23)))] ∧ (zI e0 0 1)) A) ([.ref b0, .ref b1, .int b2, .int b3] : List Value).toArray s m_s3_Machine_takes.cells m_s3_Machine_takes.slots A) (F0 m 3 ls []) by
    exact key 5 (0) _ _ _ (zI.wk (l' := 0) (h' := 4) zc_0 (by decide)) (zm_upi (zI.wk (l' := 0) (h' := 4) zc_0 (by decide)) (by decide)) hP hD hS (lv_sub hl [0, 1, 2, 3, 4] rfl)
  intro k_18
  induction k_18 with
  | zero =>
    intro y_19 H locs ls hy_19 hmk_18 hP hD hS hl
    exact (zm_up0 hy_19 hmk_18).elim
  | succ k_18 ihk_18 =>
    intro y_19 H locs ls hy_19 hmk_18 hP hD hS hl
    refine lv_iload hx hb d_Machine_takes_3 (lv_at hl 0 rfl) ?_
    refine lv_iconst (v := 4) hx hb d_Machine_takes_5 (by decide) ?_
    refine lv_icmp_ge (tgt := 38) hx hb d_Machine_takes_6 (by decide) (fun hc_20 => ?_) (fun hc_20 => ?_)
    · have _nhc_20 := hc_20
      have ni_21 := (fa_le _ _).mp hc_20
      rw [li_4] at ni_21
      have hv_22 : zI y_19 4 4 := zI.le_r zc_4 hy_19 hc_20 (by decide)
      refine lv_iconst (v := 0) hx hb d_Machine_takes_38 (by decide) ?_
      exact z_zret hx hb hr hlocks rfl hP hD hS (Nat.le_of_ble_eq_true rfl) (Nat.le_of_ble_eq_true rfl) d_Machine_takes_39 ⟨0, rfl, rfl, (zI.wk (l' := 0) (h' := 1) zc_0 (by decide))⟩
    · have _nhc_20 := hc_20
      have ni_23 := (fa_lt _ _).mp (zi_nle hc_20)
      rw [li_4] at ni_23
      have hv_24 : zI y_19 0 3 := zI.lt_l hy_19 zc_4 (zi_nle hc_20) (by decide)
      refine lv_aload_n hx hb d_Machine_takes_9 rfl (lv_at hl 2 rfl) ?_
      refine lv_iload_n hx hb d_Machine_takes_10 rfl (lv_at hl 3 rfl) ?_
      refine lv_iload_n hx hb d_Machine_takes_11 rfl (lv_at hl 4 rfl) ?_
      refine lv_iload hx hb d_Machine_takes_12 (lv_at hl 0 rfl) ?_
      refine z_callV (index := 166) (As := [.int b2, .int b3, .int y_19]) (rest := []) (wr := [(b0, .inr (5, [.int b4, .int b5, .ref b6, .ref b7, .ref b8, .ref b9, .ref b10, .ref b11, .int b12, .ref b13, .ref b14, .ref b15, .ref b16, .ref b17, .ref b18])), (b11, .inl (G.2 1, 4, .inr (.inl b19)))]) Z (s3_Sets_longAt l G (b1) (b2) (b3) (y_19) (b20) (b21) (b22) (b23) hb2 hb3 hv_24 hb20 hb23) hl.1 q719 q720 q721 q7 q722 ⟨by decide, by decide, by show _ = some 3; decide +kernel⟩ ⟨Nat.le_of_ble_eq_true rfl, Nat.le_of_ble_eq_true rfl⟩ ⟨Nat.le_of_ble_eq_true rfl, Nat.le_of_ble_eq_true rfl⟩ rfl (Nat.le_of_ble_eq_true rfl) d_Machine_takes_14 hP hD hS hA 2 6 rfl rfl rfl [2, 3] [0, 1] rfl rfl rfl rfl (by decide) (fun v w1 H locs hw_25 hP hD hS => ?_)
      obtain ⟨x_26, rfl, rfl, hfx_27⟩ := hw_25
      have hP : va_P G.1 classes [(b0, .inr (5, [.int b4, .int b5, .ref b6, .ref b7, .ref b8, .ref b9, .ref b10, .ref b11, .int b12, .ref b13, .ref b14, .ref b15, .ref b16, .ref b17, .ref b18])), (b11, .inl (G.2 1, 4, .inr (.inl b19))), (b1, .inr (6, [.int b20, .int 8, .int 400, .ref b21, .ref b22])), (b21, .inl (G.2 1, 3200, .inr (.inl b23)))] H := hP
      have hD := z_tie hP hD rfl
      refine W.widen (k := 0) (n := 0) (Nat.le_of_ble_eq_true rfl) (Nat.le_of_ble_eq_true rfl) ?_
      refine lv_aload_n hx hb d_Machine_takes_17 rfl (lv_at hl 1 rfl) ?_
      refine va_get (D := G.1) (ci := 5) (v := .ref b11) (C := R_Machine) (T := F_Machine) (N := 15) hx hb hts i_Machine hown hK hP 0 rfl rfl 7 (by decide) (hts _ q181) (fun _ h9 => h9) rfl d_Machine_takes_18 ?_
      refine lv_iload hx hb d_Machine_takes_21 (lv_at hl 0 rfl) ?_
      refine va_lald hx hb hK hP 1 1 rfl rfl (zI.inn hv_24 (by decide)) d_Machine_takes_23 ?_
      refine lv_topl (fun v_28 ev_28 => ?_)
      refine lv_land hx hb d_Machine_takes_24 ?_
      refine lv_topl (fun v_29 ev_29 => ?_)
      refine lv_lconst (v := 0) hx hb d_Machine_takes_25 (by decide) ?_
      refine W.lcmp hx hb d_Machine_takes_26 ?_
      refine lv_topi (fun v_30 ev_30 => ?_)
      refine lv_if_eq (tgt := 32) hx hb d_Machine_takes_27 (by decide) (fun hc_31 => ?_) (fun hc_31 => ?_)
      · have ni_32 := hc_31
        rw [ev_30] at ni_32
        simp only [lg_cmp_lt, lg_cmp_le, lg_cmp_gt, lg_cmp_ge, lg_cmp_eq, fa_lt64, fa_le64, fa_eq64, Int32.toInt_toInt64, ll_0] at ni_32
        have hv_33 : zJ v_29 0 0 := by have _a := ni_32; have _b := (zJ_all v_29); have _c := zcl_0; simp only [Int32.toInt_toInt64] at *; exact ⟨by omega, by omega⟩
        obtain ⟨v_34, ev_34⟩ : ∃ z : Int32, z = y_19 + 1 := ⟨_, rfl⟩
        obtain ⟨qv_34, hv_34⟩ := zI_add (l := 1) (h := 4) hv_24 zc_1 ev_34 (by decide)
        rw [li_1] at qv_34
        refine lv_iinc (v := v_34) (lv' := [(4, .int v_34), (0, .ref b0), (1, .ref b1), (2, .int b2), (3, .int b3)]) hx hb d_Machine_takes_32 hl (k := 0) rfl (by rw [ev_34]; rfl) (by decide) rfl (fun ls hl => ?_)
        refine lv_goto (tgt := 3) hx hb d_Machine_takes_35 (by decide) ?_
        exact ihk_18 (v_34) _ _ _ (zI.wk (l' := 0) (h' := 4) hv_34 (by decide)) (zm_up qv_34 hmk_18 (by decide)) hP hD hS (lv_sub hl [0, 1, 2, 3, 4] rfl)
      · have ni_35 := hc_31
        rw [ev_30] at ni_35
        simp only [lg_cmp_lt, lg_cmp_le, lg_cmp_gt, lg_cmp_ge, lg_cmp_eq, fa_lt64, fa_le64, fa_eq64, Int32.toInt_toInt64, ll_0] at ni_35
        refine lv_iconst (v := 1) hx hb d_Machine_takes_30 (by decide) ?_
        exact z_zret hx hb hr hlocks rfl hP hD hS (Nat.le_of_ble_eq_true rfl) (Nat.le_of_ble_eq_true rfl) d_Machine_takes_31 ⟨1, rfl, rfl, (zI.wk (l' := 0) (h' := 1) zc_1 (by decide))⟩
theorem d_Machine_fan_104 : decode prog_4_method_17_code 104 = .ok (.return_, 1) := by decide +kernel
abbrev m_s2_Machine_fan : Room := { frames := 2, cells := 0, slots := 0, locals := 42 }
set_option maxHeartbeats 4000000 in
set_option maxRecDepth 100000 in
theorem s2_Machine_fan (l : Launch) (G : zG) (b0 : Nat) (b1 : Nat) (b2 : Int32) (b3 : Int32) (b4 : Nat) (b5 : Int32) (b6 : Int32) (b7 : Nat) (b8 : Nat) (b9 : Nat) (b10 : Nat) (b11 : Nat) (b12 : Nat) (b13 : Int32) (b14 : Nat) (b15 : Nat) (b16 : Nat) (b17 : Nat) (b18 : Nat) (b19 : Nat) (b20 : Nat → Int32) (b21 : Nat → Int32) (b22 : Int32) (b23 : Nat) (b24 : Nat) (b25 : Nat → Int64) (b26 : Int32) (b27 : Nat) (b28 : Nat) (b29 : Nat → Int64) (hb2 : zI b2 0 399) (hb3 : zI b3 0 1) (hb5 : zI b5 0 1) (hb6 : zI b6 0 241) (hb13 : zI b13 0 240) (hb22 : zI b22 0 400) (hb26 : zI b26 0 10) (hb20 : zK b20) (hb21 : zR b21 0 240) (hb25 : zqa qB b25) (hb29 : zqa qB b29) : zM l G y_Machine_fan prog_4_method_17_code 10 (Option.none : Option Jvm.ClassFile.FieldType) m_s2_Machine_fan [.ref b0, .ref b1, .int b2, .int b3, .ref b4] [(b0, .inr (5, [.int b5, .int b6, .ref b7, .ref b8, .ref b9, .ref b10, .ref b11, .ref b12, .int b13, .ref b14, .ref b15, .ref b16, .ref b17, .ref b18, .ref b19])), (b14, .inl (G.2 0, 240, .inl b20)), (b18, .inl (G.2 0, 242, .inl b21)), (b1, .inr (6, [.int b22, .int 8, .int 400, .ref b23, .ref b24])), (b23, .inl (G.2 1, 3200, .inr (.inl b25))), (b4, .inr (6, [.int b26, .int 8, .int 10, .ref b27, .ref b28])), (b27, .inl (G.2 1, 80, .inr (.inl b29)))] (fun v w => ∃ (e0 : Nat → Int64), v = none ∧ w = [(b0, .inr (5, [.int b5, .int b6, .ref b7, .ref b8, .ref b9, .ref b10, .ref b11, .ref b12, .int b13, .ref b14, .ref b15, .ref b16, .ref b17, .ref b18, .ref b19])), (b14, .inl (G.2 0, 240, .inl b20)), (b18, .inl (G.2 0, 242, .inl b21)), (b1, .inr (6, [.int b22, .int 8, .int 400, .ref b23, .ref b24])), (b23, .inl (G.2 1, 3200, .inr (.inl b25))), (b4, .inr (6, [.int b26, .int 8, .int 10, .ref b27, .ref b28])), (b27, .inl (G.2 1, 80, .inr (.inl e0)))] ∧ (zqa qB e0)) := by
  refine z_start (by decide +kernel) (Nat.le_of_ble_eq_true rfl) ?_
  intro p e s m below meth c A Z hr hnm hA hP hD hS ls hl
  have Z : zC p s m _ meth c prog_4_method_17_code 10 "TraceMachines$Machine" G := Z
  obtain ⟨hx, hb, hml, hown, hts, hK, hN, hlocks⟩ := id Z
  have hl : lv_has ls 10 [(0, .ref b0), (1, .ref b1), (2, .int b2), (3, .int b3), (4, .ref b4)] := hl
  refine lv_iconst (v := 0) hx hb d_Machine_fan_0 (by decide) ?_
  refine lv_istore (lv' := [(5, .int 0), (0, .ref b0), (1, .ref b1), (2, .int b2), (3, .int b3), (4, .ref b4)]) hx hb d_Machine_fan_1 hl (by decide) rfl (fun ls hl => ?_)
  suffices key : ∀ (k_113 : Nat) (y_114 : Int32) (y_115 : Nat → Int64) (H : Heap) (locs : List Loc) (ls : Array Slot), (zI y_114 0 4) → (zqa qB y_115) → (4 : Int) - y_114.toInt < (k_113 : Int) → va_P G.1 classes [(b0, .inr (5, [.int b5, .int b6, .ref b7, .ref b8, .ref b9, .ref b10, .ref b11, .ref b12, .int b13, .ref b14, .ref b15, .ref b16, .ref b17, .ref b18, .ref b19])), (b14, .inl (G.2 0, 240, .inl b20)), (b18, .inl (G.2 0, 242, .inl b21)), (b1, .inr (6, [.int b22, .int 8, .int 400, .ref b23, .ref b24])), (b23, .inl (G.2 1, 3200, .inr (.inl b25))), (b4, .inr (6, [.int b26, .int 8, .int 10, .ref b27, .ref b28])), (b27, .inl (G.2 1, 80, .inr (.inl y_115)))] H → va_D A [(b0, .inr (5, [.int b5, .int b6, .ref b7, .ref b8, .ref b9, .ref b10, .ref b11, .ref b12, .int b13, .ref b14, .ref b15, .ref b16, .ref b17, .ref b18, .ref b19])), (b14, .inl (G.2 0, 240, .inl b20)), (b18, .inl (G.2 0, 242, .inl b21)), (b1, .inr (6, [.int b22, .int 8, .int 400, .ref b23, .ref b24])), (b23, .inl (G.2 1, 3200, .inr (.inl b25))), (b4, .inr (6, [.int b26, .int 8, .int 10, .ref b27, .ref b28])), (b27, .inl (G.2 1, 80, .inr (.inl y_115)))] → va_S A s.heap H locs → lv_has ls 10 [(5, .int y_114), (0, .ref b0), (1, .ref b1), (2, .int b2), (3, .int b3), (4, .ref b4)] → W p l e m_s2_Machine_fan s m ([.ref b0, .ref b1, .int b2, .int b3, .ref b4] : List Value).toArray below meth c H locs 0 0 (MQ below (zQ G (fun v w => ∃ (e0 : Nat → Int64), v = none ∧ w = [(b0, .inr (5, [.int b5, .int b6, .ref b7, .ref b8, .ref b9, .ref b10, .ref b11, .ref b12, .int b13, .ref b14, .ref b15, .ref b16, .ref b17, .ref b18, .ref b19])), (b14, .inl (G.2 0, 240, .inl b20)), (b18, .inl (G.2 0, 242, .inl b21)), (b1, .inr (6, [.int b22, .int 8, .int 400, .ref b23, .ref b24])), (b23, .inl (G.2 1, 3200, .inr (.inl b25))), (b4, .inr (6, [.int b26, .int 8, .int 10, .ref b27, .ref b28])), (b27, .inl (G.2 1, 80, .inr (.inl e0)))] ∧ (zqa qB e0)) A) ([.ref b0, .ref b1, .int b2, .int b3, .ref b4] : List Value).toArray s m_s2_Machine_fan.cells m_s2_Machine_fan.slots A) (F0 m 3 ls []) by
    exact key 5 (0) (b29) _ _ _ (zI.wk (l' := 0) (h' := 4) zc_0 (by decide)) hb29 (zm_upi (zI.wk (l' := 0) (h' := 4) zc_0 (by decide)) (by decide)) hP hD hS (lv_sub hl [0, 1, 2, 3, 4, 5] rfl)
  intro k_113
  induction k_113 with
  | zero =>
    intro y_114 y_115 H locs ls hy_114 hy_115 hmk_113 hP hD hS hl
    exact (zm_up0 hy_114 hmk_113).elim
  | succ k_113 ihk_113 =>
    intro y_114 y_115 H locs ls hy_114 hy_115 hmk_113 hP hD hS hl
    refine lv_iload hx hb d_Machine_fan_3 (lv_at hl 0 rfl) ?_
    refine lv_iconst (v := 4) hx hb d_Machine_fan_5 (by decide) ?_
    refine lv_icmp_ge (tgt := 104) hx hb d_Machine_fan_6 (by decide) (fun hc_116 => ?_) (fun hc_116 => ?_)
    · have _nhc_116 := hc_116
      have ni_117 := (fa_le _ _).mp hc_116
      rw [li_4] at ni_117
      have hv_118 : zI y_114 4 4 := zI.le_r zc_4 hy_114 hc_116 (by decide)
      exact z_vret hx hb hr hlocks hP hD hS (Nat.le_of_ble_eq_true rfl) (Nat.le_of_ble_eq_true rfl) d_Machine_fan_104 ⟨y_115, rfl, rfl, hy_115⟩
    · have _nhc_116 := hc_116
      have ni_119 := (fa_lt _ _).mp (zi_nle hc_116)
      rw [li_4] at ni_119
      have hv_120 : zI y_114 0 3 := zI.lt_l hy_114 zc_4 (zi_nle hc_116) (by decide)
      refine lv_aload_n hx hb d_Machine_fan_9 rfl (lv_at hl 2 rfl) ?_
      refine lv_iload_n hx hb d_Machine_fan_10 rfl (lv_at hl 3 rfl) ?_
      refine lv_iload_n hx hb d_Machine_fan_11 rfl (lv_at hl 4 rfl) ?_
      refine lv_iload hx hb d_Machine_fan_12 (lv_at hl 0 rfl) ?_
      refine z_callV (index := 166) (As := [.int b2, .int b3, .int y_114]) (rest := []) (wr := [(b0, .inr (5, [.int b5, .int b6, .ref b7, .ref b8, .ref b9, .ref b10, .ref b11, .ref b12, .int b13, .ref b14, .ref b15, .ref b16, .ref b17, .ref b18, .ref b19])), (b14, .inl (G.2 0, 240, .inl b20)), (b18, .inl (G.2 0, 242, .inl b21)), (b4, .inr (6, [.int b26, .int 8, .int 10, .ref b27, .ref b28])), (b27, .inl (G.2 1, 80, .inr (.inl y_115)))]) Z (s3_Sets_longAt l G (b1) (b2) (b3) (y_114) (b22) (b23) (b24) (b25) hb2 hb3 hv_120 hb22 hb25) hl.1 q719 q720 q721 q7 q722 ⟨by decide, by decide, by show _ = some 3; decide +kernel⟩ ⟨Nat.le_of_ble_eq_true rfl, Nat.le_of_ble_eq_true rfl⟩ ⟨Nat.le_of_ble_eq_true rfl, Nat.le_of_ble_eq_true rfl⟩ rfl (Nat.le_of_ble_eq_true rfl) d_Machine_fan_14 hP hD hS hA 3 6 rfl rfl rfl [3, 4] [0, 1, 2, 5, 6] rfl rfl rfl rfl (by decide) (fun v w1 H locs hw_121 hP hD hS => ?_)
      obtain ⟨x_122, rfl, rfl, hfx_123⟩ := hw_121
      have hP : va_P G.1 classes [(b0, .inr (5, [.int b5, .int b6, .ref b7, .ref b8, .ref b9, .ref b10, .ref b11, .ref b12, .int b13, .ref b14, .ref b15, .ref b16, .ref b17, .ref b18, .ref b19])), (b14, .inl (G.2 0, 240, .inl b20)), (b18, .inl (G.2 0, 242, .inl b21)), (b4, .inr (6, [.int b26, .int 8, .int 10, .ref b27, .ref b28])), (b27, .inl (G.2 1, 80, .inr (.inl y_115))), (b1, .inr (6, [.int b22, .int 8, .int 400, .ref b23, .ref b24])), (b23, .inl (G.2 1, 3200, .inr (.inl b25)))] H := hP
      have hD := z_tie hP hD rfl
      refine W.widen (k := 0) (n := 0) (Nat.le_of_ble_eq_true rfl) (Nat.le_of_ble_eq_true rfl) ?_
      refine lv_lstore (lv' := [(6, .long x_122), (5, .int y_114), (0, .ref b0), (1, .ref b1), (2, .int b2), (3, .int b3), (4, .ref b4)]) hx hb d_Machine_fan_17 hl (by decide) rfl (fun ls hl => ?_)
      suffices key : ∀ (k_175 : Nat) (y_176 : Int64) (y_177 : Nat → Int64) (H : Heap) (locs : List Loc) (ls : Array Slot), (zqa qB y_177) → ((y_114 : Int32).toInt = 3 → (y_176 : Int64).toBitVec.toNat < 2 ^ 49) → (y_176).toBitVec.toNat < k_175 → va_P G.1 classes [(b0, .inr (5, [.int b5, .int b6, .ref b7, .ref b8, .ref b9, .ref b10, .ref b11, .ref b12, .int b13, .ref b14, .ref b15, .ref b16, .ref b17, .ref b18, .ref b19])), (b14, .inl (G.2 0, 240, .inl b20)), (b18, .inl (G.2 0, 242, .inl b21)), (b4, .inr (6, [.int b26, .int 8, .int 10, .ref b27, .ref b28])), (b27, .inl (G.2 1, 80, .inr (.inl y_177))), (b1, .inr (6, [.int b22, .int 8, .int 400, .ref b23, .ref b24])), (b23, .inl (G.2 1, 3200, .inr (.inl b25)))] H → va_D A [(b0, .inr (5, [.int b5, .int b6, .ref b7, .ref b8, .ref b9, .ref b10, .ref b11, .ref b12, .int b13, .ref b14, .ref b15, .ref b16, .ref b17, .ref b18, .ref b19])), (b14, .inl (G.2 0, 240, .inl b20)), (b18, .inl (G.2 0, 242, .inl b21)), (b4, .inr (6, [.int b26, .int 8, .int 10, .ref b27, .ref b28])), (b27, .inl (G.2 1, 80, .inr (.inl y_177))), (b1, .inr (6, [.int b22, .int 8, .int 400, .ref b23, .ref b24])), (b23, .inl (G.2 1, 3200, .inr (.inl b25)))] → va_S A s.heap H locs → lv_has ls 10 [(6, .long y_176), (5, .int y_114), (0, .ref b0), (1, .ref b1), (2, .int b2), (3, .int b3), (4, .ref b4)] → W p l e m_s2_Machine_fan s m ([.ref b0, .ref b1, .int b2, .int b3, .ref b4] : List Value).toArray below meth c H locs 0 0 (MQ below (zQ G (fun v w => ∃ (e0 : Nat → Int64), v = none ∧ w = [(b0, .inr (5, [.int b5, .int b6, .ref b7, .ref b8, .ref b9, .ref b10, .ref b11, .ref b12, .int b13, .ref b14, .ref b15, .ref b16, .ref b17, .ref b18, .ref b19])), (b14, .inl (G.2 0, 240, .inl b20)), (b18, .inl (G.2 0, 242, .inl b21)), (b1, .inr (6, [.int b22, .int 8, .int 400, .ref b23, .ref b24])), (b23, .inl (G.2 1, 3200, .inr (.inl b25))), (b4, .inr (6, [.int b26, .int 8, .int 10, .ref b27, .ref b28])), (b27, .inl (G.2 1, 80, .inr (.inl e0)))] ∧ (zqa qB e0)) A) ([.ref b0, .ref b1, .int b2, .int b3, .ref b4] : List Value).toArray s m_s2_Machine_fan.cells m_s2_Machine_fan.slots A) (F0 m 19 ls []) by
        exact key 18446744073709551616 (x_122) (y_115) _ _ _ hy_115 hfx_123 (Nat.lt_of_lt_of_le (x_122).toBitVec.isLt (by decide)) hP hD hS (lv_sub hl [0, 1, 2, 3, 4, 5, 6] rfl)
      intro k_175
      induction k_175 with
      | zero =>
        intro y_176 y_177 H locs ls hy_177 hli_178 hmk_175 hP hD hS hl
        exfalso; omega
      | succ k_175 ihk_175 =>
        intro y_176 y_177 H locs ls hy_177 hli_178 hmk_175 hP hD hS hl
        refine lv_lload hx hb d_Machine_fan_19 (lv_at hl 0 rfl) ?_
        refine lv_lconst (v := 0) hx hb d_Machine_fan_21 (by decide) ?_
        refine W.lcmp hx hb d_Machine_fan_22 ?_
        refine lv_topi (fun v_179 ev_179 => ?_)
        refine lv_if_eq (tgt := 98) hx hb d_Machine_fan_23 (by decide) (fun hc_180 => ?_) (fun hc_180 => ?_)
        · have ni_181 := hc_180
          rw [ev_179] at ni_181
          simp only [lg_cmp_lt, lg_cmp_le, lg_cmp_gt, lg_cmp_ge, lg_cmp_eq, fa_lt64, fa_le64, fa_eq64, Int32.toInt_toInt64, ll_0] at ni_181
          have hv_182 : zJ y_176 0 0 := by have _a := ni_181; have _b := (zJ_all y_176); have _c := zcl_0; simp only [Int32.toInt_toInt64] at *; exact ⟨by omega, by omega⟩
          obtain ⟨v_183, ev_183⟩ : ∃ z : Int32, z = y_114 + 1 := ⟨_, rfl⟩
          obtain ⟨qv_183, hv_183⟩ := zI_add (l := 1) (h := 4) hv_120 zc_1 ev_183 (by decide)
          rw [li_1] at qv_183
          refine lv_iinc (v := v_183) (lv' := [(5, .int v_183), (6, .long y_176), (0, .ref b0), (1, .ref b1), (2, .int b2), (3, .int b3), (4, .ref b4)]) hx hb d_Machine_fan_98 hl (k := 1) rfl (by rw [ev_183]; rfl) (by decide) rfl (fun ls hl => ?_)
          refine lv_goto (tgt := 3) hx hb d_Machine_fan_101 (by decide) ?_
          exact ihk_113 (v_183) (y_177) _ _ _ (zI.wk (l' := 0) (h' := 4) hv_183 (by decide)) hy_177 (zm_up qv_183 hmk_113 (by decide)) (hP.sub [0, 1, 2, 5, 6, 3, 4] rfl) (hD.sub [0, 1, 2, 5, 6, 3, 4] (by decide) rfl) hS (lv_sub hl [0, 2, 3, 4, 5, 6] rfl)
        · have ni_184 := hc_180
          rw [ev_179] at ni_184
          simp only [lg_cmp_lt, lg_cmp_le, lg_cmp_gt, lg_cmp_ge, lg_cmp_eq, fa_lt64, fa_le64, fa_eq64, Int32.toInt_toInt64, ll_0] at ni_184
          refine lv_bipush (v := 64) hx hb d_Machine_fan_26 (by decide) ?_
          refine lv_iload hx hb d_Machine_fan_28 (lv_at hl 1 rfl) ?_
          refine lv_imul hx hb d_Machine_fan_30 ?_
          refine lv_topi (fun v_185 ev_185 => ?_)
          obtain ⟨qv_185, hv_185⟩ := zI_mul (l := 0) (h := 192) zc_64 hv_120 ev_185 (by decide)
          rw [li_64] at qv_185
          refine lv_lload hx hb d_Machine_fan_31 (lv_at hl 0 rfl) ?_
          refine z_callS (index := 170) (As := [.long y_176]) (rest := [.int v_185]) (wr := [(b0, .inr (5, [.int b5, .int b6, .ref b7, .ref b8, .ref b9, .ref b10, .ref b11, .ref b12, .int b13, .ref b14, .ref b15, .ref b16, .ref b17, .ref b18, .ref b19])), (b14, .inl (G.2 0, 240, .inl b20)), (b18, .inl (G.2 0, 242, .inl b21)), (b4, .inr (6, [.int b26, .int 8, .int 10, .ref b27, .ref b28])), (b27, .inl (G.2 1, 80, .inr (.inl y_177))), (b1, .inr (6, [.int b22, .int 8, .int 400, .ref b23, .ref b24])), (b23, .inl (G.2 1, 3200, .inr (.inl b25)))]) Z (s2_Sets_lowest l G (y_176) (by omega)) hl.1 q723 q724 q7 q725 ⟨by decide, by decide, by show _ = some 1; decide +kernel⟩ ⟨Nat.le_of_ble_eq_true rfl, Nat.le_of_ble_eq_true rfl⟩ ⟨Nat.le_of_ble_eq_true rfl, Nat.le_of_ble_eq_true rfl⟩ rfl (Nat.le_of_ble_eq_true rfl) d_Machine_fan_33 hP hD hS hA [] [0, 1, 2, 3, 4, 5, 6] rfl rfl rfl rfl (by decide) (fun v w1 H locs hw_186 hP hD hS => ?_)
          obtain ⟨x_187, rfl, rfl, hx_187, hfx_188⟩ := hw_186
          have hP : va_P G.1 classes [(b0, .inr (5, [.int b5, .int b6, .ref b7, .ref b8, .ref b9, .ref b10, .ref b11, .ref b12, .int b13, .ref b14, .ref b15, .ref b16, .ref b17, .ref b18, .ref b19])), (b14, .inl (G.2 0, 240, .inl b20)), (b18, .inl (G.2 0, 242, .inl b21)), (b4, .inr (6, [.int b26, .int 8, .int 10, .ref b27, .ref b28])), (b27, .inl (G.2 1, 80, .inr (.inl y_177))), (b1, .inr (6, [.int b22, .int 8, .int 400, .ref b23, .ref b24])), (b23, .inl (G.2 1, 3200, .inr (.inl b25)))] H := hP
          have hD := z_tie hP hD rfl
          refine W.widen (k := 0) (n := 0) (Nat.le_of_ble_eq_true rfl) (Nat.le_of_ble_eq_true rfl) ?_
          refine lv_iadd hx hb d_Machine_fan_36 ?_
          refine lv_topi (fun v_189 ev_189 => ?_)
          obtain ⟨qv_189, hv_189⟩ := zI_add (l := 0) (h := 255) hv_185 hx_187 ev_189 (by decide)
          have hv_190 : zI v_189 0 240 := ⟨by omega, by omega⟩
          refine lv_istore (lv' := [(8, .int v_189), (6, .long y_176), (5, .int y_114), (0, .ref b0), (1, .ref b1), (2, .int b2), (3, .int b3), (4, .ref b4)]) hx hb d_Machine_fan_37 hl (by decide) rfl (fun ls hl => ?_)
          refine lv_aload_n hx hb d_Machine_fan_39 rfl (lv_at hl 3 rfl) ?_
          refine va_get (D := G.1) (ci := 5) (v := .ref b18) (C := R_Machine) (T := F_Machine) (N := 15) hx hb hts i_Machine hown hK hP 0 rfl rfl 13 (by decide) (hts _ q195) (fun _ h9 => h9) rfl d_Machine_fan_40 ?_
          refine lv_iload hx hb d_Machine_fan_43 (lv_at hl 0 rfl) ?_
          refine va_iald hx hb hK hP 2 0 rfl rfl (zI.inn hv_190 (by decide)) d_Machine_fan_45 ?_
          refine lv_topi (fun v_191 ev_191 => ?_)
          have hv_191 : zI v_191 0 240 := (hb21 _).eq ev_191
          refine lv_istore (lv' := [(9, .int v_191), (8, .int v_189), (6, .long y_176), (5, .int y_114), (0, .ref b0), (1, .ref b1), (2, .int b2), (3, .int b3), (4, .ref b4)]) hx hb d_Machine_fan_46 hl (by decide) rfl (fun ls hl => ?_)
          suffices key : ∀ (k_210 : Nat) (y_211 : Int32) (y_212 : Nat → Int64) (H : Heap) (locs : List Loc) (ls : Array Slot), (zI y_211 0 240) → (zqa qB y_212) → (240 : Int) - y_211.toInt < (k_210 : Int) → va_P G.1 classes [(b0, .inr (5, [.int b5, .int b6, .ref b7, .ref b8, .ref b9, .ref b10, .ref b11, .ref b12, .int b13, .ref b14, .ref b15, .ref b16, .ref b17, .ref b18, .ref b19])), (b14, .inl (G.2 0, 240, .inl b20)), (b18, .inl (G.2 0, 242, .inl b21)), (b4, .inr (6, [.int b26, .int 8, .int 10, .ref b27, .ref b28])), (b27, .inl (G.2 1, 80, .inr (.inl y_212))), (b1, .inr (6, [.int b22, .int 8, .int 400, .ref b23, .ref b24])), (b23, .inl (G.2 1, 3200, .inr (.inl b25)))] H → va_D A [(b0, .inr (5, [.int b5, .int b6, .ref b7, .ref b8, .ref b9, .ref b10, .ref b11, .ref b12, .int b13, .ref b14, .ref b15, .ref b16, .ref b17, .ref b18, .ref b19])), (b14, .inl (G.2 0, 240, .inl b20)), (b18, .inl (G.2 0, 242, .inl b21)), (b4, .inr (6, [.int b26, .int 8, .int 10, .ref b27, .ref b28])), (b27, .inl (G.2 1, 80, .inr (.inl y_212))), (b1, .inr (6, [.int b22, .int 8, .int 400, .ref b23, .ref b24])), (b23, .inl (G.2 1, 3200, .inr (.inl b25)))] → va_S A s.heap H locs → lv_has ls 10 [(9, .int y_211), (8, .int v_189), (6, .long y_176), (5, .int y_114), (0, .ref b0), (1, .ref b1), (2, .int b2), (3, .int b3), (4, .ref b4)] → W p l e m_s2_Machine_fan s m ([.ref b0, .ref b1, .int b2, .int b3, .ref b4] : List Value).toArray below meth c H locs 0 0 (MQ below (zQ G (fun v w => ∃ (e0 : Nat → Int64), v = none ∧ w = [(b0, .inr (5, [.int b5, .int b6, .ref b7, .ref b8, .ref b9, .ref b10, .ref b11, .ref b12, .int b13, .ref b14, .ref b15, .ref b16, .ref b17, .ref b18, .ref b19])), (b14, .inl (G.2 0, 240, .inl b20)), (b18, .inl (G.2 0, 242, .inl b21)), (b1, .inr (6, [.int b22, .int 8, .int 400, .ref b23, .ref b24])), (b23, .inl (G.2 1, 3200, .inr (.inl b25))), (b4, .inr (6, [.int b26, .int 8, .int 10, .ref b27, .ref b28])), (b27, .inl (G.2 1, 80, .inr (.inl e0)))] ∧ (zqa qB e0)) A) ([.ref b0, .ref b1, .int b2, .int b3, .ref b4] : List Value).toArray s m_s2_Machine_fan.cells m_s2_Machine_fan.slots A) (F0 m 48 ls []) by
            exact key 241 (v_191) (y_177) _ _ _ hv_191 hy_177 (zm_upi hv_191 (by decide)) hP hD hS (lv_sub hl [0, 1, 2, 3, 4, 5, 6, 7, 8] rfl)
          intro k_210
          induction k_210 with
          | zero =>
            intro y_211 y_212 H locs ls hy_211 hy_212 hmk_210 hP hD hS hl
            exact (zm_up0 hy_211 hmk_210).elim
          | succ k_210 ihk_210 =>
            intro y_211 y_212 H locs ls hy_211 hy_212 hmk_210 hP hD hS hl
            refine lv_iload hx hb d_Machine_fan_48 (lv_at hl 0 rfl) ?_
            refine lv_aload_n hx hb d_Machine_fan_50 rfl (lv_at hl 4 rfl) ?_
            refine va_get (D := G.1) (ci := 5) (v := .ref b18) (C := R_Machine) (T := F_Machine) (N := 15) hx hb hts i_Machine hown hK hP 0 rfl rfl 13 (by decide) (hts _ q195) (fun _ h9 => h9) rfl d_Machine_fan_51 ?_
            refine lv_iload hx hb d_Machine_fan_54 (lv_at hl 1 rfl) ?_
            refine lv_iconst (v := 1) hx hb d_Machine_fan_56 (by decide) ?_
            refine lv_iadd hx hb d_Machine_fan_57 ?_
            refine lv_topi (fun v_213 ev_213 => ?_)
            obtain ⟨qv_213, hv_213⟩ := zI_add (l := 1) (h := 241) hv_190 zc_1 ev_213 (by decide)
            rw [li_1] at qv_213
            refine va_iald hx hb hK hP 2 0 rfl rfl (zI.inn hv_213 (by decide)) d_Machine_fan_58 ?_
            refine lv_topi (fun v_214 ev_214 => ?_)
            have hv_214 : zI v_214 0 240 := (hb21 _).eq ev_214
            refine lv_icmp_ge (tgt := 86) hx hb d_Machine_fan_59 (by decide) (fun hc_215 => ?_) (fun hc_215 => ?_)
            · have _nhc_215 := hc_215
              have ni_216 := (fa_le _ _).mp hc_215
              refine lv_lload hx hb d_Machine_fan_86 (lv_at hl 2 rfl) ?_
              refine lv_lload hx hb d_Machine_fan_88 (lv_at hl 2 rfl) ?_
              refine lv_lconst (v := 1) hx hb d_Machine_fan_90 (by decide) ?_
              refine lv_lsub hx hb d_Machine_fan_91 ?_
              refine lv_topl (fun v_217 ev_217 => ?_)
              refine lv_land hx hb d_Machine_fan_92 ?_
              refine lv_topl (fun v_218 ev_218 => ?_)
              refine lv_lstore (lv' := [(6, .long v_218), (9, .int y_211), (8, .int v_189), (5, .int y_114), (0, .ref b0), (1, .ref b1), (2, .int b2), (3, .int b3), (4, .ref b4)]) hx hb d_Machine_fan_93 hl (by decide) rfl (fun ls hl => ?_)
              refine lv_goto (tgt := 19) hx hb d_Machine_fan_95 (by decide) ?_
              exact ihk_175 (v_218) (y_212) _ _ _ hy_212 (fun h9 => z_decB ev_218 (hli_178 h9)) (z_dec ev_217 ev_218 (by omega) hmk_175) hP hD hS (lv_sub hl [0, 3, 4, 5, 6, 7, 8] rfl)
            · have _nhc_215 := hc_215
              have ni_219 := (fa_lt _ _).mp (zi_nle hc_215)
              have hv_220 : zI y_211 0 239 := zI.lt_l hy_211 hv_214 (zi_nle hc_215) (by decide)
              have hv_221 : zI v_214 1 240 := zI.lt_r hy_211 hv_214 (zi_nle hc_215) (by decide)
              refine lv_aload hx hb d_Machine_fan_62 (lv_at hl 8 rfl) ?_
              refine lv_aload_n hx hb d_Machine_fan_64 rfl (lv_at hl 4 rfl) ?_
              refine lv_iload hx hb d_Machine_fan_65 (lv_at hl 0 rfl) ?_
              refine z_callV (index := 174) (As := [.int y_211]) (rest := [.ref b4]) (wr := [(b18, .inl (G.2 0, 242, .inl b21)), (b4, .inr (6, [.int b26, .int 8, .int 10, .ref b27, .ref b28])), (b27, .inl (G.2 1, 80, .inr (.inl y_212))), (b1, .inr (6, [.int b22, .int 8, .int 400, .ref b23, .ref b24])), (b23, .inl (G.2 1, 3200, .inr (.inl b25)))]) Z (s1_Machine_letter l G (b0) (y_211) (b5) (b6) (b7) (b8) (b9) (b10) (b11) (b12) (b13) (b14) (b15) (b16) (b17) (b18) (b19) (b20) hv_220 hb5 hb6 hb13 hb20) hl.1 q732 q674 q675 q6 q676 ⟨by decide, by decide, by show _ = some 1; decide +kernel⟩ ⟨Nat.le_of_ble_eq_true rfl, Nat.le_of_ble_eq_true rfl⟩ ⟨Nat.le_of_ble_eq_true rfl, Nat.le_of_ble_eq_true rfl⟩ rfl (Nat.le_of_ble_eq_true rfl) d_Machine_fan_67 hP hD hS hA 0 5 rfl rfl rfl [0, 1] [2, 3, 4, 5, 6] rfl rfl rfl rfl (by decide) (fun v w1 H locs hw_222 hP hD hS => ?_)
              obtain ⟨x_223, rfl, rfl, hx_223⟩ := hw_222
              have hP : va_P G.1 classes [(b18, .inl (G.2 0, 242, .inl b21)), (b4, .inr (6, [.int b26, .int 8, .int 10, .ref b27, .ref b28])), (b27, .inl (G.2 1, 80, .inr (.inl y_212))), (b1, .inr (6, [.int b22, .int 8, .int 400, .ref b23, .ref b24])), (b23, .inl (G.2 1, 3200, .inr (.inl b25))), (b0, .inr (5, [.int b5, .int b6, .ref b7, .ref b8, .ref b9, .ref b10, .ref b11, .ref b12, .int b13, .ref b14, .ref b15, .ref b16, .ref b17, .ref b18, .ref b19])), (b14, .inl (G.2 0, 240, .inl b20))] H := hP
              have hD := z_tie hP hD rfl
              refine W.widen (k := 0) (n := 0) (Nat.le_of_ble_eq_true rfl) (Nat.le_of_ble_eq_true rfl) ?_
              refine lv_iload_n hx hb d_Machine_fan_70 rfl (lv_at hl 7 rfl) ?_
              refine lv_aload_n hx hb d_Machine_fan_71 rfl (lv_at hl 4 rfl) ?_
              refine lv_iload hx hb d_Machine_fan_72 (lv_at hl 0 rfl) ?_
              refine z_callV (index := 176) (As := [.int y_211]) (rest := [.int b3, .int x_223, .ref b4]) (wr := [(b18, .inl (G.2 0, 242, .inl b21)), (b4, .inr (6, [.int b26, .int 8, .int 10, .ref b27, .ref b28])), (b27, .inl (G.2 1, 80, .inr (.inl y_212))), (b1, .inr (6, [.int b22, .int 8, .int 400, .ref b23, .ref b24])), (b23, .inl (G.2 1, 3200, .inr (.inl b25)))]) Z (s1_Machine_to l G (b0) (y_211) (b5) (b6) (b7) (b8) (b9) (b10) (b11) (b12) (b13) (b14) (b15) (b16) (b17) (b18) (b19) (b20) hv_220 hb5 hb6 hb13 hb20) hl.1 q733 q681 q682 q6 q683 ⟨by decide, by decide, by show _ = some 1; decide +kernel⟩ ⟨Nat.le_of_ble_eq_true rfl, Nat.le_of_ble_eq_true rfl⟩ ⟨Nat.le_of_ble_eq_true rfl, Nat.le_of_ble_eq_true rfl⟩ rfl (Nat.le_of_ble_eq_true rfl) d_Machine_fan_74 hP hD hS hA 5 5 rfl rfl rfl [5, 6] [0, 1, 2, 3, 4] rfl rfl rfl rfl (by decide) (fun v w1 H locs hw_224 hP hD hS => ?_)
              obtain ⟨x_225, rfl, rfl, hx_225⟩ := hw_224
              have hP : va_P G.1 classes [(b18, .inl (G.2 0, 242, .inl b21)), (b4, .inr (6, [.int b26, .int 8, .int 10, .ref b27, .ref b28])), (b27, .inl (G.2 1, 80, .inr (.inl y_212))), (b1, .inr (6, [.int b22, .int 8, .int 400, .ref b23, .ref b24])), (b23, .inl (G.2 1, 3200, .inr (.inl b25))), (b0, .inr (5, [.int b5, .int b6, .ref b7, .ref b8, .ref b9, .ref b10, .ref b11, .ref b12, .int b13, .ref b14, .ref b15, .ref b16, .ref b17, .ref b18, .ref b19])), (b14, .inl (G.2 0, 240, .inl b20))] H := hP
              have hD := z_tie hP hD rfl
              refine W.widen (k := 0) (n := 0) (Nat.le_of_ble_eq_true rfl) (Nat.le_of_ble_eq_true rfl) ?_
              refine z_callV (index := 139) (As := [.int x_223, .int b3, .int x_225]) (rest := []) (wr := [(b18, .inl (G.2 0, 242, .inl b21)), (b1, .inr (6, [.int b22, .int 8, .int 400, .ref b23, .ref b24])), (b23, .inl (G.2 1, 3200, .inr (.inl b25))), (b0, .inr (5, [.int b5, .int b6, .ref b7, .ref b8, .ref b9, .ref b10, .ref b11, .ref b12, .int b13, .ref b14, .ref b15, .ref b16, .ref b17, .ref b18, .ref b19])), (b14, .inl (G.2 0, 240, .inl b20))]) Z (s3_Sets_put l G (b4) (x_223) (b3) (x_225) (b26) (b27) (b28) (y_212) hx_223 hb3 hx_225 hb26 hy_212) hl.1 q709 q710 q711 q7 q712 ⟨by decide, by decide, by show _ = some 3; decide +kernel⟩ ⟨Nat.le_of_ble_eq_true rfl, Nat.le_of_ble_eq_true rfl⟩ ⟨Nat.le_of_ble_eq_true rfl, Nat.le_of_ble_eq_true rfl⟩ rfl (Nat.le_of_ble_eq_true rfl) d_Machine_fan_77 hP hD hS hA 1 6 rfl rfl rfl [1, 2] [0, 3, 4, 5, 6] rfl rfl rfl rfl (by decide) (fun v w1 H locs hw_226 hP hD hS => ?_)
              obtain ⟨f_227, rfl, rfl, hf_227⟩ := hw_226
              have hP : va_P G.1 classes [(b18, .inl (G.2 0, 242, .inl b21)), (b1, .inr (6, [.int b22, .int 8, .int 400, .ref b23, .ref b24])), (b23, .inl (G.2 1, 3200, .inr (.inl b25))), (b0, .inr (5, [.int b5, .int b6, .ref b7, .ref b8, .ref b9, .ref b10, .ref b11, .ref b12, .int b13, .ref b14, .ref b15, .ref b16, .ref b17, .ref b18, .ref b19])), (b14, .inl (G.2 0, 240, .inl b20)), (b4, .inr (6, [.int b26, .int 8, .int 10, .ref b27, .ref b28])), (b27, .inl (G.2 1, 80, .inr (.inl f_227)))] H := hP
              have hD := z_tie hP hD rfl
              refine W.widen (k := 0) (n := 0) (Nat.le_of_ble_eq_true rfl) (Nat.le_of_ble_eq_true rfl) ?_
              obtain ⟨v_228, ev_228⟩ : ∃ z : Int32, z = y_211 + 1 := ⟨_, rfl⟩
              obtain ⟨qv_228, hv_228⟩ := zI_add (l := 1) (h := 240) hv_220 zc_1 ev_228 (by decide)
              rw [li_1] at qv_228
              refine lv_iinc (v := v_228) (lv' := [(9, .int v_228), (8, .int v_189), (6, .long y_176), (5, .int y_114), (0, .ref b0), (1, .ref b1), (2, .int b2), (3, .int b3), (4, .ref b4)]) hx hb d_Machine_fan_80 hl (k := 0) rfl (by rw [ev_228]; rfl) (by decide) rfl (fun ls hl => ?_)
              refine lv_goto (tgt := 48) hx hb d_Machine_fan_83 (by decide) ?_
              exact ihk_210 (v_228) (f_227) _ _ _ (zI.wk (l' := 0) (h' := 240) hv_228 (by decide)) hf_227 (zm_up qv_228 hmk_210 (by decide)) (hP.sub [3, 4, 0, 5, 6, 1, 2] rfl) (hD.sub [3, 4, 0, 5, 6, 1, 2] (by decide) rfl) hS (lv_sub hl [0, 1, 2, 3, 4, 5, 6, 7, 8] rfl)
theorem d_Parting_goOn_76 : decode prog_7_method_6_code 76 = .ok (.ireturn, 1) := by decide +kernel
theorem d_Parting_goOn_123 : decode prog_7_method_6_code 123 = .ok (.ireturn, 1) := by decide +kernel
abbrev m_s2_Parting_goOn : Room := { frames := 3, cells := 0, slots := 0, locals := 71 }
set_option maxHeartbeats 4000000 in
set_option maxRecDepth 100000 in
theorem s2_Parting_goOn (l : Launch) (G : zG) (b0 : Nat) (b1 : Nat) (b2 : Int32) (b3 : Int32) (b4 : Int32) (b5 : Nat) (b6 : Int32) (b7 : Int32) (b8 : Nat) (b9 : Nat) (b10 : Nat) (b11 : Nat) (b12 : Nat) (b13 : Int32) (b14 : Nat) (b15 : Nat) (b16 : Nat → Int64) (b17 : Nat → Int32) (b18 : Int32) (b19 : Nat) (b20 : Nat) (b21 : Nat → Int64) (b22 : Nat → Int32) (b23 : Nat → Int32) (b24 : Nat → Int32) (b25 : Int32) (b26 : Int32) (b27 : Nat) (b28 : Nat) (b29 : Nat) (b30 : Nat) (b31 : Nat) (b32 : Nat) (b33 : Int32) (b34 : Nat) (b35 : Nat) (b36 : Nat) (b37 : Nat) (b38 : Nat) (b39 : Nat) (b40 : Nat → Int32) (b41 : Nat → Int32) (hb2 : zI b2 0 399) (hb3 : zI b3 0 1) (hb4 : zI b4 (-2) 8) (hb13 : zI b13 0 400) (hb18 : zI b18 0 10) (hb25 : zI b25 0 1) (hb26 : zI b26 0 241) (hb33 : zI b33 0 240) (hb16 : zqa qB b16) (hb17 : zR b17 (-1) 399) (hb21 : zqa qB b21) (hb22 : zR b22 0 399) (hb23 : zR b23 0 9) (hb24 : zR b24 0 8) (hb40 : zK b40) (hb41 : zR b41 0 240) (hpl : (b24 b2.toNatClampNeg).toInt ≤ 7) (hpc : b2.toInt < b13.toInt) : zM l G y_Parting_goOn prog_7_method_6_code 7 (Option.some Jvm.ClassFile.FieldType.boolean) m_s2_Parting_goOn [.ref b0, .ref b1, .ref b1, .int b2] [(b0, .inr (8, [.int b3, .int b4, .ref b5, .int b6, .int b7, .ref b8, .ref b9, .ref b10, .ref b11, .ref b12])), (b8, .inr (6, [.int b13, .int 8, .int 400, .ref b14, .ref b15])), (b14, .inl (G.2 1, 3200, .inr (.inl b16))), (b15, .inl (G.2 0, 1024, .inl b17)), (b9, .inr (6, [.int b18, .int 8, .int 10, .ref b19, .ref b20])), (b19, .inl (G.2 1, 80, .inr (.inl b21))), (b10, .inl (G.2 0, 400, .inl b22)), (b11, .inl (G.2 0, 400, .inl b23)), (b12, .inl (G.2 0, 400, .inl b24)), (b1, .inr (5, [.int b25, .int b26, .ref b27, .ref b28, .ref b29, .ref b30, .ref b31, .ref b32, .int b33, .ref b34, .ref b35, .ref b36, .ref b37, .ref b38, .ref b39])), (b34, .inl (G.2 0, 240, .inl b40)), (b38, .inl (G.2 0, 242, .inl b41))] (fun v w => ∃ (e0 : Int32), ∃ (e1 : Int32), ∃ (e2 : Nat → Int64), ∃ (e3 : Nat → Int32), ∃ (e4 : Nat → Int64), ∃ (e5 : Nat → Int32), ∃ (e6 : Nat → Int32), ∃ (e7 : Nat → Int32), v = some (.int e0) ∧ w = [(b0, .inr (8, [.int b3, .int b4, .ref b5, .int b6, .int b7, .ref b8, .ref b9, .ref b10, .ref b11, .ref b12])), (b8, .inr (6, [.int e1, .int 8, .int 400, .ref b14, .ref b15])), (b14, .inl (G.2 1, 3200, .inr (.inl e2))), (b15, .inl (G.2 0, 1024, .inl e3)), (b9, .inr (6, [.int b18, .int 8, .int 10, .ref b19, .ref b20])), (b19, .inl (G.2 1, 80, .inr (.inl e4))), (b10, .inl (G.2 0, 400, .inl e5)), (b11, .inl (G.2 0, 400, .inl e6)), (b12, .inl (G.2 0, 400, .inl e7)), (b1, .inr (5, [.int b25, .int b26, .ref b27, .ref b28, .ref b29, .ref b30, .ref b31, .ref b32, .int b33, .ref b34, .ref b35, .ref b36, .ref b37, .ref b38, .ref b39])), (b34, .inl (G.2 0, 240, .inl b40)), (b38, .inl (G.2 0, 242, .inl b41))] ∧ (zI e0 0 1) ∧ (zI e1 0 400) ∧ (zqa qB e2) ∧ (zR e3 (-1) 399) ∧ (zqa qB e4) ∧ (zR e5 0 399) ∧ (zR e6 0 9) ∧ (zR e7 0 8)) := by
  refine z_start (by decide +kernel) (Nat.le_of_ble_eq_true rfl) ?_
  intro p e s m below meth c A Z hr hnm hA hP hD hS ls hl
  have Z : zC p s m _ meth c prog_7_method_6_code 7 "TraceMachines$Parting" G := Z
  obtain ⟨hx, hb, hml, hown, hts, hK, hN, hlocks⟩ := id Z
  have hl : lv_has ls 7 [(0, .ref b0), (1, .ref b1), (2, .ref b1), (3, .int b2)] := hl
  refine lv_aload_n hx hb d_Parting_goOn_0 rfl (lv_at hl 0 rfl) ?_
  refine va_get (D := G.1) (ci := 8) (v := .ref b9) (C := R_Parting) (T := F_Parting) (N := 10) hx hb hts i_Parting hown hK hP 0 rfl rfl 6 (by decide) (hts _ q308) (fun _ h9 => h9) rfl d_Parting_goOn_1 ?_
  refine z_callV (index := 71) (As := []) (rest := []) (wr := [(b0, .inr (8, [.int b3, .int b4, .ref b5, .int b6, .int b7, .ref b8, .ref b9, .ref b10, .ref b11, .ref b12])), (b8, .inr (6, [.int b13, .int 8, .int 400, .ref b14, .ref b15])), (b14, .inl (G.2 1, 3200, .inr (.inl b16))), (b15, .inl (G.2 0, 1024, .inl b17)), (b10, .inl (G.2 0, 400, .inl b22)), (b11, .inl (G.2 0, 400, .inl b23)), (b12, .inl (G.2 0, 400, .inl b24)), (b1, .inr (5, [.int b25, .int b26, .ref b27, .ref b28, .ref b29, .ref b30, .ref b31, .ref b32, .int b33, .ref b34, .ref b35, .ref b36, .ref b37, .ref b38, .ref b39])), (b34, .inl (G.2 0, 240, .inl b40)), (b38, .inl (G.2 0, 242, .inl b41))]) Z (s3_Sets_clear l G (b9) (b18) (b19) (b20) (b21) hb18 hb21) hl.1 q882 q705 q706 q7 q707 ⟨by decide, by decide, by show _ = some 0; decide +kernel⟩ ⟨Nat.le_of_ble_eq_true rfl, Nat.le_of_ble_eq_true rfl⟩ ⟨Nat.le_of_ble_eq_true rfl, Nat.le_of_ble_eq_true rfl⟩ rfl (Nat.le_of_ble_eq_true rfl) d_Parting_goOn_4 hP hD hS hA 4 6 rfl rfl rfl [4, 5] [0, 1, 2, 3, 6, 7, 8, 9, 10, 11] rfl rfl rfl rfl (by decide) (fun v w1 H locs hw_1 hP hD hS => ?_)
  obtain ⟨f_2, rfl, rfl, hf_2⟩ := hw_1
  have hP : va_P G.1 classes [(b0, .inr (8, [.int b3, .int b4, .ref b5, .int b6, .int b7, .ref b8, .ref b9, .ref b10, .ref b11, .ref b12])), (b8, .inr (6, [.int b13, .int 8, .int 400, .ref b14, .ref b15])), (b14, .inl (G.2 1, 3200, .inr (.inl b16))), (b15, .inl (G.2 0, 1024, .inl b17)), (b10, .inl (G.2 0, 400, .inl b22)), (b11, .inl (G.2 0, 400, .inl b23)), (b12, .inl (G.2 0, 400, .inl b24)), (b1, .inr (5, [.int b25, .int b26, .ref b27, .ref b28, .ref b29, .ref b30, .ref b31, .ref b32, .int b33, .ref b34, .ref b35, .ref b36, .ref b37, .ref b38, .ref b39])), (b34, .inl (G.2 0, 240, .inl b40)), (b38, .inl (G.2 0, 242, .inl b41)), (b9, .inr (6, [.int b18, .int 8, .int 10, .ref b19, .ref b20])), (b19, .inl (G.2 1, 80, .inr (.inl f_2)))] H := hP
  have hD := z_tie hP hD rfl
  refine W.widen (k := 0) (n := 0) (Nat.le_of_ble_eq_true rfl) (Nat.le_of_ble_eq_true rfl) ?_
  refine lv_aload_n hx hb d_Parting_goOn_7 rfl (lv_at hl 1 rfl) ?_
  refine lv_aload_n hx hb d_Parting_goOn_8 rfl (lv_at hl 0 rfl) ?_
  refine va_get (D := G.1) (ci := 8) (v := .ref b8) (C := R_Parting) (T := F_Parting) (N := 10) hx hb hts i_Parting hown hK hP 0 rfl rfl 5 (by decide) (hts _ q307) (fun _ h9 => h9) rfl d_Parting_goOn_9 ?_
  refine lv_iload_n hx hb d_Parting_goOn_12 rfl (lv_at hl 3 rfl) ?_
  refine lv_iconst (v := 0) hx hb d_Parting_goOn_13 (by decide) ?_
  refine lv_aload_n hx hb d_Parting_goOn_14 rfl (lv_at hl 0 rfl) ?_
  refine va_get (D := G.1) (ci := 8) (v := .ref b9) (C := R_Parting) (T := F_Parting) (N := 10) hx hb hts i_Parting hown hK hP 0 rfl rfl 6 (by decide) (hts _ q308) (fun _ h9 => h9) rfl d_Parting_goOn_15 ?_
  refine z_callV (index := 88) (As := [.ref b8, .int b2, .int 0, .ref b9]) (rest := []) (wr := [(b0, .inr (8, [.int b3, .int b4, .ref b5, .int b6, .int b7, .ref b8, .ref b9, .ref b10, .ref b11, .ref b12])), (b15, .inl (G.2 0, 1024, .inl b17)), (b10, .inl (G.2 0, 400, .inl b22)), (b11, .inl (G.2 0, 400, .inl b23)), (b12, .inl (G.2 0, 400, .inl b24))]) Z (s2_Machine_fan l G (b1) (b8) (b2) (0) (b9) (b25) (b26) (b27) (b28) (b29) (b30) (b31) (b32) (b33) (b34) (b35) (b36) (b37) (b38) (b39) (b40) (b41) (b13) (b14) (b15) (b16) (b18) (b19) (b20) (f_2) hb2 (zI.wk (l' := 0) (h' := 1) zc_0 (by decide)) hb25 hb26 hb33 hb13 hb18 hb40 hb41 hb16 hf_2) hl.1 q895 q854 q855 q6 q856 ⟨by decide, by decide, by show _ = some 4; decide +kernel⟩ ⟨Nat.le_of_ble_eq_true rfl, Nat.le_of_ble_eq_true rfl⟩ ⟨Nat.le_of_ble_eq_true rfl, Nat.le_of_ble_eq_true rfl⟩ rfl (Nat.le_of_ble_eq_true rfl) d_Parting_goOn_18 hP hD hS hA 7 5 rfl rfl rfl [7, 8, 9, 1, 2, 10, 11] [0, 3, 4, 5, 6] rfl rfl rfl rfl (by decide) (fun v w1 H locs hw_3 hP hD hS => ?_)
  obtain ⟨f_4, rfl, rfl, hf_4⟩ := hw_3
  have hP : va_P G.1 classes [(b0, .inr (8, [.int b3, .int b4, .ref b5, .int b6, .int b7, .ref b8, .ref b9, .ref b10, .ref b11, .ref b12])), (b15, .inl (G.2 0, 1024, .inl b17)), (b10, .inl (G.2 0, 400, .inl b22)), (b11, .inl (G.2 0, 400, .inl b23)), (b12, .inl (G.2 0, 400, .inl b24)), (b1, .inr (5, [.int b25, .int b26, .ref b27, .ref b28, .ref b29, .ref b30, .ref b31, .ref b32, .int b33, .ref b34, .ref b35, .ref b36, .ref b37, .ref b38, .ref b39])), (b34, .inl (G.2 0, 240, .inl b40)), (b38, .inl (G.2 0, 242, .inl b41)), (b8, .inr (6, [.int b13, .int 8, .int 400, .ref b14, .ref b15])), (b14, .inl (G.2 1, 3200, .inr (.inl b16))), (b9, .inr (6, [.int b18, .int 8, .int 10, .ref b19, .ref b20])), (b19, .inl (G.2 1, 80, .inr (.inl f_4)))] H := hP
  have hD := z_tie hP hD rfl
  refine W.widen (k := 0) (n := 0) (Nat.le_of_ble_eq_true rfl) (Nat.le_of_ble_eq_true rfl) ?_
  refine lv_aload_n hx hb d_Parting_goOn_21 rfl (lv_at hl 2 rfl) ?_
  refine lv_aload_n hx hb d_Parting_goOn_22 rfl (lv_at hl 0 rfl) ?_
  refine va_get (D := G.1) (ci := 8) (v := .ref b8) (C := R_Parting) (T := F_Parting) (N := 10) hx hb hts i_Parting hown hK hP 0 rfl rfl 5 (by decide) (hts _ q307) (fun _ h9 => h9) rfl d_Parting_goOn_23 ?_
  refine lv_iload_n hx hb d_Parting_goOn_26 rfl (lv_at hl 3 rfl) ?_
  refine lv_iconst (v := 1) hx hb d_Parting_goOn_27 (by decide) ?_
  refine lv_aload_n hx hb d_Parting_goOn_28 rfl (lv_at hl 0 rfl) ?_
  refine va_get (D := G.1) (ci := 8) (v := .ref b9) (C := R_Parting) (T := F_Parting) (N := 10) hx hb hts i_Parting hown hK hP 0 rfl rfl 6 (by decide) (hts _ q308) (fun _ h9 => h9) rfl d_Parting_goOn_29 ?_
  refine z_callV (index := 88) (As := [.ref b8, .int b2, .int 1, .ref b9]) (rest := []) (wr := [(b0, .inr (8, [.int b3, .int b4, .ref b5, .int b6, .int b7, .ref b8, .ref b9, .ref b10, .ref b11, .ref b12])), (b15, .inl (G.2 0, 1024, .inl b17)), (b10, .inl (G.2 0, 400, .inl b22)), (b11, .inl (G.2 0, 400, .inl b23)), (b12, .inl (G.2 0, 400, .inl b24))]) Z (s2_Machine_fan l G (b1) (b8) (b2) (1) (b9) (b25) (b26) (b27) (b28) (b29) (b30) (b31) (b32) (b33) (b34) (b35) (b36) (b37) (b38) (b39) (b40) (b41) (b13) (b14) (b15) (b16) (b18) (b19) (b20) (f_4) hb2 (zI.wk (l' := 0) (h' := 1) zc_1 (by decide)) hb25 hb26 hb33 hb13 hb18 hb40 hb41 hb16 hf_4) hl.1 q895 q854 q855 q6 q856 ⟨by decide, by decide, by show _ = some 4; decide +kernel⟩ ⟨Nat.le_of_ble_eq_true rfl, Nat.le_of_ble_eq_true rfl⟩ ⟨Nat.le_of_ble_eq_true rfl, Nat.le_of_ble_eq_true rfl⟩ rfl (Nat.le_of_ble_eq_true rfl) d_Parting_goOn_32 hP hD hS hA 5 5 rfl rfl rfl [5, 6, 7, 8, 9, 10, 11] [0, 1, 2, 3, 4] rfl rfl rfl rfl (by decide) (fun v w1 H locs hw_5 hP hD hS => ?_)
  obtain ⟨f_6, rfl, rfl, hf_6⟩ := hw_5
  have hP : va_P G.1 classes [(b0, .inr (8, [.int b3, .int b4, .ref b5, .int b6, .int b7, .ref b8, .ref b9, .ref b10, .ref b11, .ref b12])), (b15, .inl (G.2 0, 1024, .inl b17)), (b10, .inl (G.2 0, 400, .inl b22)), (b11, .inl (G.2 0, 400, .inl b23)), (b12, .inl (G.2 0, 400, .inl b24)), (b1, .inr (5, [.int b25, .int b26, .ref b27, .ref b28, .ref b29, .ref b30, .ref b31, .ref b32, .int b33, .ref b34, .ref b35, .ref b36, .ref b37, .ref b38, .ref b39])), (b34, .inl (G.2 0, 240, .inl b40)), (b38, .inl (G.2 0, 242, .inl b41)), (b8, .inr (6, [.int b13, .int 8, .int 400, .ref b14, .ref b15])), (b14, .inl (G.2 1, 3200, .inr (.inl b16))), (b9, .inr (6, [.int b18, .int 8, .int 10, .ref b19, .ref b20])), (b19, .inl (G.2 1, 80, .inr (.inl f_6)))] H := hP
  have hD := z_tie hP hD rfl
  refine W.widen (k := 0) (n := 0) (Nat.le_of_ble_eq_true rfl) (Nat.le_of_ble_eq_true rfl) ?_
  refine lv_iconst (v := 0) hx hb d_Parting_goOn_35 (by decide) ?_
  refine lv_istore (lv' := [(4, .int 0), (0, .ref b0), (1, .ref b1), (2, .ref b1), (3, .int b2)]) hx hb d_Parting_goOn_36 hl (by decide) rfl (fun ls hl => ?_)
  suffices key : ∀ (k_42 : Nat) (y_43 : Int32) (y_44 : Int32) (y_45 : Nat → Int32) (y_46 : Nat → Int32) (y_47 : Nat → Int32) (y_48 : Nat → Int64) (y_49 : Nat → Int32) (H : Heap) (locs : List Loc) (ls : Array Slot), (zI y_43 0 10) → (zI y_44 0 400) → (zR y_45 0 399) → (zR y_46 0 9) → (zR y_47 0 8) → (zqa qB y_48) → (zR y_49 (-1) 399) → ((y_47 b2.toNatClampNeg).toInt ≤ 7) → (b2.toInt < y_44.toInt) → (10 : Int) - y_43.toInt < (k_42 : Int) → va_P G.1 classes [(b0, .inr (8, [.int b3, .int b4, .ref b5, .int b6, .int b7, .ref b8, .ref b9, .ref b10, .ref b11, .ref b12])), (b15, .inl (G.2 0, 1024, .inl y_49)), (b10, .inl (G.2 0, 400, .inl y_45)), (b11, .inl (G.2 0, 400, .inl y_46)), (b12, .inl (G.2 0, 400, .inl y_47)), (b1, .inr (5, [.int b25, .int b26, .ref b27, .ref b28, .ref b29, .ref b30, .ref b31, .ref b32, .int b33, .ref b34, .ref b35, .ref b36, .ref b37, .ref b38, .ref b39])), (b34, .inl (G.2 0, 240, .inl b40)), (b38, .inl (G.2 0, 242, .inl b41)), (b8, .inr (6, [.int y_44, .int 8, .int 400, .ref b14, .ref b15])), (b14, .inl (G.2 1, 3200, .inr (.inl y_48))), (b9, .inr (6, [.int b18, .int 8, .int 10, .ref b19, .ref b20])), (b19, .inl (G.2 1, 80, .inr (.inl f_6)))] H → va_D A [(b0, .inr (8, [.int b3, .int b4, .ref b5, .int b6, .int b7, .ref b8, .ref b9, .ref b10, .ref b11, .ref b12])), (b15, .inl (G.2 0, 1024, .inl y_49)), (b10, .inl (G.2 0, 400, .inl y_45)), (b11, .inl (G.2 0, 400, .inl y_46)), (b12, .inl (G.2 0, 400, .inl y_47)), (b1, .inr (5, [.int b25, .int b26, .ref b27, .ref b28, .ref b29, .ref b30, .ref b31, .ref b32, .int b33, .ref b34, .ref b35, .ref b36, .ref b37, .ref b38, .ref b39])), (b34, .inl (G.2 0, 240, .inl b40)), (b38, .inl (G.2 0, 242, .inl b41)), (b8, .inr (6, [.int y_44, .int 8, .int 400, .ref b14, .ref b15])), (b14, .inl (G.2 1, 3200, .inr (.inl y_48))), (b9, .inr (6, [.int b18, .int 8, .int 10, .ref b19, .ref b20])), (b19, .inl (G.2 1, 80, .inr (.inl f_6)))] → va_S A s.heap H locs → lv_has ls 7 [(4, .int y_43), (0, .ref b0), (1, .ref b1), (2, .ref b1), (3, .int b2)] → W p l e m_s2_Parting_goOn s m ([.ref b0, .ref b1, .ref b1, .int b2] : List Value).toArray below meth c H locs 0 0 (MQ below (zQ G (fun v w => ∃ (e0 : Int32), ∃ (e1 : Int32), ∃ (e2 : Nat → Int64), ∃ (e3 : Nat → Int32), ∃ (e4 : Nat → Int64), ∃ (e5 : Nat → Int32), ∃ (e6 : Nat → Int32), ∃ (e7 : Nat → Int32), v = some (.int e0) ∧ w = [(b0, .inr (8, [.int b3, .int b4, .ref b5, .int b6, .int b7, .ref b8, .ref b9, .ref b10, .ref b11, .ref b12])), (b8, .inr (6, [.int e1, .int 8, .int 400, .ref b14, .ref b15])), (b14, .inl (G.2 1, 3200, .inr (.inl e2))), (b15, .inl (G.2 0, 1024, .inl e3)), (b9, .inr (6, [.int b18, .int 8, .int 10, .ref b19, .ref b20])), (b19, .inl (G.2 1, 80, .inr (.inl e4))), (b10, .inl (G.2 0, 400, .inl e5)), (b11, .inl (G.2 0, 400, .inl e6)), (b12, .inl (G.2 0, 400, .inl e7)), (b1, .inr (5, [.int b25, .int b26, .ref b27, .ref b28, .ref b29, .ref b30, .ref b31, .ref b32, .int b33, .ref b34, .ref b35, .ref b36, .ref b37, .ref b38, .ref b39])), (b34, .inl (G.2 0, 240, .inl b40)), (b38, .inl (G.2 0, 242, .inl b41))] ∧ (zI e0 0 1) ∧ (zI e1 0 400) ∧ (zqa qB e2) ∧ (zR e3 (-1) 399) ∧ (zqa qB e4) ∧ (zR e5 0 399) ∧ (zR e6 0 9) ∧ (zR e7 0 8)) A) ([.ref b0, .ref b1, .ref b1, .int b2] : List Value).toArray s m_s2_Parting_goOn.cells m_s2_Parting_goOn.slots A) (F0 m 38 ls []) by
    exact key 11 (0) (b13) (b22) (b23) (b24) (b16) (b17) _ _ _ (zI.wk (l' := 0) (h' := 10) zc_0 (by decide)) hb13 hb22 hb23 hb24 hb16 hb17 hpl (by omega) (zm_upi (zI.wk (l' := 0) (h' := 10) zc_0 (by decide)) (by decide)) hP hD hS (lv_sub hl [0, 1, 2, 3, 4] rfl)
  intro k_42
  induction k_42 with
  | zero =>
    intro y_43 y_44 y_45 y_46 y_47 y_48 y_49 H locs ls hy_43 hy_44 hy_45 hy_46 hy_47 hy_48 hy_49 hli_50 hli_51 hmk_42 hP hD hS hl
    exact (zm_up0 hy_43 hmk_42).elim
  | succ k_42 ihk_42 =>
    intro y_43 y_44 y_45 y_46 y_47 y_48 y_49 H locs ls hy_43 hy_44 hy_45 hy_46 hy_47 hy_48 hy_49 hli_50 hli_51 hmk_42 hP hD hS hl
    refine lv_iload hx hb d_Parting_goOn_38 (lv_at hl 0 rfl) ?_
    refine lv_bipush (v := 10) hx hb d_Parting_goOn_40 (by decide) ?_
    refine lv_icmp_ge (tgt := 122) hx hb d_Parting_goOn_42 (by decide) (fun hc_52 => ?_) (fun hc_52 => ?_)
    · have _nhc_52 := hc_52
      have ni_53 := (fa_le _ _).mp hc_52
      rw [li_10] at ni_53
      have hv_54 : zI y_43 10 10 := zI.le_r zc_10 hy_43 hc_52 (by decide)
      refine lv_iconst (v := 1) hx hb d_Parting_goOn_122 (by decide) ?_
      exact z_zret hx hb hr hlocks rfl (hP.sub [0, 8, 9, 1, 10, 11, 2, 3, 4, 5, 6, 7] rfl) (hD.sub [0, 8, 9, 1, 10, 11, 2, 3, 4, 5, 6, 7] (by decide) rfl) hS (Nat.le_of_ble_eq_true rfl) (Nat.le_of_ble_eq_true rfl) d_Parting_goOn_123 ⟨1, y_44, y_48, y_49, f_6, y_45, y_46, y_47, rfl, rfl, (zI.wk (l' := 0) (h' := 1) zc_1 (by decide)), hy_44, hy_48, hy_49, hf_6, hy_45, hy_46, hy_47⟩
    · have _nhc_52 := hc_52
      have ni_55 := (fa_lt _ _).mp (zi_nle hc_52)
      rw [li_10] at ni_55
      have hv_56 : zI y_43 0 9 := zI.lt_l hy_43 zc_10 (zi_nle hc_52) (by decide)
      refine lv_aload_n hx hb d_Parting_goOn_45 rfl (lv_at hl 1 rfl) ?_
      refine va_get (D := G.1) (ci := 8) (v := .ref b8) (C := R_Parting) (T := F_Parting) (N := 10) hx hb hts i_Parting hown hK hP 0 rfl rfl 5 (by decide) (hts _ q307) (fun _ h9 => h9) rfl d_Parting_goOn_46 ?_
      refine va_get (D := G.1) (ci := 6) (v := .int y_44) (C := R_Sets) (T := F_Sets) (N := 5) hx hb hts i_Sets hown hK hP 8 rfl rfl 0 (by decide) (hts _ q241) (fun _ h9 => h9) rfl d_Parting_goOn_49 ?_
      refine lv_istore (lv' := [(5, .int y_44), (4, .int y_43), (0, .ref b0), (1, .ref b1), (2, .ref b1), (3, .int b2)]) hx hb d_Parting_goOn_52 hl (by decide) rfl (fun ls hl => ?_)
      refine lv_aload_n hx hb d_Parting_goOn_54 rfl (lv_at hl 2 rfl) ?_
      refine va_get (D := G.1) (ci := 8) (v := .ref b8) (C := R_Parting) (T := F_Parting) (N := 10) hx hb hts i_Parting hown hK hP 0 rfl rfl 5 (by decide) (hts _ q307) (fun _ h9 => h9) rfl d_Parting_goOn_55 ?_
      refine lv_aload_n hx hb d_Parting_goOn_58 rfl (lv_at hl 2 rfl) ?_
      refine va_get (D := G.1) (ci := 8) (v := .ref b9) (C := R_Parting) (T := F_Parting) (N := 10) hx hb hts i_Parting hown hK hP 0 rfl rfl 6 (by decide) (hts _ q308) (fun _ h9 => h9) rfl d_Parting_goOn_59 ?_
      refine lv_iload hx hb d_Parting_goOn_62 (lv_at hl 1 rfl) ?_
      refine z_callV (index := 84) (As := [.ref b9, .int y_43]) (rest := []) (wr := [(b0, .inr (8, [.int b3, .int b4, .ref b5, .int b6, .int b7, .ref b8, .ref b9, .ref b10, .ref b11, .ref b12])), (b10, .inl (G.2 0, 400, .inl y_45)), (b11, .inl (G.2 0, 400, .inl y_46)), (b12, .inl (G.2 0, 400, .inl y_47)), (b1, .inr (5, [.int b25, .int b26, .ref b27, .ref b28, .ref b29, .ref b30, .ref b31, .ref b32, .int b33, .ref b34, .ref b35, .ref b36, .ref b37, .ref b38, .ref b39])), (b34, .inl (G.2 0, 240, .inl b40)), (b38, .inl (G.2 0, 242, .inl b41))]) Z (s2_Sets_indexOf l G (b8) (b9) (y_43) (y_44) (b14) (b15) (y_48) (y_49) (b18) (b19) (b20) (f_6) hv_56 hy_44 hb18 hy_48 hy_49 hf_6) hl.1 q885 q831 q832 q7 q833 ⟨by decide, by decide, by show _ = some 2; decide +kernel⟩ ⟨Nat.le_of_ble_eq_true rfl, Nat.le_of_ble_eq_true rfl⟩ ⟨Nat.le_of_ble_eq_true rfl, Nat.le_of_ble_eq_true rfl⟩ rfl (Nat.le_of_ble_eq_true rfl) d_Parting_goOn_64 hP hD hS hA 8 6 rfl rfl rfl [8, 9, 1, 10, 11] [0, 2, 3, 4, 5, 6, 7] rfl rfl rfl rfl (by decide) (fun v w1 H locs hw_57 hP hD hS => ?_)
      obtain ⟨x_58, x_59, f_60, f_61, rfl, rfl, hx_58, hx_59, hf_60, hf_61, hfx_62⟩ := hw_57
      have hP : va_P G.1 classes [(b0, .inr (8, [.int b3, .int b4, .ref b5, .int b6, .int b7, .ref b8, .ref b9, .ref b10, .ref b11, .ref b12])), (b10, .inl (G.2 0, 400, .inl y_45)), (b11, .inl (G.2 0, 400, .inl y_46)), (b12, .inl (G.2 0, 400, .inl y_47)), (b1, .inr (5, [.int b25, .int b26, .ref b27, .ref b28, .ref b29, .ref b30, .ref b31, .ref b32, .int b33, .ref b34, .ref b35, .ref b36, .ref b37, .ref b38, .ref b39])), (b34, .inl (G.2 0, 240, .inl b40)), (b38, .inl (G.2 0, 242, .inl b41)), (b8, .inr (6, [.int x_59, .int 8, .int 400, .ref b14, .ref b15])), (b14, .inl (G.2 1, 3200, .inr (.inl f_60))), (b15, .inl (G.2 0, 1024, .inl f_61)), (b9, .inr (6, [.int b18, .int 8, .int 10, .ref b19, .ref b20])), (b19, .inl (G.2 1, 80, .inr (.inl f_6)))] H := hP
      have hD := z_tie hP hD rfl
      refine W.widen (k := 0) (n := 0) (Nat.le_of_ble_eq_true rfl) (Nat.le_of_ble_eq_true rfl) ?_
      refine lv_istore (lv' := [(6, .int x_58), (5, .int y_44), (4, .int y_43), (0, .ref b0), (1, .ref b1), (2, .ref b1), (3, .int b2)]) hx hb d_Parting_goOn_67 hl (by decide) rfl (fun ls hl => ?_)
      refine lv_iload hx hb d_Parting_goOn_69 (lv_at hl 0 rfl) ?_
      refine lv_iconst (v := (-1)) hx hb d_Parting_goOn_71 (by decide) ?_
      refine lv_icmp_ne (tgt := 77) hx hb d_Parting_goOn_72 (by decide) (fun hc_63 => ?_) (fun hc_63 => ?_)
      · have _nhc_63 := hc_63
        have ni_64 : ¬ (x_58 : Int32).toInt = ((-1) : Int32).toInt := fun z => hc_63 ((fa_eq _ _).mpr z)
        simp only [li_m1] at ni_64
        have hv_65 : zI x_58 0 399 := zI.ne_lo hx_58 zc_m1 hc_63 (by decide)
        refine lv_iload hx hb d_Parting_goOn_77 (lv_at hl 0 rfl) ?_
        refine lv_iload hx hb d_Parting_goOn_79 (lv_at hl 1 rfl) ?_
        refine lv_icmp_ne (tgt := 116) hx hb d_Parting_goOn_81 (by decide) (fun hc_66 => ?_) (fun hc_66 => ?_)
        · have _nhc_66 := hc_66
          have ni_67 : ¬ (x_58 : Int32).toInt = (y_44 : Int32).toInt := fun z => hc_66 ((fa_eq _ _).mpr z)
          obtain ⟨v_68, ev_68⟩ : ∃ z : Int32, z = y_43 + 1 := ⟨_, rfl⟩
          obtain ⟨qv_68, hv_68⟩ := zI_add (l := 1) (h := 10) hv_56 zc_1 ev_68 (by decide)
          rw [li_1] at qv_68
          refine lv_iinc (v := v_68) (lv' := [(4, .int v_68), (6, .int x_58), (5, .int y_44), (0, .ref b0), (1, .ref b1), (2, .ref b1), (3, .int b2)]) hx hb d_Parting_goOn_116 hl (k := 2) rfl (by rw [ev_68]; rfl) (by decide) rfl (fun ls hl => ?_)
          refine lv_goto (tgt := 38) hx hb d_Parting_goOn_119 (by decide) ?_
          exact ihk_42 (v_68) (x_59) (y_45) (y_46) (y_47) (f_60) (f_61) _ _ _ (zI.wk (l' := 0) (h' := 10) hv_68 (by decide)) hx_59 hy_45 hy_46 hy_47 hf_60 hf_61 hli_50 (by omega) (zm_up qv_68 hmk_42 (by decide)) (hP.sub [0, 9, 1, 2, 3, 4, 5, 6, 7, 8, 10, 11] rfl) (hD.sub [0, 9, 1, 2, 3, 4, 5, 6, 7, 8, 10, 11] (by decide) rfl) hS (lv_sub hl [0, 3, 4, 5, 6] rfl)
        · have _nhc_66 := hc_66
          have ni_69 := (fa_eq _ _).mp hc_66
          have hv_70 : zI y_44 0 399 := zI.eq_l hy_44 hv_65 hc_66.symm
          refine lv_aload_n hx hb d_Parting_goOn_84 rfl (lv_at hl 3 rfl) ?_
          refine va_get (D := G.1) (ci := 8) (v := .ref b10) (C := R_Parting) (T := F_Parting) (N := 10) hx hb hts i_Parting hown hK hP 0 rfl rfl 7 (by decide) (hts _ q309) (fun _ h9 => h9) rfl d_Parting_goOn_85 ?_
          refine lv_iload hx hb d_Parting_goOn_88 (lv_at hl 0 rfl) ?_
          refine lv_iload_n hx hb d_Parting_goOn_90 rfl (lv_at hl 6 rfl) ?_
          refine va_iast hx hb hK hP hD hS 1 0 rfl rfl (zI.inn hv_65 (by decide)) d_Parting_goOn_91 (fun H locs hP hD hS => ?_)
          obtain ⟨f_71, hf_71, gf_71, uf_71, hP, hD⟩ := z_newfu 1 hP hD rfl hy_45 hb2
          have hP : va_P G.1 classes [(b0, .inr (8, [.int b3, .int b4, .ref b5, .int b6, .int b7, .ref b8, .ref b9, .ref b10, .ref b11, .ref b12])), (b10, .inl (G.2 0, 400, .inl f_71)), (b11, .inl (G.2 0, 400, .inl y_46)), (b12, .inl (G.2 0, 400, .inl y_47)), (b1, .inr (5, [.int b25, .int b26, .ref b27, .ref b28, .ref b29, .ref b30, .ref b31, .ref b32, .int b33, .ref b34, .ref b35, .ref b36, .ref b37, .ref b38, .ref b39])), (b34, .inl (G.2 0, 240, .inl b40)), (b38, .inl (G.2 0, 242, .inl b41)), (b8, .inr (6, [.int x_59, .int 8, .int 400, .ref b14, .ref b15])), (b14, .inl (G.2 1, 3200, .inr (.inl f_60))), (b15, .inl (G.2 0, 1024, .inl f_61)), (b9, .inr (6, [.int b18, .int 8, .int 10, .ref b19, .ref b20])), (b19, .inl (G.2 1, 80, .inr (.inl f_6)))] H := hP
          have hD := z_tie hP hD rfl
          refine lv_aload_n hx hb d_Parting_goOn_92 rfl (lv_at hl 3 rfl) ?_
          refine va_get (D := G.1) (ci := 8) (v := .ref b11) (C := R_Parting) (T := F_Parting) (N := 10) hx hb hts i_Parting hown hK hP 0 rfl rfl 8 (by decide) (hts _ q310) (fun _ h9 => h9) rfl d_Parting_goOn_93 ?_
          refine lv_iload hx hb d_Parting_goOn_96 (lv_at hl 0 rfl) ?_
          refine lv_iload hx hb d_Parting_goOn_98 (lv_at hl 2 rfl) ?_
          refine va_iast hx hb hK hP hD hS 2 0 rfl rfl (zI.inn hv_65 (by decide)) d_Parting_goOn_100 (fun H locs hP hD hS => ?_)
          obtain ⟨f_72, hf_72, gf_72, uf_72, hP, hD⟩ := z_newfu 2 hP hD rfl hy_46 hv_56
          have hP : va_P G.1 classes [(b0, .inr (8, [.int b3, .int b4, .ref b5, .int b6, .int b7, .ref b8, .ref b9, .ref b10, .ref b11, .ref b12])), (b10, .inl (G.2 0, 400, .inl f_71)), (b11, .inl (G.2 0, 400, .inl f_72)), (b12, .inl (G.2 0, 400, .inl y_47)), (b1, .inr (5, [.int b25, .int b26, .ref b27, .ref b28, .ref b29, .ref b30, .ref b31, .ref b32, .int b33, .ref b34, .ref b35, .ref b36, .ref b37, .ref b38, .ref b39])), (b34, .inl (G.2 0, 240, .inl b40)), (b38, .inl (G.2 0, 242, .inl b41)), (b8, .inr (6, [.int x_59, .int 8, .int 400, .ref b14, .ref b15])), (b14, .inl (G.2 1, 3200, .inr (.inl f_60))), (b15, .inl (G.2 0, 1024, .inl f_61)), (b9, .inr (6, [.int b18, .int 8, .int 10, .ref b19, .ref b20])), (b19, .inl (G.2 1, 80, .inr (.inl f_6)))] H := hP
          have hD := z_tie hP hD rfl
          refine lv_aload_n hx hb d_Parting_goOn_101 rfl (lv_at hl 3 rfl) ?_
          refine va_get (D := G.1) (ci := 8) (v := .ref b12) (C := R_Parting) (T := F_Parting) (N := 10) hx hb hts i_Parting hown hK hP 0 rfl rfl 9 (by decide) (hts _ q311) (fun _ h9 => h9) rfl d_Parting_goOn_102 ?_
          refine lv_iload hx hb d_Parting_goOn_105 (lv_at hl 0 rfl) ?_
          refine lv_aload_n hx hb d_Parting_goOn_107 rfl (lv_at hl 3 rfl) ?_
          refine va_get (D := G.1) (ci := 8) (v := .ref b12) (C := R_Parting) (T := F_Parting) (N := 10) hx hb hts i_Parting hown hK hP 0 rfl rfl 9 (by decide) (hts _ q311) (fun _ h9 => h9) rfl d_Parting_goOn_108 ?_
          refine lv_iload_n hx hb d_Parting_goOn_111 rfl (lv_at hl 6 rfl) ?_
          refine va_iald hx hb hK hP 3 0 rfl rfl (zI.inn hb2 (by decide)) d_Parting_goOn_112 ?_
          refine lv_topi (fun v_73 ev_73 => ?_)
          have hv_73 : zI v_73 0 8 := (hy_47 _).eq ev_73
          have hv_74 : zI v_73 0 7 := ⟨hv_73.1, by rw [ev_73]; exact hli_50⟩
          refine lv_iconst (v := 1) hx hb d_Parting_goOn_113 (by decide) ?_
          refine lv_iadd hx hb d_Parting_goOn_114 ?_
          refine lv_topi (fun v_75 ev_75 => ?_)
          obtain ⟨qv_75, hv_75⟩ := zI_add (l := 1) (h := 8) hv_74 zc_1 ev_75 (by decide)
          rw [li_1] at qv_75
          refine va_iast hx hb hK hP hD hS 3 0 rfl rfl (zI.inn hv_65 (by decide)) d_Parting_goOn_115 (fun H locs hP hD hS => ?_)
          obtain ⟨f_76, hf_76, gf_76, uf_76, hP, hD⟩ := z_newfu 3 hP hD rfl hy_47 (zI.wk (l' := 0) (h' := 8) hv_75 (by decide))
          have hP : va_P G.1 classes [(b0, .inr (8, [.int b3, .int b4, .ref b5, .int b6, .int b7, .ref b8, .ref b9, .ref b10, .ref b11, .ref b12])), (b10, .inl (G.2 0, 400, .inl f_71)), (b11, .inl (G.2 0, 400, .inl f_72)), (b12, .inl (G.2 0, 400, .inl f_76)), (b1, .inr (5, [.int b25, .int b26, .ref b27, .ref b28, .ref b29, .ref b30, .ref b31, .ref b32, .int b33, .ref b34, .ref b35, .ref b36, .ref b37, .ref b38, .ref b39])), (b34, .inl (G.2 0, 240, .inl b40)), (b38, .inl (G.2 0, 242, .inl b41)), (b8, .inr (6, [.int x_59, .int 8, .int 400, .ref b14, .ref b15])), (b14, .inl (G.2 1, 3200, .inr (.inl f_60))), (b15, .inl (G.2 0, 1024, .inl f_61)), (b9, .inr (6, [.int b18, .int 8, .int 10, .ref b19, .ref b20])), (b19, .inl (G.2 1, 80, .inr (.inl f_6)))] H := hP
          have hD := z_tie hP hD rfl
          obtain ⟨v_77, ev_77⟩ : ∃ z : Int32, z = y_43 + 1 := ⟨_, rfl⟩
          obtain ⟨qv_77, hv_77⟩ := zI_add (l := 1) (h := 10) hv_56 zc_1 ev_77 (by decide)
          rw [li_1] at qv_77
          refine lv_iinc (v := v_77) (lv' := [(4, .int v_77), (6, .int x_58), (5, .int y_44), (0, .ref b0), (1, .ref b1), (2, .ref b1), (3, .int b2)]) hx hb d_Parting_goOn_116 hl (k := 2) rfl (by rw [ev_77]; rfl) (by decide) rfl (fun ls hl => ?_)
          refine lv_goto (tgt := 38) hx hb d_Parting_goOn_119 (by decide) ?_
          exact ihk_42 (v_77) (x_59) (f_71) (f_72) (f_76) (f_60) (f_61) _ _ _ (zI.wk (l' := 0) (h' := 10) hv_77 (by decide)) hx_59 hf_71 hf_72 hf_76 hf_60 hf_61 (by have p9 := z_pl hv_65 (by decide); have p8 := z_pl hb2 (by decide); rw [uf_76, z_at, if_neg (by omega)]; exact hli_50) (by omega) (zm_up qv_77 hmk_42 (by decide)) (hP.sub [0, 9, 1, 2, 3, 4, 5, 6, 7, 8, 10, 11] rfl) (hD.sub [0, 9, 1, 2, 3, 4, 5, 6, 7, 8, 10, 11] (by decide) rfl) hS (lv_sub hl [0, 3, 4, 5, 6] rfl)
      · have _nhc_63 := hc_63
        have ni_78 := (fa_eq _ _).mp hc_63
        rw [li_m1] at ni_78
        have hv_79 : zI x_58 (-1) (-1) := zI.eq_l hx_58 zc_m1 hc_63
        refine lv_iconst (v := 0) hx hb d_Parting_goOn_75 (by decide) ?_
        exact z_zret hx hb hr hlocks rfl (hP.sub [0, 7, 8, 9, 10, 11, 1, 2, 3, 4, 5, 6] rfl) (hD.sub [0, 7, 8, 9, 10, 11, 1, 2, 3, 4, 5, 6] (by decide) rfl) hS (Nat.le_of_ble_eq_true rfl) (Nat.le_of_ble_eq_true rfl) d_Parting_goOn_76 ⟨0, x_59, f_60, f_61, f_6, y_45, y_46, y_47, rfl, rfl, (zI.wk (l' := 0) (h' := 1) zc_0 (by decide)), hx_59, hf_60, hf_61, hf_6, hy_45, hy_46, hy_47⟩
theorem d_Parting_find_59 : decode prog_7_method_4_code 59 = .ok (.return_, 1) := by decide +kernel
theorem d_Parting_find_87 : decode prog_7_method_4_code 87 = .ok (.return_, 1) := by decide +kernel
theorem zc_m2 : zI (-2) (-2) (-2) := ⟨by decide +kernel, by decide +kernel⟩
abbrev m_s1_Parting_find : Room := { frames := 4, cells := 0, slots := 0, locals := 97 }
set_option maxHeartbeats 4000000 in
set_option maxRecDepth 100000 in
theorem s1_Parting_find (l : Launch) (G : zG) (b0 : Nat) (b1 : Nat) (b2 : Int32) (b3 : Int32) (b4 : Nat) (b5 : Int32) (b6 : Int32) (b7 : Nat) (b8 : Nat) (b9 : Nat) (b10 : Nat) (b11 : Nat) (b12 : Nat → Int32) (b13 : Int32) (b14 : Nat) (b15 : Nat) (b16 : Nat → Int64) (b17 : Nat → Int32) (b18 : Int32) (b19 : Nat) (b20 : Nat) (b21 : Nat → Int64) (b22 : Nat → Int32) (b23 : Nat → Int32) (b24 : Nat → Int32) (b25 : Int32) (b26 : Int32) (b27 : Nat) (b28 : Nat) (b29 : Nat) (b30 : Nat) (b31 : Nat) (b32 : Nat) (b33 : Int32) (b34 : Nat) (b35 : Nat) (b36 : Nat) (b37 : Nat) (b38 : Nat) (b39 : Nat) (b40 : Nat → Int64) (b41 : Nat → Int32) (b42 : Nat → Int32) (hb2 : zI b2 0 1) (hb3 : zI b3 (-2) 8) (hb13 : zI b13 0 400) (hb18 : zI b18 0 10) (hb25 : zI b25 0 1) (hb26 : zI b26 0 241) (hb33 : zI b33 0 240) (hb12 : zR b12 0 9) (hb16 : zqa qB b16) (hb17 : zR b17 (-1) 399) (hb21 : zqa qB b21) (hb22 : zR b22 0 399) (hb23 : zR b23 0 9) (hb24 : zR b24 0 8) (hb41 : zK b41) (hb42 : zR b42 0 240) : zM l G y_Parting_find prog_7_method_4_code 4 (Option.none : Option Jvm.ClassFile.FieldType) m_s1_Parting_find [.ref b0, .ref b1, .ref b1] [(b0, .inr (8, [.int b2, .int b3, .ref b4, .int b5, .int b6, .ref b7, .ref b8, .ref b9, .ref b10, .ref b11])), (b4, .inl (G.2 0, 8, .inl b12)), (b7, .inr (6, [.int b13, .int 8, .int 400, .ref b14, .ref b15])), (b14, .inl (G.2 1, 3200, .inr (.inl b16))), (b15, .inl (G.2 0, 1024, .inl b17)), (b8, .inr (6, [.int b18, .int 8, .int 10, .ref b19, .ref b20])), (b19, .inl (G.2 1, 80, .inr (.inl b21))), (b9, .inl (G.2 0, 400, .inl b22)), (b10, .inl (G.2 0, 400, .inl b23)), (b11, .inl (G.2 0, 400, .inl b24)), (b1, .inr (5, [.int b25, .int b26, .ref b27, .ref b28, .ref b29, .ref b30, .ref b31, .ref b32, .int b33, .ref b34, .ref b35, .ref b36, .ref b37, .ref b38, .ref b39])), (b32, .inl (G.2 1, 4, .inr (.inl b40))), (b34, .inl (G.2 0, 240, .inl b41)), (b38, .inl (G.2 0, 242, .inl b42))] (fun v w => ∃ (e0 : Int32), ∃ (e1 : Nat → Int32), ∃ (e2 : Int32), ∃ (e3 : Nat → Int64), ∃ (e4 : Nat → Int32), ∃ (e5 : Nat → Int64), ∃ (e6 : Nat → Int32), ∃ (e7 : Nat → Int32), ∃ (e8 : Nat → Int32), v = none ∧ w = [(b0, .inr (8, [.int b2, .int e0, .ref b4, .int b5, .int b6, .ref b7, .ref b8, .ref b9, .ref b10, .ref b11])), (b4, .inl (G.2 0, 8, .inl e1)), (b7, .inr (6, [.int e2, .int 8, .int 400, .ref b14, .ref b15])), (b14, .inl (G.2 1, 3200, .inr (.inl e3))), (b15, .inl (G.2 0, 1024, .inl e4)), (b8, .inr (6, [.int b18, .int 8, .int 10, .ref b19, .ref b20])), (b19, .inl (G.2 1, 80, .inr (.inl e5))), (b9, .inl (G.2 0, 400, .inl e6)), (b10, .inl (G.2 0, 400, .inl e7)), (b11, .inl (G.2 0, 400, .inl e8)), (b1, .inr (5, [.int b25, .int b26, .ref b27, .ref b28, .ref b29, .ref b30, .ref b31, .ref b32, .int b33, .ref b34, .ref b35, .ref b36, .ref b37, .ref b38, .ref b39])), (b32, .inl (G.2 1, 4, .inr (.inl b40))), (b34, .inl (G.2 0, 240, .inl b41)), (b38, .inl (G.2 0, 242, .inl b42))] ∧ (zI e0 (-2) 8) ∧ (zR e1 0 9) ∧ (zI e2 0 400) ∧ (zqa qB e3) ∧ (zR e4 (-1) 399) ∧ (zqa qB e5) ∧ (zR e6 0 399) ∧ (zR e7 0 9) ∧ (zR e8 0 8)) := by
  refine z_start (by decide +kernel) (Nat.le_of_ble_eq_true rfl) ?_
  intro p e s m below meth c A Z hr hnm hA hP hD hS ls hl
  have Z : zC p s m _ meth c prog_7_method_4_code 4 "TraceMachines$Parting" G := Z
  obtain ⟨hx, hb, hml, hown, hts, hK, hN, hlocks⟩ := id Z
  have hl : lv_has ls 4 [(0, .ref b0), (1, .ref b1), (2, .ref b1)] := hl
  refine lv_aload_n hx hb d_Parting_find_0 rfl (lv_at hl 0 rfl) ?_
  refine lv_iconst (v := (-1)) hx hb d_Parting_find_1 (by decide) ?_
  refine va_put (D := G.1) (ci := 8) (v := .int (-1)) (ty := .int) (C := R_Parting) (T := F_Parting) (N := 10) hx hb hts i_Parting t_Parting t_Parting_ok n_Parting hown hK hP hD hS 0 rfl rfl 1 (by decide) (hts _ q301) (fun _ h9 => h9) rfl (by decide +kernel) rfl rfl (Nat.le_of_ble_eq_true rfl) d_Parting_find_2 (fun H locs hP hD hS => ?_)
  have hP : va_P G.1 classes [(b0, .inr (8, [.int b2, .int (-1), .ref b4, .int b5, .int b6, .ref b7, .ref b8, .ref b9, .ref b10, .ref b11])), (b4, .inl (G.2 0, 8, .inl b12)), (b7, .inr (6, [.int b13, .int 8, .int 400, .ref b14, .ref b15])), (b14, .inl (G.2 1, 3200, .inr (.inl b16))), (b15, .inl (G.2 0, 1024, .inl b17)), (b8, .inr (6, [.int b18, .int 8, .int 10, .ref b19, .ref b20])), (b19, .inl (G.2 1, 80, .inr (.inl b21))), (b9, .inl (G.2 0, 400, .inl b22)), (b10, .inl (G.2 0, 400, .inl b23)), (b11, .inl (G.2 0, 400, .inl b24)), (b1, .inr (5, [.int b25, .int b26, .ref b27, .ref b28, .ref b29, .ref b30, .ref b31, .ref b32, .int b33, .ref b34, .ref b35, .ref b36, .ref b37, .ref b38, .ref b39])), (b32, .inl (G.2 1, 4, .inr (.inl b40))), (b34, .inl (G.2 0, 240, .inl b41)), (b38, .inl (G.2 0, 242, .inl b42))] H := hP
  have hD := z_tie hP hD rfl
  refine lv_aload_n hx hb d_Parting_find_5 rfl (lv_at hl 0 rfl) ?_
  refine lv_aload_n hx hb d_Parting_find_6 rfl (lv_at hl 1 rfl) ?_
  refine lv_aload_n hx hb d_Parting_find_7 rfl (lv_at hl 2 rfl) ?_
  refine z_callV (index := 50) (As := [.ref b1, .ref b1]) (rest := []) (wr := [(b4, .inl (G.2 0, 8, .inl b12)), (b9, .inl (G.2 0, 400, .inl b22)), (b10, .inl (G.2 0, 400, .inl b23)), (b32, .inl (G.2 1, 4, .inr (.inl b40))), (b34, .inl (G.2 0, 240, .inl b41)), (b38, .inl (G.2 0, 242, .inl b42))]) Z (s2_Parting_begin l G (b0) (b1) (b2) ((-1)) (b4) (b5) (b6) (b7) (b8) (b9) (b10) (b11) (b13) (b14) (b15) (b16) (b17) (b18) (b19) (b20) (b21) (b24) (b25) (b26) (b27) (b28) (b29) (b30) (b31) (b32) (b33) (b34) (b35) (b36) (b37) (b38) (b39) hb2 (zI.wk (l' := (-2)) (h' := 8) zc_m1 (by decide)) hb13 hb18 hb25 hb26 hb33 hb16 hb17 hb21 hb24) hl.1 q878 q880 qs29 q9 q881 ⟨by decide, by decide, by show _ = some 2; decide +kernel⟩ ⟨Nat.le_of_ble_eq_true rfl, Nat.le_of_ble_eq_true rfl⟩ ⟨Nat.le_of_ble_eq_true rfl, Nat.le_of_ble_eq_true rfl⟩ rfl (Nat.le_of_ble_eq_true rfl) d_Parting_find_8 hP hD hS hA 0 8 rfl rfl rfl [0, 2, 3, 4, 5, 6, 9, 10] [1, 7, 8, 11, 12, 13] rfl rfl rfl rfl (by decide) (fun v w1 H locs hw_1 hP hD hS => ?_)
  obtain ⟨x_2, f_3, f_4, f_5, f_6, rfl, rfl, hx_2, hf_3, hf_4, hf_5, hf_6⟩ := hw_1
  have hP : va_P G.1 classes [(b4, .inl (G.2 0, 8, .inl b12)), (b9, .inl (G.2 0, 400, .inl b22)), (b10, .inl (G.2 0, 400, .inl b23)), (b32, .inl (G.2 1, 4, .inr (.inl b40))), (b34, .inl (G.2 0, 240, .inl b41)), (b38, .inl (G.2 0, 242, .inl b42)), (b0, .inr (8, [.int b2, .int (-1), .ref b4, .int b5, .int b6, .ref b7, .ref b8, .ref b9, .ref b10, .ref b11])), (b7, .inr (6, [.int x_2, .int 8, .int 400, .ref b14, .ref b15])), (b14, .inl (G.2 1, 3200, .inr (.inl f_3))), (b15, .inl (G.2 0, 1024, .inl f_4)), (b8, .inr (6, [.int b18, .int 8, .int 10, .ref b19, .ref b20])), (b19, .inl (G.2 1, 80, .inr (.inl f_5))), (b11, .inl (G.2 0, 400, .inl f_6)), (b1, .inr (5, [.int b25, .int b26, .ref b27, .ref b28, .ref b29, .ref b30, .ref b31, .ref b32, .int b33, .ref b34, .ref b35, .ref b36, .ref b37, .ref b38, .ref b39]))] H := hP
  have hD := z_tie hP hD rfl
  refine W.widen (k := 0) (n := 0) (Nat.le_of_ble_eq_true rfl) (Nat.le_of_ble_eq_true rfl) ?_
  refine lv_iconst (v := 0) hx hb d_Parting_find_11 (by decide) ?_
  refine lv_istore_n (lv' := [(3, .int 0), (0, .ref b0), (1, .ref b1), (2, .ref b1)]) hx hb d_Parting_find_12 rfl hl (by decide) rfl (fun ls hl => ?_)
  suffices key : ∀ (k_57 : Nat) (y_58 : Int32) (y_59 : Int32) (y_60 : Nat → Int32) (y_61 : Nat → Int32) (y_62 : Nat → Int64) (y_63 : Nat → Int32) (y_64 : Nat → Int64) (y_65 : Nat → Int32) (H : Heap) (locs : List Loc) (ls : Array Slot), (zI y_58 0 400) → (zI y_59 0 400) → (zR y_60 0 9) → (zR y_61 0 8) → (zqa qB y_62) → (zR y_63 (-1) 399) → (zqa qB y_64) → (zR y_65 0 399) → (400 : Int) - y_58.toInt < (k_57 : Int) → va_P G.1 classes [(b4, .inl (G.2 0, 8, .inl b12)), (b9, .inl (G.2 0, 400, .inl y_65)), (b10, .inl (G.2 0, 400, .inl y_60)), (b32, .inl (G.2 1, 4, .inr (.inl b40))), (b34, .inl (G.2 0, 240, .inl b41)), (b38, .inl (G.2 0, 242, .inl b42)), (b0, .inr (8, [.int b2, .int (-1), .ref b4, .int b5, .int b6, .ref b7, .ref b8, .ref b9, .ref b10, .ref b11])), (b7, .inr (6, [.int y_59, .int 8, .int 400, .ref b14, .ref b15])), (b14, .inl (G.2 1, 3200, .inr (.inl y_62))), (b15, .inl (G.2 0, 1024, .inl y_63)), (b8, .inr (6, [.int b18, .int 8, .int 10, .ref b19, .ref b20])), (b19, .inl (G.2 1, 80, .inr (.inl y_64))), (b11, .inl (G.2 0, 400, .inl y_61)), (b1, .inr (5, [.int b25, .int b26, .ref b27, .ref b28, .ref b29, .ref b30, .ref b31, .ref b32, .int b33, .ref b34, .ref b35, .ref b36, .ref b37, .ref b38, .ref b39]))] H → va_D A [(b4, .inl (G.2 0, 8, .inl b12)), (b9, .inl (G.2 0, 400, .inl y_65)), (b10, .inl (G.2 0, 400, .inl y_60)), (b32, .inl (G.2 1, 4, .inr (.inl b40))), (b34, .inl (G.2 0, 240, .inl b41)), (b38, .inl (G.2 0, 242, .inl b42)), (b0, .inr (8, [.int b2, .int (-1), .ref b4, .int b5, .int b6, .ref b7, .ref b8, .ref b9, .ref b10, .ref b11])), (b7, .inr (6, [.int y_59, .int 8, .int 400, .ref b14, .ref b15])), (b14, .inl (G.2 1, 3200, .inr (.inl y_62))), (b15, .inl (G.2 0, 1024, .inl y_63)), (b8, .inr (6, [.int b18, .int 8, .int 10, .ref b19, .ref b20])), (b19, .inl (G.2 1, 80, .inr (.inl y_64))), (b11, .inl (G.2 0, 400, .inl y_61)), (b1, .inr (5, [.int b25, .int b26, .ref b27, .ref b28, .ref b29, .ref b30, .ref b31, .ref b32, .int b33, .ref b34, .ref b35, .ref b36, .ref b37, .ref b38, .ref b39]))] → va_S A s.heap H locs → lv_has ls 4 [(3, .int y_58), (0, .ref b0), (1, .ref b1), (2, .ref b1)] → W p l e m_s1_Parting_find s m ([.ref b0, .ref b1, .ref b1] : List Value).toArray below meth c H locs 0 0 (MQ below (zQ G (fun v w => ∃ (e0 : Int32), ∃ (e1 : Nat → Int32), ∃ (e2 : Int32), ∃ (e3 : Nat → Int64), ∃ (e4 : Nat → Int32), ∃ (e5 : Nat → Int64), ∃ (e6 : Nat → Int32), ∃ (e7 : Nat → Int32), ∃ (e8 : Nat → Int32), v = none ∧ w = [(b0, .inr (8, [.int b2, .int e0, .ref b4, .int b5, .int b6, .ref b7, .ref b8, .ref b9, .ref b10, .ref b11])), (b4, .inl (G.2 0, 8, .inl e1)), (b7, .inr (6, [.int e2, .int 8, .int 400, .ref b14, .ref b15])), (b14, .inl (G.2 1, 3200, .inr (.inl e3))), (b15, .inl (G.2 0, 1024, .inl e4)), (b8, .inr (6, [.int b18, .int 8, .int 10, .ref b19, .ref b20])), (b19, .inl (G.2 1, 80, .inr (.inl e5))), (b9, .inl (G.2 0, 400, .inl e6)), (b10, .inl (G.2 0, 400, .inl e7)), (b11, .inl (G.2 0, 400, .inl e8)), (b1, .inr (5, [.int b25, .int b26, .ref b27, .ref b28, .ref b29, .ref b30, .ref b31, .ref b32, .int b33, .ref b34, .ref b35, .ref b36, .ref b37, .ref b38, .ref b39])), (b32, .inl (G.2 1, 4, .inr (.inl b40))), (b34, .inl (G.2 0, 240, .inl b41)), (b38, .inl (G.2 0, 242, .inl b42))] ∧ (zI e0 (-2) 8) ∧ (zR e1 0 9) ∧ (zI e2 0 400) ∧ (zqa qB e3) ∧ (zR e4 (-1) 399) ∧ (zqa qB e5) ∧ (zR e6 0 399) ∧ (zR e7 0 9) ∧ (zR e8 0 8)) A) ([.ref b0, .ref b1, .ref b1] : List Value).toArray s m_s1_Parting_find.cells m_s1_Parting_find.slots A) (F0 m 13 ls []) by
    exact key 401 (0) (x_2) (b23) (f_6) (f_3) (f_4) (f_5) (b22) _ _ _ (zI.wk (l' := 0) (h' := 400) zc_0 (by decide)) hx_2 hb23 hf_6 hf_3 hf_4 hf_5 hb22 (zm_upi (zI.wk (l' := 0) (h' := 400) zc_0 (by decide)) (by decide)) hP hD hS (lv_sub hl [0, 1, 2, 3] rfl)
  intro k_57
  induction k_57 with
  | zero =>
    intro y_58 y_59 y_60 y_61 y_62 y_63 y_64 y_65 H locs ls hy_58 hy_59 hy_60 hy_61 hy_62 hy_63 hy_64 hy_65 hmk_57 hP hD hS hl
    exact (zm_up0 hy_58 hmk_57).elim
  | succ k_57 ihk_57 =>
    intro y_58 y_59 y_60 y_61 y_62 y_63 y_64 y_65 H locs ls hy_58 hy_59 hy_60 hy_61 hy_62 hy_63 hy_64 hy_65 hmk_57 hP hD hS hl
    refine lv_iload_n hx hb d_Parting_find_13 rfl (lv_at hl 0 rfl) ?_
    refine lv_sipush (v := 400) hx hb d_Parting_find_14 (by decide) ?_
    refine lv_icmp_ge (tgt := 94) hx hb d_Parting_find_17 (by decide) (fun hc_66 => ?_) (fun hc_66 => ?_)
    · have _nhc_66 := hc_66
      have ni_67 := (fa_le _ _).mp hc_66
      rw [li_400] at ni_67
      have hv_68 : zI y_58 400 400 := zI.le_r zc_400 hy_58 hc_66 (by decide)
      exact z_vret hx hb hr hlocks (hP.sub [6, 0, 7, 8, 9, 10, 11, 1, 2, 12, 13, 3, 4, 5] rfl) (hD.sub [6, 0, 7, 8, 9, 10, 11, 1, 2, 12, 13, 3, 4, 5] (by decide) rfl) hS (Nat.le_of_ble_eq_true rfl) (Nat.le_of_ble_eq_true rfl) d_Parting_find_94 ⟨(-1), b12, y_59, y_62, y_63, y_64, y_65, y_60, y_61, rfl, rfl, (zI.wk (l' := (-2)) (h' := 8) zc_m1 (by decide)), hb12, hy_59, hy_62, hy_63, hy_64, hy_65, hy_60, hy_61⟩
    · have _nhc_66 := hc_66
      have ni_69 := (fa_lt _ _).mp (zi_nle hc_66)
      rw [li_400] at ni_69
      have hv_70 : zI y_58 0 399 := zI.lt_l hy_58 zc_400 (zi_nle hc_66) (by decide)
      refine lv_iload_n hx hb d_Parting_find_20 rfl (lv_at hl 0 rfl) ?_
      refine lv_aload_n hx hb d_Parting_find_21 rfl (lv_at hl 1 rfl) ?_
      refine va_get (D := G.1) (ci := 8) (v := .ref b7) (C := R_Parting) (T := F_Parting) (N := 10) hx hb hts i_Parting hown hK hP 6 rfl rfl 5 (by decide) (hts _ q307) (fun _ h9 => h9) rfl d_Parting_find_22 ?_
      refine va_get (D := G.1) (ci := 6) (v := .int y_59) (C := R_Sets) (T := F_Sets) (N := 5) hx hb hts i_Sets hown hK hP 7 rfl rfl 0 (by decide) (hts _ q241) (fun _ h9 => h9) rfl d_Parting_find_25 ?_
      refine lv_icmp_ge (tgt := 94) hx hb d_Parting_find_28 (by decide) (fun hc_71 => ?_) (fun hc_71 => ?_)
      · have _nhc_71 := hc_71
        have ni_72 := (fa_le _ _).mp hc_71
        have hv_73 : zI y_59 0 399 := zI.le_l hy_59 hv_70 hc_71 (by decide)
        exact z_vret hx hb hr hlocks (hP.sub [6, 0, 7, 8, 9, 10, 11, 1, 2, 12, 13, 3, 4, 5] rfl) (hD.sub [6, 0, 7, 8, 9, 10, 11, 1, 2, 12, 13, 3, 4, 5] (by decide) rfl) hS (Nat.le_of_ble_eq_true rfl) (Nat.le_of_ble_eq_true rfl) d_Parting_find_94 ⟨(-1), b12, y_59, y_62, y_63, y_64, y_65, y_60, y_61, rfl, rfl, (zI.wk (l' := (-2)) (h' := 8) zc_m1 (by decide)), hb12, (zI.wk (l' := 0) (h' := 400) hv_73 (by decide)), hy_62, hy_63, hy_64, hy_65, hy_60, hy_61⟩
      · have _nhc_71 := hc_71
        have ni_74 := (fa_lt _ _).mp (zi_nle hc_71)
        have hv_75 : zI y_59 1 400 := zI.lt_r hv_70 hy_59 (zi_nle hc_71) (by decide)
        refine lv_aload_n hx hb d_Parting_find_31 rfl (lv_at hl 2 rfl) ?_
        refine lv_aload_n hx hb d_Parting_find_32 rfl (lv_at hl 1 rfl) ?_
        refine va_get (D := G.1) (ci := 8) (v := .ref b7) (C := R_Parting) (T := F_Parting) (N := 10) hx hb hts i_Parting hown hK hP 6 rfl rfl 5 (by decide) (hts _ q307) (fun _ h9 => h9) rfl d_Parting_find_33 ?_
        refine lv_iload_n hx hb d_Parting_find_36 rfl (lv_at hl 0 rfl) ?_
        refine lv_iconst (v := 0) hx hb d_Parting_find_37 (by decide) ?_
        refine z_callV (index := 57) (As := [.ref b7, .int y_58, .int 0]) (rest := []) (wr := [(b4, .inl (G.2 0, 8, .inl b12)), (b9, .inl (G.2 0, 400, .inl y_65)), (b10, .inl (G.2 0, 400, .inl y_60)), (b34, .inl (G.2 0, 240, .inl b41)), (b38, .inl (G.2 0, 242, .inl b42)), (b0, .inr (8, [.int b2, .int (-1), .ref b4, .int b5, .int b6, .ref b7, .ref b8, .ref b9, .ref b10, .ref b11])), (b15, .inl (G.2 0, 1024, .inl y_63)), (b8, .inr (6, [.int b18, .int 8, .int 10, .ref b19, .ref b20])), (b19, .inl (G.2 1, 80, .inr (.inl y_64))), (b11, .inl (G.2 0, 400, .inl y_61))]) Z (s3_Machine_takes l G (b1) (b7) (y_58) (0) (b25) (b26) (b27) (b28) (b29) (b30) (b31) (b32) (b33) (b34) (b35) (b36) (b37) (b38) (b39) (b40) (y_59) (b14) (b15) (y_62) hv_70 (zI.wk (l' := 0) (h' := 1) zc_0 (by decide)) hb25 hb26 hb33 (zI.wk (l' := 0) (h' := 400) hv_75 (by decide)) hy_62) hl.1 q886 q743 q744 q6 q745 ⟨by decide, by decide, by show _ = some 3; decide +kernel⟩ ⟨Nat.le_of_ble_eq_true rfl, Nat.le_of_ble_eq_true rfl⟩ ⟨Nat.le_of_ble_eq_true rfl, Nat.le_of_ble_eq_true rfl⟩ rfl (Nat.le_of_ble_eq_true rfl) d_Parting_find_38 hP hD hS hA 13 5 rfl rfl rfl [13, 3, 7, 8] [0, 1, 2, 4, 5, 6, 9, 10, 11, 12] rfl rfl rfl rfl (by decide) (fun v w1 H locs hw_76 hP hD hS => ?_)
        obtain ⟨x_77, rfl, rfl, hx_77⟩ := hw_76
        have hP : va_P G.1 classes [(b4, .inl (G.2 0, 8, .inl b12)), (b9, .inl (G.2 0, 400, .inl y_65)), (b10, .inl (G.2 0, 400, .inl y_60)), (b34, .inl (G.2 0, 240, .inl b41)), (b38, .inl (G.2 0, 242, .inl b42)), (b0, .inr (8, [.int b2, .int (-1), .ref b4, .int b5, .int b6, .ref b7, .ref b8, .ref b9, .ref b10, .ref b11])), (b15, .inl (G.2 0, 1024, .inl y_63)), (b8, .inr (6, [.int b18, .int 8, .int 10, .ref b19, .ref b20])), (b19, .inl (G.2 1, 80, .inr (.inl y_64))), (b11, .inl (G.2 0, 400, .inl y_61)), (b1, .inr (5, [.int b25, .int b26, .ref b27, .ref b28, .ref b29, .ref b30, .ref b31, .ref b32, .int b33, .ref b34, .ref b35, .ref b36, .ref b37, .ref b38, .ref b39])), (b32, .inl (G.2 1, 4, .inr (.inl b40))), (b7, .inr (6, [.int y_59, .int 8, .int 400, .ref b14, .ref b15])), (b14, .inl (G.2 1, 3200, .inr (.inl y_62)))] H := hP
        have hD := z_tie hP hD rfl
        refine W.widen (k := 0) (n := 0) (Nat.le_of_ble_eq_true rfl) (Nat.le_of_ble_eq_true rfl) ?_
        refine lv_aload_n hx hb d_Parting_find_41 rfl (lv_at hl 3 rfl) ?_
        refine lv_aload_n hx hb d_Parting_find_42 rfl (lv_at hl 1 rfl) ?_
        refine va_get (D := G.1) (ci := 8) (v := .ref b7) (C := R_Parting) (T := F_Parting) (N := 10) hx hb hts i_Parting hown hK hP 5 rfl rfl 5 (by decide) (hts _ q307) (fun _ h9 => h9) rfl d_Parting_find_43 ?_
        refine lv_iload_n hx hb d_Parting_find_46 rfl (lv_at hl 0 rfl) ?_
        refine lv_iconst (v := 1) hx hb d_Parting_find_47 (by decide) ?_
        refine z_callV (index := 57) (As := [.ref b7, .int y_58, .int 1]) (rest := [.int x_77]) (wr := [(b4, .inl (G.2 0, 8, .inl b12)), (b9, .inl (G.2 0, 400, .inl y_65)), (b10, .inl (G.2 0, 400, .inl y_60)), (b34, .inl (G.2 0, 240, .inl b41)), (b38, .inl (G.2 0, 242, .inl b42)), (b0, .inr (8, [.int b2, .int (-1), .ref b4, .int b5, .int b6, .ref b7, .ref b8, .ref b9, .ref b10, .ref b11])), (b15, .inl (G.2 0, 1024, .inl y_63)), (b8, .inr (6, [.int b18, .int 8, .int 10, .ref b19, .ref b20])), (b19, .inl (G.2 1, 80, .inr (.inl y_64))), (b11, .inl (G.2 0, 400, .inl y_61))]) Z (s3_Machine_takes l G (b1) (b7) (y_58) (1) (b25) (b26) (b27) (b28) (b29) (b30) (b31) (b32) (b33) (b34) (b35) (b36) (b37) (b38) (b39) (b40) (y_59) (b14) (b15) (y_62) hv_70 (zI.wk (l' := 0) (h' := 1) zc_1 (by decide)) hb25 hb26 hb33 (zI.wk (l' := 0) (h' := 400) hv_75 (by decide)) hy_62) hl.1 q886 q743 q744 q6 q745 ⟨by decide, by decide, by show _ = some 3; decide +kernel⟩ ⟨Nat.le_of_ble_eq_true rfl, Nat.le_of_ble_eq_true rfl⟩ ⟨Nat.le_of_ble_eq_true rfl, Nat.le_of_ble_eq_true rfl⟩ rfl (Nat.le_of_ble_eq_true rfl) d_Parting_find_48 hP hD hS hA 10 5 rfl rfl rfl [10, 11, 12, 13] [0, 1, 2, 3, 4, 5, 6, 7, 8, 9] rfl rfl rfl rfl (by decide) (fun v w1 H locs hw_78 hP hD hS => ?_)
        obtain ⟨x_79, rfl, rfl, hx_79⟩ := hw_78
        have hP : va_P G.1 classes [(b4, .inl (G.2 0, 8, .inl b12)), (b9, .inl (G.2 0, 400, .inl y_65)), (b10, .inl (G.2 0, 400, .inl y_60)), (b34, .inl (G.2 0, 240, .inl b41)), (b38, .inl (G.2 0, 242, .inl b42)), (b0, .inr (8, [.int b2, .int (-1), .ref b4, .int b5, .int b6, .ref b7, .ref b8, .ref b9, .ref b10, .ref b11])), (b15, .inl (G.2 0, 1024, .inl y_63)), (b8, .inr (6, [.int b18, .int 8, .int 10, .ref b19, .ref b20])), (b19, .inl (G.2 1, 80, .inr (.inl y_64))), (b11, .inl (G.2 0, 400, .inl y_61)), (b1, .inr (5, [.int b25, .int b26, .ref b27, .ref b28, .ref b29, .ref b30, .ref b31, .ref b32, .int b33, .ref b34, .ref b35, .ref b36, .ref b37, .ref b38, .ref b39])), (b32, .inl (G.2 1, 4, .inr (.inl b40))), (b7, .inr (6, [.int y_59, .int 8, .int 400, .ref b14, .ref b15])), (b14, .inl (G.2 1, 3200, .inr (.inl y_62)))] H := hP
        have hD := z_tie hP hD rfl
        refine W.widen (k := 0) (n := 0) (Nat.le_of_ble_eq_true rfl) (Nat.le_of_ble_eq_true rfl) ?_
        refine lv_icmp_eq (tgt := 60) hx hb d_Parting_find_51 (by decide) (fun hc_80 => ?_) (fun hc_80 => ?_)
        · have _nhc_80 := hc_80
          have ni_81 := (fa_eq _ _).mp hc_80
          refine lv_aload_n hx hb d_Parting_find_60 rfl (lv_at hl 1 rfl) ?_
          refine va_get (D := G.1) (ci := 8) (v := .ref b11) (C := R_Parting) (T := F_Parting) (N := 10) hx hb hts i_Parting hown hK hP 5 rfl rfl 9 (by decide) (hts _ q311) (fun _ h9 => h9) rfl d_Parting_find_61 ?_
          refine lv_iload_n hx hb d_Parting_find_64 rfl (lv_at hl 0 rfl) ?_
          refine va_iald hx hb hK hP 9 0 rfl rfl (zI.inn hv_70 (by decide)) d_Parting_find_65 ?_
          refine lv_topi (fun v_82 ev_82 => ?_)
          have hv_82 : zI v_82 0 8 := (hy_61 _).eq ev_82
          refine lv_bipush (v := 8) hx hb d_Parting_find_66 (by decide) ?_
          refine lv_icmp_ge (tgt := 88) hx hb d_Parting_find_68 (by decide) (fun hc_83 => ?_) (fun hc_83 => ?_)
          · have _nhc_83 := hc_83
            have ni_84 := (fa_le _ _).mp hc_83
            rw [li_8] at ni_84
            have hv_85 : zI v_82 8 8 := zI.le_r zc_8 hv_82 hc_83 (by decide)
            obtain ⟨v_86, ev_86⟩ : ∃ z : Int32, z = y_58 + 1 := ⟨_, rfl⟩
            obtain ⟨qv_86, hv_86⟩ := zI_add (l := 1) (h := 400) hv_70 zc_1 ev_86 (by decide)
            rw [li_1] at qv_86
            refine lv_iinc (v := v_86) (lv' := [(3, .int v_86), (0, .ref b0), (1, .ref b1), (2, .ref b1)]) hx hb d_Parting_find_88 hl (k := 0) rfl (by rw [ev_86]; rfl) (by decide) rfl (fun ls hl => ?_)
            refine lv_goto (tgt := 13) hx hb d_Parting_find_91 (by decide) ?_
            exact ihk_57 (v_86) (y_59) (y_60) (y_61) (y_62) (y_63) (y_64) (y_65) _ _ _ (zI.wk (l' := 0) (h' := 400) hv_86 (by decide)) (zI.wk (l' := 0) (h' := 400) hv_75 (by decide)) hy_60 hy_61 hy_62 hy_63 hy_64 hy_65 (zm_up qv_86 hmk_57 (by decide)) (hP.sub [0, 1, 2, 11, 3, 4, 5, 12, 13, 6, 7, 8, 9, 10] rfl) (hD.sub [0, 1, 2, 11, 3, 4, 5, 12, 13, 6, 7, 8, 9, 10] (by decide) rfl) hS (lv_sub hl [0, 1, 2, 3] rfl)
          · have _nhc_83 := hc_83
            have ni_87 := (fa_lt _ _).mp (zi_nle hc_83)
            rw [li_8] at ni_87
            have hv_88 : zI v_82 0 7 := zI.lt_l hv_82 zc_8 (zi_nle hc_83) (by decide)
            refine lv_aload_n hx hb d_Parting_find_71 rfl (lv_at hl 1 rfl) ?_
            refine lv_aload_n hx hb d_Parting_find_72 rfl (lv_at hl 2 rfl) ?_
            refine lv_aload_n hx hb d_Parting_find_73 rfl (lv_at hl 3 rfl) ?_
            refine lv_iload_n hx hb d_Parting_find_74 rfl (lv_at hl 0 rfl) ?_
            refine z_callV (index := 67) (As := [.ref b1, .ref b1, .int y_58]) (rest := []) (wr := [(b4, .inl (G.2 0, 8, .inl b12)), (b32, .inl (G.2 1, 4, .inr (.inl b40)))]) Z (s2_Parting_goOn l G (b0) (b1) (y_58) (b2) ((-1)) (b4) (b5) (b6) (b7) (b8) (b9) (b10) (b11) (y_59) (b14) (b15) (y_62) (y_63) (b18) (b19) (b20) (y_64) (y_65) (y_60) (y_61) (b25) (b26) (b27) (b28) (b29) (b30) (b31) (b32) (b33) (b34) (b35) (b36) (b37) (b38) (b39) (b41) (b42) hv_70 hb2 (zI.wk (l' := (-2)) (h' := 8) zc_m1 (by decide)) (zI.wk (l' := 0) (h' := 400) hv_75 (by decide)) hb18 hb25 hb26 hb33 hy_62 hy_63 hy_64 hy_65 hy_60 hy_61 hb41 hb42 (by rw [← ev_82]; omega) (by omega)) hl.1 q891 q893 qs31 q9 q894 ⟨by decide, by decide, by show _ = some 3; decide +kernel⟩ ⟨Nat.le_of_ble_eq_true rfl, Nat.le_of_ble_eq_true rfl⟩ ⟨Nat.le_of_ble_eq_true rfl, Nat.le_of_ble_eq_true rfl⟩ rfl (Nat.le_of_ble_eq_true rfl) d_Parting_find_75 hP hD hS hA 5 8 rfl rfl rfl [5, 12, 13, 6, 7, 8, 1, 2, 9, 10, 3, 4] [0, 11] rfl rfl rfl rfl (by decide) (fun v w1 H locs hw_89 hP hD hS => ?_)
            obtain ⟨x_90, x_91, f_92, f_93, f_94, f_95, f_96, f_97, rfl, rfl, hx_90, hx_91, hf_92, hf_93, hf_94, hf_95, hf_96, hf_97⟩ := hw_89
            have hP : va_P G.1 classes [(b4, .inl (G.2 0, 8, .inl b12)), (b32, .inl (G.2 1, 4, .inr (.inl b40))), (b0, .inr (8, [.int b2, .int (-1), .ref b4, .int b5, .int b6, .ref b7, .ref b8, .ref b9, .ref b10, .ref b11])), (b7, .inr (6, [.int x_91, .int 8, .int 400, .ref b14, .ref b15])), (b14, .inl (G.2 1, 3200, .inr (.inl f_92))), (b15, .inl (G.2 0, 1024, .inl f_93)), (b8, .inr (6, [.int b18, .int 8, .int 10, .ref b19, .ref b20])), (b19, .inl (G.2 1, 80, .inr (.inl f_94))), (b9, .inl (G.2 0, 400, .inl f_95)), (b10, .inl (G.2 0, 400, .inl f_96)), (b11, .inl (G.2 0, 400, .inl f_97)), (b1, .inr (5, [.int b25, .int b26, .ref b27, .ref b28, .ref b29, .ref b30, .ref b31, .ref b32, .int b33, .ref b34, .ref b35, .ref b36, .ref b37, .ref b38, .ref b39])), (b34, .inl (G.2 0, 240, .inl b41)), (b38, .inl (G.2 0, 242, .inl b42))] H := hP
            have hD := z_tie hP hD rfl
            refine W.widen (k := 0) (n := 0) (Nat.le_of_ble_eq_true rfl) (Nat.le_of_ble_eq_true rfl) ?_
            refine lv_if_ne (tgt := 88) hx hb d_Parting_find_78 (by decide) (fun hc_98 => ?_) (fun hc_98 => ?_)
            · have _nhc_98 := hc_98
              have ni_99 : ¬ (x_90 : Int32).toInt = (0 : Int32).toInt := fun z => hc_98 ((fa_eq _ _).mpr z)
              simp only [li_0] at ni_99
              have hv_100 : zI x_90 1 1 := zI.ne_lo hx_90 zc_0 hc_98 (by decide)
              obtain ⟨v_101, ev_101⟩ : ∃ z : Int32, z = y_58 + 1 := ⟨_, rfl⟩
              obtain ⟨qv_101, hv_101⟩ := zI_add (l := 1) (h := 400) hv_70 zc_1 ev_101 (by decide)
              rw [li_1] at qv_101
              refine lv_iinc (v := v_101) (lv' := [(3, .int v_101), (0, .ref b0), (1, .ref b1), (2, .ref b1)]) hx hb d_Parting_find_88 hl (k := 0) rfl (by rw [ev_101]; rfl) (by decide) rfl (fun ls hl => ?_)
              refine lv_goto (tgt := 13) hx hb d_Parting_find_91 (by decide) ?_
              exact ihk_57 (v_101) (x_91) (f_96) (f_97) (f_92) (f_93) (f_94) (f_95) _ _ _ (zI.wk (l' := 0) (h' := 400) hv_101 (by decide)) hx_91 hf_96 hf_97 hf_92 hf_93 hf_94 hf_95 (zm_up qv_101 hmk_57 (by decide)) (hP.sub [0, 8, 9, 1, 12, 13, 2, 3, 4, 5, 6, 7, 10, 11] rfl) (hD.sub [0, 8, 9, 1, 12, 13, 2, 3, 4, 5, 6, 7, 10, 11] (by decide) rfl) hS (lv_sub hl [0, 1, 2, 3] rfl)
            · have _nhc_98 := hc_98
              have ni_102 := (fa_eq _ _).mp hc_98
              rw [li_0] at ni_102
              have hv_103 : zI x_90 0 0 := zI.eq_l hx_90 zc_0 hc_98
              refine lv_aload_n hx hb d_Parting_find_81 rfl (lv_at hl 1 rfl) ?_
              refine lv_bipush (v := (-2)) hx hb d_Parting_find_82 (by decide) ?_
              refine va_put (D := G.1) (ci := 8) (v := .int (-2)) (ty := .int) (C := R_Parting) (T := F_Parting) (N := 10) hx hb hts i_Parting t_Parting t_Parting_ok n_Parting hown hK hP hD hS 2 rfl rfl 1 (by decide) (hts _ q301) (fun _ h9 => h9) rfl (by decide +kernel) rfl rfl (Nat.le_of_ble_eq_true rfl) d_Parting_find_84 (fun H locs hP hD hS => ?_)
              have hP : va_P G.1 classes [(b4, .inl (G.2 0, 8, .inl b12)), (b32, .inl (G.2 1, 4, .inr (.inl b40))), (b0, .inr (8, [.int b2, .int (-2), .ref b4, .int b5, .int b6, .ref b7, .ref b8, .ref b9, .ref b10, .ref b11])), (b7, .inr (6, [.int x_91, .int 8, .int 400, .ref b14, .ref b15])), (b14, .inl (G.2 1, 3200, .inr (.inl f_92))), (b15, .inl (G.2 0, 1024, .inl f_93)), (b8, .inr (6, [.int b18, .int 8, .int 10, .ref b19, .ref b20])), (b19, .inl (G.2 1, 80, .inr (.inl f_94))), (b9, .inl (G.2 0, 400, .inl f_95)), (b10, .inl (G.2 0, 400, .inl f_96)), (b11, .inl (G.2 0, 400, .inl f_97)), (b1, .inr (5, [.int b25, .int b26, .ref b27, .ref b28, .ref b29, .ref b30, .ref b31, .ref b32, .int b33, .ref b34, .ref b35, .ref b36, .ref b37, .ref b38, .ref b39])), (b34, .inl (G.2 0, 240, .inl b41)), (b38, .inl (G.2 0, 242, .inl b42))] H := hP
              have hD := z_tie hP hD rfl
              exact z_vret hx hb hr hlocks (hP.sub [2, 0, 3, 4, 5, 6, 7, 8, 9, 10, 11, 1, 12, 13] rfl) (hD.sub [2, 0, 3, 4, 5, 6, 7, 8, 9, 10, 11, 1, 12, 13] (by decide) rfl) hS (Nat.le_of_ble_eq_true rfl) (Nat.le_of_ble_eq_true rfl) d_Parting_find_87 ⟨(-2), b12, x_91, f_92, f_93, f_94, f_95, f_96, f_97, rfl, rfl, (zI.wk (l' := (-2)) (h' := 8) zc_m2 (by decide)), hb12, hx_91, hf_92, hf_93, hf_94, hf_95, hf_96, hf_97⟩
        · have _nhc_80 := hc_80
          have ni_104 : ¬ (x_77 : Int32).toInt = (x_79 : Int32).toInt := fun z => hc_80 ((fa_eq _ _).mpr z)
          refine lv_aload_n hx hb d_Parting_find_54 rfl (lv_at hl 1 rfl) ?_
          refine lv_iload_n hx hb d_Parting_find_55 rfl (lv_at hl 0 rfl) ?_
          refine z_callV (index := 63) (As := [.int y_58]) (rest := []) (wr := [(b34, .inl (G.2 0, 240, .inl b41)), (b38, .inl (G.2 0, 242, .inl b42)), (b15, .inl (G.2 0, 1024, .inl y_63)), (b8, .inr (6, [.int b18, .int 8, .int 10, .ref b19, .ref b20])), (b19, .inl (G.2 1, 80, .inr (.inl y_64))), (b1, .inr (5, [.int b25, .int b26, .ref b27, .ref b28, .ref b29, .ref b30, .ref b31, .ref b32, .int b33, .ref b34, .ref b35, .ref b36, .ref b37, .ref b38, .ref b39])), (b32, .inl (G.2 1, 4, .inr (.inl b40))), (b7, .inr (6, [.int y_59, .int 8, .int 400, .ref b14, .ref b15])), (b14, .inl (G.2 1, 3200, .inr (.inl y_62)))]) Z (s1_Parting_spell l G (b0) (y_58) (b2) ((-1)) (b4) (b5) (b6) (b7) (b8) (b9) (b10) (b11) (b12) (y_65) (y_60) (y_61) hv_70 hb2 (zI.wk (l' := (-2)) (h' := 8) zc_m1 (by decide)) hb12 hy_65 hy_60 hy_61) hl.1 q887 q889 qs30 q9 q890 ⟨by decide, by decide, by show _ = some 1; decide +kernel⟩ ⟨Nat.le_of_ble_eq_true rfl, Nat.le_of_ble_eq_true rfl⟩ ⟨Nat.le_of_ble_eq_true rfl, Nat.le_of_ble_eq_true rfl⟩ rfl (Nat.le_of_ble_eq_true rfl) d_Parting_find_56 hP hD hS hA 5 8 rfl rfl rfl [5, 0, 1, 2, 9] [3, 4, 6, 7, 8, 10, 11, 12, 13] rfl rfl rfl rfl (by decide) (fun v w1 H locs hw_105 hP hD hS => ?_)
          obtain ⟨x_106, f_107, rfl, rfl, hx_106, hf_107⟩ := hw_105
          have hP : va_P G.1 classes [(b34, .inl (G.2 0, 240, .inl b41)), (b38, .inl (G.2 0, 242, .inl b42)), (b15, .inl (G.2 0, 1024, .inl y_63)), (b8, .inr (6, [.int b18, .int 8, .int 10, .ref b19, .ref b20])), (b19, .inl (G.2 1, 80, .inr (.inl y_64))), (b1, .inr (5, [.int b25, .int b26, .ref b27, .ref b28, .ref b29, .ref b30, .ref b31, .ref b32, .int b33, .ref b34, .ref b35, .ref b36, .ref b37, .ref b38, .ref b39])), (b32, .inl (G.2 1, 4, .inr (.inl b40))), (b7, .inr (6, [.int y_59, .int 8, .int 400, .ref b14, .ref b15])), (b14, .inl (G.2 1, 3200, .inr (.inl y_62))), (b0, .inr (8, [.int b2, .int x_106, .ref b4, .int b5, .int b6, .ref b7, .ref b8, .ref b9, .ref b10, .ref b11])), (b4, .inl (G.2 0, 8, .inl f_107)), (b9, .inl (G.2 0, 400, .inl y_65)), (b10, .inl (G.2 0, 400, .inl y_60)), (b11, .inl (G.2 0, 400, .inl y_61))] H := hP
          have hD := z_tie hP hD rfl
          refine W.widen (k := 0) (n := 0) (Nat.le_of_ble_eq_true rfl) (Nat.le_of_ble_eq_true rfl) ?_
          exact z_vret hx hb hr hlocks (hP.sub [9, 10, 7, 8, 2, 3, 4, 11, 12, 13, 5, 6, 0, 1] rfl) (hD.sub [9, 10, 7, 8, 2, 3, 4, 11, 12, 13, 5, 6, 0, 1] (by decide) rfl) hS (Nat.le_of_ble_eq_true rfl) (Nat.le_of_ble_eq_true rfl) d_Parting_find_59 ⟨x_106, f_107, y_59, y_62, y_63, y_64, y_65, y_60, y_61, rfl, rfl, hx_106, hf_107, (zI.wk (l' := 0) (h' := 400) hv_75 (by decide)), hy_62, hy_63, hy_64, hy_65, hy_60, hy_61⟩
abbrev m_s4_Parting_begin : Room := { frames := 3, cells := 0, slots := 0, locals := 67 }
set_option maxHeartbeats 4000000 in
set_option maxRecDepth 100000 in
theorem s4_Parting_begin (l : Launch) (G : zG) (b0 : Nat) (b1 : Nat) (b2 : Nat) (b3 : Int32) (b4 : Int32) (b5 : Nat) (b6 : Int32) (b7 : Int32) (b8 : Nat) (b9 : Nat) (b10 : Nat) (b11 : Nat) (b12 : Nat) (b13 : Int32) (b14 : Nat) (b15 : Nat) (b16 : Nat → Int64) (b17 : Nat → Int32) (b18 : Int32) (b19 : Nat) (b20 : Nat) (b21 : Nat → Int64) (b22 : Nat → Int32) (b23 : Int32) (b24 : Int32) (b25 : Nat) (b26 : Nat) (b27 : Nat) (b28 : Nat) (b29 : Nat) (b30 : Nat) (b31 : Int32) (b32 : Nat) (b33 : Nat) (b34 : Nat) (b35 : Nat) (b36 : Nat) (b37 : Nat) (b38 : Int32) (b39 : Int32) (b40 : Nat) (b41 : Nat) (b42 : Nat) (b43 : Nat) (b44 : Nat) (b45 : Nat) (b46 : Int32) (b47 : Nat) (b48 : Nat) (b49 : Nat) (b50 : Nat) (b51 : Nat) (b52 : Nat) (hb3 : zI b3 0 1) (hb4 : zI b4 (-2) 8) (hb13 : zI b13 0 400) (hb18 : zI b18 0 10) (hb23 : zI b23 0 1) (hb24 : zI b24 0 241) (hb31 : zI b31 0 240) (hb38 : zI b38 0 1) (hb39 : zI b39 0 241) (hb46 : zI b46 0 240) (hb16 : zqa qB b16) (hb17 : zR b17 (-1) 399) (hb21 : zqa qB b21) (hb22 : zR b22 0 8) : zM l G y_Parting_begin prog_7_method_5_code 3 (Option.none : Option Jvm.ClassFile.FieldType) m_s4_Parting_begin [.ref b0, .ref b1, .ref b2] [(b0, .inr (8, [.int b3, .int b4, .ref b5, .int b6, .int b7, .ref b8, .ref b9, .ref b10, .ref b11, .ref b12])), (b8, .inr (6, [.int b13, .int 8, .int 400, .ref b14, .ref b15])), (b14, .inl (G.2 1, 3200, .inr (.inl b16))), (b15, .inl (G.2 0, 1024, .inl b17)), (b9, .inr (6, [.int b18, .int 8, .int 10, .ref b19, .ref b20])), (b19, .inl (G.2 1, 80, .inr (.inl b21))), (b12, .inl (G.2 0, 400, .inl b22)), (b1, .inr (5, [.int b23, .int b24, .ref b25, .ref b26, .ref b27, .ref b28, .ref b29, .ref b30, .int b31, .ref b32, .ref b33, .ref b34, .ref b35, .ref b36, .ref b37])), (b2, .inr (5, [.int b38, .int b39, .ref b40, .ref b41, .ref b42, .ref b43, .ref b44, .ref b45, .int b46, .ref b47, .ref b48, .ref b49, .ref b50, .ref b51, .ref b52]))] (fun v w => ∃ (e0 : Int32), ∃ (e1 : Nat → Int64), ∃ (e2 : Nat → Int32), ∃ (e3 : Nat → Int64), ∃ (e4 : Nat → Int32), v = none ∧ w = [(b0, .inr (8, [.int b3, .int b4, .ref b5, .int b6, .int b7, .ref b8, .ref b9, .ref b10, .ref b11, .ref b12])), (b8, .inr (6, [.int e0, .int 8, .int 400, .ref b14, .ref b15])), (b14, .inl (G.2 1, 3200, .inr (.inl e1))), (b15, .inl (G.2 0, 1024, .inl e2)), (b9, .inr (6, [.int b18, .int 8, .int 10, .ref b19, .ref b20])), (b19, .inl (G.2 1, 80, .inr (.inl e3))), (b12, .inl (G.2 0, 400, .inl e4)), (b1, .inr (5, [.int b23, .int b24, .ref b25, .ref b26, .ref b27, .ref b28, .ref b29, .ref b30, .int b31, .ref b32, .ref b33, .ref b34, .ref b35, .ref b36, .ref b37])), (b2, .inr (5, [.int b38, .int b39, .ref b40, .ref b41, .ref b42, .ref b43, .ref b44, .ref b45, .int b46, .ref b47, .ref b48, .ref b49, .ref b50, .ref b51, .ref b52]))] ∧ (zI e0 0 400) ∧ (zqa qB e1) ∧ (zR e2 (-1) 399) ∧ (zqa qB e3) ∧ (zR e4 0 8)) := by
  refine z_start (by decide +kernel) (Nat.le_of_ble_eq_true rfl) ?_
  intro p e s m below meth c A Z hr hnm hA hP hD hS ls hl
  have Z : zC p s m _ meth c prog_7_method_5_code 3 "TraceMachines$Parting" G := Z
  obtain ⟨hx, hb, hml, hown, hts, hK, hN, hlocks⟩ := id Z
  have hl : lv_has ls 3 [(0, .ref b0), (1, .ref b1), (2, .ref b2)] := hl
  refine lv_aload_n hx hb d_Parting_begin_0 rfl (lv_at hl 0 rfl) ?_
  refine va_get (D := G.1) (ci := 8) (v := .ref b9) (C := R_Parting) (T := F_Parting) (N := 10) hx hb hts i_Parting hown hK hP 0 rfl rfl 6 (by decide) (hts _ q308) (fun _ h9 => h9) rfl d_Parting_begin_1 ?_
  refine z_callV (index := 71) (As := []) (rest := []) (wr := [(b0, .inr (8, [.int b3, .int b4, .ref b5, .int b6, .int b7, .ref b8, .ref b9, .ref b10, .ref b11, .ref b12])), (b8, .inr (6, [.int b13, .int 8, .int 400, .ref b14, .ref b15])), (b14, .inl (G.2 1, 3200, .inr (.inl b16))), (b15, .inl (G.2 0, 1024, .inl b17)), (b12, .inl (G.2 0, 400, .inl b22)), (b1, .inr (5, [.int b23, .int b24, .ref b25, .ref b26, .ref b27, .ref b28, .ref b29, .ref b30, .int b31, .ref b32, .ref b33, .ref b34, .ref b35, .ref b36, .ref b37])), (b2, .inr (5, [.int b38, .int b39, .ref b40, .ref b41, .ref b42, .ref b43, .ref b44, .ref b45, .int b46, .ref b47, .ref b48, .ref b49, .ref b50, .ref b51, .ref b52]))]) Z (s3_Sets_clear l G (b9) (b18) (b19) (b20) (b21) hb18 hb21) hl.1 q882 q705 q706 q7 q707 ⟨by decide, by decide, by show _ = some 0; decide +kernel⟩ ⟨Nat.le_of_ble_eq_true rfl, Nat.le_of_ble_eq_true rfl⟩ ⟨Nat.le_of_ble_eq_true rfl, Nat.le_of_ble_eq_true rfl⟩ rfl (Nat.le_of_ble_eq_true rfl) d_Parting_begin_4 hP hD hS hA 4 6 rfl rfl rfl [4, 5] [0, 1, 2, 3, 6, 7, 8] rfl rfl rfl rfl (by decide) (fun v w1 H locs hw_1 hP hD hS => ?_)
  obtain ⟨f_2, rfl, rfl, hf_2⟩ := hw_1
  have hP : va_P G.1 classes [(b0, .inr (8, [.int b3, .int b4, .ref b5, .int b6, .int b7, .ref b8, .ref b9, .ref b10, .ref b11, .ref b12])), (b8, .inr (6, [.int b13, .int 8, .int 400, .ref b14, .ref b15])), (b14, .inl (G.2 1, 3200, .inr (.inl b16))), (b15, .inl (G.2 0, 1024, .inl b17)), (b12, .inl (G.2 0, 400, .inl b22)), (b1, .inr (5, [.int b23, .int b24, .ref b25, .ref b26, .ref b27, .ref b28, .ref b29, .ref b30, .int b31, .ref b32, .ref b33, .ref b34, .ref b35, .ref b36, .ref b37])), (b2, .inr (5, [.int b38, .int b39, .ref b40, .ref b41, .ref b42, .ref b43, .ref b44, .ref b45, .int b46, .ref b47, .ref b48, .ref b49, .ref b50, .ref b51, .ref b52])), (b9, .inr (6, [.int b18, .int 8, .int 10, .ref b19, .ref b20])), (b19, .inl (G.2 1, 80, .inr (.inl f_2)))] H := hP
  have hD := z_tie hP hD rfl
  refine W.widen (k := 0) (n := 0) (Nat.le_of_ble_eq_true rfl) (Nat.le_of_ble_eq_true rfl) ?_
  refine lv_aload_n hx hb d_Parting_begin_7 rfl (lv_at hl 1 rfl) ?_
  refine va_get (D := G.1) (ci := 5) (v := .int b24) (C := R_Machine) (T := F_Machine) (N := 15) hx hb hts i_Machine hown hK hP 5 rfl rfl 1 (by decide) (hts _ q167) (fun _ h9 => h9) rfl d_Parting_begin_8 ?_
  refine lv_if_le (tgt := 24) hx hb d_Parting_begin_11 (by decide) (fun hc_3 => ?_) (fun hc_3 => ?_)
  · have _nhc_3 := hc_3
    have ni_4 := (fa_le _ _).mp hc_3
    rw [li_0] at ni_4
    have hv_5 : zI b24 0 0 := zI.le_l hb24 zc_0 hc_3 (by decide)
    refine lv_aload_n hx hb d_Parting_begin_24 rfl (lv_at hl 2 rfl) ?_
    refine va_get (D := G.1) (ci := 5) (v := .int b39) (C := R_Machine) (T := F_Machine) (N := 15) hx hb hts i_Machine hown hK hP 6 rfl rfl 1 (by decide) (hts _ q167) (fun _ h9 => h9) rfl d_Parting_begin_25 ?_
    refine lv_if_le (tgt := 41) hx hb d_Parting_begin_28 (by decide) (fun hc_6 => ?_) (fun hc_6 => ?_)
    · have _nhc_6 := hc_6
      have ni_7 := (fa_le _ _).mp hc_6
      rw [li_0] at ni_7
      have hv_8 : zI b39 0 0 := zI.le_l hb39 zc_0 hc_6 (by decide)
      refine lv_aload_n hx hb d_Parting_begin_41 rfl (lv_at hl 0 rfl) ?_
      refine va_get (D := G.1) (ci := 8) (v := .ref b8) (C := R_Parting) (T := F_Parting) (N := 10) hx hb hts i_Parting hown hK hP 0 rfl rfl 5 (by decide) (hts _ q307) (fun _ h9 => h9) rfl d_Parting_begin_42 ?_
      refine z_callV (index := 81) (As := []) (rest := []) (wr := [(b0, .inr (8, [.int b3, .int b4, .ref b5, .int b6, .int b7, .ref b8, .ref b9, .ref b10, .ref b11, .ref b12])), (b14, .inl (G.2 1, 3200, .inr (.inl b16))), (b12, .inl (G.2 0, 400, .inl b22)), (b1, .inr (5, [.int b23, .int b24, .ref b25, .ref b26, .ref b27, .ref b28, .ref b29, .ref b30, .int b31, .ref b32, .ref b33, .ref b34, .ref b35, .ref b36, .ref b37])), (b2, .inr (5, [.int b38, .int b39, .ref b40, .ref b41, .ref b42, .ref b43, .ref b44, .ref b45, .int b46, .ref b47, .ref b48, .ref b49, .ref b50, .ref b51, .ref b52])), (b9, .inr (6, [.int b18, .int 8, .int 10, .ref b19, .ref b20])), (b19, .inl (G.2 1, 80, .inr (.inl f_2)))]) Z (s3_Sets_forget l G (b8) (b13) (b14) (b15) (b17) hb13 hb17) hl.1 q884 q826 q827 q7 q828 ⟨by decide, by decide, by show _ = some 0; decide +kernel⟩ ⟨Nat.le_of_ble_eq_true rfl, Nat.le_of_ble_eq_true rfl⟩ ⟨Nat.le_of_ble_eq_true rfl, Nat.le_of_ble_eq_true rfl⟩ rfl (Nat.le_of_ble_eq_true rfl) d_Parting_begin_45 hP hD hS hA 1 6 rfl rfl rfl [1, 3] [0, 2, 4, 5, 6, 7, 8] rfl rfl rfl rfl (by decide) (fun v w1 H locs hw_9 hP hD hS => ?_)
      obtain ⟨f_10, rfl, rfl, hf_10⟩ := hw_9
      have hP : va_P G.1 classes [(b0, .inr (8, [.int b3, .int b4, .ref b5, .int b6, .int b7, .ref b8, .ref b9, .ref b10, .ref b11, .ref b12])), (b14, .inl (G.2 1, 3200, .inr (.inl b16))), (b12, .inl (G.2 0, 400, .inl b22)), (b1, .inr (5, [.int b23, .int b24, .ref b25, .ref b26, .ref b27, .ref b28, .ref b29, .ref b30, .int b31, .ref b32, .ref b33, .ref b34, .ref b35, .ref b36, .ref b37])), (b2, .inr (5, [.int b38, .int b39, .ref b40, .ref b41, .ref b42, .ref b43, .ref b44, .ref b45, .int b46, .ref b47, .ref b48, .ref b49, .ref b50, .ref b51, .ref b52])), (b9, .inr (6, [.int b18, .int 8, .int 10, .ref b19, .ref b20])), (b19, .inl (G.2 1, 80, .inr (.inl f_2))), (b8, .inr (6, [.int 0, .int 8, .int 400, .ref b14, .ref b15])), (b15, .inl (G.2 0, 1024, .inl f_10))] H := hP
      have hD := z_tie hP hD rfl
      refine W.widen (k := 0) (n := 0) (Nat.le_of_ble_eq_true rfl) (Nat.le_of_ble_eq_true rfl) ?_
      refine lv_aload_n hx hb d_Parting_begin_48 rfl (lv_at hl 0 rfl) ?_
      refine va_get (D := G.1) (ci := 8) (v := .ref b8) (C := R_Parting) (T := F_Parting) (N := 10) hx hb hts i_Parting hown hK hP 0 rfl rfl 5 (by decide) (hts _ q307) (fun _ h9 => h9) rfl d_Parting_begin_49 ?_
      refine lv_aload_n hx hb d_Parting_begin_52 rfl (lv_at hl 0 rfl) ?_
      refine va_get (D := G.1) (ci := 8) (v := .ref b9) (C := R_Parting) (T := F_Parting) (N := 10) hx hb hts i_Parting hown hK hP 0 rfl rfl 6 (by decide) (hts _ q308) (fun _ h9 => h9) rfl d_Parting_begin_53 ?_
      refine lv_iconst (v := 0) hx hb d_Parting_begin_56 (by decide) ?_
      refine z_callV (index := 84) (As := [.ref b9, .int 0]) (rest := []) (wr := [(b0, .inr (8, [.int b3, .int b4, .ref b5, .int b6, .int b7, .ref b8, .ref b9, .ref b10, .ref b11, .ref b12])), (b12, .inl (G.2 0, 400, .inl b22)), (b1, .inr (5, [.int b23, .int b24, .ref b25, .ref b26, .ref b27, .ref b28, .ref b29, .ref b30, .int b31, .ref b32, .ref b33, .ref b34, .ref b35, .ref b36, .ref b37])), (b2, .inr (5, [.int b38, .int b39, .ref b40, .ref b41, .ref b42, .ref b43, .ref b44, .ref b45, .int b46, .ref b47, .ref b48, .ref b49, .ref b50, .ref b51, .ref b52]))]) Z (s2_Sets_indexOf l G (b8) (b9) (0) (0) (b14) (b15) (b16) (f_10) (b18) (b19) (b20) (f_2) (zI.wk (l' := 0) (h' := 9) zc_0 (by decide)) (zI.wk (l' := 0) (h' := 400) zc_0 (by decide)) hb18 hb16 hf_10 hf_2) hl.1 q885 q831 q832 q7 q833 ⟨by decide, by decide, by show _ = some 2; decide +kernel⟩ ⟨Nat.le_of_ble_eq_true rfl, Nat.le_of_ble_eq_true rfl⟩ ⟨Nat.le_of_ble_eq_true rfl, Nat.le_of_ble_eq_true rfl⟩ rfl (Nat.le_of_ble_eq_true rfl) d_Parting_begin_57 hP hD hS hA 7 6 rfl rfl rfl [7, 1, 8, 5, 6] [0, 2, 3, 4] rfl rfl rfl rfl (by decide) (fun v w1 H locs hw_11 hP hD hS => ?_)
      obtain ⟨x_12, x_13, f_14, f_15, rfl, rfl, hx_12, hx_13, hf_14, hf_15, hfx_16⟩ := hw_11
      have hP : va_P G.1 classes [(b0, .inr (8, [.int b3, .int b4, .ref b5, .int b6, .int b7, .ref b8, .ref b9, .ref b10, .ref b11, .ref b12])), (b12, .inl (G.2 0, 400, .inl b22)), (b1, .inr (5, [.int b23, .int b24, .ref b25, .ref b26, .ref b27, .ref b28, .ref b29, .ref b30, .int b31, .ref b32, .ref b33, .ref b34, .ref b35, .ref b36, .ref b37])), (b2, .inr (5, [.int b38, .int b39, .ref b40, .ref b41, .ref b42, .ref b43, .ref b44, .ref b45, .int b46, .ref b47, .ref b48, .ref b49, .ref b50, .ref b51, .ref b52])), (b8, .inr (6, [.int x_13, .int 8, .int 400, .ref b14, .ref b15])), (b14, .inl (G.2 1, 3200, .inr (.inl f_14))), (b15, .inl (G.2 0, 1024, .inl f_15)), (b9, .inr (6, [.int b18, .int 8, .int 10, .ref b19, .ref b20])), (b19, .inl (G.2 1, 80, .inr (.inl f_2)))] H := hP
      have hD := z_tie hP hD rfl
      refine W.widen (k := 0) (n := 0) (Nat.le_of_ble_eq_true rfl) (Nat.le_of_ble_eq_true rfl) ?_
      refine lv_pop hx hb d_Parting_begin_60 rfl ?_
      refine lv_aload_n hx hb d_Parting_begin_61 rfl (lv_at hl 0 rfl) ?_
      refine va_get (D := G.1) (ci := 8) (v := .ref b12) (C := R_Parting) (T := F_Parting) (N := 10) hx hb hts i_Parting hown hK hP 0 rfl rfl 9 (by decide) (hts _ q311) (fun _ h9 => h9) rfl d_Parting_begin_62 ?_
      refine lv_iconst (v := 0) hx hb d_Parting_begin_65 (by decide) ?_
      refine lv_iconst (v := 0) hx hb d_Parting_begin_66 (by decide) ?_
      refine va_iast hx hb hK hP hD hS 1 0 rfl rfl (i := 0) (z_in rfl) d_Parting_begin_67 (fun H locs hP hD hS => ?_)
      obtain ⟨f_17, hf_17, gf_17, uf_17, hP, hD⟩ := z_newfu 1 hP hD rfl hb22 (zI.wk (l' := 0) (h' := 8) zc_0 (by decide))
      have hP : va_P G.1 classes [(b0, .inr (8, [.int b3, .int b4, .ref b5, .int b6, .int b7, .ref b8, .ref b9, .ref b10, .ref b11, .ref b12])), (b12, .inl (G.2 0, 400, .inl f_17)), (b1, .inr (5, [.int b23, .int b24, .ref b25, .ref b26, .ref b27, .ref b28, .ref b29, .ref b30, .int b31, .ref b32, .ref b33, .ref b34, .ref b35, .ref b36, .ref b37])), (b2, .inr (5, [.int b38, .int b39, .ref b40, .ref b41, .ref b42, .ref b43, .ref b44, .ref b45, .int b46, .ref b47, .ref b48, .ref b49, .ref b50, .ref b51, .ref b52])), (b8, .inr (6, [.int x_13, .int 8, .int 400, .ref b14, .ref b15])), (b14, .inl (G.2 1, 3200, .inr (.inl f_14))), (b15, .inl (G.2 0, 1024, .inl f_15)), (b9, .inr (6, [.int b18, .int 8, .int 10, .ref b19, .ref b20])), (b19, .inl (G.2 1, 80, .inr (.inl f_2)))] H := hP
      have hD := z_tie hP hD rfl
      exact z_vret hx hb hr hlocks (hP.sub [0, 4, 5, 6, 7, 8, 1, 2, 3] rfl) (hD.sub [0, 4, 5, 6, 7, 8, 1, 2, 3] (by decide) rfl) hS (Nat.le_of_ble_eq_true rfl) (Nat.le_of_ble_eq_true rfl) d_Parting_begin_68 ⟨x_13, f_14, f_15, f_2, f_17, rfl, rfl, hx_13, hf_14, hf_15, hf_2, hf_17⟩
    · have _nhc_6 := hc_6
      have ni_18 := (fa_lt _ _).mp (zi_nle hc_6)
      rw [li_0] at ni_18
      have hv_19 : zI b39 1 241 := zI.lt_r zc_0 hb39 (zi_nle hc_6) (by decide)
      refine lv_aload_n hx hb d_Parting_begin_31 rfl (lv_at hl 0 rfl) ?_
      refine va_get (D := G.1) (ci := 8) (v := .ref b9) (C := R_Parting) (T := F_Parting) (N := 10) hx hb hts i_Parting hown hK hP 0 rfl rfl 6 (by decide) (hts _ q308) (fun _ h9 => h9) rfl d_Parting_begin_32 ?_
      refine lv_iconst (v := 0) hx hb d_Parting_begin_35 (by decide) ?_
      refine lv_iconst (v := 1) hx hb d_Parting_begin_36 (by decide) ?_
      refine lv_iconst (v := 0) hx hb d_Parting_begin_37 (by decide) ?_
      refine z_callV (index := 77) (As := [.int 0, .int 1, .int 0]) (rest := []) (wr := [(b0, .inr (8, [.int b3, .int b4, .ref b5, .int b6, .int b7, .ref b8, .ref b9, .ref b10, .ref b11, .ref b12])), (b8, .inr (6, [.int b13, .int 8, .int 400, .ref b14, .ref b15])), (b14, .inl (G.2 1, 3200, .inr (.inl b16))), (b15, .inl (G.2 0, 1024, .inl b17)), (b12, .inl (G.2 0, 400, .inl b22)), (b1, .inr (5, [.int b23, .int b24, .ref b25, .ref b26, .ref b27, .ref b28, .ref b29, .ref b30, .int b31, .ref b32, .ref b33, .ref b34, .ref b35, .ref b36, .ref b37])), (b2, .inr (5, [.int b38, .int b39, .ref b40, .ref b41, .ref b42, .ref b43, .ref b44, .ref b45, .int b46, .ref b47, .ref b48, .ref b49, .ref b50, .ref b51, .ref b52]))]) Z (s3_Sets_put l G (b9) (0) (1) (0) (b18) (b19) (b20) (f_2) (zI.wk (l' := 0) (h' := 9) zc_0 (by decide)) (zI.wk (l' := 0) (h' := 1) zc_1 (by decide)) (zI.wk (l' := 0) (h' := 240) zc_0 (by decide)) hb18 hf_2) hl.1 q883 q710 q711 q7 q712 ⟨by decide, by decide, by show _ = some 3; decide +kernel⟩ ⟨Nat.le_of_ble_eq_true rfl, Nat.le_of_ble_eq_true rfl⟩ ⟨Nat.le_of_ble_eq_true rfl, Nat.le_of_ble_eq_true rfl⟩ rfl (Nat.le_of_ble_eq_true rfl) d_Parting_begin_38 hP hD hS hA 7 6 rfl rfl rfl [7, 8] [0, 1, 2, 3, 4, 5, 6] rfl rfl rfl rfl (by decide) (fun v w1 H locs hw_20 hP hD hS => ?_)
      obtain ⟨f_21, rfl, rfl, hf_21⟩ := hw_20
      have hP : va_P G.1 classes [(b0, .inr (8, [.int b3, .int b4, .ref b5, .int b6, .int b7, .ref b8, .ref b9, .ref b10, .ref b11, .ref b12])), (b8, .inr (6, [.int b13, .int 8, .int 400, .ref b14, .ref b15])), (b14, .inl (G.2 1, 3200, .inr (.inl b16))), (b15, .inl (G.2 0, 1024, .inl b17)), (b12, .inl (G.2 0, 400, .inl b22)), (b1, .inr (5, [.int b23, .int b24, .ref b25, .ref b26, .ref b27, .ref b28, .ref b29, .ref b30, .int b31, .ref b32, .ref b33, .ref b34, .ref b35, .ref b36, .ref b37])), (b2, .inr (5, [.int b38, .int b39, .ref b40, .ref b41, .ref b42, .ref b43, .ref b44, .ref b45, .int b46, .ref b47, .ref b48, .ref b49, .ref b50, .ref b51, .ref b52])), (b9, .inr (6, [.int b18, .int 8, .int 10, .ref b19, .ref b20])), (b19, .inl (G.2 1, 80, .inr (.inl f_21)))] H := hP
      have hD := z_tie hP hD rfl
      refine W.widen (k := 0) (n := 0) (Nat.le_of_ble_eq_true rfl) (Nat.le_of_ble_eq_true rfl) ?_
      refine lv_aload_n hx hb d_Parting_begin_41 rfl (lv_at hl 0 rfl) ?_
      refine va_get (D := G.1) (ci := 8) (v := .ref b8) (C := R_Parting) (T := F_Parting) (N := 10) hx hb hts i_Parting hown hK hP 0 rfl rfl 5 (by decide) (hts _ q307) (fun _ h9 => h9) rfl d_Parting_begin_42 ?_
      refine z_callV (index := 81) (As := []) (rest := []) (wr := [(b0, .inr (8, [.int b3, .int b4, .ref b5, .int b6, .int b7, .ref b8, .ref b9, .ref b10, .ref b11, .ref b12])), (b14, .inl (G.2 1, 3200, .inr (.inl b16))), (b12, .inl (G.2 0, 400, .inl b22)), (b1, .inr (5, [.int b23, .int b24, .ref b25, .ref b26, .ref b27, .ref b28, .ref b29, .ref b30, .int b31, .ref b32, .ref b33, .ref b34, .ref b35, .ref b36, .ref b37])), (b2, .inr (5, [.int b38, .int b39, .ref b40, .ref b41, .ref b42, .ref b43, .ref b44, .ref b45, .int b46, .ref b47, .ref b48, .ref b49, .ref b50, .ref b51, .ref b52])), (b9, .inr (6, [.int b18, .int 8, .int 10, .ref b19, .ref b20])), (b19, .inl (G.2 1, 80, .inr (.inl f_21)))]) Z (s3_Sets_forget l G (b8) (b13) (b14) (b15) (b17) hb13 hb17) hl.1 q884 q826 q827 q7 q828 ⟨by decide, by decide, by show _ = some 0; decide +kernel⟩ ⟨Nat.le_of_ble_eq_true rfl, Nat.le_of_ble_eq_true rfl⟩ ⟨Nat.le_of_ble_eq_true rfl, Nat.le_of_ble_eq_true rfl⟩ rfl (Nat.le_of_ble_eq_true rfl) d_Parting_begin_45 hP hD hS hA 1 6 rfl rfl rfl [1, 3] [0, 2, 4, 5, 6, 7, 8] rfl rfl rfl rfl (by decide) (fun v w1 H locs hw_22 hP hD hS => ?_)
      obtain ⟨f_23, rfl, rfl, hf_23⟩ := hw_22
      have hP : va_P G.1 classes [(b0, .inr (8, [.int b3, .int b4, .ref b5, .int b6, .int b7, .ref b8, .ref b9, .ref b10, .ref b11, .ref b12])), (b14, .inl (G.2 1, 3200, .inr (.inl b16))), (b12, .inl (G.2 0, 400, .inl b22)), (b1, .inr (5, [.int b23, .int b24, .ref b25, .ref b26, .ref b27, .ref b28, .ref b29, .ref b30, .int b31, .ref b32, .ref b33, .ref b34, .ref b35, .ref b36, .ref b37])), (b2, .inr (5, [.int b38, .int b39, .ref b40, .ref b41, .ref b42, .ref b43, .ref b44, .ref b45, .int b46, .ref b47, .ref b48, .ref b49, .ref b50, .ref b51, .ref b52])), (b9, .inr (6, [.int b18, .int 8, .int 10, .ref b19, .ref b20])), (b19, .inl (G.2 1, 80, .inr (.inl f_21))), (b8, .inr (6, [.int 0, .int 8, .int 400, .ref b14, .ref b15])), (b15, .inl (G.2 0, 1024, .inl f_23))] H := hP
      have hD := z_tie hP hD rfl
      refine W.widen (k := 0) (n := 0) (Nat.le_of_ble_eq_true rfl) (Nat.le_of_ble_eq_true rfl) ?_
      refine lv_aload_n hx hb d_Parting_begin_48 rfl (lv_at hl 0 rfl) ?_
      refine va_get (D := G.1) (ci := 8) (v := .ref b8) (C := R_Parting) (T := F_Parting) (N := 10) hx hb hts i_Parting hown hK hP 0 rfl rfl 5 (by decide) (hts _ q307) (fun _ h9 => h9) rfl d_Parting_begin_49 ?_
      refine lv_aload_n hx hb d_Parting_begin_52 rfl (lv_at hl 0 rfl) ?_
      refine va_get (D := G.1) (ci := 8) (v := .ref b9) (C := R_Parting) (T := F_Parting) (N := 10) hx hb hts i_Parting hown hK hP 0 rfl rfl 6 (by decide) (hts _ q308) (fun _ h9 => h9) rfl d_Parting_begin_53 ?_
      refine lv_iconst (v := 0) hx hb d_Parting_begin_56 (by decide) ?_
      refine z_callV (index := 84) (As := [.ref b9, .int 0]) (rest := []) (wr := [(b0, .inr (8, [.int b3, .int b4, .ref b5, .int b6, .int b7, .ref b8, .ref b9, .ref b10, .ref b11, .ref b12])), (b12, .inl (G.2 0, 400, .inl b22)), (b1, .inr (5, [.int b23, .int b24, .ref b25, .ref b26, .ref b27, .ref b28, .ref b29, .ref b30, .int b31, .ref b32, .ref b33, .ref b34, .ref b35, .ref b36, .ref b37])), (b2, .inr (5, [.int b38, .int b39, .ref b40, .ref b41, .ref b42, .ref b43, .ref b44, .ref b45, .int b46, .ref b47, .ref b48, .ref b49, .ref b50, .ref b51, .ref b52]))]) Z (s2_Sets_indexOf l G (b8) (b9) (0) (0) (b14) (b15) (b16) (f_23) (b18) (b19) (b20) (f_21) (zI.wk (l' := 0) (h' := 9) zc_0 (by decide)) (zI.wk (l' := 0) (h' := 400) zc_0 (by decide)) hb18 hb16 hf_23 hf_21) hl.1 q885 q831 q832 q7 q833 ⟨by decide, by decide, by show _ = some 2; decide +kernel⟩ ⟨Nat.le_of_ble_eq_true rfl, Nat.le_of_ble_eq_true rfl⟩ ⟨Nat.le_of_ble_eq_true rfl, Nat.le_of_ble_eq_true rfl⟩ rfl (Nat.le_of_ble_eq_true rfl) d_Parting_begin_57 hP hD hS hA 7 6 rfl rfl rfl [7, 1, 8, 5, 6] [0, 2, 3, 4] rfl rfl rfl rfl (by decide) (fun v w1 H locs hw_24 hP hD hS => ?_)
      obtain ⟨x_25, x_26, f_27, f_28, rfl, rfl, hx_25, hx_26, hf_27, hf_28, hfx_29⟩ := hw_24
      have hP : va_P G.1 classes [(b0, .inr (8, [.int b3, .int b4, .ref b5, .int b6, .int b7, .ref b8, .ref b9, .ref b10, .ref b11, .ref b12])), (b12, .inl (G.2 0, 400, .inl b22)), (b1, .inr (5, [.int b23, .int b24, .ref b25, .ref b26, .ref b27, .ref b28, .ref b29, .ref b30, .int b31, .ref b32, .ref b33, .ref b34, .ref b35, .ref b36, .ref b37])), (b2, .inr (5, [.int b38, .int b39, .ref b40, .ref b41, .ref b42, .ref b43, .ref b44, .ref b45, .int b46, .ref b47, .ref b48, .ref b49, .ref b50, .ref b51, .ref b52])), (b8, .inr (6, [.int x_26, .int 8, .int 400, .ref b14, .ref b15])), (b14, .inl (G.2 1, 3200, .inr (.inl f_27))), (b15, .inl (G.2 0, 1024, .inl f_28)), (b9, .inr (6, [.int b18, .int 8, .int 10, .ref b19, .ref b20])), (b19, .inl (G.2 1, 80, .inr (.inl f_21)))] H := hP
      have hD := z_tie hP hD rfl
      refine W.widen (k := 0) (n := 0) (Nat.le_of_ble_eq_true rfl) (Nat.le_of_ble_eq_true rfl) ?_
      refine lv_pop hx hb d_Parting_begin_60 rfl ?_
      refine lv_aload_n hx hb d_Parting_begin_61 rfl (lv_at hl 0 rfl) ?_
      refine va_get (D := G.1) (ci := 8) (v := .ref b12) (C := R_Parting) (T := F_Parting) (N := 10) hx hb hts i_Parting hown hK hP 0 rfl rfl 9 (by decide) (hts _ q311) (fun _ h9 => h9) rfl d_Parting_begin_62 ?_
      refine lv_iconst (v := 0) hx hb d_Parting_begin_65 (by decide) ?_
      refine lv_iconst (v := 0) hx hb d_Parting_begin_66 (by decide) ?_
      refine va_iast hx hb hK hP hD hS 1 0 rfl rfl (i := 0) (z_in rfl) d_Parting_begin_67 (fun H locs hP hD hS => ?_)
      obtain ⟨f_30, hf_30, gf_30, uf_30, hP, hD⟩ := z_newfu 1 hP hD rfl hb22 (zI.wk (l' := 0) (h' := 8) zc_0 (by decide))
      have hP : va_P G.1 classes [(b0, .inr (8, [.int b3, .int b4, .ref b5, .int b6, .int b7, .ref b8, .ref b9, .ref b10, .ref b11, .ref b12])), (b12, .inl (G.2 0, 400, .inl f_30)), (b1, .inr (5, [.int b23, .int b24, .ref b25, .ref b26, .ref b27, .ref b28, .ref b29, .ref b30, .int b31, .ref b32, .ref b33, .ref b34, .ref b35, .ref b36, .ref b37])), (b2, .inr (5, [.int b38, .int b39, .ref b40, .ref b41, .ref b42, .ref b43, .ref b44, .ref b45, .int b46, .ref b47, .ref b48, .ref b49, .ref b50, .ref b51, .ref b52])), (b8, .inr (6, [.int x_26, .int 8, .int 400, .ref b14, .ref b15])), (b14, .inl (G.2 1, 3200, .inr (.inl f_27))), (b15, .inl (G.2 0, 1024, .inl f_28)), (b9, .inr (6, [.int b18, .int 8, .int 10, .ref b19, .ref b20])), (b19, .inl (G.2 1, 80, .inr (.inl f_21)))] H := hP
      have hD := z_tie hP hD rfl
      exact z_vret hx hb hr hlocks (hP.sub [0, 4, 5, 6, 7, 8, 1, 2, 3] rfl) (hD.sub [0, 4, 5, 6, 7, 8, 1, 2, 3] (by decide) rfl) hS (Nat.le_of_ble_eq_true rfl) (Nat.le_of_ble_eq_true rfl) d_Parting_begin_68 ⟨x_26, f_27, f_28, f_21, f_30, rfl, rfl, hx_26, hf_27, hf_28, hf_21, hf_30⟩
  · have _nhc_3 := hc_3
    have ni_31 := (fa_lt _ _).mp (zi_nle hc_3)
    rw [li_0] at ni_31
    have hv_32 : zI b24 1 241 := zI.lt_r zc_0 hb24 (zi_nle hc_3) (by decide)
    refine lv_aload_n hx hb d_Parting_begin_14 rfl (lv_at hl 0 rfl) ?_
    refine va_get (D := G.1) (ci := 8) (v := .ref b9) (C := R_Parting) (T := F_Parting) (N := 10) hx hb hts i_Parting hown hK hP 0 rfl rfl 6 (by decide) (hts _ q308) (fun _ h9 => h9) rfl d_Parting_begin_15 ?_
    refine lv_iconst (v := 0) hx hb d_Parting_begin_18 (by decide) ?_
    refine lv_iconst (v := 0) hx hb d_Parting_begin_19 (by decide) ?_
    refine lv_iconst (v := 0) hx hb d_Parting_begin_20 (by decide) ?_
    refine z_callV (index := 77) (As := [.int 0, .int 0, .int 0]) (rest := []) (wr := [(b0, .inr (8, [.int b3, .int b4, .ref b5, .int b6, .int b7, .ref b8, .ref b9, .ref b10, .ref b11, .ref b12])), (b8, .inr (6, [.int b13, .int 8, .int 400, .ref b14, .ref b15])), (b14, .inl (G.2 1, 3200, .inr (.inl b16))), (b15, .inl (G.2 0, 1024, .inl b17)), (b12, .inl (G.2 0, 400, .inl b22)), (b1, .inr (5, [.int b23, .int b24, .ref b25, .ref b26, .ref b27, .ref b28, .ref b29, .ref b30, .int b31, .ref b32, .ref b33, .ref b34, .ref b35, .ref b36, .ref b37])), (b2, .inr (5, [.int b38, .int b39, .ref b40, .ref b41, .ref b42, .ref b43, .ref b44, .ref b45, .int b46, .ref b47, .ref b48, .ref b49, .ref b50, .ref b51, .ref b52]))]) Z (s3_Sets_put l G (b9) (0) (0) (0) (b18) (b19) (b20) (f_2) (zI.wk (l' := 0) (h' := 9) zc_0 (by decide)) (zI.wk (l' := 0) (h' := 1) zc_0 (by decide)) (zI.wk (l' := 0) (h' := 240) zc_0 (by decide)) hb18 hf_2) hl.1 q883 q710 q711 q7 q712 ⟨by decide, by decide, by show _ = some 3; decide +kernel⟩ ⟨Nat.le_of_ble_eq_true rfl, Nat.le_of_ble_eq_true rfl⟩ ⟨Nat.le_of_ble_eq_true rfl, Nat.le_of_ble_eq_true rfl⟩ rfl (Nat.le_of_ble_eq_true rfl) d_Parting_begin_21 hP hD hS hA 7 6 rfl rfl rfl [7, 8] [0, 1, 2, 3, 4, 5, 6] rfl rfl rfl rfl (by decide) (fun v w1 H locs hw_33 hP hD hS => ?_)
    obtain ⟨f_34, rfl, rfl, hf_34⟩ := hw_33
    have hP : va_P G.1 classes [(b0, .inr (8, [.int b3, .int b4, .ref b5, .int b6, .int b7, .ref b8, .ref b9, .ref b10, .ref b11, .ref b12])), (b8, .inr (6, [.int b13, .int 8, .int 400, .ref b14, .ref b15])), (b14, .inl (G.2 1, 3200, .inr (.inl b16))), (b15, .inl (G.2 0, 1024, .inl b17)), (b12, .inl (G.2 0, 400, .inl b22)), (b1, .inr (5, [.int b23, .int b24, .ref b25, .ref b26, .ref b27, .ref b28, .ref b29, .ref b30, .int b31, .ref b32, .ref b33, .ref b34, .ref b35, .ref b36, .ref b37])), (b2, .inr (5, [.int b38, .int b39, .ref b40, .ref b41, .ref b42, .ref b43, .ref b44, .ref b45, .int b46, .ref b47, .ref b48, .ref b49, .ref b50, .ref b51, .ref b52])), (b9, .inr (6, [.int b18, .int 8, .int 10, .ref b19, .ref b20])), (b19, .inl (G.2 1, 80, .inr (.inl f_34)))] H := hP
    have hD := z_tie hP hD rfl
    refine W.widen (k := 0) (n := 0) (Nat.le_of_ble_eq_true rfl) (Nat.le_of_ble_eq_true rfl) ?_
    refine lv_aload_n hx hb d_Parting_begin_24 rfl (lv_at hl 2 rfl) ?_
    refine va_get (D := G.1) (ci := 5) (v := .int b39) (C := R_Machine) (T := F_Machine) (N := 15) hx hb hts i_Machine hown hK hP 6 rfl rfl 1 (by decide) (hts _ q167) (fun _ h9 => h9) rfl d_Parting_begin_25 ?_
    refine lv_if_le (tgt := 41) hx hb d_Parting_begin_28 (by decide) (fun hc_35 => ?_) (fun hc_35 => ?_)
    · have _nhc_35 := hc_35
      have ni_36 := (fa_le _ _).mp hc_35
      rw [li_0] at ni_36
      have hv_37 : zI b39 0 0 := zI.le_l hb39 zc_0 hc_35 (by decide)
      refine lv_aload_n hx hb d_Parting_begin_41 rfl (lv_at hl 0 rfl) ?_
      refine va_get (D := G.1) (ci := 8) (v := .ref b8) (C := R_Parting) (T := F_Parting) (N := 10) hx hb hts i_Parting hown hK hP 0 rfl rfl 5 (by decide) (hts _ q307) (fun _ h9 => h9) rfl d_Parting_begin_42 ?_
      refine z_callV (index := 81) (As := []) (rest := []) (wr := [(b0, .inr (8, [.int b3, .int b4, .ref b5, .int b6, .int b7, .ref b8, .ref b9, .ref b10, .ref b11, .ref b12])), (b14, .inl (G.2 1, 3200, .inr (.inl b16))), (b12, .inl (G.2 0, 400, .inl b22)), (b1, .inr (5, [.int b23, .int b24, .ref b25, .ref b26, .ref b27, .ref b28, .ref b29, .ref b30, .int b31, .ref b32, .ref b33, .ref b34, .ref b35, .ref b36, .ref b37])), (b2, .inr (5, [.int b38, .int b39, .ref b40, .ref b41, .ref b42, .ref b43, .ref b44, .ref b45, .int b46, .ref b47, .ref b48, .ref b49, .ref b50, .ref b51, .ref b52])), (b9, .inr (6, [.int b18, .int 8, .int 10, .ref b19, .ref b20])), (b19, .inl (G.2 1, 80, .inr (.inl f_34)))]) Z (s3_Sets_forget l G (b8) (b13) (b14) (b15) (b17) hb13 hb17) hl.1 q884 q826 q827 q7 q828 ⟨by decide, by decide, by show _ = some 0; decide +kernel⟩ ⟨Nat.le_of_ble_eq_true rfl, Nat.le_of_ble_eq_true rfl⟩ ⟨Nat.le_of_ble_eq_true rfl, Nat.le_of_ble_eq_true rfl⟩ rfl (Nat.le_of_ble_eq_true rfl) d_Parting_begin_45 hP hD hS hA 1 6 rfl rfl rfl [1, 3] [0, 2, 4, 5, 6, 7, 8] rfl rfl rfl rfl (by decide) (fun v w1 H locs hw_38 hP hD hS => ?_)
      obtain ⟨f_39, rfl, rfl, hf_39⟩ := hw_38
      have hP : va_P G.1 classes [(b0, .inr (8, [.int b3, .int b4, .ref b5, .int b6, .int b7, .ref b8, .ref b9, .ref b10, .ref b11, .ref b12])), (b14, .inl (G.2 1, 3200, .inr (.inl b16))), (b12, .inl (G.2 0, 400, .inl b22)), (b1, .inr (5, [.int b23, .int b24, .ref b25, .ref b26, .ref b27, .ref b28, .ref b29, .ref b30, .int b31, .ref b32, .ref b33, .ref b34, .ref b35, .ref b36, .ref b37])), (b2, .inr (5, [.int b38, .int b39, .ref b40, .ref b41, .ref b42, .ref b43, .ref b44, .ref b45, .int b46, .ref b47, .ref b48, .ref b49, .ref b50, .ref b51, .ref b52])), (b9, .inr (6, [.int b18, .int 8, .int 10, .ref b19, .ref b20])), (b19, .inl (G.2 1, 80, .inr (.inl f_34))), (b8, .inr (6, [.int 0, .int 8, .int 400, .ref b14, .ref b15])), (b15, .inl (G.2 0, 1024, .inl f_39))] H := hP
      have hD := z_tie hP hD rfl
      refine W.widen (k := 0) (n := 0) (Nat.le_of_ble_eq_true rfl) (Nat.le_of_ble_eq_true rfl) ?_
      refine lv_aload_n hx hb d_Parting_begin_48 rfl (lv_at hl 0 rfl) ?_
      refine va_get (D := G.1) (ci := 8) (v := .ref b8) (C := R_Parting) (T := F_Parting) (N := 10) hx hb hts i_Parting hown hK hP 0 rfl rfl 5 (by decide) (hts _ q307) (fun _ h9 => h9) rfl d_Parting_begin_49 ?_
      refine lv_aload_n hx hb d_Parting_begin_52 rfl (lv_at hl 0 rfl) ?_
      refine va_get (D := G.1) (ci := 8) (v := .ref b9) (C := R_Parting) (T := F_Parting) (N := 10) hx hb hts i_Parting hown hK hP 0 rfl rfl 6 (by decide) (hts _ q308) (fun _ h9 => h9) rfl d_Parting_begin_53 ?_
      refine lv_iconst (v := 0) hx hb d_Parting_begin_56 (by decide) ?_
      refine z_callV (index := 84) (As := [.ref b9, .int 0]) (rest := []) (wr := [(b0, .inr (8, [.int b3, .int b4, .ref b5, .int b6, .int b7, .ref b8, .ref b9, .ref b10, .ref b11, .ref b12])), (b12, .inl (G.2 0, 400, .inl b22)), (b1, .inr (5, [.int b23, .int b24, .ref b25, .ref b26, .ref b27, .ref b28, .ref b29, .ref b30, .int b31, .ref b32, .ref b33, .ref b34, .ref b35, .ref b36, .ref b37])), (b2, .inr (5, [.int b38, .int b39, .ref b40, .ref b41, .ref b42, .ref b43, .ref b44, .ref b45, .int b46, .ref b47, .ref b48, .ref b49, .ref b50, .ref b51, .ref b52]))]) Z (s2_Sets_indexOf l G (b8) (b9) (0) (0) (b14) (b15) (b16) (f_39) (b18) (b19) (b20) (f_34) (zI.wk (l' := 0) (h' := 9) zc_0 (by decide)) (zI.wk (l' := 0) (h' := 400) zc_0 (by decide)) hb18 hb16 hf_39 hf_34) hl.1 q885 q831 q832 q7 q833 ⟨by decide, by decide, by show _ = some 2; decide +kernel⟩ ⟨Nat.le_of_ble_eq_true rfl, Nat.le_of_ble_eq_true rfl⟩ ⟨Nat.le_of_ble_eq_true rfl, Nat.le_of_ble_eq_true rfl⟩ rfl (Nat.le_of_ble_eq_true rfl) d_Parting_begin_57 hP hD hS hA 7 6 rfl rfl rfl [7, 1, 8, 5, 6] [0, 2, 3, 4] rfl rfl rfl rfl (by decide) (fun v w1 H locs hw_40 hP hD hS => ?_)
      obtain ⟨x_41, x_42, f_43, f_44, rfl, rfl, hx_41, hx_42, hf_43, hf_44, hfx_45⟩ := hw_40
      have hP : va_P G.1 classes [(b0, .inr (8, [.int b3, .int b4, .ref b5, .int b6, .int b7, .ref b8, .ref b9, .ref b10, .ref b11, .ref b12])), (b12, .inl (G.2 0, 400, .inl b22)), (b1, .inr (5, [.int b23, .int b24, .ref b25, .ref b26, .ref b27, .ref b28, .ref b29, .ref b30, .int b31, .ref b32, .ref b33, .ref b34, .ref b35, .ref b36, .ref b37])), (b2, .inr (5, [.int b38, .int b39, .ref b40, .ref b41, .ref b42, .ref b43, .ref b44, .ref b45, .int b46, .ref b47, .ref b48, .ref b49, .ref b50, .ref b51, .ref b52])), (b8, .inr (6, [.int x_42, .int 8, .int 400, .ref b14, .ref b15])), (b14, .inl (G.2 1, 3200, .inr (.inl f_43))), (b15, .inl (G.2 0, 1024, .inl f_44)), (b9, .inr (6, [.int b18, .int 8, .int 10, .ref b19, .ref b20])), (b19, .inl (G.2 1, 80, .inr (.inl f_34)))] H := hP
      have hD := z_tie hP hD rfl
      refine W.widen (k := 0) (n := 0) (Nat.le_of_ble_eq_true rfl) (Nat.le_of_ble_eq_true rfl) ?_
      refine lv_pop hx hb d_Parting_begin_60 rfl ?_
      refine lv_aload_n hx hb d_Parting_begin_61 rfl (lv_at hl 0 rfl) ?_
      refine va_get (D := G.1) (ci := 8) (v := .ref b12) (C := R_Parting) (T := F_Parting) (N := 10) hx hb hts i_Parting hown hK hP 0 rfl rfl 9 (by decide) (hts _ q311) (fun _ h9 => h9) rfl d_Parting_begin_62 ?_
      refine lv_iconst (v := 0) hx hb d_Parting_begin_65 (by decide) ?_
      refine lv_iconst (v := 0) hx hb d_Parting_begin_66 (by decide) ?_
      refine va_iast hx hb hK hP hD hS 1 0 rfl rfl (i := 0) (z_in rfl) d_Parting_begin_67 (fun H locs hP hD hS => ?_)
      obtain ⟨f_46, hf_46, gf_46, uf_46, hP, hD⟩ := z_newfu 1 hP hD rfl hb22 (zI.wk (l' := 0) (h' := 8) zc_0 (by decide))
      have hP : va_P G.1 classes [(b0, .inr (8, [.int b3, .int b4, .ref b5, .int b6, .int b7, .ref b8, .ref b9, .ref b10, .ref b11, .ref b12])), (b12, .inl (G.2 0, 400, .inl f_46)), (b1, .inr (5, [.int b23, .int b24, .ref b25, .ref b26, .ref b27, .ref b28, .ref b29, .ref b30, .int b31, .ref b32, .ref b33, .ref b34, .ref b35, .ref b36, .ref b37])), (b2, .inr (5, [.int b38, .int b39, .ref b40, .ref b41, .ref b42, .ref b43, .ref b44, .ref b45, .int b46, .ref b47, .ref b48, .ref b49, .ref b50, .ref b51, .ref b52])), (b8, .inr (6, [.int x_42, .int 8, .int 400, .ref b14, .ref b15])), (b14, .inl (G.2 1, 3200, .inr (.inl f_43))), (b15, .inl (G.2 0, 1024, .inl f_44)), (b9, .inr (6, [.int b18, .int 8, .int 10, .ref b19, .ref b20])), (b19, .inl (G.2 1, 80, .inr (.inl f_34)))] H := hP
      have hD := z_tie hP hD rfl
      exact z_vret hx hb hr hlocks (hP.sub [0, 4, 5, 6, 7, 8, 1, 2, 3] rfl) (hD.sub [0, 4, 5, 6, 7, 8, 1, 2, 3] (by decide) rfl) hS (Nat.le_of_ble_eq_true rfl) (Nat.le_of_ble_eq_true rfl) d_Parting_begin_68 ⟨x_42, f_43, f_44, f_34, f_46, rfl, rfl, hx_42, hf_43, hf_44, hf_34, hf_46⟩
    · have _nhc_35 := hc_35
      have ni_47 := (fa_lt _ _).mp (zi_nle hc_35)
      rw [li_0] at ni_47
      have hv_48 : zI b39 1 241 := zI.lt_r zc_0 hb39 (zi_nle hc_35) (by decide)
      refine lv_aload_n hx hb d_Parting_begin_31 rfl (lv_at hl 0 rfl) ?_
      refine va_get (D := G.1) (ci := 8) (v := .ref b9) (C := R_Parting) (T := F_Parting) (N := 10) hx hb hts i_Parting hown hK hP 0 rfl rfl 6 (by decide) (hts _ q308) (fun _ h9 => h9) rfl d_Parting_begin_32 ?_
      refine lv_iconst (v := 0) hx hb d_Parting_begin_35 (by decide) ?_
      refine lv_iconst (v := 1) hx hb d_Parting_begin_36 (by decide) ?_
      refine lv_iconst (v := 0) hx hb d_Parting_begin_37 (by decide) ?_
      refine z_callV (index := 77) (As := [.int 0, .int 1, .int 0]) (rest := []) (wr := [(b0, .inr (8, [.int b3, .int b4, .ref b5, .int b6, .int b7, .ref b8, .ref b9, .ref b10, .ref b11, .ref b12])), (b8, .inr (6, [.int b13, .int 8, .int 400, .ref b14, .ref b15])), (b14, .inl (G.2 1, 3200, .inr (.inl b16))), (b15, .inl (G.2 0, 1024, .inl b17)), (b12, .inl (G.2 0, 400, .inl b22)), (b1, .inr (5, [.int b23, .int b24, .ref b25, .ref b26, .ref b27, .ref b28, .ref b29, .ref b30, .int b31, .ref b32, .ref b33, .ref b34, .ref b35, .ref b36, .ref b37])), (b2, .inr (5, [.int b38, .int b39, .ref b40, .ref b41, .ref b42, .ref b43, .ref b44, .ref b45, .int b46, .ref b47, .ref b48, .ref b49, .ref b50, .ref b51, .ref b52]))]) Z (s3_Sets_put l G (b9) (0) (1) (0) (b18) (b19) (b20) (f_34) (zI.wk (l' := 0) (h' := 9) zc_0 (by decide)) (zI.wk (l' := 0) (h' := 1) zc_1 (by decide)) (zI.wk (l' := 0) (h' := 240) zc_0 (by decide)) hb18 hf_34) hl.1 q883 q710 q711 q7 q712 ⟨by decide, by decide, by show _ = some 3; decide +kernel⟩ ⟨Nat.le_of_ble_eq_true rfl, Nat.le_of_ble_eq_true rfl⟩ ⟨Nat.le_of_ble_eq_true rfl, Nat.le_of_ble_eq_true rfl⟩ rfl (Nat.le_of_ble_eq_true rfl) d_Parting_begin_38 hP hD hS hA 7 6 rfl rfl rfl [7, 8] [0, 1, 2, 3, 4, 5, 6] rfl rfl rfl rfl (by decide) (fun v w1 H locs hw_49 hP hD hS => ?_)
      obtain ⟨f_50, rfl, rfl, hf_50⟩ := hw_49
      have hP : va_P G.1 classes [(b0, .inr (8, [.int b3, .int b4, .ref b5, .int b6, .int b7, .ref b8, .ref b9, .ref b10, .ref b11, .ref b12])), (b8, .inr (6, [.int b13, .int 8, .int 400, .ref b14, .ref b15])), (b14, .inl (G.2 1, 3200, .inr (.inl b16))), (b15, .inl (G.2 0, 1024, .inl b17)), (b12, .inl (G.2 0, 400, .inl b22)), (b1, .inr (5, [.int b23, .int b24, .ref b25, .ref b26, .ref b27, .ref b28, .ref b29, .ref b30, .int b31, .ref b32, .ref b33, .ref b34, .ref b35, .ref b36, .ref b37])), (b2, .inr (5, [.int b38, .int b39, .ref b40, .ref b41, .ref b42, .ref b43, .ref b44, .ref b45, .int b46, .ref b47, .ref b48, .ref b49, .ref b50, .ref b51, .ref b52])), (b9, .inr (6, [.int b18, .int 8, .int 10, .ref b19, .ref b20])), (b19, .inl (G.2 1, 80, .inr (.inl f_50)))] H := hP
      have hD := z_tie hP hD rfl
      refine W.widen (k := 0) (n := 0) (Nat.le_of_ble_eq_true rfl) (Nat.le_of_ble_eq_true rfl) ?_
      refine lv_aload_n hx hb d_Parting_begin_41 rfl (lv_at hl 0 rfl) ?_
      refine va_get (D := G.1) (ci := 8) (v := .ref b8) (C := R_Parting) (T := F_Parting) (N := 10) hx hb hts i_Parting hown hK hP 0 rfl rfl 5 (by decide) (hts _ q307) (fun _ h9 => h9) rfl d_Parting_begin_42 ?_
      refine z_callV (index := 81) (As := []) (rest := []) (wr := [(b0, .inr (8, [.int b3, .int b4, .ref b5, .int b6, .int b7, .ref b8, .ref b9, .ref b10, .ref b11, .ref b12])), (b14, .inl (G.2 1, 3200, .inr (.inl b16))), (b12, .inl (G.2 0, 400, .inl b22)), (b1, .inr (5, [.int b23, .int b24, .ref b25, .ref b26, .ref b27, .ref b28, .ref b29, .ref b30, .int b31, .ref b32, .ref b33, .ref b34, .ref b35, .ref b36, .ref b37])), (b2, .inr (5, [.int b38, .int b39, .ref b40, .ref b41, .ref b42, .ref b43, .ref b44, .ref b45, .int b46, .ref b47, .ref b48, .ref b49, .ref b50, .ref b51, .ref b52])), (b9, .inr (6, [.int b18, .int 8, .int 10, .ref b19, .ref b20])), (b19, .inl (G.2 1, 80, .inr (.inl f_50)))]) Z (s3_Sets_forget l G (b8) (b13) (b14) (b15) (b17) hb13 hb17) hl.1 q884 q826 q827 q7 q828 ⟨by decide, by decide, by show _ = some 0; decide +kernel⟩ ⟨Nat.le_of_ble_eq_true rfl, Nat.le_of_ble_eq_true rfl⟩ ⟨Nat.le_of_ble_eq_true rfl, Nat.le_of_ble_eq_true rfl⟩ rfl (Nat.le_of_ble_eq_true rfl) d_Parting_begin_45 hP hD hS hA 1 6 rfl rfl rfl [1, 3] [0, 2, 4, 5, 6, 7, 8] rfl rfl rfl rfl (by decide) (fun v w1 H locs hw_51 hP hD hS => ?_)
      obtain ⟨f_52, rfl, rfl, hf_52⟩ := hw_51
      have hP : va_P G.1 classes [(b0, .inr (8, [.int b3, .int b4, .ref b5, .int b6, .int b7, .ref b8, .ref b9, .ref b10, .ref b11, .ref b12])), (b14, .inl (G.2 1, 3200, .inr (.inl b16))), (b12, .inl (G.2 0, 400, .inl b22)), (b1, .inr (5, [.int b23, .int b24, .ref b25, .ref b26, .ref b27, .ref b28, .ref b29, .ref b30, .int b31, .ref b32, .ref b33, .ref b34, .ref b35, .ref b36, .ref b37])), (b2, .inr (5, [.int b38, .int b39, .ref b40, .ref b41, .ref b42, .ref b43, .ref b44, .ref b45, .int b46, .ref b47, .ref b48, .ref b49, .ref b50, .ref b51, .ref b52])), (b9, .inr (6, [.int b18, .int 8, .int 10, .ref b19, .ref b20])), (b19, .inl (G.2 1, 80, .inr (.inl f_50))), (b8, .inr (6, [.int 0, .int 8, .int 400, .ref b14, .ref b15])), (b15, .inl (G.2 0, 1024, .inl f_52))] H := hP
      have hD := z_tie hP hD rfl
      refine W.widen (k := 0) (n := 0) (Nat.le_of_ble_eq_true rfl) (Nat.le_of_ble_eq_true rfl) ?_
      refine lv_aload_n hx hb d_Parting_begin_48 rfl (lv_at hl 0 rfl) ?_
      refine va_get (D := G.1) (ci := 8) (v := .ref b8) (C := R_Parting) (T := F_Parting) (N := 10) hx hb hts i_Parting hown hK hP 0 rfl rfl 5 (by decide) (hts _ q307) (fun _ h9 => h9) rfl d_Parting_begin_49 ?_
      refine lv_aload_n hx hb d_Parting_begin_52 rfl (lv_at hl 0 rfl) ?_
      refine va_get (D := G.1) (ci := 8) (v := .ref b9) (C := R_Parting) (T := F_Parting) (N := 10) hx hb hts i_Parting hown hK hP 0 rfl rfl 6 (by decide) (hts _ q308) (fun _ h9 => h9) rfl d_Parting_begin_53 ?_
      refine lv_iconst (v := 0) hx hb d_Parting_begin_56 (by decide) ?_
      refine z_callV (index := 84) (As := [.ref b9, .int 0]) (rest := []) (wr := [(b0, .inr (8, [.int b3, .int b4, .ref b5, .int b6, .int b7, .ref b8, .ref b9, .ref b10, .ref b11, .ref b12])), (b12, .inl (G.2 0, 400, .inl b22)), (b1, .inr (5, [.int b23, .int b24, .ref b25, .ref b26, .ref b27, .ref b28, .ref b29, .ref b30, .int b31, .ref b32, .ref b33, .ref b34, .ref b35, .ref b36, .ref b37])), (b2, .inr (5, [.int b38, .int b39, .ref b40, .ref b41, .ref b42, .ref b43, .ref b44, .ref b45, .int b46, .ref b47, .ref b48, .ref b49, .ref b50, .ref b51, .ref b52]))]) Z (s2_Sets_indexOf l G (b8) (b9) (0) (0) (b14) (b15) (b16) (f_52) (b18) (b19) (b20) (f_50) (zI.wk (l' := 0) (h' := 9) zc_0 (by decide)) (zI.wk (l' := 0) (h' := 400) zc_0 (by decide)) hb18 hb16 hf_52 hf_50) hl.1 q885 q831 q832 q7 q833 ⟨by decide, by decide, by show _ = some 2; decide +kernel⟩ ⟨Nat.le_of_ble_eq_true rfl, Nat.le_of_ble_eq_true rfl⟩ ⟨Nat.le_of_ble_eq_true rfl, Nat.le_of_ble_eq_true rfl⟩ rfl (Nat.le_of_ble_eq_true rfl) d_Parting_begin_57 hP hD hS hA 7 6 rfl rfl rfl [7, 1, 8, 5, 6] [0, 2, 3, 4] rfl rfl rfl rfl (by decide) (fun v w1 H locs hw_53 hP hD hS => ?_)
      obtain ⟨x_54, x_55, f_56, f_57, rfl, rfl, hx_54, hx_55, hf_56, hf_57, hfx_58⟩ := hw_53
      have hP : va_P G.1 classes [(b0, .inr (8, [.int b3, .int b4, .ref b5, .int b6, .int b7, .ref b8, .ref b9, .ref b10, .ref b11, .ref b12])), (b12, .inl (G.2 0, 400, .inl b22)), (b1, .inr (5, [.int b23, .int b24, .ref b25, .ref b26, .ref b27, .ref b28, .ref b29, .ref b30, .int b31, .ref b32, .ref b33, .ref b34, .ref b35, .ref b36, .ref b37])), (b2, .inr (5, [.int b38, .int b39, .ref b40, .ref b41, .ref b42, .ref b43, .ref b44, .ref b45, .int b46, .ref b47, .ref b48, .ref b49, .ref b50, .ref b51, .ref b52])), (b8, .inr (6, [.int x_55, .int 8, .int 400, .ref b14, .ref b15])), (b14, .inl (G.2 1, 3200, .inr (.inl f_56))), (b15, .inl (G.2 0, 1024, .inl f_57)), (b9, .inr (6, [.int b18, .int 8, .int 10, .ref b19, .ref b20])), (b19, .inl (G.2 1, 80, .inr (.inl f_50)))] H := hP
      have hD := z_tie hP hD rfl
      refine W.widen (k := 0) (n := 0) (Nat.le_of_ble_eq_true rfl) (Nat.le_of_ble_eq_true rfl) ?_
      refine lv_pop hx hb d_Parting_begin_60 rfl ?_
      refine lv_aload_n hx hb d_Parting_begin_61 rfl (lv_at hl 0 rfl) ?_
      refine va_get (D := G.1) (ci := 8) (v := .ref b12) (C := R_Parting) (T := F_Parting) (N := 10) hx hb hts i_Parting hown hK hP 0 rfl rfl 9 (by decide) (hts _ q311) (fun _ h9 => h9) rfl d_Parting_begin_62 ?_
      refine lv_iconst (v := 0) hx hb d_Parting_begin_65 (by decide) ?_
      refine lv_iconst (v := 0) hx hb d_Parting_begin_66 (by decide) ?_
      refine va_iast hx hb hK hP hD hS 1 0 rfl rfl (i := 0) (z_in rfl) d_Parting_begin_67 (fun H locs hP hD hS => ?_)
      obtain ⟨f_59, hf_59, gf_59, uf_59, hP, hD⟩ := z_newfu 1 hP hD rfl hb22 (zI.wk (l' := 0) (h' := 8) zc_0 (by decide))
      have hP : va_P G.1 classes [(b0, .inr (8, [.int b3, .int b4, .ref b5, .int b6, .int b7, .ref b8, .ref b9, .ref b10, .ref b11, .ref b12])), (b12, .inl (G.2 0, 400, .inl f_59)), (b1, .inr (5, [.int b23, .int b24, .ref b25, .ref b26, .ref b27, .ref b28, .ref b29, .ref b30, .int b31, .ref b32, .ref b33, .ref b34, .ref b35, .ref b36, .ref b37])), (b2, .inr (5, [.int b38, .int b39, .ref b40, .ref b41, .ref b42, .ref b43, .ref b44, .ref b45, .int b46, .ref b47, .ref b48, .ref b49, .ref b50, .ref b51, .ref b52])), (b8, .inr (6, [.int x_55, .int 8, .int 400, .ref b14, .ref b15])), (b14, .inl (G.2 1, 3200, .inr (.inl f_56))), (b15, .inl (G.2 0, 1024, .inl f_57)), (b9, .inr (6, [.int b18, .int 8, .int 10, .ref b19, .ref b20])), (b19, .inl (G.2 1, 80, .inr (.inl f_50)))] H := hP
      have hD := z_tie hP hD rfl
      exact z_vret hx hb hr hlocks (hP.sub [0, 4, 5, 6, 7, 8, 1, 2, 3] rfl) (hD.sub [0, 4, 5, 6, 7, 8, 1, 2, 3] (by decide) rfl) hS (Nat.le_of_ble_eq_true rfl) (Nat.le_of_ble_eq_true rfl) d_Parting_begin_68 ⟨x_55, f_56, f_57, f_50, f_59, rfl, rfl, hx_55, hf_56, hf_57, hf_50, hf_59⟩
abbrev m_s4_Parting_goOn : Room := { frames := 3, cells := 0, slots := 0, locals := 71 }
set_option maxHeartbeats 4000000 in
set_option maxRecDepth 100000 in
theorem s4_Parting_goOn (l : Launch) (G : zG) (b0 : Nat) (b1 : Nat) (b2 : Nat) (b3 : Int32) (b4 : Int32) (b5 : Int32) (b6 : Nat) (b7 : Int32) (b8 : Int32) (b9 : Nat) (b10 : Nat) (b11 : Nat) (b12 : Nat) (b13 : Nat) (b14 : Int32) (b15 : Nat) (b16 : Nat) (b17 : Nat → Int64) (b18 : Nat → Int32) (b19 : Int32) (b20 : Nat) (b21 : Nat) (b22 : Nat → Int64) (b23 : Nat → Int32) (b24 : Nat → Int32) (b25 : Nat → Int32) (b26 : Int32) (b27 : Int32) (b28 : Nat) (b29 : Nat) (b30 : Nat) (b31 : Nat) (b32 : Nat) (b33 : Nat) (b34 : Int32) (b35 : Nat) (b36 : Nat) (b37 : Nat) (b38 : Nat) (b39 : Nat) (b40 : Nat) (b41 : Nat → Int32) (b42 : Nat → Int32) (b43 : Int32) (b44 : Int32) (b45 : Nat) (b46 : Nat) (b47 : Nat) (b48 : Nat) (b49 : Nat) (b50 : Nat) (b51 : Int32) (b52 : Nat) (b53 : Nat) (b54 : Nat) (b55 : Nat) (b56 : Nat) (b57 : Nat) (b58 : Nat → Int32) (b59 : Nat → Int32) (hb3 : zI b3 0 399) (hb4 : zI b4 0 1) (hb5 : zI b5 (-2) 8) (hb14 : zI b14 0 400) (hb19 : zI b19 0 10) (hb26 : zI b26 0 1) (hb27 : zI b27 0 241) (hb34 : zI b34 0 240) (hb43 : zI b43 0 1) (hb44 : zI b44 0 241) (hb51 : zI b51 0 240) (hb17 : zqa qB b17) (hb18 : zR b18 (-1) 399) (hb22 : zqa qB b22) (hb23 : zR b23 0 399) (hb24 : zR b24 0 9) (hb25 : zR b25 0 8) (hb41 : zK b41) (hb42 : zR b42 0 240) (hb58 : zK b58) (hb59 : zR b59 0 240) (hpl : (b25 b3.toNatClampNeg).toInt ≤ 7) (hpc : b3.toInt < b14.toInt) : zM l G y_Parting_goOn prog_7_method_6_code 7 (Option.some Jvm.ClassFile.FieldType.boolean) m_s4_Parting_goOn [.ref b0, .ref b1, .ref b2, .int b3] [(b0, .inr (8, [.int b4, .int b5, .ref b6, .int b7, .int b8, .ref b9, .ref b10, .ref b11, .ref b12, .ref b13])), (b9, .inr (6, [.int b14, .int 8, .int 400, .ref b15, .ref b16])), (b15, .inl (G.2 1, 3200, .inr (.inl b17))), (b16, .inl (G.2 0, 1024, .inl b18)), (b10, .inr (6, [.int b19, .int 8, .int 10, .ref b20, .ref b21])), (b20, .inl (G.2 1, 80, .inr (.inl b22))), (b11, .inl (G.2 0, 400, .inl b23)), (b12, .inl (G.2 0, 400, .inl b24)), (b13, .inl (G.2 0, 400, .inl b25)), (b1, .inr (5, [.int b26, .int b27, .ref b28, .ref b29, .ref b30, .ref b31, .ref b32, .ref b33, .int b34, .ref b35, .ref b36, .ref b37, .ref b38, .ref b39, .ref b40])), (b35, .inl (G.2 0, 240, .inl b41)), (b39, .inl (G.2 0, 242, .inl b42)), (b2, .inr (5, [.int b43, .int b44, .ref b45, .ref b46, .ref b47, .ref b48, .ref b49, .ref b50, .int b51, .ref b52, .ref b53, .ref b54, .ref b55, .ref b56, .ref b57])), (b52, .inl (G.2 0, 240, .inl b58)), (b56, .inl (G.2 0, 242, .inl b59))] (fun v w => ∃ (e0 : Int32), ∃ (e1 : Int32), ∃ (e2 : Nat → Int64), ∃ (e3 : Nat → Int32), ∃ (e4 : Nat → Int64), ∃ (e5 : Nat → Int32), ∃ (e6 : Nat → Int32), ∃ (e7 : Nat → Int32), v = some (.int e0) ∧ w = [(b0, .inr (8, [.int b4, .int b5, .ref b6, .int b7, .int b8, .ref b9, .ref b10, .ref b11, .ref b12, .ref b13])), (b9, .inr (6, [.int e1, .int 8, .int 400, .ref b15, .ref b16])), (b15, .inl (G.2 1, 3200, .inr (.inl e2))), (b16, .inl (G.2 0, 1024, .inl e3)), (b10, .inr (6, [.int b19, .int 8, .int 10, .ref b20, .ref b21])), (b20, .inl (G.2 1, 80, .inr (.inl e4))), (b11, .inl (G.2 0, 400, .inl e5)), (b12, .inl (G.2 0, 400, .inl e6)), (b13, .inl (G.2 0, 400, .inl e7)), (b1, .inr (5, [.int b26, .int b27, .ref b28, .ref b29, .ref b30, .ref b31, .ref b32, .ref b33, .int b34, .ref b35, .ref b36, .ref b37, .ref b38, .ref b39, .ref b40])), (b35, .inl (G.2 0, 240, .inl b41)), (b39, .inl (G.2 0, 242, .inl b42)), (b2, .inr (5, [.int b43, .int b44, .ref b45, .ref b46, .ref b47, .ref b48, .ref b49, .ref b50, .int b51, .ref b52, .ref b53, .ref b54, .ref b55, .ref b56, .ref b57])), (b52, .inl (G.2 0, 240, .inl b58)), (b56, .inl (G.2 0, 242, .inl b59))] ∧ (zI e0 0 1) ∧ (zI e1 0 400) ∧ (zqa qB e2) ∧ (zR e3 (-1) 399) ∧ (zqa qB e4) ∧ (zR e5 0 399) ∧ (zR e6 0 9) ∧ (zR e7 0 8)) := by
  refine z_start (by decide +kernel) (Nat.le_of_ble_eq_true rfl) ?_
  intro p e s m below meth c A Z hr hnm hA hP hD hS ls hl
  have Z : zC p s m _ meth c prog_7_method_6_code 7 "TraceMachines$Parting" G := Z
  obtain ⟨hx, hb, hml, hown, hts, hK, hN, hlocks⟩ := id Z
  have hl : lv_has ls 7 [(0, .ref b0), (1, .ref b1), (2, .ref b2), (3, .int b3)] := hl
  refine lv_aload_n hx hb d_Parting_goOn_0 rfl (lv_at hl 0 rfl) ?_
  refine va_get (D := G.1) (ci := 8) (v := .ref b10) (C := R_Parting) (T := F_Parting) (N := 10) hx hb hts i_Parting hown hK hP 0 rfl rfl 6 (by decide) (hts _ q308) (fun _ h9 => h9) rfl d_Parting_goOn_1 ?_
  refine z_callV (index := 71) (As := []) (rest := []) (wr := [(b0, .inr (8, [.int b4, .int b5, .ref b6, .int b7, .int b8, .ref b9, .ref b10, .ref b11, .ref b12, .ref b13])), (b9, .inr (6, [.int b14, .int 8, .int 400, .ref b15, .ref b16])), (b15, .inl (G.2 1, 3200, .inr (.inl b17))), (b16, .inl (G.2 0, 1024, .inl b18)), (b11, .inl (G.2 0, 400, .inl b23)), (b12, .inl (G.2 0, 400, .inl b24)), (b13, .inl (G.2 0, 400, .inl b25)), (b1, .inr (5, [.int b26, .int b27, .ref b28, .ref b29, .ref b30, .ref b31, .ref b32, .ref b33, .int b34, .ref b35, .ref b36, .ref b37, .ref b38, .ref b39, .ref b40])), (b35, .inl (G.2 0, 240, .inl b41)), (b39, .inl (G.2 0, 242, .inl b42)), (b2, .inr (5, [.int b43, .int b44, .ref b45, .ref b46, .ref b47, .ref b48, .ref b49, .ref b50, .int b51, .ref b52, .ref b53, .ref b54, .ref b55, .ref b56, .ref b57])), (b52, .inl (G.2 0, 240, .inl b58)), (b56, .inl (G.2 0, 242, .inl b59))]) Z (s3_Sets_clear l G (b10) (b19) (b20) (b21) (b22) hb19 hb22) hl.1 q882 q705 q706 q7 q707 ⟨by decide, by decide, by show _ = some 0; decide +kernel⟩ ⟨Nat.le_of_ble_eq_true rfl, Nat.le_of_ble_eq_true rfl⟩ ⟨Nat.le_of_ble_eq_true rfl, Nat.le_of_ble_eq_true rfl⟩ rfl (Nat.le_of_ble_eq_true rfl) d_Parting_goOn_4 hP hD hS hA 4 6 rfl rfl rfl [4, 5] [0, 1, 2, 3, 6, 7, 8, 9, 10, 11, 12, 13, 14] rfl rfl rfl rfl (by decide) (fun v w1 H locs hw_1 hP hD hS => ?_)
  obtain ⟨f_2, rfl, rfl, hf_2⟩ := hw_1
  have hP : va_P G.1 classes [(b0, .inr (8, [.int b4, .int b5, .ref b6, .int b7, .int b8, .ref b9, .ref b10, .ref b11, .ref b12, .ref b13])), (b9, .inr (6, [.int b14, .int 8, .int 400, .ref b15, .ref b16])), (b15, .inl (G.2 1, 3200, .inr (.inl b17))), (b16, .inl (G.2 0, 1024, .inl b18)), (b11, .inl (G.2 0, 400, .inl b23)), (b12, .inl (G.2 0, 400, .inl b24)), (b13, .inl (G.2 0, 400, .inl b25)), (b1, .inr (5, [.int b26, .int b27, .ref b28, .ref b29, .ref b30, .ref b31, .ref b32, .ref b33, .int b34, .ref b35, .ref b36, .ref b37, .ref b38, .ref b39, .ref b40])), (b35, .inl (G.2 0, 240, .inl b41)), (b39, .inl (G.2 0, 242, .inl b42)), (b2, .inr (5, [.int b43, .int b44, .ref b45, .ref b46, .ref b47, .ref b48, .ref b49, .ref b50, .int b51, .ref b52, .ref b53, .ref b54, .ref b55, .ref b56, .ref b57])), (b52, .inl (G.2 0, 240, .inl b58)), (b56, .inl (G.2 0, 242, .inl b59)), (b10, .inr (6, [.int b19, .int 8, .int 10, .ref b20, .ref b21])), (b20, .inl (G.2 1, 80, .inr (.inl f_2)))] H := hP
  have hD := z_tie hP hD rfl
  refine W.widen (k := 0) (n := 0) (Nat.le_of_ble_eq_true rfl) (Nat.le_of_ble_eq_true rfl) ?_
  refine lv_aload_n hx hb d_Parting_goOn_7 rfl (lv_at hl 1 rfl) ?_
  refine lv_aload_n hx hb d_Parting_goOn_8 rfl (lv_at hl 0 rfl) ?_
  refine va_get (D := G.1) (ci := 8) (v := .ref b9) (C := R_Parting) (T := F_Parting) (N := 10) hx hb hts i_Parting hown hK hP 0 rfl rfl 5 (by decide) (hts _ q307) (fun _ h9 => h9) rfl d_Parting_goOn_9 ?_
  refine lv_iload_n hx hb d_Parting_goOn_12 rfl (lv_at hl 3 rfl) ?_
  refine lv_iconst (v := 0) hx hb d_Parting_goOn_13 (by decide) ?_
  refine lv_aload_n hx hb d_Parting_goOn_14 rfl (lv_at hl 0 rfl) ?_
  refine va_get (D := G.1) (ci := 8) (v := .ref b10) (C := R_Parting) (T := F_Parting) (N := 10) hx hb hts i_Parting hown hK hP 0 rfl rfl 6 (by decide) (hts _ q308) (fun _ h9 => h9) rfl d_Parting_goOn_15 ?_
  refine z_callV (index := 88) (As := [.ref b9, .int b3, .int 0, .ref b10]) (rest := []) (wr := [(b0, .inr (8, [.int b4, .int b5, .ref b6, .int b7, .int b8, .ref b9, .ref b10, .ref b11, .ref b12, .ref b13])), (b16, .inl (G.2 0, 1024, .inl b18)), (b11, .inl (G.2 0, 400, .inl b23)), (b12, .inl (G.2 0, 400, .inl b24)), (b13, .inl (G.2 0, 400, .inl b25)), (b2, .inr (5, [.int b43, .int b44, .ref b45, .ref b46, .ref b47, .ref b48, .ref b49, .ref b50, .int b51, .ref b52, .ref b53, .ref b54, .ref b55, .ref b56, .ref b57])), (b52, .inl (G.2 0, 240, .inl b58)), (b56, .inl (G.2 0, 242, .inl b59))]) Z (s2_Machine_fan l G (b1) (b9) (b3) (0) (b10) (b26) (b27) (b28) (b29) (b30) (b31) (b32) (b33) (b34) (b35) (b36) (b37) (b38) (b39) (b40) (b41) (b42) (b14) (b15) (b16) (b17) (b19) (b20) (b21) (f_2) hb3 (zI.wk (l' := 0) (h' := 1) zc_0 (by decide)) hb26 hb27 hb34 hb14 hb19 hb41 hb42 hb17 hf_2) hl.1 q895 q854 q855 q6 q856 ⟨by decide, by decide, by show _ = some 4; decide +kernel⟩ ⟨Nat.le_of_ble_eq_true rfl, Nat.le_of_ble_eq_true rfl⟩ ⟨Nat.le_of_ble_eq_true rfl, Nat.le_of_ble_eq_true rfl⟩ rfl (Nat.le_of_ble_eq_true rfl) d_Parting_goOn_18 hP hD hS hA 7 5 rfl rfl rfl [7, 8, 9, 1, 2, 13, 14] [0, 3, 4, 5, 6, 10, 11, 12] rfl rfl rfl rfl (by decide) (fun v w1 H locs hw_3 hP hD hS => ?_)
  obtain ⟨f_4, rfl, rfl, hf_4⟩ := hw_3
  have hP : va_P G.1 classes [(b0, .inr (8, [.int b4, .int b5, .ref b6, .int b7, .int b8, .ref b9, .ref b10, .ref b11, .ref b12, .ref b13])), (b16, .inl (G.2 0, 1024, .inl b18)), (b11, .inl (G.2 0, 400, .inl b23)), (b12, .inl (G.2 0, 400, .inl b24)), (b13, .inl (G.2 0, 400, .inl b25)), (b2, .inr (5, [.int b43, .int b44, .ref b45, .ref b46, .ref b47, .ref b48, .ref b49, .ref b50, .int b51, .ref b52, .ref b53, .ref b54, .ref b55, .ref b56, .ref b57])), (b52, .inl (G.2 0, 240, .inl b58)), (b56, .inl (G.2 0, 242, .inl b59)), (b1, .inr (5, [.int b26, .int b27, .ref b28, .ref b29, .ref b30, .ref b31, .ref b32, .ref b33, .int b34, .ref b35, .ref b36, .ref b37, .ref b38, .ref b39, .ref b40])), (b35, .inl (G.2 0, 240, .inl b41)), (b39, .inl (G.2 0, 242, .inl b42)), (b9, .inr (6, [.int b14, .int 8, .int 400, .ref b15, .ref b16])), (b15, .inl (G.2 1, 3200, .inr (.inl b17))), (b10, .inr (6, [.int b19, .int 8, .int 10, .ref b20, .ref b21])), (b20, .inl (G.2 1, 80, .inr (.inl f_4)))] H := hP
  have hD := z_tie hP hD rfl
  refine W.widen (k := 0) (n := 0) (Nat.le_of_ble_eq_true rfl) (Nat.le_of_ble_eq_true rfl) ?_
  refine lv_aload_n hx hb d_Parting_goOn_21 rfl (lv_at hl 2 rfl) ?_
  refine lv_aload_n hx hb d_Parting_goOn_22 rfl (lv_at hl 0 rfl) ?_
  refine va_get (D := G.1) (ci := 8) (v := .ref b9) (C := R_Parting) (T := F_Parting) (N := 10) hx hb hts i_Parting hown hK hP 0 rfl rfl 5 (by decide) (hts _ q307) (fun _ h9 => h9) rfl d_Parting_goOn_23 ?_
  refine lv_iload_n hx hb d_Parting_goOn_26 rfl (lv_at hl 3 rfl) ?_
  refine lv_iconst (v := 1) hx hb d_Parting_goOn_27 (by decide) ?_
  refine lv_aload_n hx hb d_Parting_goOn_28 rfl (lv_at hl 0 rfl) ?_
  refine va_get (D := G.1) (ci := 8) (v := .ref b10) (C := R_Parting) (T := F_Parting) (N := 10) hx hb hts i_Parting hown hK hP 0 rfl rfl 6 (by decide) (hts _ q308) (fun _ h9 => h9) rfl d_Parting_goOn_29 ?_
  refine z_callV (index := 88) (As := [.ref b9, .int b3, .int 1, .ref b10]) (rest := []) (wr := [(b0, .inr (8, [.int b4, .int b5, .ref b6, .int b7, .int b8, .ref b9, .ref b10, .ref b11, .ref b12, .ref b13])), (b16, .inl (G.2 0, 1024, .inl b18)), (b11, .inl (G.2 0, 400, .inl b23)), (b12, .inl (G.2 0, 400, .inl b24)), (b13, .inl (G.2 0, 400, .inl b25)), (b1, .inr (5, [.int b26, .int b27, .ref b28, .ref b29, .ref b30, .ref b31, .ref b32, .ref b33, .int b34, .ref b35, .ref b36, .ref b37, .ref b38, .ref b39, .ref b40])), (b35, .inl (G.2 0, 240, .inl b41)), (b39, .inl (G.2 0, 242, .inl b42))]) Z (s2_Machine_fan l G (b2) (b9) (b3) (1) (b10) (b43) (b44) (b45) (b46) (b47) (b48) (b49) (b50) (b51) (b52) (b53) (b54) (b55) (b56) (b57) (b58) (b59) (b14) (b15) (b16) (b17) (b19) (b20) (b21) (f_4) hb3 (zI.wk (l' := 0) (h' := 1) zc_1 (by decide)) hb43 hb44 hb51 hb14 hb19 hb58 hb59 hb17 hf_4) hl.1 q895 q854 q855 q6 q856 ⟨by decide, by decide, by show _ = some 4; decide +kernel⟩ ⟨Nat.le_of_ble_eq_true rfl, Nat.le_of_ble_eq_true rfl⟩ ⟨Nat.le_of_ble_eq_true rfl, Nat.le_of_ble_eq_true rfl⟩ rfl (Nat.le_of_ble_eq_true rfl) d_Parting_goOn_32 hP hD hS hA 5 5 rfl rfl rfl [5, 6, 7, 11, 12, 13, 14] [0, 1, 2, 3, 4, 8, 9, 10] rfl rfl rfl rfl (by decide) (fun v w1 H locs hw_5 hP hD hS => ?_)
  obtain ⟨f_6, rfl, rfl, hf_6⟩ := hw_5
  have hP : va_P G.1 classes [(b0, .inr (8, [.int b4, .int b5, .ref b6, .int b7, .int b8, .ref b9, .ref b10, .ref b11, .ref b12, .ref b13])), (b16, .inl (G.2 0, 1024, .inl b18)), (b11, .inl (G.2 0, 400, .inl b23)), (b12, .inl (G.2 0, 400, .inl b24)), (b13, .inl (G.2 0, 400, .inl b25)), (b1, .inr (5, [.int b26, .int b27, .ref b28, .ref b29, .ref b30, .ref b31, .ref b32, .ref b33, .int b34, .ref b35, .ref b36, .ref b37, .ref b38, .ref b39, .ref b40])), (b35, .inl (G.2 0, 240, .inl b41)), (b39, .inl (G.2 0, 242, .inl b42)), (b2, .inr (5, [.int b43, .int b44, .ref b45, .ref b46, .ref b47, .ref b48, .ref b49, .ref b50, .int b51, .ref b52, .ref b53, .ref b54, .ref b55, .ref b56, .ref b57])), (b52, .inl (G.2 0, 240, .inl b58)), (b56, .inl (G.2 0, 242, .inl b59)), (b9, .inr (6, [.int b14, .int 8, .int 400, .ref b15, .ref b16])), (b15, .inl (G.2 1, 3200, .inr (.inl b17))), (b10, .inr (6, [.int b19, .int 8, .int 10, .ref b20, .ref b21])), (b20, .inl (G.2 1, 80, .inr (.inl f_6)))] H := hP
  have hD := z_tie hP hD rfl
  refine W.widen (k := 0) (n := 0) (Nat.le_of_ble_eq_true rfl) (Nat.le_of_ble_eq_true rfl) ?_
  refine lv_iconst (v := 0) hx hb d_Parting_goOn_35 (by decide) ?_
  refine lv_istore (lv' := [(4, .int 0), (0, .ref b0), (1, .ref b1), (2, .ref b2), (3, .int b3)]) hx hb d_Parting_goOn_36 hl (by decide) rfl (fun ls hl => ?_)
  suffices key : ∀ (k_42 : Nat) (y_43 : Int32) (y_44 : Int32) (y_45 : Nat → Int32) (y_46 : Nat → Int32) (y_47 : Nat → Int32) (y_48 : Nat → Int64) (y_49 : Nat → Int32) (H : Heap) (locs : List Loc) (ls : Array Slot), (zI y_43 0 10) → (zI y_44 0 400) → (zR y_45 0 399) → (zR y_46 0 9) → (zR y_47 0 8) → (zqa qB y_48) → (zR y_49 (-1) 399) → ((y_47 b3.toNatClampNeg).toInt ≤ 7) → (b3.toInt < y_44.toInt) → (10 : Int) - y_43.toInt < (k_42 : Int) → va_P G.1 classes [(b0, .inr (8, [.int b4, .int b5, .ref b6, .int b7, .int b8, .ref b9, .ref b10, .ref b11, .ref b12, .ref b13])), (b16, .inl (G.2 0, 1024, .inl y_49)), (b11, .inl (G.2 0, 400, .inl y_45)), (b12, .inl (G.2 0, 400, .inl y_46)), (b13, .inl (G.2 0, 400, .inl y_47)), (b1, .inr (5, [.int b26, .int b27, .ref b28, .ref b29, .ref b30, .ref b31, .ref b32, .ref b33, .int b34, .ref b35, .ref b36, .ref b37, .ref b38, .ref b39, .ref b40])), (b35, .inl (G.2 0, 240, .inl b41)), (b39, .inl (G.2 0, 242, .inl b42)), (b2, .inr (5, [.int b43, .int b44, .ref b45, .ref b46, .ref b47, .ref b48, .ref b49, .ref b50, .int b51, .ref b52, .ref b53, .ref b54, .ref b55, .ref b56, .ref b57])), (b52, .inl (G.2 0, 240, .inl b58)), (b56, .inl (G.2 0, 242, .inl b59)), (b9, .inr (6, [.int y_44, .int 8, .int 400, .ref b15, .ref b16])), (b15, .inl (G.2 1, 3200, .inr (.inl y_48))), (b10, .inr (6, [.int b19, .int 8, .int 10, .ref b20, .ref b21])), (b20, .inl (G.2 1, 80, .inr (.inl f_6)))] H → va_D A [(b0, .inr (8, [.int b4, .int b5, .ref b6, .int b7, .int b8, .ref b9, .ref b10, .ref b11, .ref b12, .ref b13])), (b16, .inl (G.2 0, 1024, .inl y_49)), (b11, .inl (G.2 0, 400, .inl y_45)), (b12, .inl (G.2 0, 400, .inl y_46)), (b13, .inl (G.2 0, 400, .inl y_47)), (b1, .inr (5, [.int b26, .int b27, .ref b28, .ref b29, .ref b30, .ref b31, .ref b32, .ref b33, .int b34, .ref b35, .ref b36, .ref b37, .ref b38, .ref b39, .ref b40])), (b35, .inl (G.2 0, 240, .inl b41)), (b39, .inl (G.2 0, 242, .inl b42)), (b2, .inr (5, [.int b43, .int b44, .ref b45, .ref b46, .ref b47, .ref b48, .ref b49, .ref b50, .int b51, .ref b52, .ref b53, .ref b54, .ref b55, .ref b56, .ref b57])), (b52, .inl (G.2 0, 240, .inl b58)), (b56, .inl (G.2 0, 242, .inl b59)), (b9, .inr (6, [.int y_44, .int 8, .int 400, .ref b15, .ref b16])), (b15, .inl (G.2 1, 3200, .inr (.inl y_48))), (b10, .inr (6, [.int b19, .int 8, .int 10, .ref b20, .ref b21])), (b20, .inl (G.2 1, 80, .inr (.inl f_6)))] → va_S A s.heap H locs → lv_has ls 7 [(4, .int y_43), (0, .ref b0), (1, .ref b1), (2, .ref b2), (3, .int b3)] → W p l e m_s4_Parting_goOn s m ([.ref b0, .ref b1, .ref b2, .int b3] : List Value).toArray below meth c H locs 0 0 (MQ below (zQ G (fun v w => ∃ (e0 : Int32), ∃ (e1 : Int32), ∃ (e2 : Nat → Int64), ∃ (e3 : Nat → Int32), ∃ (e4 : Nat → Int64), ∃ (e5 : Nat → Int32), ∃ (e6 : Nat → Int32), ∃ (e7 : Nat → Int32), v = some (.int e0) ∧ w = [(b0, .inr (8, [.int b4, .int b5, .ref b6, .int b7, .int b8, .ref b9, .ref b10, .ref b11, .ref b12, .ref b13])), (b9, .inr (6, [.int e1, .int 8, .int 400, .ref b15, .ref b16])), (b15, .inl (G.2 1, 3200, .inr (.inl e2))), (b16, .inl (G.2 0, 1024, .inl e3)), (b10, .inr (6, [.int b19, .int 8, .int 10, .ref b20, .ref b21])), (b20, .inl (G.2 1, 80, .inr (.inl e4))), (b11, .inl (G.2 0, 400, .inl e5)), (b12, .inl (G.2 0, 400, .inl e6)), (b13, .inl (G.2 0, 400, .inl e7)), (b1, .inr (5, [.int b26, .int b27, .ref b28, .ref b29, .ref b30, .ref b31, .ref b32, .ref b33, .int b34, .ref b35, .ref b36, .ref b37, .ref b38, .ref b39, .ref b40])), (b35, .inl (G.2 0, 240, .inl b41)), (b39, .inl (G.2 0, 242, .inl b42)), (b2, .inr (5, [.int b43, .int b44, .ref b45, .ref b46, .ref b47, .ref b48, .ref b49, .ref b50, .int b51, .ref b52, .ref b53, .ref b54, .ref b55, .ref b56, .ref b57])), (b52, .inl (G.2 0, 240, .inl b58)), (b56, .inl (G.2 0, 242, .inl b59))] ∧ (zI e0 0 1) ∧ (zI e1 0 400) ∧ (zqa qB e2) ∧ (zR e3 (-1) 399) ∧ (zqa qB e4) ∧ (zR e5 0 399) ∧ (zR e6 0 9) ∧ (zR e7 0 8)) A) ([.ref b0, .ref b1, .ref b2, .int b3] : List Value).toArray s m_s4_Parting_goOn.cells m_s4_Parting_goOn.slots A) (F0 m 38 ls []) by
    exact key 11 (0) (b14) (b23) (b24) (b25) (b17) (b18) _ _ _ (zI.wk (l' := 0) (h' := 10) zc_0 (by decide)) hb14 hb23 hb24 hb25 hb17 hb18 hpl (by omega) (zm_upi (zI.wk (l' := 0) (h' := 10) zc_0 (by decide)) (by decide)) hP hD hS (lv_sub hl [0, 1, 2, 3, 4] rfl)
  intro k_42
  induction k_42 with
  | zero =>
    intro y_43 y_44 y_45 y_46 y_47 y_48 y_49 H locs ls hy_43 hy_44 hy_45 hy_46 hy_47 hy_48 hy_49 hli_50 hli_51 hmk_42 hP hD hS hl
    exact (zm_up0 hy_43 hmk_42).elim
  | succ k_42 ihk_42 =>
    intro y_43 y_44 y_45 y_46 y_47 y_48 y_49 H locs ls hy_43 hy_44 hy_45 hy_46 hy_47 hy_48 hy_49 hli_50 hli_51 hmk_42 hP hD hS hl
    refine lv_iload hx hb d_Parting_goOn_38 (lv_at hl 0 rfl) ?_
    refine lv_bipush (v := 10) hx hb d_Parting_goOn_40 (by decide) ?_
    refine lv_icmp_ge (tgt := 122) hx hb d_Parting_goOn_42 (by decide) (fun hc_52 => ?_) (fun hc_52 => ?_)
    · have _nhc_52 := hc_52
      have ni_53 := (fa_le _ _).mp hc_52
      rw [li_10] at ni_53
      have hv_54 : zI y_43 10 10 := zI.le_r zc_10 hy_43 hc_52 (by decide)
      refine lv_iconst (v := 1) hx hb d_Parting_goOn_122 (by decide) ?_
      exact z_zret hx hb hr hlocks rfl (hP.sub [0, 11, 12, 1, 13, 14, 2, 3, 4, 5, 6, 7, 8, 9, 10] rfl) (hD.sub [0, 11, 12, 1, 13, 14, 2, 3, 4, 5, 6, 7, 8, 9, 10] (by decide) rfl) hS (Nat.le_of_ble_eq_true rfl) (Nat.le_of_ble_eq_true rfl) d_Parting_goOn_123 ⟨1, y_44, y_48, y_49, f_6, y_45, y_46, y_47, rfl, rfl, (zI.wk (l' := 0) (h' := 1) zc_1 (by decide)), hy_44, hy_48, hy_49, hf_6, hy_45, hy_46, hy_47⟩
    · have _nhc_52 := hc_52
      have ni_55 := (fa_lt _ _).mp (zi_nle hc_52)
      rw [li_10] at ni_55
      have hv_56 : zI y_43 0 9 := zI.lt_l hy_43 zc_10 (zi_nle hc_52) (by decide)
      refine lv_aload_n hx hb d_Parting_goOn_45 rfl (lv_at hl 1 rfl) ?_
      refine va_get (D := G.1) (ci := 8) (v := .ref b9) (C := R_Parting) (T := F_Parting) (N := 10) hx hb hts i_Parting hown hK hP 0 rfl rfl 5 (by decide) (hts _ q307) (fun _ h9 => h9) rfl d_Parting_goOn_46 ?_
      refine va_get (D := G.1) (ci := 6) (v := .int y_44) (C := R_Sets) (T := F_Sets) (N := 5) hx hb hts i_Sets hown hK hP 11 rfl rfl 0 (by decide) (hts _ q241) (fun _ h9 => h9) rfl d_Parting_goOn_49 ?_
      refine lv_istore (lv' := [(5, .int y_44), (4, .int y_43), (0, .ref b0), (1, .ref b1), (2, .ref b2), (3, .int b3)]) hx hb d_Parting_goOn_52 hl (by decide) rfl (fun ls hl => ?_)
      refine lv_aload_n hx hb d_Parting_goOn_54 rfl (lv_at hl 2 rfl) ?_
      refine va_get (D := G.1) (ci := 8) (v := .ref b9) (C := R_Parting) (T := F_Parting) (N := 10) hx hb hts i_Parting hown hK hP 0 rfl rfl 5 (by decide) (hts _ q307) (fun _ h9 => h9) rfl d_Parting_goOn_55 ?_
      refine lv_aload_n hx hb d_Parting_goOn_58 rfl (lv_at hl 2 rfl) ?_
      refine va_get (D := G.1) (ci := 8) (v := .ref b10) (C := R_Parting) (T := F_Parting) (N := 10) hx hb hts i_Parting hown hK hP 0 rfl rfl 6 (by decide) (hts _ q308) (fun _ h9 => h9) rfl d_Parting_goOn_59 ?_
      refine lv_iload hx hb d_Parting_goOn_62 (lv_at hl 1 rfl) ?_
      refine z_callV (index := 84) (As := [.ref b10, .int y_43]) (rest := []) (wr := [(b0, .inr (8, [.int b4, .int b5, .ref b6, .int b7, .int b8, .ref b9, .ref b10, .ref b11, .ref b12, .ref b13])), (b11, .inl (G.2 0, 400, .inl y_45)), (b12, .inl (G.2 0, 400, .inl y_46)), (b13, .inl (G.2 0, 400, .inl y_47)), (b1, .inr (5, [.int b26, .int b27, .ref b28, .ref b29, .ref b30, .ref b31, .ref b32, .ref b33, .int b34, .ref b35, .ref b36, .ref b37, .ref b38, .ref b39, .ref b40])), (b35, .inl (G.2 0, 240, .inl b41)), (b39, .inl (G.2 0, 242, .inl b42)), (b2, .inr (5, [.int b43, .int b44, .ref b45, .ref b46, .ref b47, .ref b48, .ref b49, .ref b50, .int b51, .ref b52, .ref b53, .ref b54, .ref b55, .ref b56, .ref b57])), (b52, .inl (G.2 0, 240, .inl b58)), (b56, .inl (G.2 0, 242, .inl b59))]) Z (s2_Sets_indexOf l G (b9) (b10) (y_43) (y_44) (b15) (b16) (y_48) (y_49) (b19) (b20) (b21) (f_6) hv_56 hy_44 hb19 hy_48 hy_49 hf_6) hl.1 q885 q831 q832 q7 q833 ⟨by decide, by decide, by show _ = some 2; decide +kernel⟩ ⟨Nat.le_of_ble_eq_true rfl, Nat.le_of_ble_eq_true rfl⟩ ⟨Nat.le_of_ble_eq_true rfl, Nat.le_of_ble_eq_true rfl⟩ rfl (Nat.le_of_ble_eq_true rfl) d_Parting_goOn_64 hP hD hS hA 11 6 rfl rfl rfl [11, 12, 1, 13, 14] [0, 2, 3, 4, 5, 6, 7, 8, 9, 10] rfl rfl rfl rfl (by decide) (fun v w1 H locs hw_57 hP hD hS => ?_)
      obtain ⟨x_58, x_59, f_60, f_61, rfl, rfl, hx_58, hx_59, hf_60, hf_61, hfx_62⟩ := hw_57
      have hP : va_P G.1 classes [(b0, .inr (8, [.int b4, .int b5, .ref b6, .int b7, .int b8, .ref b9, .ref b10, .ref b11, .ref b12, .ref b13])), (b11, .inl (G.2 0, 400, .inl y_45)), (b12, .inl (G.2 0, 400, .inl y_46)), (b13, .inl (G.2 0, 400, .inl y_47)), (b1, .inr (5, [.int b26, .int b27, .ref b28, .ref b29, .ref b30, .ref b31, .ref b32, .ref b33, .int b34, .ref b35, .ref b36, .ref b37, .ref b38, .ref b39, .ref b40])), (b35, .inl (G.2 0, 240, .inl b41)), (b39, .inl (G.2 0, 242, .inl b42)), (b2, .inr (5, [.int b43, .int b44, .ref b45, .ref b46, .ref b47, .ref b48, .ref b49, .ref b50, .int b51, .ref b52, .ref b53, .ref b54, .ref b55, .ref b56, .ref b57])), (b52, .inl (G.2 0, 240, .inl b58)), (b56, .inl (G.2 0, 242, .inl b59)), (b9, .inr (6, [.int x_59, .int 8, .int 400, .ref b15, .ref b16])), (b15, .inl (G.2 1, 3200, .inr (.inl f_60))), (b16, .inl (G.2 0, 1024, .inl f_61)), (b10, .inr (6, [.int b19, .int 8, .int 10, .ref b20, .ref b21])), (b20, .inl (G.2 1, 80, .inr (.inl f_6)))] H := hP
      have hD := z_tie hP hD rfl
      refine W.widen (k := 0) (n := 0) (Nat.le_of_ble_eq_true rfl) (Nat.le_of_ble_eq_true rfl) ?_
      refine lv_istore (lv' := [(6, .int x_58), (5, .int y_44), (4, .int y_43), (0, .ref b0), (1, .ref b1), (2, .ref b2), (3, .int b3)]) hx hb d_Parting_goOn_67 hl (by decide) rfl (fun ls hl => ?_)
      refine lv_iload hx hb d_Parting_goOn_69 (lv_at hl 0 rfl) ?_
      refine lv_iconst (v := (-1)) hx hb d_Parting_goOn_71 (by decide) ?_
      refine lv_icmp_ne (tgt := 77) hx hb d_Parting_goOn_72 (by decide) (fun hc_63 => ?_) (fun hc_63 => ?_)
      · have _nhc_63 := hc_63
        have ni_64 : ¬ (x_58 : Int32).toInt = ((-1) : Int32).toInt := fun z => hc_63 ((fa_eq _ _).mpr z)
        simp only [li_m1] at ni_64
        have hv_65 : zI x_58 0 399 := zI.ne_lo hx_58 zc_m1 hc_63 (by decide)
        refine lv_iload hx hb d_Parting_goOn_77 (lv_at hl 0 rfl) ?_
        refine lv_iload hx hb d_Parting_goOn_79 (lv_at hl 1 rfl) ?_
        refine lv_icmp_ne (tgt := 116) hx hb d_Parting_goOn_81 (by decide) (fun hc_66 => ?_) (fun hc_66 => ?_)
        · have _nhc_66 := hc_66
          have ni_67 : ¬ (x_58 : Int32).toInt = (y_44 : Int32).toInt := fun z => hc_66 ((fa_eq _ _).mpr z)
          obtain ⟨v_68, ev_68⟩ : ∃ z : Int32, z = y_43 + 1 := ⟨_, rfl⟩
          obtain ⟨qv_68, hv_68⟩ := zI_add (l := 1) (h := 10) hv_56 zc_1 ev_68 (by decide)
          rw [li_1] at qv_68
          refine lv_iinc (v := v_68) (lv' := [(4, .int v_68), (6, .int x_58), (5, .int y_44), (0, .ref b0), (1, .ref b1), (2, .ref b2), (3, .int b3)]) hx hb d_Parting_goOn_116 hl (k := 2) rfl (by rw [ev_68]; rfl) (by decide) rfl (fun ls hl => ?_)
          refine lv_goto (tgt := 38) hx hb d_Parting_goOn_119 (by decide) ?_
          exact ihk_42 (v_68) (x_59) (y_45) (y_46) (y_47) (f_60) (f_61) _ _ _ (zI.wk (l' := 0) (h' := 10) hv_68 (by decide)) hx_59 hy_45 hy_46 hy_47 hf_60 hf_61 hli_50 (by omega) (zm_up qv_68 hmk_42 (by decide)) (hP.sub [0, 12, 1, 2, 3, 4, 5, 6, 7, 8, 9, 10, 11, 13, 14] rfl) (hD.sub [0, 12, 1, 2, 3, 4, 5, 6, 7, 8, 9, 10, 11, 13, 14] (by decide) rfl) hS (lv_sub hl [0, 3, 4, 5, 6] rfl)
        · have _nhc_66 := hc_66
          have ni_69 := (fa_eq _ _).mp hc_66
          have hv_70 : zI y_44 0 399 := zI.eq_l hy_44 hv_65 hc_66.symm
          refine lv_aload_n hx hb d_Parting_goOn_84 rfl (lv_at hl 3 rfl) ?_
          refine va_get (D := G.1) (ci := 8) (v := .ref b11) (C := R_Parting) (T := F_Parting) (N := 10) hx hb hts i_Parting hown hK hP 0 rfl rfl 7 (by decide) (hts _ q309) (fun _ h9 => h9) rfl d_Parting_goOn_85 ?_
          refine lv_iload hx hb d_Parting_goOn_88 (lv_at hl 0 rfl) ?_
          refine lv_iload_n hx hb d_Parting_goOn_90 rfl (lv_at hl 6 rfl) ?_
          refine va_iast hx hb hK hP hD hS 1 0 rfl rfl (zI.inn hv_65 (by decide)) d_Parting_goOn_91 (fun H locs hP hD hS => ?_)
          obtain ⟨f_71, hf_71, gf_71, uf_71, hP, hD⟩ := z_newfu 1 hP hD rfl hy_45 hb3
          have hP : va_P G.1 classes [(b0, .inr (8, [.int b4, .int b5, .ref b6, .int b7, .int b8, .ref b9, .ref b10, .ref b11, .ref b12, .ref b13])), (b11, .inl (G.2 0, 400, .inl f_71)), (b12, .inl (G.2 0, 400, .inl y_46)), (b13, .inl (G.2 0, 400, .inl y_47)), (b1, .inr (5, [.int b26, .int b27, .ref b28, .ref b29, .ref b30, .ref b31, .ref b32, .ref b33, .int b34, .ref b35, .ref b36, .ref b37, .ref b38, .ref b39, .ref b40])), (b35, .inl (G.2 0, 240, .inl b41)), (b39, .inl (G.2 0, 242, .inl b42)), (b2, .inr (5, [.int b43, .int b44, .ref b45, .ref b46, .ref b47, .ref b48, .ref b49, .ref b50, .int b51, .ref b52, .ref b53, .ref b54, .ref b55, .ref b56, .ref b57])), (b52, .inl (G.2 0, 240, .inl b58)), (b56, .inl (G.2 0, 242, .inl b59)), (b9, .inr (6, [.int x_59, .int 8, .int 400, .ref b15, .ref b16])), (b15, .inl (G.2 1, 3200, .inr (.inl f_60))), (b16, .inl (G.2 0, 1024, .inl f_61)), (b10, .inr (6, [.int b19, .int 8, .int 10, .ref b20, .ref b21])), (b20, .inl (G.2 1, 80, .inr (.inl f_6)))] H := hP
          have hD := z_tie hP hD rfl
          refine lv_aload_n hx hb d_Parting_goOn_92 rfl (lv_at hl 3 rfl) ?_
          refine va_get (D := G.1) (ci := 8) (v := .ref b12) (C := R_Parting) (T := F_Parting) (N := 10) hx hb hts i_Parting hown hK hP 0 rfl rfl 8 (by decide) (hts _ q310) (fun _ h9 => h9) rfl d_Parting_goOn_93 ?_
          refine lv_iload hx hb d_Parting_goOn_96 (lv_at hl 0 rfl) ?_
          refine lv_iload hx hb d_Parting_goOn_98 (lv_at hl 2 rfl) ?_
          refine va_iast hx hb hK hP hD hS 2 0 rfl rfl (zI.inn hv_65 (by decide)) d_Parting_goOn_100 (fun H locs hP hD hS => ?_)
          obtain ⟨f_72, hf_72, gf_72, uf_72, hP, hD⟩ := z_newfu 2 hP hD rfl hy_46 hv_56
          have hP : va_P G.1 classes [(b0, .inr (8, [.int b4, .int b5, .ref b6, .int b7, .int b8, .ref b9, .ref b10, .ref b11, .ref b12, .ref b13])), (b11, .inl (G.2 0, 400, .inl f_71)), (b12, .inl (G.2 0, 400, .inl f_72)), (b13, .inl (G.2 0, 400, .inl y_47)), (b1, .inr (5, [.int b26, .int b27, .ref b28, .ref b29, .ref b30, .ref b31, .ref b32, .ref b33, .int b34, .ref b35, .ref b36, .ref b37, .ref b38, .ref b39, .ref b40])), (b35, .inl (G.2 0, 240, .inl b41)), (b39, .inl (G.2 0, 242, .inl b42)), (b2, .inr (5, [.int b43, .int b44, .ref b45, .ref b46, .ref b47, .ref b48, .ref b49, .ref b50, .int b51, .ref b52, .ref b53, .ref b54, .ref b55, .ref b56, .ref b57])), (b52, .inl (G.2 0, 240, .inl b58)), (b56, .inl (G.2 0, 242, .inl b59)), (b9, .inr (6, [.int x_59, .int 8, .int 400, .ref b15, .ref b16])), (b15, .inl (G.2 1, 3200, .inr (.inl f_60))), (b16, .inl (G.2 0, 1024, .inl f_61)), (b10, .inr (6, [.int b19, .int 8, .int 10, .ref b20, .ref b21])), (b20, .inl (G.2 1, 80, .inr (.inl f_6)))] H := hP
          have hD := z_tie hP hD rfl
          refine lv_aload_n hx hb d_Parting_goOn_101 rfl (lv_at hl 3 rfl) ?_
          refine va_get (D := G.1) (ci := 8) (v := .ref b13) (C := R_Parting) (T := F_Parting) (N := 10) hx hb hts i_Parting hown hK hP 0 rfl rfl 9 (by decide) (hts _ q311) (fun _ h9 => h9) rfl d_Parting_goOn_102 ?_
          refine lv_iload hx hb d_Parting_goOn_105 (lv_at hl 0 rfl) ?_
          refine lv_aload_n hx hb d_Parting_goOn_107 rfl (lv_at hl 3 rfl) ?_
          refine va_get (D := G.1) (ci := 8) (v := .ref b13) (C := R_Parting) (T := F_Parting) (N := 10) hx hb hts i_Parting hown hK hP 0 rfl rfl 9 (by decide) (hts _ q311) (fun _ h9 => h9) rfl d_Parting_goOn_108 ?_
          refine lv_iload_n hx hb d_Parting_goOn_111 rfl (lv_at hl 6 rfl) ?_
          refine va_iald hx hb hK hP 3 0 rfl rfl (zI.inn hb3 (by decide)) d_Parting_goOn_112 ?_
          refine lv_topi (fun v_73 ev_73 => ?_)
          have hv_73 : zI v_73 0 8 := (hy_47 _).eq ev_73
          have hv_74 : zI v_73 0 7 := ⟨hv_73.1, by rw [ev_73]; exact hli_50⟩
          refine lv_iconst (v := 1) hx hb d_Parting_goOn_113 (by decide) ?_
          refine lv_iadd hx hb d_Parting_goOn_114 ?_
          refine lv_topi (fun v_75 ev_75 => ?_)
          obtain ⟨qv_75, hv_75⟩ := zI_add (l := 1) (h := 8) hv_74 zc_1 ev_75 (by decide)
          rw [li_1] at qv_75
          refine va_iast hx hb hK hP hD hS 3 0 rfl rfl (zI.inn hv_65 (by decide)) d_Parting_goOn_115 (fun H locs hP hD hS => ?_)
          obtain ⟨f_76, hf_76, gf_76, uf_76, hP, hD⟩ := z_newfu 3 hP hD rfl hy_47 (zI.wk (l' := 0) (h' := 8) hv_75 (by decide))
          have hP : va_P G.1 classes [(b0, .inr (8, [.int b4, .int b5, .ref b6, .int b7, .int b8, .ref b9, .ref b10, .ref b11, .ref b12, .ref b13])), (b11, .inl (G.2 0, 400, .inl f_71)), (b12, .inl (G.2 0, 400, .inl f_72)), (b13, .inl (G.2 0, 400, .inl f_76)), (b1, .inr (5, [.int b26, .int b27, .ref b28, .ref b29, .ref b30, .ref b31, .ref b32, .ref b33, .int b34, .ref b35, .ref b36, .ref b37, .ref b38, .ref b39, .ref b40])), (b35, .inl (G.2 0, 240, .inl b41)), (b39, .inl (G.2 0, 242, .inl b42)), (b2, .inr (5, [.int b43, .int b44, .ref b45, .ref b46, .ref b47, .ref b48, .ref b49, .ref b50, .int b51, .ref b52, .ref b53, .ref b54, .ref b55, .ref b56, .ref b57])), (b52, .inl (G.2 0, 240, .inl b58)), (b56, .inl (G.2 0, 242, .inl b59)), (b9, .inr (6, [.int x_59, .int 8, .int 400, .ref b15, .ref b16])), (b15, .inl (G.2 1, 3200, .inr (.inl f_60))), (b16, .inl (G.2 0, 1024, .inl f_61)), (b10, .inr (6, [.int b19, .int 8, .int 10, .ref b20, .ref b21])), (b20, .inl (G.2 1, 80, .inr (.inl f_6)))] H := hP
          have hD := z_tie hP hD rfl
          obtain ⟨v_77, ev_77⟩ : ∃ z : Int32, z = y_43 + 1 := ⟨_, rfl⟩
          obtain ⟨qv_77, hv_77⟩ := zI_add (l := 1) (h := 10) hv_56 zc_1 ev_77 (by decide)
          rw [li_1] at qv_77
          refine lv_iinc (v := v_77) (lv' := [(4, .int v_77), (6, .int x_58), (5, .int y_44), (0, .ref b0), (1, .ref b1), (2, .ref b2), (3, .int b3)]) hx hb d_Parting_goOn_116 hl (k := 2) rfl (by rw [ev_77]; rfl) (by decide) rfl (fun ls hl => ?_)
          refine lv_goto (tgt := 38) hx hb d_Parting_goOn_119 (by decide) ?_
          exact ihk_42 (v_77) (x_59) (f_71) (f_72) (f_76) (f_60) (f_61) _ _ _ (zI.wk (l' := 0) (h' := 10) hv_77 (by decide)) hx_59 hf_71 hf_72 hf_76 hf_60 hf_61 (by have p9 := z_pl hv_65 (by decide); have p8 := z_pl hb3 (by decide); rw [uf_76, z_at, if_neg (by omega)]; exact hli_50) (by omega) (zm_up qv_77 hmk_42 (by decide)) (hP.sub [0, 12, 1, 2, 3, 4, 5, 6, 7, 8, 9, 10, 11, 13, 14] rfl) (hD.sub [0, 12, 1, 2, 3, 4, 5, 6, 7, 8, 9, 10, 11, 13, 14] (by decide) rfl) hS (lv_sub hl [0, 3, 4, 5, 6] rfl)
      · have _nhc_63 := hc_63
        have ni_78 := (fa_eq _ _).mp hc_63
        rw [li_m1] at ni_78
        have hv_79 : zI x_58 (-1) (-1) := zI.eq_l hx_58 zc_m1 hc_63
        refine lv_iconst (v := 0) hx hb d_Parting_goOn_75 (by decide) ?_
        exact z_zret hx hb hr hlocks rfl (hP.sub [0, 10, 11, 12, 13, 14, 1, 2, 3, 4, 5, 6, 7, 8, 9] rfl) (hD.sub [0, 10, 11, 12, 13, 14, 1, 2, 3, 4, 5, 6, 7, 8, 9] (by decide) rfl) hS (Nat.le_of_ble_eq_true rfl) (Nat.le_of_ble_eq_true rfl) d_Parting_goOn_76 ⟨0, x_59, f_60, f_61, f_6, y_45, y_46, y_47, rfl, rfl, (zI.wk (l' := 0) (h' := 1) zc_0 (by decide)), hx_59, hf_60, hf_61, hf_6, hy_45, hy_46, hy_47⟩
abbrev m_s2_Parting_find : Room := { frames := 4, cells := 0, slots := 0, locals := 97 }
set_option maxHeartbeats 4000000 in
set_option maxRecDepth 100000 in
theorem s2_Parting_find (l : Launch) (G : zG) (b0 : Nat) (b1 : Nat) (b2 : Nat) (b3 : Int32) (b4 : Int32) (b5 : Nat) (b6 : Int32) (b7 : Int32) (b8 : Nat) (b9 : Nat) (b10 : Nat) (b11 : Nat) (b12 : Nat) (b13 : Nat → Int32) (b14 : Int32) (b15 : Nat) (b16 : Nat) (b17 : Nat → Int64) (b18 : Nat → Int32) (b19 : Int32) (b20 : Nat) (b21 : Nat) (b22 : Nat → Int64) (b23 : Nat → Int32) (b24 : Nat → Int32) (b25 : Nat → Int32) (b26 : Int32) (b27 : Int32) (b28 : Nat) (b29 : Nat) (b30 : Nat) (b31 : Nat) (b32 : Nat) (b33 : Nat) (b34 : Int32) (b35 : Nat) (b36 : Nat) (b37 : Nat) (b38 : Nat) (b39 : Nat) (b40 : Nat) (b41 : Nat → Int64) (b42 : Nat → Int32) (b43 : Nat → Int32) (b44 : Int32) (b45 : Int32) (b46 : Nat) (b47 : Nat) (b48 : Nat) (b49 : Nat) (b50 : Nat) (b51 : Nat) (b52 : Int32) (b53 : Nat) (b54 : Nat) (b55 : Nat) (b56 : Nat) (b57 : Nat) (b58 : Nat) (b59 : Nat → Int64) (b60 : Nat → Int32) (b61 : Nat → Int32) (hb3 : zI b3 0 1) (hb4 : zI b4 (-2) 8) (hb14 : zI b14 0 400) (hb19 : zI b19 0 10) (hb26 : zI b26 0 1) (hb27 : zI b27 0 241) (hb34 : zI b34 0 240) (hb44 : zI b44 0 1) (hb45 : zI b45 0 241) (hb52 : zI b52 0 240) (hb13 : zR b13 0 9) (hb17 : zqa qB b17) (hb18 : zR b18 (-1) 399) (hb22 : zqa qB b22) (hb23 : zR b23 0 399) (hb24 : zR b24 0 9) (hb25 : zR b25 0 8) (hb42 : zK b42) (hb43 : zR b43 0 240) (hb60 : zK b60) (hb61 : zR b61 0 240) : zM l G y_Parting_find prog_7_method_4_code 4 (Option.none : Option Jvm.ClassFile.FieldType) m_s2_Parting_find [.ref b0, .ref b1, .ref b2] [(b0, .inr (8, [.int b3, .int b4, .ref b5, .int b6, .int b7, .ref b8, .ref b9, .ref b10, .ref b11, .ref b12])), (b5, .inl (G.2 0, 8, .inl b13)), (b8, .inr (6, [.int b14, .int 8, .int 400, .ref b15, .ref b16])), (b15, .inl (G.2 1, 3200, .inr (.inl b17))), (b16, .inl (G.2 0, 1024, .inl b18)), (b9, .inr (6, [.int b19, .int 8, .int 10, .ref b20, .ref b21])), (b20, .inl (G.2 1, 80, .inr (.inl b22))), (b10, .inl (G.2 0, 400, .inl b23)), (b11, .inl (G.2 0, 400, .inl b24)), (b12, .inl (G.2 0, 400, .inl b25)), (b1, .inr (5, [.int b26, .int b27, .ref b28, .ref b29, .ref b30, .ref b31, .ref b32, .ref b33, .int b34, .ref b35, .ref b36, .ref b37, .ref b38, .ref b39, .ref b40])), (b33, .inl (G.2 1, 4, .inr (.inl b41))), (b35, .inl (G.2 0, 240, .inl b42)), (b39, .inl (G.2 0, 242, .inl b43)), (b2, .inr (5, [.int b44, .int b45, .ref b46, .ref b47, .ref b48, .ref b49, .ref b50, .ref b51, .int b52, .ref b53, .ref b54, .ref b55, .ref b56, .ref b57, .ref b58])), (b51, .inl (G.2 1, 4, .inr (.inl b59))), (b53, .inl (G.2 0, 240, .inl b60)), (b57, .inl (G.2 0, 242, .inl b61))] (fun v w => ∃ (e0 : Int32), ∃ (e1 : Nat → Int32), ∃ (e2 : Int32), ∃ (e3 : Nat → Int64), ∃ (e4 : Nat → Int32), ∃ (e5 : Nat → Int64), ∃ (e6 : Nat → Int32), ∃ (e7 : Nat → Int32), ∃ (e8 : Nat → Int32), v = none ∧ w = [(b0, .inr (8, [.int b3, .int e0, .ref b5, .int b6, .int b7, .ref b8, .ref b9, .ref b10, .ref b11, .ref b12])), (b5, .inl (G.2 0, 8, .inl e1)), (b8, .inr (6, [.int e2, .int 8, .int 400, .ref b15, .ref b16])), (b15, .inl (G.2 1, 3200, .inr (.inl e3))), (b16, .inl (G.2 0, 1024, .inl e4)), (b9, .inr (6, [.int b19, .int 8, .int 10, .ref b20, .ref b21])), (b20, .inl (G.2 1, 80, .inr (.inl e5))), (b10, .inl (G.2 0, 400, .inl e6)), (b11, .inl (G.2 0, 400, .inl e7)), (b12, .inl (G.2 0, 400, .inl e8)), (b1, .inr (5, [.int b26, .int b27, .ref b28, .ref b29, .ref b30, .ref b31, .ref b32, .ref b33, .int b34, .ref b35, .ref b36, .ref b37, .ref b38, .ref b39, .ref b40])), (b33, .inl (G.2 1, 4, .inr (.inl b41))), (b35, .inl (G.2 0, 240, .inl b42)), (b39, .inl (G.2 0, 242, .inl b43)), (b2, .inr (5, [.int b44, .int b45, .ref b46, .ref b47, .ref b48, .ref b49, .ref b50, .ref b51, .int b52, .ref b53, .ref b54, .ref b55, .ref b56, .ref b57, .ref b58])), (b51, .inl (G.2 1, 4, .inr (.inl b59))), (b53, .inl (G.2 0, 240, .inl b60)), (b57, .inl (G.2 0, 242, .inl b61))] ∧ (zI e0 (-2) 8) ∧ (zR e1 0 9) ∧ (zI e2 0 400) ∧ (zqa qB e3) ∧ (zR e4 (-1) 399) ∧ (zqa qB e5) ∧ (zR e6 0 399) ∧ (zR e7 0 9) ∧ (zR e8 0 8)) := by
  refine z_start (by decide +kernel) (Nat.le_of_ble_eq_true rfl) ?_
  intro p e s m below meth c A Z hr hnm hA hP hD hS ls hl
  have Z : zC p s m _ meth c prog_7_method_4_code 4 "TraceMachines$Parting" G := Z
  obtain ⟨hx, hb, hml, hown, hts, hK, hN, hlocks⟩ := id Z
  have hl : lv_has ls 4 [(0, .ref b0), (1, .ref b1), (2, .ref b2)] := hl
  refine lv_aload_n hx hb d_Parting_find_0 rfl (lv_at hl 0 rfl) ?_
  refine lv_iconst (v := (-1)) hx hb d_Parting_find_1 (by decide) ?_
  refine va_put (D := G.1) (ci := 8) (v := .int (-1)) (ty := .int) (C := R_Parting) (T := F_Parting) (N := 10) hx hb hts i_Parting t_Parting t_Parting_ok n_Parting hown hK hP hD hS 0 rfl rfl 1 (by decide) (hts _ q301) (fun _ h9 => h9) rfl (by decide +kernel) rfl rfl (Nat.le_of_ble_eq_true rfl) d_Parting_find_2 (fun H locs hP hD hS => ?_)
  have hP : va_P G.1 classes [(b0, .inr (8, [.int b3, .int (-1), .ref b5, .int b6, .int b7, .ref b8, .ref b9, .ref b10, .ref b11, .ref b12])), (b5, .inl (G.2 0, 8, .inl b13)), (b8, .inr (6, [.int b14, .int 8, .int 400, .ref b15, .ref b16])), (b15, .inl (G.2 1, 3200, .inr (.inl b17))), (b16, .inl (G.2 0, 1024, .inl b18)), (b9, .inr (6, [.int b19, .int 8, .int 10, .ref b20, .ref b21])), (b20, .inl (G.2 1, 80, .inr (.inl b22))), (b10, .inl (G.2 0, 400, .inl b23)), (b11, .inl (G.2 0, 400, .inl b24)), (b12, .inl (G.2 0, 400, .inl b25)), (b1, .inr (5, [.int b26, .int b27, .ref b28, .ref b29, .ref b30, .ref b31, .ref b32, .ref b33, .int b34, .ref b35, .ref b36, .ref b37, .ref b38, .ref b39, .ref b40])), (b33, .inl (G.2 1, 4, .inr (.inl b41))), (b35, .inl (G.2 0, 240, .inl b42)), (b39, .inl (G.2 0, 242, .inl b43)), (b2, .inr (5, [.int b44, .int b45, .ref b46, .ref b47, .ref b48, .ref b49, .ref b50, .ref b51, .int b52, .ref b53, .ref b54, .ref b55, .ref b56, .ref b57, .ref b58])), (b51, .inl (G.2 1, 4, .inr (.inl b59))), (b53, .inl (G.2 0, 240, .inl b60)), (b57, .inl (G.2 0, 242, .inl b61))] H := hP
  have hD := z_tie hP hD rfl
  refine lv_aload_n hx hb d_Parting_find_5 rfl (lv_at hl 0 rfl) ?_
  refine lv_aload_n hx hb d_Parting_find_6 rfl (lv_at hl 1 rfl) ?_
  refine lv_aload_n hx hb d_Parting_find_7 rfl (lv_at hl 2 rfl) ?_
  refine z_callV (index := 50) (As := [.ref b1, .ref b2]) (rest := []) (wr := [(b5, .inl (G.2 0, 8, .inl b13)), (b10, .inl (G.2 0, 400, .inl b23)), (b11, .inl (G.2 0, 400, .inl b24)), (b33, .inl (G.2 1, 4, .inr (.inl b41))), (b35, .inl (G.2 0, 240, .inl b42)), (b39, .inl (G.2 0, 242, .inl b43)), (b51, .inl (G.2 1, 4, .inr (.inl b59))), (b53, .inl (G.2 0, 240, .inl b60)), (b57, .inl (G.2 0, 242, .inl b61))]) Z (s4_Parting_begin l G (b0) (b1) (b2) (b3) ((-1)) (b5) (b6) (b7) (b8) (b9) (b10) (b11) (b12) (b14) (b15) (b16) (b17) (b18) (b19) (b20) (b21) (b22) (b25) (b26) (b27) (b28) (b29) (b30) (b31) (b32) (b33) (b34) (b35) (b36) (b37) (b38) (b39) (b40) (b44) (b45) (b46) (b47) (b48) (b49) (b50) (b51) (b52) (b53) (b54) (b55) (b56) (b57) (b58) hb3 (zI.wk (l' := (-2)) (h' := 8) zc_m1 (by decide)) hb14 hb19 hb26 hb27 hb34 hb44 hb45 hb52 hb17 hb18 hb22 hb25) hl.1 q878 q880 qs29 q9 q881 ⟨by decide, by decide, by show _ = some 2; decide +kernel⟩ ⟨Nat.le_of_ble_eq_true rfl, Nat.le_of_ble_eq_true rfl⟩ ⟨Nat.le_of_ble_eq_true rfl, Nat.le_of_ble_eq_true rfl⟩ rfl (Nat.le_of_ble_eq_true rfl) d_Parting_find_8 hP hD hS hA 0 8 rfl rfl rfl [0, 2, 3, 4, 5, 6, 9, 10, 14] [1, 7, 8, 11, 12, 13, 15, 16, 17] rfl rfl rfl rfl (by decide) (fun v w1 H locs hw_1 hP hD hS => ?_)
  obtain ⟨x_2, f_3, f_4, f_5, f_6, rfl, rfl, hx_2, hf_3, hf_4, hf_5, hf_6⟩ := hw_1
  have hP : va_P G.1 classes [(b5, .inl (G.2 0, 8, .inl b13)), (b10, .inl (G.2 0, 400, .inl b23)), (b11, .inl (G.2 0, 400, .inl b24)), (b33, .inl (G.2 1, 4, .inr (.inl b41))), (b35, .inl (G.2 0, 240, .inl b42)), (b39, .inl (G.2 0, 242, .inl b43)), (b51, .inl (G.2 1, 4, .inr (.inl b59))), (b53, .inl (G.2 0, 240, .inl b60)), (b57, .inl (G.2 0, 242, .inl b61)), (b0, .inr (8, [.int b3, .int (-1), .ref b5, .int b6, .int b7, .ref b8, .ref b9, .ref b10, .ref b11, .ref b12])), (b8, .inr (6, [.int x_2, .int 8, .int 400, .ref b15, .ref b16])), (b15, .inl (G.2 1, 3200, .inr (.inl f_3))), (b16, .inl (G.2 0, 1024, .inl f_4)), (b9, .inr (6, [.int b19, .int 8, .int 10, .ref b20, .ref b21])), (b20, .inl (G.2 1, 80, .inr (.inl f_5))), (b12, .inl (G.2 0, 400, .inl f_6)), (b1, .inr (5, [.int b26, .int b27, .ref b28, .ref b29, .ref b30, .ref b31, .ref b32, .ref b33, .int b34, .ref b35, .ref b36, .ref b37, .ref b38, .ref b39, .ref b40])), (b2, .inr (5, [.int b44, .int b45, .ref b46, .ref b47, .ref b48, .ref b49, .ref b50, .ref b51, .int b52, .ref b53, .ref b54, .ref b55, .ref b56, .ref b57, .ref b58]))] H := hP
  have hD := z_tie hP hD rfl
  refine W.widen (k := 0) (n := 0) (Nat.le_of_ble_eq_true rfl) (Nat.le_of_ble_eq_true rfl) ?_
  refine lv_iconst (v := 0) hx hb d_Parting_find_11 (by decide) ?_
  refine lv_istore_n (lv' := [(3, .int 0), (0, .ref b0), (1, .ref b1), (2, .ref b2)]) hx hb d_Parting_find_12 rfl hl (by decide) rfl (fun ls hl => ?_)
  suffices key : ∀ (k_57 : Nat) (y_58 : Int32) (y_59 : Int32) (y_60 : Nat → Int32) (y_61 : Nat → Int32) (y_62 : Nat → Int32) (y_63 : Nat → Int64) (y_64 : Nat → Int32) (y_65 : Nat → Int64) (H : Heap) (locs : List Loc) (ls : Array Slot), (zI y_58 0 400) → (zI y_59 0 400) → (zR y_60 0 399) → (zR y_61 0 9) → (zR y_62 0 8) → (zqa qB y_63) → (zR y_64 (-1) 399) → (zqa qB y_65) → (400 : Int) - y_58.toInt < (k_57 : Int) → va_P G.1 classes [(b5, .inl (G.2 0, 8, .inl b13)), (b10, .inl (G.2 0, 400, .inl y_60)), (b11, .inl (G.2 0, 400, .inl y_61)), (b33, .inl (G.2 1, 4, .inr (.inl b41))), (b35, .inl (G.2 0, 240, .inl b42)), (b39, .inl (G.2 0, 242, .inl b43)), (b51, .inl (G.2 1, 4, .inr (.inl b59))), (b53, .inl (G.2 0, 240, .inl b60)), (b57, .inl (G.2 0, 242, .inl b61)), (b0, .inr (8, [.int b3, .int (-1), .ref b5, .int b6, .int b7, .ref b8, .ref b9, .ref b10, .ref b11, .ref b12])), (b8, .inr (6, [.int y_59, .int 8, .int 400, .ref b15, .ref b16])), (b15, .inl (G.2 1, 3200, .inr (.inl y_63))), (b16, .inl (G.2 0, 1024, .inl y_64)), (b9, .inr (6, [.int b19, .int 8, .int 10, .ref b20, .ref b21])), (b20, .inl (G.2 1, 80, .inr (.inl y_65))), (b12, .inl (G.2 0, 400, .inl y_62)), (b1, .inr (5, [.int b26, .int b27, .ref b28, .ref b29, .ref b30, .ref b31, .ref b32, .ref b33, .int b34, .ref b35, .ref b36, .ref b37, .ref b38, .ref b39, .ref b40])), (b2, .inr (5, [.int b44, .int b45, .ref b46, .ref b47, .ref b48, .ref b49, .ref b50, .ref b51, .int b52, .ref b53, .ref b54, .ref b55, .ref b56, .ref b57, .ref b58]))] H → va_D A [(b5, .inl (G.2 0, 8, .inl b13)), (b10, .inl (G.2 0, 400, .inl y_60)), (b11, .inl (G.2 0, 400, .inl y_61)), (b33, .inl (G.2 1, 4, .inr (.inl b41))), (b35, .inl (G.2 0, 240, .inl b42)), (b39, .inl (G.2 0, 242, .inl b43)), (b51, .inl (G.2 1, 4, .inr (.inl b59))), (b53, .inl (G.2 0, 240, .inl b60)), (b57, .inl (G.2 0, 242, .inl b61)), (b0, .inr (8, [.int b3, .int (-1), .ref b5, .int b6, .int b7, .ref b8, .ref b9, .ref b10, .ref b11, .ref b12])), (b8, .inr (6, [.int y_59, .int 8, .int 400, .ref b15, .ref b16])), (b15, .inl (G.2 1, 3200, .inr (.inl y_63))), (b16, .inl (G.2 0, 1024, .inl y_64)), (b9, .inr (6, [.int b19, .int 8, .int 10, .ref b20, .ref b21])), (b20, .inl (G.2 1, 80, .inr (.inl y_65))), (b12, .inl (G.2 0, 400, .inl y_62)), (b1, .inr (5, [.int b26, .int b27, .ref b28, .ref b29, .ref b30, .ref b31, .ref b32, .ref b33, .int b34, .ref b35, .ref b36, .ref b37, .ref b38, .ref b39, .ref b40])), (b2, .inr (5, [.int b44, .int b45, .ref b46, .ref b47, .ref b48, .ref b49, .ref b50, .ref b51, .int b52, .ref b53, .ref b54, .ref b55, .ref b56, .ref b57, .ref b58]))] → va_S A s.heap H locs → lv_has ls 4 [(3, .int y_58), (0, .ref b0), (1, .ref b1), (2, .ref b2)] → W p l e m_s2_Parting_find s m ([.ref b0, .ref b1, .ref b2] : List Value).toArray below meth c H locs 0 0 (MQ below (zQ G (fun v w => ∃ (e0 : Int32), ∃ (e1 : Nat → Int32), ∃ (e2 : Int32), ∃ (e3 : Nat → Int64), ∃ (e4 : Nat → Int32), ∃ (e5 : Nat → Int64), ∃ (e6 : Nat → Int32), ∃ (e7 : Nat → Int32), ∃ (e8 : Nat → Int32), v = none ∧ w = [(b0, .inr (8, [.int b3, .int e0, .ref b5, .int b6, .int b7, .ref b8, .ref b9, .ref b10, .ref b11, .ref b12])), (b5, .inl (G.2 0, 8, .inl e1)), (b8, .inr (6, [.int e2, .int 8, .int 400, .ref b15, .ref b16])), (b15, .inl (G.2 1, 3200, .inr (.inl e3))), (b16, .inl (G.2 0, 1024, .inl e4)), (b9, .inr (6, [.int b19, .int 8, .int 10, .ref b20, .ref b21])), (b20, .inl (G.2 1, 80, .inr (.inl e5))), (b10, .inl (G.2 0, 400, .inl e6)), (b11, .inl (G.2 0, 400, .inl e7)), (b12, .inl (G.2 0, 400, .inl e8)), (b1, .inr (5, [.int b26, .int b27, .ref b28, .ref b29, .ref b30, .ref b31, .ref b32, .ref b33, .int b34, .ref b35, .ref b36, .ref b37, .ref b38, .ref b39, .ref b40])), (b33, .inl (G.2 1, 4, .inr (.inl b41))), (b35, .inl (G.2 0, 240, .inl b42)), (b39, .inl (G.2 0, 242, .inl b43)), (b2, .inr (5, [.int b44, .int b45, .ref b46, .ref b47, .ref b48, .ref b49, .ref b50, .ref b51, .int b52, .ref b53, .ref b54, .ref b55, .ref b56, .ref b57, .ref b58])), (b51, .inl (G.2 1, 4, .inr (.inl b59))), (b53, .inl (G.2 0, 240, .inl b60)), (b57, .inl (G.2 0, 242, .inl b61))] ∧ (zI e0 (-2) 8) ∧ (zR e1 0 9) ∧ (zI e2 0 400) ∧ (zqa qB e3) ∧ (zR e4 (-1) 399) ∧ (zqa qB e5) ∧ (zR e6 0 399) ∧ (zR e7 0 9) ∧ (zR e8 0 8)) A) ([.ref b0, .ref b1, .ref b2] : List Value).toArray s m_s2_Parting_find.cells m_s2_Parting_find.slots A) (F0 m 13 ls []) by
    exact key 401 (0) (x_2) (b23) (b24) (f_6) (f_3) (f_4) (f_5) _ _ _ (zI.wk (l' := 0) (h' := 400) zc_0 (by decide)) hx_2 hb23 hb24 hf_6 hf_3 hf_4 hf_5 (zm_upi (zI.wk (l' := 0) (h' := 400) zc_0 (by decide)) (by decide)) hP hD hS (lv_sub hl [0, 1, 2, 3] rfl)
  intro k_57
  induction k_57 with
  | zero =>
    intro y_58 y_59 y_60 y_61 y_62 y_63 y_64 y_65 H locs ls hy_58 hy_59 hy_60 hy_61 hy_62 hy_63 hy_64 hy_65 hmk_57 hP hD hS hl
    exact (zm_up0 hy_58 hmk_57).elim
  | succ k_57 ihk_57 =>
    intro y_58 y_59 y_60 y_61 y_62 y_63 y_64 y_65 H locs ls hy_58 hy_59 hy_60 hy_61 hy_62 hy_63 hy_64 hy_65 hmk_57 hP hD hS hl
    refine lv_iload_n hx hb d_Parting_find_13 rfl (lv_at hl 0 rfl) ?_
    refine lv_sipush (v := 400) hx hb d_Parting_find_14 (by decide) ?_
    refine lv_icmp_ge (tgt := 94) hx hb d_Parting_find_17 (by decide) (fun hc_66 => ?_) (fun hc_66 => ?_)
    · have _nhc_66 := hc_66
      have ni_67 := (fa_le _ _).mp hc_66
      rw [li_400] at ni_67
      have hv_68 : zI y_58 400 400 := zI.le_r zc_400 hy_58 hc_66 (by decide)
      exact z_vret hx hb hr hlocks (hP.sub [9, 0, 10, 11, 12, 13, 14, 1, 2, 15, 16, 3, 4, 5, 17, 6, 7, 8] rfl) (hD.sub [9, 0, 10, 11, 12, 13, 14, 1, 2, 15, 16, 3, 4, 5, 17, 6, 7, 8] (by decide) rfl) hS (Nat.le_of_ble_eq_true rfl) (Nat.le_of_ble_eq_true rfl) d_Parting_find_94 ⟨(-1), b13, y_59, y_63, y_64, y_65, y_60, y_61, y_62, rfl, rfl, (zI.wk (l' := (-2)) (h' := 8) zc_m1 (by decide)), hb13, hy_59, hy_63, hy_64, hy_65, hy_60, hy_61, hy_62⟩
    · have _nhc_66 := hc_66
      have ni_69 := (fa_lt _ _).mp (zi_nle hc_66)
      rw [li_400] at ni_69
      have hv_70 : zI y_58 0 399 := zI.lt_l hy_58 zc_400 (zi_nle hc_66) (by decide)
      refine lv_iload_n hx hb d_Parting_find_20 rfl (lv_at hl 0 rfl) ?_
      refine lv_aload_n hx hb d_Parting_find_21 rfl (lv_at hl 1 rfl) ?_
      refine va_get (D := G.1) (ci := 8) (v := .ref b8) (C := R_Parting) (T := F_Parting) (N := 10) hx hb hts i_Parting hown hK hP 9 rfl rfl 5 (by decide) (hts _ q307) (fun _ h9 => h9) rfl d_Parting_find_22 ?_
      refine va_get (D := G.1) (ci := 6) (v := .int y_59) (C := R_Sets) (T := F_Sets) (N := 5) hx hb hts i_Sets hown hK hP 10 rfl rfl 0 (by decide) (hts _ q241) (fun _ h9 => h9) rfl d_Parting_find_25 ?_
      refine lv_icmp_ge (tgt := 94) hx hb d_Parting_find_28 (by decide) (fun hc_71 => ?_) (fun hc_71 => ?_)
      · have _nhc_71 := hc_71
        have ni_72 := (fa_le _ _).mp hc_71
        have hv_73 : zI y_59 0 399 := zI.le_l hy_59 hv_70 hc_71 (by decide)
        exact z_vret hx hb hr hlocks (hP.sub [9, 0, 10, 11, 12, 13, 14, 1, 2, 15, 16, 3, 4, 5, 17, 6, 7, 8] rfl) (hD.sub [9, 0, 10, 11, 12, 13, 14, 1, 2, 15, 16, 3, 4, 5, 17, 6, 7, 8] (by decide) rfl) hS (Nat.le_of_ble_eq_true rfl) (Nat.le_of_ble_eq_true rfl) d_Parting_find_94 ⟨(-1), b13, y_59, y_63, y_64, y_65, y_60, y_61, y_62, rfl, rfl, (zI.wk (l' := (-2)) (h' := 8) zc_m1 (by decide)), hb13, (zI.wk (l' := 0) (h' := 400) hv_73 (by decide)), hy_63, hy_64, hy_65, hy_60, hy_61, hy_62⟩
      · have _nhc_71 := hc_71
        have ni_74 := (fa_lt _ _).mp (zi_nle hc_71)
        have hv_75 : zI y_59 1 400 := zI.lt_r hv_70 hy_59 (zi_nle hc_71) (by decide)
        refine lv_aload_n hx hb d_Parting_find_31 rfl (lv_at hl 2 rfl) ?_
        refine lv_aload_n hx hb d_Parting_find_32 rfl (lv_at hl 1 rfl) ?_
        refine va_get (D := G.1) (ci := 8) (v := .ref b8) (C := R_Parting) (T := F_Parting) (N := 10) hx hb hts i_Parting hown hK hP 9 rfl rfl 5 (by decide) (hts _ q307) (fun _ h9 => h9) rfl d_Parting_find_33 ?_
        refine lv_iload_n hx hb d_Parting_find_36 rfl (lv_at hl 0 rfl) ?_
        refine lv_iconst (v := 0) hx hb d_Parting_find_37 (by decide) ?_
        refine z_callV (index := 57) (As := [.ref b8, .int y_58, .int 0]) (rest := []) (wr := [(b5, .inl (G.2 0, 8, .inl b13)), (b10, .inl (G.2 0, 400, .inl y_60)), (b11, .inl (G.2 0, 400, .inl y_61)), (b35, .inl (G.2 0, 240, .inl b42)), (b39, .inl (G.2 0, 242, .inl b43)), (b51, .inl (G.2 1, 4, .inr (.inl b59))), (b53, .inl (G.2 0, 240, .inl b60)), (b57, .inl (G.2 0, 242, .inl b61)), (b0, .inr (8, [.int b3, .int (-1), .ref b5, .int b6, .int b7, .ref b8, .ref b9, .ref b10, .ref b11, .ref b12])), (b16, .inl (G.2 0, 1024, .inl y_64)), (b9, .inr (6, [.int b19, .int 8, .int 10, .ref b20, .ref b21])), (b20, .inl (G.2 1, 80, .inr (.inl y_65))), (b12, .inl (G.2 0, 400, .inl y_62)), (b2, .inr (5, [.int b44, .int b45, .ref b46, .ref b47, .ref b48, .ref b49, .ref b50, .ref b51, .int b52, .ref b53, .ref b54, .ref b55, .ref b56, .ref b57, .ref b58]))]) Z (s3_Machine_takes l G (b1) (b8) (y_58) (0) (b26) (b27) (b28) (b29) (b30) (b31) (b32) (b33) (b34) (b35) (b36) (b37) (b38) (b39) (b40) (b41) (y_59) (b15) (b16) (y_63) hv_70 (zI.wk (l' := 0) (h' := 1) zc_0 (by decide)) hb26 hb27 hb34 (zI.wk (l' := 0) (h' := 400) hv_75 (by decide)) hy_63) hl.1 q886 q743 q744 q6 q745 ⟨by decide, by decide, by show _ = some 3; decide +kernel⟩ ⟨Nat.le_of_ble_eq_true rfl, Nat.le_of_ble_eq_true rfl⟩ ⟨Nat.le_of_ble_eq_true rfl, Nat.le_of_ble_eq_true rfl⟩ rfl (Nat.le_of_ble_eq_true rfl) d_Parting_find_38 hP hD hS hA 16 5 rfl rfl rfl [16, 3, 10, 11] [0, 1, 2, 4, 5, 6, 7, 8, 9, 12, 13, 14, 15, 17] rfl rfl rfl rfl (by decide) (fun v w1 H locs hw_76 hP hD hS => ?_)
        obtain ⟨x_77, rfl, rfl, hx_77⟩ := hw_76
        have hP : va_P G.1 classes [(b5, .inl (G.2 0, 8, .inl b13)), (b10, .inl (G.2 0, 400, .inl y_60)), (b11, .inl (G.2 0, 400, .inl y_61)), (b35, .inl (G.2 0, 240, .inl b42)), (b39, .inl (G.2 0, 242, .inl b43)), (b51, .inl (G.2 1, 4, .inr (.inl b59))), (b53, .inl (G.2 0, 240, .inl b60)), (b57, .inl (G.2 0, 242, .inl b61)), (b0, .inr (8, [.int b3, .int (-1), .ref b5, .int b6, .int b7, .ref b8, .ref b9, .ref b10, .ref b11, .ref b12])), (b16, .inl (G.2 0, 1024, .inl y_64)), (b9, .inr (6, [.int b19, .int 8, .int 10, .ref b20, .ref b21])), (b20, .inl (G.2 1, 80, .inr (.inl y_65))), (b12, .inl (G.2 0, 400, .inl y_62)), (b2, .inr (5, [.int b44, .int b45, .ref b46, .ref b47, .ref b48, .ref b49, .ref b50, .ref b51, .int b52, .ref b53, .ref b54, .ref b55, .ref b56, .ref b57, .ref b58])), (b1, .inr (5, [.int b26, .int b27, .ref b28, .ref b29, .ref b30, .ref b31, .ref b32, .ref b33, .int b34, .ref b35, .ref b36, .ref b37, .ref b38, .ref b39, .ref b40])), (b33, .inl (G.2 1, 4, .inr (.inl b41))), (b8, .inr (6, [.int y_59, .int 8, .int 400, .ref b15, .ref b16])), (b15, .inl (G.2 1, 3200, .inr (.inl y_63)))] H := hP
        have hD := z_tie hP hD rfl
        refine W.widen (k := 0) (n := 0) (Nat.le_of_ble_eq_true rfl) (Nat.le_of_ble_eq_true rfl) ?_
        refine lv_aload_n hx hb d_Parting_find_41 rfl (lv_at hl 3 rfl) ?_
        refine lv_aload_n hx hb d_Parting_find_42 rfl (lv_at hl 1 rfl) ?_
        refine va_get (D := G.1) (ci := 8) (v := .ref b8) (C := R_Parting) (T := F_Parting) (N := 10) hx hb hts i_Parting hown hK hP 8 rfl rfl 5 (by decide) (hts _ q307) (fun _ h9 => h9) rfl d_Parting_find_43 ?_
        refine lv_iload_n hx hb d_Parting_find_46 rfl (lv_at hl 0 rfl) ?_
        refine lv_iconst (v := 1) hx hb d_Parting_find_47 (by decide) ?_
        refine z_callV (index := 57) (As := [.ref b8, .int y_58, .int 1]) (rest := [.int x_77]) (wr := [(b5, .inl (G.2 0, 8, .inl b13)), (b10, .inl (G.2 0, 400, .inl y_60)), (b11, .inl (G.2 0, 400, .inl y_61)), (b35, .inl (G.2 0, 240, .inl b42)), (b39, .inl (G.2 0, 242, .inl b43)), (b53, .inl (G.2 0, 240, .inl b60)), (b57, .inl (G.2 0, 242, .inl b61)), (b0, .inr (8, [.int b3, .int (-1), .ref b5, .int b6, .int b7, .ref b8, .ref b9, .ref b10, .ref b11, .ref b12])), (b16, .inl (G.2 0, 1024, .inl y_64)), (b9, .inr (6, [.int b19, .int 8, .int 10, .ref b20, .ref b21])), (b20, .inl (G.2 1, 80, .inr (.inl y_65))), (b12, .inl (G.2 0, 400, .inl y_62)), (b1, .inr (5, [.int b26, .int b27, .ref b28, .ref b29, .ref b30, .ref b31, .ref b32, .ref b33, .int b34, .ref b35, .ref b36, .ref b37, .ref b38, .ref b39, .ref b40])), (b33, .inl (G.2 1, 4, .inr (.inl b41)))]) Z (s3_Machine_takes l G (b2) (b8) (y_58) (1) (b44) (b45) (b46) (b47) (b48) (b49) (b50) (b51) (b52) (b53) (b54) (b55) (b56) (b57) (b58) (b59) (y_59) (b15) (b16) (y_63) hv_70 (zI.wk (l' := 0) (h' := 1) zc_1 (by decide)) hb44 hb45 hb52 (zI.wk (l' := 0) (h' := 400) hv_75 (by decide)) hy_63) hl.1 q886 q743 q744 q6 q745 ⟨by decide, by decide, by show _ = some 3; decide +kernel⟩ ⟨Nat.le_of_ble_eq_true rfl, Nat.le_of_ble_eq_true rfl⟩ ⟨Nat.le_of_ble_eq_true rfl, Nat.le_of_ble_eq_true rfl⟩ rfl (Nat.le_of_ble_eq_true rfl) d_Parting_find_48 hP hD hS hA 13 5 rfl rfl rfl [13, 5, 16, 17] [0, 1, 2, 3, 4, 6, 7, 8, 9, 10, 11, 12, 14, 15] rfl rfl rfl rfl (by decide) (fun v w1 H locs hw_78 hP hD hS => ?_)
        obtain ⟨x_79, rfl, rfl, hx_79⟩ := hw_78
        have hP : va_P G.1 classes [(b5, .inl (G.2 0, 8, .inl b13)), (b10, .inl (G.2 0, 400, .inl y_60)), (b11, .inl (G.2 0, 400, .inl y_61)), (b35, .inl (G.2 0, 240, .inl b42)), (b39, .inl (G.2 0, 242, .inl b43)), (b53, .inl (G.2 0, 240, .inl b60)), (b57, .inl (G.2 0, 242, .inl b61)), (b0, .inr (8, [.int b3, .int (-1), .ref b5, .int b6, .int b7, .ref b8, .ref b9, .ref b10, .ref b11, .ref b12])), (b16, .inl (G.2 0, 1024, .inl y_64)), (b9, .inr (6, [.int b19, .int 8, .int 10, .ref b20, .ref b21])), (b20, .inl (G.2 1, 80, .inr (.inl y_65))), (b12, .inl (G.2 0, 400, .inl y_62)), (b1, .inr (5, [.int b26, .int b27, .ref b28, .ref b29, .ref b30, .ref b31, .ref b32, .ref b33, .int b34, .ref b35, .ref b36, .ref b37, .ref b38, .ref b39, .ref b40])), (b33, .inl (G.2 1, 4, .inr (.inl b41))), (b2, .inr (5, [.int b44, .int b45, .ref b46, .ref b47, .ref b48, .ref b49, .ref b50, .ref b51, .int b52, .ref b53, .ref b54, .ref b55, .ref b56, .ref b57, .ref b58])), (b51, .inl (G.2 1, 4, .inr (.inl b59))), (b8, .inr (6, [.int y_59, .int 8, .int 400, .ref b15, .ref b16])), (b15, .inl (G.2 1, 3200, .inr (.inl y_63)))] H := hP
        have hD := z_tie hP hD rfl
        refine W.widen (k := 0) (n := 0) (Nat.le_of_ble_eq_true rfl) (Nat.le_of_ble_eq_true rfl) ?_
        refine lv_icmp_eq (tgt := 60) hx hb d_Parting_find_51 (by decide) (fun hc_80 => ?_) (fun hc_80 => ?_)
        · have _nhc_80 := hc_80
          have ni_81 := (fa_eq _ _).mp hc_80
          refine lv_aload_n hx hb d_Parting_find_60 rfl (lv_at hl 1 rfl) ?_
          refine va_get (D := G.1) (ci := 8) (v := .ref b12) (C := R_Parting) (T := F_Parting) (N := 10) hx hb hts i_Parting hown hK hP 7 rfl rfl 9 (by decide) (hts _ q311) (fun _ h9 => h9) rfl d_Parting_find_61 ?_
          refine lv_iload_n hx hb d_Parting_find_64 rfl (lv_at hl 0 rfl) ?_
          refine va_iald hx hb hK hP 11 0 rfl rfl (zI.inn hv_70 (by decide)) d_Parting_find_65 ?_
          refine lv_topi (fun v_82 ev_82 => ?_)
          have hv_82 : zI v_82 0 8 := (hy_62 _).eq ev_82
          refine lv_bipush (v := 8) hx hb d_Parting_find_66 (by decide) ?_
          refine lv_icmp_ge (tgt := 88) hx hb d_Parting_find_68 (by decide) (fun hc_83 => ?_) (fun hc_83 => ?_)
          · have _nhc_83 := hc_83
            have ni_84 := (fa_le _ _).mp hc_83
            rw [li_8] at ni_84
            have hv_85 : zI v_82 8 8 := zI.le_r zc_8 hv_82 hc_83 (by decide)
            obtain ⟨v_86, ev_86⟩ : ∃ z : Int32, z = y_58 + 1 := ⟨_, rfl⟩
            obtain ⟨qv_86, hv_86⟩ := zI_add (l := 1) (h := 400) hv_70 zc_1 ev_86 (by decide)
            rw [li_1] at qv_86
            refine lv_iinc (v := v_86) (lv' := [(3, .int v_86), (0, .ref b0), (1, .ref b1), (2, .ref b2)]) hx hb d_Parting_find_88 hl (k := 0) rfl (by rw [ev_86]; rfl) (by decide) rfl (fun ls hl => ?_)
            refine lv_goto (tgt := 13) hx hb d_Parting_find_91 (by decide) ?_
            exact ihk_57 (v_86) (y_59) (y_60) (y_61) (y_62) (y_63) (y_64) (y_65) _ _ _ (zI.wk (l' := 0) (h' := 400) hv_86 (by decide)) (zI.wk (l' := 0) (h' := 400) hv_75 (by decide)) hy_60 hy_61 hy_62 hy_63 hy_64 hy_65 (zm_up qv_86 hmk_57 (by decide)) (hP.sub [0, 1, 2, 13, 3, 4, 15, 5, 6, 7, 16, 17, 8, 9, 10, 11, 12, 14] rfl) (hD.sub [0, 1, 2, 13, 3, 4, 15, 5, 6, 7, 16, 17, 8, 9, 10, 11, 12, 14] (by decide) rfl) hS (lv_sub hl [0, 1, 2, 3] rfl)
          · have _nhc_83 := hc_83
            have ni_87 := (fa_lt _ _).mp (zi_nle hc_83)
            rw [li_8] at ni_87
            have hv_88 : zI v_82 0 7 := zI.lt_l hv_82 zc_8 (zi_nle hc_83) (by decide)
            refine lv_aload_n hx hb d_Parting_find_71 rfl (lv_at hl 1 rfl) ?_
            refine lv_aload_n hx hb d_Parting_find_72 rfl (lv_at hl 2 rfl) ?_
            refine lv_aload_n hx hb d_Parting_find_73 rfl (lv_at hl 3 rfl) ?_
            refine lv_iload_n hx hb d_Parting_find_74 rfl (lv_at hl 0 rfl) ?_
            refine z_callV (index := 67) (As := [.ref b1, .ref b2, .int y_58]) (rest := []) (wr := [(b5, .inl (G.2 0, 8, .inl b13)), (b33, .inl (G.2 1, 4, .inr (.inl b41))), (b51, .inl (G.2 1, 4, .inr (.inl b59)))]) Z (s4_Parting_goOn l G (b0) (b1) (b2) (y_58) (b3) ((-1)) (b5) (b6) (b7) (b8) (b9) (b10) (b11) (b12) (y_59) (b15) (b16) (y_63) (y_64) (b19) (b20) (b21) (y_65) (y_60) (y_61) (y_62) (b26) (b27) (b28) (b29) (b30) (b31) (b32) (b33) (b34) (b35) (b36) (b37) (b38) (b39) (b40) (b42) (b43) (b44) (b45) (b46) (b47) (b48) (b49) (b50) (b51) (b52) (b53) (b54) (b55) (b56) (b57) (b58) (b60) (b61) hv_70 hb3 (zI.wk (l' := (-2)) (h' := 8) zc_m1 (by decide)) (zI.wk (l' := 0) (h' := 400) hv_75 (by decide)) hb19 hb26 hb27 hb34 hb44 hb45 hb52 hy_63 hy_64 hy_65 hy_60 hy_61 hy_62 hb42 hb43 hb60 hb61 (by rw [← ev_82]; omega) (by omega)) hl.1 q891 q893 qs31 q9 q894 ⟨by decide, by decide, by show _ = some 3; decide +kernel⟩ ⟨Nat.le_of_ble_eq_true rfl, Nat.le_of_ble_eq_true rfl⟩ ⟨Nat.le_of_ble_eq_true rfl, Nat.le_of_ble_eq_true rfl⟩ rfl (Nat.le_of_ble_eq_true rfl) d_Parting_find_75 hP hD hS hA 7 8 rfl rfl rfl [7, 16, 17, 8, 9, 10, 1, 2, 11, 12, 3, 4, 14, 5, 6] [0, 13, 15] rfl rfl rfl rfl (by decide) (fun v w1 H locs hw_89 hP hD hS => ?_)
            obtain ⟨x_90, x_91, f_92, f_93, f_94, f_95, f_96, f_97, rfl, rfl, hx_90, hx_91, hf_92, hf_93, hf_94, hf_95, hf_96, hf_97⟩ := hw_89
            have hP : va_P G.1 classes [(b5, .inl (G.2 0, 8, .inl b13)), (b33, .inl (G.2 1, 4, .inr (.inl b41))), (b51, .inl (G.2 1, 4, .inr (.inl b59))), (b0, .inr (8, [.int b3, .int (-1), .ref b5, .int b6, .int b7, .ref b8, .ref b9, .ref b10, .ref b11, .ref b12])), (b8, .inr (6, [.int x_91, .int 8, .int 400, .ref b15, .ref b16])), (b15, .inl (G.2 1, 3200, .inr (.inl f_92))), (b16, .inl (G.2 0, 1024, .inl f_93)), (b9, .inr (6, [.int b19, .int 8, .int 10, .ref b20, .ref b21])), (b20, .inl (G.2 1, 80, .inr (.inl f_94))), (b10, .inl (G.2 0, 400, .inl f_95)), (b11, .inl (G.2 0, 400, .inl f_96)), (b12, .inl (G.2 0, 400, .inl f_97)), (b1, .inr (5, [.int b26, .int b27, .ref b28, .ref b29, .ref b30, .ref b31, .ref b32, .ref b33, .int b34, .ref b35, .ref b36, .ref b37, .ref b38, .ref b39, .ref b40])), (b35, .inl (G.2 0, 240, .inl b42)), (b39, .inl (G.2 0, 242, .inl b43)), (b2, .inr (5, [.int b44, .int b45, .ref b46, .ref b47, .ref b48, .ref b49, .ref b50, .ref b51, .int b52, .ref b53, .ref b54, .ref b55, .ref b56, .ref b57, .ref b58])), (b53, .inl (G.2 0, 240, .inl b60)), (b57, .inl (G.2 0, 242, .inl b61))] H := hP
            have hD := z_tie hP hD rfl
            refine W.widen (k := 0) (n := 0) (Nat.le_of_ble_eq_true rfl) (Nat.le_of_ble_eq_true rfl) ?_
            refine lv_if_ne (tgt := 88) hx hb d_Parting_find_78 (by decide) (fun hc_98 => ?_) (fun hc_98 => ?_)
            · have _nhc_98 := hc_98
              have ni_99 : ¬ (x_90 : Int32).toInt = (0 : Int32).toInt := fun z => hc_98 ((fa_eq _ _).mpr z)
              simp only [li_0] at ni_99
              have hv_100 : zI x_90 1 1 := zI.ne_lo hx_90 zc_0 hc_98 (by decide)
              obtain ⟨v_101, ev_101⟩ : ∃ z : Int32, z = y_58 + 1 := ⟨_, rfl⟩
              obtain ⟨qv_101, hv_101⟩ := zI_add (l := 1) (h := 400) hv_70 zc_1 ev_101 (by decide)
              rw [li_1] at qv_101
              refine lv_iinc (v := v_101) (lv' := [(3, .int v_101), (0, .ref b0), (1, .ref b1), (2, .ref b2)]) hx hb d_Parting_find_88 hl (k := 0) rfl (by rw [ev_101]; rfl) (by decide) rfl (fun ls hl => ?_)
              refine lv_goto (tgt := 13) hx hb d_Parting_find_91 (by decide) ?_
              exact ihk_57 (v_101) (x_91) (f_95) (f_96) (f_97) (f_92) (f_93) (f_94) _ _ _ (zI.wk (l' := 0) (h' := 400) hv_101 (by decide)) hx_91 hf_95 hf_96 hf_97 hf_92 hf_93 hf_94 (zm_up qv_101 hmk_57 (by decide)) (hP.sub [0, 9, 10, 1, 13, 14, 2, 16, 17, 3, 4, 5, 6, 7, 8, 11, 12, 15] rfl) (hD.sub [0, 9, 10, 1, 13, 14, 2, 16, 17, 3, 4, 5, 6, 7, 8, 11, 12, 15] (by decide) rfl) hS (lv_sub hl [0, 1, 2, 3] rfl)
            · have _nhc_98 := hc_98
              have ni_102 := (fa_eq _ _).mp hc_98
              rw [li_0] at ni_102
              have hv_103 : zI x_90 0 0 := zI.eq_l hx_90 zc_0 hc_98
              refine lv_aload_n hx hb d_Parting_find_81 rfl (lv_at hl 1 rfl) ?_
              refine lv_bipush (v := (-2)) hx hb d_Parting_find_82 (by decide) ?_
              refine va_put (D := G.1) (ci := 8) (v := .int (-2)) (ty := .int) (C := R_Parting) (T := F_Parting) (N := 10) hx hb hts i_Parting t_Parting t_Parting_ok n_Parting hown hK hP hD hS 3 rfl rfl 1 (by decide) (hts _ q301) (fun _ h9 => h9) rfl (by decide +kernel) rfl rfl (Nat.le_of_ble_eq_true rfl) d_Parting_find_84 (fun H locs hP hD hS => ?_)
              have hP : va_P G.1 classes [(b5, .inl (G.2 0, 8, .inl b13)), (b33, .inl (G.2 1, 4, .inr (.inl b41))), (b51, .inl (G.2 1, 4, .inr (.inl b59))), (b0, .inr (8, [.int b3, .int (-2), .ref b5, .int b6, .int b7, .ref b8, .ref b9, .ref b10, .ref b11, .ref b12])), (b8, .inr (6, [.int x_91, .int 8, .int 400, .ref b15, .ref b16])), (b15, .inl (G.2 1, 3200, .inr (.inl f_92))), (b16, .inl (G.2 0, 1024, .inl f_93)), (b9, .inr (6, [.int b19, .int 8, .int 10, .ref b20, .ref b21])), (b20, .inl (G.2 1, 80, .inr (.inl f_94))), (b10, .inl (G.2 0, 400, .inl f_95)), (b11, .inl (G.2 0, 400, .inl f_96)), (b12, .inl (G.2 0, 400, .inl f_97)), (b1, .inr (5, [.int b26, .int b27, .ref b28, .ref b29, .ref b30, .ref b31, .ref b32, .ref b33, .int b34, .ref b35, .ref b36, .ref b37, .ref b38, .ref b39, .ref b40])), (b35, .inl (G.2 0, 240, .inl b42)), (b39, .inl (G.2 0, 242, .inl b43)), (b2, .inr (5, [.int b44, .int b45, .ref b46, .ref b47, .ref b48, .ref b49, .ref b50, .ref b51, .int b52, .ref b53, .ref b54, .ref b55, .ref b56, .ref b57, .ref b58])), (b53, .inl (G.2 0, 240, .inl b60)), (b57, .inl (G.2 0, 242, .inl b61))] H := hP
              have hD := z_tie hP hD rfl
              exact z_vret hx hb hr hlocks (hP.sub [3, 0, 4, 5, 6, 7, 8, 9, 10, 11, 12, 1, 13, 14, 15, 2, 16, 17] rfl) (hD.sub [3, 0, 4, 5, 6, 7, 8, 9, 10, 11, 12, 1, 13, 14, 15, 2, 16, 17] (by decide) rfl) hS (Nat.le_of_ble_eq_true rfl) (Nat.le_of_ble_eq_true rfl) d_Parting_find_87 ⟨(-2), b13, x_91, f_92, f_93, f_94, f_95, f_96, f_97, rfl, rfl, (zI.wk (l' := (-2)) (h' := 8) zc_m2 (by decide)), hb13, hx_91, hf_92, hf_93, hf_94, hf_95, hf_96, hf_97⟩
        · have _nhc_80 := hc_80
          have ni_104 : ¬ (x_77 : Int32).toInt = (x_79 : Int32).toInt := fun z => hc_80 ((fa_eq _ _).mpr z)
          refine lv_aload_n hx hb d_Parting_find_54 rfl (lv_at hl 1 rfl) ?_
          refine lv_iload_n hx hb d_Parting_find_55 rfl (lv_at hl 0 rfl) ?_
          refine z_callV (index := 63) (As := [.int y_58]) (rest := []) (wr := [(b35, .inl (G.2 0, 240, .inl b42)), (b39, .inl (G.2 0, 242, .inl b43)), (b53, .inl (G.2 0, 240, .inl b60)), (b57, .inl (G.2 0, 242, .inl b61)), (b16, .inl (G.2 0, 1024, .inl y_64)), (b9, .inr (6, [.int b19, .int 8, .int 10, .ref b20, .ref b21])), (b20, .inl (G.2 1, 80, .inr (.inl y_65))), (b1, .inr (5, [.int b26, .int b27, .ref b28, .ref b29, .ref b30, .ref b31, .ref b32, .ref b33, .int b34, .ref b35, .ref b36, .ref b37, .ref b38, .ref b39, .ref b40])), (b33, .inl (G.2 1, 4, .inr (.inl b41))), (b2, .inr (5, [.int b44, .int b45, .ref b46, .ref b47, .ref b48, .ref b49, .ref b50, .ref b51, .int b52, .ref b53, .ref b54, .ref b55, .ref b56, .ref b57, .ref b58])), (b51, .inl (G.2 1, 4, .inr (.inl b59))), (b8, .inr (6, [.int y_59, .int 8, .int 400, .ref b15, .ref b16])), (b15, .inl (G.2 1, 3200, .inr (.inl y_63)))]) Z (s1_Parting_spell l G (b0) (y_58) (b3) ((-1)) (b5) (b6) (b7) (b8) (b9) (b10) (b11) (b12) (b13) (y_60) (y_61) (y_62) hv_70 hb3 (zI.wk (l' := (-2)) (h' := 8) zc_m1 (by decide)) hb13 hy_60 hy_61 hy_62) hl.1 q887 q889 qs30 q9 q890 ⟨by decide, by decide, by show _ = some 1; decide +kernel⟩ ⟨Nat.le_of_ble_eq_true rfl, Nat.le_of_ble_eq_true rfl⟩ ⟨Nat.le_of_ble_eq_true rfl, Nat.le_of_ble_eq_true rfl⟩ rfl (Nat.le_of_ble_eq_true rfl) d_Parting_find_56 hP hD hS hA 7 8 rfl rfl rfl [7, 0, 1, 2, 11] [3, 4, 5, 6, 8, 9, 10, 12, 13, 14, 15, 16, 17] rfl rfl rfl rfl (by decide) (fun v w1 H locs hw_105 hP hD hS => ?_)
          obtain ⟨x_106, f_107, rfl, rfl, hx_106, hf_107⟩ := hw_105
          have hP : va_P G.1 classes [(b35, .inl (G.2 0, 240, .inl b42)), (b39, .inl (G.2 0, 242, .inl b43)), (b53, .inl (G.2 0, 240, .inl b60)), (b57, .inl (G.2 0, 242, .inl b61)), (b16, .inl (G.2 0, 1024, .inl y_64)), (b9, .inr (6, [.int b19, .int 8, .int 10, .ref b20, .ref b21])), (b20, .inl (G.2 1, 80, .inr (.inl y_65))), (b1, .inr (5, [.int b26, .int b27, .ref b28, .ref b29, .ref b30, .ref b31, .ref b32, .ref b33, .int b34, .ref b35, .ref b36, .ref b37, .ref b38, .ref b39, .ref b40])), (b33, .inl (G.2 1, 4, .inr (.inl b41))), (b2, .inr (5, [.int b44, .int b45, .ref b46, .ref b47, .ref b48, .ref b49, .ref b50, .ref b51, .int b52, .ref b53, .ref b54, .ref b55, .ref b56, .ref b57, .ref b58])), (b51, .inl (G.2 1, 4, .inr (.inl b59))), (b8, .inr (6, [.int y_59, .int 8, .int 400, .ref b15, .ref b16])), (b15, .inl (G.2 1, 3200, .inr (.inl y_63))), (b0, .inr (8, [.int b3, .int x_106, .ref b5, .int b6, .int b7, .ref b8, .ref b9, .ref b10, .ref b11, .ref b12])), (b5, .inl (G.2 0, 8, .inl f_107)), (b10, .inl (G.2 0, 400, .inl y_60)), (b11, .inl (G.2 0, 400, .inl y_61)), (b12, .inl (G.2 0, 400, .inl y_62))] H := hP
          have hD := z_tie hP hD rfl
          refine W.widen (k := 0) (n := 0) (Nat.le_of_ble_eq_true rfl) (Nat.le_of_ble_eq_true rfl) ?_
          exact z_vret hx hb hr hlocks (hP.sub [13, 14, 11, 12, 4, 5, 6, 15, 16, 17, 7, 8, 0, 1, 9, 10, 2, 3] rfl) (hD.sub [13, 14, 11, 12, 4, 5, 6, 15, 16, 17, 7, 8, 0, 1, 9, 10, 2, 3] (by decide) rfl) hS (Nat.le_of_ble_eq_true rfl) (Nat.le_of_ble_eq_true rfl) d_Parting_find_59 ⟨x_106, f_107, y_59, y_63, y_64, y_65, y_60, y_61, y_62, rfl, rfl, hx_106, hf_107, (zI.wk (l' := 0) (h' := 400) hv_75 (by decide)), hy_63, hy_64, hy_65, hy_60, hy_61, hy_62⟩
theorem d_Words_number_0 : decode prog_12_method_2_code 0 = .ok (.aload_n 1, 1) := by decide +kernel
theorem d_Words_number_1 : decode prog_12_method_2_code 1 = .ok (.getfield 42, 3) := by decide +kernel
theorem d_Words_number_4 : decode prog_12_method_2_code 4 = .ok (.ifCond .ne 5, 3) := by decide +kernel
theorem d_Words_number_7 : decode prog_12_method_2_code 7 = .ok (.iconst 0, 1) := by decide +kernel
theorem d_Words_number_9 : decode prog_12_method_2_code 9 = .ok (.aload_n 0, 1) := by decide +kernel
theorem d_Words_number_10 : decode prog_12_method_2_code 10 = .ok (.getfield 20, 3) := by decide +kernel
theorem d_Words_number_13 : decode prog_12_method_2_code 13 = .ok (.invokevirtual 48, 3) := by decide +kernel
theorem d_Words_number_16 : decode prog_12_method_2_code 16 = .ok (.aload_n 0, 1) := by decide +kernel
theorem d_Words_number_17 : decode prog_12_method_2_code 17 = .ok (.getfield 20, 3) := by decide +kernel
theorem d_Words_number_20 : decode prog_12_method_2_code 20 = .ok (.iconst 0, 1) := by decide +kernel
theorem d_Words_number_21 : decode prog_12_method_2_code 21 = .ok (.iconst 0, 1) := by decide +kernel
theorem d_Words_number_22 : decode prog_12_method_2_code 22 = .ok (.iconst 0, 1) := by decide +kernel
theorem d_Words_number_23 : decode prog_12_method_2_code 23 = .ok (.invokevirtual 51, 3) := by decide +kernel
theorem d_Words_number_26 : decode prog_12_method_2_code 26 = .ok (.aload_n 0, 1) := by decide +kernel
theorem d_Words_number_27 : decode prog_12_method_2_code 27 = .ok (.getfield 24, 3) := by decide +kernel
theorem d_Words_number_30 : decode prog_12_method_2_code 30 = .ok (.invokevirtual 55, 3) := by decide +kernel
theorem d_Words_number_33 : decode prog_12_method_2_code 33 = .ok (.aload_n 0, 1) := by decide +kernel
theorem d_Words_number_34 : decode prog_12_method_2_code 34 = .ok (.getfield 24, 3) := by decide +kernel
theorem d_Words_number_37 : decode prog_12_method_2_code 37 = .ok (.aload_n 0, 1) := by decide +kernel
theorem d_Words_number_38 : decode prog_12_method_2_code 38 = .ok (.getfield 20, 3) := by decide +kernel
theorem d_Words_number_41 : decode prog_12_method_2_code 41 = .ok (.iconst 0, 1) := by decide +kernel
theorem d_Words_number_42 : decode prog_12_method_2_code 42 = .ok (.invokevirtual 58, 3) := by decide +kernel
theorem d_Words_number_45 : decode prog_12_method_2_code 45 = .ok (.pop, 1) := by decide +kernel
theorem d_Words_number_46 : decode prog_12_method_2_code 46 = .ok (.aload_n 0, 1) := by decide +kernel
theorem d_Words_number_47 : decode prog_12_method_2_code 47 = .ok (.getfield 30, 3) := by decide +kernel
theorem d_Words_number_50 : decode prog_12_method_2_code 50 = .ok (.iconst 0, 1) := by decide +kernel
theorem d_Words_number_51 : decode prog_12_method_2_code 51 = .ok (.iconst 1, 1) := by decide +kernel
theorem d_Words_number_52 : decode prog_12_method_2_code 52 = .ok (.iastore, 1) := by decide +kernel
theorem d_Words_number_53 : decode prog_12_method_2_code 53 = .ok (.iload_n 2, 1) := by decide +kernel
theorem d_Words_number_54 : decode prog_12_method_2_code 54 = .ok (.ifCond .ne 22, 3) := by decide +kernel
theorem d_Words_number_57 : decode prog_12_method_2_code 57 = .ok (.aload_n 1, 1) := by decide +kernel
theorem d_Words_number_58 : decode prog_12_method_2_code 58 = .ok (.aload_n 0, 1) := by decide +kernel
theorem d_Words_number_59 : decode prog_12_method_2_code 59 = .ok (.getfield 24, 3) := by decide +kernel
theorem d_Words_number_62 : decode prog_12_method_2_code 62 = .ok (.iconst 0, 1) := by decide +kernel
theorem d_Words_number_63 : decode prog_12_method_2_code 63 = .ok (.iconst 0, 1) := by decide +kernel
theorem d_Words_number_64 : decode prog_12_method_2_code 64 = .ok (.invokevirtual 62, 3) := by decide +kernel
theorem d_Words_number_67 : decode prog_12_method_2_code 67 = .ok (.ifCond .eq 7, 3) := by decide +kernel
theorem d_Words_number_70 : decode prog_12_method_2_code 70 = .ok (.iconst 1, 1) := by decide +kernel
theorem d_Words_number_71 : decode prog_12_method_2_code 71 = .ok (.goto 4, 3) := by decide +kernel
theorem d_Words_number_74 : decode prog_12_method_2_code 74 = .ok (.iconst 0, 1) := by decide +kernel
theorem d_Words_number_76 : decode prog_12_method_2_code 76 = .ok (.iconst 1, 1) := by decide +kernel
theorem d_Words_number_77 : decode prog_12_method_2_code 77 = .ok (.istore_n 3, 1) := by decide +kernel
theorem d_Words_number_78 : decode prog_12_method_2_code 78 = .ok (.iload_n 3, 1) := by decide +kernel
theorem d_Words_number_79 : decode prog_12_method_2_code 79 = .ok (.iload_n 2, 1) := by decide +kernel
theorem d_Words_number_80 : decode prog_12_method_2_code 80 = .ok (.if_icmp .ge 20, 3) := by decide +kernel
theorem d_Words_number_83 : decode prog_12_method_2_code 83 = .ok (.aload_n 0, 1) := by decide +kernel
theorem d_Words_number_84 : decode prog_12_method_2_code 84 = .ok (.aload_n 1, 1) := by decide +kernel
theorem d_Words_number_85 : decode prog_12_method_2_code 85 = .ok (.invokevirtual 66, 3) := by decide +kernel
theorem d_Words_number_88 : decode prog_12_method_2_code 88 = .ok (.ifCond .ne 6, 3) := by decide +kernel
theorem d_Words_number_91 : decode prog_12_method_2_code 91 = .ok (.bipush (-2), 2) := by decide +kernel
theorem d_Words_number_94 : decode prog_12_method_2_code 94 = .ok (.iinc 3 1, 3) := by decide +kernel
theorem d_Words_number_97 : decode prog_12_method_2_code 97 = .ok (.goto (-19), 3) := by decide +kernel
theorem d_Words_number_100 : decode prog_12_method_2_code 100 = .ok (.aload_n 0, 1) := by decide +kernel
theorem d_Words_number_101 : decode prog_12_method_2_code 101 = .ok (.aload_n 1, 1) := by decide +kernel
theorem d_Words_number_102 : decode prog_12_method_2_code 102 = .ok (.invokevirtual 70, 3) := by decide +kernel
theorem d_Words_takenNext_0 : decode prog_12_method_5_code 0 = .ok (.iconst 0, 1) := by decide +kernel
theorem d_Words_takenNext_1 : decode prog_12_method_5_code 1 = .ok (.istore_n 2, 1) := by decide +kernel
theorem d_Words_takenNext_2 : decode prog_12_method_5_code 2 = .ok (.iconst 0, 1) := by decide +kernel
theorem d_Words_takenNext_3 : decode prog_12_method_5_code 3 = .ok (.istore_n 3, 1) := by decide +kernel
theorem d_Words_takenNext_4 : decode prog_12_method_5_code 4 = .ok (.iload_n 3, 1) := by decide +kernel
theorem d_Words_takenNext_5 : decode prog_12_method_5_code 5 = .ok (.aload_n 0, 1) := by decide +kernel
theorem d_Words_takenNext_6 : decode prog_12_method_5_code 6 = .ok (.getfield 24, 3) := by decide +kernel
theorem d_Words_takenNext_9 : decode prog_12_method_5_code 9 = .ok (.getfield 74, 3) := by decide +kernel
theorem d_Words_takenNext_12 : decode prog_12_method_5_code 12 = .ok (.if_icmp .ge 69, 3) := by decide +kernel
theorem d_Words_takenNext_15 : decode prog_12_method_5_code 15 = .ok (.aload_n 0, 1) := by decide +kernel
theorem d_Words_takenNext_16 : decode prog_12_method_5_code 16 = .ok (.getfield 20, 3) := by decide +kernel
theorem d_Words_takenNext_19 : decode prog_12_method_5_code 19 = .ok (.invokevirtual 48, 3) := by decide +kernel
theorem d_Words_takenNext_22 : decode prog_12_method_5_code 22 = .ok (.aload_n 1, 1) := by decide +kernel
theorem d_Words_takenNext_23 : decode prog_12_method_5_code 23 = .ok (.aload_n 0, 1) := by decide +kernel
theorem d_Words_takenNext_24 : decode prog_12_method_5_code 24 = .ok (.getfield 24, 3) := by decide +kernel
theorem d_Words_takenNext_27 : decode prog_12_method_5_code 27 = .ok (.iload_n 3, 1) := by decide +kernel
theorem d_Words_takenNext_28 : decode prog_12_method_5_code 28 = .ok (.iconst 0, 1) := by decide +kernel
theorem d_Words_takenNext_29 : decode prog_12_method_5_code 29 = .ok (.aload_n 0, 1) := by decide +kernel
theorem d_Words_takenNext_30 : decode prog_12_method_5_code 30 = .ok (.getfield 20, 3) := by decide +kernel
theorem d_Words_takenNext_33 : decode prog_12_method_5_code 33 = .ok (.invokevirtual 77, 3) := by decide +kernel
theorem d_Words_takenNext_36 : decode prog_12_method_5_code 36 = .ok (.iconst 0, 1) := by decide +kernel
theorem d_Words_takenNext_37 : decode prog_12_method_5_code 37 = .ok (.istore 4, 2) := by decide +kernel
theorem d_Words_takenNext_39 : decode prog_12_method_5_code 39 = .ok (.iload 4, 2) := by decide +kernel
theorem d_Words_takenNext_41 : decode prog_12_method_5_code 41 = .ok (.bipush 10, 2) := by decide +kernel
theorem d_Words_takenNext_43 : decode prog_12_method_5_code 43 = .ok (.if_icmp .ge 32, 3) := by decide +kernel
theorem d_Words_takenNext_46 : decode prog_12_method_5_code 46 = .ok (.aload_n 1, 1) := by decide +kernel
theorem d_Words_takenNext_47 : decode prog_12_method_5_code 47 = .ok (.aload_n 0, 1) := by decide +kernel
theorem d_Words_takenNext_48 : decode prog_12_method_5_code 48 = .ok (.getfield 20, 3) := by decide +kernel
theorem d_Words_takenNext_51 : decode prog_12_method_5_code 51 = .ok (.iload 4, 2) := by decide +kernel
theorem d_Words_takenNext_53 : decode prog_12_method_5_code 53 = .ok (.iconst 0, 1) := by decide +kernel
theorem d_Words_takenNext_54 : decode prog_12_method_5_code 54 = .ok (.invokevirtual 62, 3) := by decide +kernel
theorem d_Words_takenNext_57 : decode prog_12_method_5_code 57 = .ok (.ifCond .eq 12, 3) := by decide +kernel
theorem d_Words_takenNext_60 : decode prog_12_method_5_code 60 = .ok (.iload_n 2, 1) := by decide +kernel
theorem d_Words_takenNext_61 : decode prog_12_method_5_code 61 = .ok (.aload_n 0, 1) := by decide +kernel
theorem d_Words_takenNext_62 : decode prog_12_method_5_code 62 = .ok (.getfield 30, 3) := by decide +kernel
theorem d_Words_takenNext_65 : decode prog_12_method_5_code 65 = .ok (.iload_n 3, 1) := by decide +kernel
theorem d_Words_takenNext_66 : decode prog_12_method_5_code 66 = .ok (.iaload, 1) := by decide +kernel
theorem d_Words_takenNext_67 : decode prog_12_method_5_code 67 = .ok (.iadd, 1) := by decide +kernel
theorem d_Words_takenNext_68 : decode prog_12_method_5_code 68 = .ok (.istore_n 2, 1) := by decide +kernel
theorem d_Words_takenNext_69 : decode prog_12_method_5_code 69 = .ok (.iinc 4 1, 3) := by decide +kernel
theorem d_Words_takenNext_72 : decode prog_12_method_5_code 72 = .ok (.goto (-33), 3) := by decide +kernel
theorem d_Words_takenNext_75 : decode prog_12_method_5_code 75 = .ok (.iinc 3 1, 3) := by decide +kernel
theorem d_Words_takenNext_78 : decode prog_12_method_5_code 78 = .ok (.goto (-74), 3) := by decide +kernel
theorem d_Words_takenNext_81 : decode prog_12_method_5_code 81 = .ok (.iload_n 2, 1) := by decide +kernel
theorem d_Words_goOn_0 : decode prog_12_method_3_code 0 = .ok (.aload_n 0, 1) := by decide +kernel
theorem d_Words_goOn_1 : decode prog_12_method_3_code 1 = .ok (.getfield 27, 3) := by decide +kernel
theorem d_Words_goOn_4 : decode prog_12_method_3_code 4 = .ok (.invokevirtual 55, 3) := by decide +kernel
theorem d_Words_goOn_7 : decode prog_12_method_3_code 7 = .ok (.iconst 0, 1) := by decide +kernel
theorem d_Words_goOn_8 : decode prog_12_method_3_code 8 = .ok (.istore_n 2, 1) := by decide +kernel
theorem d_Words_goOn_9 : decode prog_12_method_3_code 9 = .ok (.iload_n 2, 1) := by decide +kernel
theorem d_Words_goOn_10 : decode prog_12_method_3_code 10 = .ok (.aload_n 0, 1) := by decide +kernel
theorem d_Words_goOn_11 : decode prog_12_method_3_code 11 = .ok (.getfield 24, 3) := by decide +kernel
theorem d_Words_goOn_14 : decode prog_12_method_3_code 14 = .ok (.getfield 74, 3) := by decide +kernel
theorem d_Words_goOn_17 : decode prog_12_method_3_code 17 = .ok (.if_icmp .ge 71, 3) := by decide +kernel
theorem d_Words_goOn_20 : decode prog_12_method_3_code 20 = .ok (.aload_n 0, 1) := by decide +kernel
theorem d_Words_goOn_21 : decode prog_12_method_3_code 21 = .ok (.getfield 20, 3) := by decide +kernel
theorem d_Words_goOn_24 : decode prog_12_method_3_code 24 = .ok (.invokevirtual 48, 3) := by decide +kernel
theorem d_Words_goOn_27 : decode prog_12_method_3_code 27 = .ok (.aload_n 1, 1) := by decide +kernel
theorem d_Words_goOn_28 : decode prog_12_method_3_code 28 = .ok (.aload_n 0, 1) := by decide +kernel
theorem d_Words_goOn_29 : decode prog_12_method_3_code 29 = .ok (.getfield 24, 3) := by decide +kernel
theorem d_Words_goOn_32 : decode prog_12_method_3_code 32 = .ok (.iload_n 2, 1) := by decide +kernel
theorem d_Words_goOn_33 : decode prog_12_method_3_code 33 = .ok (.iconst 0, 1) := by decide +kernel
theorem d_Words_goOn_34 : decode prog_12_method_3_code 34 = .ok (.aload_n 0, 1) := by decide +kernel
theorem d_Words_goOn_35 : decode prog_12_method_3_code 35 = .ok (.getfield 20, 3) := by decide +kernel
theorem d_Words_goOn_38 : decode prog_12_method_3_code 38 = .ok (.invokevirtual 77, 3) := by decide +kernel
theorem d_Words_goOn_41 : decode prog_12_method_3_code 41 = .ok (.iconst 0, 1) := by decide +kernel
theorem d_Words_goOn_42 : decode prog_12_method_3_code 42 = .ok (.istore_n 3, 1) := by decide +kernel
theorem d_Words_goOn_43 : decode prog_12_method_3_code 43 = .ok (.iload_n 3, 1) := by decide +kernel
theorem d_Words_goOn_44 : decode prog_12_method_3_code 44 = .ok (.bipush 10, 2) := by decide +kernel
theorem d_Words_goOn_46 : decode prog_12_method_3_code 46 = .ok (.if_icmp .ge 36, 3) := by decide +kernel
theorem d_Words_goOn_49 : decode prog_12_method_3_code 49 = .ok (.aload_n 0, 1) := by decide +kernel
theorem d_Words_goOn_50 : decode prog_12_method_3_code 50 = .ok (.getfield 20, 3) := by decide +kernel
theorem d_Words_goOn_53 : decode prog_12_method_3_code 53 = .ok (.iload_n 3, 1) := by decide +kernel
theorem d_Words_goOn_54 : decode prog_12_method_3_code 54 = .ok (.invokevirtual 80, 3) := by decide +kernel
theorem d_Words_goOn_57 : decode prog_12_method_3_code 57 = .ok (.ifCond .ne 19, 3) := by decide +kernel
theorem d_Words_goOn_60 : decode prog_12_method_3_code 60 = .ok (.aload_n 0, 1) := by decide +kernel
theorem d_Words_goOn_61 : decode prog_12_method_3_code 61 = .ok (.iload_n 3, 1) := by decide +kernel
theorem d_Words_goOn_62 : decode prog_12_method_3_code 62 = .ok (.aload_n 0, 1) := by decide +kernel
theorem d_Words_goOn_63 : decode prog_12_method_3_code 63 = .ok (.getfield 30, 3) := by decide +kernel
theorem d_Words_goOn_66 : decode prog_12_method_3_code 66 = .ok (.iload_n 2, 1) := by decide +kernel
theorem d_Words_goOn_67 : decode prog_12_method_3_code 67 = .ok (.iaload, 1) := by decide +kernel
theorem d_Words_goOn_68 : decode prog_12_method_3_code 68 = .ok (.invokevirtual 84, 3) := by decide +kernel
theorem d_Words_goOn_71 : decode prog_12_method_3_code 71 = .ok (.ifCond .ne 5, 3) := by decide +kernel
theorem d_Words_goOn_74 : decode prog_12_method_3_code 74 = .ok (.iconst 0, 1) := by decide +kernel
theorem d_Words_goOn_76 : decode prog_12_method_3_code 76 = .ok (.iinc 3 1, 3) := by decide +kernel
theorem d_Words_goOn_79 : decode prog_12_method_3_code 79 = .ok (.goto (-36), 3) := by decide +kernel
theorem d_Words_goOn_82 : decode prog_12_method_3_code 82 = .ok (.iinc 2 1, 3) := by decide +kernel
theorem d_Words_goOn_85 : decode prog_12_method_3_code 85 = .ok (.goto (-76), 3) := by decide +kernel
theorem d_Words_goOn_88 : decode prog_12_method_3_code 88 = .ok (.aload_n 0, 1) := by decide +kernel
theorem d_Words_goOn_89 : decode prog_12_method_3_code 89 = .ok (.getfield 24, 3) := by decide +kernel
theorem d_Words_goOn_92 : decode prog_12_method_3_code 92 = .ok (.astore_n 2, 1) := by decide +kernel
theorem d_Words_goOn_93 : decode prog_12_method_3_code 93 = .ok (.aload_n 0, 1) := by decide +kernel
theorem d_Words_goOn_94 : decode prog_12_method_3_code 94 = .ok (.aload_n 0, 1) := by decide +kernel
theorem d_Words_goOn_95 : decode prog_12_method_3_code 95 = .ok (.getfield 27, 3) := by decide +kernel
theorem d_Words_goOn_98 : decode prog_12_method_3_code 98 = .ok (.putfield 24, 3) := by decide +kernel
theorem d_Words_goOn_101 : decode prog_12_method_3_code 101 = .ok (.aload_n 0, 1) := by decide +kernel
theorem d_Words_goOn_102 : decode prog_12_method_3_code 102 = .ok (.aload_n 2, 1) := by decide +kernel
theorem d_Words_goOn_103 : decode prog_12_method_3_code 103 = .ok (.putfield 27, 3) := by decide +kernel
theorem d_Words_goOn_106 : decode prog_12_method_3_code 106 = .ok (.aload_n 0, 1) := by decide +kernel
theorem d_Words_goOn_107 : decode prog_12_method_3_code 107 = .ok (.getfield 30, 3) := by decide +kernel
theorem d_Words_goOn_110 : decode prog_12_method_3_code 110 = .ok (.astore_n 3, 1) := by decide +kernel
theorem d_Words_goOn_111 : decode prog_12_method_3_code 111 = .ok (.aload_n 0, 1) := by decide +kernel
theorem d_Words_goOn_112 : decode prog_12_method_3_code 112 = .ok (.aload_n 0, 1) := by decide +kernel
theorem d_Words_goOn_113 : decode prog_12_method_3_code 113 = .ok (.getfield 33, 3) := by decide +kernel
theorem d_Words_goOn_116 : decode prog_12_method_3_code 116 = .ok (.putfield 30, 3) := by decide +kernel
theorem d_Words_goOn_119 : decode prog_12_method_3_code 119 = .ok (.aload_n 0, 1) := by decide +kernel
theorem d_Words_goOn_120 : decode prog_12_method_3_code 120 = .ok (.aload_n 3, 1) := by decide +kernel
theorem d_Words_goOn_121 : decode prog_12_method_3_code 121 = .ok (.putfield 33, 3) := by decide +kernel
theorem d_Words_goOn_124 : decode prog_12_method_3_code 124 = .ok (.iconst 1, 1) := by decide +kernel
theorem d_Words_comeTo_0 : decode prog_12_method_4_code 0 = .ok (.aload_n 0, 1) := by decide +kernel
theorem d_Words_comeTo_1 : decode prog_12_method_4_code 1 = .ok (.getfield 27, 3) := by decide +kernel
theorem d_Words_comeTo_4 : decode prog_12_method_4_code 4 = .ok (.getfield 74, 3) := by decide +kernel
theorem d_Words_comeTo_7 : decode prog_12_method_4_code 7 = .ok (.istore_n 3, 1) := by decide +kernel
theorem d_Words_comeTo_8 : decode prog_12_method_4_code 8 = .ok (.aload_n 0, 1) := by decide +kernel
theorem d_Words_comeTo_9 : decode prog_12_method_4_code 9 = .ok (.getfield 27, 3) := by decide +kernel
theorem d_Words_comeTo_12 : decode prog_12_method_4_code 12 = .ok (.aload_n 0, 1) := by decide +kernel
theorem d_Words_comeTo_13 : decode prog_12_method_4_code 13 = .ok (.getfield 20, 3) := by decide +kernel
theorem d_Words_comeTo_16 : decode prog_12_method_4_code 16 = .ok (.iload_n 1, 1) := by decide +kernel
theorem d_Words_comeTo_17 : decode prog_12_method_4_code 17 = .ok (.invokevirtual 58, 3) := by decide +kernel
theorem d_Words_comeTo_20 : decode prog_12_method_4_code 20 = .ok (.istore 4, 2) := by decide +kernel
theorem d_Words_comeTo_22 : decode prog_12_method_4_code 22 = .ok (.iload 4, 2) := by decide +kernel
theorem d_Words_comeTo_24 : decode prog_12_method_4_code 24 = .ok (.iconst (-1), 1) := by decide +kernel
theorem d_Words_comeTo_25 : decode prog_12_method_4_code 25 = .ok (.if_icmp .ne 5, 3) := by decide +kernel
theorem d_Words_comeTo_28 : decode prog_12_method_4_code 28 = .ok (.iconst 0, 1) := by decide +kernel
theorem d_Words_comeTo_30 : decode prog_12_method_4_code 30 = .ok (.aload_n 0, 1) := by decide +kernel
theorem d_Words_comeTo_31 : decode prog_12_method_4_code 31 = .ok (.getfield 33, 3) := by decide +kernel
theorem d_Words_comeTo_34 : decode prog_12_method_4_code 34 = .ok (.iload 4, 2) := by decide +kernel
theorem d_Words_comeTo_36 : decode prog_12_method_4_code 36 = .ok (.iload 4, 2) := by decide +kernel
theorem d_Words_comeTo_38 : decode prog_12_method_4_code 38 = .ok (.iload_n 3, 1) := by decide +kernel
theorem d_Words_comeTo_39 : decode prog_12_method_4_code 39 = .ok (.if_icmp .ne 7, 3) := by decide +kernel
theorem d_Words_comeTo_42 : decode prog_12_method_4_code 42 = .ok (.iload_n 2, 1) := by decide +kernel
theorem d_Words_comeTo_43 : decode prog_12_method_4_code 43 = .ok (.goto 12, 3) := by decide +kernel
theorem d_Words_comeTo_46 : decode prog_12_method_4_code 46 = .ok (.aload_n 0, 1) := by decide +kernel
theorem d_Words_comeTo_47 : decode prog_12_method_4_code 47 = .ok (.getfield 33, 3) := by decide +kernel
theorem d_Words_comeTo_50 : decode prog_12_method_4_code 50 = .ok (.iload 4, 2) := by decide +kernel
theorem d_Words_comeTo_52 : decode prog_12_method_4_code 52 = .ok (.iaload, 1) := by decide +kernel
theorem d_Words_comeTo_53 : decode prog_12_method_4_code 53 = .ok (.iload_n 2, 1) := by decide +kernel
theorem d_Words_comeTo_54 : decode prog_12_method_4_code 54 = .ok (.iadd, 1) := by decide +kernel
theorem d_Words_comeTo_55 : decode prog_12_method_4_code 55 = .ok (.iastore, 1) := by decide +kernel
theorem d_Words_comeTo_56 : decode prog_12_method_4_code 56 = .ok (.iconst 1, 1) := by decide +kernel
theorem zc_5 : zI 5 5 5 := ⟨by decide +kernel, by decide +kernel⟩
theorem li_5 : (5 : Int32).toInt = 5 := by decide +kernel
theorem zc_7 : zI 7 7 7 := ⟨by decide +kernel, by decide +kernel⟩
theorem li_7 : (7 : Int32).toInt = 7 := by decide +kernel
abbrev m_s5_Sets_clear : Room := { frames := 1, cells := 0, slots := 0, locals := 24 }
set_option maxHeartbeats 4000000 in
set_option maxRecDepth 100000 in
theorem s5_Sets_clear (l : Launch) (G : zG) (b0 : Nat) (b1 : Int32) (b2 : Nat) (b3 : Nat) (b4 : Nat → Int64) (hb1 : zI b1 0 10) (hb4 : zqa qB b4) : zM l G y_Sets_clear prog_8_method_3_code 1 (Option.none : Option Jvm.ClassFile.FieldType) m_s5_Sets_clear [.ref b0] [(b0, .inr (6, [.int b1, .int 4, .int 10, .ref b2, .ref b3])), (b2, .inl (G.2 1, 40, .inr (.inl b4)))] (fun v w => ∃ (e0 : Nat → Int64), v = none ∧ w = [(b0, .inr (6, [.int b1, .int 4, .int 10, .ref b2, .ref b3])), (b2, .inl (G.2 1, 40, .inr (.inl e0)))] ∧ (zqa qB e0)) := by
  refine z_start (by decide +kernel) (Nat.le_of_ble_eq_true rfl) ?_
  intro p e s m below meth c A Z hr hnm hA hP hD hS ls hl
  have Z : zC p s m _ meth c prog_8_method_3_code 1 "TraceMachines$StateSets" G := Z
  obtain ⟨hx, hb, hml, hown, hts, hK, hN, hlocks⟩ := id Z
  have hl : lv_has ls 1 [(0, .ref b0)] := hl
  refine lv_aload_n hx hb d_Sets_clear_0 rfl (lv_at hl 0 rfl) ?_
  refine va_get (D := G.1) (ci := 6) (v := .ref b2) (C := R_Sets) (T := F_Sets) (N := 5) hx hb hts i_Sets hown hK hP 0 rfl rfl 3 (by decide) (hts _ q244) (fun _ h9 => h9) rfl d_Sets_clear_1 ?_
  refine lv_lconst (v := 0) hx hb d_Sets_clear_4 (by decide) ?_
  refine z_callS (index := 35) (As := [.ref b2, .long 0]) (rest := []) (wr := [(b0, .inr (6, [.int b1, .int 4, .int 10, .ref b2, .ref b3]))]) Z (c_fill_J l G (b2) (40) (b4) (0) (by decide)) hl.1 q708 q623 q13 q624 ⟨by decide, by decide, by show _ = some 2; decide +kernel⟩ ⟨Nat.le_of_ble_eq_true rfl, Nat.le_of_ble_eq_true rfl⟩ ⟨Nat.le_of_ble_eq_true rfl, Nat.le_of_ble_eq_true rfl⟩ rfl (Nat.le_of_ble_eq_true rfl) d_Sets_clear_5 hP hD hS hA [1] [0] rfl rfl rfl rfl (by decide) (fun v w1 H locs hw_1 hP hD hS => ?_)
  obtain ⟨rfl, rfl⟩ := hw_1
  have hP : va_P G.1 classes [(b0, .inr (6, [.int b1, .int 4, .int 10, .ref b2, .ref b3])), (b2, .inl (G.2 1, 40, .inr (.inl (fun _ => 0))))] H := hP
  have hD := z_tie hP hD rfl
  refine W.widen (k := 0) (n := 0) (Nat.le_of_ble_eq_true rfl) (Nat.le_of_ble_eq_true rfl) ?_
  exact z_vret hx hb hr hlocks hP hD hS (Nat.le_of_ble_eq_true rfl) (Nat.le_of_ble_eq_true rfl) d_Sets_clear_8 ⟨(fun _ => 0), rfl, rfl, zQB_c⟩
abbrev m_s5_Sets_put : Room := { frames := 0, cells := 0, slots := 0, locals := 0 }
set_option maxHeartbeats 4000000 in
set_option maxRecDepth 100000 in
theorem s5_Sets_put (l : Launch) (G : zG) (b0 : Nat) (b1 : Int32) (b2 : Int32) (b3 : Int32) (b4 : Int32) (b5 : Nat) (b6 : Nat) (b7 : Nat → Int64) (hb1 : zI b1 0 9) (hb2 : zI b2 0 0) (hb3 : zI b3 0 240) (hb4 : zI b4 0 10) (hb7 : zqa qB b7) : zM l G y_Sets_put prog_8_method_4_code 4 (Option.none : Option Jvm.ClassFile.FieldType) m_s5_Sets_put [.ref b0, .int b1, .int b2, .int b3] [(b0, .inr (6, [.int b4, .int 4, .int 10, .ref b5, .ref b6])), (b5, .inl (G.2 1, 40, .inr (.inl b7)))] (fun v w => ∃ (e0 : Nat → Int64), v = none ∧ w = [(b0, .inr (6, [.int b4, .int 4, .int 10, .ref b5, .ref b6])), (b5, .inl (G.2 1, 40, .inr (.inl e0)))] ∧ (zqa qB e0)) := by
  refine z_start (by decide +kernel) (Nat.le_of_ble_eq_true rfl) ?_
  intro p e s m below meth c A Z hr hnm hA hP hD hS ls hl
  have Z : zC p s m _ meth c prog_8_method_4_code 4 "TraceMachines$StateSets" G := Z
  obtain ⟨hx, hb, hml, hown, hts, hK, hN, hlocks⟩ := id Z
  have hl : lv_has ls 4 [(0, .ref b0), (1, .int b1), (2, .int b2), (3, .int b3)] := hl
  refine lv_aload_n hx hb d_Sets_put_0 rfl (lv_at hl 0 rfl) ?_
  refine va_get (D := G.1) (ci := 6) (v := .ref b5) (C := R_Sets) (T := F_Sets) (N := 5) hx hb hts i_Sets hown hK hP 0 rfl rfl 3 (by decide) (hts _ q244) (fun _ h9 => h9) rfl d_Sets_put_1 ?_
  refine lv_iload_n hx hb d_Sets_put_4 rfl (lv_at hl 1 rfl) ?_
  refine lv_aload_n hx hb d_Sets_put_5 rfl (lv_at hl 0 rfl) ?_
  refine va_get (D := G.1) (ci := 6) (v := .int 4) (C := R_Sets) (T := F_Sets) (N := 5) hx hb hts i_Sets hown hK hP 0 rfl rfl 1 (by decide) (hts _ q242) (fun _ h9 => h9) rfl d_Sets_put_6 ?_
  refine lv_imul hx hb d_Sets_put_9 ?_
  refine lv_topi (fun v_1 ev_1 => ?_)
  obtain ⟨qv_1, hv_1⟩ := zI_mul (l := 0) (h := 36) hb1 zc_4 ev_1 (by decide)
  rw [li_4] at qv_1
  refine lv_iload_n hx hb d_Sets_put_10 rfl (lv_at hl 2 rfl) ?_
  refine lv_iconst (v := 4) hx hb d_Sets_put_11 (by decide) ?_
  refine lv_imul hx hb d_Sets_put_12 ?_
  refine lv_topi (fun v_2 ev_2 => ?_)
  obtain ⟨qv_2, hv_2⟩ := zI_mul (l := 0) (h := 0) hb2 zc_4 ev_2 (by decide)
  rw [li_4] at qv_2
  refine lv_iadd hx hb d_Sets_put_13 ?_
  refine lv_topi (fun v_3 ev_3 => ?_)
  obtain ⟨qv_3, hv_3⟩ := zI_add (l := 0) (h := 36) hv_1 hv_2 ev_3 (by decide)
  refine lv_iload_n hx hb d_Sets_put_14 rfl (lv_at hl 3 rfl) ?_
  refine lv_bipush (v := 6) hx hb d_Sets_put_15 (by decide) ?_
  refine lv_ishr hx hb d_Sets_put_17 ?_
  refine lv_topi (fun v_4 ev_4 => ?_)
  obtain ⟨qv_4, hv_4⟩ := zI_shr (l := 0) (h := 3) (k := 6) hb3 (by decide +kernel) ev_4 (by decide)
  refine lv_iadd hx hb d_Sets_put_18 ?_
  refine lv_topi (fun v_5 ev_5 => ?_)
  obtain ⟨qv_5, hv_5⟩ := zI_add (l := 0) (h := 39) hv_3 hv_4 ev_5 (by decide)
  refine lv_dup2_11 hx hb d_Sets_put_19 rfl rfl ?_
  refine va_lald hx hb hK hP 1 1 rfl rfl (zI.inn hv_5 (by decide)) d_Sets_put_20 ?_
  refine lv_topl (fun v_6 ev_6 => ?_)
  have bv_6 := zQB.ld hb7 hv_5 ev_6 (by decide)
  refine lv_lconst (v := 1) hx hb d_Sets_put_21 (by decide) ?_
  refine lv_iload_n hx hb d_Sets_put_22 rfl (lv_at hl 3 rfl) ?_
  refine lv_bipush (v := 63) hx hb d_Sets_put_23 (by decide) ?_
  refine lv_iand hx hb d_Sets_put_25 ?_
  refine lv_topi (fun v_7 ev_7 => ?_)
  have hv_7 := zI_and (k := 6) (h := 63) (by decide +kernel) ev_7 (by decide)
  obtain ⟨v_8, ev_8⟩ : ∃ z : Int64, z = 1 <<< ((v_7 : Int32).toInt64 &&& 63) := ⟨_, rfl⟩
  refine lv_lshl (v := v_8) hx hb d_Sets_put_26 ev_8.symm ?_
  refine lv_lor hx hb d_Sets_put_27 ?_
  refine lv_topl (fun v_9 ev_9 => ?_)
  refine va_last hx hb hK hP hD hS 1 1 rfl rfl (zI.inn hv_5 (by decide)) d_Sets_put_28 (fun H locs hP hD hS => ?_)
  obtain ⟨f_10, hf_10, uf_10, hP, hD⟩ := z_newlb 1 hP hD rfl hb7 (qB_v hv_5 (by decide) (fun h9 => by rw [ev_9]; exact zB_or (bv_6 h9) (zB_sh ev_8 ev_7 ⟨by omega, by omega⟩)))
  have hP : va_P G.1 classes [(b0, .inr (6, [.int b4, .int 4, .int 10, .ref b5, .ref b6])), (b5, .inl (G.2 1, 40, .inr (.inl f_10)))] H := hP
  have hD := z_tie hP hD rfl
  exact z_vret hx hb hr hlocks hP hD hS (Nat.le_of_ble_eq_true rfl) (Nat.le_of_ble_eq_true rfl) d_Sets_put_29 ⟨f_10, rfl, rfl, hf_10⟩
abbrev m_s5_Sets_forget : Room := { frames := 1, cells := 0, slots := 0, locals := 23 }
set_option maxHeartbeats 4000000 in
set_option maxRecDepth 100000 in
theorem s5_Sets_forget (l : Launch) (G : zG) (b0 : Nat) (b1 : Int32) (b2 : Nat) (b3 : Nat) (b4 : Nat → Int32) (hb1 : zI b1 0 100) (hb4 : zR b4 (-1) 99) : zM l G y_Sets_forget prog_8_method_2_code 1 (Option.none : Option Jvm.ClassFile.FieldType) m_s5_Sets_forget [.ref b0] [(b0, .inr (6, [.int b1, .int 4, .int 100, .ref b2, .ref b3])), (b3, .inl (G.2 0, 256, .inl b4))] (fun v w => ∃ (e0 : Nat → Int32), v = none ∧ w = [(b0, .inr (6, [.int 0, .int 4, .int 100, .ref b2, .ref b3])), (b3, .inl (G.2 0, 256, .inl e0))] ∧ (zR e0 (-1) 99)) := by
  refine z_start (by decide +kernel) (Nat.le_of_ble_eq_true rfl) ?_
  intro p e s m below meth c A Z hr hnm hA hP hD hS ls hl
  have Z : zC p s m _ meth c prog_8_method_2_code 1 "TraceMachines$StateSets" G := Z
  obtain ⟨hx, hb, hml, hown, hts, hK, hN, hlocks⟩ := id Z
  have hl : lv_has ls 1 [(0, .ref b0)] := hl
  refine lv_aload_n hx hb d_Sets_forget_0 rfl (lv_at hl 0 rfl) ?_
  refine lv_iconst (v := 0) hx hb d_Sets_forget_1 (by decide) ?_
  refine va_put (D := G.1) (ci := 6) (v := .int 0) (ty := .int) (C := R_Sets) (T := F_Sets) (N := 5) hx hb hts i_Sets t_Sets t_Sets_ok n_Sets hown hK hP hD hS 0 rfl rfl 0 (by decide) (hts _ q239) (fun _ h9 => h9) rfl (by decide +kernel) rfl rfl (Nat.le_of_ble_eq_true rfl) d_Sets_forget_2 (fun H locs hP hD hS => ?_)
  have hP : va_P G.1 classes [(b0, .inr (6, [.int 0, .int 4, .int 100, .ref b2, .ref b3])), (b3, .inl (G.2 0, 256, .inl b4))] H := hP
  have hD := z_tie hP hD rfl
  refine lv_aload_n hx hb d_Sets_forget_5 rfl (lv_at hl 0 rfl) ?_
  refine va_get (D := G.1) (ci := 6) (v := .ref b3) (C := R_Sets) (T := F_Sets) (N := 5) hx hb hts i_Sets hown hK hP 0 rfl rfl 4 (by decide) (hts _ q245) (fun _ h9 => h9) rfl d_Sets_forget_6 ?_
  refine lv_iconst (v := (-1)) hx hb d_Sets_forget_9 (by decide) ?_
  refine z_callS (index := 29) (As := [.ref b3, .int (-1)]) (rest := []) (wr := [(b0, .inr (6, [.int 0, .int 4, .int 100, .ref b2, .ref b3]))]) Z (c_fill_I l G (b3) (256) (b4) ((-1)) (by decide)) hl.1 q829 q415 q13 q416 ⟨by decide, by decide, by show _ = some 2; decide +kernel⟩ ⟨Nat.le_of_ble_eq_true rfl, Nat.le_of_ble_eq_true rfl⟩ ⟨Nat.le_of_ble_eq_true rfl, Nat.le_of_ble_eq_true rfl⟩ rfl (Nat.le_of_ble_eq_true rfl) d_Sets_forget_10 hP hD hS hA [1] [0] rfl rfl rfl rfl (by decide) (fun v w1 H locs hw_1 hP hD hS => ?_)
  obtain ⟨rfl, rfl⟩ := hw_1
  have hP : va_P G.1 classes [(b0, .inr (6, [.int 0, .int 4, .int 100, .ref b2, .ref b3])), (b3, .inl (G.2 0, 256, .inl (fun _ => (-1))))] H := hP
  have hD := z_tie hP hD rfl
  refine W.widen (k := 0) (n := 0) (Nat.le_of_ble_eq_true rfl) (Nat.le_of_ble_eq_true rfl) ?_
  exact z_vret hx hb hr hlocks hP hD hS (Nat.le_of_ble_eq_true rfl) (Nat.le_of_ble_eq_true rfl) d_Sets_forget_13 ⟨(fun _ => (-1)), rfl, rfl, (zR_c (zI.wk (l' := (-1)) (h' := 99) zc_m1 (by decide)))⟩
abbrev m_s5_Sets_hashOf : Room := { frames := 0, cells := 0, slots := 0, locals := 0 }
set_option maxHeartbeats 4000000 in
set_option maxRecDepth 100000 in
theorem s5_Sets_hashOf (l : Launch) (G : zG) (b0 : Nat) (b1 : Int32) (b2 : Int32) (b3 : Nat) (b4 : Nat) (b5 : Nat → Int64) (hb1 : zI b1 0 9) (hb2 : zI b2 0 10) (hb5 : zqa qB b5) : zM l G y_Sets_hashOf prog_8_method_13_code 5 (Option.some Jvm.ClassFile.FieldType.int) m_s5_Sets_hashOf [.ref b0, .int b1] [(b0, .inr (6, [.int b2, .int 4, .int 10, .ref b3, .ref b4])), (b3, .inl (G.2 1, 40, .inr (.inl b5)))] (fun v w => ∃ (e0 : Int32), v = some (.int e0) ∧ w = [(b0, .inr (6, [.int b2, .int 4, .int 10, .ref b3, .ref b4])), (b3, .inl (G.2 1, 40, .inr (.inl b5)))]) := by
  refine z_start (by decide +kernel) (Nat.le_of_ble_eq_true rfl) ?_
  intro p e s m below meth c A Z hr hnm hA hP hD hS ls hl
  have Z : zC p s m _ meth c prog_8_method_13_code 5 "TraceMachines$StateSets" G := Z
  obtain ⟨hx, hb, hml, hown, hts, hK, hN, hlocks⟩ := id Z
  have hl : lv_has ls 5 [(0, .ref b0), (1, .int b1)] := hl
  refine lv_lconst (v := 0) hx hb d_Sets_hashOf_0 (by decide) ?_
  refine lv_lstore_n (lv' := [(2, .long 0), (0, .ref b0), (1, .int b1)]) hx hb d_Sets_hashOf_1 rfl hl (by decide) rfl (fun ls hl => ?_)
  refine lv_iconst (v := 0) hx hb d_Sets_hashOf_2 (by decide) ?_
  refine lv_istore (lv' := [(4, .int 0), (2, .long 0), (0, .ref b0), (1, .int b1)]) hx hb d_Sets_hashOf_3 hl (by decide) rfl (fun ls hl => ?_)
  suffices key : ∀ (k_17 : Nat) (y_18 : Int32) (y_19 : Int64) (H : Heap) (locs : List Loc) (ls : Array Slot), (zI y_18 0 4) → (4 : Int) - y_18.toInt < (k_17 : Int) → va_P G.1 classes [(b0, .inr (6, [.int b2, .int 4, .int 10, .ref b3, .ref b4])), (b3, .inl (G.2 1, 40, .inr (.inl b5)))] H → va_D A [(b0, .inr (6, [.int b2, .int 4, .int 10, .ref b3, .ref b4])), (b3, .inl (G.2 1, 40, .inr (.inl b5)))] → va_S A s.heap H locs → lv_has ls 5 [(4, .int y_18), (2, .long y_19), (0, .ref b0), (1, .int b1)] → W p l e m_s5_Sets_hashOf s m ([.ref b0, .int b1] : List Value).toArray below meth c H locs 0 0 (MQ below (zQ G (fun v w => ∃ (e0 : Int32), v = some (.int e0) ∧ w = [(b0, .inr (6, [.int b2, .int 4, .int 10, .ref b3, .ref b4])), (b3, .inl (G.2 1, 40, .inr (.inl b5)))]) A) ([.ref b0, .int b1] : List Value).toArray s m_s5_Sets_hashOf.cells m_s5_Sets_hashOf.slots A) (F0 m 5 ls []) by
    exact key 5 (0) (0) _ _ _ (zI.wk (l' := 0) (h' := 4) zc_0 (by decide)) (zm_upi (zI.wk (l' := 0) (h' := 4) zc_0 (by decide)) (by decide)) hP hD hS (lv_sub hl [0, 1, 2, 3] rfl)
  intro k_17
  induction k_17 with
  | zero =>
    intro y_18 y_19 H locs ls hy_18 hmk_17 hP hD hS hl
    exact (zm_up0 hy_18 hmk_17).elim
  | succ k_17 ihk_17 =>
    intro y_18 y_19 H locs ls hy_18 hmk_17 hP hD hS hl
    refine lv_iload hx hb d_Sets_hashOf_5 (lv_at hl 0 rfl) ?_
    refine lv_aload_n hx hb d_Sets_hashOf_7 rfl (lv_at hl 2 rfl) ?_
    refine va_get (D := G.1) (ci := 6) (v := .int 4) (C := R_Sets) (T := F_Sets) (N := 5) hx hb hts i_Sets hown hK hP 0 rfl rfl 1 (by decide) (hts _ q242) (fun _ h9 => h9) rfl d_Sets_hashOf_8 ?_
    refine lv_icmp_ge (tgt := 48) hx hb d_Sets_hashOf_11 (by decide) (fun hc_20 => ?_) (fun hc_20 => ?_)
    · have _nhc_20 := hc_20
      have ni_21 := (fa_le _ _).mp hc_20
      rw [li_4] at ni_21
      have hv_22 : zI y_18 4 4 := zI.le_r zc_4 hy_18 hc_20 (by decide)
      refine lv_lload_n hx hb d_Sets_hashOf_48 rfl (lv_at hl 1 rfl) ?_
      obtain ⟨v_23, ev_23⟩ : ∃ z : Int32, z = (y_19).toInt32 := ⟨_, rfl⟩
      refine lv_l2i (v := v_23) hx hb d_Sets_hashOf_49 ev_23.symm ?_
      exact z_iret hx hb hr hlocks hP hD hS (Nat.le_of_ble_eq_true rfl) (Nat.le_of_ble_eq_true rfl) d_Sets_hashOf_50 ⟨v_23, rfl, rfl⟩
    · have _nhc_20 := hc_20
      have ni_24 := (fa_lt _ _).mp (zi_nle hc_20)
      rw [li_4] at ni_24
      have hv_25 : zI y_18 0 3 := zI.lt_l hy_18 zc_4 (zi_nle hc_20) (by decide)
      refine lv_lload_n hx hb d_Sets_hashOf_14 rfl (lv_at hl 1 rfl) ?_
      refine lv_aload_n hx hb d_Sets_hashOf_15 rfl (lv_at hl 2 rfl) ?_
      refine va_get (D := G.1) (ci := 6) (v := .ref b3) (C := R_Sets) (T := F_Sets) (N := 5) hx hb hts i_Sets hown hK hP 0 rfl rfl 3 (by decide) (hts _ q244) (fun _ h9 => h9) rfl d_Sets_hashOf_16 ?_
      refine lv_iload_n hx hb d_Sets_hashOf_19 rfl (lv_at hl 3 rfl) ?_
      refine lv_aload_n hx hb d_Sets_hashOf_20 rfl (lv_at hl 2 rfl) ?_
      refine va_get (D := G.1) (ci := 6) (v := .int 4) (C := R_Sets) (T := F_Sets) (N := 5) hx hb hts i_Sets hown hK hP 0 rfl rfl 1 (by decide) (hts _ q242) (fun _ h9 => h9) rfl d_Sets_hashOf_21 ?_
      refine lv_imul hx hb d_Sets_hashOf_24 ?_
      refine lv_topi (fun v_26 ev_26 => ?_)
      obtain ⟨qv_26, hv_26⟩ := zI_mul (l := 0) (h := 36) hb1 zc_4 ev_26 (by decide)
      rw [li_4] at qv_26
      refine lv_iload hx hb d_Sets_hashOf_25 (lv_at hl 0 rfl) ?_
      refine lv_iadd hx hb d_Sets_hashOf_27 ?_
      refine lv_topi (fun v_27 ev_27 => ?_)
      obtain ⟨qv_27, hv_27⟩ := zI_add (l := 0) (h := 39) hv_26 hv_25 ev_27 (by decide)
      refine va_lald hx hb hK hP 1 1 rfl rfl (zI.inn hv_27 (by decide)) d_Sets_hashOf_28 ?_
      refine lv_topl (fun v_28 ev_28 => ?_)
      have bv_28 := zQB.ld hb5 hv_27 ev_28 (by decide)
      refine lv_lxor hx hb d_Sets_hashOf_29 ?_
      refine lv_topl (fun v_29 ev_29 => ?_)
      refine lv_ldc2 hx hb hown (hts _ q838) d_Sets_hashOf_30 ?_
      refine lv_lmul hx hb d_Sets_hashOf_33 ?_
      refine lv_topl (fun v_30 ev_30 => ?_)
      refine lv_lstore_n (lv' := [(2, .long v_30), (4, .int y_18), (0, .ref b0), (1, .int b1)]) hx hb d_Sets_hashOf_34 rfl hl (by decide) rfl (fun ls hl => ?_)
      refine lv_lload_n hx hb d_Sets_hashOf_35 rfl (lv_at hl 0 rfl) ?_
      refine lv_lload_n hx hb d_Sets_hashOf_36 rfl (lv_at hl 0 rfl) ?_
      refine lv_bipush (v := 32) hx hb d_Sets_hashOf_37 (by decide) ?_
      obtain ⟨v_31, ev_31⟩ : ∃ z : Int64, z = ((v_30).toUInt64 >>> ((32 : Int32).toInt64.toUInt64 &&& Int64.toUInt64 63)).toInt64 := ⟨_, rfl⟩
      refine lv_lushr (v := v_31) hx hb d_Sets_hashOf_39 ev_31.symm ?_
      refine lv_lxor hx hb d_Sets_hashOf_40 ?_
      refine lv_topl (fun v_32 ev_32 => ?_)
      refine lv_lstore_n (lv' := [(2, .long v_32), (4, .int y_18), (0, .ref b0), (1, .int b1)]) hx hb d_Sets_hashOf_41 rfl hl (by decide) rfl (fun ls hl => ?_)
      obtain ⟨v_33, ev_33⟩ : ∃ z : Int32, z = y_18 + 1 := ⟨_, rfl⟩
      obtain ⟨qv_33, hv_33⟩ := zI_add (l := 1) (h := 4) hv_25 zc_1 ev_33 (by decide)
      rw [li_1] at qv_33
      refine lv_iinc (v := v_33) (lv' := [(4, .int v_33), (2, .long v_32), (0, .ref b0), (1, .int b1)]) hx hb d_Sets_hashOf_42 hl (k := 1) rfl (by rw [ev_33]; rfl) (by decide) rfl (fun ls hl => ?_)
      refine lv_goto (tgt := 5) hx hb d_Sets_hashOf_45 (by decide) ?_
      exact ihk_17 (v_33) (v_32) _ _ _ (zI.wk (l' := 0) (h' := 4) hv_33 (by decide)) (zm_up qv_33 hmk_17 (by decide)) hP hD hS (lv_sub hl [0, 1, 2, 3] rfl)
abbrev m_s4_Sets_isLike : Room := { frames := 0, cells := 0, slots := 0, locals := 0 }
set_option maxHeartbeats 4000000 in
set_option maxRecDepth 100000 in
theorem s4_Sets_isLike (l : Launch) (G : zG) (b0 : Nat) (b1 : Int32) (b2 : Nat) (b3 : Int32) (b4 : Int32) (b5 : Nat) (b6 : Nat) (b7 : Nat → Int64) (b8 : Int32) (b9 : Nat) (b10 : Nat) (b11 : Nat → Int64) (hb1 : zI b1 0 99) (hb3 : zI b3 0 9) (hb4 : zI b4 0 100) (hb8 : zI b8 0 10) (hb7 : zqa qB b7) (hb11 : zqa qB b11) : zM l G y_Sets_isLike prog_8_method_14_code 5 (Option.some Jvm.ClassFile.FieldType.boolean) m_s4_Sets_isLike [.ref b0, .int b1, .ref b2, .int b3] [(b0, .inr (6, [.int b4, .int 4, .int 100, .ref b5, .ref b6])), (b5, .inl (G.2 1, 400, .inr (.inl b7))), (b2, .inr (6, [.int b8, .int 4, .int 10, .ref b9, .ref b10])), (b9, .inl (G.2 1, 40, .inr (.inl b11)))] (fun v w => ∃ (e0 : Int32), v = some (.int e0) ∧ w = [(b0, .inr (6, [.int b4, .int 4, .int 100, .ref b5, .ref b6])), (b5, .inl (G.2 1, 400, .inr (.inl b7))), (b2, .inr (6, [.int b8, .int 4, .int 10, .ref b9, .ref b10])), (b9, .inl (G.2 1, 40, .inr (.inl b11)))] ∧ (zI e0 0 1)) := by
  refine z_start (by decide +kernel) (Nat.le_of_ble_eq_true rfl) ?_
  intro p e s m below meth c A Z hr hnm hA hP hD hS ls hl
  have Z : zC p s m _ meth c prog_8_method_14_code 5 "TraceMachines$StateSets" G := Z
  obtain ⟨hx, hb, hml, hown, hts, hK, hN, hlocks⟩ := id Z
  have hl : lv_has ls 5 [(0, .ref b0), (1, .int b1), (2, .ref b2), (3, .int b3)] := hl
  refine lv_iconst (v := 0) hx hb d_Sets_isLike_0 (by decide) ?_
  refine lv_istore (lv' := [(4, .int 0), (0, .ref b0), (1, .int b1), (2, .ref b2), (3, .int b3)]) hx hb d_Sets_isLike_1 hl (by decide) rfl (fun ls hl => ?_)
  suffices key : ∀ (k_18 : Nat) (y_19 : Int32) (H : Heap) (locs : List Loc) (ls : Array Slot), (zI y_19 0 4) → (4 : Int) - y_19.toInt < (k_18 : Int) → va_P G.1 classes [(b0, .inr (6, [.int b4, .int 4, .int 100, .ref b5, .ref b6])), (b5, .inl (G.2 1, 400, .inr (.inl b7))), (b2, .inr (6, [.int b8, .int 4, .int 10, .ref b9, .ref b10])), (b9, .inl (G.2 1, 40, .inr (.inl b11)))] H → va_D A [(b0, .inr (6, [.int b4, .int 4, .int 100, .ref b5, .ref b6])), (b5, .inl (G.2 1, 400, .inr (.inl b7))), (b2, .inr (6, [.int b8, .int 4, .int 10, .ref b9, .ref b10])), (b9, .inl (G.2 1, 40, .inr (.inl b11)))] → va_S A s.heap H locs → lv_has ls 5 [(4, .int y_19), (0, .ref b0), (1, .int b1), (2, .ref b2), (3, .int b3)] → W p l e m_s4_Sets_isLike s m ([.ref b0, .int b1, .ref b2, .int b3] : List Value).toArray below meth c H locs 0 0 (MQ below (zQ G (fun v w => ∃ (e0 : Int32), v = some (.int e0) ∧ w = [(b0, .inr (6, [.int b4, .int 4, .int 100, .ref b5, .ref b6])), (b5, .inl (G.2 1, 400, .inr (.inl b7))), (b2, .inr (6, [.int b8, .int 4, .int 10, .ref b9, .ref b10])), (b9, .inl (G.2 1, 40, .inr (.inl b11)))] ∧ (zI e0 0 1)) A) ([.ref b0, .int b1, .ref b2, .int b3] : List Value).toArray s m_s4_Sets_isLike.cells m_s4_Sets_isLike.slots A) (F0 m 3 ls []) by
    exact key 5 (0) _ _ _ (zI.wk (l' := 0) (h' := 4) zc_0 (by decide)) (zm_upi (zI.wk (l' := 0) (h' := 4) zc_0 (by decide)) (by decide)) hP hD hS (lv_sub hl [0, 1, 2, 3, 4] rfl)
  intro k_18
  induction k_18 with
  | zero =>
    intro y_19 H locs ls hy_19 hmk_18 hP hD hS hl
    exact (zm_up0 hy_19 hmk_18).elim
  | succ k_18 ihk_18 =>
    intro y_19 H locs ls hy_19 hmk_18 hP hD hS hl
    refine lv_iload hx hb d_Sets_isLike_3 (lv_at hl 0 rfl) ?_
    refine lv_aload_n hx hb d_Sets_isLike_5 rfl (lv_at hl 1 rfl) ?_
    refine va_get (D := G.1) (ci := 6) (v := .int 4) (C := R_Sets) (T := F_Sets) (N := 5) hx hb hts i_Sets hown hK hP 0 rfl rfl 1 (by decide) (hts _ q242) (fun _ h9 => h9) rfl d_Sets_isLike_6 ?_
    refine lv_icmp_ge (tgt := 52) hx hb d_Sets_isLike_9 (by decide) (fun hc_20 => ?_) (fun hc_20 => ?_)
    · have _nhc_20 := hc_20
      have ni_21 := (fa_le _ _).mp hc_20
      rw [li_4] at ni_21
      have hv_22 : zI y_19 4 4 := zI.le_r zc_4 hy_19 hc_20 (by decide)
      refine lv_iconst (v := 1) hx hb d_Sets_isLike_52 (by decide) ?_
      exact z_zret hx hb hr hlocks rfl hP hD hS (Nat.le_of_ble_eq_true rfl) (Nat.le_of_ble_eq_true rfl) d_Sets_isLike_53 ⟨1, rfl, rfl, (zI.wk (l' := 0) (h' := 1) zc_1 (by decide))⟩
    · have _nhc_20 := hc_20
      have ni_23 := (fa_lt _ _).mp (zi_nle hc_20)
      rw [li_4] at ni_23
      have hv_24 : zI y_19 0 3 := zI.lt_l hy_19 zc_4 (zi_nle hc_20) (by decide)
      refine lv_aload_n hx hb d_Sets_isLike_12 rfl (lv_at hl 1 rfl) ?_
      refine va_get (D := G.1) (ci := 6) (v := .ref b5) (C := R_Sets) (T := F_Sets) (N := 5) hx hb hts i_Sets hown hK hP 0 rfl rfl 3 (by decide) (hts _ q244) (fun _ h9 => h9) rfl d_Sets_isLike_13 ?_
      refine lv_iload_n hx hb d_Sets_isLike_16 rfl (lv_at hl 2 rfl) ?_
      refine lv_aload_n hx hb d_Sets_isLike_17 rfl (lv_at hl 1 rfl) ?_
      refine va_get (D := G.1) (ci := 6) (v := .int 4) (C := R_Sets) (T := F_Sets) (N := 5) hx hb hts i_Sets hown hK hP 0 rfl rfl 1 (by decide) (hts _ q242) (fun _ h9 => h9) rfl d_Sets_isLike_18 ?_
      refine lv_imul hx hb d_Sets_isLike_21 ?_
      refine lv_topi (fun v_25 ev_25 => ?_)
      obtain ⟨qv_25, hv_25⟩ := zI_mul (l := 0) (h := 396) hb1 zc_4 ev_25 (by decide)
      rw [li_4] at qv_25
      refine lv_iload hx hb d_Sets_isLike_22 (lv_at hl 0 rfl) ?_
      refine lv_iadd hx hb d_Sets_isLike_24 ?_
      refine lv_topi (fun v_26 ev_26 => ?_)
      obtain ⟨qv_26, hv_26⟩ := zI_add (l := 0) (h := 399) hv_25 hv_24 ev_26 (by decide)
      refine va_lald hx hb hK hP 1 1 rfl rfl (zI.inn hv_26 (by decide)) d_Sets_isLike_25 ?_
      refine lv_topl (fun v_27 ev_27 => ?_)
      have bv_27 := zQB.ld hb7 hv_26 ev_27 (by decide)
      refine lv_aload_n hx hb d_Sets_isLike_26 rfl (lv_at hl 3 rfl) ?_
      refine va_get (D := G.1) (ci := 6) (v := .ref b9) (C := R_Sets) (T := F_Sets) (N := 5) hx hb hts i_Sets hown hK hP 2 rfl rfl 3 (by decide) (hts _ q244) (fun _ h9 => h9) rfl d_Sets_isLike_27 ?_
      refine lv_iload_n hx hb d_Sets_isLike_30 rfl (lv_at hl 4 rfl) ?_
      refine lv_aload_n hx hb d_Sets_isLike_31 rfl (lv_at hl 1 rfl) ?_
      refine va_get (D := G.1) (ci := 6) (v := .int 4) (C := R_Sets) (T := F_Sets) (N := 5) hx hb hts i_Sets hown hK hP 0 rfl rfl 1 (by decide) (hts _ q242) (fun _ h9 => h9) rfl d_Sets_isLike_32 ?_
      refine lv_imul hx hb d_Sets_isLike_35 ?_
      refine lv_topi (fun v_28 ev_28 => ?_)
      obtain ⟨qv_28, hv_28⟩ := zI_mul (l := 0) (h := 36) hb3 zc_4 ev_28 (by decide)
      rw [li_4] at qv_28
      refine lv_iload hx hb d_Sets_isLike_36 (lv_at hl 0 rfl) ?_
      refine lv_iadd hx hb d_Sets_isLike_38 ?_
      refine lv_topi (fun v_29 ev_29 => ?_)
      obtain ⟨qv_29, hv_29⟩ := zI_add (l := 0) (h := 39) hv_28 hv_24 ev_29 (by decide)
      refine va_lald hx hb hK hP 3 1 rfl rfl (zI.inn hv_29 (by decide)) d_Sets_isLike_39 ?_
      refine lv_topl (fun v_30 ev_30 => ?_)
      have bv_30 := zQB.ld hb11 hv_29 ev_30 (by decide)
      refine W.lcmp hx hb d_Sets_isLike_40 ?_
      refine lv_topi (fun v_31 ev_31 => ?_)
      refine lv_if_eq (tgt := 46) hx hb d_Sets_isLike_41 (by decide) (fun hc_32 => ?_) (fun hc_32 => ?_)
      · have ni_33 := hc_32
        rw [ev_31] at ni_33
        simp only [lg_cmp_lt, lg_cmp_le, lg_cmp_gt, lg_cmp_ge, lg_cmp_eq, fa_lt64, fa_le64, fa_eq64, Int32.toInt_toInt64] at ni_33
        obtain ⟨v_34, ev_34⟩ : ∃ z : Int32, z = y_19 + 1 := ⟨_, rfl⟩
        obtain ⟨qv_34, hv_34⟩ := zI_add (l := 1) (h := 4) hv_24 zc_1 ev_34 (by decide)
        rw [li_1] at qv_34
        refine lv_iinc (v := v_34) (lv' := [(4, .int v_34), (0, .ref b0), (1, .int b1), (2, .ref b2), (3, .int b3)]) hx hb d_Sets_isLike_46 hl (k := 0) rfl (by rw [ev_34]; rfl) (by decide) rfl (fun ls hl => ?_)
        refine lv_goto (tgt := 3) hx hb d_Sets_isLike_49 (by decide) ?_
        exact ihk_18 (v_34) _ _ _ (zI.wk (l' := 0) (h' := 4) hv_34 (by decide)) (zm_up qv_34 hmk_18 (by decide)) hP hD hS (lv_sub hl [0, 1, 2, 3, 4] rfl)
      · have ni_35 := hc_32
        rw [ev_31] at ni_35
        simp only [lg_cmp_lt, lg_cmp_le, lg_cmp_gt, lg_cmp_ge, lg_cmp_eq, fa_lt64, fa_le64, fa_eq64, Int32.toInt_toInt64] at ni_35
        refine lv_iconst (v := 0) hx hb d_Sets_isLike_44 (by decide) ?_
        exact z_zret hx hb hr hlocks rfl hP hD hS (Nat.le_of_ble_eq_true rfl) (Nat.le_of_ble_eq_true rfl) d_Sets_isLike_45 ⟨0, rfl, rfl, (zI.wk (l' := 0) (h' := 1) zc_0 (by decide))⟩
abbrev m_s4_Sets_append : Room := { frames := 1, cells := 0, slots := 0, locals := 18 }
set_option maxHeartbeats 4000000 in
set_option maxRecDepth 100000 in
theorem s4_Sets_append (l : Launch) (G : zG) (b0 : Nat) (b1 : Nat) (b2 : Int32) (b3 : Int32) (b4 : Int32) (b5 : Nat) (b6 : Nat) (b7 : Nat → Int64) (b8 : Nat → Int32) (b9 : Int32) (b10 : Nat) (b11 : Nat) (b12 : Nat → Int64) (hb2 : zI b2 0 9) (hb3 : zI b3 0 255) (hb4 : zI b4 0 100) (hb9 : zI b9 0 10) (hb7 : zqa qB b7) (hb8 : zR b8 (-1) 99) (hb12 : zqa qB b12) : zM l G y_Sets_append prog_8_method_12_code 4 (Option.some Jvm.ClassFile.FieldType.int) m_s4_Sets_append [.ref b0, .ref b1, .int b2, .int b3] [(b0, .inr (6, [.int b4, .int 4, .int 100, .ref b5, .ref b6])), (b5, .inl (G.2 1, 400, .inr (.inl b7))), (b6, .inl (G.2 0, 256, .inl b8)), (b1, .inr (6, [.int b9, .int 4, .int 10, .ref b10, .ref b11])), (b10, .inl (G.2 1, 40, .inr (.inl b12)))] (fun v w => ∃ (e0 : Int32), ∃ (e1 : Int32), ∃ (e2 : Nat → Int64), ∃ (e3 : Nat → Int32), v = some (.int e0) ∧ w = [(b0, .inr (6, [.int e1, .int 4, .int 100, .ref b5, .ref b6])), (b5, .inl (G.2 1, 400, .inr (.inl e2))), (b6, .inl (G.2 0, 256, .inl e3)), (b1, .inr (6, [.int b9, .int 4, .int 10, .ref b10, .ref b11])), (b10, .inl (G.2 1, 40, .inr (.inl b12)))] ∧ (zI e0 (-1) 99) ∧ (zI e1 0 100) ∧ (zqa qB e2) ∧ (zR e3 (-1) 99) ∧ (b4.toInt ≤ e1.toInt)) := by
  refine z_start (by decide +kernel) (Nat.le_of_ble_eq_true rfl) ?_
  intro p e s m below meth c A Z hr hnm hA hP hD hS ls hl
  have Z : zC p s m _ meth c prog_8_method_12_code 4 "TraceMachines$StateSets" G := Z
  obtain ⟨hx, hb, hml, hown, hts, hK, hN, hlocks⟩ := id Z
  have hl : lv_has ls 4 [(0, .ref b0), (1, .ref b1), (2, .int b2), (3, .int b3)] := hl
  refine lv_aload_n hx hb d_Sets_append_0 rfl (lv_at hl 0 rfl) ?_
  refine va_get (D := G.1) (ci := 6) (v := .int b4) (C := R_Sets) (T := F_Sets) (N := 5) hx hb hts i_Sets hown hK hP 0 rfl rfl 0 (by decide) (hts _ q239) (fun _ h9 => h9) rfl d_Sets_append_1 ?_
  refine lv_aload_n hx hb d_Sets_append_4 rfl (lv_at hl 0 rfl) ?_
  refine va_get (D := G.1) (ci := 6) (v := .int 100) (C := R_Sets) (T := F_Sets) (N := 5) hx hb hts i_Sets hown hK hP 0 rfl rfl 2 (by decide) (hts _ q243) (fun _ h9 => h9) rfl d_Sets_append_5 ?_
  refine lv_icmp_ne (tgt := 13) hx hb d_Sets_append_8 (by decide) (fun hc_1 => ?_) (fun hc_1 => ?_)
  · have _nhc_1 := hc_1
    have ni_2 : ¬ (b4 : Int32).toInt = (100 : Int32).toInt := fun z => hc_1 ((fa_eq _ _).mpr z)
    simp only [li_100] at ni_2
    have hv_3 : zI b4 0 99 := zI.ne_hi hb4 zc_100 hc_1 (by decide)
    refine lv_aload_n hx hb d_Sets_append_13 rfl (lv_at hl 1 rfl) ?_
    refine va_get (D := G.1) (ci := 6) (v := .ref b10) (C := R_Sets) (T := F_Sets) (N := 5) hx hb hts i_Sets hown hK hP 3 rfl rfl 3 (by decide) (hts _ q244) (fun _ h9 => h9) rfl d_Sets_append_14 ?_
    refine lv_iload_n hx hb d_Sets_append_17 rfl (lv_at hl 2 rfl) ?_
    refine lv_aload_n hx hb d_Sets_append_18 rfl (lv_at hl 0 rfl) ?_
    refine va_get (D := G.1) (ci := 6) (v := .int 4) (C := R_Sets) (T := F_Sets) (N := 5) hx hb hts i_Sets hown hK hP 0 rfl rfl 1 (by decide) (hts _ q242) (fun _ h9 => h9) rfl d_Sets_append_19 ?_
    refine lv_imul hx hb d_Sets_append_22 ?_
    refine lv_topi (fun v_4 ev_4 => ?_)
    obtain ⟨qv_4, hv_4⟩ := zI_mul (l := 0) (h := 36) hb2 zc_4 ev_4 (by decide)
    rw [li_4] at qv_4
    refine lv_aload_n hx hb d_Sets_append_23 rfl (lv_at hl 0 rfl) ?_
    refine va_get (D := G.1) (ci := 6) (v := .ref b5) (C := R_Sets) (T := F_Sets) (N := 5) hx hb hts i_Sets hown hK hP 0 rfl rfl 3 (by decide) (hts _ q244) (fun _ h9 => h9) rfl d_Sets_append_24 ?_
    refine lv_aload_n hx hb d_Sets_append_27 rfl (lv_at hl 0 rfl) ?_
    refine va_get (D := G.1) (ci := 6) (v := .int b4) (C := R_Sets) (T := F_Sets) (N := 5) hx hb hts i_Sets hown hK hP 0 rfl rfl 0 (by decide) (hts _ q239) (fun _ h9 => h9) rfl d_Sets_append_28 ?_
    refine lv_aload_n hx hb d_Sets_append_31 rfl (lv_at hl 0 rfl) ?_
    refine va_get (D := G.1) (ci := 6) (v := .int 4) (C := R_Sets) (T := F_Sets) (N := 5) hx hb hts i_Sets hown hK hP 0 rfl rfl 1 (by decide) (hts _ q242) (fun _ h9 => h9) rfl d_Sets_append_32 ?_
    refine lv_imul hx hb d_Sets_append_35 ?_
    refine lv_topi (fun v_5 ev_5 => ?_)
    obtain ⟨qv_5, hv_5⟩ := zI_mul (l := 0) (h := 396) hv_3 zc_4 ev_5 (by decide)
    rw [li_4] at qv_5
    refine lv_aload_n hx hb d_Sets_append_36 rfl (lv_at hl 0 rfl) ?_
    refine va_get (D := G.1) (ci := 6) (v := .int 4) (C := R_Sets) (T := F_Sets) (N := 5) hx hb hts i_Sets hown hK hP 0 rfl rfl 1 (by decide) (hts _ q242) (fun _ h9 => h9) rfl d_Sets_append_37 ?_
    refine va_copyl hx hb (hml.trans hl.1.symm) hown (hts _ q843) (hts _ q504) (hts _ q503) (hts _ q15) hK hP hD hS 4 1 1 1 rfl rfl rfl rfl rfl (zi_nn hv_4 (by decide)) (zi_nn hv_5 (by decide)) (zi_nn zc_4 (by decide)) (zi_cp hv_4 zc_4 (by decide) (by decide) (by decide)) (zi_cp hv_5 zc_4 (by decide) (by decide) (by decide)) (fun _ _ => rfl) (Nat.le_of_ble_eq_true rfl) (Nat.le_of_ble_eq_true rfl) d_Sets_append_40 (fun H locs hP hD hS => ?_)
    obtain ⟨f_6, hf_6, hP, hD⟩ := z_newlB 1 hP hD rfl (zQB.cpy hb12 hb7 (by have p9 := z_pl hv_4 (by decide); have p8 := z_pl hv_5 (by decide); omega))
    have hP : va_P G.1 classes [(b0, .inr (6, [.int b4, .int 4, .int 100, .ref b5, .ref b6])), (b5, .inl (G.2 1, 400, .inr (.inl f_6))), (b6, .inl (G.2 0, 256, .inl b8)), (b1, .inr (6, [.int b9, .int 4, .int 10, .ref b10, .ref b11])), (b10, .inl (G.2 1, 40, .inr (.inl b12)))] H := hP
    have hD := z_tie hP hD rfl
    refine lv_aload_n hx hb d_Sets_append_43 rfl (lv_at hl 0 rfl) ?_
    refine va_get (D := G.1) (ci := 6) (v := .ref b6) (C := R_Sets) (T := F_Sets) (N := 5) hx hb hts i_Sets hown hK hP 0 rfl rfl 4 (by decide) (hts _ q245) (fun _ h9 => h9) rfl d_Sets_append_44 ?_
    refine lv_iload_n hx hb d_Sets_append_47 rfl (lv_at hl 3 rfl) ?_
    refine lv_aload_n hx hb d_Sets_append_48 rfl (lv_at hl 0 rfl) ?_
    refine va_get (D := G.1) (ci := 6) (v := .int b4) (C := R_Sets) (T := F_Sets) (N := 5) hx hb hts i_Sets hown hK hP 0 rfl rfl 0 (by decide) (hts _ q239) (fun _ h9 => h9) rfl d_Sets_append_49 ?_
    refine va_iast hx hb hK hP hD hS 2 0 rfl rfl (zI.inn hb3 (by decide)) d_Sets_append_52 (fun H locs hP hD hS => ?_)
    obtain ⟨f_7, hf_7, gf_7, uf_7, hP, hD⟩ := z_newfu 2 hP hD rfl hb8 (zI.wk (l' := (-1)) (h' := 99) hv_3 (by decide))
    have hP : va_P G.1 classes [(b0, .inr (6, [.int b4, .int 4, .int 100, .ref b5, .ref b6])), (b5, .inl (G.2 1, 400, .inr (.inl f_6))), (b6, .inl (G.2 0, 256, .inl f_7)), (b1, .inr (6, [.int b9, .int 4, .int 10, .ref b10, .ref b11])), (b10, .inl (G.2 1, 40, .inr (.inl b12)))] H := hP
    have hD := z_tie hP hD rfl
    refine lv_aload_n hx hb d_Sets_append_53 rfl (lv_at hl 0 rfl) ?_
    refine lv_dup hx hb d_Sets_append_54 rfl ?_
    refine va_get (D := G.1) (ci := 6) (v := .int b4) (C := R_Sets) (T := F_Sets) (N := 5) hx hb hts i_Sets hown hK hP 0 rfl rfl 0 (by decide) (hts _ q239) (fun _ h9 => h9) rfl d_Sets_append_55 ?_
    refine lv_iconst (v := 1) hx hb d_Sets_append_58 (by decide) ?_
    refine lv_iadd hx hb d_Sets_append_59 ?_
    refine lv_topi (fun v_8 ev_8 => ?_)
    obtain ⟨qv_8, hv_8⟩ := zI_add (l := 1) (h := 100) hv_3 zc_1 ev_8 (by decide)
    rw [li_1] at qv_8
    refine va_put (D := G.1) (ci := 6) (v := .int v_8) (ty := .int) (C := R_Sets) (T := F_Sets) (N := 5) hx hb hts i_Sets t_Sets t_Sets_ok n_Sets hown hK hP hD hS 0 rfl rfl 0 (by decide) (hts _ q239) (fun _ h9 => h9) rfl (by decide +kernel) rfl rfl (Nat.le_of_ble_eq_true rfl) d_Sets_append_60 (fun H locs hP hD hS => ?_)
    have hP : va_P G.1 classes [(b0, .inr (6, [.int v_8, .int 4, .int 100, .ref b5, .ref b6])), (b5, .inl (G.2 1, 400, .inr (.inl f_6))), (b6, .inl (G.2 0, 256, .inl f_7)), (b1, .inr (6, [.int b9, .int 4, .int 10, .ref b10, .ref b11])), (b10, .inl (G.2 1, 40, .inr (.inl b12)))] H := hP
    have hD := z_tie hP hD rfl
    refine lv_aload_n hx hb d_Sets_append_63 rfl (lv_at hl 0 rfl) ?_
    refine va_get (D := G.1) (ci := 6) (v := .int v_8) (C := R_Sets) (T := F_Sets) (N := 5) hx hb hts i_Sets hown hK hP 0 rfl rfl 0 (by decide) (hts _ q239) (fun _ h9 => h9) rfl d_Sets_append_64 ?_
    refine lv_iconst (v := 1) hx hb d_Sets_append_67 (by decide) ?_
    refine lv_isub hx hb d_Sets_append_68 ?_
    refine lv_topi (fun v_9 ev_9 => ?_)
    obtain ⟨qv_9, hv_9⟩ := zI_sub (l := 0) (h := 99) hv_8 zc_1 ev_9 (by decide)
    rw [li_1] at qv_9
    exact z_iret hx hb hr hlocks hP hD hS (Nat.le_of_ble_eq_true rfl) (Nat.le_of_ble_eq_true rfl) d_Sets_append_69 ⟨v_9, v_8, f_6, f_7, rfl, rfl, (zI.wk (l' := (-1)) (h' := 99) hv_9 (by decide)), (zI.wk (l' := 0) (h' := 100) hv_8 (by decide)), hf_6, hf_7, (by omega)⟩
  · have _nhc_1 := hc_1
    have ni_10 := (fa_eq _ _).mp hc_1
    rw [li_100] at ni_10
    have hv_11 : zI b4 100 100 := zI.eq_l hb4 zc_100 hc_1
    refine lv_iconst (v := (-1)) hx hb d_Sets_append_11 (by decide) ?_
    exact z_iret hx hb hr hlocks hP hD hS (Nat.le_of_ble_eq_true rfl) (Nat.le_of_ble_eq_true rfl) d_Sets_append_12 ⟨(-1), b4, b7, b8, rfl, rfl, (zI.wk (l' := (-1)) (h' := 99) zc_m1 (by decide)), (zI.wk (l' := 0) (h' := 100) hv_11 (by decide)), hb7, hb8, (by omega)⟩
abbrev m_s4_Sets_indexOf : Room := { frames := 2, cells := 0, slots := 0, locals := 41 }
set_option maxHeartbeats 4000000 in
set_option maxRecDepth 100000 in
theorem s4_Sets_indexOf (l : Launch) (G : zG) (b0 : Nat) (b1 : Nat) (b2 : Int32) (b3 : Int32) (b4 : Nat) (b5 : Nat) (b6 : Nat → Int64) (b7 : Nat → Int32) (b8 : Int32) (b9 : Nat) (b10 : Nat) (b11 : Nat → Int64) (hb2 : zI b2 0 9) (hb3 : zI b3 0 100) (hb8 : zI b8 0 10) (hb6 : zqa qB b6) (hb7 : zR b7 (-1) 99) (hb11 : zqa qB b11) : zM l G y_Sets_indexOf prog_8_method_11_code 7 (Option.some Jvm.ClassFile.FieldType.int) m_s4_Sets_indexOf [.ref b0, .ref b1, .int b2] [(b0, .inr (6, [.int b3, .int 4, .int 100, .ref b4, .ref b5])), (b4, .inl (G.2 1, 400, .inr (.inl b6))), (b5, .inl (G.2 0, 256, .inl b7)), (b1, .inr (6, [.int b8, .int 4, .int 10, .ref b9, .ref b10])), (b9, .inl (G.2 1, 40, .inr (.inl b11)))] (fun v w => ∃ (e0 : Int32), ∃ (e1 : Int32), ∃ (e2 : Nat → Int64), ∃ (e3 : Nat → Int32), v = some (.int e0) ∧ w = [(b0, .inr (6, [.int e1, .int 4, .int 100, .ref b4, .ref b5])), (b4, .inl (G.2 1, 400, .inr (.inl e2))), (b5, .inl (G.2 0, 256, .inl e3)), (b1, .inr (6, [.int b8, .int 4, .int 10, .ref b9, .ref b10])), (b9, .inl (G.2 1, 40, .inr (.inl b11)))] ∧ (zI e0 (-1) 99) ∧ (zI e1 0 100) ∧ (zqa qB e2) ∧ (zR e3 (-1) 99) ∧ (b3.toInt ≤ e1.toInt)) := by
  refine z_start (by decide +kernel) (Nat.le_of_ble_eq_true rfl) ?_
  intro p e s m below meth c A Z hr hnm hA hP hD hS ls hl
  have Z : zC p s m _ meth c prog_8_method_11_code 7 "TraceMachines$StateSets" G := Z
  obtain ⟨hx, hb, hml, hown, hts, hK, hN, hlocks⟩ := id Z
  have hl : lv_has ls 7 [(0, .ref b0), (1, .ref b1), (2, .int b2)] := hl
  refine lv_aload_n hx hb d_Sets_indexOf_0 rfl (lv_at hl 1 rfl) ?_
  refine lv_iload_n hx hb d_Sets_indexOf_1 rfl (lv_at hl 2 rfl) ?_
  refine z_callV (index := 47) (As := [.int b2]) (rest := []) (wr := [(b0, .inr (6, [.int b3, .int 4, .int 100, .ref b4, .ref b5])), (b4, .inl (G.2 1, 400, .inr (.inl b6))), (b5, .inl (G.2 0, 256, .inl b7))]) Z (s5_Sets_hashOf l G (b1) (b2) (b8) (b9) (b10) (b11) hb2 hb8 hb11) hl.1 q834 q836 qs23 q7 q837 ⟨by decide, by decide, by show _ = some 1; decide +kernel⟩ ⟨Nat.le_of_ble_eq_true rfl, Nat.le_of_ble_eq_true rfl⟩ ⟨Nat.le_of_ble_eq_true rfl, Nat.le_of_ble_eq_true rfl⟩ rfl (Nat.le_of_ble_eq_true rfl) d_Sets_indexOf_2 hP hD hS hA 3 6 rfl rfl rfl [3, 4] [0, 1, 2] rfl rfl rfl rfl (by decide) (fun v w1 H locs hw_1 hP hD hS => ?_)
  obtain ⟨x_2, rfl, rfl⟩ := hw_1
  have hP : va_P G.1 classes [(b0, .inr (6, [.int b3, .int 4, .int 100, .ref b4, .ref b5])), (b4, .inl (G.2 1, 400, .inr (.inl b6))), (b5, .inl (G.2 0, 256, .inl b7)), (b1, .inr (6, [.int b8, .int 4, .int 10, .ref b9, .ref b10])), (b9, .inl (G.2 1, 40, .inr (.inl b11)))] H := hP
  have hD := z_tie hP hD rfl
  refine W.widen (k := 0) (n := 0) (Nat.le_of_ble_eq_true rfl) (Nat.le_of_ble_eq_true rfl) ?_
  refine lv_istore_n (lv' := [(3, .int x_2), (0, .ref b0), (1, .ref b1), (2, .int b2)]) hx hb d_Sets_indexOf_5 rfl hl (by decide) rfl (fun ls hl => ?_)
  refine lv_iconst (v := 0) hx hb d_Sets_indexOf_6 (by decide) ?_
  refine lv_istore (lv' := [(4, .int 0), (3, .int x_2), (0, .ref b0), (1, .ref b1), (2, .int b2)]) hx hb d_Sets_indexOf_7 hl (by decide) rfl (fun ls hl => ?_)
  suffices key : ∀ (k_31 : Nat) (y_32 : Int32) (H : Heap) (locs : List Loc) (ls : Array Slot), (zI y_32 0 256) → (256 : Int) - y_32.toInt < (k_31 : Int) → va_P G.1 classes [(b0, .inr (6, [.int b3, .int 4, .int 100, .ref b4, .ref b5])), (b4, .inl (G.2 1, 400, .inr (.inl b6))), (b5, .inl (G.2 0, 256, .inl b7)), (b1, .inr (6, [.int b8, .int 4, .int 10, .ref b9, .ref b10])), (b9, .inl (G.2 1, 40, .inr (.inl b11)))] H → va_D A [(b0, .inr (6, [.int b3, .int 4, .int 100, .ref b4, .ref b5])), (b4, .inl (G.2 1, 400, .inr (.inl b6))), (b5, .inl (G.2 0, 256, .inl b7)), (b1, .inr (6, [.int b8, .int 4, .int 10, .ref b9, .ref b10])), (b9, .inl (G.2 1, 40, .inr (.inl b11)))] → va_S A s.heap H locs → lv_has ls 7 [(4, .int y_32), (3, .int x_2), (0, .ref b0), (1, .ref b1), (2, .int b2)] → W p l e m_s4_Sets_indexOf s m ([.ref b0, .ref b1, .int b2] : List Value).toArray below meth c H locs 0 0 (MQ below (zQ G (fun v w => ∃ (e0 : Int32), ∃ (e1 : Int32), ∃ (e2 : Nat → Int64), ∃ (e3 : Nat → Int32), v = some (.int e0) ∧ w = [(b0, .inr (6, [.int e1, .int 4, .int 100, .ref b4, .ref b5])), (b4, .inl (G.2 1, 400, .inr (.inl e2))), (b5, .inl (G.2 0, 256, .inl e3)), (b1, .inr (6, [.int b8, .int 4, .int 10, .ref b9, .ref b10])), (b9, .inl (G.2 1, 40, .inr (.inl b11)))] ∧ (zI e0 (-1) 99) ∧ (zI e1 0 100) ∧ (zqa qB e2) ∧ (zR e3 (-1) 99) ∧ (b3.toInt ≤ e1.toInt)) A) ([.ref b0, .ref b1, .int b2] : List Value).toArray s m_s4_Sets_indexOf.cells m_s4_Sets_indexOf.slots A) (F0 m 9 ls []) by
    exact key 257 (0) _ _ _ (zI.wk (l' := 0) (h' := 256) zc_0 (by decide)) (zm_upi (zI.wk (l' := 0) (h' := 256) zc_0 (by decide)) (by decide)) hP hD hS (lv_sub hl [0, 1, 2, 3, 4] rfl)
  intro k_31
  induction k_31 with
  | zero =>
    intro y_32 H locs ls hy_32 hmk_31 hP hD hS hl
    exact (zm_up0 hy_32 hmk_31).elim
  | succ k_31 ihk_31 =>
    intro y_32 H locs ls hy_32 hmk_31 hP hD hS hl
    refine lv_iload hx hb d_Sets_indexOf_9 (lv_at hl 0 rfl) ?_
    refine lv_aload_n hx hb d_Sets_indexOf_11 rfl (lv_at hl 2 rfl) ?_
    refine va_get (D := G.1) (ci := 6) (v := .ref b5) (C := R_Sets) (T := F_Sets) (N := 5) hx hb hts i_Sets hown hK hP 0 rfl rfl 4 (by decide) (hts _ q245) (fun _ h9 => h9) rfl d_Sets_indexOf_12 ?_
    refine va_alen hx hb hK hP 2 0 rfl rfl (v := 256) (show Int32.ofNat 256 = 256 from by decide +kernel) d_Sets_indexOf_15 ?_
    refine lv_icmp_ge (tgt := 77) hx hb d_Sets_indexOf_16 (by decide) (fun hc_33 => ?_) (fun hc_33 => ?_)
    · have _nhc_33 := hc_33
      have ni_34 := (fa_le _ _).mp hc_33
      rw [li_256] at ni_34
      have hv_35 : zI y_32 256 256 := zI.le_r zc_256 hy_32 hc_33 (by decide)
      refine lv_iconst (v := (-1)) hx hb d_Sets_indexOf_77 (by decide) ?_
      exact z_iret hx hb hr hlocks hP hD hS (Nat.le_of_ble_eq_true rfl) (Nat.le_of_ble_eq_true rfl) d_Sets_indexOf_78 ⟨(-1), b3, b6, b7, rfl, rfl, (zI.wk (l' := (-1)) (h' := 99) zc_m1 (by decide)), hb3, hb6, hb7, (by omega)⟩
    · have _nhc_33 := hc_33
      have ni_36 := (fa_lt _ _).mp (zi_nle hc_33)
      rw [li_256] at ni_36
      have hv_37 : zI y_32 0 255 := zI.lt_l hy_32 zc_256 (zi_nle hc_33) (by decide)
      refine lv_iload_n hx hb d_Sets_indexOf_19 rfl (lv_at hl 1 rfl) ?_
      refine lv_iload hx hb d_Sets_indexOf_20 (lv_at hl 0 rfl) ?_
      refine lv_iadd hx hb d_Sets_indexOf_22 ?_
      refine lv_topi (fun v_38 ev_38 => ?_)
      refine lv_aload_n hx hb d_Sets_indexOf_23 rfl (lv_at hl 2 rfl) ?_
      refine va_get (D := G.1) (ci := 6) (v := .ref b5) (C := R_Sets) (T := F_Sets) (N := 5) hx hb hts i_Sets hown hK hP 0 rfl rfl 4 (by decide) (hts _ q245) (fun _ h9 => h9) rfl d_Sets_indexOf_24 ?_
      refine va_alen hx hb hK hP 2 0 rfl rfl (v := 256) (show Int32.ofNat 256 = 256 from by decide +kernel) d_Sets_indexOf_27 ?_
      refine lv_iconst (v := 1) hx hb d_Sets_indexOf_28 (by decide) ?_
      refine lv_isub hx hb d_Sets_indexOf_29 ?_
      refine z_topi (y := 255) (by decide +kernel) ?_
      refine lv_iand hx hb d_Sets_indexOf_30 ?_
      refine lv_topi (fun v_39 ev_39 => ?_)
      have hv_39 := zI_and (k := 8) (h := 255) (by decide +kernel) ev_39 (by decide)
      refine lv_istore (lv' := [(5, .int v_39), (4, .int y_32), (3, .int x_2), (0, .ref b0), (1, .ref b1), (2, .int b2)]) hx hb d_Sets_indexOf_31 hl (by decide) rfl (fun ls hl => ?_)
      refine lv_aload_n hx hb d_Sets_indexOf_33 rfl (lv_at hl 3 rfl) ?_
      refine va_get (D := G.1) (ci := 6) (v := .ref b5) (C := R_Sets) (T := F_Sets) (N := 5) hx hb hts i_Sets hown hK hP 0 rfl rfl 4 (by decide) (hts _ q245) (fun _ h9 => h9) rfl d_Sets_indexOf_34 ?_
      refine lv_iload hx hb d_Sets_indexOf_37 (lv_at hl 0 rfl) ?_
      refine va_iald hx hb hK hP 2 0 rfl rfl (zI.inn hv_39 (by decide)) d_Sets_indexOf_39 ?_
      refine lv_topi (fun v_40 ev_40 => ?_)
      have hv_40 : zI v_40 (-1) 99 := (hb7 _).eq ev_40
      refine lv_istore (lv' := [(6, .int v_40), (5, .int v_39), (4, .int y_32), (3, .int x_2), (0, .ref b0), (1, .ref b1), (2, .int b2)]) hx hb d_Sets_indexOf_40 hl (by decide) rfl (fun ls hl => ?_)
      refine lv_iload hx hb d_Sets_indexOf_42 (lv_at hl 0 rfl) ?_
      refine lv_iconst (v := (-1)) hx hb d_Sets_indexOf_44 (by decide) ?_
      refine lv_icmp_ne (tgt := 57) hx hb d_Sets_indexOf_45 (by decide) (fun hc_41 => ?_) (fun hc_41 => ?_)
      · have _nhc_41 := hc_41
        have ni_42 : ¬ (v_40 : Int32).toInt = ((-1) : Int32).toInt := fun z => hc_41 ((fa_eq _ _).mpr z)
        simp only [li_m1] at ni_42
        have hv_43 : zI v_40 0 99 := zI.ne_lo hv_40 zc_m1 hc_41 (by decide)
        refine lv_aload_n hx hb d_Sets_indexOf_57 rfl (lv_at hl 4 rfl) ?_
        refine lv_iload hx hb d_Sets_indexOf_58 (lv_at hl 0 rfl) ?_
        refine lv_aload_n hx hb d_Sets_indexOf_60 rfl (lv_at hl 5 rfl) ?_
        refine lv_iload_n hx hb d_Sets_indexOf_61 rfl (lv_at hl 6 rfl) ?_
        refine z_callV (index := 55) (As := [.int v_40, .ref b1, .int b2]) (rest := []) (wr := [(b5, .inl (G.2 0, 256, .inl b7))]) Z (s4_Sets_isLike l G (b0) (v_40) (b1) (b2) (b3) (b4) (b5) (b6) (b8) (b9) (b10) (b11) hv_43 hb2 hb3 hb8 hb6 hb11) hl.1 q844 q846 qs25 q7 q847 ⟨by decide, by decide, by show _ = some 3; decide +kernel⟩ ⟨Nat.le_of_ble_eq_true rfl, Nat.le_of_ble_eq_true rfl⟩ ⟨Nat.le_of_ble_eq_true rfl, Nat.le_of_ble_eq_true rfl⟩ rfl (Nat.le_of_ble_eq_true rfl) d_Sets_indexOf_62 hP hD hS hA 0 6 rfl rfl rfl [0, 1, 3, 4] [2] rfl rfl rfl rfl (by decide) (fun v w1 H locs hw_44 hP hD hS => ?_)
        obtain ⟨x_45, rfl, rfl, hx_45⟩ := hw_44
        have hP : va_P G.1 classes [(b5, .inl (G.2 0, 256, .inl b7)), (b0, .inr (6, [.int b3, .int 4, .int 100, .ref b4, .ref b5])), (b4, .inl (G.2 1, 400, .inr (.inl b6))), (b1, .inr (6, [.int b8, .int 4, .int 10, .ref b9, .ref b10])), (b9, .inl (G.2 1, 40, .inr (.inl b11)))] H := hP
        have hD := z_tie hP hD rfl
        refine W.widen (k := 0) (n := 0) (Nat.le_of_ble_eq_true rfl) (Nat.le_of_ble_eq_true rfl) ?_
        refine lv_if_eq (tgt := 71) hx hb d_Sets_indexOf_65 (by decide) (fun hc_46 => ?_) (fun hc_46 => ?_)
        · have _nhc_46 := hc_46
          have ni_47 := (fa_eq _ _).mp hc_46
          rw [li_0] at ni_47
          have hv_48 : zI x_45 0 0 := zI.eq_l hx_45 zc_0 hc_46
          obtain ⟨v_49, ev_49⟩ : ∃ z : Int32, z = y_32 + 1 := ⟨_, rfl⟩
          obtain ⟨qv_49, hv_49⟩ := zI_add (l := 1) (h := 256) hv_37 zc_1 ev_49 (by decide)
          rw [li_1] at qv_49
          refine lv_iinc (v := v_49) (lv' := [(4, .int v_49), (6, .int v_40), (5, .int v_39), (3, .int x_2), (0, .ref b0), (1, .ref b1), (2, .int b2)]) hx hb d_Sets_indexOf_71 hl (k := 2) rfl (by rw [ev_49]; rfl) (by decide) rfl (fun ls hl => ?_)
          refine lv_goto (tgt := 9) hx hb d_Sets_indexOf_74 (by decide) ?_
          exact ihk_31 (v_49) _ _ _ (zI.wk (l' := 0) (h' := 256) hv_49 (by decide)) (zm_up qv_49 hmk_31 (by decide)) (hP.sub [1, 2, 0, 3, 4] rfl) (hD.sub [1, 2, 0, 3, 4] (by decide) rfl) hS (lv_sub hl [0, 3, 4, 5, 6] rfl)
        · have _nhc_46 := hc_46
          have ni_50 : ¬ (x_45 : Int32).toInt = (0 : Int32).toInt := fun z => hc_46 ((fa_eq _ _).mpr z)
          simp only [li_0] at ni_50
          have hv_51 : zI x_45 1 1 := zI.ne_lo hx_45 zc_0 hc_46 (by decide)
          refine lv_iload hx hb d_Sets_indexOf_68 (lv_at hl 0 rfl) ?_
          exact z_iret hx hb hr hlocks (hP.sub [1, 2, 0, 3, 4] rfl) (hD.sub [1, 2, 0, 3, 4] (by decide) rfl) hS (Nat.le_of_ble_eq_true rfl) (Nat.le_of_ble_eq_true rfl) d_Sets_indexOf_70 ⟨v_40, b3, b6, b7, rfl, rfl, (zI.wk (l' := (-1)) (h' := 99) hv_43 (by decide)), hb3, hb6, hb7, (by omega)⟩
      · have _nhc_41 := hc_41
        have ni_52 := (fa_eq _ _).mp hc_41
        rw [li_m1] at ni_52
        have hv_53 : zI v_40 (-1) (-1) := zI.eq_l hv_40 zc_m1 hc_41
        refine lv_aload_n hx hb d_Sets_indexOf_48 rfl (lv_at hl 4 rfl) ?_
        refine lv_aload_n hx hb d_Sets_indexOf_49 rfl (lv_at hl 5 rfl) ?_
        refine lv_iload_n hx hb d_Sets_indexOf_50 rfl (lv_at hl 6 rfl) ?_
        refine lv_iload hx hb d_Sets_indexOf_51 (lv_at hl 1 rfl) ?_
        refine z_callV (index := 51) (As := [.ref b1, .int b2, .int v_39]) (rest := []) (wr := []) Z (s4_Sets_append l G (b0) (b1) (b2) (v_39) (b3) (b4) (b5) (b6) (b7) (b8) (b9) (b10) (b11) hb2 hv_39 hb3 hb8 hb6 hb7 hb11) hl.1 q839 q841 qs24 q7 q842 ⟨by decide, by decide, by show _ = some 3; decide +kernel⟩ ⟨Nat.le_of_ble_eq_true rfl, Nat.le_of_ble_eq_true rfl⟩ ⟨Nat.le_of_ble_eq_true rfl, Nat.le_of_ble_eq_true rfl⟩ rfl (Nat.le_of_ble_eq_true rfl) d_Sets_indexOf_53 hP hD hS hA 0 6 rfl rfl rfl [0, 1, 2, 3, 4] [] rfl rfl rfl rfl (by decide) (fun v w1 H locs hw_54 hP hD hS => ?_)
        obtain ⟨x_55, x_56, f_57, f_58, rfl, rfl, hx_55, hx_56, hf_57, hf_58, hfx_59⟩ := hw_54
        have hP : va_P G.1 classes [(b0, .inr (6, [.int x_56, .int 4, .int 100, .ref b4, .ref b5])), (b4, .inl (G.2 1, 400, .inr (.inl f_57))), (b5, .inl (G.2 0, 256, .inl f_58)), (b1, .inr (6, [.int b8, .int 4, .int 10, .ref b9, .ref b10])), (b9, .inl (G.2 1, 40, .inr (.inl b11)))] H := hP
        have hD := z_tie hP hD rfl
        refine W.widen (k := 0) (n := 0) (Nat.le_of_ble_eq_true rfl) (Nat.le_of_ble_eq_true rfl) ?_
        exact z_iret hx hb hr hlocks hP hD hS (Nat.le_of_ble_eq_true rfl) (Nat.le_of_ble_eq_true rfl) d_Sets_indexOf_56 ⟨x_55, x_56, f_57, f_58, rfl, rfl, hx_55, hx_56, hf_57, hf_58, (by omega)⟩
theorem d_Words_takenNext_82 : decode prog_12_method_5_code 82 = .ok (.ireturn, 1) := by decide +kernel
abbrev m_s6_Sets_longAt : Room := { frames := 0, cells := 0, slots := 0, locals := 0 }
set_option maxHeartbeats 4000000 in
set_option maxRecDepth 100000 in
theorem s6_Sets_longAt (l : Launch) (G : zG) (b0 : Nat) (b1 : Int32) (b2 : Int32) (b3 : Int32) (b4 : Int32) (b5 : Nat) (b6 : Nat) (b7 : Nat → Int64) (hb1 : zI b1 0 99) (hb2 : zI b2 0 0) (hb3 : zI b3 0 3) (hb4 : zI b4 0 100) (hb7 : zqa qB b7) : zM l G y_Sets_longAt prog_8_method_5_code 4 (Option.some Jvm.ClassFile.FieldType.long) m_s6_Sets_longAt [.ref b0, .int b1, .int b2, .int b3] [(b0, .inr (6, [.int b4, .int 4, .int 100, .ref b5, .ref b6])), (b5, .inl (G.2 1, 400, .inr (.inl b7)))] (fun v w => ∃ (e0 : Int64), v = some (.long e0) ∧ w = [(b0, .inr (6, [.int b4, .int 4, .int 100, .ref b5, .ref b6])), (b5, .inl (G.2 1, 400, .inr (.inl b7)))] ∧ ((b3 : Int32).toInt = 3 → (e0 : Int64).toBitVec.toNat < 2 ^ 49)) := by
  refine z_start (by decide +kernel) (Nat.le_of_ble_eq_true rfl) ?_
  intro p e s m below meth c A Z hr hnm hA hP hD hS ls hl
  have Z : zC p s m _ meth c prog_8_method_5_code 4 "TraceMachines$StateSets" G := Z
  obtain ⟨hx, hb, hml, hown, hts, hK, hN, hlocks⟩ := id Z
  have hl : lv_has ls 4 [(0, .ref b0), (1, .int b1), (2, .int b2), (3, .int b3)] := hl
  refine lv_aload_n hx hb d_Sets_longAt_0 rfl (lv_at hl 0 rfl) ?_
  refine va_get (D := G.1) (ci := 6) (v := .ref b5) (C := R_Sets) (T := F_Sets) (N := 5) hx hb hts i_Sets hown hK hP 0 rfl rfl 3 (by decide) (hts _ q244) (fun _ h9 => h9) rfl d_Sets_longAt_1 ?_
  refine lv_iload_n hx hb d_Sets_longAt_4 rfl (lv_at hl 1 rfl) ?_
  refine lv_aload_n hx hb d_Sets_longAt_5 rfl (lv_at hl 0 rfl) ?_
  refine va_get (D := G.1) (ci := 6) (v := .int 4) (C := R_Sets) (T := F_Sets) (N := 5) hx hb hts i_Sets hown hK hP 0 rfl rfl 1 (by decide) (hts _ q242) (fun _ h9 => h9) rfl d_Sets_longAt_6 ?_
  refine lv_imul hx hb d_Sets_longAt_9 ?_
  refine lv_topi (fun v_1 ev_1 => ?_)
  obtain ⟨qv_1, hv_1⟩ := zI_mul (l := 0) (h := 396) hb1 zc_4 ev_1 (by decide)
  rw [li_4] at qv_1
  refine lv_iload_n hx hb d_Sets_longAt_10 rfl (lv_at hl 2 rfl) ?_
  refine lv_iconst (v := 4) hx hb d_Sets_longAt_11 (by decide) ?_
  refine lv_imul hx hb d_Sets_longAt_12 ?_
  refine lv_topi (fun v_2 ev_2 => ?_)
  obtain ⟨qv_2, hv_2⟩ := zI_mul (l := 0) (h := 0) hb2 zc_4 ev_2 (by decide)
  rw [li_4] at qv_2
  refine lv_iadd hx hb d_Sets_longAt_13 ?_
  refine lv_topi (fun v_3 ev_3 => ?_)
  obtain ⟨qv_3, hv_3⟩ := zI_add (l := 0) (h := 396) hv_1 hv_2 ev_3 (by decide)
  refine lv_iload_n hx hb d_Sets_longAt_14 rfl (lv_at hl 3 rfl) ?_
  refine lv_iadd hx hb d_Sets_longAt_15 ?_
  refine lv_topi (fun v_4 ev_4 => ?_)
  obtain ⟨qv_4, hv_4⟩ := zI_add (l := 0) (h := 399) hv_3 hb3 ev_4 (by decide)
  refine va_lald hx hb hK hP 1 1 rfl rfl (zI.inn hv_4 (by decide)) d_Sets_longAt_16 ?_
  refine lv_topl (fun v_5 ev_5 => ?_)
  have bv_5 := zQB.ld hb7 hv_4 ev_5 (by decide)
  exact z_lret hx hb hr hlocks hP hD hS (Nat.le_of_ble_eq_true rfl) (Nat.le_of_ble_eq_true rfl) d_Sets_longAt_17 ⟨v_5, rfl, rfl, (fun h9 => bv_5 (by omega))⟩
abbrev m_s4_Machine_fan : Room := { frames := 2, cells := 0, slots := 0, locals := 42 }
set_option maxHeartbeats 4000000 in
set_option maxRecDepth 100000 in
theorem s4_Machine_fan (l : Launch) (G : zG) (b0 : Nat) (b1 : Nat) (b2 : Int32) (b3 : Int32) (b4 : Nat) (b5 : Int32) (b6 : Int32) (b7 : Nat) (b8 : Nat) (b9 : Nat) (b10 : Nat) (b11 : Nat) (b12 : Nat) (b13 : Int32) (b14 : Nat) (b15 : Nat) (b16 : Nat) (b17 : Nat) (b18 : Nat) (b19 : Nat) (b20 : Nat → Int32) (b21 : Nat → Int32) (b22 : Int32) (b23 : Nat) (b24 : Nat) (b25 : Nat → Int64) (b26 : Int32) (b27 : Nat) (b28 : Nat) (b29 : Nat → Int64) (hb2 : zI b2 0 99) (hb3 : zI b3 0 0) (hb5 : zI b5 0 1) (hb6 : zI b6 0 241) (hb13 : zI b13 0 240) (hb22 : zI b22 0 100) (hb26 : zI b26 0 10) (hb20 : zK b20) (hb21 : zR b21 0 240) (hb25 : zqa qB b25) (hb29 : zqa qB b29) : zM l G y_Machine_fan prog_4_method_17_code 10 (Option.none : Option Jvm.ClassFile.FieldType) m_s4_Machine_fan [.ref b0, .ref b1, .int b2, .int b3, .ref b4] [(b0, .inr (5, [.int b5, .int b6, .ref b7, .ref b8, .ref b9, .ref b10, .ref b11, .ref b12, .int b13, .ref b14, .ref b15, .ref b16, .ref b17, .ref b18, .ref b19])), (b14, .inl (G.2 0, 240, .inl b20)), (b18, .inl (G.2 0, 242, .inl b21)), (b1, .inr (6, [.int b22, .int 4, .int 100, .ref b23, .ref b24])), (b23, .inl (G.2 1, 400, .inr (.inl b25))), (b4, .inr (6, [.int b26, .int 4, .int 10, .ref b27, .ref b28])), (b27, .inl (G.2 1, 40, .inr (.inl b29)))] (fun v w => ∃ (e0 : Nat → Int64), v = none ∧ w = [(b0, .inr (5, [.int b5, .int b6, .ref b7, .ref b8, .ref b9, .ref b10, .ref b11, .ref b12, .int b13, .ref b14, .ref b15, .ref b16, .ref b17, .ref b18, .ref b19])), (b14, .inl (G.2 0, 240, .inl b20)), (b18, .inl (G.2 0, 242, .inl b21)), (b1, .inr (6, [.int b22, .int 4, .int 100, .ref b23, .ref b24])), (b23, .inl (G.2 1, 400, .inr (.inl b25))), (b4, .inr (6, [.int b26, .int 4, .int 10, .ref b27, .ref b28])), (b27, .inl (G.2 1, 40, .inr (.inl e0)))] ∧ (zqa qB e0)) := by
  refine z_start (by decide +kernel) (Nat.le_of_ble_eq_true rfl) ?_
  intro p e s m below meth c A Z hr hnm hA hP hD hS ls hl
  have Z : zC p s m _ meth c prog_4_method_17_code 10 "TraceMachines$Machine" G := Z
  obtain ⟨hx, hb, hml, hown, hts, hK, hN, hlocks⟩ := id Z
  have hl : lv_has ls 10 [(0, .ref b0), (1, .ref b1), (2, .int b2), (3, .int b3), (4, .ref b4)] := hl
  refine lv_iconst (v := 0) hx hb d_Machine_fan_0 (by decide) ?_
  refine lv_istore (lv' := [(5, .int 0), (0, .ref b0), (1, .ref b1), (2, .int b2), (3, .int b3), (4, .ref b4)]) hx hb d_Machine_fan_1 hl (by decide) rfl (fun ls hl => ?_)
  suffices key : ∀ (k_113 : Nat) (y_114 : Int32) (y_115 : Nat → Int64) (H : Heap) (locs : List Loc) (ls : Array Slot), (zI y_114 0 4) → (zqa qB y_115) → (4 : Int) - y_114.toInt < (k_113 : Int) → va_P G.1 classes [(b0, .inr (5, [.int b5, .int b6, .ref b7, .ref b8, .ref b9, .ref b10, .ref b11, .ref b12, .int b13, .ref b14, .ref b15, .ref b16, .ref b17, .ref b18, .ref b19])), (b14, .inl (G.2 0, 240, .inl b20)), (b18, .inl (G.2 0, 242, .inl b21)), (b1, .inr (6, [.int b22, .int 4, .int 100, .ref b23, .ref b24])), (b23, .inl (G.2 1, 400, .inr (.inl b25))), (b4, .inr (6, [.int b26, .int 4, .int 10, .ref b27, .ref b28])), (b27, .inl (G.2 1, 40, .inr (.inl y_115)))] H → va_D A [(b0, .inr (5, [.int b5, .int b6, .ref b7, .ref b8, .ref b9, .ref b10, .ref b11, .ref b12, .int b13, .ref b14, .ref b15, .ref b16, .ref b17, .ref b18, .ref b19])), (b14, .inl (G.2 0, 240, .inl b20)), (b18, .inl (G.2 0, 242, .inl b21)), (b1, .inr (6, [.int b22, .int 4, .int 100, .ref b23, .ref b24])), (b23, .inl (G.2 1, 400, .inr (.inl b25))), (b4, .inr (6, [.int b26, .int 4, .int 10, .ref b27, .ref b28])), (b27, .inl (G.2 1, 40, .inr (.inl y_115)))] → va_S A s.heap H locs → lv_has ls 10 [(5, .int y_114), (0, .ref b0), (1, .ref b1), (2, .int b2), (3, .int b3), (4, .ref b4)] → W p l e m_s4_Machine_fan s m ([.ref b0, .ref b1, .int b2, .int b3, .ref b4] : List Value).toArray below meth c H locs 0 0 (MQ below (zQ G (fun v w => ∃ (e0 : Nat → Int64), v = none ∧ w = [(b0, .inr (5, [.int b5, .int b6, .ref b7, .ref b8, .ref b9, .ref b10, .ref b11, .ref b12, .int b13, .ref b14, .ref b15, .ref b16, .ref b17, .ref b18, .ref b19])), (b14, .inl (G.2 0, 240, .inl b20)), (b18, .inl (G.2 0, 242, .inl b21)), (b1, .inr (6, [.int b22, .int 4, .int 100, .ref b23, .ref b24])), (b23, .inl (G.2 1, 400, .inr (.inl b25))), (b4, .inr (6, [.int b26, .int 4, .int 10, .ref b27, .ref b28])), (b27, .inl (G.2 1, 40, .inr (.inl e0)))] ∧ (zqa qB e0)) A) ([.ref b0, .ref b1, .int b2, .int b3, .ref b4] : List Value).toArray s m_s4_Machine_fan.cells m_s4_Machine_fan.slots A) (F0 m 3 ls []) by
    exact key 5 (0) (b29) _ _ _ (zI.wk (l' := 0) (h' := 4) zc_0 (by decide)) hb29 (zm_upi (zI.wk (l' := 0) (h' := 4) zc_0 (by decide)) (by decide)) hP hD hS (lv_sub hl [0, 1, 2, 3, 4, 5] rfl)
  intro k_113
  induction k_113 with
  | zero =>
    intro y_114 y_115 H locs ls hy_114 hy_115 hmk_113 hP hD hS hl
    exact (zm_up0 hy_114 hmk_113).elim
  | succ k_113 ihk_113 =>
    intro y_114 y_115 H locs ls hy_114 hy_115 hmk_113 hP hD hS hl
    refine lv_iload hx hb d_Machine_fan_3 (lv_at hl 0 rfl) ?_
    refine lv_iconst (v := 4) hx hb d_Machine_fan_5 (by decide) ?_
    refine lv_icmp_ge (tgt := 104) hx hb d_Machine_fan_6 (by decide) (fun hc_116 => ?_) (fun hc_116 => ?_)
    · have _nhc_116 := hc_116
      have ni_117 := (fa_le _ _).mp hc_116
      rw [li_4] at ni_117
      have hv_118 : zI y_114 4 4 := zI.le_r zc_4 hy_114 hc_116 (by decide)
      exact z_vret hx hb hr hlocks hP hD hS (Nat.le_of_ble_eq_true rfl) (Nat.le_of_ble_eq_true rfl) d_Machine_fan_104 ⟨y_115, rfl, rfl, hy_115⟩
    · have _nhc_116 := hc_116
      have ni_119 := (fa_lt _ _).mp (zi_nle hc_116)
      rw [li_4] at ni_119
      have hv_120 : zI y_114 0 3 := zI.lt_l hy_114 zc_4 (zi_nle hc_116) (by decide)
      refine lv_aload_n hx hb d_Machine_fan_9 rfl (lv_at hl 2 rfl) ?_
      refine lv_iload_n hx hb d_Machine_fan_10 rfl (lv_at hl 3 rfl) ?_
      refine lv_iload_n hx hb d_Machine_fan_11 rfl (lv_at hl 4 rfl) ?_
      refine lv_iload hx hb d_Machine_fan_12 (lv_at hl 0 rfl) ?_
      refine z_callV (index := 166) (As := [.int b2, .int b3, .int y_114]) (rest := []) (wr := [(b0, .inr (5, [.int b5, .int b6, .ref b7, .ref b8, .ref b9, .ref b10, .ref b11, .ref b12, .int b13, .ref b14, .ref b15, .ref b16, .ref b17, .ref b18, .ref b19])), (b14, .inl (G.2 0, 240, .inl b20)), (b18, .inl (G.2 0, 242, .inl b21)), (b4, .inr (6, [.int b26, .int 4, .int 10, .ref b27, .ref b28])), (b27, .inl (G.2 1, 40, .inr (.inl y_115)))]) Z (s6_Sets_longAt l G (b1) (b2) (b3) (y_114) (b22) (b23) (b24) (b25) hb2 hb3 hv_120 hb22 hb25) hl.1 q719 q720 q721 q7 q722 ⟨by decide, by decide, by show _ = some 3; decide +kernel⟩ ⟨Nat.le_of_ble_eq_true rfl, Nat.le_of_ble_eq_true rfl⟩ ⟨Nat.le_of_ble_eq_true rfl, Nat.le_of_ble_eq_true rfl⟩ rfl (Nat.le_of_ble_eq_true rfl) d_Machine_fan_14 hP hD hS hA 3 6 rfl rfl rfl [3, 4] [0, 1, 2, 5, 6] rfl rfl rfl rfl (by decide) (fun v w1 H locs hw_121 hP hD hS => ?_)
      obtain ⟨x_122, rfl, rfl, hfx_123⟩ := hw_121
      have hP : va_P G.1 classes [(b0, .inr (5, [.int b5, .int b6, .ref b7, .ref b8, .ref b9, .ref b10, .ref b11, .ref b12, .int b13, .ref b14, .ref b15, .ref b16, .ref b17, .ref b18, .ref b19])), (b14, .inl (G.2 0, 240, .inl b20)), (b18, .inl (G.2 0, 242, .inl b21)), (b4, .inr (6, [.int b26, .int 4, .int 10, .ref b27, .ref b28])), (b27, .inl (G.2 1, 40, .inr (.inl y_115))), (b1, .inr (6, [.int b22, .int 4, .int 100, .ref b23, .ref b24])), (b23, .inl (G.2 1, 400, .inr (.inl b25)))] H := hP
      have hD := z_tie hP hD rfl
      refine W.widen (k := 0) (n := 0) (Nat.le_of_ble_eq_true rfl) (Nat.le_of_ble_eq_true rfl) ?_
      refine lv_lstore (lv' := [(6, .long x_122), (5, .int y_114), (0, .ref b0), (1, .ref b1), (2, .int b2), (3, .int b3), (4, .ref b4)]) hx hb d_Machine_fan_17 hl (by decide) rfl (fun ls hl => ?_)
      suffices key : ∀ (k_175 : Nat) (y_176 : Int64) (y_177 : Nat → Int64) (H : Heap) (locs : List Loc) (ls : Array Slot), (zqa qB y_177) → ((y_114 : Int32).toInt = 3 → (y_176 : Int64).toBitVec.toNat < 2 ^ 49) → (y_176).toBitVec.toNat < k_175 → va_P G.1 classes [(b0, .inr (5, [.int b5, .int b6, .ref b7, .ref b8, .ref b9, .ref b10, .ref b11, .ref b12, .int b13, .ref b14, .ref b15, .ref b16, .ref b17, .ref b18, .ref b19])), (b14, .inl (G.2 0, 240, .inl b20)), (b18, .inl (G.2 0, 242, .inl b21)), (b4, .inr (6, [.int b26, .int 4, .int 10, .ref b27, .ref b28])), (b27, .inl (G.2 1, 40, .inr (.inl y_177))), (b1, .inr (6, [.int b22, .int 4, .int 100, .ref b23, .ref b24])), (b23, .inl (G.2 1, 400, .inr (.inl b25)))] H → va_D A [(b0, .inr (5, [.int b5, .int b6, .ref b7, .ref b8, .ref b9, .ref b10, .ref b11, .ref b12, .int b13, .ref b14, .ref b15, .ref b16, .ref b17, .ref b18, .ref b19])), (b14, .inl (G.2 0, 240, .inl b20)), (b18, .inl (G.2 0, 242, .inl b21)), (b4, .inr (6, [.int b26, .int 4, .int 10, .ref b27, .ref b28])), (b27, .inl (G.2 1, 40, .inr (.inl y_177))), (b1, .inr (6, [.int b22, .int 4, .int 100, .ref b23, .ref b24])), (b23, .inl (G.2 1, 400, .inr (.inl b25)))] → va_S A s.heap H locs → lv_has ls 10 [(6, .long y_176), (5, .int y_114), (0, .ref b0), (1, .ref b1), (2, .int b2), (3, .int b3), (4, .ref b4)] → W p l e m_s4_Machine_fan s m ([.ref b0, .ref b1, .int b2, .int b3, .ref b4] : List Value).toArray below meth c H locs 0 0 (MQ below (zQ G (fun v w => ∃ (e0 : Nat → Int64), v = none ∧ w = [(b0, .inr (5, [.int b5, .int b6, .ref b7, .ref b8, .ref b9, .ref b10, .ref b11, .ref b12, .int b13, .ref b14, .ref b15, .ref b16, .ref b17, .ref b18, .ref b19])), (b14, .inl (G.2 0, 240, .inl b20)), (b18, .inl (G.2 0, 242, .inl b21)), (b1, .inr (6, [.int b22, .int 4, .int 100, .ref b23, .ref b24])), (b23, .inl (G.2 1, 400, .inr (.inl b25))), (b4, .inr (6, [.int b26, .int 4, .int 10, .ref b27, .ref b28])), (b27, .inl (G.2 1, 40, .inr (.inl e0)))] ∧ (zqa qB e0)) A) ([.ref b0, .ref b1, .int b2, .int b3, .ref b4] : List Value).toArray s m_s4_Machine_fan.cells m_s4_Machine_fan.slots A) (F0 m 19 ls []) by
        exact key 18446744073709551616 (x_122) (y_115) _ _ _ hy_115 hfx_123 (Nat.lt_of_lt_of_le (x_122).toBitVec.isLt (by decide)) hP hD hS (lv_sub hl [0, 1, 2, 3, 4, 5, 6] rfl)
      intro k_175
      induction k_175 with
      | zero =>
        intro y_176 y_177 H locs ls hy_177 hli_178 hmk_175 hP hD hS hl
        exfalso; omega
      | succ k_175 ihk_175 =>
        intro y_176 y_177 H locs ls hy_177 hli_178 hmk_175 hP hD hS hl
        refine lv_lload hx hb d_Machine_fan_19 (lv_at hl 0 rfl) ?_
        refine lv_lconst (v := 0) hx hb d_Machine_fan_21 (by decide) ?_
        refine W.lcmp hx hb d_Machine_fan_22 ?_
        refine lv_topi (fun v_179 ev_179 => ?_)
        refine lv_if_eq (tgt := 98) hx hb d_Machine_fan_23 (by decide) (fun hc_180 => ?_) (fun hc_180 => ?_)
        · have ni_181 := hc_180
          rw [ev_179] at ni_181
          simp only [lg_cmp_lt, lg_cmp_le, lg_cmp_gt, lg_cmp_ge, lg_cmp_eq, fa_lt64, fa_le64, fa_eq64, Int32.toInt_toInt64, ll_0] at ni_181
          have hv_182 : zJ y_176 0 0 := by have _a := ni_181; have _b := (zJ_all y_176); have _c := zcl_0; simp only [Int32.toInt_toInt64] at *; exact ⟨by omega, by omega⟩
          obtain ⟨v_183, ev_183⟩ : ∃ z : Int32, z = y_114 + 1 := ⟨_, rfl⟩
          obtain ⟨qv_183, hv_183⟩ := zI_add (l := 1) (h := 4) hv_120 zc_1 ev_183 (by decide)
          rw [li_1] at qv_183
          refine lv_iinc (v := v_183) (lv' := [(5, .int v_183), (6, .long y_176), (0, .ref b0), (1, .ref b1), (2, .int b2), (3, .int b3), (4, .ref b4)]) hx hb d_Machine_fan_98 hl (k := 1) rfl (by rw [ev_183]; rfl) (by decide) rfl (fun ls hl => ?_)
          refine lv_goto (tgt := 3) hx hb d_Machine_fan_101 (by decide) ?_
          exact ihk_113 (v_183) (y_177) _ _ _ (zI.wk (l' := 0) (h' := 4) hv_183 (by decide)) hy_177 (zm_up qv_183 hmk_113 (by decide)) (hP.sub [0, 1, 2, 5, 6, 3, 4] rfl) (hD.sub [0, 1, 2, 5, 6, 3, 4] (by decide) rfl) hS (lv_sub hl [0, 2, 3, 4, 5, 6] rfl)
        · have ni_184 := hc_180
          rw [ev_179] at ni_184
          simp only [lg_cmp_lt, lg_cmp_le, lg_cmp_gt, lg_cmp_ge, lg_cmp_eq, fa_lt64, fa_le64, fa_eq64, Int32.toInt_toInt64, ll_0] at ni_184
          refine lv_bipush (v := 64) hx hb d_Machine_fan_26 (by decide) ?_
          refine lv_iload hx hb d_Machine_fan_28 (lv_at hl 1 rfl) ?_
          refine lv_imul hx hb d_Machine_fan_30 ?_
          refine lv_topi (fun v_185 ev_185 => ?_)
          obtain ⟨qv_185, hv_185⟩ := zI_mul (l := 0) (h := 192) zc_64 hv_120 ev_185 (by decide)
          rw [li_64] at qv_185
          refine lv_lload hx hb d_Machine_fan_31 (lv_at hl 0 rfl) ?_
          refine z_callS (index := 170) (As := [.long y_176]) (rest := [.int v_185]) (wr := [(b0, .inr (5, [.int b5, .int b6, .ref b7, .ref b8, .ref b9, .ref b10, .ref b11, .ref b12, .int b13, .ref b14, .ref b15, .ref b16, .ref b17, .ref b18, .ref b19])), (b14, .inl (G.2 0, 240, .inl b20)), (b18, .inl (G.2 0, 242, .inl b21)), (b4, .inr (6, [.int b26, .int 4, .int 10, .ref b27, .ref b28])), (b27, .inl (G.2 1, 40, .inr (.inl y_177))), (b1, .inr (6, [.int b22, .int 4, .int 100, .ref b23, .ref b24])), (b23, .inl (G.2 1, 400, .inr (.inl b25)))]) Z (s2_Sets_lowest l G (y_176) (by omega)) hl.1 q723 q724 q7 q725 ⟨by decide, by decide, by show _ = some 1; decide +kernel⟩ ⟨Nat.le_of_ble_eq_true rfl, Nat.le_of_ble_eq_true rfl⟩ ⟨Nat.le_of_ble_eq_true rfl, Nat.le_of_ble_eq_true rfl⟩ rfl (Nat.le_of_ble_eq_true rfl) d_Machine_fan_33 hP hD hS hA [] [0, 1, 2, 3, 4, 5, 6] rfl rfl rfl rfl (by decide) (fun v w1 H locs hw_186 hP hD hS => ?_)
          obtain ⟨x_187, rfl, rfl, hx_187, hfx_188⟩ := hw_186
          have hP : va_P G.1 classes [(b0, .inr (5, [.int b5, .int b6, .ref b7, .ref b8, .ref b9, .ref b10, .ref b11, .ref b12, .int b13, .ref b14, .ref b15, .ref b16, .ref b17, .ref b18, .ref b19])), (b14, .inl (G.2 0, 240, .inl b20)), (b18, .inl (G.2 0, 242, .inl b21)), (b4, .inr (6, [.int b26, .int 4, .int 10, .ref b27, .ref b28])), (b27, .inl (G.2 1, 40, .inr (.inl y_177))), (b1, .inr (6, [.int b22, .int 4, .int 100, .ref b23, .ref b24])), (b23, .inl (G.2 1, 400, .inr (.inl b25)))] H := hP
          have hD := z_tie hP hD rfl
          refine W.widen (k := 0) (n := 0) (Nat.le_of_ble_eq_true rfl) (Nat.le_of_ble_eq_true rfl) ?_
          refine lv_iadd hx hb d_Machine_fan_36 ?_
          refine lv_topi (fun v_189 ev_189 => ?_)
          obtain ⟨qv_189, hv_189⟩ := zI_add (l := 0) (h := 255) hv_185 hx_187 ev_189 (by decide)
          have hv_190 : zI v_189 0 240 := ⟨by omega, by omega⟩
          refine lv_istore (lv' := [(8, .int v_189), (6, .long y_176), (5, .int y_114), (0, .ref b0), (1, .ref b1), (2, .int b2), (3, .int b3), (4, .ref b4)]) hx hb d_Machine_fan_37 hl (by decide) rfl (fun ls hl => ?_)
          refine lv_aload_n hx hb d_Machine_fan_39 rfl (lv_at hl 3 rfl) ?_
          refine va_get (D := G.1) (ci := 5) (v := .ref b18) (C := R_Machine) (T := F_Machine) (N := 15) hx hb hts i_Machine hown hK hP 0 rfl rfl 13 (by decide) (hts _ q195) (fun _ h9 => h9) rfl d_Machine_fan_40 ?_
          refine lv_iload hx hb d_Machine_fan_43 (lv_at hl 0 rfl) ?_
          refine va_iald hx hb hK hP 2 0 rfl rfl (zI.inn hv_190 (by decide)) d_Machine_fan_45 ?_
          refine lv_topi (fun v_191 ev_191 => ?_)
          have hv_191 : zI v_191 0 240 := (hb21 _).eq ev_191
          refine lv_istore (lv' := [(9, .int v_191), (8, .int v_189), (6, .long y_176), (5, .int y_114), (0, .ref b0), (1, .ref b1), (2, .int b2), (3, .int b3), (4, .ref b4)]) hx hb d_Machine_fan_46 hl (by decide) rfl (fun ls hl => ?_)
          suffices key : ∀ (k_210 : Nat) (y_211 : Int32) (y_212 : Nat → Int64) (H : Heap) (locs : List Loc) (ls : Array Slot), (zI y_211 0 240) → (zqa qB y_212) → (240 : Int) - y_211.toInt < (k_210 : Int) → va_P G.1 classes [(b0, .inr (5, [.int b5, .int b6, .ref b7, .ref b8, .ref b9, .ref b10, .ref b11, .ref b12, .int b13, .ref b14, .ref b15, .ref b16, .ref b17, .ref b18, .ref b19])), (b14, .inl (G.2 0, 240, .inl b20)), (b18, .inl (G.2 0, 242, .inl b21)), (b4, .inr (6, [.int b26, .int 4, .int 10, .ref b27, .ref b28])), (b27, .inl (G.2 1, 40, .inr (.inl y_212))), (b1, .inr (6, [.int b22, .int 4, .int 100, .ref b23, .ref b24])), (b23, .inl (G.2 1, 400, .inr (.inl b25)))] H → va_D A [(b0, .inr (5, [.int b5, .int b6, .ref b7, .ref b8, .ref b9, .ref b10, .ref b11, .ref b12, .int b13, .ref b14, .ref b15, .ref b16, .ref b17, .ref b18, .ref b19])), (b14, .inl (G.2 0, 240, .inl b20)), (b18, .inl (G.2 0, 242, .inl b21)), (b4, .inr (6, [.int b26, .int 4, .int 10, .ref b27, .ref b28])), (b27, .inl (G.2 1, 40, .inr (.inl y_212))), (b1, .inr (6, [.int b22, .int 4, .int 100, .ref b23, .ref b24])), (b23, .inl (G.2 1, 400, .inr (.inl b25)))] → va_S A s.heap H locs → lv_has ls 10 [(9, .int y_211), (8, .int v_189), (6, .long y_176), (5, .int y_114), (0, .ref b0), (1, .ref b1), (2, .int b2), (3, .int b3), (4, .ref b4)] → W p l e m_s4_Machine_fan s m ([.ref b0, .ref b1, .int b2, .int b3, .ref b4] : List Value).toArray below meth c H locs 0 0 (MQ below (zQ G (fun v w => ∃ (e0 : Nat → Int64), v = none ∧ w = [(b0, .inr (5, [.int b5, .int b6, .ref b7, .ref b8, .ref b9, .ref b10, .ref b11, .ref b12, .int b13, .ref b14, .ref b15, .ref b16, .ref b17, .ref b18, .ref b19])), (b14, .inl (G.2 0, 240, .inl b20)), (b18, .inl (G.2 0, 242, .inl b21)), (b1, .inr (6, [.int b22, .int 4, .int 100, .ref b23, .ref b24])), (b23, .inl (G.2 1, 400, .inr (.inl b25))), (b4, .inr (6, [.int b26, .int 4, .int 10, .ref b27, .ref b28])), (b27, .inl (G.2 1, 40, .inr (.inl e0)))] ∧ (zqa qB e0)) A) ([.ref b0, .ref b1, .int b2, .int b3, .ref b4] : List Value).toArray s m_s4_Machine_fan.cells m_s4_Machine_fan.slots A) (F0 m 48 ls []) by
            exact key 241 (v_191) (y_177) _ _ _ hv_191 hy_177 (zm_upi hv_191 (by decide)) hP hD hS (lv_sub hl [0, 1, 2, 3, 4, 5, 6, 7, 8] rfl)
          intro k_210
          induction k_210 with
          | zero =>
            intro y_211 y_212 H locs ls hy_211 hy_212 hmk_210 hP hD hS hl
            exact (zm_up0 hy_211 hmk_210).elim
          | succ k_210 ihk_210 =>
            intro y_211 y_212 H locs ls hy_211 hy_212 hmk_210 hP hD hS hl
            refine lv_iload hx hb d_Machine_fan_48 (lv_at hl 0 rfl) ?_
            refine lv_aload_n hx hb d_Machine_fan_50 rfl (lv_at hl 4 rfl) ?_
            refine va_get (D := G.1) (ci := 5) (v := .ref b18) (C := R_Machine) (T := F_Machine) (N := 15) hx hb hts i_Machine hown hK hP 0 rfl rfl 13 (by decide) (hts _ q195) (fun _ h9 => h9) rfl d_Machine_fan_51 ?_
            refine lv_iload hx hb d_Machine_fan_54 (lv_at hl 1 rfl) ?_
            refine lv_iconst (v := 1) hx hb d_Machine_fan_56 (by decide) ?_
            refine lv_iadd hx hb d_Machine_fan_57 ?_
            refine lv_topi (fun v_213 ev_213 => ?_)
            obtain ⟨qv_213, hv_213⟩ := zI_add (l := 1) (h := 241) hv_190 zc_1 ev_213 (by decide)
            rw [li_1] at qv_213
            refine va_iald hx hb hK hP 2 0 rfl rfl (zI.inn hv_213 (by decide)) d_Machine_fan_58 ?_
            refine lv_topi (fun v_214 ev_214 => ?_)
            have hv_214 : zI v_214 0 240 := (hb21 _).eq ev_214
            refine lv_icmp_ge (tgt := 86) hx hb d_Machine_fan_59 (by decide) (fun hc_215 => ?_) (fun hc_215 => ?_)
            · have _nhc_215 := hc_215
              have ni_216 := (fa_le _ _).mp hc_215
              refine lv_lload hx hb d_Machine_fan_86 (lv_at hl 2 rfl) ?_
              refine lv_lload hx hb d_Machine_fan_88 (lv_at hl 2 rfl) ?_
              refine lv_lconst (v := 1) hx hb d_Machine_fan_90 (by decide) ?_
              refine lv_lsub hx hb d_Machine_fan_91 ?_
              refine lv_topl (fun v_217 ev_217 => ?_)
              refine lv_land hx hb d_Machine_fan_92 ?_
              refine lv_topl (fun v_218 ev_218 => ?_)
              refine lv_lstore (lv' := [(6, .long v_218), (9, .int y_211), (8, .int v_189), (5, .int y_114), (0, .ref b0), (1, .ref b1), (2, .int b2), (3, .int b3), (4, .ref b4)]) hx hb d_Machine_fan_93 hl (by decide) rfl (fun ls hl => ?_)
              refine lv_goto (tgt := 19) hx hb d_Machine_fan_95 (by decide) ?_
              exact ihk_175 (v_218) (y_212) _ _ _ hy_212 (fun h9 => z_decB ev_218 (hli_178 h9)) (z_dec ev_217 ev_218 (by omega) hmk_175) hP hD hS (lv_sub hl [0, 3, 4, 5, 6, 7, 8] rfl)
            · have _nhc_215 := hc_215
              have ni_219 := (fa_lt _ _).mp (zi_nle hc_215)
              have hv_220 : zI y_211 0 239 := zI.lt_l hy_211 hv_214 (zi_nle hc_215) (by decide)
              have hv_221 : zI v_214 1 240 := zI.lt_r hy_211 hv_214 (zi_nle hc_215) (by decide)
              refine lv_aload hx hb d_Machine_fan_62 (lv_at hl 8 rfl) ?_
              refine lv_aload_n hx hb d_Machine_fan_64 rfl (lv_at hl 4 rfl) ?_
              refine lv_iload hx hb d_Machine_fan_65 (lv_at hl 0 rfl) ?_
              refine z_callV (index := 174) (As := [.int y_211]) (rest := [.ref b4]) (wr := [(b18, .inl (G.2 0, 242, .inl b21)), (b4, .inr (6, [.int b26, .int 4, .int 10, .ref b27, .ref b28])), (b27, .inl (G.2 1, 40, .inr (.inl y_212))), (b1, .inr (6, [.int b22, .int 4, .int 100, .ref b23, .ref b24])), (b23, .inl (G.2 1, 400, .inr (.inl b25)))]) Z (s1_Machine_letter l G (b0) (y_211) (b5) (b6) (b7) (b8) (b9) (b10) (b11) (b12) (b13) (b14) (b15) (b16) (b17) (b18) (b19) (b20) hv_220 hb5 hb6 hb13 hb20) hl.1 q732 q674 q675 q6 q676 ⟨by decide, by decide, by show _ = some 1; decide +kernel⟩ ⟨Nat.le_of_ble_eq_true rfl, Nat.le_of_ble_eq_true rfl⟩ ⟨Nat.le_of_ble_eq_true rfl, Nat.le_of_ble_eq_true rfl⟩ rfl (Nat.le_of_ble_eq_true rfl) d_Machine_fan_67 hP hD hS hA 0 5 rfl rfl rfl [0, 1] [2, 3, 4, 5, 6] rfl rfl rfl rfl (by decide) (fun v w1 H locs hw_222 hP hD hS => ?_)
              obtain ⟨x_223, rfl, rfl, hx_223⟩ := hw_222
              have hP : va_P G.1 classes [(b18, .inl (G.2 0, 242, .inl b21)), (b4, .inr (6, [.int b26, .int 4, .int 10, .ref b27, .ref b28])), (b27, .inl (G.2 1, 40, .inr (.inl y_212))), (b1, .inr (6, [.int b22, .int 4, .int 100, .ref b23, .ref b24])), (b23, .inl (G.2 1, 400, .inr (.inl b25))), (b0, .inr (5, [.int b5, .int b6, .ref b7, .ref b8, .ref b9, .ref b10, .ref b11, .ref b12, .int b13, .ref b14, .ref b15, .ref b16, .ref b17, .ref b18, .ref b19])), (b14, .inl (G.2 0, 240, .inl b20))] H := hP
              have hD := z_tie hP hD rfl
              refine W.widen (k := 0) (n := 0) (Nat.le_of_ble_eq_true rfl) (Nat.le_of_ble_eq_true rfl) ?_
              refine lv_iload_n hx hb d_Machine_fan_70 rfl (lv_at hl 7 rfl) ?_
              refine lv_aload_n hx hb d_Machine_fan_71 rfl (lv_at hl 4 rfl) ?_
              refine lv_iload hx hb d_Machine_fan_72 (lv_at hl 0 rfl) ?_
              refine z_callV (index := 176) (As := [.int y_211]) (rest := [.int b3, .int x_223, .ref b4]) (wr := [(b18, .inl (G.2 0, 242, .inl b21)), (b4, .inr (6, [.int b26, .int 4, .int 10, .ref b27, .ref b28])), (b27, .inl (G.2 1, 40, .inr (.inl y_212))), (b1, .inr (6, [.int b22, .int 4, .int 100, .ref b23, .ref b24])), (b23, .inl (G.2 1, 400, .inr (.inl b25)))]) Z (s1_Machine_to l G (b0) (y_211) (b5) (b6) (b7) (b8) (b9) (b10) (b11) (b12) (b13) (b14) (b15) (b16) (b17) (b18) (b19) (b20) hv_220 hb5 hb6 hb13 hb20) hl.1 q733 q681 q682 q6 q683 ⟨by decide, by decide, by show _ = some 1; decide +kernel⟩ ⟨Nat.le_of_ble_eq_true rfl, Nat.le_of_ble_eq_true rfl⟩ ⟨Nat.le_of_ble_eq_true rfl, Nat.le_of_ble_eq_true rfl⟩ rfl (Nat.le_of_ble_eq_true rfl) d_Machine_fan_74 hP hD hS hA 5 5 rfl rfl rfl [5, 6] [0, 1, 2, 3, 4] rfl rfl rfl rfl (by decide) (fun v w1 H locs hw_224 hP hD hS => ?_)
              obtain ⟨x_225, rfl, rfl, hx_225⟩ := hw_224
              have hP : va_P G.1 classes [(b18, .inl (G.2 0, 242, .inl b21)), (b4, .inr (6, [.int b26, .int 4, .int 10, .ref b27, .ref b28])), (b27, .inl (G.2 1, 40, .inr (.inl y_212))), (b1, .inr (6, [.int b22, .int 4, .int 100, .ref b23, .ref b24])), (b23, .inl (G.2 1, 400, .inr (.inl b25))), (b0, .inr (5, [.int b5, .int b6, .ref b7, .ref b8, .ref b9, .ref b10, .ref b11, .ref b12, .int b13, .ref b14, .ref b15, .ref b16, .ref b17, .ref b18, .ref b19])), (b14, .inl (G.2 0, 240, .inl b20))] H := hP
              have hD := z_tie hP hD rfl
              refine W.widen (k := 0) (n := 0) (Nat.le_of_ble_eq_true rfl) (Nat.le_of_ble_eq_true rfl) ?_
              refine z_callV (index := 139) (As := [.int x_223, .int b3, .int x_225]) (rest := []) (wr := [(b18, .inl (G.2 0, 242, .inl b21)), (b1, .inr (6, [.int b22, .int 4, .int 100, .ref b23, .ref b24])), (b23, .inl (G.2 1, 400, .inr (.inl b25))), (b0, .inr (5, [.int b5, .int b6, .ref b7, .ref b8, .ref b9, .ref b10, .ref b11, .ref b12, .int b13, .ref b14, .ref b15, .ref b16, .ref b17, .ref b18, .ref b19])), (b14, .inl (G.2 0, 240, .inl b20))]) Z (s5_Sets_put l G (b4) (x_223) (b3) (x_225) (b26) (b27) (b28) (y_212) hx_223 hb3 hx_225 hb26 hy_212) hl.1 q709 q710 q711 q7 q712 ⟨by decide, by decide, by show _ = some 3; decide +kernel⟩ ⟨Nat.le_of_ble_eq_true rfl, Nat.le_of_ble_eq_true rfl⟩ ⟨Nat.le_of_ble_eq_true rfl, Nat.le_of_ble_eq_true rfl⟩ rfl (Nat.le_of_ble_eq_true rfl) d_Machine_fan_77 hP hD hS hA 1 6 rfl rfl rfl [1, 2] [0, 3, 4, 5, 6] rfl rfl rfl rfl (by decide) (fun v w1 H locs hw_226 hP hD hS => ?_)
              obtain ⟨f_227, rfl, rfl, hf_227⟩ := hw_226
              have hP : va_P G.1 classes [(b18, .inl (G.2 0, 242, .inl b21)), (b1, .inr (6, [.int b22, .int 4, .int 100, .ref b23, .ref b24])), (b23, .inl (G.2 1, 400, .inr (.inl b25))), (b0, .inr (5, [.int b5, .int b6, .ref b7, .ref b8, .ref b9, .ref b10, .ref b11, .ref b12, .int b13, .ref b14, .ref b15, .ref b16, .ref b17, .ref b18, .ref b19])), (b14, .inl (G.2 0, 240, .inl b20)), (b4, .inr (6, [.int b26, .int 4, .int 10, .ref b27, .ref b28])), (b27, .inl (G.2 1, 40, .inr (.inl f_227)))] H := hP
              have hD := z_tie hP hD rfl
              refine W.widen (k := 0) (n := 0) (Nat.le_of_ble_eq_true rfl) (Nat.le_of_ble_eq_true rfl) ?_
              obtain ⟨v_228, ev_228⟩ : ∃ z : Int32, z = y_211 + 1 := ⟨_, rfl⟩
              obtain ⟨qv_228, hv_228⟩ := zI_add (l := 1) (h := 240) hv_220 zc_1 ev_228 (by decide)
              rw [li_1] at qv_228
              refine lv_iinc (v := v_228) (lv' := [(9, .int v_228), (8, .int v_189), (6, .long y_176), (5, .int y_114), (0, .ref b0), (1, .ref b1), (2, .int b2), (3, .int b3), (4, .ref b4)]) hx hb d_Machine_fan_80 hl (k := 0) rfl (by rw [ev_228]; rfl) (by decide) rfl (fun ls hl => ?_)
              refine lv_goto (tgt := 48) hx hb d_Machine_fan_83 (by decide) ?_
              exact ihk_210 (v_228) (f_227) _ _ _ (zI.wk (l' := 0) (h' := 240) hv_228 (by decide)) hf_227 (zm_up qv_228 hmk_210 (by decide)) (hP.sub [3, 4, 0, 5, 6, 1, 2] rfl) (hD.sub [3, 4, 0, 5, 6, 1, 2] (by decide) rfl) hS (lv_sub hl [0, 1, 2, 3, 4, 5, 6, 7, 8] rfl)
abbrev m_s7_Sets_longAt : Room := { frames := 0, cells := 0, slots := 0, locals := 0 }
set_option maxHeartbeats 4000000 in
set_option maxRecDepth 100000 in
theorem s7_Sets_longAt (l : Launch) (G : zG) (b0 : Nat) (b1 : Int32) (b2 : Int32) (b3 : Int32) (b4 : Int32) (b5 : Nat) (b6 : Nat) (b7 : Nat → Int64) (hb1 : zI b1 0 9) (hb2 : zI b2 0 0) (hb3 : zI b3 0 3) (hb4 : zI b4 0 10) (hb7 : zqa qB b7) : zM l G y_Sets_longAt prog_8_method_5_code 4 (Option.some Jvm.ClassFile.FieldType.long) m_s7_Sets_longAt [.ref b0, .int b1, .int b2, .int b3] [(b0, .inr (6, [.int b4, .int 4, .int 10, .ref b5, .ref b6])), (b5, .inl (G.2 1, 40, .inr (.inl b7)))] (fun v w => ∃ (e0 : Int64), v = some (.long e0) ∧ w = [(b0, .inr (6, [.int b4, .int 4, .int 10, .ref b5, .ref b6])), (b5, .inl (G.2 1, 40, .inr (.inl b7)))] ∧ ((b3 : Int32).toInt = 3 → (e0 : Int64).toBitVec.toNat < 2 ^ 49)) := by
  refine z_start (by decide +kernel) (Nat.le_of_ble_eq_true rfl) ?_
  intro p e s m below meth c A Z hr hnm hA hP hD hS ls hl
  have Z : zC p s m _ meth c prog_8_method_5_code 4 "TraceMachines$StateSets" G := Z
  obtain ⟨hx, hb, hml, hown, hts, hK, hN, hlocks⟩ := id Z
  have hl : lv_has ls 4 [(0, .ref b0), (1, .int b1), (2, .int b2), (3, .int b3)] := hl
  refine lv_aload_n hx hb d_Sets_longAt_0 rfl (lv_at hl 0 rfl) ?_
  refine va_get (D := G.1) (ci := 6) (v := .ref b5) (C := R_Sets) (T := F_Sets) (N := 5) hx hb hts i_Sets hown hK hP 0 rfl rfl 3 (by decide) (hts _ q244) (fun _ h9 => h9) rfl d_Sets_longAt_1 ?_
  refine lv_iload_n hx hb d_Sets_longAt_4 rfl (lv_at hl 1 rfl) ?_
  refine lv_aload_n hx hb d_Sets_longAt_5 rfl (lv_at hl 0 rfl) ?_
  refine va_get (D := G.1) (ci := 6) (v := .int 4) (C := R_Sets) (T := F_Sets) (N := 5) hx hb hts i_Sets hown hK hP 0 rfl rfl 1 (by decide) (hts _ q242) (fun _ h9 => h9) rfl d_Sets_longAt_6 ?_
  refine lv_imul hx hb d_Sets_longAt_9 ?_
  refine lv_topi (fun v_1 ev_1 => ?_)
  obtain ⟨qv_1, hv_1⟩ := zI_mul (l := 0) (h := 36) hb1 zc_4 ev_1 (by decide)
  rw [li_4] at qv_1
  refine lv_iload_n hx hb d_Sets_longAt_10 rfl (lv_at hl 2 rfl) ?_
  refine lv_iconst (v := 4) hx hb d_Sets_longAt_11 (by decide) ?_
  refine lv_imul hx hb d_Sets_longAt_12 ?_
  refine lv_topi (fun v_2 ev_2 => ?_)
  obtain ⟨qv_2, hv_2⟩ := zI_mul (l := 0) (h := 0) hb2 zc_4 ev_2 (by decide)
  rw [li_4] at qv_2
  refine lv_iadd hx hb d_Sets_longAt_13 ?_
  refine lv_topi (fun v_3 ev_3 => ?_)
  obtain ⟨qv_3, hv_3⟩ := zI_add (l := 0) (h := 36) hv_1 hv_2 ev_3 (by decide)
  refine lv_iload_n hx hb d_Sets_longAt_14 rfl (lv_at hl 3 rfl) ?_
  refine lv_iadd hx hb d_Sets_longAt_15 ?_
  refine lv_topi (fun v_4 ev_4 => ?_)
  obtain ⟨qv_4, hv_4⟩ := zI_add (l := 0) (h := 39) hv_3 hb3 ev_4 (by decide)
  refine va_lald hx hb hK hP 1 1 rfl rfl (zI.inn hv_4 (by decide)) d_Sets_longAt_16 ?_
  refine lv_topl (fun v_5 ev_5 => ?_)
  have bv_5 := zQB.ld hb7 hv_4 ev_5 (by decide)
  exact z_lret hx hb hr hlocks hP hD hS (Nat.le_of_ble_eq_true rfl) (Nat.le_of_ble_eq_true rfl) d_Sets_longAt_17 ⟨v_5, rfl, rfl, (fun h9 => bv_5 (by omega))⟩
abbrev m_s6_Machine_takes : Room := { frames := 1, cells := 0, slots := 0, locals := 23 }
set_option maxHeartbeats 4000000 in
set_option maxRecDepth 100000 in
theorem s6_Machine_takes (l : Launch) (G : zG) (b0 : Nat) (b1 : Nat) (b2 : Int32) (b3 : Int32) (b4 : Int32) (b5 : Int32) (b6 : Nat) (b7 : Nat) (b8 : Nat) (b9 : Nat) (b10 : Nat) (b11 : Nat) (b12 : Int32) (b13 : Nat) (b14 : Nat) (b15 : Nat) (b16 : Nat) (b17 : Nat) (b18 : Nat) (b19 : Nat → Int64) (b20 : Int32) (b21 : Nat) (b22 : Nat) (b23 : Nat → Int64) (hb2 : zI b2 0 9) (hb3 : zI b3 0 0) (hb4 : zI b4 0 1) (hb5 : zI b5 0 241) (hb12 : zI b12 0 240) (hb20 : zI b20 0 10) (hb23 : zqa qB b23) : zM l G y_Machine_takes prog_4_method_18_code 5 (Option.some Jvm.ClassFile.FieldType.boolean) m_s6_Machine_takes [.ref b0, .ref b1, .int b2, .int b3] [(b0, .inr (5, [.int b4, .int b5, .ref b6, .ref b7, .ref b8, .ref b9, .ref b10, .ref b11, .int b12, .ref b13, .ref b14, .ref b15, .ref b16, .ref b17, .ref b18])), (b11, .inl (G.2 1, 4, .inr (.inl b19))), (b1, .inr (6, [.int b20, .int 4, .int 10, .ref b21, .ref b22])), (b21, .inl (G.2 1, 40, .inr (.inl b23)))] (fun v w => ∃ (e0 : Int32), v = some (.int e0) ∧ w = [(b0, .inr (5, [.int b4, .int b5, .ref b6, .ref b7, .ref b8, .ref b9, .ref b10, .ref b11, .int b12, .ref b13, .ref b14, .ref b15, .ref b16, .ref b17, .ref b18])), (b11, .inl (G.2 1, 4, .inr (.inl b19))), (b1, .inr (6, [.int b20, .int 4, .int 10, .ref b21, .ref b22])), (b21, .inl (G.2 1, 40, .inr (.inl b23)))] ∧ (zI e0 0 1)) := by
  refine z_start (by decide +kernel) (Nat.le_of_ble_eq_true rfl) ?_
  intro p e s m below meth c A Z hr hnm hA hP hD hS ls hl
  have Z : zC p s m _ meth c prog_4_method_18_code 5 "TraceMachines$Machine" G := Z
  obtain ⟨hx, hb, hml, hown, hts, hK, hN, hlocks⟩ := id Z
  have hl : lv_has ls 5 [(0, .ref b0), (1, .ref b1), (2, .int b2), (3, .int b3)] := hl
  refine lv_iconst (v := 0) hx hb d_Machine_takes_0 (by decide) ?_
  refine lv_istore (lv' := [(4, .int 0), (0, .ref b0), (1, .ref b1), (2, .int b2), (3, .int b3)]) hx hb d_Machine_takes_1 hl (by decide) rfl (fun ls hl => ?_)
  suffices key : ∀ (k_18 : Nat) (y_19 : Int32) (H : Heap) (locs : List Loc) (ls : Array Slot), (zI y_19 0 4) → (4 : Int) - y_19.toInt < (k_18 : Int) → va_P G.1 classes [(b0, .inr (5, [.int b4, .int b5, .ref b6, .ref b7, .ref b8, .ref b9, .ref b10, .ref b11, .int b12, .ref b13, .ref b14, .ref b15, .ref b16, .ref b17, .ref b18])), (b11, .inl (G.2 1, 4, .inr (.inl b19))), (b1, .inr (6, [.int b20, .int 4, .int 10, .ref b21, .ref b22])), (b21, .inl (G.2 1, 40, .inr (.inl b23)))] H → va_D A [(b0, .inr (5, [.int b4, .int b5, .ref b6, .ref b7, .ref b8, .ref b9, .ref b10, .ref b11, .int b12, .ref b13, .ref b14, .ref b15, .ref b16, .ref b17, .ref b18])), (b11, .inl (G.2 1, 4, .inr (.inl b19))), (b1, .inr (6, [.int b20, .int 4, .int 10, .ref b21, .ref b22])), (b21, .inl (G.2 1, 40, .inr (.inl b23)))] → va_S A s.heap H locs → lv_has ls 5 [(4, .int y_19), (0, .ref b0), (1, .ref b1), (2, .int b2), (3, .int b3)] → W p l e m_s6_Machine_takes s m ([.ref b0, .ref b1, .int b2, .int b3] : List Value).toArray below meth c H locs 0 0 (MQ below (zQ G (fun v w => ∃ (e0 : Int32), v = some (.int e0) ∧ w = [(b0, .inr (5, [.int b4, .int b5, .ref b6, .ref b7, .ref b8, .ref b9, .ref b10, .ref b11, .int b12, .ref b13, .ref b14, .ref b15, .ref b16, .ref b17, .ref b18])), (b11, .inl (G.2 1, 4, .inr (.inl b19))), (b1, .inr (6, [.int b20, .int 4, .int 10, .ref b21, .ref b22])), (b21, .inl (G.2 1, 40, .inr (.inl b23)))] ∧ (zI e0 0 1)) A) ([.ref b0, .ref b1, .int b2, .int b3] : List Value).toArray s m_s6_Machine_takes.cells m_s6_Machine_takes.slots A) (F0 m 3 ls []) by
    exact key 5 (0) _ _ _ (zI.wk (l' := 0) (h' := 4) zc_0 (by decide)) (zm_upi (zI.wk (l' := 0) (h' := 4) zc_0 (by decide)) (by decide)) hP hD hS (lv_sub hl [0, 1, 2, 3, 4] rfl)
  intro k_18
  induction k_18 with
  | zero =>
    intro y_19 H locs ls hy_19 hmk_18 hP hD hS hl
    exact (zm_up0 hy_19 hmk_18).elim
  | succ k_18 ihk_18 =>
    intro y_19 H locs ls hy_19 hmk_18 hP hD hS hl
    refine lv_iload hx hb d_Machine_takes_3 (lv_at hl 0 rfl) ?_
    refine lv_iconst (v := 4) hx hb d_Machine_takes_5 (by decide) ?_
    refine lv_icmp_ge (tgt := 38) hx hb d_Machine_takes_6 (by decide) (fun hc_20 => ?_) (fun hc_20 => ?_)
    · have _nhc_20 := hc_20
      have ni_21 := (fa_le _ _).mp hc_20
      rw [li_4] at ni_21
      have hv_22 : zI y_19 4 4 := zI.le_r zc_4 hy_19 hc_20 (by decide)
      refine lv_iconst (v := 0) hx hb d_Machine_takes_38 (by decide) ?_
      exact z_zret hx hb hr hlocks rfl hP hD hS (Nat.le_of_ble_eq_true rfl) (Nat.le_of_ble_eq_true rfl) d_Machine_takes_39 ⟨0, rfl, rfl, (zI.wk (l' := 0) (h' := 1) zc_0 (by decide))⟩
    · have _nhc_20 := hc_20
      have ni_23 := (fa_lt _ _).mp (zi_nle hc_20)
      rw [li_4] at ni_23
      have hv_24 : zI y_19 0 3 := zI.lt_l hy_19 zc_4 (zi_nle hc_20) (by decide)
      refine lv_aload_n hx hb d_Machine_takes_9 rfl (lv_at hl 2 rfl) ?_
      refine lv_iload_n hx hb d_Machine_takes_10 rfl (lv_at hl 3 rfl) ?_
      refine lv_iload_n hx hb d_Machine_takes_11 rfl (lv_at hl 4 rfl) ?_
      refine lv_iload hx hb d_Machine_takes_12 (lv_at hl 0 rfl) ?_
      refine z_callV (index := 166) (As := [.int b2, .int b3, .int y_19]) (rest := []) (wr := [(b0, .inr (5, [.int b4, .int b5, .ref b6, .ref b7, .ref b8, .ref b9, .ref b10, .ref b11, .int b12, .ref b13, .ref b14, .ref b15, .ref b16, .ref b17, .ref b18])), (b11, .inl (G.2 1, 4, .inr (.inl b19)))]) Z (s7_Sets_longAt l G (b1) (b2) (b3) (y_19) (b20) (b21) (b22) (b23) hb2 hb3 hv_24 hb20 hb23) hl.1 q719 q720 q721 q7 q722 ⟨by decide, by decide, by show _ = some 3; decide +kernel⟩ ⟨Nat.le_of_ble_eq_true rfl, Nat.le_of_ble_eq_true rfl⟩ ⟨Nat.le_of_ble_eq_true rfl, Nat.le_of_ble_eq_true rfl⟩ rfl (Nat.le_of_ble_eq_true rfl) d_Machine_takes_14 hP hD hS hA 2 6 rfl rfl rfl [2, 3] [0, 1] rfl rfl rfl rfl (by decide) (fun v w1 H locs hw_25 hP hD hS => ?_)
      obtain ⟨x_26, rfl, rfl, hfx_27⟩ := hw_25
      have hP : va_P G.1 classes [(b0, .inr (5, [.int b4, .int b5, .ref b6, .ref b7, .ref b8, .ref b9, .ref b10, .ref b11, .int b12, .ref b13, .ref b14, .ref b15, .ref b16, .ref b17, .ref b18])), (b11, .inl (G.2 1, 4, .inr (.inl b19))), (b1, .inr (6, [.int b20, .int 4, .int 10, .ref b21, .ref b22])), (b21, .inl (G.2 1, 40, .inr (.inl b23)))] H := hP
      have hD := z_tie hP hD rfl
      refine W.widen (k := 0) (n := 0) (Nat.le_of_ble_eq_true rfl) (Nat.le_of_ble_eq_true rfl) ?_
      refine lv_aload_n hx hb d_Machine_takes_17 rfl (lv_at hl 1 rfl) ?_
      refine va_get (D := G.1) (ci := 5) (v := .ref b11) (C := R_Machine) (T := F_Machine) (N := 15) hx hb hts i_Machine hown hK hP 0 rfl rfl 7 (by decide) (hts _ q181) (fun _ h9 => h9) rfl d_Machine_takes_18 ?_
      refine lv_iload hx hb d_Machine_takes_21 (lv_at hl 0 rfl) ?_
      refine va_lald hx hb hK hP 1 1 rfl rfl (zI.inn hv_24 (by decide)) d_Machine_takes_23 ?_
      refine lv_topl (fun v_28 ev_28 => ?_)
      refine lv_land hx hb d_Machine_takes_24 ?_
      refine lv_topl (fun v_29 ev_29 => ?_)
      refine lv_lconst (v := 0) hx hb d_Machine_takes_25 (by decide) ?_
      refine W.lcmp hx hb d_Machine_takes_26 ?_
      refine lv_topi (fun v_30 ev_30 => ?_)
      refine lv_if_eq (tgt := 32) hx hb d_Machine_takes_27 (by decide) (fun hc_31 => ?_) (fun hc_31 => ?_)
      · have ni_32 := hc_31
        rw [ev_30] at ni_32
        simp only [lg_cmp_lt, lg_cmp_le, lg_cmp_gt, lg_cmp_ge, lg_cmp_eq, fa_lt64, fa_le64, fa_eq64, Int32.toInt_toInt64, ll_0] at ni_32
        have hv_33 : zJ v_29 0 0 := by have _a := ni_32; have _b := (zJ_all v_29); have _c := zcl_0; simp only [Int32.toInt_toInt64] at *; exact ⟨by omega, by omega⟩
        obtain ⟨v_34, ev_34⟩ : ∃ z : Int32, z = y_19 + 1 := ⟨_, rfl⟩
        obtain ⟨qv_34, hv_34⟩ := zI_add (l := 1) (h := 4) hv_24 zc_1 ev_34 (by decide)
        rw [li_1] at qv_34
        refine lv_iinc (v := v_34) (lv' := [(4, .int v_34), (0, .ref b0), (1, .ref b1), (2, .int b2), (3, .int b3)]) hx hb d_Machine_takes_32 hl (k := 0) rfl (by rw [ev_34]; rfl) (by decide) rfl (fun ls hl => ?_)
        refine lv_goto (tgt := 3) hx hb d_Machine_takes_35 (by decide) ?_
        exact ihk_18 (v_34) _ _ _ (zI.wk (l' := 0) (h' := 4) hv_34 (by decide)) (zm_up qv_34 hmk_18 (by decide)) hP hD hS (lv_sub hl [0, 1, 2, 3, 4] rfl)
      · have ni_35 := hc_31
        rw [ev_30] at ni_35
        simp only [lg_cmp_lt, lg_cmp_le, lg_cmp_gt, lg_cmp_ge, lg_cmp_eq, fa_lt64, fa_le64, fa_eq64, Int32.toInt_toInt64, ll_0] at ni_35
        refine lv_iconst (v := 1) hx hb d_Machine_takes_30 (by decide) ?_
        exact z_zret hx hb hr hlocks rfl hP hD hS (Nat.le_of_ble_eq_true rfl) (Nat.le_of_ble_eq_true rfl) d_Machine_takes_31 ⟨1, rfl, rfl, (zI.wk (l' := 0) (h' := 1) zc_1 (by decide))⟩
abbrev m_s2_Words_takenNext : Room := { frames := 3, cells := 0, slots := 0, locals := 71 }
set_option maxHeartbeats 4000000 in
set_option maxRecDepth 100000 in
theorem s2_Words_takenNext (l : Launch) (G : zG) (b0 : Nat) (b1 : Nat) (b2 : Nat) (b3 : Nat) (b4 : Nat) (b5 : Nat) (b6 : Nat) (b7 : Nat) (b8 : Nat) (b9 : Nat) (b10 : Int32) (b11 : Nat) (b12 : Nat) (b13 : Nat → Int64) (b14 : Int32) (b15 : Nat) (b16 : Nat) (b17 : Nat → Int64) (b18 : Nat → Int32) (b19 : Int32) (b20 : Int32) (b21 : Nat) (b22 : Nat) (b23 : Nat) (b24 : Nat) (b25 : Nat) (b26 : Nat) (b27 : Int32) (b28 : Nat) (b29 : Nat) (b30 : Nat) (b31 : Nat) (b32 : Nat) (b33 : Nat) (b34 : Nat → Int64) (b35 : Nat → Int32) (b36 : Nat → Int32) (hb10 : zI b10 0 10) (hb14 : zI b14 0 100) (hb19 : zI b19 0 1) (hb20 : zI b20 0 241) (hb27 : zI b27 0 240) (hb13 : zqa qB b13) (hb17 : zqa qB b17) (hb35 : zK b35) (hb36 : zR b36 0 240) : zM l G y_Words_takenNext prog_12_method_5_code 5 (Option.some Jvm.ClassFile.FieldType.int) m_s2_Words_takenNext [.ref b0, .ref b1] [(b0, .inr (7, [.ref b2, .ref b3, .ref b4, .ref b5, .ref b6, .ref b7, .ref b8, .ref b9])), (b3, .inr (6, [.int b10, .int 4, .int 10, .ref b11, .ref b12])), (b11, .inl (G.2 1, 40, .inr (.inl b13))), (b4, .inr (6, [.int b14, .int 4, .int 100, .ref b15, .ref b16])), (b15, .inl (G.2 1, 400, .inr (.inl b17))), (b6, .inl (G.2 0, 100, .inl b18)), (b1, .inr (5, [.int b19, .int b20, .ref b21, .ref b22, .ref b23, .ref b24, .ref b25, .ref b26, .int b27, .ref b28, .ref b29, .ref b30, .ref b31, .ref b32, .ref b33])), (b26, .inl (G.2 1, 4, .inr (.inl b34))), (b28, .inl (G.2 0, 240, .inl b35)), (b32, .inl (G.2 0, 242, .inl b36))] (fun v w => ∃ (e0 : Int32), ∃ (e1 : Nat → Int64), v = some (.int e0) ∧ w = [(b0, .inr (7, [.ref b2, .ref b3, .ref b4, .ref b5, .ref b6, .ref b7, .ref b8, .ref b9])), (b3, .inr (6, [.int b10, .int 4, .int 10, .ref b11, .ref b12])), (b11, .inl (G.2 1, 40, .inr (.inl e1))), (b4, .inr (6, [.int b14, .int 4, .int 100, .ref b15, .ref b16])), (b15, .inl (G.2 1, 400, .inr (.inl b17))), (b6, .inl (G.2 0, 100, .inl b18)), (b1, .inr (5, [.int b19, .int b20, .ref b21, .ref b22, .ref b23, .ref b24, .ref b25, .ref b26, .int b27, .ref b28, .ref b29, .ref b30, .ref b31, .ref b32, .ref b33])), (b26, .inl (G.2 1, 4, .inr (.inl b34))), (b28, .inl (G.2 0, 240, .inl b35)), (b32, .inl (G.2 0, 242, .inl b36))] ∧ (zqa qB e1)) := by
  refine z_start (by decide +kernel) (Nat.le_of_ble_eq_true rfl) ?_
  intro p e s m below meth c A Z hr hnm hA hP hD hS ls hl
  have Z : zC p s m _ meth c prog_12_method_5_code 5 "TraceMachines$Words" G := Z
  obtain ⟨hx, hb, hml, hown, hts, hK, hN, hlocks⟩ := id Z
  have hl : lv_has ls 5 [(0, .ref b0), (1, .ref b1)] := hl
  refine lv_iconst (v := 0) hx hb d_Words_takenNext_0 (by decide) ?_
  refine lv_istore_n (lv' := [(2, .int 0), (0, .ref b0), (1, .ref b1)]) hx hb d_Words_takenNext_1 rfl hl (by decide) rfl (fun ls hl => ?_)
  refine lv_iconst (v := 0) hx hb d_Words_takenNext_2 (by decide) ?_
  refine lv_istore_n (lv' := [(3, .int 0), (2, .int 0), (0, .ref b0), (1, .ref b1)]) hx hb d_Words_takenNext_3 rfl hl (by decide) rfl (fun ls hl => ?_)
  suffices key : ∀ (k_51 : Nat) (y_52 : Int32) (y_53 : Int32) (y_54 : Nat → Int64) (H : Heap) (locs : List Loc) (ls : Array Slot), (zI y_52 0 100) → (zqa qB y_54) → (100 : Int) - y_52.toInt < (k_51 : Int) → va_P G.1 classes [(b0, .inr (7, [.ref b2, .ref b3, .ref b4, .ref b5, .ref b6, .ref b7, .ref b8, .ref b9])), (b3, .inr (6, [.int b10, .int 4, .int 10, .ref b11, .ref b12])), (b11, .inl (G.2 1, 40, .inr (.inl y_54))), (b4, .inr (6, [.int b14, .int 4, .int 100, .ref b15, .ref b16])), (b15, .inl (G.2 1, 400, .inr (.inl b17))), (b6, .inl (G.2 0, 100, .inl b18)), (b1, .inr (5, [.int b19, .int b20, .ref b21, .ref b22, .ref b23, .ref b24, .ref b25, .ref b26, .int b27, .ref b28, .ref b29, .ref b30, .ref b31, .ref b32, .ref b33])), (b26, .inl (G.2 1, 4, .inr (.inl b34))), (b28, .inl (G.2 0, 240, .inl b35)), (b32, .inl (G.2 0, 242, .inl b36))] H → va_D A [(b0, .inr (7, [.ref b2, .ref b3, .ref b4, .ref b5, .ref b6, .ref b7, .ref b8, .ref b9])), (b3, .inr (6, [.int b10, .int 4, .int 10, .ref b11, .ref b12])), (b11, .inl (G.2 1, 40, .inr (.inl y_54))), (b4, .inr (6, [.int b14, .int 4, .int 100, .ref b15, .ref b16])), (b15, .inl (G.2 1, 400, .inr (.inl b17))), (b6, .inl (G.2 0, 100, .inl b18)), (b1, .inr (5, [.int b19, .int b20, .ref b21, .ref b22, .ref b23, .ref b24, .ref b25, .ref b26, .int b27, .ref b28, .ref b29, .ref b30, .ref b31, .ref b32, .ref b33])), (b26, .inl (G.2 1, 4, .inr (.inl b34))), (b28, .inl (G.2 0, 240, .inl b35)), (b32, .inl (G.2 0, 242, .inl b36))] → va_S A s.heap H locs → lv_has ls 5 [(3, .int y_52), (2, .int y_53), (0, .ref b0), (1, .ref b1)] → W p l e m_s2_Words_takenNext s m ([.ref b0, .ref b1] : List Value).toArray below meth c H locs 0 0 (MQ below (zQ G (fun v w => ∃ (e0 : Int32), ∃ (e1 : Nat → Int64), v = some (.int e0) ∧ w = [(b0, .inr (7, [.ref b2, .ref b3, .ref b4, .ref b5, .ref b6, .ref b7, .ref b8, .ref b9])), (b3, .inr (6, [.int b10, .int 4, .int 10, .ref b11, .ref b12])), (b11, .inl (G.2 1, 40, .inr (.inl e1))), (b4, .inr (6, [.int b14, .int 4, .int 100, .ref b15, .ref b16])), (b15, .inl (G.2 1, 400, .inr (.inl b17))), (b6, .inl (G.2 0, 100, .inl b18)), (b1, .inr (5, [.int b19, .int b20, .ref b21, .ref b22, .ref b23, .ref b24, .ref b25, .ref b26, .int b27, .ref b28, .ref b29, .ref b30, .ref b31, .ref b32, .ref b33])), (b26, .inl (G.2 1, 4, .inr (.inl b34))), (b28, .inl (G.2 0, 240, .inl b35)), (b32, .inl (G.2 0, 242, .inl b36))] ∧ (zqa qB e1)) A) ([.ref b0, .ref b1] : List Value).toArray s m_s2_Words_takenNext.cells m_s2_Words_takenNext.slots A) (F0 m 4 ls []) by
    exact key 101 (0) (0) (b13) _ _ _ (zI.wk (l' := 0) (h' := 100) zc_0 (by decide)) hb13 (zm_upi (zI.wk (l' := 0) (h' := 100) zc_0 (by decide)) (by decide)) hP hD hS (lv_sub hl [0, 1, 2, 3] rfl)
  intro k_51
  induction k_51 with
  | zero =>
    intro y_52 y_53 y_54 H locs ls hy_52 hy_54 hmk_51 hP hD hS hl
    exact (zm_up0 hy_52 hmk_51).elim
  | succ k_51 ihk_51 =>
    intro y_52 y_53 y_54 H locs ls hy_52 hy_54 hmk_51 hP hD hS hl
    refine lv_iload_n hx hb d_Words_takenNext_4 rfl (lv_at hl 0 rfl) ?_
    refine lv_aload_n hx hb d_Words_takenNext_5 rfl (lv_at hl 2 rfl) ?_
    refine va_get (D := G.1) (ci := 7) (v := .ref b4) (C := R_Words) (T := F_Words) (N := 8) hx hb hts i_Words hown hK hP 0 rfl rfl 2 (by decide) (hts _ q268) (fun _ h9 => h9) rfl d_Words_takenNext_6 ?_
    refine va_get (D := G.1) (ci := 6) (v := .int b14) (C := R_Sets) (T := F_Sets) (N := 5) hx hb hts i_Sets hown hK hP 3 rfl rfl 0 (by decide) (hts _ q240) (fun _ h9 => h9) rfl d_Words_takenNext_9 ?_
    refine lv_icmp_ge (tgt := 81) hx hb d_Words_takenNext_12 (by decide) (fun hc_55 => ?_) (fun hc_55 => ?_)
    · have _nhc_55 := hc_55
      have ni_56 := (fa_le _ _).mp hc_55
      refine lv_iload_n hx hb d_Words_takenNext_81 rfl (lv_at hl 1 rfl) ?_
      exact z_iret hx hb hr hlocks hP hD hS (Nat.le_of_ble_eq_true rfl) (Nat.le_of_ble_eq_true rfl) d_Words_takenNext_82 ⟨y_53, y_54, rfl, rfl, hy_54⟩
    · have _nhc_55 := hc_55
      have ni_57 := (fa_lt _ _).mp (zi_nle hc_55)
      have hv_58 : zI y_52 0 99 := zI.lt_l hy_52 hb14 (zi_nle hc_55) (by decide)
      have hv_59 : zI b14 1 100 := zI.lt_r hy_52 hb14 (zi_nle hc_55) (by decide)
      refine lv_aload_n hx hb d_Words_takenNext_15 rfl (lv_at hl 2 rfl) ?_
      refine va_get (D := G.1) (ci := 7) (v := .ref b3) (C := R_Words) (T := F_Words) (N := 8) hx hb hts i_Words hown hK hP 0 rfl rfl 1 (by decide) (hts _ q267) (fun _ h9 => h9) rfl d_Words_takenNext_16 ?_
      refine z_callV (index := 48) (As := []) (rest := []) (wr := [(b0, .inr (7, [.ref b2, .ref b3, .ref b4, .ref b5, .ref b6, .ref b7, .ref b8, .ref b9])), (b4, .inr (6, [.int b14, .int 4, .int 100, .ref b15, .ref b16])), (b15, .inl (G.2 1, 400, .inr (.inl b17))), (b6, .inl (G.2 0, 100, .inl b18)), (b1, .inr (5, [.int b19, .int b20, .ref b21, .ref b22, .ref b23, .ref b24, .ref b25, .ref b26, .int b27, .ref b28, .ref b29, .ref b30, .ref b31, .ref b32, .ref b33])), (b26, .inl (G.2 1, 4, .inr (.inl b34))), (b28, .inl (G.2 0, 240, .inl b35)), (b32, .inl (G.2 0, 242, .inl b36))]) Z (s5_Sets_clear l G (b3) (b10) (b11) (b12) (y_54) hb10 hy_54) hl.1 q823 q705 q706 q7 q707 ⟨by decide, by decide, by show _ = some 0; decide +kernel⟩ ⟨Nat.le_of_ble_eq_true rfl, Nat.le_of_ble_eq_true rfl⟩ ⟨Nat.le_of_ble_eq_true rfl, Nat.le_of_ble_eq_true rfl⟩ rfl (Nat.le_of_ble_eq_true rfl) d_Words_takenNext_19 hP hD hS hA 1 6 rfl rfl rfl [1, 2] [0, 3, 4, 5, 6, 7, 8, 9] rfl rfl rfl rfl (by decide) (fun v w1 H locs hw_60 hP hD hS => ?_)
      obtain ⟨f_61, rfl, rfl, hf_61⟩ := hw_60
      have hP : va_P G.1 classes [(b0, .inr (7, [.ref b2, .ref b3, .ref b4, .ref b5, .ref b6, .ref b7, .ref b8, .ref b9])), (b4, .inr (6, [.int b14, .int 4, .int 100, .ref b15, .ref b16])), (b15, .inl (G.2 1, 400, .inr (.inl b17))), (b6, .inl (G.2 0, 100, .inl b18)), (b1, .inr (5, [.int b19, .int b20, .ref b21, .ref b22, .ref b23, .ref b24, .ref b25, .ref b26, .int b27, .ref b28, .ref b29, .ref b30, .ref b31, .ref b32, .ref b33])), (b26, .inl (G.2 1, 4, .inr (.inl b34))), (b28, .inl (G.2 0, 240, .inl b35)), (b32, .inl (G.2 0, 242, .inl b36)), (b3, .inr (6, [.int b10, .int 4, .int 10, .ref b11, .ref b12])), (b11, .inl (G.2 1, 40, .inr (.inl f_61)))] H := hP
      have hD := z_tie hP hD rfl
      refine W.widen (k := 0) (n := 0) (Nat.le_of_ble_eq_true rfl) (Nat.le_of_ble_eq_true rfl) ?_
      refine lv_aload_n hx hb d_Words_takenNext_22 rfl (lv_at hl 3 rfl) ?_
      refine lv_aload_n hx hb d_Words_takenNext_23 rfl (lv_at hl 2 rfl) ?_
      refine va_get (D := G.1) (ci := 7) (v := .ref b4) (C := R_Words) (T := F_Words) (N := 8) hx hb hts i_Words hown hK hP 0 rfl rfl 2 (by decide) (hts _ q268) (fun _ h9 => h9) rfl d_Words_takenNext_24 ?_
      refine lv_iload_n hx hb d_Words_takenNext_27 rfl (lv_at hl 0 rfl) ?_
      refine lv_iconst (v := 0) hx hb d_Words_takenNext_28 (by decide) ?_
      refine lv_aload_n hx hb d_Words_takenNext_29 rfl (lv_at hl 2 rfl) ?_
      refine va_get (D := G.1) (ci := 7) (v := .ref b3) (C := R_Words) (T := F_Words) (N := 8) hx hb hts i_Words hown hK hP 0 rfl rfl 1 (by decide) (hts _ q267) (fun _ h9 => h9) rfl d_Words_takenNext_30 ?_
      refine z_callV (index := 77) (As := [.ref b4, .int y_52, .int 0, .ref b3]) (rest := []) (wr := [(b0, .inr (7, [.ref b2, .ref b3, .ref b4, .ref b5, .ref b6, .ref b7, .ref b8, .ref b9])), (b6, .inl (G.2 0, 100, .inl b18)), (b26, .inl (G.2 1, 4, .inr (.inl b34)))]) Z (s4_Machine_fan l G (b1) (b4) (y_52) (0) (b3) (b19) (b20) (b21) (b22) (b23) (b24) (b25) (b26) (b27) (b28) (b29) (b30) (b31) (b32) (b33) (b35) (b36) (b14) (b15) (b16) (b17) (b10) (b11) (b12) (f_61) hv_58 zc_0 hb19 hb20 hb27 (zI.wk (l' := 0) (h' := 100) hv_59 (by decide)) hb10 hb35 hb36 hb17 hf_61) hl.1 q853 q854 q855 q6 q856 ⟨by decide, by decide, by show _ = some 4; decide +kernel⟩ ⟨Nat.le_of_ble_eq_true rfl, Nat.le_of_ble_eq_true rfl⟩ ⟨Nat.le_of_ble_eq_true rfl, Nat.le_of_ble_eq_true rfl⟩ rfl (Nat.le_of_ble_eq_true rfl) d_Words_takenNext_33 hP hD hS hA 4 5 rfl rfl rfl [4, 6, 7, 1, 2, 8, 9] [0, 3, 5] rfl rfl rfl rfl (by decide) (fun v w1 H locs hw_62 hP hD hS => ?_)
      obtain ⟨f_63, rfl, rfl, hf_63⟩ := hw_62
      have hP : va_P G.1 classes [(b0, .inr (7, [.ref b2, .ref b3, .ref b4, .ref b5, .ref b6, .ref b7, .ref b8, .ref b9])), (b6, .inl (G.2 0, 100, .inl b18)), (b26, .inl (G.2 1, 4, .inr (.inl b34))), (b1, .inr (5, [.int b19, .int b20, .ref b21, .ref b22, .ref b23, .ref b24, .ref b25, .ref b26, .int b27, .ref b28, .ref b29, .ref b30, .ref b31, .ref b32, .ref b33])), (b28, .inl (G.2 0, 240, .inl b35)), (b32, .inl (G.2 0, 242, .inl b36)), (b4, .inr (6, [.int b14, .int 4, .int 100, .ref b15, .ref b16])), (b15, .inl (G.2 1, 400, .inr (.inl b17))), (b3, .inr (6, [.int b10, .int 4, .int 10, .ref b11, .ref b12])), (b11, .inl (G.2 1, 40, .inr (.inl f_63)))] H := hP
      have hD := z_tie hP hD rfl
      refine W.widen (k := 0) (n := 0) (Nat.le_of_ble_eq_true rfl) (Nat.le_of_ble_eq_true rfl) ?_
      refine lv_iconst (v := 0) hx hb d_Words_takenNext_36 (by decide) ?_
      refine lv_istore (lv' := [(4, .int 0), (3, .int y_52), (2, .int y_53), (0, .ref b0), (1, .ref b1)]) hx hb d_Words_takenNext_37 hl (by decide) rfl (fun ls hl => ?_)
      suffices key : ∀ (k_83 : Nat) (y_84 : Int32) (y_85 : Int32) (H : Heap) (locs : List Loc) (ls : Array Slot), (zI y_84 0 10) → (10 : Int) - y_84.toInt < (k_83 : Int) → va_P G.1 classes [(b0, .inr (7, [.ref b2, .ref b3, .ref b4, .ref b5, .ref b6, .ref b7, .ref b8, .ref b9])), (b6, .inl (G.2 0, 100, .inl b18)), (b26, .inl (G.2 1, 4, .inr (.inl b34))), (b1, .inr (5, [.int b19, .int b20, .ref b21, .ref b22, .ref b23, .ref b24, .ref b25, .ref b26, .int b27, .ref b28, .ref b29, .ref b30, .ref b31, .ref b32, .ref b33])), (b28, .inl (G.2 0, 240, .inl b35)), (b32, .inl (G.2 0, 242, .inl b36)), (b4, .inr (6, [.int b14, .int 4, .int 100, .ref b15, .ref b16])), (b15, .inl (G.2 1, 400, .inr (.inl b17))), (b3, .inr (6, [.int b10, .int 4, .int 10, .ref b11, .ref b12])), (b11, .inl (G.2 1, 40, .inr (.inl f_63)))] H → va_D A [(b0, .inr (7, [.ref b2, .ref b3, .ref b4, .ref b5, .ref b6, .ref b7, .ref b8, .ref b9])), (b6, .inl (G.2 0, 100, .inl b18)), (b26, .inl (G.2 1, 4, .inr (.inl b34))), (b1, .inr (5, [.int b19, .int b20, .ref b21, .ref b22, .ref b23, .ref b24, .ref b25, .ref b26, .int b27, .ref b28, .ref b29, .ref b30, .ref b31, .ref b32, .ref b33])), (b28, .inl (G.2 0, 240, .inl b35)), (b32, .inl (G.2 0, 242, .inl b36)), (b4, .inr (6, [.int b14, .int 4, .int 100, .ref b15, .ref b16])), (b15, .inl (G.2 1, 400, .inr (.inl b17))), (b3, .inr (6, [.int b10, .int 4, .int 10, .ref b11, .ref b12])), (b11, .inl (G.2 1, 40, .inr (.inl f_63)))] → va_S A s.heap H locs → lv_has ls 5 [(4, .int y_84), (3, .int y_52), (2, .int y_85), (0, .ref b0), (1, .ref b1)] → W p l e m_s2_Words_takenNext s m ([.ref b0, .ref b1] : List Value).toArray below meth c H locs 0 0 (MQ below (zQ G (fun v w => ∃ (e0 : Int32), ∃ (e1 : Nat → Int64), v = some (.int e0) ∧ w = [(b0, .inr (7, [.ref b2, .ref b3, .ref b4, .ref b5, .ref b6, .ref b7, .ref b8, .ref b9])), (b3, .inr (6, [.int b10, .int 4, .int 10, .ref b11, .ref b12])), (b11, .inl (G.2 1, 40, .inr (.inl e1))), (b4, .inr (6, [.int b14, .int 4, .int 100, .ref b15, .ref b16])), (b15, .inl (G.2 1, 400, .inr (.inl b17))), (b6, .inl (G.2 0, 100, .inl b18)), (b1, .inr (5, [.int b19, .int b20, .ref b21, .ref b22, .ref b23, .ref b24, .ref b25, .ref b26, .int b27, .ref b28, .ref b29, .ref b30, .ref b31, .ref b32, .ref b33])), (b26, .inl (G.2 1, 4, .inr (.inl b34))), (b28, .inl (G.2 0, 240, .inl b35)), (b32, .inl (G.2 0, 242, .inl b36))] ∧ (zqa qB e1)) A) ([.ref b0, .ref b1] : List Value).toArray s m_s2_Words_takenNext.cells m_s2_Words_takenNext.slots A) (F0 m 39 ls []) by
        exact key 11 (0) (y_53) _ _ _ (zI.wk (l' := 0) (h' := 10) zc_0 (by decide)) (zm_upi (zI.wk (l' := 0) (h' := 10) zc_0 (by decide)) (by decide)) hP hD hS (lv_sub hl [0, 1, 2, 3, 4] rfl)
      intro k_83
      induction k_83 with
      | zero =>
        intro y_84 y_85 H locs ls hy_84 hmk_83 hP hD hS hl
        exact (zm_up0 hy_84 hmk_83).elim
      | succ k_83 ihk_83 =>
        intro y_84 y_85 H locs ls hy_84 hmk_83 hP hD hS hl
        refine lv_iload hx hb d_Words_takenNext_39 (lv_at hl 0 rfl) ?_
        refine lv_bipush (v := 10) hx hb d_Words_takenNext_41 (by decide) ?_
        refine lv_icmp_ge (tgt := 75) hx hb d_Words_takenNext_43 (by decide) (fun hc_86 => ?_) (fun hc_86 => ?_)
        · have _nhc_86 := hc_86
          have ni_87 := (fa_le _ _).mp hc_86
          rw [li_10] at ni_87
          have hv_88 : zI y_84 10 10 := zI.le_r zc_10 hy_84 hc_86 (by decide)
          obtain ⟨v_89, ev_89⟩ : ∃ z : Int32, z = y_52 + 1 := ⟨_, rfl⟩
          obtain ⟨qv_89, hv_89⟩ := zI_add (l := 1) (h := 100) hv_58 zc_1 ev_89 (by decide)
          rw [li_1] at qv_89
          refine lv_iinc (v := v_89) (lv' := [(3, .int v_89), (4, .int y_84), (2, .int y_85), (0, .ref b0), (1, .ref b1)]) hx hb d_Words_takenNext_75 hl (k := 1) rfl (by rw [ev_89]; rfl) (by decide) rfl (fun ls hl => ?_)
          refine lv_goto (tgt := 4) hx hb d_Words_takenNext_78 (by decide) ?_
          exact ihk_51 (v_89) (y_85) (f_63) _ _ _ (zI.wk (l' := 0) (h' := 100) hv_89 (by decide)) hf_63 (zm_up qv_89 hmk_51 (by decide)) (hP.sub [0, 8, 9, 6, 7, 1, 3, 2, 4, 5] rfl) (hD.sub [0, 8, 9, 6, 7, 1, 3, 2, 4, 5] (by decide) rfl) hS (lv_sub hl [0, 2, 3, 4] rfl)
        · have _nhc_86 := hc_86
          have ni_90 := (fa_lt _ _).mp (zi_nle hc_86)
          rw [li_10] at ni_90
          have hv_91 : zI y_84 0 9 := zI.lt_l hy_84 zc_10 (zi_nle hc_86) (by decide)
          refine lv_aload_n hx hb d_Words_takenNext_46 rfl (lv_at hl 4 rfl) ?_
          refine lv_aload_n hx hb d_Words_takenNext_47 rfl (lv_at hl 3 rfl) ?_
          refine va_get (D := G.1) (ci := 7) (v := .ref b3) (C := R_Words) (T := F_Words) (N := 8) hx hb hts i_Words hown hK hP 0 rfl rfl 1 (by decide) (hts _ q267) (fun _ h9 => h9) rfl d_Words_takenNext_48 ?_
          refine lv_iload hx hb d_Words_takenNext_51 (lv_at hl 0 rfl) ?_
          refine lv_iconst (v := 0) hx hb d_Words_takenNext_53 (by decide) ?_
          refine z_callV (index := 62) (As := [.ref b3, .int y_84, .int 0]) (rest := []) (wr := [(b0, .inr (7, [.ref b2, .ref b3, .ref b4, .ref b5, .ref b6, .ref b7, .ref b8, .ref b9])), (b6, .inl (G.2 0, 100, .inl b18)), (b28, .inl (G.2 0, 240, .inl b35)), (b32, .inl (G.2 0, 242, .inl b36)), (b4, .inr (6, [.int b14, .int 4, .int 100, .ref b15, .ref b16])), (b15, .inl (G.2 1, 400, .inr (.inl b17)))]) Z (s6_Machine_takes l G (b1) (b3) (y_84) (0) (b19) (b20) (b21) (b22) (b23) (b24) (b25) (b26) (b27) (b28) (b29) (b30) (b31) (b32) (b33) (b34) (b10) (b11) (b12) (f_63) hv_91 zc_0 hb19 hb20 hb27 hb10 hf_63) hl.1 q848 q743 q744 q6 q745 ⟨by decide, by decide, by show _ = some 3; decide +kernel⟩ ⟨Nat.le_of_ble_eq_true rfl, Nat.le_of_ble_eq_true rfl⟩ ⟨Nat.le_of_ble_eq_true rfl, Nat.le_of_ble_eq_true rfl⟩ rfl (Nat.le_of_ble_eq_true rfl) d_Words_takenNext_54 hP hD hS hA 3 5 rfl rfl rfl [3, 2, 8, 9] [0, 1, 4, 5, 6, 7] rfl rfl rfl rfl (by decide) (fun v w1 H locs hw_92 hP hD hS => ?_)
          obtain ⟨x_93, rfl, rfl, hx_93⟩ := hw_92
          have hP : va_P G.1 classes [(b0, .inr (7, [.ref b2, .ref b3, .ref b4, .ref b5, .ref b6, .ref b7, .ref b8, .ref b9])), (b6, .inl (G.2 0, 100, .inl b18)), (b28, .inl (G.2 0, 240, .inl b35)), (b32, .inl (G.2 0, 242, .inl b36)), (b4, .inr (6, [.int b14, .int 4, .int 100, .ref b15, .ref b16])), (b15, .inl (G.2 1, 400, .inr (.inl b17))), (b1, .inr (5, [.int b19, .int b20, .ref b21, .ref b22, .ref b23, .ref b24, .ref b25, .ref b26, .int b27, .ref b28, .ref b29, .ref b30, .ref b31, .ref b32, .ref b33])), (b26, .inl (G.2 1, 4, .inr (.inl b34))), (b3, .inr (6, [.int b10, .int 4, .int 10, .ref b11, .ref b12])), (b11, .inl (G.2 1, 40, .inr (.inl f_63)))] H := hP
          have hD := z_tie hP hD rfl
          refine W.widen (k := 0) (n := 0) (Nat.le_of_ble_eq_true rfl) (Nat.le_of_ble_eq_true rfl) ?_
          refine lv_if_eq (tgt := 69) hx hb d_Words_takenNext_57 (by decide) (fun hc_94 => ?_) (fun hc_94 => ?_)
          · have _nhc_94 := hc_94
            have ni_95 := (fa_eq _ _).mp hc_94
            rw [li_0] at ni_95
            have hv_96 : zI x_93 0 0 := zI.eq_l hx_93 zc_0 hc_94
            obtain ⟨v_97, ev_97⟩ : ∃ z : Int32, z = y_84 + 1 := ⟨_, rfl⟩
            obtain ⟨qv_97, hv_97⟩ := zI_add (l := 1) (h := 10) hv_91 zc_1 ev_97 (by decide)
            rw [li_1] at qv_97
            refine lv_iinc (v := v_97) (lv' := [(4, .int v_97), (3, .int y_52), (2, .int y_85), (0, .ref b0), (1, .ref b1)]) hx hb d_Words_takenNext_69 hl (k := 0) rfl (by rw [ev_97]; rfl) (by decide) rfl (fun ls hl => ?_)
            refine lv_goto (tgt := 39) hx hb d_Words_takenNext_72 (by decide) ?_
            exact ihk_83 (v_97) (y_85) _ _ _ (zI.wk (l' := 0) (h' := 10) hv_97 (by decide)) (zm_up qv_97 hmk_83 (by decide)) (hP.sub [0, 1, 7, 6, 2, 3, 4, 5, 8, 9] rfl) (hD.sub [0, 1, 7, 6, 2, 3, 4, 5, 8, 9] (by decide) rfl) hS (lv_sub hl [0, 1, 2, 3, 4] rfl)
          · have _nhc_94 := hc_94
            have ni_98 : ¬ (x_93 : Int32).toInt = (0 : Int32).toInt := fun z => hc_94 ((fa_eq _ _).mpr z)
            simp only [li_0] at ni_98
            have hv_99 : zI x_93 1 1 := zI.ne_lo hx_93 zc_0 hc_94 (by decide)
            refine lv_iload_n hx hb d_Words_takenNext_60 rfl (lv_at hl 2 rfl) ?_
            refine lv_aload_n hx hb d_Words_takenNext_61 rfl (lv_at hl 3 rfl) ?_
            refine va_get (D := G.1) (ci := 7) (v := .ref b6) (C := R_Words) (T := F_Words) (N := 8) hx hb hts i_Words hown hK hP 0 rfl rfl 4 (by decide) (hts _ q270) (fun _ h9 => h9) rfl d_Words_takenNext_62 ?_
            refine lv_iload_n hx hb d_Words_takenNext_65 rfl (lv_at hl 1 rfl) ?_
            refine va_iald hx hb hK hP 1 0 rfl rfl (zI.inn hv_58 (by decide)) d_Words_takenNext_66 ?_
            refine lv_topi (fun v_100 ev_100 => ?_)
            refine lv_iadd hx hb d_Words_takenNext_67 ?_
            refine lv_topi (fun v_101 ev_101 => ?_)
            refine lv_istore_n (lv' := [(2, .int v_101), (4, .int y_84), (3, .int y_52), (0, .ref b0), (1, .ref b1)]) hx hb d_Words_takenNext_68 rfl hl (by decide) rfl (fun ls hl => ?_)
            obtain ⟨v_102, ev_102⟩ : ∃ z : Int32, z = y_84 + 1 := ⟨_, rfl⟩
            obtain ⟨qv_102, hv_102⟩ := zI_add (l := 1) (h := 10) hv_91 zc_1 ev_102 (by decide)
            rw [li_1] at qv_102
            refine lv_iinc (v := v_102) (lv' := [(4, .int v_102), (2, .int v_101), (3, .int y_52), (0, .ref b0), (1, .ref b1)]) hx hb d_Words_takenNext_69 hl (k := 1) rfl (by rw [ev_102]; rfl) (by decide) rfl (fun ls hl => ?_)
            refine lv_goto (tgt := 39) hx hb d_Words_takenNext_72 (by decide) ?_
            exact ihk_83 (v_102) (v_101) _ _ _ (zI.wk (l' := 0) (h' := 10) hv_102 (by decide)) (zm_up qv_102 hmk_83 (by decide)) (hP.sub [0, 1, 7, 6, 2, 3, 4, 5, 8, 9] rfl) (hD.sub [0, 1, 7, 6, 2, 3, 4, 5, 8, 9] (by decide) rfl) hS (lv_sub hl [0, 2, 1, 3, 4] rfl)
theorem d_Words_number_105 : decode prog_12_method_2_code 105 = .ok (.ireturn, 1) := by decide +kernel
theorem d_Words_goOn_125 : decode prog_12_method_3_code 125 = .ok (.ireturn, 1) := by decide +kernel
abbrev m_s3_Sets_isEmpty : Room := { frames := 0, cells := 0, slots := 0, locals := 0 }
set_option maxHeartbeats 4000000 in
set_option maxRecDepth 100000 in
theorem s3_Sets_isEmpty (l : Launch) (G : zG) (b0 : Nat) (b1 : Int32) (b2 : Int32) (b3 : Nat) (b4 : Nat) (b5 : Nat → Int64) (hb1 : zI b1 0 9) (hb2 : zI b2 0 10) (hb5 : zqa qB b5) : zM l G y_Sets_isEmpty prog_8_method_7_code 3 (Option.some Jvm.ClassFile.FieldType.boolean) m_s3_Sets_isEmpty [.ref b0, .int b1] [(b0, .inr (6, [.int b2, .int 4, .int 10, .ref b3, .ref b4])), (b3, .inl (G.2 1, 40, .inr (.inl b5)))] (fun v w => ∃ (e0 : Int32), v = some (.int e0) ∧ w = [(b0, .inr (6, [.int b2, .int 4, .int 10, .ref b3, .ref b4])), (b3, .inl (G.2 1, 40, .inr (.inl b5)))] ∧ (zI e0 0 1)) := by
  refine z_start (by decide +kernel) (Nat.le_of_ble_eq_true rfl) ?_
  intro p e s m below meth c A Z hr hnm hA hP hD hS ls hl
  have Z : zC p s m _ meth c prog_8_method_7_code 3 "TraceMachines$StateSets" G := Z
  obtain ⟨hx, hb, hml, hown, hts, hK, hN, hlocks⟩ := id Z
  have hl : lv_has ls 3 [(0, .ref b0), (1, .int b1)] := hl
  refine lv_iconst (v := 0) hx hb d_Sets_isEmpty_0 (by decide) ?_
  refine lv_istore_n (lv' := [(2, .int 0), (0, .ref b0), (1, .int b1)]) hx hb d_Sets_isEmpty_1 rfl hl (by decide) rfl (fun ls hl => ?_)
  suffices key : ∀ (k_16 : Nat) (y_17 : Int32) (H : Heap) (locs : List Loc) (ls : Array Slot), (zI y_17 0 4) → (4 : Int) - y_17.toInt < (k_16 : Int) → va_P G.1 classes [(b0, .inr (6, [.int b2, .int 4, .int 10, .ref b3, .ref b4])), (b3, .inl (G.2 1, 40, .inr (.inl b5)))] H → va_D A [(b0, .inr (6, [.int b2, .int 4, .int 10, .ref b3, .ref b4])), (b3, .inl (G.2 1, 40, .inr (.inl b5)))] → va_S A s.heap H locs → lv_has ls 3 [(2, .int y_17), (0, .ref b0), (1, .int b1)] → W p l e m_s3_Sets_isEmpty s m ([.ref b0, .int b1] : List Value).toArray below meth c H locs 0 0 (MQ below (zQ G (fun v w => ∃ (e0 : Int32), v = some (.int e0) ∧ w = [(b0, .inr (6, [.int b2, .int 4, .int 10, .ref b3, .ref b4])), (b3, .inl (G.2 1, 40, .inr (.inl b5)))] ∧ (zI e0 0 1)) A) ([.ref b0, .int b1] : List Value).toArray s m_s3_Sets_isEmpty.cells m_s3_Sets_isEmpty.slots A) (F0 m 2 ls []) by
    exact key 5 (0) _ _ _ (zI.wk (l' := 0) (h' := 4) zc_0 (by decide)) (zm_upi (zI.wk (l' := 0) (h' := 4) zc_0 (by decide)) (by decide)) hP hD hS (lv_sub hl [0, 1, 2] rfl)
  intro k_16
  induction k_16 with
  | zero =>
    intro y_17 H locs ls hy_17 hmk_16 hP hD hS hl
    exact (zm_up0 hy_17 hmk_16).elim
  | succ k_16 ihk_16 =>
    intro y_17 H locs ls hy_17 hmk_16 hP hD hS hl
    refine lv_iload_n hx hb d_Sets_isEmpty_2 rfl (lv_at hl 0 rfl) ?_
    refine lv_aload_n hx hb d_Sets_isEmpty_3 rfl (lv_at hl 1 rfl) ?_
    refine va_get (D := G.1) (ci := 6) (v := .int 4) (C := R_Sets) (T := F_Sets) (N := 5) hx hb hts i_Sets hown hK hP 0 rfl rfl 1 (by decide) (hts _ q242) (fun _ h9 => h9) rfl d_Sets_isEmpty_4 ?_
    refine lv_icmp_ge (tgt := 36) hx hb d_Sets_isEmpty_7 (by decide) (fun hc_18 => ?_) (fun hc_18 => ?_)
    · have _nhc_18 := hc_18
      have ni_19 := (fa_le _ _).mp hc_18
      rw [li_4] at ni_19
      have hv_20 : zI y_17 4 4 := zI.le_r zc_4 hy_17 hc_18 (by decide)
      refine lv_iconst (v := 1) hx hb d_Sets_isEmpty_36 (by decide) ?_
      exact z_zret hx hb hr hlocks rfl hP hD hS (Nat.le_of_ble_eq_true rfl) (Nat.le_of_ble_eq_true rfl) d_Sets_isEmpty_37 ⟨1, rfl, rfl, (zI.wk (l' := 0) (h' := 1) zc_1 (by decide))⟩
    · have _nhc_18 := hc_18
      have ni_21 := (fa_lt _ _).mp (zi_nle hc_18)
      rw [li_4] at ni_21
      have hv_22 : zI y_17 0 3 := zI.lt_l hy_17 zc_4 (zi_nle hc_18) (by decide)
      refine lv_aload_n hx hb d_Sets_isEmpty_10 rfl (lv_at hl 1 rfl) ?_
      refine va_get (D := G.1) (ci := 6) (v := .ref b3) (C := R_Sets) (T := F_Sets) (N := 5) hx hb hts i_Sets hown hK hP 0 rfl rfl 3 (by decide) (hts _ q244) (fun _ h9 => h9) rfl d_Sets_isEmpty_11 ?_
      refine lv_iload_n hx hb d_Sets_isEmpty_14 rfl (lv_at hl 2 rfl) ?_
      refine lv_aload_n hx hb d_Sets_isEmpty_15 rfl (lv_at hl 1 rfl) ?_
      refine va_get (D := G.1) (ci := 6) (v := .int 4) (C := R_Sets) (T := F_Sets) (N := 5) hx hb hts i_Sets hown hK hP 0 rfl rfl 1 (by decide) (hts _ q242) (fun _ h9 => h9) rfl d_Sets_isEmpty_16 ?_
      refine lv_imul hx hb d_Sets_isEmpty_19 ?_
      refine lv_topi (fun v_23 ev_23 => ?_)
      obtain ⟨qv_23, hv_23⟩ := zI_mul (l := 0) (h := 36) hb1 zc_4 ev_23 (by decide)
      rw [li_4] at qv_23
      refine lv_iload_n hx hb d_Sets_isEmpty_20 rfl (lv_at hl 0 rfl) ?_
      refine lv_iadd hx hb d_Sets_isEmpty_21 ?_
      refine lv_topi (fun v_24 ev_24 => ?_)
      obtain ⟨qv_24, hv_24⟩ := zI_add (l := 0) (h := 39) hv_23 hv_22 ev_24 (by decide)
      refine va_lald hx hb hK hP 1 1 rfl rfl (zI.inn hv_24 (by decide)) d_Sets_isEmpty_22 ?_
      refine lv_topl (fun v_25 ev_25 => ?_)
      have bv_25 := zQB.ld hb5 hv_24 ev_25 (by decide)
      refine lv_lconst (v := 0) hx hb d_Sets_isEmpty_23 (by decide) ?_
      refine W.lcmp hx hb d_Sets_isEmpty_24 ?_
      refine lv_topi (fun v_26 ev_26 => ?_)
      refine lv_if_eq (tgt := 30) hx hb d_Sets_isEmpty_25 (by decide) (fun hc_27 => ?_) (fun hc_27 => ?_)
      · have ni_28 := hc_27
        rw [ev_26] at ni_28
        simp only [lg_cmp_lt, lg_cmp_le, lg_cmp_gt, lg_cmp_ge, lg_cmp_eq, fa_lt64, fa_le64, fa_eq64, Int32.toInt_toInt64, ll_0] at ni_28
        have hv_29 : zJ v_25 0 0 := by have _a := ni_28; have _b := (zJ_all v_25); have _c := zcl_0; simp only [Int32.toInt_toInt64] at *; exact ⟨by omega, by omega⟩
        obtain ⟨v_30, ev_30⟩ : ∃ z : Int32, z = y_17 + 1 := ⟨_, rfl⟩
        obtain ⟨qv_30, hv_30⟩ := zI_add (l := 1) (h := 4) hv_22 zc_1 ev_30 (by decide)
        rw [li_1] at qv_30
        refine lv_iinc (v := v_30) (lv' := [(2, .int v_30), (0, .ref b0), (1, .int b1)]) hx hb d_Sets_isEmpty_30 hl (k := 0) rfl (by rw [ev_30]; rfl) (by decide) rfl (fun ls hl => ?_)
        refine lv_goto (tgt := 2) hx hb d_Sets_isEmpty_33 (by decide) ?_
        exact ihk_16 (v_30) _ _ _ (zI.wk (l' := 0) (h' := 4) hv_30 (by decide)) (zm_up qv_30 hmk_16 (by decide)) hP hD hS (lv_sub hl [0, 1, 2] rfl)
      · have ni_31 := hc_27
        rw [ev_26] at ni_31
        simp only [lg_cmp_lt, lg_cmp_le, lg_cmp_gt, lg_cmp_ge, lg_cmp_eq, fa_lt64, fa_le64, fa_eq64, Int32.toInt_toInt64, ll_0] at ni_31
        refine lv_iconst (v := 0) hx hb d_Sets_isEmpty_28 (by decide) ?_
        exact z_zret hx hb hr hlocks rfl hP hD hS (Nat.le_of_ble_eq_true rfl) (Nat.le_of_ble_eq_true rfl) d_Sets_isEmpty_29 ⟨0, rfl, rfl, (zI.wk (l' := 0) (h' := 1) zc_0 (by decide))⟩
theorem d_Words_comeTo_29 : decode prog_12_method_4_code 29 = .ok (.ireturn, 1) := by decide +kernel
theorem d_Words_comeTo_57 : decode prog_12_method_4_code 57 = .ok (.ireturn, 1) := by decide +kernel
abbrev m_s2_Words_comeTo : Room := { frames := 3, cells := 0, slots := 0, locals := 67 }
set_option maxHeartbeats 4000000 in
set_option maxRecDepth 100000 in
theorem s2_Words_comeTo (l : Launch) (G : zG) (b0 : Nat) (b1 : Int32) (b2 : Int32) (b3 : Nat) (b4 : Nat) (b5 : Nat) (b6 : Nat) (b7 : Nat) (b8 : Nat) (b9 : Nat) (b10 : Nat) (b11 : Int32) (b12 : Nat) (b13 : Nat) (b14 : Nat → Int64) (b15 : Int32) (b16 : Nat) (b17 : Nat) (b18 : Nat → Int64) (b19 : Nat → Int32) (b20 : Nat → Int32) (hb1 : zI b1 0 9) (hb11 : zI b11 0 10) (hb15 : zI b15 0 100) (hb14 : zqa qB b14) (hb18 : zqa qB b18) (hb19 : zR b19 (-1) 99) : zM l G y_Words_comeTo prog_12_method_4_code 5 (Option.some Jvm.ClassFile.FieldType.boolean) m_s2_Words_comeTo [.ref b0, .int b1, .int b2] [(b0, .inr (7, [.ref b3, .ref b4, .ref b5, .ref b6, .ref b7, .ref b8, .ref b9, .ref b10])), (b4, .inr (6, [.int b11, .int 4, .int 10, .ref b12, .ref b13])), (b12, .inl (G.2 1, 40, .inr (.inl b14))), (b6, .inr (6, [.int b15, .int 4, .int 100, .ref b16, .ref b17])), (b16, .inl (G.2 1, 400, .inr (.inl b18))), (b17, .inl (G.2 0, 256, .inl b19)), (b8, .inl (G.2 0, 100, .inl b20))] (fun v w => ∃ (e0 : Int32), ∃ (e1 : Int32), ∃ (e2 : Nat → Int64), ∃ (e3 : Nat → Int32), ∃ (e4 : Nat → Int32), v = some (.int e0) ∧ w = [(b0, .inr (7, [.ref b3, .ref b4, .ref b5, .ref b6, .ref b7, .ref b8, .ref b9, .ref b10])), (b4, .inr (6, [.int b11, .int 4, .int 10, .ref b12, .ref b13])), (b12, .inl (G.2 1, 40, .inr (.inl b14))), (b6, .inr (6, [.int e1, .int 4, .int 100, .ref b16, .ref b17])), (b16, .inl (G.2 1, 400, .inr (.inl e2))), (b17, .inl (G.2 0, 256, .inl e3)), (b8, .inl (G.2 0, 100, .inl e4))] ∧ (zI e0 0 1) ∧ (zI e1 0 100) ∧ (zqa qB e2) ∧ (zR e3 (-1) 99)) := by
  refine z_start (by decide +kernel) (Nat.le_of_ble_eq_true rfl) ?_
  intro p e s m below meth c A Z hr hnm hA hP hD hS ls hl
  have Z : zC p s m _ meth c prog_12_method_4_code 5 "TraceMachines$Words" G := Z
  obtain ⟨hx, hb, hml, hown, hts, hK, hN, hlocks⟩ := id Z
  have hl : lv_has ls 5 [(0, .ref b0), (1, .int b1), (2, .int b2)] := hl
  refine lv_aload_n hx hb d_Words_comeTo_0 rfl (lv_at hl 0 rfl) ?_
  refine va_get (D := G.1) (ci := 7) (v := .ref b6) (C := R_Words) (T := F_Words) (N := 8) hx hb hts i_Words hown hK hP 0 rfl rfl 3 (by decide) (hts _ q269) (fun _ h9 => h9) rfl d_Words_comeTo_1 ?_
  refine va_get (D := G.1) (ci := 6) (v := .int b15) (C := R_Sets) (T := F_Sets) (N := 5) hx hb hts i_Sets hown hK hP 3 rfl rfl 0 (by decide) (hts _ q240) (fun _ h9 => h9) rfl d_Words_comeTo_4 ?_
  refine lv_istore_n (lv' := [(3, .int b15), (0, .ref b0), (1, .int b1), (2, .int b2)]) hx hb d_Words_comeTo_7 rfl hl (by decide) rfl (fun ls hl => ?_)
  refine lv_aload_n hx hb d_Words_comeTo_8 rfl (lv_at hl 1 rfl) ?_
  refine va_get (D := G.1) (ci := 7) (v := .ref b6) (C := R_Words) (T := F_Words) (N := 8) hx hb hts i_Words hown hK hP 0 rfl rfl 3 (by decide) (hts _ q269) (fun _ h9 => h9) rfl d_Words_comeTo_9 ?_
  refine lv_aload_n hx hb d_Words_comeTo_12 rfl (lv_at hl 1 rfl) ?_
  refine va_get (D := G.1) (ci := 7) (v := .ref b4) (C := R_Words) (T := F_Words) (N := 8) hx hb hts i_Words hown hK hP 0 rfl rfl 1 (by decide) (hts _ q267) (fun _ h9 => h9) rfl d_Words_comeTo_13 ?_
  refine lv_iload_n hx hb d_Words_comeTo_16 rfl (lv_at hl 2 rfl) ?_
  refine z_callV (index := 58) (As := [.ref b4, .int b1]) (rest := []) (wr := [(b0, .inr (7, [.ref b3, .ref b4, .ref b5, .ref b6, .ref b7, .ref b8, .ref b9, .ref b10])), (b8, .inl (G.2 0, 100, .inl b20))]) Z (s4_Sets_indexOf l G (b6) (b4) (b1) (b15) (b16) (b17) (b18) (b19) (b11) (b12) (b13) (b14) hb1 hb15 hb11 hb18 hb19 hb14) hl.1 q830 q831 q832 q7 q833 ⟨by decide, by decide, by show _ = some 2; decide +kernel⟩ ⟨Nat.le_of_ble_eq_true rfl, Nat.le_of_ble_eq_true rfl⟩ ⟨Nat.le_of_ble_eq_true rfl, Nat.le_of_ble_eq_true rfl⟩ rfl (Nat.le_of_ble_eq_true rfl) d_Words_comeTo_17 hP hD hS hA 3 6 rfl rfl rfl [3, 4, 5, 1, 2] [0, 6] rfl rfl rfl rfl (by decide) (fun v w1 H locs hw_1 hP hD hS => ?_)
  obtain ⟨x_2, x_3, f_4, f_5, rfl, rfl, hx_2, hx_3, hf_4, hf_5, hfx_6⟩ := hw_1
  have hP : va_P G.1 classes [(b0, .inr (7, [.ref b3, .ref b4, .ref b5, .ref b6, .ref b7, .ref b8, .ref b9, .ref b10])), (b8, .inl (G.2 0, 100, .inl b20)), (b6, .inr (6, [.int x_3, .int 4, .int 100, .ref b16, .ref b17])), (b16, .inl (G.2 1, 400, .inr (.inl f_4))), (b17, .inl (G.2 0, 256, .inl f_5)), (b4, .inr (6, [.int b11, .int 4, .int 10, .ref b12, .ref b13])), (b12, .inl (G.2 1, 40, .inr (.inl b14)))] H := hP
  have hD := z_tie hP hD rfl
  refine W.widen (k := 0) (n := 0) (Nat.le_of_ble_eq_true rfl) (Nat.le_of_ble_eq_true rfl) ?_
  refine lv_istore (lv' := [(4, .int x_2), (3, .int b15), (0, .ref b0), (1, .int b1), (2, .int b2)]) hx hb d_Words_comeTo_20 hl (by decide) rfl (fun ls hl => ?_)
  refine lv_iload hx hb d_Words_comeTo_22 (lv_at hl 0 rfl) ?_
  refine lv_iconst (v := (-1)) hx hb d_Words_comeTo_24 (by decide) ?_
  refine lv_icmp_ne (tgt := 30) hx hb d_Words_comeTo_25 (by decide) (fun hc_7 => ?_) (fun hc_7 => ?_)
  · have _nhc_7 := hc_7
    have ni_8 : ¬ (x_2 : Int32).toInt = ((-1) : Int32).toInt := fun z => hc_7 ((fa_eq _ _).mpr z)
    simp only [li_m1] at ni_8
    have hv_9 : zI x_2 0 99 := zI.ne_lo hx_2 zc_m1 hc_7 (by decide)
    refine lv_aload_n hx hb d_Words_comeTo_30 rfl (lv_at hl 2 rfl) ?_
    refine va_get (D := G.1) (ci := 7) (v := .ref b8) (C := R_Words) (T := F_Words) (N := 8) hx hb hts i_Words hown hK hP 0 rfl rfl 5 (by decide) (hts _ q271) (fun _ h9 => h9) rfl d_Words_comeTo_31 ?_
    refine lv_iload hx hb d_Words_comeTo_34 (lv_at hl 0 rfl) ?_
    refine lv_iload hx hb d_Words_comeTo_36 (lv_at hl 0 rfl) ?_
    refine lv_iload_n hx hb d_Words_comeTo_38 rfl (lv_at hl 1 rfl) ?_
    refine lv_icmp_ne (tgt := 46) hx hb d_Words_comeTo_39 (by decide) (fun hc_10 => ?_) (fun hc_10 => ?_)
    · have _nhc_10 := hc_10
      have ni_11 : ¬ (x_2 : Int32).toInt = (b15 : Int32).toInt := fun z => hc_10 ((fa_eq _ _).mpr z)
      refine lv_aload_n hx hb d_Words_comeTo_46 rfl (lv_at hl 2 rfl) ?_
      refine va_get (D := G.1) (ci := 7) (v := .ref b8) (C := R_Words) (T := F_Words) (N := 8) hx hb hts i_Words hown hK hP 0 rfl rfl 5 (by decide) (hts _ q271) (fun _ h9 => h9) rfl d_Words_comeTo_47 ?_
      refine lv_iload hx hb d_Words_comeTo_50 (lv_at hl 0 rfl) ?_
      refine va_iald hx hb hK hP 1 0 rfl rfl (zI.inn hv_9 (by decide)) d_Words_comeTo_52 ?_
      refine lv_topi (fun v_12 ev_12 => ?_)
      refine lv_iload_n hx hb d_Words_comeTo_53 rfl (lv_at hl 4 rfl) ?_
      refine lv_iadd hx hb d_Words_comeTo_54 ?_
      refine lv_topi (fun v_13 ev_13 => ?_)
      refine va_iast hx hb hK hP hD hS 1 0 rfl rfl (zI.inn hv_9 (by decide)) d_Words_comeTo_55 (fun H locs hP hD hS => ?_)
      obtain ⟨f_14, gf_14, uf_14, hP, hD⟩ := z_newFu 1 hP hD rfl
      have hP : va_P G.1 classes [(b0, .inr (7, [.ref b3, .ref b4, .ref b5, .ref b6, .ref b7, .ref b8, .ref b9, .ref b10])), (b8, .inl (G.2 0, 100, .inl f_14)), (b6, .inr (6, [.int x_3, .int 4, .int 100, .ref b16, .ref b17])), (b16, .inl (G.2 1, 400, .inr (.inl f_4))), (b17, .inl (G.2 0, 256, .inl f_5)), (b4, .inr (6, [.int b11, .int 4, .int 10, .ref b12, .ref b13])), (b12, .inl (G.2 1, 40, .inr (.inl b14)))] H := hP
      have hD := z_tie hP hD rfl
      refine lv_iconst (v := 1) hx hb d_Words_comeTo_56 (by decide) ?_
      exact z_zret hx hb hr hlocks rfl (hP.sub [0, 5, 6, 2, 3, 4, 1] rfl) (hD.sub [0, 5, 6, 2, 3, 4, 1] (by decide) rfl) hS (Nat.le_of_ble_eq_true rfl) (Nat.le_of_ble_eq_true rfl) d_Words_comeTo_57 ⟨1, x_3, f_4, f_5, f_14, rfl, rfl, (zI.wk (l' := 0) (h' := 1) zc_1 (by decide)), hx_3, hf_4, hf_5⟩
    · have _nhc_10 := hc_10
      have ni_15 := (fa_eq _ _).mp hc_10
      have hv_16 : zI b15 0 99 := zI.eq_l hb15 hv_9 hc_10.symm
      refine lv_iload_n hx hb d_Words_comeTo_42 rfl (lv_at hl 4 rfl) ?_
      refine lv_goto (tgt := 55) hx hb d_Words_comeTo_43 (by decide) ?_
      refine va_iast hx hb hK hP hD hS 1 0 rfl rfl (zI.inn hv_9 (by decide)) d_Words_comeTo_55 (fun H locs hP hD hS => ?_)
      obtain ⟨f_17, gf_17, uf_17, hP, hD⟩ := z_newFu 1 hP hD rfl
      have hP : va_P G.1 classes [(b0, .inr (7, [.ref b3, .ref b4, .ref b5, .ref b6, .ref b7, .ref b8, .ref b9, .ref b10])), (b8, .inl (G.2 0, 100, .inl f_17)), (b6, .inr (6, [.int x_3, .int 4, .int 100, .ref b16, .ref b17])), (b16, .inl (G.2 1, 400, .inr (.inl f_4))), (b17, .inl (G.2 0, 256, .inl f_5)), (b4, .inr (6, [.int b11, .int 4, .int 10, .ref b12, .ref b13])), (b12, .inl (G.2 1, 40, .inr (.inl b14)))] H := hP
      have hD := z_tie hP hD rfl
      refine lv_iconst (v := 1) hx hb d_Words_comeTo_56 (by decide) ?_
      exact z_zret hx hb hr hlocks rfl (hP.sub [0, 5, 6, 2, 3, 4, 1] rfl) (hD.sub [0, 5, 6, 2, 3, 4, 1] (by decide) rfl) hS (Nat.le_of_ble_eq_true rfl) (Nat.le_of_ble_eq_true rfl) d_Words_comeTo_57 ⟨1, x_3, f_4, f_5, f_17, rfl, rfl, (zI.wk (l' := 0) (h' := 1) zc_1 (by decide)), hx_3, hf_4, hf_5⟩
  · have _nhc_7 := hc_7
    have ni_18 := (fa_eq _ _).mp hc_7
    rw [li_m1] at ni_18
    have hv_19 : zI x_2 (-1) (-1) := zI.eq_l hx_2 zc_m1 hc_7
    refine lv_iconst (v := 0) hx hb d_Words_comeTo_28 (by decide) ?_
    exact z_zret hx hb hr hlocks rfl (hP.sub [0, 5, 6, 2, 3, 4, 1] rfl) (hD.sub [0, 5, 6, 2, 3, 4, 1] (by decide) rfl) hS (Nat.le_of_ble_eq_true rfl) (Nat.le_of_ble_eq_true rfl) d_Words_comeTo_29 ⟨0, x_3, f_4, f_5, b20, rfl, rfl, (zI.wk (l' := 0) (h' := 1) zc_0 (by decide)), hx_3, hf_4, hf_5⟩
theorem d_Words_goOn_75 : decode prog_12_method_3_code 75 = .ok (.ireturn, 1) := by decide +kernel
abbrev m_s2_Words_goOn : Room := { frames := 4, cells := 0, slots := 0, locals := 91 }
set_option maxHeartbeats 4000000 in
set_option maxRecDepth 100000 in
theorem s2_Words_goOn (l : Launch) (G : zG) (b0 : Nat) (b1 : Nat) (b2 : Nat) (b3 : Nat) (b4 : Nat) (b5 : Nat) (b6 : Nat) (b7 : Nat) (b8 : Nat) (b9 : Nat) (b10 : Int32) (b11 : Nat) (b12 : Nat) (b13 : Nat → Int64) (b14 : Int32) (b15 : Nat) (b16 : Nat) (b17 : Nat → Int64) (b18 : Nat → Int32) (b19 : Int32) (b20 : Nat) (b21 : Nat) (b22 : Nat → Int64) (b23 : Nat → Int32) (b24 : Nat → Int32) (b25 : Nat → Int32) (b26 : Int32) (b27 : Int32) (b28 : Nat) (b29 : Nat) (b30 : Nat) (b31 : Nat) (b32 : Nat) (b33 : Nat) (b34 : Int32) (b35 : Nat) (b36 : Nat) (b37 : Nat) (b38 : Nat) (b39 : Nat) (b40 : Nat) (b41 : Nat → Int32) (b42 : Nat → Int32) (hb10 : zI b10 0 10) (hb14 : zI b14 0 100) (hb19 : zI b19 0 100) (hb26 : zI b26 0 1) (hb27 : zI b27 0 241) (hb34 : zI b34 0 240) (hb13 : zqa qB b13) (hb17 : zqa qB b17) (hb18 : zR b18 (-1) 99) (hb22 : zqa qB b22) (hb23 : zR b23 (-1) 99) (hb41 : zK b41) (hb42 : zR b42 0 240) : zM l G y_Words_goOn prog_12_method_3_code 4 (Option.some Jvm.ClassFile.FieldType.boolean) m_s2_Words_goOn [.ref b0, .ref b1] [(b0, .inr (7, [.ref b2, .ref b3, .ref b4, .ref b5, .ref b6, .ref b7, .ref b8, .ref b9])), (b3, .inr (6, [.int b10, .int 4, .int 10, .ref b11, .ref b12])), (b11, .inl (G.2 1, 40, .inr (.inl b13))), (b4, .inr (6, [.int b14, .int 4, .int 100, .ref b15, .ref b16])), (b15, .inl (G.2 1, 400, .inr (.inl b17))), (b16, .inl (G.2 0, 256, .inl b18)), (b5, .inr (6, [.int b19, .int 4, .int 100, .ref b20, .ref b21])), (b20, .inl (G.2 1, 400, .inr (.inl b22))), (b21, .inl (G.2 0, 256, .inl b23)), (b6, .inl (G.2 0, 100, .inl b24)), (b7, .inl (G.2 0, 100, .inl b25)), (b1, .inr (5, [.int b26, .int b27, .ref b28, .ref b29, .ref b30, .ref b31, .ref b32, .ref b33, .int b34, .ref b35, .ref b36, .ref b37, .ref b38, .ref b39, .ref b40])), (b35, .inl (G.2 0, 240, .inl b41)), (b39, .inl (G.2 0, 242, .inl b42))] (fun v w => ∃ (e0 : Int32), ∃ (e1 : Nat), ∃ (e2 : Nat), ∃ (e3 : Nat), ∃ (e4 : Nat), ∃ (e5 : Nat), ∃ (e6 : Nat), ∃ (e7 : Nat), ∃ (e8 : Nat), ∃ (e9 : Nat → Int64), ∃ (e10 : Int32), ∃ (e11 : Nat → Int64), ∃ (e12 : Nat → Int32), ∃ (e13 : Int32), ∃ (e14 : Nat → Int64), ∃ (e15 : Nat → Int32), ∃ (e16 : Nat → Int32), ∃ (e17 : Nat → Int32), v = some (.int e0) ∧ w = [(b0, .inr (7, [.ref b2, .ref b3, .ref e1, .ref e4, .ref e7, .ref e8, .ref b8, .ref b9])), (b3, .inr (6, [.int b10, .int 4, .int 10, .ref b11, .ref b12])), (b11, .inl (G.2 1, 40, .inr (.inl e9))), (e1, .inr (6, [.int e10, .int 4, .int 100, .ref e2, .ref e3])), (e2, .inl (G.2 1, 400, .inr (.inl e11))), (e3, .inl (G.2 0, 256, .inl e12)), (e4, .inr (6, [.int e13, .int 4, .int 100, .ref e5, .ref e6])), (e5, .inl (G.2 1, 400, .inr (.inl e14))), (e6, .inl (G.2 0, 256, .inl e15)), (e7, .inl (G.2 0, 100, .inl e16)), (e8, .inl (G.2 0, 100, .inl e17)), (b1, .inr (5, [.int b26, .int b27, .ref b28, .ref b29, .ref b30, .ref b31, .ref b32, .ref b33, .int b34, .ref b35, .ref b36, .ref b37, .ref b38, .ref b39, .ref b40])), (b35, .inl (G.2 0, 240, .inl b41)), (b39, .inl (G.2 0, 242, .inl b42))] ∧ (zI e0 0 1) ∧ (zqa qB e9) ∧ (zI e10 0 100) ∧ (zqa qB e11) ∧ (zR e12 (-1) 99) ∧ (zI e13 0 100) ∧ (zqa qB e14) ∧ (zR e15 (-1) 99)) := by
  refine z_start (by decide +kernel) (Nat.le_of_ble_eq_true rfl) ?_
  intro p e s m below meth c A Z hr hnm hA hP hD hS ls hl
  have Z : zC p s m _ meth c prog_12_method_3_code 4 "TraceMachines$Words" G := Z
  obtain ⟨hx, hb, hml, hown, hts, hK, hN, hlocks⟩ := id Z
  have hl : lv_has ls 4 [(0, .ref b0), (1, .ref b1)] := hl
  refine lv_aload_n hx hb d_Words_goOn_0 rfl (lv_at hl 0 rfl) ?_
  refine va_get (D := G.1) (ci := 7) (v := .ref b5) (C := R_Words) (T := F_Words) (N := 8) hx hb hts i_Words hown hK hP 0 rfl rfl 3 (by decide) (hts _ q269) (fun _ h9 => h9) rfl d_Words_goOn_1 ?_
  refine z_callV (index := 55) (As := []) (rest := []) (wr := [(b0, .inr (7, [.ref b2, .ref b3, .ref b4, .ref b5, .ref b6, .ref b7, .ref b8, .ref b9])), (b3, .inr (6, [.int b10, .int 4, .int 10, .ref b11, .ref b12])), (b11, .inl (G.2 1, 40, .inr (.inl b13))), (b4, .inr (6, [.int b14, .int 4, .int 100, .ref b15, .ref b16])), (b15, .inl (G.2 1, 400, .inr (.inl b17))), (b16, .inl (G.2 0, 256, .inl b18)), (b20, .inl (G.2 1, 400, .inr (.inl b22))), (b6, .inl (G.2 0, 100, .inl b24)), (b7, .inl (G.2 0, 100, .inl b25)), (b1, .inr (5, [.int b26, .int b27, .ref b28, .ref b29, .ref b30, .ref b31, .ref b32, .ref b33, .int b34, .ref b35, .ref b36, .ref b37, .ref b38, .ref b39, .ref b40])), (b35, .inl (G.2 0, 240, .inl b41)), (b39, .inl (G.2 0, 242, .inl b42))]) Z (s5_Sets_forget l G (b5) (b19) (b20) (b21) (b23) hb19 hb23) hl.1 q825 q826 q827 q7 q828 ⟨by decide, by decide, by show _ = some 0; decide +kernel⟩ ⟨Nat.le_of_ble_eq_true rfl, Nat.le_of_ble_eq_true rfl⟩ ⟨Nat.le_of_ble_eq_true rfl, Nat.le_of_ble_eq_true rfl⟩ rfl (Nat.le_of_ble_eq_true rfl) d_Words_goOn_4 hP hD hS hA 6 6 rfl rfl rfl [6, 8] [0, 1, 2, 3, 4, 5, 7, 9, 10, 11, 12, 13] rfl rfl rfl rfl (by decide) (fun v w1 H locs hw_1 hP hD hS => ?_)
  obtain ⟨f_2, rfl, rfl, hf_2⟩ := hw_1
  have hP : va_P G.1 classes [(b0, .inr (7, [.ref b2, .ref b3, .ref b4, .ref b5, .ref b6, .ref b7, .ref b8, .ref b9])), (b3, .inr (6, [.int b10, .int 4, .int 10, .ref b11, .ref b12])), (b11, .inl (G.2 1, 40, .inr (.inl b13))), (b4, .inr (6, [.int b14, .int 4, .int 100, .ref b15, .ref b16])), (b15, .inl (G.2 1, 400, .inr (.inl b17))), (b16, .inl (G.2 0, 256, .inl b18)), (b20, .inl (G.2 1, 400, .inr (.inl b22))), (b6, .inl (G.2 0, 100, .inl b24)), (b7, .inl (G.2 0, 100, .inl b25)), (b1, .inr (5, [.int b26, .int b27, .ref b28, .ref b29, .ref b30, .ref b31, .ref b32, .ref b33, .int b34, .ref b35, .ref b36, .ref b37, .ref b38, .ref b39, .ref b40])), (b35, .inl (G.2 0, 240, .inl b41)), (b39, .inl (G.2 0, 242, .inl b42)), (b5, .inr (6, [.int 0, .int 4, .int 100, .ref b20, .ref b21])), (b21, .inl (G.2 0, 256, .inl f_2))] H := hP
  have hD := z_tie hP hD rfl
  refine W.widen (k := 0) (n := 0) (Nat.le_of_ble_eq_true rfl) (Nat.le_of_ble_eq_true rfl) ?_
  refine lv_iconst (v := 0) hx hb d_Words_goOn_7 (by decide) ?_
  refine lv_istore_n (lv' := [(2, .int 0), (0, .ref b0), (1, .ref b1)]) hx hb d_Words_goOn_8 rfl hl (by decide) rfl (fun ls hl => ?_)
  suffices key : ∀ (k_82 : Nat) (y_83 : Int32) (y_84 : Int32) (y_85 : Nat → Int64) (y_86 : Nat → Int64) (y_87 : Nat → Int32) (y_88 : Nat → Int32) (H : Heap) (locs : List Loc) (ls : Array Slot), (zI y_83 0 100) → (zI y_84 0 100) → (zqa qB y_85) → (zqa qB y_86) → (zR y_87 (-1) 99) → (100 : Int) - y_83.toInt < (k_82 : Int) → va_P G.1 classes [(b0, .inr (7, [.ref b2, .ref b3, .ref b4, .ref b5, .ref b6, .ref b7, .ref b8, .ref b9])), (b3, .inr (6, [.int b10, .int 4, .int 10, .ref b11, .ref b12])), (b11, .inl (G.2 1, 40, .inr (.inl y_85))), (b4, .inr (6, [.int b14, .int 4, .int 100, .ref b15, .ref b16])), (b15, .inl (G.2 1, 400, .inr (.inl b17))), (b16, .inl (G.2 0, 256, .inl b18)), (b20, .inl (G.2 1, 400, .inr (.inl y_86))), (b6, .inl (G.2 0, 100, .inl b24)), (b7, .inl (G.2 0, 100, .inl y_88)), (b1, .inr (5, [.int b26, .int b27, .ref b28, .ref b29, .ref b30, .ref b31, .ref b32, .ref b33, .int b34, .ref b35, .ref b36, .ref b37, .ref b38, .ref b39, .ref b40])), (b35, .inl (G.2 0, 240, .inl b41)), (b39, .inl (G.2 0, 242, .inl b42)), (b5, .inr (6, [.int y_84, .int 4, .int 100, .ref b20, .ref b21])), (b21, .inl (G.2 0, 256, .inl y_87))] H → va_D A [(b0, .inr (7, [.ref b2, .ref b3, .ref b4, .ref b5, .ref b6, .ref b7, .ref b8, .ref b9])), (b3, .inr (6, [.int b10, .int 4, .int 10, .ref b11, .ref b12])), (b11, .inl (G.2 1, 40, .inr (.inl y_85))), (b4, .inr (6, [.int b14, .int 4, .int 100, .ref b15, .ref b16])), (b15, .inl (G.2 1, 400, .inr (.inl b17))), (b16, .inl (G.2 0, 256, .inl b18)), (b20, .inl (G.2 1, 400, .inr (.inl y_86))), (b6, .inl (G.2 0, 100, .inl b24)), (b7, .inl (G.2 0, 100, .inl y_88)), (b1, .inr (5, [.int b26, .int b27, .ref b28, .ref b29, .ref b30, .ref b31, .ref b32, .ref b33, .int b34, .ref b35, .ref b36, .ref b37, .ref b38, .ref b39, .ref b40])), (b35, .inl (G.2 0, 240, .inl b41)), (b39, .inl (G.2 0, 242, .inl b42)), (b5, .inr (6, [.int y_84, .int 4, .int 100, .ref b20, .ref b21])), (b21, .inl (G.2 0, 256, .inl y_87))] → va_S A s.heap H locs → lv_has ls 4 [(2, .int y_83), (0, .ref b0), (1, .ref b1)] → W p l e m_s2_Words_goOn s m ([.ref b0, .ref b1] : List Value).toArray below meth c H locs 0 0 (MQ below (zQ G (fun v w => ∃ (e0 : Int32), ∃ (e1 : Nat), ∃ (e2 : Nat), ∃ (e3 : Nat), ∃ (e4 : Nat), ∃ (e5 : Nat), ∃ (e6 : Nat), ∃ (e7 : Nat), ∃ (e8 : Nat), ∃ (e9 : Nat → Int64), ∃ (e10 : Int32), ∃ (e11 : Nat → Int64), ∃ (e12 : Nat → Int32), ∃ (e13 : Int32), ∃ (e14 : Nat → Int64), ∃ (e15 : Nat → Int32), ∃ (e16 : Nat → Int32), ∃ (e17 : Nat → Int32), v = some (.int e0) ∧ w = [(b0, .inr (7, [.ref b2, .ref b3, .ref e1, .ref e4, .ref e7, .ref e8, .ref b8, .ref b9])), (b3, .inr (6, [.int b10, .int 4, .int 10, .ref b11, .ref b12])), (b11, .inl (G.2 1, 40, .inr (.inl e9))), (e1, .inr (6, [.int e10, .int 4, .int 100, .ref e2, .ref e3])), (e2, .inl (G.2 1, 400, .inr (.inl e11))), (e3, .inl (G.2 0, 256, .inl e12)), (e4, .inr (6, [.int e13, .int 4, .int 100, .ref e5, .ref e6])), (e5, .inl (G.2 1, 400, .inr (.inl e14))), (e6, .inl (G.2 0, 256, .inl e15)), (e7, .inl (G.2 0, 100, .inl e16)), (e8, .inl (G.2 0, 100, .inl e17)), (b1, .inr (5, [.int b26, .int b27, .ref b28, .ref b29, .ref b30, .ref b31, .ref b32, .ref b33, .int b34, .ref b35, .ref b36, .ref b37, .ref b38, .ref b39, .ref b40])), (b35, .inl (G.2 0, 240, .inl b41)), (b39, .inl (G.2 0, 242, .inl b42))] ∧ (zI e0 0 1) ∧ (zqa qB e9) ∧ (zI e10 0 100) ∧ (zqa qB e11) ∧ (zR e12 (-1) 99) ∧ (zI e13 0 100) ∧ (zqa qB e14) ∧ (zR e15 (-1) 99)) A) ([.ref b0, .ref b1] : List Value).toArray s m_s2_Words_goOn.cells m_s2_Words_goOn.slots A) (F0 m 9 ls []) by
    exact key 101 (0) (0) (b13) (b22) (f_2) (b25) _ _ _ (zI.wk (l' := 0) (h' := 100) zc_0 (by decide)) (zI.wk (l' := 0) (h' := 100) zc_0 (by decide)) hb13 hb22 hf_2 (zm_upi (zI.wk (l' := 0) (h' := 100) zc_0 (by decide)) (by decide)) hP hD hS (lv_sub hl [0, 1, 2] rfl)
  intro k_82
  induction k_82 with
  | zero =>
    intro y_83 y_84 y_85 y_86 y_87 y_88 H locs ls hy_83 hy_84 hy_85 hy_86 hy_87 hmk_82 hP hD hS hl
    exact (zm_up0 hy_83 hmk_82).elim
  | succ k_82 ihk_82 =>
    intro y_83 y_84 y_85 y_86 y_87 y_88 H locs ls hy_83 hy_84 hy_85 hy_86 hy_87 hmk_82 hP hD hS hl
    refine lv_iload_n hx hb d_Words_goOn_9 rfl (lv_at hl 0 rfl) ?_
    refine lv_aload_n hx hb d_Words_goOn_10 rfl (lv_at hl 1 rfl) ?_
    refine va_get (D := G.1) (ci := 7) (v := .ref b4) (C := R_Words) (T := F_Words) (N := 8) hx hb hts i_Words hown hK hP 0 rfl rfl 2 (by decide) (hts _ q268) (fun _ h9 => h9) rfl d_Words_goOn_11 ?_
    refine va_get (D := G.1) (ci := 6) (v := .int b14) (C := R_Sets) (T := F_Sets) (N := 5) hx hb hts i_Sets hown hK hP 3 rfl rfl 0 (by decide) (hts _ q240) (fun _ h9 => h9) rfl d_Words_goOn_14 ?_
    refine lv_icmp_ge (tgt := 88) hx hb d_Words_goOn_17 (by decide) (fun hc_89 => ?_) (fun hc_89 => ?_)
    · have _nhc_89 := hc_89
      have ni_90 := (fa_le _ _).mp hc_89
      refine lv_aload_n hx hb d_Words_goOn_88 rfl (lv_at hl 1 rfl) ?_
      refine va_get (D := G.1) (ci := 7) (v := .ref b4) (C := R_Words) (T := F_Words) (N := 8) hx hb hts i_Words hown hK hP 0 rfl rfl 2 (by decide) (hts _ q268) (fun _ h9 => h9) rfl d_Words_goOn_89 ?_
      refine lv_astore_n (lv' := [(2, .ref b4), (0, .ref b0), (1, .ref b1)]) hx hb d_Words_goOn_92 rfl hl (by decide) rfl (fun ls hl => ?_)
      refine lv_aload_n hx hb d_Words_goOn_93 rfl (lv_at hl 1 rfl) ?_
      refine lv_aload_n hx hb d_Words_goOn_94 rfl (lv_at hl 1 rfl) ?_
      refine va_get (D := G.1) (ci := 7) (v := .ref b5) (C := R_Words) (T := F_Words) (N := 8) hx hb hts i_Words hown hK hP 0 rfl rfl 3 (by decide) (hts _ q269) (fun _ h9 => h9) rfl d_Words_goOn_95 ?_
      refine va_put (D := G.1) (ci := 7) (v := .ref b5) (ty := .object "TraceMachines$StateSets") (C := R_Words) (T := F_Words) (N := 8) hx hb hts i_Words t_Words t_Words_ok n_Words hown hK hP hD hS 0 rfl rfl 2 (by decide) (hts _ q268) (fun _ h9 => h9) rfl (by decide +kernel) rfl rfl (Nat.le_of_ble_eq_true rfl) d_Words_goOn_98 (fun H locs hP hD hS => ?_)
      have hP : va_P G.1 classes [(b0, .inr (7, [.ref b2, .ref b3, .ref b5, .ref b5, .ref b6, .ref b7, .ref b8, .ref b9])), (b3, .inr (6, [.int b10, .int 4, .int 10, .ref b11, .ref b12])), (b11, .inl (G.2 1, 40, .inr (.inl y_85))), (b4, .inr (6, [.int b14, .int 4, .int 100, .ref b15, .ref b16])), (b15, .inl (G.2 1, 400, .inr (.inl b17))), (b16, .inl (G.2 0, 256, .inl b18)), (b20, .inl (G.2 1, 400, .inr (.inl y_86))), (b6, .inl (G.2 0, 100, .inl b24)), (b7, .inl (G.2 0, 100, .inl y_88)), (b1, .inr (5, [.int b26, .int b27, .ref b28, .ref b29, .ref b30, .ref b31, .ref b32, .ref b33, .int b34, .ref b35, .ref b36, .ref b37, .ref b38, .ref b39, .ref b40])), (b35, .inl (G.2 0, 240, .inl b41)), (b39, .inl (G.2 0, 242, .inl b42)), (b5, .inr (6, [.int y_84, .int 4, .int 100, .ref b20, .ref b21])), (b21, .inl (G.2 0, 256, .inl y_87))] H := hP
      have hD := z_tie hP hD rfl
      refine lv_aload_n hx hb d_Words_goOn_101 rfl (lv_at hl 1 rfl) ?_
      refine lv_aload_n hx hb d_Words_goOn_102 rfl (lv_at hl 0 rfl) ?_
      refine va_put (D := G.1) (ci := 7) (v := .ref b4) (ty := .object "TraceMachines$StateSets") (C := R_Words) (T := F_Words) (N := 8) hx hb hts i_Words t_Words t_Words_ok n_Words hown hK hP hD hS 0 rfl rfl 3 (by decide) (hts _ q269) (fun _ h9 => h9) rfl (by decide +kernel) rfl rfl (Nat.le_of_ble_eq_true rfl) d_Words_goOn_103 (fun H locs hP hD hS => ?_)
      have hP : va_P G.1 classes [(b0, .inr (7, [.ref b2, .ref b3, .ref b5, .ref b4, .ref b6, .ref b7, .ref b8, .ref b9])), (b3, .inr (6, [.int b10, .int 4, .int 10, .ref b11, .ref b12])), (b11, .inl (G.2 1, 40, .inr (.inl y_85))), (b4, .inr (6, [.int b14, .int 4, .int 100, .ref b15, .ref b16])), (b15, .inl (G.2 1, 400, .inr (.inl b17))), (b16, .inl (G.2 0, 256, .inl b18)), (b20, .inl (G.2 1, 400, .inr (.inl y_86))), (b6, .inl (G.2 0, 100, .inl b24)), (b7, .inl (G.2 0, 100, .inl y_88)), (b1, .inr (5, [.int b26, .int b27, .ref b28, .ref b29, .ref b30, .ref b31, .ref b32, .ref b33, .int b34, .ref b35, .ref b36, .ref b37, .ref b38, .ref b39, .ref b40])), (b35, .inl (G.2 0, 240, .inl b41)), (b39, .inl (G.2 0, 242, .inl b42)), (b5, .inr (6, [.int y_84, .int 4, .int 100, .ref b20, .ref b21])), (b21, .inl (G.2 0, 256, .inl y_87))] H := hP
      have hD := z_tie hP hD rfl
      refine lv_aload_n hx hb d_Words_goOn_106 rfl (lv_at hl 1 rfl) ?_
      refine va_get (D := G.1) (ci := 7) (v := .ref b6) (C := R_Words) (T := F_Words) (N := 8) hx hb hts i_Words hown hK hP 0 rfl rfl 4 (by decide) (hts _ q270) (fun _ h9 => h9) rfl d_Words_goOn_107 ?_
      refine lv_astore_n (lv' := [(3, .ref b6), (2, .ref b4), (0, .ref b0), (1, .ref b1)]) hx hb d_Words_goOn_110 rfl hl (by decide) rfl (fun ls hl => ?_)
      refine lv_aload_n hx hb d_Words_goOn_111 rfl (lv_at hl 2 rfl) ?_
      refine lv_aload_n hx hb d_Words_goOn_112 rfl (lv_at hl 2 rfl) ?_
      refine va_get (D := G.1) (ci := 7) (v := .ref b7) (C := R_Words) (T := F_Words) (N := 8) hx hb hts i_Words hown hK hP 0 rfl rfl 5 (by decide) (hts _ q271) (fun _ h9 => h9) rfl d_Words_goOn_113 ?_
      refine va_put (D := G.1) (ci := 7) (v := .ref b7) (ty := .array .int) (C := R_Words) (T := F_Words) (N := 8) hx hb hts i_Words t_Words t_Words_ok n_Words hown hK hP hD hS 0 rfl rfl 4 (by decide) (hts _ q270) (fun _ h9 => h9) rfl (by decide +kernel) rfl rfl (Nat.le_of_ble_eq_true rfl) d_Words_goOn_116 (fun H locs hP hD hS => ?_)
      have hP : va_P G.1 classes [(b0, .inr (7, [.ref b2, .ref b3, .ref b5, .ref b4, .ref b7, .ref b7, .ref b8, .ref b9])), (b3, .inr (6, [.int b10, .int 4, .int 10, .ref b11, .ref b12])), (b11, .inl (G.2 1, 40, .inr (.inl y_85))), (b4, .inr (6, [.int b14, .int 4, .int 100, .ref b15, .ref b16])), (b15, .inl (G.2 1, 400, .inr (.inl b17))), (b16, .inl (G.2 0, 256, .inl b18)), (b20, .inl (G.2 1, 400, .inr (.inl y_86))), (b6, .inl (G.2 0, 100, .inl b24)), (b7, .inl (G.2 0, 100, .inl y_88)), (b1, .inr (5, [.int b26, .int b27, .ref b28, .ref b29, .ref b30, .ref b31, .ref b32, .ref b33, .int b34, .ref b35, .ref b36, .ref b37, .ref b38, .ref b39, .ref b40])), (b35, .inl (G.2 0, 240, .inl b41)), (b39, .inl (G.2 0, 242, .inl b42)), (b5, .inr (6, [.int y_84, .int 4, .int 100, .ref b20, .ref b21])), (b21, .inl (G.2 0, 256, .inl y_87))] H := hP
      have hD := z_tie hP hD rfl
      refine lv_aload_n hx hb d_Words_goOn_119 rfl (lv_at hl 2 rfl) ?_
      refine lv_aload_n hx hb d_Words_goOn_120 rfl (lv_at hl 0 rfl) ?_
      refine va_put (D := G.1) (ci := 7) (v := .ref b6) (ty := .array .int) (C := R_Words) (T := F_Words) (N := 8) hx hb hts i_Words t_Words t_Words_ok n_Words hown hK hP hD hS 0 rfl rfl 5 (by decide) (hts _ q271) (fun _ h9 => h9) rfl (by decide +kernel) rfl rfl (Nat.le_of_ble_eq_true rfl) d_Words_goOn_121 (fun H locs hP hD hS => ?_)
      have hP : va_P G.1 classes [(b0, .inr (7, [.ref b2, .ref b3, .ref b5, .ref b4, .ref b7, .ref b6, .ref b8, .ref b9])), (b3, .inr (6, [.int b10, .int 4, .int 10, .ref b11, .ref b12])), (b11, .inl (G.2 1, 40, .inr (.inl y_85))), (b4, .inr (6, [.int b14, .int 4, .int 100, .ref b15, .ref b16])), (b15, .inl (G.2 1, 400, .inr (.inl b17))), (b16, .inl (G.2 0, 256, .inl b18)), (b20, .inl (G.2 1, 400, .inr (.inl y_86))), (b6, .inl (G.2 0, 100, .inl b24)), (b7, .inl (G.2 0, 100, .inl y_88)), (b1, .inr (5, [.int b26, .int b27, .ref b28, .ref b29, .ref b30, .ref b31, .ref b32, .ref b33, .int b34, .ref b35, .ref b36, .ref b37, .ref b38, .ref b39, .ref b40])), (b35, .inl (G.2 0, 240, .inl b41)), (b39, .inl (G.2 0, 242, .inl b42)), (b5, .inr (6, [.int y_84, .int 4, .int 100, .ref b20, .ref b21])), (b21, .inl (G.2 0, 256, .inl y_87))] H := hP
      have hD := z_tie hP hD rfl
      refine lv_iconst (v := 1) hx hb d_Words_goOn_124 (by decide) ?_
      exact z_zret hx hb hr hlocks rfl (hP.sub [0, 1, 2, 12, 6, 13, 3, 4, 5, 8, 7, 9, 10, 11] rfl) (hD.sub [0, 1, 2, 12, 6, 13, 3, 4, 5, 8, 7, 9, 10, 11] (by decide) rfl) hS (Nat.le_of_ble_eq_true rfl) (Nat.le_of_ble_eq_true rfl) d_Words_goOn_125 ⟨1, b5, b20, b21, b4, b15, b16, b7, b6, y_85, y_84, y_86, y_87, b14, b17, b18, y_88, b24, rfl, rfl, (zI.wk (l' := 0) (h' := 1) zc_1 (by decide)), hy_85, hy_84, hy_86, hy_87, hb14, hb17, hb18⟩
    · have _nhc_89 := hc_89
      have ni_91 := (fa_lt _ _).mp (zi_nle hc_89)
      have hv_92 : zI y_83 0 99 := zI.lt_l hy_83 hb14 (zi_nle hc_89) (by decide)
      have hv_93 : zI b14 1 100 := zI.lt_r hy_83 hb14 (zi_nle hc_89) (by decide)
      refine lv_aload_n hx hb d_Words_goOn_20 rfl (lv_at hl 1 rfl) ?_
      refine va_get (D := G.1) (ci := 7) (v := .ref b3) (C := R_Words) (T := F_Words) (N := 8) hx hb hts i_Words hown hK hP 0 rfl rfl 1 (by decide) (hts _ q267) (fun _ h9 => h9) rfl d_Words_goOn_21 ?_
      refine z_callV (index := 48) (As := []) (rest := []) (wr := [(b0, .inr (7, [.ref b2, .ref b3, .ref b4, .ref b5, .ref b6, .ref b7, .ref b8, .ref b9])), (b4, .inr (6, [.int b14, .int 4, .int 100, .ref b15, .ref b16])), (b15, .inl (G.2 1, 400, .inr (.inl b17))), (b16, .inl (G.2 0, 256, .inl b18)), (b20, .inl (G.2 1, 400, .inr (.inl y_86))), (b6, .inl (G.2 0, 100, .inl b24)), (b7, .inl (G.2 0, 100, .inl y_88)), (b1, .inr (5, [.int b26, .int b27, .ref b28, .ref b29, .ref b30, .ref b31, .ref b32, .ref b33, .int b34, .ref b35, .ref b36, .ref b37, .ref b38, .ref b39, .ref b40])), (b35, .inl (G.2 0, 240, .inl b41)), (b39, .inl (G.2 0, 242, .inl b42)), (b5, .inr (6, [.int y_84, .int 4, .int 100, .ref b20, .ref b21])), (b21, .inl (G.2 0, 256, .inl y_87))]) Z (s5_Sets_clear l G (b3) (b10) (b11) (b12) (y_85) hb10 hy_85) hl.1 q823 q705 q706 q7 q707 ⟨by decide, by decide, by show _ = some 0; decide +kernel⟩ ⟨Nat.le_of_ble_eq_true rfl, Nat.le_of_ble_eq_true rfl⟩ ⟨Nat.le_of_ble_eq_true rfl, Nat.le_of_ble_eq_true rfl⟩ rfl (Nat.le_of_ble_eq_true rfl) d_Words_goOn_24 hP hD hS hA 1 6 rfl rfl rfl [1, 2] [0, 3, 4, 5, 6, 7, 8, 9, 10, 11, 12, 13] rfl rfl rfl rfl (by decide) (fun v w1 H locs hw_94 hP hD hS => ?_)
      obtain ⟨f_95, rfl, rfl, hf_95⟩ := hw_94
      have hP : va_P G.1 classes [(b0, .inr (7, [.ref b2, .ref b3, .ref b4, .ref b5, .ref b6, .ref b7, .ref b8, .ref b9])), (b4, .inr (6, [.int b14, .int 4, .int 100, .ref b15, .ref b16])), (b15, .inl (G.2 1, 400, .inr (.inl b17))), (b16, .inl (G.2 0, 256, .inl b18)), (b20, .inl (G.2 1, 400, .inr (.inl y_86))), (b6, .inl (G.2 0, 100, .inl b24)), (b7, .inl (G.2 0, 100, .inl y_88)), (b1, .inr (5, [.int b26, .int b27, .ref b28, .ref b29, .ref b30, .ref b31, .ref b32, .ref b33, .int b34, .ref b35, .ref b36, .ref b37, .ref b38, .ref b39, .ref b40])), (b35, .inl (G.2 0, 240, .inl b41)), (b39, .inl (G.2 0, 242, .inl b42)), (b5, .inr (6, [.int y_84, .int 4, .int 100, .ref b20, .ref b21])), (b21, .inl (G.2 0, 256, .inl y_87)), (b3, .inr (6, [.int b10, .int 4, .int 10, .ref b11, .ref b12])), (b11, .inl (G.2 1, 40, .inr (.inl f_95)))] H := hP
      have hD := z_tie hP hD rfl
      refine W.widen (k := 0) (n := 0) (Nat.le_of_ble_eq_true rfl) (Nat.le_of_ble_eq_true rfl) ?_
      refine lv_aload_n hx hb d_Words_goOn_27 rfl (lv_at hl 2 rfl) ?_
      refine lv_aload_n hx hb d_Words_goOn_28 rfl (lv_at hl 1 rfl) ?_
      refine va_get (D := G.1) (ci := 7) (v := .ref b4) (C := R_Words) (T := F_Words) (N := 8) hx hb hts i_Words hown hK hP 0 rfl rfl 2 (by decide) (hts _ q268) (fun _ h9 => h9) rfl d_Words_goOn_29 ?_
      refine lv_iload_n hx hb d_Words_goOn_32 rfl (lv_at hl 0 rfl) ?_
      refine lv_iconst (v := 0) hx hb d_Words_goOn_33 (by decide) ?_
      refine lv_aload_n hx hb d_Words_goOn_34 rfl (lv_at hl 1 rfl) ?_
      refine va_get (D := G.1) (ci := 7) (v := .ref b3) (C := R_Words) (T := F_Words) (N := 8) hx hb hts i_Words hown hK hP 0 rfl rfl 1 (by decide) (hts _ q267) (fun _ h9 => h9) rfl d_Words_goOn_35 ?_
      refine z_callV (index := 77) (As := [.ref b4, .int y_83, .int 0, .ref b3]) (rest := []) (wr := [(b0, .inr (7, [.ref b2, .ref b3, .ref b4, .ref b5, .ref b6, .ref b7, .ref b8, .ref b9])), (b16, .inl (G.2 0, 256, .inl b18)), (b20, .inl (G.2 1, 400, .inr (.inl y_86))), (b6, .inl (G.2 0, 100, .inl b24)), (b7, .inl (G.2 0, 100, .inl y_88)), (b5, .inr (6, [.int y_84, .int 4, .int 100, .ref b20, .ref b21])), (b21, .inl (G.2 0, 256, .inl y_87))]) Z (s4_Machine_fan l G (b1) (b4) (y_83) (0) (b3) (b26) (b27) (b28) (b29) (b30) (b31) (b32) (b33) (b34) (b35) (b36) (b37) (b38) (b39) (b40) (b41) (b42) (b14) (b15) (b16) (b17) (b10) (b11) (b12) (f_95) hv_92 zc_0 hb26 hb27 hb34 (zI.wk (l' := 0) (h' := 100) hv_93 (by decide)) hb10 hb41 hb42 hb17 hf_95) hl.1 q853 q854 q855 q6 q856 ⟨by decide, by decide, by show _ = some 4; decide +kernel⟩ ⟨Nat.le_of_ble_eq_true rfl, Nat.le_of_ble_eq_true rfl⟩ ⟨Nat.le_of_ble_eq_true rfl, Nat.le_of_ble_eq_true rfl⟩ rfl (Nat.le_of_ble_eq_true rfl) d_Words_goOn_38 hP hD hS hA 7 5 rfl rfl rfl [7, 8, 9, 1, 2, 12, 13] [0, 3, 4, 5, 6, 10, 11] rfl rfl rfl rfl (by decide) (fun v w1 H locs hw_96 hP hD hS => ?_)
      obtain ⟨f_97, rfl, rfl, hf_97⟩ := hw_96
      have hP : va_P G.1 classes [(b0, .inr (7, [.ref b2, .ref b3, .ref b4, .ref b5, .ref b6, .ref b7, .ref b8, .ref b9])), (b16, .inl (G.2 0, 256, .inl b18)), (b20, .inl (G.2 1, 400, .inr (.inl y_86))), (b6, .inl (G.2 0, 100, .inl b24)), (b7, .inl (G.2 0, 100, .inl y_88)), (b5, .inr (6, [.int y_84, .int 4, .int 100, .ref b20, .ref b21])), (b21, .inl (G.2 0, 256, .inl y_87)), (b1, .inr (5, [.int b26, .int b27, .ref b28, .ref b29, .ref b30, .ref b31, .ref b32, .ref b33, .int b34, .ref b35, .ref b36, .ref b37, .ref b38, .ref b39, .ref b40])), (b35, .inl (G.2 0, 240, .inl b41)), (b39, .inl (G.2 0, 242, .inl b42)), (b4, .inr (6, [.int b14, .int 4, .int 100, .ref b15, .ref b16])), (b15, .inl (G.2 1, 400, .inr (.inl b17))), (b3, .inr (6, [.int b10, .int 4, .int 10, .ref b11, .ref b12])), (b11, .inl (G.2 1, 40, .inr (.inl f_97)))] H := hP
      have hD := z_tie hP hD rfl
      refine W.widen (k := 0) (n := 0) (Nat.le_of_ble_eq_true rfl) (Nat.le_of_ble_eq_true rfl) ?_
      refine lv_iconst (v := 0) hx hb d_Words_goOn_41 (by decide) ?_
      refine lv_istore_n (lv' := [(3, .int 0), (2, .int y_83), (0, .ref b0), (1, .ref b1)]) hx hb d_Words_goOn_42 rfl hl (by decide) rfl (fun ls hl => ?_)
      suffices key : ∀ (k_130 : Nat) (y_131 : Int32) (y_132 : Int32) (y_133 : Nat → Int64) (y_134 : Nat → Int32) (y_135 : Nat → Int32) (H : Heap) (locs : List Loc) (ls : Array Slot), (zI y_131 0 10) → (zI y_132 0 100) → (zqa qB y_133) → (zR y_134 (-1) 99) → (10 : Int) - y_131.toInt < (k_130 : Int) → va_P G.1 classes [(b0, .inr (7, [.ref b2, .ref b3, .ref b4, .ref b5, .ref b6, .ref b7, .ref b8, .ref b9])), (b16, .inl (G.2 0, 256, .inl b18)), (b20, .inl (G.2 1, 400, .inr (.inl y_133))), (b6, .inl (G.2 0, 100, .inl b24)), (b7, .inl (G.2 0, 100, .inl y_135)), (b5, .inr (6, [.int y_132, .int 4, .int 100, .ref b20, .ref b21])), (b21, .inl (G.2 0, 256, .inl y_134)), (b1, .inr (5, [.int b26, .int b27, .ref b28, .ref b29, .ref b30, .ref b31, .ref b32, .ref b33, .int b34, .ref b35, .ref b36, .ref b37, .ref b38, .ref b39, .ref b40])), (b35, .inl (G.2 0, 240, .inl b41)), (b39, .inl (G.2 0, 242, .inl b42)), (b4, .inr (6, [.int b14, .int 4, .int 100, .ref b15, .ref b16])), (b15, .inl (G.2 1, 400, .inr (.inl b17))), (b3, .inr (6, [.int b10, .int 4, .int 10, .ref b11, .ref b12])), (b11, .inl (G.2 1, 40, .inr (.inl f_97)))] H → va_D A [(b0, .inr (7, [.ref b2, .ref b3, .ref b4, .ref b5, .ref b6, .ref b7, .ref b8, .ref b9])), (b16, .inl (G.2 0, 256, .inl b18)), (b20, .inl (G.2 1, 400, .inr (.inl y_133))), (b6, .inl (G.2 0, 100, .inl b24)), (b7, .inl (G.2 0, 100, .inl y_135)), (b5, .inr (6, [.int y_132, .int 4, .int 100, .ref b20, .ref b21])), (b21, .inl (G.2 0, 256, .inl y_134)), (b1, .inr (5, [.int b26, .int b27, .ref b28, .ref b29, .ref b30, .ref b31, .ref b32, .ref b33, .int b34, .ref b35, .ref b36, .ref b37, .ref b38, .ref b39, .ref b40])), (b35, .inl (G.2 0, 240, .inl b41)), (b39, .inl (G.2 0, 242, .inl b42)), (b4, .inr (6, [.int b14, .int 4, .int 100, .ref b15, .ref b16])), (b15, .inl (G.2 1, 400, .inr (.inl b17))), (b3, .inr (6, [.int b10, .int 4, .int 10, .ref b11, .ref b12])), (b11, .inl (G.2 1, 40, .inr (.inl f_97)))] → va_S A s.heap H locs → lv_has ls 4 [(3, .int y_131), (2, .int y_83), (0, .ref b0), (1, .ref b1)] → W p l e m_s2_Words_goOn s m ([.ref b0, .ref b1] : List Value).toArray below meth c H locs 0 0 (MQ below (zQ G (fun v w => ∃ (e0 : Int32), ∃ (e1 : Nat), ∃ (e2 : Nat), ∃ (e3 : Nat), ∃ (e4 : Nat), ∃ (e5 : Nat), ∃ (e6 : Nat), ∃ (e7 : Nat), ∃ (e8 : Nat), ∃ (e9 : Nat → Int64), ∃ (e10 : Int32), ∃ (e11 : Nat → Int64), ∃ (e12 : Nat → Int32), ∃ (e13 : Int32), ∃ (e14 : Nat → Int64), ∃ (e15 : Nat → Int32), ∃ (e16 : Nat → Int32), ∃ (e17 : Nat → Int32), v = some (.int e0) ∧ w = [(b0, .inr (7, [.ref b2, .ref b3, .ref e1, .ref e4, .ref e7, .ref e8, .ref b8, .ref b9])), (b3, .inr (6, [.int b10, .int 4, .int 10, .ref b11, .ref b12])), (b11, .inl (G.2 1, 40, .inr (.inl e9))), (e1, .inr (6, [.int e10, .int 4, .int 100, .ref e2, .ref e3])), (e2, .inl (G.2 1, 400, .inr (.inl e11))), (e3, .inl (G.2 0, 256, .inl e12)), (e4, .inr (6, [.int e13, .int 4, .int 100, .ref e5, .ref e6])), (e5, .inl (G.2 1, 400, .inr (.inl e14))), (e6, .inl (G.2 0, 256, .inl e15)), (e7, .inl (G.2 0, 100, .inl e16)), (e8, .inl (G.2 0, 100, .inl e17)), (b1, .inr (5, [.int b26, .int b27, .ref b28, .ref b29, .ref b30, .ref b31, .ref b32, .ref b33, .int b34, .ref b35, .ref b36, .ref b37, .ref b38, .ref b39, .ref b40])), (b35, .inl (G.2 0, 240, .inl b41)), (b39, .inl (G.2 0, 242, .inl b42))] ∧ (zI e0 0 1) ∧ (zqa qB e9) ∧ (zI e10 0 100) ∧ (zqa qB e11) ∧ (zR e12 (-1) 99) ∧ (zI e13 0 100) ∧ (zqa qB e14) ∧ (zR e15 (-1) 99)) A) ([.ref b0, .ref b1] : List Value).toArray s m_s2_Words_goOn.cells m_s2_Words_goOn.slots A) (F0 m 43 ls []) by
        exact key 11 (0) (y_84) (y_86) (y_87) (y_88) _ _ _ (zI.wk (l' := 0) (h' := 10) zc_0 (by decide)) hy_84 hy_86 hy_87 (zm_upi (zI.wk (l' := 0) (h' := 10) zc_0 (by decide)) (by decide)) hP hD hS (lv_sub hl [0, 1, 2, 3] rfl)
      intro k_130
      induction k_130 with
      | zero =>
        intro y_131 y_132 y_133 y_134 y_135 H locs ls hy_131 hy_132 hy_133 hy_134 hmk_130 hP hD hS hl
        exact (zm_up0 hy_131 hmk_130).elim
      | succ k_130 ihk_130 =>
        intro y_131 y_132 y_133 y_134 y_135 H locs ls hy_131 hy_132 hy_133 hy_134 hmk_130 hP hD hS hl
        refine lv_iload_n hx hb d_Words_goOn_43 rfl (lv_at hl 0 rfl) ?_
        refine lv_bipush (v := 10) hx hb d_Words_goOn_44 (by decide) ?_
        refine lv_icmp_ge (tgt := 82) hx hb d_Words_goOn_46 (by decide) (fun hc_136 => ?_) (fun hc_136 => ?_)
        · have _nhc_136 := hc_136
          have ni_137 := (fa_le _ _).mp hc_136
          rw [li_10] at ni_137
          have hv_138 : zI y_131 10 10 := zI.le_r zc_10 hy_131 hc_136 (by decide)
          obtain ⟨v_139, ev_139⟩ : ∃ z : Int32, z = y_83 + 1 := ⟨_, rfl⟩
          obtain ⟨qv_139, hv_139⟩ := zI_add (l := 1) (h := 100) hv_92 zc_1 ev_139 (by decide)
          rw [li_1] at qv_139
          refine lv_iinc (v := v_139) (lv' := [(2, .int v_139), (3, .int y_131), (0, .ref b0), (1, .ref b1)]) hx hb d_Words_goOn_82 hl (k := 1) rfl (by rw [ev_139]; rfl) (by decide) rfl (fun ls hl => ?_)
          refine lv_goto (tgt := 9) hx hb d_Words_goOn_85 (by decide) ?_
          exact ihk_82 (v_139) (y_132) (f_97) (y_133) (y_134) (y_135) _ _ _ (zI.wk (l' := 0) (h' := 100) hv_139 (by decide)) hy_132 hf_97 hy_133 hy_134 (zm_up qv_139 hmk_82 (by decide)) (hP.sub [0, 12, 13, 10, 11, 1, 2, 3, 4, 7, 8, 9, 5, 6] rfl) (hD.sub [0, 12, 13, 10, 11, 1, 2, 3, 4, 7, 8, 9, 5, 6] (by decide) rfl) hS (lv_sub hl [0, 2, 3] rfl)
        · have _nhc_136 := hc_136
          have ni_140 := (fa_lt _ _).mp (zi_nle hc_136)
          rw [li_10] at ni_140
          have hv_141 : zI y_131 0 9 := zI.lt_l hy_131 zc_10 (zi_nle hc_136) (by decide)
          refine lv_aload_n hx hb d_Words_goOn_49 rfl (lv_at hl 2 rfl) ?_
          refine va_get (D := G.1) (ci := 7) (v := .ref b3) (C := R_Words) (T := F_Words) (N := 8) hx hb hts i_Words hown hK hP 0 rfl rfl 1 (by decide) (hts _ q267) (fun _ h9 => h9) rfl d_Words_goOn_50 ?_
          refine lv_iload_n hx hb d_Words_goOn_53 rfl (lv_at hl 0 rfl) ?_
          refine z_callV (index := 80) (As := [.int y_131]) (rest := []) (wr := [(b0, .inr (7, [.ref b2, .ref b3, .ref b4, .ref b5, .ref b6, .ref b7, .ref b8, .ref b9])), (b16, .inl (G.2 0, 256, .inl b18)), (b20, .inl (G.2 1, 400, .inr (.inl y_133))), (b6, .inl (G.2 0, 100, .inl b24)), (b7, .inl (G.2 0, 100, .inl y_135)), (b5, .inr (6, [.int y_132, .int 4, .int 100, .ref b20, .ref b21])), (b21, .inl (G.2 0, 256, .inl y_134)), (b1, .inr (5, [.int b26, .int b27, .ref b28, .ref b29, .ref b30, .ref b31, .ref b32, .ref b33, .int b34, .ref b35, .ref b36, .ref b37, .ref b38, .ref b39, .ref b40])), (b35, .inl (G.2 0, 240, .inl b41)), (b39, .inl (G.2 0, 242, .inl b42)), (b4, .inr (6, [.int b14, .int 4, .int 100, .ref b15, .ref b16])), (b15, .inl (G.2 1, 400, .inr (.inl b17)))]) Z (s3_Sets_isEmpty l G (b3) (y_131) (b10) (b11) (b12) (f_97) hv_141 hb10 hf_97) hl.1 q857 q739 q740 q7 q741 ⟨by decide, by decide, by show _ = some 1; decide +kernel⟩ ⟨Nat.le_of_ble_eq_true rfl, Nat.le_of_ble_eq_true rfl⟩ ⟨Nat.le_of_ble_eq_true rfl, Nat.le_of_ble_eq_true rfl⟩ rfl (Nat.le_of_ble_eq_true rfl) d_Words_goOn_54 hP hD hS hA 12 6 rfl rfl rfl [12, 13] [0, 1, 2, 3, 4, 5, 6, 7, 8, 9, 10, 11] rfl rfl rfl rfl (by decide) (fun v w1 H locs hw_142 hP hD hS => ?_)
          obtain ⟨x_143, rfl, rfl, hx_143⟩ := hw_142
          have hP : va_P G.1 classes [(b0, .inr (7, [.ref b2, .ref b3, .ref b4, .ref b5, .ref b6, .ref b7, .ref b8, .ref b9])), (b16, .inl (G.2 0, 256, .inl b18)), (b20, .inl (G.2 1, 400, .inr (.inl y_133))), (b6, .inl (G.2 0, 100, .inl b24)), (b7, .inl (G.2 0, 100, .inl y_135)), (b5, .inr (6, [.int y_132, .int 4, .int 100, .ref b20, .ref b21])), (b21, .inl (G.2 0, 256, .inl y_134)), (b1, .inr (5, [.int b26, .int b27, .ref b28, .ref b29, .ref b30, .ref b31, .ref b32, .ref b33, .int b34, .ref b35, .ref b36, .ref b37, .ref b38, .ref b39, .ref b40])), (b35, .inl (G.2 0, 240, .inl b41)), (b39, .inl (G.2 0, 242, .inl b42)), (b4, .inr (6, [.int b14, .int 4, .int 100, .ref b15, .ref b16])), (b15, .inl (G.2 1, 400, .inr (.inl b17))), (b3, .inr (6, [.int b10, .int 4, .int 10, .ref b11, .ref b12])), (b11, .inl (G.2 1, 40, .inr (.inl f_97)))] H := hP
          have hD := z_tie hP hD rfl
          refine W.widen (k := 0) (n := 0) (Nat.le_of_ble_eq_true rfl) (Nat.le_of_ble_eq_true rfl) ?_
          refine lv_if_ne (tgt := 76) hx hb d_Words_goOn_57 (by decide) (fun hc_144 => ?_) (fun hc_144 => ?_)
          · have _nhc_144 := hc_144
            have ni_145 : ¬ (x_143 : Int32).toInt = (0 : Int32).toInt := fun z => hc_144 ((fa_eq _ _).mpr z)
            simp only [li_0] at ni_145
            have hv_146 : zI x_143 1 1 := zI.ne_lo hx_143 zc_0 hc_144 (by decide)
            obtain ⟨v_147, ev_147⟩ : ∃ z : Int32, z = y_131 + 1 := ⟨_, rfl⟩
            obtain ⟨qv_147, hv_147⟩ := zI_add (l := 1) (h := 10) hv_141 zc_1 ev_147 (by decide)
            rw [li_1] at qv_147
            refine lv_iinc (v := v_147) (lv' := [(3, .int v_147), (2, .int y_83), (0, .ref b0), (1, .ref b1)]) hx hb d_Words_goOn_76 hl (k := 0) rfl (by rw [ev_147]; rfl) (by decide) rfl (fun ls hl => ?_)
            refine lv_goto (tgt := 43) hx hb d_Words_goOn_79 (by decide) ?_
            exact ihk_130 (v_147) (y_132) (y_133) (y_134) (y_135) _ _ _ (zI.wk (l' := 0) (h' := 10) hv_147 (by decide)) hy_132 hy_133 hy_134 (zm_up qv_147 hmk_130 (by decide)) hP hD hS (lv_sub hl [0, 1, 2, 3] rfl)
          · have _nhc_144 := hc_144
            have ni_148 := (fa_eq _ _).mp hc_144
            rw [li_0] at ni_148
            have hv_149 : zI x_143 0 0 := zI.eq_l hx_143 zc_0 hc_144
            refine lv_aload_n hx hb d_Words_goOn_60 rfl (lv_at hl 2 rfl) ?_
            refine lv_iload_n hx hb d_Words_goOn_61 rfl (lv_at hl 0 rfl) ?_
            refine lv_aload_n hx hb d_Words_goOn_62 rfl (lv_at hl 2 rfl) ?_
            refine va_get (D := G.1) (ci := 7) (v := .ref b6) (C := R_Words) (T := F_Words) (N := 8) hx hb hts i_Words hown hK hP 0 rfl rfl 4 (by decide) (hts _ q270) (fun _ h9 => h9) rfl d_Words_goOn_63 ?_
            refine lv_iload_n hx hb d_Words_goOn_66 rfl (lv_at hl 1 rfl) ?_
            refine va_iald hx hb hK hP 3 0 rfl rfl (zI.inn hv_92 (by decide)) d_Words_goOn_67 ?_
            refine lv_topi (fun v_150 ev_150 => ?_)
            refine z_callV (index := 84) (As := [.int y_131, .int v_150]) (rest := []) (wr := [(b16, .inl (G.2 0, 256, .inl b18)), (b6, .inl (G.2 0, 100, .inl b24)), (b1, .inr (5, [.int b26, .int b27, .ref b28, .ref b29, .ref b30, .ref b31, .ref b32, .ref b33, .int b34, .ref b35, .ref b36, .ref b37, .ref b38, .ref b39, .ref b40])), (b35, .inl (G.2 0, 240, .inl b41)), (b39, .inl (G.2 0, 242, .inl b42)), (b4, .inr (6, [.int b14, .int 4, .int 100, .ref b15, .ref b16])), (b15, .inl (G.2 1, 400, .inr (.inl b17)))]) Z (s2_Words_comeTo l G (b0) (y_131) (v_150) (b2) (b3) (b4) (b5) (b6) (b7) (b8) (b9) (b10) (b11) (b12) (f_97) (y_132) (b20) (b21) (y_133) (y_134) (y_135) hv_141 hb10 hy_132 hf_97 hy_133 hy_134) hl.1 q858 q860 qs27 q8 q861 ⟨by decide, by decide, by show _ = some 2; decide +kernel⟩ ⟨Nat.le_of_ble_eq_true rfl, Nat.le_of_ble_eq_true rfl⟩ ⟨Nat.le_of_ble_eq_true rfl, Nat.le_of_ble_eq_true rfl⟩ rfl (Nat.le_of_ble_eq_true rfl) d_Words_goOn_68 hP hD hS hA 0 7 rfl rfl rfl [0, 12, 13, 5, 2, 6, 4] [1, 3, 7, 8, 9, 10, 11] rfl rfl rfl rfl (by decide) (fun v w1 H locs hw_151 hP hD hS => ?_)
            obtain ⟨x_152, x_153, f_154, f_155, f_156, rfl, rfl, hx_152, hx_153, hf_154, hf_155⟩ := hw_151
            have hP : va_P G.1 classes [(b16, .inl (G.2 0, 256, .inl b18)), (b6, .inl (G.2 0, 100, .inl b24)), (b1, .inr (5, [.int b26, .int b27, .ref b28, .ref b29, .ref b30, .ref b31, .ref b32, .ref b33, .int b34, .ref b35, .ref b36, .ref b37, .ref b38, .ref b39, .ref b40])), (b35, .inl (G.2 0, 240, .inl b41)), (b39, .inl (G.2 0, 242, .inl b42)), (b4, .inr (6, [.int b14, .int 4, .int 100, .ref b15, .ref b16])), (b15, .inl (G.2 1, 400, .inr (.inl b17))), (b0, .inr (7, [.ref b2, .ref b3, .ref b4, .ref b5, .ref b6, .ref b7, .ref b8, .ref b9])), (b3, .inr (6, [.int b10, .int 4, .int 10, .ref b11, .ref b12])), (b11, .inl (G.2 1, 40, .inr (.inl f_97))), (b5, .inr (6, [.int x_153, .int 4, .int 100, .ref b20, .ref b21])), (b20, .inl (G.2 1, 400, .inr (.inl f_154))), (b21, .inl (G.2 0, 256, .inl f_155)), (b7, .inl (G.2 0, 100, .inl f_156))] H := hP
            have hD := z_tie hP hD rfl
            refine W.widen (k := 0) (n := 0) (Nat.le_of_ble_eq_true rfl) (Nat.le_of_ble_eq_true rfl) ?_
            refine lv_if_ne (tgt := 76) hx hb d_Words_goOn_71 (by decide) (fun hc_157 => ?_) (fun hc_157 => ?_)
            · have _nhc_157 := hc_157
              have ni_158 : ¬ (x_152 : Int32).toInt = (0 : Int32).toInt := fun z => hc_157 ((fa_eq _ _).mpr z)
              simp only [li_0] at ni_158
              have hv_159 : zI x_152 1 1 := zI.ne_lo hx_152 zc_0 hc_157 (by decide)
              obtain ⟨v_160, ev_160⟩ : ∃ z : Int32, z = y_131 + 1 := ⟨_, rfl⟩
              obtain ⟨qv_160, hv_160⟩ := zI_add (l := 1) (h := 10) hv_141 zc_1 ev_160 (by decide)
              rw [li_1] at qv_160
              refine lv_iinc (v := v_160) (lv' := [(3, .int v_160), (2, .int y_83), (0, .ref b0), (1, .ref b1)]) hx hb d_Words_goOn_76 hl (k := 0) rfl (by rw [ev_160]; rfl) (by decide) rfl (fun ls hl => ?_)
              refine lv_goto (tgt := 43) hx hb d_Words_goOn_79 (by decide) ?_
              exact ihk_130 (v_160) (x_153) (f_154) (f_155) (f_156) _ _ _ (zI.wk (l' := 0) (h' := 10) hv_160 (by decide)) hx_153 hf_154 hf_155 (zm_up qv_160 hmk_130 (by decide)) (hP.sub [7, 0, 11, 1, 13, 10, 12, 2, 3, 4, 5, 6, 8, 9] rfl) (hD.sub [7, 0, 11, 1, 13, 10, 12, 2, 3, 4, 5, 6, 8, 9] (by decide) rfl) hS (lv_sub hl [0, 1, 2, 3] rfl)
            · have _nhc_157 := hc_157
              have ni_161 := (fa_eq _ _).mp hc_157
              rw [li_0] at ni_161
              have hv_162 : zI x_152 0 0 := zI.eq_l hx_152 zc_0 hc_157
              refine lv_iconst (v := 0) hx hb d_Words_goOn_74 (by decide) ?_
              exact z_zret hx hb hr hlocks rfl (hP.sub [7, 8, 9, 5, 6, 0, 10, 11, 12, 1, 13, 2, 3, 4] rfl) (hD.sub [7, 8, 9, 5, 6, 0, 10, 11, 12, 1, 13, 2, 3, 4] (by decide) rfl) hS (Nat.le_of_ble_eq_true rfl) (Nat.le_of_ble_eq_true rfl) d_Words_goOn_75 ⟨0, b4, b15, b16, b5, b20, b21, b6, b7, f_97, b14, b17, b18, x_153, f_154, f_155, b24, f_156, rfl, rfl, (zI.wk (l' := 0) (h' := 1) zc_0 (by decide)), hf_97, (zI.wk (l' := 0) (h' := 100) hv_93 (by decide)), hb17, hb18, hx_153, hf_154, hf_155⟩
theorem d_Words_number_93 : decode prog_12_method_2_code 93 = .ok (.ireturn, 1) := by decide +kernel
abbrev m_s7_Machine_takes : Room := { frames := 1, cells := 0, slots := 0, locals := 23 }
set_option maxHeartbeats 4000000 in
set_option maxRecDepth 100000 in
theorem s7_Machine_takes (l : Launch) (G : zG) (b0 : Nat) (b1 : Nat) (b2 : Int32) (b3 : Int32) (b4 : Int32) (b5 : Int32) (b6 : Nat) (b7 : Nat) (b8 : Nat) (b9 : Nat) (b10 : Nat) (b11 : Nat) (b12 : Int32) (b13 : Nat) (b14 : Nat) (b15 : Nat) (b16 : Nat) (b17 : Nat) (b18 : Nat) (b19 : Nat → Int64) (b20 : Int32) (b21 : Nat) (b22 : Nat) (b23 : Nat → Int64) (hb2 : zI b2 0 99) (hb3 : zI b3 0 0) (hb4 : zI b4 0 1) (hb5 : zI b5 0 241) (hb12 : zI b12 0 240) (hb20 : zI b20 0 100) (hb23 : zqa qB b23) : zM l G y_Machine_takes prog_4_method_18_code 5 (Option.some Jvm.ClassFile.FieldType.boolean) m_s7_Machine_takes [.ref b0, .ref b1, .int b2, .int b3] [(b0, .inr (5, [.int b4, .int b5, .ref b6, .ref b7, .ref b8, .ref b9, .ref b10, .ref b11, .int b12, .ref b13, .ref b14, .ref b15, .ref b16, .ref b17, .ref b18])), (b11, .inl (G.2 1, 4, .inr (.inl b19))), (b1, .inr (6, [.int b20, .int 4, .int 100, .ref b21, .ref b22])), (b21, .inl (G.2 1, 400, .inr (.inl b23)))] (fun v w => ∃ (e0 : Int32), v = some (.int e0) ∧ w = [(b0, .inr (5, [.int b4, .int b5, .ref b6, .ref b7, .ref b8, .ref b9, .ref b10, .ref b11, .int b12, .ref b13, .ref b14, .ref b15, .ref b16, .ref b17, .ref b18])), (b11, .inl (G.2 1, 4, .inr (.inl b19))), (b1, .inr (6, [.int b20, .int 4, .int 100, .ref b21, .ref b22])), (b21, .inl (G.2 1, 400, .inr (.inl b23)))] ∧ (zI e0 0 1)) := by
  refine z_start (by decide +kernel) (Nat.le_of_ble_eq_true rfl) ?_
  intro p e s m below meth c A Z hr hnm hA hP hD hS ls hl
  have Z : zC p s m _ meth c prog_4_method_18_code 5 "TraceMachines$Machine" G := Z
  obtain ⟨hx, hb, hml, hown, hts, hK, hN, hlocks⟩ := id Z
  have hl : lv_has ls 5 [(0, .ref b0), (1, .ref b1), (2, .int b2), (3, .int b3)] := hl
  refine lv_iconst (v := 0) hx hb d_Machine_takes_0 (by decide) ?_
  refine lv_istore (lv' := [(4, .int 0), (0, .ref b0), (1, .ref b1), (2, .int b2), (3, .int b3)]) hx hb d_Machine_takes_1 hl (by decide) rfl (fun ls hl => ?_)
  suffices key : ∀ (k_18 : Nat) (y_19 : Int32) (H : Heap) (locs : List Loc) (ls : Array Slot), (zI y_19 0 4) → (4 : Int) - y_19.toInt < (k_18 : Int) → va_P G.1 classes [(b0, .inr (5, [.int b4, .int b5, .ref b6, .ref b7, .ref b8, .ref b9, .ref b10, .ref b11, .int b12, .ref b13, .ref b14, .ref b15, .ref b16, .ref b17, .ref b18])), (b11, .inl (G.2 1, 4, .inr (.inl b19))), (b1, .inr (6, [.int b20, .int 4, .int 100, .ref b21, .ref b22])), (b21, .inl (G.2 1, 400, .inr (.inl b23)))] H → va_D A [(b0, .inr (5, [.int b4, .int b5, .ref b6, .ref b7, .ref b8, .ref b9, .ref b10, .ref b11, .int b12, .ref b13, .ref b14, .ref b15, .ref b16, .ref b17, .ref b18])), (b11, .inl (G.2 1, 4, .inr (.inl b19))), (b1, .inr (6, [.int b20, .int 4, .int 100, .ref b21, .ref b22])), (b21, .inl (G.2 1, 400, .inr (.inl b23)))] → va_S A s.heap H locs → lv_has ls 5 [(4, .int y_19), (0, .ref b0), (1, .ref b1), (2, .int b2), (3, .int b3)] → W p l e m_s7_Machine_takes s m ([.ref b0, .ref b1, .int b2, .int b3] : List Value).toArray below meth c H locs 0 0 (MQ below (zQ G (fun v w => ∃ (e0 : Int32), v = some (.int e0) ∧ w = [(b0, .inr (5, [.int b4, .int b5, .ref b6, .ref b7, .ref b8, .ref b9, .ref b10, .ref b11, .int b12, .ref b13, .ref b14, .ref b15, .ref b16, .ref b17, .ref b18])), (b11, .inl (G.2 1, 4, .inr (.inl b19))), (b1, .inr (6, [.int b20, .int 4, .int 100, .ref b21, .ref b22])), (b21, .inl (G.2 1, 400, .inr (.inl b23)))] ∧ (zI e0 0 1)) A) ([.ref b0, .ref b1, .int b2, .int b3] : List Value).toArray s m_s7_Machine_takes.cells m_s7_Machine_takes.slots A) (F0 m 3 ls []) by
    exact key 5 (0) _ _ _ (zI.wk (l' := 0) (h' := 4) zc_0 (by decide)) (zm_upi (zI.wk (l' := 0) (h' := 4) zc_0 (by decide)) (by decide)) hP hD hS (lv_sub hl [0, 1, 2, 3, 4] rfl)
  intro k_18
  induction k_18 with
  | zero =>
    intro y_19 H locs ls hy_19 hmk_18 hP hD hS hl
    exact (zm_up0 hy_19 hmk_18).elim
  | succ k_18 ihk_18 =>
    intro y_19 H locs ls hy_19 hmk_18 hP hD hS hl
    refine lv_iload hx hb d_Machine_takes_3 (lv_at hl 0 rfl) ?_
    refine lv_iconst (v := 4) hx hb d_Machine_takes_5 (by decide) ?_
    refine lv_icmp_ge (tgt := 38) hx hb d_Machine_takes_6 (by decide) (fun hc_20 => ?_) (fun hc_20 => ?_)
    · have _nhc_20 := hc_20
      have ni_21 := (fa_le _ _).mp hc_20
      rw [li_4] at ni_21
      have hv_22 : zI y_19 4 4 := zI.le_r zc_4 hy_19 hc_20 (by decide)
      refine lv_iconst (v := 0) hx hb d_Machine_takes_38 (by decide) ?_
      exact z_zret hx hb hr hlocks rfl hP hD hS (Nat.le_of_ble_eq_true rfl) (Nat.le_of_ble_eq_true rfl) d_Machine_takes_39 ⟨0, rfl, rfl, (zI.wk (l' := 0) (h' := 1) zc_0 (by decide))⟩
    · have _nhc_20 := hc_20
      have ni_23 := (fa_lt _ _).mp (zi_nle hc_20)
      rw [li_4] at ni_23
      have hv_24 : zI y_19 0 3 := zI.lt_l hy_19 zc_4 (zi_nle hc_20) (by decide)
      refine lv_aload_n hx hb d_Machine_takes_9 rfl (lv_at hl 2 rfl) ?_
      refine lv_iload_n hx hb d_Machine_takes_10 rfl (lv_at hl 3 rfl) ?_
      refine lv_iload_n hx hb d_Machine_takes_11 rfl (lv_at hl 4 rfl) ?_
      refine lv_iload hx hb d_Machine_takes_12 (lv_at hl 0 rfl) ?_
      refine z_callV (index := 166) (As := [.int b2, .int b3, .int y_19]) (rest := []) (wr := [(b0, .inr (5, [.int b4, .int b5, .ref b6, .ref b7, .ref b8, .ref b9, .ref b10, .ref b11, .int b12, .ref b13, .ref b14, .ref b15, .ref b16, .ref b17, .ref b18])), (b11, .inl (G.2 1, 4, .inr (.inl b19)))]) Z (s6_Sets_longAt l G (b1) (b2) (b3) (y_19) (b20) (b21) (b22) (b23) hb2 hb3 hv_24 hb20 hb23) hl.1 q719 q720 q721 q7 q722 ⟨by decide, by decide, by show _ = some 3; decide +kernel⟩ ⟨Nat.le_of_ble_eq_true rfl, Nat.le_of_ble_eq_true rfl⟩ ⟨Nat.le_of_ble_eq_true rfl, Nat.le_of_ble_eq_true rfl⟩ rfl (Nat.le_of_ble_eq_true rfl) d_Machine_takes_14 hP hD hS hA 2 6 rfl rfl rfl [2, 3] [0, 1] rfl rfl rfl rfl (by decide) (fun v w1 H locs hw_25 hP hD hS => ?_)
      obtain ⟨x_26, rfl, rfl, hfx_27⟩ := hw_25
      have hP : va_P G.1 classes [(b0, .inr (5, [.int b4, .int b5, .ref b6, .ref b7, .ref b8, .ref b9, .ref b10, .ref b11, .int b12, .ref b13, .ref b14, .ref b15, .ref b16, .ref b17, .ref b18])), (b11, .inl (G.2 1, 4, .inr (.inl b19))), (b1, .inr (6, [.int b20, .int 4, .int 100, .ref b21, .ref b22])), (b21, .inl (G.2 1, 400, .inr (.inl b23)))] H := hP
      have hD := z_tie hP hD rfl
      refine W.widen (k := 0) (n := 0) (Nat.le_of_ble_eq_true rfl) (Nat.le_of_ble_eq_true rfl) ?_
      refine lv_aload_n hx hb d_Machine_takes_17 rfl (lv_at hl 1 rfl) ?_
      refine va_get (D := G.1) (ci := 5) (v := .ref b11) (C := R_Machine) (T := F_Machine) (N := 15) hx hb hts i_Machine hown hK hP 0 rfl rfl 7 (by decide) (hts _ q181) (fun _ h9 => h9) rfl d_Machine_takes_18 ?_
      refine lv_iload hx hb d_Machine_takes_21 (lv_at hl 0 rfl) ?_
      refine va_lald hx hb hK hP 1 1 rfl rfl (zI.inn hv_24 (by decide)) d_Machine_takes_23 ?_
      refine lv_topl (fun v_28 ev_28 => ?_)
      refine lv_land hx hb d_Machine_takes_24 ?_
      refine lv_topl (fun v_29 ev_29 => ?_)
      refine lv_lconst (v := 0) hx hb d_Machine_takes_25 (by decide) ?_
      refine W.lcmp hx hb d_Machine_takes_26 ?_
      refine lv_topi (fun v_30 ev_30 => ?_)
      refine lv_if_eq (tgt := 32) hx hb d_Machine_takes_27 (by decide) (fun hc_31 => ?_) (fun hc_31 => ?_)
      · have ni_32 := hc_31
        rw [ev_30] at ni_32
        simp only [lg_cmp_lt, lg_cmp_le, lg_cmp_gt, lg_cmp_ge, lg_cmp_eq, fa_lt64, fa_le64, fa_eq64, Int32.toInt_toInt64, ll_0] at ni_32
        have hv_33 : zJ v_29 0 0 := by have _a := ni_32; have _b := (zJ_all v_29); have _c := zcl_0; simp only [Int32.toInt_toInt64] at *; exact ⟨by omega, by omega⟩
        obtain ⟨v_34, ev_34⟩ : ∃ z : Int32, z = y_19 + 1 := ⟨_, rfl⟩
        obtain ⟨qv_34, hv_34⟩ := zI_add (l := 1) (h := 4) hv_24 zc_1 ev_34 (by decide)
        rw [li_1] at qv_34
        refine lv_iinc (v := v_34) (lv' := [(4, .int v_34), (0, .ref b0), (1, .ref b1), (2, .int b2), (3, .int b3)]) hx hb d_Machine_takes_32 hl (k := 0) rfl (by rw [ev_34]; rfl) (by decide) rfl (fun ls hl => ?_)
        refine lv_goto (tgt := 3) hx hb d_Machine_takes_35 (by decide) ?_
        exact ihk_18 (v_34) _ _ _ (zI.wk (l' := 0) (h' := 4) hv_34 (by decide)) (zm_up qv_34 hmk_18 (by decide)) hP hD hS (lv_sub hl [0, 1, 2, 3, 4] rfl)
      · have ni_35 := hc_31
        rw [ev_30] at ni_35
        simp only [lg_cmp_lt, lg_cmp_le, lg_cmp_gt, lg_cmp_ge, lg_cmp_eq, fa_lt64, fa_le64, fa_eq64, Int32.toInt_toInt64, ll_0] at ni_35
        refine lv_iconst (v := 1) hx hb d_Machine_takes_30 (by decide) ?_
        exact z_zret hx hb hr hlocks rfl hP hD hS (Nat.le_of_ble_eq_true rfl) (Nat.le_of_ble_eq_true rfl) d_Machine_takes_31 ⟨1, rfl, rfl, (zI.wk (l' := 0) (h' := 1) zc_1 (by decide))⟩
theorem d_Words_number_8 : decode prog_12_method_2_code 8 = .ok (.ireturn, 1) := by decide +kernel
theorem d_Words_number_75 : decode prog_12_method_2_code 75 = .ok (.ireturn, 1) := by decide +kernel
abbrev m_s1_Words_number : Room := { frames := 5, cells := 0, slots := 0, locals := 114 }
set_option maxHeartbeats 4000000 in
set_option maxRecDepth 100000 in
theorem s1_Words_number (l : Launch) (G : zG) (b0 : Nat) (b1 : Nat) (b2 : Int32) (b3 : Nat) (b4 : Nat) (b5 : Nat) (b6 : Nat) (b7 : Nat) (b8 : Nat) (b9 : Nat) (b10 : Nat) (b11 : Int32) (b12 : Nat) (b13 : Nat) (b14 : Nat → Int64) (b15 : Int32) (b16 : Nat) (b17 : Nat) (b18 : Nat → Int64) (b19 : Nat → Int32) (b20 : Int32) (b21 : Nat) (b22 : Nat) (b23 : Nat → Int64) (b24 : Nat → Int32) (b25 : Nat → Int32) (b26 : Nat → Int32) (b27 : Int32) (b28 : Int32) (b29 : Nat) (b30 : Nat) (b31 : Nat) (b32 : Nat) (b33 : Nat) (b34 : Nat) (b35 : Int32) (b36 : Nat) (b37 : Nat) (b38 : Nat) (b39 : Nat) (b40 : Nat) (b41 : Nat) (b42 : Nat → Int64) (b43 : Nat → Int32) (b44 : Nat → Int32) (hb2 : zI b2 0 8) (hb11 : zI b11 0 10) (hb15 : zI b15 0 100) (hb20 : zI b20 0 100) (hb27 : zI b27 0 1) (hb28 : zI b28 0 241) (hb35 : zI b35 0 240) (hb14 : zqa qB b14) (hb18 : zqa qB b18) (hb19 : zR b19 (-1) 99) (hb23 : zqa qB b23) (hb24 : zR b24 (-1) 99) (hb43 : zK b43) (hb44 : zR b44 0 240) : zM l G y_Words_number prog_12_method_2_code 4 (Option.some Jvm.ClassFile.FieldType.int) m_s1_Words_number [.ref b0, .ref b1, .int b2] [(b0, .inr (7, [.ref b3, .ref b4, .ref b5, .ref b6, .ref b7, .ref b8, .ref b9, .ref b10])), (b4, .inr (6, [.int b11, .int 4, .int 10, .ref b12, .ref b13])), (b12, .inl (G.2 1, 40, .inr (.inl b14))), (b5, .inr (6, [.int b15, .int 4, .int 100, .ref b16, .ref b17])), (b16, .inl (G.2 1, 400, .inr (.inl b18))), (b17, .inl (G.2 0, 256, .inl b19)), (b6, .inr (6, [.int b20, .int 4, .int 100, .ref b21, .ref b22])), (b21, .inl (G.2 1, 400, .inr (.inl b23))), (b22, .inl (G.2 0, 256, .inl b24)), (b7, .inl (G.2 0, 100, .inl b25)), (b8, .inl (G.2 0, 100, .inl b26)), (b1, .inr (5, [.int b27, .int b28, .ref b29, .ref b30, .ref b31, .ref b32, .ref b33, .ref b34, .int b35, .ref b36, .ref b37, .ref b38, .ref b39, .ref b40, .ref b41])), (b34, .inl (G.2 1, 4, .inr (.inl b42))), (b36, .inl (G.2 0, 240, .inl b43)), (b40, .inl (G.2 0, 242, .inl b44))] (fun v w => ∃ (e0 : Int32), ∃ (e1 : Nat), ∃ (e2 : Nat), ∃ (e3 : Nat), ∃ (e4 : Nat), ∃ (e5 : Nat), ∃ (e6 : Nat), ∃ (e7 : Nat), ∃ (e8 : Nat), ∃ (e9 : Nat → Int64), ∃ (e10 : Int32), ∃ (e11 : Nat → Int64), ∃ (e12 : Nat → Int32), ∃ (e13 : Int32), ∃ (e14 : Nat → Int64), ∃ (e15 : Nat → Int32), ∃ (e16 : Nat → Int32), ∃ (e17 : Nat → Int32), v = some (.int e0) ∧ w = [(b0, .inr (7, [.ref b3, .ref b4, .ref e1, .ref e4, .ref e7, .ref e8, .ref b9, .ref b10])), (b4, .inr (6, [.int b11, .int 4, .int 10, .ref b12, .ref b13])), (b12, .inl (G.2 1, 40, .inr (.inl e9))), (e1, .inr (6, [.int e10, .int 4, .int 100, .ref e2, .ref e3])), (e2, .inl (G.2 1, 400, .inr (.inl e11))), (e3, .inl (G.2 0, 256, .inl e12)), (e4, .inr (6, [.int e13, .int 4, .int 100, .ref e5, .ref e6])), (e5, .inl (G.2 1, 400, .inr (.inl e14))), (e6, .inl (G.2 0, 256, .inl e15)), (e7, .inl (G.2 0, 100, .inl e16)), (e8, .inl (G.2 0, 100, .inl e17)), (b1, .inr (5, [.int b27, .int b28, .ref b29, .ref b30, .ref b31, .ref b32, .ref b33, .ref b34, .int b35, .ref b36, .ref b37, .ref b38, .ref b39, .ref b40, .ref b41])), (b34, .inl (G.2 1, 4, .inr (.inl b42))), (b36, .inl (G.2 0, 240, .inl b43)), (b40, .inl (G.2 0, 242, .inl b44))] ∧ (zqa qB e9) ∧ (zI e10 0 100) ∧ (zqa qB e11) ∧ (zR e12 (-1) 99) ∧ (zI e13 0 100) ∧ (zqa qB e14) ∧ (zR e15 (-1) 99)) := by
  refine z_start (by decide +kernel) (Nat.le_of_ble_eq_true rfl) ?_
  intro p e s m below meth c A Z hr hnm hA hP hD hS ls hl
  have Z : zC p s m _ meth c prog_12_method_2_code 4 "TraceMachines$Words" G := Z
  obtain ⟨hx, hb, hml, hown, hts, hK, hN, hlocks⟩ := id Z
  have hl : lv_has ls 4 [(0, .ref b0), (1, .ref b1), (2, .int b2)] := hl
  refine lv_aload_n hx hb d_Words_number_0 rfl (lv_at hl 1 rfl) ?_
  refine va_get (D := G.1) (ci := 5) (v := .int b28) (C := R_Machine) (T := F_Machine) (N := 15) hx hb hts i_Machine hown hK hP 11 rfl rfl 1 (by decide) (hts _ q166) (fun _ h9 => h9) rfl d_Words_number_1 ?_
  refine lv_if_ne (tgt := 9) hx hb d_Words_number_4 (by decide) (fun hc_1 => ?_) (fun hc_1 => ?_)
  · have _nhc_1 := hc_1
    have ni_2 : ¬ (b28 : Int32).toInt = (0 : Int32).toInt := fun z => hc_1 ((fa_eq _ _).mpr z)
    simp only [li_0] at ni_2
    have hv_3 : zI b28 1 241 := zI.ne_lo hb28 zc_0 hc_1 (by decide)
    refine lv_aload_n hx hb d_Words_number_9 rfl (lv_at hl 0 rfl) ?_
    refine va_get (D := G.1) (ci := 7) (v := .ref b4) (C := R_Words) (T := F_Words) (N := 8) hx hb hts i_Words hown hK hP 0 rfl rfl 1 (by decide) (hts _ q267) (fun _ h9 => h9) rfl d_Words_number_10 ?_
    refine z_callV (index := 48) (As := []) (rest := []) (wr := [(b0, .inr (7, [.ref b3, .ref b4, .ref b5, .ref b6, .ref b7, .ref b8, .ref b9, .ref b10])), (b5, .inr (6, [.int b15, .int 4, .int 100, .ref b16, .ref b17])), (b16, .inl (G.2 1, 400, .inr (.inl b18))), (b17, .inl (G.2 0, 256, .inl b19)), (b6, .inr (6, [.int b20, .int 4, .int 100, .ref b21, .ref b22])), (b21, .inl (G.2 1, 400, .inr (.inl b23))), (b22, .inl (G.2 0, 256, .inl b24)), (b7, .inl (G.2 0, 100, .inl b25)), (b8, .inl (G.2 0, 100, .inl b26)), (b1, .inr (5, [.int b27, .int b28, .ref b29, .ref b30, .ref b31, .ref b32, .ref b33, .ref b34, .int b35, .ref b36, .ref b37, .ref b38, .ref b39, .ref b40, .ref b41])), (b34, .inl (G.2 1, 4, .inr (.inl b42))), (b36, .inl (G.2 0, 240, .inl b43)), (b40, .inl (G.2 0, 242, .inl b44))]) Z (s5_Sets_clear l G (b4) (b11) (b12) (b13) (b14) hb11 hb14) hl.1 q823 q705 q706 q7 q707 ⟨by decide, by decide, by show _ = some 0; decide +kernel⟩ ⟨Nat.le_of_ble_eq_true rfl, Nat.le_of_ble_eq_true rfl⟩ ⟨Nat.le_of_ble_eq_true rfl, Nat.le_of_ble_eq_true rfl⟩ rfl (Nat.le_of_ble_eq_true rfl) d_Words_number_13 hP hD hS hA 1 6 rfl rfl rfl [1, 2] [0, 3, 4, 5, 6, 7, 8, 9, 10, 11, 12, 13, 14] rfl rfl rfl rfl (by decide) (fun v w1 H locs hw_4 hP hD hS => ?_)
    obtain ⟨f_5, rfl, rfl, hf_5⟩ := hw_4
    have hP : va_P G.1 classes [(b0, .inr (7, [.ref b3, .ref b4, .ref b5, .ref b6, .ref b7, .ref b8, .ref b9, .ref b10])), (b5, .inr (6, [.int b15, .int 4, .int 100, .ref b16, .ref b17])), (b16, .inl (G.2 1, 400, .inr (.inl b18))), (b17, .inl (G.2 0, 256, .inl b19)), (b6, .inr (6, [.int b20, .int 4, .int 100, .ref b21, .ref b22])), (b21, .inl (G.2 1, 400, .inr (.inl b23))), (b22, .inl (G.2 0, 256, .inl b24)), (b7, .inl (G.2 0, 100, .inl b25)), (b8, .inl (G.2 0, 100, .inl b26)), (b1, .inr (5, [.int b27, .int b28, .ref b29, .ref b30, .ref b31, .ref b32, .ref b33, .ref b34, .int b35, .ref b36, .ref b37, .ref b38, .ref b39, .ref b40, .ref b41])), (b34, .inl (G.2 1, 4, .inr (.inl b42))), (b36, .inl (G.2 0, 240, .inl b43)), (b40, .inl (G.2 0, 242, .inl b44)), (b4, .inr (6, [.int b11, .int 4, .int 10, .ref b12, .ref b13])), (b12, .inl (G.2 1, 40, .inr (.inl f_5)))] H := hP
    have hD := z_tie hP hD rfl
    refine W.widen (k := 0) (n := 0) (Nat.le_of_ble_eq_true rfl) (Nat.le_of_ble_eq_true rfl) ?_
    refine lv_aload_n hx hb d_Words_number_16 rfl (lv_at hl 0 rfl) ?_
    refine va_get (D := G.1) (ci := 7) (v := .ref b4) (C := R_Words) (T := F_Words) (N := 8) hx hb hts i_Words hown hK hP 0 rfl rfl 1 (by decide) (hts _ q267) (fun _ h9 => h9) rfl d_Words_number_17 ?_
    refine lv_iconst (v := 0) hx hb d_Words_number_20 (by decide) ?_
    refine lv_iconst (v := 0) hx hb d_Words_number_21 (by decide) ?_
    refine lv_iconst (v := 0) hx hb d_Words_number_22 (by decide) ?_
    refine z_callV (index := 51) (As := [.int 0, .int 0, .int 0]) (rest := []) (wr := [(b0, .inr (7, [.ref b3, .ref b4, .ref b5, .ref b6, .ref b7, .ref b8, .ref b9, .ref b10])), (b5, .inr (6, [.int b15, .int 4, .int 100, .ref b16, .ref b17])), (b16, .inl (G.2 1, 400, .inr (.inl b18))), (b17, .inl (G.2 0, 256, .inl b19)), (b6, .inr (6, [.int b20, .int 4, .int 100, .ref b21, .ref b22])), (b21, .inl (G.2 1, 400, .inr (.inl b23))), (b22, .inl (G.2 0, 256, .inl b24)), (b7, .inl (G.2 0, 100, .inl b25)), (b8, .inl (G.2 0, 100, .inl b26)), (b1, .inr (5, [.int b27, .int b28, .ref b29, .ref b30, .ref b31, .ref b32, .ref b33, .ref b34, .int b35, .ref b36, .ref b37, .ref b38, .ref b39, .ref b40, .ref b41])), (b34, .inl (G.2 1, 4, .inr (.inl b42))), (b36, .inl (G.2 0, 240, .inl b43)), (b40, .inl (G.2 0, 242, .inl b44))]) Z (s5_Sets_put l G (b4) (0) (0) (0) (b11) (b12) (b13) (f_5) (zI.wk (l' := 0) (h' := 9) zc_0 (by decide)) zc_0 (zI.wk (l' := 0) (h' := 240) zc_0 (by decide)) hb11 hf_5) hl.1 q824 q710 q711 q7 q712 ⟨by decide, by decide, by show _ = some 3; decide +kernel⟩ ⟨Nat.le_of_ble_eq_true rfl, Nat.le_of_ble_eq_true rfl⟩ ⟨Nat.le_of_ble_eq_true rfl, Nat.le_of_ble_eq_true rfl⟩ rfl (Nat.le_of_ble_eq_true rfl) d_Words_number_23 hP hD hS hA 13 6 rfl rfl rfl [13, 14] [0, 1, 2, 3, 4, 5, 6, 7, 8, 9, 10, 11, 12] rfl rfl rfl rfl (by decide) (fun v w1 H locs hw_6 hP hD hS => ?_)
    obtain ⟨f_7, rfl, rfl, hf_7⟩ := hw_6
    have hP : va_P G.1 classes [(b0, .inr (7, [.ref b3, .ref b4, .ref b5, .ref b6, .ref b7, .ref b8, .ref b9, .ref b10])), (b5, .inr (6, [.int b15, .int 4, .int 100, .ref b16, .ref b17])), (b16, .inl (G.2 1, 400, .inr (.inl b18))), (b17, .inl (G.2 0, 256, .inl b19)), (b6, .inr (6, [.int b20, .int 4, .int 100, .ref b21, .ref b22])), (b21, .inl (G.2 1, 400, .inr (.inl b23))), (b22, .inl (G.2 0, 256, .inl b24)), (b7, .inl (G.2 0, 100, .inl b25)), (b8, .inl (G.2 0, 100, .inl b26)), (b1, .inr (5, [.int b27, .int b28, .ref b29, .ref b30, .ref b31, .ref b32, .ref b33, .ref b34, .int b35, .ref b36, .ref b37, .ref b38, .ref b39, .ref b40, .ref b41])), (b34, .inl (G.2 1, 4, .inr (.inl b42))), (b36, .inl (G.2 0, 240, .inl b43)), (b40, .inl (G.2 0, 242, .inl b44)), (b4, .inr (6, [.int b11, .int 4, .int 10, .ref b12, .ref b13])), (b12, .inl (G.2 1, 40, .inr (.inl f_7)))] H := hP
    have hD := z_tie hP hD rfl
    refine W.widen (k := 0) (n := 0) (Nat.le_of_ble_eq_true rfl) (Nat.le_of_ble_eq_true rfl) ?_
    refine lv_aload_n hx hb d_Words_number_26 rfl (lv_at hl 0 rfl) ?_
    refine va_get (D := G.1) (ci := 7) (v := .ref b5) (C := R_Words) (T := F_Words) (N := 8) hx hb hts i_Words hown hK hP 0 rfl rfl 2 (by decide) (hts _ q268) (fun _ h9 => h9) rfl d_Words_number_27 ?_
    refine z_callV (index := 55) (As := []) (rest := []) (wr := [(b0, .inr (7, [.ref b3, .ref b4, .ref b5, .ref b6, .ref b7, .ref b8, .ref b9, .ref b10])), (b16, .inl (G.2 1, 400, .inr (.inl b18))), (b6, .inr (6, [.int b20, .int 4, .int 100, .ref b21, .ref b22])), (b21, .inl (G.2 1, 400, .inr (.inl b23))), (b22, .inl (G.2 0, 256, .inl b24)), (b7, .inl (G.2 0, 100, .inl b25)), (b8, .inl (G.2 0, 100, .inl b26)), (b1, .inr (5, [.int b27, .int b28, .ref b29, .ref b30, .ref b31, .ref b32, .ref b33, .ref b34, .int b35, .ref b36, .ref b37, .ref b38, .ref b39, .ref b40, .ref b41])), (b34, .inl (G.2 1, 4, .inr (.inl b42))), (b36, .inl (G.2 0, 240, .inl b43)), (b40, .inl (G.2 0, 242, .inl b44)), (b4, .inr (6, [.int b11, .int 4, .int 10, .ref b12, .ref b13])), (b12, .inl (G.2 1, 40, .inr (.inl f_7)))]) Z (s5_Sets_forget l G (b5) (b15) (b16) (b17) (b19) hb15 hb19) hl.1 q825 q826 q827 q7 q828 ⟨by decide, by decide, by show _ = some 0; decide +kernel⟩ ⟨Nat.le_of_ble_eq_true rfl, Nat.le_of_ble_eq_true rfl⟩ ⟨Nat.le_of_ble_eq_true rfl, Nat.le_of_ble_eq_true rfl⟩ rfl (Nat.le_of_ble_eq_true rfl) d_Words_number_30 hP hD hS hA 1 6 rfl rfl rfl [1, 3] [0, 2, 4, 5, 6, 7, 8, 9, 10, 11, 12, 13, 14] rfl rfl rfl rfl (by decide) (fun v w1 H locs hw_8 hP hD hS => ?_)
    obtain ⟨f_9, rfl, rfl, hf_9⟩ := hw_8
    have hP : va_P G.1 classes [(b0, .inr (7, [.ref b3, .ref b4, .ref b5, .ref b6, .ref b7, .ref b8, .ref b9, .ref b10])), (b16, .inl (G.2 1, 400, .inr (.inl b18))), (b6, .inr (6, [.int b20, .int 4, .int 100, .ref b21, .ref b22])), (b21, .inl (G.2 1, 400, .inr (.inl b23))), (b22, .inl (G.2 0, 256, .inl b24)), (b7, .inl (G.2 0, 100, .inl b25)), (b8, .inl (G.2 0, 100, .inl b26)), (b1, .inr (5, [.int b27, .int b28, .ref b29, .ref b30, .ref b31, .ref b32, .ref b33, .ref b34, .int b35, .ref b36, .ref b37, .ref b38, .ref b39, .ref b40, .ref b41])), (b34, .inl (G.2 1, 4, .inr (.inl b42))), (b36, .inl (G.2 0, 240, .inl b43)), (b40, .inl (G.2 0, 242, .inl b44)), (b4, .inr (6, [.int b11, .int 4, .int 10, .ref b12, .ref b13])), (b12, .inl (G.2 1, 40, .inr (.inl f_7))), (b5, .inr (6, [.int 0, .int 4, .int 100, .ref b16, .ref b17])), (b17, .inl (G.2 0, 256, .inl f_9))] H := hP
    have hD := z_tie hP hD rfl
    refine W.widen (k := 0) (n := 0) (Nat.le_of_ble_eq_true rfl) (Nat.le_of_ble_eq_true rfl) ?_
    refine lv_aload_n hx hb d_Words_number_33 rfl (lv_at hl 0 rfl) ?_
    refine va_get (D := G.1) (ci := 7) (v := .ref b5) (C := R_Words) (T := F_Words) (N := 8) hx hb hts i_Words hown hK hP 0 rfl rfl 2 (by decide) (hts _ q268) (fun _ h9 => h9) rfl d_Words_number_34 ?_
    refine lv_aload_n hx hb d_Words_number_37 rfl (lv_at hl 0 rfl) ?_
    refine va_get (D := G.1) (ci := 7) (v := .ref b4) (C := R_Words) (T := F_Words) (N := 8) hx hb hts i_Words hown hK hP 0 rfl rfl 1 (by decide) (hts _ q267) (fun _ h9 => h9) rfl d_Words_number_38 ?_
    refine lv_iconst (v := 0) hx hb d_Words_number_41 (by decide) ?_
    refine z_callV (index := 58) (As := [.ref b4, .int 0]) (rest := []) (wr := [(b0, .inr (7, [.ref b3, .ref b4, .ref b5, .ref b6, .ref b7, .ref b8, .ref b9, .ref b10])), (b6, .inr (6, [.int b20, .int 4, .int 100, .ref b21, .ref b22])), (b21, .inl (G.2 1, 400, .inr (.inl b23))), (b22, .inl (G.2 0, 256, .inl b24)), (b7, .inl (G.2 0, 100, .inl b25)), (b8, .inl (G.2 0, 100, .inl b26)), (b1, .inr (5, [.int b27, .int b28, .ref b29, .ref b30, .ref b31, .ref b32, .ref b33, .ref b34, .int b35, .ref b36, .ref b37, .ref b38, .ref b39, .ref b40, .ref b41])), (b34, .inl (G.2 1, 4, .inr (.inl b42))), (b36, .inl (G.2 0, 240, .inl b43)), (b40, .inl (G.2 0, 242, .inl b44))]) Z (s4_Sets_indexOf l G (b5) (b4) (0) (0) (b16) (b17) (b18) (f_9) (b11) (b12) (b13) (f_7) (zI.wk (l' := 0) (h' := 9) zc_0 (by decide)) (zI.wk (l' := 0) (h' := 100) zc_0 (by decide)) hb11 hb18 hf_9 hf_7) hl.1 q830 q831 q832 q7 q833 ⟨by decide, by decide, by show _ = some 2; decide +kernel⟩ ⟨Nat.le_of_ble_eq_true rfl, Nat.le_of_ble_eq_true rfl⟩ ⟨Nat.le_of_ble_eq_true rfl, Nat.le_of_ble_eq_true rfl⟩ rfl (Nat.le_of_ble_eq_true rfl) d_Words_number_42 hP hD hS hA 13 6 rfl rfl rfl [13, 1, 14, 11, 12] [0, 2, 3, 4, 5, 6, 7, 8, 9, 10] rfl rfl rfl rfl (by decide) (fun v w1 H locs hw_10 hP hD hS => ?_)
    obtain ⟨x_11, x_12, f_13, f_14, rfl, rfl, hx_11, hx_12, hf_13, hf_14, hfx_15⟩ := hw_10
    have hP : va_P G.1 classes [(b0, .inr (7, [.ref b3, .ref b4, .ref b5, .ref b6, .ref b7, .ref b8, .ref b9, .ref b10])), (b6, .inr (6, [.int b20, .int 4, .int 100, .ref b21, .ref b22])), (b21, .inl (G.2 1, 400, .inr (.inl b23))), (b22, .inl (G.2 0, 256, .inl b24)), (b7, .inl (G.2 0, 100, .inl b25)), (b8, .inl (G.2 0, 100, .inl b26)), (b1, .inr (5, [.int b27, .int b28, .ref b29, .ref b30, .ref b31, .ref b32, .ref b33, .ref b34, .int b35, .ref b36, .ref b37, .ref b38, .ref b39, .ref b40, .ref b41])), (b34, .inl (G.2 1, 4, .inr (.inl b42))), (b36, .inl (G.2 0, 240, .inl b43)), (b40, .inl (G.2 0, 242, .inl b44)), (b5, .inr (6, [.int x_12, .int 4, .int 100, .ref b16, .ref b17])), (b16, .inl (G.2 1, 400, .inr (.inl f_13))), (b17, .inl (G.2 0, 256, .inl f_14)), (b4, .inr (6, [.int b11, .int 4, .int 10, .ref b12, .ref b13])), (b12, .inl (G.2 1, 40, .inr (.inl f_7)))] H := hP
    have hD := z_tie hP hD rfl
    refine W.widen (k := 0) (n := 0) (Nat.le_of_ble_eq_true rfl) (Nat.le_of_ble_eq_true rfl) ?_
    refine lv_pop hx hb d_Words_number_45 rfl ?_
    refine lv_aload_n hx hb d_Words_number_46 rfl (lv_at hl 0 rfl) ?_
    refine va_get (D := G.1) (ci := 7) (v := .ref b7) (C := R_Words) (T := F_Words) (N := 8) hx hb hts i_Words hown hK hP 0 rfl rfl 4 (by decide) (hts _ q270) (fun _ h9 => h9) rfl d_Words_number_47 ?_
    refine lv_iconst (v := 0) hx hb d_Words_number_50 (by decide) ?_
    refine lv_iconst (v := 1) hx hb d_Words_number_51 (by decide) ?_
    refine va_iast hx hb hK hP hD hS 4 0 rfl rfl (i := 0) (z_in rfl) d_Words_number_52 (fun H locs hP hD hS => ?_)
    obtain ⟨f_16, gf_16, uf_16, hP, hD⟩ := z_newFu 4 hP hD rfl
    have hP : va_P G.1 classes [(b0, .inr (7, [.ref b3, .ref b4, .ref b5, .ref b6, .ref b7, .ref b8, .ref b9, .ref b10])), (b6, .inr (6, [.int b20, .int 4, .int 100, .ref b21, .ref b22])), (b21, .inl (G.2 1, 400, .inr (.inl b23))), (b22, .inl (G.2 0, 256, .inl b24)), (b7, .inl (G.2 0, 100, .inl f_16)), (b8, .inl (G.2 0, 100, .inl b26)), (b1, .inr (5, [.int b27, .int b28, .ref b29, .ref b30, .ref b31, .ref b32, .ref b33, .ref b34, .int b35, .ref b36, .ref b37, .ref b38, .ref b39, .ref b40, .ref b41])), (b34, .inl (G.2 1, 4, .inr (.inl b42))), (b36, .inl (G.2 0, 240, .inl b43)), (b40, .inl (G.2 0, 242, .inl b44)), (b5, .inr (6, [.int x_12, .int 4, .int 100, .ref b16, .ref b17])), (b16, .inl (G.2 1, 400, .inr (.inl f_13))), (b17, .inl (G.2 0, 256, .inl f_14)), (b4, .inr (6, [.int b11, .int 4, .int 10, .ref b12, .ref b13])), (b12, .inl (G.2 1, 40, .inr (.inl f_7)))] H := hP
    have hD := z_tie hP hD rfl
    refine lv_iload_n hx hb d_Words_number_53 rfl (lv_at hl 2 rfl) ?_
    refine lv_if_ne (tgt := 76) hx hb d_Words_number_54 (by decide) (fun hc_17 => ?_) (fun hc_17 => ?_)
    · have _nhc_17 := hc_17
      have ni_18 : ¬ (b2 : Int32).toInt = (0 : Int32).toInt := fun z => hc_17 ((fa_eq _ _).mpr z)
      simp only [li_0] at ni_18
      have hv_19 : zI b2 1 8 := zI.ne_lo hb2 zc_0 hc_17 (by decide)
      refine lv_iconst (v := 1) hx hb d_Words_number_76 (by decide) ?_
      refine lv_istore_n (lv' := [(3, .int 1), (0, .ref b0), (1, .ref b1), (2, .int b2)]) hx hb d_Words_number_77 rfl hl (by decide) rfl (fun ls hl => ?_)
      refine lv_iload_n hx hb d_Words_number_78 rfl (lv_at hl 0 rfl) ?_
      refine lv_iload_n hx hb d_Words_number_79 rfl (lv_at hl 3 rfl) ?_
      refine lv_icmp_ge (tgt := 100) hx hb d_Words_number_80 (by decide) (fun hc_20 => ?_) (fun hc_20 => ?_)
      · have _nhc_20 := hc_20
        have ni_21 := (fa_le _ _).mp hc_20
        rw [li_1] at ni_21
        have hv_22 : zI b2 1 1 := zI.le_l hv_19 zc_1 hc_20 (by decide)
        refine lv_aload_n hx hb d_Words_number_100 rfl (lv_at hl 1 rfl) ?_
        refine lv_aload_n hx hb d_Words_number_101 rfl (lv_at hl 2 rfl) ?_
        refine z_callV (index := 70) (As := [.ref b1]) (rest := []) (wr := [(b6, .inr (6, [.int b20, .int 4, .int 100, .ref b21, .ref b22])), (b21, .inl (G.2 1, 400, .inr (.inl b23))), (b22, .inl (G.2 0, 256, .inl b24)), (b8, .inl (G.2 0, 100, .inl b26)), (b17, .inl (G.2 0, 256, .inl f_14))]) Z (s2_Words_takenNext l G (b0) (b1) (b3) (b4) (b5) (b6) (b7) (b8) (b9) (b10) (b11) (b12) (b13) (f_7) (x_12) (b16) (b17) (f_13) (f_16) (b27) (b28) (b29) (b30) (b31) (b32) (b33) (b34) (b35) (b36) (b37) (b38) (b39) (b40) (b41) (b42) (b43) (b44) hb11 hx_12 hb27 (zI.wk (l' := 0) (h' := 241) hv_3 (by decide)) hb35 hf_7 hf_13 hb43 hb44) hl.1 q862 q864 qs28 q8 q865 ⟨by decide, by decide, by show _ = some 1; decide +kernel⟩ ⟨Nat.le_of_ble_eq_true rfl, Nat.le_of_ble_eq_true rfl⟩ ⟨Nat.le_of_ble_eq_true rfl, Nat.le_of_ble_eq_true rfl⟩ rfl (Nat.le_of_ble_eq_true rfl) d_Words_number_102 hP hD hS hA 0 7 rfl rfl rfl [0, 13, 14, 10, 11, 4, 6, 7, 8, 9] [1, 2, 3, 5, 12] rfl rfl rfl rfl (by decide) (fun v w1 H locs hw_23 hP hD hS => ?_)
        obtain ⟨x_24, f_25, rfl, rfl, hf_25⟩ := hw_23
        have hP : va_P G.1 classes [(b6, .inr (6, [.int b20, .int 4, .int 100, .ref b21, .ref b22])), (b21, .inl (G.2 1, 400, .inr (.inl b23))), (b22, .inl (G.2 0, 256, .inl b24)), (b8, .inl (G.2 0, 100, .inl b26)), (b17, .inl (G.2 0, 256, .inl f_14)), (b0, .inr (7, [.ref b3, .ref b4, .ref b5, .ref b6, .ref b7, .ref b8, .ref b9, .ref b10])), (b4, .inr (6, [.int b11, .int 4, .int 10, .ref b12, .ref b13])), (b12, .inl (G.2 1, 40, .inr (.inl f_25))), (b5, .inr (6, [.int x_12, .int 4, .int 100, .ref b16, .ref b17])), (b16, .inl (G.2 1, 400, .inr (.inl f_13))), (b7, .inl (G.2 0, 100, .inl f_16)), (b1, .inr (5, [.int b27, .int b28, .ref b29, .ref b30, .ref b31, .ref b32, .ref b33, .ref b34, .int b35, .ref b36, .ref b37, .ref b38, .ref b39, .ref b40, .ref b41])), (b34, .inl (G.2 1, 4, .inr (.inl b42))), (b36, .inl (G.2 0, 240, .inl b43)), (b40, .inl (G.2 0, 242, .inl b44))] H := hP
        have hD := z_tie hP hD rfl
        refine W.widen (k := 0) (n := 0) (Nat.le_of_ble_eq_true rfl) (Nat.le_of_ble_eq_true rfl) ?_
        exact z_iret hx hb hr hlocks (hP.sub [5, 6, 7, 8, 9, 4, 0, 1, 2, 10, 3, 11, 12, 13, 14] rfl) (hD.sub [5, 6, 7, 8, 9, 4, 0, 1, 2, 10, 3, 11, 12, 13, 14] (by decide) rfl) hS (Nat.le_of_ble_eq_true rfl) (Nat.le_of_ble_eq_true rfl) d_Words_number_105 ⟨x_24, b5, b16, b17, b6, b21, b22, b7, b8, f_25, x_12, f_13, f_14, b20, b23, b24, f_16, b26, rfl, rfl, hf_25, hx_12, hf_13, hf_14, hb20, hb23, hb24⟩
      · have _nhc_20 := hc_20
        have ni_26 := (fa_lt _ _).mp (zi_nle hc_20)
        rw [li_1] at ni_26
        have hv_27 : zI b2 2 8 := zI.lt_r zc_1 hv_19 (zi_nle hc_20) (by decide)
        refine lv_aload_n hx hb d_Words_number_83 rfl (lv_at hl 1 rfl) ?_
        refine lv_aload_n hx hb d_Words_number_84 rfl (lv_at hl 2 rfl) ?_
        refine z_callV (index := 66) (As := [.ref b1]) (rest := []) (wr := [(b34, .inl (G.2 1, 4, .inr (.inl b42)))]) Z (s2_Words_goOn l G (b0) (b1) (b3) (b4) (b5) (b6) (b7) (b8) (b9) (b10) (b11) (b12) (b13) (f_7) (x_12) (b16) (b17) (f_13) (f_14) (b20) (b21) (b22) (b23) (b24) (f_16) (b26) (b27) (b28) (b29) (b30) (b31) (b32) (b33) (b34) (b35) (b36) (b37) (b38) (b39) (b40) (b41) (b43) (b44) hb11 hx_12 hb20 hb27 (zI.wk (l' := 0) (h' := 241) hv_3 (by decide)) hb35 hf_7 hf_13 hf_14 hb23 hb24 hb43 hb44) hl.1 q849 q851 qs26 q8 q852 ⟨by decide, by decide, by show _ = some 1; decide +kernel⟩ ⟨Nat.le_of_ble_eq_true rfl, Nat.le_of_ble_eq_true rfl⟩ ⟨Nat.le_of_ble_eq_true rfl, Nat.le_of_ble_eq_true rfl⟩ rfl (Nat.le_of_ble_eq_true rfl) d_Words_number_85 hP hD hS hA 0 7 rfl rfl rfl [0, 13, 14, 10, 11, 12, 1, 2, 3, 4, 5, 6, 8, 9] [7] rfl rfl rfl rfl (by decide) (fun v w1 H locs hw_28 hP hD hS => ?_)
        refine Exists.elim hw_28 (fun x_29 hz_47 => Exists.elim hz_47 (fun x_30 hz_48 => Exists.elim hz_48 (fun x_31 hz_49 => Exists.elim hz_49 (fun x_32 hz_50 => Exists.elim hz_50 (fun x_33 hz_51 => Exists.elim hz_51 (fun x_34 hz_52 => Exists.elim hz_52 (fun x_35 hz_53 => Exists.elim hz_53 (fun x_36 hz_54 => Exists.elim hz_54 (fun x_37 hz_55 => Exists.elim hz_55 (fun f_38 hz_56 => Exists.elim hz_56 (fun x_39 hz_57 => Exists.elim hz_57 (fun f_40 hz_58 => Exists.elim hz_58 (fun f_41 hz_59 => Exists.elim hz_59 (fun x_42 hz_60 => Exists.elim hz_60 (fun f_43 hz_61 => Exists.elim hz_61 (fun f_44 hz_62 => Exists.elim hz_62 (fun f_45 hz_63 => Exists.elim hz_63 (fun f_46 hz_64 => ?_))))))))))))))))))
        clear hw_28 hz_47 hz_48 hz_49 hz_50 hz_51 hz_52 hz_53 hz_54 hz_55 hz_56 hz_57 hz_58 hz_59 hz_60 hz_61 hz_62 hz_63
        obtain ⟨rfl, rfl, hx_29, hf_38, hx_39, hf_40, hf_41, hx_42, hf_43, hf_44⟩ := hz_64
        have hP : va_P G.1 classes [(b34, .inl (G.2 1, 4, .inr (.inl b42))), (b0, .inr (7, [.ref b3, .ref b4, .ref x_30, .ref x_33, .ref x_36, .ref x_37, .ref b9, .ref b10])), (b4, .inr (6, [.int b11, .int 4, .int 10, .ref b12, .ref b13])), (b12, .inl (G.2 1, 40, .inr (.inl f_38))), (x_30, .inr (6, [.int x_39, .int 4, .int 100, .ref x_31, .ref x_32])), (x_31, .inl (G.2 1, 400, .inr (.inl f_40))), (x_32, .inl (G.2 0, 256, .inl f_41)), (x_33, .inr (6, [.int x_42, .int 4, .int 100, .ref x_34, .ref x_35])), (x_34, .inl (G.2 1, 400, .inr (.inl f_43))), (x_35, .inl (G.2 0, 256, .inl f_44)), (x_36, .inl (G.2 0, 100, .inl f_45)), (x_37, .inl (G.2 0, 100, .inl f_46)), (b1, .inr (5, [.int b27, .int b28, .ref b29, .ref b30, .ref b31, .ref b32, .ref b33, .ref b34, .int b35, .ref b36, .ref b37, .ref b38, .ref b39, .ref b40, .ref b41])), (b36, .inl (G.2 0, 240, .inl b43)), (b40, .inl (G.2 0, 242, .inl b44))] H := hP
        have hD := z_tie hP hD rfl
        refine W.widen (k := 0) (n := 0) (Nat.le_of_ble_eq_true rfl) (Nat.le_of_ble_eq_true rfl) ?_
        refine lv_if_ne (tgt := 94) hx hb d_Words_number_88 (by decide) (fun hc_65 => ?_) (fun hc_65 => ?_)
        · have _nhc_65 := hc_65
          have ni_66 : ¬ (x_29 : Int32).toInt = (0 : Int32).toInt := fun z => hc_65 ((fa_eq _ _).mpr z)
          simp only [li_0] at ni_66
          have hv_67 : zI x_29 1 1 := zI.ne_lo hx_29 zc_0 hc_65 (by decide)
          refine lv_iinc (v := 2) (lv' := [(3, .int 2), (0, .ref b0), (1, .ref b1), (2, .int b2)]) hx hb d_Words_number_94 hl (k := 0) rfl (by decide +kernel) (by decide) rfl (fun ls hl => ?_)
          refine lv_goto (tgt := 78) hx hb d_Words_number_97 (by decide) ?_
          refine lv_iload_n hx hb d_Words_number_78 rfl (lv_at hl 0 rfl) ?_
          refine lv_iload_n hx hb d_Words_number_79 rfl (lv_at hl 3 rfl) ?_
          refine lv_icmp_ge (tgt := 100) hx hb d_Words_number_80 (by decide) (fun hc_68 => ?_) (fun hc_68 => ?_)
          · have _nhc_68 := hc_68
            have ni_69 := (fa_le _ _).mp hc_68
            rw [li_2] at ni_69
            have hv_70 : zI b2 2 2 := zI.le_l hv_27 zc_2 hc_68 (by decide)
            refine lv_aload_n hx hb d_Words_number_100 rfl (lv_at hl 1 rfl) ?_
            refine lv_aload_n hx hb d_Words_number_101 rfl (lv_at hl 2 rfl) ?_
            refine z_callV (index := 70) (As := [.ref b1]) (rest := []) (wr := [(x_32, .inl (G.2 0, 256, .inl f_41)), (x_33, .inr (6, [.int x_42, .int 4, .int 100, .ref x_34, .ref x_35])), (x_34, .inl (G.2 1, 400, .inr (.inl f_43))), (x_35, .inl (G.2 0, 256, .inl f_44)), (x_37, .inl (G.2 0, 100, .inl f_46))]) Z (s2_Words_takenNext l G (b0) (b1) (b3) (b4) (x_30) (x_33) (x_36) (x_37) (b9) (b10) (b11) (b12) (b13) (f_38) (x_39) (x_31) (x_32) (f_40) (f_45) (b27) (b28) (b29) (b30) (b31) (b32) (b33) (b34) (b35) (b36) (b37) (b38) (b39) (b40) (b41) (b42) (b43) (b44) hb11 hx_39 hb27 (zI.wk (l' := 0) (h' := 241) hv_3 (by decide)) hb35 hf_38 hf_40 hb43 hb44) hl.1 q862 q864 qs28 q8 q865 ⟨by decide, by decide, by show _ = some 1; decide +kernel⟩ ⟨Nat.le_of_ble_eq_true rfl, Nat.le_of_ble_eq_true rfl⟩ ⟨Nat.le_of_ble_eq_true rfl, Nat.le_of_ble_eq_true rfl⟩ rfl (Nat.le_of_ble_eq_true rfl) d_Words_number_102 hP hD hS hA 1 7 rfl rfl rfl [1, 2, 3, 4, 5, 10, 12, 0, 13, 14] [6, 7, 8, 9, 11] rfl rfl rfl rfl (by decide) (fun v w1 H locs hw_71 hP hD hS => ?_)
            obtain ⟨x_72, f_73, rfl, rfl, hf_73⟩ := hw_71
            have hP : va_P G.1 classes [(x_32, .inl (G.2 0, 256, .inl f_41)), (x_33, .inr (6, [.int x_42, .int 4, .int 100, .ref x_34, .ref x_35])), (x_34, .inl (G.2 1, 400, .inr (.inl f_43))), (x_35, .inl (G.2 0, 256, .inl f_44)), (x_37, .inl (G.2 0, 100, .inl f_46)), (b0, .inr (7, [.ref b3, .ref b4, .ref x_30, .ref x_33, .ref x_36, .ref x_37, .ref b9, .ref b10])), (b4, .inr (6, [.int b11, .int 4, .int 10, .ref b12, .ref b13])), (b12, .inl (G.2 1, 40, .inr (.inl f_73))), (x_30, .inr (6, [.int x_39, .int 4, .int 100, .ref x_31, .ref x_32])), (x_31, .inl (G.2 1, 400, .inr (.inl f_40))), (x_36, .inl (G.2 0, 100, .inl f_45)), (b1, .inr (5, [.int b27, .int b28, .ref b29, .ref b30, .ref b31, .ref b32, .ref b33, .ref b34, .int b35, .ref b36, .ref b37, .ref b38, .ref b39, .ref b40, .ref b41])), (b34, .inl (G.2 1, 4, .inr (.inl b42))), (b36, .inl (G.2 0, 240, .inl b43)), (b40, .inl (G.2 0, 242, .inl b44))] H := hP
            have hD := z_tie hP hD rfl
            refine W.widen (k := 0) (n := 0) (Nat.le_of_ble_eq_true rfl) (Nat.le_of_ble_eq_true rfl) ?_
            exact z_iret hx hb hr hlocks (hP.sub [5, 6, 7, 8, 9, 0, 1, 2, 3, 10, 4, 11, 12, 13, 14] rfl) (hD.sub [5, 6, 7, 8, 9, 0, 1, 2, 3, 10, 4, 11, 12, 13, 14] (by decide) rfl) hS (Nat.le_of_ble_eq_true rfl) (Nat.le_of_ble_eq_true rfl) d_Words_number_105 ⟨x_72, x_30, x_31, x_32, x_33, x_34, x_35, x_36, x_37, f_73, x_39, f_40, f_41, x_42, f_43, f_44, f_45, f_46, rfl, rfl, hf_73, hx_39, hf_40, hf_41, hx_42, hf_43, hf_44⟩
          · have _nhc_68 := hc_68
            have ni_74 := (fa_lt _ _).mp (zi_nle hc_68)
            rw [li_2] at ni_74
            have hv_75 : zI b2 3 8 := zI.lt_r zc_2 hv_27 (zi_nle hc_68) (by decide)
            refine lv_aload_n hx hb d_Words_number_83 rfl (lv_at hl 1 rfl) ?_
            refine lv_aload_n hx hb d_Words_number_84 rfl (lv_at hl 2 rfl) ?_
            refine z_callV (index := 66) (As := [.ref b1]) (rest := []) (wr := [(b34, .inl (G.2 1, 4, .inr (.inl b42)))]) Z (s2_Words_goOn l G (b0) (b1) (b3) (b4) (x_30) (x_33) (x_36) (x_37) (b9) (b10) (b11) (b12) (b13) (f_38) (x_39) (x_31) (x_32) (f_40) (f_41) (x_42) (x_34) (x_35) (f_43) (f_44) (f_45) (f_46) (b27) (b28) (b29) (b30) (b31) (b32) (b33) (b34) (b35) (b36) (b37) (b38) (b39) (b40) (b41) (b43) (b44) hb11 hx_39 hx_42 hb27 (zI.wk (l' := 0) (h' := 241) hv_3 (by decide)) hb35 hf_38 hf_40 hf_41 hf_43 hf_44 hb43 hb44) hl.1 q849 q851 qs26 q8 q852 ⟨by decide, by decide, by show _ = some 1; decide +kernel⟩ ⟨Nat.le_of_ble_eq_true rfl, Nat.le_of_ble_eq_true rfl⟩ ⟨Nat.le_of_ble_eq_true rfl, Nat.le_of_ble_eq_true rfl⟩ rfl (Nat.le_of_ble_eq_true rfl) d_Words_number_85 hP hD hS hA 1 7 rfl rfl rfl [1, 2, 3, 4, 5, 6, 7, 8, 9, 10, 11, 12, 13, 14] [0] rfl rfl rfl rfl (by decide) (fun v w1 H locs hw_76 hP hD hS => ?_)
            refine Exists.elim hw_76 (fun x_77 hz_95 => Exists.elim hz_95 (fun x_78 hz_96 => Exists.elim hz_96 (fun x_79 hz_97 => Exists.elim hz_97 (fun x_80 hz_98 => Exists.elim hz_98 (fun x_81 hz_99 => Exists.elim hz_99 (fun x_82 hz_100 => Exists.elim hz_100 (fun x_83 hz_101 => Exists.elim hz_101 (fun x_84 hz_102 => Exists.elim hz_102 (fun x_85 hz_103 => Exists.elim hz_103 (fun f_86 hz_104 => Exists.elim hz_104 (fun x_87 hz_105 => Exists.elim hz_105 (fun f_88 hz_106 => Exists.elim hz_106 (fun f_89 hz_107 => Exists.elim hz_107 (fun x_90 hz_108 => Exists.elim hz_108 (fun f_91 hz_109 => Exists.elim hz_109 (fun f_92 hz_110 => Exists.elim hz_110 (fun f_93 hz_111 => Exists.elim hz_111 (fun f_94 hz_112 => ?_))))))))))))))))))
            clear hw_76 hz_95 hz_96 hz_97 hz_98 hz_99 hz_100 hz_101 hz_102 hz_103 hz_104 hz_105 hz_106 hz_107 hz_108 hz_109 hz_110 hz_111
            obtain ⟨rfl, rfl, hx_77, hf_86, hx_87, hf_88, hf_89, hx_90, hf_91, hf_92⟩ := hz_112
            have hP : va_P G.1 classes [(b34, .inl (G.2 1, 4, .inr (.inl b42))), (b0, .inr (7, [.ref b3, .ref b4, .ref x_78, .ref x_81, .ref x_84, .ref x_85, .ref b9, .ref b10])), (b4, .inr (6, [.int b11, .int 4, .int 10, .ref b12, .ref b13])), (b12, .inl (G.2 1, 40, .inr (.inl f_86))), (x_78, .inr (6, [.int x_87, .int 4, .int 100, .ref x_79, .ref x_80])), (x_79, .inl (G.2 1, 400, .inr (.inl f_88))), (x_80, .inl (G.2 0, 256, .inl f_89)), (x_81, .inr (6, [.int x_90, .int 4, .int 100, .ref x_82, .ref x_83])), (x_82, .inl (G.2 1, 400, .inr (.inl f_91))), (x_83, .inl (G.2 0, 256, .inl f_92)), (x_84, .inl (G.2 0, 100, .inl f_93)), (x_85, .inl (G.2 0, 100, .inl f_94)), (b1, .inr (5, [.int b27, .int b28, .ref b29, .ref b30, .ref b31, .ref b32, .ref b33, .ref b34, .int b35, .ref b36, .ref b37, .ref b38, .ref b39, .ref b40, .ref b41])), (b36, .inl (G.2 0, 240, .inl b43)), (b40, .inl (G.2 0, 242, .inl b44))] H := hP
            have hD := z_tie hP hD rfl
            refine W.widen (k := 0) (n := 0) (Nat.le_of_ble_eq_true rfl) (Nat.le_of_ble_eq_true rfl) ?_
            refine lv_if_ne (tgt := 94) hx hb d_Words_number_88 (by decide) (fun hc_113 => ?_) (fun hc_113 => ?_)
            · have _nhc_113 := hc_113
              have ni_114 : ¬ (x_77 : Int32).toInt = (0 : Int32).toInt := fun z => hc_113 ((fa_eq _ _).mpr z)
              simp only [li_0] at ni_114
              have hv_115 : zI x_77 1 1 := zI.ne_lo hx_77 zc_0 hc_113 (by decide)
              refine lv_iinc (v := 3) (lv' := [(3, .int 3), (0, .ref b0), (1, .ref b1), (2, .int b2)]) hx hb d_Words_number_94 hl (k := 0) rfl (by decide +kernel) (by decide) rfl (fun ls hl => ?_)
              refine lv_goto (tgt := 78) hx hb d_Words_number_97 (by decide) ?_
              refine lv_iload_n hx hb d_Words_number_78 rfl (lv_at hl 0 rfl) ?_
              refine lv_iload_n hx hb d_Words_number_79 rfl (lv_at hl 3 rfl) ?_
              refine lv_icmp_ge (tgt := 100) hx hb d_Words_number_80 (by decide) (fun hc_116 => ?_) (fun hc_116 => ?_)
              · have _nhc_116 := hc_116
                have ni_117 := (fa_le _ _).mp hc_116
                rw [li_3] at ni_117
                have hv_118 : zI b2 3 3 := zI.le_l hv_75 zc_3 hc_116 (by decide)
                refine lv_aload_n hx hb d_Words_number_100 rfl (lv_at hl 1 rfl) ?_
                refine lv_aload_n hx hb d_Words_number_101 rfl (lv_at hl 2 rfl) ?_
                refine z_callV (index := 70) (As := [.ref b1]) (rest := []) (wr := [(x_80, .inl (G.2 0, 256, .inl f_89)), (x_81, .inr (6, [.int x_90, .int 4, .int 100, .ref x_82, .ref x_83])), (x_82, .inl (G.2 1, 400, .inr (.inl f_91))), (x_83, .inl (G.2 0, 256, .inl f_92)), (x_85, .inl (G.2 0, 100, .inl f_94))]) Z (s2_Words_takenNext l G (b0) (b1) (b3) (b4) (x_78) (x_81) (x_84) (x_85) (b9) (b10) (b11) (b12) (b13) (f_86) (x_87) (x_79) (x_80) (f_88) (f_93) (b27) (b28) (b29) (b30) (b31) (b32) (b33) (b34) (b35) (b36) (b37) (b38) (b39) (b40) (b41) (b42) (b43) (b44) hb11 hx_87 hb27 (zI.wk (l' := 0) (h' := 241) hv_3 (by decide)) hb35 hf_86 hf_88 hb43 hb44) hl.1 q862 q864 qs28 q8 q865 ⟨by decide, by decide, by show _ = some 1; decide +kernel⟩ ⟨Nat.le_of_ble_eq_true rfl, Nat.le_of_ble_eq_true rfl⟩ ⟨Nat.le_of_ble_eq_true rfl, Nat.le_of_ble_eq_true rfl⟩ rfl (Nat.le_of_ble_eq_true rfl) d_Words_number_102 hP hD hS hA 1 7 rfl rfl rfl [1, 2, 3, 4, 5, 10, 12, 0, 13, 14] [6, 7, 8, 9, 11] rfl rfl rfl rfl (by decide) (fun v w1 H locs hw_119 hP hD hS => ?_)
                obtain ⟨x_120, f_121, rfl, rfl, hf_121⟩ := hw_119
                have hP : va_P G.1 classes [(x_80, .inl (G.2 0, 256, .inl f_89)), (x_81, .inr (6, [.int x_90, .int 4, .int 100, .ref x_82, .ref x_83])), (x_82, .inl (G.2 1, 400, .inr (.inl f_91))), (x_83, .inl (G.2 0, 256, .inl f_92)), (x_85, .inl (G.2 0, 100, .inl f_94)), (b0, .inr (7, [.ref b3, .ref b4, .ref x_78, .ref x_81, .ref x_84, .ref x_85, .ref b9, .ref b10])), (b4, .inr (6, [.int b11, .int 4, .int 10, .ref b12, .ref b13])), (b12, .inl (G.2 1, 40, .inr (.inl f_121))), (x_78, .inr (6, [.int x_87, .int 4, .int 100, .ref x_79, .ref x_80])), (x_79, .inl (G.2 1, 400, .inr (.inl f_88))), (x_84, .inl (G.2 0, 100, .inl f_93)), (b1, .inr (5, [.int b27, .int b28, .ref b29, .ref b30, .ref b31, .ref b32, .ref b33, .ref b34, .int b35, .ref b36, .ref b37, .ref b38, .ref b39, .ref b40, .ref b41])), (b34, .inl (G.2 1, 4, .inr (.inl b42))), (b36, .inl (G.2 0, 240, .inl b43)), (b40, .inl (G.2 0, 242, .inl b44))] H := hP
                have hD := z_tie hP hD rfl
                refine W.widen (k := 0) (n := 0) (Nat.le_of_ble_eq_true rfl) (Nat.le_of_ble_eq_true rfl) ?_
                exact z_iret hx hb hr hlocks (hP.sub [5, 6, 7, 8, 9, 0, 1, 2, 3, 10, 4, 11, 12, 13, 14] rfl) (hD.sub [5, 6, 7, 8, 9, 0, 1, 2, 3, 10, 4, 11, 12, 13, 14] (by decide) rfl) hS (Nat.le_of_ble_eq_true rfl) (Nat.le_of_ble_eq_true rfl) d_Words_number_105 ⟨x_120, x_78, x_79, x_80, x_81, x_82, x_83, x_84, x_85, f_121, x_87, f_88, f_89, x_90, f_91, f_92, f_93, f_94, rfl, rfl, hf_121, hx_87, hf_88, hf_89, hx_90, hf_91, hf_92⟩
              · have _nhc_116 := hc_116
                have ni_122 := (fa_lt _ _).mp (zi_nle hc_116)
                rw [li_3] at ni_122
                have hv_123 : zI b2 4 8 := zI.lt_r zc_3 hv_75 (zi_nle hc_116) (by decide)
                refine lv_aload_n hx hb d_Words_number_83 rfl (lv_at hl 1 rfl) ?_
                refine lv_aload_n hx hb d_Words_number_84 rfl (lv_at hl 2 rfl) ?_
                refine z_callV (index := 66) (As := [.ref b1]) (rest := []) (wr := [(b34, .inl (G.2 1, 4, .inr (.inl b42)))]) Z (s2_Words_goOn l G (b0) (b1) (b3) (b4) (x_78) (x_81) (x_84) (x_85) (b9) (b10) (b11) (b12) (b13) (f_86) (x_87) (x_79) (x_80) (f_88) (f_89) (x_90) (x_82) (x_83) (f_91) (f_92) (f_93) (f_94) (b27) (b28) (b29) (b30) (b31) (b32) (b33) (b34) (b35) (b36) (b37) (b38) (b39) (b40) (b41) (b43) (b44) hb11 hx_87 hx_90 hb27 (zI.wk (l' := 0) (h' := 241) hv_3 (by decide)) hb35 hf_86 hf_88 hf_89 hf_91 hf_92 hb43 hb44) hl.1 q849 q851 qs26 q8 q852 ⟨by decide, by decide, by show _ = some 1; decide +kernel⟩ ⟨Nat.le_of_ble_eq_true rfl, Nat.le_of_ble_eq_true rfl⟩ ⟨Nat.le_of_ble_eq_true rfl, Nat.le_of_ble_eq_true rfl⟩ rfl (Nat.le_of_ble_eq_true rfl) d_Words_number_85 hP hD hS hA 1 7 rfl rfl rfl [1, 2, 3, 4, 5, 6, 7, 8, 9, 10, 11, 12, 13, 14] [0] rfl rfl rfl rfl (by decide) (fun v w1 H locs hw_124 hP hD hS => ?_)
                refine Exists.elim hw_124 (fun x_125 hz_143 => Exists.elim hz_143 (fun x_126 hz_144 => Exists.elim hz_144 (fun x_127 hz_145 => Exists.elim hz_145 (fun x_128 hz_146 => Exists.elim hz_146 (fun x_129 hz_147 => Exists.elim hz_147 (fun x_130 hz_148 => Exists.elim hz_148 (fun x_131 hz_149 => Exists.elim hz_149 (fun x_132 hz_150 => Exists.elim hz_150 (fun x_133 hz_151 => Exists.elim hz_151 (fun f_134 hz_152 => Exists.elim hz_152 (fun x_135 hz_153 => Exists.elim hz_153 (fun f_136 hz_154 => Exists.elim hz_154 (fun f_137 hz_155 => Exists.elim hz_155 (fun x_138 hz_156 => Exists.elim hz_156 (fun f_139 hz_157 => Exists.elim hz_157 (fun f_140 hz_158 => Exists.elim hz_158 (fun f_141 hz_159 => Exists.elim hz_159 (fun f_142 hz_160 => ?_))))))))))))))))))
                clear hw_124 hz_143 hz_144 hz_145 hz_146 hz_147 hz_148 hz_149 hz_150 hz_151 hz_152 hz_153 hz_154 hz_155 hz_156 hz_157 hz_158 hz_159
                obtain ⟨rfl, rfl, hx_125, hf_134, hx_135, hf_136, hf_137, hx_138, hf_139, hf_140⟩ := hz_160
                have hP : va_P G.1 classes [(b34, .inl (G.2 1, 4, .inr (.inl b42))), (b0, .inr (7, [.ref b3, .ref b4, .ref x_126, .ref x_129, .ref x_132, .ref x_133, .ref b9, .ref b10])), (b4, .inr (6, [.int b11, .int 4, .int 10, .ref b12, .ref b13])), (b12, .inl (G.2 1, 40, .inr (.inl f_134))), (x_126, .inr (6, [.int x_135, .int 4, .int 100, .ref x_127, .ref x_128])), (x_127, .inl (G.2 1, 400, .inr (.inl f_136))), (x_128, .inl (G.2 0, 256, .inl f_137)), (x_129, .inr (6, [.int x_138, .int 4, .int 100, .ref x_130, .ref x_131])), (x_130, .inl (G.2 1, 400, .inr (.inl f_139))), (x_131, .inl (G.2 0, 256, .inl f_140)), (x_132, .inl (G.2 0, 100, .inl f_141)), (x_133, .inl (G.2 0, 100, .inl f_142)), (b1, .inr (5, [.int b27, .int b28, .ref b29, .ref b30, .ref b31, .ref b32, .ref b33, .ref b34, .int b35, .ref b36, .ref b37, .ref b38, .ref b39, .ref b40, .ref b41])), (b36, .inl (G.2 0, 240, .inl b43)), (b40, .inl (G.2 0, 242, .inl b44))] H := hP
                have hD := z_tie hP hD rfl
                refine W.widen (k := 0) (n := 0) (Nat.le_of_ble_eq_true rfl) (Nat.le_of_ble_eq_true rfl) ?_
                refine lv_if_ne (tgt := 94) hx hb d_Words_number_88 (by decide) (fun hc_161 => ?_) (fun hc_161 => ?_)
                · have _nhc_161 := hc_161
                  have ni_162 : ¬ (x_125 : Int32).toInt = (0 : Int32).toInt := fun z => hc_161 ((fa_eq _ _).mpr z)
                  simp only [li_0] at ni_162
                  have hv_163 : zI x_125 1 1 := zI.ne_lo hx_125 zc_0 hc_161 (by decide)
                  refine lv_iinc (v := 4) (lv' := [(3, .int 4), (0, .ref b0), (1, .ref b1), (2, .int b2)]) hx hb d_Words_number_94 hl (k := 0) rfl (by decide +kernel) (by decide) rfl (fun ls hl => ?_)
                  refine lv_goto (tgt := 78) hx hb d_Words_number_97 (by decide) ?_
                  refine lv_iload_n hx hb d_Words_number_78 rfl (lv_at hl 0 rfl) ?_
                  refine lv_iload_n hx hb d_Words_number_79 rfl (lv_at hl 3 rfl) ?_
                  refine lv_icmp_ge (tgt := 100) hx hb d_Words_number_80 (by decide) (fun hc_164 => ?_) (fun hc_164 => ?_)
                  · have _nhc_164 := hc_164
                    have ni_165 := (fa_le _ _).mp hc_164
                    rw [li_4] at ni_165
                    have hv_166 : zI b2 4 4 := zI.le_l hv_123 zc_4 hc_164 (by decide)
                    refine lv_aload_n hx hb d_Words_number_100 rfl (lv_at hl 1 rfl) ?_
                    refine lv_aload_n hx hb d_Words_number_101 rfl (lv_at hl 2 rfl) ?_
                    refine z_callV (index := 70) (As := [.ref b1]) (rest := []) (wr := [(x_128, .inl (G.2 0, 256, .inl f_137)), (x_129, .inr (6, [.int x_138, .int 4, .int 100, .ref x_130, .ref x_131])), (x_130, .inl (G.2 1, 400, .inr (.inl f_139))), (x_131, .inl (G.2 0, 256, .inl f_140)), (x_133, .inl (G.2 0, 100, .inl f_142))]) Z (s2_Words_takenNext l G (b0) (b1) (b3) (b4) (x_126) (x_129) (x_132) (x_133) (b9) (b10) (b11) (b12) (b13) (f_134) (x_135) (x_127) (x_128) (f_136) (f_141) (b27) (b28) (b29) (b30) (b31) (b32) (b33) (b34) (b35) (b36) (b37) (b38) (b39) (b40) (b41) (b42) (b43) (b44) hb11 hx_135 hb27 (zI.wk (l' := 0) (h' := 241) hv_3 (by decide)) hb35 hf_134 hf_136 hb43 hb44) hl.1 q862 q864 qs28 q8 q865 ⟨by decide, by decide, by show _ = some 1; decide +kernel⟩ ⟨Nat.le_of_ble_eq_true rfl, Nat.le_of_ble_eq_true rfl⟩ ⟨Nat.le_of_ble_eq_true rfl, Nat.le_of_ble_eq_true rfl⟩ rfl (Nat.le_of_ble_eq_true rfl) d_Words_number_102 hP hD hS hA 1 7 rfl rfl rfl [1, 2, 3, 4, 5, 10, 12, 0, 13, 14] [6, 7, 8, 9, 11] rfl rfl rfl rfl (by decide) (fun v w1 H locs hw_167 hP hD hS => ?_)
                    obtain ⟨x_168, f_169, rfl, rfl, hf_169⟩ := hw_167
                    have hP : va_P G.1 classes [(x_128, .inl (G.2 0, 256, .inl f_137)), (x_129, .inr (6, [.int x_138, .int 4, .int 100, .ref x_130, .ref x_131])), (x_130, .inl (G.2 1, 400, .inr (.inl f_139))), (x_131, .inl (G.2 0, 256, .inl f_140)), (x_133, .inl (G.2 0, 100, .inl f_142)), (b0, .inr (7, [.ref b3, .ref b4, .ref x_126, .ref x_129, .ref x_132, .ref x_133, .ref b9, .ref b10])), (b4, .inr (6, [.int b11, .int 4, .int 10, .ref b12, .ref b13])), (b12, .inl (G.2 1, 40, .inr (.inl f_169))), (x_126, .inr (6, [.int x_135, .int 4, .int 100, .ref x_127, .ref x_128])), (x_127, .inl (G.2 1, 400, .inr (.inl f_136))), (x_132, .inl (G.2 0, 100, .inl f_141)), (b1, .inr (5, [.int b27, .int b28, .ref b29, .ref b30, .ref b31, .ref b32, .ref b33, .ref b34, .int b35, .ref b36, .ref b37, .ref b38, .ref b39, .ref b40, .ref b41])), (b34, .inl (G.2 1, 4, .inr (.inl b42))), (b36, .inl (G.2 0, 240, .inl b43)), (b40, .inl (G.2 0, 242, .inl b44))] H := hP
                    have hD := z_tie hP hD rfl
                    refine W.widen (k := 0) (n := 0) (Nat.le_of_ble_eq_true rfl) (Nat.le_of_ble_eq_true rfl) ?_
                    exact z_iret hx hb hr hlocks (hP.sub [5, 6, 7, 8, 9, 0, 1, 2, 3, 10, 4, 11, 12, 13, 14] rfl) (hD.sub [5, 6, 7, 8, 9, 0, 1, 2, 3, 10, 4, 11, 12, 13, 14] (by decide) rfl) hS (Nat.le_of_ble_eq_true rfl) (Nat.le_of_ble_eq_true rfl) d_Words_number_105 ⟨x_168, x_126, x_127, x_128, x_129, x_130, x_131, x_132, x_133, f_169, x_135, f_136, f_137, x_138, f_139, f_140, f_141, f_142, rfl, rfl, hf_169, hx_135, hf_136, hf_137, hx_138, hf_139, hf_140⟩
                  · have _nhc_164 := hc_164
                    have ni_170 := (fa_lt _ _).mp (zi_nle hc_164)
                    rw [li_4] at ni_170
                    have hv_171 : zI b2 5 8 := zI.lt_r zc_4 hv_123 (zi_nle hc_164) (by decide)
                    refine lv_aload_n hx hb d_Words_number_83 rfl (lv_at hl 1 rfl) ?_
                    refine lv_aload_n hx hb d_Words_number_84 rfl (lv_at hl 2 rfl) ?_
                    refine z_callV (index := 66) (As := [.ref b1]) (rest := []) (wr := [(b34, .inl (G.2 1, 4, .inr (.inl b42)))]) Z (s2_Words_goOn l G (b0) (b1) (b3) (b4) (x_126) (x_129) (x_132) (x_133) (b9) (b10) (b11) (b12) (b13) (f_134) (x_135) (x_127) (x_128) (f_136) (f_137) (x_138) (x_130) (x_131) (f_139) (f_140) (f_141) (f_142) (b27) (b28) (b29) (b30) (b31) (b32) (b33) (b34) (b35) (b36) (b37) (b38) (b39) (b40) (b41) (b43) (b44) hb11 hx_135 hx_138 hb27 (zI.wk (l' := 0) (h' := 241) hv_3 (by decide)) hb35 hf_134 hf_136 hf_137 hf_139 hf_140 hb43 hb44) hl.1 q849 q851 qs26 q8 q852 ⟨by decide, by decide, by show _ = some 1; decide +kernel⟩ ⟨Nat.le_of_ble_eq_true rfl, Nat.le_of_ble_eq_true rfl⟩ ⟨Nat.le_of_ble_eq_true rfl, Nat.le_of_ble_eq_true rfl⟩ rfl (Nat.le_of_ble_eq_true rfl) d_Words_number_85 hP hD hS hA 1 7 rfl rfl rfl [1, 2, 3, 4, 5, 6, 7, 8, 9, 10, 11, 12, 13, 14] [0] rfl rfl rfl rfl (by decide) (fun v w1 H locs hw_172 hP hD hS => ?_)
                    refine Exists.elim hw_172 (fun x_173 hz_191 => Exists.elim hz_191 (fun x_174 hz_192 => Exists.elim hz_192 (fun x_175 hz_193 => Exists.elim hz_193 (fun x_176 hz_194 => Exists.elim hz_194 (fun x_177 hz_195 => Exists.elim hz_195 (fun x_178 hz_196 => Exists.elim hz_196 (fun x_179 hz_197 => Exists.elim hz_197 (fun x_180 hz_198 => Exists.elim hz_198 (fun x_181 hz_199 => Exists.elim hz_199 (fun f_182 hz_200 => Exists.elim hz_200 (fun x_183 hz_201 => Exists.elim hz_201 (fun f_184 hz_202 => Exists.elim hz_202 (fun f_185 hz_203 => Exists.elim hz_203 (fun x_186 hz_204 => Exists.elim hz_204 (fun f_187 hz_205 => Exists.elim hz_205 (fun f_188 hz_206 => Exists.elim hz_206 (fun f_189 hz_207 => Exists.elim hz_207 (fun f_190 hz_208 => ?_))))))))))))))))))
                    clear hw_172 hz_191 hz_192 hz_193 hz_194 hz_195 hz_196 hz_197 hz_198 hz_199 hz_200 hz_201 hz_202 hz_203 hz_204 hz_205 hz_206 hz_207
                    obtain ⟨rfl, rfl, hx_173, hf_182, hx_183, hf_184, hf_185, hx_186, hf_187, hf_188⟩ := hz_208
                    have hP : va_P G.1 classes [(b34, .inl (G.2 1, 4, .inr (.inl b42))), (b0, .inr (7, [.ref b3, .ref b4, .ref x_174, .ref x_177, .ref x_180, .ref x_181, .ref b9, .ref b10])), (b4, .inr (6, [.int b11, .int 4, .int 10, .ref b12, .ref b13])), (b12, .inl (G.2 1, 40, .inr (.inl f_182))), (x_174, .inr (6, [.int x_183, .int 4, .int 100, .ref x_175, .ref x_176])), (x_175, .inl (G.2 1, 400, .inr (.inl f_184))), (x_176, .inl (G.2 0, 256, .inl f_185)), (x_177, .inr (6, [.int x_186, .int 4, .int 100, .ref x_178, .ref x_179])), (x_178, .inl (G.2 1, 400, .inr (.inl f_187))), (x_179, .inl (G.2 0, 256, .inl f_188)), (x_180, .inl (G.2 0, 100, .inl f_189)), (x_181, .inl (G.2 0, 100, .inl f_190)), (b1, .inr (5, [.int b27, .int b28, .ref b29, .ref b30, .ref b31, .ref b32, .ref b33, .ref b34, .int b35, .ref b36, .ref b37, .ref b38, .ref b39, .ref b40, .ref b41])), (b36, .inl (G.2 0, 240, .inl b43)), (b40, .inl (G.2 0, 242, .inl b44))] H := hP
                    have hD := z_tie hP hD rfl
                    refine W.widen (k := 0) (n := 0) (Nat.le_of_ble_eq_true rfl) (Nat.le_of_ble_eq_true rfl) ?_
                    refine lv_if_ne (tgt := 94) hx hb d_Words_number_88 (by decide) (fun hc_209 => ?_) (fun hc_209 => ?_)
                    · have _nhc_209 := hc_209
                      have ni_210 : ¬ (x_173 : Int32).toInt = (0 : Int32).toInt := fun z => hc_209 ((fa_eq _ _).mpr z)
                      simp only [li_0] at ni_210
                      have hv_211 : zI x_173 1 1 := zI.ne_lo hx_173 zc_0 hc_209 (by decide)
                      refine lv_iinc (v := 5) (lv' := [(3, .int 5), (0, .ref b0), (1, .ref b1), (2, .int b2)]) hx hb d_Words_number_94 hl (k := 0) rfl (by decide +kernel) (by decide) rfl (fun ls hl => ?_)
                      refine lv_goto (tgt := 78) hx hb d_Words_number_97 (by decide) ?_
                      refine lv_iload_n hx hb d_Words_number_78 rfl (lv_at hl 0 rfl) ?_
                      refine lv_iload_n hx hb d_Words_number_79 rfl (lv_at hl 3 rfl) ?_
                      refine lv_icmp_ge (tgt := 100) hx hb d_Words_number_80 (by decide) (fun hc_212 => ?_) (fun hc_212 => ?_)
                      · have _nhc_212 := hc_212
                        have ni_213 := (fa_le _ _).mp hc_212
                        rw [li_5] at ni_213
                        have hv_214 : zI b2 5 5 := zI.le_l hv_171 zc_5 hc_212 (by decide)
                        refine lv_aload_n hx hb d_Words_number_100 rfl (lv_at hl 1 rfl) ?_
                        refine lv_aload_n hx hb d_Words_number_101 rfl (lv_at hl 2 rfl) ?_
                        refine z_callV (index := 70) (As := [.ref b1]) (rest := []) (wr := [(x_176, .inl (G.2 0, 256, .inl f_185)), (x_177, .inr (6, [.int x_186, .int 4, .int 100, .ref x_178, .ref x_179])), (x_178, .inl (G.2 1, 400, .inr (.inl f_187))), (x_179, .inl (G.2 0, 256, .inl f_188)), (x_181, .inl (G.2 0, 100, .inl f_190))]) Z (s2_Words_takenNext l G (b0) (b1) (b3) (b4) (x_174) (x_177) (x_180) (x_181) (b9) (b10) (b11) (b12) (b13) (f_182) (x_183) (x_175) (x_176) (f_184) (f_189) (b27) (b28) (b29) (b30) (b31) (b32) (b33) (b34) (b35) (b36) (b37) (b38) (b39) (b40) (b41) (b42) (b43) (b44) hb11 hx_183 hb27 (zI.wk (l' := 0) (h' := 241) hv_3 (by decide)) hb35 hf_182 hf_184 hb43 hb44) hl.1 q862 q864 qs28 q8 q865 ⟨by decide, by decide, by show _ = some 1; decide +kernel⟩ ⟨Nat.le_of_ble_eq_true rfl, Nat.le_of_ble_eq_true rfl⟩ ⟨Nat.le_of_ble_eq_true rfl, Nat.le_of_ble_eq_true rfl⟩ rfl (Nat.le_of_ble_eq_true rfl) d_Words_number_102 hP hD hS hA 1 7 rfl rfl rfl [1, 2, 3, 4, 5, 10, 12, 0, 13, 14] [6, 7, 8, 9, 11] rfl rfl rfl rfl (by decide) (fun v w1 H locs hw_215 hP hD hS => ?_)
                        obtain ⟨x_216, f_217, rfl, rfl, hf_217⟩ := hw_215
                        have hP : va_P G.1 classes [(x_176, .inl (G.2 0, 256, .inl f_185)), (x_177, .inr (6, [.int x_186, .int 4, .int 100, .ref x_178, .ref x_179])), (x_178, .inl (G.2 1, 400, .inr (.inl f_187))), (x_179, .inl (G.2 0, 256, .inl f_188)), (x_181, .inl (G.2 0, 100, .inl f_190)), (b0, .inr (7, [.ref b3, .ref b4, .ref x_174, .ref x_177, .ref x_180, .ref x_181, .ref b9, .ref b10])), (b4, .inr (6, [.int b11, .int 4, .int 10, .ref b12, .ref b13])), (b12, .inl (G.2 1, 40, .inr (.inl f_217))), (x_174, .inr (6, [.int x_183, .int 4, .int 100, .ref x_175, .ref x_176])), (x_175, .inl (G.2 1, 400, .inr (.inl f_184))), (x_180, .inl (G.2 0, 100, .inl f_189)), (b1, .inr (5, [.int b27, .int b28, .ref b29, .ref b30, .ref b31, .ref b32, .ref b33, .ref b34, .int b35, .ref b36, .ref b37, .ref b38, .ref b39, .ref b40, .ref b41])), (b34, .inl (G.2 1, 4, .inr (.inl b42))), (b36, .inl (G.2 0, 240, .inl b43)), (b40, .inl (G.2 0, 242, .inl b44))] H := hP
                        have hD := z_tie hP hD rfl
                        refine W.widen (k := 0) (n := 0) (Nat.le_of_ble_eq_true rfl) (Nat.le_of_ble_eq_true rfl) ?_
                        exact z_iret hx hb hr hlocks (hP.sub [5, 6, 7, 8, 9, 0, 1, 2, 3, 10, 4, 11, 12, 13, 14] rfl) (hD.sub [5, 6, 7, 8, 9, 0, 1, 2, 3, 10, 4, 11, 12, 13, 14] (by decide) rfl) hS (Nat.le_of_ble_eq_true rfl) (Nat.le_of_ble_eq_true rfl) d_Words_number_105 ⟨x_216, x_174, x_175, x_176, x_177, x_178, x_179, x_180, x_181, f_217, x_183, f_184, f_185, x_186, f_187, f_188, f_189, f_190, rfl, rfl, hf_217, hx_183, hf_184, hf_185, hx_186, hf_187, hf_188⟩
                      · have _nhc_212 := hc_212
                        have ni_218 := (fa_lt _ _).mp (zi_nle hc_212)
                        rw [li_5] at ni_218
                        have hv_219 : zI b2 6 8 := zI.lt_r zc_5 hv_171 (zi_nle hc_212) (by decide)
                        refine lv_aload_n hx hb d_Words_number_83 rfl (lv_at hl 1 rfl) ?_
                        refine lv_aload_n hx hb d_Words_number_84 rfl (lv_at hl 2 rfl) ?_
                        refine z_callV (index := 66) (As := [.ref b1]) (rest := []) (wr := [(b34, .inl (G.2 1, 4, .inr (.inl b42)))]) Z (s2_Words_goOn l G (b0) (b1) (b3) (b4) (x_174) (x_177) (x_180) (x_181) (b9) (b10) (b11) (b12) (b13) (f_182) (x_183) (x_175) (x_176) (f_184) (f_185) (x_186) (x_178) (x_179) (f_187) (f_188) (f_189) (f_190) (b27) (b28) (b29) (b30) (b31) (b32) (b33) (b34) (b35) (b36) (b37) (b38) (b39) (b40) (b41) (b43) (b44) hb11 hx_183 hx_186 hb27 (zI.wk (l' := 0) (h' := 241) hv_3 (by decide)) hb35 hf_182 hf_184 hf_185 hf_187 hf_188 hb43 hb44) hl.1 q849 q851 qs26 q8 q852 ⟨by decide, by decide, by show _ = some 1; decide +kernel⟩ ⟨Nat.le_of_ble_eq_true rfl, Nat.le_of_ble_eq_true rfl⟩ ⟨Nat.le_of_ble_eq_true rfl, Nat.le_of_ble_eq_true rfl⟩ rfl (Nat.le_of_ble_eq_true rfl) d_Words_number_85 hP hD hS hA 1 7 rfl rfl rfl [1, 2, 3, 4, 5, 6, 7, 8, 9, 10, 11, 12, 13, 14] [0] rfl rfl rfl rfl (by decide) (fun v w1 H locs hw_220 hP hD hS => ?_)
                        refine Exists.elim hw_220 (fun x_221 hz_239 => Exists.elim hz_239 (fun x_222 hz_240 => Exists.elim hz_240 (fun x_223 hz_241 => Exists.elim hz_241 (fun x_224 hz_242 => Exists.elim hz_242 (fun x_225 hz_243 => Exists.elim hz_243 (fun x_226 hz_244 => Exists.elim hz_244 (fun x_227 hz_245 => Exists.elim hz_245 (fun x_228 hz_246 => Exists.elim hz_246 (fun x_229 hz_247 => Exists.elim hz_247 (fun f_230 hz_248 => Exists.elim hz_248 (fun x_231 hz_249 => Exists.elim hz_249 (fun f_232 hz_250 => Exists.elim hz_250 (fun f_233 hz_251 => Exists.elim hz_251 (fun x_234 hz_252 => Exists.elim hz_252 (fun f_235 hz_253 => Exists.elim hz_253 (fun f_236 hz_254 => Exists.elim hz_254 (fun f_237 hz_255 => Exists.elim hz_255 (fun f_238 hz_256 => ?_))))))))))))))))))
                        clear hw_220 hz_239 hz_240 hz_241 hz_242 hz_243 hz_244 hz_245 hz_246 hz_247 hz_248 hz_249 hz_250 hz_251 hz_252 hz_253 hz_254 hz_255
                        obtain ⟨rfl, rfl, hx_221, hf_230, hx_231, hf_232, hf_233, hx_234, hf_235, hf_236⟩ := hz_256
                        have hP : va_P G.1 classes [(b34, .inl (G.2 1, 4, .inr (.inl b42))), (b0, .inr (7, [.ref b3, .ref b4, .ref x_222, .ref x_225, .ref x_228, .ref x_229, .ref b9, .ref b10])), (b4, .inr (6, [.int b11, .int 4, .int 10, .ref b12, .ref b13])), (b12, .inl (G.2 1, 40, .inr (.inl f_230))), (x_222, .inr (6, [.int x_231, .int 4, .int 100, .ref x_223, .ref x_224])), (x_223, .inl (G.2 1, 400, .inr (.inl f_232))), (x_224, .inl (G.2 0, 256, .inl f_233)), (x_225, .inr (6, [.int x_234, .int 4, .int 100, .ref x_226, .ref x_227])), (x_226, .inl (G.2 1, 400, .inr (.inl f_235))), (x_227, .inl (G.2 0, 256, .inl f_236)), (x_228, .inl (G.2 0, 100, .inl f_237)), (x_229, .inl (G.2 0, 100, .inl f_238)), (b1, .inr (5, [.int b27, .int b28, .ref b29, .ref b30, .ref b31, .ref b32, .ref b33, .ref b34, .int b35, .ref b36, .ref b37, .ref b38, .ref b39, .ref b40, .ref b41])), (b36, .inl (G.2 0, 240, .inl b43)), (b40, .inl (G.2 0, 242, .inl b44))] H := hP
                        have hD := z_tie hP hD rfl
                        refine W.widen (k := 0) (n := 0) (Nat.le_of_ble_eq_true rfl) (Nat.le_of_ble_eq_true rfl) ?_
                        refine lv_if_ne (tgt := 94) hx hb d_Words_number_88 (by decide) (fun hc_257 => ?_) (fun hc_257 => ?_)
                        · have _nhc_257 := hc_257
                          have ni_258 : ¬ (x_221 : Int32).toInt = (0 : Int32).toInt := fun z => hc_257 ((fa_eq _ _).mpr z)
                          simp only [li_0] at ni_258
                          have hv_259 : zI x_221 1 1 := zI.ne_lo hx_221 zc_0 hc_257 (by decide)
                          refine lv_iinc (v := 6) (lv' := [(3, .int 6), (0, .ref b0), (1, .ref b1), (2, .int b2)]) hx hb d_Words_number_94 hl (k := 0) rfl (by decide +kernel) (by decide) rfl (fun ls hl => ?_)
                          refine lv_goto (tgt := 78) hx hb d_Words_number_97 (by decide) ?_
                          refine lv_iload_n hx hb d_Words_number_78 rfl (lv_at hl 0 rfl) ?_
                          refine lv_iload_n hx hb d_Words_number_79 rfl (lv_at hl 3 rfl) ?_
                          refine lv_icmp_ge (tgt := 100) hx hb d_Words_number_80 (by decide) (fun hc_260 => ?_) (fun hc_260 => ?_)
                          · have _nhc_260 := hc_260
                            have ni_261 := (fa_le _ _).mp hc_260
                            rw [li_6] at ni_261
                            have hv_262 : zI b2 6 6 := zI.le_l hv_219 zc_6 hc_260 (by decide)
                            refine lv_aload_n hx hb d_Words_number_100 rfl (lv_at hl 1 rfl) ?_
                            refine lv_aload_n hx hb d_Words_number_101 rfl (lv_at hl 2 rfl) ?_
                            refine z_callV (index := 70) (As := [.ref b1]) (rest := []) (wr := [(x_224, .inl (G.2 0, 256, .inl f_233)), (x_225, .inr (6, [.int x_234, .int 4, .int 100, .ref x_226, .ref x_227])), (x_226, .inl (G.2 1, 400, .inr (.inl f_235))), (x_227, .inl (G.2 0, 256, .inl f_236)), (x_229, .inl (G.2 0, 100, .inl f_238))]) Z (s2_Words_takenNext l G (b0) (b1) (b3) (b4) (x_222) (x_225) (x_228) (x_229) (b9) (b10) (b11) (b12) (b13) (f_230) (x_231) (x_223) (x_224) (f_232) (f_237) (b27) (b28) (b29) (b30) (b31) (b32) (b33) (b34) (b35) (b36) (b37) (b38) (b39) (b40) (b41) (b42) (b43) (b44) hb11 hx_231 hb27 (zI.wk (l' := 0) (h' := 241) hv_3 (by decide)) hb35 hf_230 hf_232 hb43 hb44) hl.1 q862 q864 qs28 q8 q865 ⟨by decide, by decide, by show _ = some 1; decide +kernel⟩ ⟨Nat.le_of_ble_eq_true rfl, Nat.le_of_ble_eq_true rfl⟩ ⟨Nat.le_of_ble_eq_true rfl, Nat.le_of_ble_eq_true rfl⟩ rfl (Nat.le_of_ble_eq_true rfl) d_Words_number_102 hP hD hS hA 1 7 rfl rfl rfl [1, 2, 3, 4, 5, 10, 12, 0, 13, 14] [6, 7, 8, 9, 11] rfl rfl rfl rfl (by decide) (fun v w1 H locs hw_263 hP hD hS => ?_)
                            obtain ⟨x_264, f_265, rfl, rfl, hf_265⟩ := hw_263
                            have hP : va_P G.1 classes [(x_224, .inl (G.2 0, 256, .inl f_233)), (x_225, .inr (6, [.int x_234, .int 4, .int 100, .ref x_226, .ref x_227])), (x_226, .inl (G.2 1, 400, .inr (.inl f_235))), (x_227, .inl (G.2 0, 256, .inl f_236)), (x_229, .inl (G.2 0, 100, .inl f_238)), (b0, .inr (7, [.ref b3, .ref b4, .ref x_222, .ref x_225, .ref x_228, .ref x_229, .ref b9, .ref b10])), (b4, .inr (6, [.int b11, .int 4, .int 10, .ref b12, .ref b13])), (b12, .inl (G.2 1, 40, .inr (.inl f_265))), (x_222, .inr (6, [.int x_231, .int 4, .int 100, .ref x_223, .ref x_224])), (x_223, .inl (G.2 1, 400, .inr (.inl f_232))), (x_228, .inl (G.2 0, 100, .inl f_237)), (b1, .inr (5, [.int b27, .int b28, .ref b29, .ref b30, .ref b31, .ref b32, .ref b33, .ref b34, .int b35, .ref b36, .ref b37, .ref b38, .ref b39, .ref b40, .ref b41])), (b34, .inl (G.2 1, 4, .inr (.inl b42))), (b36, .inl (G.2 0, 240, .inl b43)), (b40, .inl (G.2 0, 242, .inl b44))] H := hP
                            have hD := z_tie hP hD rfl
                            refine W.widen (k := 0) (n := 0) (Nat.le_of_ble_eq_true rfl) (Nat.le_of_ble_eq_true rfl) ?_
                            exact z_iret hx hb hr hlocks (hP.sub [5, 6, 7, 8, 9, 0, 1, 2, 3, 10, 4, 11, 12, 13, 14] rfl) (hD.sub [5, 6, 7, 8, 9, 0, 1, 2, 3, 10, 4, 11, 12, 13, 14] (by decide) rfl) hS (Nat.le_of_ble_eq_true rfl) (Nat.le_of_ble_eq_true rfl) d_Words_number_105 ⟨x_264, x_222, x_223, x_224, x_225, x_226, x_227, x_228, x_229, f_265, x_231, f_232, f_233, x_234, f_235, f_236, f_237, f_238, rfl, rfl, hf_265, hx_231, hf_232, hf_233, hx_234, hf_235, hf_236⟩
                          · have _nhc_260 := hc_260
                            have ni_266 := (fa_lt _ _).mp (zi_nle hc_260)
                            rw [li_6] at ni_266
                            have hv_267 : zI b2 7 8 := zI.lt_r zc_6 hv_219 (zi_nle hc_260) (by decide)
                            refine lv_aload_n hx hb d_Words_number_83 rfl (lv_at hl 1 rfl) ?_
                            refine lv_aload_n hx hb d_Words_number_84 rfl (lv_at hl 2 rfl) ?_
                            refine z_callV (index := 66) (As := [.ref b1]) (rest := []) (wr := [(b34, .inl (G.2 1, 4, .inr (.inl b42)))]) Z (s2_Words_goOn l G (b0) (b1) (b3) (b4) (x_222) (x_225) (x_228) (x_229) (b9) (b10) (b11) (b12) (b13) (f_230) (x_231) (x_223) (x_224) (f_232) (f_233) (x_234) (x_226) (x_227) (f_235) (f_236) (f_237) (f_238) (b27) (b28) (b29) (b30) (b31) (b32) (b33) (b34) (b35) (b36) (b37) (b38) (b39) (b40) (b41) (b43) (b44) hb11 hx_231 hx_234 hb27 (zI.wk (l' := 0) (h' := 241) hv_3 (by decide)) hb35 hf_230 hf_232 hf_233 hf_235 hf_236 hb43 hb44) hl.1 q849 q851 qs26 q8 q852 ⟨by decide, by decide, by show _ = some 1; decide +kernel⟩ ⟨Nat.le_of_ble_eq_true rfl, Nat.le_of_ble_eq_true rfl⟩ ⟨Nat.le_of_ble_eq_true rfl, Nat.le_of_ble_eq_true rfl⟩ rfl (Nat.le_of_ble_eq_true rfl) d_Words_number_85 hP hD hS hA 1 7 rfl rfl rfl [1, 2, 3, 4, 5, 6, 7, 8, 9, 10, 11, 12, 13, 14] [0] rfl rfl rfl rfl (by decide) (fun v w1 H locs hw_268 hP hD hS => ?_)
                            refine Exists.elim hw_268 (fun x_269 hz_287 => Exists.elim hz_287 (fun x_270 hz_288 => Exists.elim hz_288 (fun x_271 hz_289 => Exists.elim hz_289 (fun x_272 hz_290 => Exists.elim hz_290 (fun x_273 hz_291 => Exists.elim hz_291 (fun x_274 hz_292 => Exists.elim hz_292 (fun x_275 hz_293 => Exists.elim hz_293 (fun x_276 hz_294 => Exists.elim hz_294 (fun x_277 hz_295 => Exists.elim hz_295 (fun f_278 hz_296 => Exists.elim hz_296 (fun x_279 hz_297 => Exists.elim hz_297 (fun f_280 hz_298 => Exists.elim hz_298 (fun f_281 hz_299 => Exists.elim hz_299 (fun x_282 hz_300 => Exists.elim hz_300 (fun f_283 hz_301 => Exists.elim hz_301 (fun f_284 hz_302 => Exists.elim hz_302 (fun f_285 hz_303 => Exists.elim hz_303 (fun f_286 hz_304 => ?_))))))))))))))))))
                            clear hw_268 hz_287 hz_288 hz_289 hz_290 hz_291 hz_292 hz_293 hz_294 hz_295 hz_296 hz_297 hz_298 hz_299 hz_300 hz_301 hz_302 hz_303
                            obtain ⟨rfl, rfl, hx_269, hf_278, hx_279, hf_280, hf_281, hx_282, hf_283, hf_284⟩ := hz_304
                            have hP : va_P G.1 classes [(b34, .inl (G.2 1, 4, .inr (.inl b42))), (b0, .inr (7, [.ref b3, .ref b4, .ref x_270, .ref x_273, .ref x_276, .ref x_277, .ref b9, .ref b10])), (b4, .inr (6, [.int b11, .int 4, .int 10, .ref b12, .ref b13])), (b12, .inl (G.2 1, 40, .inr (.inl f_278))), (x_270, .inr (6, [.int x_279, .int 4, .int 100, .ref x_271, .ref x_272])), (x_271, .inl (G.2 1, 400, .inr (.inl f_280))), (x_272, .inl (G.2 0, 256, .inl f_281)), (x_273, .inr (6, [.int x_282, .int 4, .int 100, .ref x_274, .ref x_275])), (x_274, .inl (G.2 1, 400, .inr (.inl f_283))), (x_275, .inl (G.2 0, 256, .inl f_284)), (x_276, .inl (G.2 0, 100, .inl f_285)), (x_277, .inl (G.2 0, 100, .inl f_286)), (b1, .inr (5, [.int b27, .int b28, .ref b29, .ref b30, .ref b31, .ref b32, .ref b33, .ref b34, .int b35, .ref b36, .ref b37, .ref b38, .ref b39, .ref b40, .ref b41])), (b36, .inl (G.2 0, 240, .inl b43)), (b40, .inl (G.2 0, 242, .inl b44))] H := hP
                            have hD := z_tie hP hD rfl
                            refine W.widen (k := 0) (n := 0) (Nat.le_of_ble_eq_true rfl) (Nat.le_of_ble_eq_true rfl) ?_
                            refine lv_if_ne (tgt := 94) hx hb d_Words_number_88 (by decide) (fun hc_305 => ?_) (fun hc_305 => ?_)
                            · have _nhc_305 := hc_305
                              have ni_306 : ¬ (x_269 : Int32).toInt = (0 : Int32).toInt := fun z => hc_305 ((fa_eq _ _).mpr z)
                              simp only [li_0] at ni_306
                              have hv_307 : zI x_269 1 1 := zI.ne_lo hx_269 zc_0 hc_305 (by decide)
                              refine lv_iinc (v := 7) (lv' := [(3, .int 7), (0, .ref b0), (1, .ref b1), (2, .int b2)]) hx hb d_Words_number_94 hl (k := 0) rfl (by decide +kernel) (by decide) rfl (fun ls hl => ?_)
                              refine lv_goto (tgt := 78) hx hb d_Words_number_97 (by decide) ?_
                              refine lv_iload_n hx hb d_Words_number_78 rfl (lv_at hl 0 rfl) ?_
                              refine lv_iload_n hx hb d_Words_number_79 rfl (lv_at hl 3 rfl) ?_
                              refine lv_icmp_ge (tgt := 100) hx hb d_Words_number_80 (by decide) (fun hc_308 => ?_) (fun hc_308 => ?_)
                              · have _nhc_308 := hc_308
                                have ni_309 := (fa_le _ _).mp hc_308
                                rw [li_7] at ni_309
                                have hv_310 : zI b2 7 7 := zI.le_l hv_267 zc_7 hc_308 (by decide)
                                refine lv_aload_n hx hb d_Words_number_100 rfl (lv_at hl 1 rfl) ?_
                                refine lv_aload_n hx hb d_Words_number_101 rfl (lv_at hl 2 rfl) ?_
                                refine z_callV (index := 70) (As := [.ref b1]) (rest := []) (wr := [(x_272, .inl (G.2 0, 256, .inl f_281)), (x_273, .inr (6, [.int x_282, .int 4, .int 100, .ref x_274, .ref x_275])), (x_274, .inl (G.2 1, 400, .inr (.inl f_283))), (x_275, .inl (G.2 0, 256, .inl f_284)), (x_277, .inl (G.2 0, 100, .inl f_286))]) Z (s2_Words_takenNext l G (b0) (b1) (b3) (b4) (x_270) (x_273) (x_276) (x_277) (b9) (b10) (b11) (b12) (b13) (f_278) (x_279) (x_271) (x_272) (f_280) (f_285) (b27) (b28) (b29) (b30) (b31) (b32) (b33) (b34) (b35) (b36) (b37) (b38) (b39) (b40) (b41) (b42) (b43) (b44) hb11 hx_279 hb27 (zI.wk (l' := 0) (h' := 241) hv_3 (by decide)) hb35 hf_278 hf_280 hb43 hb44) hl.1 q862 q864 qs28 q8 q865 ⟨by decide, by decide, by show _ = some 1; decide +kernel⟩ ⟨Nat.le_of_ble_eq_true rfl, Nat.le_of_ble_eq_true rfl⟩ ⟨Nat.le_of_ble_eq_true rfl, Nat.le_of_ble_eq_true rfl⟩ rfl (Nat.le_of_ble_eq_true rfl) d_Words_number_102 hP hD hS hA 1 7 rfl rfl rfl [1, 2, 3, 4, 5, 10, 12, 0, 13, 14] [6, 7, 8, 9, 11] rfl rfl rfl rfl (by decide) (fun v w1 H locs hw_311 hP hD hS => ?_)
                                obtain ⟨x_312, f_313, rfl, rfl, hf_313⟩ := hw_311
                                have hP : va_P G.1 classes [(x_272, .inl (G.2 0, 256, .inl f_281)), (x_273, .inr (6, [.int x_282, .int 4, .int 100, .ref x_274, .ref x_275])), (x_274, .inl (G.2 1, 400, .inr (.inl f_283))), (x_275, .inl (G.2 0, 256, .inl f_284)), (x_277, .inl (G.2 0, 100, .inl f_286)), (b0, .inr (7, [.ref b3, .ref b4, .ref x_270, .ref x_273, .ref x_276, .ref x_277, .ref b9, .ref b10])), (b4, .inr (6, [.int b11, .int 4, .int 10, .ref b12, .ref b13])), (b12, .inl (G.2 1, 40, .inr (.inl f_313))), (x_270, .inr (6, [.int x_279, .int 4, .int 100, .ref x_271, .ref x_272])), (x_271, .inl (G.2 1, 400, .inr (.inl f_280))), (x_276, .inl (G.2 0, 100, .inl f_285)), (b1, .inr (5, [.int b27, .int b28, .ref b29, .ref b30, .ref b31, .ref b32, .ref b33, .ref b34, .int b35, .ref b36, .ref b37, .ref b38, .ref b39, .ref b40, .ref b41])), (b34, .inl (G.2 1, 4, .inr (.inl b42))), (b36, .inl (G.2 0, 240, .inl b43)), (b40, .inl (G.2 0, 242, .inl b44))] H := hP
                                have hD := z_tie hP hD rfl
                                refine W.widen (k := 0) (n := 0) (Nat.le_of_ble_eq_true rfl) (Nat.le_of_ble_eq_true rfl) ?_
                                exact z_iret hx hb hr hlocks (hP.sub [5, 6, 7, 8, 9, 0, 1, 2, 3, 10, 4, 11, 12, 13, 14] rfl) (hD.sub [5, 6, 7, 8, 9, 0, 1, 2, 3, 10, 4, 11, 12, 13, 14] (by decide) rfl) hS (Nat.le_of_ble_eq_true rfl) (Nat.le_of_ble_eq_true rfl) d_Words_number_105 ⟨x_312, x_270, x_271, x_272, x_273, x_274, x_275, x_276, x_277, f_313, x_279, f_280, f_281, x_282, f_283, f_284, f_285, f_286, rfl, rfl, hf_313, hx_279, hf_280, hf_281, hx_282, hf_283, hf_284⟩
                              · have _nhc_308 := hc_308
                                have ni_314 := (fa_lt _ _).mp (zi_nle hc_308)
                                rw [li_7] at ni_314
                                have hv_315 : zI b2 8 8 := zI.lt_r zc_7 hv_267 (zi_nle hc_308) (by decide)
                                refine lv_aload_n hx hb d_Words_number_83 rfl (lv_at hl 1 rfl) ?_
                                refine lv_aload_n hx hb d_Words_number_84 rfl (lv_at hl 2 rfl) ?_
                                refine z_callV (index := 66) (As := [.ref b1]) (rest := []) (wr := [(b34, .inl (G.2 1, 4, .inr (.inl b42)))]) Z (s2_Words_goOn l G (b0) (b1) (b3) (b4) (x_270) (x_273) (x_276) (x_277) (b9) (b10) (b11) (b12) (b13) (f_278) (x_279) (x_271) (x_272) (f_280) (f_281) (x_282) (x_274) (x_275) (f_283) (f_284) (f_285) (f_286) (b27) (b28) (b29) (b30) (b31) (b32) (b33) (b34) (b35) (b36) (b37) (b38) (b39) (b40) (b41) (b43) (b44) hb11 hx_279 hx_282 hb27 (zI.wk (l' := 0) (h' := 241) hv_3 (by decide)) hb35 hf_278 hf_280 hf_281 hf_283 hf_284 hb43 hb44) hl.1 q849 q851 qs26 q8 q852 ⟨by decide, by decide, by show _ = some 1; decide +kernel⟩ ⟨Nat.le_of_ble_eq_true rfl, Nat.le_of_ble_eq_true rfl⟩ ⟨Nat.le_of_ble_eq_true rfl, Nat.le_of_ble_eq_true rfl⟩ rfl (Nat.le_of_ble_eq_true rfl) d_Words_number_85 hP hD hS hA 1 7 rfl rfl rfl [1, 2, 3, 4, 5, 6, 7, 8, 9, 10, 11, 12, 13, 14] [0] rfl rfl rfl rfl (by decide) (fun v w1 H locs hw_316 hP hD hS => ?_)
                                refine Exists.elim hw_316 (fun x_317 hz_335 => Exists.elim hz_335 (fun x_318 hz_336 => Exists.elim hz_336 (fun x_319 hz_337 => Exists.elim hz_337 (fun x_320 hz_338 => Exists.elim hz_338 (fun x_321 hz_339 => Exists.elim hz_339 (fun x_322 hz_340 => Exists.elim hz_340 (fun x_323 hz_341 => Exists.elim hz_341 (fun x_324 hz_342 => Exists.elim hz_342 (fun x_325 hz_343 => Exists.elim hz_343 (fun f_326 hz_344 => Exists.elim hz_344 (fun x_327 hz_345 => Exists.elim hz_345 (fun f_328 hz_346 => Exists.elim hz_346 (fun f_329 hz_347 => Exists.elim hz_347 (fun x_330 hz_348 => Exists.elim hz_348 (fun f_331 hz_349 => Exists.elim hz_349 (fun f_332 hz_350 => Exists.elim hz_350 (fun f_333 hz_351 => Exists.elim hz_351 (fun f_334 hz_352 => ?_))))))))))))))))))
                                clear hw_316 hz_335 hz_336 hz_337 hz_338 hz_339 hz_340 hz_341 hz_342 hz_343 hz_344 hz_345 hz_346 hz_347 hz_348 hz_349 hz_350 hz_351
                                obtain ⟨rfl, rfl, hx_317, hf_326, hx_327, hf_328, hf_329, hx_330, hf_331, hf_332⟩ := hz_352
                                have hP : va_P G.1 classes [(b34, .inl (G.2 1, 4, .inr (.inl b42))), (b0, .inr (7, [.ref b3, .ref b4, .ref x_318, .ref x_321, .ref x_324, .ref x_325, .ref b9, .ref b10])), (b4, .inr (6, [.int b11, .int 4, .int 10, .ref b12, .ref b13])), (b12, .inl (G.2 1, 40, .inr (.inl f_326))), (x_318, .inr (6, [.int x_327, .int 4, .int 100, .ref x_319, .ref x_320])), (x_319, .inl (G.2 1, 400, .inr (.inl f_328))), (x_320, .inl (G.2 0, 256, .inl f_329)), (x_321, .inr (6, [.int x_330, .int 4, .int 100, .ref x_322, .ref x_323])), (x_322, .inl (G.2 1, 400, .inr (.inl f_331))), (x_323, .inl (G.2 0, 256, .inl f_332)), (x_324, .inl (G.2 0, 100, .inl f_333)), (x_325, .inl (G.2 0, 100, .inl f_334)), (b1, .inr (5, [.int b27, .int b28, .ref b29, .ref b30, .ref b31, .ref b32, .ref b33, .ref b34, .int b35, .ref b36, .ref b37, .ref b38, .ref b39, .ref b40, .ref b41])), (b36, .inl (G.2 0, 240, .inl b43)), (b40, .inl (G.2 0, 242, .inl b44))] H := hP
                                have hD := z_tie hP hD rfl
                                refine W.widen (k := 0) (n := 0) (Nat.le_of_ble_eq_true rfl) (Nat.le_of_ble_eq_true rfl) ?_
                                refine lv_if_ne (tgt := 94) hx hb d_Words_number_88 (by decide) (fun hc_353 => ?_) (fun hc_353 => ?_)
                                · have _nhc_353 := hc_353
                                  have ni_354 : ¬ (x_317 : Int32).toInt = (0 : Int32).toInt := fun z => hc_353 ((fa_eq _ _).mpr z)
                                  simp only [li_0] at ni_354
                                  have hv_355 : zI x_317 1 1 := zI.ne_lo hx_317 zc_0 hc_353 (by decide)
                                  refine lv_iinc (v := 8) (lv' := [(3, .int 8), (0, .ref b0), (1, .ref b1), (2, .int b2)]) hx hb d_Words_number_94 hl (k := 0) rfl (by decide +kernel) (by decide) rfl (fun ls hl => ?_)
                                  refine lv_goto (tgt := 78) hx hb d_Words_number_97 (by decide) ?_
                                  refine lv_iload_n hx hb d_Words_number_78 rfl (lv_at hl 0 rfl) ?_
                                  refine lv_iload_n hx hb d_Words_number_79 rfl (lv_at hl 3 rfl) ?_
                                  refine lv_icmp_ge (tgt := 100) hx hb d_Words_number_80 (by decide) (fun _ => ?_) (fun hc => zI.no_lt zc_8 hv_315 (zi_nle hc) (by decide))
                                  refine lv_aload_n hx hb d_Words_number_100 rfl (lv_at hl 1 rfl) ?_
                                  refine lv_aload_n hx hb d_Words_number_101 rfl (lv_at hl 2 rfl) ?_
                                  refine z_callV (index := 70) (As := [.ref b1]) (rest := []) (wr := [(x_320, .inl (G.2 0, 256, .inl f_329)), (x_321, .inr (6, [.int x_330, .int 4, .int 100, .ref x_322, .ref x_323])), (x_322, .inl (G.2 1, 400, .inr (.inl f_331))), (x_323, .inl (G.2 0, 256, .inl f_332)), (x_325, .inl (G.2 0, 100, .inl f_334))]) Z (s2_Words_takenNext l G (b0) (b1) (b3) (b4) (x_318) (x_321) (x_324) (x_325) (b9) (b10) (b11) (b12) (b13) (f_326) (x_327) (x_319) (x_320) (f_328) (f_333) (b27) (b28) (b29) (b30) (b31) (b32) (b33) (b34) (b35) (b36) (b37) (b38) (b39) (b40) (b41) (b42) (b43) (b44) hb11 hx_327 hb27 (zI.wk (l' := 0) (h' := 241) hv_3 (by decide)) hb35 hf_326 hf_328 hb43 hb44) hl.1 q862 q864 qs28 q8 q865 ⟨by decide, by decide, by show _ = some 1; decide +kernel⟩ ⟨Nat.le_of_ble_eq_true rfl, Nat.le_of_ble_eq_true rfl⟩ ⟨Nat.le_of_ble_eq_true rfl, Nat.le_of_ble_eq_true rfl⟩ rfl (Nat.le_of_ble_eq_true rfl) d_Words_number_102 hP hD hS hA 1 7 rfl rfl rfl [1, 2, 3, 4, 5, 10, 12, 0, 13, 14] [6, 7, 8, 9, 11] rfl rfl rfl rfl (by decide) (fun v w1 H locs hw_356 hP hD hS => ?_)
                                  obtain ⟨x_357, f_358, rfl, rfl, hf_358⟩ := hw_356
                                  have hP : va_P G.1 classes [(x_320, .inl (G.2 0, 256, .inl f_329)), (x_321, .inr (6, [.int x_330, .int 4, .int 100, .ref x_322, .ref x_323])), (x_322, .inl (G.2 1, 400, .inr (.inl f_331))), (x_323, .inl (G.2 0, 256, .inl f_332)), (x_325, .inl (G.2 0, 100, .inl f_334)), (b0, .inr (7, [.ref b3, .ref b4, .ref x_318, .ref x_321, .ref x_324, .ref x_325, .ref b9, .ref b10])), (b4, .inr (6, [.int b11, .int 4, .int 10, .ref b12, .ref b13])), (b12, .inl (G.2 1, 40, .inr (.inl f_358))), (x_318, .inr (6, [.int x_327, .int 4, .int 100, .ref x_319, .ref x_320])), (x_319, .inl (G.2 1, 400, .inr (.inl f_328))), (x_324, .inl (G.2 0, 100, .inl f_333)), (b1, .inr (5, [.int b27, .int b28, .ref b29, .ref b30, .ref b31, .ref b32, .ref b33, .ref b34, .int b35, .ref b36, .ref b37, .ref b38, .ref b39, .ref b40, .ref b41])), (b34, .inl (G.2 1, 4, .inr (.inl b42))), (b36, .inl (G.2 0, 240, .inl b43)), (b40, .inl (G.2 0, 242, .inl b44))] H := hP
                                  have hD := z_tie hP hD rfl
                                  refine W.widen (k := 0) (n := 0) (Nat.le_of_ble_eq_true rfl) (Nat.le_of_ble_eq_true rfl) ?_
                                  exact z_iret hx hb hr hlocks (hP.sub [5, 6, 7, 8, 9, 0, 1, 2, 3, 10, 4, 11, 12, 13, 14] rfl) (hD.sub [5, 6, 7, 8, 9, 0, 1, 2, 3, 10, 4, 11, 12, 13, 14] (by decide) rfl) hS (Nat.le_of_ble_eq_true rfl) (Nat.le_of_ble_eq_true rfl) d_Words_number_105 ⟨x_357, x_318, x_319, x_320, x_321, x_322, x_323, x_324, x_325, f_358, x_327, f_328, f_329, x_330, f_331, f_332, f_333, f_334, rfl, rfl, hf_358, hx_327, hf_328, hf_329, hx_330, hf_331, hf_332⟩
                                · have _nhc_353 := hc_353
                                  have ni_359 := (fa_eq _ _).mp hc_353
                                  rw [li_0] at ni_359
                                  have hv_360 : zI x_317 0 0 := zI.eq_l hx_317 zc_0 hc_353
                                  refine lv_bipush (v := (-2)) hx hb d_Words_number_91 (by decide) ?_
                                  exact z_iret hx hb hr hlocks (hP.sub [1, 2, 3, 4, 5, 6, 7, 8, 9, 10, 11, 12, 0, 13, 14] rfl) (hD.sub [1, 2, 3, 4, 5, 6, 7, 8, 9, 10, 11, 12, 0, 13, 14] (by decide) rfl) hS (Nat.le_of_ble_eq_true rfl) (Nat.le_of_ble_eq_true rfl) d_Words_number_93 ⟨(-2), x_318, x_319, x_320, x_321, x_322, x_323, x_324, x_325, f_326, x_327, f_328, f_329, x_330, f_331, f_332, f_333, f_334, rfl, rfl, hf_326, hx_327, hf_328, hf_329, hx_330, hf_331, hf_332⟩
                            · have _nhc_305 := hc_305
                              have ni_361 := (fa_eq _ _).mp hc_305
                              rw [li_0] at ni_361
                              have hv_362 : zI x_269 0 0 := zI.eq_l hx_269 zc_0 hc_305
                              refine lv_bipush (v := (-2)) hx hb d_Words_number_91 (by decide) ?_
                              exact z_iret hx hb hr hlocks (hP.sub [1, 2, 3, 4, 5, 6, 7, 8, 9, 10, 11, 12, 0, 13, 14] rfl) (hD.sub [1, 2, 3, 4, 5, 6, 7, 8, 9, 10, 11, 12, 0, 13, 14] (by decide) rfl) hS (Nat.le_of_ble_eq_true rfl) (Nat.le_of_ble_eq_true rfl) d_Words_number_93 ⟨(-2), x_270, x_271, x_272, x_273, x_274, x_275, x_276, x_277, f_278, x_279, f_280, f_281, x_282, f_283, f_284, f_285, f_286, rfl, rfl, hf_278, hx_279, hf_280, hf_281, hx_282, hf_283, hf_284⟩
                        · have _nhc_257 := hc_257
                          have ni_363 := (fa_eq _ _).mp hc_257
                          rw [li_0] at ni_363
                          have hv_364 : zI x_221 0 0 := zI.eq_l hx_221 zc_0 hc_257
                          refine lv_bipush (v := (-2)) hx hb d_Words_number_91 (by decide) ?_
                          exact z_iret hx hb hr hlocks (hP.sub [1, 2, 3, 4, 5, 6, 7, 8, 9, 10, 11, 12, 0, 13, 14] rfl) (hD.sub [1, 2, 3, 4, 5, 6, 7, 8, 9, 10, 11, 12, 0, 13, 14] (by decide) rfl) hS (Nat.le_of_ble_eq_true rfl) (Nat.le_of_ble_eq_true rfl) d_Words_number_93 ⟨(-2), x_222, x_223, x_224, x_225, x_226, x_227, x_228, x_229, f_230, x_231, f_232, f_233, x_234, f_235, f_236, f_237, f_238, rfl, rfl, hf_230, hx_231, hf_232, hf_233, hx_234, hf_235, hf_236⟩
                    · have _nhc_209 := hc_209
                      have ni_365 := (fa_eq _ _).mp hc_209
                      rw [li_0] at ni_365
                      have hv_366 : zI x_173 0 0 := zI.eq_l hx_173 zc_0 hc_209
                      refine lv_bipush (v := (-2)) hx hb d_Words_number_91 (by decide) ?_
                      exact z_iret hx hb hr hlocks (hP.sub [1, 2, 3, 4, 5, 6, 7, 8, 9, 10, 11, 12, 0, 13, 14] rfl) (hD.sub [1, 2, 3, 4, 5, 6, 7, 8, 9, 10, 11, 12, 0, 13, 14] (by decide) rfl) hS (Nat.le_of_ble_eq_true rfl) (Nat.le_of_ble_eq_true rfl) d_Words_number_93 ⟨(-2), x_174, x_175, x_176, x_177, x_178, x_179, x_180, x_181, f_182, x_183, f_184, f_185, x_186, f_187, f_188, f_189, f_190, rfl, rfl, hf_182, hx_183, hf_184, hf_185, hx_186, hf_187, hf_188⟩
                · have _nhc_161 := hc_161
                  have ni_367 := (fa_eq _ _).mp hc_161
                  rw [li_0] at ni_367
                  have hv_368 : zI x_125 0 0 := zI.eq_l hx_125 zc_0 hc_161
                  refine lv_bipush (v := (-2)) hx hb d_Words_number_91 (by decide) ?_
                  exact z_iret hx hb hr hlocks (hP.sub [1, 2, 3, 4, 5, 6, 7, 8, 9, 10, 11, 12, 0, 13, 14] rfl) (hD.sub [1, 2, 3, 4, 5, 6, 7, 8, 9, 10, 11, 12, 0, 13, 14] (by decide) rfl) hS (Nat.le_of_ble_eq_true rfl) (Nat.le_of_ble_eq_true rfl) d_Words_number_93 ⟨(-2), x_126, x_127, x_128, x_129, x_130, x_131, x_132, x_133, f_134, x_135, f_136, f_137, x_138, f_139, f_140, f_141, f_142, rfl, rfl, hf_134, hx_135, hf_136, hf_137, hx_138, hf_139, hf_140⟩
            · have _nhc_113 := hc_113
              have ni_369 := (fa_eq _ _).mp hc_113
              rw [li_0] at ni_369
              have hv_370 : zI x_77 0 0 := zI.eq_l hx_77 zc_0 hc_113
              refine lv_bipush (v := (-2)) hx hb d_Words_number_91 (by decide) ?_
              exact z_iret hx hb hr hlocks (hP.sub [1, 2, 3, 4, 5, 6, 7, 8, 9, 10, 11, 12, 0, 13, 14] rfl) (hD.sub [1, 2, 3, 4, 5, 6, 7, 8, 9, 10, 11, 12, 0, 13, 14] (by decide) rfl) hS (Nat.le_of_ble_eq_true rfl) (Nat.le_of_ble_eq_true rfl) d_Words_number_93 ⟨(-2), x_78, x_79, x_80, x_81, x_82, x_83, x_84, x_85, f_86, x_87, f_88, f_89, x_90, f_91, f_92, f_93, f_94, rfl, rfl, hf_86, hx_87, hf_88, hf_89, hx_90, hf_91, hf_92⟩
        · have _nhc_65 := hc_65
          have ni_371 := (fa_eq _ _).mp hc_65
          rw [li_0] at ni_371
          have hv_372 : zI x_29 0 0 := zI.eq_l hx_29 zc_0 hc_65
          refine lv_bipush (v := (-2)) hx hb d_Words_number_91 (by decide) ?_
          exact z_iret hx hb hr hlocks (hP.sub [1, 2, 3, 4, 5, 6, 7, 8, 9, 10, 11, 12, 0, 13, 14] rfl) (hD.sub [1, 2, 3, 4, 5, 6, 7, 8, 9, 10, 11, 12, 0, 13, 14] (by decide) rfl) hS (Nat.le_of_ble_eq_true rfl) (Nat.le_of_ble_eq_true rfl) d_Words_number_93 ⟨(-2), x_30, x_31, x_32, x_33, x_34, x_35, x_36, x_37, f_38, x_39, f_40, f_41, x_42, f_43, f_44, f_45, f_46, rfl, rfl, hf_38, hx_39, hf_40, hf_41, hx_42, hf_43, hf_44⟩
    · have _nhc_17 := hc_17
      have ni_373 := (fa_eq _ _).mp hc_17
      rw [li_0] at ni_373
      have hv_374 : zI b2 0 0 := zI.eq_l hb2 zc_0 hc_17
      refine lv_aload_n hx hb d_Words_number_57 rfl (lv_at hl 1 rfl) ?_
      refine lv_aload_n hx hb d_Words_number_58 rfl (lv_at hl 0 rfl) ?_
      refine va_get (D := G.1) (ci := 7) (v := .ref b5) (C := R_Words) (T := F_Words) (N := 8) hx hb hts i_Words hown hK hP 0 rfl rfl 2 (by decide) (hts _ q268) (fun _ h9 => h9) rfl d_Words_number_59 ?_
      refine lv_iconst (v := 0) hx hb d_Words_number_62 (by decide) ?_
      refine lv_iconst (v := 0) hx hb d_Words_number_63 (by decide) ?_
      refine z_callV (index := 62) (As := [.ref b5, .int 0, .int 0]) (rest := []) (wr := [(b0, .inr (7, [.ref b3, .ref b4, .ref b5, .ref b6, .ref b7, .ref b8, .ref b9, .ref b10])), (b6, .inr (6, [.int b20, .int 4, .int 100, .ref b21, .ref b22])), (b21, .inl (G.2 1, 400, .inr (.inl b23))), (b22, .inl (G.2 0, 256, .inl b24)), (b7, .inl (G.2 0, 100, .inl f_16)), (b8, .inl (G.2 0, 100, .inl b26)), (b36, .inl (G.2 0, 240, .inl b43)), (b40, .inl (G.2 0, 242, .inl b44)), (b17, .inl (G.2 0, 256, .inl f_14)), (b4, .inr (6, [.int b11, .int 4, .int 10, .ref b12, .ref b13])), (b12, .inl (G.2 1, 40, .inr (.inl f_7)))]) Z (s7_Machine_takes l G (b1) (b5) (0) (0) (b27) (b28) (b29) (b30) (b31) (b32) (b33) (b34) (b35) (b36) (b37) (b38) (b39) (b40) (b41) (b42) (x_12) (b16) (b17) (f_13) (zI.wk (l' := 0) (h' := 99) zc_0 (by decide)) zc_0 hb27 (zI.wk (l' := 0) (h' := 241) hv_3 (by decide)) hb35 hx_12 hf_13) hl.1 q848 q743 q744 q6 q745 ⟨by decide, by decide, by show _ = some 3; decide +kernel⟩ ⟨Nat.le_of_ble_eq_true rfl, Nat.le_of_ble_eq_true rfl⟩ ⟨Nat.le_of_ble_eq_true rfl, Nat.le_of_ble_eq_true rfl⟩ rfl (Nat.le_of_ble_eq_true rfl) d_Words_number_64 hP hD hS hA 6 5 rfl rfl rfl [6, 7, 10, 11] [0, 1, 2, 3, 4, 5, 8, 9, 12, 13, 14] rfl rfl rfl rfl (by decide) (fun v w1 H locs hw_375 hP hD hS => ?_)
      obtain ⟨x_376, rfl, rfl, hx_376⟩ := hw_375
      have hP : va_P G.1 classes [(b0, .inr (7, [.ref b3, .ref b4, .ref b5, .ref b6, .ref b7, .ref b8, .ref b9, .ref b10])), (b6, .inr (6, [.int b20, .int 4, .int 100, .ref b21, .ref b22])), (b21, .inl (G.2 1, 400, .inr (.inl b23))), (b22, .inl (G.2 0, 256, .inl b24)), (b7, .inl (G.2 0, 100, .inl f_16)), (b8, .inl (G.2 0, 100, .inl b26)), (b36, .inl (G.2 0, 240, .inl b43)), (b40, .inl (G.2 0, 242, .inl b44)), (b17, .inl (G.2 0, 256, .inl f_14)), (b4, .inr (6, [.int b11, .int 4, .int 10, .ref b12, .ref b13])), (b12, .inl (G.2 1, 40, .inr (.inl f_7))), (b1, .inr (5, [.int b27, .int b28, .ref b29, .ref b30, .ref b31, .ref b32, .ref b33, .ref b34, .int b35, .ref b36, .ref b37, .ref b38, .ref b39, .ref b40, .ref b41])), (b34, .inl (G.2 1, 4, .inr (.inl b42))), (b5, .inr (6, [.int x_12, .int 4, .int 100, .ref b16, .ref b17])), (b16, .inl (G.2 1, 400, .inr (.inl f_13)))] H := hP
      have hD := z_tie hP hD rfl
      refine W.widen (k := 0) (n := 0) (Nat.le_of_ble_eq_true rfl) (Nat.le_of_ble_eq_true rfl) ?_
      refine lv_if_eq (tgt := 74) hx hb d_Words_number_67 (by decide) (fun hc_377 => ?_) (fun hc_377 => ?_)
      · have _nhc_377 := hc_377
        have ni_378 := (fa_eq _ _).mp hc_377
        rw [li_0] at ni_378
        have hv_379 : zI x_376 0 0 := zI.eq_l hx_376 zc_0 hc_377
        refine lv_iconst (v := 0) hx hb d_Words_number_74 (by decide) ?_
        exact z_iret hx hb hr hlocks (hP.sub [0, 9, 10, 13, 14, 8, 1, 2, 3, 4, 5, 11, 12, 6, 7] rfl) (hD.sub [0, 9, 10, 13, 14, 8, 1, 2, 3, 4, 5, 11, 12, 6, 7] (by decide) rfl) hS (Nat.le_of_ble_eq_true rfl) (Nat.le_of_ble_eq_true rfl) d_Words_number_75 ⟨0, b5, b16, b17, b6, b21, b22, b7, b8, f_7, x_12, f_13, f_14, b20, b23, b24, f_16, b26, rfl, rfl, hf_7, hx_12, hf_13, hf_14, hb20, hb23, hb24⟩
      · have _nhc_377 := hc_377
        have ni_380 : ¬ (x_376 : Int32).toInt = (0 : Int32).toInt := fun z => hc_377 ((fa_eq _ _).mpr z)
        simp only [li_0] at ni_380
        have hv_381 : zI x_376 1 1 := zI.ne_lo hx_376 zc_0 hc_377 (by decide)
        refine lv_iconst (v := 1) hx hb d_Words_number_70 (by decide) ?_
        refine lv_goto (tgt := 75) hx hb d_Words_number_71 (by decide) ?_
        exact z_iret hx hb hr hlocks (hP.sub [0, 9, 10, 13, 14, 8, 1, 2, 3, 4, 5, 11, 12, 6, 7] rfl) (hD.sub [0, 9, 10, 13, 14, 8, 1, 2, 3, 4, 5, 11, 12, 6, 7] (by decide) rfl) hS (Nat.le_of_ble_eq_true rfl) (Nat.le_of_ble_eq_true rfl) d_Words_number_75 ⟨1, b5, b16, b17, b6, b21, b22, b7, b8, f_7, x_12, f_13, f_14, b20, b23, b24, f_16, b26, rfl, rfl, hf_7, hx_12, hf_13, hf_14, hb20, hb23, hb24⟩
  · have _nhc_1 := hc_1
    have ni_382 := (fa_eq _ _).mp hc_1
    rw [li_0] at ni_382
    have hv_383 : zI b28 0 0 := zI.eq_l hb28 zc_0 hc_1
    refine lv_iconst (v := 0) hx hb d_Words_number_7 (by decide) ?_
    exact z_iret hx hb hr hlocks hP hD hS (Nat.le_of_ble_eq_true rfl) (Nat.le_of_ble_eq_true rfl) d_Words_number_8 ⟨0, b5, b16, b17, b6, b21, b22, b7, b8, b14, b15, b18, b19, b20, b23, b24, b25, b26, rfl, rfl, hb14, hb15, hb18, hb19, hb20, hb23, hb24⟩
theorem d_Words_waysOf_0 : decode prog_12_method_6_code 0 = .ok (.aload_n 0, 1) := by decide +kernel
theorem d_Words_waysOf_1 : decode prog_12_method_6_code 1 = .ok (.getfield 36, 3) := by decide +kernel
theorem d_Words_waysOf_4 : decode prog_12_method_6_code 4 = .ok (.iconst 0, 1) := by decide +kernel
theorem d_Words_waysOf_5 : decode prog_12_method_6_code 5 = .ok (.invokestatic 88, 3) := by decide +kernel
theorem d_Words_waysOf_8 : decode prog_12_method_6_code 8 = .ok (.aload_n 0, 1) := by decide +kernel
theorem d_Words_waysOf_9 : decode prog_12_method_6_code 9 = .ok (.getfield 36, 3) := by decide +kernel
theorem d_Words_waysOf_12 : decode prog_12_method_6_code 12 = .ok (.iconst 0, 1) := by decide +kernel
theorem d_Words_waysOf_13 : decode prog_12_method_6_code 13 = .ok (.iconst 1, 1) := by decide +kernel
theorem d_Words_waysOf_14 : decode prog_12_method_6_code 14 = .ok (.iastore, 1) := by decide +kernel
theorem d_Words_waysOf_15 : decode prog_12_method_6_code 15 = .ok (.iconst 0, 1) := by decide +kernel
theorem d_Words_waysOf_16 : decode prog_12_method_6_code 16 = .ok (.istore 4, 2) := by decide +kernel
theorem d_Words_waysOf_18 : decode prog_12_method_6_code 18 = .ok (.iload 4, 2) := by decide +kernel
theorem d_Words_waysOf_20 : decode prog_12_method_6_code 20 = .ok (.aload_n 1, 1) := by decide +kernel
theorem d_Words_waysOf_21 : decode prog_12_method_6_code 21 = .ok (.getfield 94, 3) := by decide +kernel
theorem d_Words_waysOf_24 : decode prog_12_method_6_code 24 = .ok (.iload_n 2, 1) := by decide +kernel
theorem d_Words_waysOf_25 : decode prog_12_method_6_code 25 = .ok (.iaload, 1) := by decide +kernel
theorem d_Words_waysOf_26 : decode prog_12_method_6_code 26 = .ok (.if_icmp .ge 21, 3) := by decide +kernel
theorem d_Words_waysOf_29 : decode prog_12_method_6_code 29 = .ok (.aload_n 0, 1) := by decide +kernel
theorem d_Words_waysOf_30 : decode prog_12_method_6_code 30 = .ok (.aload_n 3, 1) := by decide +kernel
theorem d_Words_waysOf_31 : decode prog_12_method_6_code 31 = .ok (.aload_n 1, 1) := by decide +kernel
theorem d_Words_waysOf_32 : decode prog_12_method_6_code 32 = .ok (.iload_n 2, 1) := by decide +kernel
theorem d_Words_waysOf_33 : decode prog_12_method_6_code 33 = .ok (.iload 4, 2) := by decide +kernel
theorem d_Words_waysOf_35 : decode prog_12_method_6_code 35 = .ok (.invokevirtual 99, 3) := by decide +kernel
theorem d_Words_waysOf_38 : decode prog_12_method_6_code 38 = .ok (.invokevirtual 103, 3) := by decide +kernel
theorem d_Words_waysOf_41 : decode prog_12_method_6_code 41 = .ok (.iinc 4 1, 3) := by decide +kernel
theorem d_Words_waysOf_44 : decode prog_12_method_6_code 44 = .ok (.goto (-26), 3) := by decide +kernel
theorem d_Words_waysOf_47 : decode prog_12_method_6_code 47 = .ok (.iconst 0, 1) := by decide +kernel
theorem d_Words_waysOf_48 : decode prog_12_method_6_code 48 = .ok (.istore 4, 2) := by decide +kernel
theorem d_Words_waysOf_50 : decode prog_12_method_6_code 50 = .ok (.iconst 0, 1) := by decide +kernel
theorem d_Words_waysOf_51 : decode prog_12_method_6_code 51 = .ok (.istore 5, 2) := by decide +kernel
theorem d_Words_waysOf_53 : decode prog_12_method_6_code 53 = .ok (.iload 5, 2) := by decide +kernel
theorem d_Words_waysOf_55 : decode prog_12_method_6_code 55 = .ok (.aload_n 3, 1) := by decide +kernel
theorem d_Words_waysOf_56 : decode prog_12_method_6_code 56 = .ok (.getfield 42, 3) := by decide +kernel
theorem d_Words_waysOf_59 : decode prog_12_method_6_code 59 = .ok (.if_icmp .ge 36, 3) := by decide +kernel
theorem d_Words_waysOf_62 : decode prog_12_method_6_code 62 = .ok (.aload_n 3, 1) := by decide +kernel
theorem d_Words_waysOf_63 : decode prog_12_method_6_code 63 = .ok (.getfield 107, 3) := by decide +kernel
theorem d_Words_waysOf_66 : decode prog_12_method_6_code 66 = .ok (.iload 5, 2) := by decide +kernel
theorem d_Words_waysOf_68 : decode prog_12_method_6_code 68 = .ok (.iaload, 1) := by decide +kernel
theorem d_Words_waysOf_69 : decode prog_12_method_6_code 69 = .ok (.ifCond .le 20, 3) := by decide +kernel
theorem d_Words_waysOf_72 : decode prog_12_method_6_code 72 = .ok (.iload 4, 2) := by decide +kernel
theorem d_Words_waysOf_74 : decode prog_12_method_6_code 74 = .ok (.aload_n 0, 1) := by decide +kernel
theorem d_Words_waysOf_75 : decode prog_12_method_6_code 75 = .ok (.getfield 36, 3) := by decide +kernel
theorem d_Words_waysOf_78 : decode prog_12_method_6_code 78 = .ok (.iload 5, 2) := by decide +kernel
theorem d_Words_waysOf_80 : decode prog_12_method_6_code 80 = .ok (.iaload, 1) := by decide +kernel
theorem d_Words_waysOf_81 : decode prog_12_method_6_code 81 = .ok (.iadd, 1) := by decide +kernel
theorem d_Words_waysOf_82 : decode prog_12_method_6_code 82 = .ok (.ldc 110, 2) := by decide +kernel
theorem d_Words_waysOf_84 : decode prog_12_method_6_code 84 = .ok (.invokestatic 111, 3) := by decide +kernel
theorem d_Words_waysOf_87 : decode prog_12_method_6_code 87 = .ok (.istore 4, 2) := by decide +kernel
theorem d_Words_waysOf_89 : decode prog_12_method_6_code 89 = .ok (.iinc 5 1, 3) := by decide +kernel
theorem d_Words_waysOf_92 : decode prog_12_method_6_code 92 = .ok (.goto (-39), 3) := by decide +kernel
theorem d_Words_waysOf_95 : decode prog_12_method_6_code 95 = .ok (.iload 4, 2) := by decide +kernel
theorem d_Words_waysOf_97 : decode prog_12_method_6_code 97 = .ok (.ireturn, 1) := by decide +kernel
theorem d_Words_stepWays_0 : decode prog_12_method_7_code 0 = .ok (.aload_n 0, 1) := by decide +kernel
theorem d_Words_stepWays_1 : decode prog_12_method_7_code 1 = .ok (.getfield 39, 3) := by decide +kernel
theorem d_Words_stepWays_4 : decode prog_12_method_7_code 4 = .ok (.iconst 0, 1) := by decide +kernel
theorem d_Words_stepWays_5 : decode prog_12_method_7_code 5 = .ok (.invokestatic 88, 3) := by decide +kernel
theorem d_Words_stepWays_8 : decode prog_12_method_7_code 8 = .ok (.iconst 0, 1) := by decide +kernel
theorem d_Words_stepWays_9 : decode prog_12_method_7_code 9 = .ok (.istore_n 3, 1) := by decide +kernel
theorem d_Words_stepWays_10 : decode prog_12_method_7_code 10 = .ok (.iload_n 3, 1) := by decide +kernel
theorem d_Words_stepWays_11 : decode prog_12_method_7_code 11 = .ok (.aload_n 1, 1) := by decide +kernel
theorem d_Words_stepWays_12 : decode prog_12_method_7_code 12 = .ok (.getfield 116, 3) := by decide +kernel
theorem d_Words_stepWays_15 : decode prog_12_method_7_code 15 = .ok (.if_icmp .ge 55, 3) := by decide +kernel
theorem d_Words_stepWays_18 : decode prog_12_method_7_code 18 = .ok (.aload_n 1, 1) := by decide +kernel
theorem d_Words_stepWays_19 : decode prog_12_method_7_code 19 = .ok (.iload_n 3, 1) := by decide +kernel
theorem d_Words_stepWays_20 : decode prog_12_method_7_code 20 = .ok (.invokevirtual 119, 3) := by decide +kernel
theorem d_Words_stepWays_23 : decode prog_12_method_7_code 23 = .ok (.iload_n 2, 1) := by decide +kernel
theorem d_Words_stepWays_24 : decode prog_12_method_7_code 24 = .ok (.if_icmp .ne 40, 3) := by decide +kernel
theorem d_Words_stepWays_27 : decode prog_12_method_7_code 27 = .ok (.aload_n 1, 1) := by decide +kernel
theorem d_Words_stepWays_28 : decode prog_12_method_7_code 28 = .ok (.iload_n 3, 1) := by decide +kernel
theorem d_Words_stepWays_29 : decode prog_12_method_7_code 29 = .ok (.invokevirtual 123, 3) := by decide +kernel
theorem d_Words_stepWays_32 : decode prog_12_method_7_code 32 = .ok (.istore 4, 2) := by decide +kernel
theorem d_Words_stepWays_34 : decode prog_12_method_7_code 34 = .ok (.aload_n 0, 1) := by decide +kernel
theorem d_Words_stepWays_35 : decode prog_12_method_7_code 35 = .ok (.getfield 39, 3) := by decide +kernel
theorem d_Words_stepWays_38 : decode prog_12_method_7_code 38 = .ok (.iload 4, 2) := by decide +kernel
theorem d_Words_stepWays_40 : decode prog_12_method_7_code 40 = .ok (.aload_n 0, 1) := by decide +kernel
theorem d_Words_stepWays_41 : decode prog_12_method_7_code 41 = .ok (.getfield 39, 3) := by decide +kernel
theorem d_Words_stepWays_44 : decode prog_12_method_7_code 44 = .ok (.iload 4, 2) := by decide +kernel
theorem d_Words_stepWays_46 : decode prog_12_method_7_code 46 = .ok (.iaload, 1) := by decide +kernel
theorem d_Words_stepWays_47 : decode prog_12_method_7_code 47 = .ok (.aload_n 0, 1) := by decide +kernel
theorem d_Words_stepWays_48 : decode prog_12_method_7_code 48 = .ok (.getfield 36, 3) := by decide +kernel
theorem d_Words_stepWays_51 : decode prog_12_method_7_code 51 = .ok (.aload_n 1, 1) := by decide +kernel
theorem d_Words_stepWays_52 : decode prog_12_method_7_code 52 = .ok (.iload_n 3, 1) := by decide +kernel
theorem d_Words_stepWays_53 : decode prog_12_method_7_code 53 = .ok (.invokevirtual 126, 3) := by decide +kernel
theorem d_Words_stepWays_56 : decode prog_12_method_7_code 56 = .ok (.iaload, 1) := by decide +kernel
theorem d_Words_stepWays_57 : decode prog_12_method_7_code 57 = .ok (.iadd, 1) := by decide +kernel
theorem d_Words_stepWays_58 : decode prog_12_method_7_code 58 = .ok (.ldc 110, 2) := by decide +kernel
theorem d_Words_stepWays_60 : decode prog_12_method_7_code 60 = .ok (.invokestatic 111, 3) := by decide +kernel
theorem d_Words_stepWays_63 : decode prog_12_method_7_code 63 = .ok (.iastore, 1) := by decide +kernel
theorem d_Words_stepWays_64 : decode prog_12_method_7_code 64 = .ok (.iinc 3 1, 3) := by decide +kernel
theorem d_Words_stepWays_67 : decode prog_12_method_7_code 67 = .ok (.goto (-57), 3) := by decide +kernel
theorem d_Words_stepWays_70 : decode prog_12_method_7_code 70 = .ok (.aload_n 0, 1) := by decide +kernel
theorem d_Words_stepWays_71 : decode prog_12_method_7_code 71 = .ok (.getfield 36, 3) := by decide +kernel
theorem d_Words_stepWays_74 : decode prog_12_method_7_code 74 = .ok (.astore_n 3, 1) := by decide +kernel
theorem d_Words_stepWays_75 : decode prog_12_method_7_code 75 = .ok (.aload_n 0, 1) := by decide +kernel
theorem d_Words_stepWays_76 : decode prog_12_method_7_code 76 = .ok (.aload_n 0, 1) := by decide +kernel
theorem d_Words_stepWays_77 : decode prog_12_method_7_code 77 = .ok (.getfield 39, 3) := by decide +kernel
theorem d_Words_stepWays_80 : decode prog_12_method_7_code 80 = .ok (.putfield 36, 3) := by decide +kernel
theorem d_Words_stepWays_83 : decode prog_12_method_7_code 83 = .ok (.aload_n 0, 1) := by decide +kernel
theorem d_Words_stepWays_84 : decode prog_12_method_7_code 84 = .ok (.aload_n 3, 1) := by decide +kernel
theorem d_Words_stepWays_85 : decode prog_12_method_7_code 85 = .ok (.putfield 39, 3) := by decide +kernel
theorem d_Words_stepWays_88 : decode prog_12_method_7_code 88 = .ok (.return_, 1) := by decide +kernel
theorem zc_1000000 : zI 1000000 1000000 1000000 := ⟨by decide +kernel, by decide +kernel⟩
theorem zc_9 : zI 9 9 9 := ⟨by decide +kernel, by decide +kernel⟩
theorem li_9 : (9 : Int32).toInt = 9 := by decide +kernel
abbrev m_s2_Words_stepWays : Room := { frames := 1, cells := 0, slots := 0, locals := 23 }
set_option maxHeartbeats 4000000 in
set_option maxRecDepth 100000 in
theorem s2_Words_stepWays (l : Launch) (G : zG) (b0 : Nat) (b1 : Nat) (b2 : Int32) (b3 : Nat) (b4 : Nat) (b5 : Nat) (b6 : Nat) (b7 : Nat) (b8 : Nat) (b9 : Nat) (b10 : Nat) (b11 : Nat → Int32) (b12 : Nat → Int32) (b13 : Int32) (b14 : Int32) (b15 : Nat) (b16 : Nat) (b17 : Nat) (b18 : Nat) (b19 : Nat) (b20 : Nat) (b21 : Int32) (b22 : Nat) (b23 : Nat) (b24 : Nat) (b25 : Nat) (b26 : Nat) (b27 : Nat) (b28 : Nat → Int32) (hb2 : zI b2 0 9) (hb13 : zI b13 0 1) (hb14 : zI b14 0 241) (hb21 : zI b21 0 240) (hb28 : zK b28) : zM l G y_Words_stepWays prog_12_method_7_code 5 (Option.none : Option Jvm.ClassFile.FieldType) m_s2_Words_stepWays [.ref b0, .ref b1, .int b2] [(b0, .inr (7, [.ref b3, .ref b4, .ref b5, .ref b6, .ref b7, .ref b8, .ref b9, .ref b10])), (b9, .inl (G.2 0, 241, .inl b11)), (b10, .inl (G.2 0, 241, .inl b12)), (b1, .inr (5, [.int b13, .int b14, .ref b15, .ref b16, .ref b17, .ref b18, .ref b19, .ref b20, .int b21, .ref b22, .ref b23, .ref b24, .ref b25, .ref b26, .ref b27])), (b22, .inl (G.2 0, 240, .inl b28))] (fun v w => ∃ (e0 : Nat), ∃ (e1 : Nat), ∃ (e2 : Nat → Int32), ∃ (e3 : Nat → Int32), v = none ∧ w = [(b0, .inr (7, [.ref b3, .ref b4, .ref b5, .ref b6, .ref b7, .ref b8, .ref e0, .ref e1])), (e0, .inl (G.2 0, 241, .inl e2)), (e1, .inl (G.2 0, 241, .inl e3)), (b1, .inr (5, [.int b13, .int b14, .ref b15, .ref b16, .ref b17, .ref b18, .ref b19, .ref b20, .int b21, .ref b22, .ref b23, .ref b24, .ref b25, .ref b26, .ref b27])), (b22, .inl (G.2 0, 240, .inl b28))]) := by
  refine z_start (by decide +kernel) (Nat.le_of_ble_eq_true rfl) ?_
  intro p e s m below meth c A Z hr hnm hA hP hD hS ls hl
  have Z : zC p s m _ meth c prog_12_method_7_code 5 "TraceMachines$Words" G := Z
  obtain ⟨hx, hb, hml, hown, hts, hK, hN, hlocks⟩ := id Z
  have hl : lv_has ls 5 [(0, .ref b0), (1, .ref b1), (2, .int b2)] := hl
  refine lv_aload_n hx hb d_Words_stepWays_0 rfl (lv_at hl 0 rfl) ?_
  refine va_get (D := G.1) (ci := 7) (v := .ref b10) (C := R_Words) (T := F_Words) (N := 8) hx hb hts i_Words hown hK hP 0 rfl rfl 7 (by decide) (hts _ q273) (fun _ h9 => h9) rfl d_Words_stepWays_1 ?_
  refine lv_iconst (v := 0) hx hb d_Words_stepWays_4 (by decide) ?_
  refine z_callS (index := 88) (As := [.ref b10, .int 0]) (rest := []) (wr := [(b0, .inr (7, [.ref b3, .ref b4, .ref b5, .ref b6, .ref b7, .ref b8, .ref b9, .ref b10])), (b9, .inl (G.2 0, 241, .inl b11)), (b1, .inr (5, [.int b13, .int b14, .ref b15, .ref b16, .ref b17, .ref b18, .ref b19, .ref b20, .int b21, .ref b22, .ref b23, .ref b24, .ref b25, .ref b26, .ref b27])), (b22, .inl (G.2 0, 240, .inl b28))]) Z (c_fill_I l G (b10) (241) (b12) (0) (by decide)) hl.1 q804 q415 q13 q416 ⟨by decide, by decide, by show _ = some 2; decide +kernel⟩ ⟨Nat.le_of_ble_eq_true rfl, Nat.le_of_ble_eq_true rfl⟩ ⟨Nat.le_of_ble_eq_true rfl, Nat.le_of_ble_eq_true rfl⟩ rfl (Nat.le_of_ble_eq_true rfl) d_Words_stepWays_5 hP hD hS hA [2] [0, 1, 3, 4] rfl rfl rfl rfl (by decide) (fun v w1 H locs hw_1 hP hD hS => ?_)
  obtain ⟨rfl, rfl⟩ := hw_1
  have hP : va_P G.1 classes [(b0, .inr (7, [.ref b3, .ref b4, .ref b5, .ref b6, .ref b7, .ref b8, .ref b9, .ref b10])), (b9, .inl (G.2 0, 241, .inl b11)), (b1, .inr (5, [.int b13, .int b14, .ref b15, .ref b16, .ref b17, .ref b18, .ref b19, .ref b20, .int b21, .ref b22, .ref b23, .ref b24, .ref b25, .ref b26, .ref b27])), (b22, .inl (G.2 0, 240, .inl b28)), (b10, .inl (G.2 0, 241, .inl (fun _ => 0)))] H := hP
  have hD := z_tie hP hD rfl
  refine W.widen (k := 0) (n := 0) (Nat.le_of_ble_eq_true rfl) (Nat.le_of_ble_eq_true rfl) ?_
  refine lv_iconst (v := 0) hx hb d_Words_stepWays_8 (by decide) ?_
  refine lv_istore_n (lv' := [(3, .int 0), (0, .ref b0), (1, .ref b1), (2, .int b2)]) hx hb d_Words_stepWays_9 rfl hl (by decide) rfl (fun ls hl => ?_)
  suffices key : ∀ (k_25 : Nat) (y_26 : Int32) (y_27 : Nat → Int32) (H : Heap) (locs : List Loc) (ls : Array Slot), (zI y_26 0 240) → (240 : Int) - y_26.toInt < (k_25 : Int) → va_P G.1 classes [(b0, .inr (7, [.ref b3, .ref b4, .ref b5, .ref b6, .ref b7, .ref b8, .ref b9, .ref b10])), (b9, .inl (G.2 0, 241, .inl b11)), (b1, .inr (5, [.int b13, .int b14, .ref b15, .ref b16, .ref b17, .ref b18, .ref b19, .ref b20, .int b21, .ref b22, .ref b23, .ref b24, .ref b25, .ref b26, .ref b27])), (b22, .inl (G.2 0, 240, .inl b28)), (b10, .inl (G.2 0, 241, .inl y_27))] H → va_D A [(b0, .inr (7, [.ref b3, .ref b4, .ref b5, .ref b6, .ref b7, .ref b8, .ref b9, .ref b10])), (b9, .inl (G.2 0, 241, .inl b11)), (b1, .inr (5, [.int b13, .int b14, .ref b15, .ref b16, .ref b17, .ref b18, .ref b19, .ref b20, .int b21, .ref b22, .ref b23, .ref b24, .ref b25, .ref b26, .ref b27])), (b22, .inl (G.2 0, 240, .inl b28)), (b10, .inl (G.2 0, 241, .inl y_27))] → va_S A s.heap H locs → lv_has ls 5 [(3, .int y_26), (0, .ref b0), (1, .ref b1), (2, .int b2)] → W p l e m_s2_Words_stepWays s m ([.ref b0, .ref b1, .int b2] : List Value).toArray below meth c H locs 0 0 (MQ below (zQ G (fun v w => ∃ (e0 : Nat), ∃ (e1 : Nat), ∃ (e2 : Nat → Int32), ∃ (e3 : Nat → Int32), v = none ∧ w = [(b0, .inr (7, [.ref b3, .ref b4, .ref b5, .ref b6, .ref b7, .ref b8, .ref e0, .ref e1])), (e0, .inl (G.2 0, 241, .inl e2)), (e1, .inl (G.2 0, 241, .inl e3)), (b1, .inr (5, [.int b13, .int b14, .ref b15, .ref b16, .ref b17, .ref b18, .ref b19, .ref b20, .int b21, .ref b22, .ref b23, .ref b24, .ref b25, .ref b26, .ref b27])), (b22, .inl (G.2 0, 240, .inl b28))]) A) ([.ref b0, .ref b1, .int b2] : List Value).toArray s m_s2_Words_stepWays.cells m_s2_Words_stepWays.slots A) (F0 m 10 ls []) by
    exact key 241 (0) ((fun _ => 0)) _ _ _ (zI.wk (l' := 0) (h' := 240) zc_0 (by decide)) (zm_upi (zI.wk (l' := 0) (h' := 240) zc_0 (by decide)) (by decide)) hP hD hS (lv_sub hl [0, 1, 2, 3] rfl)
  intro k_25
  induction k_25 with
  | zero =>
    intro y_26 y_27 H locs ls hy_26 hmk_25 hP hD hS hl
    exact (zm_up0 hy_26 hmk_25).elim
  | succ k_25 ihk_25 =>
    intro y_26 y_27 H locs ls hy_26 hmk_25 hP hD hS hl
    refine lv_iload_n hx hb d_Words_stepWays_10 rfl (lv_at hl 0 rfl) ?_
    refine lv_aload_n hx hb d_Words_stepWays_11 rfl (lv_at hl 2 rfl) ?_
    refine va_get (D := G.1) (ci := 5) (v := .int b21) (C := R_Machine) (T := F_Machine) (N := 15) hx hb hts i_Machine hown hK hP 2 rfl rfl 8 (by decide) (hts _ q183) (fun _ h9 => h9) rfl d_Words_stepWays_12 ?_
    refine lv_icmp_ge (tgt := 70) hx hb d_Words_stepWays_15 (by decide) (fun hc_28 => ?_) (fun hc_28 => ?_)
    · have _nhc_28 := hc_28
      have ni_29 := (fa_le _ _).mp hc_28
      refine lv_aload_n hx hb d_Words_stepWays_70 rfl (lv_at hl 1 rfl) ?_
      refine va_get (D := G.1) (ci := 7) (v := .ref b9) (C := R_Words) (T := F_Words) (N := 8) hx hb hts i_Words hown hK hP 0 rfl rfl 6 (by decide) (hts _ q272) (fun _ h9 => h9) rfl d_Words_stepWays_71 ?_
      refine lv_astore_n (lv' := [(3, .ref b9), (0, .ref b0), (1, .ref b1), (2, .int b2)]) hx hb d_Words_stepWays_74 rfl hl (by decide) rfl (fun ls hl => ?_)
      refine lv_aload_n hx hb d_Words_stepWays_75 rfl (lv_at hl 1 rfl) ?_
      refine lv_aload_n hx hb d_Words_stepWays_76 rfl (lv_at hl 1 rfl) ?_
      refine va_get (D := G.1) (ci := 7) (v := .ref b10) (C := R_Words) (T := F_Words) (N := 8) hx hb hts i_Words hown hK hP 0 rfl rfl 7 (by decide) (hts _ q273) (fun _ h9 => h9) rfl d_Words_stepWays_77 ?_
      refine va_put (D := G.1) (ci := 7) (v := .ref b10) (ty := .array .int) (C := R_Words) (T := F_Words) (N := 8) hx hb hts i_Words t_Words t_Words_ok n_Words hown hK hP hD hS 0 rfl rfl 6 (by decide) (hts _ q272) (fun _ h9 => h9) rfl (by decide +kernel) rfl rfl (Nat.le_of_ble_eq_true rfl) d_Words_stepWays_80 (fun H locs hP hD hS => ?_)
      have hP : va_P G.1 classes [(b0, .inr (7, [.ref b3, .ref b4, .ref b5, .ref b6, .ref b7, .ref b8, .ref b10, .ref b10])), (b9, .inl (G.2 0, 241, .inl b11)), (b1, .inr (5, [.int b13, .int b14, .ref b15, .ref b16, .ref b17, .ref b18, .ref b19, .ref b20, .int b21, .ref b22, .ref b23, .ref b24, .ref b25, .ref b26, .ref b27])), (b22, .inl (G.2 0, 240, .inl b28)), (b10, .inl (G.2 0, 241, .inl y_27))] H := hP
      have hD := z_tie hP hD rfl
      refine lv_aload_n hx hb d_Words_stepWays_83 rfl (lv_at hl 1 rfl) ?_
      refine lv_aload_n hx hb d_Words_stepWays_84 rfl (lv_at hl 0 rfl) ?_
      refine va_put (D := G.1) (ci := 7) (v := .ref b9) (ty := .array .int) (C := R_Words) (T := F_Words) (N := 8) hx hb hts i_Words t_Words t_Words_ok n_Words hown hK hP hD hS 0 rfl rfl 7 (by decide) (hts _ q273) (fun _ h9 => h9) rfl (by decide +kernel) rfl rfl (Nat.le_of_ble_eq_true rfl) d_Words_stepWays_85 (fun H locs hP hD hS => ?_)
      have hP : va_P G.1 classes [(b0, .inr (7, [.ref b3, .ref b4, .ref b5, .ref b6, .ref b7, .ref b8, .ref b10, .ref b9])), (b9, .inl (G.2 0, 241, .inl b11)), (b1, .inr (5, [.int b13, .int b14, .ref b15, .ref b16, .ref b17, .ref b18, .ref b19, .ref b20, .int b21, .ref b22, .ref b23, .ref b24, .ref b25, .ref b26, .ref b27])), (b22, .inl (G.2 0, 240, .inl b28)), (b10, .inl (G.2 0, 241, .inl y_27))] H := hP
      have hD := z_tie hP hD rfl
      exact z_vret hx hb hr hlocks (hP.sub [0, 4, 1, 2, 3] rfl) (hD.sub [0, 4, 1, 2, 3] (by decide) rfl) hS (Nat.le_of_ble_eq_true rfl) (Nat.le_of_ble_eq_true rfl) d_Words_stepWays_88 ⟨b10, b9, y_27, b11, rfl, rfl⟩
    · have _nhc_28 := hc_28
      have ni_30 := (fa_lt _ _).mp (zi_nle hc_28)
      have hv_31 : zI y_26 0 239 := zI.lt_l hy_26 hb21 (zi_nle hc_28) (by decide)
      have hv_32 : zI b21 1 240 := zI.lt_r hy_26 hb21 (zi_nle hc_28) (by decide)
      refine lv_aload_n hx hb d_Words_stepWays_18 rfl (lv_at hl 2 rfl) ?_
      refine lv_iload_n hx hb d_Words_stepWays_19 rfl (lv_at hl 0 rfl) ?_
      refine z_callV (index := 119) (As := [.int y_26]) (rest := []) (wr := [(b0, .inr (7, [.ref b3, .ref b4, .ref b5, .ref b6, .ref b7, .ref b8, .ref b9, .ref b10])), (b9, .inl (G.2 0, 241, .inl b11)), (b10, .inl (G.2 0, 241, .inl y_27))]) Z (s1_Machine_letter l G (b1) (y_26) (b13) (b14) (b15) (b16) (b17) (b18) (b19) (b20) (b21) (b22) (b23) (b24) (b25) (b26) (b27) (b28) hv_31 hb13 hb14 (zI.wk (l' := 0) (h' := 240) hv_32 (by decide)) hb28) hl.1 q810 q674 q675 q6 q676 ⟨by decide, by decide, by show _ = some 1; decide +kernel⟩ ⟨Nat.le_of_ble_eq_true rfl, Nat.le_of_ble_eq_true rfl⟩ ⟨Nat.le_of_ble_eq_true rfl, Nat.le_of_ble_eq_true rfl⟩ rfl (Nat.le_of_ble_eq_true rfl) d_Words_stepWays_20 hP hD hS hA 2 5 rfl rfl rfl [2, 3] [0, 1, 4] rfl rfl rfl rfl (by decide) (fun v w1 H locs hw_33 hP hD hS => ?_)
      obtain ⟨x_34, rfl, rfl, hx_34⟩ := hw_33
      have hP : va_P G.1 classes [(b0, .inr (7, [.ref b3, .ref b4, .ref b5, .ref b6, .ref b7, .ref b8, .ref b9, .ref b10])), (b9, .inl (G.2 0, 241, .inl b11)), (b10, .inl (G.2 0, 241, .inl y_27)), (b1, .inr (5, [.int b13, .int b14, .ref b15, .ref b16, .ref b17, .ref b18, .ref b19, .ref b20, .int b21, .ref b22, .ref b23, .ref b24, .ref b25, .ref b26, .ref b27])), (b22, .inl (G.2 0, 240, .inl b28))] H := hP
      have hD := z_tie hP hD rfl
      refine W.widen (k := 0) (n := 0) (Nat.le_of_ble_eq_true rfl) (Nat.le_of_ble_eq_true rfl) ?_
      refine lv_iload_n hx hb d_Words_stepWays_23 rfl (lv_at hl 3 rfl) ?_
      refine lv_icmp_ne (tgt := 64) hx hb d_Words_stepWays_24 (by decide) (fun hc_35 => ?_) (fun hc_35 => ?_)
      · have _nhc_35 := hc_35
        have ni_36 : ¬ (x_34 : Int32).toInt = (b2 : Int32).toInt := fun z => hc_35 ((fa_eq _ _).mpr z)
        obtain ⟨v_37, ev_37⟩ : ∃ z : Int32, z = y_26 + 1 := ⟨_, rfl⟩
        obtain ⟨qv_37, hv_37⟩ := zI_add (l := 1) (h := 240) hv_31 zc_1 ev_37 (by decide)
        rw [li_1] at qv_37
        refine lv_iinc (v := v_37) (lv' := [(3, .int v_37), (0, .ref b0), (1, .ref b1), (2, .int b2)]) hx hb d_Words_stepWays_64 hl (k := 0) rfl (by rw [ev_37]; rfl) (by decide) rfl (fun ls hl => ?_)
        refine lv_goto (tgt := 10) hx hb d_Words_stepWays_67 (by decide) ?_
        exact ihk_25 (v_37) (y_27) _ _ _ (zI.wk (l' := 0) (h' := 240) hv_37 (by decide)) (zm_up qv_37 hmk_25 (by decide)) (hP.sub [0, 1, 3, 4, 2] rfl) (hD.sub [0, 1, 3, 4, 2] (by decide) rfl) hS (lv_sub hl [0, 1, 2, 3] rfl)
      · have _nhc_35 := hc_35
        have ni_38 := (fa_eq _ _).mp hc_35
        refine lv_aload_n hx hb d_Words_stepWays_27 rfl (lv_at hl 2 rfl) ?_
        refine lv_iload_n hx hb d_Words_stepWays_28 rfl (lv_at hl 0 rfl) ?_
        refine z_callV (index := 123) (As := [.int y_26]) (rest := []) (wr := [(b0, .inr (7, [.ref b3, .ref b4, .ref b5, .ref b6, .ref b7, .ref b8, .ref b9, .ref b10])), (b9, .inl (G.2 0, 241, .inl b11)), (b10, .inl (G.2 0, 241, .inl y_27))]) Z (s1_Machine_to l G (b1) (y_26) (b13) (b14) (b15) (b16) (b17) (b18) (b19) (b20) (b21) (b22) (b23) (b24) (b25) (b26) (b27) (b28) hv_31 hb13 hb14 (zI.wk (l' := 0) (h' := 240) hv_32 (by decide)) hb28) hl.1 q811 q681 q682 q6 q683 ⟨by decide, by decide, by show _ = some 1; decide +kernel⟩ ⟨Nat.le_of_ble_eq_true rfl, Nat.le_of_ble_eq_true rfl⟩ ⟨Nat.le_of_ble_eq_true rfl, Nat.le_of_ble_eq_true rfl⟩ rfl (Nat.le_of_ble_eq_true rfl) d_Words_stepWays_29 hP hD hS hA 3 5 rfl rfl rfl [3, 4] [0, 1, 2] rfl rfl rfl rfl (by decide) (fun v w1 H locs hw_39 hP hD hS => ?_)
        obtain ⟨x_40, rfl, rfl, hx_40⟩ := hw_39
        have hP : va_P G.1 classes [(b0, .inr (7, [.ref b3, .ref b4, .ref b5, .ref b6, .ref b7, .ref b8, .ref b9, .ref b10])), (b9, .inl (G.2 0, 241, .inl b11)), (b10, .inl (G.2 0, 241, .inl y_27)), (b1, .inr (5, [.int b13, .int b14, .ref b15, .ref b16, .ref b17, .ref b18, .ref b19, .ref b20, .int b21, .ref b22, .ref b23, .ref b24, .ref b25, .ref b26, .ref b27])), (b22, .inl (G.2 0, 240, .inl b28))] H := hP
        have hD := z_tie hP hD rfl
        refine W.widen (k := 0) (n := 0) (Nat.le_of_ble_eq_true rfl) (Nat.le_of_ble_eq_true rfl) ?_
        refine lv_istore (lv' := [(4, .int x_40), (3, .int y_26), (0, .ref b0), (1, .ref b1), (2, .int b2)]) hx hb d_Words_stepWays_32 hl (by decide) rfl (fun ls hl => ?_)
        refine lv_aload_n hx hb d_Words_stepWays_34 rfl (lv_at hl 2 rfl) ?_
        refine va_get (D := G.1) (ci := 7) (v := .ref b10) (C := R_Words) (T := F_Words) (N := 8) hx hb hts i_Words hown hK hP 0 rfl rfl 7 (by decide) (hts _ q273) (fun _ h9 => h9) rfl d_Words_stepWays_35 ?_
        refine lv_iload hx hb d_Words_stepWays_38 (lv_at hl 0 rfl) ?_
        refine lv_aload_n hx hb d_Words_stepWays_40 rfl (lv_at hl 2 rfl) ?_
        refine va_get (D := G.1) (ci := 7) (v := .ref b10) (C := R_Words) (T := F_Words) (N := 8) hx hb hts i_Words hown hK hP 0 rfl rfl 7 (by decide) (hts _ q273) (fun _ h9 => h9) rfl d_Words_stepWays_41 ?_
        refine lv_iload hx hb d_Words_stepWays_44 (lv_at hl 0 rfl) ?_
        refine va_iald hx hb hK hP 2 0 rfl rfl (zI.inn hx_40 (by decide)) d_Words_stepWays_46 ?_
        refine lv_topi (fun v_41 ev_41 => ?_)
        refine lv_aload_n hx hb d_Words_stepWays_47 rfl (lv_at hl 2 rfl) ?_
        refine va_get (D := G.1) (ci := 7) (v := .ref b9) (C := R_Words) (T := F_Words) (N := 8) hx hb hts i_Words hown hK hP 0 rfl rfl 6 (by decide) (hts _ q272) (fun _ h9 => h9) rfl d_Words_stepWays_48 ?_
        refine lv_aload_n hx hb d_Words_stepWays_51 rfl (lv_at hl 3 rfl) ?_
        refine lv_iload_n hx hb d_Words_stepWays_52 rfl (lv_at hl 1 rfl) ?_
        refine z_callV (index := 126) (As := [.int y_26]) (rest := [.ref b9, .int v_41, .int x_40, .ref b10]) (wr := [(b0, .inr (7, [.ref b3, .ref b4, .ref b5, .ref b6, .ref b7, .ref b8, .ref b9, .ref b10])), (b9, .inl (G.2 0, 241, .inl b11)), (b10, .inl (G.2 0, 241, .inl y_27))]) Z (s1_Machine_from l G (b1) (y_26) (b13) (b14) (b15) (b16) (b17) (b18) (b19) (b20) (b21) (b22) (b23) (b24) (b25) (b26) (b27) (b28) hv_31 hb13 hb14 (zI.wk (l' := 0) (h' := 240) hv_32 (by decide)) hb28) hl.1 q812 q661 q662 q6 q663 ⟨by decide, by decide, by show _ = some 1; decide +kernel⟩ ⟨Nat.le_of_ble_eq_true rfl, Nat.le_of_ble_eq_true rfl⟩ ⟨Nat.le_of_ble_eq_true rfl, Nat.le_of_ble_eq_true rfl⟩ rfl (Nat.le_of_ble_eq_true rfl) d_Words_stepWays_53 hP hD hS hA 3 5 rfl rfl rfl [3, 4] [0, 1, 2] rfl rfl rfl rfl (by decide) (fun v w1 H locs hw_42 hP hD hS => ?_)
        obtain ⟨x_43, rfl, rfl, hx_43⟩ := hw_42
        have hP : va_P G.1 classes [(b0, .inr (7, [.ref b3, .ref b4, .ref b5, .ref b6, .ref b7, .ref b8, .ref b9, .ref b10])), (b9, .inl (G.2 0, 241, .inl b11)), (b10, .inl (G.2 0, 241, .inl y_27)), (b1, .inr (5, [.int b13, .int b14, .ref b15, .ref b16, .ref b17, .ref b18, .ref b19, .ref b20, .int b21, .ref b22, .ref b23, .ref b24, .ref b25, .ref b26, .ref b27])), (b22, .inl (G.2 0, 240, .inl b28))] H := hP
        have hD := z_tie hP hD rfl
        refine W.widen (k := 0) (n := 0) (Nat.le_of_ble_eq_true rfl) (Nat.le_of_ble_eq_true rfl) ?_
        refine va_iald hx hb hK hP 1 0 rfl rfl (zI.inn hx_43 (by decide)) d_Words_stepWays_56 ?_
        refine lv_topi (fun v_44 ev_44 => ?_)
        refine lv_iadd hx hb d_Words_stepWays_57 ?_
        refine lv_topi (fun v_45 ev_45 => ?_)
        refine lv_ldc hx hb hown (hts _ q813) d_Words_stepWays_58 ?_
        refine va_mmin hx hb (hml.trans hl.1.symm) hown (hts _ q814) (hts _ q592) (hts _ q20) (hts _ q593) (Nat.le_of_ble_eq_true rfl) (Nat.le_of_ble_eq_true rfl) (Nat.le_of_ble_eq_true rfl) (Nat.le_of_ble_eq_true rfl) d_Words_stepWays_60 ?_
        refine lv_topi (fun v_46 ev_46 => ?_)
        have hv_46 := zI_min (l := (-2147483648)) (h := 1000000) (zI_all v_45) zc_1000000 ev_46 (by decide)
        refine va_iast hx hb hK hP hD hS 2 0 rfl rfl (zI.inn hx_40 (by decide)) d_Words_stepWays_63 (fun H locs hP hD hS => ?_)
        obtain ⟨f_47, gf_47, uf_47, hP, hD⟩ := z_newFu 2 hP hD rfl
        have hP : va_P G.1 classes [(b0, .inr (7, [.ref b3, .ref b4, .ref b5, .ref b6, .ref b7, .ref b8, .ref b9, .ref b10])), (b9, .inl (G.2 0, 241, .inl b11)), (b10, .inl (G.2 0, 241, .inl f_47)), (b1, .inr (5, [.int b13, .int b14, .ref b15, .ref b16, .ref b17, .ref b18, .ref b19, .ref b20, .int b21, .ref b22, .ref b23, .ref b24, .ref b25, .ref b26, .ref b27])), (b22, .inl (G.2 0, 240, .inl b28))] H := hP
        have hD := z_tie hP hD rfl
        obtain ⟨v_48, ev_48⟩ : ∃ z : Int32, z = y_26 + 1 := ⟨_, rfl⟩
        obtain ⟨qv_48, hv_48⟩ := zI_add (l := 1) (h := 240) hv_31 zc_1 ev_48 (by decide)
        rw [li_1] at qv_48
        refine lv_iinc (v := v_48) (lv' := [(3, .int v_48), (4, .int x_40), (0, .ref b0), (1, .ref b1), (2, .int b2)]) hx hb d_Words_stepWays_64 hl (k := 1) rfl (by rw [ev_48]; rfl) (by decide) rfl (fun ls hl => ?_)
        refine lv_goto (tgt := 10) hx hb d_Words_stepWays_67 (by decide) ?_
        exact ihk_25 (v_48) (f_47) _ _ _ (zI.wk (l' := 0) (h' := 240) hv_48 (by decide)) (zm_up qv_48 hmk_25 (by decide)) (hP.sub [0, 1, 3, 4, 2] rfl) (hD.sub [0, 1, 3, 4, 2] (by decide) rfl) hS (lv_sub hl [0, 2, 3, 4] rfl)
abbrev m_s1_Words_waysOf : Room := { frames := 2, cells := 0, slots := 0, locals := 47 }
set_option maxHeartbeats 4000000 in
set_option maxRecDepth 100000 in
theorem s1_Words_waysOf (l : Launch) (G : zG) (b0 : Nat) (b1 : Nat) (b2 : Int32) (b3 : Nat) (b4 : Nat) (b5 : Nat) (b6 : Nat) (b7 : Nat) (b8 : Nat) (b9 : Nat) (b10 : Nat) (b11 : Nat) (b12 : Nat → Int32) (b13 : Nat → Int32) (b14 : Int32) (b15 : Int32) (b16 : Int32) (b17 : Nat) (b18 : Nat) (b19 : Nat) (b20 : Nat → Int32) (b21 : Nat → Int32) (b22 : Int32) (b23 : Int32) (b24 : Nat) (b25 : Nat) (b26 : Nat) (b27 : Nat) (b28 : Nat) (b29 : Nat) (b30 : Int32) (b31 : Nat) (b32 : Nat) (b33 : Nat) (b34 : Nat) (b35 : Nat) (b36 : Nat) (b37 : Nat → Int32) (b38 : Nat → Int32) (hb2 : zI b2 0 19) (hb14 : zI b14 0 20) (hb15 : zI b15 0 3) (hb16 : zI b16 0 20) (hb22 : zI b22 0 1) (hb23 : zI b23 0 241) (hb30 : zI b30 0 240) (hb20 : zR b20 0 12) (hb21 : zR b21 0 9) (hb38 : zK b38) : zM l G y_Words_waysOf prog_12_method_6_code 6 (Option.some Jvm.ClassFile.FieldType.int) m_s1_Words_waysOf [.ref b0, .ref b1, .int b2, .ref b3] [(b0, .inr (7, [.ref b4, .ref b5, .ref b6, .ref b7, .ref b8, .ref b9, .ref b10, .ref b11])), (b10, .inl (G.2 0, 241, .inl b12)), (b11, .inl (G.2 0, 241, .inl b13)), (b1, .inr (2, [.int b14, .int b15, .int b16, .ref b17, .ref b18, .ref b19])), (b17, .inl (G.2 0, 20, .inl b20)), (b18, .inl (G.2 0, 240, .inl b21)), (b3, .inr (5, [.int b22, .int b23, .ref b24, .ref b25, .ref b26, .ref b27, .ref b28, .ref b29, .int b30, .ref b31, .ref b32, .ref b33, .ref b34, .ref b35, .ref b36])), (b27, .inl (G.2 0, 241, .inl b37)), (b31, .inl (G.2 0, 240, .inl b38))] (fun v w => ∃ (e0 : Int32), ∃ (e1 : Nat), ∃ (e2 : Nat), ∃ (e3 : Nat → Int32), ∃ (e4 : Nat → Int32), v = some (.int e0) ∧ w = [(b0, .inr (7, [.ref b4, .ref b5, .ref b6, .ref b7, .ref b8, .ref b9, .ref e1, .ref e2])), (e1, .inl (G.2 0, 241, .inl e3)), (e2, .inl (G.2 0, 241, .inl e4)), (b1, .inr (2, [.int b14, .int b15, .int b16, .ref b17, .ref b18, .ref b19])), (b17, .inl (G.2 0, 20, .inl b20)), (b18, .inl (G.2 0, 240, .inl b21)), (b3, .inr (5, [.int b22, .int b23, .ref b24, .ref b25, .ref b26, .ref b27, .ref b28, .ref b29, .int b30, .ref b31, .ref b32, .ref b33, .ref b34, .ref b35, .ref b36])), (b27, .inl (G.2 0, 241, .inl b37)), (b31, .inl (G.2 0, 240, .inl b38))] ∧ (zI e0 (-2147483648) 1000000)) := by
  refine z_start (by decide +kernel) (Nat.le_of_ble_eq_true rfl) ?_
  intro p e s m below meth c A Z hr hnm hA hP hD hS ls hl
  have Z : zC p s m _ meth c prog_12_method_6_code 6 "TraceMachines$Words" G := Z
  obtain ⟨hx, hb, hml, hown, hts, hK, hN, hlocks⟩ := id Z
  have hl : lv_has ls 6 [(0, .ref b0), (1, .ref b1), (2, .int b2), (3, .ref b3)] := hl
  refine lv_aload_n hx hb d_Words_waysOf_0 rfl (lv_at hl 0 rfl) ?_
  refine va_get (D := G.1) (ci := 7) (v := .ref b10) (C := R_Words) (T := F_Words) (N := 8) hx hb hts i_Words hown hK hP 0 rfl rfl 6 (by decide) (hts _ q272) (fun _ h9 => h9) rfl d_Words_waysOf_1 ?_
  refine lv_iconst (v := 0) hx hb d_Words_waysOf_4 (by decide) ?_
  refine z_callS (index := 88) (As := [.ref b10, .int 0]) (rest := []) (wr := [(b0, .inr (7, [.ref b4, .ref b5, .ref b6, .ref b7, .ref b8, .ref b9, .ref b10, .ref b11])), (b11, .inl (G.2 0, 241, .inl b13)), (b1, .inr (2, [.int b14, .int b15, .int b16, .ref b17, .ref b18, .ref b19])), (b17, .inl (G.2 0, 20, .inl b20)), (b18, .inl (G.2 0, 240, .inl b21)), (b3, .inr (5, [.int b22, .int b23, .ref b24, .ref b25, .ref b26, .ref b27, .ref b28, .ref b29, .int b30, .ref b31, .ref b32, .ref b33, .ref b34, .ref b35, .ref b36])), (b27, .inl (G.2 0, 241, .inl b37)), (b31, .inl (G.2 0, 240, .inl b38))]) Z (c_fill_I l G (b10) (241) (b12) (0) (by decide)) hl.1 q804 q415 q13 q416 ⟨by decide, by decide, by show _ = some 2; decide +kernel⟩ ⟨Nat.le_of_ble_eq_true rfl, Nat.le_of_ble_eq_true rfl⟩ ⟨Nat.le_of_ble_eq_true rfl, Nat.le_of_ble_eq_true rfl⟩ rfl (Nat.le_of_ble_eq_true rfl) d_Words_waysOf_5 hP hD hS hA [1] [0, 2, 3, 4, 5, 6, 7, 8] rfl rfl rfl rfl (by decide) (fun v w1 H locs hw_1 hP hD hS => ?_)
  obtain ⟨rfl, rfl⟩ := hw_1
  have hP : va_P G.1 classes [(b0, .inr (7, [.ref b4, .ref b5, .ref b6, .ref b7, .ref b8, .ref b9, .ref b10, .ref b11])), (b11, .inl (G.2 0, 241, .inl b13)), (b1, .inr (2, [.int b14, .int b15, .int b16, .ref b17, .ref b18, .ref b19])), (b17, .inl (G.2 0, 20, .inl b20)), (b18, .inl (G.2 0, 240, .inl b21)), (b3, .inr (5, [.int b22, .int b23, .ref b24, .ref b25, .ref b26, .ref b27, .ref b28, .ref b29, .int b30, .ref b31, .ref b32, .ref b33, .ref b34, .ref b35, .ref b36])), (b27, .inl (G.2 0, 241, .inl b37)), (b31, .inl (G.2 0, 240, .inl b38)), (b10, .inl (G.2 0, 241, .inl (fun _ => 0)))] H := hP
  have hD := z_tie hP hD rfl
  refine W.widen (k := 0) (n := 0) (Nat.le_of_ble_eq_true rfl) (Nat.le_of_ble_eq_true rfl) ?_
  refine lv_aload_n hx hb d_Words_waysOf_8 rfl (lv_at hl 0 rfl) ?_
  refine va_get (D := G.1) (ci := 7) (v := .ref b10) (C := R_Words) (T := F_Words) (N := 8) hx hb hts i_Words hown hK hP 0 rfl rfl 6 (by decide) (hts _ q272) (fun _ h9 => h9) rfl d_Words_waysOf_9 ?_
  refine lv_iconst (v := 0) hx hb d_Words_waysOf_12 (by decide) ?_
  refine lv_iconst (v := 1) hx hb d_Words_waysOf_13 (by decide) ?_
  refine va_iast hx hb hK hP hD hS 8 0 rfl rfl (i := 0) (z_in rfl) d_Words_waysOf_14 (fun H locs hP hD hS => ?_)
  obtain ⟨f_2, gf_2, uf_2, hP, hD⟩ := z_newFu 8 hP hD rfl
  have hP : va_P G.1 classes [(b0, .inr (7, [.ref b4, .ref b5, .ref b6, .ref b7, .ref b8, .ref b9, .ref b10, .ref b11])), (b11, .inl (G.2 0, 241, .inl b13)), (b1, .inr (2, [.int b14, .int b15, .int b16, .ref b17, .ref b18, .ref b19])), (b17, .inl (G.2 0, 20, .inl b20)), (b18, .inl (G.2 0, 240, .inl b21)), (b3, .inr (5, [.int b22, .int b23, .ref b24, .ref b25, .ref b26, .ref b27, .ref b28, .ref b29, .int b30, .ref b31, .ref b32, .ref b33, .ref b34, .ref b35, .ref b36])), (b27, .inl (G.2 0, 241, .inl b37)), (b31, .inl (G.2 0, 240, .inl b38)), (b10, .inl (G.2 0, 241, .inl f_2))] H := hP
  have hD := z_tie hP hD rfl
  refine lv_iconst (v := 0) hx hb d_Words_waysOf_15 (by decide) ?_
  refine lv_istore (lv' := [(4, .int 0), (0, .ref b0), (1, .ref b1), (2, .int b2), (3, .ref b3)]) hx hb d_Words_waysOf_16 hl (by decide) rfl (fun ls hl => ?_)
  refine lv_iload hx hb d_Words_waysOf_18 (lv_at hl 0 rfl) ?_
  refine lv_aload_n hx hb d_Words_waysOf_20 rfl (lv_at hl 2 rfl) ?_
  refine va_get (D := G.1) (ci := 2) (v := .ref b17) (C := R_Traces) (T := F_Traces) (N := 6) hx hb hts i_Traces hown hK hP 2 rfl rfl 3 (by decide) (hts _ q69) (fun _ h9 => h9) rfl d_Words_waysOf_21 ?_
  refine lv_iload_n hx hb d_Words_waysOf_24 rfl (lv_at hl 3 rfl) ?_
  refine va_iald hx hb hK hP 3 0 rfl rfl (zI.inn hb2 (by decide)) d_Words_waysOf_25 ?_
  refine lv_topi (fun v_3 ev_3 => ?_)
  have hv_3 : zI v_3 0 12 := (hb20 _).eq ev_3
  refine lv_icmp_ge (tgt := 47) hx hb d_Words_waysOf_26 (by decide) (fun hc_4 => ?_) (fun hc_4 => ?_)
  · have _nhc_4 := hc_4
    have ni_5 := (fa_le _ _).mp hc_4
    rw [li_0] at ni_5
    have hv_6 : zI v_3 0 0 := zI.le_l hv_3 zc_0 hc_4 (by decide)
    refine lv_iconst (v := 0) hx hb d_Words_waysOf_47 (by decide) ?_
    refine lv_istore (lv' := [(4, .int 0), (0, .ref b0), (1, .ref b1), (2, .int b2), (3, .ref b3)]) hx hb d_Words_waysOf_48 hl (by decide) rfl (fun ls hl => ?_)
    refine lv_iconst (v := 0) hx hb d_Words_waysOf_50 (by decide) ?_
    refine lv_istore (lv' := [(5, .int 0), (4, .int 0), (0, .ref b0), (1, .ref b1), (2, .int b2), (3, .ref b3)]) hx hb d_Words_waysOf_51 hl (by decide) rfl (fun ls hl => ?_)
    suffices key : ∀ (k_25 : Nat) (y_26 : Int32) (y_27 : Int32) (H : Heap) (locs : List Loc) (ls : Array Slot), (zI y_26 0 241) → (zI y_27 (-2147483648) 1000000) → (241 : Int) - y_26.toInt < (k_25 : Int) → va_P G.1 classes [(b0, .inr (7, [.ref b4, .ref b5, .ref b6, .ref b7, .ref b8, .ref b9, .ref b10, .ref b11])), (b11, .inl (G.2 0, 241, .inl b13)), (b1, .inr (2, [.int b14, .int b15, .int b16, .ref b17, .ref b18, .ref b19])), (b17, .inl (G.2 0, 20, .inl b20)), (b18, .inl (G.2 0, 240, .inl b21)), (b3, .inr (5, [.int b22, .int b23, .ref b24, .ref b25, .ref b26, .ref b27, .ref b28, .ref b29, .int b30, .ref b31, .ref b32, .ref b33, .ref b34, .ref b35, .ref b36])), (b27, .inl (G.2 0, 241, .inl b37)), (b31, .inl (G.2 0, 240, .inl b38)), (b10, .inl (G.2 0, 241, .inl f_2))] H → va_D A [(b0, .inr (7, [.ref b4, .ref b5, .ref b6, .ref b7, .ref b8, .ref b9, .ref b10, .ref b11])), (b11, .inl (G.2 0, 241, .inl b13)), (b1, .inr (2, [.int b14, .int b15, .int b16, .ref b17, .ref b18, .ref b19])), (b17, .inl (G.2 0, 20, .inl b20)), (b18, .inl (G.2 0, 240, .inl b21)), (b3, .inr (5, [.int b22, .int b23, .ref b24, .ref b25, .ref b26, .ref b27, .ref b28, .ref b29, .int b30, .ref b31, .ref b32, .ref b33, .ref b34, .ref b35, .ref b36])), (b27, .inl (G.2 0, 241, .inl b37)), (b31, .inl (G.2 0, 240, .inl b38)), (b10, .inl (G.2 0, 241, .inl f_2))] → va_S A s.heap H locs → lv_has ls 6 [(5, .int y_26), (4, .int y_27), (0, .ref b0), (1, .ref b1), (2, .int b2), (3, .ref b3)] → W p l e m_s1_Words_waysOf s m ([.ref b0, .ref b1, .int b2, .ref b3] : List Value).toArray below meth c H locs 0 0 (MQ below (zQ G (fun v w => ∃ (e0 : Int32), ∃ (e1 : Nat), ∃ (e2 : Nat), ∃ (e3 : Nat → Int32), ∃ (e4 : Nat → Int32), v = some (.int e0) ∧ w = [(b0, .inr (7, [.ref b4, .ref b5, .ref b6, .ref b7, .ref b8, .ref b9, .ref e1, .ref e2])), (e1, .inl (G.2 0, 241, .inl e3)), (e2, .inl (G.2 0, 241, .inl e4)), (b1, .inr (2, [.int b14, .int b15, .int b16, .ref b17, .ref b18, .ref b19])), (b17, .inl (G.2 0, 20, .inl b20)), (b18, .inl (G.2 0, 240, .inl b21)), (b3, .inr (5, [.int b22, .int b23, .ref b24, .ref b25, .ref b26, .ref b27, .ref b28, .ref b29, .int b30, .ref b31, .ref b32, .ref b33, .ref b34, .ref b35, .ref b36])), (b27, .inl (G.2 0, 241, .inl b37)), (b31, .inl (G.2 0, 240, .inl b38))] ∧ (zI e0 (-2147483648) 1000000)) A) ([.ref b0, .ref b1, .int b2, .ref b3] : List Value).toArray s m_s1_Words_waysOf.cells m_s1_Words_waysOf.slots A) (F0 m 53 ls []) by
      exact key 242 (0) (0) _ _ _ (zI.wk (l' := 0) (h' := 241) zc_0 (by decide)) (zI.wk (l' := (-2147483648)) (h' := 1000000) zc_0 (by decide)) (zm_upi (zI.wk (l' := 0) (h' := 241) zc_0 (by decide)) (by decide)) hP hD hS (lv_sub hl [0, 1, 2, 3, 4, 5] rfl)
    intro k_25
    induction k_25 with
    | zero =>
      intro y_26 y_27 H locs ls hy_26 hy_27 hmk_25 hP hD hS hl
      exact (zm_up0 hy_26 hmk_25).elim
    | succ k_25 ihk_25 =>
      intro y_26 y_27 H locs ls hy_26 hy_27 hmk_25 hP hD hS hl
      refine lv_iload hx hb d_Words_waysOf_53 (lv_at hl 0 rfl) ?_
      refine lv_aload_n hx hb d_Words_waysOf_55 rfl (lv_at hl 5 rfl) ?_
      refine va_get (D := G.1) (ci := 5) (v := .int b23) (C := R_Machine) (T := F_Machine) (N := 15) hx hb hts i_Machine hown hK hP 5 rfl rfl 1 (by decide) (hts _ q166) (fun _ h9 => h9) rfl d_Words_waysOf_56 ?_
      refine lv_icmp_ge (tgt := 95) hx hb d_Words_waysOf_59 (by decide) (fun hc_28 => ?_) (fun hc_28 => ?_)
      · have _nhc_28 := hc_28
        have ni_29 := (fa_le _ _).mp hc_28
        refine lv_iload hx hb d_Words_waysOf_95 (lv_at hl 1 rfl) ?_
        exact z_iret hx hb hr hlocks (hP.sub [0, 8, 1, 2, 3, 4, 5, 6, 7] rfl) (hD.sub [0, 8, 1, 2, 3, 4, 5, 6, 7] (by decide) rfl) hS (Nat.le_of_ble_eq_true rfl) (Nat.le_of_ble_eq_true rfl) d_Words_waysOf_97 ⟨y_27, b10, b11, f_2, b13, rfl, rfl, hy_27⟩
      · have _nhc_28 := hc_28
        have ni_30 := (fa_lt _ _).mp (zi_nle hc_28)
        have hv_31 : zI y_26 0 240 := zI.lt_l hy_26 hb23 (zi_nle hc_28) (by decide)
        have hv_32 : zI b23 1 241 := zI.lt_r hy_26 hb23 (zi_nle hc_28) (by decide)
        refine lv_aload_n hx hb d_Words_waysOf_62 rfl (lv_at hl 5 rfl) ?_
        refine va_get (D := G.1) (ci := 5) (v := .ref b27) (C := R_Machine) (T := F_Machine) (N := 15) hx hb hts i_Machine hown hK hP 5 rfl rfl 5 (by decide) (hts _ q177) (fun _ h9 => h9) rfl d_Words_waysOf_63 ?_
        refine lv_iload hx hb d_Words_waysOf_66 (lv_at hl 0 rfl) ?_
        refine va_iald hx hb hK hP 6 0 rfl rfl (zI.inn hv_31 (by decide)) d_Words_waysOf_68 ?_
        refine lv_topi (fun v_33 ev_33 => ?_)
        refine lv_if_le (tgt := 89) hx hb d_Words_waysOf_69 (by decide) (fun hc_34 => ?_) (fun hc_34 => ?_)
        · have _nhc_34 := hc_34
          have ni_35 := (fa_le _ _).mp hc_34
          rw [li_0] at ni_35
          have hv_36 : zI v_33 (-2147483648) 0 := zI.le_l (zI_all v_33) zc_0 hc_34 (by decide)
          obtain ⟨v_37, ev_37⟩ : ∃ z : Int32, z = y_26 + 1 := ⟨_, rfl⟩
          obtain ⟨qv_37, hv_37⟩ := zI_add (l := 1) (h := 241) hv_31 zc_1 ev_37 (by decide)
          rw [li_1] at qv_37
          refine lv_iinc (v := v_37) (lv' := [(5, .int v_37), (4, .int y_27), (0, .ref b0), (1, .ref b1), (2, .int b2), (3, .ref b3)]) hx hb d_Words_waysOf_89 hl (k := 0) rfl (by rw [ev_37]; rfl) (by decide) rfl (fun ls hl => ?_)
          refine lv_goto (tgt := 53) hx hb d_Words_waysOf_92 (by decide) ?_
          exact ihk_25 (v_37) (y_27) _ _ _ (zI.wk (l' := 0) (h' := 241) hv_37 (by decide)) hy_27 (zm_up qv_37 hmk_25 (by decide)) hP hD hS (lv_sub hl [0, 1, 2, 3, 4, 5] rfl)
        · have _nhc_34 := hc_34
          have ni_38 := (fa_lt _ _).mp (zi_nle hc_34)
          rw [li_0] at ni_38
          have hv_39 : zI v_33 1 2147483647 := zI.lt_r zc_0 (zI_all v_33) (zi_nle hc_34) (by decide)
          refine lv_iload hx hb d_Words_waysOf_72 (lv_at hl 1 rfl) ?_
          refine lv_aload_n hx hb d_Words_waysOf_74 rfl (lv_at hl 2 rfl) ?_
          refine va_get (D := G.1) (ci := 7) (v := .ref b10) (C := R_Words) (T := F_Words) (N := 8) hx hb hts i_Words hown hK hP 0 rfl rfl 6 (by decide) (hts _ q272) (fun _ h9 => h9) rfl d_Words_waysOf_75 ?_
          refine lv_iload hx hb d_Words_waysOf_78 (lv_at hl 0 rfl) ?_
          refine va_iald hx hb hK hP 8 0 rfl rfl (zI.inn hv_31 (by decide)) d_Words_waysOf_80 ?_
          refine lv_topi (fun v_40 ev_40 => ?_)
          refine lv_iadd hx hb d_Words_waysOf_81 ?_
          refine lv_topi (fun v_41 ev_41 => ?_)
          refine lv_ldc hx hb hown (hts _ q813) d_Words_waysOf_82 ?_
          refine va_mmin hx hb (hml.trans hl.1.symm) hown (hts _ q814) (hts _ q592) (hts _ q20) (hts _ q593) (Nat.le_of_ble_eq_true rfl) (Nat.le_of_ble_eq_true rfl) (Nat.le_of_ble_eq_true rfl) (Nat.le_of_ble_eq_true rfl) d_Words_waysOf_84 ?_
          refine lv_topi (fun v_42 ev_42 => ?_)
          have hv_42 := zI_min (l := (-2147483648)) (h := 1000000) (zI_all v_41) zc_1000000 ev_42 (by decide)
          refine lv_istore (lv' := [(4, .int v_42), (5, .int y_26), (0, .ref b0), (1, .ref b1), (2, .int b2), (3, .ref b3)]) hx hb d_Words_waysOf_87 hl (by decide) rfl (fun ls hl => ?_)
          obtain ⟨v_43, ev_43⟩ : ∃ z : Int32, z = y_26 + 1 := ⟨_, rfl⟩
          obtain ⟨qv_43, hv_43⟩ := zI_add (l := 1) (h := 241) hv_31 zc_1 ev_43 (by decide)
          rw [li_1] at qv_43
          refine lv_iinc (v := v_43) (lv' := [(5, .int v_43), (4, .int v_42), (0, .ref b0), (1, .ref b1), (2, .int b2), (3, .ref b3)]) hx hb d_Words_waysOf_89 hl (k := 1) rfl (by rw [ev_43]; rfl) (by decide) rfl (fun ls hl => ?_)
          refine lv_goto (tgt := 53) hx hb d_Words_waysOf_92 (by decide) ?_
          exact ihk_25 (v_43) (v_42) _ _ _ (zI.wk (l' := 0) (h' := 241) hv_43 (by decide)) hv_42 (zm_up qv_43 hmk_25 (by decide)) hP hD hS (lv_sub hl [0, 1, 2, 3, 4, 5] rfl)
  · have _nhc_4 := hc_4
    have ni_44 := (fa_lt _ _).mp (zi_nle hc_4)
    rw [li_0] at ni_44
    have hv_45 : zI v_3 1 12 := zI.lt_r zc_0 hv_3 (zi_nle hc_4) (by decide)
    refine lv_aload_n hx hb d_Words_waysOf_29 rfl (lv_at hl 1 rfl) ?_
    refine lv_aload_n hx hb d_Words_waysOf_30 rfl (lv_at hl 4 rfl) ?_
    refine lv_aload_n hx hb d_Words_waysOf_31 rfl (lv_at hl 2 rfl) ?_
    refine lv_iload_n hx hb d_Words_waysOf_32 rfl (lv_at hl 3 rfl) ?_
    refine lv_iload hx hb d_Words_waysOf_33 (lv_at hl 0 rfl) ?_
    refine z_callV (index := 99) (As := [.int b2, .int 0]) (rest := [.ref b3, .ref b0]) (wr := [(b0, .inr (7, [.ref b4, .ref b5, .ref b6, .ref b7, .ref b8, .ref b9, .ref b10, .ref b11])), (b11, .inl (G.2 0, 241, .inl b13)), (b17, .inl (G.2 0, 20, .inl b20)), (b3, .inr (5, [.int b22, .int b23, .ref b24, .ref b25, .ref b26, .ref b27, .ref b28, .ref b29, .int b30, .ref b31, .ref b32, .ref b33, .ref b34, .ref b35, .ref b36])), (b27, .inl (G.2 0, 241, .inl b37)), (b31, .inl (G.2 0, 240, .inl b38)), (b10, .inl (G.2 0, 241, .inl f_2))]) Z (s1_Traces_letterAt l G (b1) (b2) (0) (b14) (b15) (b16) (b17) (b18) (b19) (b21) hb2 (zI.wk (l' := 0) (h' := 11) zc_0 (by decide)) hb14 hb15 hb16 hb21) hl.1 q805 q580 q581 q3 q582 ⟨by decide, by decide, by show _ = some 2; decide +kernel⟩ ⟨Nat.le_of_ble_eq_true rfl, Nat.le_of_ble_eq_true rfl⟩ ⟨Nat.le_of_ble_eq_true rfl, Nat.le_of_ble_eq_true rfl⟩ rfl (Nat.le_of_ble_eq_true rfl) d_Words_waysOf_35 hP hD hS hA 2 2 rfl rfl rfl [2, 4] [0, 1, 3, 5, 6, 7, 8] rfl rfl rfl rfl (by decide) (fun v w1 H locs hw_46 hP hD hS => ?_)
    obtain ⟨x_47, rfl, rfl, hx_47⟩ := hw_46
    have hP : va_P G.1 classes [(b0, .inr (7, [.ref b4, .ref b5, .ref b6, .ref b7, .ref b8, .ref b9, .ref b10, .ref b11])), (b11, .inl (G.2 0, 241, .inl b13)), (b17, .inl (G.2 0, 20, .inl b20)), (b3, .inr (5, [.int b22, .int b23, .ref b24, .ref b25, .ref b26, .ref b27, .ref b28, .ref b29, .int b30, .ref b31, .ref b32, .ref b33, .ref b34, .ref b35, .ref b36])), (b27, .inl (G.2 0, 241, .inl b37)), (b31, .inl (G.2 0, 240, .inl b38)), (b10, .inl (G.2 0, 241, .inl f_2)), (b1, .inr (2, [.int b14, .int b15, .int b16, .ref b17, .ref b18, .ref b19])), (b18, .inl (G.2 0, 240, .inl b21))] H := hP
    have hD := z_tie hP hD rfl
    refine W.widen (k := 0) (n := 0) (Nat.le_of_ble_eq_true rfl) (Nat.le_of_ble_eq_true rfl) ?_
    refine z_callV (index := 103) (As := [.ref b3, .int x_47]) (rest := []) (wr := [(b17, .inl (G.2 0, 20, .inl b20)), (b27, .inl (G.2 0, 241, .inl b37)), (b1, .inr (2, [.int b14, .int b15, .int b16, .ref b17, .ref b18, .ref b19])), (b18, .inl (G.2 0, 240, .inl b21))]) Z (s2_Words_stepWays l G (b0) (b3) (x_47) (b4) (b5) (b6) (b7) (b8) (b9) (b10) (b11) (f_2) (b13) (b22) (b23) (b24) (b25) (b26) (b27) (b28) (b29) (b30) (b31) (b32) (b33) (b34) (b35) (b36) (b38) hx_47 hb22 hb23 hb30 hb38) hl.1 q806 q808 qs22 q8 q809 ⟨by decide, by decide, by show _ = some 2; decide +kernel⟩ ⟨Nat.le_of_ble_eq_true rfl, Nat.le_of_ble_eq_true rfl⟩ ⟨Nat.le_of_ble_eq_true rfl, Nat.le_of_ble_eq_true rfl⟩ rfl (Nat.le_of_ble_eq_true rfl) d_Words_waysOf_38 hP hD hS hA 0 7 rfl rfl rfl [0, 6, 1, 3, 5] [2, 4, 7, 8] rfl rfl rfl rfl (by decide) (fun v w1 H locs hw_48 hP hD hS => ?_)
    obtain ⟨x_49, x_50, f_51, f_52, rfl, rfl⟩ := hw_48
    have hP : va_P G.1 classes [(b17, .inl (G.2 0, 20, .inl b20)), (b27, .inl (G.2 0, 241, .inl b37)), (b1, .inr (2, [.int b14, .int b15, .int b16, .ref b17, .ref b18, .ref b19])), (b18, .inl (G.2 0, 240, .inl b21)), (b0, .inr (7, [.ref b4, .ref b5, .ref b6, .ref b7, .ref b8, .ref b9, .ref x_49, .ref x_50])), (x_49, .inl (G.2 0, 241, .inl f_51)), (x_50, .inl (G.2 0, 241, .inl f_52)), (b3, .inr (5, [.int b22, .int b23, .ref b24, .ref b25, .ref b26, .ref b27, .ref b28, .ref b29, .int b30, .ref b31, .ref b32, .ref b33, .ref b34, .ref b35, .ref b36])), (b31, .inl (G.2 0, 240, .inl b38))] H := hP
    have hD := z_tie hP hD rfl
    refine W.widen (k := 0) (n := 0) (Nat.le_of_ble_eq_true rfl) (Nat.le_of_ble_eq_true rfl) ?_
    refine lv_iinc (v := 1) (lv' := [(4, .int 1), (0, .ref b0), (1, .ref b1), (2, .int b2), (3, .ref b3)]) hx hb d_Words_waysOf_41 hl (k := 0) rfl (by decide +kernel) (by decide) rfl (fun ls hl => ?_)
    refine lv_goto (tgt := 18) hx hb d_Words_waysOf_44 (by decide) ?_
    refine lv_iload hx hb d_Words_waysOf_18 (lv_at hl 0 rfl) ?_
    refine lv_aload_n hx hb d_Words_waysOf_20 rfl (lv_at hl 2 rfl) ?_
    refine va_get (D := G.1) (ci := 2) (v := .ref b17) (C := R_Traces) (T := F_Traces) (N := 6) hx hb hts i_Traces hown hK hP 2 rfl rfl 3 (by decide) (hts _ q69) (fun _ h9 => h9) rfl d_Words_waysOf_21 ?_
    refine lv_iload_n hx hb d_Words_waysOf_24 rfl (lv_at hl 3 rfl) ?_
    refine va_iald hx hb hK hP 0 0 rfl rfl (zI.inn hb2 (by decide)) d_Words_waysOf_25 ?_
    refine lv_topi (fun v_53 ev_53 => ?_)
    obtain rfl : v_3 = v_53 := ev_3.trans ev_53.symm
    refine lv_icmp_ge (tgt := 47) hx hb d_Words_waysOf_26 (by decide) (fun hc_54 => ?_) (fun hc_54 => ?_)
    · have _nhc_54 := hc_54
      have ni_55 := (fa_le _ _).mp hc_54
      rw [li_1] at ni_55
      have hv_56 : zI v_3 1 1 := zI.le_l hv_45 zc_1 hc_54 (by decide)
      refine lv_iconst (v := 0) hx hb d_Words_waysOf_47 (by decide) ?_
      refine lv_istore (lv' := [(4, .int 0), (0, .ref b0), (1, .ref b1), (2, .int b2), (3, .ref b3)]) hx hb d_Words_waysOf_48 hl (by decide) rfl (fun ls hl => ?_)
      refine lv_iconst (v := 0) hx hb d_Words_waysOf_50 (by decide) ?_
      refine lv_istore (lv' := [(5, .int 0), (4, .int 0), (0, .ref b0), (1, .ref b1), (2, .int b2), (3, .ref b3)]) hx hb d_Words_waysOf_51 hl (by decide) rfl (fun ls hl => ?_)
      suffices key : ∀ (k_75 : Nat) (y_76 : Int32) (y_77 : Int32) (H : Heap) (locs : List Loc) (ls : Array Slot), (zI y_76 0 241) → (zI y_77 (-2147483648) 1000000) → (241 : Int) - y_76.toInt < (k_75 : Int) → va_P G.1 classes [(b17, .inl (G.2 0, 20, .inl b20)), (b27, .inl (G.2 0, 241, .inl b37)), (b1, .inr (2, [.int b14, .int b15, .int b16, .ref b17, .ref b18, .ref b19])), (b18, .inl (G.2 0, 240, .inl b21)), (b0, .inr (7, [.ref b4, .ref b5, .ref b6, .ref b7, .ref b8, .ref b9, .ref x_49, .ref x_50])), (x_49, .inl (G.2 0, 241, .inl f_51)), (x_50, .inl (G.2 0, 241, .inl f_52)), (b3, .inr (5, [.int b22, .int b23, .ref b24, .ref b25, .ref b26, .ref b27, .ref b28, .ref b29, .int b30, .ref b31, .ref b32, .ref b33, .ref b34, .ref b35, .ref b36])), (b31, .inl (G.2 0, 240, .inl b38))] H → va_D A [(b17, .inl (G.2 0, 20, .inl b20)), (b27, .inl (G.2 0, 241, .inl b37)), (b1, .inr (2, [.int b14, .int b15, .int b16, .ref b17, .ref b18, .ref b19])), (b18, .inl (G.2 0, 240, .inl b21)), (b0, .inr (7, [.ref b4, .ref b5, .ref b6, .ref b7, .ref b8, .ref b9, .ref x_49, .ref x_50])), (x_49, .inl (G.2 0, 241, .inl f_51)), (x_50, .inl (G.2 0, 241, .inl f_52)), (b3, .inr (5, [.int b22, .int b23, .ref b24, .ref b25, .ref b26, .ref b27, .ref b28, .ref b29, .int b30, .ref b31, .ref b32, .ref b33, .ref b34, .ref b35, .ref b36])), (b31, .inl (G.2 0, 240, .inl b38))] → va_S A s.heap H locs → lv_has ls 6 [(5, .int y_76), (4, .int y_77), (0, .ref b0), (1, .ref b1), (2, .int b2), (3, .ref b3)] → W p l e m_s1_Words_waysOf s m ([.ref b0, .ref b1, .int b2, .ref b3] : List Value).toArray below meth c H locs 0 0 (MQ below (zQ G (fun v w => ∃ (e0 : Int32), ∃ (e1 : Nat), ∃ (e2 : Nat), ∃ (e3 : Nat → Int32), ∃ (e4 : Nat → Int32), v = some (.int e0) ∧ w = [(b0, .inr (7, [.ref b4, .ref b5, .ref b6, .ref b7, .ref b8, .ref b9, .ref e1, .ref e2])), (e1, .inl (G.2 0, 241, .inl e3)), (e2, .inl (G.2 0, 241, .inl e4)), (b1, .inr (2, [.int b14, .int b15, .int b16, .ref b17, .ref b18, .ref b19])), (b17, .inl (G.2 0, 20, .inl b20)), (b18, .inl (G.2 0, 240, .inl b21)), (b3, .inr (5, [.int b22, .int b23, .ref b24, .ref b25, .ref b26, .ref b27, .ref b28, .ref b29, .int b30, .ref b31, .ref b32, .ref b33, .ref b34, .ref b35, .ref b36])), (b27, .inl (G.2 0, 241, .inl b37)), (b31, .inl (G.2 0, 240, .inl b38))] ∧ (zI e0 (-2147483648) 1000000)) A) ([.ref b0, .ref b1, .int b2, .ref b3] : List Value).toArray s m_s1_Words_waysOf.cells m_s1_Words_waysOf.slots A) (F0 m 53 ls []) by
        exact key 242 (0) (0) _ _ _ (zI.wk (l' := 0) (h' := 241) zc_0 (by decide)) (zI.wk (l' := (-2147483648)) (h' := 1000000) zc_0 (by decide)) (zm_upi (zI.wk (l' := 0) (h' := 241) zc_0 (by decide)) (by decide)) hP hD hS (lv_sub hl [0, 1, 2, 3, 4, 5] rfl)
      intro k_75
      induction k_75 with
      | zero =>
        intro y_76 y_77 H locs ls hy_76 hy_77 hmk_75 hP hD hS hl
        exact (zm_up0 hy_76 hmk_75).elim
      | succ k_75 ihk_75 =>
        intro y_76 y_77 H locs ls hy_76 hy_77 hmk_75 hP hD hS hl
        refine lv_iload hx hb d_Words_waysOf_53 (lv_at hl 0 rfl) ?_
        refine lv_aload_n hx hb d_Words_waysOf_55 rfl (lv_at hl 5 rfl) ?_
        refine va_get (D := G.1) (ci := 5) (v := .int b23) (C := R_Machine) (T := F_Machine) (N := 15) hx hb hts i_Machine hown hK hP 7 rfl rfl 1 (by decide) (hts _ q166) (fun _ h9 => h9) rfl d_Words_waysOf_56 ?_
        refine lv_icmp_ge (tgt := 95) hx hb d_Words_waysOf_59 (by decide) (fun hc_78 => ?_) (fun hc_78 => ?_)
        · have _nhc_78 := hc_78
          have ni_79 := (fa_le _ _).mp hc_78
          refine lv_iload hx hb d_Words_waysOf_95 (lv_at hl 1 rfl) ?_
          exact z_iret hx hb hr hlocks (hP.sub [4, 5, 6, 2, 0, 3, 7, 1, 8] rfl) (hD.sub [4, 5, 6, 2, 0, 3, 7, 1, 8] (by decide) rfl) hS (Nat.le_of_ble_eq_true rfl) (Nat.le_of_ble_eq_true rfl) d_Words_waysOf_97 ⟨y_77, x_49, x_50, f_51, f_52, rfl, rfl, hy_77⟩
        · have _nhc_78 := hc_78
          have ni_80 := (fa_lt _ _).mp (zi_nle hc_78)
          have hv_81 : zI y_76 0 240 := zI.lt_l hy_76 hb23 (zi_nle hc_78) (by decide)
          have hv_82 : zI b23 1 241 := zI.lt_r hy_76 hb23 (zi_nle hc_78) (by decide)
          refine lv_aload_n hx hb d_Words_waysOf_62 rfl (lv_at hl 5 rfl) ?_
          refine va_get (D := G.1) (ci := 5) (v := .ref b27) (C := R_Machine) (T := F_Machine) (N := 15) hx hb hts i_Machine hown hK hP 7 rfl rfl 5 (by decide) (hts _ q177) (fun _ h9 => h9) rfl d_Words_waysOf_63 ?_
          refine lv_iload hx hb d_Words_waysOf_66 (lv_at hl 0 rfl) ?_
          refine va_iald hx hb hK hP 1 0 rfl rfl (zI.inn hv_81 (by decide)) d_Words_waysOf_68 ?_
          refine lv_topi (fun v_83 ev_83 => ?_)
          refine lv_if_le (tgt := 89) hx hb d_Words_waysOf_69 (by decide) (fun hc_84 => ?_) (fun hc_84 => ?_)
          · have _nhc_84 := hc_84
            have ni_85 := (fa_le _ _).mp hc_84
            rw [li_0] at ni_85
            have hv_86 : zI v_83 (-2147483648) 0 := zI.le_l (zI_all v_83) zc_0 hc_84 (by decide)
            obtain ⟨v_87, ev_87⟩ : ∃ z : Int32, z = y_76 + 1 := ⟨_, rfl⟩
            obtain ⟨qv_87, hv_87⟩ := zI_add (l := 1) (h := 241) hv_81 zc_1 ev_87 (by decide)
            rw [li_1] at qv_87
            refine lv_iinc (v := v_87) (lv' := [(5, .int v_87), (4, .int y_77), (0, .ref b0), (1, .ref b1), (2, .int b2), (3, .ref b3)]) hx hb d_Words_waysOf_89 hl (k := 0) rfl (by rw [ev_87]; rfl) (by decide) rfl (fun ls hl => ?_)
            refine lv_goto (tgt := 53) hx hb d_Words_waysOf_92 (by decide) ?_
            exact ihk_75 (v_87) (y_77) _ _ _ (zI.wk (l' := 0) (h' := 241) hv_87 (by decide)) hy_77 (zm_up qv_87 hmk_75 (by decide)) hP hD hS (lv_sub hl [0, 1, 2, 3, 4, 5] rfl)
          · have _nhc_84 := hc_84
            have ni_88 := (fa_lt _ _).mp (zi_nle hc_84)
            rw [li_0] at ni_88
            have hv_89 : zI v_83 1 2147483647 := zI.lt_r zc_0 (zI_all v_83) (zi_nle hc_84) (by decide)
            refine lv_iload hx hb d_Words_waysOf_72 (lv_at hl 1 rfl) ?_
            refine lv_aload_n hx hb d_Words_waysOf_74 rfl (lv_at hl 2 rfl) ?_
            refine va_get (D := G.1) (ci := 7) (v := .ref x_49) (C := R_Words) (T := F_Words) (N := 8) hx hb hts i_Words hown hK hP 4 rfl rfl 6 (by decide) (hts _ q272) (fun _ h9 => h9) rfl d_Words_waysOf_75 ?_
            refine lv_iload hx hb d_Words_waysOf_78 (lv_at hl 0 rfl) ?_
            refine va_iald hx hb hK hP 5 0 rfl rfl (zI.inn hv_81 (by decide)) d_Words_waysOf_80 ?_
            refine lv_topi (fun v_90 ev_90 => ?_)
            refine lv_iadd hx hb d_Words_waysOf_81 ?_
            refine lv_topi (fun v_91 ev_91 => ?_)
            refine lv_ldc hx hb hown (hts _ q813) d_Words_waysOf_82 ?_
            refine va_mmin hx hb (hml.trans hl.1.symm) hown (hts _ q814) (hts _ q592) (hts _ q20) (hts _ q593) (Nat.le_of_ble_eq_true rfl) (Nat.le_of_ble_eq_true rfl) (Nat.le_of_ble_eq_true rfl) (Nat.le_of_ble_eq_true rfl) d_Words_waysOf_84 ?_
            refine lv_topi (fun v_92 ev_92 => ?_)
            have hv_92 := zI_min (l := (-2147483648)) (h := 1000000) (zI_all v_91) zc_1000000 ev_92 (by decide)
            refine lv_istore (lv' := [(4, .int v_92), (5, .int y_76), (0, .ref b0), (1, .ref b1), (2, .int b2), (3, .ref b3)]) hx hb d_Words_waysOf_87 hl (by decide) rfl (fun ls hl => ?_)
            obtain ⟨v_93, ev_93⟩ : ∃ z : Int32, z = y_76 + 1 := ⟨_, rfl⟩
            obtain ⟨qv_93, hv_93⟩ := zI_add (l := 1) (h := 241) hv_81 zc_1 ev_93 (by decide)
            rw [li_1] at qv_93
            refine lv_iinc (v := v_93) (lv' := [(5, .int v_93), (4, .int v_92), (0, .ref b0), (1, .ref b1), (2, .int b2), (3, .ref b3)]) hx hb d_Words_waysOf_89 hl (k := 1) rfl (by rw [ev_93]; rfl) (by decide) rfl (fun ls hl => ?_)
            refine lv_goto (tgt := 53) hx hb d_Words_waysOf_92 (by decide) ?_
            exact ihk_75 (v_93) (v_92) _ _ _ (zI.wk (l' := 0) (h' := 241) hv_93 (by decide)) hv_92 (zm_up qv_93 hmk_75 (by decide)) hP hD hS (lv_sub hl [0, 1, 2, 3, 4, 5] rfl)
    · have _nhc_54 := hc_54
      have ni_94 := (fa_lt _ _).mp (zi_nle hc_54)
      rw [li_1] at ni_94
      have hv_95 : zI v_3 2 12 := zI.lt_r zc_1 hv_45 (zi_nle hc_54) (by decide)
      refine lv_aload_n hx hb d_Words_waysOf_29 rfl (lv_at hl 1 rfl) ?_
      refine lv_aload_n hx hb d_Words_waysOf_30 rfl (lv_at hl 4 rfl) ?_
      refine lv_aload_n hx hb d_Words_waysOf_31 rfl (lv_at hl 2 rfl) ?_
      refine lv_iload_n hx hb d_Words_waysOf_32 rfl (lv_at hl 3 rfl) ?_
      refine lv_iload hx hb d_Words_waysOf_33 (lv_at hl 0 rfl) ?_
      refine z_callV (index := 99) (As := [.int b2, .int 1]) (rest := [.ref b3, .ref b0]) (wr := [(b17, .inl (G.2 0, 20, .inl b20)), (b27, .inl (G.2 0, 241, .inl b37)), (b0, .inr (7, [.ref b4, .ref b5, .ref b6, .ref b7, .ref b8, .ref b9, .ref x_49, .ref x_50])), (x_49, .inl (G.2 0, 241, .inl f_51)), (x_50, .inl (G.2 0, 241, .inl f_52)), (b3, .inr (5, [.int b22, .int b23, .ref b24, .ref b25, .ref b26, .ref b27, .ref b28, .ref b29, .int b30, .ref b31, .ref b32, .ref b33, .ref b34, .ref b35, .ref b36])), (b31, .inl (G.2 0, 240, .inl b38))]) Z (s1_Traces_letterAt l G (b1) (b2) (1) (b14) (b15) (b16) (b17) (b18) (b19) (b21) hb2 (zI.wk (l' := 0) (h' := 11) zc_1 (by decide)) hb14 hb15 hb16 hb21) hl.1 q805 q580 q581 q3 q582 ⟨by decide, by decide, by show _ = some 2; decide +kernel⟩ ⟨Nat.le_of_ble_eq_true rfl, Nat.le_of_ble_eq_true rfl⟩ ⟨Nat.le_of_ble_eq_true rfl, Nat.le_of_ble_eq_true rfl⟩ rfl (Nat.le_of_ble_eq_true rfl) d_Words_waysOf_35 hP hD hS hA 2 2 rfl rfl rfl [2, 3] [0, 1, 4, 5, 6, 7, 8] rfl rfl rfl rfl (by decide) (fun v w1 H locs hw_96 hP hD hS => ?_)
      obtain ⟨x_97, rfl, rfl, hx_97⟩ := hw_96
      have hP : va_P G.1 classes [(b17, .inl (G.2 0, 20, .inl b20)), (b27, .inl (G.2 0, 241, .inl b37)), (b0, .inr (7, [.ref b4, .ref b5, .ref b6, .ref b7, .ref b8, .ref b9, .ref x_49, .ref x_50])), (x_49, .inl (G.2 0, 241, .inl f_51)), (x_50, .inl (G.2 0, 241, .inl f_52)), (b3, .inr (5, [.int b22, .int b23, .ref b24, .ref b25, .ref b26, .ref b27, .ref b28, .ref b29, .int b30, .ref b31, .ref b32, .ref b33, .ref b34, .ref b35, .ref b36])), (b31, .inl (G.2 0, 240, .inl b38)), (b1, .inr (2, [.int b14, .int b15, .int b16, .ref b17, .ref b18, .ref b19])), (b18, .inl (G.2 0, 240, .inl b21))] H := hP
      have hD := z_tie hP hD rfl
      refine W.widen (k := 0) (n := 0) (Nat.le_of_ble_eq_true rfl) (Nat.le_of_ble_eq_true rfl) ?_
      refine z_callV (index := 103) (As := [.ref b3, .int x_97]) (rest := []) (wr := [(b17, .inl (G.2 0, 20, .inl b20)), (b27, .inl (G.2 0, 241, .inl b37)), (b1, .inr (2, [.int b14, .int b15, .int b16, .ref b17, .ref b18, .ref b19])), (b18, .inl (G.2 0, 240, .inl b21))]) Z (s2_Words_stepWays l G (b0) (b3) (x_97) (b4) (b5) (b6) (b7) (b8) (b9) (x_49) (x_50) (f_51) (f_52) (b22) (b23) (b24) (b25) (b26) (b27) (b28) (b29) (b30) (b31) (b32) (b33) (b34) (b35) (b36) (b38) hx_97 hb22 hb23 hb30 hb38) hl.1 q806 q808 qs22 q8 q809 ⟨by decide, by decide, by show _ = some 2; decide +kernel⟩ ⟨Nat.le_of_ble_eq_true rfl, Nat.le_of_ble_eq_true rfl⟩ ⟨Nat.le_of_ble_eq_true rfl, Nat.le_of_ble_eq_true rfl⟩ rfl (Nat.le_of_ble_eq_true rfl) d_Words_waysOf_38 hP hD hS hA 2 7 rfl rfl rfl [2, 3, 4, 5, 6] [0, 1, 7, 8] rfl rfl rfl rfl (by decide) (fun v w1 H locs hw_98 hP hD hS => ?_)
      obtain ⟨x_99, x_100, f_101, f_102, rfl, rfl⟩ := hw_98
      have hP : va_P G.1 classes [(b17, .inl (G.2 0, 20, .inl b20)), (b27, .inl (G.2 0, 241, .inl b37)), (b1, .inr (2, [.int b14, .int b15, .int b16, .ref b17, .ref b18, .ref b19])), (b18, .inl (G.2 0, 240, .inl b21)), (b0, .inr (7, [.ref b4, .ref b5, .ref b6, .ref b7, .ref b8, .ref b9, .ref x_99, .ref x_100])), (x_99, .inl (G.2 0, 241, .inl f_101)), (x_100, .inl (G.2 0, 241, .inl f_102)), (b3, .inr (5, [.int b22, .int b23, .ref b24, .ref b25, .ref b26, .ref b27, .ref b28, .ref b29, .int b30, .ref b31, .ref b32, .ref b33, .ref b34, .ref b35, .ref b36])), (b31, .inl (G.2 0, 240, .inl b38))] H := hP
      have hD := z_tie hP hD rfl
      refine W.widen (k := 0) (n := 0) (Nat.le_of_ble_eq_true rfl) (Nat.le_of_ble_eq_true rfl) ?_
      refine lv_iinc (v := 2) (lv' := [(4, .int 2), (0, .ref b0), (1, .ref b1), (2, .int b2), (3, .ref b3)]) hx hb d_Words_waysOf_41 hl (k := 0) rfl (by decide +kernel) (by decide) rfl (fun ls hl => ?_)
      refine lv_goto (tgt := 18) hx hb d_Words_waysOf_44 (by decide) ?_
      refine lv_iload hx hb d_Words_waysOf_18 (lv_at hl 0 rfl) ?_
      refine lv_aload_n hx hb d_Words_waysOf_20 rfl (lv_at hl 2 rfl) ?_
      refine va_get (D := G.1) (ci := 2) (v := .ref b17) (C := R_Traces) (T := F_Traces) (N := 6) hx hb hts i_Traces hown hK hP 2 rfl rfl 3 (by decide) (hts _ q69) (fun _ h9 => h9) rfl d_Words_waysOf_21 ?_
      refine lv_iload_n hx hb d_Words_waysOf_24 rfl (lv_at hl 3 rfl) ?_
      refine va_iald hx hb hK hP 0 0 rfl rfl (zI.inn hb2 (by decide)) d_Words_waysOf_25 ?_
      refine lv_topi (fun v_103 ev_103 => ?_)
      obtain rfl : v_3 = v_103 := ev_3.trans ev_103.symm
      refine lv_icmp_ge (tgt := 47) hx hb d_Words_waysOf_26 (by decide) (fun hc_104 => ?_) (fun hc_104 => ?_)
      · have _nhc_104 := hc_104
        have ni_105 := (fa_le _ _).mp hc_104
        rw [li_2] at ni_105
        have hv_106 : zI v_3 2 2 := zI.le_l hv_95 zc_2 hc_104 (by decide)
        refine lv_iconst (v := 0) hx hb d_Words_waysOf_47 (by decide) ?_
        refine lv_istore (lv' := [(4, .int 0), (0, .ref b0), (1, .ref b1), (2, .int b2), (3, .ref b3)]) hx hb d_Words_waysOf_48 hl (by decide) rfl (fun ls hl => ?_)
        refine lv_iconst (v := 0) hx hb d_Words_waysOf_50 (by decide) ?_
        refine lv_istore (lv' := [(5, .int 0), (4, .int 0), (0, .ref b0), (1, .ref b1), (2, .int b2), (3, .ref b3)]) hx hb d_Words_waysOf_51 hl (by decide) rfl (fun ls hl => ?_)
        suffices key : ∀ (k_125 : Nat) (y_126 : Int32) (y_127 : Int32) (H : Heap) (locs : List Loc) (ls : Array Slot), (zI y_126 0 241) → (zI y_127 (-2147483648) 1000000) → (241 : Int) - y_126.toInt < (k_125 : Int) → va_P G.1 classes [(b17, .inl (G.2 0, 20, .inl b20)), (b27, .inl (G.2 0, 241, .inl b37)), (b1, .inr (2, [.int b14, .int b15, .int b16, .ref b17, .ref b18, .ref b19])), (b18, .inl (G.2 0, 240, .inl b21)), (b0, .inr (7, [.ref b4, .ref b5, .ref b6, .ref b7, .ref b8, .ref b9, .ref x_99, .ref x_100])), (x_99, .inl (G.2 0, 241, .inl f_101)), (x_100, .inl (G.2 0, 241, .inl f_102)), (b3, .inr (5, [.int b22, .int b23, .ref b24, .ref b25, .ref b26, .ref b27, .ref b28, .ref b29, .int b30, .ref b31, .ref b32, .ref b33, .ref b34, .ref b35, .ref b36])), (b31, .inl (G.2 0, 240, .inl b38))] H → va_D A [(b17, .inl (G.2 0, 20, .inl b20)), (b27, .inl (G.2 0, 241, .inl b37)), (b1, .inr (2, [.int b14, .int b15, .int b16, .ref b17, .ref b18, .ref b19])), (b18, .inl (G.2 0, 240, .inl b21)), (b0, .inr (7, [.ref b4, .ref b5, .ref b6, .ref b7, .ref b8, .ref b9, .ref x_99, .ref x_100])), (x_99, .inl (G.2 0, 241, .inl f_101)), (x_100, .inl (G.2 0, 241, .inl f_102)), (b3, .inr (5, [.int b22, .int b23, .ref b24, .ref b25, .ref b26, .ref b27, .ref b28, .ref b29, .int b30, .ref b31, .ref b32, .ref b33, .ref b34, .ref b35, .ref b36])), (b31, .inl (G.2 0, 240, .inl b38))] → va_S A s.heap H locs → lv_has ls 6 [(5, .int y_126), (4, .int y_127), (0, .ref b0), (1, .ref b1), (2, .int b2), (3, .ref b3)] → W p l e m_s1_Words_waysOf s m ([.ref b0, .ref b1, .int b2, .ref b3] : List Value).toArray below meth c H locs 0 0 (MQ below (zQ G (fun v w => ∃ (e0 : Int32), ∃ (e1 : Nat), ∃ (e2 : Nat), ∃ (e3 : Nat → Int32), ∃ (e4 : Nat → Int32), v = some (.int e0) ∧ w = [(b0, .inr (7, [.ref b4, .ref b5, .ref b6, .ref b7, .ref b8, .ref b9, .ref e1, .ref e2])), (e1, .inl (G.2 0, 241, .inl e3)), (e2, .inl (G.2 0, 241, .inl e4)), (b1, .inr (2, [.int b14, .int b15, .int b16, .ref b17, .ref b18, .ref b19])), (b17, .inl (G.2 0, 20, .inl b20)), (b18, .inl (G.2 0, 240, .inl b21)), (b3, .inr (5, [.int b22, .int b23, .ref b24, .ref b25, .ref b26, .ref b27, .ref b28, .ref b29, .int b30, .ref b31, .ref b32, .ref b33, .ref b34, .ref b35, .ref b36])), (b27, .inl (G.2 0, 241, .inl b37)), (b31, .inl (G.2 0, 240, .inl b38))] ∧ (zI e0 (-2147483648) 1000000)) A) ([.ref b0, .ref b1, .int b2, .ref b3] : List Value).toArray s m_s1_Words_waysOf.cells m_s1_Words_waysOf.slots A) (F0 m 53 ls []) by
          exact key 242 (0) (0) _ _ _ (zI.wk (l' := 0) (h' := 241) zc_0 (by decide)) (zI.wk (l' := (-2147483648)) (h' := 1000000) zc_0 (by decide)) (zm_upi (zI.wk (l' := 0) (h' := 241) zc_0 (by decide)) (by decide)) hP hD hS (lv_sub hl [0, 1, 2, 3, 4, 5] rfl)
        intro k_125
        induction k_125 with
        | zero =>
          intro y_126 y_127 H locs ls hy_126 hy_127 hmk_125 hP hD hS hl
          exact (zm_up0 hy_126 hmk_125).elim
        | succ k_125 ihk_125 =>
          intro y_126 y_127 H locs ls hy_126 hy_127 hmk_125 hP hD hS hl
          refine lv_iload hx hb d_Words_waysOf_53 (lv_at hl 0 rfl) ?_
          refine lv_aload_n hx hb d_Words_waysOf_55 rfl (lv_at hl 5 rfl) ?_
          refine va_get (D := G.1) (ci := 5) (v := .int b23) (C := R_Machine) (T := F_Machine) (N := 15) hx hb hts i_Machine hown hK hP 7 rfl rfl 1 (by decide) (hts _ q166) (fun _ h9 => h9) rfl d_Words_waysOf_56 ?_
          refine lv_icmp_ge (tgt := 95) hx hb d_Words_waysOf_59 (by decide) (fun hc_128 => ?_) (fun hc_128 => ?_)
          · have _nhc_128 := hc_128
            have ni_129 := (fa_le _ _).mp hc_128
            refine lv_iload hx hb d_Words_waysOf_95 (lv_at hl 1 rfl) ?_
            exact z_iret hx hb hr hlocks (hP.sub [4, 5, 6, 2, 0, 3, 7, 1, 8] rfl) (hD.sub [4, 5, 6, 2, 0, 3, 7, 1, 8] (by decide) rfl) hS (Nat.le_of_ble_eq_true rfl) (Nat.le_of_ble_eq_true rfl) d_Words_waysOf_97 ⟨y_127, x_99, x_100, f_101, f_102, rfl, rfl, hy_127⟩
          · have _nhc_128 := hc_128
            have ni_130 := (fa_lt _ _).mp (zi_nle hc_128)
            have hv_131 : zI y_126 0 240 := zI.lt_l hy_126 hb23 (zi_nle hc_128) (by decide)
            have hv_132 : zI b23 1 241 := zI.lt_r hy_126 hb23 (zi_nle hc_128) (by decide)
            refine lv_aload_n hx hb d_Words_waysOf_62 rfl (lv_at hl 5 rfl) ?_
            refine va_get (D := G.1) (ci := 5) (v := .ref b27) (C := R_Machine) (T := F_Machine) (N := 15) hx hb hts i_Machine hown hK hP 7 rfl rfl 5 (by decide) (hts _ q177) (fun _ h9 => h9) rfl d_Words_waysOf_63 ?_
            refine lv_iload hx hb d_Words_waysOf_66 (lv_at hl 0 rfl) ?_
            refine va_iald hx hb hK hP 1 0 rfl rfl (zI.inn hv_131 (by decide)) d_Words_waysOf_68 ?_
            refine lv_topi (fun v_133 ev_133 => ?_)
            refine lv_if_le (tgt := 89) hx hb d_Words_waysOf_69 (by decide) (fun hc_134 => ?_) (fun hc_134 => ?_)
            · have _nhc_134 := hc_134
              have ni_135 := (fa_le _ _).mp hc_134
              rw [li_0] at ni_135
              have hv_136 : zI v_133 (-2147483648) 0 := zI.le_l (zI_all v_133) zc_0 hc_134 (by decide)
              obtain ⟨v_137, ev_137⟩ : ∃ z : Int32, z = y_126 + 1 := ⟨_, rfl⟩
              obtain ⟨qv_137, hv_137⟩ := zI_add (l := 1) (h := 241) hv_131 zc_1 ev_137 (by decide)
              rw [li_1] at qv_137
              refine lv_iinc (v := v_137) (lv' := [(5, .int v_137), (4, .int y_127), (0, .ref b0), (1, .ref b1), (2, .int b2), (3, .ref b3)]) hx hb d_Words_waysOf_89 hl (k := 0) rfl (by rw [ev_137]; rfl) (by decide) rfl (fun ls hl => ?_)
              refine lv_goto (tgt := 53) hx hb d_Words_waysOf_92 (by decide) ?_
              exact ihk_125 (v_137) (y_127) _ _ _ (zI.wk (l' := 0) (h' := 241) hv_137 (by decide)) hy_127 (zm_up qv_137 hmk_125 (by decide)) hP hD hS (lv_sub hl [0, 1, 2, 3, 4, 5] rfl)
            · have _nhc_134 := hc_134
              have ni_138 := (fa_lt _ _).mp (zi_nle hc_134)
              rw [li_0] at ni_138
              have hv_139 : zI v_133 1 2147483647 := zI.lt_r zc_0 (zI_all v_133) (zi_nle hc_134) (by decide)
              refine lv_iload hx hb d_Words_waysOf_72 (lv_at hl 1 rfl) ?_
              refine lv_aload_n hx hb d_Words_waysOf_74 rfl (lv_at hl 2 rfl) ?_
              refine va_get (D := G.1) (ci := 7) (v := .ref x_99) (C := R_Words) (T := F_Words) (N := 8) hx hb hts i_Words hown hK hP 4 rfl rfl 6 (by decide) (hts _ q272) (fun _ h9 => h9) rfl d_Words_waysOf_75 ?_
              refine lv_iload hx hb d_Words_waysOf_78 (lv_at hl 0 rfl) ?_
              refine va_iald hx hb hK hP 5 0 rfl rfl (zI.inn hv_131 (by decide)) d_Words_waysOf_80 ?_
              refine lv_topi (fun v_140 ev_140 => ?_)
              refine lv_iadd hx hb d_Words_waysOf_81 ?_
              refine lv_topi (fun v_141 ev_141 => ?_)
              refine lv_ldc hx hb hown (hts _ q813) d_Words_waysOf_82 ?_
              refine va_mmin hx hb (hml.trans hl.1.symm) hown (hts _ q814) (hts _ q592) (hts _ q20) (hts _ q593) (Nat.le_of_ble_eq_true rfl) (Nat.le_of_ble_eq_true rfl) (Nat.le_of_ble_eq_true rfl) (Nat.le_of_ble_eq_true rfl) d_Words_waysOf_84 ?_
              refine lv_topi (fun v_142 ev_142 => ?_)
              have hv_142 := zI_min (l := (-2147483648)) (h := 1000000) (zI_all v_141) zc_1000000 ev_142 (by decide)
              refine lv_istore (lv' := [(4, .int v_142), (5, .int y_126), (0, .ref b0), (1, .ref b1), (2, .int b2), (3, .ref b3)]) hx hb d_Words_waysOf_87 hl (by decide) rfl (fun ls hl => ?_)
              obtain ⟨v_143, ev_143⟩ : ∃ z : Int32, z = y_126 + 1 := ⟨_, rfl⟩
              obtain ⟨qv_143, hv_143⟩ := zI_add (l := 1) (h := 241) hv_131 zc_1 ev_143 (by decide)
              rw [li_1] at qv_143
              refine lv_iinc (v := v_143) (lv' := [(5, .int v_143), (4, .int v_142), (0, .ref b0), (1, .ref b1), (2, .int b2), (3, .ref b3)]) hx hb d_Words_waysOf_89 hl (k := 1) rfl (by rw [ev_143]; rfl) (by decide) rfl (fun ls hl => ?_)
              refine lv_goto (tgt := 53) hx hb d_Words_waysOf_92 (by decide) ?_
              exact ihk_125 (v_143) (v_142) _ _ _ (zI.wk (l' := 0) (h' := 241) hv_143 (by decide)) hv_142 (zm_up qv_143 hmk_125 (by decide)) hP hD hS (lv_sub hl [0, 1, 2, 3, 4, 5] rfl)
      · have _nhc_104 := hc_104
        have ni_144 := (fa_lt _ _).mp (zi_nle hc_104)
        rw [li_2] at ni_144
        have hv_145 : zI v_3 3 12 := zI.lt_r zc_2 hv_95 (zi_nle hc_104) (by decide)
        refine lv_aload_n hx hb d_Words_waysOf_29 rfl (lv_at hl 1 rfl) ?_
        refine lv_aload_n hx hb d_Words_waysOf_30 rfl (lv_at hl 4 rfl) ?_
        refine lv_aload_n hx hb d_Words_waysOf_31 rfl (lv_at hl 2 rfl) ?_
        refine lv_iload_n hx hb d_Words_waysOf_32 rfl (lv_at hl 3 rfl) ?_
        refine lv_iload hx hb d_Words_waysOf_33 (lv_at hl 0 rfl) ?_
        refine z_callV (index := 99) (As := [.int b2, .int 2]) (rest := [.ref b3, .ref b0]) (wr := [(b17, .inl (G.2 0, 20, .inl b20)), (b27, .inl (G.2 0, 241, .inl b37)), (b0, .inr (7, [.ref b4, .ref b5, .ref b6, .ref b7, .ref b8, .ref b9, .ref x_99, .ref x_100])), (x_99, .inl (G.2 0, 241, .inl f_101)), (x_100, .inl (G.2 0, 241, .inl f_102)), (b3, .inr (5, [.int b22, .int b23, .ref b24, .ref b25, .ref b26, .ref b27, .ref b28, .ref b29, .int b30, .ref b31, .ref b32, .ref b33, .ref b34, .ref b35, .ref b36])), (b31, .inl (G.2 0, 240, .inl b38))]) Z (s1_Traces_letterAt l G (b1) (b2) (2) (b14) (b15) (b16) (b17) (b18) (b19) (b21) hb2 (zI.wk (l' := 0) (h' := 11) zc_2 (by decide)) hb14 hb15 hb16 hb21) hl.1 q805 q580 q581 q3 q582 ⟨by decide, by decide, by show _ = some 2; decide +kernel⟩ ⟨Nat.le_of_ble_eq_true rfl, Nat.le_of_ble_eq_true rfl⟩ ⟨Nat.le_of_ble_eq_true rfl, Nat.le_of_ble_eq_true rfl⟩ rfl (Nat.le_of_ble_eq_true rfl) d_Words_waysOf_35 hP hD hS hA 2 2 rfl rfl rfl [2, 3] [0, 1, 4, 5, 6, 7, 8] rfl rfl rfl rfl (by decide) (fun v w1 H locs hw_146 hP hD hS => ?_)
        obtain ⟨x_147, rfl, rfl, hx_147⟩ := hw_146
        have hP : va_P G.1 classes [(b17, .inl (G.2 0, 20, .inl b20)), (b27, .inl (G.2 0, 241, .inl b37)), (b0, .inr (7, [.ref b4, .ref b5, .ref b6, .ref b7, .ref b8, .ref b9, .ref x_99, .ref x_100])), (x_99, .inl (G.2 0, 241, .inl f_101)), (x_100, .inl (G.2 0, 241, .inl f_102)), (b3, .inr (5, [.int b22, .int b23, .ref b24, .ref b25, .ref b26, .ref b27, .ref b28, .ref b29, .int b30, .ref b31, .ref b32, .ref b33, .ref b34, .ref b35, .ref b36])), (b31, .inl (G.2 0, 240, .inl b38)), (b1, .inr (2, [.int b14, .int b15, .int b16, .ref b17, .ref b18, .ref b19])), (b18, .inl (G.2 0, 240, .inl b21))] H := hP
        have hD := z_tie hP hD rfl
        refine W.widen (k := 0) (n := 0) (Nat.le_of_ble_eq_true rfl) (Nat.le_of_ble_eq_true rfl) ?_
        refine z_callV (index := 103) (As := [.ref b3, .int x_147]) (rest := []) (wr := [(b17, .inl (G.2 0, 20, .inl b20)), (b27, .inl (G.2 0, 241, .inl b37)), (b1, .inr (2, [.int b14, .int b15, .int b16, .ref b17, .ref b18, .ref b19])), (b18, .inl (G.2 0, 240, .inl b21))]) Z (s2_Words_stepWays l G (b0) (b3) (x_147) (b4) (b5) (b6) (b7) (b8) (b9) (x_99) (x_100) (f_101) (f_102) (b22) (b23) (b24) (b25) (b26) (b27) (b28) (b29) (b30) (b31) (b32) (b33) (b34) (b35) (b36) (b38) hx_147 hb22 hb23 hb30 hb38) hl.1 q806 q808 qs22 q8 q809 ⟨by decide, by decide, by show _ = some 2; decide +kernel⟩ ⟨Nat.le_of_ble_eq_true rfl, Nat.le_of_ble_eq_true rfl⟩ ⟨Nat.le_of_ble_eq_true rfl, Nat.le_of_ble_eq_true rfl⟩ rfl (Nat.le_of_ble_eq_true rfl) d_Words_waysOf_38 hP hD hS hA 2 7 rfl rfl rfl [2, 3, 4, 5, 6] [0, 1, 7, 8] rfl rfl rfl rfl (by decide) (fun v w1 H locs hw_148 hP hD hS => ?_)
        obtain ⟨x_149, x_150, f_151, f_152, rfl, rfl⟩ := hw_148
        have hP : va_P G.1 classes [(b17, .inl (G.2 0, 20, .inl b20)), (b27, .inl (G.2 0, 241, .inl b37)), (b1, .inr (2, [.int b14, .int b15, .int b16, .ref b17, .ref b18, .ref b19])), (b18, .inl (G.2 0, 240, .inl b21)), (b0, .inr (7, [.ref b4, .ref b5, .ref b6, .ref b7, .ref b8, .ref b9, .ref x_149, .ref x_150])), (x_149, .inl (G.2 0, 241, .inl f_151)), (x_150, .inl (G.2 0, 241, .inl f_152)), (b3, .inr (5, [.int b22, .int b23, .ref b24, .ref b25, .ref b26, .ref b27, .ref b28, .ref b29, .int b30, .ref b31, .ref b32, .ref b33, .ref b34, .ref b35, .ref b36])), (b31, .inl (G.2 0, 240, .inl b38))] H := hP
        have hD := z_tie hP hD rfl
        refine W.widen (k := 0) (n := 0) (Nat.le_of_ble_eq_true rfl) (Nat.le_of_ble_eq_true rfl) ?_
        refine lv_iinc (v := 3) (lv' := [(4, .int 3), (0, .ref b0), (1, .ref b1), (2, .int b2), (3, .ref b3)]) hx hb d_Words_waysOf_41 hl (k := 0) rfl (by decide +kernel) (by decide) rfl (fun ls hl => ?_)
        refine lv_goto (tgt := 18) hx hb d_Words_waysOf_44 (by decide) ?_
        refine lv_iload hx hb d_Words_waysOf_18 (lv_at hl 0 rfl) ?_
        refine lv_aload_n hx hb d_Words_waysOf_20 rfl (lv_at hl 2 rfl) ?_
        refine va_get (D := G.1) (ci := 2) (v := .ref b17) (C := R_Traces) (T := F_Traces) (N := 6) hx hb hts i_Traces hown hK hP 2 rfl rfl 3 (by decide) (hts _ q69) (fun _ h9 => h9) rfl d_Words_waysOf_21 ?_
        refine lv_iload_n hx hb d_Words_waysOf_24 rfl (lv_at hl 3 rfl) ?_
        refine va_iald hx hb hK hP 0 0 rfl rfl (zI.inn hb2 (by decide)) d_Words_waysOf_25 ?_
        refine lv_topi (fun v_153 ev_153 => ?_)
        obtain rfl : v_3 = v_153 := ev_3.trans ev_153.symm
        refine lv_icmp_ge (tgt := 47) hx hb d_Words_waysOf_26 (by decide) (fun hc_154 => ?_) (fun hc_154 => ?_)
        · have _nhc_154 := hc_154
          have ni_155 := (fa_le _ _).mp hc_154
          rw [li_3] at ni_155
          have hv_156 : zI v_3 3 3 := zI.le_l hv_145 zc_3 hc_154 (by decide)
          refine lv_iconst (v := 0) hx hb d_Words_waysOf_47 (by decide) ?_
          refine lv_istore (lv' := [(4, .int 0), (0, .ref b0), (1, .ref b1), (2, .int b2), (3, .ref b3)]) hx hb d_Words_waysOf_48 hl (by decide) rfl (fun ls hl => ?_)
          refine lv_iconst (v := 0) hx hb d_Words_waysOf_50 (by decide) ?_
          refine lv_istore (lv' := [(5, .int 0), (4, .int 0), (0, .ref b0), (1, .ref b1), (2, .int b2), (3, .ref b3)]) hx hb d_Words_waysOf_51 hl (by decide) rfl (fun ls hl => ?_)
          suffices key : ∀ (k_175 : Nat) (y_176 : Int32) (y_177 : Int32) (H : Heap) (locs : List Loc) (ls : Array Slot), (zI y_176 0 241) → (zI y_177 (-2147483648) 1000000) → (241 : Int) - y_176.toInt < (k_175 : Int) → va_P G.1 classes [(b17, .inl (G.2 0, 20, .inl b20)), (b27, .inl (G.2 0, 241, .inl b37)), (b1, .inr (2, [.int b14, .int b15, .int b16, .ref b17, .ref b18, .ref b19])), (b18, .inl (G.2 0, 240, .inl b21)), (b0, .inr (7, [.ref b4, .ref b5, .ref b6, .ref b7, .ref b8, .ref b9, .ref x_149, .ref x_150])), (x_149, .inl (G.2 0, 241, .inl f_151)), (x_150, .inl (G.2 0, 241, .inl f_152)), (b3, .inr (5, [.int b22, .int b23, .ref b24, .ref b25, .ref b26, .ref b27, .ref b28, .ref b29, .int b30, .ref b31, .ref b32, .ref b33, .ref b34, .ref b35, .ref b36])), (b31, .inl (G.2 0, 240, .inl b38))] H → va_D A [(b17, .inl (G.2 0, 20, .inl b20)), (b27, .inl (G.2 0, 241, .inl b37)), (b1, .inr (2, [.int b14, .int b15, .int b16, .ref b17, .ref b18, .ref b19])), (b18, .inl (G.2 0, 240, .inl b21)), (b0, .inr (7, [.ref b4, .ref b5, .ref b6, .ref b7, .ref b8, .ref b9, .ref x_149, .ref x_150])), (x_149, .inl (G.2 0, 241, .inl f_151)), (x_150, .inl (G.2 0, 241, .inl f_152)), (b3, .inr (5, [.int b22, .int b23, .ref b24, .ref b25, .ref b26, .ref b27, .ref b28, .ref b29, .int b30, .ref b31, .ref b32, .ref b33, .ref b34, .ref b35, .ref b36])), (b31, .inl (G.2 0, 240, .inl b38))] → va_S A s.heap H locs → lv_has ls 6 [(5, .int y_176), (4, .int y_177), (0, .ref b0), (1, .ref b1), (2, .int b2), (3, .ref b3)] → W p l e m_s1_Words_waysOf s m ([.ref b0, .ref b1, .int b2, .ref b3] : List Value).toArray below meth c H locs 0 0 (MQ below (zQ G (fun v w => ∃ (e0 : Int32), ∃ (e1 : Nat), ∃ (e2 : Nat), ∃ (e3 : Nat → Int32), ∃ (e4 : Nat → Int32), v = some (.int e0) ∧ w = [(b0, .inr (7, [.ref b4, .ref b5, .ref b6, .ref b7, .ref b8, .ref b9, .ref e1, .ref e2])), (e1, .inl (G.2 0, 241, .inl e3)), (e2, .inl (G.2 0, 241, .inl e4)), (b1, .inr (2, [.int b14, .int b15, .int b16, .ref b17, .ref b18, .ref b19])), (b17, .inl (G.2 0, 20, .inl b20)), (b18, .inl (G.2 0, 240, .inl b21)), (b3, .inr (5, [.int b22, .int b23, .ref b24, .ref b25, .ref b26, .ref b27, .ref b28, .ref b29, .int b30, .ref b31, .ref b32, .ref b33, .ref b34, .ref b35, .ref b36])), (b27, .inl (G.2 0, 241, .inl b37)), (b31, .inl (G.2 0, 240, .inl b38))] ∧ (zI e0 (-2147483648) 1000000)) A) ([.ref b0, .ref b1, .int b2, .ref b3] : List Value).toArray s m_s1_Words_waysOf.cells m_s1_Words_waysOf.slots A) (F0 m 53 ls []) by
            exact key 242 (0) (0) _ _ _ (zI.wk (l' := 0) (h' := 241) zc_0 (by decide)) (zI.wk (l' := (-2147483648)) (h' := 1000000) zc_0 (by decide)) (zm_upi (zI.wk (l' := 0) (h' := 241) zc_0 (by decide)) (by decide)) hP hD hS (lv_sub hl [0, 1, 2, 3, 4, 5] rfl)
          intro k_175
          induction k_175 with
          | zero =>
            intro y_176 y_177 H locs ls hy_176 hy_177 hmk_175 hP hD hS hl
            exact (zm_up0 hy_176 hmk_175).elim
          | succ k_175 ihk_175 =>
            intro y_176 y_177 H locs ls hy_176 hy_177 hmk_175 hP hD hS hl
            refine lv_iload hx hb d_Words_waysOf_53 (lv_at hl 0 rfl) ?_
            refine lv_aload_n hx hb d_Words_waysOf_55 rfl (lv_at hl 5 rfl) ?_
            refine va_get (D := G.1) (ci := 5) (v := .int b23) (C := R_Machine) (T := F_Machine) (N := 15) hx hb hts i_Machine hown hK hP 7 rfl rfl 1 (by decide) (hts _ q166) (fun _ h9 => h9) rfl d_Words_waysOf_56 ?_
            refine lv_icmp_ge (tgt := 95) hx hb d_Words_waysOf_59 (by decide) (fun hc_178 => ?_) (fun hc_178 => ?_)
            · have _nhc_178 := hc_178
              have ni_179 := (fa_le _ _).mp hc_178
              refine lv_iload hx hb d_Words_waysOf_95 (lv_at hl 1 rfl) ?_
              exact z_iret hx hb hr hlocks (hP.sub [4, 5, 6, 2, 0, 3, 7, 1, 8] rfl) (hD.sub [4, 5, 6, 2, 0, 3, 7, 1, 8] (by decide) rfl) hS (Nat.le_of_ble_eq_true rfl) (Nat.le_of_ble_eq_true rfl) d_Words_waysOf_97 ⟨y_177, x_149, x_150, f_151, f_152, rfl, rfl, hy_177⟩
            · have _nhc_178 := hc_178
              have ni_180 := (fa_lt _ _).mp (zi_nle hc_178)
              have hv_181 : zI y_176 0 240 := zI.lt_l hy_176 hb23 (zi_nle hc_178) (by decide)
              have hv_182 : zI b23 1 241 := zI.lt_r hy_176 hb23 (zi_nle hc_178) (by decide)
              refine lv_aload_n hx hb d_Words_waysOf_62 rfl (lv_at hl 5 rfl) ?_
              refine va_get (D := G.1) (ci := 5) (v := .ref b27) (C := R_Machine) (T := F_Machine) (N := 15) hx hb hts i_Machine hown hK hP 7 rfl rfl 5 (by decide) (hts _ q177) (fun _ h9 => h9) rfl d_Words_waysOf_63 ?_
              refine lv_iload hx hb d_Words_waysOf_66 (lv_at hl 0 rfl) ?_
              refine va_iald hx hb hK hP 1 0 rfl rfl (zI.inn hv_181 (by decide)) d_Words_waysOf_68 ?_
              refine lv_topi (fun v_183 ev_183 => ?_)
              refine lv_if_le (tgt := 89) hx hb d_Words_waysOf_69 (by decide) (fun hc_184 => ?_) (fun hc_184 => ?_)
              · have _nhc_184 := hc_184
                have ni_185 := (fa_le _ _).mp hc_184
                rw [li_0] at ni_185
                have hv_186 : zI v_183 (-2147483648) 0 := zI.le_l (zI_all v_183) zc_0 hc_184 (by decide)
                obtain ⟨v_187, ev_187⟩ : ∃ z : Int32, z = y_176 + 1 := ⟨_, rfl⟩
                obtain ⟨qv_187, hv_187⟩ := zI_add (l := 1) (h := 241) hv_181 zc_1 ev_187 (by decide)
                rw [li_1] at qv_187
                refine lv_iinc (v := v_187) (lv' := [(5, .int v_187), (4, .int y_177), (0, .ref b0), (1, .ref b1), (2, .int b2), (3, .ref b3)]) hx hb d_Words_waysOf_89 hl (k := 0) rfl (by rw [ev_187]; rfl) (by decide) rfl (fun ls hl => ?_)
                refine lv_goto (tgt := 53) hx hb d_Words_waysOf_92 (by decide) ?_
                exact ihk_175 (v_187) (y_177) _ _ _ (zI.wk (l' := 0) (h' := 241) hv_187 (by decide)) hy_177 (zm_up qv_187 hmk_175 (by decide)) hP hD hS (lv_sub hl [0, 1, 2, 3, 4, 5] rfl)
              · have _nhc_184 := hc_184
                have ni_188 := (fa_lt _ _).mp (zi_nle hc_184)
                rw [li_0] at ni_188
                have hv_189 : zI v_183 1 2147483647 := zI.lt_r zc_0 (zI_all v_183) (zi_nle hc_184) (by decide)
                refine lv_iload hx hb d_Words_waysOf_72 (lv_at hl 1 rfl) ?_
                refine lv_aload_n hx hb d_Words_waysOf_74 rfl (lv_at hl 2 rfl) ?_
                refine va_get (D := G.1) (ci := 7) (v := .ref x_149) (C := R_Words) (T := F_Words) (N := 8) hx hb hts i_Words hown hK hP 4 rfl rfl 6 (by decide) (hts _ q272) (fun _ h9 => h9) rfl d_Words_waysOf_75 ?_
                refine lv_iload hx hb d_Words_waysOf_78 (lv_at hl 0 rfl) ?_
                refine va_iald hx hb hK hP 5 0 rfl rfl (zI.inn hv_181 (by decide)) d_Words_waysOf_80 ?_
                refine lv_topi (fun v_190 ev_190 => ?_)
                refine lv_iadd hx hb d_Words_waysOf_81 ?_
                refine lv_topi (fun v_191 ev_191 => ?_)
                refine lv_ldc hx hb hown (hts _ q813) d_Words_waysOf_82 ?_
                refine va_mmin hx hb (hml.trans hl.1.symm) hown (hts _ q814) (hts _ q592) (hts _ q20) (hts _ q593) (Nat.le_of_ble_eq_true rfl) (Nat.le_of_ble_eq_true rfl) (Nat.le_of_ble_eq_true rfl) (Nat.le_of_ble_eq_true rfl) d_Words_waysOf_84 ?_
                refine lv_topi (fun v_192 ev_192 => ?_)
                have hv_192 := zI_min (l := (-2147483648)) (h := 1000000) (zI_all v_191) zc_1000000 ev_192 (by decide)
                refine lv_istore (lv' := [(4, .int v_192), (5, .int y_176), (0, .ref b0), (1, .ref b1), (2, .int b2), (3, .ref b3)]) hx hb d_Words_waysOf_87 hl (by decide) rfl (fun ls hl => ?_)
                obtain ⟨v_193, ev_193⟩ : ∃ z : Int32, z = y_176 + 1 := ⟨_, rfl⟩
                obtain ⟨qv_193, hv_193⟩ := zI_add (l := 1) (h := 241) hv_181 zc_1 ev_193 (by decide)
                rw [li_1] at qv_193
                refine lv_iinc (v := v_193) (lv' := [(5, .int v_193), (4, .int v_192), (0, .ref b0), (1, .ref b1), (2, .int b2), (3, .ref b3)]) hx hb d_Words_waysOf_89 hl (k := 1) rfl (by rw [ev_193]; rfl) (by decide) rfl (fun ls hl => ?_)
                refine lv_goto (tgt := 53) hx hb d_Words_waysOf_92 (by decide) ?_
                exact ihk_175 (v_193) (v_192) _ _ _ (zI.wk (l' := 0) (h' := 241) hv_193 (by decide)) hv_192 (zm_up qv_193 hmk_175 (by decide)) hP hD hS (lv_sub hl [0, 1, 2, 3, 4, 5] rfl)
        · have _nhc_154 := hc_154
          have ni_194 := (fa_lt _ _).mp (zi_nle hc_154)
          rw [li_3] at ni_194
          have hv_195 : zI v_3 4 12 := zI.lt_r zc_3 hv_145 (zi_nle hc_154) (by decide)
          refine lv_aload_n hx hb d_Words_waysOf_29 rfl (lv_at hl 1 rfl) ?_
          refine lv_aload_n hx hb d_Words_waysOf_30 rfl (lv_at hl 4 rfl) ?_
          refine lv_aload_n hx hb d_Words_waysOf_31 rfl (lv_at hl 2 rfl) ?_
          refine lv_iload_n hx hb d_Words_waysOf_32 rfl (lv_at hl 3 rfl) ?_
          refine lv_iload hx hb d_Words_waysOf_33 (lv_at hl 0 rfl) ?_
          refine z_callV (index := 99) (As := [.int b2, .int 3]) (rest := [.ref b3, .ref b0]) (wr := [(b17, .inl (G.2 0, 20, .inl b20)), (b27, .inl (G.2 0, 241, .inl b37)), (b0, .inr (7, [.ref b4, .ref b5, .ref b6, .ref b7, .ref b8, .ref b9, .ref x_149, .ref x_150])), (x_149, .inl (G.2 0, 241, .inl f_151)), (x_150, .inl (G.2 0, 241, .inl f_152)), (b3, .inr (5, [.int b22, .int b23, .ref b24, .ref b25, .ref b26, .ref b27, .ref b28, .ref b29, .int b30, .ref b31, .ref b32, .ref b33, .ref b34, .ref b35, .ref b36])), (b31, .inl (G.2 0, 240, .inl b38))]) Z (s1_Traces_letterAt l G (b1) (b2) (3) (b14) (b15) (b16) (b17) (b18) (b19) (b21) hb2 (zI.wk (l' := 0) (h' := 11) zc_3 (by decide)) hb14 hb15 hb16 hb21) hl.1 q805 q580 q581 q3 q582 ⟨by decide, by decide, by show _ = some 2; decide +kernel⟩ ⟨Nat.le_of_ble_eq_true rfl, Nat.le_of_ble_eq_true rfl⟩ ⟨Nat.le_of_ble_eq_true rfl, Nat.le_of_ble_eq_true rfl⟩ rfl (Nat.le_of_ble_eq_true rfl) d_Words_waysOf_35 hP hD hS hA 2 2 rfl rfl rfl [2, 3] [0, 1, 4, 5, 6, 7, 8] rfl rfl rfl rfl (by decide) (fun v w1 H locs hw_196 hP hD hS => ?_)
          obtain ⟨x_197, rfl, rfl, hx_197⟩ := hw_196
          have hP : va_P G.1 classes [(b17, .inl (G.2 0, 20, .inl b20)), (b27, .inl (G.2 0, 241, .inl b37)), (b0, .inr (7, [.ref b4, .ref b5, .ref b6, .ref b7, .ref b8, .ref b9, .ref x_149, .ref x_150])), (x_149, .inl (G.2 0, 241, .inl f_151)), (x_150, .inl (G.2 0, 241, .inl f_152)), (b3, .inr (5, [.int b22, .int b23, .ref b24, .ref b25, .ref b26, .ref b27, .ref b28, .ref b29, .int b30, .ref b31, .ref b32, .ref b33, .ref b34, .ref b35, .ref b36])), (b31, .inl (G.2 0, 240, .inl b38)), (b1, .inr (2, [.int b14, .int b15, .int b16, .ref b17, .ref b18, .ref b19])), (b18, .inl (G.2 0, 240, .inl b21))] H := hP
          have hD := z_tie hP hD rfl
          refine W.widen (k := 0) (n := 0) (Nat.le_of_ble_eq_true rfl) (Nat.le_of_ble_eq_true rfl) ?_
          refine z_callV (index := 103) (As := [.ref b3, .int x_197]) (rest := []) (wr := [(b17, .inl (G.2 0, 20, .inl b20)), (b27, .inl (G.2 0, 241, .inl b37)), (b1, .inr (2, [.int b14, .int b15, .int b16, .ref b17, .ref b18, .ref b19])), (b18, .inl (G.2 0, 240, .inl b21))]) Z (s2_Words_stepWays l G (b0) (b3) (x_197) (b4) (b5) (b6) (b7) (b8) (b9) (x_149) (x_150) (f_151) (f_152) (b22) (b23) (b24) (b25) (b26) (b27) (b28) (b29) (b30) (b31) (b32) (b33) (b34) (b35) (b36) (b38) hx_197 hb22 hb23 hb30 hb38) hl.1 q806 q808 qs22 q8 q809 ⟨by decide, by decide, by show _ = some 2; decide +kernel⟩ ⟨Nat.le_of_ble_eq_true rfl, Nat.le_of_ble_eq_true rfl⟩ ⟨Nat.le_of_ble_eq_true rfl, Nat.le_of_ble_eq_true rfl⟩ rfl (Nat.le_of_ble_eq_true rfl) d_Words_waysOf_38 hP hD hS hA 2 7 rfl rfl rfl [2, 3, 4, 5, 6] [0, 1, 7, 8] rfl rfl rfl rfl (by decide) (fun v w1 H locs hw_198 hP hD hS => ?_)
          obtain ⟨x_199, x_200, f_201, f_202, rfl, rfl⟩ := hw_198
          have hP : va_P G.1 classes [(b17, .inl (G.2 0, 20, .inl b20)), (b27, .inl (G.2 0, 241, .inl b37)), (b1, .inr (2, [.int b14, .int b15, .int b16, .ref b17, .ref b18, .ref b19])), (b18, .inl (G.2 0, 240, .inl b21)), (b0, .inr (7, [.ref b4, .ref b5, .ref b6, .ref b7, .ref b8, .ref b9, .ref x_199, .ref x_200])), (x_199, .inl (G.2 0, 241, .inl f_201)), (x_200, .inl (G.2 0, 241, .inl f_202)), (b3, .inr (5, [.int b22, .int b23, .ref b24, .ref b25, .ref b26, .ref b27, .ref b28, .ref b29, .int b30, .ref b31, .ref b32, .ref b33, .ref b34, .ref b35, .ref b36])), (b31, .inl (G.2 0, 240, .inl b38))] H := hP
          have hD := z_tie hP hD rfl
          refine W.widen (k := 0) (n := 0) (Nat.le_of_ble_eq_true rfl) (Nat.le_of_ble_eq_true rfl) ?_
          refine lv_iinc (v := 4) (lv' := [(4, .int 4), (0, .ref b0), (1, .ref b1), (2, .int b2), (3, .ref b3)]) hx hb d_Words_waysOf_41 hl (k := 0) rfl (by decide +kernel) (by decide) rfl (fun ls hl => ?_)
          refine lv_goto (tgt := 18) hx hb d_Words_waysOf_44 (by decide) ?_
          refine lv_iload hx hb d_Words_waysOf_18 (lv_at hl 0 rfl) ?_
          refine lv_aload_n hx hb d_Words_waysOf_20 rfl (lv_at hl 2 rfl) ?_
          refine va_get (D := G.1) (ci := 2) (v := .ref b17) (C := R_Traces) (T := F_Traces) (N := 6) hx hb hts i_Traces hown hK hP 2 rfl rfl 3 (by decide) (hts _ q69) (fun _ h9 => h9) rfl d_Words_waysOf_21 ?_
          refine lv_iload_n hx hb d_Words_waysOf_24 rfl (lv_at hl 3 rfl) ?_
          refine va_iald hx hb hK hP 0 0 rfl rfl (zI.inn hb2 (by decide)) d_Words_waysOf_25 ?_
          refine lv_topi (fun v_203 ev_203 => ?_)
          obtain rfl : v_3 = v_203 := ev_3.trans ev_203.symm
          refine lv_icmp_ge (tgt := 47) hx hb d_Words_waysOf_26 (by decide) (fun hc_204 => ?_) (fun hc_204 => ?_)
          · have _nhc_204 := hc_204
            have ni_205 := (fa_le _ _).mp hc_204
            rw [li_4] at ni_205
            have hv_206 : zI v_3 4 4 := zI.le_l hv_195 zc_4 hc_204 (by decide)
            refine lv_iconst (v := 0) hx hb d_Words_waysOf_47 (by decide) ?_
            refine lv_istore (lv' := [(4, .int 0), (0, .ref b0), (1, .ref b1), (2, .int b2), (3, .ref b3)]) hx hb d_Words_waysOf_48 hl (by decide) rfl (fun ls hl => ?_)
            refine lv_iconst (v := 0) hx hb d_Words_waysOf_50 (by decide) ?_
            refine lv_istore (lv' := [(5, .int 0), (4, .int 0), (0, .ref b0), (1, .ref b1), (2, .int b2), (3, .ref b3)]) hx hb d_Words_waysOf_51 hl (by decide) rfl (fun ls hl => ?_)
            suffices key : ∀ (k_225 : Nat) (y_226 : Int32) (y_227 : Int32) (H : Heap) (locs : List Loc) (ls : Array Slot), (zI y_226 0 241) → (zI y_227 (-2147483648) 1000000) → (241 : Int) - y_226.toInt < (k_225 : Int) → va_P G.1 classes [(b17, .inl (G.2 0, 20, .inl b20)), (b27, .inl (G.2 0, 241, .inl b37)), (b1, .inr (2, [.int b14, .int b15, .int b16, .ref b17, .ref b18, .ref b19])), (b18, .inl (G.2 0, 240, .inl b21)), (b0, .inr (7, [.ref b4, .ref b5, .ref b6, .ref b7, .ref b8, .ref b9, .ref x_199, .ref x_200])), (x_199, .inl (G.2 0, 241, .inl f_201)), (x_200, .inl (G.2 0, 241, .inl f_202)), (b3, .inr (5, [.int b22, .int b23, .ref b24, .ref b25, .ref b26, .ref b27, .ref b28, .ref b29, .int b30, .ref b31, .ref b32, .ref b33, .ref b34, .ref b35, .ref b36])), (b31, .inl (G.2 0, 240, .inl b38))] H → va_D A [(b17, .inl (G.2 0, 20, .inl b20)), (b27, .inl (G.2 0, 241, .inl b37)), (b1, .inr (2, [.int b14, .int b15, .int b16, .ref b17, .ref b18, .ref b19])), (b18, .inl (G.2 0, 240, .inl b21)), (b0, .inr (7, [.ref b4, .ref b5, .ref b6, .ref b7, .ref b8, .ref b9, .ref x_199, .ref x_200])), (x_199, .inl (G.2 0, 241, .inl f_201)), (x_200, .inl (G.2 0, 241, .inl f_202)), (b3, .inr (5, [.int b22, .int b23, .ref b24, .ref b25, .ref b26, .ref b27, .ref b28, .ref b29, .int b30, .ref b31, .ref b32, .ref b33, .ref b34, .ref b35, .ref b36])), (b31, .inl (G.2 0, 240, .inl b38))] → va_S A s.heap H locs → lv_has ls 6 [(5, .int y_226), (4, .int y_227), (0, .ref b0), (1, .ref b1), (2, .int b2), (3, .ref b3)] → W p l e m_s1_Words_waysOf s m ([.ref b0, .ref b1, .int b2, .ref b3] : List Value).toArray below meth c H locs 0 0 (MQ below (zQ G (fun v w => ∃ (e0 : Int32), ∃ (e1 : Nat), ∃ (e2 : Nat), ∃ (e3 : Nat → Int32), ∃ (e4 : Nat → Int32), v = some (.int e0) ∧ w = [(b0, .inr (7, [.ref b4, .ref b5, .ref b6, .ref b7, .ref b8, .ref b9, .ref e1, .ref e2])), (e1, .inl (G.2 0, 241, .inl e3)), (e2, .inl (G.2 0, 241, .inl e4)), (b1, .inr (2, [.int b14, .int b15, .int b16, .ref b17, .ref b18, .ref b19])), (b17, .inl (G.2 0, 20, .inl b20)), (b18, .inl (G.2 0, 240, .inl b21)), (b3, .inr (5, [.int b22, .int b23, .ref b24, .ref b25, .ref b26, .ref b27, .ref b28, .ref b29, .int b30, .ref b31, .ref b32, .ref b33, .ref b34, .ref b35, .ref b36])), (b27, .inl (G.2 0, 241, .inl b37)), (b31, .inl (G.2 0, 240, .inl b38))] ∧ (zI e0 (-2147483648) 1000000)) A) ([.ref b0, .ref b1, .int b2, .ref b3] : List Value).toArray s m_s1_Words_waysOf.cells m_s1_Words_waysOf.slots A) (F0 m 53 ls []) by
              exact key 242 (0) (0) _ _ _ (zI.wk (l' := 0) (h' := 241) zc_0 (by decide)) (zI.wk (l' := (-2147483648)) (h' := 1000000) zc_0 (by decide)) (zm_upi (zI.wk (l' := 0) (h' := 241) zc_0 (by decide)) (by decide)) hP hD hS (lv_sub hl [0, 1, 2, 3, 4, 5] rfl)
            intro k_225
            induction k_225 with
            | zero =>
              intro y_226 y_227 H locs ls hy_226 hy_227 hmk_225 hP hD hS hl
              exact (zm_up0 hy_226 hmk_225).elim
            | succ k_225 ihk_225 =>
              intro y_226 y_227 H locs ls hy_226 hy_227 hmk_225 hP hD hS hl
              refine lv_iload hx hb d_Words_waysOf_53 (lv_at hl 0 rfl) ?_
              refine lv_aload_n hx hb d_Words_waysOf_55 rfl (lv_at hl 5 rfl) ?_
              refine va_get (D := G.1) (ci := 5) (v := .int b23) (C := R_Machine) (T := F_Machine) (N := 15) hx hb hts i_Machine hown hK hP 7 rfl rfl 1 (by decide) (hts _ q166) (fun _ h9 => h9) rfl d_Words_waysOf_56 ?_
              refine lv_icmp_ge (tgt := 95) hx hb d_Words_waysOf_59 (by decide) (fun hc_228 => ?_) (fun hc_228 => ?_)
              · have _nhc_228 := hc_228
                have ni_229 := (fa_le _ _).mp hc_228
                refine lv_iload hx hb d_Words_waysOf_95 (lv_at hl 1 rfl) ?_
                exact z_iret hx hb hr hlocks (hP.sub [4, 5, 6, 2, 0, 3, 7, 1, 8] rfl) (hD.sub [4, 5, 6, 2, 0, 3, 7, 1, 8] (by decide) rfl) hS (Nat.le_of_ble_eq_true rfl) (Nat.le_of_ble_eq_true rfl) d_Words_waysOf_97 ⟨y_227, x_199, x_200, f_201, f_202, rfl, rfl, hy_227⟩
              · have _nhc_228 := hc_228
                have ni_230 := (fa_lt _ _).mp (zi_nle hc_228)
                have hv_231 : zI y_226 0 240 := zI.lt_l hy_226 hb23 (zi_nle hc_228) (by decide)
                have hv_232 : zI b23 1 241 := zI.lt_r hy_226 hb23 (zi_nle hc_228) (by decide)
                refine lv_aload_n hx hb d_Words_waysOf_62 rfl (lv_at hl 5 rfl) ?_
                refine va_get (D := G.1) (ci := 5) (v := .ref b27) (C := R_Machine) (T := F_Machine) (N := 15) hx hb hts i_Machine hown hK hP 7 rfl rfl 5 (by decide) (hts _ q177) (fun _ h9 => h9) rfl d_Words_waysOf_63 ?_
                refine lv_iload hx hb d_Words_waysOf_66 (lv_at hl 0 rfl) ?_
                refine va_iald hx hb hK hP 1 0 rfl rfl (zI.inn hv_231 (by decide)) d_Words_waysOf_68 ?_
                refine lv_topi (fun v_233 ev_233 => ?_)
                refine lv_if_le (tgt := 89) hx hb d_Words_waysOf_69 (by decide) (fun hc_234 => ?_) (fun hc_234 => ?_)
                · have _nhc_234 := hc_234
                  have ni_235 := (fa_le _ _).mp hc_234
                  rw [li_0] at ni_235
                  have hv_236 : zI v_233 (-2147483648) 0 := zI.le_l (zI_all v_233) zc_0 hc_234 (by decide)
                  obtain ⟨v_237, ev_237⟩ : ∃ z : Int32, z = y_226 + 1 := ⟨_, rfl⟩
                  obtain ⟨qv_237, hv_237⟩ := zI_add (l := 1) (h := 241) hv_231 zc_1 ev_237 (by decide)
                  rw [li_1] at qv_237
                  refine lv_iinc (v := v_237) (lv' := [(5, .int v_237), (4, .int y_227), (0, .ref b0), (1, .ref b1), (2, .int b2), (3, .ref b3)]) hx hb d_Words_waysOf_89 hl (k := 0) rfl (by rw [ev_237]; rfl) (by decide) rfl (fun ls hl => ?_)
                  refine lv_goto (tgt := 53) hx hb d_Words_waysOf_92 (by decide) ?_
                  exact ihk_225 (v_237) (y_227) _ _ _ (zI.wk (l' := 0) (h' := 241) hv_237 (by decide)) hy_227 (zm_up qv_237 hmk_225 (by decide)) hP hD hS (lv_sub hl [0, 1, 2, 3, 4, 5] rfl)
                · have _nhc_234 := hc_234
                  have ni_238 := (fa_lt _ _).mp (zi_nle hc_234)
                  rw [li_0] at ni_238
                  have hv_239 : zI v_233 1 2147483647 := zI.lt_r zc_0 (zI_all v_233) (zi_nle hc_234) (by decide)
                  refine lv_iload hx hb d_Words_waysOf_72 (lv_at hl 1 rfl) ?_
                  refine lv_aload_n hx hb d_Words_waysOf_74 rfl (lv_at hl 2 rfl) ?_
                  refine va_get (D := G.1) (ci := 7) (v := .ref x_199) (C := R_Words) (T := F_Words) (N := 8) hx hb hts i_Words hown hK hP 4 rfl rfl 6 (by decide) (hts _ q272) (fun _ h9 => h9) rfl d_Words_waysOf_75 ?_
                  refine lv_iload hx hb d_Words_waysOf_78 (lv_at hl 0 rfl) ?_
                  refine va_iald hx hb hK hP 5 0 rfl rfl (zI.inn hv_231 (by decide)) d_Words_waysOf_80 ?_
                  refine lv_topi (fun v_240 ev_240 => ?_)
                  refine lv_iadd hx hb d_Words_waysOf_81 ?_
                  refine lv_topi (fun v_241 ev_241 => ?_)
                  refine lv_ldc hx hb hown (hts _ q813) d_Words_waysOf_82 ?_
                  refine va_mmin hx hb (hml.trans hl.1.symm) hown (hts _ q814) (hts _ q592) (hts _ q20) (hts _ q593) (Nat.le_of_ble_eq_true rfl) (Nat.le_of_ble_eq_true rfl) (Nat.le_of_ble_eq_true rfl) (Nat.le_of_ble_eq_true rfl) d_Words_waysOf_84 ?_
                  refine lv_topi (fun v_242 ev_242 => ?_)
                  have hv_242 := zI_min (l := (-2147483648)) (h := 1000000) (zI_all v_241) zc_1000000 ev_242 (by decide)
                  refine lv_istore (lv' := [(4, .int v_242), (5, .int y_226), (0, .ref b0), (1, .ref b1), (2, .int b2), (3, .ref b3)]) hx hb d_Words_waysOf_87 hl (by decide) rfl (fun ls hl => ?_)
                  obtain ⟨v_243, ev_243⟩ : ∃ z : Int32, z = y_226 + 1 := ⟨_, rfl⟩
                  obtain ⟨qv_243, hv_243⟩ := zI_add (l := 1) (h := 241) hv_231 zc_1 ev_243 (by decide)
                  rw [li_1] at qv_243
                  refine lv_iinc (v := v_243) (lv' := [(5, .int v_243), (4, .int v_242), (0, .ref b0), (1, .ref b1), (2, .int b2), (3, .ref b3)]) hx hb d_Words_waysOf_89 hl (k := 1) rfl (by rw [ev_243]; rfl) (by decide) rfl (fun ls hl => ?_)
                  refine lv_goto (tgt := 53) hx hb d_Words_waysOf_92 (by decide) ?_
                  exact ihk_225 (v_243) (v_242) _ _ _ (zI.wk (l' := 0) (h' := 241) hv_243 (by decide)) hv_242 (zm_up qv_243 hmk_225 (by decide)) hP hD hS (lv_sub hl [0, 1, 2, 3, 4, 5] rfl)
          · have _nhc_204 := hc_204
            have ni_244 := (fa_lt _ _).mp (zi_nle hc_204)
            rw [li_4] at ni_244
            have hv_245 : zI v_3 5 12 := zI.lt_r zc_4 hv_195 (zi_nle hc_204) (by decide)
            refine lv_aload_n hx hb d_Words_waysOf_29 rfl (lv_at hl 1 rfl) ?_
            refine lv_aload_n hx hb d_Words_waysOf_30 rfl (lv_at hl 4 rfl) ?_
            refine lv_aload_n hx hb d_Words_waysOf_31 rfl (lv_at hl 2 rfl) ?_
            refine lv_iload_n hx hb d_Words_waysOf_32 rfl (lv_at hl 3 rfl) ?_
            refine lv_iload hx hb d_Words_waysOf_33 (lv_at hl 0 rfl) ?_
            refine z_callV (index := 99) (As := [.int b2, .int 4]) (rest := [.ref b3, .ref b0]) (wr := [(b17, .inl (G.2 0, 20, .inl b20)), (b27, .inl (G.2 0, 241, .inl b37)), (b0, .inr (7, [.ref b4, .ref b5, .ref b6, .ref b7, .ref b8, .ref b9, .ref x_199, .ref x_200])), (x_199, .inl (G.2 0, 241, .inl f_201)), (x_200, .inl (G.2 0, 241, .inl f_202)), (b3, .inr (5, [.int b22, .int b23, .ref b24, .ref b25, .ref b26, .ref b27, .ref b28, .ref b29, .int b30, .ref b31, .ref b32, .ref b33, .ref b34, .ref b35, .ref b36])), (b31, .inl (G.2 0, 240, .inl b38))]) Z (s1_Traces_letterAt l G (b1) (b2) (4) (b14) (b15) (b16) (b17) (b18) (b19) (b21) hb2 (zI.wk (l' := 0) (h' := 11) zc_4 (by decide)) hb14 hb15 hb16 hb21) hl.1 q805 q580 q581 q3 q582 ⟨by decide, by decide, by show _ = some 2; decide +kernel⟩ ⟨Nat.le_of_ble_eq_true rfl, Nat.le_of_ble_eq_true rfl⟩ ⟨Nat.le_of_ble_eq_true rfl, Nat.le_of_ble_eq_true rfl⟩ rfl (Nat.le_of_ble_eq_true rfl) d_Words_waysOf_35 hP hD hS hA 2 2 rfl rfl rfl [2, 3] [0, 1, 4, 5, 6, 7, 8] rfl rfl rfl rfl (by decide) (fun v w1 H locs hw_246 hP hD hS => ?_)
            obtain ⟨x_247, rfl, rfl, hx_247⟩ := hw_246
            have hP : va_P G.1 classes [(b17, .inl (G.2 0, 20, .inl b20)), (b27, .inl (G.2 0, 241, .inl b37)), (b0, .inr (7, [.ref b4, .ref b5, .ref b6, .ref b7, .ref b8, .ref b9, .ref x_199, .ref x_200])), (x_199, .inl (G.2 0, 241, .inl f_201)), (x_200, .inl (G.2 0, 241, .inl f_202)), (b3, .inr (5, [.int b22, .int b23, .ref b24, .ref b25, .ref b26, .ref b27, .ref b28, .ref b29, .int b30, .ref b31, .ref b32, .ref b33, .ref b34, .ref b35, .ref b36])), (b31, .inl (G.2 0, 240, .inl b38)), (b1, .inr (2, [.int b14, .int b15, .int b16, .ref b17, .ref b18, .ref b19])), (b18, .inl (G.2 0, 240, .inl b21))] H := hP
            have hD := z_tie hP hD rfl
            refine W.widen (k := 0) (n := 0) (Nat.le_of_ble_eq_true rfl) (Nat.le_of_ble_eq_true rfl) ?_
            refine z_callV (index := 103) (As := [.ref b3, .int x_247]) (rest := []) (wr := [(b17, .inl (G.2 0, 20, .inl b20)), (b27, .inl (G.2 0, 241, .inl b37)), (b1, .inr (2, [.int b14, .int b15, .int b16, .ref b17, .ref b18, .ref b19])), (b18, .inl (G.2 0, 240, .inl b21))]) Z (s2_Words_stepWays l G (b0) (b3) (x_247) (b4) (b5) (b6) (b7) (b8) (b9) (x_199) (x_200) (f_201) (f_202) (b22) (b23) (b24) (b25) (b26) (b27) (b28) (b29) (b30) (b31) (b32) (b33) (b34) (b35) (b36) (b38) hx_247 hb22 hb23 hb30 hb38) hl.1 q806 q808 qs22 q8 q809 ⟨by decide, by decide, by show _ = some 2; decide +kernel⟩ ⟨Nat.le_of_ble_eq_true rfl, Nat.le_of_ble_eq_true rfl⟩ ⟨Nat.le_of_ble_eq_true rfl, Nat.le_of_ble_eq_true rfl⟩ rfl (Nat.le_of_ble_eq_true rfl) d_Words_waysOf_38 hP hD hS hA 2 7 rfl rfl rfl [2, 3, 4, 5, 6] [0, 1, 7, 8] rfl rfl rfl rfl (by decide) (fun v w1 H locs hw_248 hP hD hS => ?_)
            obtain ⟨x_249, x_250, f_251, f_252, rfl, rfl⟩ := hw_248
            have hP : va_P G.1 classes [(b17, .inl (G.2 0, 20, .inl b20)), (b27, .inl (G.2 0, 241, .inl b37)), (b1, .inr (2, [.int b14, .int b15, .int b16, .ref b17, .ref b18, .ref b19])), (b18, .inl (G.2 0, 240, .inl b21)), (b0, .inr (7, [.ref b4, .ref b5, .ref b6, .ref b7, .ref b8, .ref b9, .ref x_249, .ref x_250])), (x_249, .inl (G.2 0, 241, .inl f_251)), (x_250, .inl (G.2 0, 241, .inl f_252)), (b3, .inr (5, [.int b22, .int b23, .ref b24, .ref b25, .ref b26, .ref b27, .ref b28, .ref b29, .int b30, .ref b31, .ref b32, .ref b33, .ref b34, .ref b35, .ref b36])), (b31, .inl (G.2 0, 240, .inl b38))] H := hP
            have hD := z_tie hP hD rfl
            refine W.widen (k := 0) (n := 0) (Nat.le_of_ble_eq_true rfl) (Nat.le_of_ble_eq_true rfl) ?_
            refine lv_iinc (v := 5) (lv' := [(4, .int 5), (0, .ref b0), (1, .ref b1), (2, .int b2), (3, .ref b3)]) hx hb d_Words_waysOf_41 hl (k := 0) rfl (by decide +kernel) (by decide) rfl (fun ls hl => ?_)
            refine lv_goto (tgt := 18) hx hb d_Words_waysOf_44 (by decide) ?_
            refine lv_iload hx hb d_Words_waysOf_18 (lv_at hl 0 rfl) ?_
            refine lv_aload_n hx hb d_Words_waysOf_20 rfl (lv_at hl 2 rfl) ?_
            refine va_get (D := G.1) (ci := 2) (v := .ref b17) (C := R_Traces) (T := F_Traces) (N := 6) hx hb hts i_Traces hown hK hP 2 rfl rfl 3 (by decide) (hts _ q69) (fun _ h9 => h9) rfl d_Words_waysOf_21 ?_
            refine lv_iload_n hx hb d_Words_waysOf_24 rfl (lv_at hl 3 rfl) ?_
            refine va_iald hx hb hK hP 0 0 rfl rfl (zI.inn hb2 (by decide)) d_Words_waysOf_25 ?_
            refine lv_topi (fun v_253 ev_253 => ?_)
            obtain rfl : v_3 = v_253 := ev_3.trans ev_253.symm
            refine lv_icmp_ge (tgt := 47) hx hb d_Words_waysOf_26 (by decide) (fun hc_254 => ?_) (fun hc_254 => ?_)
            · have _nhc_254 := hc_254
              have ni_255 := (fa_le _ _).mp hc_254
              rw [li_5] at ni_255
              have hv_256 : zI v_3 5 5 := zI.le_l hv_245 zc_5 hc_254 (by decide)
              refine lv_iconst (v := 0) hx hb d_Words_waysOf_47 (by decide) ?_
              refine lv_istore (lv' := [(4, .int 0), (0, .ref b0), (1, .ref b1), (2, .int b2), (3, .ref b3)]) hx hb d_Words_waysOf_48 hl (by decide) rfl (fun ls hl => ?_)
              refine lv_iconst (v := 0) hx hb d_Words_waysOf_50 (by decide) ?_
              refine lv_istore (lv' := [(5, .int 0), (4, .int 0), (0, .ref b0), (1, .ref b1), (2, .int b2), (3, .ref b3)]) hx hb d_Words_waysOf_51 hl (by decide) rfl (fun ls hl => ?_)
              suffices key : ∀ (k_275 : Nat) (y_276 : Int32) (y_277 : Int32) (H : Heap) (locs : List Loc) (ls : Array Slot), (zI y_276 0 241) → (zI y_277 (-2147483648) 1000000) → (241 : Int) - y_276.toInt < (k_275 : Int) → va_P G.1 classes [(b17, .inl (G.2 0, 20, .inl b20)), (b27, .inl (G.2 0, 241, .inl b37)), (b1, .inr (2, [.int b14, .int b15, .int b16, .ref b17, .ref b18, .ref b19])), (b18, .inl (G.2 0, 240, .inl b21)), (b0, .inr (7, [.ref b4, .ref b5, .ref b6, .ref b7, .ref b8, .ref b9, .ref x_249, .ref x_250])), (x_249, .inl (G.2 0, 241, .inl f_251)), (x_250, .inl (G.2 0, 241, .inl f_252)), (b3, .inr (5, [.int b22, .int b23, .ref b24, .ref b25, .ref b26, .ref b27, .ref b28, .ref b29, .int b30, .ref b31, .ref b32, .ref b33, .ref b34, .ref b35, .ref b36])), (b31, .inl (G.2 0, 240, .inl b38))] H → va_D A [(b17, .inl (G.2 0, 20, .inl b20)), (b27, .inl (G.2 0, 241, .inl b37)), (b1, .inr (2, [.int b14, .int b15, .int b16, .ref b17, .ref b18, .ref b19])), (b18, .inl (G.2 0, 240, .inl b21)), (b0, .inr (7, [.ref b4, .ref b5, .ref b6, .ref b7, .ref b8, .ref b9, .ref x_249, .ref x_250])), (x_249, .inl (G.2 0, 241, .inl f_251)), (x_250, .inl (G.2 0, 241, .inl f_252)), (b3, .inr (5, [.int b22, .int b23, .ref b24, .ref b25, .ref b26, .ref b27, .ref b28, .ref b29, .int b30, .ref b31, .ref b32, .ref b33, .ref b34, .ref b35, .ref b36])), (b31, .inl (G.2 0, 240, .inl b38))] → va_S A s.heap H locs → lv_has ls 6 [(5, .int y_276), (4, .int y_277), (0, .ref b0), (1, .ref b1), (2, .int b2), (3, .ref b3)] → W p l e m_s1_Words_waysOf s m ([.ref b0, .ref b1, .int b2, .ref b3] : List Value).toArray below meth c H locs 0 0 (MQ below (zQ G (fun v w => ∃ (e0 : Int32), ∃ (e1 : Nat), ∃ (e2 : Nat), ∃ (e3 : Nat → Int32), ∃ (e4 : Nat → Int32), v = some (.int e0) ∧ w = [(b0, .inr (7, [.ref b4, .ref b5, .ref b6, .ref b7, .ref b8, .ref b9, .ref e1, .ref e2])), (e1, .inl (G.2 0, 241, .inl e3)), (e2, .inl (G.2 0, 241, .inl e4)), (b1, .inr (2, [.int b14, .int b15, .int b16, .ref b17, .ref b18, .ref b19])), (b17, .inl (G.2 0, 20, .inl b20)), (b18, .inl (G.2 0, 240, .inl b21)), (b3, .inr (5, [.int b22, .int b23, .ref b24, .ref b25, .ref b26, .ref b27, .ref b28, .ref b29, .int b30, .ref b31, .ref b32, .ref b33, .ref b34, .ref b35, .ref b36])), (b27, .inl (G.2 0, 241, .inl b37)), (b31, .inl (G.2 0, 240, .inl b38))] ∧ (zI e0 (-2147483648) 1000000)) A) ([.ref b0, .ref b1, .int b2, .ref b3] : List Value).toArray s m_s1_Words_waysOf.cells m_s1_Words_waysOf.slots A) (F0 m 53 ls []) by
                exact key 242 (0) (0) _ _ _ (zI.wk (l' := 0) (h' := 241) zc_0 (by decide)) (zI.wk (l' := (-2147483648)) (h' := 1000000) zc_0 (by decide)) (zm_upi (zI.wk (l' := 0) (h' := 241) zc_0 (by decide)) (by decide)) hP hD hS (lv_sub hl [0, 1, 2, 3, 4, 5] rfl)
              intro k_275
              induction k_275 with
              | zero =>
                intro y_276 y_277 H locs ls hy_276 hy_277 hmk_275 hP hD hS hl
                exact (zm_up0 hy_276 hmk_275).elim
              | succ k_275 ihk_275 =>
                intro y_276 y_277 H locs ls hy_276 hy_277 hmk_275 hP hD hS hl
                refine lv_iload hx hb d_Words_waysOf_53 (lv_at hl 0 rfl) ?_
                refine lv_aload_n hx hb d_Words_waysOf_55 rfl (lv_at hl 5 rfl) ?_
                refine va_get (D := G.1) (ci := 5) (v := .int b23) (C := R_Machine) (T := F_Machine) (N := 15) hx hb hts i_Machine hown hK hP 7 rfl rfl 1 (by decide) (hts _ q166) (fun _ h9 => h9) rfl d_Words_waysOf_56 ?_
                refine lv_icmp_ge (tgt := 95) hx hb d_Words_waysOf_59 (by decide) (fun hc_278 => ?_) (fun hc_278 => ?_)
                · have _nhc_278 := hc_278
                  have ni_279 := (fa_le _ _).mp hc_278
                  refine lv_iload hx hb d_Words_waysOf_95 (lv_at hl 1 rfl) ?_
                  exact z_iret hx hb hr hlocks (hP.sub [4, 5, 6, 2, 0, 3, 7, 1, 8] rfl) (hD.sub [4, 5, 6, 2, 0, 3, 7, 1, 8] (by decide) rfl) hS (Nat.le_of_ble_eq_true rfl) (Nat.le_of_ble_eq_true rfl) d_Words_waysOf_97 ⟨y_277, x_249, x_250, f_251, f_252, rfl, rfl, hy_277⟩
                · have _nhc_278 := hc_278
                  have ni_280 := (fa_lt _ _).mp (zi_nle hc_278)
                  have hv_281 : zI y_276 0 240 := zI.lt_l hy_276 hb23 (zi_nle hc_278) (by decide)
                  have hv_282 : zI b23 1 241 := zI.lt_r hy_276 hb23 (zi_nle hc_278) (by decide)
                  refine lv_aload_n hx hb d_Words_waysOf_62 rfl (lv_at hl 5 rfl) ?_
                  refine va_get (D := G.1) (ci := 5) (v := .ref b27) (C := R_Machine) (T := F_Machine) (N := 15) hx hb hts i_Machine hown hK hP 7 rfl rfl 5 (by decide) (hts _ q177) (fun _ h9 => h9) rfl d_Words_waysOf_63 ?_
                  refine lv_iload hx hb d_Words_waysOf_66 (lv_at hl 0 rfl) ?_
                  refine va_iald hx hb hK hP 1 0 rfl rfl (zI.inn hv_281 (by decide)) d_Words_waysOf_68 ?_
                  refine lv_topi (fun v_283 ev_283 => ?_)
                  refine lv_if_le (tgt := 89) hx hb d_Words_waysOf_69 (by decide) (fun hc_284 => ?_) (fun hc_284 => ?_)
                  · have _nhc_284 := hc_284
                    have ni_285 := (fa_le _ _).mp hc_284
                    rw [li_0] at ni_285
                    have hv_286 : zI v_283 (-2147483648) 0 := zI.le_l (zI_all v_283) zc_0 hc_284 (by decide)
                    obtain ⟨v_287, ev_287⟩ : ∃ z : Int32, z = y_276 + 1 := ⟨_, rfl⟩
                    obtain ⟨qv_287, hv_287⟩ := zI_add (l := 1) (h := 241) hv_281 zc_1 ev_287 (by decide)
                    rw [li_1] at qv_287
                    refine lv_iinc (v := v_287) (lv' := [(5, .int v_287), (4, .int y_277), (0, .ref b0), (1, .ref b1), (2, .int b2), (3, .ref b3)]) hx hb d_Words_waysOf_89 hl (k := 0) rfl (by rw [ev_287]; rfl) (by decide) rfl (fun ls hl => ?_)
                    refine lv_goto (tgt := 53) hx hb d_Words_waysOf_92 (by decide) ?_
                    exact ihk_275 (v_287) (y_277) _ _ _ (zI.wk (l' := 0) (h' := 241) hv_287 (by decide)) hy_277 (zm_up qv_287 hmk_275 (by decide)) hP hD hS (lv_sub hl [0, 1, 2, 3, 4, 5] rfl)
                  · have _nhc_284 := hc_284
                    have ni_288 := (fa_lt _ _).mp (zi_nle hc_284)
                    rw [li_0] at ni_288
                    have hv_289 : zI v_283 1 2147483647 := zI.lt_r zc_0 (zI_all v_283) (zi_nle hc_284) (by decide)
                    refine lv_iload hx hb d_Words_waysOf_72 (lv_at hl 1 rfl) ?_
                    refine lv_aload_n hx hb d_Words_waysOf_74 rfl (lv_at hl 2 rfl) ?_
                    refine va_get (D := G.1) (ci := 7) (v := .ref x_249) (C := R_Words) (T := F_Words) (N := 8) hx hb hts i_Words hown hK hP 4 rfl rfl 6 (by decide) (hts _ q272) (fun _ h9 => h9) rfl d_Words_waysOf_75 ?_
                    refine lv_iload hx hb d_Words_waysOf_78 (lv_at hl 0 rfl) ?_
                    refine va_iald hx hb hK hP 5 0 rfl rfl (zI.inn hv_281 (by decide)) d_Words_waysOf_80 ?_
                    refine lv_topi (fun v_290 ev_290 => ?_)
                    refine lv_iadd hx hb d_Words_waysOf_81 ?_
                    refine lv_topi (fun v_291 ev_291 => ?_)
                    refine lv_ldc hx hb hown (hts _ q813) d_Words_waysOf_82 ?_
                    refine va_mmin hx hb (hml.trans hl.1.symm) hown (hts _ q814) (hts _ q592) (hts _ q20) (hts _ q593) (Nat.le_of_ble_eq_true rfl) (Nat.le_of_ble_eq_true rfl) (Nat.le_of_ble_eq_true rfl) (Nat.le_of_ble_eq_true rfl) d_Words_waysOf_84 ?_
                    refine lv_topi (fun v_292 ev_292 => ?_)
                    have hv_292 := zI_min (l := (-2147483648)) (h := 1000000) (zI_all v_291) zc_1000000 ev_292 (by decide)
                    refine lv_istore (lv' := [(4, .int v_292), (5, .int y_276), (0, .ref b0), (1, .ref b1), (2, .int b2), (3, .ref b3)]) hx hb d_Words_waysOf_87 hl (by decide) rfl (fun ls hl => ?_)
                    obtain ⟨v_293, ev_293⟩ : ∃ z : Int32, z = y_276 + 1 := ⟨_, rfl⟩
                    obtain ⟨qv_293, hv_293⟩ := zI_add (l := 1) (h := 241) hv_281 zc_1 ev_293 (by decide)
                    rw [li_1] at qv_293
                    refine lv_iinc (v := v_293) (lv' := [(5, .int v_293), (4, .int v_292), (0, .ref b0), (1, .ref b1), (2, .int b2), (3, .ref b3)]) hx hb d_Words_waysOf_89 hl (k := 1) rfl (by rw [ev_293]; rfl) (by decide) rfl (fun ls hl => ?_)
                    refine lv_goto (tgt := 53) hx hb d_Words_waysOf_92 (by decide) ?_
                    exact ihk_275 (v_293) (v_292) _ _ _ (zI.wk (l' := 0) (h' := 241) hv_293 (by decide)) hv_292 (zm_up qv_293 hmk_275 (by decide)) hP hD hS (lv_sub hl [0, 1, 2, 3, 4, 5] rfl)
            · have _nhc_254 := hc_254
              have ni_294 := (fa_lt _ _).mp (zi_nle hc_254)
              rw [li_5] at ni_294
              have hv_295 : zI v_3 6 12 := zI.lt_r zc_5 hv_245 (zi_nle hc_254) (by decide)
              refine lv_aload_n hx hb d_Words_waysOf_29 rfl (lv_at hl 1 rfl) ?_
              refine lv_aload_n hx hb d_Words_waysOf_30 rfl (lv_at hl 4 rfl) ?_
              refine lv_aload_n hx hb d_Words_waysOf_31 rfl (lv_at hl 2 rfl) ?_
              refine lv_iload_n hx hb d_Words_waysOf_32 rfl (lv_at hl 3 rfl) ?_
              refine lv_iload hx hb d_Words_waysOf_33 (lv_at hl 0 rfl) ?_
              refine z_callV (index := 99) (As := [.int b2, .int 5]) (rest := [.ref b3, .ref b0]) (wr := [(b17, .inl (G.2 0, 20, .inl b20)), (b27, .inl (G.2 0, 241, .inl b37)), (b0, .inr (7, [.ref b4, .ref b5, .ref b6, .ref b7, .ref b8, .ref b9, .ref x_249, .ref x_250])), (x_249, .inl (G.2 0, 241, .inl f_251)), (x_250, .inl (G.2 0, 241, .inl f_252)), (b3, .inr (5, [.int b22, .int b23, .ref b24, .ref b25, .ref b26, .ref b27, .ref b28, .ref b29, .int b30, .ref b31, .ref b32, .ref b33, .ref b34, .ref b35, .ref b36])), (b31, .inl (G.2 0, 240, .inl b38))]) Z (s1_Traces_letterAt l G (b1) (b2) (5) (b14) (b15) (b16) (b17) (b18) (b19) (b21) hb2 (zI.wk (l' := 0) (h' := 11) zc_5 (by decide)) hb14 hb15 hb16 hb21) hl.1 q805 q580 q581 q3 q582 ⟨by decide, by decide, by show _ = some 2; decide +kernel⟩ ⟨Nat.le_of_ble_eq_true rfl, Nat.le_of_ble_eq_true rfl⟩ ⟨Nat.le_of_ble_eq_true rfl, Nat.le_of_ble_eq_true rfl⟩ rfl (Nat.le_of_ble_eq_true rfl) d_Words_waysOf_35 hP hD hS hA 2 2 rfl rfl rfl [2, 3] [0, 1, 4, 5, 6, 7, 8] rfl rfl rfl rfl (by decide) (fun v w1 H locs hw_296 hP hD hS => ?_)
              obtain ⟨x_297, rfl, rfl, hx_297⟩ := hw_296
              have hP : va_P G.1 classes [(b17, .inl (G.2 0, 20, .inl b20)), (b27, .inl (G.2 0, 241, .inl b37)), (b0, .inr (7, [.ref b4, .ref b5, .ref b6, .ref b7, .ref b8, .ref b9, .ref x_249, .ref x_250])), (x_249, .inl (G.2 0, 241, .inl f_251)), (x_250, .inl (G.2 0, 241, .inl f_252)), (b3, .inr (5, [.int b22, .int b23, .ref b24, .ref b25, .ref b26, .ref b27, .ref b28, .ref b29, .int b30, .ref b31, .ref b32, .ref b33, .ref b34, .ref b35, .ref b36])), (b31, .inl (G.2 0, 240, .inl b38)), (b1, .inr (2, [.int b14, .int b15, .int b16, .ref b17, .ref b18, .ref b19])), (b18, .inl (G.2 0, 240, .inl b21))] H := hP
              have hD := z_tie hP hD rfl
              refine W.widen (k := 0) (n := 0) (Nat.le_of_ble_eq_true rfl) (Nat.le_of_ble_eq_true rfl) ?_
              refine z_callV (index := 103) (As := [.ref b3, .int x_297]) (rest := []) (wr := [(b17, .inl (G.2 0, 20, .inl b20)), (b27, .inl (G.2 0, 241, .inl b37)), (b1, .inr (2, [.int b14, .int b15, .int b16, .ref b17, .ref b18, .ref b19])), (b18, .inl (G.2 0, 240, .inl b21))]) Z (s2_Words_stepWays l G (b0) (b3) (x_297) (b4) (b5) (b6) (b7) (b8) (b9) (x_249) (x_250) (f_251) (f_252) (b22) (b23) (b24) (b25) (b26) (b27) (b28) (b29) (b30) (b31) (b32) (b33) (b34) (b35) (b36) (b38) hx_297 hb22 hb23 hb30 hb38) hl.1 q806 q808 qs22 q8 q809 ⟨by decide, by decide, by show _ = some 2; decide +kernel⟩ ⟨Nat.le_of_ble_eq_true rfl, Nat.le_of_ble_eq_true rfl⟩ ⟨Nat.le_of_ble_eq_true rfl, Nat.le_of_ble_eq_true rfl⟩ rfl (Nat.le_of_ble_eq_true rfl) d_Words_waysOf_38 hP hD hS hA 2 7 rfl rfl rfl [2, 3, 4, 5, 6] [0, 1, 7, 8] rfl rfl rfl rfl (by decide) (fun v w1 H locs hw_298 hP hD hS => ?_)
              obtain ⟨x_299, x_300, f_301, f_302, rfl, rfl⟩ := hw_298
              have hP : va_P G.1 classes [(b17, .inl (G.2 0, 20, .inl b20)), (b27, .inl (G.2 0, 241, .inl b37)), (b1, .inr (2, [.int b14, .int b15, .int b16, .ref b17, .ref b18, .ref b19])), (b18, .inl (G.2 0, 240, .inl b21)), (b0, .inr (7, [.ref b4, .ref b5, .ref b6, .ref b7, .ref b8, .ref b9, .ref x_299, .ref x_300])), (x_299, .inl (G.2 0, 241, .inl f_301)), (x_300, .inl (G.2 0, 241, .inl f_302)), (b3, .inr (5, [.int b22, .int b23, .ref b24, .ref b25, .ref b26, .ref b27, .ref b28, .ref b29, .int b30, .ref b31, .ref b32, .ref b33, .ref b34, .ref b35, .ref b36])), (b31, .inl (G.2 0, 240, .inl b38))] H := hP
              have hD := z_tie hP hD rfl
              refine W.widen (k := 0) (n := 0) (Nat.le_of_ble_eq_true rfl) (Nat.le_of_ble_eq_true rfl) ?_
              refine lv_iinc (v := 6) (lv' := [(4, .int 6), (0, .ref b0), (1, .ref b1), (2, .int b2), (3, .ref b3)]) hx hb d_Words_waysOf_41 hl (k := 0) rfl (by decide +kernel) (by decide) rfl (fun ls hl => ?_)
              refine lv_goto (tgt := 18) hx hb d_Words_waysOf_44 (by decide) ?_
              refine lv_iload hx hb d_Words_waysOf_18 (lv_at hl 0 rfl) ?_
              refine lv_aload_n hx hb d_Words_waysOf_20 rfl (lv_at hl 2 rfl) ?_
              refine va_get (D := G.1) (ci := 2) (v := .ref b17) (C := R_Traces) (T := F_Traces) (N := 6) hx hb hts i_Traces hown hK hP 2 rfl rfl 3 (by decide) (hts _ q69) (fun _ h9 => h9) rfl d_Words_waysOf_21 ?_
              refine lv_iload_n hx hb d_Words_waysOf_24 rfl (lv_at hl 3 rfl) ?_
              refine va_iald hx hb hK hP 0 0 rfl rfl (zI.inn hb2 (by decide)) d_Words_waysOf_25 ?_
              refine lv_topi (fun v_303 ev_303 => ?_)
              obtain rfl : v_3 = v_303 := ev_3.trans ev_303.symm
              refine lv_icmp_ge (tgt := 47) hx hb d_Words_waysOf_26 (by decide) (fun hc_304 => ?_) (fun hc_304 => ?_)
              · have _nhc_304 := hc_304
                have ni_305 := (fa_le _ _).mp hc_304
                rw [li_6] at ni_305
                have hv_306 : zI v_3 6 6 := zI.le_l hv_295 zc_6 hc_304 (by decide)
                refine lv_iconst (v := 0) hx hb d_Words_waysOf_47 (by decide) ?_
                refine lv_istore (lv' := [(4, .int 0), (0, .ref b0), (1, .ref b1), (2, .int b2), (3, .ref b3)]) hx hb d_Words_waysOf_48 hl (by decide) rfl (fun ls hl => ?_)
                refine lv_iconst (v := 0) hx hb d_Words_waysOf_50 (by decide) ?_
                refine lv_istore (lv' := [(5, .int 0), (4, .int 0), (0, .ref b0), (1, .ref b1), (2, .int b2), (3, .ref b3)]) hx hb d_Words_waysOf_51 hl (by decide) rfl (fun ls hl => ?_)
                suffices key : ∀ (k_325 : Nat) (y_326 : Int32) (y_327 : Int32) (H : Heap) (locs : List Loc) (ls : Array Slot), (zI y_326 0 241) → (zI y_327 (-2147483648) 1000000) → (241 : Int) - y_326.toInt < (k_325 : Int) → va_P G.1 classes [(b17, .inl (G.2 0, 20, .inl b20)), (b27, .inl (G.2 0, 241, .inl b37)), (b1, .inr (2, [.int b14, .int b15, .int b16, .ref b17, .ref b18, .ref b19])), (b18, .inl (G.2 0, 240, .inl b21)), (b0, .inr (7, [.ref b4, .ref b5, .ref b6, .ref b7, .ref b8, .ref b9, .ref x_299, .ref x_300])), (x_299, .inl (G.2 0, 241, .inl f_301)), (x_300, .inl (G.2 0, 241, .inl f_302)), (b3, .inr (5, [.int b22, .int b23, .ref b24, .ref b25, .ref b26, .ref b27, .ref b28, .ref b29, .int b30, .ref b31, .ref b32, .ref b33, .ref b34, .ref b35, .ref b36])), (b31, .inl (G.2 0, 240, .inl b38))] H → va_D A [(b17, .inl (G.2 0, 20, .inl b20)), (b27, .inl (G.2 0, 241, .inl b37)), (b1, .inr (2, [.int b14, .int b15, .int b16, .ref b17, .ref b18, .ref b19])), (b18, .inl (G.2 0, 240, .inl b21)), (b0, .inr (7, [.ref b4, .ref b5, .ref b6, .ref b7, .ref b8, .ref b9, .ref x_299, .ref x_300])), (x_299, .inl (G.2 0, 241, .inl f_301)), (x_300, .inl (G.2 0, 241, .inl f_302)), (b3, .inr (5, [.int b22, .int b23, .ref b24, .ref b25, .ref b26, .ref b27, .ref b28, .ref b29, .int b30, .ref b31, .ref b32, .ref b33, .ref b34, .ref b35, .ref b36])), (b31, .inl (G.2 0, 240, .inl b38))] → va_S A s.heap H locs → lv_has ls 6 [(5, .int y_326), (4, .int y_327), (0, .ref b0), (1, .ref b1), (2, .int b2), (3, .ref b3)] → W p l e m_s1_Words_waysOf s m ([.ref b0, .ref b1, .int b2, .ref b3] : List Value).toArray below meth c H locs 0 0 (MQ below (zQ G (fun v w => ∃ (e0 : Int32), ∃ (e1 : Nat), ∃ (e2 : Nat), ∃ (e3 : Nat → Int32), ∃ (e4 : Nat → Int32), v = some (.int e0) ∧ w = [(b0, .inr (7, [.ref b4, .ref b5, .ref b6, .ref b7, .ref b8, .ref b9, .ref e1, .ref e2])), (e1, .inl (G.2 0, 241, .inl e3)), (e2, .inl (G.2 0, 241, .inl e4)), (b1, .inr (2, [.int b14, .int b15, .int b16, .ref b17, .ref b18, .ref b19])), (b17, .inl (G.2 0, 20, .inl b20)), (b18, .inl (G.2 0, 240, .inl b21)), (b3, .inr (5, [.int b22, .int b23, .ref b24, .ref b25, .ref b26, .ref b27, .ref b28, .ref b29, .int b30, .ref b31, .ref b32, .ref b33, .ref b34, .ref b35, .ref b36])), (b27, .inl (G.2 0, 241, .inl b37)), (b31, .inl (G.2 0, 240, .inl b38))] ∧ (zI e0 (-2147483648) 1000000)) A) ([.ref b0, .ref b1, .int b2, .ref b3] : List Value).toArray s m_s1_Words_waysOf.cells m_s1_Words_waysOf.slots A) (F0 m 53 ls []) by
                  exact key 242 (0) (0) _ _ _ (zI.wk (l' := 0) (h' := 241) zc_0 (by decide)) (zI.wk (l' := (-2147483648)) (h' := 1000000) zc_0 (by decide)) (zm_upi (zI.wk (l' := 0) (h' := 241) zc_0 (by decide)) (by decide)) hP hD hS (lv_sub hl [0, 1, 2, 3, 4, 5] rfl)
                intro k_325
                induction k_325 with
                | zero =>
                  intro y_326 y_327 H locs ls hy_326 hy_327 hmk_325 hP hD hS hl
                  exact (zm_up0 hy_326 hmk_325).elim
                | succ k_325 ihk_325 =>
                  intro y_326 y_327 H locs ls hy_326 hy_327 hmk_325 hP hD hS hl
                  refine lv_iload hx hb d_Words_waysOf_53 (lv_at hl 0 rfl) ?_
                  refine lv_aload_n hx hb d_Words_waysOf_55 rfl (lv_at hl 5 rfl) ?_
                  refine va_get (D := G.1) (ci := 5) (v := .int b23) (C := R_Machine) (T := F_Machine) (N := 15) hx hb hts i_Machine hown hK hP 7 rfl rfl 1 (by decide) (hts _ q166) (fun _ h9 => h9) rfl d_Words_waysOf_56 ?_
                  refine lv_icmp_ge (tgt := 95) hx hb d_Words_waysOf_59 (by decide) (fun hc_328 => ?_) (fun hc_328 => ?_)
                  · have _nhc_328 := hc_328
                    have ni_329 := (fa_le _ _).mp hc_328
                    refine lv_iload hx hb d_Words_waysOf_95 (lv_at hl 1 rfl) ?_
                    exact z_iret hx hb hr hlocks (hP.sub [4, 5, 6, 2, 0, 3, 7, 1, 8] rfl) (hD.sub [4, 5, 6, 2, 0, 3, 7, 1, 8] (by decide) rfl) hS (Nat.le_of_ble_eq_true rfl) (Nat.le_of_ble_eq_true rfl) d_Words_waysOf_97 ⟨y_327, x_299, x_300, f_301, f_302, rfl, rfl, hy_327⟩
                  · have _nhc_328 := hc_328
                    have ni_330 := (fa_lt _ _).mp (zi_nle hc_328)
                    have hv_331 : zI y_326 0 240 := zI.lt_l hy_326 hb23 (zi_nle hc_328) (by decide)
                    have hv_332 : zI b23 1 241 := zI.lt_r hy_326 hb23 (zi_nle hc_328) (by decide)
                    refine lv_aload_n hx hb d_Words_waysOf_62 rfl (lv_at hl 5 rfl) ?_
                    refine va_get (D := G.1) (ci := 5) (v := .ref b27) (C := R_Machine) (T := F_Machine) (N := 15) hx hb hts i_Machine hown hK hP 7 rfl rfl 5 (by decide) (hts _ q177) (fun _ h9 => h9) rfl d_Words_waysOf_63 ?_
                    refine lv_iload hx hb d_Words_waysOf_66 (lv_at hl 0 rfl) ?_
                    refine va_iald hx hb hK hP 1 0 rfl rfl (zI.inn hv_331 (by decide)) d_Words_waysOf_68 ?_
                    refine lv_topi (fun v_333 ev_333 => ?_)
                    refine lv_if_le (tgt := 89) hx hb d_Words_waysOf_69 (by decide) (fun hc_334 => ?_) (fun hc_334 => ?_)
                    · have _nhc_334 := hc_334
                      have ni_335 := (fa_le _ _).mp hc_334
                      rw [li_0] at ni_335
                      have hv_336 : zI v_333 (-2147483648) 0 := zI.le_l (zI_all v_333) zc_0 hc_334 (by decide)
                      obtain ⟨v_337, ev_337⟩ : ∃ z : Int32, z = y_326 + 1 := ⟨_, rfl⟩
                      obtain ⟨qv_337, hv_337⟩ := zI_add (l := 1) (h := 241) hv_331 zc_1 ev_337 (by decide)
                      rw [li_1] at qv_337
                      refine lv_iinc (v := v_337) (lv' := [(5, .int v_337), (4, .int y_327), (0, .ref b0), (1, .ref b1), (2, .int b2), (3, .ref b3)]) hx hb d_Words_waysOf_89 hl (k := 0) rfl (by rw [ev_337]; rfl) (by decide) rfl (fun ls hl => ?_)
                      refine lv_goto (tgt := 53) hx hb d_Words_waysOf_92 (by decide) ?_
                      exact ihk_325 (v_337) (y_327) _ _ _ (zI.wk (l' := 0) (h' := 241) hv_337 (by decide)) hy_327 (zm_up qv_337 hmk_325 (by decide)) hP hD hS (lv_sub hl [0, 1, 2, 3, 4, 5] rfl)
                    · have _nhc_334 := hc_334
                      have ni_338 := (fa_lt _ _).mp (zi_nle hc_334)
                      rw [li_0] at ni_338
                      have hv_339 : zI v_333 1 2147483647 := zI.lt_r zc_0 (zI_all v_333) (zi_nle hc_334) (by decide)
                      refine lv_iload hx hb d_Words_waysOf_72 (lv_at hl 1 rfl) ?_
                      refine lv_aload_n hx hb d_Words_waysOf_74 rfl (lv_at hl 2 rfl) ?_
                      refine va_get (D := G.1) (ci := 7) (v := .ref x_299) (C := R_Words) (T := F_Words) (N := 8) hx hb hts i_Words hown hK hP 4 rfl rfl 6 (by decide) (hts _ q272) (fun _ h9 => h9) rfl d_Words_waysOf_75 ?_
                      refine lv_iload hx hb d_Words_waysOf_78 (lv_at hl 0 rfl) ?_
                      refine va_iald hx hb hK hP 5 0 rfl rfl (zI.inn hv_331 (by decide)) d_Words_waysOf_80 ?_
                      refine lv_topi (fun v_340 ev_340 => ?_)
                      refine lv_iadd hx hb d_Words_waysOf_81 ?_
                      refine lv_topi (fun v_341 ev_341 => ?_)
                      refine lv_ldc hx hb hown (hts _ q813) d_Words_waysOf_82 ?_
                      refine va_mmin hx hb (hml.trans hl.1.symm) hown (hts _ q814) (hts _ q592) (hts _ q20) (hts _ q593) (Nat.le_of_ble_eq_true rfl) (Nat.le_of_ble_eq_true rfl) (Nat.le_of_ble_eq_true rfl) (Nat.le_of_ble_eq_true rfl) d_Words_waysOf_84 ?_
                      refine lv_topi (fun v_342 ev_342 => ?_)
                      have hv_342 := zI_min (l := (-2147483648)) (h := 1000000) (zI_all v_341) zc_1000000 ev_342 (by decide)
                      refine lv_istore (lv' := [(4, .int v_342), (5, .int y_326), (0, .ref b0), (1, .ref b1), (2, .int b2), (3, .ref b3)]) hx hb d_Words_waysOf_87 hl (by decide) rfl (fun ls hl => ?_)
                      obtain ⟨v_343, ev_343⟩ : ∃ z : Int32, z = y_326 + 1 := ⟨_, rfl⟩
                      obtain ⟨qv_343, hv_343⟩ := zI_add (l := 1) (h := 241) hv_331 zc_1 ev_343 (by decide)
                      rw [li_1] at qv_343
                      refine lv_iinc (v := v_343) (lv' := [(5, .int v_343), (4, .int v_342), (0, .ref b0), (1, .ref b1), (2, .int b2), (3, .ref b3)]) hx hb d_Words_waysOf_89 hl (k := 1) rfl (by rw [ev_343]; rfl) (by decide) rfl (fun ls hl => ?_)
                      refine lv_goto (tgt := 53) hx hb d_Words_waysOf_92 (by decide) ?_
                      exact ihk_325 (v_343) (v_342) _ _ _ (zI.wk (l' := 0) (h' := 241) hv_343 (by decide)) hv_342 (zm_up qv_343 hmk_325 (by decide)) hP hD hS (lv_sub hl [0, 1, 2, 3, 4, 5] rfl)
              · have _nhc_304 := hc_304
                have ni_344 := (fa_lt _ _).mp (zi_nle hc_304)
                rw [li_6] at ni_344
                have hv_345 : zI v_3 7 12 := zI.lt_r zc_6 hv_295 (zi_nle hc_304) (by decide)
                refine lv_aload_n hx hb d_Words_waysOf_29 rfl (lv_at hl 1 rfl) ?_
                refine lv_aload_n hx hb d_Words_waysOf_30 rfl (lv_at hl 4 rfl) ?_
                refine lv_aload_n hx hb d_Words_waysOf_31 rfl (lv_at hl 2 rfl) ?_
                refine lv_iload_n hx hb d_Words_waysOf_32 rfl (lv_at hl 3 rfl) ?_
                refine lv_iload hx hb d_Words_waysOf_33 (lv_at hl 0 rfl) ?_
                refine z_callV (index := 99) (As := [.int b2, .int 6]) (rest := [.ref b3, .ref b0]) (wr := [(b17, .inl (G.2 0, 20, .inl b20)), (b27, .inl (G.2 0, 241, .inl b37)), (b0, .inr (7, [.ref b4, .ref b5, .ref b6, .ref b7, .ref b8, .ref b9, .ref x_299, .ref x_300])), (x_299, .inl (G.2 0, 241, .inl f_301)), (x_300, .inl (G.2 0, 241, .inl f_302)), (b3, .inr (5, [.int b22, .int b23, .ref b24, .ref b25, .ref b26, .ref b27, .ref b28, .ref b29, .int b30, .ref b31, .ref b32, .ref b33, .ref b34, .ref b35, .ref b36])), (b31, .inl (G.2 0, 240, .inl b38))]) Z (s1_Traces_letterAt l G (b1) (b2) (6) (b14) (b15) (b16) (b17) (b18) (b19) (b21) hb2 (zI.wk (l' := 0) (h' := 11) zc_6 (by decide)) hb14 hb15 hb16 hb21) hl.1 q805 q580 q581 q3 q582 ⟨by decide, by decide, by show _ = some 2; decide +kernel⟩ ⟨Nat.le_of_ble_eq_true rfl, Nat.le_of_ble_eq_true rfl⟩ ⟨Nat.le_of_ble_eq_true rfl, Nat.le_of_ble_eq_true rfl⟩ rfl (Nat.le_of_ble_eq_true rfl) d_Words_waysOf_35 hP hD hS hA 2 2 rfl rfl rfl [2, 3] [0, 1, 4, 5, 6, 7, 8] rfl rfl rfl rfl (by decide) (fun v w1 H locs hw_346 hP hD hS => ?_)
                obtain ⟨x_347, rfl, rfl, hx_347⟩ := hw_346
                have hP : va_P G.1 classes [(b17, .inl (G.2 0, 20, .inl b20)), (b27, .inl (G.2 0, 241, .inl b37)), (b0, .inr (7, [.ref b4, .ref b5, .ref b6, .ref b7, .ref b8, .ref b9, .ref x_299, .ref x_300])), (x_299, .inl (G.2 0, 241, .inl f_301)), (x_300, .inl (G.2 0, 241, .inl f_302)), (b3, .inr (5, [.int b22, .int b23, .ref b24, .ref b25, .ref b26, .ref b27, .ref b28, .ref b29, .int b30, .ref b31, .ref b32, .ref b33, .ref b34, .ref b35, .ref b36])), (b31, .inl (G.2 0, 240, .inl b38)), (b1, .inr (2, [.int b14, .int b15, .int b16, .ref b17, .ref b18, .ref b19])), (b18, .inl (G.2 0, 240, .inl b21))] H := hP
                have hD := z_tie hP hD rfl
                refine W.widen (k := 0) (n := 0) (Nat.le_of_ble_eq_true rfl) (Nat.le_of_ble_eq_true rfl) ?_
                refine z_callV (index := 103) (As := [.ref b3, .int x_347]) (rest := []) (wr := [(b17, .inl (G.2 0, 20, .inl b20)), (b27, .inl (G.2 0, 241, .inl b37)), (b1, .inr (2, [.int b14, .int b15, .int b16, .ref b17, .ref b18, .ref b19])), (b18, .inl (G.2 0, 240, .inl b21))]) Z (s2_Words_stepWays l G (b0) (b3) (x_347) (b4) (b5) (b6) (b7) (b8) (b9) (x_299) (x_300) (f_301) (f_302) (b22) (b23) (b24) (b25) (b26) (b27) (b28) (b29) (b30) (b31) (b32) (b33) (b34) (b35) (b36) (b38) hx_347 hb22 hb23 hb30 hb38) hl.1 q806 q808 qs22 q8 q809 ⟨by decide, by decide, by show _ = some 2; decide +kernel⟩ ⟨Nat.le_of_ble_eq_true rfl, Nat.le_of_ble_eq_true rfl⟩ ⟨Nat.le_of_ble_eq_true rfl, Nat.le_of_ble_eq_true rfl⟩ rfl (Nat.le_of_ble_eq_true rfl) d_Words_waysOf_38 hP hD hS hA 2 7 rfl rfl rfl [2, 3, 4, 5, 6] [0, 1, 7, 8] rfl rfl rfl rfl (by decide) (fun v w1 H locs hw_348 hP hD hS => ?_)
                obtain ⟨x_349, x_350, f_351, f_352, rfl, rfl⟩ := hw_348
                have hP : va_P G.1 classes [(b17, .inl (G.2 0, 20, .inl b20)), (b27, .inl (G.2 0, 241, .inl b37)), (b1, .inr (2, [.int b14, .int b15, .int b16, .ref b17, .ref b18, .ref b19])), (b18, .inl (G.2 0, 240, .inl b21)), (b0, .inr (7, [.ref b4, .ref b5, .ref b6, .ref b7, .ref b8, .ref b9, .ref x_349, .ref x_350])), (x_349, .inl (G.2 0, 241, .inl f_351)), (x_350, .inl (G.2 0, 241, .inl f_352)), (b3, .inr (5, [.int b22, .int b23, .ref b24, .ref b25, .ref b26, .ref b27, .ref b28, .ref b29, .int b30, .ref b31, .ref b32, .ref b33, .ref b34, .ref b35, .ref b36])), (b31, .inl (G.2 0, 240, .inl b38))] H := hP
                have hD := z_tie hP hD rfl
                refine W.widen (k := 0) (n := 0) (Nat.le_of_ble_eq_true rfl) (Nat.le_of_ble_eq_true rfl) ?_
                refine lv_iinc (v := 7) (lv' := [(4, .int 7), (0, .ref b0), (1, .ref b1), (2, .int b2), (3, .ref b3)]) hx hb d_Words_waysOf_41 hl (k := 0) rfl (by decide +kernel) (by decide) rfl (fun ls hl => ?_)
                refine lv_goto (tgt := 18) hx hb d_Words_waysOf_44 (by decide) ?_
                refine lv_iload hx hb d_Words_waysOf_18 (lv_at hl 0 rfl) ?_
                refine lv_aload_n hx hb d_Words_waysOf_20 rfl (lv_at hl 2 rfl) ?_
                refine va_get (D := G.1) (ci := 2) (v := .ref b17) (C := R_Traces) (T := F_Traces) (N := 6) hx hb hts i_Traces hown hK hP 2 rfl rfl 3 (by decide) (hts _ q69) (fun _ h9 => h9) rfl d_Words_waysOf_21 ?_
                refine lv_iload_n hx hb d_Words_waysOf_24 rfl (lv_at hl 3 rfl) ?_
                refine va_iald hx hb hK hP 0 0 rfl rfl (zI.inn hb2 (by decide)) d_Words_waysOf_25 ?_
                refine lv_topi (fun v_353 ev_353 => ?_)
                obtain rfl : v_3 = v_353 := ev_3.trans ev_353.symm
                refine lv_icmp_ge (tgt := 47) hx hb d_Words_waysOf_26 (by decide) (fun hc_354 => ?_) (fun hc_354 => ?_)
                · have _nhc_354 := hc_354
                  have ni_355 := (fa_le _ _).mp hc_354
                  rw [li_7] at ni_355
                  have hv_356 : zI v_3 7 7 := zI.le_l hv_345 zc_7 hc_354 (by decide)
                  refine lv_iconst (v := 0) hx hb d_Words_waysOf_47 (by decide) ?_
                  refine lv_istore (lv' := [(4, .int 0), (0, .ref b0), (1, .ref b1), (2, .int b2), (3, .ref b3)]) hx hb d_Words_waysOf_48 hl (by decide) rfl (fun ls hl => ?_)
                  refine lv_iconst (v := 0) hx hb d_Words_waysOf_50 (by decide) ?_
                  refine lv_istore (lv' := [(5, .int 0), (4, .int 0), (0, .ref b0), (1, .ref b1), (2, .int b2), (3, .ref b3)]) hx hb d_Words_waysOf_51 hl (by decide) rfl (fun ls hl => ?_)
                  suffices key : ∀ (k_375 : Nat) (y_376 : Int32) (y_377 : Int32) (H : Heap) (locs : List Loc) (ls : Array Slot), (zI y_376 0 241) → (zI y_377 (-2147483648) 1000000) → (241 : Int) - y_376.toInt < (k_375 : Int) → va_P G.1 classes [(b17, .inl (G.2 0, 20, .inl b20)), (b27, .inl (G.2 0, 241, .inl b37)), (b1, .inr (2, [.int b14, .int b15, .int b16, .ref b17, .ref b18, .ref b19])), (b18, .inl (G.2 0, 240, .inl b21)), (b0, .inr (7, [.ref b4, .ref b5, .ref b6, .ref b7, .ref b8, .ref b9, .ref x_349, .ref x_350])), (x_349, .inl (G.2 0, 241, .inl f_351)), (x_350, .inl (G.2 0, 241, .inl f_352)), (b3, .inr (5, [.int b22, .int b23, .ref b24, .ref b25, .ref b26, .ref b27, .ref b28, .ref b29, .int b30, .ref b31, .ref b32, .ref b33, .ref b34, .ref b35, .ref b36])), (b31, .inl (G.2 0, 240, .inl b38))] H → va_D A [(b17, .inl (G.2 0, 20, .inl b20)), (b27, .inl (G.2 0, 241, .inl b37)), (b1, .inr (2, [.int b14, .int b15, .int b16, .ref b17, .ref b18, .ref b19])), (b18, .inl (G.2 0, 240, .inl b21)), (b0, .inr (7, [.ref b4, .ref b5, .ref b6, .ref b7, .ref b8, .ref b9, .ref x_349, .ref x_350])), (x_349, .inl (G.2 0, 241, .inl f_351)), (x_350, .inl (G.2 0, 241, .inl f_352)), (b3, .inr (5, [.int b22, .int b23, .ref b24, .ref b25, .ref b26, .ref b27, .ref b28, .ref b29, .int b30, .ref b31, .ref b32, .ref b33, .ref b34, .ref b35, .ref b36])), (b31, .inl (G.2 0, 240, .inl b38))] → va_S A s.heap H locs → lv_has ls 6 [(5, .int y_376), (4, .int y_377), (0, .ref b0), (1, .ref b1), (2, .int b2), (3, .ref b3)] → W p l e m_s1_Words_waysOf s m ([.ref b0, .ref b1, .int b2, .ref b3] : List Value).toArray below meth c H locs 0 0 (MQ below (zQ G (fun v w => ∃ (e0 : Int32), ∃ (e1 : Nat), ∃ (e2 : Nat), ∃ (e3 : Nat → Int32), ∃ (e4 : Nat → Int32), v = some (.int e0) ∧ w = [(b0, .inr (7, [.ref b4, .ref b5, .ref b6, .ref b7, .ref b8, .ref b9, .ref e1, .ref e2])), (e1, .inl (G.2 0, 241, .inl e3)), (e2, .inl (G.2 0, 241, .inl e4)), (b1, .inr (2, [.int b14, .int b15, .int b16, .ref b17, .ref b18, .ref b19])), (b17, .inl (G.2 0, 20, .inl b20)), (b18, .inl (G.2 0, 240, .inl b21)), (b3, .inr (5, [.int b22, .int b23, .ref b24, .ref b25, .ref b26, .ref b27, .ref b28, .ref b29, .int b30, .ref b31, .ref b32, .ref b33, .ref b34, .ref b35, .ref b36])), (b27, .inl (G.2 0, 241, .inl b37)), (b31, .inl (G.2 0, 240, .inl b38))] ∧ (zI e0 (-2147483648) 1000000)) A) ([.ref b0, .ref b1, .int b2, .ref b3] : List Value).toArray s m_s1_Words_waysOf.cells m_s1_Words_waysOf.slots A) (F0 m 53 ls []) by
                    exact key 242 (0) (0) _ _ _ (zI.wk (l' := 0) (h' := 241) zc_0 (by decide)) (zI.wk (l' := (-2147483648)) (h' := 1000000) zc_0 (by decide)) (zm_upi (zI.wk (l' := 0) (h' := 241) zc_0 (by decide)) (by decide)) hP hD hS (lv_sub hl [0, 1, 2, 3, 4, 5] rfl)
                  intro k_375
                  induction k_375 with
                  | zero =>
                    intro y_376 y_377 H locs ls hy_376 hy_377 hmk_375 hP hD hS hl
                    exact (zm_up0 hy_376 hmk_375).elim
                  | succ k_375 ihk_375 =>
                    intro y_376 y_377 H locs ls hy_376 hy_377 hmk_375 hP hD hS hl
                    refine lv_iload hx hb d_Words_waysOf_53 (lv_at hl 0 rfl) ?_
                    refine lv_aload_n hx hb d_Words_waysOf_55 rfl (lv_at hl 5 rfl) ?_
                    refine va_get (D := G.1) (ci := 5) (v := .int b23) (C := R_Machine) (T := F_Machine) (N := 15) hx hb hts i_Machine hown hK hP 7 rfl rfl 1 (by decide) (hts _ q166) (fun _ h9 => h9) rfl d_Words_waysOf_56 ?_
                    refine lv_icmp_ge (tgt := 95) hx hb d_Words_waysOf_59 (by decide) (fun hc_378 => ?_) (fun hc_378 => ?_)
                    · have _nhc_378 := hc_378
                      have ni_379 := (fa_le _ _).mp hc_378
                      refine lv_iload hx hb d_Words_waysOf_95 (lv_at hl 1 rfl) ?_
                      exact z_iret hx hb hr hlocks (hP.sub [4, 5, 6, 2, 0, 3, 7, 1, 8] rfl) (hD.sub [4, 5, 6, 2, 0, 3, 7, 1, 8] (by decide) rfl) hS (Nat.le_of_ble_eq_true rfl) (Nat.le_of_ble_eq_true rfl) d_Words_waysOf_97 ⟨y_377, x_349, x_350, f_351, f_352, rfl, rfl, hy_377⟩
                    · have _nhc_378 := hc_378
                      have ni_380 := (fa_lt _ _).mp (zi_nle hc_378)
                      have hv_381 : zI y_376 0 240 := zI.lt_l hy_376 hb23 (zi_nle hc_378) (by decide)
                      have hv_382 : zI b23 1 241 := zI.lt_r hy_376 hb23 (zi_nle hc_378) (by decide)
                      refine lv_aload_n hx hb d_Words_waysOf_62 rfl (lv_at hl 5 rfl) ?_
                      refine va_get (D := G.1) (ci := 5) (v := .ref b27) (C := R_Machine) (T := F_Machine) (N := 15) hx hb hts i_Machine hown hK hP 7 rfl rfl 5 (by decide) (hts _ q177) (fun _ h9 => h9) rfl d_Words_waysOf_63 ?_
                      refine lv_iload hx hb d_Words_waysOf_66 (lv_at hl 0 rfl) ?_
                      refine va_iald hx hb hK hP 1 0 rfl rfl (zI.inn hv_381 (by decide)) d_Words_waysOf_68 ?_
                      refine lv_topi (fun v_383 ev_383 => ?_)
                      refine lv_if_le (tgt := 89) hx hb d_Words_waysOf_69 (by decide) (fun hc_384 => ?_) (fun hc_384 => ?_)
                      · have _nhc_384 := hc_384
                        have ni_385 := (fa_le _ _).mp hc_384
                        rw [li_0] at ni_385
                        have hv_386 : zI v_383 (-2147483648) 0 := zI.le_l (zI_all v_383) zc_0 hc_384 (by decide)
                        obtain ⟨v_387, ev_387⟩ : ∃ z : Int32, z = y_376 + 1 := ⟨_, rfl⟩
                        obtain ⟨qv_387, hv_387⟩ := zI_add (l := 1) (h := 241) hv_381 zc_1 ev_387 (by decide)
                        rw [li_1] at qv_387
                        refine lv_iinc (v := v_387) (lv' := [(5, .int v_387), (4, .int y_377), (0, .ref b0), (1, .ref b1), (2, .int b2), (3, .ref b3)]) hx hb d_Words_waysOf_89 hl (k := 0) rfl (by rw [ev_387]; rfl) (by decide) rfl (fun ls hl => ?_)
                        refine lv_goto (tgt := 53) hx hb d_Words_waysOf_92 (by decide) ?_
                        exact ihk_375 (v_387) (y_377) _ _ _ (zI.wk (l' := 0) (h' := 241) hv_387 (by decide)) hy_377 (zm_up qv_387 hmk_375 (by decide)) hP hD hS (lv_sub hl [0, 1, 2, 3, 4, 5] rfl)
                      · have _nhc_384 := hc_384
                        have ni_388 := (fa_lt _ _).mp (zi_nle hc_384)
                        rw [li_0] at ni_388
                        have hv_389 : zI v_383 1 2147483647 := zI.lt_r zc_0 (zI_all v_383) (zi_nle hc_384) (by decide)
                        refine lv_iload hx hb d_Words_waysOf_72 (lv_at hl 1 rfl) ?_
                        refine lv_aload_n hx hb d_Words_waysOf_74 rfl (lv_at hl 2 rfl) ?_
                        refine va_get (D := G.1) (ci := 7) (v := .ref x_349) (C := R_Words) (T := F_Words) (N := 8) hx hb hts i_Words hown hK hP 4 rfl rfl 6 (by decide) (hts _ q272) (fun _ h9 => h9) rfl d_Words_waysOf_75 ?_
                        refine lv_iload hx hb d_Words_waysOf_78 (lv_at hl 0 rfl) ?_
                        refine va_iald hx hb hK hP 5 0 rfl rfl (zI.inn hv_381 (by decide)) d_Words_waysOf_80 ?_
                        refine lv_topi (fun v_390 ev_390 => ?_)
                        refine lv_iadd hx hb d_Words_waysOf_81 ?_
                        refine lv_topi (fun v_391 ev_391 => ?_)
                        refine lv_ldc hx hb hown (hts _ q813) d_Words_waysOf_82 ?_
                        refine va_mmin hx hb (hml.trans hl.1.symm) hown (hts _ q814) (hts _ q592) (hts _ q20) (hts _ q593) (Nat.le_of_ble_eq_true rfl) (Nat.le_of_ble_eq_true rfl) (Nat.le_of_ble_eq_true rfl) (Nat.le_of_ble_eq_true rfl) d_Words_waysOf_84 ?_
                        refine lv_topi (fun v_392 ev_392 => ?_)
                        have hv_392 := zI_min (l := (-2147483648)) (h := 1000000) (zI_all v_391) zc_1000000 ev_392 (by decide)
                        refine lv_istore (lv' := [(4, .int v_392), (5, .int y_376), (0, .ref b0), (1, .ref b1), (2, .int b2), (3, .ref b3)]) hx hb d_Words_waysOf_87 hl (by decide) rfl (fun ls hl => ?_)
                        obtain ⟨v_393, ev_393⟩ : ∃ z : Int32, z = y_376 + 1 := ⟨_, rfl⟩
                        obtain ⟨qv_393, hv_393⟩ := zI_add (l := 1) (h := 241) hv_381 zc_1 ev_393 (by decide)
                        rw [li_1] at qv_393
                        refine lv_iinc (v := v_393) (lv' := [(5, .int v_393), (4, .int v_392), (0, .ref b0), (1, .ref b1), (2, .int b2), (3, .ref b3)]) hx hb d_Words_waysOf_89 hl (k := 1) rfl (by rw [ev_393]; rfl) (by decide) rfl (fun ls hl => ?_)
                        refine lv_goto (tgt := 53) hx hb d_Words_waysOf_92 (by decide) ?_
                        exact ihk_375 (v_393) (v_392) _ _ _ (zI.wk (l' := 0) (h' := 241) hv_393 (by decide)) hv_392 (zm_up qv_393 hmk_375 (by decide)) hP hD hS (lv_sub hl [0, 1, 2, 3, 4, 5] rfl)
                · have _nhc_354 := hc_354
                  have ni_394 := (fa_lt _ _).mp (zi_nle hc_354)
                  rw [li_7] at ni_394
                  have hv_395 : zI v_3 8 12 := zI.lt_r zc_7 hv_345 (zi_nle hc_354) (by decide)
                  refine lv_aload_n hx hb d_Words_waysOf_29 rfl (lv_at hl 1 rfl) ?_
                  refine lv_aload_n hx hb d_Words_waysOf_30 rfl (lv_at hl 4 rfl) ?_
                  refine lv_aload_n hx hb d_Words_waysOf_31 rfl (lv_at hl 2 rfl) ?_
                  refine lv_iload_n hx hb d_Words_waysOf_32 rfl (lv_at hl 3 rfl) ?_
                  refine lv_iload hx hb d_Words_waysOf_33 (lv_at hl 0 rfl) ?_
                  refine z_callV (index := 99) (As := [.int b2, .int 7]) (rest := [.ref b3, .ref b0]) (wr := [(b17, .inl (G.2 0, 20, .inl b20)), (b27, .inl (G.2 0, 241, .inl b37)), (b0, .inr (7, [.ref b4, .ref b5, .ref b6, .ref b7, .ref b8, .ref b9, .ref x_349, .ref x_350])), (x_349, .inl (G.2 0, 241, .inl f_351)), (x_350, .inl (G.2 0, 241, .inl f_352)), (b3, .inr (5, [.int b22, .int b23, .ref b24, .ref b25, .ref b26, .ref b27, .ref b28, .ref b29, .int b30, .ref b31, .ref b32, .ref b33, .ref b34, .ref b35, .ref b36])), (b31, .inl (G.2 0, 240, .inl b38))]) Z (s1_Traces_letterAt l G (b1) (b2) (7) (b14) (b15) (b16) (b17) (b18) (b19) (b21) hb2 (zI.wk (l' := 0) (h' := 11) zc_7 (by decide)) hb14 hb15 hb16 hb21) hl.1 q805 q580 q581 q3 q582 ⟨by decide, by decide, by show _ = some 2; decide +kernel⟩ ⟨Nat.le_of_ble_eq_true rfl, Nat.le_of_ble_eq_true rfl⟩ ⟨Nat.le_of_ble_eq_true rfl, Nat.le_of_ble_eq_true rfl⟩ rfl (Nat.le_of_ble_eq_true rfl) d_Words_waysOf_35 hP hD hS hA 2 2 rfl rfl rfl [2, 3] [0, 1, 4, 5, 6, 7, 8] rfl rfl rfl rfl (by decide) (fun v w1 H locs hw_396 hP hD hS => ?_)
                  obtain ⟨x_397, rfl, rfl, hx_397⟩ := hw_396
                  have hP : va_P G.1 classes [(b17, .inl (G.2 0, 20, .inl b20)), (b27, .inl (G.2 0, 241, .inl b37)), (b0, .inr (7, [.ref b4, .ref b5, .ref b6, .ref b7, .ref b8, .ref b9, .ref x_349, .ref x_350])), (x_349, .inl (G.2 0, 241, .inl f_351)), (x_350, .inl (G.2 0, 241, .inl f_352)), (b3, .inr (5, [.int b22, .int b23, .ref b24, .ref b25, .ref b26, .ref b27, .ref b28, .ref b29, .int b30, .ref b31, .ref b32, .ref b33, .ref b34, .ref b35, .ref b36])), (b31, .inl (G.2 0, 240, .inl b38)), (b1, .inr (2, [.int b14, .int b15, .int b16, .ref b17, .ref b18, .ref b19])), (b18, .inl (G.2 0, 240, .inl b21))] H := hP
                  have hD := z_tie hP hD rfl
                  refine W.widen (k := 0) (n := 0) (Nat.le_of_ble_eq_true rfl) (Nat.le_of_ble_eq_true rfl) ?_
                  refine z_callV (index := 103) (As := [.ref b3, .int x_397]) (rest := []) (wr := [(b17, .inl (G.2 0, 20, .inl b20)), (b27, .inl (G.2 0, 241, .inl b37)), (b1, .inr (2, [.int b14, .int b15, .int b16, .ref b17, .ref b18, .ref b19])), (b18, .inl (G.2 0, 240, .inl b21))]) Z (s2_Words_stepWays l G (b0) (b3) (x_397) (b4) (b5) (b6) (b7) (b8) (b9) (x_349) (x_350) (f_351) (f_352) (b22) (b23) (b24) (b25) (b26) (b27) (b28) (b29) (b30) (b31) (b32) (b33) (b34) (b35) (b36) (b38) hx_397 hb22 hb23 hb30 hb38) hl.1 q806 q808 qs22 q8 q809 ⟨by decide, by decide, by show _ = some 2; decide +kernel⟩ ⟨Nat.le_of_ble_eq_true rfl, Nat.le_of_ble_eq_true rfl⟩ ⟨Nat.le_of_ble_eq_true rfl, Nat.le_of_ble_eq_true rfl⟩ rfl (Nat.le_of_ble_eq_true rfl) d_Words_waysOf_38 hP hD hS hA 2 7 rfl rfl rfl [2, 3, 4, 5, 6] [0, 1, 7, 8] rfl rfl rfl rfl (by decide) (fun v w1 H locs hw_398 hP hD hS => ?_)
                  obtain ⟨x_399, x_400, f_401, f_402, rfl, rfl⟩ := hw_398
                  have hP : va_P G.1 classes [(b17, .inl (G.2 0, 20, .inl b20)), (b27, .inl (G.2 0, 241, .inl b37)), (b1, .inr (2, [.int b14, .int b15, .int b16, .ref b17, .ref b18, .ref b19])), (b18, .inl (G.2 0, 240, .inl b21)), (b0, .inr (7, [.ref b4, .ref b5, .ref b6, .ref b7, .ref b8, .ref b9, .ref x_399, .ref x_400])), (x_399, .inl (G.2 0, 241, .inl f_401)), (x_400, .inl (G.2 0, 241, .inl f_402)), (b3, .inr (5, [.int b22, .int b23, .ref b24, .ref b25, .ref b26, .ref b27, .ref b28, .ref b29, .int b30, .ref b31, .ref b32, .ref b33, .ref b34, .ref b35, .ref b36])), (b31, .inl (G.2 0, 240, .inl b38))] H := hP
                  have hD := z_tie hP hD rfl
                  refine W.widen (k := 0) (n := 0) (Nat.le_of_ble_eq_true rfl) (Nat.le_of_ble_eq_true rfl) ?_
                  refine lv_iinc (v := 8) (lv' := [(4, .int 8), (0, .ref b0), (1, .ref b1), (2, .int b2), (3, .ref b3)]) hx hb d_Words_waysOf_41 hl (k := 0) rfl (by decide +kernel) (by decide) rfl (fun ls hl => ?_)
                  refine lv_goto (tgt := 18) hx hb d_Words_waysOf_44 (by decide) ?_
                  refine lv_iload hx hb d_Words_waysOf_18 (lv_at hl 0 rfl) ?_
                  refine lv_aload_n hx hb d_Words_waysOf_20 rfl (lv_at hl 2 rfl) ?_
                  refine va_get (D := G.1) (ci := 2) (v := .ref b17) (C := R_Traces) (T := F_Traces) (N := 6) hx hb hts i_Traces hown hK hP 2 rfl rfl 3 (by decide) (hts _ q69) (fun _ h9 => h9) rfl d_Words_waysOf_21 ?_
                  refine lv_iload_n hx hb d_Words_waysOf_24 rfl (lv_at hl 3 rfl) ?_
                  refine va_iald hx hb hK hP 0 0 rfl rfl (zI.inn hb2 (by decide)) d_Words_waysOf_25 ?_
                  refine lv_topi (fun v_403 ev_403 => ?_)
                  obtain rfl : v_3 = v_403 := ev_3.trans ev_403.symm
                  refine lv_icmp_ge (tgt := 47) hx hb d_Words_waysOf_26 (by decide) (fun hc_404 => ?_) (fun hc_404 => ?_)
                  · have _nhc_404 := hc_404
                    have ni_405 := (fa_le _ _).mp hc_404
                    rw [li_8] at ni_405
                    have hv_406 : zI v_3 8 8 := zI.le_l hv_395 zc_8 hc_404 (by decide)
                    refine lv_iconst (v := 0) hx hb d_Words_waysOf_47 (by decide) ?_
                    refine lv_istore (lv' := [(4, .int 0), (0, .ref b0), (1, .ref b1), (2, .int b2), (3, .ref b3)]) hx hb d_Words_waysOf_48 hl (by decide) rfl (fun ls hl => ?_)
                    refine lv_iconst (v := 0) hx hb d_Words_waysOf_50 (by decide) ?_
                    refine lv_istore (lv' := [(5, .int 0), (4, .int 0), (0, .ref b0), (1, .ref b1), (2, .int b2), (3, .ref b3)]) hx hb d_Words_waysOf_51 hl (by decide) rfl (fun ls hl => ?_)
                    suffices key : ∀ (k_425 : Nat) (y_426 : Int32) (y_427 : Int32) (H : Heap) (locs : List Loc) (ls : Array Slot), (zI y_426 0 241) → (zI y_427 (-2147483648) 1000000) → (241 : Int) - y_426.toInt < (k_425 : Int) → va_P G.1 classes [(b17, .inl (G.2 0, 20, .inl b20)), (b27, .inl (G.2 0, 241, .inl b37)), (b1, .inr (2, [.int b14, .int b15, .int b16, .ref b17, .ref b18, .ref b19])), (b18, .inl (G.2 0, 240, .inl b21)), (b0, .inr (7, [.ref b4, .ref b5, .ref b6, .ref b7, .ref b8, .ref b9, .ref x_399, .ref x_400])), (x_399, .inl (G.2 0, 241, .inl f_401)), (x_400, .inl (G.2 0, 241, .inl f_402)), (b3, .inr (5, [.int b22, .int b23, .ref b24, .ref b25, .ref b26, .ref b27, .ref b28, .ref b29, .int b30, .ref b31, .ref b32, .ref b33, .ref b34, .ref b35, .ref b36])), (b31, .inl (G.2 0, 240, .inl b38))] H → va_D A [(b17, .inl (G.2 0, 20, .inl b20)), (b27, .inl (G.2 0, 241, .inl b37)), (b1, .inr (2, [.int b14, .int b15, .int b16, .ref b17, .ref b18, .ref b19])), (b18, .inl (G.2 0, 240, .inl b21)), (b0, .inr (7, [.ref b4, .ref b5, .ref b6, .ref b7, .ref b8, .ref b9, .ref x_399, .ref x_400])), (x_399, .inl (G.2 0, 241, .inl f_401)), (x_400, .inl (G.2 0, 241, .inl f_402)), (b3, .inr (5, [.int b22, .int b23, .ref b24, .ref b25, .ref b26, .ref b27, .ref b28, .ref b29, .int b30, .ref b31, .ref b32, .ref b33, .ref b34, .ref b35, .ref b36])), (b31, .inl (G.2 0, 240, .inl b38))] → va_S A s.heap H locs → lv_has ls 6 [(5, .int y_426), (4, .int y_427), (0, .ref b0), (1, .ref b1), (2, .int b2), (3, .ref b3)] → W p l e m_s1_Words_waysOf s m ([.ref b0, .ref b1, .int b2, .ref b3] : List Value).toArray below meth c H locs 0 0 (MQ below (zQ G (fun v w => ∃ (e0 : Int32), ∃ (e1 : Nat), ∃ (e2 : Nat), ∃ (e3 : Nat → Int32), ∃ (e4 : Nat → Int32), v = some (.int e0) ∧ w = [(b0, .inr (7, [.ref b4, .ref b5, .ref b6, .ref b7, .ref b8, .ref b9, .ref e1, .ref e2])), (e1, .inl (G.2 0, 241, .inl e3)), (e2, .inl (G.2 0, 241, .inl e4)), (b1, .inr (2, [.int b14, .int b15, .int b16, .ref b17, .ref b18, .ref b19])), (b17, .inl (G.2 0, 20, .inl b20)), (b18, .inl (G.2 0, 240, .inl b21)), (b3, .inr (5, [.int b22, .int b23, .ref b24, .ref b25, .ref b26, .ref b27, .ref b28, .ref b29, .int b30, .ref b31, .ref b32, .ref b33, .ref b34, .ref b35, .ref b36])), (b27, .inl (G.2 0, 241, .inl b37)), (b31, .inl (G.2 0, 240, .inl b38))] ∧ (zI e0 (-2147483648) 1000000)) A) ([.ref b0, .ref b1, .int b2, .ref b3] : List Value).toArray s m_s1_Words_waysOf.cells m_s1_Words_waysOf.slots A) (F0 m 53 ls []) by
                      exact key 242 (0) (0) _ _ _ (zI.wk (l' := 0) (h' := 241) zc_0 (by decide)) (zI.wk (l' := (-2147483648)) (h' := 1000000) zc_0 (by decide)) (zm_upi (zI.wk (l' := 0) (h' := 241) zc_0 (by decide)) (by decide)) hP hD hS (lv_sub hl [0, 1, 2, 3, 4, 5] rfl)
                    intro k_425
                    induction k_425 with
                    | zero =>
                      intro y_426 y_427 H locs ls hy_426 hy_427 hmk_425 hP hD hS hl
                      exact (zm_up0 hy_426 hmk_425).elim
                    | succ k_425 ihk_425 =>
                      intro y_426 y_427 H locs ls hy_426 hy_427 hmk_425 hP hD hS hl
                      refine lv_iload hx hb d_Words_waysOf_53 (lv_at hl 0 rfl) ?_
                      refine lv_aload_n hx hb d_Words_waysOf_55 rfl (lv_at hl 5 rfl) ?_
                      refine va_get (D := G.1) (ci := 5) (v := .int b23) (C := R_Machine) (T := F_Machine) (N := 15) hx hb hts i_Machine hown hK hP 7 rfl rfl 1 (by decide) (hts _ q166) (fun _ h9 => h9) rfl d_Words_waysOf_56 ?_
                      refine lv_icmp_ge (tgt := 95) hx hb d_Words_waysOf_59 (by decide) (fun hc_428 => ?_) (fun hc_428 => ?_)
                      · have _nhc_428 := hc_428
                        have ni_429 := (fa_le _ _).mp hc_428
                        refine lv_iload hx hb d_Words_waysOf_95 (lv_at hl 1 rfl) ?_
                        exact z_iret hx hb hr hlocks (hP.sub [4, 5, 6, 2, 0, 3, 7, 1, 8] rfl) (hD.sub [4, 5, 6, 2, 0, 3, 7, 1, 8] (by decide) rfl) hS (Nat.le_of_ble_eq_true rfl) (Nat.le_of_ble_eq_true rfl) d_Words_waysOf_97 ⟨y_427, x_399, x_400, f_401, f_402, rfl, rfl, hy_427⟩
                      · have _nhc_428 := hc_428
                        have ni_430 := (fa_lt _ _).mp (zi_nle hc_428)
                        have hv_431 : zI y_426 0 240 := zI.lt_l hy_426 hb23 (zi_nle hc_428) (by decide)
                        have hv_432 : zI b23 1 241 := zI.lt_r hy_426 hb23 (zi_nle hc_428) (by decide)
                        refine lv_aload_n hx hb d_Words_waysOf_62 rfl (lv_at hl 5 rfl) ?_
                        refine va_get (D := G.1) (ci := 5) (v := .ref b27) (C := R_Machine) (T := F_Machine) (N := 15) hx hb hts i_Machine hown hK hP 7 rfl rfl 5 (by decide) (hts _ q177) (fun _ h9 => h9) rfl d_Words_waysOf_63 ?_
                        refine lv_iload hx hb d_Words_waysOf_66 (lv_at hl 0 rfl) ?_
                        refine va_iald hx hb hK hP 1 0 rfl rfl (zI.inn hv_431 (by decide)) d_Words_waysOf_68 ?_
                        refine lv_topi (fun v_433 ev_433 => ?_)
                        refine lv_if_le (tgt := 89) hx hb d_Words_waysOf_69 (by decide) (fun hc_434 => ?_) (fun hc_434 => ?_)
                        · have _nhc_434 := hc_434
                          have ni_435 := (fa_le _ _).mp hc_434
                          rw [li_0] at ni_435
                          have hv_436 : zI v_433 (-2147483648) 0 := zI.le_l (zI_all v_433) zc_0 hc_434 (by decide)
                          obtain ⟨v_437, ev_437⟩ : ∃ z : Int32, z = y_426 + 1 := ⟨_, rfl⟩
                          obtain ⟨qv_437, hv_437⟩ := zI_add (l := 1) (h := 241) hv_431 zc_1 ev_437 (by decide)
                          rw [li_1] at qv_437
                          refine lv_iinc (v := v_437) (lv' := [(5, .int v_437), (4, .int y_427), (0, .ref b0), (1, .ref b1), (2, .int b2), (3, .ref b3)]) hx hb d_Words_waysOf_89 hl (k := 0) rfl (by rw [ev_437]; rfl) (by decide) rfl (fun ls hl => ?_)
                          refine lv_goto (tgt := 53) hx hb d_Words_waysOf_92 (by decide) ?_
                          exact ihk_425 (v_437) (y_427) _ _ _ (zI.wk (l' := 0) (h' := 241) hv_437 (by decide)) hy_427 (zm_up qv_437 hmk_425 (by decide)) hP hD hS (lv_sub hl [0, 1, 2, 3, 4, 5] rfl)
                        · have _nhc_434 := hc_434
                          have ni_438 := (fa_lt _ _).mp (zi_nle hc_434)
                          rw [li_0] at ni_438
                          have hv_439 : zI v_433 1 2147483647 := zI.lt_r zc_0 (zI_all v_433) (zi_nle hc_434) (by decide)
                          refine lv_iload hx hb d_Words_waysOf_72 (lv_at hl 1 rfl) ?_
                          refine lv_aload_n hx hb d_Words_waysOf_74 rfl (lv_at hl 2 rfl) ?_
                          refine va_get (D := G.1) (ci := 7) (v := .ref x_399) (C := R_Words) (T := F_Words) (N := 8) hx hb hts i_Words hown hK hP 4 rfl rfl 6 (by decide) (hts _ q272) (fun _ h9 => h9) rfl d_Words_waysOf_75 ?_
                          refine lv_iload hx hb d_Words_waysOf_78 (lv_at hl 0 rfl) ?_
                          refine va_iald hx hb hK hP 5 0 rfl rfl (zI.inn hv_431 (by decide)) d_Words_waysOf_80 ?_
                          refine lv_topi (fun v_440 ev_440 => ?_)
                          refine lv_iadd hx hb d_Words_waysOf_81 ?_
                          refine lv_topi (fun v_441 ev_441 => ?_)
                          refine lv_ldc hx hb hown (hts _ q813) d_Words_waysOf_82 ?_
                          refine va_mmin hx hb (hml.trans hl.1.symm) hown (hts _ q814) (hts _ q592) (hts _ q20) (hts _ q593) (Nat.le_of_ble_eq_true rfl) (Nat.le_of_ble_eq_true rfl) (Nat.le_of_ble_eq_true rfl) (Nat.le_of_ble_eq_true rfl) d_Words_waysOf_84 ?_
                          refine lv_topi (fun v_442 ev_442 => ?_)
                          have hv_442 := zI_min (l := (-2147483648)) (h := 1000000) (zI_all v_441) zc_1000000 ev_442 (by decide)
                          refine lv_istore (lv' := [(4, .int v_442), (5, .int y_426), (0, .ref b0), (1, .ref b1), (2, .int b2), (3, .ref b3)]) hx hb d_Words_waysOf_87 hl (by decide) rfl (fun ls hl => ?_)
                          obtain ⟨v_443, ev_443⟩ : ∃ z : Int32, z = y_426 + 1 := ⟨_, rfl⟩
                          obtain ⟨qv_443, hv_443⟩ := zI_add (l := 1) (h := 241) hv_431 zc_1 ev_443 (by decide)
                          rw [li_1] at qv_443
                          refine lv_iinc (v := v_443) (lv' := [(5, .int v_443), (4, .int v_442), (0, .ref b0), (1, .ref b1), (2, .int b2), (3, .ref b3)]) hx hb d_Words_waysOf_89 hl (k := 1) rfl (by rw [ev_443]; rfl) (by decide) rfl (fun ls hl => ?_)
                          refine lv_goto (tgt := 53) hx hb d_Words_waysOf_92 (by decide) ?_
                          exact ihk_425 (v_443) (v_442) _ _ _ (zI.wk (l' := 0) (h' := 241) hv_443 (by decide)) hv_442 (zm_up qv_443 hmk_425 (by decide)) hP hD hS (lv_sub hl [0, 1, 2, 3, 4, 5] rfl)
                  · have _nhc_404 := hc_404
                    have ni_444 := (fa_lt _ _).mp (zi_nle hc_404)
                    rw [li_8] at ni_444
                    have hv_445 : zI v_3 9 12 := zI.lt_r zc_8 hv_395 (zi_nle hc_404) (by decide)
                    refine lv_aload_n hx hb d_Words_waysOf_29 rfl (lv_at hl 1 rfl) ?_
                    refine lv_aload_n hx hb d_Words_waysOf_30 rfl (lv_at hl 4 rfl) ?_
                    refine lv_aload_n hx hb d_Words_waysOf_31 rfl (lv_at hl 2 rfl) ?_
                    refine lv_iload_n hx hb d_Words_waysOf_32 rfl (lv_at hl 3 rfl) ?_
                    refine lv_iload hx hb d_Words_waysOf_33 (lv_at hl 0 rfl) ?_
                    refine z_callV (index := 99) (As := [.int b2, .int 8]) (rest := [.ref b3, .ref b0]) (wr := [(b17, .inl (G.2 0, 20, .inl b20)), (b27, .inl (G.2 0, 241, .inl b37)), (b0, .inr (7, [.ref b4, .ref b5, .ref b6, .ref b7, .ref b8, .ref b9, .ref x_399, .ref x_400])), (x_399, .inl (G.2 0, 241, .inl f_401)), (x_400, .inl (G.2 0, 241, .inl f_402)), (b3, .inr (5, [.int b22, .int b23, .ref b24, .ref b25, .ref b26, .ref b27, .ref b28, .ref b29, .int b30, .ref b31, .ref b32, .ref b33, .ref b34, .ref b35, .ref b36])), (b31, .inl (G.2 0, 240, .inl b38))]) Z (s1_Traces_letterAt l G (b1) (b2) (8) (b14) (b15) (b16) (b17) (b18) (b19) (b21) hb2 (zI.wk (l' := 0) (h' := 11) zc_8 (by decide)) hb14 hb15 hb16 hb21) hl.1 q805 q580 q581 q3 q582 ⟨by decide, by decide, by show _ = some 2; decide +kernel⟩ ⟨Nat.le_of_ble_eq_true rfl, Nat.le_of_ble_eq_true rfl⟩ ⟨Nat.le_of_ble_eq_true rfl, Nat.le_of_ble_eq_true rfl⟩ rfl (Nat.le_of_ble_eq_true rfl) d_Words_waysOf_35 hP hD hS hA 2 2 rfl rfl rfl [2, 3] [0, 1, 4, 5, 6, 7, 8] rfl rfl rfl rfl (by decide) (fun v w1 H locs hw_446 hP hD hS => ?_)
                    obtain ⟨x_447, rfl, rfl, hx_447⟩ := hw_446
                    have hP : va_P G.1 classes [(b17, .inl (G.2 0, 20, .inl b20)), (b27, .inl (G.2 0, 241, .inl b37)), (b0, .inr (7, [.ref b4, .ref b5, .ref b6, .ref b7, .ref b8, .ref b9, .ref x_399, .ref x_400])), (x_399, .inl (G.2 0, 241, .inl f_401)), (x_400, .inl (G.2 0, 241, .inl f_402)), (b3, .inr (5, [.int b22, .int b23, .ref b24, .ref b25, .ref b26, .ref b27, .ref b28, .ref b29, .int b30, .ref b31, .ref b32, .ref b33, .ref b34, .ref b35, .ref b36])), (b31, .inl (G.2 0, 240, .inl b38)), (b1, .inr (2, [.int b14, .int b15, .int b16, .ref b17, .ref b18, .ref b19])), (b18, .inl (G.2 0, 240, .inl b21))] H := hP
                    have hD := z_tie hP hD rfl
                    refine W.widen (k := 0) (n := 0) (Nat.le_of_ble_eq_true rfl) (Nat.le_of_ble_eq_true rfl) ?_
                    refine z_callV (index := 103) (As := [.ref b3, .int x_447]) (rest := []) (wr := [(b17, .inl (G.2 0, 20, .inl b20)), (b27, .inl (G.2 0, 241, .inl b37)), (b1, .inr (2, [.int b14, .int b15, .int b16, .ref b17, .ref b18, .ref b19])), (b18, .inl (G.2 0, 240, .inl b21))]) Z (s2_Words_stepWays l G (b0) (b3) (x_447) (b4) (b5) (b6) (b7) (b8) (b9) (x_399) (x_400) (f_401) (f_402) (b22) (b23) (b24) (b25) (b26) (b27) (b28) (b29) (b30) (b31) (b32) (b33) (b34) (b35) (b36) (b38) hx_447 hb22 hb23 hb30 hb38) hl.1 q806 q808 qs22 q8 q809 ⟨by decide, by decide, by show _ = some 2; decide +kernel⟩ ⟨Nat.le_of_ble_eq_true rfl, Nat.le_of_ble_eq_true rfl⟩ ⟨Nat.le_of_ble_eq_true rfl, Nat.le_of_ble_eq_true rfl⟩ rfl (Nat.le_of_ble_eq_true rfl) d_Words_waysOf_38 hP hD hS hA 2 7 rfl rfl rfl [2, 3, 4, 5, 6] [0, 1, 7, 8] rfl rfl rfl rfl (by decide) (fun v w1 H locs hw_448 hP hD hS => ?_)
                    obtain ⟨x_449, x_450, f_451, f_452, rfl, rfl⟩ := hw_448
                    have hP : va_P G.1 classes [(b17, .inl (G.2 0, 20, .inl b20)), (b27, .inl (G.2 0, 241, .inl b37)), (b1, .inr (2, [.int b14, .int b15, .int b16, .ref b17, .ref b18, .ref b19])), (b18, .inl (G.2 0, 240, .inl b21)), (b0, .inr (7, [.ref b4, .ref b5, .ref b6, .ref b7, .ref b8, .ref b9, .ref x_449, .ref x_450])), (x_449, .inl (G.2 0, 241, .inl f_451)), (x_450, .inl (G.2 0, 241, .inl f_452)), (b3, .inr (5, [.int b22, .int b23, .ref b24, .ref b25, .ref b26, .ref b27, .ref b28, .ref b29, .int b30, .ref b31, .ref b32, .ref b33, .ref b34, .ref b35, .ref b36])), (b31, .inl (G.2 0, 240, .inl b38))] H := hP
                    have hD := z_tie hP hD rfl
                    refine W.widen (k := 0) (n := 0) (Nat.le_of_ble_eq_true rfl) (Nat.le_of_ble_eq_true rfl) ?_
                    refine lv_iinc (v := 9) (lv' := [(4, .int 9), (0, .ref b0), (1, .ref b1), (2, .int b2), (3, .ref b3)]) hx hb d_Words_waysOf_41 hl (k := 0) rfl (by decide +kernel) (by decide) rfl (fun ls hl => ?_)
                    refine lv_goto (tgt := 18) hx hb d_Words_waysOf_44 (by decide) ?_
                    refine lv_iload hx hb d_Words_waysOf_18 (lv_at hl 0 rfl) ?_
                    refine lv_aload_n hx hb d_Words_waysOf_20 rfl (lv_at hl 2 rfl) ?_
                    refine va_get (D := G.1) (ci := 2) (v := .ref b17) (C := R_Traces) (T := F_Traces) (N := 6) hx hb hts i_Traces hown hK hP 2 rfl rfl 3 (by decide) (hts _ q69) (fun _ h9 => h9) rfl d_Words_waysOf_21 ?_
                    refine lv_iload_n hx hb d_Words_waysOf_24 rfl (lv_at hl 3 rfl) ?_
                    refine va_iald hx hb hK hP 0 0 rfl rfl (zI.inn hb2 (by decide)) d_Words_waysOf_25 ?_
                    refine lv_topi (fun v_453 ev_453 => ?_)
                    obtain rfl : v_3 = v_453 := ev_3.trans ev_453.symm
                    refine lv_icmp_ge (tgt := 47) hx hb d_Words_waysOf_26 (by decide) (fun hc_454 => ?_) (fun hc_454 => ?_)
                    · have _nhc_454 := hc_454
                      have ni_455 := (fa_le _ _).mp hc_454
                      rw [li_9] at ni_455
                      have hv_456 : zI v_3 9 9 := zI.le_l hv_445 zc_9 hc_454 (by decide)
                      refine lv_iconst (v := 0) hx hb d_Words_waysOf_47 (by decide) ?_
                      refine lv_istore (lv' := [(4, .int 0), (0, .ref b0), (1, .ref b1), (2, .int b2), (3, .ref b3)]) hx hb d_Words_waysOf_48 hl (by decide) rfl (fun ls hl => ?_)
                      refine lv_iconst (v := 0) hx hb d_Words_waysOf_50 (by decide) ?_
                      refine lv_istore (lv' := [(5, .int 0), (4, .int 0), (0, .ref b0), (1, .ref b1), (2, .int b2), (3, .ref b3)]) hx hb d_Words_waysOf_51 hl (by decide) rfl (fun ls hl => ?_)
                      suffices key : ∀ (k_475 : Nat) (y_476 : Int32) (y_477 : Int32) (H : Heap) (locs : List Loc) (ls : Array Slot), (zI y_476 0 241) → (zI y_477 (-2147483648) 1000000) → (241 : Int) - y_476.toInt < (k_475 : Int) → va_P G.1 classes [(b17, .inl (G.2 0, 20, .inl b20)), (b27, .inl (G.2 0, 241, .inl b37)), (b1, .inr (2, [.int b14, .int b15, .int b16, .ref b17, .ref b18, .ref b19])), (b18, .inl (G.2 0, 240, .inl b21)), (b0, .inr (7, [.ref b4, .ref b5, .ref b6, .ref b7, .ref b8, .ref b9, .ref x_449, .ref x_450])), (x_449, .inl (G.2 0, 241, .inl f_451)), (x_450, .inl (G.2 0, 241, .inl f_452)), (b3, .inr (5, [.int b22, .int b23, .ref b24, .ref b25, .ref b26, .ref b27, .ref b28, .ref b29, .int b30, .ref b31, .ref b32, .ref b33, .ref b34, .ref b35, .ref b36])), (b31, .inl (G.2 0, 240, .inl b38))] H → va_D A [(b17, .inl (G.2 0, 20, .inl b20)), (b27, .inl (G.2 0, 241, .inl b37)), (b1, .inr (2, [.int b14, .int b15, .int b16, .ref b17, .ref b18, .ref b19])), (b18, .inl (G.2 0, 240, .inl b21)), (b0, .inr (7, [.ref b4, .ref b5, .ref b6, .ref b7, .ref b8, .ref b9, .ref x_449, .ref x_450])), (x_449, .inl (G.2 0, 241, .inl f_451)), (x_450, .inl (G.2 0, 241, .inl f_452)), (b3, .inr (5, [.int b22, .int b23, .ref b24, .ref b25, .ref b26, .ref b27, .ref b28, .ref b29, .int b30, .ref b31, .ref b32, .ref b33, .ref b34, .ref b35, .ref b36])), (b31, .inl (G.2 0, 240, .inl b38))] → va_S A s.heap H locs → lv_has ls 6 [(5, .int y_476), (4, .int y_477), (0, .ref b0), (1, .ref b1), (2, .int b2), (3, .ref b3)] → W p l e m_s1_Words_waysOf s m ([.ref b0, .ref b1, .int b2, .ref b3] : List Value).toArray below meth c H locs 0 0 (MQ below (zQ G (fun v w => ∃ (e0 : Int32), ∃ (e1 : Nat), ∃ (e2 : Nat), ∃ (e3 : Nat → Int32), ∃ (e4 : Nat → Int32), v = some (.int e0) ∧ w = [(b0, .inr (7, [.ref b4, .ref b5, .ref b6, .ref b7, .ref b8, .ref b9, .ref e1, .ref e2])), (e1, .inl (G.2 0, 241, .inl e3)), (e2, .inl (G.2 0, 241, .inl e4)), (b1, .inr (2, [.int b14, .int b15, .int b16, .ref b17, .ref b18, .ref b19])), (b17, .inl (G.2 0, 20, .inl b20)), (b18, .inl (G.2 0, 240, .inl b21)), (b3, .inr (5, [.int b22, .int b23, .ref b24, .ref b25, .ref b26, .ref b27, .ref b28, .ref b29, .int b30, .ref b31, .ref b32, .ref b33, .ref b34, .ref b35, .ref b36])), (b27, .inl (G.2 0, 241, .inl b37)), (b31, .inl (G.2 0, 240, .inl b38))] ∧ (zI e0 (-2147483648) 1000000)) A) ([.ref b0, .ref b1, .int b2, .ref b3] : List Value).toArray s m_s1_Words_waysOf.cells m_s1_Words_waysOf.slots A) (F0 m 53 ls []) by
                        exact key 242 (0) (0) _ _ _ (zI.wk (l' := 0) (h' := 241) zc_0 (by decide)) (zI.wk (l' := (-2147483648)) (h' := 1000000) zc_0 (by decide)) (zm_upi (zI.wk (l' := 0) (h' := 241) zc_0 (by decide)) (by decide)) hP hD hS (lv_sub hl [0, 1, 2, 3, 4, 5] rfl)
                      intro k_475
                      induction k_475 with
                      | zero =>
                        intro y_476 y_477 H locs ls hy_476 hy_477 hmk_475 hP hD hS hl
                        exact (zm_up0 hy_476 hmk_475).elim
                      | succ k_475 ihk_475 =>
                        intro y_476 y_477 H locs ls hy_476 hy_477 hmk_475 hP hD hS hl
                        refine lv_iload hx hb d_Words_waysOf_53 (lv_at hl 0 rfl) ?_
                        refine lv_aload_n hx hb d_Words_waysOf_55 rfl (lv_at hl 5 rfl) ?_
                        refine va_get (D := G.1) (ci := 5) (v := .int b23) (C := R_Machine) (T := F_Machine) (N := 15) hx hb hts i_Machine hown hK hP 7 rfl rfl 1 (by decide) (hts _ q166) (fun _ h9 => h9) rfl d_Words_waysOf_56 ?_
                        refine lv_icmp_ge (tgt := 95) hx hb d_Words_waysOf_59 (by decide) (fun hc_478 => ?_) (fun hc_478 => ?_)
                        · have _nhc_478 := hc_478
                          have ni_479 := (fa_le _ _).mp hc_478
                          refine lv_iload hx hb d_Words_waysOf_95 (lv_at hl 1 rfl) ?_
                          exact z_iret hx hb hr hlocks (hP.sub [4, 5, 6, 2, 0, 3, 7, 1, 8] rfl) (hD.sub [4, 5, 6, 2, 0, 3, 7, 1, 8] (by decide) rfl) hS (Nat.le_of_ble_eq_true rfl) (Nat.le_of_ble_eq_true rfl) d_Words_waysOf_97 ⟨y_477, x_449, x_450, f_451, f_452, rfl, rfl, hy_477⟩
                        · have _nhc_478 := hc_478
                          have ni_480 := (fa_lt _ _).mp (zi_nle hc_478)
                          have hv_481 : zI y_476 0 240 := zI.lt_l hy_476 hb23 (zi_nle hc_478) (by decide)
                          have hv_482 : zI b23 1 241 := zI.lt_r hy_476 hb23 (zi_nle hc_478) (by decide)
                          refine lv_aload_n hx hb d_Words_waysOf_62 rfl (lv_at hl 5 rfl) ?_
                          refine va_get (D := G.1) (ci := 5) (v := .ref b27) (C := R_Machine) (T := F_Machine) (N := 15) hx hb hts i_Machine hown hK hP 7 rfl rfl 5 (by decide) (hts _ q177) (fun _ h9 => h9) rfl d_Words_waysOf_63 ?_
                          refine lv_iload hx hb d_Words_waysOf_66 (lv_at hl 0 rfl) ?_
                          refine va_iald hx hb hK hP 1 0 rfl rfl (zI.inn hv_481 (by decide)) d_Words_waysOf_68 ?_
                          refine lv_topi (fun v_483 ev_483 => ?_)
                          refine lv_if_le (tgt := 89) hx hb d_Words_waysOf_69 (by decide) (fun hc_484 => ?_) (fun hc_484 => ?_)
                          · have _nhc_484 := hc_484
                            have ni_485 := (fa_le _ _).mp hc_484
                            rw [li_0] at ni_485
                            have hv_486 : zI v_483 (-2147483648) 0 := zI.le_l (zI_all v_483) zc_0 hc_484 (by decide)
                            obtain ⟨v_487, ev_487⟩ : ∃ z : Int32, z = y_476 + 1 := ⟨_, rfl⟩
                            obtain ⟨qv_487, hv_487⟩ := zI_add (l := 1) (h := 241) hv_481 zc_1 ev_487 (by decide)
                            rw [li_1] at qv_487
                            refine lv_iinc (v := v_487) (lv' := [(5, .int v_487), (4, .int y_477), (0, .ref b0), (1, .ref b1), (2, .int b2), (3, .ref b3)]) hx hb d_Words_waysOf_89 hl (k := 0) rfl (by rw [ev_487]; rfl) (by decide) rfl (fun ls hl => ?_)
                            refine lv_goto (tgt := 53) hx hb d_Words_waysOf_92 (by decide) ?_
                            exact ihk_475 (v_487) (y_477) _ _ _ (zI.wk (l' := 0) (h' := 241) hv_487 (by decide)) hy_477 (zm_up qv_487 hmk_475 (by decide)) hP hD hS (lv_sub hl [0, 1, 2, 3, 4, 5] rfl)
                          · have _nhc_484 := hc_484
                            have ni_488 := (fa_lt _ _).mp (zi_nle hc_484)
                            rw [li_0] at ni_488
                            have hv_489 : zI v_483 1 2147483647 := zI.lt_r zc_0 (zI_all v_483) (zi_nle hc_484) (by decide)
                            refine lv_iload hx hb d_Words_waysOf_72 (lv_at hl 1 rfl) ?_
                            refine lv_aload_n hx hb d_Words_waysOf_74 rfl (lv_at hl 2 rfl) ?_
                            refine va_get (D := G.1) (ci := 7) (v := .ref x_449) (C := R_Words) (T := F_Words) (N := 8) hx hb hts i_Words hown hK hP 4 rfl rfl 6 (by decide) (hts _ q272) (fun _ h9 => h9) rfl d_Words_waysOf_75 ?_
                            refine lv_iload hx hb d_Words_waysOf_78 (lv_at hl 0 rfl) ?_
                            refine va_iald hx hb hK hP 5 0 rfl rfl (zI.inn hv_481 (by decide)) d_Words_waysOf_80 ?_
                            refine lv_topi (fun v_490 ev_490 => ?_)
                            refine lv_iadd hx hb d_Words_waysOf_81 ?_
                            refine lv_topi (fun v_491 ev_491 => ?_)
                            refine lv_ldc hx hb hown (hts _ q813) d_Words_waysOf_82 ?_
                            refine va_mmin hx hb (hml.trans hl.1.symm) hown (hts _ q814) (hts _ q592) (hts _ q20) (hts _ q593) (Nat.le_of_ble_eq_true rfl) (Nat.le_of_ble_eq_true rfl) (Nat.le_of_ble_eq_true rfl) (Nat.le_of_ble_eq_true rfl) d_Words_waysOf_84 ?_
                            refine lv_topi (fun v_492 ev_492 => ?_)
                            have hv_492 := zI_min (l := (-2147483648)) (h := 1000000) (zI_all v_491) zc_1000000 ev_492 (by decide)
                            refine lv_istore (lv' := [(4, .int v_492), (5, .int y_476), (0, .ref b0), (1, .ref b1), (2, .int b2), (3, .ref b3)]) hx hb d_Words_waysOf_87 hl (by decide) rfl (fun ls hl => ?_)
                            obtain ⟨v_493, ev_493⟩ : ∃ z : Int32, z = y_476 + 1 := ⟨_, rfl⟩
                            obtain ⟨qv_493, hv_493⟩ := zI_add (l := 1) (h := 241) hv_481 zc_1 ev_493 (by decide)
                            rw [li_1] at qv_493
                            refine lv_iinc (v := v_493) (lv' := [(5, .int v_493), (4, .int v_492), (0, .ref b0), (1, .ref b1), (2, .int b2), (3, .ref b3)]) hx hb d_Words_waysOf_89 hl (k := 1) rfl (by rw [ev_493]; rfl) (by decide) rfl (fun ls hl => ?_)
                            refine lv_goto (tgt := 53) hx hb d_Words_waysOf_92 (by decide) ?_
                            exact ihk_475 (v_493) (v_492) _ _ _ (zI.wk (l' := 0) (h' := 241) hv_493 (by decide)) hv_492 (zm_up qv_493 hmk_475 (by decide)) hP hD hS (lv_sub hl [0, 1, 2, 3, 4, 5] rfl)
                    · have _nhc_454 := hc_454
                      have ni_494 := (fa_lt _ _).mp (zi_nle hc_454)
                      rw [li_9] at ni_494
                      have hv_495 : zI v_3 10 12 := zI.lt_r zc_9 hv_445 (zi_nle hc_454) (by decide)
                      refine lv_aload_n hx hb d_Words_waysOf_29 rfl (lv_at hl 1 rfl) ?_
                      refine lv_aload_n hx hb d_Words_waysOf_30 rfl (lv_at hl 4 rfl) ?_
                      refine lv_aload_n hx hb d_Words_waysOf_31 rfl (lv_at hl 2 rfl) ?_
                      refine lv_iload_n hx hb d_Words_waysOf_32 rfl (lv_at hl 3 rfl) ?_
                      refine lv_iload hx hb d_Words_waysOf_33 (lv_at hl 0 rfl) ?_
                      refine z_callV (index := 99) (As := [.int b2, .int 9]) (rest := [.ref b3, .ref b0]) (wr := [(b17, .inl (G.2 0, 20, .inl b20)), (b27, .inl (G.2 0, 241, .inl b37)), (b0, .inr (7, [.ref b4, .ref b5, .ref b6, .ref b7, .ref b8, .ref b9, .ref x_449, .ref x_450])), (x_449, .inl (G.2 0, 241, .inl f_451)), (x_450, .inl (G.2 0, 241, .inl f_452)), (b3, .inr (5, [.int b22, .int b23, .ref b24, .ref b25, .ref b26, .ref b27, .ref b28, .ref b29, .int b30, .ref b31, .ref b32, .ref b33, .ref b34, .ref b35, .ref b36])), (b31, .inl (G.2 0, 240, .inl b38))]) Z (s1_Traces_letterAt l G (b1) (b2) (9) (b14) (b15) (b16) (b17) (b18) (b19) (b21) hb2 (zI.wk (l' := 0) (h' := 11) zc_9 (by decide)) hb14 hb15 hb16 hb21) hl.1 q805 q580 q581 q3 q582 ⟨by decide, by decide, by show _ = some 2; decide +kernel⟩ ⟨Nat.le_of_ble_eq_true rfl, Nat.le_of_ble_eq_true rfl⟩ ⟨Nat.le_of_ble_eq_true rfl, Nat.le_of_ble_eq_true rfl⟩ rfl (Nat.le_of_ble_eq_true rfl) d_Words_waysOf_35 hP hD hS hA 2 2 rfl rfl rfl [2, 3] [0, 1, 4, 5, 6, 7, 8] rfl rfl rfl rfl (by decide) (fun v w1 H locs hw_496 hP hD hS => ?_)
                      obtain ⟨x_497, rfl, rfl, hx_497⟩ := hw_496
                      have hP : va_P G.1 classes [(b17, .inl (G.2 0, 20, .inl b20)), (b27, .inl (G.2 0, 241, .inl b37)), (b0, .inr (7, [.ref b4, .ref b5, .ref b6, .ref b7, .ref b8, .ref b9, .ref x_449, .ref x_450])), (x_449, .inl (G.2 0, 241, .inl f_451)), (x_450, .inl (G.2 0, 241, .inl f_452)), (b3, .inr (5, [.int b22, .int b23, .ref b24, .ref b25, .ref b26, .ref b27, .ref b28, .ref b29, .int b30, .ref b31, .ref b32, .ref b33, .ref b34, .ref b35, .ref b36])), (b31, .inl (G.2 0, 240, .inl b38)), (b1, .inr (2, [.int b14, .int b15, .int b16, .ref b17, .ref b18, .ref b19])), (b18, .inl (G.2 0, 240, .inl b21))] H := hP
                      have hD := z_tie hP hD rfl
                      refine W.widen (k := 0) (n := 0) (Nat.le_of_ble_eq_true rfl) (Nat.le_of_ble_eq_true rfl) ?_
                      refine z_callV (index := 103) (As := [.ref b3, .int x_497]) (rest := []) (wr := [(b17, .inl (G.2 0, 20, .inl b20)), (b27, .inl (G.2 0, 241, .inl b37)), (b1, .inr (2, [.int b14, .int b15, .int b16, .ref b17, .ref b18, .ref b19])), (b18, .inl (G.2 0, 240, .inl b21))]) Z (s2_Words_stepWays l G (b0) (b3) (x_497) (b4) (b5) (b6) (b7) (b8) (b9) (x_449) (x_450) (f_451) (f_452) (b22) (b23) (b24) (b25) (b26) (b27) (b28) (b29) (b30) (b31) (b32) (b33) (b34) (b35) (b36) (b38) hx_497 hb22 hb23 hb30 hb38) hl.1 q806 q808 qs22 q8 q809 ⟨by decide, by decide, by show _ = some 2; decide +kernel⟩ ⟨Nat.le_of_ble_eq_true rfl, Nat.le_of_ble_eq_true rfl⟩ ⟨Nat.le_of_ble_eq_true rfl, Nat.le_of_ble_eq_true rfl⟩ rfl (Nat.le_of_ble_eq_true rfl) d_Words_waysOf_38 hP hD hS hA 2 7 rfl rfl rfl [2, 3, 4, 5, 6] [0, 1, 7, 8] rfl rfl rfl rfl (by decide) (fun v w1 H locs hw_498 hP hD hS => ?_)
                      obtain ⟨x_499, x_500, f_501, f_502, rfl, rfl⟩ := hw_498
                      have hP : va_P G.1 classes [(b17, .inl (G.2 0, 20, .inl b20)), (b27, .inl (G.2 0, 241, .inl b37)), (b1, .inr (2, [.int b14, .int b15, .int b16, .ref b17, .ref b18, .ref b19])), (b18, .inl (G.2 0, 240, .inl b21)), (b0, .inr (7, [.ref b4, .ref b5, .ref b6, .ref b7, .ref b8, .ref b9, .ref x_499, .ref x_500])), (x_499, .inl (G.2 0, 241, .inl f_501)), (x_500, .inl (G.2 0, 241, .inl f_502)), (b3, .inr (5, [.int b22, .int b23, .ref b24, .ref b25, .ref b26, .ref b27, .ref b28, .ref b29, .int b30, .ref b31, .ref b32, .ref b33, .ref b34, .ref b35, .ref b36])), (b31, .inl (G.2 0, 240, .inl b38))] H := hP
                      have hD := z_tie hP hD rfl
                      refine W.widen (k := 0) (n := 0) (Nat.le_of_ble_eq_true rfl) (Nat.le_of_ble_eq_true rfl) ?_
                      refine lv_iinc (v := 10) (lv' := [(4, .int 10), (0, .ref b0), (1, .ref b1), (2, .int b2), (3, .ref b3)]) hx hb d_Words_waysOf_41 hl (k := 0) rfl (by decide +kernel) (by decide) rfl (fun ls hl => ?_)
                      refine lv_goto (tgt := 18) hx hb d_Words_waysOf_44 (by decide) ?_
                      refine lv_iload hx hb d_Words_waysOf_18 (lv_at hl 0 rfl) ?_
                      refine lv_aload_n hx hb d_Words_waysOf_20 rfl (lv_at hl 2 rfl) ?_
                      refine va_get (D := G.1) (ci := 2) (v := .ref b17) (C := R_Traces) (T := F_Traces) (N := 6) hx hb hts i_Traces hown hK hP 2 rfl rfl 3 (by decide) (hts _ q69) (fun _ h9 => h9) rfl d_Words_waysOf_21 ?_
                      refine lv_iload_n hx hb d_Words_waysOf_24 rfl (lv_at hl 3 rfl) ?_
                      refine va_iald hx hb hK hP 0 0 rfl rfl (zI.inn hb2 (by decide)) d_Words_waysOf_25 ?_
                      refine lv_topi (fun v_503 ev_503 => ?_)
                      obtain rfl : v_3 = v_503 := ev_3.trans ev_503.symm
                      refine lv_icmp_ge (tgt := 47) hx hb d_Words_waysOf_26 (by decide) (fun hc_504 => ?_) (fun hc_504 => ?_)
                      · have _nhc_504 := hc_504
                        have ni_505 := (fa_le _ _).mp hc_504
                        rw [li_10] at ni_505
                        have hv_506 : zI v_3 10 10 := zI.le_l hv_495 zc_10 hc_504 (by decide)
                        refine lv_iconst (v := 0) hx hb d_Words_waysOf_47 (by decide) ?_
                        refine lv_istore (lv' := [(4, .int 0), (0, .ref b0), (1, .ref b1), (2, .int b2), (3, .ref b3)]) hx hb d_Words_waysOf_48 hl (by decide) rfl (fun ls hl => ?_)
                        refine lv_iconst (v := 0) hx hb d_Words_waysOf_50 (by decide) ?_
                        refine lv_istore (lv' := [(5, .int 0), (4, .int 0), (0, .ref b0), (1, .ref b1), (2, .int b2), (3, .ref b3)]) hx hb d_Words_waysOf_51 hl (by decide) rfl (fun ls hl => ?_)
                        suffices key : ∀ (k_525 : Nat) (y_526 : Int32) (y_527 : Int32) (H : Heap) (locs : List Loc) (ls : Array Slot), (zI y_526 0 241) → (zI y_527 (-2147483648) 1000000) → (241 : Int) - y_526.toInt < (k_525 : Int) → va_P G.1 classes [(b17, .inl (G.2 0, 20, .inl b20)), (b27, .inl (G.2 0, 241, .inl b37)), (b1, .inr (2, [.int b14, .int b15, .int b16, .ref b17, .ref b18, .ref b19])), (b18, .inl (G.2 0, 240, .inl b21)), (b0, .inr (7, [.ref b4, .ref b5, .ref b6, .ref b7, .ref b8, .ref b9, .ref x_499, .ref x_500])), (x_499, .inl (G.2 0, 241, .inl f_501)), (x_500, .inl (G.2 0, 241, .inl f_502)), (b3, .inr (5, [.int b22, .int b23, .ref b24, .ref b25, .ref b26, .ref b27, .ref b28, .ref b29, .int b30, .ref b31, .ref b32, .ref b33, .ref b34, .ref b35, .ref b36])), (b31, .inl (G.2 0, 240, .inl b38))] H → va_D A [(b17, .inl (G.2 0, 20, .inl b20)), (b27, .inl (G.2 0, 241, .inl b37)), (b1, .inr (2, [.int b14, .int b15, .int b16, .ref b17, .ref b18, .ref b19])), (b18, .inl (G.2 0, 240, .inl b21)), (b0, .inr (7, [.ref b4, .ref b5, .ref b6, .ref b7, .ref b8, .ref b9, .ref x_499, .ref x_500])), (x_499, .inl (G.2 0, 241, .inl f_501)), (x_500, .inl (G.2 0, 241, .inl f_502)), (b3, .inr (5, [.int b22, .int b23, .ref b24, .ref b25, .ref b26, .ref b27, .ref b28, .ref b29, .int b30, .ref b31, .ref b32, .ref b33, .ref b34, .ref b35, .ref b36])), (b31, .inl (G.2 0, 240, .inl b38))] → va_S A s.heap H locs → lv_has ls 6 [(5, .int y_526), (4, .int y_527), (0, .ref b0), (1, .ref b1), (2, .int b2), (3, .ref b3)] → W p l e m_s1_Words_waysOf s m ([.ref b0, .ref b1, .int b2, .ref b3] : List Value).toArray below meth c H locs 0 0 (MQ below (zQ G (fun v w => ∃ (e0 : Int32), ∃ (e1 : Nat), ∃ (e2 : Nat), ∃ (e3 : Nat → Int32), ∃ (e4 : Nat → Int32), v = some (.int e0) ∧ w = [(b0, .inr (7, [.ref b4, .ref b5, .ref b6, .ref b7, .ref b8, .ref b9, .ref e1, .ref e2])), (e1, .inl (G.2 0, 241, .inl e3)), (e2, .inl (G.2 0, 241, .inl e4)), (b1, .inr (2, [.int b14, .int b15, .int b16, .ref b17, .ref b18, .ref b19])), (b17, .inl (G.2 0, 20, .inl b20)), (b18, .inl (G.2 0, 240, .inl b21)), (b3, .inr (5, [.int b22, .int b23, .ref b24, .ref b25, .ref b26, .ref b27, .ref b28, .ref b29, .int b30, .ref b31, .ref b32, .ref b33, .ref b34, .ref b35, .ref b36])), (b27, .inl (G.2 0, 241, .inl b37)), (b31, .inl (G.2 0, 240, .inl b38))] ∧ (zI e0 (-2147483648) 1000000)) A) ([.ref b0, .ref b1, .int b2, .ref b3] : List Value).toArray s m_s1_Words_waysOf.cells m_s1_Words_waysOf.slots A) (F0 m 53 ls []) by
                          exact key 242 (0) (0) _ _ _ (zI.wk (l' := 0) (h' := 241) zc_0 (by decide)) (zI.wk (l' := (-2147483648)) (h' := 1000000) zc_0 (by decide)) (zm_upi (zI.wk (l' := 0) (h' := 241) zc_0 (by decide)) (by decide)) hP hD hS (lv_sub hl [0, 1, 2, 3, 4, 5] rfl)
                        intro k_525
                        induction k_525 with
                        | zero =>
                          intro y_526 y_527 H locs ls hy_526 hy_527 hmk_525 hP hD hS hl
                          exact (zm_up0 hy_526 hmk_525).elim
                        | succ k_525 ihk_525 =>
                          intro y_526 y_527 H locs ls hy_526 hy_527 hmk_525 hP hD hS hl
                          refine lv_iload hx hb d_Words_waysOf_53 (lv_at hl 0 rfl) ?_
                          refine lv_aload_n hx hb d_Words_waysOf_55 rfl (lv_at hl 5 rfl) ?_
                          refine va_get (D := G.1) (ci := 5) (v := .int b23) (C := R_Machine) (T := F_Machine) (N := 15) hx hb hts i_Machine hown hK hP 7 rfl rfl 1 (by decide) (hts _ q166) (fun _ h9 => h9) rfl d_Words_waysOf_56 ?_
                          refine lv_icmp_ge (tgt := 95) hx hb d_Words_waysOf_59 (by decide) (fun hc_528 => ?_) (fun hc_528 => ?_)
                          · have _nhc_528 := hc_528
                            have ni_529 := (fa_le _ _).mp hc_528
                            refine lv_iload hx hb d_Words_waysOf_95 (lv_at hl 1 rfl) ?_
                            exact z_iret hx hb hr hlocks (hP.sub [4, 5, 6, 2, 0, 3, 7, 1, 8] rfl) (hD.sub [4, 5, 6, 2, 0, 3, 7, 1, 8] (by decide) rfl) hS (Nat.le_of_ble_eq_true rfl) (Nat.le_of_ble_eq_true rfl) d_Words_waysOf_97 ⟨y_527, x_499, x_500, f_501, f_502, rfl, rfl, hy_527⟩
                          · have _nhc_528 := hc_528
                            have ni_530 := (fa_lt _ _).mp (zi_nle hc_528)
                            have hv_531 : zI y_526 0 240 := zI.lt_l hy_526 hb23 (zi_nle hc_528) (by decide)
                            have hv_532 : zI b23 1 241 := zI.lt_r hy_526 hb23 (zi_nle hc_528) (by decide)
                            refine lv_aload_n hx hb d_Words_waysOf_62 rfl (lv_at hl 5 rfl) ?_
                            refine va_get (D := G.1) (ci := 5) (v := .ref b27) (C := R_Machine) (T := F_Machine) (N := 15) hx hb hts i_Machine hown hK hP 7 rfl rfl 5 (by decide) (hts _ q177) (fun _ h9 => h9) rfl d_Words_waysOf_63 ?_
                            refine lv_iload hx hb d_Words_waysOf_66 (lv_at hl 0 rfl) ?_
                            refine va_iald hx hb hK hP 1 0 rfl rfl (zI.inn hv_531 (by decide)) d_Words_waysOf_68 ?_
                            refine lv_topi (fun v_533 ev_533 => ?_)
                            refine lv_if_le (tgt := 89) hx hb d_Words_waysOf_69 (by decide) (fun hc_534 => ?_) (fun hc_534 => ?_)
                            · have _nhc_534 := hc_534
                              have ni_535 := (fa_le _ _).mp hc_534
                              rw [li_0] at ni_535
                              have hv_536 : zI v_533 (-2147483648) 0 := zI.le_l (zI_all v_533) zc_0 hc_534 (by decide)
                              obtain ⟨v_537, ev_537⟩ : ∃ z : Int32, z = y_526 + 1 := ⟨_, rfl⟩
                              obtain ⟨qv_537, hv_537⟩ := zI_add (l := 1) (h := 241) hv_531 zc_1 ev_537 (by decide)
                              rw [li_1] at qv_537
                              refine lv_iinc (v := v_537) (lv' := [(5, .int v_537), (4, .int y_527), (0, .ref b0), (1, .ref b1), (2, .int b2), (3, .ref b3)]) hx hb d_Words_waysOf_89 hl (k := 0) rfl (by rw [ev_537]; rfl) (by decide) rfl (fun ls hl => ?_)
                              refine lv_goto (tgt := 53) hx hb d_Words_waysOf_92 (by decide) ?_
                              exact ihk_525 (v_537) (y_527) _ _ _ (zI.wk (l' := 0) (h' := 241) hv_537 (by decide)) hy_527 (zm_up qv_537 hmk_525 (by decide)) hP hD hS (lv_sub hl [0, 1, 2, 3, 4, 5] rfl)
                            · have _nhc_534 := hc_534
                              have ni_538 := (fa_lt _ _).mp (zi_nle hc_534)
                              rw [li_0] at ni_538
                              have hv_539 : zI v_533 1 2147483647 := zI.lt_r zc_0 (zI_all v_533) (zi_nle hc_534) (by decide)
                              refine lv_iload hx hb d_Words_waysOf_72 (lv_at hl 1 rfl) ?_
                              refine lv_aload_n hx hb d_Words_waysOf_74 rfl (lv_at hl 2 rfl) ?_
                              refine va_get (D := G.1) (ci := 7) (v := .ref x_499) (C := R_Words) (T := F_Words) (N := 8) hx hb hts i_Words hown hK hP 4 rfl rfl 6 (by decide) (hts _ q272) (fun _ h9 => h9) rfl d_Words_waysOf_75 ?_
                              refine lv_iload hx hb d_Words_waysOf_78 (lv_at hl 0 rfl) ?_
                              refine va_iald hx hb hK hP 5 0 rfl rfl (zI.inn hv_531 (by decide)) d_Words_waysOf_80 ?_
                              refine lv_topi (fun v_540 ev_540 => ?_)
                              refine lv_iadd hx hb d_Words_waysOf_81 ?_
                              refine lv_topi (fun v_541 ev_541 => ?_)
                              refine lv_ldc hx hb hown (hts _ q813) d_Words_waysOf_82 ?_
                              refine va_mmin hx hb (hml.trans hl.1.symm) hown (hts _ q814) (hts _ q592) (hts _ q20) (hts _ q593) (Nat.le_of_ble_eq_true rfl) (Nat.le_of_ble_eq_true rfl) (Nat.le_of_ble_eq_true rfl) (Nat.le_of_ble_eq_true rfl) d_Words_waysOf_84 ?_
                              refine lv_topi (fun v_542 ev_542 => ?_)
                              have hv_542 := zI_min (l := (-2147483648)) (h := 1000000) (zI_all v_541) zc_1000000 ev_542 (by decide)
                              refine lv_istore (lv' := [(4, .int v_542), (5, .int y_526), (0, .ref b0), (1, .ref b1), (2, .int b2), (3, .ref b3)]) hx hb d_Words_waysOf_87 hl (by decide) rfl (fun ls hl => ?_)
                              obtain ⟨v_543, ev_543⟩ : ∃ z : Int32, z = y_526 + 1 := ⟨_, rfl⟩
                              obtain ⟨qv_543, hv_543⟩ := zI_add (l := 1) (h := 241) hv_531 zc_1 ev_543 (by decide)
                              rw [li_1] at qv_543
                              refine lv_iinc (v := v_543) (lv' := [(5, .int v_543), (4, .int v_542), (0, .ref b0), (1, .ref b1), (2, .int b2), (3, .ref b3)]) hx hb d_Words_waysOf_89 hl (k := 1) rfl (by rw [ev_543]; rfl) (by decide) rfl (fun ls hl => ?_)
                              refine lv_goto (tgt := 53) hx hb d_Words_waysOf_92 (by decide) ?_
                              exact ihk_525 (v_543) (v_542) _ _ _ (zI.wk (l' := 0) (h' := 241) hv_543 (by decide)) hv_542 (zm_up qv_543 hmk_525 (by decide)) hP hD hS (lv_sub hl [0, 1, 2, 3, 4, 5] rfl)
                      · have _nhc_504 := hc_504
                        have ni_544 := (fa_lt _ _).mp (zi_nle hc_504)
                        rw [li_10] at ni_544
                        have hv_545 : zI v_3 11 12 := zI.lt_r zc_10 hv_495 (zi_nle hc_504) (by decide)
                        refine lv_aload_n hx hb d_Words_waysOf_29 rfl (lv_at hl 1 rfl) ?_
                        refine lv_aload_n hx hb d_Words_waysOf_30 rfl (lv_at hl 4 rfl) ?_
                        refine lv_aload_n hx hb d_Words_waysOf_31 rfl (lv_at hl 2 rfl) ?_
                        refine lv_iload_n hx hb d_Words_waysOf_32 rfl (lv_at hl 3 rfl) ?_
                        refine lv_iload hx hb d_Words_waysOf_33 (lv_at hl 0 rfl) ?_
                        refine z_callV (index := 99) (As := [.int b2, .int 10]) (rest := [.ref b3, .ref b0]) (wr := [(b17, .inl (G.2 0, 20, .inl b20)), (b27, .inl (G.2 0, 241, .inl b37)), (b0, .inr (7, [.ref b4, .ref b5, .ref b6, .ref b7, .ref b8, .ref b9, .ref x_499, .ref x_500])), (x_499, .inl (G.2 0, 241, .inl f_501)), (x_500, .inl (G.2 0, 241, .inl f_502)), (b3, .inr (5, [.int b22, .int b23, .ref b24, .ref b25, .ref b26, .ref b27, .ref b28, .ref b29, .int b30, .ref b31, .ref b32, .ref b33, .ref b34, .ref b35, .ref b36])), (b31, .inl (G.2 0, 240, .inl b38))]) Z (s1_Traces_letterAt l G (b1) (b2) (10) (b14) (b15) (b16) (b17) (b18) (b19) (b21) hb2 (zI.wk (l' := 0) (h' := 11) zc_10 (by decide)) hb14 hb15 hb16 hb21) hl.1 q805 q580 q581 q3 q582 ⟨by decide, by decide, by show _ = some 2; decide +kernel⟩ ⟨Nat.le_of_ble_eq_true rfl, Nat.le_of_ble_eq_true rfl⟩ ⟨Nat.le_of_ble_eq_true rfl, Nat.le_of_ble_eq_true rfl⟩ rfl (Nat.le_of_ble_eq_true rfl) d_Words_waysOf_35 hP hD hS hA 2 2 rfl rfl rfl [2, 3] [0, 1, 4, 5, 6, 7, 8] rfl rfl rfl rfl (by decide) (fun v w1 H locs hw_546 hP hD hS => ?_)
                        obtain ⟨x_547, rfl, rfl, hx_547⟩ := hw_546
                        have hP : va_P G.1 classes [(b17, .inl (G.2 0, 20, .inl b20)), (b27, .inl (G.2 0, 241, .inl b37)), (b0, .inr (7, [.ref b4, .ref b5, .ref b6, .ref b7, .ref b8, .ref b9, .ref x_499, .ref x_500])), (x_499, .inl (G.2 0, 241, .inl f_501)), (x_500, .inl (G.2 0, 241, .inl f_502)), (b3, .inr (5, [.int b22, .int b23, .ref b24, .ref b25, .ref b26, .ref b27, .ref b28, .ref b29, .int b30, .ref b31, .ref b32, .ref b33, .ref b34, .ref b35, .ref b36])), (b31, .inl (G.2 0, 240, .inl b38)), (b1, .inr (2, [.int b14, .int b15, .int b16, .ref b17, .ref b18, .ref b19])), (b18, .inl (G.2 0, 240, .inl b21))] H := hP
                        have hD := z_tie hP hD rfl
                        refine W.widen (k := 0) (n := 0) (Nat.le_of_ble_eq_true rfl) (Nat.le_of_ble_eq_true rfl) ?_
                        refine z_callV (index := 103) (As := [.ref b3, .int x_547]) (rest := []) (wr := [(b17, .inl (G.2 0, 20, .inl b20)), (b27, .inl (G.2 0, 241, .inl b37)), (b1, .inr (2, [.int b14, .int b15, .int b16, .ref b17, .ref b18, .ref b19])), (b18, .inl (G.2 0, 240, .inl b21))]) Z (s2_Words_stepWays l G (b0) (b3) (x_547) (b4) (b5) (b6) (b7) (b8) (b9) (x_499) (x_500) (f_501) (f_502) (b22) (b23) (b24) (b25) (b26) (b27) (b28) (b29) (b30) (b31) (b32) (b33) (b34) (b35) (b36) (b38) hx_547 hb22 hb23 hb30 hb38) hl.1 q806 q808 qs22 q8 q809 ⟨by decide, by decide, by show _ = some 2; decide +kernel⟩ ⟨Nat.le_of_ble_eq_true rfl, Nat.le_of_ble_eq_true rfl⟩ ⟨Nat.le_of_ble_eq_true rfl, Nat.le_of_ble_eq_true rfl⟩ rfl (Nat.le_of_ble_eq_true rfl) d_Words_waysOf_38 hP hD hS hA 2 7 rfl rfl rfl [2, 3, 4, 5, 6] [0, 1, 7, 8] rfl rfl rfl rfl (by decide) (fun v w1 H locs hw_548 hP hD hS => ?_)
                        obtain ⟨x_549, x_550, f_551, f_552, rfl, rfl⟩ := hw_548
                        have hP : va_P G.1 classes [(b17, .inl (G.2 0, 20, .inl b20)), (b27, .inl (G.2 0, 241, .inl b37)), (b1, .inr (2, [.int b14, .int b15, .int b16, .ref b17, .ref b18, .ref b19])), (b18, .inl (G.2 0, 240, .inl b21)), (b0, .inr (7, [.ref b4, .ref b5, .ref b6, .ref b7, .ref b8, .ref b9, .ref x_549, .ref x_550])), (x_549, .inl (G.2 0, 241, .inl f_551)), (x_550, .inl (G.2 0, 241, .inl f_552)), (b3, .inr (5, [.int b22, .int b23, .ref b24, .ref b25, .ref b26, .ref b27, .ref b28, .ref b29, .int b30, .ref b31, .ref b32, .ref b33, .ref b34, .ref b35, .ref b36])), (b31, .inl (G.2 0, 240, .inl b38))] H := hP
                        have hD := z_tie hP hD rfl
                        refine W.widen (k := 0) (n := 0) (Nat.le_of_ble_eq_true rfl) (Nat.le_of_ble_eq_true rfl) ?_
                        refine lv_iinc (v := 11) (lv' := [(4, .int 11), (0, .ref b0), (1, .ref b1), (2, .int b2), (3, .ref b3)]) hx hb d_Words_waysOf_41 hl (k := 0) rfl (by decide +kernel) (by decide) rfl (fun ls hl => ?_)
                        refine lv_goto (tgt := 18) hx hb d_Words_waysOf_44 (by decide) ?_
                        refine lv_iload hx hb d_Words_waysOf_18 (lv_at hl 0 rfl) ?_
                        refine lv_aload_n hx hb d_Words_waysOf_20 rfl (lv_at hl 2 rfl) ?_
                        refine va_get (D := G.1) (ci := 2) (v := .ref b17) (C := R_Traces) (T := F_Traces) (N := 6) hx hb hts i_Traces hown hK hP 2 rfl rfl 3 (by decide) (hts _ q69) (fun _ h9 => h9) rfl d_Words_waysOf_21 ?_
                        refine lv_iload_n hx hb d_Words_waysOf_24 rfl (lv_at hl 3 rfl) ?_
                        refine va_iald hx hb hK hP 0 0 rfl rfl (zI.inn hb2 (by decide)) d_Words_waysOf_25 ?_
                        refine lv_topi (fun v_553 ev_553 => ?_)
                        obtain rfl : v_3 = v_553 := ev_3.trans ev_553.symm
                        refine lv_icmp_ge (tgt := 47) hx hb d_Words_waysOf_26 (by decide) (fun hc_554 => ?_) (fun hc_554 => ?_)
                        · have _nhc_554 := hc_554
                          have ni_555 := (fa_le _ _).mp hc_554
                          rw [li_11] at ni_555
                          have hv_556 : zI v_3 11 11 := zI.le_l hv_545 zc_11 hc_554 (by decide)
                          refine lv_iconst (v := 0) hx hb d_Words_waysOf_47 (by decide) ?_
                          refine lv_istore (lv' := [(4, .int 0), (0, .ref b0), (1, .ref b1), (2, .int b2), (3, .ref b3)]) hx hb d_Words_waysOf_48 hl (by decide) rfl (fun ls hl => ?_)
                          refine lv_iconst (v := 0) hx hb d_Words_waysOf_50 (by decide) ?_
                          refine lv_istore (lv' := [(5, .int 0), (4, .int 0), (0, .ref b0), (1, .ref b1), (2, .int b2), (3, .ref b3)]) hx hb d_Words_waysOf_51 hl (by decide) rfl (fun ls hl => ?_)
                          suffices key : ∀ (k_575 : Nat) (y_576 : Int32) (y_577 : Int32) (H : Heap) (locs : List Loc) (ls : Array Slot), (zI y_576 0 241) → (zI y_577 (-2147483648) 1000000) → (241 : Int) - y_576.toInt < (k_575 : Int) → va_P G.1 classes [(b17, .inl (G.2 0, 20, .inl b20)), (b27, .inl (G.2 0, 241, .inl b37)), (b1, .inr (2, [.int b14, .int b15, .int b16, .ref b17, .ref b18, .ref b19])), (b18, .inl (G.2 0, 240, .inl b21)), (b0, .inr (7, [.ref b4, .ref b5, .ref b6, .ref b7, .ref b8, .ref b9, .ref x_549, .ref x_550])), (x_549, .inl (G.2 0, 241, .inl f_551)), (x_550, .inl (G.2 0, 241, .inl f_552)), (b3, .inr (5, [.int b22, .int b23, .ref b24, .ref b25, .ref b26, .ref b27, .ref b28, .ref b29, .int b30, .ref b31, .ref b32, .ref b33, .ref b34, .ref b35, .ref b36])), (b31, .inl (G.2 0, 240, .inl b38))] H → va_D A [(b17, .inl (G.2 0, 20, .inl b20)), (b27, .inl (G.2 0, 241, .inl b37)), (b1, .inr (2, [.int b14, .int b15, .int b16, .ref b17, .ref b18, .ref b19])), (b18, .inl (G.2 0, 240, .inl b21)), (b0, .inr (7, [.ref b4, .ref b5, .ref b6, .ref b7, .ref b8, .ref b9, .ref x_549, .ref x_550])), (x_549, .inl (G.2 0, 241, .inl f_551)), (x_550, .inl (G.2 0, 241, .inl f_552)), (b3, .inr (5, [.int b22, .int b23, .ref b24, .ref b25, .ref b26, .ref b27, .ref b28, .ref b29, .int b30, .ref b31, .ref b32, .ref b33, .ref b34, .ref b35, .ref b36])), (b31, .inl (G.2 0, 240, .inl b38))] → va_S A s.heap H locs → lv_has ls 6 [(5, .int y_576), (4, .int y_577), (0, .ref b0), (1, .ref b1), (2, .int b2), (3, .ref b3)] → W p l e m_s1_Words_waysOf s m ([.ref b0, .ref b1, .int b2, .ref b3] : List Value).toArray below meth c H locs 0 0 (MQ below (zQ G (fun v w => ∃ (e0 : Int32), ∃ (e1 : Nat), ∃ (e2 : Nat), ∃ (e3 : Nat → Int32), ∃ (e4 : Nat → Int32), v = some (.int e0) ∧ w = [(b0, .inr (7, [.ref b4, .ref b5, .ref b6, .ref b7, .ref b8, .ref b9, .ref e1, .ref e2])), (e1, .inl (G.2 0, 241, .inl e3)), (e2, .inl (G.2 0, 241, .inl e4)), (b1, .inr (2, [.int b14, .int b15, .int b16, .ref b17, .ref b18, .ref b19])), (b17, .inl (G.2 0, 20, .inl b20)), (b18, .inl (G.2 0, 240, .inl b21)), (b3, .inr (5, [.int b22, .int b23, .ref b24, .ref b25, .ref b26, .ref b27, .ref b28, .ref b29, .int b30, .ref b31, .ref b32, .ref b33, .ref b34, .ref b35, .ref b36])), (b27, .inl (G.2 0, 241, .inl b37)), (b31, .inl (G.2 0, 240, .inl b38))] ∧ (zI e0 (-2147483648) 1000000)) A) ([.ref b0, .ref b1, .int b2, .ref b3] : List Value).toArray s m_s1_Words_waysOf.cells m_s1_Words_waysOf.slots A) (F0 m 53 ls []) by
                            exact key 242 (0) (0) _ _ _ (zI.wk (l' := 0) (h' := 241) zc_0 (by decide)) (zI.wk (l' := (-2147483648)) (h' := 1000000) zc_0 (by decide)) (zm_upi (zI.wk (l' := 0) (h' := 241) zc_0 (by decide)) (by decide)) hP hD hS (lv_sub hl [0, 1, 2, 3, 4, 5] rfl)
                          intro k_575
                          induction k_575 with
                          | zero =>
                            intro y_576 y_577 H locs ls hy_576 hy_577 hmk_575 hP hD hS hl
                            exact (zm_up0 hy_576 hmk_575).elim
                          | succ k_575 ihk_575 =>
                            intro y_576 y_577 H locs ls hy_576 hy_577 hmk_575 hP hD hS hl
                            refine lv_iload hx hb d_Words_waysOf_53 (lv_at hl 0 rfl) ?_
                            refine lv_aload_n hx hb d_Words_waysOf_55 rfl (lv_at hl 5 rfl) ?_
                            refine va_get (D := G.1) (ci := 5) (v := .int b23) (C := R_Machine) (T := F_Machine) (N := 15) hx hb hts i_Machine hown hK hP 7 rfl rfl 1 (by decide) (hts _ q166) (fun _ h9 => h9) rfl d_Words_waysOf_56 ?_
                            refine lv_icmp_ge (tgt := 95) hx hb d_Words_waysOf_59 (by decide) (fun hc_578 => ?_) (fun hc_578 => ?_)
                            · have _nhc_578 := hc_578
                              have ni_579 := (fa_le _ _).mp hc_578
                              refine lv_iload hx hb d_Words_waysOf_95 (lv_at hl 1 rfl) ?_
                              exact z_iret hx hb hr hlocks (hP.sub [4, 5, 6, 2, 0, 3, 7, 1, 8] rfl) (hD.sub [4, 5, 6, 2, 0, 3, 7, 1, 8] (by decide) rfl) hS (Nat.le_of_ble_eq_true rfl) (Nat.le_of_ble_eq_true rfl) d_Words_waysOf_97 ⟨y_577, x_549, x_550, f_551, f_552, rfl, rfl, hy_577⟩
                            · have _nhc_578 := hc_578
                              have ni_580 := (fa_lt _ _).mp (zi_nle hc_578)
                              have hv_581 : zI y_576 0 240 := zI.lt_l hy_576 hb23 (zi_nle hc_578) (by decide)
                              have hv_582 : zI b23 1 241 := zI.lt_r hy_576 hb23 (zi_nle hc_578) (by decide)
                              refine lv_aload_n hx hb d_Words_waysOf_62 rfl (lv_at hl 5 rfl) ?_
                              refine va_get (D := G.1) (ci := 5) (v := .ref b27) (C := R_Machine) (T := F_Machine) (N := 15) hx hb hts i_Machine hown hK hP 7 rfl rfl 5 (by decide) (hts _ q177) (fun _ h9 => h9) rfl d_Words_waysOf_63 ?_
                              refine lv_iload hx hb d_Words_waysOf_66 (lv_at hl 0 rfl) ?_
                              refine va_iald hx hb hK hP 1 0 rfl rfl (zI.inn hv_581 (by decide)) d_Words_waysOf_68 ?_
                              refine lv_topi (fun v_583 ev_583 => ?_)
                              refine lv_if_le (tgt := 89) hx hb d_Words_waysOf_69 (by decide) (fun hc_584 => ?_) (fun hc_584 => ?_)
                              · have _nhc_584 := hc_584
                                have ni_585 := (fa_le _ _).mp hc_584
                                rw [li_0] at ni_585
                                have hv_586 : zI v_583 (-2147483648) 0 := zI.le_l (zI_all v_583) zc_0 hc_584 (by decide)
                                obtain ⟨v_587, ev_587⟩ : ∃ z : Int32, z = y_576 + 1 := ⟨_, rfl⟩
                                obtain ⟨qv_587, hv_587⟩ := zI_add (l := 1) (h := 241) hv_581 zc_1 ev_587 (by decide)
                                rw [li_1] at qv_587
                                refine lv_iinc (v := v_587) (lv' := [(5, .int v_587), (4, .int y_577), (0, .ref b0), (1, .ref b1), (2, .int b2), (3, .ref b3)]) hx hb d_Words_waysOf_89 hl (k := 0) rfl (by rw [ev_587]; rfl) (by decide) rfl (fun ls hl => ?_)
                                refine lv_goto (tgt := 53) hx hb d_Words_waysOf_92 (by decide) ?_
                                exact ihk_575 (v_587) (y_577) _ _ _ (zI.wk (l' := 0) (h' := 241) hv_587 (by decide)) hy_577 (zm_up qv_587 hmk_575 (by decide)) hP hD hS (lv_sub hl [0, 1, 2, 3, 4, 5] rfl)
                              · have _nhc_584 := hc_584
                                have ni_588 := (fa_lt _ _).mp (zi_nle hc_584)
                                rw [li_0] at ni_588
                                have hv_589 : zI v_583 1 2147483647 := zI.lt_r zc_0 (zI_all v_583) (zi_nle hc_584) (by decide)
                                refine lv_iload hx hb d_Words_waysOf_72 (lv_at hl 1 rfl) ?_
                                refine lv_aload_n hx hb d_Words_waysOf_74 rfl (lv_at hl 2 rfl) ?_
                                refine va_get (D := G.1) (ci := 7) (v := .ref x_549) (C := R_Words) (T := F_Words) (N := 8) hx hb hts i_Words hown hK hP 4 rfl rfl 6 (by decide) (hts _ q272) (fun _ h9 => h9) rfl d_Words_waysOf_75 ?_
                                refine lv_iload hx hb d_Words_waysOf_78 (lv_at hl 0 rfl) ?_
                                refine va_iald hx hb hK hP 5 0 rfl rfl (zI.inn hv_581 (by decide)) d_Words_waysOf_80 ?_
                                refine lv_topi (fun v_590 ev_590 => ?_)
                                refine lv_iadd hx hb d_Words_waysOf_81 ?_
                                refine lv_topi (fun v_591 ev_591 => ?_)
                                refine lv_ldc hx hb hown (hts _ q813) d_Words_waysOf_82 ?_
                                refine va_mmin hx hb (hml.trans hl.1.symm) hown (hts _ q814) (hts _ q592) (hts _ q20) (hts _ q593) (Nat.le_of_ble_eq_true rfl) (Nat.le_of_ble_eq_true rfl) (Nat.le_of_ble_eq_true rfl) (Nat.le_of_ble_eq_true rfl) d_Words_waysOf_84 ?_
                                refine lv_topi (fun v_592 ev_592 => ?_)
                                have hv_592 := zI_min (l := (-2147483648)) (h := 1000000) (zI_all v_591) zc_1000000 ev_592 (by decide)
                                refine lv_istore (lv' := [(4, .int v_592), (5, .int y_576), (0, .ref b0), (1, .ref b1), (2, .int b2), (3, .ref b3)]) hx hb d_Words_waysOf_87 hl (by decide) rfl (fun ls hl => ?_)
                                obtain ⟨v_593, ev_593⟩ : ∃ z : Int32, z = y_576 + 1 := ⟨_, rfl⟩
                                obtain ⟨qv_593, hv_593⟩ := zI_add (l := 1) (h := 241) hv_581 zc_1 ev_593 (by decide)
                                rw [li_1] at qv_593
                                refine lv_iinc (v := v_593) (lv' := [(5, .int v_593), (4, .int v_592), (0, .ref b0), (1, .ref b1), (2, .int b2), (3, .ref b3)]) hx hb d_Words_waysOf_89 hl (k := 1) rfl (by rw [ev_593]; rfl) (by decide) rfl (fun ls hl => ?_)
                                refine lv_goto (tgt := 53) hx hb d_Words_waysOf_92 (by decide) ?_
                                exact ihk_575 (v_593) (v_592) _ _ _ (zI.wk (l' := 0) (h' := 241) hv_593 (by decide)) hv_592 (zm_up qv_593 hmk_575 (by decide)) hP hD hS (lv_sub hl [0, 1, 2, 3, 4, 5] rfl)
                        · have _nhc_554 := hc_554
                          have ni_594 := (fa_lt _ _).mp (zi_nle hc_554)
                          rw [li_11] at ni_594
                          have hv_595 : zI v_3 12 12 := zI.lt_r zc_11 hv_545 (zi_nle hc_554) (by decide)
                          refine lv_aload_n hx hb d_Words_waysOf_29 rfl (lv_at hl 1 rfl) ?_
                          refine lv_aload_n hx hb d_Words_waysOf_30 rfl (lv_at hl 4 rfl) ?_
                          refine lv_aload_n hx hb d_Words_waysOf_31 rfl (lv_at hl 2 rfl) ?_
                          refine lv_iload_n hx hb d_Words_waysOf_32 rfl (lv_at hl 3 rfl) ?_
                          refine lv_iload hx hb d_Words_waysOf_33 (lv_at hl 0 rfl) ?_
                          refine z_callV (index := 99) (As := [.int b2, .int 11]) (rest := [.ref b3, .ref b0]) (wr := [(b17, .inl (G.2 0, 20, .inl b20)), (b27, .inl (G.2 0, 241, .inl b37)), (b0, .inr (7, [.ref b4, .ref b5, .ref b6, .ref b7, .ref b8, .ref b9, .ref x_549, .ref x_550])), (x_549, .inl (G.2 0, 241, .inl f_551)), (x_550, .inl (G.2 0, 241, .inl f_552)), (b3, .inr (5, [.int b22, .int b23, .ref b24, .ref b25, .ref b26, .ref b27, .ref b28, .ref b29, .int b30, .ref b31, .ref b32, .ref b33, .ref b34, .ref b35, .ref b36])), (b31, .inl (G.2 0, 240, .inl b38))]) Z (s1_Traces_letterAt l G (b1) (b2) (11) (b14) (b15) (b16) (b17) (b18) (b19) (b21) hb2 (zI.wk (l' := 0) (h' := 11) zc_11 (by decide)) hb14 hb15 hb16 hb21) hl.1 q805 q580 q581 q3 q582 ⟨by decide, by decide, by show _ = some 2; decide +kernel⟩ ⟨Nat.le_of_ble_eq_true rfl, Nat.le_of_ble_eq_true rfl⟩ ⟨Nat.le_of_ble_eq_true rfl, Nat.le_of_ble_eq_true rfl⟩ rfl (Nat.le_of_ble_eq_true rfl) d_Words_waysOf_35 hP hD hS hA 2 2 rfl rfl rfl [2, 3] [0, 1, 4, 5, 6, 7, 8] rfl rfl rfl rfl (by decide) (fun v w1 H locs hw_596 hP hD hS => ?_)
                          obtain ⟨x_597, rfl, rfl, hx_597⟩ := hw_596
                          have hP : va_P G.1 classes [(b17, .inl (G.2 0, 20, .inl b20)), (b27, .inl (G.2 0, 241, .inl b37)), (b0, .inr (7, [.ref b4, .ref b5, .ref b6, .ref b7, .ref b8, .ref b9, .ref x_549, .ref x_550])), (x_549, .inl (G.2 0, 241, .inl f_551)), (x_550, .inl (G.2 0, 241, .inl f_552)), (b3, .inr (5, [.int b22, .int b23, .ref b24, .ref b25, .ref b26, .ref b27, .ref b28, .ref b29, .int b30, .ref b31, .ref b32, .ref b33, .ref b34, .ref b35, .ref b36])), (b31, .inl (G.2 0, 240, .inl b38)), (b1, .inr (2, [.int b14, .int b15, .int b16, .ref b17, .ref b18, .ref b19])), (b18, .inl (G.2 0, 240, .inl b21))] H := hP
                          have hD := z_tie hP hD rfl
                          refine W.widen (k := 0) (n := 0) (Nat.le_of_ble_eq_true rfl) (Nat.le_of_ble_eq_true rfl) ?_
                          refine z_callV (index := 103) (As := [.ref b3, .int x_597]) (rest := []) (wr := [(b17, .inl (G.2 0, 20, .inl b20)), (b27, .inl (G.2 0, 241, .inl b37)), (b1, .inr (2, [.int b14, .int b15, .int b16, .ref b17, .ref b18, .ref b19])), (b18, .inl (G.2 0, 240, .inl b21))]) Z (s2_Words_stepWays l G (b0) (b3) (x_597) (b4) (b5) (b6) (b7) (b8) (b9) (x_549) (x_550) (f_551) (f_552) (b22) (b23) (b24) (b25) (b26) (b27) (b28) (b29) (b30) (b31) (b32) (b33) (b34) (b35) (b36) (b38) hx_597 hb22 hb23 hb30 hb38) hl.1 q806 q808 qs22 q8 q809 ⟨by decide, by decide, by show _ = some 2; decide +kernel⟩ ⟨Nat.le_of_ble_eq_true rfl, Nat.le_of_ble_eq_true rfl⟩ ⟨Nat.le_of_ble_eq_true rfl, Nat.le_of_ble_eq_true rfl⟩ rfl (Nat.le_of_ble_eq_true rfl) d_Words_waysOf_38 hP hD hS hA 2 7 rfl rfl rfl [2, 3, 4, 5, 6] [0, 1, 7, 8] rfl rfl rfl rfl (by decide) (fun v w1 H locs hw_598 hP hD hS => ?_)
                          obtain ⟨x_599, x_600, f_601, f_602, rfl, rfl⟩ := hw_598
                          have hP : va_P G.1 classes [(b17, .inl (G.2 0, 20, .inl b20)), (b27, .inl (G.2 0, 241, .inl b37)), (b1, .inr (2, [.int b14, .int b15, .int b16, .ref b17, .ref b18, .ref b19])), (b18, .inl (G.2 0, 240, .inl b21)), (b0, .inr (7, [.ref b4, .ref b5, .ref b6, .ref b7, .ref b8, .ref b9, .ref x_599, .ref x_600])), (x_599, .inl (G.2 0, 241, .inl f_601)), (x_600, .inl (G.2 0, 241, .inl f_602)), (b3, .inr (5, [.int b22, .int b23, .ref b24, .ref b25, .ref b26, .ref b27, .ref b28, .ref b29, .int b30, .ref b31, .ref b32, .ref b33, .ref b34, .ref b35, .ref b36])), (b31, .inl (G.2 0, 240, .inl b38))] H := hP
                          have hD := z_tie hP hD rfl
                          refine W.widen (k := 0) (n := 0) (Nat.le_of_ble_eq_true rfl) (Nat.le_of_ble_eq_true rfl) ?_
                          refine lv_iinc (v := 12) (lv' := [(4, .int 12), (0, .ref b0), (1, .ref b1), (2, .int b2), (3, .ref b3)]) hx hb d_Words_waysOf_41 hl (k := 0) rfl (by decide +kernel) (by decide) rfl (fun ls hl => ?_)
                          refine lv_goto (tgt := 18) hx hb d_Words_waysOf_44 (by decide) ?_
                          refine lv_iload hx hb d_Words_waysOf_18 (lv_at hl 0 rfl) ?_
                          refine lv_aload_n hx hb d_Words_waysOf_20 rfl (lv_at hl 2 rfl) ?_
                          refine va_get (D := G.1) (ci := 2) (v := .ref b17) (C := R_Traces) (T := F_Traces) (N := 6) hx hb hts i_Traces hown hK hP 2 rfl rfl 3 (by decide) (hts _ q69) (fun _ h9 => h9) rfl d_Words_waysOf_21 ?_
                          refine lv_iload_n hx hb d_Words_waysOf_24 rfl (lv_at hl 3 rfl) ?_
                          refine va_iald hx hb hK hP 0 0 rfl rfl (zI.inn hb2 (by decide)) d_Words_waysOf_25 ?_
                          refine lv_topi (fun v_603 ev_603 => ?_)
                          obtain rfl : v_3 = v_603 := ev_3.trans ev_603.symm
                          refine lv_icmp_ge (tgt := 47) hx hb d_Words_waysOf_26 (by decide) (fun _ => ?_) (fun hc => zI.no_lt zc_12 hv_595 (zi_nle hc) (by decide))
                          refine lv_iconst (v := 0) hx hb d_Words_waysOf_47 (by decide) ?_
                          refine lv_istore (lv' := [(4, .int 0), (0, .ref b0), (1, .ref b1), (2, .int b2), (3, .ref b3)]) hx hb d_Words_waysOf_48 hl (by decide) rfl (fun ls hl => ?_)
                          refine lv_iconst (v := 0) hx hb d_Words_waysOf_50 (by decide) ?_
                          refine lv_istore (lv' := [(5, .int 0), (4, .int 0), (0, .ref b0), (1, .ref b1), (2, .int b2), (3, .ref b3)]) hx hb d_Words_waysOf_51 hl (by decide) rfl (fun ls hl => ?_)
                          suffices key : ∀ (k_622 : Nat) (y_623 : Int32) (y_624 : Int32) (H : Heap) (locs : List Loc) (ls : Array Slot), (zI y_623 0 241) → (zI y_624 (-2147483648) 1000000) → (241 : Int) - y_623.toInt < (k_622 : Int) → va_P G.1 classes [(b17, .inl (G.2 0, 20, .inl b20)), (b27, .inl (G.2 0, 241, .inl b37)), (b1, .inr (2, [.int b14, .int b15, .int b16, .ref b17, .ref b18, .ref b19])), (b18, .inl (G.2 0, 240, .inl b21)), (b0, .inr (7, [.ref b4, .ref b5, .ref b6, .ref b7, .ref b8, .ref b9, .ref x_599, .ref x_600])), (x_599, .inl (G.2 0, 241, .inl f_601)), (x_600, .inl (G.2 0, 241, .inl f_602)), (b3, .inr (5, [.int b22, .int b23, .ref b24, .ref b25, .ref b26, .ref b27, .ref b28, .ref b29, .int b30, .ref b31, .ref b32, .ref b33, .ref b34, .ref b35, .ref b36])), (b31, .inl (G.2 0, 240, .inl b38))] H → va_D A [(b17, .inl (G.2 0, 20, .inl b20)), (b27, .inl (G.2 0, 241, .inl b37)), (b1, .inr (2, [.int b14, .int b15, .int b16, .ref b17, .ref b18, .ref b19])), (b18, .inl (G.2 0, 240, .inl b21)), (b0, .inr (7, [.ref b4, .ref b5, .ref b6, .ref b7, .ref b8, .ref b9, .ref x_599, .ref x_600])), (x_599, .inl (G.2 0, 241, .inl f_601)), (x_600, .inl (G.2 0, 241, .inl f_602)), (b3, .inr (5, [.int b22, .int b23, .ref b24, .ref b25, .ref b26, .ref b27, .ref b28, .ref b29, .int b30, .ref b31, .ref b32, .ref b33, .ref b34, .ref b35, .ref b36])), (b31, .inl (G.2 0, 240, .inl b38))] → va_S A s.heap H locs → lv_has ls 6 [(5, .int y_623), (4, .int y_624), (0, .ref b0), (1, .ref b1), (2, .int b2), (3, .ref b3)] → W p l e m_s1_Words_waysOf s m ([.ref b0, .ref b1, .int b2, .ref b3] : List Value).toArray below meth c H locs 0 0 (MQ below (zQ G (fun v w => ∃ (e0 : Int32), ∃ (e1 : Nat), ∃ (e2 : Nat), ∃ (e3 : Nat → Int32), ∃ (e4 : Nat → Int32), v = some (.int e0) ∧ w = [(b0, .inr (7, [.ref b4, .ref b5, .ref b6, .ref b7, .ref b8, .ref b9, .ref e1, .ref e2])), (e1, .inl (G.2 0, 241, .inl e3)), (e2, .inl (G.2 0, 241, .inl e4)), (b1, .inr (2, [.int b14, .int b15, .int b16, .ref b17, .ref b18, .ref b19])), (b17, .inl (G.2 0, 20, .inl b20)), (b18, .inl (G.2 0, 240, .inl b21)), (b3, .inr (5, [.int b22, .int b23, .ref b24, .ref b25, .ref b26, .ref b27, .ref b28, .ref b29, .int b30, .ref b31, .ref b32, .ref b33, .ref b34, .ref b35, .ref b36])), (b27, .inl (G.2 0, 241, .inl b37)), (b31, .inl (G.2 0, 240, .inl b38))] ∧ (zI e0 (-2147483648) 1000000)) A) ([.ref b0, .ref b1, .int b2, .ref b3] : List Value).toArray s m_s1_Words_waysOf.cells m_s1_Words_waysOf.slots A) (F0 m 53 ls []) by
                            exact key 242 (0) (0) _ _ _ (zI.wk (l' := 0) (h' := 241) zc_0 (by decide)) (zI.wk (l' := (-2147483648)) (h' := 1000000) zc_0 (by decide)) (zm_upi (zI.wk (l' := 0) (h' := 241) zc_0 (by decide)) (by decide)) hP hD hS (lv_sub hl [0, 1, 2, 3, 4, 5] rfl)
                          intro k_622
                          induction k_622 with
                          | zero =>
                            intro y_623 y_624 H locs ls hy_623 hy_624 hmk_622 hP hD hS hl
                            exact (zm_up0 hy_623 hmk_622).elim
                          | succ k_622 ihk_622 =>
                            intro y_623 y_624 H locs ls hy_623 hy_624 hmk_622 hP hD hS hl
                            refine lv_iload hx hb d_Words_waysOf_53 (lv_at hl 0 rfl) ?_
                            refine lv_aload_n hx hb d_Words_waysOf_55 rfl (lv_at hl 5 rfl) ?_
                            refine va_get (D := G.1) (ci := 5) (v := .int b23) (C := R_Machine) (T := F_Machine) (N := 15) hx hb hts i_Machine hown hK hP 7 rfl rfl 1 (by decide) (hts _ q166) (fun _ h9 => h9) rfl d_Words_waysOf_56 ?_
                            refine lv_icmp_ge (tgt := 95) hx hb d_Words_waysOf_59 (by decide) (fun hc_625 => ?_) (fun hc_625 => ?_)
                            · have _nhc_625 := hc_625
                              have ni_626 := (fa_le _ _).mp hc_625
                              refine lv_iload hx hb d_Words_waysOf_95 (lv_at hl 1 rfl) ?_
                              exact z_iret hx hb hr hlocks (hP.sub [4, 5, 6, 2, 0, 3, 7, 1, 8] rfl) (hD.sub [4, 5, 6, 2, 0, 3, 7, 1, 8] (by decide) rfl) hS (Nat.le_of_ble_eq_true rfl) (Nat.le_of_ble_eq_true rfl) d_Words_waysOf_97 ⟨y_624, x_599, x_600, f_601, f_602, rfl, rfl, hy_624⟩
                            · have _nhc_625 := hc_625
                              have ni_627 := (fa_lt _ _).mp (zi_nle hc_625)
                              have hv_628 : zI y_623 0 240 := zI.lt_l hy_623 hb23 (zi_nle hc_625) (by decide)
                              have hv_629 : zI b23 1 241 := zI.lt_r hy_623 hb23 (zi_nle hc_625) (by decide)
                              refine lv_aload_n hx hb d_Words_waysOf_62 rfl (lv_at hl 5 rfl) ?_
                              refine va_get (D := G.1) (ci := 5) (v := .ref b27) (C := R_Machine) (T := F_Machine) (N := 15) hx hb hts i_Machine hown hK hP 7 rfl rfl 5 (by decide) (hts _ q177) (fun _ h9 => h9) rfl d_Words_waysOf_63 ?_
                              refine lv_iload hx hb d_Words_waysOf_66 (lv_at hl 0 rfl) ?_
                              refine va_iald hx hb hK hP 1 0 rfl rfl (zI.inn hv_628 (by decide)) d_Words_waysOf_68 ?_
                              refine lv_topi (fun v_630 ev_630 => ?_)
                              refine lv_if_le (tgt := 89) hx hb d_Words_waysOf_69 (by decide) (fun hc_631 => ?_) (fun hc_631 => ?_)
                              · have _nhc_631 := hc_631
                                have ni_632 := (fa_le _ _).mp hc_631
                                rw [li_0] at ni_632
                                have hv_633 : zI v_630 (-2147483648) 0 := zI.le_l (zI_all v_630) zc_0 hc_631 (by decide)
                                obtain ⟨v_634, ev_634⟩ : ∃ z : Int32, z = y_623 + 1 := ⟨_, rfl⟩
                                obtain ⟨qv_634, hv_634⟩ := zI_add (l := 1) (h := 241) hv_628 zc_1 ev_634 (by decide)
                                rw [li_1] at qv_634
                                refine lv_iinc (v := v_634) (lv' := [(5, .int v_634), (4, .int y_624), (0, .ref b0), (1, .ref b1), (2, .int b2), (3, .ref b3)]) hx hb d_Words_waysOf_89 hl (k := 0) rfl (by rw [ev_634]; rfl) (by decide) rfl (fun ls hl => ?_)
                                refine lv_goto (tgt := 53) hx hb d_Words_waysOf_92 (by decide) ?_
                                exact ihk_622 (v_634) (y_624) _ _ _ (zI.wk (l' := 0) (h' := 241) hv_634 (by decide)) hy_624 (zm_up qv_634 hmk_622 (by decide)) hP hD hS (lv_sub hl [0, 1, 2, 3, 4, 5] rfl)
                              · have _nhc_631 := hc_631
                                have ni_635 := (fa_lt _ _).mp (zi_nle hc_631)
                                rw [li_0] at ni_635
                                have hv_636 : zI v_630 1 2147483647 := zI.lt_r zc_0 (zI_all v_630) (zi_nle hc_631) (by decide)
                                refine lv_iload hx hb d_Words_waysOf_72 (lv_at hl 1 rfl) ?_
                                refine lv_aload_n hx hb d_Words_waysOf_74 rfl (lv_at hl 2 rfl) ?_
                                refine va_get (D := G.1) (ci := 7) (v := .ref x_599) (C := R_Words) (T := F_Words) (N := 8) hx hb hts i_Words hown hK hP 4 rfl rfl 6 (by decide) (hts _ q272) (fun _ h9 => h9) rfl d_Words_waysOf_75 ?_
                                refine lv_iload hx hb d_Words_waysOf_78 (lv_at hl 0 rfl) ?_
                                refine va_iald hx hb hK hP 5 0 rfl rfl (zI.inn hv_628 (by decide)) d_Words_waysOf_80 ?_
                                refine lv_topi (fun v_637 ev_637 => ?_)
                                refine lv_iadd hx hb d_Words_waysOf_81 ?_
                                refine lv_topi (fun v_638 ev_638 => ?_)
                                refine lv_ldc hx hb hown (hts _ q813) d_Words_waysOf_82 ?_
                                refine va_mmin hx hb (hml.trans hl.1.symm) hown (hts _ q814) (hts _ q592) (hts _ q20) (hts _ q593) (Nat.le_of_ble_eq_true rfl) (Nat.le_of_ble_eq_true rfl) (Nat.le_of_ble_eq_true rfl) (Nat.le_of_ble_eq_true rfl) d_Words_waysOf_84 ?_
                                refine lv_topi (fun v_639 ev_639 => ?_)
                                have hv_639 := zI_min (l := (-2147483648)) (h := 1000000) (zI_all v_638) zc_1000000 ev_639 (by decide)
                                refine lv_istore (lv' := [(4, .int v_639), (5, .int y_623), (0, .ref b0), (1, .ref b1), (2, .int b2), (3, .ref b3)]) hx hb d_Words_waysOf_87 hl (by decide) rfl (fun ls hl => ?_)
                                obtain ⟨v_640, ev_640⟩ : ∃ z : Int32, z = y_623 + 1 := ⟨_, rfl⟩
                                obtain ⟨qv_640, hv_640⟩ := zI_add (l := 1) (h := 241) hv_628 zc_1 ev_640 (by decide)
                                rw [li_1] at qv_640
                                refine lv_iinc (v := v_640) (lv' := [(5, .int v_640), (4, .int v_639), (0, .ref b0), (1, .ref b1), (2, .int b2), (3, .ref b3)]) hx hb d_Words_waysOf_89 hl (k := 1) rfl (by rw [ev_640]; rfl) (by decide) rfl (fun ls hl => ?_)
                                refine lv_goto (tgt := 53) hx hb d_Words_waysOf_92 (by decide) ?_
                                exact ihk_622 (v_640) (v_639) _ _ _ (zI.wk (l' := 0) (h' := 241) hv_640 (by decide)) hv_639 (zm_up qv_640 hmk_622 (by decide)) hP hD hS (lv_sub hl [0, 1, 2, 3, 4, 5] rfl)
theorem d_Words_draw_0 : decode prog_12_method_8_code 0 = .ok (.iload_n 2, 1) := by decide +kernel
theorem d_Words_draw_1 : decode prog_12_method_8_code 1 = .ok (.istore_n 3, 1) := by decide +kernel
theorem d_Words_draw_2 : decode prog_12_method_8_code 2 = .ok (.iconst 0, 1) := by decide +kernel
theorem d_Words_draw_3 : decode prog_12_method_8_code 3 = .ok (.istore 4, 2) := by decide +kernel
theorem d_Words_draw_5 : decode prog_12_method_8_code 5 = .ok (.iconst 0, 1) := by decide +kernel
theorem d_Words_draw_6 : decode prog_12_method_8_code 6 = .ok (.istore 5, 2) := by decide +kernel
theorem d_Words_draw_8 : decode prog_12_method_8_code 8 = .ok (.iload 5, 2) := by decide +kernel
theorem d_Words_draw_10 : decode prog_12_method_8_code 10 = .ok (.bipush 12, 2) := by decide +kernel
theorem d_Words_draw_12 : decode prog_12_method_8_code 12 = .ok (.if_icmp .gt 154, 3) := by decide +kernel
theorem d_Words_draw_15 : decode prog_12_method_8_code 15 = .ok (.aload_n 1, 1) := by decide +kernel
theorem d_Words_draw_16 : decode prog_12_method_8_code 16 = .ok (.getfield 107, 3) := by decide +kernel
theorem d_Words_draw_19 : decode prog_12_method_8_code 19 = .ok (.iload 4, 2) := by decide +kernel
theorem d_Words_draw_21 : decode prog_12_method_8_code 21 = .ok (.iaload, 1) := by decide +kernel
theorem d_Words_draw_22 : decode prog_12_method_8_code 22 = .ok (.aload_n 1, 1) := by decide +kernel
theorem d_Words_draw_23 : decode prog_12_method_8_code 23 = .ok (.iload 4, 2) := by decide +kernel
theorem d_Words_draw_25 : decode prog_12_method_8_code 25 = .ok (.invokevirtual 129, 3) := by decide +kernel
theorem d_Words_draw_28 : decode prog_12_method_8_code 28 = .ok (.iadd, 1) := by decide +kernel
theorem d_Words_draw_29 : decode prog_12_method_8_code 29 = .ok (.istore 6, 2) := by decide +kernel
theorem d_Words_draw_31 : decode prog_12_method_8_code 31 = .ok (.iload 6, 2) := by decide +kernel
theorem d_Words_draw_33 : decode prog_12_method_8_code 33 = .ok (.ifCond .gt 6, 3) := by decide +kernel
theorem d_Words_draw_36 : decode prog_12_method_8_code 36 = .ok (.iload 5, 2) := by decide +kernel
theorem d_Words_draw_38 : decode prog_12_method_8_code 38 = .ok (.ireturn, 1) := by decide +kernel
theorem d_Words_draw_39 : decode prog_12_method_8_code 39 = .ok (.sipush 1103, 3) := by decide +kernel
theorem d_Words_draw_42 : decode prog_12_method_8_code 42 = .ok (.iload_n 3, 1) := by decide +kernel
theorem d_Words_draw_43 : decode prog_12_method_8_code 43 = .ok (.imul, 1) := by decide +kernel
theorem d_Words_draw_44 : decode prog_12_method_8_code 44 = .ok (.sipush 12345, 3) := by decide +kernel
theorem d_Words_draw_47 : decode prog_12_method_8_code 47 = .ok (.iadd, 1) := by decide +kernel
theorem d_Words_draw_48 : decode prog_12_method_8_code 48 = .ok (.ldc 132, 2) := by decide +kernel
theorem d_Words_draw_50 : decode prog_12_method_8_code 50 = .ok (.irem, 1) := by decide +kernel
theorem d_Words_draw_51 : decode prog_12_method_8_code 51 = .ok (.istore_n 3, 1) := by decide +kernel
theorem d_Words_draw_52 : decode prog_12_method_8_code 52 = .ok (.iload_n 3, 1) := by decide +kernel
theorem d_Words_draw_53 : decode prog_12_method_8_code 53 = .ok (.iload 6, 2) := by decide +kernel
theorem d_Words_draw_55 : decode prog_12_method_8_code 55 = .ok (.irem, 1) := by decide +kernel
theorem d_Words_draw_56 : decode prog_12_method_8_code 56 = .ok (.aload_n 1, 1) := by decide +kernel
theorem d_Words_draw_57 : decode prog_12_method_8_code 57 = .ok (.getfield 107, 3) := by decide +kernel
theorem d_Words_draw_60 : decode prog_12_method_8_code 60 = .ok (.iload 4, 2) := by decide +kernel
theorem d_Words_draw_62 : decode prog_12_method_8_code 62 = .ok (.iaload, 1) := by decide +kernel
theorem d_Words_draw_63 : decode prog_12_method_8_code 63 = .ok (.isub, 1) := by decide +kernel
theorem d_Words_draw_64 : decode prog_12_method_8_code 64 = .ok (.istore 7, 2) := by decide +kernel
theorem d_Words_draw_66 : decode prog_12_method_8_code 66 = .ok (.iload 7, 2) := by decide +kernel
theorem d_Words_draw_68 : decode prog_12_method_8_code 68 = .ok (.ifCond .ge 6, 3) := by decide +kernel
theorem d_Words_draw_71 : decode prog_12_method_8_code 71 = .ok (.iload 5, 2) := by decide +kernel
theorem d_Words_draw_73 : decode prog_12_method_8_code 73 = .ok (.ireturn, 1) := by decide +kernel
theorem d_Words_draw_74 : decode prog_12_method_8_code 74 = .ok (.iload 5, 2) := by decide +kernel
theorem d_Words_draw_76 : decode prog_12_method_8_code 76 = .ok (.bipush 12, 2) := by decide +kernel
theorem d_Words_draw_78 : decode prog_12_method_8_code 78 = .ok (.if_icmp .ne 6, 3) := by decide +kernel
theorem d_Words_draw_81 : decode prog_12_method_8_code 81 = .ok (.bipush (-2), 2) := by decide +kernel
theorem d_Words_draw_83 : decode prog_12_method_8_code 83 = .ok (.ireturn, 1) := by decide +kernel
theorem d_Words_draw_84 : decode prog_12_method_8_code 84 = .ok (.aload_n 1, 1) := by decide +kernel
theorem d_Words_draw_85 : decode prog_12_method_8_code 85 = .ok (.getfield 133, 3) := by decide +kernel
theorem d_Words_draw_88 : decode prog_12_method_8_code 88 = .ok (.iload 4, 2) := by decide +kernel
theorem d_Words_draw_90 : decode prog_12_method_8_code 90 = .ok (.iaload, 1) := by decide +kernel
theorem d_Words_draw_91 : decode prog_12_method_8_code 91 = .ok (.istore 8, 2) := by decide +kernel
theorem d_Words_draw_93 : decode prog_12_method_8_code 93 = .ok (.iload 8, 2) := by decide +kernel
theorem d_Words_draw_95 : decode prog_12_method_8_code 95 = .ok (.aload_n 1, 1) := by decide +kernel
theorem d_Words_draw_96 : decode prog_12_method_8_code 96 = .ok (.getfield 133, 3) := by decide +kernel
theorem d_Words_draw_99 : decode prog_12_method_8_code 99 = .ok (.iload 4, 2) := by decide +kernel
theorem d_Words_draw_101 : decode prog_12_method_8_code 101 = .ok (.iconst 1, 1) := by decide +kernel
theorem d_Words_draw_102 : decode prog_12_method_8_code 102 = .ok (.iadd, 1) := by decide +kernel
theorem d_Words_draw_103 : decode prog_12_method_8_code 103 = .ok (.iaload, 1) := by decide +kernel
theorem d_Words_draw_104 : decode prog_12_method_8_code 104 = .ok (.iconst 1, 1) := by decide +kernel
theorem d_Words_draw_105 : decode prog_12_method_8_code 105 = .ok (.isub, 1) := by decide +kernel
theorem d_Words_draw_106 : decode prog_12_method_8_code 106 = .ok (.if_icmp .ge 33, 3) := by decide +kernel
theorem d_Words_draw_109 : decode prog_12_method_8_code 109 = .ok (.iload 7, 2) := by decide +kernel
theorem d_Words_draw_111 : decode prog_12_method_8_code 111 = .ok (.aload_n 1, 1) := by decide +kernel
theorem d_Words_draw_112 : decode prog_12_method_8_code 112 = .ok (.getfield 136, 3) := by decide +kernel
theorem d_Words_draw_115 : decode prog_12_method_8_code 115 = .ok (.iload 8, 2) := by decide +kernel
theorem d_Words_draw_117 : decode prog_12_method_8_code 117 = .ok (.iaload, 1) := by decide +kernel
theorem d_Words_draw_118 : decode prog_12_method_8_code 118 = .ok (.if_icmp .lt 21, 3) := by decide +kernel
theorem d_Words_draw_121 : decode prog_12_method_8_code 121 = .ok (.iload 7, 2) := by decide +kernel
theorem d_Words_draw_123 : decode prog_12_method_8_code 123 = .ok (.aload_n 1, 1) := by decide +kernel
theorem d_Words_draw_124 : decode prog_12_method_8_code 124 = .ok (.getfield 136, 3) := by decide +kernel
theorem d_Words_draw_127 : decode prog_12_method_8_code 127 = .ok (.iload 8, 2) := by decide +kernel
theorem d_Words_draw_129 : decode prog_12_method_8_code 129 = .ok (.iaload, 1) := by decide +kernel
theorem d_Words_draw_130 : decode prog_12_method_8_code 130 = .ok (.isub, 1) := by decide +kernel
theorem d_Words_draw_131 : decode prog_12_method_8_code 131 = .ok (.istore 7, 2) := by decide +kernel
theorem d_Words_draw_133 : decode prog_12_method_8_code 133 = .ok (.iinc 8 1, 3) := by decide +kernel
theorem d_Words_draw_136 : decode prog_12_method_8_code 136 = .ok (.goto (-43), 3) := by decide +kernel
theorem d_Words_draw_139 : decode prog_12_method_8_code 139 = .ok (.aload_n 0, 1) := by decide +kernel
theorem d_Words_draw_140 : decode prog_12_method_8_code 140 = .ok (.getfield 9, 3) := by decide +kernel
theorem d_Words_draw_143 : decode prog_12_method_8_code 143 = .ok (.iload 5, 2) := by decide +kernel
theorem d_Words_draw_145 : decode prog_12_method_8_code 145 = .ok (.aload_n 1, 1) := by decide +kernel
theorem d_Words_draw_146 : decode prog_12_method_8_code 146 = .ok (.iload 8, 2) := by decide +kernel
theorem d_Words_draw_148 : decode prog_12_method_8_code 148 = .ok (.invokevirtual 119, 3) := by decide +kernel
theorem d_Words_draw_151 : decode prog_12_method_8_code 151 = .ok (.iastore, 1) := by decide +kernel
theorem d_Words_draw_152 : decode prog_12_method_8_code 152 = .ok (.aload_n 1, 1) := by decide +kernel
theorem d_Words_draw_153 : decode prog_12_method_8_code 153 = .ok (.iload 8, 2) := by decide +kernel
theorem d_Words_draw_155 : decode prog_12_method_8_code 155 = .ok (.invokevirtual 123, 3) := by decide +kernel
theorem d_Words_draw_158 : decode prog_12_method_8_code 158 = .ok (.istore 4, 2) := by decide +kernel
theorem d_Words_draw_160 : decode prog_12_method_8_code 160 = .ok (.iinc 5 1, 3) := by decide +kernel
theorem d_Words_draw_163 : decode prog_12_method_8_code 163 = .ok (.goto (-155), 3) := by decide +kernel
theorem zc_1103 : zI 1103 1103 1103 := ⟨by decide +kernel, by decide +kernel⟩
theorem li_1103 : (1103 : Int32).toInt = 1103 := by decide +kernel
theorem zc_12345 : zI 12345 12345 12345 := ⟨by decide +kernel, by decide +kernel⟩
theorem li_12345 : (12345 : Int32).toInt = 12345 := by decide +kernel
abbrev m_s1_Words_draw : Room := { frames := 1, cells := 0, slots := 0, locals := 23 }
set_option maxHeartbeats 4000000 in
set_option maxRecDepth 100000 in
theorem s1_Words_draw (l : Launch) (G : zG) (b0 : Nat) (b1 : Nat) (b2 : Int32) (b3 : Nat) (b4 : Nat) (b5 : Nat) (b6 : Nat) (b7 : Nat) (b8 : Nat) (b9 : Nat) (b10 : Nat) (b11 : Nat → Int32) (b12 : Int32) (b13 : Int32) (b14 : Nat) (b15 : Nat) (b16 : Nat) (b17 : Nat) (b18 : Nat) (b19 : Nat) (b20 : Int32) (b21 : Nat) (b22 : Nat) (b23 : Nat) (b24 : Nat) (b25 : Nat) (b26 : Nat) (b27 : Nat → Int32) (b28 : Nat → Int32) (b29 : Nat → Int32) (b30 : Nat → Int32) (hb2 : zI b2 0 999999) (hb12 : zI b12 0 1) (hb13 : zI b13 0 241) (hb20 : zI b20 0 240) (hb28 : zK b28) (hb30 : zR b30 0 240) : zM l G y_Words_draw prog_12_method_8_code 9 (Option.some Jvm.ClassFile.FieldType.int) m_s1_Words_draw [.ref b0, .ref b1, .int b2] [(b0, .inr (7, [.ref b3, .ref b4, .ref b5, .ref b6, .ref b7, .ref b8, .ref b9, .ref b10])), (b3, .inl (G.2 0, 12, .inl b11)), (b1, .inr (5, [.int b12, .int b13, .ref b14, .ref b15, .ref b16, .ref b17, .ref b18, .ref b19, .int b20, .ref b21, .ref b22, .ref b23, .ref b24, .ref b25, .ref b26])), (b17, .inl (G.2 0, 241, .inl b27)), (b21, .inl (G.2 0, 240, .inl b28)), (b22, .inl (G.2 0, 240, .inl b29)), (b25, .inl (G.2 0, 242, .inl b30))] (fun v w => ∃ (e0 : Int32), ∃ (e1 : Nat → Int32), v = some (.int e0) ∧ w = [(b0, .inr (7, [.ref b3, .ref b4, .ref b5, .ref b6, .ref b7, .ref b8, .ref b9, .ref b10])), (b3, .inl (G.2 0, 12, .inl e1)), (b1, .inr (5, [.int b12, .int b13, .ref b14, .ref b15, .ref b16, .ref b17, .ref b18, .ref b19, .int b20, .ref b21, .ref b22, .ref b23, .ref b24, .ref b25, .ref b26])), (b17, .inl (G.2 0, 241, .inl b27)), (b21, .inl (G.2 0, 240, .inl b28)), (b22, .inl (G.2 0, 240, .inl b29)), (b25, .inl (G.2 0, 242, .inl b30))] ∧ (zI e0 (-2) 12)) := by
  refine z_start (by decide +kernel) (Nat.le_of_ble_eq_true rfl) ?_
  intro p e s m below meth c A Z hr hnm hA hP hD hS ls hl
  have Z : zC p s m _ meth c prog_12_method_8_code 9 "TraceMachines$Words" G := Z
  obtain ⟨hx, hb, hml, hown, hts, hK, hN, hlocks⟩ := id Z
  have hl : lv_has ls 9 [(0, .ref b0), (1, .ref b1), (2, .int b2)] := hl
  refine lv_iload_n hx hb d_Words_draw_0 rfl (lv_at hl 2 rfl) ?_
  refine lv_istore_n (lv' := [(3, .int b2), (0, .ref b0), (1, .ref b1), (2, .int b2)]) hx hb d_Words_draw_1 rfl hl (by decide) rfl (fun ls hl => ?_)
  refine lv_iconst (v := 0) hx hb d_Words_draw_2 (by decide) ?_
  refine lv_istore (lv' := [(4, .int 0), (3, .int b2), (0, .ref b0), (1, .ref b1), (2, .int b2)]) hx hb d_Words_draw_3 hl (by decide) rfl (fun ls hl => ?_)
  refine lv_iconst (v := 0) hx hb d_Words_draw_5 (by decide) ?_
  refine lv_istore (lv' := [(5, .int 0), (4, .int 0), (3, .int b2), (0, .ref b0), (1, .ref b1), (2, .int b2)]) hx hb d_Words_draw_6 hl (by decide) rfl (fun ls hl => ?_)
  suffices key : ∀ (k_95 : Nat) (y_96 : Int32) (y_97 : Int32) (y_98 : Int32) (y_99 : Nat → Int32) (H : Heap) (locs : List Loc) (ls : Array Slot), (zI y_96 0 12) → (zI y_97 0 240) → (zI y_98 0 1000002) → (12 : Int) - y_96.toInt < (k_95 : Int) → va_P G.1 classes [(b0, .inr (7, [.ref b3, .ref b4, .ref b5, .ref b6, .ref b7, .ref b8, .ref b9, .ref b10])), (b3, .inl (G.2 0, 12, .inl y_99)), (b1, .inr (5, [.int b12, .int b13, .ref b14, .ref b15, .ref b16, .ref b17, .ref b18, .ref b19, .int b20, .ref b21, .ref b22, .ref b23, .ref b24, .ref b25, .ref b26])), (b17, .inl (G.2 0, 241, .inl b27)), (b21, .inl (G.2 0, 240, .inl b28)), (b22, .inl (G.2 0, 240, .inl b29)), (b25, .inl (G.2 0, 242, .inl b30))] H → va_D A [(b0, .inr (7, [.ref b3, .ref b4, .ref b5, .ref b6, .ref b7, .ref b8, .ref b9, .ref b10])), (b3, .inl (G.2 0, 12, .inl y_99)), (b1, .inr (5, [.int b12, .int b13, .ref b14, .ref b15, .ref b16, .ref b17, .ref b18, .ref b19, .int b20, .ref b21, .ref b22, .ref b23, .ref b24, .ref b25, .ref b26])), (b17, .inl (G.2 0, 241, .inl b27)), (b21, .inl (G.2 0, 240, .inl b28)), (b22, .inl (G.2 0, 240, .inl b29)), (b25, .inl (G.2 0, 242, .inl b30))] → va_S A s.heap H locs → lv_has ls 9 [(5, .int y_96), (4, .int y_97), (3, .int y_98), (0, .ref b0), (1, .ref b1), (2, .int b2)] → W p l e m_s1_Words_draw s m ([.ref b0, .ref b1, .int b2] : List Value).toArray below meth c H locs 0 0 (MQ below (zQ G (fun v w => ∃ (e0 : Int32), ∃ (e1 : Nat → Int32), v = some (.int e0) ∧ w = [(b0, .inr (7, [.ref b3, .ref b4, .ref b5, .ref b6, .ref b7, .ref b8, .ref b9, .ref b10])), (b3, .inl (G.2 0, 12, .inl e1)), (b1, .inr (5, [.int b12, .int b13, .ref b14, .ref b15, .ref b16, .ref b17, .ref b18, .ref b19, .int b20, .ref b21, .ref b22, .ref b23, .ref b24, .ref b25, .ref b26])), (b17, .inl (G.2 0, 241, .inl b27)), (b21, .inl (G.2 0, 240, .inl b28)), (b22, .inl (G.2 0, 240, .inl b29)), (b25, .inl (G.2 0, 242, .inl b30))] ∧ (zI e0 (-2) 12)) A) ([.ref b0, .ref b1, .int b2] : List Value).toArray s m_s1_Words_draw.cells m_s1_Words_draw.slots A) (F0 m 8 ls []) by
    exact key 13 (0) (0) (b2) (b11) _ _ _ (zI.wk (l' := 0) (h' := 12) zc_0 (by decide)) (zI.wk (l' := 0) (h' := 240) zc_0 (by decide)) (zI.wk (l' := 0) (h' := 1000002) hb2 (by decide)) (zm_upi (zI.wk (l' := 0) (h' := 12) zc_0 (by decide)) (by decide)) hP hD hS (lv_sub hl [0, 1, 2, 3, 4, 5] rfl)
  intro k_95
  induction k_95 with
  | zero =>
    intro y_96 y_97 y_98 y_99 H locs ls hy_96 hy_97 hy_98 hmk_95 hP hD hS hl
    exact (zm_up0 hy_96 hmk_95).elim
  | succ k_95 ihk_95 =>
    intro y_96 y_97 y_98 y_99 H locs ls hy_96 hy_97 hy_98 hmk_95 hP hD hS hl
    refine lv_iload hx hb d_Words_draw_8 (lv_at hl 0 rfl) ?_
    refine lv_bipush (v := 12) hx hb d_Words_draw_10 (by decide) ?_
    refine lv_icmp_gt (tgt := 166) hx hb d_Words_draw_12 (by decide) (fun hc => zI.no_lt zc_12 hy_96 hc (by decide)) (fun _ => ?_)
    refine lv_aload_n hx hb d_Words_draw_15 rfl (lv_at hl 4 rfl) ?_
    refine va_get (D := G.1) (ci := 5) (v := .ref b17) (C := R_Machine) (T := F_Machine) (N := 15) hx hb hts i_Machine hown hK hP 2 rfl rfl 5 (by decide) (hts _ q177) (fun _ h9 => h9) rfl d_Words_draw_16 ?_
    refine lv_iload hx hb d_Words_draw_19 (lv_at hl 1 rfl) ?_
    refine va_iald hx hb hK hP 3 0 rfl rfl (zI.inn hy_97 (by decide)) d_Words_draw_21 ?_
    refine lv_topi (fun v_100 ev_100 => ?_)
    refine lv_aload_n hx hb d_Words_draw_22 rfl (lv_at hl 4 rfl) ?_
    refine lv_iload hx hb d_Words_draw_23 (lv_at hl 1 rfl) ?_
    refine z_callV (index := 129) (As := [.int y_97]) (rest := [.int v_100]) (wr := [(b0, .inr (7, [.ref b3, .ref b4, .ref b5, .ref b6, .ref b7, .ref b8, .ref b9, .ref b10])), (b3, .inl (G.2 0, 12, .inl y_99)), (b17, .inl (G.2 0, 241, .inl b27)), (b21, .inl (G.2 0, 240, .inl b28))]) Z (s1_Machine_leavers l G (b1) (y_97) (b12) (b13) (b14) (b15) (b16) (b17) (b18) (b19) (b20) (b21) (b22) (b23) (b24) (b25) (b26) (b29) (b30) hy_97 hb12 hb13 hb20 hb30) hl.1 q909 q665 q666 q6 q667 ⟨by decide, by decide, by show _ = some 1; decide +kernel⟩ ⟨Nat.le_of_ble_eq_true rfl, Nat.le_of_ble_eq_true rfl⟩ ⟨Nat.le_of_ble_eq_true rfl, Nat.le_of_ble_eq_true rfl⟩ rfl (Nat.le_of_ble_eq_true rfl) d_Words_draw_25 hP hD hS hA 2 5 rfl rfl rfl [2, 5, 6] [0, 1, 3, 4] rfl rfl rfl rfl (by decide) (fun v w1 H locs hw_101 hP hD hS => ?_)
    obtain ⟨x_102, rfl, rfl, hfx_103⟩ := hw_101
    have hP : va_P G.1 classes [(b0, .inr (7, [.ref b3, .ref b4, .ref b5, .ref b6, .ref b7, .ref b8, .ref b9, .ref b10])), (b3, .inl (G.2 0, 12, .inl y_99)), (b17, .inl (G.2 0, 241, .inl b27)), (b21, .inl (G.2 0, 240, .inl b28)), (b1, .inr (5, [.int b12, .int b13, .ref b14, .ref b15, .ref b16, .ref b17, .ref b18, .ref b19, .int b20, .ref b21, .ref b22, .ref b23, .ref b24, .ref b25, .ref b26])), (b22, .inl (G.2 0, 240, .inl b29)), (b25, .inl (G.2 0, 242, .inl b30))] H := hP
    have hD := z_tie hP hD rfl
    refine W.widen (k := 0) (n := 0) (Nat.le_of_ble_eq_true rfl) (Nat.le_of_ble_eq_true rfl) ?_
    refine lv_iadd hx hb d_Words_draw_28 ?_
    refine lv_topi (fun v_104 ev_104 => ?_)
    refine lv_istore (lv' := [(6, .int v_104), (5, .int y_96), (4, .int y_97), (3, .int y_98), (0, .ref b0), (1, .ref b1), (2, .int b2)]) hx hb d_Words_draw_29 hl (by decide) rfl (fun ls hl => ?_)
    refine lv_iload hx hb d_Words_draw_31 (lv_at hl 0 rfl) ?_
    refine lv_if_gt (tgt := 39) hx hb d_Words_draw_33 (by decide) (fun hc_105 => ?_) (fun hc_105 => ?_)
    · have _nhc_105 := hc_105
      have ni_106 := (fa_lt _ _).mp hc_105
      rw [li_0] at ni_106
      have hv_107 : zI v_104 1 2147483647 := zI.lt_r zc_0 (zI_all v_104) hc_105 (by decide)
      refine lv_sipush (v := 1103) hx hb d_Words_draw_39 (by decide) ?_
      refine lv_iload_n hx hb d_Words_draw_42 rfl (lv_at hl 3 rfl) ?_
      refine lv_imul hx hb d_Words_draw_43 ?_
      refine lv_topi (fun v_108 ev_108 => ?_)
      obtain ⟨qv_108, hv_108⟩ := zI_mul (l := 0) (h := 1103002206) zc_1103 hy_98 ev_108 (by decide)
      rw [li_1103] at qv_108
      refine lv_sipush (v := 12345) hx hb d_Words_draw_44 (by decide) ?_
      refine lv_iadd hx hb d_Words_draw_47 ?_
      refine lv_topi (fun v_109 ev_109 => ?_)
      obtain ⟨qv_109, hv_109⟩ := zI_add (l := 12345) (h := 1103014551) hv_108 zc_12345 ev_109 (by decide)
      rw [li_12345] at qv_109
      refine lv_ldc hx hb hown (hts _ q910) d_Words_draw_48 ?_
      refine lv_irem hx hb d_Words_draw_50 (by decide +kernel) ?_
      refine lv_topi (fun v_110 ev_110 => ?_)
      obtain ⟨qv_110, hv_110⟩ := zI_rem (h := 1000002) (d := 1000003) hv_109 rfl ev_110 (by decide)
      refine lv_istore_n (lv' := [(3, .int v_110), (6, .int v_104), (5, .int y_96), (4, .int y_97), (0, .ref b0), (1, .ref b1), (2, .int b2)]) hx hb d_Words_draw_51 rfl hl (by decide) rfl (fun ls hl => ?_)
      refine lv_iload_n hx hb d_Words_draw_52 rfl (lv_at hl 0 rfl) ?_
      refine lv_iload hx hb d_Words_draw_53 (lv_at hl 1 rfl) ?_
      refine lv_irem hx hb d_Words_draw_55 (by intro h0; exact zI.no_eq hv_107 zc_0 h0 (by decide)) ?_
      refine lv_topi (fun v_111 ev_111 => ?_)
      refine lv_aload_n hx hb d_Words_draw_56 rfl (lv_at hl 5 rfl) ?_
      refine va_get (D := G.1) (ci := 5) (v := .ref b17) (C := R_Machine) (T := F_Machine) (N := 15) hx hb hts i_Machine hown hK hP 4 rfl rfl 5 (by decide) (hts _ q177) (fun _ h9 => h9) rfl d_Words_draw_57 ?_
      refine lv_iload hx hb d_Words_draw_60 (lv_at hl 3 rfl) ?_
      refine va_iald hx hb hK hP 2 0 rfl rfl (zI.inn hy_97 (by decide)) d_Words_draw_62 ?_
      refine lv_topi (fun v_112 ev_112 => ?_)
      obtain rfl : v_100 = v_112 := ev_100.trans ev_112.symm
      refine lv_isub hx hb d_Words_draw_63 ?_
      refine lv_topi (fun v_113 ev_113 => ?_)
      refine lv_istore (lv' := [(7, .int v_113), (3, .int v_110), (6, .int v_104), (5, .int y_96), (4, .int y_97), (0, .ref b0), (1, .ref b1), (2, .int b2)]) hx hb d_Words_draw_64 hl (by decide) rfl (fun ls hl => ?_)
      refine lv_iload hx hb d_Words_draw_66 (lv_at hl 0 rfl) ?_
      refine lv_if_ge (tgt := 74) hx hb d_Words_draw_68 (by decide) (fun hc_114 => ?_) (fun hc_114 => ?_)
      · have _nhc_114 := hc_114
        have ni_115 := (fa_le _ _).mp hc_114
        rw [li_0] at ni_115
        have hv_116 : zI v_113 0 2147483647 := zI.le_r zc_0 (zI_all v_113) hc_114 (by decide)
        refine lv_iload hx hb d_Words_draw_74 (lv_at hl 3 rfl) ?_
        refine lv_bipush (v := 12) hx hb d_Words_draw_76 (by decide) ?_
        refine lv_icmp_ne (tgt := 84) hx hb d_Words_draw_78 (by decide) (fun hc_117 => ?_) (fun hc_117 => ?_)
        · have _nhc_117 := hc_117
          have ni_118 : ¬ (y_96 : Int32).toInt = (12 : Int32).toInt := fun z => hc_117 ((fa_eq _ _).mpr z)
          simp only [li_12] at ni_118
          have hv_119 : zI y_96 0 11 := zI.ne_hi hy_96 zc_12 hc_117 (by decide)
          refine lv_aload_n hx hb d_Words_draw_84 rfl (lv_at hl 6 rfl) ?_
          refine va_get (D := G.1) (ci := 5) (v := .ref b25) (C := R_Machine) (T := F_Machine) (N := 15) hx hb hts i_Machine hown hK hP 4 rfl rfl 13 (by decide) (hts _ q196) (fun _ h9 => h9) rfl d_Words_draw_85 ?_
          refine lv_iload hx hb d_Words_draw_88 (lv_at hl 4 rfl) ?_
          refine va_iald hx hb hK hP 6 0 rfl rfl (zI.inn hy_97 (by decide)) d_Words_draw_90 ?_
          refine lv_topi (fun v_120 ev_120 => ?_)
          have hv_120 : zI v_120 0 240 := (hb30 _).eq ev_120
          have hv_121 : zI v_120 0 239 := ⟨hv_120.1, by have h9 : ¬ v_120.toInt = 240 := (fun h9 => by have h8 := hfx_103 (by rw [← ev_120]; exact h9); have h7 := z_draw ev_104 h8 (by omega) ev_111 hv_110 (by decide) ev_113; omega); omega⟩
          refine lv_istore (lv' := [(8, .int v_120), (7, .int v_113), (3, .int v_110), (6, .int v_104), (5, .int y_96), (4, .int y_97), (0, .ref b0), (1, .ref b1), (2, .int b2)]) hx hb d_Words_draw_91 hl (by decide) rfl (fun ls hl => ?_)
          suffices key : ∀ (k_153 : Nat) (y_154 : Int32) (y_155 : Int32) (H : Heap) (locs : List Loc) (ls : Array Slot), (zI y_154 0 239) → (239 : Int) - y_154.toInt < (k_153 : Int) → va_P G.1 classes [(b0, .inr (7, [.ref b3, .ref b4, .ref b5, .ref b6, .ref b7, .ref b8, .ref b9, .ref b10])), (b3, .inl (G.2 0, 12, .inl y_99)), (b17, .inl (G.2 0, 241, .inl b27)), (b21, .inl (G.2 0, 240, .inl b28)), (b1, .inr (5, [.int b12, .int b13, .ref b14, .ref b15, .ref b16, .ref b17, .ref b18, .ref b19, .int b20, .ref b21, .ref b22, .ref b23, .ref b24, .ref b25, .ref b26])), (b22, .inl (G.2 0, 240, .inl b29)), (b25, .inl (G.2 0, 242, .inl b30))] H → va_D A [(b0, .inr (7, [.ref b3, .ref b4, .ref b5, .ref b6, .ref b7, .ref b8, .ref b9, .ref b10])), (b3, .inl (G.2 0, 12, .inl y_99)), (b17, .inl (G.2 0, 241, .inl b27)), (b21, .inl (G.2 0, 240, .inl b28)), (b1, .inr (5, [.int b12, .int b13, .ref b14, .ref b15, .ref b16, .ref b17, .ref b18, .ref b19, .int b20, .ref b21, .ref b22, .ref b23, .ref b24, .ref b25, .ref b26])), (b22, .inl (G.2 0, 240, .inl b29)), (b25, .inl (G.2 0, 242, .inl b30))] → va_S A s.heap H locs → lv_has ls 9 [(8, .int y_154), (7, .int y_155), (3, .int v_110), (6, .int v_104), (5, .int y_96), (4, .int y_97), (0, .ref b0), (1, .ref b1), (2, .int b2)] → W p l e m_s1_Words_draw s m ([.ref b0, .ref b1, .int b2] : List Value).toArray below meth c H locs 0 0 (MQ below (zQ G (fun v w => ∃ (e0 : Int32), ∃ (e1 : Nat → Int32), v = some (.int e0) ∧ w = [(b0, .inr (7, [.ref b3, .ref b4, .ref b5, .ref b6, .ref b7, .ref b8, .ref b9, .ref b10])), (b3, .inl (G.2 0, 12, .inl e1)), (b1, .inr (5, [.int b12, .int b13, .ref b14, .ref b15, .ref b16, .ref b17, .ref b18, .ref b19, .int b20, .ref b21, .ref b22, .ref b23, .ref b24, .ref b25, .ref b26])), (b17, .inl (G.2 0, 241, .inl b27)), (b21, .inl (G.2 0, 240, .inl b28)), (b22, .inl (G.2 0, 240, .inl b29)), (b25, .inl (G.2 0, 242, .inl b30))] ∧ (zI e0 (-2) 12)) A) ([.ref b0, .ref b1, .int b2] : List Value).toArray s m_s1_Words_draw.cells m_s1_Words_draw.slots A) (F0 m 93 ls []) by
            exact key 240 (v_120) (v_113) _ _ _ hv_121 (zm_upi hv_121 (by decide)) hP hD hS (lv_sub hl [0, 1, 2, 3, 4, 5, 6, 7, 8] rfl)
          intro k_153
          induction k_153 with
          | zero =>
            intro y_154 y_155 H locs ls hy_154 hmk_153 hP hD hS hl
            exact (zm_up0 hy_154 hmk_153).elim
          | succ k_153 ihk_153 =>
            intro y_154 y_155 H locs ls hy_154 hmk_153 hP hD hS hl
            refine lv_iload hx hb d_Words_draw_93 (lv_at hl 0 rfl) ?_
            refine lv_aload_n hx hb d_Words_draw_95 rfl (lv_at hl 7 rfl) ?_
            refine va_get (D := G.1) (ci := 5) (v := .ref b25) (C := R_Machine) (T := F_Machine) (N := 15) hx hb hts i_Machine hown hK hP 4 rfl rfl 13 (by decide) (hts _ q196) (fun _ h9 => h9) rfl d_Words_draw_96 ?_
            refine lv_iload hx hb d_Words_draw_99 (lv_at hl 5 rfl) ?_
            refine lv_iconst (v := 1) hx hb d_Words_draw_101 (by decide) ?_
            refine lv_iadd hx hb d_Words_draw_102 ?_
            refine lv_topi (fun v_156 ev_156 => ?_)
            obtain ⟨qv_156, hv_156⟩ := zI_add (l := 1) (h := 241) hy_97 zc_1 ev_156 (by decide)
            rw [li_1] at qv_156
            refine va_iald hx hb hK hP 6 0 rfl rfl (zI.inn hv_156 (by decide)) d_Words_draw_103 ?_
            refine lv_topi (fun v_157 ev_157 => ?_)
            have hv_157 : zI v_157 0 240 := (hb30 _).eq ev_157
            refine lv_iconst (v := 1) hx hb d_Words_draw_104 (by decide) ?_
            refine lv_isub hx hb d_Words_draw_105 ?_
            refine lv_topi (fun v_158 ev_158 => ?_)
            obtain ⟨qv_158, hv_158⟩ := zI_sub (l := -1) (h := 239) hv_157 zc_1 ev_158 (by decide)
            rw [li_1] at qv_158
            refine lv_icmp_ge (tgt := 139) hx hb d_Words_draw_106 (by decide) (fun hc_159 => ?_) (fun hc_159 => ?_)
            · have _nhc_159 := hc_159
              have ni_160 := (fa_le _ _).mp hc_159
              refine lv_aload_n hx hb d_Words_draw_139 rfl (lv_at hl 6 rfl) ?_
              refine va_get (D := G.1) (ci := 7) (v := .ref b3) (C := R_Words) (T := F_Words) (N := 8) hx hb hts i_Words hown hK hP 0 rfl rfl 0 (by decide) (hts _ q265) (fun _ h9 => h9) rfl d_Words_draw_140 ?_
              refine lv_iload hx hb d_Words_draw_143 (lv_at hl 4 rfl) ?_
              refine lv_aload_n hx hb d_Words_draw_145 rfl (lv_at hl 7 rfl) ?_
              refine lv_iload hx hb d_Words_draw_146 (lv_at hl 0 rfl) ?_
              refine z_callV (index := 119) (As := [.int y_154]) (rest := [.int y_96, .ref b3]) (wr := [(b0, .inr (7, [.ref b3, .ref b4, .ref b5, .ref b6, .ref b7, .ref b8, .ref b9, .ref b10])), (b3, .inl (G.2 0, 12, .inl y_99)), (b17, .inl (G.2 0, 241, .inl b27)), (b22, .inl (G.2 0, 240, .inl b29)), (b25, .inl (G.2 0, 242, .inl b30))]) Z (s1_Machine_letter l G (b1) (y_154) (b12) (b13) (b14) (b15) (b16) (b17) (b18) (b19) (b20) (b21) (b22) (b23) (b24) (b25) (b26) (b28) hy_154 hb12 hb13 hb20 hb28) hl.1 q810 q674 q675 q6 q676 ⟨by decide, by decide, by show _ = some 1; decide +kernel⟩ ⟨Nat.le_of_ble_eq_true rfl, Nat.le_of_ble_eq_true rfl⟩ ⟨Nat.le_of_ble_eq_true rfl, Nat.le_of_ble_eq_true rfl⟩ rfl (Nat.le_of_ble_eq_true rfl) d_Words_draw_148 hP hD hS hA 4 5 rfl rfl rfl [4, 3] [0, 1, 2, 5, 6] rfl rfl rfl rfl (by decide) (fun v w1 H locs hw_161 hP hD hS => ?_)
              obtain ⟨x_162, rfl, rfl, hx_162⟩ := hw_161
              have hP : va_P G.1 classes [(b0, .inr (7, [.ref b3, .ref b4, .ref b5, .ref b6, .ref b7, .ref b8, .ref b9, .ref b10])), (b3, .inl (G.2 0, 12, .inl y_99)), (b17, .inl (G.2 0, 241, .inl b27)), (b22, .inl (G.2 0, 240, .inl b29)), (b25, .inl (G.2 0, 242, .inl b30)), (b1, .inr (5, [.int b12, .int b13, .ref b14, .ref b15, .ref b16, .ref b17, .ref b18, .ref b19, .int b20, .ref b21, .ref b22, .ref b23, .ref b24, .ref b25, .ref b26])), (b21, .inl (G.2 0, 240, .inl b28))] H := hP
              have hD := z_tie hP hD rfl
              refine W.widen (k := 0) (n := 0) (Nat.le_of_ble_eq_true rfl) (Nat.le_of_ble_eq_true rfl) ?_
              refine va_iast hx hb hK hP hD hS 1 0 rfl rfl (zI.inn hv_119 (by decide)) d_Words_draw_151 (fun H locs hP hD hS => ?_)
              obtain ⟨f_163, gf_163, uf_163, hP, hD⟩ := z_newFu 1 hP hD rfl
              have hP : va_P G.1 classes [(b0, .inr (7, [.ref b3, .ref b4, .ref b5, .ref b6, .ref b7, .ref b8, .ref b9, .ref b10])), (b3, .inl (G.2 0, 12, .inl f_163)), (b17, .inl (G.2 0, 241, .inl b27)), (b22, .inl (G.2 0, 240, .inl b29)), (b25, .inl (G.2 0, 242, .inl b30)), (b1, .inr (5, [.int b12, .int b13, .ref b14, .ref b15, .ref b16, .ref b17, .ref b18, .ref b19, .int b20, .ref b21, .ref b22, .ref b23, .ref b24, .ref b25, .ref b26])), (b21, .inl (G.2 0, 240, .inl b28))] H := hP
              have hD := z_tie hP hD rfl
              refine lv_aload_n hx hb d_Words_draw_152 rfl (lv_at hl 7 rfl) ?_
              refine lv_iload hx hb d_Words_draw_153 (lv_at hl 0 rfl) ?_
              refine z_callV (index := 123) (As := [.int y_154]) (rest := []) (wr := [(b0, .inr (7, [.ref b3, .ref b4, .ref b5, .ref b6, .ref b7, .ref b8, .ref b9, .ref b10])), (b3, .inl (G.2 0, 12, .inl f_163)), (b17, .inl (G.2 0, 241, .inl b27)), (b22, .inl (G.2 0, 240, .inl b29)), (b25, .inl (G.2 0, 242, .inl b30))]) Z (s1_Machine_to l G (b1) (y_154) (b12) (b13) (b14) (b15) (b16) (b17) (b18) (b19) (b20) (b21) (b22) (b23) (b24) (b25) (b26) (b28) hy_154 hb12 hb13 hb20 hb28) hl.1 q811 q681 q682 q6 q683 ⟨by decide, by decide, by show _ = some 1; decide +kernel⟩ ⟨Nat.le_of_ble_eq_true rfl, Nat.le_of_ble_eq_true rfl⟩ ⟨Nat.le_of_ble_eq_true rfl, Nat.le_of_ble_eq_true rfl⟩ rfl (Nat.le_of_ble_eq_true rfl) d_Words_draw_155 hP hD hS hA 5 5 rfl rfl rfl [5, 6] [0, 1, 2, 3, 4] rfl rfl rfl rfl (by decide) (fun v w1 H locs hw_164 hP hD hS => ?_)
              obtain ⟨x_165, rfl, rfl, hx_165⟩ := hw_164
              have hP : va_P G.1 classes [(b0, .inr (7, [.ref b3, .ref b4, .ref b5, .ref b6, .ref b7, .ref b8, .ref b9, .ref b10])), (b3, .inl (G.2 0, 12, .inl f_163)), (b17, .inl (G.2 0, 241, .inl b27)), (b22, .inl (G.2 0, 240, .inl b29)), (b25, .inl (G.2 0, 242, .inl b30)), (b1, .inr (5, [.int b12, .int b13, .ref b14, .ref b15, .ref b16, .ref b17, .ref b18, .ref b19, .int b20, .ref b21, .ref b22, .ref b23, .ref b24, .ref b25, .ref b26])), (b21, .inl (G.2 0, 240, .inl b28))] H := hP
              have hD := z_tie hP hD rfl
              refine W.widen (k := 0) (n := 0) (Nat.le_of_ble_eq_true rfl) (Nat.le_of_ble_eq_true rfl) ?_
              refine lv_istore (lv' := [(4, .int x_165), (8, .int y_154), (7, .int y_155), (3, .int v_110), (6, .int v_104), (5, .int y_96), (0, .ref b0), (1, .ref b1), (2, .int b2)]) hx hb d_Words_draw_158 hl (by decide) rfl (fun ls hl => ?_)
              obtain ⟨v_166, ev_166⟩ : ∃ z : Int32, z = y_96 + 1 := ⟨_, rfl⟩
              obtain ⟨qv_166, hv_166⟩ := zI_add (l := 1) (h := 12) hv_119 zc_1 ev_166 (by decide)
              rw [li_1] at qv_166
              refine lv_iinc (v := v_166) (lv' := [(5, .int v_166), (4, .int x_165), (8, .int y_154), (7, .int y_155), (3, .int v_110), (6, .int v_104), (0, .ref b0), (1, .ref b1), (2, .int b2)]) hx hb d_Words_draw_160 hl (k := 5) rfl (by rw [ev_166]; rfl) (by decide) rfl (fun ls hl => ?_)
              refine lv_goto (tgt := 8) hx hb d_Words_draw_163 (by decide) ?_
              exact ihk_95 (v_166) (x_165) (v_110) (f_163) _ _ _ (zI.wk (l' := 0) (h' := 12) hv_166 (by decide)) hx_165 hv_110 (zm_up qv_166 hmk_95 (by decide)) (hP.sub [0, 1, 5, 2, 6, 3, 4] rfl) (hD.sub [0, 1, 5, 2, 6, 3, 4] (by decide) rfl) hS (lv_sub hl [0, 1, 4, 6, 7, 8] rfl)
            · have _nhc_159 := hc_159
              have ni_167 := (fa_lt _ _).mp (zi_nle hc_159)
              have hv_168 : zI y_154 0 238 := zI.lt_l hy_154 hv_158 (zi_nle hc_159) (by decide)
              have hv_169 : zI v_158 1 239 := zI.lt_r hy_154 hv_158 (zi_nle hc_159) (by decide)
              refine lv_iload hx hb d_Words_draw_109 (lv_at hl 1 rfl) ?_
              refine lv_aload_n hx hb d_Words_draw_111 rfl (lv_at hl 7 rfl) ?_
              refine va_get (D := G.1) (ci := 5) (v := .ref b22) (C := R_Machine) (T := F_Machine) (N := 15) hx hb hts i_Machine hown hK hP 4 rfl rfl 10 (by decide) (hts _ q189) (fun _ h9 => h9) rfl d_Words_draw_112 ?_
              refine lv_iload hx hb d_Words_draw_115 (lv_at hl 0 rfl) ?_
              refine va_iald hx hb hK hP 5 0 rfl rfl (zI.inn hv_168 (by decide)) d_Words_draw_117 ?_
              refine lv_topi (fun v_170 ev_170 => ?_)
              refine lv_icmp_lt (tgt := 139) hx hb d_Words_draw_118 (by decide) (fun hc_171 => ?_) (fun hc_171 => ?_)
              · have _nhc_171 := hc_171
                have ni_172 := (fa_lt _ _).mp hc_171
                have hv_173 : zI y_155 (-2147483648) 2147483646 := zI.lt_l (zI_all y_155) (zI_all v_170) hc_171 (by decide)
                have hv_174 : zI v_170 (-2147483647) 2147483647 := zI.lt_r (zI_all y_155) (zI_all v_170) hc_171 (by decide)
                refine lv_aload_n hx hb d_Words_draw_139 rfl (lv_at hl 6 rfl) ?_
                refine va_get (D := G.1) (ci := 7) (v := .ref b3) (C := R_Words) (T := F_Words) (N := 8) hx hb hts i_Words hown hK hP 0 rfl rfl 0 (by decide) (hts _ q265) (fun _ h9 => h9) rfl d_Words_draw_140 ?_
                refine lv_iload hx hb d_Words_draw_143 (lv_at hl 4 rfl) ?_
                refine lv_aload_n hx hb d_Words_draw_145 rfl (lv_at hl 7 rfl) ?_
                refine lv_iload hx hb d_Words_draw_146 (lv_at hl 0 rfl) ?_
                refine z_callV (index := 119) (As := [.int y_154]) (rest := [.int y_96, .ref b3]) (wr := [(b0, .inr (7, [.ref b3, .ref b4, .ref b5, .ref b6, .ref b7, .ref b8, .ref b9, .ref b10])), (b3, .inl (G.2 0, 12, .inl y_99)), (b17, .inl (G.2 0, 241, .inl b27)), (b22, .inl (G.2 0, 240, .inl b29)), (b25, .inl (G.2 0, 242, .inl b30))]) Z (s1_Machine_letter l G (b1) (y_154) (b12) (b13) (b14) (b15) (b16) (b17) (b18) (b19) (b20) (b21) (b22) (b23) (b24) (b25) (b26) (b28) (zI.wk (l' := 0) (h' := 239) hv_168 (by decide)) hb12 hb13 hb20 hb28) hl.1 q810 q674 q675 q6 q676 ⟨by decide, by decide, by show _ = some 1; decide +kernel⟩ ⟨Nat.le_of_ble_eq_true rfl, Nat.le_of_ble_eq_true rfl⟩ ⟨Nat.le_of_ble_eq_true rfl, Nat.le_of_ble_eq_true rfl⟩ rfl (Nat.le_of_ble_eq_true rfl) d_Words_draw_148 hP hD hS hA 4 5 rfl rfl rfl [4, 3] [0, 1, 2, 5, 6] rfl rfl rfl rfl (by decide) (fun v w1 H locs hw_175 hP hD hS => ?_)
                obtain ⟨x_176, rfl, rfl, hx_176⟩ := hw_175
                have hP : va_P G.1 classes [(b0, .inr (7, [.ref b3, .ref b4, .ref b5, .ref b6, .ref b7, .ref b8, .ref b9, .ref b10])), (b3, .inl (G.2 0, 12, .inl y_99)), (b17, .inl (G.2 0, 241, .inl b27)), (b22, .inl (G.2 0, 240, .inl b29)), (b25, .inl (G.2 0, 242, .inl b30)), (b1, .inr (5, [.int b12, .int b13, .ref b14, .ref b15, .ref b16, .ref b17, .ref b18, .ref b19, .int b20, .ref b21, .ref b22, .ref b23, .ref b24, .ref b25, .ref b26])), (b21, .inl (G.2 0, 240, .inl b28))] H := hP
                have hD := z_tie hP hD rfl
                refine W.widen (k := 0) (n := 0) (Nat.le_of_ble_eq_true rfl) (Nat.le_of_ble_eq_true rfl) ?_
                refine va_iast hx hb hK hP hD hS 1 0 rfl rfl (zI.inn hv_119 (by decide)) d_Words_draw_151 (fun H locs hP hD hS => ?_)
                obtain ⟨f_177, gf_177, uf_177, hP, hD⟩ := z_newFu 1 hP hD rfl
                have hP : va_P G.1 classes [(b0, .inr (7, [.ref b3, .ref b4, .ref b5, .ref b6, .ref b7, .ref b8, .ref b9, .ref b10])), (b3, .inl (G.2 0, 12, .inl f_177)), (b17, .inl (G.2 0, 241, .inl b27)), (b22, .inl (G.2 0, 240, .inl b29)), (b25, .inl (G.2 0, 242, .inl b30)), (b1, .inr (5, [.int b12, .int b13, .ref b14, .ref b15, .ref b16, .ref b17, .ref b18, .ref b19, .int b20, .ref b21, .ref b22, .ref b23, .ref b24, .ref b25, .ref b26])), (b21, .inl (G.2 0, 240, .inl b28))] H := hP
                have hD := z_tie hP hD rfl
                refine lv_aload_n hx hb d_Words_draw_152 rfl (lv_at hl 7 rfl) ?_
                refine lv_iload hx hb d_Words_draw_153 (lv_at hl 0 rfl) ?_
                refine z_callV (index := 123) (As := [.int y_154]) (rest := []) (wr := [(b0, .inr (7, [.ref b3, .ref b4, .ref b5, .ref b6, .ref b7, .ref b8, .ref b9, .ref b10])), (b3, .inl (G.2 0, 12, .inl f_177)), (b17, .inl (G.2 0, 241, .inl b27)), (b22, .inl (G.2 0, 240, .inl b29)), (b25, .inl (G.2 0, 242, .inl b30))]) Z (s1_Machine_to l G (b1) (y_154) (b12) (b13) (b14) (b15) (b16) (b17) (b18) (b19) (b20) (b21) (b22) (b23) (b24) (b25) (b26) (b28) (zI.wk (l' := 0) (h' := 239) hv_168 (by decide)) hb12 hb13 hb20 hb28) hl.1 q811 q681 q682 q6 q683 ⟨by decide, by decide, by show _ = some 1; decide +kernel⟩ ⟨Nat.le_of_ble_eq_true rfl, Nat.le_of_ble_eq_true rfl⟩ ⟨Nat.le_of_ble_eq_true rfl, Nat.le_of_ble_eq_true rfl⟩ rfl (Nat.le_of_ble_eq_true rfl) d_Words_draw_155 hP hD hS hA 5 5 rfl rfl rfl [5, 6] [0, 1, 2, 3, 4] rfl rfl rfl rfl (by decide) (fun v w1 H locs hw_178 hP hD hS => ?_)
                obtain ⟨x_179, rfl, rfl, hx_179⟩ := hw_178
                have hP : va_P G.1 classes [(b0, .inr (7, [.ref b3, .ref b4, .ref b5, .ref b6, .ref b7, .ref b8, .ref b9, .ref b10])), (b3, .inl (G.2 0, 12, .inl f_177)), (b17, .inl (G.2 0, 241, .inl b27)), (b22, .inl (G.2 0, 240, .inl b29)), (b25, .inl (G.2 0, 242, .inl b30)), (b1, .inr (5, [.int b12, .int b13, .ref b14, .ref b15, .ref b16, .ref b17, .ref b18, .ref b19, .int b20, .ref b21, .ref b22, .ref b23, .ref b24, .ref b25, .ref b26])), (b21, .inl (G.2 0, 240, .inl b28))] H := hP
                have hD := z_tie hP hD rfl
                refine W.widen (k := 0) (n := 0) (Nat.le_of_ble_eq_true rfl) (Nat.le_of_ble_eq_true rfl) ?_
                refine lv_istore (lv' := [(4, .int x_179), (8, .int y_154), (7, .int y_155), (3, .int v_110), (6, .int v_104), (5, .int y_96), (0, .ref b0), (1, .ref b1), (2, .int b2)]) hx hb d_Words_draw_158 hl (by decide) rfl (fun ls hl => ?_)
                obtain ⟨v_180, ev_180⟩ : ∃ z : Int32, z = y_96 + 1 := ⟨_, rfl⟩
                obtain ⟨qv_180, hv_180⟩ := zI_add (l := 1) (h := 12) hv_119 zc_1 ev_180 (by decide)
                rw [li_1] at qv_180
                refine lv_iinc (v := v_180) (lv' := [(5, .int v_180), (4, .int x_179), (8, .int y_154), (7, .int y_155), (3, .int v_110), (6, .int v_104), (0, .ref b0), (1, .ref b1), (2, .int b2)]) hx hb d_Words_draw_160 hl (k := 5) rfl (by rw [ev_180]; rfl) (by decide) rfl (fun ls hl => ?_)
                refine lv_goto (tgt := 8) hx hb d_Words_draw_163 (by decide) ?_
                exact ihk_95 (v_180) (x_179) (v_110) (f_177) _ _ _ (zI.wk (l' := 0) (h' := 12) hv_180 (by decide)) hx_179 hv_110 (zm_up qv_180 hmk_95 (by decide)) (hP.sub [0, 1, 5, 2, 6, 3, 4] rfl) (hD.sub [0, 1, 5, 2, 6, 3, 4] (by decide) rfl) hS (lv_sub hl [0, 1, 4, 6, 7, 8] rfl)
              · have _nhc_171 := hc_171
                have ni_181 := (fa_le _ _).mp (zi_nlt hc_171)
                refine lv_iload hx hb d_Words_draw_121 (lv_at hl 1 rfl) ?_
                refine lv_aload_n hx hb d_Words_draw_123 rfl (lv_at hl 7 rfl) ?_
                refine va_get (D := G.1) (ci := 5) (v := .ref b22) (C := R_Machine) (T := F_Machine) (N := 15) hx hb hts i_Machine hown hK hP 4 rfl rfl 10 (by decide) (hts _ q189) (fun _ h9 => h9) rfl d_Words_draw_124 ?_
                refine lv_iload hx hb d_Words_draw_127 (lv_at hl 0 rfl) ?_
                refine va_iald hx hb hK hP 5 0 rfl rfl (zI.inn hv_168 (by decide)) d_Words_draw_129 ?_
                refine lv_topi (fun v_182 ev_182 => ?_)
                obtain rfl : v_170 = v_182 := ev_170.trans ev_182.symm
                refine lv_isub hx hb d_Words_draw_130 ?_
                refine lv_topi (fun v_183 ev_183 => ?_)
                refine lv_istore (lv' := [(7, .int v_183), (8, .int y_154), (3, .int v_110), (6, .int v_104), (5, .int y_96), (4, .int y_97), (0, .ref b0), (1, .ref b1), (2, .int b2)]) hx hb d_Words_draw_131 hl (by decide) rfl (fun ls hl => ?_)
                obtain ⟨v_184, ev_184⟩ : ∃ z : Int32, z = y_154 + 1 := ⟨_, rfl⟩
                obtain ⟨qv_184, hv_184⟩ := zI_add (l := 1) (h := 239) hv_168 zc_1 ev_184 (by decide)
                rw [li_1] at qv_184
                refine lv_iinc (v := v_184) (lv' := [(8, .int v_184), (7, .int v_183), (3, .int v_110), (6, .int v_104), (5, .int y_96), (4, .int y_97), (0, .ref b0), (1, .ref b1), (2, .int b2)]) hx hb d_Words_draw_133 hl (k := 1) rfl (by rw [ev_184]; rfl) (by decide) rfl (fun ls hl => ?_)
                refine lv_goto (tgt := 93) hx hb d_Words_draw_136 (by decide) ?_
                exact ihk_153 (v_184) (v_183) _ _ _ (zI.wk (l' := 0) (h' := 239) hv_184 (by decide)) (zm_up qv_184 hmk_153 (by decide)) hP hD hS (lv_sub hl [0, 1, 2, 3, 4, 5, 6, 7, 8] rfl)
        · have _nhc_117 := hc_117
          have ni_185 := (fa_eq _ _).mp hc_117
          rw [li_12] at ni_185
          have hv_186 : zI y_96 12 12 := zI.eq_l hy_96 zc_12 hc_117
          refine lv_bipush (v := (-2)) hx hb d_Words_draw_81 (by decide) ?_
          exact z_iret hx hb hr hlocks (hP.sub [0, 1, 4, 2, 3, 5, 6] rfl) (hD.sub [0, 1, 4, 2, 3, 5, 6] (by decide) rfl) hS (Nat.le_of_ble_eq_true rfl) (Nat.le_of_ble_eq_true rfl) d_Words_draw_83 ⟨(-2), y_99, rfl, rfl, (zI.wk (l' := (-2)) (h' := 12) zc_m2 (by decide))⟩
      · have _nhc_114 := hc_114
        have ni_187 := (fa_lt _ _).mp (zi_nle hc_114)
        rw [li_0] at ni_187
        have hv_188 : zI v_113 (-2147483648) (-1) := zI.lt_l (zI_all v_113) zc_0 (zi_nle hc_114) (by decide)
        refine lv_iload hx hb d_Words_draw_71 (lv_at hl 3 rfl) ?_
        exact z_iret hx hb hr hlocks (hP.sub [0, 1, 4, 2, 3, 5, 6] rfl) (hD.sub [0, 1, 4, 2, 3, 5, 6] (by decide) rfl) hS (Nat.le_of_ble_eq_true rfl) (Nat.le_of_ble_eq_true rfl) d_Words_draw_73 ⟨y_96, y_99, rfl, rfl, (zI.wk (l' := (-2)) (h' := 12) hy_96 (by decide))⟩
    · have _nhc_105 := hc_105
      have ni_189 := (fa_le _ _).mp (zi_nlt hc_105)
      rw [li_0] at ni_189
      have hv_190 : zI v_104 (-2147483648) 0 := zI.le_l (zI_all v_104) zc_0 (zi_nlt hc_105) (by decide)
      refine lv_iload hx hb d_Words_draw_36 (lv_at hl 1 rfl) ?_
      exact z_iret hx hb hr hlocks (hP.sub [0, 1, 4, 2, 3, 5, 6] rfl) (hD.sub [0, 1, 4, 2, 3, 5, 6] (by decide) rfl) hS (Nat.le_of_ble_eq_true rfl) (Nat.le_of_ble_eq_true rfl) d_Words_draw_38 ⟨y_96, y_99, rfl, rfl, (zI.wk (l' := (-2)) (h' := 12) hy_96 (by decide))⟩
