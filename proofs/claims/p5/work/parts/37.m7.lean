theorem d_Model_run_0 : decode prog_14_method_51_code 0 = .ok (.aload_n 0, 1) := by decide +kernel
theorem d_Model_run_1 : decode prog_14_method_51_code 1 = .ok (.iconst 0, 1) := by decide +kernel
theorem d_Model_run_2 : decode prog_14_method_51_code 2 = .ok (.putfield 1, 3) := by decide +kernel
theorem d_Model_run_5 : decode prog_14_method_51_code 5 = .ok (.aload_n 0, 1) := by decide +kernel
theorem d_Model_run_6 : decode prog_14_method_51_code 6 = .ok (.iconst 0, 1) := by decide +kernel
theorem d_Model_run_7 : decode prog_14_method_51_code 7 = .ok (.putfield 149, 3) := by decide +kernel
theorem d_Model_run_10 : decode prog_14_method_51_code 10 = .ok (.aload_n 0, 1) := by decide +kernel
theorem d_Model_run_11 : decode prog_14_method_51_code 11 = .ok (.iconst 1, 1) := by decide +kernel
theorem d_Model_run_12 : decode prog_14_method_51_code 12 = .ok (.putfield 145, 3) := by decide +kernel
theorem d_Model_run_15 : decode prog_14_method_51_code 15 = .ok (.aload_n 0, 1) := by decide +kernel
theorem d_Model_run_16 : decode prog_14_method_51_code 16 = .ok (.invokevirtual 176, 3) := by decide +kernel
theorem d_Model_run_19 : decode prog_14_method_51_code 19 = .ok (.aload_n 0, 1) := by decide +kernel
theorem d_Model_run_20 : decode prog_14_method_51_code 20 = .ok (.invokevirtual 185, 3) := by decide +kernel
theorem d_Model_run_23 : decode prog_14_method_51_code 23 = .ok (.aload_n 0, 1) := by decide +kernel
theorem d_Model_run_24 : decode prog_14_method_51_code 24 = .ok (.getfield 145, 3) := by decide +kernel
theorem d_Model_run_27 : decode prog_14_method_51_code 27 = .ok (.ifCond .ne 12, 3) := by decide +kernel
theorem d_Model_run_30 : decode prog_14_method_51_code 30 = .ok (.sipush (-1000), 3) := by decide +kernel
theorem d_Model_run_33 : decode prog_14_method_51_code 33 = .ok (.aload_n 0, 1) := by decide +kernel
theorem d_Model_run_34 : decode prog_14_method_51_code 34 = .ok (.getfield 152, 3) := by decide +kernel
theorem d_Model_run_37 : decode prog_14_method_51_code 37 = .ok (.isub, 1) := by decide +kernel
theorem d_Model_run_39 : decode prog_14_method_51_code 39 = .ok (.aload_n 0, 1) := by decide +kernel
theorem d_Model_run_40 : decode prog_14_method_51_code 40 = .ok (.invokevirtual 254, 3) := by decide +kernel
theorem d_Model_run_43 : decode prog_14_method_51_code 43 = .ok (.aload_n 0, 1) := by decide +kernel
theorem d_Model_run_44 : decode prog_14_method_51_code 44 = .ok (.iconst 1, 1) := by decide +kernel
theorem d_Model_run_45 : decode prog_14_method_51_code 45 = .ok (.putfield 290, 3) := by decide +kernel
theorem d_Model_run_48 : decode prog_14_method_51_code 48 = .ok (.aload_n 0, 1) := by decide +kernel
theorem d_Model_run_49 : decode prog_14_method_51_code 49 = .ok (.aload_n 0, 1) := by decide +kernel
theorem d_Model_run_50 : decode prog_14_method_51_code 50 = .ok (.iconst 0, 1) := by decide +kernel
theorem d_Model_run_51 : decode prog_14_method_51_code 51 = .ok (.iload_n 1, 1) := by decide +kernel
theorem d_Model_run_52 : decode prog_14_method_51_code 52 = .ok (.invokevirtual 293, 3) := by decide +kernel
theorem d_Model_run_55 : decode prog_14_method_51_code 55 = .ok (.putfield 296, 3) := by decide +kernel
theorem d_Model_run_58 : decode prog_14_method_51_code 58 = .ok (.aload_n 0, 1) := by decide +kernel
theorem d_Model_run_59 : decode prog_14_method_51_code 59 = .ok (.iconst 0, 1) := by decide +kernel
theorem d_Model_run_60 : decode prog_14_method_51_code 60 = .ok (.putfield 299, 3) := by decide +kernel
theorem d_Model_run_63 : decode prog_14_method_51_code 63 = .ok (.aload_n 0, 1) := by decide +kernel
theorem d_Model_run_64 : decode prog_14_method_51_code 64 = .ok (.iconst (-1), 1) := by decide +kernel
theorem d_Model_run_65 : decode prog_14_method_51_code 65 = .ok (.putfield 302, 3) := by decide +kernel
theorem d_Model_run_68 : decode prog_14_method_51_code 68 = .ok (.aload_n 0, 1) := by decide +kernel
theorem d_Model_run_69 : decode prog_14_method_51_code 69 = .ok (.getfield 58, 3) := by decide +kernel
theorem d_Model_run_72 : decode prog_14_method_51_code 72 = .ok (.iconst 0, 1) := by decide +kernel
theorem d_Model_run_73 : decode prog_14_method_51_code 73 = .ok (.iaload, 1) := by decide +kernel
theorem d_Model_run_74 : decode prog_14_method_51_code 74 = .ok (.iconst 1, 1) := by decide +kernel
theorem d_Model_run_75 : decode prog_14_method_51_code 75 = .ok (.isub, 1) := by decide +kernel
theorem d_Model_run_76 : decode prog_14_method_51_code 76 = .ok (.istore_n 2, 1) := by decide +kernel
theorem d_Model_run_77 : decode prog_14_method_51_code 77 = .ok (.iload_n 2, 1) := by decide +kernel
theorem d_Model_run_78 : decode prog_14_method_51_code 78 = .ok (.ifCond .lt 36, 3) := by decide +kernel
theorem d_Model_run_81 : decode prog_14_method_51_code 81 = .ok (.aload_n 0, 1) := by decide +kernel
theorem d_Model_run_82 : decode prog_14_method_51_code 82 = .ok (.getfield 76, 3) := by decide +kernel
theorem d_Model_run_85 : decode prog_14_method_51_code 85 = .ok (.iconst 0, 1) := by decide +kernel
theorem d_Model_run_86 : decode prog_14_method_51_code 86 = .ok (.iload_n 2, 1) := by decide +kernel
theorem d_Model_run_87 : decode prog_14_method_51_code 87 = .ok (.invokestatic 271, 3) := by decide +kernel
theorem d_Model_run_90 : decode prog_14_method_51_code 90 = .ok (.ifCond .eq 18, 3) := by decide +kernel
theorem d_Model_run_93 : decode prog_14_method_51_code 93 = .ok (.aload_n 0, 1) := by decide +kernel
theorem d_Model_run_94 : decode prog_14_method_51_code 94 = .ok (.dup, 1) := by decide +kernel
theorem d_Model_run_95 : decode prog_14_method_51_code 95 = .ok (.getfield 299, 3) := by decide +kernel
theorem d_Model_run_98 : decode prog_14_method_51_code 98 = .ok (.iconst 1, 1) := by decide +kernel
theorem d_Model_run_99 : decode prog_14_method_51_code 99 = .ok (.iadd, 1) := by decide +kernel
theorem d_Model_run_100 : decode prog_14_method_51_code 100 = .ok (.putfield 299, 3) := by decide +kernel
theorem d_Model_run_103 : decode prog_14_method_51_code 103 = .ok (.aload_n 0, 1) := by decide +kernel
theorem d_Model_run_104 : decode prog_14_method_51_code 104 = .ok (.iload_n 2, 1) := by decide +kernel
theorem d_Model_run_105 : decode prog_14_method_51_code 105 = .ok (.putfield 302, 3) := by decide +kernel
theorem d_Model_run_108 : decode prog_14_method_51_code 108 = .ok (.iinc 2 (-1), 3) := by decide +kernel
theorem d_Model_run_111 : decode prog_14_method_51_code 111 = .ok (.goto (-34), 3) := by decide +kernel
theorem d_Model_run_114 : decode prog_14_method_51_code 114 = .ok (.aload_n 0, 1) := by decide +kernel
theorem d_Model_run_115 : decode prog_14_method_51_code 115 = .ok (.getfield 296, 3) := by decide +kernel
theorem d_Model_run_118 : decode prog_14_method_51_code 118 = .ok (.iconst (-1), 1) := by decide +kernel
theorem d_Model_run_119 : decode prog_14_method_51_code 119 = .ok (.if_icmp .ne 7, 3) := by decide +kernel
theorem d_Model_run_122 : decode prog_14_method_51_code 122 = .ok (.iconst 1, 1) := by decide +kernel
theorem d_Model_run_123 : decode prog_14_method_51_code 123 = .ok (.goto 4, 3) := by decide +kernel
theorem d_Model_run_126 : decode prog_14_method_51_code 126 = .ok (.iconst 0, 1) := by decide +kernel
theorem d_Model_runs_0 : decode prog_14_method_50_code 0 = .ok (.aload_n 0, 1) := by decide +kernel
theorem d_Model_runs_1 : decode prog_14_method_50_code 1 = .ok (.iload_n 1, 1) := by decide +kernel
theorem d_Model_runs_2 : decode prog_14_method_50_code 2 = .ok (.invokevirtual 275, 3) := by decide +kernel
theorem d_Model_runs_5 : decode prog_14_method_50_code 5 = .ok (.aload_n 0, 1) := by decide +kernel
theorem d_Model_runs_6 : decode prog_14_method_50_code 6 = .ok (.getfield 76, 3) := by decide +kernel
theorem d_Model_runs_9 : decode prog_14_method_50_code 9 = .ok (.iconst 0, 1) := by decide +kernel
theorem d_Model_runs_10 : decode prog_14_method_50_code 10 = .ok (.invokestatic 278, 3) := by decide +kernel
theorem d_Model_runs_13 : decode prog_14_method_50_code 13 = .ok (.ifCond .eq 5, 3) := by decide +kernel
theorem d_Model_runs_16 : decode prog_14_method_50_code 16 = .ok (.iconst 0, 1) := by decide +kernel
theorem d_Model_runs_18 : decode prog_14_method_50_code 18 = .ok (.iconst 0, 1) := by decide +kernel
theorem d_Model_runs_19 : decode prog_14_method_50_code 19 = .ok (.istore_n 3, 1) := by decide +kernel
theorem d_Model_runs_20 : decode prog_14_method_50_code 20 = .ok (.iload_n 3, 1) := by decide +kernel
theorem d_Model_runs_21 : decode prog_14_method_50_code 21 = .ok (.aload_n 0, 1) := by decide +kernel
theorem d_Model_runs_22 : decode prog_14_method_50_code 22 = .ok (.getfield 159, 3) := by decide +kernel
theorem d_Model_runs_25 : decode prog_14_method_50_code 25 = .ok (.if_icmp .ge 74, 3) := by decide +kernel
theorem d_Model_runs_28 : decode prog_14_method_50_code 28 = .ok (.aload_n 0, 1) := by decide +kernel
theorem d_Model_runs_29 : decode prog_14_method_50_code 29 = .ok (.iload_n 1, 1) := by decide +kernel
theorem d_Model_runs_30 : decode prog_14_method_50_code 30 = .ok (.aload_n 0, 1) := by decide +kernel
theorem d_Model_runs_31 : decode prog_14_method_50_code 31 = .ok (.getfield 76, 3) := by decide +kernel
theorem d_Model_runs_34 : decode prog_14_method_50_code 34 = .ok (.iconst 0, 1) := by decide +kernel
theorem d_Model_runs_35 : decode prog_14_method_50_code 35 = .ok (.aload_n 0, 1) := by decide +kernel
theorem d_Model_runs_36 : decode prog_14_method_50_code 36 = .ok (.getfield 34, 3) := by decide +kernel
theorem d_Model_runs_39 : decode prog_14_method_50_code 39 = .ok (.iload_n 3, 1) := by decide +kernel
theorem d_Model_runs_40 : decode prog_14_method_50_code 40 = .ok (.iaload, 1) := by decide +kernel
theorem d_Model_runs_41 : decode prog_14_method_50_code 41 = .ok (.aload_n 0, 1) := by decide +kernel
theorem d_Model_runs_42 : decode prog_14_method_50_code 42 = .ok (.getfield 37, 3) := by decide +kernel
theorem d_Model_runs_45 : decode prog_14_method_50_code 45 = .ok (.iload_n 3, 1) := by decide +kernel
theorem d_Model_runs_46 : decode prog_14_method_50_code 46 = .ok (.iaload, 1) := by decide +kernel
theorem d_Model_runs_47 : decode prog_14_method_50_code 47 = .ok (.iload_n 2, 1) := by decide +kernel
theorem d_Model_runs_48 : decode prog_14_method_50_code 48 = .ok (.invokevirtual 282, 3) := by decide +kernel
theorem d_Model_runs_51 : decode prog_14_method_50_code 51 = .ok (.iconst 0, 1) := by decide +kernel
theorem d_Model_runs_52 : decode prog_14_method_50_code 52 = .ok (.istore 4, 2) := by decide +kernel
theorem d_Model_runs_54 : decode prog_14_method_50_code 54 = .ok (.iload 4, 2) := by decide +kernel
theorem d_Model_runs_56 : decode prog_14_method_50_code 56 = .ok (.iconst 4, 1) := by decide +kernel
theorem d_Model_runs_57 : decode prog_14_method_50_code 57 = .ok (.if_icmp .ge 23, 3) := by decide +kernel
theorem d_Model_runs_60 : decode prog_14_method_50_code 60 = .ok (.aload_n 0, 1) := by decide +kernel
theorem d_Model_runs_61 : decode prog_14_method_50_code 61 = .ok (.getfield 76, 3) := by decide +kernel
theorem d_Model_runs_64 : decode prog_14_method_50_code 64 = .ok (.iload 4, 2) := by decide +kernel
theorem d_Model_runs_66 : decode prog_14_method_50_code 66 = .ok (.aload_n 0, 1) := by decide +kernel
theorem d_Model_runs_67 : decode prog_14_method_50_code 67 = .ok (.getfield 80, 3) := by decide +kernel
theorem d_Model_runs_70 : decode prog_14_method_50_code 70 = .ok (.iload 4, 2) := by decide +kernel
theorem d_Model_runs_72 : decode prog_14_method_50_code 72 = .ok (.laload, 1) := by decide +kernel
theorem d_Model_runs_73 : decode prog_14_method_50_code 73 = .ok (.lastore, 1) := by decide +kernel
theorem d_Model_runs_74 : decode prog_14_method_50_code 74 = .ok (.iinc 4 1, 3) := by decide +kernel
theorem d_Model_runs_77 : decode prog_14_method_50_code 77 = .ok (.goto (-23), 3) := by decide +kernel
theorem d_Model_runs_80 : decode prog_14_method_50_code 80 = .ok (.aload_n 0, 1) := by decide +kernel
theorem d_Model_runs_81 : decode prog_14_method_50_code 81 = .ok (.getfield 76, 3) := by decide +kernel
theorem d_Model_runs_84 : decode prog_14_method_50_code 84 = .ok (.iconst 0, 1) := by decide +kernel
theorem d_Model_runs_85 : decode prog_14_method_50_code 85 = .ok (.invokestatic 278, 3) := by decide +kernel
theorem d_Model_runs_88 : decode prog_14_method_50_code 88 = .ok (.ifCond .eq 5, 3) := by decide +kernel
theorem d_Model_runs_91 : decode prog_14_method_50_code 91 = .ok (.iload_n 3, 1) := by decide +kernel
theorem d_Model_runs_93 : decode prog_14_method_50_code 93 = .ok (.iinc 3 1, 3) := by decide +kernel
theorem d_Model_runs_96 : decode prog_14_method_50_code 96 = .ok (.goto (-76), 3) := by decide +kernel
theorem d_Model_runs_99 : decode prog_14_method_50_code 99 = .ok (.aload_n 0, 1) := by decide +kernel
theorem d_Model_runs_100 : decode prog_14_method_50_code 100 = .ok (.iload_n 1, 1) := by decide +kernel
theorem d_Model_runs_101 : decode prog_14_method_50_code 101 = .ok (.aload_n 0, 1) := by decide +kernel
theorem d_Model_runs_102 : decode prog_14_method_50_code 102 = .ok (.getfield 76, 3) := by decide +kernel
theorem d_Model_runs_105 : decode prog_14_method_50_code 105 = .ok (.iconst 0, 1) := by decide +kernel
theorem d_Model_runs_106 : decode prog_14_method_50_code 106 = .ok (.invokevirtual 286, 3) := by decide +kernel
theorem d_Model_runs_109 : decode prog_14_method_50_code 109 = .ok (.ifCond .eq 7, 3) := by decide +kernel
theorem d_Model_runs_112 : decode prog_14_method_50_code 112 = .ok (.iconst (-1), 1) := by decide +kernel
theorem d_Model_runs_113 : decode prog_14_method_50_code 113 = .ok (.goto 7, 3) := by decide +kernel
theorem d_Model_runs_116 : decode prog_14_method_50_code 116 = .ok (.aload_n 0, 1) := by decide +kernel
theorem d_Model_runs_117 : decode prog_14_method_50_code 117 = .ok (.getfield 159, 3) := by decide +kernel
theorem d_Model_start_0 : decode prog_14_method_46_code 0 = .ok (.iconst 0, 1) := by decide +kernel
theorem d_Model_start_1 : decode prog_14_method_46_code 1 = .ok (.istore_n 2, 1) := by decide +kernel
theorem d_Model_start_2 : decode prog_14_method_46_code 2 = .ok (.iload_n 2, 1) := by decide +kernel
theorem d_Model_start_3 : decode prog_14_method_46_code 3 = .ok (.iconst 4, 1) := by decide +kernel
theorem d_Model_start_4 : decode prog_14_method_46_code 4 = .ok (.if_icmp .ge 16, 3) := by decide +kernel
theorem d_Model_start_7 : decode prog_14_method_46_code 7 = .ok (.aload_n 0, 1) := by decide +kernel
theorem d_Model_start_8 : decode prog_14_method_46_code 8 = .ok (.getfield 76, 3) := by decide +kernel
theorem d_Model_start_11 : decode prog_14_method_46_code 11 = .ok (.iload_n 2, 1) := by decide +kernel
theorem d_Model_start_12 : decode prog_14_method_46_code 12 = .ok (.lconst 0, 1) := by decide +kernel
theorem d_Model_start_13 : decode prog_14_method_46_code 13 = .ok (.lastore, 1) := by decide +kernel
theorem d_Model_start_14 : decode prog_14_method_46_code 14 = .ok (.iinc 2 1, 3) := by decide +kernel
theorem d_Model_start_17 : decode prog_14_method_46_code 17 = .ok (.goto (-15), 3) := by decide +kernel
theorem d_Model_start_20 : decode prog_14_method_46_code 20 = .ok (.aload_n 0, 1) := by decide +kernel
theorem d_Model_start_21 : decode prog_14_method_46_code 21 = .ok (.getfield 76, 3) := by decide +kernel
theorem d_Model_start_24 : decode prog_14_method_46_code 24 = .ok (.iconst 0, 1) := by decide +kernel
theorem d_Model_start_25 : decode prog_14_method_46_code 25 = .ok (.aload_n 0, 1) := by decide +kernel
theorem d_Model_start_26 : decode prog_14_method_46_code 26 = .ok (.getfield 58, 3) := by decide +kernel
theorem d_Model_start_29 : decode prog_14_method_46_code 29 = .ok (.iload_n 1, 1) := by decide +kernel
theorem d_Model_start_30 : decode prog_14_method_46_code 30 = .ok (.iaload, 1) := by decide +kernel
theorem d_Model_start_31 : decode prog_14_method_46_code 31 = .ok (.ifCond .le 7, 3) := by decide +kernel
theorem d_Model_start_34 : decode prog_14_method_46_code 34 = .ok (.lconst 1, 1) := by decide +kernel
theorem d_Model_start_35 : decode prog_14_method_46_code 35 = .ok (.goto 4, 3) := by decide +kernel
theorem d_Model_start_38 : decode prog_14_method_46_code 38 = .ok (.lconst 0, 1) := by decide +kernel
theorem d_Model_start_39 : decode prog_14_method_46_code 39 = .ok (.lastore, 1) := by decide +kernel
theorem d_Model_start_40 : decode prog_14_method_46_code 40 = .ok (.return_, 1) := by decide +kernel
theorem d_Model_isEmpty_0 : decode prog_14_method_48_code 0 = .ok (.aload_n 0, 1) := by decide +kernel
theorem d_Model_isEmpty_1 : decode prog_14_method_48_code 1 = .ok (.iload_n 1, 1) := by decide +kernel
theorem d_Model_isEmpty_2 : decode prog_14_method_48_code 2 = .ok (.laload, 1) := by decide +kernel
theorem d_Model_isEmpty_3 : decode prog_14_method_48_code 3 = .ok (.aload_n 0, 1) := by decide +kernel
theorem d_Model_isEmpty_4 : decode prog_14_method_48_code 4 = .ok (.iload_n 1, 1) := by decide +kernel
theorem d_Model_isEmpty_5 : decode prog_14_method_48_code 5 = .ok (.iconst 1, 1) := by decide +kernel
theorem d_Model_isEmpty_6 : decode prog_14_method_48_code 6 = .ok (.iadd, 1) := by decide +kernel
theorem d_Model_isEmpty_7 : decode prog_14_method_48_code 7 = .ok (.laload, 1) := by decide +kernel
theorem d_Model_isEmpty_8 : decode prog_14_method_48_code 8 = .ok (.lor, 1) := by decide +kernel
theorem d_Model_isEmpty_9 : decode prog_14_method_48_code 9 = .ok (.aload_n 0, 1) := by decide +kernel
theorem d_Model_isEmpty_10 : decode prog_14_method_48_code 10 = .ok (.iload_n 1, 1) := by decide +kernel
theorem d_Model_isEmpty_11 : decode prog_14_method_48_code 11 = .ok (.iconst 2, 1) := by decide +kernel
theorem d_Model_isEmpty_12 : decode prog_14_method_48_code 12 = .ok (.iadd, 1) := by decide +kernel
theorem d_Model_isEmpty_13 : decode prog_14_method_48_code 13 = .ok (.laload, 1) := by decide +kernel
theorem d_Model_isEmpty_14 : decode prog_14_method_48_code 14 = .ok (.lor, 1) := by decide +kernel
theorem d_Model_isEmpty_15 : decode prog_14_method_48_code 15 = .ok (.aload_n 0, 1) := by decide +kernel
theorem d_Model_isEmpty_16 : decode prog_14_method_48_code 16 = .ok (.iload_n 1, 1) := by decide +kernel
theorem d_Model_isEmpty_17 : decode prog_14_method_48_code 17 = .ok (.iconst 3, 1) := by decide +kernel
theorem d_Model_isEmpty_18 : decode prog_14_method_48_code 18 = .ok (.iadd, 1) := by decide +kernel
theorem d_Model_isEmpty_19 : decode prog_14_method_48_code 19 = .ok (.laload, 1) := by decide +kernel
theorem d_Model_isEmpty_20 : decode prog_14_method_48_code 20 = .ok (.lor, 1) := by decide +kernel
theorem d_Model_isEmpty_21 : decode prog_14_method_48_code 21 = .ok (.lconst 0, 1) := by decide +kernel
theorem d_Model_isEmpty_22 : decode prog_14_method_48_code 22 = .ok (.lcmp, 1) := by decide +kernel
theorem d_Model_isEmpty_23 : decode prog_14_method_48_code 23 = .ok (.ifCond .ne 7, 3) := by decide +kernel
theorem d_Model_isEmpty_26 : decode prog_14_method_48_code 26 = .ok (.iconst 1, 1) := by decide +kernel
theorem d_Model_isEmpty_27 : decode prog_14_method_48_code 27 = .ok (.goto 4, 3) := by decide +kernel
theorem d_Model_isEmpty_30 : decode prog_14_method_48_code 30 = .ok (.iconst 0, 1) := by decide +kernel
theorem d_Model_takes_0 : decode prog_14_method_49_code 0 = .ok (.iconst 0, 1) := by decide +kernel
theorem d_Model_takes_1 : decode prog_14_method_49_code 1 = .ok (.istore 4, 2) := by decide +kernel
theorem d_Model_takes_3 : decode prog_14_method_49_code 3 = .ok (.iconst 0, 1) := by decide +kernel
theorem d_Model_takes_4 : decode prog_14_method_49_code 4 = .ok (.istore 5, 2) := by decide +kernel
theorem d_Model_takes_6 : decode prog_14_method_49_code 6 = .ok (.iload 5, 2) := by decide +kernel
theorem d_Model_takes_8 : decode prog_14_method_49_code 8 = .ok (.aload_n 0, 1) := by decide +kernel
theorem d_Model_takes_9 : decode prog_14_method_49_code 9 = .ok (.getfield 58, 3) := by decide +kernel
theorem d_Model_takes_12 : decode prog_14_method_49_code 12 = .ok (.iload_n 1, 1) := by decide +kernel
theorem d_Model_takes_13 : decode prog_14_method_49_code 13 = .ok (.iaload, 1) := by decide +kernel
theorem d_Model_takes_14 : decode prog_14_method_49_code 14 = .ok (.if_icmp .ge 41, 3) := by decide +kernel
theorem d_Model_takes_17 : decode prog_14_method_49_code 17 = .ok (.iload 4, 2) := by decide +kernel
theorem d_Model_takes_19 : decode prog_14_method_49_code 19 = .ok (.ifCond .ne 23, 3) := by decide +kernel
theorem d_Model_takes_22 : decode prog_14_method_49_code 22 = .ok (.aload_n 2, 1) := by decide +kernel
theorem d_Model_takes_23 : decode prog_14_method_49_code 23 = .ok (.iload_n 3, 1) := by decide +kernel
theorem d_Model_takes_24 : decode prog_14_method_49_code 24 = .ok (.iload 5, 2) := by decide +kernel
theorem d_Model_takes_26 : decode prog_14_method_49_code 26 = .ok (.invokestatic 271, 3) := by decide +kernel
theorem d_Model_takes_29 : decode prog_14_method_49_code 29 = .ok (.ifCond .eq 17, 3) := by decide +kernel
theorem d_Model_takes_32 : decode prog_14_method_49_code 32 = .ok (.aload_n 0, 1) := by decide +kernel
theorem d_Model_takes_33 : decode prog_14_method_49_code 33 = .ok (.iload_n 1, 1) := by decide +kernel
theorem d_Model_takes_34 : decode prog_14_method_49_code 34 = .ok (.iload 5, 2) := by decide +kernel
theorem d_Model_takes_36 : decode prog_14_method_49_code 36 = .ok (.invokevirtual 256, 3) := by decide +kernel
theorem d_Model_takes_39 : decode prog_14_method_49_code 39 = .ok (.ifCond .eq 7, 3) := by decide +kernel
theorem d_Model_takes_42 : decode prog_14_method_49_code 42 = .ok (.iconst 1, 1) := by decide +kernel
theorem d_Model_takes_43 : decode prog_14_method_49_code 43 = .ok (.goto 4, 3) := by decide +kernel
theorem d_Model_takes_46 : decode prog_14_method_49_code 46 = .ok (.iconst 0, 1) := by decide +kernel
theorem d_Model_takes_47 : decode prog_14_method_49_code 47 = .ok (.istore 4, 2) := by decide +kernel
theorem d_Model_takes_49 : decode prog_14_method_49_code 49 = .ok (.iinc 5 1, 3) := by decide +kernel
theorem d_Model_takes_52 : decode prog_14_method_49_code 52 = .ok (.goto (-46), 3) := by decide +kernel
theorem d_Model_takes_55 : decode prog_14_method_49_code 55 = .ok (.iload 4, 2) := by decide +kernel
theorem d_Model_has_0 : decode prog_14_method_45_code 0 = .ok (.aload_n 0, 1) := by decide +kernel
theorem d_Model_has_1 : decode prog_14_method_45_code 1 = .ok (.iload_n 1, 1) := by decide +kernel
theorem d_Model_has_2 : decode prog_14_method_45_code 2 = .ok (.iload_n 2, 1) := by decide +kernel
theorem d_Model_has_3 : decode prog_14_method_45_code 3 = .ok (.bipush 64, 2) := by decide +kernel
theorem d_Model_has_5 : decode prog_14_method_45_code 5 = .ok (.idiv, 1) := by decide +kernel
theorem d_Model_has_6 : decode prog_14_method_45_code 6 = .ok (.iadd, 1) := by decide +kernel
theorem d_Model_has_7 : decode prog_14_method_45_code 7 = .ok (.laload, 1) := by decide +kernel
theorem d_Model_has_8 : decode prog_14_method_45_code 8 = .ok (.iload_n 2, 1) := by decide +kernel
theorem d_Model_has_9 : decode prog_14_method_45_code 9 = .ok (.bipush 64, 2) := by decide +kernel
theorem d_Model_has_11 : decode prog_14_method_45_code 11 = .ok (.irem, 1) := by decide +kernel
theorem d_Model_has_12 : decode prog_14_method_45_code 12 = .ok (.lushr, 1) := by decide +kernel
theorem d_Model_has_13 : decode prog_14_method_45_code 13 = .ok (.lconst 1, 1) := by decide +kernel
theorem d_Model_has_14 : decode prog_14_method_45_code 14 = .ok (.land, 1) := by decide +kernel
theorem d_Model_has_15 : decode prog_14_method_45_code 15 = .ok (.lconst 1, 1) := by decide +kernel
theorem d_Model_has_16 : decode prog_14_method_45_code 16 = .ok (.lcmp, 1) := by decide +kernel
theorem d_Model_has_17 : decode prog_14_method_45_code 17 = .ok (.ifCond .ne 7, 3) := by decide +kernel
theorem d_Model_has_20 : decode prog_14_method_45_code 20 = .ok (.iconst 1, 1) := by decide +kernel
theorem d_Model_has_21 : decode prog_14_method_45_code 21 = .ok (.goto 4, 3) := by decide +kernel
theorem d_Model_has_24 : decode prog_14_method_45_code 24 = .ok (.iconst 0, 1) := by decide +kernel
theorem d_Model_step_0 : decode prog_14_method_47_code 0 = .ok (.iconst 0, 1) := by decide +kernel
theorem d_Model_step_1 : decode prog_14_method_47_code 1 = .ok (.istore 7, 2) := by decide +kernel
theorem d_Model_step_3 : decode prog_14_method_47_code 3 = .ok (.iload 7, 2) := by decide +kernel
theorem d_Model_step_5 : decode prog_14_method_47_code 5 = .ok (.iconst 4, 1) := by decide +kernel
theorem d_Model_step_6 : decode prog_14_method_47_code 6 = .ok (.if_icmp .ge 17, 3) := by decide +kernel
theorem d_Model_step_9 : decode prog_14_method_47_code 9 = .ok (.aload_n 0, 1) := by decide +kernel
theorem d_Model_step_10 : decode prog_14_method_47_code 10 = .ok (.getfield 80, 3) := by decide +kernel
theorem d_Model_step_13 : decode prog_14_method_47_code 13 = .ok (.iload 7, 2) := by decide +kernel
theorem d_Model_step_15 : decode prog_14_method_47_code 15 = .ok (.lconst 0, 1) := by decide +kernel
theorem d_Model_step_16 : decode prog_14_method_47_code 16 = .ok (.lastore, 1) := by decide +kernel
theorem d_Model_step_17 : decode prog_14_method_47_code 17 = .ok (.iinc 7 1, 3) := by decide +kernel
theorem d_Model_step_20 : decode prog_14_method_47_code 20 = .ok (.goto (-17), 3) := by decide +kernel
theorem d_Model_step_23 : decode prog_14_method_47_code 23 = .ok (.aload_n 0, 1) := by decide +kernel
theorem d_Model_step_24 : decode prog_14_method_47_code 24 = .ok (.getfield 13, 3) := by decide +kernel
theorem d_Model_step_27 : decode prog_14_method_47_code 27 = .ok (.sipush 502, 3) := by decide +kernel
theorem d_Model_step_30 : decode prog_14_method_47_code 30 = .ok (.iaload, 1) := by decide +kernel
theorem d_Model_step_31 : decode prog_14_method_47_code 31 = .ok (.istore 7, 2) := by decide +kernel
theorem d_Model_step_33 : decode prog_14_method_47_code 33 = .ok (.iconst 0, 1) := by decide +kernel
theorem d_Model_step_34 : decode prog_14_method_47_code 34 = .ok (.istore 8, 2) := by decide +kernel
theorem d_Model_step_36 : decode prog_14_method_47_code 36 = .ok (.iload 8, 2) := by decide +kernel
theorem d_Model_step_38 : decode prog_14_method_47_code 38 = .ok (.aload_n 0, 1) := by decide +kernel
theorem d_Model_step_39 : decode prog_14_method_47_code 39 = .ok (.getfield 70, 3) := by decide +kernel
theorem d_Model_step_42 : decode prog_14_method_47_code 42 = .ok (.iload_n 1, 1) := by decide +kernel
theorem d_Model_step_43 : decode prog_14_method_47_code 43 = .ok (.iaload, 1) := by decide +kernel
theorem d_Model_step_44 : decode prog_14_method_47_code 44 = .ok (.if_icmp .ge 134, 3) := by decide +kernel
theorem d_Model_step_47 : decode prog_14_method_47_code 47 = .ok (.aload_n 0, 1) := by decide +kernel
theorem d_Model_step_48 : decode prog_14_method_47_code 48 = .ok (.iload_n 1, 1) := by decide +kernel
theorem d_Model_step_49 : decode prog_14_method_47_code 49 = .ok (.iload 8, 2) := by decide +kernel
theorem d_Model_step_51 : decode prog_14_method_47_code 51 = .ok (.iconst 1, 1) := by decide +kernel
theorem d_Model_step_52 : decode prog_14_method_47_code 52 = .ok (.invokevirtual 225, 3) := by decide +kernel
theorem d_Model_step_55 : decode prog_14_method_47_code 55 = .ok (.iload 4, 2) := by decide +kernel
theorem d_Model_step_57 : decode prog_14_method_47_code 57 = .ok (.if_icmp .ne 23, 3) := by decide +kernel
theorem d_Model_step_60 : decode prog_14_method_47_code 60 = .ok (.aload_n 2, 1) := by decide +kernel
theorem d_Model_step_61 : decode prog_14_method_47_code 61 = .ok (.iload_n 3, 1) := by decide +kernel
theorem d_Model_step_62 : decode prog_14_method_47_code 62 = .ok (.aload_n 0, 1) := by decide +kernel
theorem d_Model_step_63 : decode prog_14_method_47_code 63 = .ok (.iload_n 1, 1) := by decide +kernel
theorem d_Model_step_64 : decode prog_14_method_47_code 64 = .ok (.iload 8, 2) := by decide +kernel
theorem d_Model_step_66 : decode prog_14_method_47_code 66 = .ok (.iconst 0, 1) := by decide +kernel
theorem d_Model_step_67 : decode prog_14_method_47_code 67 = .ok (.invokevirtual 225, 3) := by decide +kernel
theorem d_Model_step_70 : decode prog_14_method_47_code 70 = .ok (.invokestatic 271, 3) := by decide +kernel
theorem d_Model_step_73 : decode prog_14_method_47_code 73 = .ok (.ifCond .eq 7, 3) := by decide +kernel
theorem d_Model_step_76 : decode prog_14_method_47_code 76 = .ok (.iconst 1, 1) := by decide +kernel
theorem d_Model_step_77 : decode prog_14_method_47_code 77 = .ok (.goto 4, 3) := by decide +kernel
theorem d_Model_step_80 : decode prog_14_method_47_code 80 = .ok (.iconst 0, 1) := by decide +kernel
theorem d_Model_step_81 : decode prog_14_method_47_code 81 = .ok (.istore 9, 2) := by decide +kernel
theorem d_Model_step_83 : decode prog_14_method_47_code 83 = .ok (.iload 9, 2) := by decide +kernel
theorem d_Model_step_85 : decode prog_14_method_47_code 85 = .ok (.ifCond .eq 45, 3) := by decide +kernel
theorem d_Model_step_88 : decode prog_14_method_47_code 88 = .ok (.iload 6, 2) := by decide +kernel
theorem d_Model_step_90 : decode prog_14_method_47_code 90 = .ok (.ifCond .eq 36, 3) := by decide +kernel
theorem d_Model_step_93 : decode prog_14_method_47_code 93 = .ok (.iload 5, 2) := by decide +kernel
theorem d_Model_step_95 : decode prog_14_method_47_code 95 = .ok (.i2l, 1) := by decide +kernel
theorem d_Model_step_96 : decode prog_14_method_47_code 96 = .ok (.aload_n 0, 1) := by decide +kernel
theorem d_Model_step_97 : decode prog_14_method_47_code 97 = .ok (.iload_n 1, 1) := by decide +kernel
theorem d_Model_step_98 : decode prog_14_method_47_code 98 = .ok (.iload 8, 2) := by decide +kernel
theorem d_Model_step_100 : decode prog_14_method_47_code 100 = .ok (.iconst 4, 1) := by decide +kernel
theorem d_Model_step_101 : decode prog_14_method_47_code 101 = .ok (.invokevirtual 225, 3) := by decide +kernel
theorem d_Model_step_104 : decode prog_14_method_47_code 104 = .ok (.iload 7, 2) := by decide +kernel
theorem d_Model_step_106 : decode prog_14_method_47_code 106 = .ok (.isub, 1) := by decide +kernel
theorem d_Model_step_107 : decode prog_14_method_47_code 107 = .ok (.i2l, 1) := by decide +kernel
theorem d_Model_step_108 : decode prog_14_method_47_code 108 = .ok (.aload_n 0, 1) := by decide +kernel
theorem d_Model_step_109 : decode prog_14_method_47_code 109 = .ok (.iload_n 1, 1) := by decide +kernel
theorem d_Model_step_110 : decode prog_14_method_47_code 110 = .ok (.iload 8, 2) := by decide +kernel
theorem d_Model_step_112 : decode prog_14_method_47_code 112 = .ok (.iconst 5, 1) := by decide +kernel
theorem d_Model_step_113 : decode prog_14_method_47_code 113 = .ok (.invokevirtual 225, 3) := by decide +kernel
theorem d_Model_step_116 : decode prog_14_method_47_code 116 = .ok (.iload 7, 2) := by decide +kernel
theorem d_Model_step_118 : decode prog_14_method_47_code 118 = .ok (.iadd, 1) := by decide +kernel
theorem d_Model_step_119 : decode prog_14_method_47_code 119 = .ok (.i2l, 1) := by decide +kernel
theorem d_Model_step_120 : decode prog_14_method_47_code 120 = .ok (.invokestatic 138, 3) := by decide +kernel
theorem d_Model_step_123 : decode prog_14_method_47_code 123 = .ok (.ifCond .eq 7, 3) := by decide +kernel
theorem d_Model_step_126 : decode prog_14_method_47_code 126 = .ok (.iconst 1, 1) := by decide +kernel
theorem d_Model_step_127 : decode prog_14_method_47_code 127 = .ok (.goto 4, 3) := by decide +kernel
theorem d_Model_step_130 : decode prog_14_method_47_code 130 = .ok (.iconst 0, 1) := by decide +kernel
theorem d_Model_step_131 : decode prog_14_method_47_code 131 = .ok (.istore 9, 2) := by decide +kernel
theorem d_Model_step_133 : decode prog_14_method_47_code 133 = .ok (.aload_n 0, 1) := by decide +kernel
theorem d_Model_step_134 : decode prog_14_method_47_code 134 = .ok (.iload_n 1, 1) := by decide +kernel
theorem d_Model_step_135 : decode prog_14_method_47_code 135 = .ok (.iload 8, 2) := by decide +kernel
theorem d_Model_step_137 : decode prog_14_method_47_code 137 = .ok (.iconst 2, 1) := by decide +kernel
theorem d_Model_step_138 : decode prog_14_method_47_code 138 = .ok (.invokevirtual 225, 3) := by decide +kernel
theorem d_Model_step_141 : decode prog_14_method_47_code 141 = .ok (.istore 10, 2) := by decide +kernel
theorem d_Model_step_143 : decode prog_14_method_47_code 143 = .ok (.aload_n 0, 1) := by decide +kernel
theorem d_Model_step_144 : decode prog_14_method_47_code 144 = .ok (.getfield 80, 3) := by decide +kernel
theorem d_Model_step_147 : decode prog_14_method_47_code 147 = .ok (.iload 10, 2) := by decide +kernel
theorem d_Model_step_149 : decode prog_14_method_47_code 149 = .ok (.bipush 64, 2) := by decide +kernel
theorem d_Model_step_151 : decode prog_14_method_47_code 151 = .ok (.idiv, 1) := by decide +kernel
theorem d_Model_step_152 : decode prog_14_method_47_code 152 = .ok (.dup2, 1) := by decide +kernel
theorem d_Model_step_153 : decode prog_14_method_47_code 153 = .ok (.laload, 1) := by decide +kernel
theorem d_Model_step_154 : decode prog_14_method_47_code 154 = .ok (.iload 9, 2) := by decide +kernel
theorem d_Model_step_156 : decode prog_14_method_47_code 156 = .ok (.ifCond .eq 13, 3) := by decide +kernel
theorem d_Model_step_159 : decode prog_14_method_47_code 159 = .ok (.lconst 1, 1) := by decide +kernel
theorem d_Model_step_160 : decode prog_14_method_47_code 160 = .ok (.iload 10, 2) := by decide +kernel
theorem d_Model_step_162 : decode prog_14_method_47_code 162 = .ok (.bipush 64, 2) := by decide +kernel
theorem d_Model_step_164 : decode prog_14_method_47_code 164 = .ok (.irem, 1) := by decide +kernel
theorem d_Model_step_165 : decode prog_14_method_47_code 165 = .ok (.lshl, 1) := by decide +kernel
theorem d_Model_step_166 : decode prog_14_method_47_code 166 = .ok (.goto 4, 3) := by decide +kernel
theorem d_Model_step_169 : decode prog_14_method_47_code 169 = .ok (.lconst 0, 1) := by decide +kernel
theorem d_Model_step_170 : decode prog_14_method_47_code 170 = .ok (.lor, 1) := by decide +kernel
theorem d_Model_step_171 : decode prog_14_method_47_code 171 = .ok (.lastore, 1) := by decide +kernel
theorem d_Model_step_172 : decode prog_14_method_47_code 172 = .ok (.iinc 8 1, 3) := by decide +kernel
theorem d_Model_step_175 : decode prog_14_method_47_code 175 = .ok (.goto (-139), 3) := by decide +kernel
abbrev m_s2_Model_start : Room := { frames := 0, cells := 0, slots := 0, locals := 0 }
set_option maxHeartbeats 4000000 in
set_option maxRecDepth 100000 in
theorem s2_Model_start (l : Launch) (G : zG) (b0 : Nat) (b1 : Int32) (b2 : Nat) (b3 : Nat) (b4 : Nat) (b5 : Nat) (b6 : Int32) (b7 : Nat) (b8 : Int32) (b9 : Int32) (b10 : Int32) (b11 : Int32) (b12 : Nat) (b13 : Nat) (b14 : Nat) (b15 : Int32) (b16 : Nat) (b17 : Nat) (b18 : Nat) (b19 : Nat) (b20 : Nat) (b21 : Nat) (b22 : Nat) (b23 : Nat) (b24 : Nat) (b25 : Nat) (b26 : Nat) (b27 : Nat) (b28 : Int32) (b29 : Nat) (b30 : Nat) (b31 : Int32) (b32 : Int32) (b33 : Int32) (b34 : Int32) (b35 : Nat) (b36 : Nat) (b37 : Nat) (b38 : Nat) (b39 : Nat) (b40 : Nat) (b41 : Nat) (b42 : Int32) (b43 : Nat) (b44 : Nat) (b45 : Int32) (b46 : Nat) (b47 : Nat) (b48 : Nat) (b49 : Nat) (b50 : Nat) (b51 : Int32) (b52 : Nat) (b53 : Nat) (b54 : Nat) (b55 : Nat → Int32) (b56 : Nat → Int64) (hb6 : zI b6 0 8) (hb8 : zI b8 0 240) (hb9 : zI b9 0 240) (hb11 : zI b11 0 1) (hb15 : zI b15 0 12) (hb28 : zI b28 0 1) (hb31 : zI b31 0 1) (hb42 : zI b42 0 1000) (hb45 : zI b45 0 1000) (hb51 : zI b51 0 400) (hb55 : zR b55 0 241) : zM l G y_Model_start prog_14_method_46_code 3 (Option.none : Option Jvm.ClassFile.FieldType) m_s2_Model_start [.ref b0, .int 0] [(b0, .inr (12, [.int b1, .ref b2, .ref b3, .ref b4, .ref b5, .int b6, .ref b7, .int b8, .int b9, .int b10, .int b11, .ref b12, .ref b13, .ref b14, .int b15, .ref b16, .ref b17, .ref b18, .ref b19, .ref b20, .ref b21, .ref b22, .ref b23, .ref b24, .ref b25, .ref b26, .ref b27, .int b28, .ref b29, .ref b30, .int b31, .int b32, .int b33, .int b34, .ref b35, .ref b36, .ref b37, .ref b38, .ref b39, .ref b40, .ref b41, .int b42, .ref b43, .ref b44, .int b45, .ref b46, .ref b47, .ref b48, .ref b49, .ref b50, .int b51, .ref b52, .ref b53, .ref b54])), (b22, .inl (G.2 0, 2, .inl b55)), (b29, .inl (G.2 1, 4, .inr (.inl b56)))] (fun v w => ∃ (e0 : Nat → Int64), v = none ∧ w = [(b0, .inr (12, [.int b1, .ref b2, .ref b3, .ref b4, .ref b5, .int b6, .ref b7, .int b8, .int b9, .int b10, .int b11, .ref b12, .ref b13, .ref b14, .int b15, .ref b16, .ref b17, .ref b18, .ref b19, .ref b20, .ref b21, .ref b22, .ref b23, .ref b24, .ref b25, .ref b26, .ref b27, .int b28, .ref b29, .ref b30, .int b31, .int b32, .int b33, .int b34, .ref b35, .ref b36, .ref b37, .ref b38, .ref b39, .ref b40, .ref b41, .int b42, .ref b43, .ref b44, .int b45, .ref b46, .ref b47, .ref b48, .ref b49, .ref b50, .int b51, .ref b52, .ref b53, .ref b54])), (b22, .inl (G.2 0, 2, .inl b55)), (b29, .inl (G.2 1, 4, .inr (.inl e0)))]) := by
  refine z_start (by decide +kernel) (Nat.le_of_ble_eq_true rfl) ?_
  intro p e s m below meth c A Z hr hnm hA hP hD hS ls hl
  have Z : zC p s m _ meth c prog_14_method_46_code 3 "TraceMachinesModel" G := Z
  obtain ⟨hx, hb, hml, hown, hts, hK, hN, hlocks⟩ := id Z
  have hl : lv_has ls 3 [(0, .ref b0), (1, .int 0)] := hl
  refine lv_iconst (v := 0) hx hb d_Model_start_0 (by decide) ?_
  refine lv_istore_n (lv' := [(2, .int 0), (0, .ref b0), (1, .int 0)]) hx hb d_Model_start_1 rfl hl (by decide) rfl (fun ls hl => ?_)
  suffices key : ∀ (k_18 : Nat) (y_19 : Int32) (y_20 : Nat → Int64) (H : Heap) (locs : List Loc) (ls : Array Slot), (zI y_19 0 4) → (4 : Int) - y_19.toInt < (k_18 : Int) → va_P G.1 classes [(b0, .inr (12, [.int b1, .ref b2, .ref b3, .ref b4, .ref b5, .int b6, .ref b7, .int b8, .int b9, .int b10, .int b11, .ref b12, .ref b13, .ref b14, .int b15, .ref b16, .ref b17, .ref b18, .ref b19, .ref b20, .ref b21, .ref b22, .ref b23, .ref b24, .ref b25, .ref b26, .ref b27, .int b28, .ref b29, .ref b30, .int b31, .int b32, .int b33, .int b34, .ref b35, .ref b36, .ref b37, .ref b38, .ref b39, .ref b40, .ref b41, .int b42, .ref b43, .ref b44, .int b45, .ref b46, .ref b47, .ref b48, .ref b49, .ref b50, .int b51, .ref b52, .ref b53, .ref b54])), (b22, .inl (G.2 0, 2, .inl b55)), (b29, .inl (G.2 1, 4, .inr (.inl y_20)))] H → va_D A [(b0, .inr (12, [.int b1, .ref b2, .ref b3, .ref b4, .ref b5, .int b6, .ref b7, .int b8, .int b9, .int b10, .int b11, .ref b12, .ref b13, .ref b14, .int b15, .ref b16, .ref b17, .ref b18, .ref b19, .ref b20, .ref b21, .ref b22, .ref b23, .ref b24, .ref b25, .ref b26, .ref b27, .int b28, .ref b29, .ref b30, .int b31, .int b32, .int b33, .int b34, .ref b35, .ref b36, .ref b37, .ref b38, .ref b39, .ref b40, .ref b41, .int b42, .ref b43, .ref b44, .int b45, .ref b46, .ref b47, .ref b48, .ref b49, .ref b50, .int b51, .ref b52, .ref b53, .ref b54])), (b22, .inl (G.2 0, 2, .inl b55)), (b29, .inl (G.2 1, 4, .inr (.inl y_20)))] → va_S A s.heap H locs → lv_has ls 3 [(2, .int y_19), (0, .ref b0), (1, .int 0)] → W p l e m_s2_Model_start s m ([.ref b0, .int 0] : List Value).toArray below meth c H locs 0 0 (MQ below (zQ G (fun v w => ∃ (e0 : Nat → Int64), v = none ∧ w = [(b0, .inr (12, [.int b1, .ref b2, .ref b3, .ref b4, .ref b5, .int b6, .ref b7, .int b8, .int b9, .int b10, .int b11, .ref b12, .ref b13, .ref b14, .int b15, .ref b16, .ref b17, .ref b18, .ref b19, .ref b20, .ref b21, .ref b22, .ref b23, .ref b24, .ref b25, .ref b26, .ref b27, .int b28, .ref b29, .ref b30, .int b31, .int b32, .int b33, .int b34, .ref b35, .ref b36, .ref b37, .ref b38, .ref b39, .ref b40, .ref b41, .int b42, .ref b43, .ref b44, .int b45, .ref b46, .ref b47, .ref b48, .ref b49, .ref b50, .int b51, .ref b52, .ref b53, .ref b54])), (b22, .inl (G.2 0, 2, .inl b55)), (b29, .inl (G.2 1, 4, .inr (.inl e0)))]) A) ([.ref b0, .int 0] : List Value).toArray s m_s2_Model_start.cells m_s2_Model_start.slots A) (F0 m 2 ls []) by
    exact key 5 (0) (b56) _ _ _ (zI.wk (l' := 0) (h' := 4) zc_0 (by decide)) (zm_upi (zI.wk (l' := 0) (h' := 4) zc_0 (by decide)) (by decide)) hP hD hS (lv_sub hl [0, 1, 2] rfl)
  intro k_18
  induction k_18 with
  | zero =>
    intro y_19 y_20 H locs ls hy_19 hmk_18 hP hD hS hl
    exact (zm_up0 hy_19 hmk_18).elim
  | succ k_18 ihk_18 =>
    intro y_19 y_20 H locs ls hy_19 hmk_18 hP hD hS hl
    refine lv_iload_n hx hb d_Model_start_2 rfl (lv_at hl 0 rfl) ?_
    refine lv_iconst (v := 4) hx hb d_Model_start_3 (by decide) ?_
    refine lv_icmp_ge (tgt := 20) hx hb d_Model_start_4 (by decide) (fun hc_21 => ?_) (fun hc_21 => ?_)
    · have _nhc_21 := hc_21
      have ni_22 := (fa_le _ _).mp hc_21
      rw [li_4] at ni_22
      have hv_23 : zI y_19 4 4 := zI.le_r zc_4 hy_19 hc_21 (by decide)
      refine lv_aload_n hx hb d_Model_start_20 rfl (lv_at hl 1 rfl) ?_
      refine va_get (D := G.1) (ci := 12) (v := .ref b29) (C := R_Model) (T := F_Model) (N := 54) hx hb hts i_Model hown hK hP 0 rfl rfl 28 (by decide) (hts _ q1137) (fun _ h9 => h9) rfl d_Model_start_21 ?_
      refine lv_iconst (v := 0) hx hb d_Model_start_24 (by decide) ?_
      refine lv_aload_n hx hb d_Model_start_25 rfl (lv_at hl 1 rfl) ?_
      refine va_get (D := G.1) (ci := 12) (v := .ref b22) (C := R_Model) (T := F_Model) (N := 54) hx hb hts i_Model hown hK hP 0 rfl rfl 21 (by decide) (hts _ q1130) (fun _ h9 => h9) rfl d_Model_start_26 ?_
      refine lv_iload_n hx hb d_Model_start_29 rfl (lv_at hl 2 rfl) ?_
      refine va_iald hx hb hK hP 1 0 rfl rfl (i := 0) (z_in rfl) d_Model_start_30 ?_
      refine lv_topi (fun v_24 ev_24 => ?_)
      have hv_24 : zI v_24 0 241 := (hb55 _).eq ev_24
      refine lv_if_le (tgt := 38) hx hb d_Model_start_31 (by decide) (fun hc_25 => ?_) (fun hc_25 => ?_)
      · have _nhc_25 := hc_25
        have ni_26 := (fa_le _ _).mp hc_25
        rw [li_0] at ni_26
        have hv_27 : zI v_24 0 0 := zI.le_l hv_24 zc_0 hc_25 (by decide)
        refine lv_lconst (v := 0) hx hb d_Model_start_38 (by decide) ?_
        refine va_last hx hb hK hP hD hS 2 1 rfl rfl (i := 0) (z_in rfl) d_Model_start_39 (fun H locs hP hD hS => ?_)
        obtain ⟨f_28, hP, hD⟩ := z_newL 2 hP hD rfl
        have hP : va_P G.1 classes [(b0, .inr (12, [.int b1, .ref b2, .ref b3, .ref b4, .ref b5, .int b6, .ref b7, .int b8, .int b9, .int b10, .int b11, .ref b12, .ref b13, .ref b14, .int b15, .ref b16, .ref b17, .ref b18, .ref b19, .ref b20, .ref b21, .ref b22, .ref b23, .ref b24, .ref b25, .ref b26, .ref b27, .int b28, .ref b29, .ref b30, .int b31, .int b32, .int b33, .int b34, .ref b35, .ref b36, .ref b37, .ref b38, .ref b39, .ref b40, .ref b41, .int b42, .ref b43, .ref b44, .int b45, .ref b46, .ref b47, .ref b48, .ref b49, .ref b50, .int b51, .ref b52, .ref b53, .ref b54])), (b22, .inl (G.2 0, 2, .inl b55)), (b29, .inl (G.2 1, 4, .inr (.inl f_28)))] H := hP
        have hD := z_tie hP hD rfl
        exact z_vret hx hb hr hlocks hP hD hS (Nat.le_of_ble_eq_true rfl) (Nat.le_of_ble_eq_true rfl) d_Model_start_40 ⟨f_28, rfl, rfl⟩
      · have _nhc_25 := hc_25
        have ni_29 := (fa_lt _ _).mp (zi_nle hc_25)
        rw [li_0] at ni_29
        have hv_30 : zI v_24 1 241 := zI.lt_r zc_0 hv_24 (zi_nle hc_25) (by decide)
        refine lv_lconst (v := 1) hx hb d_Model_start_34 (by decide) ?_
        refine lv_goto (tgt := 39) hx hb d_Model_start_35 (by decide) ?_
        refine va_last hx hb hK hP hD hS 2 1 rfl rfl (i := 0) (z_in rfl) d_Model_start_39 (fun H locs hP hD hS => ?_)
        obtain ⟨f_31, hP, hD⟩ := z_newL 2 hP hD rfl
        have hP : va_P G.1 classes [(b0, .inr (12, [.int b1, .ref b2, .ref b3, .ref b4, .ref b5, .int b6, .ref b7, .int b8, .int b9, .int b10, .int b11, .ref b12, .ref b13, .ref b14, .int b15, .ref b16, .ref b17, .ref b18, .ref b19, .ref b20, .ref b21, .ref b22, .ref b23, .ref b24, .ref b25, .ref b26, .ref b27, .int b28, .ref b29, .ref b30, .int b31, .int b32, .int b33, .int b34, .ref b35, .ref b36, .ref b37, .ref b38, .ref b39, .ref b40, .ref b41, .int b42, .ref b43, .ref b44, .int b45, .ref b46, .ref b47, .ref b48, .ref b49, .ref b50, .int b51, .ref b52, .ref b53, .ref b54])), (b22, .inl (G.2 0, 2, .inl b55)), (b29, .inl (G.2 1, 4, .inr (.inl f_31)))] H := hP
        have hD := z_tie hP hD rfl
        exact z_vret hx hb hr hlocks hP hD hS (Nat.le_of_ble_eq_true rfl) (Nat.le_of_ble_eq_true rfl) d_Model_start_40 ⟨f_31, rfl, rfl⟩
    · have _nhc_21 := hc_21
      have ni_32 := (fa_lt _ _).mp (zi_nle hc_21)
      rw [li_4] at ni_32
      have hv_33 : zI y_19 0 3 := zI.lt_l hy_19 zc_4 (zi_nle hc_21) (by decide)
      refine lv_aload_n hx hb d_Model_start_7 rfl (lv_at hl 1 rfl) ?_
      refine va_get (D := G.1) (ci := 12) (v := .ref b29) (C := R_Model) (T := F_Model) (N := 54) hx hb hts i_Model hown hK hP 0 rfl rfl 28 (by decide) (hts _ q1137) (fun _ h9 => h9) rfl d_Model_start_8 ?_
      refine lv_iload_n hx hb d_Model_start_11 rfl (lv_at hl 0 rfl) ?_
      refine lv_lconst (v := 0) hx hb d_Model_start_12 (by decide) ?_
      refine va_last hx hb hK hP hD hS 2 1 rfl rfl (zI.inn hv_33 (by decide)) d_Model_start_13 (fun H locs hP hD hS => ?_)
      obtain ⟨f_34, hP, hD⟩ := z_newL 2 hP hD rfl
      have hP : va_P G.1 classes [(b0, .inr (12, [.int b1, .ref b2, .ref b3, .ref b4, .ref b5, .int b6, .ref b7, .int b8, .int b9, .int b10, .int b11, .ref b12, .ref b13, .ref b14, .int b15, .ref b16, .ref b17, .ref b18, .ref b19, .ref b20, .ref b21, .ref b22, .ref b23, .ref b24, .ref b25, .ref b26, .ref b27, .int b28, .ref b29, .ref b30, .int b31, .int b32, .int b33, .int b34, .ref b35, .ref b36, .ref b37, .ref b38, .ref b39, .ref b40, .ref b41, .int b42, .ref b43, .ref b44, .int b45, .ref b46, .ref b47, .ref b48, .ref b49, .ref b50, .int b51, .ref b52, .ref b53, .ref b54])), (b22, .inl (G.2 0, 2, .inl b55)), (b29, .inl (G.2 1, 4, .inr (.inl f_34)))] H := hP
      have hD := z_tie hP hD rfl
      obtain ⟨v_35, ev_35⟩ : ∃ z : Int32, z = y_19 + 1 := ⟨_, rfl⟩
      obtain ⟨qv_35, hv_35⟩ := zI_add (l := 1) (h := 4) hv_33 zc_1 ev_35 (by decide)
      rw [li_1] at qv_35
      refine lv_iinc (v := v_35) (lv' := [(2, .int v_35), (0, .ref b0), (1, .int 0)]) hx hb d_Model_start_14 hl (k := 0) rfl (by rw [ev_35]; rfl) (by decide) rfl (fun ls hl => ?_)
      refine lv_goto (tgt := 2) hx hb d_Model_start_17 (by decide) ?_
      exact ihk_18 (v_35) (f_34) _ _ _ (zI.wk (l' := 0) (h' := 4) hv_35 (by decide)) (zm_up qv_35 hmk_18 (by decide)) hP hD hS (lv_sub hl [0, 1, 2] rfl)
theorem d_Model_isEmpty_31 : decode prog_14_method_48_code 31 = .ok (.ireturn, 1) := by decide +kernel
abbrev m_s2_Model_isEmpty : Room := { frames := 0, cells := 0, slots := 0, locals := 0 }
set_option maxHeartbeats 4000000 in
set_option maxRecDepth 100000 in
theorem s2_Model_isEmpty (l : Launch) (G : zG) (b0 : Nat) (b1 : Int32) (b2 : Nat → Int64) (hb1 : zI b1 0 0) : zM l G y_Model_isEmpty prog_14_method_48_code 2 (Option.some Jvm.ClassFile.FieldType.boolean) m_s2_Model_isEmpty [.ref b0, .int b1] [(b0, .inl (G.2 1, 4, .inr (.inl b2)))] (fun v w => ∃ (e0 : Int32), v = some (.int e0) ∧ w = [(b0, .inl (G.2 1, 4, .inr (.inl b2)))] ∧ (zI e0 0 1)) := by
  refine z_start (by decide +kernel) (Nat.le_of_ble_eq_true rfl) ?_
  intro p e s m below meth c A Z hr hnm hA hP hD hS ls hl
  have Z : zC p s m _ meth c prog_14_method_48_code 2 "TraceMachinesModel" G := Z
  obtain ⟨hx, hb, hml, hown, hts, hK, hN, hlocks⟩ := id Z
  have hl : lv_has ls 2 [(0, .ref b0), (1, .int b1)] := hl
  refine lv_aload_n hx hb d_Model_isEmpty_0 rfl (lv_at hl 0 rfl) ?_
  refine lv_iload_n hx hb d_Model_isEmpty_1 rfl (lv_at hl 1 rfl) ?_
  refine va_lald hx hb hK hP 0 1 rfl rfl (zI.inn hb1 (by decide)) d_Model_isEmpty_2 ?_
  refine lv_topl (fun v_1 ev_1 => ?_)
  refine lv_aload_n hx hb d_Model_isEmpty_3 rfl (lv_at hl 0 rfl) ?_
  refine lv_iload_n hx hb d_Model_isEmpty_4 rfl (lv_at hl 1 rfl) ?_
  refine lv_iconst (v := 1) hx hb d_Model_isEmpty_5 (by decide) ?_
  refine lv_iadd hx hb d_Model_isEmpty_6 ?_
  refine lv_topi (fun v_2 ev_2 => ?_)
  obtain ⟨qv_2, hv_2⟩ := zI_add (l := 1) (h := 1) hb1 zc_1 ev_2 (by decide)
  rw [li_1] at qv_2
  refine va_lald hx hb hK hP 0 1 rfl rfl (zI.inn hv_2 (by decide)) d_Model_isEmpty_7 ?_
  refine lv_topl (fun v_3 ev_3 => ?_)
  refine lv_lor hx hb d_Model_isEmpty_8 ?_
  refine lv_topl (fun v_4 ev_4 => ?_)
  refine lv_aload_n hx hb d_Model_isEmpty_9 rfl (lv_at hl 0 rfl) ?_
  refine lv_iload_n hx hb d_Model_isEmpty_10 rfl (lv_at hl 1 rfl) ?_
  refine lv_iconst (v := 2) hx hb d_Model_isEmpty_11 (by decide) ?_
  refine lv_iadd hx hb d_Model_isEmpty_12 ?_
  refine lv_topi (fun v_5 ev_5 => ?_)
  obtain ⟨qv_5, hv_5⟩ := zI_add (l := 2) (h := 2) hb1 zc_2 ev_5 (by decide)
  rw [li_2] at qv_5
  refine va_lald hx hb hK hP 0 1 rfl rfl (zI.inn hv_5 (by decide)) d_Model_isEmpty_13 ?_
  refine lv_topl (fun v_6 ev_6 => ?_)
  refine lv_lor hx hb d_Model_isEmpty_14 ?_
  refine lv_topl (fun v_7 ev_7 => ?_)
  refine lv_aload_n hx hb d_Model_isEmpty_15 rfl (lv_at hl 0 rfl) ?_
  refine lv_iload_n hx hb d_Model_isEmpty_16 rfl (lv_at hl 1 rfl) ?_
  refine lv_iconst (v := 3) hx hb d_Model_isEmpty_17 (by decide) ?_
  refine lv_iadd hx hb d_Model_isEmpty_18 ?_
  refine lv_topi (fun v_8 ev_8 => ?_)
  obtain ⟨qv_8, hv_8⟩ := zI_add (l := 3) (h := 3) hb1 zc_3 ev_8 (by decide)
  rw [li_3] at qv_8
  refine va_lald hx hb hK hP 0 1 rfl rfl (zI.inn hv_8 (by decide)) d_Model_isEmpty_19 ?_
  refine lv_topl (fun v_9 ev_9 => ?_)
  refine lv_lor hx hb d_Model_isEmpty_20 ?_
  refine lv_topl (fun v_10 ev_10 => ?_)
  refine lv_lconst (v := 0) hx hb d_Model_isEmpty_21 (by decide) ?_
  refine W.lcmp hx hb d_Model_isEmpty_22 ?_
  refine lv_topi (fun v_11 ev_11 => ?_)
  refine lv_if_ne (tgt := 30) hx hb d_Model_isEmpty_23 (by decide) (fun hc_12 => ?_) (fun hc_12 => ?_)
  · have ni_13 := hc_12
    rw [ev_11] at ni_13
    simp only [lg_cmp_lt, lg_cmp_le, lg_cmp_gt, lg_cmp_ge, lg_cmp_eq, fa_lt64, fa_le64, fa_eq64, Int32.toInt_toInt64, ll_0] at ni_13
    refine lv_iconst (v := 0) hx hb d_Model_isEmpty_30 (by decide) ?_
    exact z_zret hx hb hr hlocks rfl hP hD hS (Nat.le_of_ble_eq_true rfl) (Nat.le_of_ble_eq_true rfl) d_Model_isEmpty_31 ⟨0, rfl, rfl, (zI.wk (l' := 0) (h' := 1) zc_0 (by decide))⟩
  · have ni_14 := hc_12
    rw [ev_11] at ni_14
    simp only [lg_cmp_lt, lg_cmp_le, lg_cmp_gt, lg_cmp_ge, lg_cmp_eq, fa_lt64, fa_le64, fa_eq64, Int32.toInt_toInt64, ll_0] at ni_14
    have hv_15 : zJ v_10 0 0 := by have _a := ni_14; have _b := (zJ_all v_10); have _c := zcl_0; simp only [Int32.toInt_toInt64] at *; exact ⟨by omega, by omega⟩
    refine lv_iconst (v := 1) hx hb d_Model_isEmpty_26 (by decide) ?_
    refine lv_goto (tgt := 31) hx hb d_Model_isEmpty_27 (by decide) ?_
    exact z_zret hx hb hr hlocks rfl hP hD hS (Nat.le_of_ble_eq_true rfl) (Nat.le_of_ble_eq_true rfl) d_Model_isEmpty_31 ⟨1, rfl, rfl, (zI.wk (l' := 0) (h' := 1) zc_1 (by decide))⟩
theorem d_Model_takes_57 : decode prog_14_method_49_code 57 = .ok (.ireturn, 1) := by decide +kernel
theorem d_Model_has_25 : decode prog_14_method_45_code 25 = .ok (.ireturn, 1) := by decide +kernel
abbrev m_s2_Model_has : Room := { frames := 0, cells := 0, slots := 0, locals := 0 }
set_option maxHeartbeats 4000000 in
set_option maxRecDepth 100000 in
theorem s2_Model_has (l : Launch) (G : zG) (b0 : Nat) (b1 : Int32) (b2 : Int32) (b3 : Nat → Int64) (hb1 : zI b1 0 0) (hb2 : zI b2 0 240) : zM l G y_Model_has prog_14_method_45_code 3 (Option.some Jvm.ClassFile.FieldType.boolean) m_s2_Model_has [.ref b0, .int b1, .int b2] [(b0, .inl (G.2 1, 4, .inr (.inl b3)))] (fun v w => ∃ (e0 : Int32), v = some (.int e0) ∧ w = [(b0, .inl (G.2 1, 4, .inr (.inl b3)))] ∧ (zI e0 0 1)) := by
  refine z_start (by decide +kernel) (Nat.le_of_ble_eq_true rfl) ?_
  intro p e s m below meth c A Z hr hnm hA hP hD hS ls hl
  have Z : zC p s m _ meth c prog_14_method_45_code 3 "TraceMachinesModel" G := Z
  obtain ⟨hx, hb, hml, hown, hts, hK, hN, hlocks⟩ := id Z
  have hl : lv_has ls 3 [(0, .ref b0), (1, .int b1), (2, .int b2)] := hl
  refine lv_aload_n hx hb d_Model_has_0 rfl (lv_at hl 0 rfl) ?_
  refine lv_iload_n hx hb d_Model_has_1 rfl (lv_at hl 1 rfl) ?_
  refine lv_iload_n hx hb d_Model_has_2 rfl (lv_at hl 2 rfl) ?_
  refine lv_bipush (v := 64) hx hb d_Model_has_3 (by decide) ?_
  refine lv_idiv hx hb d_Model_has_5 (by decide +kernel) ?_
  refine lv_topi (fun v_1 ev_1 => ?_)
  obtain ⟨qv_1, hv_1⟩ := zI_div (l := 0) (h := 3) (d := 64) hb2 rfl ev_1 (by decide)
  refine lv_iadd hx hb d_Model_has_6 ?_
  refine lv_topi (fun v_2 ev_2 => ?_)
  obtain ⟨qv_2, hv_2⟩ := zI_add (l := 0) (h := 3) hb1 hv_1 ev_2 (by decide)
  refine va_lald hx hb hK hP 0 1 rfl rfl (zI.inn hv_2 (by decide)) d_Model_has_7 ?_
  refine lv_topl (fun v_3 ev_3 => ?_)
  refine lv_iload_n hx hb d_Model_has_8 rfl (lv_at hl 2 rfl) ?_
  refine lv_bipush (v := 64) hx hb d_Model_has_9 (by decide) ?_
  refine lv_irem hx hb d_Model_has_11 (by decide +kernel) ?_
  refine lv_topi (fun v_4 ev_4 => ?_)
  obtain ⟨qv_4, hv_4⟩ := zI_rem (h := 63) (d := 64) hb2 rfl ev_4 (by decide)
  obtain ⟨v_5, ev_5⟩ : ∃ z : Int64, z = ((v_3).toUInt64 >>> ((v_4 : Int32).toInt64.toUInt64 &&& Int64.toUInt64 63)).toInt64 := ⟨_, rfl⟩
  refine lv_lushr (v := v_5) hx hb d_Model_has_12 ev_5.symm ?_
  refine lv_lconst (v := 1) hx hb d_Model_has_13 (by decide) ?_
  refine lv_land hx hb d_Model_has_14 ?_
  refine lv_topl (fun v_6 ev_6 => ?_)
  refine lv_lconst (v := 1) hx hb d_Model_has_15 (by decide) ?_
  refine W.lcmp hx hb d_Model_has_16 ?_
  refine lv_topi (fun v_7 ev_7 => ?_)
  refine lv_if_ne (tgt := 24) hx hb d_Model_has_17 (by decide) (fun hc_8 => ?_) (fun hc_8 => ?_)
  · have ni_9 := hc_8
    rw [ev_7] at ni_9
    simp only [lg_cmp_lt, lg_cmp_le, lg_cmp_gt, lg_cmp_ge, lg_cmp_eq, fa_lt64, fa_le64, fa_eq64, Int32.toInt_toInt64, ll_1] at ni_9
    refine lv_iconst (v := 0) hx hb d_Model_has_24 (by decide) ?_
    exact z_zret hx hb hr hlocks rfl hP hD hS (Nat.le_of_ble_eq_true rfl) (Nat.le_of_ble_eq_true rfl) d_Model_has_25 ⟨0, rfl, rfl, (zI.wk (l' := 0) (h' := 1) zc_0 (by decide))⟩
  · have ni_10 := hc_8
    rw [ev_7] at ni_10
    simp only [lg_cmp_lt, lg_cmp_le, lg_cmp_gt, lg_cmp_ge, lg_cmp_eq, fa_lt64, fa_le64, fa_eq64, Int32.toInt_toInt64, ll_1] at ni_10
    have hv_11 : zJ v_6 1 1 := by have _a := ni_10; have _b := (zJ_all v_6); have _c := zcl_1; simp only [Int32.toInt_toInt64] at *; exact ⟨by omega, by omega⟩
    refine lv_iconst (v := 1) hx hb d_Model_has_20 (by decide) ?_
    refine lv_goto (tgt := 25) hx hb d_Model_has_21 (by decide) ?_
    exact z_zret hx hb hr hlocks rfl hP hD hS (Nat.le_of_ble_eq_true rfl) (Nat.le_of_ble_eq_true rfl) d_Model_has_25 ⟨1, rfl, rfl, (zI.wk (l' := 0) (h' := 1) zc_1 (by decide))⟩
abbrev m_s2_Model_takes : Room := { frames := 1, cells := 0, slots := 0, locals := 22 }
set_option maxHeartbeats 4000000 in
set_option maxRecDepth 100000 in
theorem s2_Model_takes (l : Launch) (G : zG) (b0 : Nat) (b1 : Nat) (b2 : Int32) (b3 : Int32) (b4 : Nat) (b5 : Nat) (b6 : Nat) (b7 : Nat) (b8 : Int32) (b9 : Nat) (b10 : Int32) (b11 : Int32) (b12 : Int32) (b13 : Int32) (b14 : Nat) (b15 : Nat) (b16 : Nat) (b17 : Int32) (b18 : Nat) (b19 : Nat) (b20 : Nat) (b21 : Nat) (b22 : Nat) (b23 : Nat) (b24 : Nat) (b25 : Nat) (b26 : Nat) (b27 : Nat) (b28 : Nat) (b29 : Nat) (b30 : Int32) (b31 : Nat) (b32 : Int32) (b33 : Int32) (b34 : Int32) (b35 : Int32) (b36 : Nat) (b37 : Nat) (b38 : Nat) (b39 : Nat) (b40 : Nat) (b41 : Nat) (b42 : Nat) (b43 : Int32) (b44 : Nat) (b45 : Nat) (b46 : Int32) (b47 : Nat) (b48 : Nat) (b49 : Nat) (b50 : Nat) (b51 : Nat) (b52 : Int32) (b53 : Nat) (b54 : Nat) (b55 : Nat) (b56 : Nat → Int32) (b57 : Nat → Int32) (b58 : Nat → Int64) (hb2 : zI b2 0 0) (hb8 : zI b8 0 8) (hb10 : zI b10 0 240) (hb11 : zI b11 0 240) (hb13 : zI b13 0 1) (hb17 : zI b17 0 12) (hb30 : zI b30 0 1) (hb32 : zI b32 0 1) (hb43 : zI b43 0 1000) (hb46 : zI b46 0 1000) (hb52 : zI b52 0 400) (hb56 : zR b56 0 241) : zM l G y_Model_takes prog_14_method_49_code 6 (Option.some Jvm.ClassFile.FieldType.boolean) m_s2_Model_takes [.ref b0, .int 0, .ref b1, .int b2] [(b0, .inr (12, [.int b3, .ref b4, .ref b5, .ref b6, .ref b7, .int b8, .ref b9, .int b10, .int b11, .int b12, .int b13, .ref b14, .ref b15, .ref b16, .int b17, .ref b18, .ref b19, .ref b20, .ref b21, .ref b22, .ref b23, .ref b24, .ref b25, .ref b26, .ref b27, .ref b28, .ref b29, .int b30, .ref b1, .ref b31, .int b32, .int b33, .int b34, .int b35, .ref b36, .ref b37, .ref b38, .ref b39, .ref b40, .ref b41, .ref b42, .int b43, .ref b44, .ref b45, .int b46, .ref b47, .ref b48, .ref b49, .ref b50, .ref b51, .int b52, .ref b53, .ref b54, .ref b55])), (b24, .inl (G.2 0, 2, .inl b56)), (b27, .inl (G.2 0, 482, .inl b57)), (b1, .inl (G.2 1, 4, .inr (.inl b58)))] (fun v w => ∃ (e0 : Int32), v = some (.int e0) ∧ w = [(b0, .inr (12, [.int b3, .ref b4, .ref b5, .ref b6, .ref b7, .int b8, .ref b9, .int b10, .int b11, .int b12, .int b13, .ref b14, .ref b15, .ref b16, .int b17, .ref b18, .ref b19, .ref b20, .ref b21, .ref b22, .ref b23, .ref b24, .ref b25, .ref b26, .ref b27, .ref b28, .ref b29, .int b30, .ref b1, .ref b31, .int b32, .int b33, .int b34, .int b35, .ref b36, .ref b37, .ref b38, .ref b39, .ref b40, .ref b41, .ref b42, .int b43, .ref b44, .ref b45, .int b46, .ref b47, .ref b48, .ref b49, .ref b50, .ref b51, .int b52, .ref b53, .ref b54, .ref b55])), (b24, .inl (G.2 0, 2, .inl b56)), (b27, .inl (G.2 0, 482, .inl b57)), (b1, .inl (G.2 1, 4, .inr (.inl b58)))] ∧ (zI e0 0 1)) := by
  refine z_start (by decide +kernel) (Nat.le_of_ble_eq_true rfl) ?_
  intro p e s m below meth c A Z hr hnm hA hP hD hS ls hl
  have Z : zC p s m _ meth c prog_14_method_49_code 6 "TraceMachinesModel" G := Z
  obtain ⟨hx, hb, hml, hown, hts, hK, hN, hlocks⟩ := id Z
  have hl : lv_has ls 6 [(0, .ref b0), (1, .int 0), (2, .ref b1), (3, .int b2)] := hl
  refine lv_iconst (v := 0) hx hb d_Model_takes_0 (by decide) ?_
  refine lv_istore (lv' := [(4, .int 0), (0, .ref b0), (1, .int 0), (2, .ref b1), (3, .int b2)]) hx hb d_Model_takes_1 hl (by decide) rfl (fun ls hl => ?_)
  refine lv_iconst (v := 0) hx hb d_Model_takes_3 (by decide) ?_
  refine lv_istore (lv' := [(5, .int 0), (4, .int 0), (0, .ref b0), (1, .int 0), (2, .ref b1), (3, .int b2)]) hx hb d_Model_takes_4 hl (by decide) rfl (fun ls hl => ?_)
  suffices key : ∀ (k_32 : Nat) (y_33 : Int32) (y_34 : Int32) (H : Heap) (locs : List Loc) (ls : Array Slot), (zI y_33 0 241) → (zI y_34 0 1) → (241 : Int) - y_33.toInt < (k_32 : Int) → va_P G.1 classes [(b0, .inr (12, [.int b3, .ref b4, .ref b5, .ref b6, .ref b7, .int b8, .ref b9, .int b10, .int b11, .int b12, .int b13, .ref b14, .ref b15, .ref b16, .int b17, .ref b18, .ref b19, .ref b20, .ref b21, .ref b22, .ref b23, .ref b24, .ref b25, .ref b26, .ref b27, .ref b28, .ref b29, .int b30, .ref b1, .ref b31, .int b32, .int b33, .int b34, .int b35, .ref b36, .ref b37, .ref b38, .ref b39, .ref b40, .ref b41, .ref b42, .int b43, .ref b44, .ref b45, .int b46, .ref b47, .ref b48, .ref b49, .ref b50, .ref b51, .int b52, .ref b53, .ref b54, .ref b55])), (b24, .inl (G.2 0, 2, .inl b56)), (b27, .inl (G.2 0, 482, .inl b57)), (b1, .inl (G.2 1, 4, .inr (.inl b58)))] H → va_D A [(b0, .inr (12, [.int b3, .ref b4, .ref b5, .ref b6, .ref b7, .int b8, .ref b9, .int b10, .int b11, .int b12, .int b13, .ref b14, .ref b15, .ref b16, .int b17, .ref b18, .ref b19, .ref b20, .ref b21, .ref b22, .ref b23, .ref b24, .ref b25, .ref b26, .ref b27, .ref b28, .ref b29, .int b30, .ref b1, .ref b31, .int b32, .int b33, .int b34, .int b35, .ref b36, .ref b37, .ref b38, .ref b39, .ref b40, .ref b41, .ref b42, .int b43, .ref b44, .ref b45, .int b46, .ref b47, .ref b48, .ref b49, .ref b50, .ref b51, .int b52, .ref b53, .ref b54, .ref b55])), (b24, .inl (G.2 0, 2, .inl b56)), (b27, .inl (G.2 0, 482, .inl b57)), (b1, .inl (G.2 1, 4, .inr (.inl b58)))] → va_S A s.heap H locs → lv_has ls 6 [(5, .int y_33), (4, .int y_34), (0, .ref b0), (1, .int 0), (2, .ref b1), (3, .int b2)] → W p l e m_s2_Model_takes s m ([.ref b0, .int 0, .ref b1, .int b2] : List Value).toArray below meth c H locs 0 0 (MQ below (zQ G (fun v w => ∃ (e0 : Int32), v = some (.int e0) ∧ w = [(b0, .inr (12, [.int b3, .ref b4, .ref b5, .ref b6, .ref b7, .int b8, .ref b9, .int b10, .int b11, .int b12, .int b13, .ref b14, .ref b15, .ref b16, .int b17, .ref b18, .ref b19, .ref b20, .ref b21, .ref b22, .ref b23, .ref b24, .ref b25, .ref b26, .ref b27, .ref b28, .ref b29, .int b30, .ref b1, .ref b31, .int b32, .int b33, .int b34, .int b35, .ref b36, .ref b37, .ref b38, .ref b39, .ref b40, .ref b41, .ref b42, .int b43, .ref b44, .ref b45, .int b46, .ref b47, .ref b48, .ref b49, .ref b50, .ref b51, .int b52, .ref b53, .ref b54, .ref b55])), (b24, .inl (G.2 0, 2, .inl b56)), (b27, .inl (G.2 0, 482, .inl b57)), (b1, .inl (G.2 1, 4, .inr (.inl b58)))] ∧ (zI e0 0 1)) A) ([.ref b0, .int 0, .ref b1, .int b2] : List Value).toArray s m_s2_Model_takes.cells m_s2_Model_takes.slots A) (F0 m 6 ls []) by
    exact key 242 (0) (0) _ _ _ (zI.wk (l' := 0) (h' := 241) zc_0 (by decide)) (zI.wk (l' := 0) (h' := 1) zc_0 (by decide)) (zm_upi (zI.wk (l' := 0) (h' := 241) zc_0 (by decide)) (by decide)) hP hD hS (lv_sub hl [0, 1, 2, 3, 4, 5] rfl)
  intro k_32
  induction k_32 with
  | zero =>
    intro y_33 y_34 H locs ls hy_33 hy_34 hmk_32 hP hD hS hl
    exact (zm_up0 hy_33 hmk_32).elim
  | succ k_32 ihk_32 =>
    intro y_33 y_34 H locs ls hy_33 hy_34 hmk_32 hP hD hS hl
    refine lv_iload hx hb d_Model_takes_6 (lv_at hl 0 rfl) ?_
    refine lv_aload_n hx hb d_Model_takes_8 rfl (lv_at hl 2 rfl) ?_
    refine va_get (D := G.1) (ci := 12) (v := .ref b24) (C := R_Model) (T := F_Model) (N := 54) hx hb hts i_Model hown hK hP 0 rfl rfl 21 (by decide) (hts _ q1130) (fun _ h9 => h9) rfl d_Model_takes_9 ?_
    refine lv_iload_n hx hb d_Model_takes_12 rfl (lv_at hl 3 rfl) ?_
    refine va_iald hx hb hK hP 1 0 rfl rfl (i := 0) (z_in rfl) d_Model_takes_13 ?_
    refine lv_topi (fun v_35 ev_35 => ?_)
    have hv_35 : zI v_35 0 241 := (hb56 _).eq ev_35
    refine lv_icmp_ge (tgt := 55) hx hb d_Model_takes_14 (by decide) (fun hc_36 => ?_) (fun hc_36 => ?_)
    · have _nhc_36 := hc_36
      have ni_37 := (fa_le _ _).mp hc_36
      refine lv_iload hx hb d_Model_takes_55 (lv_at hl 1 rfl) ?_
      exact z_zret hx hb hr hlocks (zi_nb hy_34) hP hD hS (Nat.le_of_ble_eq_true rfl) (Nat.le_of_ble_eq_true rfl) d_Model_takes_57 ⟨y_34, rfl, rfl, hy_34⟩
    · have _nhc_36 := hc_36
      have ni_38 := (fa_lt _ _).mp (zi_nle hc_36)
      have hv_39 : zI y_33 0 240 := zI.lt_l hy_33 hv_35 (zi_nle hc_36) (by decide)
      have hv_40 : zI v_35 1 241 := zI.lt_r hy_33 hv_35 (zi_nle hc_36) (by decide)
      refine lv_iload hx hb d_Model_takes_17 (lv_at hl 1 rfl) ?_
      refine lv_if_ne (tgt := 42) hx hb d_Model_takes_19 (by decide) (fun hc_41 => ?_) (fun hc_41 => ?_)
      · have _nhc_41 := hc_41
        have ni_42 : ¬ (y_34 : Int32).toInt = (0 : Int32).toInt := fun z => hc_41 ((fa_eq _ _).mpr z)
        simp only [li_0] at ni_42
        have hv_43 : zI y_34 1 1 := zI.ne_lo hy_34 zc_0 hc_41 (by decide)
        refine lv_iconst (v := 1) hx hb d_Model_takes_42 (by decide) ?_
        refine lv_goto (tgt := 47) hx hb d_Model_takes_43 (by decide) ?_
        refine lv_istore (lv' := [(4, .int 1), (5, .int y_33), (0, .ref b0), (1, .int 0), (2, .ref b1), (3, .int b2)]) hx hb d_Model_takes_47 hl (by decide) rfl (fun ls hl => ?_)
        obtain ⟨v_44, ev_44⟩ : ∃ z : Int32, z = y_33 + 1 := ⟨_, rfl⟩
        obtain ⟨qv_44, hv_44⟩ := zI_add (l := 1) (h := 241) hv_39 zc_1 ev_44 (by decide)
        rw [li_1] at qv_44
        refine lv_iinc (v := v_44) (lv' := [(5, .int v_44), (4, .int 1), (0, .ref b0), (1, .int 0), (2, .ref b1), (3, .int b2)]) hx hb d_Model_takes_49 hl (k := 1) rfl (by rw [ev_44]; rfl) (by decide) rfl (fun ls hl => ?_)
        refine lv_goto (tgt := 6) hx hb d_Model_takes_52 (by decide) ?_
        exact ihk_32 (v_44) (1) _ _ _ (zI.wk (l' := 0) (h' := 241) hv_44 (by decide)) (zI.wk (l' := 0) (h' := 1) zc_1 (by decide)) (zm_up qv_44 hmk_32 (by decide)) hP hD hS (lv_sub hl [0, 1, 2, 3, 4, 5] rfl)
      · have _nhc_41 := hc_41
        have ni_45 := (fa_eq _ _).mp hc_41
        rw [li_0] at ni_45
        have hv_46 : zI y_34 0 0 := zI.eq_l hy_34 zc_0 hc_41
        refine lv_aload_n hx hb d_Model_takes_22 rfl (lv_at hl 4 rfl) ?_
        refine lv_iload_n hx hb d_Model_takes_23 rfl (lv_at hl 5 rfl) ?_
        refine lv_iload hx hb d_Model_takes_24 (lv_at hl 0 rfl) ?_
        refine z_callS (index := 271) (As := [.ref b1, .int b2, .int y_33]) (rest := []) (wr := [(b0, .inr (12, [.int b3, .ref b4, .ref b5, .ref b6, .ref b7, .int b8, .ref b9, .int b10, .int b11, .int b12, .int b13, .ref b14, .ref b15, .ref b16, .int b17, .ref b18, .ref b19, .ref b20, .ref b21, .ref b22, .ref b23, .ref b24, .ref b25, .ref b26, .ref b27, .ref b28, .ref b29, .int b30, .ref b1, .ref b31, .int b32, .int b33, .int b34, .int b35, .ref b36, .ref b37, .ref b38, .ref b39, .ref b40, .ref b41, .ref b42, .int b43, .ref b44, .ref b45, .int b46, .ref b47, .ref b48, .ref b49, .ref b50, .ref b51, .int b52, .ref b53, .ref b54, .ref b55])), (b24, .inl (G.2 0, 2, .inl b56)), (b27, .inl (G.2 0, 482, .inl b57))]) Z (s2_Model_has l G (b1) (b2) (y_33) (b58) hb2 hv_39) hl.1 q1464 q1465 q14 q1466 ⟨by decide, by decide, by show _ = some 3; decide +kernel⟩ ⟨Nat.le_of_ble_eq_true rfl, Nat.le_of_ble_eq_true rfl⟩ ⟨Nat.le_of_ble_eq_true rfl, Nat.le_of_ble_eq_true rfl⟩ rfl (Nat.le_of_ble_eq_true rfl) d_Model_takes_26 hP hD hS hA [3] [0, 1, 2] rfl rfl rfl rfl (by decide) (fun v w1 H locs hw_47 hP hD hS => ?_)
        obtain ⟨x_48, rfl, rfl, hx_48⟩ := hw_47
        have hP : va_P G.1 classes [(b0, .inr (12, [.int b3, .ref b4, .ref b5, .ref b6, .ref b7, .int b8, .ref b9, .int b10, .int b11, .int b12, .int b13, .ref b14, .ref b15, .ref b16, .int b17, .ref b18, .ref b19, .ref b20, .ref b21, .ref b22, .ref b23, .ref b24, .ref b25, .ref b26, .ref b27, .ref b28, .ref b29, .int b30, .ref b1, .ref b31, .int b32, .int b33, .int b34, .int b35, .ref b36, .ref b37, .ref b38, .ref b39, .ref b40, .ref b41, .ref b42, .int b43, .ref b44, .ref b45, .int b46, .ref b47, .ref b48, .ref b49, .ref b50, .ref b51, .int b52, .ref b53, .ref b54, .ref b55])), (b24, .inl (G.2 0, 2, .inl b56)), (b27, .inl (G.2 0, 482, .inl b57)), (b1, .inl (G.2 1, 4, .inr (.inl b58)))] H := hP
        have hD := z_tie hP hD rfl
        refine W.widen (k := 0) (n := 0) (Nat.le_of_ble_eq_true rfl) (Nat.le_of_ble_eq_true rfl) ?_
        refine lv_if_eq (tgt := 46) hx hb d_Model_takes_29 (by decide) (fun hc_49 => ?_) (fun hc_49 => ?_)
        · have _nhc_49 := hc_49
          have ni_50 := (fa_eq _ _).mp hc_49
          rw [li_0] at ni_50
          have hv_51 : zI x_48 0 0 := zI.eq_l hx_48 zc_0 hc_49
          refine lv_iconst (v := 0) hx hb d_Model_takes_46 (by decide) ?_
          refine lv_istore (lv' := [(4, .int 0), (5, .int y_33), (0, .ref b0), (1, .int 0), (2, .ref b1), (3, .int b2)]) hx hb d_Model_takes_47 hl (by decide) rfl (fun ls hl => ?_)
          obtain ⟨v_52, ev_52⟩ : ∃ z : Int32, z = y_33 + 1 := ⟨_, rfl⟩
          obtain ⟨qv_52, hv_52⟩ := zI_add (l := 1) (h := 241) hv_39 zc_1 ev_52 (by decide)
          rw [li_1] at qv_52
          refine lv_iinc (v := v_52) (lv' := [(5, .int v_52), (4, .int 0), (0, .ref b0), (1, .int 0), (2, .ref b1), (3, .int b2)]) hx hb d_Model_takes_49 hl (k := 1) rfl (by rw [ev_52]; rfl) (by decide) rfl (fun ls hl => ?_)
          refine lv_goto (tgt := 6) hx hb d_Model_takes_52 (by decide) ?_
          exact ihk_32 (v_52) (0) _ _ _ (zI.wk (l' := 0) (h' := 241) hv_52 (by decide)) (zI.wk (l' := 0) (h' := 1) zc_0 (by decide)) (zm_up qv_52 hmk_32 (by decide)) hP hD hS (lv_sub hl [0, 1, 2, 3, 4, 5] rfl)
        · have _nhc_49 := hc_49
          have ni_53 : ¬ (x_48 : Int32).toInt = (0 : Int32).toInt := fun z => hc_49 ((fa_eq _ _).mpr z)
          simp only [li_0] at ni_53
          have hv_54 : zI x_48 1 1 := zI.ne_lo hx_48 zc_0 hc_49 (by decide)
          refine lv_aload_n hx hb d_Model_takes_32 rfl (lv_at hl 2 rfl) ?_
          refine lv_iload_n hx hb d_Model_takes_33 rfl (lv_at hl 3 rfl) ?_
          refine lv_iload hx hb d_Model_takes_34 (lv_at hl 0 rfl) ?_
          refine z_callV (index := 256) (As := [.int 0, .int y_33]) (rest := []) (wr := [(b24, .inl (G.2 0, 2, .inl b56)), (b1, .inl (G.2 1, 4, .inr (.inl b58)))]) Z (s2_Model_isFinal l G (b0) (y_33) (b3) (b4) (b5) (b6) (b7) (b8) (b9) (b10) (b11) (b12) (b13) (b14) (b15) (b16) (b17) (b18) (b19) (b20) (b21) (b22) (b23) (b24) (b25) (b26) (b27) (b28) (b29) (b30) (b1) (b31) (b32) (b33) (b34) (b35) (b36) (b37) (b38) (b39) (b40) (b41) (b42) (b43) (b44) (b45) (b46) (b47) (b48) (b49) (b50) (b51) (b52) (b53) (b54) (b55) (b57) hv_39 hb8 hb10 hb11 hb13 hb17 hb30 hb32 hb43 hb46 hb52) hl.1 q1420 q1422 qs70 q14 q1423 ⟨by decide, by decide, by show _ = some 2; decide +kernel⟩ ⟨Nat.le_of_ble_eq_true rfl, Nat.le_of_ble_eq_true rfl⟩ ⟨Nat.le_of_ble_eq_true rfl, Nat.le_of_ble_eq_true rfl⟩ rfl (Nat.le_of_ble_eq_true rfl) d_Model_takes_36 hP hD hS hA 0 12 rfl rfl rfl [0, 2] [1, 3] rfl rfl rfl rfl (by decide) (fun v w1 H locs hw_55 hP hD hS => ?_)
          obtain ⟨x_56, rfl, rfl, hx_56⟩ := hw_55
          have hP : va_P G.1 classes [(b24, .inl (G.2 0, 2, .inl b56)), (b1, .inl (G.2 1, 4, .inr (.inl b58))), (b0, .inr (12, [.int b3, .ref b4, .ref b5, .ref b6, .ref b7, .int b8, .ref b9, .int b10, .int b11, .int b12, .int b13, .ref b14, .ref b15, .ref b16, .int b17, .ref b18, .ref b19, .ref b20, .ref b21, .ref b22, .ref b23, .ref b24, .ref b25, .ref b26, .ref b27, .ref b28, .ref b29, .int b30, .ref b1, .ref b31, .int b32, .int b33, .int b34, .int b35, .ref b36, .ref b37, .ref b38, .ref b39, .ref b40, .ref b41, .ref b42, .int b43, .ref b44, .ref b45, .int b46, .ref b47, .ref b48, .ref b49, .ref b50, .ref b51, .int b52, .ref b53, .ref b54, .ref b55])), (b27, .inl (G.2 0, 482, .inl b57))] H := hP
          have hD := z_tie hP hD rfl
          refine W.widen (k := 0) (n := 0) (Nat.le_of_ble_eq_true rfl) (Nat.le_of_ble_eq_true rfl) ?_
          refine lv_if_eq (tgt := 46) hx hb d_Model_takes_39 (by decide) (fun hc_57 => ?_) (fun hc_57 => ?_)
          · have _nhc_57 := hc_57
            have ni_58 := (fa_eq _ _).mp hc_57
            rw [li_0] at ni_58
            have hv_59 : zI x_56 0 0 := zI.eq_l hx_56 zc_0 hc_57
            refine lv_iconst (v := 0) hx hb d_Model_takes_46 (by decide) ?_
            refine lv_istore (lv' := [(4, .int 0), (5, .int y_33), (0, .ref b0), (1, .int 0), (2, .ref b1), (3, .int b2)]) hx hb d_Model_takes_47 hl (by decide) rfl (fun ls hl => ?_)
            obtain ⟨v_60, ev_60⟩ : ∃ z : Int32, z = y_33 + 1 := ⟨_, rfl⟩
            obtain ⟨qv_60, hv_60⟩ := zI_add (l := 1) (h := 241) hv_39 zc_1 ev_60 (by decide)
            rw [li_1] at qv_60
            refine lv_iinc (v := v_60) (lv' := [(5, .int v_60), (4, .int 0), (0, .ref b0), (1, .int 0), (2, .ref b1), (3, .int b2)]) hx hb d_Model_takes_49 hl (k := 1) rfl (by rw [ev_60]; rfl) (by decide) rfl (fun ls hl => ?_)
            refine lv_goto (tgt := 6) hx hb d_Model_takes_52 (by decide) ?_
            exact ihk_32 (v_60) (0) _ _ _ (zI.wk (l' := 0) (h' := 241) hv_60 (by decide)) (zI.wk (l' := 0) (h' := 1) zc_0 (by decide)) (zm_up qv_60 hmk_32 (by decide)) (hP.sub [2, 0, 3, 1] rfl) (hD.sub [2, 0, 3, 1] (by decide) rfl) hS (lv_sub hl [0, 1, 2, 3, 4, 5] rfl)
          · have _nhc_57 := hc_57
            have ni_61 : ¬ (x_56 : Int32).toInt = (0 : Int32).toInt := fun z => hc_57 ((fa_eq _ _).mpr z)
            simp only [li_0] at ni_61
            have hv_62 : zI x_56 1 1 := zI.ne_lo hx_56 zc_0 hc_57 (by decide)
            refine lv_iconst (v := 1) hx hb d_Model_takes_42 (by decide) ?_
            refine lv_goto (tgt := 47) hx hb d_Model_takes_43 (by decide) ?_
            refine lv_istore (lv' := [(4, .int 1), (5, .int y_33), (0, .ref b0), (1, .int 0), (2, .ref b1), (3, .int b2)]) hx hb d_Model_takes_47 hl (by decide) rfl (fun ls hl => ?_)
            obtain ⟨v_63, ev_63⟩ : ∃ z : Int32, z = y_33 + 1 := ⟨_, rfl⟩
            obtain ⟨qv_63, hv_63⟩ := zI_add (l := 1) (h := 241) hv_39 zc_1 ev_63 (by decide)
            rw [li_1] at qv_63
            refine lv_iinc (v := v_63) (lv' := [(5, .int v_63), (4, .int 1), (0, .ref b0), (1, .int 0), (2, .ref b1), (3, .int b2)]) hx hb d_Model_takes_49 hl (k := 1) rfl (by rw [ev_63]; rfl) (by decide) rfl (fun ls hl => ?_)
            refine lv_goto (tgt := 6) hx hb d_Model_takes_52 (by decide) ?_
            exact ihk_32 (v_63) (1) _ _ _ (zI.wk (l' := 0) (h' := 241) hv_63 (by decide)) (zI.wk (l' := 0) (h' := 1) zc_1 (by decide)) (zm_up qv_63 hmk_32 (by decide)) (hP.sub [2, 0, 3, 1] rfl) (hD.sub [2, 0, 3, 1] (by decide) rfl) hS (lv_sub hl [0, 1, 2, 3, 4, 5] rfl)
theorem d_Model_runs_120 : decode prog_14_method_50_code 120 = .ok (.ireturn, 1) := by decide +kernel
theorem d_Model_step_178 : decode prog_14_method_47_code 178 = .ok (.return_, 1) := by decide +kernel
abbrev m_s2_Model_step : Room := { frames := 1, cells := 0, slots := 0, locals := 25 }
set_option maxHeartbeats 4000000 in
set_option maxRecDepth 100000 in
theorem s2_Model_step (l : Launch) (G : zG) (b0 : Nat) (b1 : Nat) (b2 : Int32) (b3 : Int32) (b4 : Int32) (b5 : Int32) (b6 : Int32) (b7 : Nat) (b8 : Nat) (b9 : Nat) (b10 : Nat) (b11 : Int32) (b12 : Nat) (b13 : Int32) (b14 : Int32) (b15 : Int32) (b16 : Int32) (b17 : Nat) (b18 : Nat) (b19 : Nat) (b20 : Int32) (b21 : Nat) (b22 : Nat) (b23 : Nat) (b24 : Nat) (b25 : Nat) (b26 : Nat) (b27 : Nat) (b28 : Nat) (b29 : Nat) (b30 : Nat) (b31 : Nat) (b32 : Nat) (b33 : Int32) (b34 : Nat) (b35 : Int32) (b36 : Int32) (b37 : Int32) (b38 : Int32) (b39 : Nat) (b40 : Nat) (b41 : Nat) (b42 : Nat) (b43 : Nat) (b44 : Nat) (b45 : Nat) (b46 : Int32) (b47 : Nat) (b48 : Nat) (b49 : Int32) (b50 : Nat) (b51 : Nat) (b52 : Nat) (b53 : Nat) (b54 : Nat) (b55 : Int32) (b56 : Nat) (b57 : Nat) (b58 : Nat) (b59 : Nat → Int32) (b60 : Nat → Int32) (b61 : Nat → Int32) (b62 : Nat → Int64) (b63 : Nat → Int64) (hb2 : zI b2 0 0) (hb3 : zI b3 0 9) (hb5 : zI b5 0 1) (hb11 : zI b11 0 8) (hb13 : zI b13 0 240) (hb14 : zI b14 0 240) (hb16 : zI b16 0 1) (hb20 : zI b20 0 12) (hb33 : zI b33 0 1) (hb35 : zI b35 0 1) (hb46 : zI b46 0 1000) (hb49 : zI b49 0 1000) (hb55 : zI b55 0 400) (hb59 : zW5 b59) (hb60 : zR b60 0 240) (hb61 : zqa qE b61) : zM l G y_Model_step prog_14_method_47_code 11 (Option.none : Option Jvm.ClassFile.FieldType) m_s2_Model_step [.ref b0, .int 0, .ref b1, .int b2, .int b3, .int b4, .int b5] [(b0, .inr (12, [.int b6, .ref b7, .ref b8, .ref b9, .ref b10, .int b11, .ref b12, .int b13, .int b14, .int b15, .int b16, .ref b17, .ref b18, .ref b19, .int b20, .ref b21, .ref b22, .ref b23, .ref b24, .ref b25, .ref b26, .ref b27, .ref b28, .ref b29, .ref b30, .ref b31, .ref b32, .int b33, .ref b1, .ref b34, .int b35, .int b36, .int b37, .int b38, .ref b39, .ref b40, .ref b41, .ref b42, .ref b43, .ref b44, .ref b45, .int b46, .ref b47, .ref b48, .int b49, .ref b50, .ref b51, .ref b52, .ref b53, .ref b54, .int b55, .ref b56, .ref b57, .ref b58])), (b7, .inl (G.2 0, 503, .inl b59)), (b31, .inl (G.2 0, 2, .inl b60)), (b32, .inl (G.2 0, 2880, .inl b61)), (b1, .inl (G.2 1, 4, .inr (.inl b62))), (b34, .inl (G.2 1, 4, .inr (.inl b63)))] (fun v w => ∃ (e0 : Nat → Int64), v = none ∧ w = [(b0, .inr (12, [.int b6, .ref b7, .ref b8, .ref b9, .ref b10, .int b11, .ref b12, .int b13, .int b14, .int b15, .int b16, .ref b17, .ref b18, .ref b19, .int b20, .ref b21, .ref b22, .ref b23, .ref b24, .ref b25, .ref b26, .ref b27, .ref b28, .ref b29, .ref b30, .ref b31, .ref b32, .int b33, .ref b1, .ref b34, .int b35, .int b36, .int b37, .int b38, .ref b39, .ref b40, .ref b41, .ref b42, .ref b43, .ref b44, .ref b45, .int b46, .ref b47, .ref b48, .int b49, .ref b50, .ref b51, .ref b52, .ref b53, .ref b54, .int b55, .ref b56, .ref b57, .ref b58])), (b7, .inl (G.2 0, 503, .inl b59)), (b31, .inl (G.2 0, 2, .inl b60)), (b32, .inl (G.2 0, 2880, .inl b61)), (b1, .inl (G.2 1, 4, .inr (.inl b62))), (b34, .inl (G.2 1, 4, .inr (.inl e0)))]) := by
  refine z_start (by decide +kernel) (Nat.le_of_ble_eq_true rfl) ?_
  intro p e s m below meth c A Z hr hnm hA hP hD hS ls hl
  have Z : zC p s m _ meth c prog_14_method_47_code 11 "TraceMachinesModel" G := Z
  obtain ⟨hx, hb, hml, hown, hts, hK, hN, hlocks⟩ := id Z
  have hl : lv_has ls 11 [(0, .ref b0), (1, .int 0), (2, .ref b1), (3, .int b2), (4, .int b3), (5, .int b4), (6, .int b5)] := hl
  refine lv_iconst (v := 0) hx hb d_Model_step_0 (by decide) ?_
  refine lv_istore (lv' := [(7, .int 0), (0, .ref b0), (1, .int 0), (2, .ref b1), (3, .int b2), (4, .int b3), (5, .int b4), (6, .int b5)]) hx hb d_Model_step_1 hl (by decide) rfl (fun ls hl => ?_)
  suffices key : ∀ (k_197 : Nat) (y_198 : Int32) (y_199 : Nat → Int64) (H : Heap) (locs : List Loc) (ls : Array Slot), (zI y_198 0 4) → (4 : Int) - y_198.toInt < (k_197 : Int) → va_P G.1 classes [(b0, .inr (12, [.int b6, .ref b7, .ref b8, .ref b9, .ref b10, .int b11, .ref b12, .int b13, .int b14, .int b15, .int b16, .ref b17, .ref b18, .ref b19, .int b20, .ref b21, .ref b22, .ref b23, .ref b24, .ref b25, .ref b26, .ref b27, .ref b28, .ref b29, .ref b30, .ref b31, .ref b32, .int b33, .ref b1, .ref b34, .int b35, .int b36, .int b37, .int b38, .ref b39, .ref b40, .ref b41, .ref b42, .ref b43, .ref b44, .ref b45, .int b46, .ref b47, .ref b48, .int b49, .ref b50, .ref b51, .ref b52, .ref b53, .ref b54, .int b55, .ref b56, .ref b57, .ref b58])), (b7, .inl (G.2 0, 503, .inl b59)), (b31, .inl (G.2 0, 2, .inl b60)), (b32, .inl (G.2 0, 2880, .inl b61)), (b1, .inl (G.2 1, 4, .inr (.inl b62))), (b34, .inl (G.2 1, 4, .inr (.inl y_199)))] H → va_D A [(b0, .inr (12, [.int b6, .ref b7, .ref b8, .ref b9, .ref b10, .int b11, .ref b12, .int b13, .int b14, .int b15, .int b16, .ref b17, .ref b18, .ref b19, .int b20, .ref b21, .ref b22, .ref b23, .ref b24, .ref b25, .ref b26, .ref b27, .ref b28, .ref b29, .ref b30, .ref b31, .ref b32, .int b33, .ref b1, .ref b34, .int b35, .int b36, .int b37, .int b38, .ref b39, .ref b40, .ref b41, .ref b42, .ref b43, .ref b44, .ref b45, .int b46, .ref b47, .ref b48, .int b49, .ref b50, .ref b51, .ref b52, .ref b53, .ref b54, .int b55, .ref b56, .ref b57, .ref b58])), (b7, .inl (G.2 0, 503, .inl b59)), (b31, .inl (G.2 0, 2, .inl b60)), (b32, .inl (G.2 0, 2880, .inl b61)), (b1, .inl (G.2 1, 4, .inr (.inl b62))), (b34, .inl (G.2 1, 4, .inr (.inl y_199)))] → va_S A s.heap H locs → lv_has ls 11 [(7, .int y_198), (0, .ref b0), (1, .int 0), (2, .ref b1), (3, .int b2), (4, .int b3), (5, .int b4), (6, .int b5)] → W p l e m_s2_Model_step s m ([.ref b0, .int 0, .ref b1, .int b2, .int b3, .int b4, .int b5] : List Value).toArray below meth c H locs 0 0 (MQ below (zQ G (fun v w => ∃ (e0 : Nat → Int64), v = none ∧ w = [(b0, .inr (12, [.int b6, .ref b7, .ref b8, .ref b9, .ref b10, .int b11, .ref b12, .int b13, .int b14, .int b15, .int b16, .ref b17, .ref b18, .ref b19, .int b20, .ref b21, .ref b22, .ref b23, .ref b24, .ref b25, .ref b26, .ref b27, .ref b28, .ref b29, .ref b30, .ref b31, .ref b32, .int b33, .ref b1, .ref b34, .int b35, .int b36, .int b37, .int b38, .ref b39, .ref b40, .ref b41, .ref b42, .ref b43, .ref b44, .ref b45, .int b46, .ref b47, .ref b48, .int b49, .ref b50, .ref b51, .ref b52, .ref b53, .ref b54, .int b55, .ref b56, .ref b57, .ref b58])), (b7, .inl (G.2 0, 503, .inl b59)), (b31, .inl (G.2 0, 2, .inl b60)), (b32, .inl (G.2 0, 2880, .inl b61)), (b1, .inl (G.2 1, 4, .inr (.inl b62))), (b34, .inl (G.2 1, 4, .inr (.inl e0)))]) A) ([.ref b0, .int 0, .ref b1, .int b2, .int b3, .int b4, .int b5] : List Value).toArray s m_s2_Model_step.cells m_s2_Model_step.slots A) (F0 m 3 ls []) by
    exact key 5 (0) (b63) _ _ _ (zI.wk (l' := 0) (h' := 4) zc_0 (by decide)) (zm_upi (zI.wk (l' := 0) (h' := 4) zc_0 (by decide)) (by decide)) hP hD hS (lv_sub hl [0, 1, 2, 3, 4, 5, 6, 7] rfl)
  intro k_197
  induction k_197 with
  | zero =>
    intro y_198 y_199 H locs ls hy_198 hmk_197 hP hD hS hl
    exact (zm_up0 hy_198 hmk_197).elim
  | succ k_197 ihk_197 =>
    intro y_198 y_199 H locs ls hy_198 hmk_197 hP hD hS hl
    refine lv_iload hx hb d_Model_step_3 (lv_at hl 0 rfl) ?_
    refine lv_iconst (v := 4) hx hb d_Model_step_5 (by decide) ?_
    refine lv_icmp_ge (tgt := 23) hx hb d_Model_step_6 (by decide) (fun hc_200 => ?_) (fun hc_200 => ?_)
    · have _nhc_200 := hc_200
      have ni_201 := (fa_le _ _).mp hc_200
      rw [li_4] at ni_201
      have hv_202 : zI y_198 4 4 := zI.le_r zc_4 hy_198 hc_200 (by decide)
      refine lv_aload_n hx hb d_Model_step_23 rfl (lv_at hl 1 rfl) ?_
      refine va_get (D := G.1) (ci := 12) (v := .ref b7) (C := R_Model) (T := F_Model) (N := 54) hx hb hts i_Model hown hK hP 0 rfl rfl 1 (by decide) (hts _ q1110) (fun _ h9 => h9) rfl d_Model_step_24 ?_
      refine lv_sipush (v := 502) hx hb d_Model_step_27 (by decide) ?_
      refine va_iald hx hb hK hP 1 0 rfl rfl (i := 502) (z_in rfl) d_Model_step_30 ?_
      refine lv_topi (fun v_203 ev_203 => ?_)
      have hv_203 : zI v_203 0 20 := zW5.ld hb59 zc_502 ev_203 (by decide)
      refine lv_istore (lv' := [(7, .int v_203), (0, .ref b0), (1, .int 0), (2, .ref b1), (3, .int b2), (4, .int b3), (5, .int b4), (6, .int b5)]) hx hb d_Model_step_31 hl (by decide) rfl (fun ls hl => ?_)
      refine lv_iconst (v := 0) hx hb d_Model_step_33 (by decide) ?_
      refine lv_istore (lv' := [(8, .int 0), (7, .int v_203), (0, .ref b0), (1, .int 0), (2, .ref b1), (3, .int b2), (4, .int b3), (5, .int b4), (6, .int b5)]) hx hb d_Model_step_34 hl (by decide) rfl (fun ls hl => ?_)
      suffices key : ∀ (k_297 : Nat) (y_298 : Int32) (y_299 : Nat → Int64) (H : Heap) (locs : List Loc) (ls : Array Slot), (zI y_298 0 240) → (240 : Int) - y_298.toInt < (k_297 : Int) → va_P G.1 classes [(b0, .inr (12, [.int b6, .ref b7, .ref b8, .ref b9, .ref b10, .int b11, .ref b12, .int b13, .int b14, .int b15, .int b16, .ref b17, .ref b18, .ref b19, .int b20, .ref b21, .ref b22, .ref b23, .ref b24, .ref b25, .ref b26, .ref b27, .ref b28, .ref b29, .ref b30, .ref b31, .ref b32, .int b33, .ref b1, .ref b34, .int b35, .int b36, .int b37, .int b38, .ref b39, .ref b40, .ref b41, .ref b42, .ref b43, .ref b44, .ref b45, .int b46, .ref b47, .ref b48, .int b49, .ref b50, .ref b51, .ref b52, .ref b53, .ref b54, .int b55, .ref b56, .ref b57, .ref b58])), (b7, .inl (G.2 0, 503, .inl b59)), (b31, .inl (G.2 0, 2, .inl b60)), (b32, .inl (G.2 0, 2880, .inl b61)), (b1, .inl (G.2 1, 4, .inr (.inl b62))), (b34, .inl (G.2 1, 4, .inr (.inl y_299)))] H → va_D A [(b0, .inr (12, [.int b6, .ref b7, .ref b8, .ref b9, .ref b10, .int b11, .ref b12, .int b13, .int b14, .int b15, .int b16, .ref b17, .ref b18, .ref b19, .int b20, .ref b21, .ref b22, .ref b23, .ref b24, .ref b25, .ref b26, .ref b27, .ref b28, .ref b29, .ref b30, .ref b31, .ref b32, .int b33, .ref b1, .ref b34, .int b35, .int b36, .int b37, .int b38, .ref b39, .ref b40, .ref b41, .ref b42, .ref b43, .ref b44, .ref b45, .int b46, .ref b47, .ref b48, .int b49, .ref b50, .ref b51, .ref b52, .ref b53, .ref b54, .int b55, .ref b56, .ref b57, .ref b58])), (b7, .inl (G.2 0, 503, .inl b59)), (b31, .inl (G.2 0, 2, .inl b60)), (b32, .inl (G.2 0, 2880, .inl b61)), (b1, .inl (G.2 1, 4, .inr (.inl b62))), (b34, .inl (G.2 1, 4, .inr (.inl y_299)))] → va_S A s.heap H locs → lv_has ls 11 [(8, .int y_298), (7, .int v_203), (0, .ref b0), (1, .int 0), (2, .ref b1), (3, .int b2), (4, .int b3), (5, .int b4), (6, .int b5)] → W p l e m_s2_Model_step s m ([.ref b0, .int 0, .ref b1, .int b2, .int b3, .int b4, .int b5] : List Value).toArray below meth c H locs 0 0 (MQ below (zQ G (fun v w => ∃ (e0 : Nat → Int64), v = none ∧ w = [(b0, .inr (12, [.int b6, .ref b7, .ref b8, .ref b9, .ref b10, .int b11, .ref b12, .int b13, .int b14, .int b15, .int b16, .ref b17, .ref b18, .ref b19, .int b20, .ref b21, .ref b22, .ref b23, .ref b24, .ref b25, .ref b26, .ref b27, .ref b28, .ref b29, .ref b30, .ref b31, .ref b32, .int b33, .ref b1, .ref b34, .int b35, .int b36, .int b37, .int b38, .ref b39, .ref b40, .ref b41, .ref b42, .ref b43, .ref b44, .ref b45, .int b46, .ref b47, .ref b48, .int b49, .ref b50, .ref b51, .ref b52, .ref b53, .ref b54, .int b55, .ref b56, .ref b57, .ref b58])), (b7, .inl (G.2 0, 503, .inl b59)), (b31, .inl (G.2 0, 2, .inl b60)), (b32, .inl (G.2 0, 2880, .inl b61)), (b1, .inl (G.2 1, 4, .inr (.inl b62))), (b34, .inl (G.2 1, 4, .inr (.inl e0)))]) A) ([.ref b0, .int 0, .ref b1, .int b2, .int b3, .int b4, .int b5] : List Value).toArray s m_s2_Model_step.cells m_s2_Model_step.slots A) (F0 m 36 ls []) by
        exact key 241 (0) (y_199) _ _ _ (zI.wk (l' := 0) (h' := 240) zc_0 (by decide)) (zm_upi (zI.wk (l' := 0) (h' := 240) zc_0 (by decide)) (by decide)) hP hD hS (lv_sub hl [0, 1, 2, 3, 4, 5, 6, 7, 8] rfl)
      intro k_297
      induction k_297 with
      | zero =>
        intro y_298 y_299 H locs ls hy_298 hmk_297 hP hD hS hl
        exact (zm_up0 hy_298 hmk_297).elim
      | succ k_297 ihk_297 =>
        intro y_298 y_299 H locs ls hy_298 hmk_297 hP hD hS hl
        refine lv_iload hx hb d_Model_step_36 (lv_at hl 0 rfl) ?_
        refine lv_aload_n hx hb d_Model_step_38 rfl (lv_at hl 2 rfl) ?_
        refine va_get (D := G.1) (ci := 12) (v := .ref b31) (C := R_Model) (T := F_Model) (N := 54) hx hb hts i_Model hown hK hP 0 rfl rfl 25 (by decide) (hts _ q1134) (fun _ h9 => h9) rfl d_Model_step_39 ?_
        refine lv_iload_n hx hb d_Model_step_42 rfl (lv_at hl 3 rfl) ?_
        refine va_iald hx hb hK hP 2 0 rfl rfl (i := 0) (z_in rfl) d_Model_step_43 ?_
        refine lv_topi (fun v_300 ev_300 => ?_)
        have hv_300 : zI v_300 0 240 := (hb60 _).eq ev_300
        refine lv_icmp_ge (tgt := 178) hx hb d_Model_step_44 (by decide) (fun hc_301 => ?_) (fun hc_301 => ?_)
        · have _nhc_301 := hc_301
          have ni_302 := (fa_le _ _).mp hc_301
          exact z_vret hx hb hr hlocks hP hD hS (Nat.le_of_ble_eq_true rfl) (Nat.le_of_ble_eq_true rfl) d_Model_step_178 ⟨y_299, rfl, rfl⟩
        · have _nhc_301 := hc_301
          have ni_303 := (fa_lt _ _).mp (zi_nle hc_301)
          have hv_304 : zI y_298 0 239 := zI.lt_l hy_298 hv_300 (zi_nle hc_301) (by decide)
          have hv_305 : zI v_300 1 240 := zI.lt_r hy_298 hv_300 (zi_nle hc_301) (by decide)
          refine lv_aload_n hx hb d_Model_step_47 rfl (lv_at hl 2 rfl) ?_
          refine lv_iload_n hx hb d_Model_step_48 rfl (lv_at hl 3 rfl) ?_
          refine lv_iload hx hb d_Model_step_49 (lv_at hl 0 rfl) ?_
          refine lv_iconst (v := 1) hx hb d_Model_step_51 (by decide) ?_
          refine z_callV (index := 225) (As := [.int 0, .int y_298, .int 1]) (rest := []) (wr := [(b7, .inl (G.2 0, 503, .inl b59)), (b31, .inl (G.2 0, 2, .inl b60)), (b1, .inl (G.2 1, 4, .inr (.inl b62))), (b34, .inl (G.2 1, 4, .inr (.inl y_299)))]) Z (s5_Model_edgeAt l G (b0) (y_298) (b6) (b7) (b8) (b9) (b10) (b11) (b12) (b13) (b14) (b15) (b16) (b17) (b18) (b19) (b20) (b21) (b22) (b23) (b24) (b25) (b26) (b27) (b28) (b29) (b30) (b31) (b32) (b33) (b1) (b34) (b35) (b36) (b37) (b38) (b39) (b40) (b41) (b42) (b43) (b44) (b45) (b46) (b47) (b48) (b49) (b50) (b51) (b52) (b53) (b54) (b55) (b56) (b57) (b58) (b61) (zI.wk (l' := 0) (h' := 240) hv_304 (by decide)) hb11 hb13 hb14 hb16 hb20 hb33 hb35 hb46 hb49 hb55 hb61) hl.1 q1408 q1410 qs68 q14 q1411 ⟨by decide, by decide, by show _ = some 3; decide +kernel⟩ ⟨Nat.le_of_ble_eq_true rfl, Nat.le_of_ble_eq_true rfl⟩ ⟨Nat.le_of_ble_eq_true rfl, Nat.le_of_ble_eq_true rfl⟩ rfl (Nat.le_of_ble_eq_true rfl) d_Model_step_52 hP hD hS hA 0 12 rfl rfl rfl [0, 3] [1, 2, 4, 5] rfl rfl rfl rfl (by decide) (fun v w1 H locs hw_306 hP hD hS => ?_)
          obtain ⟨x_307, rfl, rfl, hx_307, hfx_308⟩ := hw_306
          have hP : va_P G.1 classes [(b7, .inl (G.2 0, 503, .inl b59)), (b31, .inl (G.2 0, 2, .inl b60)), (b1, .inl (G.2 1, 4, .inr (.inl b62))), (b34, .inl (G.2 1, 4, .inr (.inl y_299))), (b0, .inr (12, [.int b6, .ref b7, .ref b8, .ref b9, .ref b10, .int b11, .ref b12, .int b13, .int b14, .int b15, .int b16, .ref b17, .ref b18, .ref b19, .int b20, .ref b21, .ref b22, .ref b23, .ref b24, .ref b25, .ref b26, .ref b27, .ref b28, .ref b29, .ref b30, .ref b31, .ref b32, .int b33, .ref b1, .ref b34, .int b35, .int b36, .int b37, .int b38, .ref b39, .ref b40, .ref b41, .ref b42, .ref b43, .ref b44, .ref b45, .int b46, .ref b47, .ref b48, .int b49, .ref b50, .ref b51, .ref b52, .ref b53, .ref b54, .int b55, .ref b56, .ref b57, .ref b58])), (b32, .inl (G.2 0, 2880, .inl b61))] H := hP
          have hD := z_tie hP hD rfl
          refine W.widen (k := 0) (n := 0) (Nat.le_of_ble_eq_true rfl) (Nat.le_of_ble_eq_true rfl) ?_
          refine lv_iload hx hb d_Model_step_55 (lv_at hl 6 rfl) ?_
          refine lv_icmp_ne (tgt := 80) hx hb d_Model_step_57 (by decide) (fun hc_309 => ?_) (fun hc_309 => ?_)
          · have _nhc_309 := hc_309
            have ni_310 : ¬ (x_307 : Int32).toInt = (b3 : Int32).toInt := fun z => hc_309 ((fa_eq _ _).mpr z)
            refine lv_iconst (v := 0) hx hb d_Model_step_80 (by decide) ?_
            refine lv_istore (lv' := [(9, .int 0), (8, .int y_298), (7, .int v_203), (0, .ref b0), (1, .int 0), (2, .ref b1), (3, .int b2), (4, .int b3), (5, .int b4), (6, .int b5)]) hx hb d_Model_step_81 hl (by decide) rfl (fun ls hl => ?_)
            refine lv_iload hx hb d_Model_step_83 (lv_at hl 0 rfl) ?_
            refine lv_if_eq (tgt := 130) hx hb d_Model_step_85 (by decide) (fun _ => ?_) (fun hc => absurd hc (by decide +kernel))
            refine lv_iconst (v := 0) hx hb d_Model_step_130 (by decide) ?_
            refine lv_istore (lv' := [(9, .int 0), (8, .int y_298), (7, .int v_203), (0, .ref b0), (1, .int 0), (2, .ref b1), (3, .int b2), (4, .int b3), (5, .int b4), (6, .int b5)]) hx hb d_Model_step_131 hl (by decide) rfl (fun ls hl => ?_)
            refine lv_aload_n hx hb d_Model_step_133 rfl (lv_at hl 3 rfl) ?_
            refine lv_iload_n hx hb d_Model_step_134 rfl (lv_at hl 4 rfl) ?_
            refine lv_iload hx hb d_Model_step_135 (lv_at hl 1 rfl) ?_
            refine lv_iconst (v := 2) hx hb d_Model_step_137 (by decide) ?_
            refine z_callV (index := 225) (As := [.int 0, .int y_298, .int 2]) (rest := []) (wr := [(b7, .inl (G.2 0, 503, .inl b59)), (b31, .inl (G.2 0, 2, .inl b60)), (b1, .inl (G.2 1, 4, .inr (.inl b62))), (b34, .inl (G.2 1, 4, .inr (.inl y_299)))]) Z (s6_Model_edgeAt l G (b0) (y_298) (b6) (b7) (b8) (b9) (b10) (b11) (b12) (b13) (b14) (b15) (b16) (b17) (b18) (b19) (b20) (b21) (b22) (b23) (b24) (b25) (b26) (b27) (b28) (b29) (b30) (b31) (b32) (b33) (b1) (b34) (b35) (b36) (b37) (b38) (b39) (b40) (b41) (b42) (b43) (b44) (b45) (b46) (b47) (b48) (b49) (b50) (b51) (b52) (b53) (b54) (b55) (b56) (b57) (b58) (b61) (zI.wk (l' := 0) (h' := 240) hv_304 (by decide)) hb11 hb13 hb14 hb16 hb20 hb33 hb35 hb46 hb49 hb55 hb61) hl.1 q1408 q1410 qs68 q14 q1411 ⟨by decide, by decide, by show _ = some 3; decide +kernel⟩ ⟨Nat.le_of_ble_eq_true rfl, Nat.le_of_ble_eq_true rfl⟩ ⟨Nat.le_of_ble_eq_true rfl, Nat.le_of_ble_eq_true rfl⟩ rfl (Nat.le_of_ble_eq_true rfl) d_Model_step_138 hP hD hS hA 4 12 rfl rfl rfl [4, 5] [0, 1, 2, 3] rfl rfl rfl rfl (by decide) (fun v w1 H locs hw_311 hP hD hS => ?_)
            obtain ⟨x_312, rfl, rfl, hx_312, hfx_313⟩ := hw_311
            have hP : va_P G.1 classes [(b7, .inl (G.2 0, 503, .inl b59)), (b31, .inl (G.2 0, 2, .inl b60)), (b1, .inl (G.2 1, 4, .inr (.inl b62))), (b34, .inl (G.2 1, 4, .inr (.inl y_299))), (b0, .inr (12, [.int b6, .ref b7, .ref b8, .ref b9, .ref b10, .int b11, .ref b12, .int b13, .int b14, .int b15, .int b16, .ref b17, .ref b18, .ref b19, .int b20, .ref b21, .ref b22, .ref b23, .ref b24, .ref b25, .ref b26, .ref b27, .ref b28, .ref b29, .ref b30, .ref b31, .ref b32, .int b33, .ref b1, .ref b34, .int b35, .int b36, .int b37, .int b38, .ref b39, .ref b40, .ref b41, .ref b42, .ref b43, .ref b44, .ref b45, .int b46, .ref b47, .ref b48, .int b49, .ref b50, .ref b51, .ref b52, .ref b53, .ref b54, .int b55, .ref b56, .ref b57, .ref b58])), (b32, .inl (G.2 0, 2880, .inl b61))] H := hP
            have hD := z_tie hP hD rfl
            refine W.widen (k := 0) (n := 0) (Nat.le_of_ble_eq_true rfl) (Nat.le_of_ble_eq_true rfl) ?_
            refine lv_istore (lv' := [(10, .int x_312), (9, .int 0), (8, .int y_298), (7, .int v_203), (0, .ref b0), (1, .int 0), (2, .ref b1), (3, .int b2), (4, .int b3), (5, .int b4), (6, .int b5)]) hx hb d_Model_step_141 hl (by decide) rfl (fun ls hl => ?_)
            refine lv_aload_n hx hb d_Model_step_143 rfl (lv_at hl 4 rfl) ?_
            refine va_get (D := G.1) (ci := 12) (v := .ref b34) (C := R_Model) (T := F_Model) (N := 54) hx hb hts i_Model hown hK hP 4 rfl rfl 29 (by decide) (hts _ q1138) (fun _ h9 => h9) rfl d_Model_step_144 ?_
            refine lv_iload hx hb d_Model_step_147 (lv_at hl 0 rfl) ?_
            refine lv_bipush (v := 64) hx hb d_Model_step_149 (by decide) ?_
            refine lv_idiv hx hb d_Model_step_151 (by decide +kernel) ?_
            refine lv_topi (fun v_314 ev_314 => ?_)
            obtain ⟨qv_314, hv_314⟩ := zI_div (l := 0) (h := 3) (d := 64) hx_312 rfl ev_314 (by decide)
            refine lv_dup2_11 hx hb d_Model_step_152 rfl rfl ?_
            refine va_lald hx hb hK hP 3 1 rfl rfl (zI.inn hv_314 (by decide)) d_Model_step_153 ?_
            refine lv_topl (fun v_315 ev_315 => ?_)
            refine lv_iload hx hb d_Model_step_154 (lv_at hl 1 rfl) ?_
            refine lv_if_eq (tgt := 169) hx hb d_Model_step_156 (by decide) (fun _ => ?_) (fun hc => absurd hc (by decide +kernel))
            refine lv_lconst (v := 0) hx hb d_Model_step_169 (by decide) ?_
            refine lv_lor hx hb d_Model_step_170 ?_
            refine lv_topl (fun v_316 ev_316 => ?_)
            refine va_last hx hb hK hP hD hS 3 1 rfl rfl (zI.inn hv_314 (by decide)) d_Model_step_171 (fun H locs hP hD hS => ?_)
            obtain ⟨f_317, hP, hD⟩ := z_newL 3 hP hD rfl
            have hP : va_P G.1 classes [(b7, .inl (G.2 0, 503, .inl b59)), (b31, .inl (G.2 0, 2, .inl b60)), (b1, .inl (G.2 1, 4, .inr (.inl b62))), (b34, .inl (G.2 1, 4, .inr (.inl f_317))), (b0, .inr (12, [.int b6, .ref b7, .ref b8, .ref b9, .ref b10, .int b11, .ref b12, .int b13, .int b14, .int b15, .int b16, .ref b17, .ref b18, .ref b19, .int b20, .ref b21, .ref b22, .ref b23, .ref b24, .ref b25, .ref b26, .ref b27, .ref b28, .ref b29, .ref b30, .ref b31, .ref b32, .int b33, .ref b1, .ref b34, .int b35, .int b36, .int b37, .int b38, .ref b39, .ref b40, .ref b41, .ref b42, .ref b43, .ref b44, .ref b45, .int b46, .ref b47, .ref b48, .int b49, .ref b50, .ref b51, .ref b52, .ref b53, .ref b54, .int b55, .ref b56, .ref b57, .ref b58])), (b32, .inl (G.2 0, 2880, .inl b61))] H := hP
            have hD := z_tie hP hD rfl
            obtain ⟨v_318, ev_318⟩ : ∃ z : Int32, z = y_298 + 1 := ⟨_, rfl⟩
            obtain ⟨qv_318, hv_318⟩ := zI_add (l := 1) (h := 240) hv_304 zc_1 ev_318 (by decide)
            rw [li_1] at qv_318
            refine lv_iinc (v := v_318) (lv' := [(8, .int v_318), (10, .int x_312), (9, .int 0), (7, .int v_203), (0, .ref b0), (1, .int 0), (2, .ref b1), (3, .int b2), (4, .int b3), (5, .int b4), (6, .int b5)]) hx hb d_Model_step_172 hl (k := 2) rfl (by rw [ev_318]; rfl) (by decide) rfl (fun ls hl => ?_)
            refine lv_goto (tgt := 36) hx hb d_Model_step_175 (by decide) ?_
            exact ihk_297 (v_318) (f_317) _ _ _ (zI.wk (l' := 0) (h' := 240) hv_318 (by decide)) (zm_up qv_318 hmk_297 (by decide)) (hP.sub [4, 0, 1, 5, 2, 3] rfl) (hD.sub [4, 0, 1, 5, 2, 3] (by decide) rfl) hS (lv_sub hl [0, 3, 4, 5, 6, 7, 8, 9, 10] rfl)
          · have _nhc_309 := hc_309
            have ni_319 := (fa_eq _ _).mp hc_309
            refine lv_aload_n hx hb d_Model_step_60 rfl (lv_at hl 4 rfl) ?_
            refine lv_iload_n hx hb d_Model_step_61 rfl (lv_at hl 5 rfl) ?_
            refine lv_aload_n hx hb d_Model_step_62 rfl (lv_at hl 2 rfl) ?_
            refine lv_iload_n hx hb d_Model_step_63 rfl (lv_at hl 3 rfl) ?_
            refine lv_iload hx hb d_Model_step_64 (lv_at hl 0 rfl) ?_
            refine lv_iconst (v := 0) hx hb d_Model_step_66 (by decide) ?_
            refine z_callV (index := 225) (As := [.int 0, .int y_298, .int 0]) (rest := [.int b2, .ref b1]) (wr := [(b7, .inl (G.2 0, 503, .inl b59)), (b31, .inl (G.2 0, 2, .inl b60)), (b1, .inl (G.2 1, 4, .inr (.inl b62))), (b34, .inl (G.2 1, 4, .inr (.inl y_299)))]) Z (s4_Model_edgeAt l G (b0) (y_298) (b6) (b7) (b8) (b9) (b10) (b11) (b12) (b13) (b14) (b15) (b16) (b17) (b18) (b19) (b20) (b21) (b22) (b23) (b24) (b25) (b26) (b27) (b28) (b29) (b30) (b31) (b32) (b33) (b1) (b34) (b35) (b36) (b37) (b38) (b39) (b40) (b41) (b42) (b43) (b44) (b45) (b46) (b47) (b48) (b49) (b50) (b51) (b52) (b53) (b54) (b55) (b56) (b57) (b58) (b61) (zI.wk (l' := 0) (h' := 240) hv_304 (by decide)) hb11 hb13 hb14 hb16 hb20 hb33 hb35 hb46 hb49 hb55 hb61) hl.1 q1408 q1410 qs68 q14 q1411 ⟨by decide, by decide, by show _ = some 3; decide +kernel⟩ ⟨Nat.le_of_ble_eq_true rfl, Nat.le_of_ble_eq_true rfl⟩ ⟨Nat.le_of_ble_eq_true rfl, Nat.le_of_ble_eq_true rfl⟩ rfl (Nat.le_of_ble_eq_true rfl) d_Model_step_67 hP hD hS hA 4 12 rfl rfl rfl [4, 5] [0, 1, 2, 3] rfl rfl rfl rfl (by decide) (fun v w1 H locs hw_320 hP hD hS => ?_)
            obtain ⟨x_321, rfl, rfl, hx_321, hfx_322⟩ := hw_320
            have hP : va_P G.1 classes [(b7, .inl (G.2 0, 503, .inl b59)), (b31, .inl (G.2 0, 2, .inl b60)), (b1, .inl (G.2 1, 4, .inr (.inl b62))), (b34, .inl (G.2 1, 4, .inr (.inl y_299))), (b0, .inr (12, [.int b6, .ref b7, .ref b8, .ref b9, .ref b10, .int b11, .ref b12, .int b13, .int b14, .int b15, .int b16, .ref b17, .ref b18, .ref b19, .int b20, .ref b21, .ref b22, .ref b23, .ref b24, .ref b25, .ref b26, .ref b27, .ref b28, .ref b29, .ref b30, .ref b31, .ref b32, .int b33, .ref b1, .ref b34, .int b35, .int b36, .int b37, .int b38, .ref b39, .ref b40, .ref b41, .ref b42, .ref b43, .ref b44, .ref b45, .int b46, .ref b47, .ref b48, .int b49, .ref b50, .ref b51, .ref b52, .ref b53, .ref b54, .int b55, .ref b56, .ref b57, .ref b58])), (b32, .inl (G.2 0, 2880, .inl b61))] H := hP
            have hD := z_tie hP hD rfl
            refine W.widen (k := 0) (n := 0) (Nat.le_of_ble_eq_true rfl) (Nat.le_of_ble_eq_true rfl) ?_
            refine z_callS (index := 271) (As := [.ref b1, .int b2, .int x_321]) (rest := []) (wr := [(b7, .inl (G.2 0, 503, .inl b59)), (b31, .inl (G.2 0, 2, .inl b60)), (b34, .inl (G.2 1, 4, .inr (.inl y_299))), (b0, .inr (12, [.int b6, .ref b7, .ref b8, .ref b9, .ref b10, .int b11, .ref b12, .int b13, .int b14, .int b15, .int b16, .ref b17, .ref b18, .ref b19, .int b20, .ref b21, .ref b22, .ref b23, .ref b24, .ref b25, .ref b26, .ref b27, .ref b28, .ref b29, .ref b30, .ref b31, .ref b32, .int b33, .ref b1, .ref b34, .int b35, .int b36, .int b37, .int b38, .ref b39, .ref b40, .ref b41, .ref b42, .ref b43, .ref b44, .ref b45, .int b46, .ref b47, .ref b48, .int b49, .ref b50, .ref b51, .ref b52, .ref b53, .ref b54, .int b55, .ref b56, .ref b57, .ref b58])), (b32, .inl (G.2 0, 2880, .inl b61))]) Z (s2_Model_has l G (b1) (b2) (x_321) (b62) hb2 hx_321) hl.1 q1464 q1465 q14 q1466 ⟨by decide, by decide, by show _ = some 3; decide +kernel⟩ ⟨Nat.le_of_ble_eq_true rfl, Nat.le_of_ble_eq_true rfl⟩ ⟨Nat.le_of_ble_eq_true rfl, Nat.le_of_ble_eq_true rfl⟩ rfl (Nat.le_of_ble_eq_true rfl) d_Model_step_70 hP hD hS hA [2] [0, 1, 3, 4, 5] rfl rfl rfl rfl (by decide) (fun v w1 H locs hw_323 hP hD hS => ?_)
            obtain ⟨x_324, rfl, rfl, hx_324⟩ := hw_323
            have hP : va_P G.1 classes [(b7, .inl (G.2 0, 503, .inl b59)), (b31, .inl (G.2 0, 2, .inl b60)), (b34, .inl (G.2 1, 4, .inr (.inl y_299))), (b0, .inr (12, [.int b6, .ref b7, .ref b8, .ref b9, .ref b10, .int b11, .ref b12, .int b13, .int b14, .int b15, .int b16, .ref b17, .ref b18, .ref b19, .int b20, .ref b21, .ref b22, .ref b23, .ref b24, .ref b25, .ref b26, .ref b27, .ref b28, .ref b29, .ref b30, .ref b31, .ref b32, .int b33, .ref b1, .ref b34, .int b35, .int b36, .int b37, .int b38, .ref b39, .ref b40, .ref b41, .ref b42, .ref b43, .ref b44, .ref b45, .int b46, .ref b47, .ref b48, .int b49, .ref b50, .ref b51, .ref b52, .ref b53, .ref b54, .int b55, .ref b56, .ref b57, .ref b58])), (b32, .inl (G.2 0, 2880, .inl b61)), (b1, .inl (G.2 1, 4, .inr (.inl b62)))] H := hP
            have hD := z_tie hP hD rfl
            refine W.widen (k := 0) (n := 0) (Nat.le_of_ble_eq_true rfl) (Nat.le_of_ble_eq_true rfl) ?_
            refine lv_if_eq (tgt := 80) hx hb d_Model_step_73 (by decide) (fun hc_325 => ?_) (fun hc_325 => ?_)
            · have _nhc_325 := hc_325
              have ni_326 := (fa_eq _ _).mp hc_325
              rw [li_0] at ni_326
              have hv_327 : zI x_324 0 0 := zI.eq_l hx_324 zc_0 hc_325
              refine lv_iconst (v := 0) hx hb d_Model_step_80 (by decide) ?_
              refine lv_istore (lv' := [(9, .int 0), (8, .int y_298), (7, .int v_203), (0, .ref b0), (1, .int 0), (2, .ref b1), (3, .int b2), (4, .int b3), (5, .int b4), (6, .int b5)]) hx hb d_Model_step_81 hl (by decide) rfl (fun ls hl => ?_)
              refine lv_iload hx hb d_Model_step_83 (lv_at hl 0 rfl) ?_
              refine lv_if_eq (tgt := 130) hx hb d_Model_step_85 (by decide) (fun _ => ?_) (fun hc => absurd hc (by decide +kernel))
              refine lv_iconst (v := 0) hx hb d_Model_step_130 (by decide) ?_
              refine lv_istore (lv' := [(9, .int 0), (8, .int y_298), (7, .int v_203), (0, .ref b0), (1, .int 0), (2, .ref b1), (3, .int b2), (4, .int b3), (5, .int b4), (6, .int b5)]) hx hb d_Model_step_131 hl (by decide) rfl (fun ls hl => ?_)
              refine lv_aload_n hx hb d_Model_step_133 rfl (lv_at hl 3 rfl) ?_
              refine lv_iload_n hx hb d_Model_step_134 rfl (lv_at hl 4 rfl) ?_
              refine lv_iload hx hb d_Model_step_135 (lv_at hl 1 rfl) ?_
              refine lv_iconst (v := 2) hx hb d_Model_step_137 (by decide) ?_
              refine z_callV (index := 225) (As := [.int 0, .int y_298, .int 2]) (rest := []) (wr := [(b7, .inl (G.2 0, 503, .inl b59)), (b31, .inl (G.2 0, 2, .inl b60)), (b34, .inl (G.2 1, 4, .inr (.inl y_299))), (b1, .inl (G.2 1, 4, .inr (.inl b62)))]) Z (s6_Model_edgeAt l G (b0) (y_298) (b6) (b7) (b8) (b9) (b10) (b11) (b12) (b13) (b14) (b15) (b16) (b17) (b18) (b19) (b20) (b21) (b22) (b23) (b24) (b25) (b26) (b27) (b28) (b29) (b30) (b31) (b32) (b33) (b1) (b34) (b35) (b36) (b37) (b38) (b39) (b40) (b41) (b42) (b43) (b44) (b45) (b46) (b47) (b48) (b49) (b50) (b51) (b52) (b53) (b54) (b55) (b56) (b57) (b58) (b61) (zI.wk (l' := 0) (h' := 240) hv_304 (by decide)) hb11 hb13 hb14 hb16 hb20 hb33 hb35 hb46 hb49 hb55 hb61) hl.1 q1408 q1410 qs68 q14 q1411 ⟨by decide, by decide, by show _ = some 3; decide +kernel⟩ ⟨Nat.le_of_ble_eq_true rfl, Nat.le_of_ble_eq_true rfl⟩ ⟨Nat.le_of_ble_eq_true rfl, Nat.le_of_ble_eq_true rfl⟩ rfl (Nat.le_of_ble_eq_true rfl) d_Model_step_138 hP hD hS hA 3 12 rfl rfl rfl [3, 4] [0, 1, 2, 5] rfl rfl rfl rfl (by decide) (fun v w1 H locs hw_328 hP hD hS => ?_)
              obtain ⟨x_329, rfl, rfl, hx_329, hfx_330⟩ := hw_328
              have hP : va_P G.1 classes [(b7, .inl (G.2 0, 503, .inl b59)), (b31, .inl (G.2 0, 2, .inl b60)), (b34, .inl (G.2 1, 4, .inr (.inl y_299))), (b1, .inl (G.2 1, 4, .inr (.inl b62))), (b0, .inr (12, [.int b6, .ref b7, .ref b8, .ref b9, .ref b10, .int b11, .ref b12, .int b13, .int b14, .int b15, .int b16, .ref b17, .ref b18, .ref b19, .int b20, .ref b21, .ref b22, .ref b23, .ref b24, .ref b25, .ref b26, .ref b27, .ref b28, .ref b29, .ref b30, .ref b31, .ref b32, .int b33, .ref b1, .ref b34, .int b35, .int b36, .int b37, .int b38, .ref b39, .ref b40, .ref b41, .ref b42, .ref b43, .ref b44, .ref b45, .int b46, .ref b47, .ref b48, .int b49, .ref b50, .ref b51, .ref b52, .ref b53, .ref b54, .int b55, .ref b56, .ref b57, .ref b58])), (b32, .inl (G.2 0, 2880, .inl b61))] H := hP
              have hD := z_tie hP hD rfl
              refine W.widen (k := 0) (n := 0) (Nat.le_of_ble_eq_true rfl) (Nat.le_of_ble_eq_true rfl) ?_
              refine lv_istore (lv' := [(10, .int x_329), (9, .int 0), (8, .int y_298), (7, .int v_203), (0, .ref b0), (1, .int 0), (2, .ref b1), (3, .int b2), (4, .int b3), (5, .int b4), (6, .int b5)]) hx hb d_Model_step_141 hl (by decide) rfl (fun ls hl => ?_)
              refine lv_aload_n hx hb d_Model_step_143 rfl (lv_at hl 4 rfl) ?_
              refine va_get (D := G.1) (ci := 12) (v := .ref b34) (C := R_Model) (T := F_Model) (N := 54) hx hb hts i_Model hown hK hP 4 rfl rfl 29 (by decide) (hts _ q1138) (fun _ h9 => h9) rfl d_Model_step_144 ?_
              refine lv_iload hx hb d_Model_step_147 (lv_at hl 0 rfl) ?_
              refine lv_bipush (v := 64) hx hb d_Model_step_149 (by decide) ?_
              refine lv_idiv hx hb d_Model_step_151 (by decide +kernel) ?_
              refine lv_topi (fun v_331 ev_331 => ?_)
              obtain ⟨qv_331, hv_331⟩ := zI_div (l := 0) (h := 3) (d := 64) hx_329 rfl ev_331 (by decide)
              refine lv_dup2_11 hx hb d_Model_step_152 rfl rfl ?_
              refine va_lald hx hb hK hP 2 1 rfl rfl (zI.inn hv_331 (by decide)) d_Model_step_153 ?_
              refine lv_topl (fun v_332 ev_332 => ?_)
              refine lv_iload hx hb d_Model_step_154 (lv_at hl 1 rfl) ?_
              refine lv_if_eq (tgt := 169) hx hb d_Model_step_156 (by decide) (fun _ => ?_) (fun hc => absurd hc (by decide +kernel))
              refine lv_lconst (v := 0) hx hb d_Model_step_169 (by decide) ?_
              refine lv_lor hx hb d_Model_step_170 ?_
              refine lv_topl (fun v_333 ev_333 => ?_)
              refine va_last hx hb hK hP hD hS 2 1 rfl rfl (zI.inn hv_331 (by decide)) d_Model_step_171 (fun H locs hP hD hS => ?_)
              obtain ⟨f_334, hP, hD⟩ := z_newL 2 hP hD rfl
              have hP : va_P G.1 classes [(b7, .inl (G.2 0, 503, .inl b59)), (b31, .inl (G.2 0, 2, .inl b60)), (b34, .inl (G.2 1, 4, .inr (.inl f_334))), (b1, .inl (G.2 1, 4, .inr (.inl b62))), (b0, .inr (12, [.int b6, .ref b7, .ref b8, .ref b9, .ref b10, .int b11, .ref b12, .int b13, .int b14, .int b15, .int b16, .ref b17, .ref b18, .ref b19, .int b20, .ref b21, .ref b22, .ref b23, .ref b24, .ref b25, .ref b26, .ref b27, .ref b28, .ref b29, .ref b30, .ref b31, .ref b32, .int b33, .ref b1, .ref b34, .int b35, .int b36, .int b37, .int b38, .ref b39, .ref b40, .ref b41, .ref b42, .ref b43, .ref b44, .ref b45, .int b46, .ref b47, .ref b48, .int b49, .ref b50, .ref b51, .ref b52, .ref b53, .ref b54, .int b55, .ref b56, .ref b57, .ref b58])), (b32, .inl (G.2 0, 2880, .inl b61))] H := hP
              have hD := z_tie hP hD rfl
              obtain ⟨v_335, ev_335⟩ : ∃ z : Int32, z = y_298 + 1 := ⟨_, rfl⟩
              obtain ⟨qv_335, hv_335⟩ := zI_add (l := 1) (h := 240) hv_304 zc_1 ev_335 (by decide)
              rw [li_1] at qv_335
              refine lv_iinc (v := v_335) (lv' := [(8, .int v_335), (10, .int x_329), (9, .int 0), (7, .int v_203), (0, .ref b0), (1, .int 0), (2, .ref b1), (3, .int b2), (4, .int b3), (5, .int b4), (6, .int b5)]) hx hb d_Model_step_172 hl (k := 2) rfl (by rw [ev_335]; rfl) (by decide) rfl (fun ls hl => ?_)
              refine lv_goto (tgt := 36) hx hb d_Model_step_175 (by decide) ?_
              exact ihk_297 (v_335) (f_334) _ _ _ (zI.wk (l' := 0) (h' := 240) hv_335 (by decide)) (zm_up qv_335 hmk_297 (by decide)) (hP.sub [4, 0, 1, 5, 3, 2] rfl) (hD.sub [4, 0, 1, 5, 3, 2] (by decide) rfl) hS (lv_sub hl [0, 3, 4, 5, 6, 7, 8, 9, 10] rfl)
            · have _nhc_325 := hc_325
              have ni_336 : ¬ (x_324 : Int32).toInt = (0 : Int32).toInt := fun z => hc_325 ((fa_eq _ _).mpr z)
              simp only [li_0] at ni_336
              have hv_337 : zI x_324 1 1 := zI.ne_lo hx_324 zc_0 hc_325 (by decide)
              refine lv_iconst (v := 1) hx hb d_Model_step_76 (by decide) ?_
              refine lv_goto (tgt := 81) hx hb d_Model_step_77 (by decide) ?_
              refine lv_istore (lv' := [(9, .int 1), (8, .int y_298), (7, .int v_203), (0, .ref b0), (1, .int 0), (2, .ref b1), (3, .int b2), (4, .int b3), (5, .int b4), (6, .int b5)]) hx hb d_Model_step_81 hl (by decide) rfl (fun ls hl => ?_)
              refine lv_iload hx hb d_Model_step_83 (lv_at hl 0 rfl) ?_
              refine lv_if_eq (tgt := 130) hx hb d_Model_step_85 (by decide) (fun hc => absurd hc (by decide +kernel)) (fun _ => ?_)
              refine lv_iload hx hb d_Model_step_88 (lv_at hl 9 rfl) ?_
              refine lv_if_eq (tgt := 126) hx hb d_Model_step_90 (by decide) (fun hc_338 => ?_) (fun hc_338 => ?_)
              · have _nhc_338 := hc_338
                have ni_339 := (fa_eq _ _).mp hc_338
                rw [li_0] at ni_339
                have hv_340 : zI b5 0 0 := zI.eq_l hb5 zc_0 hc_338
                refine lv_iconst (v := 1) hx hb d_Model_step_126 (by decide) ?_
                refine lv_goto (tgt := 131) hx hb d_Model_step_127 (by decide) ?_
                refine lv_istore (lv' := [(9, .int 1), (8, .int y_298), (7, .int v_203), (0, .ref b0), (1, .int 0), (2, .ref b1), (3, .int b2), (4, .int b3), (5, .int b4), (6, .int b5)]) hx hb d_Model_step_131 hl (by decide) rfl (fun ls hl => ?_)
                refine lv_aload_n hx hb d_Model_step_133 rfl (lv_at hl 3 rfl) ?_
                refine lv_iload_n hx hb d_Model_step_134 rfl (lv_at hl 4 rfl) ?_
                refine lv_iload hx hb d_Model_step_135 (lv_at hl 1 rfl) ?_
                refine lv_iconst (v := 2) hx hb d_Model_step_137 (by decide) ?_
                refine z_callV (index := 225) (As := [.int 0, .int y_298, .int 2]) (rest := []) (wr := [(b7, .inl (G.2 0, 503, .inl b59)), (b31, .inl (G.2 0, 2, .inl b60)), (b34, .inl (G.2 1, 4, .inr (.inl y_299))), (b1, .inl (G.2 1, 4, .inr (.inl b62)))]) Z (s6_Model_edgeAt l G (b0) (y_298) (b6) (b7) (b8) (b9) (b10) (b11) (b12) (b13) (b14) (b15) (b16) (b17) (b18) (b19) (b20) (b21) (b22) (b23) (b24) (b25) (b26) (b27) (b28) (b29) (b30) (b31) (b32) (b33) (b1) (b34) (b35) (b36) (b37) (b38) (b39) (b40) (b41) (b42) (b43) (b44) (b45) (b46) (b47) (b48) (b49) (b50) (b51) (b52) (b53) (b54) (b55) (b56) (b57) (b58) (b61) (zI.wk (l' := 0) (h' := 240) hv_304 (by decide)) hb11 hb13 hb14 hb16 hb20 hb33 hb35 hb46 hb49 hb55 hb61) hl.1 q1408 q1410 qs68 q14 q1411 ⟨by decide, by decide, by show _ = some 3; decide +kernel⟩ ⟨Nat.le_of_ble_eq_true rfl, Nat.le_of_ble_eq_true rfl⟩ ⟨Nat.le_of_ble_eq_true rfl, Nat.le_of_ble_eq_true rfl⟩ rfl (Nat.le_of_ble_eq_true rfl) d_Model_step_138 hP hD hS hA 3 12 rfl rfl rfl [3, 4] [0, 1, 2, 5] rfl rfl rfl rfl (by decide) (fun v w1 H locs hw_341 hP hD hS => ?_)
                obtain ⟨x_342, rfl, rfl, hx_342, hfx_343⟩ := hw_341
                have hP : va_P G.1 classes [(b7, .inl (G.2 0, 503, .inl b59)), (b31, .inl (G.2 0, 2, .inl b60)), (b34, .inl (G.2 1, 4, .inr (.inl y_299))), (b1, .inl (G.2 1, 4, .inr (.inl b62))), (b0, .inr (12, [.int b6, .ref b7, .ref b8, .ref b9, .ref b10, .int b11, .ref b12, .int b13, .int b14, .int b15, .int b16, .ref b17, .ref b18, .ref b19, .int b20, .ref b21, .ref b22, .ref b23, .ref b24, .ref b25, .ref b26, .ref b27, .ref b28, .ref b29, .ref b30, .ref b31, .ref b32, .int b33, .ref b1, .ref b34, .int b35, .int b36, .int b37, .int b38, .ref b39, .ref b40, .ref b41, .ref b42, .ref b43, .ref b44, .ref b45, .int b46, .ref b47, .ref b48, .int b49, .ref b50, .ref b51, .ref b52, .ref b53, .ref b54, .int b55, .ref b56, .ref b57, .ref b58])), (b32, .inl (G.2 0, 2880, .inl b61))] H := hP
                have hD := z_tie hP hD rfl
                refine W.widen (k := 0) (n := 0) (Nat.le_of_ble_eq_true rfl) (Nat.le_of_ble_eq_true rfl) ?_
                refine lv_istore (lv' := [(10, .int x_342), (9, .int 1), (8, .int y_298), (7, .int v_203), (0, .ref b0), (1, .int 0), (2, .ref b1), (3, .int b2), (4, .int b3), (5, .int b4), (6, .int b5)]) hx hb d_Model_step_141 hl (by decide) rfl (fun ls hl => ?_)
                refine lv_aload_n hx hb d_Model_step_143 rfl (lv_at hl 4 rfl) ?_
                refine va_get (D := G.1) (ci := 12) (v := .ref b34) (C := R_Model) (T := F_Model) (N := 54) hx hb hts i_Model hown hK hP 4 rfl rfl 29 (by decide) (hts _ q1138) (fun _ h9 => h9) rfl d_Model_step_144 ?_
                refine lv_iload hx hb d_Model_step_147 (lv_at hl 0 rfl) ?_
                refine lv_bipush (v := 64) hx hb d_Model_step_149 (by decide) ?_
                refine lv_idiv hx hb d_Model_step_151 (by decide +kernel) ?_
                refine lv_topi (fun v_344 ev_344 => ?_)
                obtain ⟨qv_344, hv_344⟩ := zI_div (l := 0) (h := 3) (d := 64) hx_342 rfl ev_344 (by decide)
                refine lv_dup2_11 hx hb d_Model_step_152 rfl rfl ?_
                refine va_lald hx hb hK hP 2 1 rfl rfl (zI.inn hv_344 (by decide)) d_Model_step_153 ?_
                refine lv_topl (fun v_345 ev_345 => ?_)
                refine lv_iload hx hb d_Model_step_154 (lv_at hl 1 rfl) ?_
                refine lv_if_eq (tgt := 169) hx hb d_Model_step_156 (by decide) (fun hc => absurd hc (by decide +kernel)) (fun _ => ?_)
                refine lv_lconst (v := 1) hx hb d_Model_step_159 (by decide) ?_
                refine lv_iload hx hb d_Model_step_160 (lv_at hl 0 rfl) ?_
                refine lv_bipush (v := 64) hx hb d_Model_step_162 (by decide) ?_
                refine lv_irem hx hb d_Model_step_164 (by decide +kernel) ?_
                refine lv_topi (fun v_346 ev_346 => ?_)
                obtain ⟨qv_346, hv_346⟩ := zI_rem (h := 63) (d := 64) hx_342 rfl ev_346 (by decide)
                obtain ⟨v_347, ev_347⟩ : ∃ z : Int64, z = 1 <<< ((v_346 : Int32).toInt64 &&& 63) := ⟨_, rfl⟩
                refine lv_lshl (v := v_347) hx hb d_Model_step_165 ev_347.symm ?_
                refine lv_goto (tgt := 170) hx hb d_Model_step_166 (by decide) ?_
                refine lv_lor hx hb d_Model_step_170 ?_
                refine lv_topl (fun v_348 ev_348 => ?_)
                refine va_last hx hb hK hP hD hS 2 1 rfl rfl (zI.inn hv_344 (by decide)) d_Model_step_171 (fun H locs hP hD hS => ?_)
                obtain ⟨f_349, hP, hD⟩ := z_newL 2 hP hD rfl
                have hP : va_P G.1 classes [(b7, .inl (G.2 0, 503, .inl b59)), (b31, .inl (G.2 0, 2, .inl b60)), (b34, .inl (G.2 1, 4, .inr (.inl f_349))), (b1, .inl (G.2 1, 4, .inr (.inl b62))), (b0, .inr (12, [.int b6, .ref b7, .ref b8, .ref b9, .ref b10, .int b11, .ref b12, .int b13, .int b14, .int b15, .int b16, .ref b17, .ref b18, .ref b19, .int b20, .ref b21, .ref b22, .ref b23, .ref b24, .ref b25, .ref b26, .ref b27, .ref b28, .ref b29, .ref b30, .ref b31, .ref b32, .int b33, .ref b1, .ref b34, .int b35, .int b36, .int b37, .int b38, .ref b39, .ref b40, .ref b41, .ref b42, .ref b43, .ref b44, .ref b45, .int b46, .ref b47, .ref b48, .int b49, .ref b50, .ref b51, .ref b52, .ref b53, .ref b54, .int b55, .ref b56, .ref b57, .ref b58])), (b32, .inl (G.2 0, 2880, .inl b61))] H := hP
                have hD := z_tie hP hD rfl
                obtain ⟨v_350, ev_350⟩ : ∃ z : Int32, z = y_298 + 1 := ⟨_, rfl⟩
                obtain ⟨qv_350, hv_350⟩ := zI_add (l := 1) (h := 240) hv_304 zc_1 ev_350 (by decide)
                rw [li_1] at qv_350
                refine lv_iinc (v := v_350) (lv' := [(8, .int v_350), (10, .int x_342), (9, .int 1), (7, .int v_203), (0, .ref b0), (1, .int 0), (2, .ref b1), (3, .int b2), (4, .int b3), (5, .int b4), (6, .int b5)]) hx hb d_Model_step_172 hl (k := 2) rfl (by rw [ev_350]; rfl) (by decide) rfl (fun ls hl => ?_)
                refine lv_goto (tgt := 36) hx hb d_Model_step_175 (by decide) ?_
                exact ihk_297 (v_350) (f_349) _ _ _ (zI.wk (l' := 0) (h' := 240) hv_350 (by decide)) (zm_up qv_350 hmk_297 (by decide)) (hP.sub [4, 0, 1, 5, 3, 2] rfl) (hD.sub [4, 0, 1, 5, 3, 2] (by decide) rfl) hS (lv_sub hl [0, 3, 4, 5, 6, 7, 8, 9, 10] rfl)
              · have _nhc_338 := hc_338
                have ni_351 : ¬ (b5 : Int32).toInt = (0 : Int32).toInt := fun z => hc_338 ((fa_eq _ _).mpr z)
                simp only [li_0] at ni_351
                have hv_352 : zI b5 1 1 := zI.ne_lo hb5 zc_0 hc_338 (by decide)
                refine lv_iload hx hb d_Model_step_93 (lv_at hl 8 rfl) ?_
                refine lv_i2l (v := b4.toInt64) hx hb d_Model_step_95 rfl ?_
                refine lv_aload_n hx hb d_Model_step_96 rfl (lv_at hl 3 rfl) ?_
                refine lv_iload_n hx hb d_Model_step_97 rfl (lv_at hl 4 rfl) ?_
                refine lv_iload hx hb d_Model_step_98 (lv_at hl 1 rfl) ?_
                refine lv_iconst (v := 4) hx hb d_Model_step_100 (by decide) ?_
                refine z_callV (index := 225) (As := [.int 0, .int y_298, .int 4]) (rest := [.long b4.toInt64]) (wr := [(b7, .inl (G.2 0, 503, .inl b59)), (b31, .inl (G.2 0, 2, .inl b60)), (b34, .inl (G.2 1, 4, .inr (.inl y_299))), (b1, .inl (G.2 1, 4, .inr (.inl b62)))]) Z (s16_Model_edgeAt l G (b0) (y_298) (4) (b6) (b7) (b8) (b9) (b10) (b11) (b12) (b13) (b14) (b15) (b16) (b17) (b18) (b19) (b20) (b21) (b22) (b23) (b24) (b25) (b26) (b27) (b28) (b29) (b30) (b31) (b32) (b33) (b1) (b34) (b35) (b36) (b37) (b38) (b39) (b40) (b41) (b42) (b43) (b44) (b45) (b46) (b47) (b48) (b49) (b50) (b51) (b52) (b53) (b54) (b55) (b56) (b57) (b58) (b61) (zI.wk (l' := 0) (h' := 240) hv_304 (by decide)) (zI.wk (l' := 0) (h' := 5) zc_4 (by decide)) hb11 hb13 hb14 hb16 hb20 hb33 hb35 hb46 hb49 hb55 hb61) hl.1 q1408 q1410 qs68 q14 q1411 ⟨by decide, by decide, by show _ = some 3; decide +kernel⟩ ⟨Nat.le_of_ble_eq_true rfl, Nat.le_of_ble_eq_true rfl⟩ ⟨Nat.le_of_ble_eq_true rfl, Nat.le_of_ble_eq_true rfl⟩ rfl (Nat.le_of_ble_eq_true rfl) d_Model_step_101 hP hD hS hA 3 12 rfl rfl rfl [3, 4] [0, 1, 2, 5] rfl rfl rfl rfl (by decide) (fun v w1 H locs hw_353 hP hD hS => ?_)
                obtain ⟨x_354, rfl, rfl⟩ := hw_353
                have hP : va_P G.1 classes [(b7, .inl (G.2 0, 503, .inl b59)), (b31, .inl (G.2 0, 2, .inl b60)), (b34, .inl (G.2 1, 4, .inr (.inl y_299))), (b1, .inl (G.2 1, 4, .inr (.inl b62))), (b0, .inr (12, [.int b6, .ref b7, .ref b8, .ref b9, .ref b10, .int b11, .ref b12, .int b13, .int b14, .int b15, .int b16, .ref b17, .ref b18, .ref b19, .int b20, .ref b21, .ref b22, .ref b23, .ref b24, .ref b25, .ref b26, .ref b27, .ref b28, .ref b29, .ref b30, .ref b31, .ref b32, .int b33, .ref b1, .ref b34, .int b35, .int b36, .int b37, .int b38, .ref b39, .ref b40, .ref b41, .ref b42, .ref b43, .ref b44, .ref b45, .int b46, .ref b47, .ref b48, .int b49, .ref b50, .ref b51, .ref b52, .ref b53, .ref b54, .int b55, .ref b56, .ref b57, .ref b58])), (b32, .inl (G.2 0, 2880, .inl b61))] H := hP
                have hD := z_tie hP hD rfl
                refine W.widen (k := 0) (n := 0) (Nat.le_of_ble_eq_true rfl) (Nat.le_of_ble_eq_true rfl) ?_
                refine lv_iload hx hb d_Model_step_104 (lv_at hl 2 rfl) ?_
                refine lv_isub hx hb d_Model_step_106 ?_
                refine lv_topi (fun v_355 ev_355 => ?_)
                refine lv_i2l (v := v_355.toInt64) hx hb d_Model_step_107 rfl ?_
                refine lv_aload_n hx hb d_Model_step_108 rfl (lv_at hl 3 rfl) ?_
                refine lv_iload_n hx hb d_Model_step_109 rfl (lv_at hl 4 rfl) ?_
                refine lv_iload hx hb d_Model_step_110 (lv_at hl 1 rfl) ?_
                refine lv_iconst (v := 5) hx hb d_Model_step_112 (by decide) ?_
                refine z_callV (index := 225) (As := [.int 0, .int y_298, .int 5]) (rest := [.long v_355.toInt64, .long b4.toInt64]) (wr := [(b7, .inl (G.2 0, 503, .inl b59)), (b31, .inl (G.2 0, 2, .inl b60)), (b34, .inl (G.2 1, 4, .inr (.inl y_299))), (b1, .inl (G.2 1, 4, .inr (.inl b62)))]) Z (s16_Model_edgeAt l G (b0) (y_298) (5) (b6) (b7) (b8) (b9) (b10) (b11) (b12) (b13) (b14) (b15) (b16) (b17) (b18) (b19) (b20) (b21) (b22) (b23) (b24) (b25) (b26) (b27) (b28) (b29) (b30) (b31) (b32) (b33) (b1) (b34) (b35) (b36) (b37) (b38) (b39) (b40) (b41) (b42) (b43) (b44) (b45) (b46) (b47) (b48) (b49) (b50) (b51) (b52) (b53) (b54) (b55) (b56) (b57) (b58) (b61) (zI.wk (l' := 0) (h' := 240) hv_304 (by decide)) (zI.wk (l' := 0) (h' := 5) zc_5 (by decide)) hb11 hb13 hb14 hb16 hb20 hb33 hb35 hb46 hb49 hb55 hb61) hl.1 q1408 q1410 qs68 q14 q1411 ⟨by decide, by decide, by show _ = some 3; decide +kernel⟩ ⟨Nat.le_of_ble_eq_true rfl, Nat.le_of_ble_eq_true rfl⟩ ⟨Nat.le_of_ble_eq_true rfl, Nat.le_of_ble_eq_true rfl⟩ rfl (Nat.le_of_ble_eq_true rfl) d_Model_step_113 hP hD hS hA 4 12 rfl rfl rfl [4, 5] [0, 1, 2, 3] rfl rfl rfl rfl (by decide) (fun v w1 H locs hw_356 hP hD hS => ?_)
                obtain ⟨x_357, rfl, rfl⟩ := hw_356
                have hP : va_P G.1 classes [(b7, .inl (G.2 0, 503, .inl b59)), (b31, .inl (G.2 0, 2, .inl b60)), (b34, .inl (G.2 1, 4, .inr (.inl y_299))), (b1, .inl (G.2 1, 4, .inr (.inl b62))), (b0, .inr (12, [.int b6, .ref b7, .ref b8, .ref b9, .ref b10, .int b11, .ref b12, .int b13, .int b14, .int b15, .int b16, .ref b17, .ref b18, .ref b19, .int b20, .ref b21, .ref b22, .ref b23, .ref b24, .ref b25, .ref b26, .ref b27, .ref b28, .ref b29, .ref b30, .ref b31, .ref b32, .int b33, .ref b1, .ref b34, .int b35, .int b36, .int b37, .int b38, .ref b39, .ref b40, .ref b41, .ref b42, .ref b43, .ref b44, .ref b45, .int b46, .ref b47, .ref b48, .int b49, .ref b50, .ref b51, .ref b52, .ref b53, .ref b54, .int b55, .ref b56, .ref b57, .ref b58])), (b32, .inl (G.2 0, 2880, .inl b61))] H := hP
                have hD := z_tie hP hD rfl
                refine W.widen (k := 0) (n := 0) (Nat.le_of_ble_eq_true rfl) (Nat.le_of_ble_eq_true rfl) ?_
                refine lv_iload hx hb d_Model_step_116 (lv_at hl 2 rfl) ?_
                refine lv_iadd hx hb d_Model_step_118 ?_
                refine lv_topi (fun v_358 ev_358 => ?_)
                refine lv_i2l (v := v_358.toInt64) hx hb d_Model_step_119 rfl ?_
                refine z_callS (index := 138) (As := [.long b4.toInt64, .long v_355.toInt64, .long v_358.toInt64]) (rest := []) (wr := [(b7, .inl (G.2 0, 503, .inl b59)), (b31, .inl (G.2 0, 2, .inl b60)), (b34, .inl (G.2 1, 4, .inr (.inl y_299))), (b1, .inl (G.2 1, 4, .inr (.inl b62))), (b0, .inr (12, [.int b6, .ref b7, .ref b8, .ref b9, .ref b10, .int b11, .ref b12, .int b13, .int b14, .int b15, .int b16, .ref b17, .ref b18, .ref b19, .int b20, .ref b21, .ref b22, .ref b23, .ref b24, .ref b25, .ref b26, .ref b27, .ref b28, .ref b29, .ref b30, .ref b31, .ref b32, .int b33, .ref b1, .ref b34, .int b35, .int b36, .int b37, .int b38, .ref b39, .ref b40, .ref b41, .ref b42, .ref b43, .ref b44, .ref b45, .int b46, .ref b47, .ref b48, .int b49, .ref b50, .ref b51, .ref b52, .ref b53, .ref b54, .int b55, .ref b56, .ref b57, .ref b58])), (b32, .inl (G.2 0, 2880, .inl b61))]) Z (s2_Model_in l G (b4.toInt64) (v_355.toInt64) (v_358.toInt64)) hl.1 q1281 q1282 q14 q1283 ⟨by decide, by decide, by show _ = some 3; decide +kernel⟩ ⟨Nat.le_of_ble_eq_true rfl, Nat.le_of_ble_eq_true rfl⟩ ⟨Nat.le_of_ble_eq_true rfl, Nat.le_of_ble_eq_true rfl⟩ rfl (Nat.le_of_ble_eq_true rfl) d_Model_step_120 hP hD hS hA [] [0, 1, 2, 3, 4, 5] rfl rfl rfl rfl (by decide) (fun v w1 H locs hw_359 hP hD hS => ?_)
                rcases hw_359 with ⟨rfl, rfl, hq_360⟩ | ⟨rfl, rfl, hq_361, hq_362⟩ | ⟨rfl, rfl, hq_363, hq_364⟩
                · have hP : va_P G.1 classes [(b7, .inl (G.2 0, 503, .inl b59)), (b31, .inl (G.2 0, 2, .inl b60)), (b34, .inl (G.2 1, 4, .inr (.inl y_299))), (b1, .inl (G.2 1, 4, .inr (.inl b62))), (b0, .inr (12, [.int b6, .ref b7, .ref b8, .ref b9, .ref b10, .int b11, .ref b12, .int b13, .int b14, .int b15, .int b16, .ref b17, .ref b18, .ref b19, .int b20, .ref b21, .ref b22, .ref b23, .ref b24, .ref b25, .ref b26, .ref b27, .ref b28, .ref b29, .ref b30, .ref b31, .ref b32, .int b33, .ref b1, .ref b34, .int b35, .int b36, .int b37, .int b38, .ref b39, .ref b40, .ref b41, .ref b42, .ref b43, .ref b44, .ref b45, .int b46, .ref b47, .ref b48, .int b49, .ref b50, .ref b51, .ref b52, .ref b53, .ref b54, .int b55, .ref b56, .ref b57, .ref b58])), (b32, .inl (G.2 0, 2880, .inl b61))] H := hP
                  have hD := z_tie hP hD rfl
                  try simp only [Int32.toInt_toInt64] at hq_360
                  refine W.widen (k := 0) (n := 0) (Nat.le_of_ble_eq_true rfl) (Nat.le_of_ble_eq_true rfl) ?_
                  refine lv_if_eq (tgt := 130) hx hb d_Model_step_123 (by decide) (fun _ => ?_) (fun hc => absurd hc (by decide +kernel))
                  refine lv_iconst (v := 0) hx hb d_Model_step_130 (by decide) ?_
                  refine lv_istore (lv' := [(9, .int 0), (8, .int y_298), (7, .int v_203), (0, .ref b0), (1, .int 0), (2, .ref b1), (3, .int b2), (4, .int b3), (5, .int b4), (6, .int b5)]) hx hb d_Model_step_131 hl (by decide) rfl (fun ls hl => ?_)
                  refine lv_aload_n hx hb d_Model_step_133 rfl (lv_at hl 3 rfl) ?_
                  refine lv_iload_n hx hb d_Model_step_134 rfl (lv_at hl 4 rfl) ?_
                  refine lv_iload hx hb d_Model_step_135 (lv_at hl 1 rfl) ?_
                  refine lv_iconst (v := 2) hx hb d_Model_step_137 (by decide) ?_
                  refine z_callV (index := 225) (As := [.int 0, .int y_298, .int 2]) (rest := []) (wr := [(b7, .inl (G.2 0, 503, .inl b59)), (b31, .inl (G.2 0, 2, .inl b60)), (b34, .inl (G.2 1, 4, .inr (.inl y_299))), (b1, .inl (G.2 1, 4, .inr (.inl b62)))]) Z (s6_Model_edgeAt l G (b0) (y_298) (b6) (b7) (b8) (b9) (b10) (b11) (b12) (b13) (b14) (b15) (b16) (b17) (b18) (b19) (b20) (b21) (b22) (b23) (b24) (b25) (b26) (b27) (b28) (b29) (b30) (b31) (b32) (b33) (b1) (b34) (b35) (b36) (b37) (b38) (b39) (b40) (b41) (b42) (b43) (b44) (b45) (b46) (b47) (b48) (b49) (b50) (b51) (b52) (b53) (b54) (b55) (b56) (b57) (b58) (b61) (zI.wk (l' := 0) (h' := 240) hv_304 (by decide)) hb11 hb13 hb14 hb16 hb20 hb33 hb35 hb46 hb49 hb55 hb61) hl.1 q1408 q1410 qs68 q14 q1411 ⟨by decide, by decide, by show _ = some 3; decide +kernel⟩ ⟨Nat.le_of_ble_eq_true rfl, Nat.le_of_ble_eq_true rfl⟩ ⟨Nat.le_of_ble_eq_true rfl, Nat.le_of_ble_eq_true rfl⟩ rfl (Nat.le_of_ble_eq_true rfl) d_Model_step_138 hP hD hS hA 4 12 rfl rfl rfl [4, 5] [0, 1, 2, 3] rfl rfl rfl rfl (by decide) (fun v w1 H locs hw_365 hP hD hS => ?_)
                  obtain ⟨x_366, rfl, rfl, hx_366, hfx_367⟩ := hw_365
                  have hP : va_P G.1 classes [(b7, .inl (G.2 0, 503, .inl b59)), (b31, .inl (G.2 0, 2, .inl b60)), (b34, .inl (G.2 1, 4, .inr (.inl y_299))), (b1, .inl (G.2 1, 4, .inr (.inl b62))), (b0, .inr (12, [.int b6, .ref b7, .ref b8, .ref b9, .ref b10, .int b11, .ref b12, .int b13, .int b14, .int b15, .int b16, .ref b17, .ref b18, .ref b19, .int b20, .ref b21, .ref b22, .ref b23, .ref b24, .ref b25, .ref b26, .ref b27, .ref b28, .ref b29, .ref b30, .ref b31, .ref b32, .int b33, .ref b1, .ref b34, .int b35, .int b36, .int b37, .int b38, .ref b39, .ref b40, .ref b41, .ref b42, .ref b43, .ref b44, .ref b45, .int b46, .ref b47, .ref b48, .int b49, .ref b50, .ref b51, .ref b52, .ref b53, .ref b54, .int b55, .ref b56, .ref b57, .ref b58])), (b32, .inl (G.2 0, 2880, .inl b61))] H := hP
                  have hD := z_tie hP hD rfl
                  refine W.widen (k := 0) (n := 0) (Nat.le_of_ble_eq_true rfl) (Nat.le_of_ble_eq_true rfl) ?_
                  refine lv_istore (lv' := [(10, .int x_366), (9, .int 0), (8, .int y_298), (7, .int v_203), (0, .ref b0), (1, .int 0), (2, .ref b1), (3, .int b2), (4, .int b3), (5, .int b4), (6, .int b5)]) hx hb d_Model_step_141 hl (by decide) rfl (fun ls hl => ?_)
                  refine lv_aload_n hx hb d_Model_step_143 rfl (lv_at hl 4 rfl) ?_
                  refine va_get (D := G.1) (ci := 12) (v := .ref b34) (C := R_Model) (T := F_Model) (N := 54) hx hb hts i_Model hown hK hP 4 rfl rfl 29 (by decide) (hts _ q1138) (fun _ h9 => h9) rfl d_Model_step_144 ?_
                  refine lv_iload hx hb d_Model_step_147 (lv_at hl 0 rfl) ?_
                  refine lv_bipush (v := 64) hx hb d_Model_step_149 (by decide) ?_
                  refine lv_idiv hx hb d_Model_step_151 (by decide +kernel) ?_
                  refine lv_topi (fun v_368 ev_368 => ?_)
                  obtain ⟨qv_368, hv_368⟩ := zI_div (l := 0) (h := 3) (d := 64) hx_366 rfl ev_368 (by decide)
                  refine lv_dup2_11 hx hb d_Model_step_152 rfl rfl ?_
                  refine va_lald hx hb hK hP 2 1 rfl rfl (zI.inn hv_368 (by decide)) d_Model_step_153 ?_
                  refine lv_topl (fun v_369 ev_369 => ?_)
                  refine lv_iload hx hb d_Model_step_154 (lv_at hl 1 rfl) ?_
                  refine lv_if_eq (tgt := 169) hx hb d_Model_step_156 (by decide) (fun _ => ?_) (fun hc => absurd hc (by decide +kernel))
                  refine lv_lconst (v := 0) hx hb d_Model_step_169 (by decide) ?_
                  refine lv_lor hx hb d_Model_step_170 ?_
                  refine lv_topl (fun v_370 ev_370 => ?_)
                  refine va_last hx hb hK hP hD hS 2 1 rfl rfl (zI.inn hv_368 (by decide)) d_Model_step_171 (fun H locs hP hD hS => ?_)
                  obtain ⟨f_371, hP, hD⟩ := z_newL 2 hP hD rfl
                  have hP : va_P G.1 classes [(b7, .inl (G.2 0, 503, .inl b59)), (b31, .inl (G.2 0, 2, .inl b60)), (b34, .inl (G.2 1, 4, .inr (.inl f_371))), (b1, .inl (G.2 1, 4, .inr (.inl b62))), (b0, .inr (12, [.int b6, .ref b7, .ref b8, .ref b9, .ref b10, .int b11, .ref b12, .int b13, .int b14, .int b15, .int b16, .ref b17, .ref b18, .ref b19, .int b20, .ref b21, .ref b22, .ref b23, .ref b24, .ref b25, .ref b26, .ref b27, .ref b28, .ref b29, .ref b30, .ref b31, .ref b32, .int b33, .ref b1, .ref b34, .int b35, .int b36, .int b37, .int b38, .ref b39, .ref b40, .ref b41, .ref b42, .ref b43, .ref b44, .ref b45, .int b46, .ref b47, .ref b48, .int b49, .ref b50, .ref b51, .ref b52, .ref b53, .ref b54, .int b55, .ref b56, .ref b57, .ref b58])), (b32, .inl (G.2 0, 2880, .inl b61))] H := hP
                  have hD := z_tie hP hD rfl
                  obtain ⟨v_372, ev_372⟩ : ∃ z : Int32, z = y_298 + 1 := ⟨_, rfl⟩
                  obtain ⟨qv_372, hv_372⟩ := zI_add (l := 1) (h := 240) hv_304 zc_1 ev_372 (by decide)
                  rw [li_1] at qv_372
                  refine lv_iinc (v := v_372) (lv' := [(8, .int v_372), (10, .int x_366), (9, .int 0), (7, .int v_203), (0, .ref b0), (1, .int 0), (2, .ref b1), (3, .int b2), (4, .int b3), (5, .int b4), (6, .int b5)]) hx hb d_Model_step_172 hl (k := 2) rfl (by rw [ev_372]; rfl) (by decide) rfl (fun ls hl => ?_)
                  refine lv_goto (tgt := 36) hx hb d_Model_step_175 (by decide) ?_
                  exact ihk_297 (v_372) (f_371) _ _ _ (zI.wk (l' := 0) (h' := 240) hv_372 (by decide)) (zm_up qv_372 hmk_297 (by decide)) (hP.sub [4, 0, 1, 5, 3, 2] rfl) (hD.sub [4, 0, 1, 5, 3, 2] (by decide) rfl) hS (lv_sub hl [0, 3, 4, 5, 6, 7, 8, 9, 10] rfl)
                · have hP : va_P G.1 classes [(b7, .inl (G.2 0, 503, .inl b59)), (b31, .inl (G.2 0, 2, .inl b60)), (b34, .inl (G.2 1, 4, .inr (.inl y_299))), (b1, .inl (G.2 1, 4, .inr (.inl b62))), (b0, .inr (12, [.int b6, .ref b7, .ref b8, .ref b9, .ref b10, .int b11, .ref b12, .int b13, .int b14, .int b15, .int b16, .ref b17, .ref b18, .ref b19, .int b20, .ref b21, .ref b22, .ref b23, .ref b24, .ref b25, .ref b26, .ref b27, .ref b28, .ref b29, .ref b30, .ref b31, .ref b32, .int b33, .ref b1, .ref b34, .int b35, .int b36, .int b37, .int b38, .ref b39, .ref b40, .ref b41, .ref b42, .ref b43, .ref b44, .ref b45, .int b46, .ref b47, .ref b48, .int b49, .ref b50, .ref b51, .ref b52, .ref b53, .ref b54, .int b55, .ref b56, .ref b57, .ref b58])), (b32, .inl (G.2 0, 2880, .inl b61))] H := hP
                  have hD := z_tie hP hD rfl
                  try simp only [Int32.toInt_toInt64] at hq_361
                  try simp only [Int32.toInt_toInt64] at hq_362
                  refine W.widen (k := 0) (n := 0) (Nat.le_of_ble_eq_true rfl) (Nat.le_of_ble_eq_true rfl) ?_
                  refine lv_if_eq (tgt := 130) hx hb d_Model_step_123 (by decide) (fun _ => ?_) (fun hc => absurd hc (by decide +kernel))
                  refine lv_iconst (v := 0) hx hb d_Model_step_130 (by decide) ?_
                  refine lv_istore (lv' := [(9, .int 0), (8, .int y_298), (7, .int v_203), (0, .ref b0), (1, .int 0), (2, .ref b1), (3, .int b2), (4, .int b3), (5, .int b4), (6, .int b5)]) hx hb d_Model_step_131 hl (by decide) rfl (fun ls hl => ?_)
                  refine lv_aload_n hx hb d_Model_step_133 rfl (lv_at hl 3 rfl) ?_
                  refine lv_iload_n hx hb d_Model_step_134 rfl (lv_at hl 4 rfl) ?_
                  refine lv_iload hx hb d_Model_step_135 (lv_at hl 1 rfl) ?_
                  refine lv_iconst (v := 2) hx hb d_Model_step_137 (by decide) ?_
                  refine z_callV (index := 225) (As := [.int 0, .int y_298, .int 2]) (rest := []) (wr := [(b7, .inl (G.2 0, 503, .inl b59)), (b31, .inl (G.2 0, 2, .inl b60)), (b34, .inl (G.2 1, 4, .inr (.inl y_299))), (b1, .inl (G.2 1, 4, .inr (.inl b62)))]) Z (s6_Model_edgeAt l G (b0) (y_298) (b6) (b7) (b8) (b9) (b10) (b11) (b12) (b13) (b14) (b15) (b16) (b17) (b18) (b19) (b20) (b21) (b22) (b23) (b24) (b25) (b26) (b27) (b28) (b29) (b30) (b31) (b32) (b33) (b1) (b34) (b35) (b36) (b37) (b38) (b39) (b40) (b41) (b42) (b43) (b44) (b45) (b46) (b47) (b48) (b49) (b50) (b51) (b52) (b53) (b54) (b55) (b56) (b57) (b58) (b61) (zI.wk (l' := 0) (h' := 240) hv_304 (by decide)) hb11 hb13 hb14 hb16 hb20 hb33 hb35 hb46 hb49 hb55 hb61) hl.1 q1408 q1410 qs68 q14 q1411 ⟨by decide, by decide, by show _ = some 3; decide +kernel⟩ ⟨Nat.le_of_ble_eq_true rfl, Nat.le_of_ble_eq_true rfl⟩ ⟨Nat.le_of_ble_eq_true rfl, Nat.le_of_ble_eq_true rfl⟩ rfl (Nat.le_of_ble_eq_true rfl) d_Model_step_138 hP hD hS hA 4 12 rfl rfl rfl [4, 5] [0, 1, 2, 3] rfl rfl rfl rfl (by decide) (fun v w1 H locs hw_373 hP hD hS => ?_)
                  obtain ⟨x_374, rfl, rfl, hx_374, hfx_375⟩ := hw_373
                  have hP : va_P G.1 classes [(b7, .inl (G.2 0, 503, .inl b59)), (b31, .inl (G.2 0, 2, .inl b60)), (b34, .inl (G.2 1, 4, .inr (.inl y_299))), (b1, .inl (G.2 1, 4, .inr (.inl b62))), (b0, .inr (12, [.int b6, .ref b7, .ref b8, .ref b9, .ref b10, .int b11, .ref b12, .int b13, .int b14, .int b15, .int b16, .ref b17, .ref b18, .ref b19, .int b20, .ref b21, .ref b22, .ref b23, .ref b24, .ref b25, .ref b26, .ref b27, .ref b28, .ref b29, .ref b30, .ref b31, .ref b32, .int b33, .ref b1, .ref b34, .int b35, .int b36, .int b37, .int b38, .ref b39, .ref b40, .ref b41, .ref b42, .ref b43, .ref b44, .ref b45, .int b46, .ref b47, .ref b48, .int b49, .ref b50, .ref b51, .ref b52, .ref b53, .ref b54, .int b55, .ref b56, .ref b57, .ref b58])), (b32, .inl (G.2 0, 2880, .inl b61))] H := hP
                  have hD := z_tie hP hD rfl
                  refine W.widen (k := 0) (n := 0) (Nat.le_of_ble_eq_true rfl) (Nat.le_of_ble_eq_true rfl) ?_
                  refine lv_istore (lv' := [(10, .int x_374), (9, .int 0), (8, .int y_298), (7, .int v_203), (0, .ref b0), (1, .int 0), (2, .ref b1), (3, .int b2), (4, .int b3), (5, .int b4), (6, .int b5)]) hx hb d_Model_step_141 hl (by decide) rfl (fun ls hl => ?_)
                  refine lv_aload_n hx hb d_Model_step_143 rfl (lv_at hl 4 rfl) ?_
                  refine va_get (D := G.1) (ci := 12) (v := .ref b34) (C := R_Model) (T := F_Model) (N := 54) hx hb hts i_Model hown hK hP 4 rfl rfl 29 (by decide) (hts _ q1138) (fun _ h9 => h9) rfl d_Model_step_144 ?_
                  refine lv_iload hx hb d_Model_step_147 (lv_at hl 0 rfl) ?_
                  refine lv_bipush (v := 64) hx hb d_Model_step_149 (by decide) ?_
                  refine lv_idiv hx hb d_Model_step_151 (by decide +kernel) ?_
                  refine lv_topi (fun v_376 ev_376 => ?_)
                  obtain ⟨qv_376, hv_376⟩ := zI_div (l := 0) (h := 3) (d := 64) hx_374 rfl ev_376 (by decide)
                  refine lv_dup2_11 hx hb d_Model_step_152 rfl rfl ?_
                  refine va_lald hx hb hK hP 2 1 rfl rfl (zI.inn hv_376 (by decide)) d_Model_step_153 ?_
                  refine lv_topl (fun v_377 ev_377 => ?_)
                  refine lv_iload hx hb d_Model_step_154 (lv_at hl 1 rfl) ?_
                  refine lv_if_eq (tgt := 169) hx hb d_Model_step_156 (by decide) (fun _ => ?_) (fun hc => absurd hc (by decide +kernel))
                  refine lv_lconst (v := 0) hx hb d_Model_step_169 (by decide) ?_
                  refine lv_lor hx hb d_Model_step_170 ?_
                  refine lv_topl (fun v_378 ev_378 => ?_)
                  refine va_last hx hb hK hP hD hS 2 1 rfl rfl (zI.inn hv_376 (by decide)) d_Model_step_171 (fun H locs hP hD hS => ?_)
                  obtain ⟨f_379, hP, hD⟩ := z_newL 2 hP hD rfl
                  have hP : va_P G.1 classes [(b7, .inl (G.2 0, 503, .inl b59)), (b31, .inl (G.2 0, 2, .inl b60)), (b34, .inl (G.2 1, 4, .inr (.inl f_379))), (b1, .inl (G.2 1, 4, .inr (.inl b62))), (b0, .inr (12, [.int b6, .ref b7, .ref b8, .ref b9, .ref b10, .int b11, .ref b12, .int b13, .int b14, .int b15, .int b16, .ref b17, .ref b18, .ref b19, .int b20, .ref b21, .ref b22, .ref b23, .ref b24, .ref b25, .ref b26, .ref b27, .ref b28, .ref b29, .ref b30, .ref b31, .ref b32, .int b33, .ref b1, .ref b34, .int b35, .int b36, .int b37, .int b38, .ref b39, .ref b40, .ref b41, .ref b42, .ref b43, .ref b44, .ref b45, .int b46, .ref b47, .ref b48, .int b49, .ref b50, .ref b51, .ref b52, .ref b53, .ref b54, .int b55, .ref b56, .ref b57, .ref b58])), (b32, .inl (G.2 0, 2880, .inl b61))] H := hP
                  have hD := z_tie hP hD rfl
                  obtain ⟨v_380, ev_380⟩ : ∃ z : Int32, z = y_298 + 1 := ⟨_, rfl⟩
                  obtain ⟨qv_380, hv_380⟩ := zI_add (l := 1) (h := 240) hv_304 zc_1 ev_380 (by decide)
                  rw [li_1] at qv_380
                  refine lv_iinc (v := v_380) (lv' := [(8, .int v_380), (10, .int x_374), (9, .int 0), (7, .int v_203), (0, .ref b0), (1, .int 0), (2, .ref b1), (3, .int b2), (4, .int b3), (5, .int b4), (6, .int b5)]) hx hb d_Model_step_172 hl (k := 2) rfl (by rw [ev_380]; rfl) (by decide) rfl (fun ls hl => ?_)
                  refine lv_goto (tgt := 36) hx hb d_Model_step_175 (by decide) ?_
                  exact ihk_297 (v_380) (f_379) _ _ _ (zI.wk (l' := 0) (h' := 240) hv_380 (by decide)) (zm_up qv_380 hmk_297 (by decide)) (hP.sub [4, 0, 1, 5, 3, 2] rfl) (hD.sub [4, 0, 1, 5, 3, 2] (by decide) rfl) hS (lv_sub hl [0, 3, 4, 5, 6, 7, 8, 9, 10] rfl)
                · have hP : va_P G.1 classes [(b7, .inl (G.2 0, 503, .inl b59)), (b31, .inl (G.2 0, 2, .inl b60)), (b34, .inl (G.2 1, 4, .inr (.inl y_299))), (b1, .inl (G.2 1, 4, .inr (.inl b62))), (b0, .inr (12, [.int b6, .ref b7, .ref b8, .ref b9, .ref b10, .int b11, .ref b12, .int b13, .int b14, .int b15, .int b16, .ref b17, .ref b18, .ref b19, .int b20, .ref b21, .ref b22, .ref b23, .ref b24, .ref b25, .ref b26, .ref b27, .ref b28, .ref b29, .ref b30, .ref b31, .ref b32, .int b33, .ref b1, .ref b34, .int b35, .int b36, .int b37, .int b38, .ref b39, .ref b40, .ref b41, .ref b42, .ref b43, .ref b44, .ref b45, .int b46, .ref b47, .ref b48, .int b49, .ref b50, .ref b51, .ref b52, .ref b53, .ref b54, .int b55, .ref b56, .ref b57, .ref b58])), (b32, .inl (G.2 0, 2880, .inl b61))] H := hP
                  have hD := z_tie hP hD rfl
                  try simp only [Int32.toInt_toInt64] at hq_363
                  try simp only [Int32.toInt_toInt64] at hq_364
                  refine W.widen (k := 0) (n := 0) (Nat.le_of_ble_eq_true rfl) (Nat.le_of_ble_eq_true rfl) ?_
                  refine lv_if_eq (tgt := 130) hx hb d_Model_step_123 (by decide) (fun hc => absurd hc (by decide +kernel)) (fun _ => ?_)
                  refine lv_iconst (v := 1) hx hb d_Model_step_126 (by decide) ?_
                  refine lv_goto (tgt := 131) hx hb d_Model_step_127 (by decide) ?_
                  refine lv_istore (lv' := [(9, .int 1), (8, .int y_298), (7, .int v_203), (0, .ref b0), (1, .int 0), (2, .ref b1), (3, .int b2), (4, .int b3), (5, .int b4), (6, .int b5)]) hx hb d_Model_step_131 hl (by decide) rfl (fun ls hl => ?_)
                  refine lv_aload_n hx hb d_Model_step_133 rfl (lv_at hl 3 rfl) ?_
                  refine lv_iload_n hx hb d_Model_step_134 rfl (lv_at hl 4 rfl) ?_
                  refine lv_iload hx hb d_Model_step_135 (lv_at hl 1 rfl) ?_
                  refine lv_iconst (v := 2) hx hb d_Model_step_137 (by decide) ?_
                  refine z_callV (index := 225) (As := [.int 0, .int y_298, .int 2]) (rest := []) (wr := [(b7, .inl (G.2 0, 503, .inl b59)), (b31, .inl (G.2 0, 2, .inl b60)), (b34, .inl (G.2 1, 4, .inr (.inl y_299))), (b1, .inl (G.2 1, 4, .inr (.inl b62)))]) Z (s6_Model_edgeAt l G (b0) (y_298) (b6) (b7) (b8) (b9) (b10) (b11) (b12) (b13) (b14) (b15) (b16) (b17) (b18) (b19) (b20) (b21) (b22) (b23) (b24) (b25) (b26) (b27) (b28) (b29) (b30) (b31) (b32) (b33) (b1) (b34) (b35) (b36) (b37) (b38) (b39) (b40) (b41) (b42) (b43) (b44) (b45) (b46) (b47) (b48) (b49) (b50) (b51) (b52) (b53) (b54) (b55) (b56) (b57) (b58) (b61) (zI.wk (l' := 0) (h' := 240) hv_304 (by decide)) hb11 hb13 hb14 hb16 hb20 hb33 hb35 hb46 hb49 hb55 hb61) hl.1 q1408 q1410 qs68 q14 q1411 ⟨by decide, by decide, by show _ = some 3; decide +kernel⟩ ⟨Nat.le_of_ble_eq_true rfl, Nat.le_of_ble_eq_true rfl⟩ ⟨Nat.le_of_ble_eq_true rfl, Nat.le_of_ble_eq_true rfl⟩ rfl (Nat.le_of_ble_eq_true rfl) d_Model_step_138 hP hD hS hA 4 12 rfl rfl rfl [4, 5] [0, 1, 2, 3] rfl rfl rfl rfl (by decide) (fun v w1 H locs hw_381 hP hD hS => ?_)
                  obtain ⟨x_382, rfl, rfl, hx_382, hfx_383⟩ := hw_381
                  have hP : va_P G.1 classes [(b7, .inl (G.2 0, 503, .inl b59)), (b31, .inl (G.2 0, 2, .inl b60)), (b34, .inl (G.2 1, 4, .inr (.inl y_299))), (b1, .inl (G.2 1, 4, .inr (.inl b62))), (b0, .inr (12, [.int b6, .ref b7, .ref b8, .ref b9, .ref b10, .int b11, .ref b12, .int b13, .int b14, .int b15, .int b16, .ref b17, .ref b18, .ref b19, .int b20, .ref b21, .ref b22, .ref b23, .ref b24, .ref b25, .ref b26, .ref b27, .ref b28, .ref b29, .ref b30, .ref b31, .ref b32, .int b33, .ref b1, .ref b34, .int b35, .int b36, .int b37, .int b38, .ref b39, .ref b40, .ref b41, .ref b42, .ref b43, .ref b44, .ref b45, .int b46, .ref b47, .ref b48, .int b49, .ref b50, .ref b51, .ref b52, .ref b53, .ref b54, .int b55, .ref b56, .ref b57, .ref b58])), (b32, .inl (G.2 0, 2880, .inl b61))] H := hP
                  have hD := z_tie hP hD rfl
                  refine W.widen (k := 0) (n := 0) (Nat.le_of_ble_eq_true rfl) (Nat.le_of_ble_eq_true rfl) ?_
                  refine lv_istore (lv' := [(10, .int x_382), (9, .int 1), (8, .int y_298), (7, .int v_203), (0, .ref b0), (1, .int 0), (2, .ref b1), (3, .int b2), (4, .int b3), (5, .int b4), (6, .int b5)]) hx hb d_Model_step_141 hl (by decide) rfl (fun ls hl => ?_)
                  refine lv_aload_n hx hb d_Model_step_143 rfl (lv_at hl 4 rfl) ?_
                  refine va_get (D := G.1) (ci := 12) (v := .ref b34) (C := R_Model) (T := F_Model) (N := 54) hx hb hts i_Model hown hK hP 4 rfl rfl 29 (by decide) (hts _ q1138) (fun _ h9 => h9) rfl d_Model_step_144 ?_
                  refine lv_iload hx hb d_Model_step_147 (lv_at hl 0 rfl) ?_
                  refine lv_bipush (v := 64) hx hb d_Model_step_149 (by decide) ?_
                  refine lv_idiv hx hb d_Model_step_151 (by decide +kernel) ?_
                  refine lv_topi (fun v_384 ev_384 => ?_)
                  obtain ⟨qv_384, hv_384⟩ := zI_div (l := 0) (h := 3) (d := 64) hx_382 rfl ev_384 (by decide)
                  refine lv_dup2_11 hx hb d_Model_step_152 rfl rfl ?_
                  refine va_lald hx hb hK hP 2 1 rfl rfl (zI.inn hv_384 (by decide)) d_Model_step_153 ?_
                  refine lv_topl (fun v_385 ev_385 => ?_)
                  refine lv_iload hx hb d_Model_step_154 (lv_at hl 1 rfl) ?_
                  refine lv_if_eq (tgt := 169) hx hb d_Model_step_156 (by decide) (fun hc => absurd hc (by decide +kernel)) (fun _ => ?_)
                  refine lv_lconst (v := 1) hx hb d_Model_step_159 (by decide) ?_
                  refine lv_iload hx hb d_Model_step_160 (lv_at hl 0 rfl) ?_
                  refine lv_bipush (v := 64) hx hb d_Model_step_162 (by decide) ?_
                  refine lv_irem hx hb d_Model_step_164 (by decide +kernel) ?_
                  refine lv_topi (fun v_386 ev_386 => ?_)
                  obtain ⟨qv_386, hv_386⟩ := zI_rem (h := 63) (d := 64) hx_382 rfl ev_386 (by decide)
                  obtain ⟨v_387, ev_387⟩ : ∃ z : Int64, z = 1 <<< ((v_386 : Int32).toInt64 &&& 63) := ⟨_, rfl⟩
                  refine lv_lshl (v := v_387) hx hb d_Model_step_165 ev_387.symm ?_
                  refine lv_goto (tgt := 170) hx hb d_Model_step_166 (by decide) ?_
                  refine lv_lor hx hb d_Model_step_170 ?_
                  refine lv_topl (fun v_388 ev_388 => ?_)
                  refine va_last hx hb hK hP hD hS 2 1 rfl rfl (zI.inn hv_384 (by decide)) d_Model_step_171 (fun H locs hP hD hS => ?_)
                  obtain ⟨f_389, hP, hD⟩ := z_newL 2 hP hD rfl
                  have hP : va_P G.1 classes [(b7, .inl (G.2 0, 503, .inl b59)), (b31, .inl (G.2 0, 2, .inl b60)), (b34, .inl (G.2 1, 4, .inr (.inl f_389))), (b1, .inl (G.2 1, 4, .inr (.inl b62))), (b0, .inr (12, [.int b6, .ref b7, .ref b8, .ref b9, .ref b10, .int b11, .ref b12, .int b13, .int b14, .int b15, .int b16, .ref b17, .ref b18, .ref b19, .int b20, .ref b21, .ref b22, .ref b23, .ref b24, .ref b25, .ref b26, .ref b27, .ref b28, .ref b29, .ref b30, .ref b31, .ref b32, .int b33, .ref b1, .ref b34, .int b35, .int b36, .int b37, .int b38, .ref b39, .ref b40, .ref b41, .ref b42, .ref b43, .ref b44, .ref b45, .int b46, .ref b47, .ref b48, .int b49, .ref b50, .ref b51, .ref b52, .ref b53, .ref b54, .int b55, .ref b56, .ref b57, .ref b58])), (b32, .inl (G.2 0, 2880, .inl b61))] H := hP
                  have hD := z_tie hP hD rfl
                  obtain ⟨v_390, ev_390⟩ : ∃ z : Int32, z = y_298 + 1 := ⟨_, rfl⟩
                  obtain ⟨qv_390, hv_390⟩ := zI_add (l := 1) (h := 240) hv_304 zc_1 ev_390 (by decide)
                  rw [li_1] at qv_390
                  refine lv_iinc (v := v_390) (lv' := [(8, .int v_390), (10, .int x_382), (9, .int 1), (7, .int v_203), (0, .ref b0), (1, .int 0), (2, .ref b1), (3, .int b2), (4, .int b3), (5, .int b4), (6, .int b5)]) hx hb d_Model_step_172 hl (k := 2) rfl (by rw [ev_390]; rfl) (by decide) rfl (fun ls hl => ?_)
                  refine lv_goto (tgt := 36) hx hb d_Model_step_175 (by decide) ?_
                  exact ihk_297 (v_390) (f_389) _ _ _ (zI.wk (l' := 0) (h' := 240) hv_390 (by decide)) (zm_up qv_390 hmk_297 (by decide)) (hP.sub [4, 0, 1, 5, 3, 2] rfl) (hD.sub [4, 0, 1, 5, 3, 2] (by decide) rfl) hS (lv_sub hl [0, 3, 4, 5, 6, 7, 8, 9, 10] rfl)
    · have _nhc_200 := hc_200
      have ni_391 := (fa_lt _ _).mp (zi_nle hc_200)
      rw [li_4] at ni_391
      have hv_392 : zI y_198 0 3 := zI.lt_l hy_198 zc_4 (zi_nle hc_200) (by decide)
      refine lv_aload_n hx hb d_Model_step_9 rfl (lv_at hl 1 rfl) ?_
      refine va_get (D := G.1) (ci := 12) (v := .ref b34) (C := R_Model) (T := F_Model) (N := 54) hx hb hts i_Model hown hK hP 0 rfl rfl 29 (by decide) (hts _ q1138) (fun _ h9 => h9) rfl d_Model_step_10 ?_
      refine lv_iload hx hb d_Model_step_13 (lv_at hl 0 rfl) ?_
      refine lv_lconst (v := 0) hx hb d_Model_step_15 (by decide) ?_
      refine va_last hx hb hK hP hD hS 5 1 rfl rfl (zI.inn hv_392 (by decide)) d_Model_step_16 (fun H locs hP hD hS => ?_)
      obtain ⟨f_393, hP, hD⟩ := z_newL 5 hP hD rfl
      have hP : va_P G.1 classes [(b0, .inr (12, [.int b6, .ref b7, .ref b8, .ref b9, .ref b10, .int b11, .ref b12, .int b13, .int b14, .int b15, .int b16, .ref b17, .ref b18, .ref b19, .int b20, .ref b21, .ref b22, .ref b23, .ref b24, .ref b25, .ref b26, .ref b27, .ref b28, .ref b29, .ref b30, .ref b31, .ref b32, .int b33, .ref b1, .ref b34, .int b35, .int b36, .int b37, .int b38, .ref b39, .ref b40, .ref b41, .ref b42, .ref b43, .ref b44, .ref b45, .int b46, .ref b47, .ref b48, .int b49, .ref b50, .ref b51, .ref b52, .ref b53, .ref b54, .int b55, .ref b56, .ref b57, .ref b58])), (b7, .inl (G.2 0, 503, .inl b59)), (b31, .inl (G.2 0, 2, .inl b60)), (b32, .inl (G.2 0, 2880, .inl b61)), (b1, .inl (G.2 1, 4, .inr (.inl b62))), (b34, .inl (G.2 1, 4, .inr (.inl f_393)))] H := hP
      have hD := z_tie hP hD rfl
      obtain ⟨v_394, ev_394⟩ : ∃ z : Int32, z = y_198 + 1 := ⟨_, rfl⟩
      obtain ⟨qv_394, hv_394⟩ := zI_add (l := 1) (h := 4) hv_392 zc_1 ev_394 (by decide)
      rw [li_1] at qv_394
      refine lv_iinc (v := v_394) (lv' := [(7, .int v_394), (0, .ref b0), (1, .int 0), (2, .ref b1), (3, .int b2), (4, .int b3), (5, .int b4), (6, .int b5)]) hx hb d_Model_step_17 hl (k := 0) rfl (by rw [ev_394]; rfl) (by decide) rfl (fun ls hl => ?_)
      refine lv_goto (tgt := 3) hx hb d_Model_step_20 (by decide) ?_
      exact ihk_197 (v_394) (f_393) _ _ _ (zI.wk (l' := 0) (h' := 4) hv_394 (by decide)) (zm_up qv_394 hmk_197 (by decide)) hP hD hS (lv_sub hl [0, 1, 2, 3, 4, 5, 6, 7] rfl)
theorem d_Model_runs_17 : decode prog_14_method_50_code 17 = .ok (.ireturn, 1) := by decide +kernel
theorem d_Model_runs_92 : decode prog_14_method_50_code 92 = .ok (.ireturn, 1) := by decide +kernel
abbrev m_s2_Model_runs : Room := { frames := 2, cells := 0, slots := 0, locals := 55 }
set_option maxHeartbeats 4000000 in
set_option maxRecDepth 100000 in
theorem s2_Model_runs (l : Launch) (G : zG) (b0 : Nat) (b1 : Int32) (b2 : Int32) (b3 : Nat) (b4 : Nat) (b5 : Nat) (b6 : Nat) (b7 : Int32) (b8 : Nat) (b9 : Int32) (b10 : Int32) (b11 : Int32) (b12 : Int32) (b13 : Nat) (b14 : Nat) (b15 : Nat) (b16 : Int32) (b17 : Nat) (b18 : Nat) (b19 : Nat) (b20 : Nat) (b21 : Nat) (b22 : Nat) (b23 : Nat) (b24 : Nat) (b25 : Nat) (b26 : Nat) (b27 : Nat) (b28 : Nat) (b29 : Int32) (b30 : Nat) (b31 : Nat) (b32 : Int32) (b33 : Int32) (b34 : Int32) (b35 : Int32) (b36 : Nat) (b37 : Nat) (b38 : Nat) (b39 : Nat) (b40 : Nat) (b41 : Nat) (b42 : Nat) (b43 : Int32) (b44 : Nat) (b45 : Nat) (b46 : Int32) (b47 : Nat) (b48 : Nat) (b49 : Nat) (b50 : Nat) (b51 : Nat) (b52 : Int32) (b53 : Nat) (b54 : Nat) (b55 : Nat) (b56 : Nat → Int32) (b57 : Nat → Int32) (b58 : Nat → Int32) (b59 : Nat → Int32) (b60 : Nat → Int32) (b61 : Nat → Int32) (b62 : Nat → Int32) (b63 : Nat → Int64) (b64 : Nat → Int64) (hb1 : zI b1 0 1) (hb7 : zI b7 0 8) (hb9 : zI b9 0 240) (hb10 : zI b10 0 240) (hb12 : zI b12 0 1) (hb16 : zI b16 0 12) (hb29 : zI b29 0 1) (hb32 : zI b32 0 1) (hb43 : zI b43 0 1000) (hb46 : zI b46 0 1000) (hb52 : zI b52 0 400) (hb56 : zW5 b56) (hb57 : zR b57 0 9) (hb59 : zR b59 0 241) (hb61 : zR b61 0 240) (hb62 : zqa qE b62) : zM l G y_Model_runs prog_14_method_50_code 5 (Option.some Jvm.ClassFile.FieldType.int) m_s2_Model_runs [.ref b0, .int 0, .int b1] [(b0, .inr (12, [.int b2, .ref b3, .ref b4, .ref b5, .ref b6, .int b7, .ref b8, .int b9, .int b10, .int b11, .int b12, .ref b13, .ref b14, .ref b15, .int b16, .ref b17, .ref b18, .ref b19, .ref b20, .ref b21, .ref b22, .ref b23, .ref b24, .ref b25, .ref b26, .ref b27, .ref b28, .int b29, .ref b30, .ref b31, .int b32, .int b33, .int b34, .int b35, .ref b36, .ref b37, .ref b38, .ref b39, .ref b40, .ref b41, .ref b42, .int b43, .ref b44, .ref b45, .int b46, .ref b47, .ref b48, .ref b49, .ref b50, .ref b51, .int b52, .ref b53, .ref b54, .ref b55])), (b3, .inl (G.2 0, 503, .inl b56)), (b14, .inl (G.2 0, 12, .inl b57)), (b15, .inl (G.2 0, 12, .inl b58)), (b23, .inl (G.2 0, 2, .inl b59)), (b26, .inl (G.2 0, 482, .inl b60)), (b27, .inl (G.2 0, 2, .inl b61)), (b28, .inl (G.2 0, 2880, .inl b62)), (b30, .inl (G.2 1, 4, .inr (.inl b63))), (b31, .inl (G.2 1, 4, .inr (.inl b64)))] (fun v w => ∃ (e0 : Int32), ∃ (e1 : Nat → Int64), ∃ (e2 : Nat → Int64), v = some (.int e0) ∧ w = [(b0, .inr (12, [.int b2, .ref b3, .ref b4, .ref b5, .ref b6, .int b7, .ref b8, .int b9, .int b10, .int b11, .int b12, .ref b13, .ref b14, .ref b15, .int b16, .ref b17, .ref b18, .ref b19, .ref b20, .ref b21, .ref b22, .ref b23, .ref b24, .ref b25, .ref b26, .ref b27, .ref b28, .int b29, .ref b30, .ref b31, .int b32, .int b33, .int b34, .int b35, .ref b36, .ref b37, .ref b38, .ref b39, .ref b40, .ref b41, .ref b42, .int b43, .ref b44, .ref b45, .int b46, .ref b47, .ref b48, .ref b49, .ref b50, .ref b51, .int b52, .ref b53, .ref b54, .ref b55])), (b3, .inl (G.2 0, 503, .inl b56)), (b14, .inl (G.2 0, 12, .inl b57)), (b15, .inl (G.2 0, 12, .inl b58)), (b23, .inl (G.2 0, 2, .inl b59)), (b26, .inl (G.2 0, 482, .inl b60)), (b27, .inl (G.2 0, 2, .inl b61)), (b28, .inl (G.2 0, 2880, .inl b62)), (b30, .inl (G.2 1, 4, .inr (.inl e1))), (b31, .inl (G.2 1, 4, .inr (.inl e2)))] ∧ (zI e0 (-1) 12)) := by
  refine z_start (by decide +kernel) (Nat.le_of_ble_eq_true rfl) ?_
  intro p e s m below meth c A Z hr hnm hA hP hD hS ls hl
  have Z : zC p s m _ meth c prog_14_method_50_code 5 "TraceMachinesModel" G := Z
  obtain ⟨hx, hb, hml, hown, hts, hK, hN, hlocks⟩ := id Z
  have hl : lv_has ls 5 [(0, .ref b0), (1, .int 0), (2, .int b1)] := hl
  refine lv_aload_n hx hb d_Model_runs_0 rfl (lv_at hl 0 rfl) ?_
  refine lv_iload_n hx hb d_Model_runs_1 rfl (lv_at hl 1 rfl) ?_
  refine z_callV (index := 275) (As := [.int 0]) (rest := []) (wr := [(b3, .inl (G.2 0, 503, .inl b56)), (b14, .inl (G.2 0, 12, .inl b57)), (b15, .inl (G.2 0, 12, .inl b58)), (b26, .inl (G.2 0, 482, .inl b60)), (b27, .inl (G.2 0, 2, .inl b61)), (b28, .inl (G.2 0, 2880, .inl b62)), (b31, .inl (G.2 1, 4, .inr (.inl b64)))]) Z (s2_Model_start l G (b0) (b2) (b3) (b4) (b5) (b6) (b7) (b8) (b9) (b10) (b11) (b12) (b13) (b14) (b15) (b16) (b17) (b18) (b19) (b20) (b21) (b22) (b23) (b24) (b25) (b26) (b27) (b28) (b29) (b30) (b31) (b32) (b33) (b34) (b35) (b36) (b37) (b38) (b39) (b40) (b41) (b42) (b43) (b44) (b45) (b46) (b47) (b48) (b49) (b50) (b51) (b52) (b53) (b54) (b55) (b59) (b63) hb7 hb9 hb10 hb12 hb16 hb29 hb32 hb43 hb46 hb52 hb59) hl.1 q1453 q1455 qs75 q14 q1456 ⟨by decide, by decide, by show _ = some 1; decide +kernel⟩ ⟨Nat.le_of_ble_eq_true rfl, Nat.le_of_ble_eq_true rfl⟩ ⟨Nat.le_of_ble_eq_true rfl, Nat.le_of_ble_eq_true rfl⟩ rfl (Nat.le_of_ble_eq_true rfl) d_Model_runs_2 hP hD hS hA 0 12 rfl rfl rfl [0, 4, 8] [1, 2, 3, 5, 6, 7, 9] rfl rfl rfl rfl (by decide) (fun v w1 H locs hw_1 hP hD hS => ?_)
  obtain ⟨f_2, rfl, rfl⟩ := hw_1
  have hP : va_P G.1 classes [(b3, .inl (G.2 0, 503, .inl b56)), (b14, .inl (G.2 0, 12, .inl b57)), (b15, .inl (G.2 0, 12, .inl b58)), (b26, .inl (G.2 0, 482, .inl b60)), (b27, .inl (G.2 0, 2, .inl b61)), (b28, .inl (G.2 0, 2880, .inl b62)), (b31, .inl (G.2 1, 4, .inr (.inl b64))), (b0, .inr (12, [.int b2, .ref b3, .ref b4, .ref b5, .ref b6, .int b7, .ref b8, .int b9, .int b10, .int b11, .int b12, .ref b13, .ref b14, .ref b15, .int b16, .ref b17, .ref b18, .ref b19, .ref b20, .ref b21, .ref b22, .ref b23, .ref b24, .ref b25, .ref b26, .ref b27, .ref b28, .int b29, .ref b30, .ref b31, .int b32, .int b33, .int b34, .int b35, .ref b36, .ref b37, .ref b38, .ref b39, .ref b40, .ref b41, .ref b42, .int b43, .ref b44, .ref b45, .int b46, .ref b47, .ref b48, .ref b49, .ref b50, .ref b51, .int b52, .ref b53, .ref b54, .ref b55])), (b23, .inl (G.2 0, 2, .inl b59)), (b30, .inl (G.2 1, 4, .inr (.inl f_2)))] H := hP
  have hD := z_tie hP hD rfl
  refine W.widen (k := 0) (n := 0) (Nat.le_of_ble_eq_true rfl) (Nat.le_of_ble_eq_true rfl) ?_
  refine lv_aload_n hx hb d_Model_runs_5 rfl (lv_at hl 0 rfl) ?_
  refine va_get (D := G.1) (ci := 12) (v := .ref b30) (C := R_Model) (T := F_Model) (N := 54) hx hb hts i_Model hown hK hP 7 rfl rfl 28 (by decide) (hts _ q1137) (fun _ h9 => h9) rfl d_Model_runs_6 ?_
  refine lv_iconst (v := 0) hx hb d_Model_runs_9 (by decide) ?_
  refine z_callS (index := 278) (As := [.ref b30, .int 0]) (rest := []) (wr := [(b3, .inl (G.2 0, 503, .inl b56)), (b14, .inl (G.2 0, 12, .inl b57)), (b15, .inl (G.2 0, 12, .inl b58)), (b26, .inl (G.2 0, 482, .inl b60)), (b27, .inl (G.2 0, 2, .inl b61)), (b28, .inl (G.2 0, 2880, .inl b62)), (b31, .inl (G.2 1, 4, .inr (.inl b64))), (b0, .inr (12, [.int b2, .ref b3, .ref b4, .ref b5, .ref b6, .int b7, .ref b8, .int b9, .int b10, .int b11, .int b12, .ref b13, .ref b14, .ref b15, .int b16, .ref b17, .ref b18, .ref b19, .ref b20, .ref b21, .ref b22, .ref b23, .ref b24, .ref b25, .ref b26, .ref b27, .ref b28, .int b29, .ref b30, .ref b31, .int b32, .int b33, .int b34, .int b35, .ref b36, .ref b37, .ref b38, .ref b39, .ref b40, .ref b41, .ref b42, .int b43, .ref b44, .ref b45, .int b46, .ref b47, .ref b48, .ref b49, .ref b50, .ref b51, .int b52, .ref b53, .ref b54, .ref b55])), (b23, .inl (G.2 0, 2, .inl b59))]) Z (s2_Model_isEmpty l G (b30) (0) (f_2) zc_0) hl.1 q1457 q1458 q14 q1459 ⟨by decide, by decide, by show _ = some 2; decide +kernel⟩ ⟨Nat.le_of_ble_eq_true rfl, Nat.le_of_ble_eq_true rfl⟩ ⟨Nat.le_of_ble_eq_true rfl, Nat.le_of_ble_eq_true rfl⟩ rfl (Nat.le_of_ble_eq_true rfl) d_Model_runs_10 hP hD hS hA [9] [0, 1, 2, 3, 4, 5, 6, 7, 8] rfl rfl rfl rfl (by decide) (fun v w1 H locs hw_3 hP hD hS => ?_)
  obtain ⟨x_4, rfl, rfl, hx_4⟩ := hw_3
  have hP : va_P G.1 classes [(b3, .inl (G.2 0, 503, .inl b56)), (b14, .inl (G.2 0, 12, .inl b57)), (b15, .inl (G.2 0, 12, .inl b58)), (b26, .inl (G.2 0, 482, .inl b60)), (b27, .inl (G.2 0, 2, .inl b61)), (b28, .inl (G.2 0, 2880, .inl b62)), (b31, .inl (G.2 1, 4, .inr (.inl b64))), (b0, .inr (12, [.int b2, .ref b3, .ref b4, .ref b5, .ref b6, .int b7, .ref b8, .int b9, .int b10, .int b11, .int b12, .ref b13, .ref b14, .ref b15, .int b16, .ref b17, .ref b18, .ref b19, .ref b20, .ref b21, .ref b22, .ref b23, .ref b24, .ref b25, .ref b26, .ref b27, .ref b28, .int b29, .ref b30, .ref b31, .int b32, .int b33, .int b34, .int b35, .ref b36, .ref b37, .ref b38, .ref b39, .ref b40, .ref b41, .ref b42, .int b43, .ref b44, .ref b45, .int b46, .ref b47, .ref b48, .ref b49, .ref b50, .ref b51, .int b52, .ref b53, .ref b54, .ref b55])), (b23, .inl (G.2 0, 2, .inl b59)), (b30, .inl (G.2 1, 4, .inr (.inl f_2)))] H := hP
  have hD := z_tie hP hD rfl
  refine W.widen (k := 0) (n := 0) (Nat.le_of_ble_eq_true rfl) (Nat.le_of_ble_eq_true rfl) ?_
  refine lv_if_eq (tgt := 18) hx hb d_Model_runs_13 (by decide) (fun hc_5 => ?_) (fun hc_5 => ?_)
  · have _nhc_5 := hc_5
    have ni_6 := (fa_eq _ _).mp hc_5
    rw [li_0] at ni_6
    have hv_7 : zI x_4 0 0 := zI.eq_l hx_4 zc_0 hc_5
    refine lv_iconst (v := 0) hx hb d_Model_runs_18 (by decide) ?_
    refine lv_istore_n (lv' := [(3, .int 0), (0, .ref b0), (1, .int 0), (2, .int b1)]) hx hb d_Model_runs_19 rfl hl (by decide) rfl (fun ls hl => ?_)
    suffices key : ∀ (k_63 : Nat) (y_64 : Int32) (y_65 : Nat → Int64) (y_66 : Nat → Int64) (H : Heap) (locs : List Loc) (ls : Array Slot), (zI y_64 0 12) → (12 : Int) - y_64.toInt < (k_63 : Int) → va_P G.1 classes [(b3, .inl (G.2 0, 503, .inl b56)), (b14, .inl (G.2 0, 12, .inl b57)), (b15, .inl (G.2 0, 12, .inl b58)), (b26, .inl (G.2 0, 482, .inl b60)), (b27, .inl (G.2 0, 2, .inl b61)), (b28, .inl (G.2 0, 2880, .inl b62)), (b31, .inl (G.2 1, 4, .inr (.inl y_66))), (b0, .inr (12, [.int b2, .ref b3, .ref b4, .ref b5, .ref b6, .int b7, .ref b8, .int b9, .int b10, .int b11, .int b12, .ref b13, .ref b14, .ref b15, .int b16, .ref b17, .ref b18, .ref b19, .ref b20, .ref b21, .ref b22, .ref b23, .ref b24, .ref b25, .ref b26, .ref b27, .ref b28, .int b29, .ref b30, .ref b31, .int b32, .int b33, .int b34, .int b35, .ref b36, .ref b37, .ref b38, .ref b39, .ref b40, .ref b41, .ref b42, .int b43, .ref b44, .ref b45, .int b46, .ref b47, .ref b48, .ref b49, .ref b50, .ref b51, .int b52, .ref b53, .ref b54, .ref b55])), (b23, .inl (G.2 0, 2, .inl b59)), (b30, .inl (G.2 1, 4, .inr (.inl y_65)))] H → va_D A [(b3, .inl (G.2 0, 503, .inl b56)), (b14, .inl (G.2 0, 12, .inl b57)), (b15, .inl (G.2 0, 12, .inl b58)), (b26, .inl (G.2 0, 482, .inl b60)), (b27, .inl (G.2 0, 2, .inl b61)), (b28, .inl (G.2 0, 2880, .inl b62)), (b31, .inl (G.2 1, 4, .inr (.inl y_66))), (b0, .inr (12, [.int b2, .ref b3, .ref b4, .ref b5, .ref b6, .int b7, .ref b8, .int b9, .int b10, .int b11, .int b12, .ref b13, .ref b14, .ref b15, .int b16, .ref b17, .ref b18, .ref b19, .ref b20, .ref b21, .ref b22, .ref b23, .ref b24, .ref b25, .ref b26, .ref b27, .ref b28, .int b29, .ref b30, .ref b31, .int b32, .int b33, .int b34, .int b35, .ref b36, .ref b37, .ref b38, .ref b39, .ref b40, .ref b41, .ref b42, .int b43, .ref b44, .ref b45, .int b46, .ref b47, .ref b48, .ref b49, .ref b50, .ref b51, .int b52, .ref b53, .ref b54, .ref b55])), (b23, .inl (G.2 0, 2, .inl b59)), (b30, .inl (G.2 1, 4, .inr (.inl y_65)))] → va_S A s.heap H locs → lv_has ls 5 [(3, .int y_64), (0, .ref b0), (1, .int 0), (2, .int b1)] → W p l e m_s2_Model_runs s m ([.ref b0, .int 0, .int b1] : List Value).toArray below meth c H locs 0 0 (MQ below (zQ G (fun v w => ∃ (e0 : Int32), ∃ (e1 : Nat → Int64), ∃ (e2 : Nat → Int64), v = some (.int e0) ∧ w = [(b0, .inr (12, [.int b2, .ref b3, .ref b4, .ref b5, .ref b6, .int b7, .ref b8, .int b9, .int b10, .int b11, .int b12, .ref b13, .ref b14, .ref b15, .int b16, .ref b17, .ref b18, .ref b19, .ref b20, .ref b21, .ref b22, .ref b23, .ref b24, .ref b25, .ref b26, .ref b27, .ref b28, .int b29, .ref b30, .ref b31, .int b32, .int b33, .int b34, .int b35, .ref b36, .ref b37, .ref b38, .ref b39, .ref b40, .ref b41, .ref b42, .int b43, .ref b44, .ref b45, .int b46, .ref b47, .ref b48, .ref b49, .ref b50, .ref b51, .int b52, .ref b53, .ref b54, .ref b55])), (b3, .inl (G.2 0, 503, .inl b56)), (b14, .inl (G.2 0, 12, .inl b57)), (b15, .inl (G.2 0, 12, .inl b58)), (b23, .inl (G.2 0, 2, .inl b59)), (b26, .inl (G.2 0, 482, .inl b60)), (b27, .inl (G.2 0, 2, .inl b61)), (b28, .inl (G.2 0, 2880, .inl b62)), (b30, .inl (G.2 1, 4, .inr (.inl e1))), (b31, .inl (G.2 1, 4, .inr (.inl e2)))] ∧ (zI e0 (-1) 12)) A) ([.ref b0, .int 0, .int b1] : List Value).toArray s m_s2_Model_runs.cells m_s2_Model_runs.slots A) (F0 m 20 ls []) by
      exact key 13 (0) (f_2) (b64) _ _ _ (zI.wk (l' := 0) (h' := 12) zc_0 (by decide)) (zm_upi (zI.wk (l' := 0) (h' := 12) zc_0 (by decide)) (by decide)) hP hD hS (lv_sub hl [0, 1, 2, 3] rfl)
    intro k_63
    induction k_63 with
    | zero =>
      intro y_64 y_65 y_66 H locs ls hy_64 hmk_63 hP hD hS hl
      exact (zm_up0 hy_64 hmk_63).elim
    | succ k_63 ihk_63 =>
      intro y_64 y_65 y_66 H locs ls hy_64 hmk_63 hP hD hS hl
      refine lv_iload_n hx hb d_Model_runs_20 rfl (lv_at hl 0 rfl) ?_
      refine lv_aload_n hx hb d_Model_runs_21 rfl (lv_at hl 1 rfl) ?_
      refine va_get (D := G.1) (ci := 12) (v := .int b16) (C := R_Model) (T := F_Model) (N := 54) hx hb hts i_Model hown hK hP 7 rfl rfl 14 (by decide) (hts _ q1123) (fun _ h9 => h9) rfl d_Model_runs_22 ?_
      refine lv_icmp_ge (tgt := 99) hx hb d_Model_runs_25 (by decide) (fun hc_67 => ?_) (fun hc_67 => ?_)
      · have _nhc_67 := hc_67
        have ni_68 := (fa_le _ _).mp hc_67
        refine lv_aload_n hx hb d_Model_runs_99 rfl (lv_at hl 1 rfl) ?_
        refine lv_iload_n hx hb d_Model_runs_100 rfl (lv_at hl 2 rfl) ?_
        refine lv_aload_n hx hb d_Model_runs_101 rfl (lv_at hl 1 rfl) ?_
        refine va_get (D := G.1) (ci := 12) (v := .ref b30) (C := R_Model) (T := F_Model) (N := 54) hx hb hts i_Model hown hK hP 7 rfl rfl 28 (by decide) (hts _ q1137) (fun _ h9 => h9) rfl d_Model_runs_102 ?_
        refine lv_iconst (v := 0) hx hb d_Model_runs_105 (by decide) ?_
        refine z_callV (index := 286) (As := [.int 0, .ref b30, .int 0]) (rest := []) (wr := [(b3, .inl (G.2 0, 503, .inl b56)), (b14, .inl (G.2 0, 12, .inl b57)), (b15, .inl (G.2 0, 12, .inl b58)), (b27, .inl (G.2 0, 2, .inl b61)), (b28, .inl (G.2 0, 2880, .inl b62)), (b31, .inl (G.2 1, 4, .inr (.inl y_66)))]) Z (s2_Model_takes l G (b0) (b30) (0) (b2) (b3) (b4) (b5) (b6) (b7) (b8) (b9) (b10) (b11) (b12) (b13) (b14) (b15) (b16) (b17) (b18) (b19) (b20) (b21) (b22) (b23) (b24) (b25) (b26) (b27) (b28) (b29) (b31) (b32) (b33) (b34) (b35) (b36) (b37) (b38) (b39) (b40) (b41) (b42) (b43) (b44) (b45) (b46) (b47) (b48) (b49) (b50) (b51) (b52) (b53) (b54) (b55) (b59) (b60) (y_65) zc_0 hb7 hb9 hb10 hb12 hb16 hb29 hb32 hb43 hb46 hb52 hb59) hl.1 q1467 q1469 qs77 q14 q1470 ⟨by decide, by decide, by show _ = some 3; decide +kernel⟩ ⟨Nat.le_of_ble_eq_true rfl, Nat.le_of_ble_eq_true rfl⟩ ⟨Nat.le_of_ble_eq_true rfl, Nat.le_of_ble_eq_true rfl⟩ rfl (Nat.le_of_ble_eq_true rfl) d_Model_runs_106 hP hD hS hA 7 12 rfl rfl rfl [7, 8, 3, 9] [0, 1, 2, 4, 5, 6] rfl rfl rfl rfl (by decide) (fun v w1 H locs hw_69 hP hD hS => ?_)
        obtain ⟨x_70, rfl, rfl, hx_70⟩ := hw_69
        have hP : va_P G.1 classes [(b3, .inl (G.2 0, 503, .inl b56)), (b14, .inl (G.2 0, 12, .inl b57)), (b15, .inl (G.2 0, 12, .inl b58)), (b27, .inl (G.2 0, 2, .inl b61)), (b28, .inl (G.2 0, 2880, .inl b62)), (b31, .inl (G.2 1, 4, .inr (.inl y_66))), (b0, .inr (12, [.int b2, .ref b3, .ref b4, .ref b5, .ref b6, .int b7, .ref b8, .int b9, .int b10, .int b11, .int b12, .ref b13, .ref b14, .ref b15, .int b16, .ref b17, .ref b18, .ref b19, .ref b20, .ref b21, .ref b22, .ref b23, .ref b24, .ref b25, .ref b26, .ref b27, .ref b28, .int b29, .ref b30, .ref b31, .int b32, .int b33, .int b34, .int b35, .ref b36, .ref b37, .ref b38, .ref b39, .ref b40, .ref b41, .ref b42, .int b43, .ref b44, .ref b45, .int b46, .ref b47, .ref b48, .ref b49, .ref b50, .ref b51, .int b52, .ref b53, .ref b54, .ref b55])), (b23, .inl (G.2 0, 2, .inl b59)), (b26, .inl (G.2 0, 482, .inl b60)), (b30, .inl (G.2 1, 4, .inr (.inl y_65)))] H := hP
        have hD := z_tie hP hD rfl
        refine W.widen (k := 0) (n := 0) (Nat.le_of_ble_eq_true rfl) (Nat.le_of_ble_eq_true rfl) ?_
        refine lv_if_eq (tgt := 116) hx hb d_Model_runs_109 (by decide) (fun hc_71 => ?_) (fun hc_71 => ?_)
        · have _nhc_71 := hc_71
          have ni_72 := (fa_eq _ _).mp hc_71
          rw [li_0] at ni_72
          have hv_73 : zI x_70 0 0 := zI.eq_l hx_70 zc_0 hc_71
          refine lv_aload_n hx hb d_Model_runs_116 rfl (lv_at hl 1 rfl) ?_
          refine va_get (D := G.1) (ci := 12) (v := .int b16) (C := R_Model) (T := F_Model) (N := 54) hx hb hts i_Model hown hK hP 6 rfl rfl 14 (by decide) (hts _ q1123) (fun _ h9 => h9) rfl d_Model_runs_117 ?_
          exact z_iret hx hb hr hlocks (hP.sub [6, 0, 1, 2, 7, 8, 3, 4, 9, 5] rfl) (hD.sub [6, 0, 1, 2, 7, 8, 3, 4, 9, 5] (by decide) rfl) hS (Nat.le_of_ble_eq_true rfl) (Nat.le_of_ble_eq_true rfl) d_Model_runs_120 ⟨b16, y_65, y_66, rfl, rfl, (zI.wk (l' := (-1)) (h' := 12) hb16 (by decide))⟩
        · have _nhc_71 := hc_71
          have ni_74 : ¬ (x_70 : Int32).toInt = (0 : Int32).toInt := fun z => hc_71 ((fa_eq _ _).mpr z)
          simp only [li_0] at ni_74
          have hv_75 : zI x_70 1 1 := zI.ne_lo hx_70 zc_0 hc_71 (by decide)
          refine lv_iconst (v := (-1)) hx hb d_Model_runs_112 (by decide) ?_
          refine lv_goto (tgt := 120) hx hb d_Model_runs_113 (by decide) ?_
          exact z_iret hx hb hr hlocks (hP.sub [6, 0, 1, 2, 7, 8, 3, 4, 9, 5] rfl) (hD.sub [6, 0, 1, 2, 7, 8, 3, 4, 9, 5] (by decide) rfl) hS (Nat.le_of_ble_eq_true rfl) (Nat.le_of_ble_eq_true rfl) d_Model_runs_120 ⟨(-1), y_65, y_66, rfl, rfl, (zI.wk (l' := (-1)) (h' := 12) zc_m1 (by decide))⟩
      · have _nhc_67 := hc_67
        have ni_76 := (fa_lt _ _).mp (zi_nle hc_67)
        have hv_77 : zI y_64 0 11 := zI.lt_l hy_64 hb16 (zi_nle hc_67) (by decide)
        have hv_78 : zI b16 1 12 := zI.lt_r hy_64 hb16 (zi_nle hc_67) (by decide)
        refine lv_aload_n hx hb d_Model_runs_28 rfl (lv_at hl 1 rfl) ?_
        refine lv_iload_n hx hb d_Model_runs_29 rfl (lv_at hl 2 rfl) ?_
        refine lv_aload_n hx hb d_Model_runs_30 rfl (lv_at hl 1 rfl) ?_
        refine va_get (D := G.1) (ci := 12) (v := .ref b30) (C := R_Model) (T := F_Model) (N := 54) hx hb hts i_Model hown hK hP 7 rfl rfl 28 (by decide) (hts _ q1137) (fun _ h9 => h9) rfl d_Model_runs_31 ?_
        refine lv_iconst (v := 0) hx hb d_Model_runs_34 (by decide) ?_
        refine lv_aload_n hx hb d_Model_runs_35 rfl (lv_at hl 1 rfl) ?_
        refine va_get (D := G.1) (ci := 12) (v := .ref b14) (C := R_Model) (T := F_Model) (N := 54) hx hb hts i_Model hown hK hP 7 rfl rfl 12 (by decide) (hts _ q1121) (fun _ h9 => h9) rfl d_Model_runs_36 ?_
        refine lv_iload_n hx hb d_Model_runs_39 rfl (lv_at hl 0 rfl) ?_
        refine va_iald hx hb hK hP 1 0 rfl rfl (zI.inn hv_77 (by decide)) d_Model_runs_40 ?_
        refine lv_topi (fun v_79 ev_79 => ?_)
        have hv_79 : zI v_79 0 9 := (hb57 _).eq ev_79
        refine lv_aload_n hx hb d_Model_runs_41 rfl (lv_at hl 1 rfl) ?_
        refine va_get (D := G.1) (ci := 12) (v := .ref b15) (C := R_Model) (T := F_Model) (N := 54) hx hb hts i_Model hown hK hP 7 rfl rfl 13 (by decide) (hts _ q1122) (fun _ h9 => h9) rfl d_Model_runs_42 ?_
        refine lv_iload_n hx hb d_Model_runs_45 rfl (lv_at hl 0 rfl) ?_
        refine va_iald hx hb hK hP 2 0 rfl rfl (zI.inn hv_77 (by decide)) d_Model_runs_46 ?_
        refine lv_topi (fun v_80 ev_80 => ?_)
        refine lv_iload_n hx hb d_Model_runs_47 rfl (lv_at hl 3 rfl) ?_
        refine z_callV (index := 282) (As := [.int 0, .ref b30, .int 0, .int v_79, .int v_80, .int b1]) (rest := []) (wr := [(b14, .inl (G.2 0, 12, .inl b57)), (b15, .inl (G.2 0, 12, .inl b58)), (b26, .inl (G.2 0, 482, .inl b60)), (b23, .inl (G.2 0, 2, .inl b59))]) Z (s2_Model_step l G (b0) (b30) (0) (v_79) (v_80) (b1) (b2) (b3) (b4) (b5) (b6) (b7) (b8) (b9) (b10) (b11) (b12) (b13) (b14) (b15) (b16) (b17) (b18) (b19) (b20) (b21) (b22) (b23) (b24) (b25) (b26) (b27) (b28) (b29) (b31) (b32) (b33) (b34) (b35) (b36) (b37) (b38) (b39) (b40) (b41) (b42) (b43) (b44) (b45) (b46) (b47) (b48) (b49) (b50) (b51) (b52) (b53) (b54) (b55) (b56) (b61) (b62) (y_65) (y_66) zc_0 hv_79 hb1 hb7 hb9 hb10 hb12 (zI.wk (l' := 0) (h' := 12) hv_78 (by decide)) hb29 hb32 hb43 hb46 hb52 hb56 hb61 hb62) hl.1 q1460 q1462 qs76 q14 q1463 ⟨by decide, by decide, by show _ = some 6; decide +kernel⟩ ⟨Nat.le_of_ble_eq_true rfl, Nat.le_of_ble_eq_true rfl⟩ ⟨Nat.le_of_ble_eq_true rfl, Nat.le_of_ble_eq_true rfl⟩ rfl (Nat.le_of_ble_eq_true rfl) d_Model_runs_48 hP hD hS hA 7 12 rfl rfl rfl [7, 0, 4, 5, 9, 6] [1, 2, 3, 8] rfl rfl rfl rfl (by decide) (fun v w1 H locs hw_81 hP hD hS => ?_)
        obtain ⟨f_82, rfl, rfl⟩ := hw_81
        have hP : va_P G.1 classes [(b14, .inl (G.2 0, 12, .inl b57)), (b15, .inl (G.2 0, 12, .inl b58)), (b26, .inl (G.2 0, 482, .inl b60)), (b23, .inl (G.2 0, 2, .inl b59)), (b0, .inr (12, [.int b2, .ref b3, .ref b4, .ref b5, .ref b6, .int b7, .ref b8, .int b9, .int b10, .int b11, .int b12, .ref b13, .ref b14, .ref b15, .int b16, .ref b17, .ref b18, .ref b19, .ref b20, .ref b21, .ref b22, .ref b23, .ref b24, .ref b25, .ref b26, .ref b27, .ref b28, .int b29, .ref b30, .ref b31, .int b32, .int b33, .int b34, .int b35, .ref b36, .ref b37, .ref b38, .ref b39, .ref b40, .ref b41, .ref b42, .int b43, .ref b44, .ref b45, .int b46, .ref b47, .ref b48, .ref b49, .ref b50, .ref b51, .int b52, .ref b53, .ref b54, .ref b55])), (b3, .inl (G.2 0, 503, .inl b56)), (b27, .inl (G.2 0, 2, .inl b61)), (b28, .inl (G.2 0, 2880, .inl b62)), (b30, .inl (G.2 1, 4, .inr (.inl y_65))), (b31, .inl (G.2 1, 4, .inr (.inl f_82)))] H := hP
        have hD := z_tie hP hD rfl
        refine W.widen (k := 0) (n := 0) (Nat.le_of_ble_eq_true rfl) (Nat.le_of_ble_eq_true rfl) ?_
        refine lv_iconst (v := 0) hx hb d_Model_runs_51 (by decide) ?_
        refine lv_istore (lv' := [(4, .int 0), (3, .int y_64), (0, .ref b0), (1, .int 0), (2, .int b1)]) hx hb d_Model_runs_52 hl (by decide) rfl (fun ls hl => ?_)
        suffices key : ∀ (k_101 : Nat) (y_102 : Int32) (y_103 : Nat → Int64) (H : Heap) (locs : List Loc) (ls : Array Slot), (zI y_102 0 4) → (4 : Int) - y_102.toInt < (k_101 : Int) → va_P G.1 classes [(b14, .inl (G.2 0, 12, .inl b57)), (b15, .inl (G.2 0, 12, .inl b58)), (b26, .inl (G.2 0, 482, .inl b60)), (b23, .inl (G.2 0, 2, .inl b59)), (b0, .inr (12, [.int b2, .ref b3, .ref b4, .ref b5, .ref b6, .int b7, .ref b8, .int b9, .int b10, .int b11, .int b12, .ref b13, .ref b14, .ref b15, .int b16, .ref b17, .ref b18, .ref b19, .ref b20, .ref b21, .ref b22, .ref b23, .ref b24, .ref b25, .ref b26, .ref b27, .ref b28, .int b29, .ref b30, .ref b31, .int b32, .int b33, .int b34, .int b35, .ref b36, .ref b37, .ref b38, .ref b39, .ref b40, .ref b41, .ref b42, .int b43, .ref b44, .ref b45, .int b46, .ref b47, .ref b48, .ref b49, .ref b50, .ref b51, .int b52, .ref b53, .ref b54, .ref b55])), (b3, .inl (G.2 0, 503, .inl b56)), (b27, .inl (G.2 0, 2, .inl b61)), (b28, .inl (G.2 0, 2880, .inl b62)), (b30, .inl (G.2 1, 4, .inr (.inl y_103))), (b31, .inl (G.2 1, 4, .inr (.inl f_82)))] H → va_D A [(b14, .inl (G.2 0, 12, .inl b57)), (b15, .inl (G.2 0, 12, .inl b58)), (b26, .inl (G.2 0, 482, .inl b60)), (b23, .inl (G.2 0, 2, .inl b59)), (b0, .inr (12, [.int b2, .ref b3, .ref b4, .ref b5, .ref b6, .int b7, .ref b8, .int b9, .int b10, .int b11, .int b12, .ref b13, .ref b14, .ref b15, .int b16, .ref b17, .ref b18, .ref b19, .ref b20, .ref b21, .ref b22, .ref b23, .ref b24, .ref b25, .ref b26, .ref b27, .ref b28, .int b29, .ref b30, .ref b31, .int b32, .int b33, .int b34, .int b35, .ref b36, .ref b37, .ref b38, .ref b39, .ref b40, .ref b41, .ref b42, .int b43, .ref b44, .ref b45, .int b46, .ref b47, .ref b48, .ref b49, .ref b50, .ref b51, .int b52, .ref b53, .ref b54, .ref b55])), (b3, .inl (G.2 0, 503, .inl b56)), (b27, .inl (G.2 0, 2, .inl b61)), (b28, .inl (G.2 0, 2880, .inl b62)), (b30, .inl (G.2 1, 4, .inr (.inl y_103))), (b31, .inl (G.2 1, 4, .inr (.inl f_82)))] → va_S A s.heap H locs → lv_has ls 5 [(4, .int y_102), (3, .int y_64), (0, .ref b0), (1, .int 0), (2, .int b1)] → W p l e m_s2_Model_runs s m ([.ref b0, .int 0, .int b1] : List Value).toArray below meth c H locs 0 0 (MQ below (zQ G (fun v w => ∃ (e0 : Int32), ∃ (e1 : Nat → Int64), ∃ (e2 : Nat → Int64), v = some (.int e0) ∧ w = [(b0, .inr (12, [.int b2, .ref b3, .ref b4, .ref b5, .ref b6, .int b7, .ref b8, .int b9, .int b10, .int b11, .int b12, .ref b13, .ref b14, .ref b15, .int b16, .ref b17, .ref b18, .ref b19, .ref b20, .ref b21, .ref b22, .ref b23, .ref b24, .ref b25, .ref b26, .ref b27, .ref b28, .int b29, .ref b30, .ref b31, .int b32, .int b33, .int b34, .int b35, .ref b36, .ref b37, .ref b38, .ref b39, .ref b40, .ref b41, .ref b42, .int b43, .ref b44, .ref b45, .int b46, .ref b47, .ref b48, .ref b49, .ref b50, .ref b51, .int b52, .ref b53, .ref b54, .ref b55])), (b3, .inl (G.2 0, 503, .inl b56)), (b14, .inl (G.2 0, 12, .inl b57)), (b15, .inl (G.2 0, 12, .inl b58)), (b23, .inl (G.2 0, 2, .inl b59)), (b26, .inl (G.2 0, 482, .inl b60)), (b27, .inl (G.2 0, 2, .inl b61)), (b28, .inl (G.2 0, 2880, .inl b62)), (b30, .inl (G.2 1, 4, .inr (.inl e1))), (b31, .inl (G.2 1, 4, .inr (.inl e2)))] ∧ (zI e0 (-1) 12)) A) ([.ref b0, .int 0, .int b1] : List Value).toArray s m_s2_Model_runs.cells m_s2_Model_runs.slots A) (F0 m 54 ls []) by
          exact key 5 (0) (y_65) _ _ _ (zI.wk (l' := 0) (h' := 4) zc_0 (by decide)) (zm_upi (zI.wk (l' := 0) (h' := 4) zc_0 (by decide)) (by decide)) hP hD hS (lv_sub hl [0, 1, 2, 3, 4] rfl)
        intro k_101
        induction k_101 with
        | zero =>
          intro y_102 y_103 H locs ls hy_102 hmk_101 hP hD hS hl
          exact (zm_up0 hy_102 hmk_101).elim
        | succ k_101 ihk_101 =>
          intro y_102 y_103 H locs ls hy_102 hmk_101 hP hD hS hl
          refine lv_iload hx hb d_Model_runs_54 (lv_at hl 0 rfl) ?_
          refine lv_iconst (v := 4) hx hb d_Model_runs_56 (by decide) ?_
          refine lv_icmp_ge (tgt := 80) hx hb d_Model_runs_57 (by decide) (fun hc_104 => ?_) (fun hc_104 => ?_)
          · have _nhc_104 := hc_104
            have ni_105 := (fa_le _ _).mp hc_104
            rw [li_4] at ni_105
            have hv_106 : zI y_102 4 4 := zI.le_r zc_4 hy_102 hc_104 (by decide)
            refine lv_aload_n hx hb d_Model_runs_80 rfl (lv_at hl 2 rfl) ?_
            refine va_get (D := G.1) (ci := 12) (v := .ref b30) (C := R_Model) (T := F_Model) (N := 54) hx hb hts i_Model hown hK hP 4 rfl rfl 28 (by decide) (hts _ q1137) (fun _ h9 => h9) rfl d_Model_runs_81 ?_
            refine lv_iconst (v := 0) hx hb d_Model_runs_84 (by decide) ?_
            refine z_callS (index := 278) (As := [.ref b30, .int 0]) (rest := []) (wr := [(b14, .inl (G.2 0, 12, .inl b57)), (b15, .inl (G.2 0, 12, .inl b58)), (b26, .inl (G.2 0, 482, .inl b60)), (b23, .inl (G.2 0, 2, .inl b59)), (b0, .inr (12, [.int b2, .ref b3, .ref b4, .ref b5, .ref b6, .int b7, .ref b8, .int b9, .int b10, .int b11, .int b12, .ref b13, .ref b14, .ref b15, .int b16, .ref b17, .ref b18, .ref b19, .ref b20, .ref b21, .ref b22, .ref b23, .ref b24, .ref b25, .ref b26, .ref b27, .ref b28, .int b29, .ref b30, .ref b31, .int b32, .int b33, .int b34, .int b35, .ref b36, .ref b37, .ref b38, .ref b39, .ref b40, .ref b41, .ref b42, .int b43, .ref b44, .ref b45, .int b46, .ref b47, .ref b48, .ref b49, .ref b50, .ref b51, .int b52, .ref b53, .ref b54, .ref b55])), (b3, .inl (G.2 0, 503, .inl b56)), (b27, .inl (G.2 0, 2, .inl b61)), (b28, .inl (G.2 0, 2880, .inl b62)), (b31, .inl (G.2 1, 4, .inr (.inl f_82)))]) Z (s2_Model_isEmpty l G (b30) (0) (y_103) zc_0) hl.1 q1457 q1458 q14 q1459 ⟨by decide, by decide, by show _ = some 2; decide +kernel⟩ ⟨Nat.le_of_ble_eq_true rfl, Nat.le_of_ble_eq_true rfl⟩ ⟨Nat.le_of_ble_eq_true rfl, Nat.le_of_ble_eq_true rfl⟩ rfl (Nat.le_of_ble_eq_true rfl) d_Model_runs_85 hP hD hS hA [8] [0, 1, 2, 3, 4, 5, 6, 7, 9] rfl rfl rfl rfl (by decide) (fun v w1 H locs hw_107 hP hD hS => ?_)
            obtain ⟨x_108, rfl, rfl, hx_108⟩ := hw_107
            have hP : va_P G.1 classes [(b14, .inl (G.2 0, 12, .inl b57)), (b15, .inl (G.2 0, 12, .inl b58)), (b26, .inl (G.2 0, 482, .inl b60)), (b23, .inl (G.2 0, 2, .inl b59)), (b0, .inr (12, [.int b2, .ref b3, .ref b4, .ref b5, .ref b6, .int b7, .ref b8, .int b9, .int b10, .int b11, .int b12, .ref b13, .ref b14, .ref b15, .int b16, .ref b17, .ref b18, .ref b19, .ref b20, .ref b21, .ref b22, .ref b23, .ref b24, .ref b25, .ref b26, .ref b27, .ref b28, .int b29, .ref b30, .ref b31, .int b32, .int b33, .int b34, .int b35, .ref b36, .ref b37, .ref b38, .ref b39, .ref b40, .ref b41, .ref b42, .int b43, .ref b44, .ref b45, .int b46, .ref b47, .ref b48, .ref b49, .ref b50, .ref b51, .int b52, .ref b53, .ref b54, .ref b55])), (b3, .inl (G.2 0, 503, .inl b56)), (b27, .inl (G.2 0, 2, .inl b61)), (b28, .inl (G.2 0, 2880, .inl b62)), (b31, .inl (G.2 1, 4, .inr (.inl f_82))), (b30, .inl (G.2 1, 4, .inr (.inl y_103)))] H := hP
            have hD := z_tie hP hD rfl
            refine W.widen (k := 0) (n := 0) (Nat.le_of_ble_eq_true rfl) (Nat.le_of_ble_eq_true rfl) ?_
            refine lv_if_eq (tgt := 93) hx hb d_Model_runs_88 (by decide) (fun hc_109 => ?_) (fun hc_109 => ?_)
            · have _nhc_109 := hc_109
              have ni_110 := (fa_eq _ _).mp hc_109
              rw [li_0] at ni_110
              have hv_111 : zI x_108 0 0 := zI.eq_l hx_108 zc_0 hc_109
              obtain ⟨v_112, ev_112⟩ : ∃ z : Int32, z = y_64 + 1 := ⟨_, rfl⟩
              obtain ⟨qv_112, hv_112⟩ := zI_add (l := 1) (h := 12) hv_77 zc_1 ev_112 (by decide)
              rw [li_1] at qv_112
              refine lv_iinc (v := v_112) (lv' := [(3, .int v_112), (4, .int y_102), (0, .ref b0), (1, .int 0), (2, .int b1)]) hx hb d_Model_runs_93 hl (k := 1) rfl (by rw [ev_112]; rfl) (by decide) rfl (fun ls hl => ?_)
              refine lv_goto (tgt := 20) hx hb d_Model_runs_96 (by decide) ?_
              exact ihk_63 (v_112) (y_103) (f_82) _ _ _ (zI.wk (l' := 0) (h' := 12) hv_112 (by decide)) (zm_up qv_112 hmk_63 (by decide)) (hP.sub [5, 0, 1, 2, 6, 7, 8, 4, 3, 9] rfl) (hD.sub [5, 0, 1, 2, 6, 7, 8, 4, 3, 9] (by decide) rfl) hS (lv_sub hl [0, 2, 3, 4] rfl)
            · have _nhc_109 := hc_109
              have ni_113 : ¬ (x_108 : Int32).toInt = (0 : Int32).toInt := fun z => hc_109 ((fa_eq _ _).mpr z)
              simp only [li_0] at ni_113
              have hv_114 : zI x_108 1 1 := zI.ne_lo hx_108 zc_0 hc_109 (by decide)
              refine lv_iload_n hx hb d_Model_runs_91 rfl (lv_at hl 1 rfl) ?_
              exact z_iret hx hb hr hlocks (hP.sub [4, 5, 0, 1, 3, 2, 6, 7, 9, 8] rfl) (hD.sub [4, 5, 0, 1, 3, 2, 6, 7, 9, 8] (by decide) rfl) hS (Nat.le_of_ble_eq_true rfl) (Nat.le_of_ble_eq_true rfl) d_Model_runs_92 ⟨y_64, y_103, f_82, rfl, rfl, (zI.wk (l' := (-1)) (h' := 12) hv_77 (by decide))⟩
          · have _nhc_104 := hc_104
            have ni_115 := (fa_lt _ _).mp (zi_nle hc_104)
            rw [li_4] at ni_115
            have hv_116 : zI y_102 0 3 := zI.lt_l hy_102 zc_4 (zi_nle hc_104) (by decide)
            refine lv_aload_n hx hb d_Model_runs_60 rfl (lv_at hl 2 rfl) ?_
            refine va_get (D := G.1) (ci := 12) (v := .ref b30) (C := R_Model) (T := F_Model) (N := 54) hx hb hts i_Model hown hK hP 4 rfl rfl 28 (by decide) (hts _ q1137) (fun _ h9 => h9) rfl d_Model_runs_61 ?_
            refine lv_iload hx hb d_Model_runs_64 (lv_at hl 0 rfl) ?_
            refine lv_aload_n hx hb d_Model_runs_66 rfl (lv_at hl 2 rfl) ?_
            refine va_get (D := G.1) (ci := 12) (v := .ref b31) (C := R_Model) (T := F_Model) (N := 54) hx hb hts i_Model hown hK hP 4 rfl rfl 29 (by decide) (hts _ q1138) (fun _ h9 => h9) rfl d_Model_runs_67 ?_
            refine lv_iload hx hb d_Model_runs_70 (lv_at hl 0 rfl) ?_
            refine va_lald hx hb hK hP 9 1 rfl rfl (zI.inn hv_116 (by decide)) d_Model_runs_72 ?_
            refine lv_topl (fun v_117 ev_117 => ?_)
            refine va_last hx hb hK hP hD hS 8 1 rfl rfl (zI.inn hv_116 (by decide)) d_Model_runs_73 (fun H locs hP hD hS => ?_)
            obtain ⟨f_118, hP, hD⟩ := z_newL 8 hP hD rfl
            have hP : va_P G.1 classes [(b14, .inl (G.2 0, 12, .inl b57)), (b15, .inl (G.2 0, 12, .inl b58)), (b26, .inl (G.2 0, 482, .inl b60)), (b23, .inl (G.2 0, 2, .inl b59)), (b0, .inr (12, [.int b2, .ref b3, .ref b4, .ref b5, .ref b6, .int b7, .ref b8, .int b9, .int b10, .int b11, .int b12, .ref b13, .ref b14, .ref b15, .int b16, .ref b17, .ref b18, .ref b19, .ref b20, .ref b21, .ref b22, .ref b23, .ref b24, .ref b25, .ref b26, .ref b27, .ref b28, .int b29, .ref b30, .ref b31, .int b32, .int b33, .int b34, .int b35, .ref b36, .ref b37, .ref b38, .ref b39, .ref b40, .ref b41, .ref b42, .int b43, .ref b44, .ref b45, .int b46, .ref b47, .ref b48, .ref b49, .ref b50, .ref b51, .int b52, .ref b53, .ref b54, .ref b55])), (b3, .inl (G.2 0, 503, .inl b56)), (b27, .inl (G.2 0, 2, .inl b61)), (b28, .inl (G.2 0, 2880, .inl b62)), (b30, .inl (G.2 1, 4, .inr (.inl f_118))), (b31, .inl (G.2 1, 4, .inr (.inl f_82)))] H := hP
            have hD := z_tie hP hD rfl
            obtain ⟨v_119, ev_119⟩ : ∃ z : Int32, z = y_102 + 1 := ⟨_, rfl⟩
            obtain ⟨qv_119, hv_119⟩ := zI_add (l := 1) (h := 4) hv_116 zc_1 ev_119 (by decide)
            rw [li_1] at qv_119
            refine lv_iinc (v := v_119) (lv' := [(4, .int v_119), (3, .int y_64), (0, .ref b0), (1, .int 0), (2, .int b1)]) hx hb d_Model_runs_74 hl (k := 0) rfl (by rw [ev_119]; rfl) (by decide) rfl (fun ls hl => ?_)
            refine lv_goto (tgt := 54) hx hb d_Model_runs_77 (by decide) ?_
            exact ihk_101 (v_119) (f_118) _ _ _ (zI.wk (l' := 0) (h' := 4) hv_119 (by decide)) (zm_up qv_119 hmk_101 (by decide)) hP hD hS (lv_sub hl [0, 1, 2, 3, 4] rfl)
  · have _nhc_5 := hc_5
    have ni_120 : ¬ (x_4 : Int32).toInt = (0 : Int32).toInt := fun z => hc_5 ((fa_eq _ _).mpr z)
    simp only [li_0] at ni_120
    have hv_121 : zI x_4 1 1 := zI.ne_lo hx_4 zc_0 hc_5 (by decide)
    refine lv_iconst (v := 0) hx hb d_Model_runs_16 (by decide) ?_
    exact z_iret hx hb hr hlocks (hP.sub [7, 0, 1, 2, 8, 3, 4, 5, 9, 6] rfl) (hD.sub [7, 0, 1, 2, 8, 3, 4, 5, 9, 6] (by decide) rfl) hS (Nat.le_of_ble_eq_true rfl) (Nat.le_of_ble_eq_true rfl) d_Model_runs_17 ⟨0, f_2, b64, rfl, rfl, (zI.wk (l' := (-1)) (h' := 12) zc_0 (by decide))⟩
theorem d_Model_run_38 : decode prog_14_method_51_code 38 = .ok (.ireturn, 1) := by decide +kernel
theorem d_Model_run_127 : decode prog_14_method_51_code 127 = .ok (.ireturn, 1) := by decide +kernel
abbrev m_s1_Model_run : Room := { frames := 5, cells := 0, slots := 0, locals := 124 }
abbrev Q_s1_Model_run (G : zG) (b0 : Nat) (b3 : Nat) (b4 : Nat) (b5 : Nat) (b6 : Nat) (b7 : Int32) (b8 : Nat) (b13 : Nat) (b14 : Nat) (b15 : Nat) (b17 : Nat) (b18 : Nat) (b19 : Nat) (b20 : Nat) (b21 : Nat) (b22 : Nat) (b23 : Nat) (b24 : Nat) (b25 : Nat) (b26 : Nat) (b27 : Nat) (b28 : Nat) (b30 : Nat) (b31 : Nat) (b36 : Nat) (b37 : Nat) (b38 : Nat) (b39 : Nat) (b40 : Nat) (b41 : Nat) (b42 : Nat) (b43 : Int32) (b44 : Nat) (b45 : Nat) (b46 : Int32) (b47 : Nat) (b48 : Nat) (b49 : Nat) (b50 : Nat) (b51 : Nat) (b52 : Int32) (b53 : Nat) (b54 : Nat) (b55 : Nat) (b56 : Nat → Int32) (b57 : Nat → Int32) (e0 : Int32) (e1 : Int32) (e2 : Int32) (e3 : Int32) (e4 : Int32) (e5 : Int32) (e6 : Int32) (e7 : Int32) (e8 : Int32) (e9 : Int32) (e10 : Nat → Int32) (e11 : Nat → Int32) (e12 : Nat → Int32) (e13 : Nat → Int32) (e14 : Nat → Int32) (e15 : Nat → Int32) (e16 : Nat → Int32) (e17 : Nat → Int32) (e18 : Nat → Int32) (e19 : Nat → Int32) (e20 : Nat → Int32) (e21 : Nat → Int32) (e22 : Nat → Int32) (e23 : Nat → Int32) (e24 : Nat → Int64) (e25 : Nat → Int64) (v : Option Value) (w : va_W) : Prop := v = some (.int e0) ∧ w = [(b0, .inr (12, [.int 0, .ref b3, .ref b4, .ref b5, .ref b6, .int b7, .ref b8, .int 0, .int e1, .int e2, .int e3, .ref b13, .ref b14, .ref b15, .int e4, .ref b17, .ref b18, .ref b19, .ref b20, .ref b21, .ref b22, .ref b23, .ref b24, .ref b25, .ref b26, .ref b27, .ref b28, .int e5, .ref b30, .ref b31, .int e6, .int e7, .int e8, .int e9, .ref b36, .ref b37, .ref b38, .ref b39, .ref b40, .ref b41, .ref b42, .int b43, .ref b44, .ref b45, .int b46, .ref b47, .ref b48, .ref b49, .ref b50, .ref b51, .int b52, .ref b53, .ref b54, .ref b55])), (b3, .inl (G.2 0, 503, .inl b56)), (b8, .inl (G.2 3, 240, .inl b57)), (b14, .inl (G.2 0, 12, .inl e10)), (b15, .inl (G.2 0, 12, .inl e11)), (b17, .inl (G.2 0, 2, .inl e12)), (b18, .inl (G.2 0, 4820, .inl e13)), (b19, .inl (G.2 0, 520, .inl e14)), (b20, .inl (G.2 0, 9640, .inl e15)), (b21, .inl (G.2 0, 482, .inl e16)), (b22, .inl (G.2 0, 482, .inl e17)), (b23, .inl (G.2 0, 2, .inl e18)), (b24, .inl (G.2 0, 482, .inl e19)), (b25, .inl (G.2 0, 482, .inl e20)), (b26, .inl (G.2 0, 482, .inl e21)), (b27, .inl (G.2 0, 2, .inl e22)), (b28, .inl (G.2 0, 2880, .inl e23)), (b30, .inl (G.2 1, 4, .inr (.inl e24))), (b31, .inl (G.2 1, 4, .inr (.inl e25)))] ∧ (zI e1 0 240) ∧ (zI e3 0 1) ∧ (zI e4 0 12) ∧ (zI e5 0 1) ∧ (zI e6 0 1) ∧ (zR e10 0 9) ∧ (zR e12 0 241) ∧ (zR e13 (-1) 240) ∧ (zqa qP e14) ∧ (zqa qC e16) ∧ (zR e17 0 240) ∧ (zR e18 0 241) ∧ (zR e19 0 240) ∧ (zR e22 0 240) ∧ (zqa qE e23)
set_option maxHeartbeats 4000000 in
set_option maxRecDepth 100000 in
theorem s1_Model_run (l : Launch) (G : zG) (b0 : Nat) (b1 : Int32) (b2 : Int32) (b3 : Nat) (b4 : Nat) (b5 : Nat) (b6 : Nat) (b7 : Int32) (b8 : Nat) (b9 : Int32) (b10 : Int32) (b11 : Int32) (b12 : Int32) (b13 : Nat) (b14 : Nat) (b15 : Nat) (b16 : Int32) (b17 : Nat) (b18 : Nat) (b19 : Nat) (b20 : Nat) (b21 : Nat) (b22 : Nat) (b23 : Nat) (b24 : Nat) (b25 : Nat) (b26 : Nat) (b27 : Nat) (b28 : Nat) (b29 : Int32) (b30 : Nat) (b31 : Nat) (b32 : Int32) (b33 : Int32) (b34 : Int32) (b35 : Int32) (b36 : Nat) (b37 : Nat) (b38 : Nat) (b39 : Nat) (b40 : Nat) (b41 : Nat) (b42 : Nat) (b43 : Int32) (b44 : Nat) (b45 : Nat) (b46 : Int32) (b47 : Nat) (b48 : Nat) (b49 : Nat) (b50 : Nat) (b51 : Nat) (b52 : Int32) (b53 : Nat) (b54 : Nat) (b55 : Nat) (b56 : Nat → Int32) (b57 : Nat → Int32) (b58 : Nat → Int32) (b59 : Nat → Int32) (b60 : Nat → Int32) (b61 : Nat → Int32) (b62 : Nat → Int32) (b63 : Nat → Int32) (b64 : Nat → Int32) (b65 : Nat → Int32) (b66 : Nat → Int32) (b67 : Nat → Int32) (b68 : Nat → Int32) (b69 : Nat → Int32) (b70 : Nat → Int32) (b71 : Nat → Int32) (b72 : Nat → Int64) (b73 : Nat → Int64) (hb1 : zI b1 0 1) (hb7 : zI b7 0 8) (hb9 : zI b9 0 240) (hb10 : zI b10 0 240) (hb12 : zI b12 0 1) (hb16 : zI b16 0 12) (hb29 : zI b29 0 1) (hb32 : zI b32 0 1) (hb43 : zI b43 0 1000) (hb46 : zI b46 0 1000) (hb52 : zI b52 0 400) (hb56 : zW5 b56) (hb58 : zR b58 0 9) (hb60 : zR b60 0 241) (hb61 : zR b61 (-1) 240) (hb62 : zqa qP b62) (hb64 : zqa qC b64) (hb65 : zR b65 0 240) (hb66 : zR b66 0 241) (hb67 : zR b67 0 240) (hb70 : zR b70 0 240) (hb71 : zqa qE b71) : zM l G y_Model_run prog_14_method_51_code 3 (Option.some Jvm.ClassFile.FieldType.int) m_s1_Model_run [.ref b0, .int b1] [(b0, .inr (12, [.int b2, .ref b3, .ref b4, .ref b5, .ref b6, .int b7, .ref b8, .int b9, .int b10, .int b11, .int b12, .ref b13, .ref b14, .ref b15, .int b16, .ref b17, .ref b18, .ref b19, .ref b20, .ref b21, .ref b22, .ref b23, .ref b24, .ref b25, .ref b26, .ref b27, .ref b28, .int b29, .ref b30, .ref b31, .int b32, .int b33, .int b34, .int b35, .ref b36, .ref b37, .ref b38, .ref b39, .ref b40, .ref b41, .ref b42, .int b43, .ref b44, .ref b45, .int b46, .ref b47, .ref b48, .ref b49, .ref b50, .ref b51, .int b52, .ref b53, .ref b54, .ref b55])), (b3, .inl (G.2 0, 503, .inl b56)), (b8, .inl (G.2 3, 240, .inl b57)), (b14, .inl (G.2 0, 12, .inl b58)), (b15, .inl (G.2 0, 12, .inl b59)), (b17, .inl (G.2 0, 2, .inl b60)), (b18, .inl (G.2 0, 4820, .inl b61)), (b19, .inl (G.2 0, 520, .inl b62)), (b20, .inl (G.2 0, 9640, .inl b63)), (b21, .inl (G.2 0, 482, .inl b64)), (b22, .inl (G.2 0, 482, .inl b65)), (b23, .inl (G.2 0, 2, .inl b66)), (b24, .inl (G.2 0, 482, .inl b67)), (b25, .inl (G.2 0, 482, .inl b68)), (b26, .inl (G.2 0, 482, .inl b69)), (b27, .inl (G.2 0, 2, .inl b70)), (b28, .inl (G.2 0, 2880, .inl b71)), (b30, .inl (G.2 1, 4, .inr (.inl b72))), (b31, .inl (G.2 1, 4, .inr (.inl b73)))] (fun v w => ∃ (e0 : Int32), ∃ (e1 : Int32), ∃ (e2 : Int32), ∃ (e3 : Int32), ∃ (e4 : Int32), ∃ (e5 : Int32), ∃ (e6 : Int32), ∃ (e7 : Int32), ∃ (e8 : Int32), ∃ (e9 : Int32), ∃ (e10 : Nat → Int32), ∃ (e11 : Nat → Int32), ∃ (e12 : Nat → Int32), ∃ (e13 : Nat → Int32), ∃ (e14 : Nat → Int32), ∃ (e15 : Nat → Int32), ∃ (e16 : Nat → Int32), ∃ (e17 : Nat → Int32), ∃ (e18 : Nat → Int32), ∃ (e19 : Nat → Int32), ∃ (e20 : Nat → Int32), ∃ (e21 : Nat → Int32), ∃ (e22 : Nat → Int32), ∃ (e23 : Nat → Int32), ∃ (e24 : Nat → Int64), ∃ (e25 : Nat → Int64), Q_s1_Model_run G b0 b3 b4 b5 b6 b7 b8 b13 b14 b15 b17 b18 b19 b20 b21 b22 b23 b24 b25 b26 b27 b28 b30 b31 b36 b37 b38 b39 b40 b41 b42 b43 b44 b45 b46 b47 b48 b49 b50 b51 b52 b53 b54 b55 b56 b57 e0 e1 e2 e3 e4 e5 e6 e7 e8 e9 e10 e11 e12 e13 e14 e15 e16 e17 e18 e19 e20 e21 e22 e23 e24 e25 v w) := by
  refine z_start (by decide +kernel) (Nat.le_of_ble_eq_true rfl) ?_
  intro p e s m below meth c A Z hr hnm hA hP hD hS ls hl
  have Z : zC p s m _ meth c prog_14_method_51_code 3 "TraceMachinesModel" G := Z
  obtain ⟨hx, hb, hml, hown, hts, hK, hN, hlocks⟩ := id Z
  have hl : lv_has ls 3 [(0, .ref b0), (1, .int b1)] := hl
  refine lv_aload_n hx hb d_Model_run_0 rfl (lv_at hl 0 rfl) ?_
  refine lv_iconst (v := 0) hx hb d_Model_run_1 (by decide) ?_
  refine va_put (D := G.1) (ci := 12) (v := .int 0) (ty := .int) (C := R_Model) (T := F_Model) (N := 54) hx hb hts i_Model t_Model t_Model_ok n_Model hown hK hP hD hS 0 rfl rfl 0 (by decide) (hts _ q1109) (fun _ h9 => h9) rfl (by decide +kernel) rfl rfl (Nat.le_of_ble_eq_true rfl) d_Model_run_2 (fun H locs hP hD hS => ?_)
  have hP : va_P G.1 classes [(b0, .inr (12, [.int 0, .ref b3, .ref b4, .ref b5, .ref b6, .int b7, .ref b8, .int b9, .int b10, .int b11, .int b12, .ref b13, .ref b14, .ref b15, .int b16, .ref b17, .ref b18, .ref b19, .ref b20, .ref b21, .ref b22, .ref b23, .ref b24, .ref b25, .ref b26, .ref b27, .ref b28, .int b29, .ref b30, .ref b31, .int b32, .int b33, .int b34, .int b35, .ref b36, .ref b37, .ref b38, .ref b39, .ref b40, .ref b41, .ref b42, .int b43, .ref b44, .ref b45, .int b46, .ref b47, .ref b48, .ref b49, .ref b50, .ref b51, .int b52, .ref b53, .ref b54, .ref b55])), (b3, .inl (G.2 0, 503, .inl b56)), (b8, .inl (G.2 3, 240, .inl b57)), (b14, .inl (G.2 0, 12, .inl b58)), (b15, .inl (G.2 0, 12, .inl b59)), (b17, .inl (G.2 0, 2, .inl b60)), (b18, .inl (G.2 0, 4820, .inl b61)), (b19, .inl (G.2 0, 520, .inl b62)), (b20, .inl (G.2 0, 9640, .inl b63)), (b21, .inl (G.2 0, 482, .inl b64)), (b22, .inl (G.2 0, 482, .inl b65)), (b23, .inl (G.2 0, 2, .inl b66)), (b24, .inl (G.2 0, 482, .inl b67)), (b25, .inl (G.2 0, 482, .inl b68)), (b26, .inl (G.2 0, 482, .inl b69)), (b27, .inl (G.2 0, 2, .inl b70)), (b28, .inl (G.2 0, 2880, .inl b71)), (b30, .inl (G.2 1, 4, .inr (.inl b72))), (b31, .inl (G.2 1, 4, .inr (.inl b73)))] H := hP
  have hD := z_tie hP hD rfl
  refine lv_aload_n hx hb d_Model_run_5 rfl (lv_at hl 0 rfl) ?_
  refine lv_iconst (v := 0) hx hb d_Model_run_6 (by decide) ?_
  refine va_put (D := G.1) (ci := 12) (v := .int 0) (ty := .int) (C := R_Model) (T := F_Model) (N := 54) hx hb hts i_Model t_Model t_Model_ok n_Model hown hK hP hD hS 0 rfl rfl 8 (by decide) (hts _ q1117) (fun _ h9 => h9) rfl (by decide +kernel) rfl rfl (Nat.le_of_ble_eq_true rfl) d_Model_run_7 (fun H locs hP hD hS => ?_)
  have hP : va_P G.1 classes [(b0, .inr (12, [.int 0, .ref b3, .ref b4, .ref b5, .ref b6, .int b7, .ref b8, .int b9, .int 0, .int b11, .int b12, .ref b13, .ref b14, .ref b15, .int b16, .ref b17, .ref b18, .ref b19, .ref b20, .ref b21, .ref b22, .ref b23, .ref b24, .ref b25, .ref b26, .ref b27, .ref b28, .int b29, .ref b30, .ref b31, .int b32, .int b33, .int b34, .int b35, .ref b36, .ref b37, .ref b38, .ref b39, .ref b40, .ref b41, .ref b42, .int b43, .ref b44, .ref b45, .int b46, .ref b47, .ref b48, .ref b49, .ref b50, .ref b51, .int b52, .ref b53, .ref b54, .ref b55])), (b3, .inl (G.2 0, 503, .inl b56)), (b8, .inl (G.2 3, 240, .inl b57)), (b14, .inl (G.2 0, 12, .inl b58)), (b15, .inl (G.2 0, 12, .inl b59)), (b17, .inl (G.2 0, 2, .inl b60)), (b18, .inl (G.2 0, 4820, .inl b61)), (b19, .inl (G.2 0, 520, .inl b62)), (b20, .inl (G.2 0, 9640, .inl b63)), (b21, .inl (G.2 0, 482, .inl b64)), (b22, .inl (G.2 0, 482, .inl b65)), (b23, .inl (G.2 0, 2, .inl b66)), (b24, .inl (G.2 0, 482, .inl b67)), (b25, .inl (G.2 0, 482, .inl b68)), (b26, .inl (G.2 0, 482, .inl b69)), (b27, .inl (G.2 0, 2, .inl b70)), (b28, .inl (G.2 0, 2880, .inl b71)), (b30, .inl (G.2 1, 4, .inr (.inl b72))), (b31, .inl (G.2 1, 4, .inr (.inl b73)))] H := hP
  have hD := z_tie hP hD rfl
  refine lv_aload_n hx hb d_Model_run_10 rfl (lv_at hl 0 rfl) ?_
  refine lv_iconst (v := 1) hx hb d_Model_run_11 (by decide) ?_
  refine va_put (D := G.1) (ci := 12) (v := .int 1) (ty := .boolean) (C := R_Model) (T := F_Model) (N := 54) hx hb hts i_Model t_Model t_Model_ok n_Model hown hK hP hD hS 0 rfl rfl 10 (by decide) (hts _ q1119) (fun _ h9 => h9) rfl (by decide +kernel) rfl rfl (Nat.le_of_ble_eq_true rfl) d_Model_run_12 (fun H locs hP hD hS => ?_)
  have hP : va_P G.1 classes [(b0, .inr (12, [.int 0, .ref b3, .ref b4, .ref b5, .ref b6, .int b7, .ref b8, .int b9, .int 0, .int b11, .int 1, .ref b13, .ref b14, .ref b15, .int b16, .ref b17, .ref b18, .ref b19, .ref b20, .ref b21, .ref b22, .ref b23, .ref b24, .ref b25, .ref b26, .ref b27, .ref b28, .int b29, .ref b30, .ref b31, .int b32, .int b33, .int b34, .int b35, .ref b36, .ref b37, .ref b38, .ref b39, .ref b40, .ref b41, .ref b42, .int b43, .ref b44, .ref b45, .int b46, .ref b47, .ref b48, .ref b49, .ref b50, .ref b51, .int b52, .ref b53, .ref b54, .ref b55])), (b3, .inl (G.2 0, 503, .inl b56)), (b8, .inl (G.2 3, 240, .inl b57)), (b14, .inl (G.2 0, 12, .inl b58)), (b15, .inl (G.2 0, 12, .inl b59)), (b17, .inl (G.2 0, 2, .inl b60)), (b18, .inl (G.2 0, 4820, .inl b61)), (b19, .inl (G.2 0, 520, .inl b62)), (b20, .inl (G.2 0, 9640, .inl b63)), (b21, .inl (G.2 0, 482, .inl b64)), (b22, .inl (G.2 0, 482, .inl b65)), (b23, .inl (G.2 0, 2, .inl b66)), (b24, .inl (G.2 0, 482, .inl b67)), (b25, .inl (G.2 0, 482, .inl b68)), (b26, .inl (G.2 0, 482, .inl b69)), (b27, .inl (G.2 0, 2, .inl b70)), (b28, .inl (G.2 0, 2880, .inl b71)), (b30, .inl (G.2 1, 4, .inr (.inl b72))), (b31, .inl (G.2 1, 4, .inr (.inl b73)))] H := hP
  have hD := z_tie hP hD rfl
  refine lv_aload_n hx hb d_Model_run_15 rfl (lv_at hl 0 rfl) ?_
  refine z_callV (index := 176) (As := []) (rest := []) (wr := [(b3, .inl (G.2 0, 503, .inl b56)), (b17, .inl (G.2 0, 2, .inl b60)), (b18, .inl (G.2 0, 4820, .inl b61)), (b19, .inl (G.2 0, 520, .inl b62)), (b20, .inl (G.2 0, 9640, .inl b63)), (b21, .inl (G.2 0, 482, .inl b64)), (b22, .inl (G.2 0, 482, .inl b65)), (b23, .inl (G.2 0, 2, .inl b66)), (b24, .inl (G.2 0, 482, .inl b67)), (b25, .inl (G.2 0, 482, .inl b68)), (b26, .inl (G.2 0, 482, .inl b69)), (b27, .inl (G.2 0, 2, .inl b70)), (b28, .inl (G.2 0, 2880, .inl b71)), (b30, .inl (G.2 1, 4, .inr (.inl b72))), (b31, .inl (G.2 1, 4, .inr (.inl b73)))]) Z (s1_Model_readCalls l G (b0) (0) (b3) (b4) (b5) (b6) (b7) (b8) (b9) (0) (b11) (1) (b13) (b14) (b15) (b16) (b17) (b18) (b19) (b20) (b21) (b22) (b23) (b24) (b25) (b26) (b27) (b28) (b29) (b30) (b31) (b32) (b33) (b34) (b35) (b36) (b37) (b38) (b39) (b40) (b41) (b42) (b43) (b44) (b45) (b46) (b47) (b48) (b49) (b50) (b51) (b52) (b53) (b54) (b55) (b57) (b58) (b59) hb7 hb9 (zI.wk (l' := 0) (h' := 240) zc_0 (by decide)) (zI.wk (l' := 0) (h' := 1) zc_1 (by decide)) hb16 hb29 hb32 hb43 hb46 hb52 hb58) hl.1 q1300 q1302 qs47 q14 q1303 ⟨by decide, by decide, by show _ = some 0; decide +kernel⟩ ⟨Nat.le_of_ble_eq_true rfl, Nat.le_of_ble_eq_true rfl⟩ ⟨Nat.le_of_ble_eq_true rfl, Nat.le_of_ble_eq_true rfl⟩ rfl (Nat.le_of_ble_eq_true rfl) d_Model_run_16 hP hD hS hA 0 12 rfl rfl rfl [0, 2, 3, 4] [1, 5, 6, 7, 8, 9, 10, 11, 12, 13, 14, 15, 16, 17, 18] rfl rfl rfl rfl (by decide) (fun v w1 H locs hw_1 hP hD hS => ?_)
  obtain ⟨x_2, x_3, x_4, x_5, f_6, f_7, rfl, rfl, hx_2, hx_4, hx_5, hf_6, hfx_8⟩ := hw_1
  have hP : va_P G.1 classes [(b3, .inl (G.2 0, 503, .inl b56)), (b17, .inl (G.2 0, 2, .inl b60)), (b18, .inl (G.2 0, 4820, .inl b61)), (b19, .inl (G.2 0, 520, .inl b62)), (b20, .inl (G.2 0, 9640, .inl b63)), (b21, .inl (G.2 0, 482, .inl b64)), (b22, .inl (G.2 0, 482, .inl b65)), (b23, .inl (G.2 0, 2, .inl b66)), (b24, .inl (G.2 0, 482, .inl b67)), (b25, .inl (G.2 0, 482, .inl b68)), (b26, .inl (G.2 0, 482, .inl b69)), (b27, .inl (G.2 0, 2, .inl b70)), (b28, .inl (G.2 0, 2880, .inl b71)), (b30, .inl (G.2 1, 4, .inr (.inl b72))), (b31, .inl (G.2 1, 4, .inr (.inl b73))), (b0, .inr (12, [.int 0, .ref b3, .ref b4, .ref b5, .ref b6, .int b7, .ref b8, .int b9, .int x_2, .int x_3, .int x_4, .ref b13, .ref b14, .ref b15, .int x_5, .ref b17, .ref b18, .ref b19, .ref b20, .ref b21, .ref b22, .ref b23, .ref b24, .ref b25, .ref b26, .ref b27, .ref b28, .int b29, .ref b30, .ref b31, .int b32, .int b33, .int b34, .int b35, .ref b36, .ref b37, .ref b38, .ref b39, .ref b40, .ref b41, .ref b42, .int b43, .ref b44, .ref b45, .int b46, .ref b47, .ref b48, .ref b49, .ref b50, .ref b51, .int b52, .ref b53, .ref b54, .ref b55])), (b8, .inl (G.2 3, 240, .inl b57)), (b14, .inl (G.2 0, 12, .inl f_6)), (b15, .inl (G.2 0, 12, .inl f_7))] H := hP
  have hD := z_tie hP hD rfl
  refine W.widen (k := 0) (n := 0) (Nat.le_of_ble_eq_true rfl) (Nat.le_of_ble_eq_true rfl) ?_
  refine lv_aload_n hx hb d_Model_run_19 rfl (lv_at hl 0 rfl) ?_
  refine z_callV (index := 185) (As := []) (rest := []) (wr := [(b3, .inl (G.2 0, 503, .inl b56)), (b17, .inl (G.2 0, 2, .inl b60)), (b18, .inl (G.2 0, 4820, .inl b61)), (b19, .inl (G.2 0, 520, .inl b62)), (b20, .inl (G.2 0, 9640, .inl b63)), (b21, .inl (G.2 0, 482, .inl b64)), (b22, .inl (G.2 0, 482, .inl b65)), (b23, .inl (G.2 0, 2, .inl b66)), (b24, .inl (G.2 0, 482, .inl b67)), (b25, .inl (G.2 0, 482, .inl b68)), (b26, .inl (G.2 0, 482, .inl b69)), (b27, .inl (G.2 0, 2, .inl b70)), (b28, .inl (G.2 0, 2880, .inl b71)), (b30, .inl (G.2 1, 4, .inr (.inl b72))), (b31, .inl (G.2 1, 4, .inr (.inl b73))), (b14, .inl (G.2 0, 12, .inl f_6)), (b15, .inl (G.2 0, 12, .inl f_7))]) Z (s1_Model_endsReading l G (b0) (0) (b3) (b4) (b5) (b6) (b7) (b8) (b9) (x_2) (x_3) (x_4) (b13) (b14) (b15) (x_5) (b17) (b18) (b19) (b20) (b21) (b22) (b23) (b24) (b25) (b26) (b27) (b28) (b29) (b30) (b31) (b32) (b33) (b34) (b35) (b36) (b37) (b38) (b39) (b40) (b41) (b42) (b43) (b44) (b45) (b46) (b47) (b48) (b49) (b50) (b51) (b52) (b53) (b54) (b55) (b57) hb7 hb9 hx_2 hx_4 hx_5 hb29 hb32 hb43 hb46 hb52) hl.1 q1312 q1314 qs49 q14 q1315 ⟨by decide, by decide, by show _ = some 0; decide +kernel⟩ ⟨Nat.le_of_ble_eq_true rfl, Nat.le_of_ble_eq_true rfl⟩ ⟨Nat.le_of_ble_eq_true rfl, Nat.le_of_ble_eq_true rfl⟩ rfl (Nat.le_of_ble_eq_true rfl) d_Model_run_20 hP hD hS hA 15 12 rfl rfl rfl [15, 16] [0, 1, 2, 3, 4, 5, 6, 7, 8, 9, 10, 11, 12, 13, 14, 17, 18] rfl rfl rfl rfl (by decide) (fun v w1 H locs hw_9 hP hD hS => ?_)
  obtain ⟨x_10, x_11, x_12, rfl, rfl, hx_10, hx_12⟩ := hw_9
  have hP : va_P G.1 classes [(b3, .inl (G.2 0, 503, .inl b56)), (b17, .inl (G.2 0, 2, .inl b60)), (b18, .inl (G.2 0, 4820, .inl b61)), (b19, .inl (G.2 0, 520, .inl b62)), (b20, .inl (G.2 0, 9640, .inl b63)), (b21, .inl (G.2 0, 482, .inl b64)), (b22, .inl (G.2 0, 482, .inl b65)), (b23, .inl (G.2 0, 2, .inl b66)), (b24, .inl (G.2 0, 482, .inl b67)), (b25, .inl (G.2 0, 482, .inl b68)), (b26, .inl (G.2 0, 482, .inl b69)), (b27, .inl (G.2 0, 2, .inl b70)), (b28, .inl (G.2 0, 2880, .inl b71)), (b30, .inl (G.2 1, 4, .inr (.inl b72))), (b31, .inl (G.2 1, 4, .inr (.inl b73))), (b14, .inl (G.2 0, 12, .inl f_6)), (b15, .inl (G.2 0, 12, .inl f_7)), (b0, .inr (12, [.int 0, .ref b3, .ref b4, .ref b5, .ref b6, .int b7, .ref b8, .int 0, .int x_10, .int x_11, .int x_12, .ref b13, .ref b14, .ref b15, .int x_5, .ref b17, .ref b18, .ref b19, .ref b20, .ref b21, .ref b22, .ref b23, .ref b24, .ref b25, .ref b26, .ref b27, .ref b28, .int b29, .ref b30, .ref b31, .int b32, .int b33, .int b34, .int b35, .ref b36, .ref b37, .ref b38, .ref b39, .ref b40, .ref b41, .ref b42, .int b43, .ref b44, .ref b45, .int b46, .ref b47, .ref b48, .ref b49, .ref b50, .ref b51, .int b52, .ref b53, .ref b54, .ref b55])), (b8, .inl (G.2 3, 240, .inl b57))] H := hP
  have hD := z_tie hP hD rfl
  refine W.widen (k := 0) (n := 0) (Nat.le_of_ble_eq_true rfl) (Nat.le_of_ble_eq_true rfl) ?_
  refine lv_aload_n hx hb d_Model_run_23 rfl (lv_at hl 0 rfl) ?_
  refine va_get (D := G.1) (ci := 12) (v := .int x_12) (C := R_Model) (T := F_Model) (N := 54) hx hb hts i_Model hown hK hP 17 rfl rfl 10 (by decide) (hts _ q1119) (fun _ h9 => h9) rfl d_Model_run_24 ?_
  refine lv_if_ne (tgt := 39) hx hb d_Model_run_27 (by decide) (fun hc_13 => ?_) (fun hc_13 => ?_)
  · have _nhc_13 := hc_13
    have ni_14 : ¬ (x_12 : Int32).toInt = (0 : Int32).toInt := fun z => hc_13 ((fa_eq _ _).mpr z)
    simp only [li_0] at ni_14
    have hv_15 : zI x_12 1 1 := zI.ne_lo hx_12 zc_0 hc_13 (by decide)
    refine lv_aload_n hx hb d_Model_run_39 rfl (lv_at hl 0 rfl) ?_
    refine z_callV (index := 254) (As := []) (rest := []) (wr := [(b30, .inl (G.2 1, 4, .inr (.inl b72))), (b31, .inl (G.2 1, 4, .inr (.inl b73))), (b14, .inl (G.2 0, 12, .inl f_6)), (b15, .inl (G.2 0, 12, .inl f_7)), (b8, .inl (G.2 3, 240, .inl b57))]) Z (s1_Model_lay1 l G (b0) (0) (b3) (b4) (b5) (b6) (b7) (b8) (0) (x_10) (x_11) (x_12) (b13) (b14) (b15) (x_5) (b17) (b18) (b19) (b20) (b21) (b22) (b23) (b24) (b25) (b26) (b27) (b28) (b29) (b30) (b31) (b32) (b33) (b34) (b35) (b36) (b37) (b38) (b39) (b40) (b41) (b42) (b43) (b44) (b45) (b46) (b47) (b48) (b49) (b50) (b51) (b52) (b53) (b54) (b55) (b56) (b60) (b61) (b62) (b63) (b64) (b65) (b66) (b67) (b68) (b69) (b70) (b71) hb7 (zI.wk (l' := 0) (h' := 240) zc_0 (by decide)) hx_10 (zI.wk (l' := 0) (h' := 1) hv_15 (by decide)) hx_5 hb29 hb32 hb43 hb46 hb52 hb56 hb60 hb61 hb62 hb64 hb65 hb66 hb67 hb70 hb71) hl.1 q1356 q1358 qs55 q14 q1359 ⟨by decide, by decide, by show _ = some 0; decide +kernel⟩ ⟨Nat.le_of_ble_eq_true rfl, Nat.le_of_ble_eq_true rfl⟩ ⟨Nat.le_of_ble_eq_true rfl, Nat.le_of_ble_eq_true rfl⟩ rfl (Nat.le_of_ble_eq_true rfl) d_Model_run_40 hP hD hS hA 17 12 rfl rfl rfl [17, 0, 1, 2, 3, 4, 5, 6, 7, 8, 9, 10, 11, 12] [13, 14, 15, 16, 18] rfl rfl rfl rfl (by decide) (fun v w1 H locs hw_16 hP hD hS => ?_)
    refine Exists.elim hw_16 (fun x_17 hz_31 => Exists.elim hz_31 (fun f_18 hz_32 => Exists.elim hz_32 (fun f_19 hz_33 => Exists.elim hz_33 (fun f_20 hz_34 => Exists.elim hz_34 (fun f_21 hz_35 => Exists.elim hz_35 (fun f_22 hz_36 => Exists.elim hz_36 (fun f_23 hz_37 => Exists.elim hz_37 (fun f_24 hz_38 => Exists.elim hz_38 (fun f_25 hz_39 => Exists.elim hz_39 (fun f_26 hz_40 => Exists.elim hz_40 (fun f_27 hz_41 => Exists.elim hz_41 (fun f_28 hz_42 => Exists.elim hz_42 (fun f_29 hz_43 => ?_)))))))))))))
    clear hw_16 hz_31 hz_32 hz_33 hz_34 hz_35 hz_36 hz_37 hz_38 hz_39 hz_40 hz_41 hz_42
    obtain ⟨rfl, rfl, hx_17, hf_18, hf_19, hf_20, hf_22, hf_23, hf_24, hf_25, hf_28, hf_29, hfx_30⟩ := hz_43
    have hP : va_P G.1 classes [(b30, .inl (G.2 1, 4, .inr (.inl b72))), (b31, .inl (G.2 1, 4, .inr (.inl b73))), (b14, .inl (G.2 0, 12, .inl f_6)), (b15, .inl (G.2 0, 12, .inl f_7)), (b8, .inl (G.2 3, 240, .inl b57)), (b0, .inr (12, [.int 0, .ref b3, .ref b4, .ref b5, .ref b6, .int b7, .ref b8, .int 0, .int x_10, .int x_11, .int x_12, .ref b13, .ref b14, .ref b15, .int x_5, .ref b17, .ref b18, .ref b19, .ref b20, .ref b21, .ref b22, .ref b23, .ref b24, .ref b25, .ref b26, .ref b27, .ref b28, .int x_17, .ref b30, .ref b31, .int b32, .int b33, .int b34, .int b35, .ref b36, .ref b37, .ref b38, .ref b39, .ref b40, .ref b41, .ref b42, .int b43, .ref b44, .ref b45, .int b46, .ref b47, .ref b48, .ref b49, .ref b50, .ref b51, .int b52, .ref b53, .ref b54, .ref b55])), (b3, .inl (G.2 0, 503, .inl b56)), (b17, .inl (G.2 0, 2, .inl f_18)), (b18, .inl (G.2 0, 4820, .inl f_19)), (b19, .inl (G.2 0, 520, .inl f_20)), (b20, .inl (G.2 0, 9640, .inl f_21)), (b21, .inl (G.2 0, 482, .inl f_22)), (b22, .inl (G.2 0, 482, .inl f_23)), (b23, .inl (G.2 0, 2, .inl f_24)), (b24, .inl (G.2 0, 482, .inl f_25)), (b25, .inl (G.2 0, 482, .inl f_26)), (b26, .inl (G.2 0, 482, .inl f_27)), (b27, .inl (G.2 0, 2, .inl f_28)), (b28, .inl (G.2 0, 2880, .inl f_29))] H := hP
    have hD := z_tie hP hD rfl
    refine W.widen (k := 0) (n := 0) (Nat.le_of_ble_eq_true rfl) (Nat.le_of_ble_eq_true rfl) ?_
    refine lv_aload_n hx hb d_Model_run_43 rfl (lv_at hl 0 rfl) ?_
    refine lv_iconst (v := 1) hx hb d_Model_run_44 (by decide) ?_
    refine va_put (D := G.1) (ci := 12) (v := .int 1) (ty := .boolean) (C := R_Model) (T := F_Model) (N := 54) hx hb hts i_Model t_Model t_Model_ok n_Model hown hK hP hD hS 5 rfl rfl 30 (by decide) (hts _ q1139) (fun _ h9 => h9) rfl (by decide +kernel) rfl rfl (Nat.le_of_ble_eq_true rfl) d_Model_run_45 (fun H locs hP hD hS => ?_)
    have hP : va_P G.1 classes [(b30, .inl (G.2 1, 4, .inr (.inl b72))), (b31, .inl (G.2 1, 4, .inr (.inl b73))), (b14, .inl (G.2 0, 12, .inl f_6)), (b15, .inl (G.2 0, 12, .inl f_7)), (b8, .inl (G.2 3, 240, .inl b57)), (b0, .inr (12, [.int 0, .ref b3, .ref b4, .ref b5, .ref b6, .int b7, .ref b8, .int 0, .int x_10, .int x_11, .int x_12, .ref b13, .ref b14, .ref b15, .int x_5, .ref b17, .ref b18, .ref b19, .ref b20, .ref b21, .ref b22, .ref b23, .ref b24, .ref b25, .ref b26, .ref b27, .ref b28, .int x_17, .ref b30, .ref b31, .int 1, .int b33, .int b34, .int b35, .ref b36, .ref b37, .ref b38, .ref b39, .ref b40, .ref b41, .ref b42, .int b43, .ref b44, .ref b45, .int b46, .ref b47, .ref b48, .ref b49, .ref b50, .ref b51, .int b52, .ref b53, .ref b54, .ref b55])), (b3, .inl (G.2 0, 503, .inl b56)), (b17, .inl (G.2 0, 2, .inl f_18)), (b18, .inl (G.2 0, 4820, .inl f_19)), (b19, .inl (G.2 0, 520, .inl f_20)), (b20, .inl (G.2 0, 9640, .inl f_21)), (b21, .inl (G.2 0, 482, .inl f_22)), (b22, .inl (G.2 0, 482, .inl f_23)), (b23, .inl (G.2 0, 2, .inl f_24)), (b24, .inl (G.2 0, 482, .inl f_25)), (b25, .inl (G.2 0, 482, .inl f_26)), (b26, .inl (G.2 0, 482, .inl f_27)), (b27, .inl (G.2 0, 2, .inl f_28)), (b28, .inl (G.2 0, 2880, .inl f_29))] H := hP
    have hD := z_tie hP hD rfl
    refine lv_aload_n hx hb d_Model_run_48 rfl (lv_at hl 0 rfl) ?_
    refine lv_aload_n hx hb d_Model_run_49 rfl (lv_at hl 0 rfl) ?_
    refine lv_iconst (v := 0) hx hb d_Model_run_50 (by decide) ?_
    refine lv_iload_n hx hb d_Model_run_51 rfl (lv_at hl 1 rfl) ?_
    refine z_callV (index := 293) (As := [.int 0, .int b1]) (rest := [.ref b0]) (wr := [(b8, .inl (G.2 3, 240, .inl b57)), (b17, .inl (G.2 0, 2, .inl f_18)), (b18, .inl (G.2 0, 4820, .inl f_19)), (b19, .inl (G.2 0, 520, .inl f_20)), (b20, .inl (G.2 0, 9640, .inl f_21)), (b21, .inl (G.2 0, 482, .inl f_22)), (b22, .inl (G.2 0, 482, .inl f_23)), (b24, .inl (G.2 0, 482, .inl f_25)), (b25, .inl (G.2 0, 482, .inl f_26))]) Z (s2_Model_runs l G (b0) (b1) (0) (b3) (b4) (b5) (b6) (b7) (b8) (0) (x_10) (x_11) (x_12) (b13) (b14) (b15) (x_5) (b17) (b18) (b19) (b20) (b21) (b22) (b23) (b24) (b25) (b26) (b27) (b28) (x_17) (b30) (b31) (1) (b33) (b34) (b35) (b36) (b37) (b38) (b39) (b40) (b41) (b42) (b43) (b44) (b45) (b46) (b47) (b48) (b49) (b50) (b51) (b52) (b53) (b54) (b55) (b56) (f_6) (f_7) (f_24) (f_27) (f_28) (f_29) (b72) (b73) hb1 hb7 (zI.wk (l' := 0) (h' := 240) zc_0 (by decide)) hx_10 (zI.wk (l' := 0) (h' := 1) hv_15 (by decide)) hx_5 hx_17 (zI.wk (l' := 0) (h' := 1) zc_1 (by decide)) hb43 hb46 hb52 hb56 hf_6 hf_24 hf_28 hf_29) hl.1 q1449 q1451 qs74 q14 q1452 ⟨by decide, by decide, by show _ = some 2; decide +kernel⟩ ⟨Nat.le_of_ble_eq_true rfl, Nat.le_of_ble_eq_true rfl⟩ ⟨Nat.le_of_ble_eq_true rfl, Nat.le_of_ble_eq_true rfl⟩ rfl (Nat.le_of_ble_eq_true rfl) d_Model_run_52 hP hD hS hA 5 12 rfl rfl rfl [5, 6, 2, 3, 13, 16, 17, 18, 0, 1] [4, 7, 8, 9, 10, 11, 12, 14, 15] rfl rfl rfl rfl (by decide) (fun v w1 H locs hw_44 hP hD hS => ?_)
    obtain ⟨x_45, f_46, f_47, rfl, rfl, hx_45⟩ := hw_44
    have hP : va_P G.1 classes [(b8, .inl (G.2 3, 240, .inl b57)), (b17, .inl (G.2 0, 2, .inl f_18)), (b18, .inl (G.2 0, 4820, .inl f_19)), (b19, .inl (G.2 0, 520, .inl f_20)), (b20, .inl (G.2 0, 9640, .inl f_21)), (b21, .inl (G.2 0, 482, .inl f_22)), (b22, .inl (G.2 0, 482, .inl f_23)), (b24, .inl (G.2 0, 482, .inl f_25)), (b25, .inl (G.2 0, 482, .inl f_26)), (b0, .inr (12, [.int 0, .ref b3, .ref b4, .ref b5, .ref b6, .int b7, .ref b8, .int 0, .int x_10, .int x_11, .int x_12, .ref b13, .ref b14, .ref b15, .int x_5, .ref b17, .ref b18, .ref b19, .ref b20, .ref b21, .ref b22, .ref b23, .ref b24, .ref b25, .ref b26, .ref b27, .ref b28, .int x_17, .ref b30, .ref b31, .int 1, .int b33, .int b34, .int b35, .ref b36, .ref b37, .ref b38, .ref b39, .ref b40, .ref b41, .ref b42, .int b43, .ref b44, .ref b45, .int b46, .ref b47, .ref b48, .ref b49, .ref b50, .ref b51, .int b52, .ref b53, .ref b54, .ref b55])), (b3, .inl (G.2 0, 503, .inl b56)), (b14, .inl (G.2 0, 12, .inl f_6)), (b15, .inl (G.2 0, 12, .inl f_7)), (b23, .inl (G.2 0, 2, .inl f_24)), (b26, .inl (G.2 0, 482, .inl f_27)), (b27, .inl (G.2 0, 2, .inl f_28)), (b28, .inl (G.2 0, 2880, .inl f_29)), (b30, .inl (G.2 1, 4, .inr (.inl f_46))), (b31, .inl (G.2 1, 4, .inr (.inl f_47)))] H := hP
    have hD := z_tie hP hD rfl
    refine W.widen (k := 0) (n := 0) (Nat.le_of_ble_eq_true rfl) (Nat.le_of_ble_eq_true rfl) ?_
    refine va_put (D := G.1) (ci := 12) (v := .int x_45) (ty := .int) (C := R_Model) (T := F_Model) (N := 54) hx hb hts i_Model t_Model t_Model_ok n_Model hown hK hP hD hS 9 rfl rfl 31 (by decide) (hts _ q1140) (fun _ h9 => h9) rfl (by decide +kernel) rfl rfl (Nat.le_of_ble_eq_true rfl) d_Model_run_55 (fun H locs hP hD hS => ?_)
    have hP : va_P G.1 classes [(b8, .inl (G.2 3, 240, .inl b57)), (b17, .inl (G.2 0, 2, .inl f_18)), (b18, .inl (G.2 0, 4820, .inl f_19)), (b19, .inl (G.2 0, 520, .inl f_20)), (b20, .inl (G.2 0, 9640, .inl f_21)), (b21, .inl (G.2 0, 482, .inl f_22)), (b22, .inl (G.2 0, 482, .inl f_23)), (b24, .inl (G.2 0, 482, .inl f_25)), (b25, .inl (G.2 0, 482, .inl f_26)), (b0, .inr (12, [.int 0, .ref b3, .ref b4, .ref b5, .ref b6, .int b7, .ref b8, .int 0, .int x_10, .int x_11, .int x_12, .ref b13, .ref b14, .ref b15, .int x_5, .ref b17, .ref b18, .ref b19, .ref b20, .ref b21, .ref b22, .ref b23, .ref b24, .ref b25, .ref b26, .ref b27, .ref b28, .int x_17, .ref b30, .ref b31, .int 1, .int x_45, .int b34, .int b35, .ref b36, .ref b37, .ref b38, .ref b39, .ref b40, .ref b41, .ref b42, .int b43, .ref b44, .ref b45, .int b46, .ref b47, .ref b48, .ref b49, .ref b50, .ref b51, .int b52, .ref b53, .ref b54, .ref b55])), (b3, .inl (G.2 0, 503, .inl b56)), (b14, .inl (G.2 0, 12, .inl f_6)), (b15, .inl (G.2 0, 12, .inl f_7)), (b23, .inl (G.2 0, 2, .inl f_24)), (b26, .inl (G.2 0, 482, .inl f_27)), (b27, .inl (G.2 0, 2, .inl f_28)), (b28, .inl (G.2 0, 2880, .inl f_29)), (b30, .inl (G.2 1, 4, .inr (.inl f_46))), (b31, .inl (G.2 1, 4, .inr (.inl f_47)))] H := hP
    have hD := z_tie hP hD rfl
    refine lv_aload_n hx hb d_Model_run_58 rfl (lv_at hl 0 rfl) ?_
    refine lv_iconst (v := 0) hx hb d_Model_run_59 (by decide) ?_
    refine va_put (D := G.1) (ci := 12) (v := .int 0) (ty := .int) (C := R_Model) (T := F_Model) (N := 54) hx hb hts i_Model t_Model t_Model_ok n_Model hown hK hP hD hS 9 rfl rfl 32 (by decide) (hts _ q1141) (fun _ h9 => h9) rfl (by decide +kernel) rfl rfl (Nat.le_of_ble_eq_true rfl) d_Model_run_60 (fun H locs hP hD hS => ?_)
    have hP : va_P G.1 classes [(b8, .inl (G.2 3, 240, .inl b57)), (b17, .inl (G.2 0, 2, .inl f_18)), (b18, .inl (G.2 0, 4820, .inl f_19)), (b19, .inl (G.2 0, 520, .inl f_20)), (b20, .inl (G.2 0, 9640, .inl f_21)), (b21, .inl (G.2 0, 482, .inl f_22)), (b22, .inl (G.2 0, 482, .inl f_23)), (b24, .inl (G.2 0, 482, .inl f_25)), (b25, .inl (G.2 0, 482, .inl f_26)), (b0, .inr (12, [.int 0, .ref b3, .ref b4, .ref b5, .ref b6, .int b7, .ref b8, .int 0, .int x_10, .int x_11, .int x_12, .ref b13, .ref b14, .ref b15, .int x_5, .ref b17, .ref b18, .ref b19, .ref b20, .ref b21, .ref b22, .ref b23, .ref b24, .ref b25, .ref b26, .ref b27, .ref b28, .int x_17, .ref b30, .ref b31, .int 1, .int x_45, .int 0, .int b35, .ref b36, .ref b37, .ref b38, .ref b39, .ref b40, .ref b41, .ref b42, .int b43, .ref b44, .ref b45, .int b46, .ref b47, .ref b48, .ref b49, .ref b50, .ref b51, .int b52, .ref b53, .ref b54, .ref b55])), (b3, .inl (G.2 0, 503, .inl b56)), (b14, .inl (G.2 0, 12, .inl f_6)), (b15, .inl (G.2 0, 12, .inl f_7)), (b23, .inl (G.2 0, 2, .inl f_24)), (b26, .inl (G.2 0, 482, .inl f_27)), (b27, .inl (G.2 0, 2, .inl f_28)), (b28, .inl (G.2 0, 2880, .inl f_29)), (b30, .inl (G.2 1, 4, .inr (.inl f_46))), (b31, .inl (G.2 1, 4, .inr (.inl f_47)))] H := hP
    have hD := z_tie hP hD rfl
    refine lv_aload_n hx hb d_Model_run_63 rfl (lv_at hl 0 rfl) ?_
    refine lv_iconst (v := (-1)) hx hb d_Model_run_64 (by decide) ?_
    refine va_put (D := G.1) (ci := 12) (v := .int (-1)) (ty := .int) (C := R_Model) (T := F_Model) (N := 54) hx hb hts i_Model t_Model t_Model_ok n_Model hown hK hP hD hS 9 rfl rfl 33 (by decide) (hts _ q1142) (fun _ h9 => h9) rfl (by decide +kernel) rfl rfl (Nat.le_of_ble_eq_true rfl) d_Model_run_65 (fun H locs hP hD hS => ?_)
    have hP : va_P G.1 classes [(b8, .inl (G.2 3, 240, .inl b57)), (b17, .inl (G.2 0, 2, .inl f_18)), (b18, .inl (G.2 0, 4820, .inl f_19)), (b19, .inl (G.2 0, 520, .inl f_20)), (b20, .inl (G.2 0, 9640, .inl f_21)), (b21, .inl (G.2 0, 482, .inl f_22)), (b22, .inl (G.2 0, 482, .inl f_23)), (b24, .inl (G.2 0, 482, .inl f_25)), (b25, .inl (G.2 0, 482, .inl f_26)), (b0, .inr (12, [.int 0, .ref b3, .ref b4, .ref b5, .ref b6, .int b7, .ref b8, .int 0, .int x_10, .int x_11, .int x_12, .ref b13, .ref b14, .ref b15, .int x_5, .ref b17, .ref b18, .ref b19, .ref b20, .ref b21, .ref b22, .ref b23, .ref b24, .ref b25, .ref b26, .ref b27, .ref b28, .int x_17, .ref b30, .ref b31, .int 1, .int x_45, .int 0, .int (-1), .ref b36, .ref b37, .ref b38, .ref b39, .ref b40, .ref b41, .ref b42, .int b43, .ref b44, .ref b45, .int b46, .ref b47, .ref b48, .ref b49, .ref b50, .ref b51, .int b52, .ref b53, .ref b54, .ref b55])), (b3, .inl (G.2 0, 503, .inl b56)), (b14, .inl (G.2 0, 12, .inl f_6)), (b15, .inl (G.2 0, 12, .inl f_7)), (b23, .inl (G.2 0, 2, .inl f_24)), (b26, .inl (G.2 0, 482, .inl f_27)), (b27, .inl (G.2 0, 2, .inl f_28)), (b28, .inl (G.2 0, 2880, .inl f_29)), (b30, .inl (G.2 1, 4, .inr (.inl f_46))), (b31, .inl (G.2 1, 4, .inr (.inl f_47)))] H := hP
    have hD := z_tie hP hD rfl
    refine lv_aload_n hx hb d_Model_run_68 rfl (lv_at hl 0 rfl) ?_
    refine va_get (D := G.1) (ci := 12) (v := .ref b23) (C := R_Model) (T := F_Model) (N := 54) hx hb hts i_Model hown hK hP 9 rfl rfl 21 (by decide) (hts _ q1130) (fun _ h9 => h9) rfl d_Model_run_69 ?_
    refine lv_iconst (v := 0) hx hb d_Model_run_72 (by decide) ?_
    refine va_iald hx hb hK hP 13 0 rfl rfl (i := 0) (z_in rfl) d_Model_run_73 ?_
    refine lv_topi (fun v_48 ev_48 => ?_)
    have hv_48 : zI v_48 0 241 := (hf_24 _).eq ev_48
    refine lv_iconst (v := 1) hx hb d_Model_run_74 (by decide) ?_
    refine lv_isub hx hb d_Model_run_75 ?_
    refine lv_topi (fun v_49 ev_49 => ?_)
    obtain ⟨qv_49, hv_49⟩ := zI_sub (l := -1) (h := 240) hv_48 zc_1 ev_49 (by decide)
    rw [li_1] at qv_49
    refine lv_istore_n (lv' := [(2, .int v_49), (0, .ref b0), (1, .int b1)]) hx hb d_Model_run_76 rfl hl (by decide) rfl (fun ls hl => ?_)
    suffices key : ∀ (k_73 : Nat) (y_74 : Int32) (y_75 : Int32) (y_76 : Int32) (H : Heap) (locs : List Loc) (ls : Array Slot), (zI y_74 (-1) 240) → (zI y_76 (-1) 240) → y_74.toInt - ((-1)) < (k_73 : Int) → va_P G.1 classes [(b8, .inl (G.2 3, 240, .inl b57)), (b17, .inl (G.2 0, 2, .inl f_18)), (b18, .inl (G.2 0, 4820, .inl f_19)), (b19, .inl (G.2 0, 520, .inl f_20)), (b20, .inl (G.2 0, 9640, .inl f_21)), (b21, .inl (G.2 0, 482, .inl f_22)), (b22, .inl (G.2 0, 482, .inl f_23)), (b24, .inl (G.2 0, 482, .inl f_25)), (b25, .inl (G.2 0, 482, .inl f_26)), (b0, .inr (12, [.int 0, .ref b3, .ref b4, .ref b5, .ref b6, .int b7, .ref b8, .int 0, .int x_10, .int x_11, .int x_12, .ref b13, .ref b14, .ref b15, .int x_5, .ref b17, .ref b18, .ref b19, .ref b20, .ref b21, .ref b22, .ref b23, .ref b24, .ref b25, .ref b26, .ref b27, .ref b28, .int x_17, .ref b30, .ref b31, .int 1, .int x_45, .int y_75, .int y_76, .ref b36, .ref b37, .ref b38, .ref b39, .ref b40, .ref b41, .ref b42, .int b43, .ref b44, .ref b45, .int b46, .ref b47, .ref b48, .ref b49, .ref b50, .ref b51, .int b52, .ref b53, .ref b54, .ref b55])), (b3, .inl (G.2 0, 503, .inl b56)), (b14, .inl (G.2 0, 12, .inl f_6)), (b15, .inl (G.2 0, 12, .inl f_7)), (b23, .inl (G.2 0, 2, .inl f_24)), (b26, .inl (G.2 0, 482, .inl f_27)), (b27, .inl (G.2 0, 2, .inl f_28)), (b28, .inl (G.2 0, 2880, .inl f_29)), (b30, .inl (G.2 1, 4, .inr (.inl f_46))), (b31, .inl (G.2 1, 4, .inr (.inl f_47)))] H → va_D A [(b8, .inl (G.2 3, 240, .inl b57)), (b17, .inl (G.2 0, 2, .inl f_18)), (b18, .inl (G.2 0, 4820, .inl f_19)), (b19, .inl (G.2 0, 520, .inl f_20)), (b20, .inl (G.2 0, 9640, .inl f_21)), (b21, .inl (G.2 0, 482, .inl f_22)), (b22, .inl (G.2 0, 482, .inl f_23)), (b24, .inl (G.2 0, 482, .inl f_25)), (b25, .inl (G.2 0, 482, .inl f_26)), (b0, .inr (12, [.int 0, .ref b3, .ref b4, .ref b5, .ref b6, .int b7, .ref b8, .int 0, .int x_10, .int x_11, .int x_12, .ref b13, .ref b14, .ref b15, .int x_5, .ref b17, .ref b18, .ref b19, .ref b20, .ref b21, .ref b22, .ref b23, .ref b24, .ref b25, .ref b26, .ref b27, .ref b28, .int x_17, .ref b30, .ref b31, .int 1, .int x_45, .int y_75, .int y_76, .ref b36, .ref b37, .ref b38, .ref b39, .ref b40, .ref b41, .ref b42, .int b43, .ref b44, .ref b45, .int b46, .ref b47, .ref b48, .ref b49, .ref b50, .ref b51, .int b52, .ref b53, .ref b54, .ref b55])), (b3, .inl (G.2 0, 503, .inl b56)), (b14, .inl (G.2 0, 12, .inl f_6)), (b15, .inl (G.2 0, 12, .inl f_7)), (b23, .inl (G.2 0, 2, .inl f_24)), (b26, .inl (G.2 0, 482, .inl f_27)), (b27, .inl (G.2 0, 2, .inl f_28)), (b28, .inl (G.2 0, 2880, .inl f_29)), (b30, .inl (G.2 1, 4, .inr (.inl f_46))), (b31, .inl (G.2 1, 4, .inr (.inl f_47)))] → va_S A s.heap H locs → lv_has ls 3 [(2, .int y_74), (0, .ref b0), (1, .int b1)] → W p l e m_s1_Model_run s m ([.ref b0, .int b1] : List Value).toArray below meth c H locs 0 0 (MQ below (zQ G (fun v w => ∃ (e0 : Int32), ∃ (e1 : Int32), ∃ (e2 : Int32), ∃ (e3 : Int32), ∃ (e4 : Int32), ∃ (e5 : Int32), ∃ (e6 : Int32), ∃ (e7 : Int32), ∃ (e8 : Int32), ∃ (e9 : Int32), ∃ (e10 : Nat → Int32), ∃ (e11 : Nat → Int32), ∃ (e12 : Nat → Int32), ∃ (e13 : Nat → Int32), ∃ (e14 : Nat → Int32), ∃ (e15 : Nat → Int32), ∃ (e16 : Nat → Int32), ∃ (e17 : Nat → Int32), ∃ (e18 : Nat → Int32), ∃ (e19 : Nat → Int32), ∃ (e20 : Nat → Int32), ∃ (e21 : Nat → Int32), ∃ (e22 : Nat → Int32), ∃ (e23 : Nat → Int32), ∃ (e24 : Nat → Int64), ∃ (e25 : Nat → Int64), Q_s1_Model_run G b0 b3 b4 b5 b6 b7 b8 b13 b14 b15 b17 b18 b19 b20 b21 b22 b23 b24 b25 b26 b27 b28 b30 b31 b36 b37 b38 b39 b40 b41 b42 b43 b44 b45 b46 b47 b48 b49 b50 b51 b52 b53 b54 b55 b56 b57 e0 e1 e2 e3 e4 e5 e6 e7 e8 e9 e10 e11 e12 e13 e14 e15 e16 e17 e18 e19 e20 e21 e22 e23 e24 e25 v w) A) ([.ref b0, .int b1] : List Value).toArray s m_s1_Model_run.cells m_s1_Model_run.slots A) (F0 m 77 ls []) by
      exact key 242 (v_49) (0) ((-1)) _ _ _ hv_49 (zI.wk (l' := (-1)) (h' := 240) zc_m1 (by decide)) (zm_dni hv_49 (by decide)) hP hD hS (lv_sub hl [0, 1, 2] rfl)
    intro k_73
    induction k_73 with
    | zero =>
      intro y_74 y_75 y_76 H locs ls hy_74 hy_76 hmk_73 hP hD hS hl
      exact (zm_dn0 hy_74 hmk_73).elim
    | succ k_73 ihk_73 =>
      intro y_74 y_75 y_76 H locs ls hy_74 hy_76 hmk_73 hP hD hS hl
      refine lv_iload_n hx hb d_Model_run_77 rfl (lv_at hl 0 rfl) ?_
      refine lv_if_lt (tgt := 114) hx hb d_Model_run_78 (by decide) (fun hc_77 => ?_) (fun hc_77 => ?_)
      · have _nhc_77 := hc_77
        have ni_78 := (fa_lt _ _).mp hc_77
        rw [li_0] at ni_78
        have hv_79 : zI y_74 (-1) (-1) := zI.lt_l hy_74 zc_0 hc_77 (by decide)
        refine lv_aload_n hx hb d_Model_run_114 rfl (lv_at hl 1 rfl) ?_
        refine va_get (D := G.1) (ci := 12) (v := .int x_45) (C := R_Model) (T := F_Model) (N := 54) hx hb hts i_Model hown hK hP 9 rfl rfl 31 (by decide) (hts _ q1140) (fun _ h9 => h9) rfl d_Model_run_115 ?_
        refine lv_iconst (v := (-1)) hx hb d_Model_run_118 (by decide) ?_
        refine lv_icmp_ne (tgt := 126) hx hb d_Model_run_119 (by decide) (fun hc_80 => ?_) (fun hc_80 => ?_)
        · have _nhc_80 := hc_80
          have ni_81 : ¬ (x_45 : Int32).toInt = ((-1) : Int32).toInt := fun z => hc_80 ((fa_eq _ _).mpr z)
          simp only [li_m1] at ni_81
          have hv_82 : zI x_45 0 12 := zI.ne_lo hx_45 zc_m1 hc_80 (by decide)
          refine lv_iconst (v := 0) hx hb d_Model_run_126 (by decide) ?_
          exact z_iret hx hb hr hlocks (hP.sub [9, 10, 0, 11, 12, 1, 2, 3, 4, 5, 6, 13, 7, 8, 14, 15, 16, 17, 18] rfl) (hD.sub [9, 10, 0, 11, 12, 1, 2, 3, 4, 5, 6, 13, 7, 8, 14, 15, 16, 17, 18] (by decide) rfl) hS (Nat.le_of_ble_eq_true rfl) (Nat.le_of_ble_eq_true rfl) d_Model_run_127 ⟨0, x_10, x_11, x_12, x_5, x_17, 1, x_45, y_75, y_76, f_6, f_7, f_18, f_19, f_20, f_21, f_22, f_23, f_24, f_25, f_26, f_27, f_28, f_29, f_46, f_47, rfl, rfl, hx_10, (zI.wk (l' := 0) (h' := 1) hv_15 (by decide)), hx_5, hx_17, (zI.wk (l' := 0) (h' := 1) zc_1 (by decide)), hf_6, hf_18, hf_19, hf_20, hf_22, hf_23, hf_24, hf_25, hf_28, hf_29⟩
        · have _nhc_80 := hc_80
          have ni_83 := (fa_eq _ _).mp hc_80
          rw [li_m1] at ni_83
          have hv_84 : zI x_45 (-1) (-1) := zI.eq_l hx_45 zc_m1 hc_80
          refine lv_iconst (v := 1) hx hb d_Model_run_122 (by decide) ?_
          refine lv_goto (tgt := 127) hx hb d_Model_run_123 (by decide) ?_
          exact z_iret hx hb hr hlocks (hP.sub [9, 10, 0, 11, 12, 1, 2, 3, 4, 5, 6, 13, 7, 8, 14, 15, 16, 17, 18] rfl) (hD.sub [9, 10, 0, 11, 12, 1, 2, 3, 4, 5, 6, 13, 7, 8, 14, 15, 16, 17, 18] (by decide) rfl) hS (Nat.le_of_ble_eq_true rfl) (Nat.le_of_ble_eq_true rfl) d_Model_run_127 ⟨1, x_10, x_11, x_12, x_5, x_17, 1, x_45, y_75, y_76, f_6, f_7, f_18, f_19, f_20, f_21, f_22, f_23, f_24, f_25, f_26, f_27, f_28, f_29, f_46, f_47, rfl, rfl, hx_10, (zI.wk (l' := 0) (h' := 1) hv_15 (by decide)), hx_5, hx_17, (zI.wk (l' := 0) (h' := 1) zc_1 (by decide)), hf_6, hf_18, hf_19, hf_20, hf_22, hf_23, hf_24, hf_25, hf_28, hf_29⟩
      · have _nhc_77 := hc_77
        have ni_85 := (fa_le _ _).mp (zi_nlt hc_77)
        rw [li_0] at ni_85
        have hv_86 : zI y_74 0 240 := zI.le_r zc_0 hy_74 (zi_nlt hc_77) (by decide)
        refine lv_aload_n hx hb d_Model_run_81 rfl (lv_at hl 1 rfl) ?_
        refine va_get (D := G.1) (ci := 12) (v := .ref b30) (C := R_Model) (T := F_Model) (N := 54) hx hb hts i_Model hown hK hP 9 rfl rfl 28 (by decide) (hts _ q1137) (fun _ h9 => h9) rfl d_Model_run_82 ?_
        refine lv_iconst (v := 0) hx hb d_Model_run_85 (by decide) ?_
        refine lv_iload_n hx hb d_Model_run_86 rfl (lv_at hl 0 rfl) ?_
        refine z_callS (index := 271) (As := [.ref b30, .int 0, .int y_74]) (rest := []) (wr := [(b8, .inl (G.2 3, 240, .inl b57)), (b17, .inl (G.2 0, 2, .inl f_18)), (b18, .inl (G.2 0, 4820, .inl f_19)), (b19, .inl (G.2 0, 520, .inl f_20)), (b20, .inl (G.2 0, 9640, .inl f_21)), (b21, .inl (G.2 0, 482, .inl f_22)), (b22, .inl (G.2 0, 482, .inl f_23)), (b24, .inl (G.2 0, 482, .inl f_25)), (b25, .inl (G.2 0, 482, .inl f_26)), (b0, .inr (12, [.int 0, .ref b3, .ref b4, .ref b5, .ref b6, .int b7, .ref b8, .int 0, .int x_10, .int x_11, .int x_12, .ref b13, .ref b14, .ref b15, .int x_5, .ref b17, .ref b18, .ref b19, .ref b20, .ref b21, .ref b22, .ref b23, .ref b24, .ref b25, .ref b26, .ref b27, .ref b28, .int x_17, .ref b30, .ref b31, .int 1, .int x_45, .int y_75, .int y_76, .ref b36, .ref b37, .ref b38, .ref b39, .ref b40, .ref b41, .ref b42, .int b43, .ref b44, .ref b45, .int b46, .ref b47, .ref b48, .ref b49, .ref b50, .ref b51, .int b52, .ref b53, .ref b54, .ref b55])), (b3, .inl (G.2 0, 503, .inl b56)), (b14, .inl (G.2 0, 12, .inl f_6)), (b15, .inl (G.2 0, 12, .inl f_7)), (b23, .inl (G.2 0, 2, .inl f_24)), (b26, .inl (G.2 0, 482, .inl f_27)), (b27, .inl (G.2 0, 2, .inl f_28)), (b28, .inl (G.2 0, 2880, .inl f_29)), (b31, .inl (G.2 1, 4, .inr (.inl f_47)))]) Z (s2_Model_has l G (b30) (0) (y_74) (f_46) zc_0 hv_86) hl.1 q1464 q1465 q14 q1466 ⟨by decide, by decide, by show _ = some 3; decide +kernel⟩ ⟨Nat.le_of_ble_eq_true rfl, Nat.le_of_ble_eq_true rfl⟩ ⟨Nat.le_of_ble_eq_true rfl, Nat.le_of_ble_eq_true rfl⟩ rfl (Nat.le_of_ble_eq_true rfl) d_Model_run_87 hP hD hS hA [17] [0, 1, 2, 3, 4, 5, 6, 7, 8, 9, 10, 11, 12, 13, 14, 15, 16, 18] rfl rfl rfl rfl (by decide) (fun v w1 H locs hw_87 hP hD hS => ?_)
        obtain ⟨x_88, rfl, rfl, hx_88⟩ := hw_87
        have hP : va_P G.1 classes [(b8, .inl (G.2 3, 240, .inl b57)), (b17, .inl (G.2 0, 2, .inl f_18)), (b18, .inl (G.2 0, 4820, .inl f_19)), (b19, .inl (G.2 0, 520, .inl f_20)), (b20, .inl (G.2 0, 9640, .inl f_21)), (b21, .inl (G.2 0, 482, .inl f_22)), (b22, .inl (G.2 0, 482, .inl f_23)), (b24, .inl (G.2 0, 482, .inl f_25)), (b25, .inl (G.2 0, 482, .inl f_26)), (b0, .inr (12, [.int 0, .ref b3, .ref b4, .ref b5, .ref b6, .int b7, .ref b8, .int 0, .int x_10, .int x_11, .int x_12, .ref b13, .ref b14, .ref b15, .int x_5, .ref b17, .ref b18, .ref b19, .ref b20, .ref b21, .ref b22, .ref b23, .ref b24, .ref b25, .ref b26, .ref b27, .ref b28, .int x_17, .ref b30, .ref b31, .int 1, .int x_45, .int y_75, .int y_76, .ref b36, .ref b37, .ref b38, .ref b39, .ref b40, .ref b41, .ref b42, .int b43, .ref b44, .ref b45, .int b46, .ref b47, .ref b48, .ref b49, .ref b50, .ref b51, .int b52, .ref b53, .ref b54, .ref b55])), (b3, .inl (G.2 0, 503, .inl b56)), (b14, .inl (G.2 0, 12, .inl f_6)), (b15, .inl (G.2 0, 12, .inl f_7)), (b23, .inl (G.2 0, 2, .inl f_24)), (b26, .inl (G.2 0, 482, .inl f_27)), (b27, .inl (G.2 0, 2, .inl f_28)), (b28, .inl (G.2 0, 2880, .inl f_29)), (b31, .inl (G.2 1, 4, .inr (.inl f_47))), (b30, .inl (G.2 1, 4, .inr (.inl f_46)))] H := hP
        have hD := z_tie hP hD rfl
        refine W.widen (k := 0) (n := 0) (Nat.le_of_ble_eq_true rfl) (Nat.le_of_ble_eq_true rfl) ?_
        refine lv_if_eq (tgt := 108) hx hb d_Model_run_90 (by decide) (fun hc_89 => ?_) (fun hc_89 => ?_)
        · have _nhc_89 := hc_89
          have ni_90 := (fa_eq _ _).mp hc_89
          rw [li_0] at ni_90
          have hv_91 : zI x_88 0 0 := zI.eq_l hx_88 zc_0 hc_89
          obtain ⟨v_92, ev_92⟩ : ∃ z : Int32, z = y_74 + (-1) := ⟨_, rfl⟩
          obtain ⟨qv_92, hv_92⟩ := zI_add (l := -1) (h := 239) hv_86 zc_m1 ev_92 (by decide)
          rw [li_m1] at qv_92
          refine lv_iinc (v := v_92) (lv' := [(2, .int v_92), (0, .ref b0), (1, .int b1)]) hx hb d_Model_run_108 hl (k := 0) rfl (by rw [ev_92]; rfl) (by decide) rfl (fun ls hl => ?_)
          refine lv_goto (tgt := 77) hx hb d_Model_run_111 (by decide) ?_
          exact ihk_73 (v_92) (y_75) (y_76) _ _ _ (zI.wk (l' := (-1)) (h' := 240) hv_92 (by decide)) hy_76 (zm_dn qv_92 hmk_73 (by decide)) (hP.sub [0, 1, 2, 3, 4, 5, 6, 7, 8, 9, 10, 11, 12, 13, 14, 15, 16, 18, 17] rfl) (hD.sub [0, 1, 2, 3, 4, 5, 6, 7, 8, 9, 10, 11, 12, 13, 14, 15, 16, 18, 17] (by decide) rfl) hS (lv_sub hl [0, 1, 2] rfl)
        · have _nhc_89 := hc_89
          have ni_93 : ¬ (x_88 : Int32).toInt = (0 : Int32).toInt := fun z => hc_89 ((fa_eq _ _).mpr z)
          simp only [li_0] at ni_93
          have hv_94 : zI x_88 1 1 := zI.ne_lo hx_88 zc_0 hc_89 (by decide)
          refine lv_aload_n hx hb d_Model_run_93 rfl (lv_at hl 1 rfl) ?_
          refine lv_dup hx hb d_Model_run_94 rfl ?_
          refine va_get (D := G.1) (ci := 12) (v := .int y_75) (C := R_Model) (T := F_Model) (N := 54) hx hb hts i_Model hown hK hP 9 rfl rfl 32 (by decide) (hts _ q1141) (fun _ h9 => h9) rfl d_Model_run_95 ?_
          refine lv_iconst (v := 1) hx hb d_Model_run_98 (by decide) ?_
          refine lv_iadd hx hb d_Model_run_99 ?_
          refine lv_topi (fun v_95 ev_95 => ?_)
          refine va_put (D := G.1) (ci := 12) (v := .int v_95) (ty := .int) (C := R_Model) (T := F_Model) (N := 54) hx hb hts i_Model t_Model t_Model_ok n_Model hown hK hP hD hS 9 rfl rfl 32 (by decide) (hts _ q1141) (fun _ h9 => h9) rfl (by decide +kernel) rfl rfl (Nat.le_of_ble_eq_true rfl) d_Model_run_100 (fun H locs hP hD hS => ?_)
          have hP : va_P G.1 classes [(b8, .inl (G.2 3, 240, .inl b57)), (b17, .inl (G.2 0, 2, .inl f_18)), (b18, .inl (G.2 0, 4820, .inl f_19)), (b19, .inl (G.2 0, 520, .inl f_20)), (b20, .inl (G.2 0, 9640, .inl f_21)), (b21, .inl (G.2 0, 482, .inl f_22)), (b22, .inl (G.2 0, 482, .inl f_23)), (b24, .inl (G.2 0, 482, .inl f_25)), (b25, .inl (G.2 0, 482, .inl f_26)), (b0, .inr (12, [.int 0, .ref b3, .ref b4, .ref b5, .ref b6, .int b7, .ref b8, .int 0, .int x_10, .int x_11, .int x_12, .ref b13, .ref b14, .ref b15, .int x_5, .ref b17, .ref b18, .ref b19, .ref b20, .ref b21, .ref b22, .ref b23, .ref b24, .ref b25, .ref b26, .ref b27, .ref b28, .int x_17, .ref b30, .ref b31, .int 1, .int x_45, .int v_95, .int y_76, .ref b36, .ref b37, .ref b38, .ref b39, .ref b40, .ref b41, .ref b42, .int b43, .ref b44, .ref b45, .int b46, .ref b47, .ref b48, .ref b49, .ref b50, .ref b51, .int b52, .ref b53, .ref b54, .ref b55])), (b3, .inl (G.2 0, 503, .inl b56)), (b14, .inl (G.2 0, 12, .inl f_6)), (b15, .inl (G.2 0, 12, .inl f_7)), (b23, .inl (G.2 0, 2, .inl f_24)), (b26, .inl (G.2 0, 482, .inl f_27)), (b27, .inl (G.2 0, 2, .inl f_28)), (b28, .inl (G.2 0, 2880, .inl f_29)), (b31, .inl (G.2 1, 4, .inr (.inl f_47))), (b30, .inl (G.2 1, 4, .inr (.inl f_46)))] H := hP
          have hD := z_tie hP hD rfl
          refine lv_aload_n hx hb d_Model_run_103 rfl (lv_at hl 1 rfl) ?_
          refine lv_iload_n hx hb d_Model_run_104 rfl (lv_at hl 0 rfl) ?_
          refine va_put (D := G.1) (ci := 12) (v := .int y_74) (ty := .int) (C := R_Model) (T := F_Model) (N := 54) hx hb hts i_Model t_Model t_Model_ok n_Model hown hK hP hD hS 9 rfl rfl 33 (by decide) (hts _ q1142) (fun _ h9 => h9) rfl (by decide +kernel) rfl rfl (Nat.le_of_ble_eq_true rfl) d_Model_run_105 (fun H locs hP hD hS => ?_)
          have hP : va_P G.1 classes [(b8, .inl (G.2 3, 240, .inl b57)), (b17, .inl (G.2 0, 2, .inl f_18)), (b18, .inl (G.2 0, 4820, .inl f_19)), (b19, .inl (G.2 0, 520, .inl f_20)), (b20, .inl (G.2 0, 9640, .inl f_21)), (b21, .inl (G.2 0, 482, .inl f_22)), (b22, .inl (G.2 0, 482, .inl f_23)), (b24, .inl (G.2 0, 482, .inl f_25)), (b25, .inl (G.2 0, 482, .inl f_26)), (b0, .inr (12, [.int 0, .ref b3, .ref b4, .ref b5, .ref b6, .int b7, .ref b8, .int 0, .int x_10, .int x_11, .int x_12, .ref b13, .ref b14, .ref b15, .int x_5, .ref b17, .ref b18, .ref b19, .ref b20, .ref b21, .ref b22, .ref b23, .ref b24, .ref b25, .ref b26, .ref b27, .ref b28, .int x_17, .ref b30, .ref b31, .int 1, .int x_45, .int v_95, .int y_74, .ref b36, .ref b37, .ref b38, .ref b39, .ref b40, .ref b41, .ref b42, .int b43, .ref b44, .ref b45, .int b46, .ref b47, .ref b48, .ref b49, .ref b50, .ref b51, .int b52, .ref b53, .ref b54, .ref b55])), (b3, .inl (G.2 0, 503, .inl b56)), (b14, .inl (G.2 0, 12, .inl f_6)), (b15, .inl (G.2 0, 12, .inl f_7)), (b23, .inl (G.2 0, 2, .inl f_24)), (b26, .inl (G.2 0, 482, .inl f_27)), (b27, .inl (G.2 0, 2, .inl f_28)), (b28, .inl (G.2 0, 2880, .inl f_29)), (b31, .inl (G.2 1, 4, .inr (.inl f_47))), (b30, .inl (G.2 1, 4, .inr (.inl f_46)))] H := hP
          have hD := z_tie hP hD rfl
          obtain ⟨v_96, ev_96⟩ : ∃ z : Int32, z = y_74 + (-1) := ⟨_, rfl⟩
          obtain ⟨qv_96, hv_96⟩ := zI_add (l := -1) (h := 239) hv_86 zc_m1 ev_96 (by decide)
          rw [li_m1] at qv_96
          refine lv_iinc (v := v_96) (lv' := [(2, .int v_96), (0, .ref b0), (1, .int b1)]) hx hb d_Model_run_108 hl (k := 0) rfl (by rw [ev_96]; rfl) (by decide) rfl (fun ls hl => ?_)
          refine lv_goto (tgt := 77) hx hb d_Model_run_111 (by decide) ?_
          exact ihk_73 (v_96) (v_95) (y_74) _ _ _ (zI.wk (l' := (-1)) (h' := 240) hv_96 (by decide)) (zI.wk (l' := (-1)) (h' := 240) hv_86 (by decide)) (zm_dn qv_96 hmk_73 (by decide)) (hP.sub [0, 1, 2, 3, 4, 5, 6, 7, 8, 9, 10, 11, 12, 13, 14, 15, 16, 18, 17] rfl) (hD.sub [0, 1, 2, 3, 4, 5, 6, 7, 8, 9, 10, 11, 12, 13, 14, 15, 16, 18, 17] (by decide) rfl) hS (lv_sub hl [0, 1, 2] rfl)
  · have _nhc_13 := hc_13
    have ni_97 := (fa_eq _ _).mp hc_13
    rw [li_0] at ni_97
    have hv_98 : zI x_12 0 0 := zI.eq_l hx_12 zc_0 hc_13
    refine lv_sipush (v := (-1000)) hx hb d_Model_run_30 (by decide) ?_
    refine lv_aload_n hx hb d_Model_run_33 rfl (lv_at hl 0 rfl) ?_
    refine va_get (D := G.1) (ci := 12) (v := .int x_11) (C := R_Model) (T := F_Model) (N := 54) hx hb hts i_Model hown hK hP 17 rfl rfl 9 (by decide) (hts _ q1118) (fun _ h9 => h9) rfl d_Model_run_34 ?_
    refine lv_isub hx hb d_Model_run_37 ?_
    refine lv_topi (fun v_99 ev_99 => ?_)
    exact z_iret hx hb hr hlocks (hP.sub [17, 0, 18, 15, 16, 1, 2, 3, 4, 5, 6, 7, 8, 9, 10, 11, 12, 13, 14] rfl) (hD.sub [17, 0, 18, 15, 16, 1, 2, 3, 4, 5, 6, 7, 8, 9, 10, 11, 12, 13, 14] (by decide) rfl) hS (Nat.le_of_ble_eq_true rfl) (Nat.le_of_ble_eq_true rfl) d_Model_run_38 ⟨v_99, x_10, x_11, x_12, x_5, b29, b32, b33, b34, b35, f_6, f_7, b60, b61, b62, b63, b64, b65, b66, b67, b68, b69, b70, b71, b72, b73, rfl, rfl, hx_10, (zI.wk (l' := 0) (h' := 1) hv_98 (by decide)), hx_5, hb29, hb32, hf_6, hb60, hb61, hb62, hb64, hb65, hb66, hb67, hb70, hb71⟩
theorem d_Model_odd_0 : decode prog_14_method_85_code 0 = .ok (.aload_n 0, 1) := by decide +kernel
theorem d_Model_odd_1 : decode prog_14_method_85_code 1 = .ok (.iconst 0, 1) := by decide +kernel
theorem d_Model_odd_2 : decode prog_14_method_85_code 2 = .ok (.putfield 1, 3) := by decide +kernel
theorem d_Model_odd_5 : decode prog_14_method_85_code 5 = .ok (.aload_n 0, 1) := by decide +kernel
theorem d_Model_odd_6 : decode prog_14_method_85_code 6 = .ok (.iload_n 1, 1) := by decide +kernel
theorem d_Model_odd_7 : decode prog_14_method_85_code 7 = .ok (.invokevirtual 191, 3) := by decide +kernel
theorem d_Model_odd_10 : decode prog_14_method_85_code 10 = .ok (.ifCond .eq 15, 3) := by decide +kernel
theorem d_Model_odd_13 : decode prog_14_method_85_code 13 = .ok (.iload_n 2, 1) := by decide +kernel
theorem d_Model_odd_14 : decode prog_14_method_85_code 14 = .ok (.i2l, 1) := by decide +kernel
theorem d_Model_odd_15 : decode prog_14_method_85_code 15 = .ok (.lconst 0, 1) := by decide +kernel
theorem d_Model_odd_16 : decode prog_14_method_85_code 16 = .ok (.ldc2_w 403, 3) := by decide +kernel
theorem d_Model_odd_19 : decode prog_14_method_85_code 19 = .ok (.invokestatic 138, 3) := by decide +kernel
theorem d_Model_odd_22 : decode prog_14_method_85_code 22 = .ok (.ifCond .ne 5, 3) := by decide +kernel
theorem d_Model_odd_25 : decode prog_14_method_85_code 25 = .ok (.iconst (-1), 1) := by decide +kernel
theorem d_Model_odd_26 : decode prog_14_method_85_code 26 = .ok (.ireturn, 1) := by decide +kernel
theorem d_Model_odd_27 : decode prog_14_method_85_code 27 = .ok (.aload_n 0, 1) := by decide +kernel
theorem d_Model_odd_28 : decode prog_14_method_85_code 28 = .ok (.invokevirtual 405, 3) := by decide +kernel
theorem d_Model_odd_31 : decode prog_14_method_85_code 31 = .ok (.iload_n 2, 1) := by decide +kernel
theorem d_Model_odd_32 : decode prog_14_method_85_code 32 = .ok (.ifCond .ne 12, 3) := by decide +kernel
theorem d_Model_odd_35 : decode prog_14_method_85_code 35 = .ok (.aload_n 0, 1) := by decide +kernel
theorem d_Model_odd_36 : decode prog_14_method_85_code 36 = .ok (.getfield 128, 3) := by decide +kernel
theorem d_Model_odd_39 : decode prog_14_method_85_code 39 = .ok (.iload_n 1, 1) := by decide +kernel
theorem d_Model_odd_40 : decode prog_14_method_85_code 40 = .ok (.iaload, 1) := by decide +kernel
theorem d_Model_odd_41 : decode prog_14_method_85_code 41 = .ok (.goto 22, 3) := by decide +kernel
theorem d_Model_odd_44 : decode prog_14_method_85_code 44 = .ok (.iload_n 2, 1) := by decide +kernel
theorem d_Model_odd_45 : decode prog_14_method_85_code 45 = .ok (.iconst 1, 1) := by decide +kernel
theorem d_Model_odd_46 : decode prog_14_method_85_code 46 = .ok (.if_icmp .ne 12, 3) := by decide +kernel
theorem d_Model_odd_49 : decode prog_14_method_85_code 49 = .ok (.aload_n 0, 1) := by decide +kernel
theorem d_Model_odd_50 : decode prog_14_method_85_code 50 = .ok (.getfield 131, 3) := by decide +kernel
theorem d_Model_odd_53 : decode prog_14_method_85_code 53 = .ok (.iload_n 1, 1) := by decide +kernel
theorem d_Model_odd_54 : decode prog_14_method_85_code 54 = .ok (.iaload, 1) := by decide +kernel
theorem d_Model_odd_55 : decode prog_14_method_85_code 55 = .ok (.goto 8, 3) := by decide +kernel
theorem d_Model_odd_58 : decode prog_14_method_85_code 58 = .ok (.aload_n 0, 1) := by decide +kernel
theorem d_Model_odd_59 : decode prog_14_method_85_code 59 = .ok (.iload_n 1, 1) := by decide +kernel
theorem d_Model_odd_60 : decode prog_14_method_85_code 60 = .ok (.invokevirtual 408, 3) := by decide +kernel
theorem d_Model_layWeak_0 : decode prog_14_method_82_code 0 = .ok (.aload_n 0, 1) := by decide +kernel
theorem d_Model_layWeak_1 : decode prog_14_method_82_code 1 = .ok (.invokevirtual 254, 3) := by decide +kernel
theorem d_Model_layWeak_4 : decode prog_14_method_82_code 4 = .ok (.iconst 0, 1) := by decide +kernel
theorem d_Model_layWeak_5 : decode prog_14_method_82_code 5 = .ok (.istore_n 1, 1) := by decide +kernel
theorem d_Model_layWeak_6 : decode prog_14_method_82_code 6 = .ok (.iload_n 1, 1) := by decide +kernel
theorem d_Model_layWeak_7 : decode prog_14_method_82_code 7 = .ok (.aload_n 0, 1) := by decide +kernel
theorem d_Model_layWeak_8 : decode prog_14_method_82_code 8 = .ok (.invokevirtual 134, 3) := by decide +kernel
theorem d_Model_layWeak_11 : decode prog_14_method_82_code 11 = .ok (.if_icmp .ge 144, 3) := by decide +kernel
theorem d_Model_layWeak_14 : decode prog_14_method_82_code 14 = .ok (.aload_n 0, 1) := by decide +kernel
theorem d_Model_layWeak_15 : decode prog_14_method_82_code 15 = .ok (.getfield 128, 3) := by decide +kernel
theorem d_Model_layWeak_18 : decode prog_14_method_82_code 18 = .ok (.iload_n 1, 1) := by decide +kernel
theorem d_Model_layWeak_19 : decode prog_14_method_82_code 19 = .ok (.sipush 999, 3) := by decide +kernel
theorem d_Model_layWeak_22 : decode prog_14_method_82_code 22 = .ok (.iastore, 1) := by decide +kernel
theorem d_Model_layWeak_23 : decode prog_14_method_82_code 23 = .ok (.aload_n 0, 1) := by decide +kernel
theorem d_Model_layWeak_24 : decode prog_14_method_82_code 24 = .ok (.getfield 131, 3) := by decide +kernel
theorem d_Model_layWeak_27 : decode prog_14_method_82_code 27 = .ok (.iload_n 1, 1) := by decide +kernel
theorem d_Model_layWeak_28 : decode prog_14_method_82_code 28 = .ok (.iconst 0, 1) := by decide +kernel
theorem d_Model_layWeak_29 : decode prog_14_method_82_code 29 = .ok (.iastore, 1) := by decide +kernel
theorem d_Model_layWeak_30 : decode prog_14_method_82_code 30 = .ok (.iconst 0, 1) := by decide +kernel
theorem d_Model_layWeak_31 : decode prog_14_method_82_code 31 = .ok (.istore_n 2, 1) := by decide +kernel
theorem d_Model_layWeak_32 : decode prog_14_method_82_code 32 = .ok (.iload_n 2, 1) := by decide +kernel
theorem d_Model_layWeak_33 : decode prog_14_method_82_code 33 = .ok (.aload_n 0, 1) := by decide +kernel
theorem d_Model_layWeak_34 : decode prog_14_method_82_code 34 = .ok (.iload_n 1, 1) := by decide +kernel
theorem d_Model_layWeak_35 : decode prog_14_method_82_code 35 = .ok (.invokevirtual 203, 3) := by decide +kernel
theorem d_Model_layWeak_38 : decode prog_14_method_82_code 38 = .ok (.if_icmp .ge 111, 3) := by decide +kernel
theorem d_Model_layWeak_41 : decode prog_14_method_82_code 41 = .ok (.aload_n 0, 1) := by decide +kernel
theorem d_Model_layWeak_42 : decode prog_14_method_82_code 42 = .ok (.iconst 0, 1) := by decide +kernel
theorem d_Model_layWeak_43 : decode prog_14_method_82_code 43 = .ok (.aload_n 0, 1) := by decide +kernel
theorem d_Model_layWeak_44 : decode prog_14_method_82_code 44 = .ok (.iconst 0, 1) := by decide +kernel
theorem d_Model_layWeak_45 : decode prog_14_method_82_code 45 = .ok (.aload_n 0, 1) := by decide +kernel
theorem d_Model_layWeak_46 : decode prog_14_method_82_code 46 = .ok (.iconst 0, 1) := by decide +kernel
theorem d_Model_layWeak_47 : decode prog_14_method_82_code 47 = .ok (.iload_n 1, 1) := by decide +kernel
theorem d_Model_layWeak_48 : decode prog_14_method_82_code 48 = .ok (.iload_n 2, 1) := by decide +kernel
theorem d_Model_layWeak_49 : decode prog_14_method_82_code 49 = .ok (.invokevirtual 231, 3) := by decide +kernel
theorem d_Model_layWeak_52 : decode prog_14_method_82_code 52 = .ok (.aload_n 0, 1) := by decide +kernel
theorem d_Model_layWeak_53 : decode prog_14_method_82_code 53 = .ok (.iload_n 1, 1) := by decide +kernel
theorem d_Model_layWeak_54 : decode prog_14_method_82_code 54 = .ok (.iload_n 2, 1) := by decide +kernel
theorem d_Model_layWeak_55 : decode prog_14_method_82_code 55 = .ok (.invokevirtual 207, 3) := by decide +kernel
theorem d_Model_layWeak_58 : decode prog_14_method_82_code 58 = .ok (.aload_n 0, 1) := by decide +kernel
theorem d_Model_layWeak_59 : decode prog_14_method_82_code 59 = .ok (.iconst 0, 1) := by decide +kernel
theorem d_Model_layWeak_60 : decode prog_14_method_82_code 60 = .ok (.iload_n 1, 1) := by decide +kernel
theorem d_Model_layWeak_61 : decode prog_14_method_82_code 61 = .ok (.iload_n 2, 1) := by decide +kernel
theorem d_Model_layWeak_62 : decode prog_14_method_82_code 62 = .ok (.iconst 1, 1) := by decide +kernel
theorem d_Model_layWeak_63 : decode prog_14_method_82_code 63 = .ok (.iadd, 1) := by decide +kernel
theorem d_Model_layWeak_64 : decode prog_14_method_82_code 64 = .ok (.invokevirtual 231, 3) := by decide +kernel
theorem d_Model_layWeak_67 : decode prog_14_method_82_code 67 = .ok (.invokevirtual 234, 3) := by decide +kernel
theorem d_Model_layWeak_70 : decode prog_14_method_82_code 70 = .ok (.iconst 3, 1) := by decide +kernel
theorem d_Model_layWeak_71 : decode prog_14_method_82_code 71 = .ok (.invokevirtual 225, 3) := by decide +kernel
theorem d_Model_layWeak_74 : decode prog_14_method_82_code 74 = .ok (.istore_n 3, 1) := by decide +kernel
theorem d_Model_layWeak_75 : decode prog_14_method_82_code 75 = .ok (.aload_n 0, 1) := by decide +kernel
theorem d_Model_layWeak_76 : decode prog_14_method_82_code 76 = .ok (.getfield 131, 3) := by decide +kernel
theorem d_Model_layWeak_79 : decode prog_14_method_82_code 79 = .ok (.iload_n 1, 1) := by decide +kernel
theorem d_Model_layWeak_80 : decode prog_14_method_82_code 80 = .ok (.iload_n 3, 1) := by decide +kernel
theorem d_Model_layWeak_81 : decode prog_14_method_82_code 81 = .ok (.aload_n 0, 1) := by decide +kernel
theorem d_Model_layWeak_82 : decode prog_14_method_82_code 82 = .ok (.getfield 128, 3) := by decide +kernel
theorem d_Model_layWeak_85 : decode prog_14_method_82_code 85 = .ok (.iload_n 1, 1) := by decide +kernel
theorem d_Model_layWeak_86 : decode prog_14_method_82_code 86 = .ok (.iaload, 1) := by decide +kernel
theorem d_Model_layWeak_87 : decode prog_14_method_82_code 87 = .ok (.if_icmp .ge 7, 3) := by decide +kernel
theorem d_Model_layWeak_90 : decode prog_14_method_82_code 90 = .ok (.iconst 1, 1) := by decide +kernel
theorem d_Model_layWeak_91 : decode prog_14_method_82_code 91 = .ok (.goto 25, 3) := by decide +kernel
theorem d_Model_layWeak_94 : decode prog_14_method_82_code 94 = .ok (.aload_n 0, 1) := by decide +kernel
theorem d_Model_layWeak_95 : decode prog_14_method_82_code 95 = .ok (.getfield 131, 3) := by decide +kernel
theorem d_Model_layWeak_98 : decode prog_14_method_82_code 98 = .ok (.iload_n 1, 1) := by decide +kernel
theorem d_Model_layWeak_99 : decode prog_14_method_82_code 99 = .ok (.iaload, 1) := by decide +kernel
theorem d_Model_layWeak_100 : decode prog_14_method_82_code 100 = .ok (.iload_n 3, 1) := by decide +kernel
theorem d_Model_layWeak_101 : decode prog_14_method_82_code 101 = .ok (.aload_n 0, 1) := by decide +kernel
theorem d_Model_layWeak_102 : decode prog_14_method_82_code 102 = .ok (.getfield 128, 3) := by decide +kernel
theorem d_Model_layWeak_105 : decode prog_14_method_82_code 105 = .ok (.iload_n 1, 1) := by decide +kernel
theorem d_Model_layWeak_106 : decode prog_14_method_82_code 106 = .ok (.iaload, 1) := by decide +kernel
theorem d_Model_layWeak_107 : decode prog_14_method_82_code 107 = .ok (.if_icmp .ne 7, 3) := by decide +kernel
theorem d_Model_layWeak_110 : decode prog_14_method_82_code 110 = .ok (.iconst 1, 1) := by decide +kernel
theorem d_Model_layWeak_111 : decode prog_14_method_82_code 111 = .ok (.goto 4, 3) := by decide +kernel
theorem d_Model_layWeak_114 : decode prog_14_method_82_code 114 = .ok (.iconst 0, 1) := by decide +kernel
theorem d_Model_layWeak_115 : decode prog_14_method_82_code 115 = .ok (.iadd, 1) := by decide +kernel
theorem d_Model_layWeak_116 : decode prog_14_method_82_code 116 = .ok (.iastore, 1) := by decide +kernel
theorem d_Model_layWeak_117 : decode prog_14_method_82_code 117 = .ok (.aload_n 0, 1) := by decide +kernel
theorem d_Model_layWeak_118 : decode prog_14_method_82_code 118 = .ok (.getfield 128, 3) := by decide +kernel
theorem d_Model_layWeak_121 : decode prog_14_method_82_code 121 = .ok (.iload_n 1, 1) := by decide +kernel
theorem d_Model_layWeak_122 : decode prog_14_method_82_code 122 = .ok (.iload_n 3, 1) := by decide +kernel
theorem d_Model_layWeak_123 : decode prog_14_method_82_code 123 = .ok (.aload_n 0, 1) := by decide +kernel
theorem d_Model_layWeak_124 : decode prog_14_method_82_code 124 = .ok (.getfield 128, 3) := by decide +kernel
theorem d_Model_layWeak_127 : decode prog_14_method_82_code 127 = .ok (.iload_n 1, 1) := by decide +kernel
theorem d_Model_layWeak_128 : decode prog_14_method_82_code 128 = .ok (.iaload, 1) := by decide +kernel
theorem d_Model_layWeak_129 : decode prog_14_method_82_code 129 = .ok (.if_icmp .ge 7, 3) := by decide +kernel
theorem d_Model_layWeak_132 : decode prog_14_method_82_code 132 = .ok (.iload_n 3, 1) := by decide +kernel
theorem d_Model_layWeak_133 : decode prog_14_method_82_code 133 = .ok (.goto 9, 3) := by decide +kernel
theorem d_Model_layWeak_136 : decode prog_14_method_82_code 136 = .ok (.aload_n 0, 1) := by decide +kernel
theorem d_Model_layWeak_137 : decode prog_14_method_82_code 137 = .ok (.getfield 128, 3) := by decide +kernel
theorem d_Model_layWeak_140 : decode prog_14_method_82_code 140 = .ok (.iload_n 1, 1) := by decide +kernel
theorem d_Model_layWeak_141 : decode prog_14_method_82_code 141 = .ok (.iaload, 1) := by decide +kernel
theorem d_Model_layWeak_142 : decode prog_14_method_82_code 142 = .ok (.iastore, 1) := by decide +kernel
theorem d_Model_layWeak_143 : decode prog_14_method_82_code 143 = .ok (.iinc 2 1, 3) := by decide +kernel
theorem d_Model_layWeak_146 : decode prog_14_method_82_code 146 = .ok (.goto (-114), 3) := by decide +kernel
theorem d_Model_layWeak_149 : decode prog_14_method_82_code 149 = .ok (.iinc 1 1, 3) := by decide +kernel
theorem d_Model_layWeak_152 : decode prog_14_method_82_code 152 = .ok (.goto (-146), 3) := by decide +kernel
theorem d_Model_layWeak_155 : decode prog_14_method_82_code 155 = .ok (.return_, 1) := by decide +kernel
theorem ll_2 : (2 : Int64).toInt = 2 := by decide +kernel
theorem zcl_2 : zJ 2 2 2 := ⟨by decide +kernel, by decide +kernel⟩
theorem zc_999 : zI 999 999 999 := ⟨by decide +kernel, by decide +kernel⟩
theorem li_999 : (999 : Int32).toInt = 999 := by decide +kernel
abbrev m_s2_Model_layWeak : Room := { frames := 5, cells := 0, slots := 0, locals := 124 }
set_option maxHeartbeats 4000000 in
set_option maxRecDepth 100000 in
theorem s2_Model_layWeak (l : Launch) (G : zG) (b0 : Nat) (b1 : Int32) (b2 : Nat) (b3 : Nat) (b4 : Nat) (b5 : Nat) (b6 : Int32) (b7 : Nat) (b8 : Int32) (b9 : Int32) (b10 : Int32) (b11 : Int32) (b12 : Nat) (b13 : Nat) (b14 : Nat) (b15 : Int32) (b16 : Nat) (b17 : Nat) (b18 : Nat) (b19 : Nat) (b20 : Nat) (b21 : Nat) (b22 : Nat) (b23 : Nat) (b24 : Nat) (b25 : Nat) (b26 : Nat) (b27 : Nat) (b28 : Int32) (b29 : Nat) (b30 : Nat) (b31 : Int32) (b32 : Int32) (b33 : Int32) (b34 : Int32) (b35 : Nat) (b36 : Nat) (b37 : Nat) (b38 : Nat) (b39 : Nat) (b40 : Nat) (b41 : Nat) (b42 : Int32) (b43 : Nat) (b44 : Nat) (b45 : Int32) (b46 : Nat) (b47 : Nat) (b48 : Nat) (b49 : Nat) (b50 : Nat) (b51 : Int32) (b52 : Nat) (b53 : Nat) (b54 : Nat) (b55 : Nat → Int32) (b56 : Nat → Int32) (b57 : Nat → Int32) (b58 : Nat → Int32) (b59 : Nat → Int32) (b60 : Nat → Int32) (b61 : Nat → Int32) (b62 : Nat → Int32) (b63 : Nat → Int32) (b64 : Nat → Int32) (b65 : Nat → Int32) (b66 : Nat → Int32) (b67 : Nat → Int32) (b68 : Nat → Int32) (b69 : Nat → Int32) (hb6 : zI b6 0 8) (hb8 : zI b8 0 240) (hb9 : zI b9 0 240) (hb11 : zI b11 0 1) (hb15 : zI b15 0 12) (hb28 : zI b28 0 1) (hb31 : zI b31 0 1) (hb42 : zI b42 0 1000) (hb45 : zI b45 0 1000) (hb51 : zI b51 0 400) (hb55 : zW5 b55) (hb56 : zR b56 0 241) (hb57 : zR b57 (-1) 240) (hb58 : zqa qP b58) (hb60 : zqa qC b60) (hb61 : zR b61 0 240) (hb62 : zR b62 0 241) (hb63 : zR b63 0 240) (hb66 : zR b66 0 240) (hb67 : zqa qE b67) : zM l G y_Model_layWeak prog_14_method_82_code 4 (Option.none : Option Jvm.ClassFile.FieldType) m_s2_Model_layWeak [.ref b0] [(b0, .inr (12, [.int b1, .ref b2, .ref b3, .ref b4, .ref b5, .int b6, .ref b7, .int b8, .int b9, .int b10, .int b11, .ref b12, .ref b13, .ref b14, .int b15, .ref b16, .ref b17, .ref b18, .ref b19, .ref b20, .ref b21, .ref b22, .ref b23, .ref b24, .ref b25, .ref b26, .ref b27, .int b28, .ref b29, .ref b30, .int b31, .int b32, .int b33, .int b34, .ref b35, .ref b36, .ref b37, .ref b38, .ref b39, .ref b40, .ref b41, .int b42, .ref b43, .ref b44, .int b45, .ref b46, .ref b47, .ref b48, .ref b49, .ref b50, .int b51, .ref b52, .ref b53, .ref b54])), (b2, .inl (G.2 0, 503, .inl b55)), (b16, .inl (G.2 0, 2, .inl b56)), (b17, .inl (G.2 0, 4820, .inl b57)), (b18, .inl (G.2 0, 520, .inl b58)), (b19, .inl (G.2 0, 9640, .inl b59)), (b20, .inl (G.2 0, 482, .inl b60)), (b21, .inl (G.2 0, 482, .inl b61)), (b22, .inl (G.2 0, 2, .inl b62)), (b23, .inl (G.2 0, 482, .inl b63)), (b24, .inl (G.2 0, 482, .inl b64)), (b25, .inl (G.2 0, 482, .inl b65)), (b26, .inl (G.2 0, 2, .inl b66)), (b27, .inl (G.2 0, 2880, .inl b67)), (b53, .inl (G.2 0, 20, .inl b68)), (b54, .inl (G.2 0, 20, .inl b69))] (fun v w => ∃ (e0 : Int32), ∃ (e1 : Nat → Int32), ∃ (e2 : Nat → Int32), ∃ (e3 : Nat → Int32), ∃ (e4 : Nat → Int32), ∃ (e5 : Nat → Int32), ∃ (e6 : Nat → Int32), ∃ (e7 : Nat → Int32), ∃ (e8 : Nat → Int32), ∃ (e9 : Nat → Int32), ∃ (e10 : Nat → Int32), ∃ (e11 : Nat → Int32), ∃ (e12 : Nat → Int32), ∃ (e13 : Nat → Int32), ∃ (e14 : Nat → Int32), v = none ∧ w = [(b0, .inr (12, [.int b1, .ref b2, .ref b3, .ref b4, .ref b5, .int b6, .ref b7, .int b8, .int b9, .int b10, .int b11, .ref b12, .ref b13, .ref b14, .int b15, .ref b16, .ref b17, .ref b18, .ref b19, .ref b20, .ref b21, .ref b22, .ref b23, .ref b24, .ref b25, .ref b26, .ref b27, .int e0, .ref b29, .ref b30, .int b31, .int b32, .int b33, .int b34, .ref b35, .ref b36, .ref b37, .ref b38, .ref b39, .ref b40, .ref b41, .int b42, .ref b43, .ref b44, .int b45, .ref b46, .ref b47, .ref b48, .ref b49, .ref b50, .int b51, .ref b52, .ref b53, .ref b54])), (b2, .inl (G.2 0, 503, .inl b55)), (b16, .inl (G.2 0, 2, .inl e1)), (b17, .inl (G.2 0, 4820, .inl e2)), (b18, .inl (G.2 0, 520, .inl e3)), (b19, .inl (G.2 0, 9640, .inl e4)), (b20, .inl (G.2 0, 482, .inl e5)), (b21, .inl (G.2 0, 482, .inl e6)), (b22, .inl (G.2 0, 2, .inl e7)), (b23, .inl (G.2 0, 482, .inl e8)), (b24, .inl (G.2 0, 482, .inl e9)), (b25, .inl (G.2 0, 482, .inl e10)), (b26, .inl (G.2 0, 2, .inl e11)), (b27, .inl (G.2 0, 2880, .inl e12)), (b53, .inl (G.2 0, 20, .inl e13)), (b54, .inl (G.2 0, 20, .inl e14))] ∧ (zI e0 0 1) ∧ (zR e1 0 241) ∧ (zR e2 (-1) 240) ∧ (zqa qP e3) ∧ (zqa qC e5) ∧ (zR e6 0 240) ∧ (zR e7 0 241) ∧ (zR e8 0 240) ∧ (zR e11 0 240) ∧ (zqa qE e12)) := by
  refine z_start (by decide +kernel) (Nat.le_of_ble_eq_true rfl) ?_
  intro p e s m below meth c A Z hr hnm hA hP hD hS ls hl
  have Z : zC p s m _ meth c prog_14_method_82_code 4 "TraceMachinesModel" G := Z
  obtain ⟨hx, hb, hml, hown, hts, hK, hN, hlocks⟩ := id Z
  have hl : lv_has ls 4 [(0, .ref b0)] := hl
  refine lv_aload_n hx hb d_Model_layWeak_0 rfl (lv_at hl 0 rfl) ?_
  refine z_callV (index := 254) (As := []) (rest := []) (wr := [(b53, .inl (G.2 0, 20, .inl b68)), (b54, .inl (G.2 0, 20, .inl b69))]) Z (s1_Model_lay1 l G (b0) (b1) (b2) (b3) (b4) (b5) (b6) (b7) (b8) (b9) (b10) (b11) (b12) (b13) (b14) (b15) (b16) (b17) (b18) (b19) (b20) (b21) (b22) (b23) (b24) (b25) (b26) (b27) (b28) (b29) (b30) (b31) (b32) (b33) (b34) (b35) (b36) (b37) (b38) (b39) (b40) (b41) (b42) (b43) (b44) (b45) (b46) (b47) (b48) (b49) (b50) (b51) (b52) (b53) (b54) (b55) (b56) (b57) (b58) (b59) (b60) (b61) (b62) (b63) (b64) (b65) (b66) (b67) hb6 hb8 hb9 hb11 hb15 hb28 hb31 hb42 hb45 hb51 hb55 hb56 hb57 hb58 hb60 hb61 hb62 hb63 hb66 hb67) hl.1 q1356 q1358 qs55 q14 q1359 ⟨by decide, by decide, by show _ = some 0; decide +kernel⟩ ⟨Nat.le_of_ble_eq_true rfl, Nat.le_of_ble_eq_true rfl⟩ ⟨Nat.le_of_ble_eq_true rfl, Nat.le_of_ble_eq_true rfl⟩ rfl (Nat.le_of_ble_eq_true rfl) d_Model_layWeak_1 hP hD hS hA 0 12 rfl rfl rfl [0, 1, 2, 3, 4, 5, 6, 7, 8, 9, 10, 11, 12, 13] [14, 15] rfl rfl rfl rfl (by decide) (fun v w1 H locs hw_1 hP hD hS => ?_)
  refine Exists.elim hw_1 (fun x_2 hz_16 => Exists.elim hz_16 (fun f_3 hz_17 => Exists.elim hz_17 (fun f_4 hz_18 => Exists.elim hz_18 (fun f_5 hz_19 => Exists.elim hz_19 (fun f_6 hz_20 => Exists.elim hz_20 (fun f_7 hz_21 => Exists.elim hz_21 (fun f_8 hz_22 => Exists.elim hz_22 (fun f_9 hz_23 => Exists.elim hz_23 (fun f_10 hz_24 => Exists.elim hz_24 (fun f_11 hz_25 => Exists.elim hz_25 (fun f_12 hz_26 => Exists.elim hz_26 (fun f_13 hz_27 => Exists.elim hz_27 (fun f_14 hz_28 => ?_)))))))))))))
  clear hw_1 hz_16 hz_17 hz_18 hz_19 hz_20 hz_21 hz_22 hz_23 hz_24 hz_25 hz_26 hz_27
  obtain ⟨rfl, rfl, hx_2, hf_3, hf_4, hf_5, hf_7, hf_8, hf_9, hf_10, hf_13, hf_14, hfx_15⟩ := hz_28
  have hP : va_P G.1 classes [(b53, .inl (G.2 0, 20, .inl b68)), (b54, .inl (G.2 0, 20, .inl b69)), (b0, .inr (12, [.int b1, .ref b2, .ref b3, .ref b4, .ref b5, .int b6, .ref b7, .int b8, .int b9, .int b10, .int b11, .ref b12, .ref b13, .ref b14, .int b15, .ref b16, .ref b17, .ref b18, .ref b19, .ref b20, .ref b21, .ref b22, .ref b23, .ref b24, .ref b25, .ref b26, .ref b27, .int x_2, .ref b29, .ref b30, .int b31, .int b32, .int b33, .int b34, .ref b35, .ref b36, .ref b37, .ref b38, .ref b39, .ref b40, .ref b41, .int b42, .ref b43, .ref b44, .int b45, .ref b46, .ref b47, .ref b48, .ref b49, .ref b50, .int b51, .ref b52, .ref b53, .ref b54])), (b2, .inl (G.2 0, 503, .inl b55)), (b16, .inl (G.2 0, 2, .inl f_3)), (b17, .inl (G.2 0, 4820, .inl f_4)), (b18, .inl (G.2 0, 520, .inl f_5)), (b19, .inl (G.2 0, 9640, .inl f_6)), (b20, .inl (G.2 0, 482, .inl f_7)), (b21, .inl (G.2 0, 482, .inl f_8)), (b22, .inl (G.2 0, 2, .inl f_9)), (b23, .inl (G.2 0, 482, .inl f_10)), (b24, .inl (G.2 0, 482, .inl f_11)), (b25, .inl (G.2 0, 482, .inl f_12)), (b26, .inl (G.2 0, 2, .inl f_13)), (b27, .inl (G.2 0, 2880, .inl f_14))] H := hP
  have hD := z_tie hP hD rfl
  refine W.widen (k := 0) (n := 0) (Nat.le_of_ble_eq_true rfl) (Nat.le_of_ble_eq_true rfl) ?_
  refine lv_iconst (v := 0) hx hb d_Model_layWeak_4 (by decide) ?_
  refine lv_istore_n (lv' := [(1, .int 0), (0, .ref b0)]) hx hb d_Model_layWeak_5 rfl hl (by decide) rfl (fun ls hl => ?_)
  suffices key : ∀ (k_201 : Nat) (y_202 : Int32) (y_203 : Int32) (y_204 : Nat → Int32) (y_205 : Nat → Int32) (H : Heap) (locs : List Loc) (ls : Array Slot), (zI y_202 0 20) → (zI y_203 0 1) → (20 : Int) - y_202.toInt < (k_201 : Int) → va_P G.1 classes [(b53, .inl (G.2 0, 20, .inl y_204)), (b54, .inl (G.2 0, 20, .inl y_205)), (b0, .inr (12, [.int b1, .ref b2, .ref b3, .ref b4, .ref b5, .int b6, .ref b7, .int b8, .int b9, .int b10, .int b11, .ref b12, .ref b13, .ref b14, .int b15, .ref b16, .ref b17, .ref b18, .ref b19, .ref b20, .ref b21, .ref b22, .ref b23, .ref b24, .ref b25, .ref b26, .ref b27, .int y_203, .ref b29, .ref b30, .int b31, .int b32, .int b33, .int b34, .ref b35, .ref b36, .ref b37, .ref b38, .ref b39, .ref b40, .ref b41, .int b42, .ref b43, .ref b44, .int b45, .ref b46, .ref b47, .ref b48, .ref b49, .ref b50, .int b51, .ref b52, .ref b53, .ref b54])), (b2, .inl (G.2 0, 503, .inl b55)), (b16, .inl (G.2 0, 2, .inl f_3)), (b17, .inl (G.2 0, 4820, .inl f_4)), (b18, .inl (G.2 0, 520, .inl f_5)), (b19, .inl (G.2 0, 9640, .inl f_6)), (b20, .inl (G.2 0, 482, .inl f_7)), (b21, .inl (G.2 0, 482, .inl f_8)), (b22, .inl (G.2 0, 2, .inl f_9)), (b23, .inl (G.2 0, 482, .inl f_10)), (b24, .inl (G.2 0, 482, .inl f_11)), (b25, .inl (G.2 0, 482, .inl f_12)), (b26, .inl (G.2 0, 2, .inl f_13)), (b27, .inl (G.2 0, 2880, .inl f_14))] H → va_D A [(b53, .inl (G.2 0, 20, .inl y_204)), (b54, .inl (G.2 0, 20, .inl y_205)), (b0, .inr (12, [.int b1, .ref b2, .ref b3, .ref b4, .ref b5, .int b6, .ref b7, .int b8, .int b9, .int b10, .int b11, .ref b12, .ref b13, .ref b14, .int b15, .ref b16, .ref b17, .ref b18, .ref b19, .ref b20, .ref b21, .ref b22, .ref b23, .ref b24, .ref b25, .ref b26, .ref b27, .int y_203, .ref b29, .ref b30, .int b31, .int b32, .int b33, .int b34, .ref b35, .ref b36, .ref b37, .ref b38, .ref b39, .ref b40, .ref b41, .int b42, .ref b43, .ref b44, .int b45, .ref b46, .ref b47, .ref b48, .ref b49, .ref b50, .int b51, .ref b52, .ref b53, .ref b54])), (b2, .inl (G.2 0, 503, .inl b55)), (b16, .inl (G.2 0, 2, .inl f_3)), (b17, .inl (G.2 0, 4820, .inl f_4)), (b18, .inl (G.2 0, 520, .inl f_5)), (b19, .inl (G.2 0, 9640, .inl f_6)), (b20, .inl (G.2 0, 482, .inl f_7)), (b21, .inl (G.2 0, 482, .inl f_8)), (b22, .inl (G.2 0, 2, .inl f_9)), (b23, .inl (G.2 0, 482, .inl f_10)), (b24, .inl (G.2 0, 482, .inl f_11)), (b25, .inl (G.2 0, 482, .inl f_12)), (b26, .inl (G.2 0, 2, .inl f_13)), (b27, .inl (G.2 0, 2880, .inl f_14))] → va_S A s.heap H locs → lv_has ls 4 [(1, .int y_202), (0, .ref b0)] → W p l e m_s2_Model_layWeak s m ([.ref b0] : List Value).toArray below meth c H locs 0 0 (MQ below (zQ G (fun v w => ∃ (e0 : Int32), ∃ (e1 : Nat → Int32), ∃ (e2 : Nat → Int32), ∃ (e3 : Nat → Int32), ∃ (e4 : Nat → Int32), ∃ (e5 : Nat → Int32), ∃ (e6 : Nat → Int32), ∃ (e7 : Nat → Int32), ∃ (e8 : Nat → Int32), ∃ (e9 : Nat → Int32), ∃ (e10 : Nat → Int32), ∃ (e11 : Nat → Int32), ∃ (e12 : Nat → Int32), ∃ (e13 : Nat → Int32), ∃ (e14 : Nat → Int32), v = none ∧ w = [(b0, .inr (12, [.int b1, .ref b2, .ref b3, .ref b4, .ref b5, .int b6, .ref b7, .int b8, .int b9, .int b10, .int b11, .ref b12, .ref b13, .ref b14, .int b15, .ref b16, .ref b17, .ref b18, .ref b19, .ref b20, .ref b21, .ref b22, .ref b23, .ref b24, .ref b25, .ref b26, .ref b27, .int e0, .ref b29, .ref b30, .int b31, .int b32, .int b33, .int b34, .ref b35, .ref b36, .ref b37, .ref b38, .ref b39, .ref b40, .ref b41, .int b42, .ref b43, .ref b44, .int b45, .ref b46, .ref b47, .ref b48, .ref b49, .ref b50, .int b51, .ref b52, .ref b53, .ref b54])), (b2, .inl (G.2 0, 503, .inl b55)), (b16, .inl (G.2 0, 2, .inl e1)), (b17, .inl (G.2 0, 4820, .inl e2)), (b18, .inl (G.2 0, 520, .inl e3)), (b19, .inl (G.2 0, 9640, .inl e4)), (b20, .inl (G.2 0, 482, .inl e5)), (b21, .inl (G.2 0, 482, .inl e6)), (b22, .inl (G.2 0, 2, .inl e7)), (b23, .inl (G.2 0, 482, .inl e8)), (b24, .inl (G.2 0, 482, .inl e9)), (b25, .inl (G.2 0, 482, .inl e10)), (b26, .inl (G.2 0, 2, .inl e11)), (b27, .inl (G.2 0, 2880, .inl e12)), (b53, .inl (G.2 0, 20, .inl e13)), (b54, .inl (G.2 0, 20, .inl e14))] ∧ (zI e0 0 1) ∧ (zR e1 0 241) ∧ (zR e2 (-1) 240) ∧ (zqa qP e3) ∧ (zqa qC e5) ∧ (zR e6 0 240) ∧ (zR e7 0 241) ∧ (zR e8 0 240) ∧ (zR e11 0 240) ∧ (zqa qE e12)) A) ([.ref b0] : List Value).toArray s m_s2_Model_layWeak.cells m_s2_Model_layWeak.slots A) (F0 m 6 ls []) by
    exact key 21 (0) (x_2) (b68) (b69) _ _ _ (zI.wk (l' := 0) (h' := 20) zc_0 (by decide)) hx_2 (zm_upi (zI.wk (l' := 0) (h' := 20) zc_0 (by decide)) (by decide)) hP hD hS (lv_sub hl [0, 1] rfl)
  intro k_201
  induction k_201 with
  | zero =>
    intro y_202 y_203 y_204 y_205 H locs ls hy_202 hy_203 hmk_201 hP hD hS hl
    exact (zm_up0 hy_202 hmk_201).elim
  | succ k_201 ihk_201 =>
    intro y_202 y_203 y_204 y_205 H locs ls hy_202 hy_203 hmk_201 hP hD hS hl
    refine lv_iload_n hx hb d_Model_layWeak_6 rfl (lv_at hl 0 rfl) ?_
    refine lv_aload_n hx hb d_Model_layWeak_7 rfl (lv_at hl 1 rfl) ?_
    refine z_callV (index := 134) (As := []) (rest := [.int y_202]) (wr := [(b53, .inl (G.2 0, 20, .inl y_204)), (b54, .inl (G.2 0, 20, .inl y_205)), (b16, .inl (G.2 0, 2, .inl f_3)), (b17, .inl (G.2 0, 4820, .inl f_4)), (b18, .inl (G.2 0, 520, .inl f_5)), (b19, .inl (G.2 0, 9640, .inl f_6)), (b20, .inl (G.2 0, 482, .inl f_7)), (b21, .inl (G.2 0, 482, .inl f_8)), (b22, .inl (G.2 0, 2, .inl f_9)), (b23, .inl (G.2 0, 482, .inl f_10)), (b24, .inl (G.2 0, 482, .inl f_11)), (b25, .inl (G.2 0, 482, .inl f_12)), (b26, .inl (G.2 0, 2, .inl f_13)), (b27, .inl (G.2 0, 2880, .inl f_14))]) Z (s1_Model_many l G (b0) (b1) (b2) (b3) (b4) (b5) (b6) (b7) (b8) (b9) (b10) (b11) (b12) (b13) (b14) (b15) (b16) (b17) (b18) (b19) (b20) (b21) (b22) (b23) (b24) (b25) (b26) (b27) (y_203) (b29) (b30) (b31) (b32) (b33) (b34) (b35) (b36) (b37) (b38) (b39) (b40) (b41) (b42) (b43) (b44) (b45) (b46) (b47) (b48) (b49) (b50) (b51) (b52) (b53) (b54) (b55) hb6 hb8 hb9 hb11 hb15 hy_203 hb31 hb42 hb45 hb51 hb55) hl.1 q1320 q1322 qs51 q14 q1323 ⟨by decide, by decide, by show _ = some 0; decide +kernel⟩ ⟨Nat.le_of_ble_eq_true rfl, Nat.le_of_ble_eq_true rfl⟩ ⟨Nat.le_of_ble_eq_true rfl, Nat.le_of_ble_eq_true rfl⟩ rfl (Nat.le_of_ble_eq_true rfl) d_Model_layWeak_8 hP hD hS hA 2 12 rfl rfl rfl [2, 3] [0, 1, 4, 5, 6, 7, 8, 9, 10, 11, 12, 13, 14, 15] rfl rfl rfl rfl (by decide) (fun v w1 H locs hw_206 hP hD hS => ?_)
    obtain ⟨x_207, rfl, rfl, hx_207, hfx_208⟩ := hw_206
    have hP : va_P G.1 classes [(b53, .inl (G.2 0, 20, .inl y_204)), (b54, .inl (G.2 0, 20, .inl y_205)), (b16, .inl (G.2 0, 2, .inl f_3)), (b17, .inl (G.2 0, 4820, .inl f_4)), (b18, .inl (G.2 0, 520, .inl f_5)), (b19, .inl (G.2 0, 9640, .inl f_6)), (b20, .inl (G.2 0, 482, .inl f_7)), (b21, .inl (G.2 0, 482, .inl f_8)), (b22, .inl (G.2 0, 2, .inl f_9)), (b23, .inl (G.2 0, 482, .inl f_10)), (b24, .inl (G.2 0, 482, .inl f_11)), (b25, .inl (G.2 0, 482, .inl f_12)), (b26, .inl (G.2 0, 2, .inl f_13)), (b27, .inl (G.2 0, 2880, .inl f_14)), (b0, .inr (12, [.int b1, .ref b2, .ref b3, .ref b4, .ref b5, .int b6, .ref b7, .int b8, .int b9, .int b10, .int b11, .ref b12, .ref b13, .ref b14, .int b15, .ref b16, .ref b17, .ref b18, .ref b19, .ref b20, .ref b21, .ref b22, .ref b23, .ref b24, .ref b25, .ref b26, .ref b27, .int y_203, .ref b29, .ref b30, .int b31, .int b32, .int b33, .int b34, .ref b35, .ref b36, .ref b37, .ref b38, .ref b39, .ref b40, .ref b41, .int b42, .ref b43, .ref b44, .int b45, .ref b46, .ref b47, .ref b48, .ref b49, .ref b50, .int b51, .ref b52, .ref b53, .ref b54])), (b2, .inl (G.2 0, 503, .inl b55))] H := hP
    have hD := z_tie hP hD rfl
    refine W.widen (k := 0) (n := 0) (Nat.le_of_ble_eq_true rfl) (Nat.le_of_ble_eq_true rfl) ?_
    refine lv_icmp_ge (tgt := 155) hx hb d_Model_layWeak_11 (by decide) (fun hc_209 => ?_) (fun hc_209 => ?_)
    · have _nhc_209 := hc_209
      have ni_210 := (fa_le _ _).mp hc_209
      exact z_vret hx hb hr hlocks (hP.sub [14, 15, 2, 3, 4, 5, 6, 7, 8, 9, 10, 11, 12, 13, 0, 1] rfl) (hD.sub [14, 15, 2, 3, 4, 5, 6, 7, 8, 9, 10, 11, 12, 13, 0, 1] (by decide) rfl) hS (Nat.le_of_ble_eq_true rfl) (Nat.le_of_ble_eq_true rfl) d_Model_layWeak_155 ⟨y_203, f_3, f_4, f_5, f_6, f_7, f_8, f_9, f_10, f_11, f_12, f_13, f_14, y_204, y_205, rfl, rfl, hy_203, hf_3, hf_4, hf_5, hf_7, hf_8, hf_9, hf_10, hf_13, hf_14⟩
    · have _nhc_209 := hc_209
      have ni_211 := (fa_lt _ _).mp (zi_nle hc_209)
      have hv_212 : zI y_202 0 19 := zI.lt_l hy_202 hx_207 (zi_nle hc_209) (by decide)
      have hv_213 : zI x_207 1 20 := zI.lt_r hy_202 hx_207 (zi_nle hc_209) (by decide)
      refine lv_aload_n hx hb d_Model_layWeak_14 rfl (lv_at hl 1 rfl) ?_
      refine va_get (D := G.1) (ci := 12) (v := .ref b53) (C := R_Model) (T := F_Model) (N := 54) hx hb hts i_Model hown hK hP 14 rfl rfl 52 (by decide) (hts _ q1161) (fun _ h9 => h9) rfl d_Model_layWeak_15 ?_
      refine lv_iload_n hx hb d_Model_layWeak_18 rfl (lv_at hl 0 rfl) ?_
      refine lv_sipush (v := 999) hx hb d_Model_layWeak_19 (by decide) ?_
      refine va_iast hx hb hK hP hD hS 0 0 rfl rfl (zI.inn hv_212 (by decide)) d_Model_layWeak_22 (fun H locs hP hD hS => ?_)
      obtain ⟨f_214, gf_214, uf_214, hP, hD⟩ := z_newFu 0 hP hD rfl
      have hP : va_P G.1 classes [(b53, .inl (G.2 0, 20, .inl f_214)), (b54, .inl (G.2 0, 20, .inl y_205)), (b16, .inl (G.2 0, 2, .inl f_3)), (b17, .inl (G.2 0, 4820, .inl f_4)), (b18, .inl (G.2 0, 520, .inl f_5)), (b19, .inl (G.2 0, 9640, .inl f_6)), (b20, .inl (G.2 0, 482, .inl f_7)), (b21, .inl (G.2 0, 482, .inl f_8)), (b22, .inl (G.2 0, 2, .inl f_9)), (b23, .inl (G.2 0, 482, .inl f_10)), (b24, .inl (G.2 0, 482, .inl f_11)), (b25, .inl (G.2 0, 482, .inl f_12)), (b26, .inl (G.2 0, 2, .inl f_13)), (b27, .inl (G.2 0, 2880, .inl f_14)), (b0, .inr (12, [.int b1, .ref b2, .ref b3, .ref b4, .ref b5, .int b6, .ref b7, .int b8, .int b9, .int b10, .int b11, .ref b12, .ref b13, .ref b14, .int b15, .ref b16, .ref b17, .ref b18, .ref b19, .ref b20, .ref b21, .ref b22, .ref b23, .ref b24, .ref b25, .ref b26, .ref b27, .int y_203, .ref b29, .ref b30, .int b31, .int b32, .int b33, .int b34, .ref b35, .ref b36, .ref b37, .ref b38, .ref b39, .ref b40, .ref b41, .int b42, .ref b43, .ref b44, .int b45, .ref b46, .ref b47, .ref b48, .ref b49, .ref b50, .int b51, .ref b52, .ref b53, .ref b54])), (b2, .inl (G.2 0, 503, .inl b55))] H := hP
      have hD := z_tie hP hD rfl
      refine lv_aload_n hx hb d_Model_layWeak_23 rfl (lv_at hl 1 rfl) ?_
      refine va_get (D := G.1) (ci := 12) (v := .ref b54) (C := R_Model) (T := F_Model) (N := 54) hx hb hts i_Model hown hK hP 14 rfl rfl 53 (by decide) (hts _ q1162) (fun _ h9 => h9) rfl d_Model_layWeak_24 ?_
      refine lv_iload_n hx hb d_Model_layWeak_27 rfl (lv_at hl 0 rfl) ?_
      refine lv_iconst (v := 0) hx hb d_Model_layWeak_28 (by decide) ?_
      refine va_iast hx hb hK hP hD hS 1 0 rfl rfl (zI.inn hv_212 (by decide)) d_Model_layWeak_29 (fun H locs hP hD hS => ?_)
      obtain ⟨f_215, gf_215, uf_215, hP, hD⟩ := z_newFu 1 hP hD rfl
      have hP : va_P G.1 classes [(b53, .inl (G.2 0, 20, .inl f_214)), (b54, .inl (G.2 0, 20, .inl f_215)), (b16, .inl (G.2 0, 2, .inl f_3)), (b17, .inl (G.2 0, 4820, .inl f_4)), (b18, .inl (G.2 0, 520, .inl f_5)), (b19, .inl (G.2 0, 9640, .inl f_6)), (b20, .inl (G.2 0, 482, .inl f_7)), (b21, .inl (G.2 0, 482, .inl f_8)), (b22, .inl (G.2 0, 2, .inl f_9)), (b23, .inl (G.2 0, 482, .inl f_10)), (b24, .inl (G.2 0, 482, .inl f_11)), (b25, .inl (G.2 0, 482, .inl f_12)), (b26, .inl (G.2 0, 2, .inl f_13)), (b27, .inl (G.2 0, 2880, .inl f_14)), (b0, .inr (12, [.int b1, .ref b2, .ref b3, .ref b4, .ref b5, .int b6, .ref b7, .int b8, .int b9, .int b10, .int b11, .ref b12, .ref b13, .ref b14, .int b15, .ref b16, .ref b17, .ref b18, .ref b19, .ref b20, .ref b21, .ref b22, .ref b23, .ref b24, .ref b25, .ref b26, .ref b27, .int y_203, .ref b29, .ref b30, .int b31, .int b32, .int b33, .int b34, .ref b35, .ref b36, .ref b37, .ref b38, .ref b39, .ref b40, .ref b41, .int b42, .ref b43, .ref b44, .int b45, .ref b46, .ref b47, .ref b48, .ref b49, .ref b50, .int b51, .ref b52, .ref b53, .ref b54])), (b2, .inl (G.2 0, 503, .inl b55))] H := hP
      have hD := z_tie hP hD rfl
      refine lv_iconst (v := 0) hx hb d_Model_layWeak_30 (by decide) ?_
      refine lv_istore_n (lv' := [(2, .int 0), (1, .int y_202), (0, .ref b0)]) hx hb d_Model_layWeak_31 rfl hl (by decide) rfl (fun ls hl => ?_)
      suffices key : ∀ (k_295 : Nat) (y_296 : Int32) (y_297 : Int32) (y_298 : Nat → Int32) (y_299 : Nat → Int32) (H : Heap) (locs : List Loc) (ls : Array Slot), (zI y_296 0 12) → (zI y_297 0 1) → (12 : Int) - y_296.toInt < (k_295 : Int) → va_P G.1 classes [(b53, .inl (G.2 0, 20, .inl y_298)), (b54, .inl (G.2 0, 20, .inl y_299)), (b16, .inl (G.2 0, 2, .inl f_3)), (b17, .inl (G.2 0, 4820, .inl f_4)), (b18, .inl (G.2 0, 520, .inl f_5)), (b19, .inl (G.2 0, 9640, .inl f_6)), (b20, .inl (G.2 0, 482, .inl f_7)), (b21, .inl (G.2 0, 482, .inl f_8)), (b22, .inl (G.2 0, 2, .inl f_9)), (b23, .inl (G.2 0, 482, .inl f_10)), (b24, .inl (G.2 0, 482, .inl f_11)), (b25, .inl (G.2 0, 482, .inl f_12)), (b26, .inl (G.2 0, 2, .inl f_13)), (b27, .inl (G.2 0, 2880, .inl f_14)), (b0, .inr (12, [.int b1, .ref b2, .ref b3, .ref b4, .ref b5, .int b6, .ref b7, .int b8, .int b9, .int b10, .int b11, .ref b12, .ref b13, .ref b14, .int b15, .ref b16, .ref b17, .ref b18, .ref b19, .ref b20, .ref b21, .ref b22, .ref b23, .ref b24, .ref b25, .ref b26, .ref b27, .int y_297, .ref b29, .ref b30, .int b31, .int b32, .int b33, .int b34, .ref b35, .ref b36, .ref b37, .ref b38, .ref b39, .ref b40, .ref b41, .int b42, .ref b43, .ref b44, .int b45, .ref b46, .ref b47, .ref b48, .ref b49, .ref b50, .int b51, .ref b52, .ref b53, .ref b54])), (b2, .inl (G.2 0, 503, .inl b55))] H → va_D A [(b53, .inl (G.2 0, 20, .inl y_298)), (b54, .inl (G.2 0, 20, .inl y_299)), (b16, .inl (G.2 0, 2, .inl f_3)), (b17, .inl (G.2 0, 4820, .inl f_4)), (b18, .inl (G.2 0, 520, .inl f_5)), (b19, .inl (G.2 0, 9640, .inl f_6)), (b20, .inl (G.2 0, 482, .inl f_7)), (b21, .inl (G.2 0, 482, .inl f_8)), (b22, .inl (G.2 0, 2, .inl f_9)), (b23, .inl (G.2 0, 482, .inl f_10)), (b24, .inl (G.2 0, 482, .inl f_11)), (b25, .inl (G.2 0, 482, .inl f_12)), (b26, .inl (G.2 0, 2, .inl f_13)), (b27, .inl (G.2 0, 2880, .inl f_14)), (b0, .inr (12, [.int b1, .ref b2, .ref b3, .ref b4, .ref b5, .int b6, .ref b7, .int b8, .int b9, .int b10, .int b11, .ref b12, .ref b13, .ref b14, .int b15, .ref b16, .ref b17, .ref b18, .ref b19, .ref b20, .ref b21, .ref b22, .ref b23, .ref b24, .ref b25, .ref b26, .ref b27, .int y_297, .ref b29, .ref b30, .int b31, .int b32, .int b33, .int b34, .ref b35, .ref b36, .ref b37, .ref b38, .ref b39, .ref b40, .ref b41, .int b42, .ref b43, .ref b44, .int b45, .ref b46, .ref b47, .ref b48, .ref b49, .ref b50, .int b51, .ref b52, .ref b53, .ref b54])), (b2, .inl (G.2 0, 503, .inl b55))] → va_S A s.heap H locs → lv_has ls 4 [(2, .int y_296), (1, .int y_202), (0, .ref b0)] → W p l e m_s2_Model_layWeak s m ([.ref b0] : List Value).toArray below meth c H locs 0 0 (MQ below (zQ G (fun v w => ∃ (e0 : Int32), ∃ (e1 : Nat → Int32), ∃ (e2 : Nat → Int32), ∃ (e3 : Nat → Int32), ∃ (e4 : Nat → Int32), ∃ (e5 : Nat → Int32), ∃ (e6 : Nat → Int32), ∃ (e7 : Nat → Int32), ∃ (e8 : Nat → Int32), ∃ (e9 : Nat → Int32), ∃ (e10 : Nat → Int32), ∃ (e11 : Nat → Int32), ∃ (e12 : Nat → Int32), ∃ (e13 : Nat → Int32), ∃ (e14 : Nat → Int32), v = none ∧ w = [(b0, .inr (12, [.int b1, .ref b2, .ref b3, .ref b4, .ref b5, .int b6, .ref b7, .int b8, .int b9, .int b10, .int b11, .ref b12, .ref b13, .ref b14, .int b15, .ref b16, .ref b17, .ref b18, .ref b19, .ref b20, .ref b21, .ref b22, .ref b23, .ref b24, .ref b25, .ref b26, .ref b27, .int e0, .ref b29, .ref b30, .int b31, .int b32, .int b33, .int b34, .ref b35, .ref b36, .ref b37, .ref b38, .ref b39, .ref b40, .ref b41, .int b42, .ref b43, .ref b44, .int b45, .ref b46, .ref b47, .ref b48, .ref b49, .ref b50, .int b51, .ref b52, .ref b53, .ref b54])), (b2, .inl (G.2 0, 503, .inl b55)), (b16, .inl (G.2 0, 2, .inl e1)), (b17, .inl (G.2 0, 4820, .inl e2)), (b18, .inl (G.2 0, 520, .inl e3)), (b19, .inl (G.2 0, 9640, .inl e4)), (b20, .inl (G.2 0, 482, .inl e5)), (b21, .inl (G.2 0, 482, .inl e6)), (b22, .inl (G.2 0, 2, .inl e7)), (b23, .inl (G.2 0, 482, .inl e8)), (b24, .inl (G.2 0, 482, .inl e9)), (b25, .inl (G.2 0, 482, .inl e10)), (b26, .inl (G.2 0, 2, .inl e11)), (b27, .inl (G.2 0, 2880, .inl e12)), (b53, .inl (G.2 0, 20, .inl e13)), (b54, .inl (G.2 0, 20, .inl e14))] ∧ (zI e0 0 1) ∧ (zR e1 0 241) ∧ (zR e2 (-1) 240) ∧ (zqa qP e3) ∧ (zqa qC e5) ∧ (zR e6 0 240) ∧ (zR e7 0 241) ∧ (zR e8 0 240) ∧ (zR e11 0 240) ∧ (zqa qE e12)) A) ([.ref b0] : List Value).toArray s m_s2_Model_layWeak.cells m_s2_Model_layWeak.slots A) (F0 m 32 ls []) by
        exact key 13 (0) (y_203) (f_214) (f_215) _ _ _ (zI.wk (l' := 0) (h' := 12) zc_0 (by decide)) hy_203 (zm_upi (zI.wk (l' := 0) (h' := 12) zc_0 (by decide)) (by decide)) hP hD hS (lv_sub hl [0, 1, 2] rfl)
      intro k_295
      induction k_295 with
      | zero =>
        intro y_296 y_297 y_298 y_299 H locs ls hy_296 hy_297 hmk_295 hP hD hS hl
        exact (zm_up0 hy_296 hmk_295).elim
      | succ k_295 ihk_295 =>
        intro y_296 y_297 y_298 y_299 H locs ls hy_296 hy_297 hmk_295 hP hD hS hl
        refine lv_iload_n hx hb d_Model_layWeak_32 rfl (lv_at hl 0 rfl) ?_
        refine lv_aload_n hx hb d_Model_layWeak_33 rfl (lv_at hl 2 rfl) ?_
        refine lv_iload_n hx hb d_Model_layWeak_34 rfl (lv_at hl 1 rfl) ?_
        refine z_callV (index := 203) (As := [.int y_202]) (rest := [.int y_296]) (wr := [(b53, .inl (G.2 0, 20, .inl y_298)), (b54, .inl (G.2 0, 20, .inl y_299)), (b16, .inl (G.2 0, 2, .inl f_3)), (b17, .inl (G.2 0, 4820, .inl f_4)), (b18, .inl (G.2 0, 520, .inl f_5)), (b19, .inl (G.2 0, 9640, .inl f_6)), (b20, .inl (G.2 0, 482, .inl f_7)), (b21, .inl (G.2 0, 482, .inl f_8)), (b22, .inl (G.2 0, 2, .inl f_9)), (b23, .inl (G.2 0, 482, .inl f_10)), (b24, .inl (G.2 0, 482, .inl f_11)), (b25, .inl (G.2 0, 482, .inl f_12)), (b26, .inl (G.2 0, 2, .inl f_13)), (b27, .inl (G.2 0, 2880, .inl f_14))]) Z (s1_Model_calls l G (b0) (y_202) (b1) (b2) (b3) (b4) (b5) (b6) (b7) (b8) (b9) (b10) (b11) (b12) (b13) (b14) (b15) (b16) (b17) (b18) (b19) (b20) (b21) (b22) (b23) (b24) (b25) (b26) (b27) (y_297) (b29) (b30) (b31) (b32) (b33) (b34) (b35) (b36) (b37) (b38) (b39) (b40) (b41) (b42) (b43) (b44) (b45) (b46) (b47) (b48) (b49) (b50) (b51) (b52) (b53) (b54) (b55) hv_212 hb6 hb8 hb9 hb11 hb15 hy_297 hb31 hb42 hb45 hb51 hb55) hl.1 q1352 q1354 qs54 q14 q1355 ⟨by decide, by decide, by show _ = some 1; decide +kernel⟩ ⟨Nat.le_of_ble_eq_true rfl, Nat.le_of_ble_eq_true rfl⟩ ⟨Nat.le_of_ble_eq_true rfl, Nat.le_of_ble_eq_true rfl⟩ rfl (Nat.le_of_ble_eq_true rfl) d_Model_layWeak_35 hP hD hS hA 14 12 rfl rfl rfl [14, 15] [0, 1, 2, 3, 4, 5, 6, 7, 8, 9, 10, 11, 12, 13] rfl rfl rfl rfl (by decide) (fun v w1 H locs hw_300 hP hD hS => ?_)
        obtain ⟨x_301, rfl, rfl, hx_301, hfx_302⟩ := hw_300
        have hP : va_P G.1 classes [(b53, .inl (G.2 0, 20, .inl y_298)), (b54, .inl (G.2 0, 20, .inl y_299)), (b16, .inl (G.2 0, 2, .inl f_3)), (b17, .inl (G.2 0, 4820, .inl f_4)), (b18, .inl (G.2 0, 520, .inl f_5)), (b19, .inl (G.2 0, 9640, .inl f_6)), (b20, .inl (G.2 0, 482, .inl f_7)), (b21, .inl (G.2 0, 482, .inl f_8)), (b22, .inl (G.2 0, 2, .inl f_9)), (b23, .inl (G.2 0, 482, .inl f_10)), (b24, .inl (G.2 0, 482, .inl f_11)), (b25, .inl (G.2 0, 482, .inl f_12)), (b26, .inl (G.2 0, 2, .inl f_13)), (b27, .inl (G.2 0, 2880, .inl f_14)), (b0, .inr (12, [.int b1, .ref b2, .ref b3, .ref b4, .ref b5, .int b6, .ref b7, .int b8, .int b9, .int b10, .int b11, .ref b12, .ref b13, .ref b14, .int b15, .ref b16, .ref b17, .ref b18, .ref b19, .ref b20, .ref b21, .ref b22, .ref b23, .ref b24, .ref b25, .ref b26, .ref b27, .int y_297, .ref b29, .ref b30, .int b31, .int b32, .int b33, .int b34, .ref b35, .ref b36, .ref b37, .ref b38, .ref b39, .ref b40, .ref b41, .int b42, .ref b43, .ref b44, .int b45, .ref b46, .ref b47, .ref b48, .ref b49, .ref b50, .int b51, .ref b52, .ref b53, .ref b54])), (b2, .inl (G.2 0, 503, .inl b55))] H := hP
        have hD := z_tie hP hD rfl
        refine W.widen (k := 0) (n := 0) (Nat.le_of_ble_eq_true rfl) (Nat.le_of_ble_eq_true rfl) ?_
        refine lv_icmp_ge (tgt := 149) hx hb d_Model_layWeak_38 (by decide) (fun hc_303 => ?_) (fun hc_303 => ?_)
        · have _nhc_303 := hc_303
          have ni_304 := (fa_le _ _).mp hc_303
          obtain ⟨v_305, ev_305⟩ : ∃ z : Int32, z = y_202 + 1 := ⟨_, rfl⟩
          obtain ⟨qv_305, hv_305⟩ := zI_add (l := 1) (h := 20) hv_212 zc_1 ev_305 (by decide)
          rw [li_1] at qv_305
          refine lv_iinc (v := v_305) (lv' := [(1, .int v_305), (2, .int y_296), (0, .ref b0)]) hx hb d_Model_layWeak_149 hl (k := 1) rfl (by rw [ev_305]; rfl) (by decide) rfl (fun ls hl => ?_)
          refine lv_goto (tgt := 6) hx hb d_Model_layWeak_152 (by decide) ?_
          exact ihk_201 (v_305) (y_297) (y_298) (y_299) _ _ _ (zI.wk (l' := 0) (h' := 20) hv_305 (by decide)) hy_297 (zm_up qv_305 hmk_201 (by decide)) (hP.sub [0, 1, 14, 15, 2, 3, 4, 5, 6, 7, 8, 9, 10, 11, 12, 13] rfl) (hD.sub [0, 1, 14, 15, 2, 3, 4, 5, 6, 7, 8, 9, 10, 11, 12, 13] (by decide) rfl) hS (lv_sub hl [0, 2] rfl)
        · have _nhc_303 := hc_303
          have ni_306 := (fa_lt _ _).mp (zi_nle hc_303)
          have hv_307 : zI y_296 0 11 := zI.lt_l hy_296 hx_301 (zi_nle hc_303) (by decide)
          have hv_308 : zI x_301 1 12 := zI.lt_r hy_296 hx_301 (zi_nle hc_303) (by decide)
          refine lv_aload_n hx hb d_Model_layWeak_41 rfl (lv_at hl 2 rfl) ?_
          refine lv_iconst (v := 0) hx hb d_Model_layWeak_42 (by decide) ?_
          refine lv_aload_n hx hb d_Model_layWeak_43 rfl (lv_at hl 2 rfl) ?_
          refine lv_iconst (v := 0) hx hb d_Model_layWeak_44 (by decide) ?_
          refine lv_aload_n hx hb d_Model_layWeak_45 rfl (lv_at hl 2 rfl) ?_
          refine lv_iconst (v := 0) hx hb d_Model_layWeak_46 (by decide) ?_
          refine lv_iload_n hx hb d_Model_layWeak_47 rfl (lv_at hl 1 rfl) ?_
          refine lv_iload_n hx hb d_Model_layWeak_48 rfl (lv_at hl 0 rfl) ?_
          refine z_callV (index := 231) (As := [.int 0, .int y_202, .int y_296]) (rest := [.int 0, .ref b0, .int 0, .ref b0]) (wr := [(b53, .inl (G.2 0, 20, .inl y_298)), (b54, .inl (G.2 0, 20, .inl y_299)), (b16, .inl (G.2 0, 2, .inl f_3)), (b17, .inl (G.2 0, 4820, .inl f_4)), (b19, .inl (G.2 0, 9640, .inl f_6)), (b20, .inl (G.2 0, 482, .inl f_7)), (b22, .inl (G.2 0, 2, .inl f_9)), (b23, .inl (G.2 0, 482, .inl f_10)), (b24, .inl (G.2 0, 482, .inl f_11)), (b25, .inl (G.2 0, 482, .inl f_12)), (b26, .inl (G.2 0, 2, .inl f_13)), (b27, .inl (G.2 0, 2880, .inl f_14)), (b2, .inl (G.2 0, 503, .inl b55))]) Z (s1_Model_stateAt l G (b0) (y_202) (y_296) (b1) (b2) (b3) (b4) (b5) (b6) (b7) (b8) (b9) (b10) (b11) (b12) (b13) (b14) (b15) (b16) (b17) (b18) (b19) (b20) (b21) (b22) (b23) (b24) (b25) (b26) (b27) (y_297) (b29) (b30) (b31) (b32) (b33) (b34) (b35) (b36) (b37) (b38) (b39) (b40) (b41) (b42) (b43) (b44) (b45) (b46) (b47) (b48) (b49) (b50) (b51) (b52) (b53) (b54) (f_5) (f_8) hv_212 (zI.wk (l' := 0) (h' := 12) hv_307 (by decide)) hb6 hb8 hb9 hb11 hb15 hy_297 hb31 hb42 hb45 hb51 hf_5 hf_8) hl.1 q1400 q1402 qs66 q14 q1403 ⟨by decide, by decide, by show _ = some 3; decide +kernel⟩ ⟨Nat.le_of_ble_eq_true rfl, Nat.le_of_ble_eq_true rfl⟩ ⟨Nat.le_of_ble_eq_true rfl, Nat.le_of_ble_eq_true rfl⟩ rfl (Nat.le_of_ble_eq_true rfl) d_Model_layWeak_49 hP hD hS hA 14 12 rfl rfl rfl [14, 4, 7] [0, 1, 2, 3, 5, 6, 8, 9, 10, 11, 12, 13, 15] rfl rfl rfl rfl (by decide) (fun v w1 H locs hw_309 hP hD hS => ?_)
          obtain ⟨x_310, rfl, rfl, hx_310, hfx_311⟩ := hw_309
          have hP : va_P G.1 classes [(b53, .inl (G.2 0, 20, .inl y_298)), (b54, .inl (G.2 0, 20, .inl y_299)), (b16, .inl (G.2 0, 2, .inl f_3)), (b17, .inl (G.2 0, 4820, .inl f_4)), (b19, .inl (G.2 0, 9640, .inl f_6)), (b20, .inl (G.2 0, 482, .inl f_7)), (b22, .inl (G.2 0, 2, .inl f_9)), (b23, .inl (G.2 0, 482, .inl f_10)), (b24, .inl (G.2 0, 482, .inl f_11)), (b25, .inl (G.2 0, 482, .inl f_12)), (b26, .inl (G.2 0, 2, .inl f_13)), (b27, .inl (G.2 0, 2880, .inl f_14)), (b2, .inl (G.2 0, 503, .inl b55)), (b0, .inr (12, [.int b1, .ref b2, .ref b3, .ref b4, .ref b5, .int b6, .ref b7, .int b8, .int b9, .int b10, .int b11, .ref b12, .ref b13, .ref b14, .int b15, .ref b16, .ref b17, .ref b18, .ref b19, .ref b20, .ref b21, .ref b22, .ref b23, .ref b24, .ref b25, .ref b26, .ref b27, .int y_297, .ref b29, .ref b30, .int b31, .int b32, .int b33, .int b34, .ref b35, .ref b36, .ref b37, .ref b38, .ref b39, .ref b40, .ref b41, .int b42, .ref b43, .ref b44, .int b45, .ref b46, .ref b47, .ref b48, .ref b49, .ref b50, .int b51, .ref b52, .ref b53, .ref b54])), (b18, .inl (G.2 0, 520, .inl f_5)), (b21, .inl (G.2 0, 482, .inl f_8))] H := hP
          have hD := z_tie hP hD rfl
          refine W.widen (k := 0) (n := 0) (Nat.le_of_ble_eq_true rfl) (Nat.le_of_ble_eq_true rfl) ?_
          refine lv_aload_n hx hb d_Model_layWeak_52 rfl (lv_at hl 2 rfl) ?_
          refine lv_iload_n hx hb d_Model_layWeak_53 rfl (lv_at hl 1 rfl) ?_
          refine lv_iload_n hx hb d_Model_layWeak_54 rfl (lv_at hl 0 rfl) ?_
          refine z_callV (index := 207) (As := [.int y_202, .int y_296]) (rest := [.int x_310, .int 0, .ref b0, .int 0, .ref b0]) (wr := [(b53, .inl (G.2 0, 20, .inl y_298)), (b54, .inl (G.2 0, 20, .inl y_299)), (b16, .inl (G.2 0, 2, .inl f_3)), (b17, .inl (G.2 0, 4820, .inl f_4)), (b19, .inl (G.2 0, 9640, .inl f_6)), (b20, .inl (G.2 0, 482, .inl f_7)), (b22, .inl (G.2 0, 2, .inl f_9)), (b23, .inl (G.2 0, 482, .inl f_10)), (b24, .inl (G.2 0, 482, .inl f_11)), (b25, .inl (G.2 0, 482, .inl f_12)), (b26, .inl (G.2 0, 2, .inl f_13)), (b27, .inl (G.2 0, 2880, .inl f_14)), (b18, .inl (G.2 0, 520, .inl f_5)), (b21, .inl (G.2 0, 482, .inl f_8))]) Z (s1_Model_letterAt l G (b0) (y_202) (y_296) (b1) (b2) (b3) (b4) (b5) (b6) (b7) (b8) (b9) (b10) (b11) (b12) (b13) (b14) (b15) (b16) (b17) (b18) (b19) (b20) (b21) (b22) (b23) (b24) (b25) (b26) (b27) (y_297) (b29) (b30) (b31) (b32) (b33) (b34) (b35) (b36) (b37) (b38) (b39) (b40) (b41) (b42) (b43) (b44) (b45) (b46) (b47) (b48) (b49) (b50) (b51) (b52) (b53) (b54) (b55) hv_212 hv_307 hb6 hb8 hb9 hb11 hb15 hy_297 hb31 hb42 hb45 hb51 hb55) hl.1 q1372 q1374 qs59 q14 q1375 ⟨by decide, by decide, by show _ = some 2; decide +kernel⟩ ⟨Nat.le_of_ble_eq_true rfl, Nat.le_of_ble_eq_true rfl⟩ ⟨Nat.le_of_ble_eq_true rfl, Nat.le_of_ble_eq_true rfl⟩ rfl (Nat.le_of_ble_eq_true rfl) d_Model_layWeak_55 hP hD hS hA 13 12 rfl rfl rfl [13, 12] [0, 1, 2, 3, 4, 5, 6, 7, 8, 9, 10, 11, 14, 15] rfl rfl rfl rfl (by decide) (fun v w1 H locs hw_312 hP hD hS => ?_)
          obtain ⟨x_313, rfl, rfl, hx_313⟩ := hw_312
          have hP : va_P G.1 classes [(b53, .inl (G.2 0, 20, .inl y_298)), (b54, .inl (G.2 0, 20, .inl y_299)), (b16, .inl (G.2 0, 2, .inl f_3)), (b17, .inl (G.2 0, 4820, .inl f_4)), (b19, .inl (G.2 0, 9640, .inl f_6)), (b20, .inl (G.2 0, 482, .inl f_7)), (b22, .inl (G.2 0, 2, .inl f_9)), (b23, .inl (G.2 0, 482, .inl f_10)), (b24, .inl (G.2 0, 482, .inl f_11)), (b25, .inl (G.2 0, 482, .inl f_12)), (b26, .inl (G.2 0, 2, .inl f_13)), (b27, .inl (G.2 0, 2880, .inl f_14)), (b18, .inl (G.2 0, 520, .inl f_5)), (b21, .inl (G.2 0, 482, .inl f_8)), (b0, .inr (12, [.int b1, .ref b2, .ref b3, .ref b4, .ref b5, .int b6, .ref b7, .int b8, .int b9, .int b10, .int b11, .ref b12, .ref b13, .ref b14, .int b15, .ref b16, .ref b17, .ref b18, .ref b19, .ref b20, .ref b21, .ref b22, .ref b23, .ref b24, .ref b25, .ref b26, .ref b27, .int y_297, .ref b29, .ref b30, .int b31, .int b32, .int b33, .int b34, .ref b35, .ref b36, .ref b37, .ref b38, .ref b39, .ref b40, .ref b41, .int b42, .ref b43, .ref b44, .int b45, .ref b46, .ref b47, .ref b48, .ref b49, .ref b50, .int b51, .ref b52, .ref b53, .ref b54])), (b2, .inl (G.2 0, 503, .inl b55))] H := hP
          have hD := z_tie hP hD rfl
          refine W.widen (k := 0) (n := 0) (Nat.le_of_ble_eq_true rfl) (Nat.le_of_ble_eq_true rfl) ?_
          refine lv_aload_n hx hb d_Model_layWeak_58 rfl (lv_at hl 2 rfl) ?_
          refine lv_iconst (v := 0) hx hb d_Model_layWeak_59 (by decide) ?_
          refine lv_iload_n hx hb d_Model_layWeak_60 rfl (lv_at hl 1 rfl) ?_
          refine lv_iload_n hx hb d_Model_layWeak_61 rfl (lv_at hl 0 rfl) ?_
          refine lv_iconst (v := 1) hx hb d_Model_layWeak_62 (by decide) ?_
          refine lv_iadd hx hb d_Model_layWeak_63 ?_
          refine lv_topi (fun v_314 ev_314 => ?_)
          obtain ⟨qv_314, hv_314⟩ := zI_add (l := 1) (h := 12) hv_307 zc_1 ev_314 (by decide)
          rw [li_1] at qv_314
          refine z_callV (index := 231) (As := [.int 0, .int y_202, .int v_314]) (rest := [.int x_313, .int x_310, .int 0, .ref b0, .int 0, .ref b0]) (wr := [(b53, .inl (G.2 0, 20, .inl y_298)), (b54, .inl (G.2 0, 20, .inl y_299)), (b16, .inl (G.2 0, 2, .inl f_3)), (b17, .inl (G.2 0, 4820, .inl f_4)), (b19, .inl (G.2 0, 9640, .inl f_6)), (b20, .inl (G.2 0, 482, .inl f_7)), (b22, .inl (G.2 0, 2, .inl f_9)), (b23, .inl (G.2 0, 482, .inl f_10)), (b24, .inl (G.2 0, 482, .inl f_11)), (b25, .inl (G.2 0, 482, .inl f_12)), (b26, .inl (G.2 0, 2, .inl f_13)), (b27, .inl (G.2 0, 2880, .inl f_14)), (b2, .inl (G.2 0, 503, .inl b55))]) Z (s1_Model_stateAt l G (b0) (y_202) (v_314) (b1) (b2) (b3) (b4) (b5) (b6) (b7) (b8) (b9) (b10) (b11) (b12) (b13) (b14) (b15) (b16) (b17) (b18) (b19) (b20) (b21) (b22) (b23) (b24) (b25) (b26) (b27) (y_297) (b29) (b30) (b31) (b32) (b33) (b34) (b35) (b36) (b37) (b38) (b39) (b40) (b41) (b42) (b43) (b44) (b45) (b46) (b47) (b48) (b49) (b50) (b51) (b52) (b53) (b54) (f_5) (f_8) hv_212 (zI.wk (l' := 0) (h' := 12) hv_314 (by decide)) hb6 hb8 hb9 hb11 hb15 hy_297 hb31 hb42 hb45 hb51 hf_5 hf_8) hl.1 q1400 q1402 qs66 q14 q1403 ⟨by decide, by decide, by show _ = some 3; decide +kernel⟩ ⟨Nat.le_of_ble_eq_true rfl, Nat.le_of_ble_eq_true rfl⟩ ⟨Nat.le_of_ble_eq_true rfl, Nat.le_of_ble_eq_true rfl⟩ rfl (Nat.le_of_ble_eq_true rfl) d_Model_layWeak_64 hP hD hS hA 14 12 rfl rfl rfl [14, 12, 13] [0, 1, 2, 3, 4, 5, 6, 7, 8, 9, 10, 11, 15] rfl rfl rfl rfl (by decide) (fun v w1 H locs hw_315 hP hD hS => ?_)
          obtain ⟨x_316, rfl, rfl, hx_316, hfx_317⟩ := hw_315
          have hP : va_P G.1 classes [(b53, .inl (G.2 0, 20, .inl y_298)), (b54, .inl (G.2 0, 20, .inl y_299)), (b16, .inl (G.2 0, 2, .inl f_3)), (b17, .inl (G.2 0, 4820, .inl f_4)), (b19, .inl (G.2 0, 9640, .inl f_6)), (b20, .inl (G.2 0, 482, .inl f_7)), (b22, .inl (G.2 0, 2, .inl f_9)), (b23, .inl (G.2 0, 482, .inl f_10)), (b24, .inl (G.2 0, 482, .inl f_11)), (b25, .inl (G.2 0, 482, .inl f_12)), (b26, .inl (G.2 0, 2, .inl f_13)), (b27, .inl (G.2 0, 2880, .inl f_14)), (b2, .inl (G.2 0, 503, .inl b55)), (b0, .inr (12, [.int b1, .ref b2, .ref b3, .ref b4, .ref b5, .int b6, .ref b7, .int b8, .int b9, .int b10, .int b11, .ref b12, .ref b13, .ref b14, .int b15, .ref b16, .ref b17, .ref b18, .ref b19, .ref b20, .ref b21, .ref b22, .ref b23, .ref b24, .ref b25, .ref b26, .ref b27, .int y_297, .ref b29, .ref b30, .int b31, .int b32, .int b33, .int b34, .ref b35, .ref b36, .ref b37, .ref b38, .ref b39, .ref b40, .ref b41, .int b42, .ref b43, .ref b44, .int b45, .ref b46, .ref b47, .ref b48, .ref b49, .ref b50, .int b51, .ref b52, .ref b53, .ref b54])), (b18, .inl (G.2 0, 520, .inl f_5)), (b21, .inl (G.2 0, 482, .inl f_8))] H := hP
          have hD := z_tie hP hD rfl
          refine W.widen (k := 0) (n := 0) (Nat.le_of_ble_eq_true rfl) (Nat.le_of_ble_eq_true rfl) ?_
          refine z_callV (index := 234) (As := [.int 0, .int x_310, .int x_313, .int x_316]) (rest := [.int 0, .ref b0]) (wr := [(b53, .inl (G.2 0, 20, .inl y_298)), (b54, .inl (G.2 0, 20, .inl y_299)), (b16, .inl (G.2 0, 2, .inl f_3)), (b17, .inl (G.2 0, 4820, .inl f_4)), (b19, .inl (G.2 0, 9640, .inl f_6)), (b20, .inl (G.2 0, 482, .inl f_7)), (b22, .inl (G.2 0, 2, .inl f_9)), (b23, .inl (G.2 0, 482, .inl f_10)), (b24, .inl (G.2 0, 482, .inl f_11)), (b25, .inl (G.2 0, 482, .inl f_12)), (b2, .inl (G.2 0, 503, .inl b55)), (b18, .inl (G.2 0, 520, .inl f_5)), (b21, .inl (G.2 0, 482, .inl f_8))]) Z (s1_Model_placeOf l G (b0) (x_310) (x_313) (x_316) (b1) (b2) (b3) (b4) (b5) (b6) (b7) (b8) (b9) (b10) (b11) (b12) (b13) (b14) (b15) (b16) (b17) (b18) (b19) (b20) (b21) (b22) (b23) (b24) (b25) (b26) (b27) (y_297) (b29) (b30) (b31) (b32) (b33) (b34) (b35) (b36) (b37) (b38) (b39) (b40) (b41) (b42) (b43) (b44) (b45) (b46) (b47) (b48) (b49) (b50) (b51) (b52) (b53) (b54) (f_13) (f_14) hx_310 hx_313 hx_316 hb6 hb8 hb9 hb11 hb15 hy_297 hb31 hb42 hb45 hb51 hf_13 hf_14) hl.1 q1404 q1406 qs67 q14 q1407 ⟨by decide, by decide, by show _ = some 4; decide +kernel⟩ ⟨Nat.le_of_ble_eq_true rfl, Nat.le_of_ble_eq_true rfl⟩ ⟨Nat.le_of_ble_eq_true rfl, Nat.le_of_ble_eq_true rfl⟩ rfl (Nat.le_of_ble_eq_true rfl) d_Model_layWeak_67 hP hD hS hA 13 12 rfl rfl rfl [13, 10, 11] [0, 1, 2, 3, 4, 5, 6, 7, 8, 9, 12, 14, 15] rfl rfl rfl rfl (by decide) (fun v w1 H locs hw_318 hP hD hS => ?_)
          obtain ⟨x_319, x_320, rfl, rfl, hx_319, hx_320, hfx_321, hfx_322⟩ := hw_318
          have hP : va_P G.1 classes [(b53, .inl (G.2 0, 20, .inl y_298)), (b54, .inl (G.2 0, 20, .inl y_299)), (b16, .inl (G.2 0, 2, .inl f_3)), (b17, .inl (G.2 0, 4820, .inl f_4)), (b19, .inl (G.2 0, 9640, .inl f_6)), (b20, .inl (G.2 0, 482, .inl f_7)), (b22, .inl (G.2 0, 2, .inl f_9)), (b23, .inl (G.2 0, 482, .inl f_10)), (b24, .inl (G.2 0, 482, .inl f_11)), (b25, .inl (G.2 0, 482, .inl f_12)), (b2, .inl (G.2 0, 503, .inl b55)), (b18, .inl (G.2 0, 520, .inl f_5)), (b21, .inl (G.2 0, 482, .inl f_8)), (b0, .inr (12, [.int b1, .ref b2, .ref b3, .ref b4, .ref b5, .int b6, .ref b7, .int b8, .int b9, .int b10, .int b11, .ref b12, .ref b13, .ref b14, .int b15, .ref b16, .ref b17, .ref b18, .ref b19, .ref b20, .ref b21, .ref b22, .ref b23, .ref b24, .ref b25, .ref b26, .ref b27, .int x_320, .ref b29, .ref b30, .int b31, .int b32, .int b33, .int b34, .ref b35, .ref b36, .ref b37, .ref b38, .ref b39, .ref b40, .ref b41, .int b42, .ref b43, .ref b44, .int b45, .ref b46, .ref b47, .ref b48, .ref b49, .ref b50, .int b51, .ref b52, .ref b53, .ref b54])), (b26, .inl (G.2 0, 2, .inl f_13)), (b27, .inl (G.2 0, 2880, .inl f_14))] H := hP
          have hD := z_tie hP hD rfl
          refine W.widen (k := 0) (n := 0) (Nat.le_of_ble_eq_true rfl) (Nat.le_of_ble_eq_true rfl) ?_
          refine lv_iconst (v := 3) hx hb d_Model_layWeak_70 (by decide) ?_
          refine z_callV (index := 225) (As := [.int 0, .int x_319, .int 3]) (rest := []) (wr := [(b53, .inl (G.2 0, 20, .inl y_298)), (b54, .inl (G.2 0, 20, .inl y_299)), (b16, .inl (G.2 0, 2, .inl f_3)), (b17, .inl (G.2 0, 4820, .inl f_4)), (b19, .inl (G.2 0, 9640, .inl f_6)), (b20, .inl (G.2 0, 482, .inl f_7)), (b22, .inl (G.2 0, 2, .inl f_9)), (b23, .inl (G.2 0, 482, .inl f_10)), (b24, .inl (G.2 0, 482, .inl f_11)), (b25, .inl (G.2 0, 482, .inl f_12)), (b2, .inl (G.2 0, 503, .inl b55)), (b18, .inl (G.2 0, 520, .inl f_5)), (b21, .inl (G.2 0, 482, .inl f_8)), (b26, .inl (G.2 0, 2, .inl f_13))]) Z (s14_Model_edgeAt l G (b0) (x_319) (b1) (b2) (b3) (b4) (b5) (b6) (b7) (b8) (b9) (b10) (b11) (b12) (b13) (b14) (b15) (b16) (b17) (b18) (b19) (b20) (b21) (b22) (b23) (b24) (b25) (b26) (b27) (x_320) (b29) (b30) (b31) (b32) (b33) (b34) (b35) (b36) (b37) (b38) (b39) (b40) (b41) (b42) (b43) (b44) (b45) (b46) (b47) (b48) (b49) (b50) (b51) (b52) (b53) (b54) (f_14) hx_319 hb6 hb8 hb9 hb11 hb15 hx_320 hb31 hb42 hb45 hb51 hf_14) hl.1 q1408 q1410 qs68 q14 q1411 ⟨by decide, by decide, by show _ = some 3; decide +kernel⟩ ⟨Nat.le_of_ble_eq_true rfl, Nat.le_of_ble_eq_true rfl⟩ ⟨Nat.le_of_ble_eq_true rfl, Nat.le_of_ble_eq_true rfl⟩ rfl (Nat.le_of_ble_eq_true rfl) d_Model_layWeak_71 hP hD hS hA 13 12 rfl rfl rfl [13, 15] [0, 1, 2, 3, 4, 5, 6, 7, 8, 9, 10, 11, 12, 14] rfl rfl rfl rfl (by decide) (fun v w1 H locs hw_323 hP hD hS => ?_)
          obtain ⟨x_324, rfl, rfl, hfx_325⟩ := hw_323
          have hP : va_P G.1 classes [(b53, .inl (G.2 0, 20, .inl y_298)), (b54, .inl (G.2 0, 20, .inl y_299)), (b16, .inl (G.2 0, 2, .inl f_3)), (b17, .inl (G.2 0, 4820, .inl f_4)), (b19, .inl (G.2 0, 9640, .inl f_6)), (b20, .inl (G.2 0, 482, .inl f_7)), (b22, .inl (G.2 0, 2, .inl f_9)), (b23, .inl (G.2 0, 482, .inl f_10)), (b24, .inl (G.2 0, 482, .inl f_11)), (b25, .inl (G.2 0, 482, .inl f_12)), (b2, .inl (G.2 0, 503, .inl b55)), (b18, .inl (G.2 0, 520, .inl f_5)), (b21, .inl (G.2 0, 482, .inl f_8)), (b26, .inl (G.2 0, 2, .inl f_13)), (b0, .inr (12, [.int b1, .ref b2, .ref b3, .ref b4, .ref b5, .int b6, .ref b7, .int b8, .int b9, .int b10, .int b11, .ref b12, .ref b13, .ref b14, .int b15, .ref b16, .ref b17, .ref b18, .ref b19, .ref b20, .ref b21, .ref b22, .ref b23, .ref b24, .ref b25, .ref b26, .ref b27, .int x_320, .ref b29, .ref b30, .int b31, .int b32, .int b33, .int b34, .ref b35, .ref b36, .ref b37, .ref b38, .ref b39, .ref b40, .ref b41, .int b42, .ref b43, .ref b44, .int b45, .ref b46, .ref b47, .ref b48, .ref b49, .ref b50, .int b51, .ref b52, .ref b53, .ref b54])), (b27, .inl (G.2 0, 2880, .inl f_14))] H := hP
          have hD := z_tie hP hD rfl
          refine W.widen (k := 0) (n := 0) (Nat.le_of_ble_eq_true rfl) (Nat.le_of_ble_eq_true rfl) ?_
          refine lv_istore_n (lv' := [(3, .int x_324), (2, .int y_296), (1, .int y_202), (0, .ref b0)]) hx hb d_Model_layWeak_74 rfl hl (by decide) rfl (fun ls hl => ?_)
          refine lv_aload_n hx hb d_Model_layWeak_75 rfl (lv_at hl 3 rfl) ?_
          refine va_get (D := G.1) (ci := 12) (v := .ref b54) (C := R_Model) (T := F_Model) (N := 54) hx hb hts i_Model hown hK hP 14 rfl rfl 53 (by decide) (hts _ q1162) (fun _ h9 => h9) rfl d_Model_layWeak_76 ?_
          refine lv_iload_n hx hb d_Model_layWeak_79 rfl (lv_at hl 2 rfl) ?_
          refine lv_iload_n hx hb d_Model_layWeak_80 rfl (lv_at hl 0 rfl) ?_
          refine lv_aload_n hx hb d_Model_layWeak_81 rfl (lv_at hl 3 rfl) ?_
          refine va_get (D := G.1) (ci := 12) (v := .ref b53) (C := R_Model) (T := F_Model) (N := 54) hx hb hts i_Model hown hK hP 14 rfl rfl 52 (by decide) (hts _ q1161) (fun _ h9 => h9) rfl d_Model_layWeak_82 ?_
          refine lv_iload_n hx hb d_Model_layWeak_85 rfl (lv_at hl 2 rfl) ?_
          refine va_iald hx hb hK hP 0 0 rfl rfl (zI.inn hv_212 (by decide)) d_Model_layWeak_86 ?_
          refine lv_topi (fun v_326 ev_326 => ?_)
          refine lv_icmp_ge (tgt := 94) hx hb d_Model_layWeak_87 (by decide) (fun hc_327 => ?_) (fun hc_327 => ?_)
          · have _nhc_327 := hc_327
            have ni_328 := (fa_le _ _).mp hc_327
            refine lv_aload_n hx hb d_Model_layWeak_94 rfl (lv_at hl 3 rfl) ?_
            refine va_get (D := G.1) (ci := 12) (v := .ref b54) (C := R_Model) (T := F_Model) (N := 54) hx hb hts i_Model hown hK hP 14 rfl rfl 53 (by decide) (hts _ q1162) (fun _ h9 => h9) rfl d_Model_layWeak_95 ?_
            refine lv_iload_n hx hb d_Model_layWeak_98 rfl (lv_at hl 2 rfl) ?_
            refine va_iald hx hb hK hP 1 0 rfl rfl (zI.inn hv_212 (by decide)) d_Model_layWeak_99 ?_
            refine lv_topi (fun v_329 ev_329 => ?_)
            refine lv_iload_n hx hb d_Model_layWeak_100 rfl (lv_at hl 0 rfl) ?_
            refine lv_aload_n hx hb d_Model_layWeak_101 rfl (lv_at hl 3 rfl) ?_
            refine va_get (D := G.1) (ci := 12) (v := .ref b53) (C := R_Model) (T := F_Model) (N := 54) hx hb hts i_Model hown hK hP 14 rfl rfl 52 (by decide) (hts _ q1161) (fun _ h9 => h9) rfl d_Model_layWeak_102 ?_
            refine lv_iload_n hx hb d_Model_layWeak_105 rfl (lv_at hl 2 rfl) ?_
            refine va_iald hx hb hK hP 0 0 rfl rfl (zI.inn hv_212 (by decide)) d_Model_layWeak_106 ?_
            refine lv_topi (fun v_330 ev_330 => ?_)
            obtain rfl : v_326 = v_330 := ev_326.trans ev_330.symm
            refine lv_icmp_ne (tgt := 114) hx hb d_Model_layWeak_107 (by decide) (fun hc_331 => ?_) (fun hc_331 => ?_)
            · have _nhc_331 := hc_331
              have ni_332 : ¬ (x_324 : Int32).toInt = (v_326 : Int32).toInt := fun z => hc_331 ((fa_eq _ _).mpr z)
              refine lv_iconst (v := 0) hx hb d_Model_layWeak_114 (by decide) ?_
              refine lv_iadd hx hb d_Model_layWeak_115 ?_
              refine lv_topi (fun v_333 ev_333 => ?_)
              obtain ⟨qv_333, hv_333⟩ := zI_add (l := -2147483648) (h := 2147483647) (zI_all v_329) zc_0 ev_333 (by decide)
              rw [li_0] at qv_333
              refine va_iast hx hb hK hP hD hS 1 0 rfl rfl (zI.inn hv_212 (by decide)) d_Model_layWeak_116 (fun H locs hP hD hS => ?_)
              obtain ⟨f_334, gf_334, uf_334, hP, hD⟩ := z_newFu 1 hP hD rfl
              have hP : va_P G.1 classes [(b53, .inl (G.2 0, 20, .inl y_298)), (b54, .inl (G.2 0, 20, .inl f_334)), (b16, .inl (G.2 0, 2, .inl f_3)), (b17, .inl (G.2 0, 4820, .inl f_4)), (b19, .inl (G.2 0, 9640, .inl f_6)), (b20, .inl (G.2 0, 482, .inl f_7)), (b22, .inl (G.2 0, 2, .inl f_9)), (b23, .inl (G.2 0, 482, .inl f_10)), (b24, .inl (G.2 0, 482, .inl f_11)), (b25, .inl (G.2 0, 482, .inl f_12)), (b2, .inl (G.2 0, 503, .inl b55)), (b18, .inl (G.2 0, 520, .inl f_5)), (b21, .inl (G.2 0, 482, .inl f_8)), (b26, .inl (G.2 0, 2, .inl f_13)), (b0, .inr (12, [.int b1, .ref b2, .ref b3, .ref b4, .ref b5, .int b6, .ref b7, .int b8, .int b9, .int b10, .int b11, .ref b12, .ref b13, .ref b14, .int b15, .ref b16, .ref b17, .ref b18, .ref b19, .ref b20, .ref b21, .ref b22, .ref b23, .ref b24, .ref b25, .ref b26, .ref b27, .int x_320, .ref b29, .ref b30, .int b31, .int b32, .int b33, .int b34, .ref b35, .ref b36, .ref b37, .ref b38, .ref b39, .ref b40, .ref b41, .int b42, .ref b43, .ref b44, .int b45, .ref b46, .ref b47, .ref b48, .ref b49, .ref b50, .int b51, .ref b52, .ref b53, .ref b54])), (b27, .inl (G.2 0, 2880, .inl f_14))] H := hP
              have hD := z_tie hP hD rfl
              refine lv_aload_n hx hb d_Model_layWeak_117 rfl (lv_at hl 3 rfl) ?_
              refine va_get (D := G.1) (ci := 12) (v := .ref b53) (C := R_Model) (T := F_Model) (N := 54) hx hb hts i_Model hown hK hP 14 rfl rfl 52 (by decide) (hts _ q1161) (fun _ h9 => h9) rfl d_Model_layWeak_118 ?_
              refine lv_iload_n hx hb d_Model_layWeak_121 rfl (lv_at hl 2 rfl) ?_
              refine lv_iload_n hx hb d_Model_layWeak_122 rfl (lv_at hl 0 rfl) ?_
              refine lv_aload_n hx hb d_Model_layWeak_123 rfl (lv_at hl 3 rfl) ?_
              refine va_get (D := G.1) (ci := 12) (v := .ref b53) (C := R_Model) (T := F_Model) (N := 54) hx hb hts i_Model hown hK hP 14 rfl rfl 52 (by decide) (hts _ q1161) (fun _ h9 => h9) rfl d_Model_layWeak_124 ?_
              refine lv_iload_n hx hb d_Model_layWeak_127 rfl (lv_at hl 2 rfl) ?_
              refine va_iald hx hb hK hP 0 0 rfl rfl (zI.inn hv_212 (by decide)) d_Model_layWeak_128 ?_
              refine lv_topi (fun v_335 ev_335 => ?_)
              obtain rfl : v_326 = v_335 := ev_326.trans ev_335.symm
              refine lv_icmp_ge (tgt := 136) hx hb d_Model_layWeak_129 (by decide) (fun hc_336 => ?_) (fun hc_336 => ?_)
              · have _nhc_336 := hc_336
                have ni_337 := (fa_le _ _).mp hc_336
                refine lv_aload_n hx hb d_Model_layWeak_136 rfl (lv_at hl 3 rfl) ?_
                refine va_get (D := G.1) (ci := 12) (v := .ref b53) (C := R_Model) (T := F_Model) (N := 54) hx hb hts i_Model hown hK hP 14 rfl rfl 52 (by decide) (hts _ q1161) (fun _ h9 => h9) rfl d_Model_layWeak_137 ?_
                refine lv_iload_n hx hb d_Model_layWeak_140 rfl (lv_at hl 2 rfl) ?_
                refine va_iald hx hb hK hP 0 0 rfl rfl (zI.inn hv_212 (by decide)) d_Model_layWeak_141 ?_
                refine lv_topi (fun v_338 ev_338 => ?_)
                obtain rfl : v_326 = v_338 := ev_326.trans ev_338.symm
                refine va_iast hx hb hK hP hD hS 0 0 rfl rfl (zI.inn hv_212 (by decide)) d_Model_layWeak_142 (fun H locs hP hD hS => ?_)
                obtain ⟨f_339, gf_339, uf_339, hP, hD⟩ := z_newFu 0 hP hD rfl
                have hP : va_P G.1 classes [(b53, .inl (G.2 0, 20, .inl f_339)), (b54, .inl (G.2 0, 20, .inl f_334)), (b16, .inl (G.2 0, 2, .inl f_3)), (b17, .inl (G.2 0, 4820, .inl f_4)), (b19, .inl (G.2 0, 9640, .inl f_6)), (b20, .inl (G.2 0, 482, .inl f_7)), (b22, .inl (G.2 0, 2, .inl f_9)), (b23, .inl (G.2 0, 482, .inl f_10)), (b24, .inl (G.2 0, 482, .inl f_11)), (b25, .inl (G.2 0, 482, .inl f_12)), (b2, .inl (G.2 0, 503, .inl b55)), (b18, .inl (G.2 0, 520, .inl f_5)), (b21, .inl (G.2 0, 482, .inl f_8)), (b26, .inl (G.2 0, 2, .inl f_13)), (b0, .inr (12, [.int b1, .ref b2, .ref b3, .ref b4, .ref b5, .int b6, .ref b7, .int b8, .int b9, .int b10, .int b11, .ref b12, .ref b13, .ref b14, .int b15, .ref b16, .ref b17, .ref b18, .ref b19, .ref b20, .ref b21, .ref b22, .ref b23, .ref b24, .ref b25, .ref b26, .ref b27, .int x_320, .ref b29, .ref b30, .int b31, .int b32, .int b33, .int b34, .ref b35, .ref b36, .ref b37, .ref b38, .ref b39, .ref b40, .ref b41, .int b42, .ref b43, .ref b44, .int b45, .ref b46, .ref b47, .ref b48, .ref b49, .ref b50, .int b51, .ref b52, .ref b53, .ref b54])), (b27, .inl (G.2 0, 2880, .inl f_14))] H := hP
                have hD := z_tie hP hD rfl
                obtain ⟨v_340, ev_340⟩ : ∃ z : Int32, z = y_296 + 1 := ⟨_, rfl⟩
                obtain ⟨qv_340, hv_340⟩ := zI_add (l := 1) (h := 12) hv_307 zc_1 ev_340 (by decide)
                rw [li_1] at qv_340
                refine lv_iinc (v := v_340) (lv' := [(2, .int v_340), (3, .int x_324), (1, .int y_202), (0, .ref b0)]) hx hb d_Model_layWeak_143 hl (k := 1) rfl (by rw [ev_340]; rfl) (by decide) rfl (fun ls hl => ?_)
                refine lv_goto (tgt := 32) hx hb d_Model_layWeak_146 (by decide) ?_
                exact ihk_295 (v_340) (x_320) (f_339) (f_334) _ _ _ (zI.wk (l' := 0) (h' := 12) hv_340 (by decide)) hx_320 (zm_up qv_340 hmk_295 (by decide)) (hP.sub [0, 1, 2, 3, 11, 4, 5, 12, 6, 7, 8, 9, 13, 15, 14, 10] rfl) (hD.sub [0, 1, 2, 3, 11, 4, 5, 12, 6, 7, 8, 9, 13, 15, 14, 10] (by decide) rfl) hS (lv_sub hl [0, 2, 3] rfl)
              · have _nhc_336 := hc_336
                have ni_341 := (fa_lt _ _).mp (zi_nle hc_336)
                have hv_342 : zI x_324 (-2147483648) 2147483646 := zI.lt_l (zI_all x_324) (zI_all v_326) (zi_nle hc_336) (by decide)
                have hv_343 : zI v_326 (-2147483647) 2147483647 := zI.lt_r (zI_all x_324) (zI_all v_326) (zi_nle hc_336) (by decide)
                refine lv_iload_n hx hb d_Model_layWeak_132 rfl (lv_at hl 0 rfl) ?_
                refine lv_goto (tgt := 142) hx hb d_Model_layWeak_133 (by decide) ?_
                refine va_iast hx hb hK hP hD hS 0 0 rfl rfl (zI.inn hv_212 (by decide)) d_Model_layWeak_142 (fun H locs hP hD hS => ?_)
                obtain ⟨f_344, gf_344, uf_344, hP, hD⟩ := z_newFu 0 hP hD rfl
                have hP : va_P G.1 classes [(b53, .inl (G.2 0, 20, .inl f_344)), (b54, .inl (G.2 0, 20, .inl f_334)), (b16, .inl (G.2 0, 2, .inl f_3)), (b17, .inl (G.2 0, 4820, .inl f_4)), (b19, .inl (G.2 0, 9640, .inl f_6)), (b20, .inl (G.2 0, 482, .inl f_7)), (b22, .inl (G.2 0, 2, .inl f_9)), (b23, .inl (G.2 0, 482, .inl f_10)), (b24, .inl (G.2 0, 482, .inl f_11)), (b25, .inl (G.2 0, 482, .inl f_12)), (b2, .inl (G.2 0, 503, .inl b55)), (b18, .inl (G.2 0, 520, .inl f_5)), (b21, .inl (G.2 0, 482, .inl f_8)), (b26, .inl (G.2 0, 2, .inl f_13)), (b0, .inr (12, [.int b1, .ref b2, .ref b3, .ref b4, .ref b5, .int b6, .ref b7, .int b8, .int b9, .int b10, .int b11, .ref b12, .ref b13, .ref b14, .int b15, .ref b16, .ref b17, .ref b18, .ref b19, .ref b20, .ref b21, .ref b22, .ref b23, .ref b24, .ref b25, .ref b26, .ref b27, .int x_320, .ref b29, .ref b30, .int b31, .int b32, .int b33, .int b34, .ref b35, .ref b36, .ref b37, .ref b38, .ref b39, .ref b40, .ref b41, .int b42, .ref b43, .ref b44, .int b45, .ref b46, .ref b47, .ref b48, .ref b49, .ref b50, .int b51, .ref b52, .ref b53, .ref b54])), (b27, .inl (G.2 0, 2880, .inl f_14))] H := hP
                have hD := z_tie hP hD rfl
                obtain ⟨v_345, ev_345⟩ : ∃ z : Int32, z = y_296 + 1 := ⟨_, rfl⟩
                obtain ⟨qv_345, hv_345⟩ := zI_add (l := 1) (h := 12) hv_307 zc_1 ev_345 (by decide)
                rw [li_1] at qv_345
                refine lv_iinc (v := v_345) (lv' := [(2, .int v_345), (3, .int x_324), (1, .int y_202), (0, .ref b0)]) hx hb d_Model_layWeak_143 hl (k := 1) rfl (by rw [ev_345]; rfl) (by decide) rfl (fun ls hl => ?_)
                refine lv_goto (tgt := 32) hx hb d_Model_layWeak_146 (by decide) ?_
                exact ihk_295 (v_345) (x_320) (f_344) (f_334) _ _ _ (zI.wk (l' := 0) (h' := 12) hv_345 (by decide)) hx_320 (zm_up qv_345 hmk_295 (by decide)) (hP.sub [0, 1, 2, 3, 11, 4, 5, 12, 6, 7, 8, 9, 13, 15, 14, 10] rfl) (hD.sub [0, 1, 2, 3, 11, 4, 5, 12, 6, 7, 8, 9, 13, 15, 14, 10] (by decide) rfl) hS (lv_sub hl [0, 2, 3] rfl)
            · have _nhc_331 := hc_331
              have ni_346 := (fa_eq _ _).mp hc_331
              refine lv_iconst (v := 1) hx hb d_Model_layWeak_110 (by decide) ?_
              refine lv_goto (tgt := 115) hx hb d_Model_layWeak_111 (by decide) ?_
              refine lv_iadd hx hb d_Model_layWeak_115 ?_
              refine lv_topi (fun v_347 ev_347 => ?_)
              refine va_iast hx hb hK hP hD hS 1 0 rfl rfl (zI.inn hv_212 (by decide)) d_Model_layWeak_116 (fun H locs hP hD hS => ?_)
              obtain ⟨f_348, gf_348, uf_348, hP, hD⟩ := z_newFu 1 hP hD rfl
              have hP : va_P G.1 classes [(b53, .inl (G.2 0, 20, .inl y_298)), (b54, .inl (G.2 0, 20, .inl f_348)), (b16, .inl (G.2 0, 2, .inl f_3)), (b17, .inl (G.2 0, 4820, .inl f_4)), (b19, .inl (G.2 0, 9640, .inl f_6)), (b20, .inl (G.2 0, 482, .inl f_7)), (b22, .inl (G.2 0, 2, .inl f_9)), (b23, .inl (G.2 0, 482, .inl f_10)), (b24, .inl (G.2 0, 482, .inl f_11)), (b25, .inl (G.2 0, 482, .inl f_12)), (b2, .inl (G.2 0, 503, .inl b55)), (b18, .inl (G.2 0, 520, .inl f_5)), (b21, .inl (G.2 0, 482, .inl f_8)), (b26, .inl (G.2 0, 2, .inl f_13)), (b0, .inr (12, [.int b1, .ref b2, .ref b3, .ref b4, .ref b5, .int b6, .ref b7, .int b8, .int b9, .int b10, .int b11, .ref b12, .ref b13, .ref b14, .int b15, .ref b16, .ref b17, .ref b18, .ref b19, .ref b20, .ref b21, .ref b22, .ref b23, .ref b24, .ref b25, .ref b26, .ref b27, .int x_320, .ref b29, .ref b30, .int b31, .int b32, .int b33, .int b34, .ref b35, .ref b36, .ref b37, .ref b38, .ref b39, .ref b40, .ref b41, .int b42, .ref b43, .ref b44, .int b45, .ref b46, .ref b47, .ref b48, .ref b49, .ref b50, .int b51, .ref b52, .ref b53, .ref b54])), (b27, .inl (G.2 0, 2880, .inl f_14))] H := hP
              have hD := z_tie hP hD rfl
              refine lv_aload_n hx hb d_Model_layWeak_117 rfl (lv_at hl 3 rfl) ?_
              refine va_get (D := G.1) (ci := 12) (v := .ref b53) (C := R_Model) (T := F_Model) (N := 54) hx hb hts i_Model hown hK hP 14 rfl rfl 52 (by decide) (hts _ q1161) (fun _ h9 => h9) rfl d_Model_layWeak_118 ?_
              refine lv_iload_n hx hb d_Model_layWeak_121 rfl (lv_at hl 2 rfl) ?_
              refine lv_iload_n hx hb d_Model_layWeak_122 rfl (lv_at hl 0 rfl) ?_
              refine lv_aload_n hx hb d_Model_layWeak_123 rfl (lv_at hl 3 rfl) ?_
              refine va_get (D := G.1) (ci := 12) (v := .ref b53) (C := R_Model) (T := F_Model) (N := 54) hx hb hts i_Model hown hK hP 14 rfl rfl 52 (by decide) (hts _ q1161) (fun _ h9 => h9) rfl d_Model_layWeak_124 ?_
              refine lv_iload_n hx hb d_Model_layWeak_127 rfl (lv_at hl 2 rfl) ?_
              refine va_iald hx hb hK hP 0 0 rfl rfl (zI.inn hv_212 (by decide)) d_Model_layWeak_128 ?_
              refine lv_topi (fun v_349 ev_349 => ?_)
              obtain rfl : v_326 = v_349 := ev_326.trans ev_349.symm
              refine lv_icmp_ge (tgt := 136) hx hb d_Model_layWeak_129 (by decide) (fun hc_350 => ?_) (fun hc_350 => ?_)
              · have _nhc_350 := hc_350
                have ni_351 := (fa_le _ _).mp hc_350
                refine lv_aload_n hx hb d_Model_layWeak_136 rfl (lv_at hl 3 rfl) ?_
                refine va_get (D := G.1) (ci := 12) (v := .ref b53) (C := R_Model) (T := F_Model) (N := 54) hx hb hts i_Model hown hK hP 14 rfl rfl 52 (by decide) (hts _ q1161) (fun _ h9 => h9) rfl d_Model_layWeak_137 ?_
                refine lv_iload_n hx hb d_Model_layWeak_140 rfl (lv_at hl 2 rfl) ?_
                refine va_iald hx hb hK hP 0 0 rfl rfl (zI.inn hv_212 (by decide)) d_Model_layWeak_141 ?_
                refine lv_topi (fun v_352 ev_352 => ?_)
                obtain rfl : v_326 = v_352 := ev_326.trans ev_352.symm
                refine va_iast hx hb hK hP hD hS 0 0 rfl rfl (zI.inn hv_212 (by decide)) d_Model_layWeak_142 (fun H locs hP hD hS => ?_)
                obtain ⟨f_353, gf_353, uf_353, hP, hD⟩ := z_newFu 0 hP hD rfl
                have hP : va_P G.1 classes [(b53, .inl (G.2 0, 20, .inl f_353)), (b54, .inl (G.2 0, 20, .inl f_348)), (b16, .inl (G.2 0, 2, .inl f_3)), (b17, .inl (G.2 0, 4820, .inl f_4)), (b19, .inl (G.2 0, 9640, .inl f_6)), (b20, .inl (G.2 0, 482, .inl f_7)), (b22, .inl (G.2 0, 2, .inl f_9)), (b23, .inl (G.2 0, 482, .inl f_10)), (b24, .inl (G.2 0, 482, .inl f_11)), (b25, .inl (G.2 0, 482, .inl f_12)), (b2, .inl (G.2 0, 503, .inl b55)), (b18, .inl (G.2 0, 520, .inl f_5)), (b21, .inl (G.2 0, 482, .inl f_8)), (b26, .inl (G.2 0, 2, .inl f_13)), (b0, .inr (12, [.int b1, .ref b2, .ref b3, .ref b4, .ref b5, .int b6, .ref b7, .int b8, .int b9, .int b10, .int b11, .ref b12, .ref b13, .ref b14, .int b15, .ref b16, .ref b17, .ref b18, .ref b19, .ref b20, .ref b21, .ref b22, .ref b23, .ref b24, .ref b25, .ref b26, .ref b27, .int x_320, .ref b29, .ref b30, .int b31, .int b32, .int b33, .int b34, .ref b35, .ref b36, .ref b37, .ref b38, .ref b39, .ref b40, .ref b41, .int b42, .ref b43, .ref b44, .int b45, .ref b46, .ref b47, .ref b48, .ref b49, .ref b50, .int b51, .ref b52, .ref b53, .ref b54])), (b27, .inl (G.2 0, 2880, .inl f_14))] H := hP
                have hD := z_tie hP hD rfl
                obtain ⟨v_354, ev_354⟩ : ∃ z : Int32, z = y_296 + 1 := ⟨_, rfl⟩
                obtain ⟨qv_354, hv_354⟩ := zI_add (l := 1) (h := 12) hv_307 zc_1 ev_354 (by decide)
                rw [li_1] at qv_354
                refine lv_iinc (v := v_354) (lv' := [(2, .int v_354), (3, .int x_324), (1, .int y_202), (0, .ref b0)]) hx hb d_Model_layWeak_143 hl (k := 1) rfl (by rw [ev_354]; rfl) (by decide) rfl (fun ls hl => ?_)
                refine lv_goto (tgt := 32) hx hb d_Model_layWeak_146 (by decide) ?_
                exact ihk_295 (v_354) (x_320) (f_353) (f_348) _ _ _ (zI.wk (l' := 0) (h' := 12) hv_354 (by decide)) hx_320 (zm_up qv_354 hmk_295 (by decide)) (hP.sub [0, 1, 2, 3, 11, 4, 5, 12, 6, 7, 8, 9, 13, 15, 14, 10] rfl) (hD.sub [0, 1, 2, 3, 11, 4, 5, 12, 6, 7, 8, 9, 13, 15, 14, 10] (by decide) rfl) hS (lv_sub hl [0, 2, 3] rfl)
              · have _nhc_350 := hc_350
                have ni_355 := (fa_lt _ _).mp (zi_nle hc_350)
                have hv_356 : zI x_324 (-2147483648) 2147483646 := zI.lt_l (zI_all x_324) (zI_all v_326) (zi_nle hc_350) (by decide)
                have hv_357 : zI v_326 (-2147483647) 2147483647 := zI.lt_r (zI_all x_324) (zI_all v_326) (zi_nle hc_350) (by decide)
                refine lv_iload_n hx hb d_Model_layWeak_132 rfl (lv_at hl 0 rfl) ?_
                refine lv_goto (tgt := 142) hx hb d_Model_layWeak_133 (by decide) ?_
                refine va_iast hx hb hK hP hD hS 0 0 rfl rfl (zI.inn hv_212 (by decide)) d_Model_layWeak_142 (fun H locs hP hD hS => ?_)
                obtain ⟨f_358, gf_358, uf_358, hP, hD⟩ := z_newFu 0 hP hD rfl
                have hP : va_P G.1 classes [(b53, .inl (G.2 0, 20, .inl f_358)), (b54, .inl (G.2 0, 20, .inl f_348)), (b16, .inl (G.2 0, 2, .inl f_3)), (b17, .inl (G.2 0, 4820, .inl f_4)), (b19, .inl (G.2 0, 9640, .inl f_6)), (b20, .inl (G.2 0, 482, .inl f_7)), (b22, .inl (G.2 0, 2, .inl f_9)), (b23, .inl (G.2 0, 482, .inl f_10)), (b24, .inl (G.2 0, 482, .inl f_11)), (b25, .inl (G.2 0, 482, .inl f_12)), (b2, .inl (G.2 0, 503, .inl b55)), (b18, .inl (G.2 0, 520, .inl f_5)), (b21, .inl (G.2 0, 482, .inl f_8)), (b26, .inl (G.2 0, 2, .inl f_13)), (b0, .inr (12, [.int b1, .ref b2, .ref b3, .ref b4, .ref b5, .int b6, .ref b7, .int b8, .int b9, .int b10, .int b11, .ref b12, .ref b13, .ref b14, .int b15, .ref b16, .ref b17, .ref b18, .ref b19, .ref b20, .ref b21, .ref b22, .ref b23, .ref b24, .ref b25, .ref b26, .ref b27, .int x_320, .ref b29, .ref b30, .int b31, .int b32, .int b33, .int b34, .ref b35, .ref b36, .ref b37, .ref b38, .ref b39, .ref b40, .ref b41, .int b42, .ref b43, .ref b44, .int b45, .ref b46, .ref b47, .ref b48, .ref b49, .ref b50, .int b51, .ref b52, .ref b53, .ref b54])), (b27, .inl (G.2 0, 2880, .inl f_14))] H := hP
                have hD := z_tie hP hD rfl
                obtain ⟨v_359, ev_359⟩ : ∃ z : Int32, z = y_296 + 1 := ⟨_, rfl⟩
                obtain ⟨qv_359, hv_359⟩ := zI_add (l := 1) (h := 12) hv_307 zc_1 ev_359 (by decide)
                rw [li_1] at qv_359
                refine lv_iinc (v := v_359) (lv' := [(2, .int v_359), (3, .int x_324), (1, .int y_202), (0, .ref b0)]) hx hb d_Model_layWeak_143 hl (k := 1) rfl (by rw [ev_359]; rfl) (by decide) rfl (fun ls hl => ?_)
                refine lv_goto (tgt := 32) hx hb d_Model_layWeak_146 (by decide) ?_
                exact ihk_295 (v_359) (x_320) (f_358) (f_348) _ _ _ (zI.wk (l' := 0) (h' := 12) hv_359 (by decide)) hx_320 (zm_up qv_359 hmk_295 (by decide)) (hP.sub [0, 1, 2, 3, 11, 4, 5, 12, 6, 7, 8, 9, 13, 15, 14, 10] rfl) (hD.sub [0, 1, 2, 3, 11, 4, 5, 12, 6, 7, 8, 9, 13, 15, 14, 10] (by decide) rfl) hS (lv_sub hl [0, 2, 3] rfl)
          · have _nhc_327 := hc_327
            have ni_360 := (fa_lt _ _).mp (zi_nle hc_327)
            have hv_361 : zI x_324 (-2147483648) 2147483646 := zI.lt_l (zI_all x_324) (zI_all v_326) (zi_nle hc_327) (by decide)
            have hv_362 : zI v_326 (-2147483647) 2147483647 := zI.lt_r (zI_all x_324) (zI_all v_326) (zi_nle hc_327) (by decide)
            refine lv_iconst (v := 1) hx hb d_Model_layWeak_90 (by decide) ?_
            refine lv_goto (tgt := 116) hx hb d_Model_layWeak_91 (by decide) ?_
            refine va_iast hx hb hK hP hD hS 1 0 rfl rfl (zI.inn hv_212 (by decide)) d_Model_layWeak_116 (fun H locs hP hD hS => ?_)
            obtain ⟨f_363, gf_363, uf_363, hP, hD⟩ := z_newFu 1 hP hD rfl
            have hP : va_P G.1 classes [(b53, .inl (G.2 0, 20, .inl y_298)), (b54, .inl (G.2 0, 20, .inl f_363)), (b16, .inl (G.2 0, 2, .inl f_3)), (b17, .inl (G.2 0, 4820, .inl f_4)), (b19, .inl (G.2 0, 9640, .inl f_6)), (b20, .inl (G.2 0, 482, .inl f_7)), (b22, .inl (G.2 0, 2, .inl f_9)), (b23, .inl (G.2 0, 482, .inl f_10)), (b24, .inl (G.2 0, 482, .inl f_11)), (b25, .inl (G.2 0, 482, .inl f_12)), (b2, .inl (G.2 0, 503, .inl b55)), (b18, .inl (G.2 0, 520, .inl f_5)), (b21, .inl (G.2 0, 482, .inl f_8)), (b26, .inl (G.2 0, 2, .inl f_13)), (b0, .inr (12, [.int b1, .ref b2, .ref b3, .ref b4, .ref b5, .int b6, .ref b7, .int b8, .int b9, .int b10, .int b11, .ref b12, .ref b13, .ref b14, .int b15, .ref b16, .ref b17, .ref b18, .ref b19, .ref b20, .ref b21, .ref b22, .ref b23, .ref b24, .ref b25, .ref b26, .ref b27, .int x_320, .ref b29, .ref b30, .int b31, .int b32, .int b33, .int b34, .ref b35, .ref b36, .ref b37, .ref b38, .ref b39, .ref b40, .ref b41, .int b42, .ref b43, .ref b44, .int b45, .ref b46, .ref b47, .ref b48, .ref b49, .ref b50, .int b51, .ref b52, .ref b53, .ref b54])), (b27, .inl (G.2 0, 2880, .inl f_14))] H := hP
            have hD := z_tie hP hD rfl
            refine lv_aload_n hx hb d_Model_layWeak_117 rfl (lv_at hl 3 rfl) ?_
            refine va_get (D := G.1) (ci := 12) (v := .ref b53) (C := R_Model) (T := F_Model) (N := 54) hx hb hts i_Model hown hK hP 14 rfl rfl 52 (by decide) (hts _ q1161) (fun _ h9 => h9) rfl d_Model_layWeak_118 ?_
            refine lv_iload_n hx hb d_Model_layWeak_121 rfl (lv_at hl 2 rfl) ?_
            refine lv_iload_n hx hb d_Model_layWeak_122 rfl (lv_at hl 0 rfl) ?_
            refine lv_aload_n hx hb d_Model_layWeak_123 rfl (lv_at hl 3 rfl) ?_
            refine va_get (D := G.1) (ci := 12) (v := .ref b53) (C := R_Model) (T := F_Model) (N := 54) hx hb hts i_Model hown hK hP 14 rfl rfl 52 (by decide) (hts _ q1161) (fun _ h9 => h9) rfl d_Model_layWeak_124 ?_
            refine lv_iload_n hx hb d_Model_layWeak_127 rfl (lv_at hl 2 rfl) ?_
            refine va_iald hx hb hK hP 0 0 rfl rfl (zI.inn hv_212 (by decide)) d_Model_layWeak_128 ?_
            refine lv_topi (fun v_364 ev_364 => ?_)
            obtain rfl : v_326 = v_364 := ev_326.trans ev_364.symm
            refine lv_icmp_ge (tgt := 136) hx hb d_Model_layWeak_129 (by decide) (fun hc_365 => ?_) (fun hc_365 => ?_)
            · have _nhc_365 := hc_365
              have ni_366 := (fa_le _ _).mp hc_365
              have hv_367 : zI v_326 (-2147483647) 2147483646 := zI.le_l hv_362 hv_361 hc_365 (by decide)
              have hv_368 : zI x_324 (-2147483647) 2147483646 := zI.le_r hv_362 hv_361 hc_365 (by decide)
              refine lv_aload_n hx hb d_Model_layWeak_136 rfl (lv_at hl 3 rfl) ?_
              refine va_get (D := G.1) (ci := 12) (v := .ref b53) (C := R_Model) (T := F_Model) (N := 54) hx hb hts i_Model hown hK hP 14 rfl rfl 52 (by decide) (hts _ q1161) (fun _ h9 => h9) rfl d_Model_layWeak_137 ?_
              refine lv_iload_n hx hb d_Model_layWeak_140 rfl (lv_at hl 2 rfl) ?_
              refine va_iald hx hb hK hP 0 0 rfl rfl (zI.inn hv_212 (by decide)) d_Model_layWeak_141 ?_
              refine lv_topi (fun v_369 ev_369 => ?_)
              obtain rfl : v_326 = v_369 := ev_326.trans ev_369.symm
              refine va_iast hx hb hK hP hD hS 0 0 rfl rfl (zI.inn hv_212 (by decide)) d_Model_layWeak_142 (fun H locs hP hD hS => ?_)
              obtain ⟨f_370, gf_370, uf_370, hP, hD⟩ := z_newFu 0 hP hD rfl
              have hP : va_P G.1 classes [(b53, .inl (G.2 0, 20, .inl f_370)), (b54, .inl (G.2 0, 20, .inl f_363)), (b16, .inl (G.2 0, 2, .inl f_3)), (b17, .inl (G.2 0, 4820, .inl f_4)), (b19, .inl (G.2 0, 9640, .inl f_6)), (b20, .inl (G.2 0, 482, .inl f_7)), (b22, .inl (G.2 0, 2, .inl f_9)), (b23, .inl (G.2 0, 482, .inl f_10)), (b24, .inl (G.2 0, 482, .inl f_11)), (b25, .inl (G.2 0, 482, .inl f_12)), (b2, .inl (G.2 0, 503, .inl b55)), (b18, .inl (G.2 0, 520, .inl f_5)), (b21, .inl (G.2 0, 482, .inl f_8)), (b26, .inl (G.2 0, 2, .inl f_13)), (b0, .inr (12, [.int b1, .ref b2, .ref b3, .ref b4, .ref b5, .int b6, .ref b7, .int b8, .int b9, .int b10, .int b11, .ref b12, .ref b13, .ref b14, .int b15, .ref b16, .ref b17, .ref b18, .ref b19, .ref b20, .ref b21, .ref b22, .ref b23, .ref b24, .ref b25, .ref b26, .ref b27, .int x_320, .ref b29, .ref b30, .int b31, .int b32, .int b33, .int b34, .ref b35, .ref b36, .ref b37, .ref b38, .ref b39, .ref b40, .ref b41, .int b42, .ref b43, .ref b44, .int b45, .ref b46, .ref b47, .ref b48, .ref b49, .ref b50, .int b51, .ref b52, .ref b53, .ref b54])), (b27, .inl (G.2 0, 2880, .inl f_14))] H := hP
              have hD := z_tie hP hD rfl
              obtain ⟨v_371, ev_371⟩ : ∃ z : Int32, z = y_296 + 1 := ⟨_, rfl⟩
              obtain ⟨qv_371, hv_371⟩ := zI_add (l := 1) (h := 12) hv_307 zc_1 ev_371 (by decide)
              rw [li_1] at qv_371
              refine lv_iinc (v := v_371) (lv' := [(2, .int v_371), (3, .int x_324), (1, .int y_202), (0, .ref b0)]) hx hb d_Model_layWeak_143 hl (k := 1) rfl (by rw [ev_371]; rfl) (by decide) rfl (fun ls hl => ?_)
              refine lv_goto (tgt := 32) hx hb d_Model_layWeak_146 (by decide) ?_
              exact ihk_295 (v_371) (x_320) (f_370) (f_363) _ _ _ (zI.wk (l' := 0) (h' := 12) hv_371 (by decide)) hx_320 (zm_up qv_371 hmk_295 (by decide)) (hP.sub [0, 1, 2, 3, 11, 4, 5, 12, 6, 7, 8, 9, 13, 15, 14, 10] rfl) (hD.sub [0, 1, 2, 3, 11, 4, 5, 12, 6, 7, 8, 9, 13, 15, 14, 10] (by decide) rfl) hS (lv_sub hl [0, 2, 3] rfl)
            · have _nhc_365 := hc_365
              have ni_372 := (fa_lt _ _).mp (zi_nle hc_365)
              refine lv_iload_n hx hb d_Model_layWeak_132 rfl (lv_at hl 0 rfl) ?_
              refine lv_goto (tgt := 142) hx hb d_Model_layWeak_133 (by decide) ?_
              refine va_iast hx hb hK hP hD hS 0 0 rfl rfl (zI.inn hv_212 (by decide)) d_Model_layWeak_142 (fun H locs hP hD hS => ?_)
              obtain ⟨f_373, gf_373, uf_373, hP, hD⟩ := z_newFu 0 hP hD rfl
              have hP : va_P G.1 classes [(b53, .inl (G.2 0, 20, .inl f_373)), (b54, .inl (G.2 0, 20, .inl f_363)), (b16, .inl (G.2 0, 2, .inl f_3)), (b17, .inl (G.2 0, 4820, .inl f_4)), (b19, .inl (G.2 0, 9640, .inl f_6)), (b20, .inl (G.2 0, 482, .inl f_7)), (b22, .inl (G.2 0, 2, .inl f_9)), (b23, .inl (G.2 0, 482, .inl f_10)), (b24, .inl (G.2 0, 482, .inl f_11)), (b25, .inl (G.2 0, 482, .inl f_12)), (b2, .inl (G.2 0, 503, .inl b55)), (b18, .inl (G.2 0, 520, .inl f_5)), (b21, .inl (G.2 0, 482, .inl f_8)), (b26, .inl (G.2 0, 2, .inl f_13)), (b0, .inr (12, [.int b1, .ref b2, .ref b3, .ref b4, .ref b5, .int b6, .ref b7, .int b8, .int b9, .int b10, .int b11, .ref b12, .ref b13, .ref b14, .int b15, .ref b16, .ref b17, .ref b18, .ref b19, .ref b20, .ref b21, .ref b22, .ref b23, .ref b24, .ref b25, .ref b26, .ref b27, .int x_320, .ref b29, .ref b30, .int b31, .int b32, .int b33, .int b34, .ref b35, .ref b36, .ref b37, .ref b38, .ref b39, .ref b40, .ref b41, .int b42, .ref b43, .ref b44, .int b45, .ref b46, .ref b47, .ref b48, .ref b49, .ref b50, .int b51, .ref b52, .ref b53, .ref b54])), (b27, .inl (G.2 0, 2880, .inl f_14))] H := hP
              have hD := z_tie hP hD rfl
              obtain ⟨v_374, ev_374⟩ : ∃ z : Int32, z = y_296 + 1 := ⟨_, rfl⟩
              obtain ⟨qv_374, hv_374⟩ := zI_add (l := 1) (h := 12) hv_307 zc_1 ev_374 (by decide)
              rw [li_1] at qv_374
              refine lv_iinc (v := v_374) (lv' := [(2, .int v_374), (3, .int x_324), (1, .int y_202), (0, .ref b0)]) hx hb d_Model_layWeak_143 hl (k := 1) rfl (by rw [ev_374]; rfl) (by decide) rfl (fun ls hl => ?_)
              refine lv_goto (tgt := 32) hx hb d_Model_layWeak_146 (by decide) ?_
              exact ihk_295 (v_374) (x_320) (f_373) (f_363) _ _ _ (zI.wk (l' := 0) (h' := 12) hv_374 (by decide)) hx_320 (zm_up qv_374 hmk_295 (by decide)) (hP.sub [0, 1, 2, 3, 11, 4, 5, 12, 6, 7, 8, 9, 13, 15, 14, 10] rfl) (hD.sub [0, 1, 2, 3, 11, 4, 5, 12, 6, 7, 8, 9, 13, 15, 14, 10] (by decide) rfl) hS (lv_sub hl [0, 2, 3] rfl)
theorem d_Model_odd_63 : decode prog_14_method_85_code 63 = .ok (.ireturn, 1) := by decide +kernel
abbrev m_s1_Model_odd : Room := { frames := 6, cells := 0, slots := 0, locals := 147 }
set_option maxHeartbeats 4000000 in
set_option maxRecDepth 100000 in
theorem s1_Model_odd (l : Launch) (G : zG) (b0 : Nat) (b1 : Int32) (b2 : Int32) (b3 : Int32) (b4 : Nat) (b5 : Nat) (b6 : Nat) (b7 : Nat) (b8 : Int32) (b9 : Nat) (b10 : Int32) (b11 : Int32) (b12 : Int32) (b13 : Int32) (b14 : Nat) (b15 : Nat) (b16 : Nat) (b17 : Int32) (b18 : Nat) (b19 : Nat) (b20 : Nat) (b21 : Nat) (b22 : Nat) (b23 : Nat) (b24 : Nat) (b25 : Nat) (b26 : Nat) (b27 : Nat) (b28 : Nat) (b29 : Nat) (b30 : Int32) (b31 : Nat) (b32 : Nat) (b33 : Int32) (b34 : Int32) (b35 : Int32) (b36 : Int32) (b37 : Nat) (b38 : Nat) (b39 : Nat) (b40 : Nat) (b41 : Nat) (b42 : Nat) (b43 : Nat) (b44 : Int32) (b45 : Nat) (b46 : Nat) (b47 : Int32) (b48 : Nat) (b49 : Nat) (b50 : Nat) (b51 : Nat) (b52 : Nat) (b53 : Int32) (b54 : Nat) (b55 : Nat) (b56 : Nat) (b57 : Nat → Int32) (b58 : Nat → Int32) (b59 : Nat → Int32) (b60 : Nat → Int32) (b61 : Nat → Int32) (b62 : Nat → Int32) (b63 : Nat → Int32) (b64 : Nat → Int32) (b65 : Nat → Int32) (b66 : Nat → Int32) (b67 : Nat → Int32) (b68 : Nat → Int32) (b69 : Nat → Int32) (b70 : Nat → Int32) (b71 : Nat → Int32) (hb8 : zI b8 0 8) (hb10 : zI b10 0 240) (hb11 : zI b11 0 240) (hb13 : zI b13 0 1) (hb17 : zI b17 0 12) (hb30 : zI b30 0 1) (hb33 : zI b33 0 1) (hb44 : zI b44 0 1000) (hb47 : zI b47 0 1000) (hb53 : zI b53 0 400) (hb57 : zW5 b57) (hb58 : zR b58 0 241) (hb59 : zR b59 (-1) 240) (hb60 : zqa qP b60) (hb62 : zqa qC b62) (hb63 : zR b63 0 240) (hb64 : zR b64 0 241) (hb65 : zR b65 0 240) (hb68 : zR b68 0 240) (hb69 : zqa qE b69) : zM l G y_Model_odd prog_14_method_85_code 3 (Option.some Jvm.ClassFile.FieldType.int) m_s1_Model_odd [.ref b0, .int b1, .int b2] [(b0, .inr (12, [.int b3, .ref b4, .ref b5, .ref b6, .ref b7, .int b8, .ref b9, .int b10, .int b11, .int b12, .int b13, .ref b14, .ref b15, .ref b16, .int b17, .ref b18, .ref b19, .ref b20, .ref b21, .ref b22, .ref b23, .ref b24, .ref b25, .ref b26, .ref b27, .ref b28, .ref b29, .int b30, .ref b31, .ref b32, .int b33, .int b34, .int b35, .int b36, .ref b37, .ref b38, .ref b39, .ref b40, .ref b41, .ref b42, .ref b43, .int b44, .ref b45, .ref b46, .int b47, .ref b48, .ref b49, .ref b50, .ref b51, .ref b52, .int b53, .ref b54, .ref b55, .ref b56])), (b4, .inl (G.2 0, 503, .inl b57)), (b18, .inl (G.2 0, 2, .inl b58)), (b19, .inl (G.2 0, 4820, .inl b59)), (b20, .inl (G.2 0, 520, .inl b60)), (b21, .inl (G.2 0, 9640, .inl b61)), (b22, .inl (G.2 0, 482, .inl b62)), (b23, .inl (G.2 0, 482, .inl b63)), (b24, .inl (G.2 0, 2, .inl b64)), (b25, .inl (G.2 0, 482, .inl b65)), (b26, .inl (G.2 0, 482, .inl b66)), (b27, .inl (G.2 0, 482, .inl b67)), (b28, .inl (G.2 0, 2, .inl b68)), (b29, .inl (G.2 0, 2880, .inl b69)), (b55, .inl (G.2 0, 20, .inl b70)), (b56, .inl (G.2 0, 20, .inl b71))] (fun v w => ∃ (e0 : Int32), ∃ (e1 : Int32), ∃ (e2 : Nat → Int32), ∃ (e3 : Nat → Int32), ∃ (e4 : Nat → Int32), ∃ (e5 : Nat → Int32), ∃ (e6 : Nat → Int32), ∃ (e7 : Nat → Int32), ∃ (e8 : Nat → Int32), ∃ (e9 : Nat → Int32), ∃ (e10 : Nat → Int32), ∃ (e11 : Nat → Int32), ∃ (e12 : Nat → Int32), ∃ (e13 : Nat → Int32), ∃ (e14 : Nat → Int32), ∃ (e15 : Nat → Int32), v = some (.int e0) ∧ w = [(b0, .inr (12, [.int 0, .ref b4, .ref b5, .ref b6, .ref b7, .int b8, .ref b9, .int b10, .int b11, .int b12, .int b13, .ref b14, .ref b15, .ref b16, .int b17, .ref b18, .ref b19, .ref b20, .ref b21, .ref b22, .ref b23, .ref b24, .ref b25, .ref b26, .ref b27, .ref b28, .ref b29, .int e1, .ref b31, .ref b32, .int b33, .int b34, .int b35, .int b36, .ref b37, .ref b38, .ref b39, .ref b40, .ref b41, .ref b42, .ref b43, .int b44, .ref b45, .ref b46, .int b47, .ref b48, .ref b49, .ref b50, .ref b51, .ref b52, .int b53, .ref b54, .ref b55, .ref b56])), (b4, .inl (G.2 0, 503, .inl b57)), (b18, .inl (G.2 0, 2, .inl e2)), (b19, .inl (G.2 0, 4820, .inl e3)), (b20, .inl (G.2 0, 520, .inl e4)), (b21, .inl (G.2 0, 9640, .inl e5)), (b22, .inl (G.2 0, 482, .inl e6)), (b23, .inl (G.2 0, 482, .inl e7)), (b24, .inl (G.2 0, 2, .inl e8)), (b25, .inl (G.2 0, 482, .inl e9)), (b26, .inl (G.2 0, 482, .inl e10)), (b27, .inl (G.2 0, 482, .inl e11)), (b28, .inl (G.2 0, 2, .inl e12)), (b29, .inl (G.2 0, 2880, .inl e13)), (b55, .inl (G.2 0, 20, .inl e14)), (b56, .inl (G.2 0, 20, .inl e15))] ∧ (zI e1 0 1) ∧ (zR e2 0 241) ∧ (zR e3 (-1) 240) ∧ (zqa qP e4) ∧ (zqa qC e6) ∧ (zR e7 0 240) ∧ (zR e8 0 241) ∧ (zR e9 0 240) ∧ (zR e12 0 240) ∧ (zqa qE e13)) := by
  refine z_start (by decide +kernel) (Nat.le_of_ble_eq_true rfl) ?_
  intro p e s m below meth c A Z hr hnm hA hP hD hS ls hl
  have Z : zC p s m _ meth c prog_14_method_85_code 3 "TraceMachinesModel" G := Z
  obtain ⟨hx, hb, hml, hown, hts, hK, hN, hlocks⟩ := id Z
  have hl : lv_has ls 3 [(0, .ref b0), (1, .int b1), (2, .int b2)] := hl
  refine lv_aload_n hx hb d_Model_odd_0 rfl (lv_at hl 0 rfl) ?_
  refine lv_iconst (v := 0) hx hb d_Model_odd_1 (by decide) ?_
  refine va_put (D := G.1) (ci := 12) (v := .int 0) (ty := .int) (C := R_Model) (T := F_Model) (N := 54) hx hb hts i_Model t_Model t_Model_ok n_Model hown hK hP hD hS 0 rfl rfl 0 (by decide) (hts _ q1109) (fun _ h9 => h9) rfl (by decide +kernel) rfl rfl (Nat.le_of_ble_eq_true rfl) d_Model_odd_2 (fun H locs hP hD hS => ?_)
  have hP : va_P G.1 classes [(b0, .inr (12, [.int 0, .ref b4, .ref b5, .ref b6, .ref b7, .int b8, .ref b9, .int b10, .int b11, .int b12, .int b13, .ref b14, .ref b15, .ref b16, .int b17, .ref b18, .ref b19, .ref b20, .ref b21, .ref b22, .ref b23, .ref b24, .ref b25, .ref b26, .ref b27, .ref b28, .ref b29, .int b30, .ref b31, .ref b32, .int b33, .int b34, .int b35, .int b36, .ref b37, .ref b38, .ref b39, .ref b40, .ref b41, .ref b42, .ref b43, .int b44, .ref b45, .ref b46, .int b47, .ref b48, .ref b49, .ref b50, .ref b51, .ref b52, .int b53, .ref b54, .ref b55, .ref b56])), (b4, .inl (G.2 0, 503, .inl b57)), (b18, .inl (G.2 0, 2, .inl b58)), (b19, .inl (G.2 0, 4820, .inl b59)), (b20, .inl (G.2 0, 520, .inl b60)), (b21, .inl (G.2 0, 9640, .inl b61)), (b22, .inl (G.2 0, 482, .inl b62)), (b23, .inl (G.2 0, 482, .inl b63)), (b24, .inl (G.2 0, 2, .inl b64)), (b25, .inl (G.2 0, 482, .inl b65)), (b26, .inl (G.2 0, 482, .inl b66)), (b27, .inl (G.2 0, 482, .inl b67)), (b28, .inl (G.2 0, 2, .inl b68)), (b29, .inl (G.2 0, 2880, .inl b69)), (b55, .inl (G.2 0, 20, .inl b70)), (b56, .inl (G.2 0, 20, .inl b71))] H := hP
  have hD := z_tie hP hD rfl
  refine lv_aload_n hx hb d_Model_odd_5 rfl (lv_at hl 0 rfl) ?_
  refine lv_iload_n hx hb d_Model_odd_6 rfl (lv_at hl 1 rfl) ?_
  refine z_callV (index := 191) (As := [.int b1]) (rest := []) (wr := [(b18, .inl (G.2 0, 2, .inl b58)), (b19, .inl (G.2 0, 4820, .inl b59)), (b20, .inl (G.2 0, 520, .inl b60)), (b21, .inl (G.2 0, 9640, .inl b61)), (b22, .inl (G.2 0, 482, .inl b62)), (b23, .inl (G.2 0, 482, .inl b63)), (b24, .inl (G.2 0, 2, .inl b64)), (b25, .inl (G.2 0, 482, .inl b65)), (b26, .inl (G.2 0, 482, .inl b66)), (b27, .inl (G.2 0, 482, .inl b67)), (b28, .inl (G.2 0, 2, .inl b68)), (b29, .inl (G.2 0, 2880, .inl b69)), (b55, .inl (G.2 0, 20, .inl b70)), (b56, .inl (G.2 0, 20, .inl b71))]) Z (s1_Model_isTrace l G (b0) (b1) (0) (b4) (b5) (b6) (b7) (b8) (b9) (b10) (b11) (b12) (b13) (b14) (b15) (b16) (b17) (b18) (b19) (b20) (b21) (b22) (b23) (b24) (b25) (b26) (b27) (b28) (b29) (b30) (b31) (b32) (b33) (b34) (b35) (b36) (b37) (b38) (b39) (b40) (b41) (b42) (b43) (b44) (b45) (b46) (b47) (b48) (b49) (b50) (b51) (b52) (b53) (b54) (b55) (b56) (b57) hb8 hb10 hb11 hb13 hb17 hb30 hb33 hb44 hb47 hb53 hb57) hl.1 q1328 q1330 qs52 q14 q1331 ⟨by decide, by decide, by show _ = some 1; decide +kernel⟩ ⟨Nat.le_of_ble_eq_true rfl, Nat.le_of_ble_eq_true rfl⟩ ⟨Nat.le_of_ble_eq_true rfl, Nat.le_of_ble_eq_true rfl⟩ rfl (Nat.le_of_ble_eq_true rfl) d_Model_odd_7 hP hD hS hA 0 12 rfl rfl rfl [0, 1] [2, 3, 4, 5, 6, 7, 8, 9, 10, 11, 12, 13, 14, 15] rfl rfl rfl rfl (by decide) (fun v w1 H locs hw_1 hP hD hS => ?_)
  obtain ⟨x_2, rfl, rfl, hx_2, hfx_3⟩ := hw_1
  have hP : va_P G.1 classes [(b18, .inl (G.2 0, 2, .inl b58)), (b19, .inl (G.2 0, 4820, .inl b59)), (b20, .inl (G.2 0, 520, .inl b60)), (b21, .inl (G.2 0, 9640, .inl b61)), (b22, .inl (G.2 0, 482, .inl b62)), (b23, .inl (G.2 0, 482, .inl b63)), (b24, .inl (G.2 0, 2, .inl b64)), (b25, .inl (G.2 0, 482, .inl b65)), (b26, .inl (G.2 0, 482, .inl b66)), (b27, .inl (G.2 0, 482, .inl b67)), (b28, .inl (G.2 0, 2, .inl b68)), (b29, .inl (G.2 0, 2880, .inl b69)), (b55, .inl (G.2 0, 20, .inl b70)), (b56, .inl (G.2 0, 20, .inl b71)), (b0, .inr (12, [.int 0, .ref b4, .ref b5, .ref b6, .ref b7, .int b8, .ref b9, .int b10, .int b11, .int b12, .int b13, .ref b14, .ref b15, .ref b16, .int b17, .ref b18, .ref b19, .ref b20, .ref b21, .ref b22, .ref b23, .ref b24, .ref b25, .ref b26, .ref b27, .ref b28, .ref b29, .int b30, .ref b31, .ref b32, .int b33, .int b34, .int b35, .int b36, .ref b37, .ref b38, .ref b39, .ref b40, .ref b41, .ref b42, .ref b43, .int b44, .ref b45, .ref b46, .int b47, .ref b48, .ref b49, .ref b50, .ref b51, .ref b52, .int b53, .ref b54, .ref b55, .ref b56])), (b4, .inl (G.2 0, 503, .inl b57))] H := hP
  have hD := z_tie hP hD rfl
  refine W.widen (k := 0) (n := 0) (Nat.le_of_ble_eq_true rfl) (Nat.le_of_ble_eq_true rfl) ?_
  refine lv_if_eq (tgt := 25) hx hb d_Model_odd_10 (by decide) (fun hc_4 => ?_) (fun hc_4 => ?_)
  · have _nhc_4 := hc_4
    have ni_5 := (fa_eq _ _).mp hc_4
    rw [li_0] at ni_5
    have hv_6 : zI x_2 0 0 := zI.eq_l hx_2 zc_0 hc_4
    refine lv_iconst (v := (-1)) hx hb d_Model_odd_25 (by decide) ?_
    exact z_iret hx hb hr hlocks (hP.sub [14, 15, 0, 1, 2, 3, 4, 5, 6, 7, 8, 9, 10, 11, 12, 13] rfl) (hD.sub [14, 15, 0, 1, 2, 3, 4, 5, 6, 7, 8, 9, 10, 11, 12, 13] (by decide) rfl) hS (Nat.le_of_ble_eq_true rfl) (Nat.le_of_ble_eq_true rfl) d_Model_odd_26 ⟨(-1), b30, b58, b59, b60, b61, b62, b63, b64, b65, b66, b67, b68, b69, b70, b71, rfl, rfl, hb30, hb58, hb59, hb60, hb62, hb63, hb64, hb65, hb68, hb69⟩
  · have _nhc_4 := hc_4
    have ni_7 : ¬ (x_2 : Int32).toInt = (0 : Int32).toInt := fun z => hc_4 ((fa_eq _ _).mpr z)
    simp only [li_0] at ni_7
    have hv_8 : zI x_2 1 1 := zI.ne_lo hx_2 zc_0 hc_4 (by decide)
    have hv_9 : zI b1 0 19 := by rcases hfx_3 with h9 | h9; exact absurd h9 (by omega); exact ⟨h9.1, by have h8 := (zW5.ld (i := 0) (v := b57 (0 : Int32).toNatClampNeg) (a := 0) (b := 20) hb57 zc_0 rfl (by decide)); omega⟩
    refine lv_iload_n hx hb d_Model_odd_13 rfl (lv_at hl 2 rfl) ?_
    refine lv_i2l (v := b2.toInt64) hx hb d_Model_odd_14 rfl ?_
    refine lv_lconst (v := 0) hx hb d_Model_odd_15 (by decide) ?_
    refine lv_ldc2 hx hb hown (hts _ q1598) d_Model_odd_16 ?_
    refine z_callS (index := 138) (As := [.long b2.toInt64, .long 0, .long 2]) (rest := []) (wr := [(b18, .inl (G.2 0, 2, .inl b58)), (b19, .inl (G.2 0, 4820, .inl b59)), (b20, .inl (G.2 0, 520, .inl b60)), (b21, .inl (G.2 0, 9640, .inl b61)), (b22, .inl (G.2 0, 482, .inl b62)), (b23, .inl (G.2 0, 482, .inl b63)), (b24, .inl (G.2 0, 2, .inl b64)), (b25, .inl (G.2 0, 482, .inl b65)), (b26, .inl (G.2 0, 482, .inl b66)), (b27, .inl (G.2 0, 482, .inl b67)), (b28, .inl (G.2 0, 2, .inl b68)), (b29, .inl (G.2 0, 2880, .inl b69)), (b55, .inl (G.2 0, 20, .inl b70)), (b56, .inl (G.2 0, 20, .inl b71)), (b0, .inr (12, [.int 0, .ref b4, .ref b5, .ref b6, .ref b7, .int b8, .ref b9, .int b10, .int b11, .int b12, .int b13, .ref b14, .ref b15, .ref b16, .int b17, .ref b18, .ref b19, .ref b20, .ref b21, .ref b22, .ref b23, .ref b24, .ref b25, .ref b26, .ref b27, .ref b28, .ref b29, .int b30, .ref b31, .ref b32, .int b33, .int b34, .int b35, .int b36, .ref b37, .ref b38, .ref b39, .ref b40, .ref b41, .ref b42, .ref b43, .int b44, .ref b45, .ref b46, .int b47, .ref b48, .ref b49, .ref b50, .ref b51, .ref b52, .int b53, .ref b54, .ref b55, .ref b56])), (b4, .inl (G.2 0, 503, .inl b57))]) Z (s2_Model_in l G (b2.toInt64) (0) (2)) hl.1 q1281 q1282 q14 q1283 ⟨by decide, by decide, by show _ = some 3; decide +kernel⟩ ⟨Nat.le_of_ble_eq_true rfl, Nat.le_of_ble_eq_true rfl⟩ ⟨Nat.le_of_ble_eq_true rfl, Nat.le_of_ble_eq_true rfl⟩ rfl (Nat.le_of_ble_eq_true rfl) d_Model_odd_19 hP hD hS hA [] [0, 1, 2, 3, 4, 5, 6, 7, 8, 9, 10, 11, 12, 13, 14, 15] rfl rfl rfl rfl (by decide) (fun v w1 H locs hw_10 hP hD hS => ?_)
    rcases hw_10 with ⟨rfl, rfl, hq_11⟩ | ⟨rfl, rfl, hq_12, hq_13⟩ | ⟨rfl, rfl, hq_14, hq_15⟩
    · have hP : va_P G.1 classes [(b18, .inl (G.2 0, 2, .inl b58)), (b19, .inl (G.2 0, 4820, .inl b59)), (b20, .inl (G.2 0, 520, .inl b60)), (b21, .inl (G.2 0, 9640, .inl b61)), (b22, .inl (G.2 0, 482, .inl b62)), (b23, .inl (G.2 0, 482, .inl b63)), (b24, .inl (G.2 0, 2, .inl b64)), (b25, .inl (G.2 0, 482, .inl b65)), (b26, .inl (G.2 0, 482, .inl b66)), (b27, .inl (G.2 0, 482, .inl b67)), (b28, .inl (G.2 0, 2, .inl b68)), (b29, .inl (G.2 0, 2880, .inl b69)), (b55, .inl (G.2 0, 20, .inl b70)), (b56, .inl (G.2 0, 20, .inl b71)), (b0, .inr (12, [.int 0, .ref b4, .ref b5, .ref b6, .ref b7, .int b8, .ref b9, .int b10, .int b11, .int b12, .int b13, .ref b14, .ref b15, .ref b16, .int b17, .ref b18, .ref b19, .ref b20, .ref b21, .ref b22, .ref b23, .ref b24, .ref b25, .ref b26, .ref b27, .ref b28, .ref b29, .int b30, .ref b31, .ref b32, .int b33, .int b34, .int b35, .int b36, .ref b37, .ref b38, .ref b39, .ref b40, .ref b41, .ref b42, .ref b43, .int b44, .ref b45, .ref b46, .int b47, .ref b48, .ref b49, .ref b50, .ref b51, .ref b52, .int b53, .ref b54, .ref b55, .ref b56])), (b4, .inl (G.2 0, 503, .inl b57))] H := hP
      have hD := z_tie hP hD rfl
      try simp only [Int32.toInt_toInt64, ll_0] at hq_11
      have hv_16 : zI b2 (-2147483648) (-1) := by have _a := hq_11; have _b := (zI_all b2); have _c := zcl_0; simp only [Int32.toInt_toInt64] at *; exact ⟨by omega, by omega⟩
      refine W.widen (k := 0) (n := 0) (Nat.le_of_ble_eq_true rfl) (Nat.le_of_ble_eq_true rfl) ?_
      refine lv_if_ne (tgt := 27) hx hb d_Model_odd_22 (by decide) (fun hc => absurd hc (by decide +kernel)) (fun _ => ?_)
      refine lv_iconst (v := (-1)) hx hb d_Model_odd_25 (by decide) ?_
      exact z_iret hx hb hr hlocks (hP.sub [14, 15, 0, 1, 2, 3, 4, 5, 6, 7, 8, 9, 10, 11, 12, 13] rfl) (hD.sub [14, 15, 0, 1, 2, 3, 4, 5, 6, 7, 8, 9, 10, 11, 12, 13] (by decide) rfl) hS (Nat.le_of_ble_eq_true rfl) (Nat.le_of_ble_eq_true rfl) d_Model_odd_26 ⟨(-1), b30, b58, b59, b60, b61, b62, b63, b64, b65, b66, b67, b68, b69, b70, b71, rfl, rfl, hb30, hb58, hb59, hb60, hb62, hb63, hb64, hb65, hb68, hb69⟩
    · have hP : va_P G.1 classes [(b18, .inl (G.2 0, 2, .inl b58)), (b19, .inl (G.2 0, 4820, .inl b59)), (b20, .inl (G.2 0, 520, .inl b60)), (b21, .inl (G.2 0, 9640, .inl b61)), (b22, .inl (G.2 0, 482, .inl b62)), (b23, .inl (G.2 0, 482, .inl b63)), (b24, .inl (G.2 0, 2, .inl b64)), (b25, .inl (G.2 0, 482, .inl b65)), (b26, .inl (G.2 0, 482, .inl b66)), (b27, .inl (G.2 0, 482, .inl b67)), (b28, .inl (G.2 0, 2, .inl b68)), (b29, .inl (G.2 0, 2880, .inl b69)), (b55, .inl (G.2 0, 20, .inl b70)), (b56, .inl (G.2 0, 20, .inl b71)), (b0, .inr (12, [.int 0, .ref b4, .ref b5, .ref b6, .ref b7, .int b8, .ref b9, .int b10, .int b11, .int b12, .int b13, .ref b14, .ref b15, .ref b16, .int b17, .ref b18, .ref b19, .ref b20, .ref b21, .ref b22, .ref b23, .ref b24, .ref b25, .ref b26, .ref b27, .ref b28, .ref b29, .int b30, .ref b31, .ref b32, .int b33, .int b34, .int b35, .int b36, .ref b37, .ref b38, .ref b39, .ref b40, .ref b41, .ref b42, .ref b43, .int b44, .ref b45, .ref b46, .int b47, .ref b48, .ref b49, .ref b50, .ref b51, .ref b52, .int b53, .ref b54, .ref b55, .ref b56])), (b4, .inl (G.2 0, 503, .inl b57))] H := hP
      have hD := z_tie hP hD rfl
      try simp only [Int32.toInt_toInt64, ll_0] at hq_12
      have hv_17 : zI b2 0 2147483647 := by have _a := hq_12; have _b := (zI_all b2); have _c := zcl_0; simp only [Int32.toInt_toInt64] at *; exact ⟨by omega, by omega⟩
      try simp only [Int32.toInt_toInt64, ll_2] at hq_13
      have hv_18 : zI b2 3 2147483647 := by have _a := hq_13; have _b := hv_17; have _c := zcl_2; simp only [Int32.toInt_toInt64] at *; exact ⟨by omega, by omega⟩
      refine W.widen (k := 0) (n := 0) (Nat.le_of_ble_eq_true rfl) (Nat.le_of_ble_eq_true rfl) ?_
      refine lv_if_ne (tgt := 27) hx hb d_Model_odd_22 (by decide) (fun hc => absurd hc (by decide +kernel)) (fun _ => ?_)
      refine lv_iconst (v := (-1)) hx hb d_Model_odd_25 (by decide) ?_
      exact z_iret hx hb hr hlocks (hP.sub [14, 15, 0, 1, 2, 3, 4, 5, 6, 7, 8, 9, 10, 11, 12, 13] rfl) (hD.sub [14, 15, 0, 1, 2, 3, 4, 5, 6, 7, 8, 9, 10, 11, 12, 13] (by decide) rfl) hS (Nat.le_of_ble_eq_true rfl) (Nat.le_of_ble_eq_true rfl) d_Model_odd_26 ⟨(-1), b30, b58, b59, b60, b61, b62, b63, b64, b65, b66, b67, b68, b69, b70, b71, rfl, rfl, hb30, hb58, hb59, hb60, hb62, hb63, hb64, hb65, hb68, hb69⟩
    · have hP : va_P G.1 classes [(b18, .inl (G.2 0, 2, .inl b58)), (b19, .inl (G.2 0, 4820, .inl b59)), (b20, .inl (G.2 0, 520, .inl b60)), (b21, .inl (G.2 0, 9640, .inl b61)), (b22, .inl (G.2 0, 482, .inl b62)), (b23, .inl (G.2 0, 482, .inl b63)), (b24, .inl (G.2 0, 2, .inl b64)), (b25, .inl (G.2 0, 482, .inl b65)), (b26, .inl (G.2 0, 482, .inl b66)), (b27, .inl (G.2 0, 482, .inl b67)), (b28, .inl (G.2 0, 2, .inl b68)), (b29, .inl (G.2 0, 2880, .inl b69)), (b55, .inl (G.2 0, 20, .inl b70)), (b56, .inl (G.2 0, 20, .inl b71)), (b0, .inr (12, [.int 0, .ref b4, .ref b5, .ref b6, .ref b7, .int b8, .ref b9, .int b10, .int b11, .int b12, .int b13, .ref b14, .ref b15, .ref b16, .int b17, .ref b18, .ref b19, .ref b20, .ref b21, .ref b22, .ref b23, .ref b24, .ref b25, .ref b26, .ref b27, .ref b28, .ref b29, .int b30, .ref b31, .ref b32, .int b33, .int b34, .int b35, .int b36, .ref b37, .ref b38, .ref b39, .ref b40, .ref b41, .ref b42, .ref b43, .int b44, .ref b45, .ref b46, .int b47, .ref b48, .ref b49, .ref b50, .ref b51, .ref b52, .int b53, .ref b54, .ref b55, .ref b56])), (b4, .inl (G.2 0, 503, .inl b57))] H := hP
      have hD := z_tie hP hD rfl
      try simp only [Int32.toInt_toInt64, ll_0] at hq_14
      have hv_19 : zI b2 0 2147483647 := by have _a := hq_14; have _b := (zI_all b2); have _c := zcl_0; simp only [Int32.toInt_toInt64] at *; exact ⟨by omega, by omega⟩
      try simp only [Int32.toInt_toInt64, ll_2] at hq_15
      have hv_20 : zI b2 0 2 := by have _a := hq_15; have _b := hv_19; have _c := zcl_2; simp only [Int32.toInt_toInt64] at *; exact ⟨by omega, by omega⟩
      refine W.widen (k := 0) (n := 0) (Nat.le_of_ble_eq_true rfl) (Nat.le_of_ble_eq_true rfl) ?_
      refine lv_if_ne (tgt := 27) hx hb d_Model_odd_22 (by decide) (fun _ => ?_) (fun hc => absurd hc (by decide +kernel))
      refine lv_aload_n hx hb d_Model_odd_27 rfl (lv_at hl 0 rfl) ?_
      refine z_callV (index := 405) (As := []) (rest := []) (wr := []) Z (s2_Model_layWeak l G (b0) (0) (b4) (b5) (b6) (b7) (b8) (b9) (b10) (b11) (b12) (b13) (b14) (b15) (b16) (b17) (b18) (b19) (b20) (b21) (b22) (b23) (b24) (b25) (b26) (b27) (b28) (b29) (b30) (b31) (b32) (b33) (b34) (b35) (b36) (b37) (b38) (b39) (b40) (b41) (b42) (b43) (b44) (b45) (b46) (b47) (b48) (b49) (b50) (b51) (b52) (b53) (b54) (b55) (b56) (b57) (b58) (b59) (b60) (b61) (b62) (b63) (b64) (b65) (b66) (b67) (b68) (b69) (b70) (b71) hb8 hb10 hb11 hb13 hb17 hb30 hb33 hb44 hb47 hb53 hb57 hb58 hb59 hb60 hb62 hb63 hb64 hb65 hb68 hb69) hl.1 q1599 q1601 qs96 q14 q1602 ⟨by decide, by decide, by show _ = some 0; decide +kernel⟩ ⟨Nat.le_of_ble_eq_true rfl, Nat.le_of_ble_eq_true rfl⟩ ⟨Nat.le_of_ble_eq_true rfl, Nat.le_of_ble_eq_true rfl⟩ rfl (Nat.le_of_ble_eq_true rfl) d_Model_odd_28 hP hD hS hA 14 12 rfl rfl rfl [14, 15, 0, 1, 2, 3, 4, 5, 6, 7, 8, 9, 10, 11, 12, 13] [] rfl rfl rfl rfl (by decide) (fun v w1 H locs hw_21 hP hD hS => ?_)
      refine Exists.elim hw_21 (fun x_22 hz_37 => Exists.elim hz_37 (fun f_23 hz_38 => Exists.elim hz_38 (fun f_24 hz_39 => Exists.elim hz_39 (fun f_25 hz_40 => Exists.elim hz_40 (fun f_26 hz_41 => Exists.elim hz_41 (fun f_27 hz_42 => Exists.elim hz_42 (fun f_28 hz_43 => Exists.elim hz_43 (fun f_29 hz_44 => Exists.elim hz_44 (fun f_30 hz_45 => Exists.elim hz_45 (fun f_31 hz_46 => Exists.elim hz_46 (fun f_32 hz_47 => Exists.elim hz_47 (fun f_33 hz_48 => Exists.elim hz_48 (fun f_34 hz_49 => Exists.elim hz_49 (fun f_35 hz_50 => Exists.elim hz_50 (fun f_36 hz_51 => ?_)))))))))))))))
      clear hw_21 hz_37 hz_38 hz_39 hz_40 hz_41 hz_42 hz_43 hz_44 hz_45 hz_46 hz_47 hz_48 hz_49 hz_50
      obtain ⟨rfl, rfl, hx_22, hf_23, hf_24, hf_25, hf_27, hf_28, hf_29, hf_30, hf_33, hf_34⟩ := hz_51
      have hP : va_P G.1 classes [(b0, .inr (12, [.int 0, .ref b4, .ref b5, .ref b6, .ref b7, .int b8, .ref b9, .int b10, .int b11, .int b12, .int b13, .ref b14, .ref b15, .ref b16, .int b17, .ref b18, .ref b19, .ref b20, .ref b21, .ref b22, .ref b23, .ref b24, .ref b25, .ref b26, .ref b27, .ref b28, .ref b29, .int x_22, .ref b31, .ref b32, .int b33, .int b34, .int b35, .int b36, .ref b37, .ref b38, .ref b39, .ref b40, .ref b41, .ref b42, .ref b43, .int b44, .ref b45, .ref b46, .int b47, .ref b48, .ref b49, .ref b50, .ref b51, .ref b52, .int b53, .ref b54, .ref b55, .ref b56])), (b4, .inl (G.2 0, 503, .inl b57)), (b18, .inl (G.2 0, 2, .inl f_23)), (b19, .inl (G.2 0, 4820, .inl f_24)), (b20, .inl (G.2 0, 520, .inl f_25)), (b21, .inl (G.2 0, 9640, .inl f_26)), (b22, .inl (G.2 0, 482, .inl f_27)), (b23, .inl (G.2 0, 482, .inl f_28)), (b24, .inl (G.2 0, 2, .inl f_29)), (b25, .inl (G.2 0, 482, .inl f_30)), (b26, .inl (G.2 0, 482, .inl f_31)), (b27, .inl (G.2 0, 482, .inl f_32)), (b28, .inl (G.2 0, 2, .inl f_33)), (b29, .inl (G.2 0, 2880, .inl f_34)), (b55, .inl (G.2 0, 20, .inl f_35)), (b56, .inl (G.2 0, 20, .inl f_36))] H := hP
      have hD := z_tie hP hD rfl
      refine W.widen (k := 0) (n := 0) (Nat.le_of_ble_eq_true rfl) (Nat.le_of_ble_eq_true rfl) ?_
      refine lv_iload_n hx hb d_Model_odd_31 rfl (lv_at hl 2 rfl) ?_
      refine lv_if_ne (tgt := 44) hx hb d_Model_odd_32 (by decide) (fun hc_52 => ?_) (fun hc_52 => ?_)
      · have _nhc_52 := hc_52
        have ni_53 : ¬ (b2 : Int32).toInt = (0 : Int32).toInt := fun z => hc_52 ((fa_eq _ _).mpr z)
        simp only [li_0] at ni_53
        have hv_54 : zI b2 1 2 := zI.ne_lo hv_20 zc_0 hc_52 (by decide)
        refine lv_iload_n hx hb d_Model_odd_44 rfl (lv_at hl 2 rfl) ?_
        refine lv_iconst (v := 1) hx hb d_Model_odd_45 (by decide) ?_
        refine lv_icmp_ne (tgt := 58) hx hb d_Model_odd_46 (by decide) (fun hc_55 => ?_) (fun hc_55 => ?_)
        · have _nhc_55 := hc_55
          have ni_56 : ¬ (b2 : Int32).toInt = (1 : Int32).toInt := fun z => hc_55 ((fa_eq _ _).mpr z)
          simp only [li_1] at ni_56
          have hv_57 : zI b2 2 2 := zI.ne_lo hv_54 zc_1 hc_55 (by decide)
          refine lv_aload_n hx hb d_Model_odd_58 rfl (lv_at hl 0 rfl) ?_
          refine lv_iload_n hx hb d_Model_odd_59 rfl (lv_at hl 1 rfl) ?_
          refine z_callV (index := 408) (As := [.int b1]) (rest := []) (wr := [(b18, .inl (G.2 0, 2, .inl f_23)), (b19, .inl (G.2 0, 4820, .inl f_24)), (b20, .inl (G.2 0, 520, .inl f_25)), (b21, .inl (G.2 0, 9640, .inl f_26)), (b22, .inl (G.2 0, 482, .inl f_27)), (b23, .inl (G.2 0, 482, .inl f_28)), (b24, .inl (G.2 0, 2, .inl f_29)), (b25, .inl (G.2 0, 482, .inl f_30)), (b26, .inl (G.2 0, 482, .inl f_31)), (b27, .inl (G.2 0, 482, .inl f_32)), (b28, .inl (G.2 0, 2, .inl f_33)), (b29, .inl (G.2 0, 2880, .inl f_34))]) Z (s1_Model_placeAmong l G (b0) (b1) (0) (b4) (b5) (b6) (b7) (b8) (b9) (b10) (b11) (b12) (b13) (b14) (b15) (b16) (b17) (b18) (b19) (b20) (b21) (b22) (b23) (b24) (b25) (b26) (b27) (b28) (b29) (x_22) (b31) (b32) (b33) (b34) (b35) (b36) (b37) (b38) (b39) (b40) (b41) (b42) (b43) (b44) (b45) (b46) (b47) (b48) (b49) (b50) (b51) (b52) (b53) (b54) (b55) (b56) (b57) (f_35) (f_36) hv_9 hb8 hb10 hb11 hb13 hb17 hx_22 hb33 hb44 hb47 hb53 hb57) hl.1 q1603 q1605 qs97 q14 q1606 ⟨by decide, by decide, by show _ = some 1; decide +kernel⟩ ⟨Nat.le_of_ble_eq_true rfl, Nat.le_of_ble_eq_true rfl⟩ ⟨Nat.le_of_ble_eq_true rfl, Nat.le_of_ble_eq_true rfl⟩ rfl (Nat.le_of_ble_eq_true rfl) d_Model_odd_60 hP hD hS hA 0 12 rfl rfl rfl [0, 1, 14, 15] [2, 3, 4, 5, 6, 7, 8, 9, 10, 11, 12, 13] rfl rfl rfl rfl (by decide) (fun v w1 H locs hw_58 hP hD hS => ?_)
          obtain ⟨x_59, rfl, rfl⟩ := hw_58
          have hP : va_P G.1 classes [(b18, .inl (G.2 0, 2, .inl f_23)), (b19, .inl (G.2 0, 4820, .inl f_24)), (b20, .inl (G.2 0, 520, .inl f_25)), (b21, .inl (G.2 0, 9640, .inl f_26)), (b22, .inl (G.2 0, 482, .inl f_27)), (b23, .inl (G.2 0, 482, .inl f_28)), (b24, .inl (G.2 0, 2, .inl f_29)), (b25, .inl (G.2 0, 482, .inl f_30)), (b26, .inl (G.2 0, 482, .inl f_31)), (b27, .inl (G.2 0, 482, .inl f_32)), (b28, .inl (G.2 0, 2, .inl f_33)), (b29, .inl (G.2 0, 2880, .inl f_34)), (b0, .inr (12, [.int 0, .ref b4, .ref b5, .ref b6, .ref b7, .int b8, .ref b9, .int b10, .int b11, .int b12, .int b13, .ref b14, .ref b15, .ref b16, .int b17, .ref b18, .ref b19, .ref b20, .ref b21, .ref b22, .ref b23, .ref b24, .ref b25, .ref b26, .ref b27, .ref b28, .ref b29, .int x_22, .ref b31, .ref b32, .int b33, .int b34, .int b35, .int b36, .ref b37, .ref b38, .ref b39, .ref b40, .ref b41, .ref b42, .ref b43, .int b44, .ref b45, .ref b46, .int b47, .ref b48, .ref b49, .ref b50, .ref b51, .ref b52, .int b53, .ref b54, .ref b55, .ref b56])), (b4, .inl (G.2 0, 503, .inl b57)), (b55, .inl (G.2 0, 20, .inl f_35)), (b56, .inl (G.2 0, 20, .inl f_36))] H := hP
          have hD := z_tie hP hD rfl
          refine W.widen (k := 0) (n := 0) (Nat.le_of_ble_eq_true rfl) (Nat.le_of_ble_eq_true rfl) ?_
          exact z_iret hx hb hr hlocks (hP.sub [12, 13, 0, 1, 2, 3, 4, 5, 6, 7, 8, 9, 10, 11, 14, 15] rfl) (hD.sub [12, 13, 0, 1, 2, 3, 4, 5, 6, 7, 8, 9, 10, 11, 14, 15] (by decide) rfl) hS (Nat.le_of_ble_eq_true rfl) (Nat.le_of_ble_eq_true rfl) d_Model_odd_63 ⟨x_59, x_22, f_23, f_24, f_25, f_26, f_27, f_28, f_29, f_30, f_31, f_32, f_33, f_34, f_35, f_36, rfl, rfl, hx_22, hf_23, hf_24, hf_25, hf_27, hf_28, hf_29, hf_30, hf_33, hf_34⟩
        · have _nhc_55 := hc_55
          have ni_60 := (fa_eq _ _).mp hc_55
          rw [li_1] at ni_60
          have hv_61 : zI b2 1 1 := zI.eq_l hv_54 zc_1 hc_55
          refine lv_aload_n hx hb d_Model_odd_49 rfl (lv_at hl 0 rfl) ?_
          refine va_get (D := G.1) (ci := 12) (v := .ref b56) (C := R_Model) (T := F_Model) (N := 54) hx hb hts i_Model hown hK hP 0 rfl rfl 53 (by decide) (hts _ q1162) (fun _ h9 => h9) rfl d_Model_odd_50 ?_
          refine lv_iload_n hx hb d_Model_odd_53 rfl (lv_at hl 1 rfl) ?_
          refine va_iald hx hb hK hP 15 0 rfl rfl (zI.inn hv_9 (by decide)) d_Model_odd_54 ?_
          refine lv_topi (fun v_62 ev_62 => ?_)
          refine lv_goto (tgt := 63) hx hb d_Model_odd_55 (by decide) ?_
          exact z_iret hx hb hr hlocks hP hD hS (Nat.le_of_ble_eq_true rfl) (Nat.le_of_ble_eq_true rfl) d_Model_odd_63 ⟨v_62, x_22, f_23, f_24, f_25, f_26, f_27, f_28, f_29, f_30, f_31, f_32, f_33, f_34, f_35, f_36, rfl, rfl, hx_22, hf_23, hf_24, hf_25, hf_27, hf_28, hf_29, hf_30, hf_33, hf_34⟩
      · have _nhc_52 := hc_52
        have ni_63 := (fa_eq _ _).mp hc_52
        rw [li_0] at ni_63
        have hv_64 : zI b2 0 0 := zI.eq_l hv_20 zc_0 hc_52
        refine lv_aload_n hx hb d_Model_odd_35 rfl (lv_at hl 0 rfl) ?_
        refine va_get (D := G.1) (ci := 12) (v := .ref b55) (C := R_Model) (T := F_Model) (N := 54) hx hb hts i_Model hown hK hP 0 rfl rfl 52 (by decide) (hts _ q1161) (fun _ h9 => h9) rfl d_Model_odd_36 ?_
        refine lv_iload_n hx hb d_Model_odd_39 rfl (lv_at hl 1 rfl) ?_
        refine va_iald hx hb hK hP 14 0 rfl rfl (zI.inn hv_9 (by decide)) d_Model_odd_40 ?_
        refine lv_topi (fun v_65 ev_65 => ?_)
        refine lv_goto (tgt := 63) hx hb d_Model_odd_41 (by decide) ?_
        exact z_iret hx hb hr hlocks hP hD hS (Nat.le_of_ble_eq_true rfl) (Nat.le_of_ble_eq_true rfl) d_Model_odd_63 ⟨v_65, x_22, f_23, f_24, f_25, f_26, f_27, f_28, f_29, f_30, f_31, f_32, f_33, f_34, f_35, f_36, rfl, rfl, hx_22, hf_23, hf_24, hf_25, hf_27, hf_28, hf_29, hf_30, hf_33, hf_34⟩
theorem d_Model_oddest_0 : decode prog_14_method_86_code 0 = .ok (.aload_n 0, 1) := by decide +kernel
theorem d_Model_oddest_1 : decode prog_14_method_86_code 1 = .ok (.iconst 0, 1) := by decide +kernel
theorem d_Model_oddest_2 : decode prog_14_method_86_code 2 = .ok (.putfield 1, 3) := by decide +kernel
theorem d_Model_oddest_5 : decode prog_14_method_86_code 5 = .ok (.aload_n 0, 1) := by decide +kernel
theorem d_Model_oddest_6 : decode prog_14_method_86_code 6 = .ok (.invokevirtual 405, 3) := by decide +kernel
theorem d_Model_oddest_9 : decode prog_14_method_86_code 9 = .ok (.iconst 0, 1) := by decide +kernel
theorem d_Model_oddest_10 : decode prog_14_method_86_code 10 = .ok (.istore_n 2, 1) := by decide +kernel
theorem d_Model_oddest_11 : decode prog_14_method_86_code 11 = .ok (.iload_n 2, 1) := by decide +kernel
theorem d_Model_oddest_12 : decode prog_14_method_86_code 12 = .ok (.aload_n 0, 1) := by decide +kernel
theorem d_Model_oddest_13 : decode prog_14_method_86_code 13 = .ok (.invokevirtual 134, 3) := by decide +kernel
theorem d_Model_oddest_16 : decode prog_14_method_86_code 16 = .ok (.if_icmp .ge 20, 3) := by decide +kernel
theorem d_Model_oddest_19 : decode prog_14_method_86_code 19 = .ok (.aload_n 0, 1) := by decide +kernel
theorem d_Model_oddest_20 : decode prog_14_method_86_code 20 = .ok (.iload_n 2, 1) := by decide +kernel
theorem d_Model_oddest_21 : decode prog_14_method_86_code 21 = .ok (.invokevirtual 408, 3) := by decide +kernel
theorem d_Model_oddest_24 : decode prog_14_method_86_code 24 = .ok (.iload_n 1, 1) := by decide +kernel
theorem d_Model_oddest_25 : decode prog_14_method_86_code 25 = .ok (.if_icmp .ne 5, 3) := by decide +kernel
theorem d_Model_oddest_28 : decode prog_14_method_86_code 28 = .ok (.iload_n 2, 1) := by decide +kernel
theorem d_Model_oddest_29 : decode prog_14_method_86_code 29 = .ok (.ireturn, 1) := by decide +kernel
theorem d_Model_oddest_30 : decode prog_14_method_86_code 30 = .ok (.iinc 2 1, 3) := by decide +kernel
theorem d_Model_oddest_33 : decode prog_14_method_86_code 33 = .ok (.goto (-22), 3) := by decide +kernel
theorem d_Model_oddest_36 : decode prog_14_method_86_code 36 = .ok (.iconst (-1), 1) := by decide +kernel
theorem d_Model_oddest_37 : decode prog_14_method_86_code 37 = .ok (.ireturn, 1) := by decide +kernel
abbrev m_s1_Model_oddest : Room := { frames := 6, cells := 0, slots := 0, locals := 147 }
set_option maxHeartbeats 4000000 in
set_option maxRecDepth 100000 in
theorem s1_Model_oddest (l : Launch) (G : zG) (b0 : Nat) (b1 : Int32) (b2 : Int32) (b3 : Nat) (b4 : Nat) (b5 : Nat) (b6 : Nat) (b7 : Int32) (b8 : Nat) (b9 : Int32) (b10 : Int32) (b11 : Int32) (b12 : Int32) (b13 : Nat) (b14 : Nat) (b15 : Nat) (b16 : Int32) (b17 : Nat) (b18 : Nat) (b19 : Nat) (b20 : Nat) (b21 : Nat) (b22 : Nat) (b23 : Nat) (b24 : Nat) (b25 : Nat) (b26 : Nat) (b27 : Nat) (b28 : Nat) (b29 : Int32) (b30 : Nat) (b31 : Nat) (b32 : Int32) (b33 : Int32) (b34 : Int32) (b35 : Int32) (b36 : Nat) (b37 : Nat) (b38 : Nat) (b39 : Nat) (b40 : Nat) (b41 : Nat) (b42 : Nat) (b43 : Int32) (b44 : Nat) (b45 : Nat) (b46 : Int32) (b47 : Nat) (b48 : Nat) (b49 : Nat) (b50 : Nat) (b51 : Nat) (b52 : Int32) (b53 : Nat) (b54 : Nat) (b55 : Nat) (b56 : Nat → Int32) (b57 : Nat → Int32) (b58 : Nat → Int32) (b59 : Nat → Int32) (b60 : Nat → Int32) (b61 : Nat → Int32) (b62 : Nat → Int32) (b63 : Nat → Int32) (b64 : Nat → Int32) (b65 : Nat → Int32) (b66 : Nat → Int32) (b67 : Nat → Int32) (b68 : Nat → Int32) (b69 : Nat → Int32) (b70 : Nat → Int32) (hb7 : zI b7 0 8) (hb9 : zI b9 0 240) (hb10 : zI b10 0 240) (hb12 : zI b12 0 1) (hb16 : zI b16 0 12) (hb29 : zI b29 0 1) (hb32 : zI b32 0 1) (hb43 : zI b43 0 1000) (hb46 : zI b46 0 1000) (hb52 : zI b52 0 400) (hb56 : zW5 b56) (hb57 : zR b57 0 241) (hb58 : zR b58 (-1) 240) (hb59 : zqa qP b59) (hb61 : zqa qC b61) (hb62 : zR b62 0 240) (hb63 : zR b63 0 241) (hb64 : zR b64 0 240) (hb67 : zR b67 0 240) (hb68 : zqa qE b68) : zM l G y_Model_oddest prog_14_method_86_code 3 (Option.some Jvm.ClassFile.FieldType.int) m_s1_Model_oddest [.ref b0, .int b1] [(b0, .inr (12, [.int b2, .ref b3, .ref b4, .ref b5, .ref b6, .int b7, .ref b8, .int b9, .int b10, .int b11, .int b12, .ref b13, .ref b14, .ref b15, .int b16, .ref b17, .ref b18, .ref b19, .ref b20, .ref b21, .ref b22, .ref b23, .ref b24, .ref b25, .ref b26, .ref b27, .ref b28, .int b29, .ref b30, .ref b31, .int b32, .int b33, .int b34, .int b35, .ref b36, .ref b37, .ref b38, .ref b39, .ref b40, .ref b41, .ref b42, .int b43, .ref b44, .ref b45, .int b46, .ref b47, .ref b48, .ref b49, .ref b50, .ref b51, .int b52, .ref b53, .ref b54, .ref b55])), (b3, .inl (G.2 0, 503, .inl b56)), (b17, .inl (G.2 0, 2, .inl b57)), (b18, .inl (G.2 0, 4820, .inl b58)), (b19, .inl (G.2 0, 520, .inl b59)), (b20, .inl (G.2 0, 9640, .inl b60)), (b21, .inl (G.2 0, 482, .inl b61)), (b22, .inl (G.2 0, 482, .inl b62)), (b23, .inl (G.2 0, 2, .inl b63)), (b24, .inl (G.2 0, 482, .inl b64)), (b25, .inl (G.2 0, 482, .inl b65)), (b26, .inl (G.2 0, 482, .inl b66)), (b27, .inl (G.2 0, 2, .inl b67)), (b28, .inl (G.2 0, 2880, .inl b68)), (b54, .inl (G.2 0, 20, .inl b69)), (b55, .inl (G.2 0, 20, .inl b70))] (fun v w => ∃ (e0 : Int32), ∃ (e1 : Int32), ∃ (e2 : Nat → Int32), ∃ (e3 : Nat → Int32), ∃ (e4 : Nat → Int32), ∃ (e5 : Nat → Int32), ∃ (e6 : Nat → Int32), ∃ (e7 : Nat → Int32), ∃ (e8 : Nat → Int32), ∃ (e9 : Nat → Int32), ∃ (e10 : Nat → Int32), ∃ (e11 : Nat → Int32), ∃ (e12 : Nat → Int32), ∃ (e13 : Nat → Int32), ∃ (e14 : Nat → Int32), ∃ (e15 : Nat → Int32), v = some (.int e0) ∧ w = [(b0, .inr (12, [.int 0, .ref b3, .ref b4, .ref b5, .ref b6, .int b7, .ref b8, .int b9, .int b10, .int b11, .int b12, .ref b13, .ref b14, .ref b15, .int b16, .ref b17, .ref b18, .ref b19, .ref b20, .ref b21, .ref b22, .ref b23, .ref b24, .ref b25, .ref b26, .ref b27, .ref b28, .int e1, .ref b30, .ref b31, .int b32, .int b33, .int b34, .int b35, .ref b36, .ref b37, .ref b38, .ref b39, .ref b40, .ref b41, .ref b42, .int b43, .ref b44, .ref b45, .int b46, .ref b47, .ref b48, .ref b49, .ref b50, .ref b51, .int b52, .ref b53, .ref b54, .ref b55])), (b3, .inl (G.2 0, 503, .inl b56)), (b17, .inl (G.2 0, 2, .inl e2)), (b18, .inl (G.2 0, 4820, .inl e3)), (b19, .inl (G.2 0, 520, .inl e4)), (b20, .inl (G.2 0, 9640, .inl e5)), (b21, .inl (G.2 0, 482, .inl e6)), (b22, .inl (G.2 0, 482, .inl e7)), (b23, .inl (G.2 0, 2, .inl e8)), (b24, .inl (G.2 0, 482, .inl e9)), (b25, .inl (G.2 0, 482, .inl e10)), (b26, .inl (G.2 0, 482, .inl e11)), (b27, .inl (G.2 0, 2, .inl e12)), (b28, .inl (G.2 0, 2880, .inl e13)), (b54, .inl (G.2 0, 20, .inl e14)), (b55, .inl (G.2 0, 20, .inl e15))] ∧ (zI e0 (-1) 19) ∧ (zI e1 0 1) ∧ (zR e2 0 241) ∧ (zR e3 (-1) 240) ∧ (zqa qP e4) ∧ (zqa qC e6) ∧ (zR e7 0 240) ∧ (zR e8 0 241) ∧ (zR e9 0 240) ∧ (zR e12 0 240) ∧ (zqa qE e13)) := by
  refine z_start (by decide +kernel) (Nat.le_of_ble_eq_true rfl) ?_
  intro p e s m below meth c A Z hr hnm hA hP hD hS ls hl
  have Z : zC p s m _ meth c prog_14_method_86_code 3 "TraceMachinesModel" G := Z
  obtain ⟨hx, hb, hml, hown, hts, hK, hN, hlocks⟩ := id Z
  have hl : lv_has ls 3 [(0, .ref b0), (1, .int b1)] := hl
  refine lv_aload_n hx hb d_Model_oddest_0 rfl (lv_at hl 0 rfl) ?_
  refine lv_iconst (v := 0) hx hb d_Model_oddest_1 (by decide) ?_
  refine va_put (D := G.1) (ci := 12) (v := .int 0) (ty := .int) (C := R_Model) (T := F_Model) (N := 54) hx hb hts i_Model t_Model t_Model_ok n_Model hown hK hP hD hS 0 rfl rfl 0 (by decide) (hts _ q1109) (fun _ h9 => h9) rfl (by decide +kernel) rfl rfl (Nat.le_of_ble_eq_true rfl) d_Model_oddest_2 (fun H locs hP hD hS => ?_)
  have hP : va_P G.1 classes [(b0, .inr (12, [.int 0, .ref b3, .ref b4, .ref b5, .ref b6, .int b7, .ref b8, .int b9, .int b10, .int b11, .int b12, .ref b13, .ref b14, .ref b15, .int b16, .ref b17, .ref b18, .ref b19, .ref b20, .ref b21, .ref b22, .ref b23, .ref b24, .ref b25, .ref b26, .ref b27, .ref b28, .int b29, .ref b30, .ref b31, .int b32, .int b33, .int b34, .int b35, .ref b36, .ref b37, .ref b38, .ref b39, .ref b40, .ref b41, .ref b42, .int b43, .ref b44, .ref b45, .int b46, .ref b47, .ref b48, .ref b49, .ref b50, .ref b51, .int b52, .ref b53, .ref b54, .ref b55])), (b3, .inl (G.2 0, 503, .inl b56)), (b17, .inl (G.2 0, 2, .inl b57)), (b18, .inl (G.2 0, 4820, .inl b58)), (b19, .inl (G.2 0, 520, .inl b59)), (b20, .inl (G.2 0, 9640, .inl b60)), (b21, .inl (G.2 0, 482, .inl b61)), (b22, .inl (G.2 0, 482, .inl b62)), (b23, .inl (G.2 0, 2, .inl b63)), (b24, .inl (G.2 0, 482, .inl b64)), (b25, .inl (G.2 0, 482, .inl b65)), (b26, .inl (G.2 0, 482, .inl b66)), (b27, .inl (G.2 0, 2, .inl b67)), (b28, .inl (G.2 0, 2880, .inl b68)), (b54, .inl (G.2 0, 20, .inl b69)), (b55, .inl (G.2 0, 20, .inl b70))] H := hP
  have hD := z_tie hP hD rfl
  refine lv_aload_n hx hb d_Model_oddest_5 rfl (lv_at hl 0 rfl) ?_
  refine z_callV (index := 405) (As := []) (rest := []) (wr := []) Z (s2_Model_layWeak l G (b0) (0) (b3) (b4) (b5) (b6) (b7) (b8) (b9) (b10) (b11) (b12) (b13) (b14) (b15) (b16) (b17) (b18) (b19) (b20) (b21) (b22) (b23) (b24) (b25) (b26) (b27) (b28) (b29) (b30) (b31) (b32) (b33) (b34) (b35) (b36) (b37) (b38) (b39) (b40) (b41) (b42) (b43) (b44) (b45) (b46) (b47) (b48) (b49) (b50) (b51) (b52) (b53) (b54) (b55) (b56) (b57) (b58) (b59) (b60) (b61) (b62) (b63) (b64) (b65) (b66) (b67) (b68) (b69) (b70) hb7 hb9 hb10 hb12 hb16 hb29 hb32 hb43 hb46 hb52 hb56 hb57 hb58 hb59 hb61 hb62 hb63 hb64 hb67 hb68) hl.1 q1599 q1601 qs96 q14 q1602 ⟨by decide, by decide, by show _ = some 0; decide +kernel⟩ ⟨Nat.le_of_ble_eq_true rfl, Nat.le_of_ble_eq_true rfl⟩ ⟨Nat.le_of_ble_eq_true rfl, Nat.le_of_ble_eq_true rfl⟩ rfl (Nat.le_of_ble_eq_true rfl) d_Model_oddest_6 hP hD hS hA 0 12 rfl rfl rfl [0, 1, 2, 3, 4, 5, 6, 7, 8, 9, 10, 11, 12, 13, 14, 15] [] rfl rfl rfl rfl (by decide) (fun v w1 H locs hw_1 hP hD hS => ?_)
  refine Exists.elim hw_1 (fun x_2 hz_17 => Exists.elim hz_17 (fun f_3 hz_18 => Exists.elim hz_18 (fun f_4 hz_19 => Exists.elim hz_19 (fun f_5 hz_20 => Exists.elim hz_20 (fun f_6 hz_21 => Exists.elim hz_21 (fun f_7 hz_22 => Exists.elim hz_22 (fun f_8 hz_23 => Exists.elim hz_23 (fun f_9 hz_24 => Exists.elim hz_24 (fun f_10 hz_25 => Exists.elim hz_25 (fun f_11 hz_26 => Exists.elim hz_26 (fun f_12 hz_27 => Exists.elim hz_27 (fun f_13 hz_28 => Exists.elim hz_28 (fun f_14 hz_29 => Exists.elim hz_29 (fun f_15 hz_30 => Exists.elim hz_30 (fun f_16 hz_31 => ?_)))))))))))))))
  clear hw_1 hz_17 hz_18 hz_19 hz_20 hz_21 hz_22 hz_23 hz_24 hz_25 hz_26 hz_27 hz_28 hz_29 hz_30
  obtain ⟨rfl, rfl, hx_2, hf_3, hf_4, hf_5, hf_7, hf_8, hf_9, hf_10, hf_13, hf_14⟩ := hz_31
  have hP : va_P G.1 classes [(b0, .inr (12, [.int 0, .ref b3, .ref b4, .ref b5, .ref b6, .int b7, .ref b8, .int b9, .int b10, .int b11, .int b12, .ref b13, .ref b14, .ref b15, .int b16, .ref b17, .ref b18, .ref b19, .ref b20, .ref b21, .ref b22, .ref b23, .ref b24, .ref b25, .ref b26, .ref b27, .ref b28, .int x_2, .ref b30, .ref b31, .int b32, .int b33, .int b34, .int b35, .ref b36, .ref b37, .ref b38, .ref b39, .ref b40, .ref b41, .ref b42, .int b43, .ref b44, .ref b45, .int b46, .ref b47, .ref b48, .ref b49, .ref b50, .ref b51, .int b52, .ref b53, .ref b54, .ref b55])), (b3, .inl (G.2 0, 503, .inl b56)), (b17, .inl (G.2 0, 2, .inl f_3)), (b18, .inl (G.2 0, 4820, .inl f_4)), (b19, .inl (G.2 0, 520, .inl f_5)), (b20, .inl (G.2 0, 9640, .inl f_6)), (b21, .inl (G.2 0, 482, .inl f_7)), (b22, .inl (G.2 0, 482, .inl f_8)), (b23, .inl (G.2 0, 2, .inl f_9)), (b24, .inl (G.2 0, 482, .inl f_10)), (b25, .inl (G.2 0, 482, .inl f_11)), (b26, .inl (G.2 0, 482, .inl f_12)), (b27, .inl (G.2 0, 2, .inl f_13)), (b28, .inl (G.2 0, 2880, .inl f_14)), (b54, .inl (G.2 0, 20, .inl f_15)), (b55, .inl (G.2 0, 20, .inl f_16))] H := hP
  have hD := z_tie hP hD rfl
  refine W.widen (k := 0) (n := 0) (Nat.le_of_ble_eq_true rfl) (Nat.le_of_ble_eq_true rfl) ?_
  refine lv_iconst (v := 0) hx hb d_Model_oddest_9 (by decide) ?_
  refine lv_istore_n (lv' := [(2, .int 0), (0, .ref b0), (1, .int b1)]) hx hb d_Model_oddest_10 rfl hl (by decide) rfl (fun ls hl => ?_)
  suffices key : ∀ (k_47 : Nat) (y_48 : Int32) (H : Heap) (locs : List Loc) (ls : Array Slot), (zI y_48 0 20) → (20 : Int) - y_48.toInt < (k_47 : Int) → va_P G.1 classes [(b0, .inr (12, [.int 0, .ref b3, .ref b4, .ref b5, .ref b6, .int b7, .ref b8, .int b9, .int b10, .int b11, .int b12, .ref b13, .ref b14, .ref b15, .int b16, .ref b17, .ref b18, .ref b19, .ref b20, .ref b21, .ref b22, .ref b23, .ref b24, .ref b25, .ref b26, .ref b27, .ref b28, .int x_2, .ref b30, .ref b31, .int b32, .int b33, .int b34, .int b35, .ref b36, .ref b37, .ref b38, .ref b39, .ref b40, .ref b41, .ref b42, .int b43, .ref b44, .ref b45, .int b46, .ref b47, .ref b48, .ref b49, .ref b50, .ref b51, .int b52, .ref b53, .ref b54, .ref b55])), (b3, .inl (G.2 0, 503, .inl b56)), (b17, .inl (G.2 0, 2, .inl f_3)), (b18, .inl (G.2 0, 4820, .inl f_4)), (b19, .inl (G.2 0, 520, .inl f_5)), (b20, .inl (G.2 0, 9640, .inl f_6)), (b21, .inl (G.2 0, 482, .inl f_7)), (b22, .inl (G.2 0, 482, .inl f_8)), (b23, .inl (G.2 0, 2, .inl f_9)), (b24, .inl (G.2 0, 482, .inl f_10)), (b25, .inl (G.2 0, 482, .inl f_11)), (b26, .inl (G.2 0, 482, .inl f_12)), (b27, .inl (G.2 0, 2, .inl f_13)), (b28, .inl (G.2 0, 2880, .inl f_14)), (b54, .inl (G.2 0, 20, .inl f_15)), (b55, .inl (G.2 0, 20, .inl f_16))] H → va_D A [(b0, .inr (12, [.int 0, .ref b3, .ref b4, .ref b5, .ref b6, .int b7, .ref b8, .int b9, .int b10, .int b11, .int b12, .ref b13, .ref b14, .ref b15, .int b16, .ref b17, .ref b18, .ref b19, .ref b20, .ref b21, .ref b22, .ref b23, .ref b24, .ref b25, .ref b26, .ref b27, .ref b28, .int x_2, .ref b30, .ref b31, .int b32, .int b33, .int b34, .int b35, .ref b36, .ref b37, .ref b38, .ref b39, .ref b40, .ref b41, .ref b42, .int b43, .ref b44, .ref b45, .int b46, .ref b47, .ref b48, .ref b49, .ref b50, .ref b51, .int b52, .ref b53, .ref b54, .ref b55])), (b3, .inl (G.2 0, 503, .inl b56)), (b17, .inl (G.2 0, 2, .inl f_3)), (b18, .inl (G.2 0, 4820, .inl f_4)), (b19, .inl (G.2 0, 520, .inl f_5)), (b20, .inl (G.2 0, 9640, .inl f_6)), (b21, .inl (G.2 0, 482, .inl f_7)), (b22, .inl (G.2 0, 482, .inl f_8)), (b23, .inl (G.2 0, 2, .inl f_9)), (b24, .inl (G.2 0, 482, .inl f_10)), (b25, .inl (G.2 0, 482, .inl f_11)), (b26, .inl (G.2 0, 482, .inl f_12)), (b27, .inl (G.2 0, 2, .inl f_13)), (b28, .inl (G.2 0, 2880, .inl f_14)), (b54, .inl (G.2 0, 20, .inl f_15)), (b55, .inl (G.2 0, 20, .inl f_16))] → va_S A s.heap H locs → lv_has ls 3 [(2, .int y_48), (0, .ref b0), (1, .int b1)] → W p l e m_s1_Model_oddest s m ([.ref b0, .int b1] : List Value).toArray below meth c H locs 0 0 (MQ below (zQ G (fun v w => ∃ (e0 : Int32), ∃ (e1 : Int32), ∃ (e2 : Nat → Int32), ∃ (e3 : Nat → Int32), ∃ (e4 : Nat → Int32), ∃ (e5 : Nat → Int32), ∃ (e6 : Nat → Int32), ∃ (e7 : Nat → Int32), ∃ (e8 : Nat → Int32), ∃ (e9 : Nat → Int32), ∃ (e10 : Nat → Int32), ∃ (e11 : Nat → Int32), ∃ (e12 : Nat → Int32), ∃ (e13 : Nat → Int32), ∃ (e14 : Nat → Int32), ∃ (e15 : Nat → Int32), v = some (.int e0) ∧ w = [(b0, .inr (12, [.int 0, .ref b3, .ref b4, .ref b5, .ref b6, .int b7, .ref b8, .int b9, .int b10, .int b11, .int b12, .ref b13, .ref b14, .ref b15, .int b16, .ref b17, .ref b18, .ref b19, .ref b20, .ref b21, .ref b22, .ref b23, .ref b24, .ref b25, .ref b26, .ref b27, .ref b28, .int e1, .ref b30, .ref b31, .int b32, .int b33, .int b34, .int b35, .ref b36, .ref b37, .ref b38, .ref b39, .ref b40, .ref b41, .ref b42, .int b43, .ref b44, .ref b45, .int b46, .ref b47, .ref b48, .ref b49, .ref b50, .ref b51, .int b52, .ref b53, .ref b54, .ref b55])), (b3, .inl (G.2 0, 503, .inl b56)), (b17, .inl (G.2 0, 2, .inl e2)), (b18, .inl (G.2 0, 4820, .inl e3)), (b19, .inl (G.2 0, 520, .inl e4)), (b20, .inl (G.2 0, 9640, .inl e5)), (b21, .inl (G.2 0, 482, .inl e6)), (b22, .inl (G.2 0, 482, .inl e7)), (b23, .inl (G.2 0, 2, .inl e8)), (b24, .inl (G.2 0, 482, .inl e9)), (b25, .inl (G.2 0, 482, .inl e10)), (b26, .inl (G.2 0, 482, .inl e11)), (b27, .inl (G.2 0, 2, .inl e12)), (b28, .inl (G.2 0, 2880, .inl e13)), (b54, .inl (G.2 0, 20, .inl e14)), (b55, .inl (G.2 0, 20, .inl e15))] ∧ (zI e0 (-1) 19) ∧ (zI e1 0 1) ∧ (zR e2 0 241) ∧ (zR e3 (-1) 240) ∧ (zqa qP e4) ∧ (zqa qC e6) ∧ (zR e7 0 240) ∧ (zR e8 0 241) ∧ (zR e9 0 240) ∧ (zR e12 0 240) ∧ (zqa qE e13)) A) ([.ref b0, .int b1] : List Value).toArray s m_s1_Model_oddest.cells m_s1_Model_oddest.slots A) (F0 m 11 ls []) by
    exact key 21 (0) _ _ _ (zI.wk (l' := 0) (h' := 20) zc_0 (by decide)) (zm_upi (zI.wk (l' := 0) (h' := 20) zc_0 (by decide)) (by decide)) hP hD hS (lv_sub hl [0, 1, 2] rfl)
  intro k_47
  induction k_47 with
  | zero =>
    intro y_48 H locs ls hy_48 hmk_47 hP hD hS hl
    exact (zm_up0 hy_48 hmk_47).elim
  | succ k_47 ihk_47 =>
    intro y_48 H locs ls hy_48 hmk_47 hP hD hS hl
    refine lv_iload_n hx hb d_Model_oddest_11 rfl (lv_at hl 0 rfl) ?_
    refine lv_aload_n hx hb d_Model_oddest_12 rfl (lv_at hl 1 rfl) ?_
    refine z_callV (index := 134) (As := []) (rest := [.int y_48]) (wr := [(b17, .inl (G.2 0, 2, .inl f_3)), (b18, .inl (G.2 0, 4820, .inl f_4)), (b19, .inl (G.2 0, 520, .inl f_5)), (b20, .inl (G.2 0, 9640, .inl f_6)), (b21, .inl (G.2 0, 482, .inl f_7)), (b22, .inl (G.2 0, 482, .inl f_8)), (b23, .inl (G.2 0, 2, .inl f_9)), (b24, .inl (G.2 0, 482, .inl f_10)), (b25, .inl (G.2 0, 482, .inl f_11)), (b26, .inl (G.2 0, 482, .inl f_12)), (b27, .inl (G.2 0, 2, .inl f_13)), (b28, .inl (G.2 0, 2880, .inl f_14)), (b54, .inl (G.2 0, 20, .inl f_15)), (b55, .inl (G.2 0, 20, .inl f_16))]) Z (s1_Model_many l G (b0) (0) (b3) (b4) (b5) (b6) (b7) (b8) (b9) (b10) (b11) (b12) (b13) (b14) (b15) (b16) (b17) (b18) (b19) (b20) (b21) (b22) (b23) (b24) (b25) (b26) (b27) (b28) (x_2) (b30) (b31) (b32) (b33) (b34) (b35) (b36) (b37) (b38) (b39) (b40) (b41) (b42) (b43) (b44) (b45) (b46) (b47) (b48) (b49) (b50) (b51) (b52) (b53) (b54) (b55) (b56) hb7 hb9 hb10 hb12 hb16 hx_2 hb32 hb43 hb46 hb52 hb56) hl.1 q1320 q1322 qs51 q14 q1323 ⟨by decide, by decide, by show _ = some 0; decide +kernel⟩ ⟨Nat.le_of_ble_eq_true rfl, Nat.le_of_ble_eq_true rfl⟩ ⟨Nat.le_of_ble_eq_true rfl, Nat.le_of_ble_eq_true rfl⟩ rfl (Nat.le_of_ble_eq_true rfl) d_Model_oddest_13 hP hD hS hA 0 12 rfl rfl rfl [0, 1] [2, 3, 4, 5, 6, 7, 8, 9, 10, 11, 12, 13, 14, 15] rfl rfl rfl rfl (by decide) (fun v w1 H locs hw_49 hP hD hS => ?_)
    obtain ⟨x_50, rfl, rfl, hx_50, hfx_51⟩ := hw_49
    have hP : va_P G.1 classes [(b17, .inl (G.2 0, 2, .inl f_3)), (b18, .inl (G.2 0, 4820, .inl f_4)), (b19, .inl (G.2 0, 520, .inl f_5)), (b20, .inl (G.2 0, 9640, .inl f_6)), (b21, .inl (G.2 0, 482, .inl f_7)), (b22, .inl (G.2 0, 482, .inl f_8)), (b23, .inl (G.2 0, 2, .inl f_9)), (b24, .inl (G.2 0, 482, .inl f_10)), (b25, .inl (G.2 0, 482, .inl f_11)), (b26, .inl (G.2 0, 482, .inl f_12)), (b27, .inl (G.2 0, 2, .inl f_13)), (b28, .inl (G.2 0, 2880, .inl f_14)), (b54, .inl (G.2 0, 20, .inl f_15)), (b55, .inl (G.2 0, 20, .inl f_16)), (b0, .inr (12, [.int 0, .ref b3, .ref b4, .ref b5, .ref b6, .int b7, .ref b8, .int b9, .int b10, .int b11, .int b12, .ref b13, .ref b14, .ref b15, .int b16, .ref b17, .ref b18, .ref b19, .ref b20, .ref b21, .ref b22, .ref b23, .ref b24, .ref b25, .ref b26, .ref b27, .ref b28, .int x_2, .ref b30, .ref b31, .int b32, .int b33, .int b34, .int b35, .ref b36, .ref b37, .ref b38, .ref b39, .ref b40, .ref b41, .ref b42, .int b43, .ref b44, .ref b45, .int b46, .ref b47, .ref b48, .ref b49, .ref b50, .ref b51, .int b52, .ref b53, .ref b54, .ref b55])), (b3, .inl (G.2 0, 503, .inl b56))] H := hP
    have hD := z_tie hP hD rfl
    refine W.widen (k := 0) (n := 0) (Nat.le_of_ble_eq_true rfl) (Nat.le_of_ble_eq_true rfl) ?_
    refine lv_icmp_ge (tgt := 36) hx hb d_Model_oddest_16 (by decide) (fun hc_52 => ?_) (fun hc_52 => ?_)
    · have _nhc_52 := hc_52
      have ni_53 := (fa_le _ _).mp hc_52
      refine lv_iconst (v := (-1)) hx hb d_Model_oddest_36 (by decide) ?_
      exact z_iret hx hb hr hlocks (hP.sub [14, 15, 0, 1, 2, 3, 4, 5, 6, 7, 8, 9, 10, 11, 12, 13] rfl) (hD.sub [14, 15, 0, 1, 2, 3, 4, 5, 6, 7, 8, 9, 10, 11, 12, 13] (by decide) rfl) hS (Nat.le_of_ble_eq_true rfl) (Nat.le_of_ble_eq_true rfl) d_Model_oddest_37 ⟨(-1), x_2, f_3, f_4, f_5, f_6, f_7, f_8, f_9, f_10, f_11, f_12, f_13, f_14, f_15, f_16, rfl, rfl, (zI.wk (l' := (-1)) (h' := 19) zc_m1 (by decide)), hx_2, hf_3, hf_4, hf_5, hf_7, hf_8, hf_9, hf_10, hf_13, hf_14⟩
    · have _nhc_52 := hc_52
      have ni_54 := (fa_lt _ _).mp (zi_nle hc_52)
      have hv_55 : zI y_48 0 19 := zI.lt_l hy_48 hx_50 (zi_nle hc_52) (by decide)
      have hv_56 : zI x_50 1 20 := zI.lt_r hy_48 hx_50 (zi_nle hc_52) (by decide)
      refine lv_aload_n hx hb d_Model_oddest_19 rfl (lv_at hl 1 rfl) ?_
      refine lv_iload_n hx hb d_Model_oddest_20 rfl (lv_at hl 0 rfl) ?_
      refine z_callV (index := 408) (As := [.int y_48]) (rest := []) (wr := [(b17, .inl (G.2 0, 2, .inl f_3)), (b18, .inl (G.2 0, 4820, .inl f_4)), (b19, .inl (G.2 0, 520, .inl f_5)), (b20, .inl (G.2 0, 9640, .inl f_6)), (b21, .inl (G.2 0, 482, .inl f_7)), (b22, .inl (G.2 0, 482, .inl f_8)), (b23, .inl (G.2 0, 2, .inl f_9)), (b24, .inl (G.2 0, 482, .inl f_10)), (b25, .inl (G.2 0, 482, .inl f_11)), (b26, .inl (G.2 0, 482, .inl f_12)), (b27, .inl (G.2 0, 2, .inl f_13)), (b28, .inl (G.2 0, 2880, .inl f_14))]) Z (s1_Model_placeAmong l G (b0) (y_48) (0) (b3) (b4) (b5) (b6) (b7) (b8) (b9) (b10) (b11) (b12) (b13) (b14) (b15) (b16) (b17) (b18) (b19) (b20) (b21) (b22) (b23) (b24) (b25) (b26) (b27) (b28) (x_2) (b30) (b31) (b32) (b33) (b34) (b35) (b36) (b37) (b38) (b39) (b40) (b41) (b42) (b43) (b44) (b45) (b46) (b47) (b48) (b49) (b50) (b51) (b52) (b53) (b54) (b55) (b56) (f_15) (f_16) hv_55 hb7 hb9 hb10 hb12 hb16 hx_2 hb32 hb43 hb46 hb52 hb56) hl.1 q1603 q1605 qs97 q14 q1606 ⟨by decide, by decide, by show _ = some 1; decide +kernel⟩ ⟨Nat.le_of_ble_eq_true rfl, Nat.le_of_ble_eq_true rfl⟩ ⟨Nat.le_of_ble_eq_true rfl, Nat.le_of_ble_eq_true rfl⟩ rfl (Nat.le_of_ble_eq_true rfl) d_Model_oddest_21 hP hD hS hA 14 12 rfl rfl rfl [14, 15, 12, 13] [0, 1, 2, 3, 4, 5, 6, 7, 8, 9, 10, 11] rfl rfl rfl rfl (by decide) (fun v w1 H locs hw_57 hP hD hS => ?_)
      obtain ⟨x_58, rfl, rfl⟩ := hw_57
      have hP : va_P G.1 classes [(b17, .inl (G.2 0, 2, .inl f_3)), (b18, .inl (G.2 0, 4820, .inl f_4)), (b19, .inl (G.2 0, 520, .inl f_5)), (b20, .inl (G.2 0, 9640, .inl f_6)), (b21, .inl (G.2 0, 482, .inl f_7)), (b22, .inl (G.2 0, 482, .inl f_8)), (b23, .inl (G.2 0, 2, .inl f_9)), (b24, .inl (G.2 0, 482, .inl f_10)), (b25, .inl (G.2 0, 482, .inl f_11)), (b26, .inl (G.2 0, 482, .inl f_12)), (b27, .inl (G.2 0, 2, .inl f_13)), (b28, .inl (G.2 0, 2880, .inl f_14)), (b0, .inr (12, [.int 0, .ref b3, .ref b4, .ref b5, .ref b6, .int b7, .ref b8, .int b9, .int b10, .int b11, .int b12, .ref b13, .ref b14, .ref b15, .int b16, .ref b17, .ref b18, .ref b19, .ref b20, .ref b21, .ref b22, .ref b23, .ref b24, .ref b25, .ref b26, .ref b27, .ref b28, .int x_2, .ref b30, .ref b31, .int b32, .int b33, .int b34, .int b35, .ref b36, .ref b37, .ref b38, .ref b39, .ref b40, .ref b41, .ref b42, .int b43, .ref b44, .ref b45, .int b46, .ref b47, .ref b48, .ref b49, .ref b50, .ref b51, .int b52, .ref b53, .ref b54, .ref b55])), (b3, .inl (G.2 0, 503, .inl b56)), (b54, .inl (G.2 0, 20, .inl f_15)), (b55, .inl (G.2 0, 20, .inl f_16))] H := hP
      have hD := z_tie hP hD rfl
      refine W.widen (k := 0) (n := 0) (Nat.le_of_ble_eq_true rfl) (Nat.le_of_ble_eq_true rfl) ?_
      refine lv_iload_n hx hb d_Model_oddest_24 rfl (lv_at hl 2 rfl) ?_
      refine lv_icmp_ne (tgt := 30) hx hb d_Model_oddest_25 (by decide) (fun hc_59 => ?_) (fun hc_59 => ?_)
      · have _nhc_59 := hc_59
        have ni_60 : ¬ (x_58 : Int32).toInt = (b1 : Int32).toInt := fun z => hc_59 ((fa_eq _ _).mpr z)
        obtain ⟨v_61, ev_61⟩ : ∃ z : Int32, z = y_48 + 1 := ⟨_, rfl⟩
        obtain ⟨qv_61, hv_61⟩ := zI_add (l := 1) (h := 20) hv_55 zc_1 ev_61 (by decide)
        rw [li_1] at qv_61
        refine lv_iinc (v := v_61) (lv' := [(2, .int v_61), (0, .ref b0), (1, .int b1)]) hx hb d_Model_oddest_30 hl (k := 0) rfl (by rw [ev_61]; rfl) (by decide) rfl (fun ls hl => ?_)
        refine lv_goto (tgt := 11) hx hb d_Model_oddest_33 (by decide) ?_
        exact ihk_47 (v_61) _ _ _ (zI.wk (l' := 0) (h' := 20) hv_61 (by decide)) (zm_up qv_61 hmk_47 (by decide)) (hP.sub [12, 13, 0, 1, 2, 3, 4, 5, 6, 7, 8, 9, 10, 11, 14, 15] rfl) (hD.sub [12, 13, 0, 1, 2, 3, 4, 5, 6, 7, 8, 9, 10, 11, 14, 15] (by decide) rfl) hS (lv_sub hl [0, 1, 2] rfl)
      · have _nhc_59 := hc_59
        have ni_62 := (fa_eq _ _).mp hc_59
        refine lv_iload_n hx hb d_Model_oddest_28 rfl (lv_at hl 0 rfl) ?_
        exact z_iret hx hb hr hlocks (hP.sub [12, 13, 0, 1, 2, 3, 4, 5, 6, 7, 8, 9, 10, 11, 14, 15] rfl) (hD.sub [12, 13, 0, 1, 2, 3, 4, 5, 6, 7, 8, 9, 10, 11, 14, 15] (by decide) rfl) hS (Nat.le_of_ble_eq_true rfl) (Nat.le_of_ble_eq_true rfl) d_Model_oddest_29 ⟨y_48, x_2, f_3, f_4, f_5, f_6, f_7, f_8, f_9, f_10, f_11, f_12, f_13, f_14, f_15, f_16, rfl, rfl, (zI.wk (l' := (-1)) (h' := 19) hv_55 (by decide)), hx_2, hf_3, hf_4, hf_5, hf_7, hf_8, hf_9, hf_10, hf_13, hf_14⟩
