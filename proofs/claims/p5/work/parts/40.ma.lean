theorem d_Model_apart_0 : decode prog_14_method_68_code 0 = .ok (.aload_n 0, 1) := by decide +kernel
theorem d_Model_apart_1 : decode prog_14_method_68_code 1 = .ok (.iconst 0, 1) := by decide +kernel
theorem d_Model_apart_2 : decode prog_14_method_68_code 2 = .ok (.putfield 1, 3) := by decide +kernel
theorem d_Model_apart_5 : decode prog_14_method_68_code 5 = .ok (.iload_n 1, 1) := by decide +kernel
theorem d_Model_apart_6 : decode prog_14_method_68_code 6 = .ok (.i2l, 1) := by decide +kernel
theorem d_Model_apart_7 : decode prog_14_method_68_code 7 = .ok (.lconst 0, 1) := by decide +kernel
theorem d_Model_apart_8 : decode prog_14_method_68_code 8 = .ok (.ldc2_w 350, 3) := by decide +kernel
theorem d_Model_apart_11 : decode prog_14_method_68_code 11 = .ok (.invokestatic 138, 3) := by decide +kernel
theorem d_Model_apart_14 : decode prog_14_method_68_code 14 = .ok (.ifCond .eq 20, 3) := by decide +kernel
theorem d_Model_apart_17 : decode prog_14_method_68_code 17 = .ok (.iload_n 2, 1) := by decide +kernel
theorem d_Model_apart_18 : decode prog_14_method_68_code 18 = .ok (.i2l, 1) := by decide +kernel
theorem d_Model_apart_19 : decode prog_14_method_68_code 19 = .ok (.lconst 0, 1) := by decide +kernel
theorem d_Model_apart_20 : decode prog_14_method_68_code 20 = .ok (.ldc2_w 350, 3) := by decide +kernel
theorem d_Model_apart_23 : decode prog_14_method_68_code 23 = .ok (.invokestatic 138, 3) := by decide +kernel
theorem d_Model_apart_26 : decode prog_14_method_68_code 26 = .ok (.ifCond .eq 8, 3) := by decide +kernel
theorem d_Model_apart_29 : decode prog_14_method_68_code 29 = .ok (.iload_n 3, 1) := by decide +kernel
theorem d_Model_apart_30 : decode prog_14_method_68_code 30 = .ok (.iconst (-1), 1) := by decide +kernel
theorem d_Model_apart_31 : decode prog_14_method_68_code 31 = .ok (.if_icmp .ge 5, 3) := by decide +kernel
theorem d_Model_apart_34 : decode prog_14_method_68_code 34 = .ok (.iconst (-1), 1) := by decide +kernel
theorem d_Model_apart_35 : decode prog_14_method_68_code 35 = .ok (.ireturn, 1) := by decide +kernel
theorem d_Model_apart_36 : decode prog_14_method_68_code 36 = .ok (.aload_n 0, 1) := by decide +kernel
theorem d_Model_apart_37 : decode prog_14_method_68_code 37 = .ok (.iconst 0, 1) := by decide +kernel
theorem d_Model_apart_38 : decode prog_14_method_68_code 38 = .ok (.iload_n 1, 1) := by decide +kernel
theorem d_Model_apart_39 : decode prog_14_method_68_code 39 = .ok (.iconst (-1), 1) := by decide +kernel
theorem d_Model_apart_40 : decode prog_14_method_68_code 40 = .ok (.invokevirtual 251, 3) := by decide +kernel
theorem d_Model_apart_43 : decode prog_14_method_68_code 43 = .ok (.aload_n 0, 1) := by decide +kernel
theorem d_Model_apart_44 : decode prog_14_method_68_code 44 = .ok (.iconst 1, 1) := by decide +kernel
theorem d_Model_apart_45 : decode prog_14_method_68_code 45 = .ok (.iload_n 2, 1) := by decide +kernel
theorem d_Model_apart_46 : decode prog_14_method_68_code 46 = .ok (.iconst (-1), 1) := by decide +kernel
theorem d_Model_apart_47 : decode prog_14_method_68_code 47 = .ok (.invokevirtual 251, 3) := by decide +kernel
theorem d_Model_apart_50 : decode prog_14_method_68_code 50 = .ok (.aload_n 0, 1) := by decide +kernel
theorem d_Model_apart_51 : decode prog_14_method_68_code 51 = .ok (.invokevirtual 352, 3) := by decide +kernel
theorem d_Model_apart_54 : decode prog_14_method_68_code 54 = .ok (.istore 4, 2) := by decide +kernel
theorem d_Model_apart_56 : decode prog_14_method_68_code 56 = .ok (.iload 4, 2) := by decide +kernel
theorem d_Model_apart_58 : decode prog_14_method_68_code 58 = .ok (.ifCond .lt 8, 3) := by decide +kernel
theorem d_Model_apart_61 : decode prog_14_method_68_code 61 = .ok (.iload_n 3, 1) := by decide +kernel
theorem d_Model_apart_62 : decode prog_14_method_68_code 62 = .ok (.iconst (-1), 1) := by decide +kernel
theorem d_Model_apart_63 : decode prog_14_method_68_code 63 = .ok (.if_icmp .ne 21, 3) := by decide +kernel
theorem d_Model_apart_66 : decode prog_14_method_68_code 66 = .ok (.iload 4, 2) := by decide +kernel
theorem d_Model_apart_68 : decode prog_14_method_68_code 68 = .ok (.ifCond .ge 8, 3) := by decide +kernel
theorem d_Model_apart_71 : decode prog_14_method_68_code 71 = .ok (.iload 4, 2) := by decide +kernel
theorem d_Model_apart_73 : decode prog_14_method_68_code 73 = .ok (.goto 10, 3) := by decide +kernel
theorem d_Model_apart_76 : decode prog_14_method_68_code 76 = .ok (.aload_n 0, 1) := by decide +kernel
theorem d_Model_apart_77 : decode prog_14_method_68_code 77 = .ok (.getfield 119, 3) := by decide +kernel
theorem d_Model_apart_80 : decode prog_14_method_68_code 80 = .ok (.iload 4, 2) := by decide +kernel
theorem d_Model_apart_82 : decode prog_14_method_68_code 82 = .ok (.iaload, 1) := by decide +kernel
theorem d_Model_apart_84 : decode prog_14_method_68_code 84 = .ok (.iload_n 3, 1) := by decide +kernel
theorem d_Model_apart_85 : decode prog_14_method_68_code 85 = .ok (.aload_n 0, 1) := by decide +kernel
theorem d_Model_apart_86 : decode prog_14_method_68_code 86 = .ok (.getfield 119, 3) := by decide +kernel
theorem d_Model_apart_89 : decode prog_14_method_68_code 89 = .ok (.iload 4, 2) := by decide +kernel
theorem d_Model_apart_91 : decode prog_14_method_68_code 91 = .ok (.iaload, 1) := by decide +kernel
theorem d_Model_apart_92 : decode prog_14_method_68_code 92 = .ok (.if_icmp .lt 5, 3) := by decide +kernel
theorem d_Model_apart_95 : decode prog_14_method_68_code 95 = .ok (.iconst (-1), 1) := by decide +kernel
theorem d_Model_apart_97 : decode prog_14_method_68_code 97 = .ok (.aload_n 0, 1) := by decide +kernel
theorem d_Model_apart_98 : decode prog_14_method_68_code 98 = .ok (.getfield 119, 3) := by decide +kernel
theorem d_Model_apart_101 : decode prog_14_method_68_code 101 = .ok (.iload 4, 2) := by decide +kernel
theorem d_Model_apart_103 : decode prog_14_method_68_code 103 = .ok (.iaload, 1) := by decide +kernel
theorem d_Model_apart_104 : decode prog_14_method_68_code 104 = .ok (.iload_n 3, 1) := by decide +kernel
theorem d_Model_apart_105 : decode prog_14_method_68_code 105 = .ok (.iconst 1, 1) := by decide +kernel
theorem d_Model_apart_106 : decode prog_14_method_68_code 106 = .ok (.iadd, 1) := by decide +kernel
theorem d_Model_apart_107 : decode prog_14_method_68_code 107 = .ok (.if_icmp .le 15, 3) := by decide +kernel
theorem d_Model_apart_110 : decode prog_14_method_68_code 110 = .ok (.aload_n 0, 1) := by decide +kernel
theorem d_Model_apart_111 : decode prog_14_method_68_code 111 = .ok (.getfield 113, 3) := by decide +kernel
theorem d_Model_apart_114 : decode prog_14_method_68_code 114 = .ok (.iload 4, 2) := by decide +kernel
theorem d_Model_apart_116 : decode prog_14_method_68_code 116 = .ok (.iaload, 1) := by decide +kernel
theorem d_Model_apart_117 : decode prog_14_method_68_code 117 = .ok (.istore 4, 2) := by decide +kernel
theorem d_Model_apart_119 : decode prog_14_method_68_code 119 = .ok (.goto (-22), 3) := by decide +kernel
theorem d_Model_apart_122 : decode prog_14_method_68_code 122 = .ok (.bipush 97, 2) := by decide +kernel
theorem d_Model_apart_124 : decode prog_14_method_68_code 124 = .ok (.aload_n 0, 1) := by decide +kernel
theorem d_Model_apart_125 : decode prog_14_method_68_code 125 = .ok (.getfield 116, 3) := by decide +kernel
theorem d_Model_apart_128 : decode prog_14_method_68_code 128 = .ok (.iload 4, 2) := by decide +kernel
theorem d_Model_apart_130 : decode prog_14_method_68_code 130 = .ok (.iaload, 1) := by decide +kernel
theorem d_Model_apart_131 : decode prog_14_method_68_code 131 = .ok (.iadd, 1) := by decide +kernel
theorem d_Model_partsAt_0 : decode prog_14_method_67_code 0 = .ok (.aload_n 0, 1) := by decide +kernel
theorem d_Model_partsAt_1 : decode prog_14_method_67_code 1 = .ok (.iconst 0, 1) := by decide +kernel
theorem d_Model_partsAt_2 : decode prog_14_method_67_code 2 = .ok (.putfield 338, 3) := by decide +kernel
theorem d_Model_partsAt_5 : decode prog_14_method_67_code 5 = .ok (.iconst 0, 1) := by decide +kernel
theorem d_Model_partsAt_6 : decode prog_14_method_67_code 6 = .ok (.istore_n 1, 1) := by decide +kernel
theorem d_Model_partsAt_7 : decode prog_14_method_67_code 7 = .ok (.iload_n 1, 1) := by decide +kernel
theorem d_Model_partsAt_8 : decode prog_14_method_67_code 8 = .ok (.iconst 2, 1) := by decide +kernel
theorem d_Model_partsAt_9 : decode prog_14_method_67_code 9 = .ok (.if_icmp .ge 43, 3) := by decide +kernel
theorem d_Model_partsAt_12 : decode prog_14_method_67_code 12 = .ok (.aload_n 0, 1) := by decide +kernel
theorem d_Model_partsAt_13 : decode prog_14_method_67_code 13 = .ok (.iload_n 1, 1) := by decide +kernel
theorem d_Model_partsAt_14 : decode prog_14_method_67_code 14 = .ok (.invokevirtual 275, 3) := by decide +kernel
theorem d_Model_partsAt_17 : decode prog_14_method_67_code 17 = .ok (.iconst 0, 1) := by decide +kernel
theorem d_Model_partsAt_18 : decode prog_14_method_67_code 18 = .ok (.istore_n 2, 1) := by decide +kernel
theorem d_Model_partsAt_19 : decode prog_14_method_67_code 19 = .ok (.iload_n 2, 1) := by decide +kernel
theorem d_Model_partsAt_20 : decode prog_14_method_67_code 20 = .ok (.iconst 4, 1) := by decide +kernel
theorem d_Model_partsAt_21 : decode prog_14_method_67_code 21 = .ok (.if_icmp .ge 25, 3) := by decide +kernel
theorem d_Model_partsAt_24 : decode prog_14_method_67_code 24 = .ok (.aload_n 0, 1) := by decide +kernel
theorem d_Model_partsAt_25 : decode prog_14_method_67_code 25 = .ok (.getfield 122, 3) := by decide +kernel
theorem d_Model_partsAt_28 : decode prog_14_method_67_code 28 = .ok (.iconst 4, 1) := by decide +kernel
theorem d_Model_partsAt_29 : decode prog_14_method_67_code 29 = .ok (.iload_n 1, 1) := by decide +kernel
theorem d_Model_partsAt_30 : decode prog_14_method_67_code 30 = .ok (.imul, 1) := by decide +kernel
theorem d_Model_partsAt_31 : decode prog_14_method_67_code 31 = .ok (.iload_n 2, 1) := by decide +kernel
theorem d_Model_partsAt_32 : decode prog_14_method_67_code 32 = .ok (.iadd, 1) := by decide +kernel
theorem d_Model_partsAt_33 : decode prog_14_method_67_code 33 = .ok (.aload_n 0, 1) := by decide +kernel
theorem d_Model_partsAt_34 : decode prog_14_method_67_code 34 = .ok (.getfield 76, 3) := by decide +kernel
theorem d_Model_partsAt_37 : decode prog_14_method_67_code 37 = .ok (.iload_n 2, 1) := by decide +kernel
theorem d_Model_partsAt_38 : decode prog_14_method_67_code 38 = .ok (.laload, 1) := by decide +kernel
theorem d_Model_partsAt_39 : decode prog_14_method_67_code 39 = .ok (.lastore, 1) := by decide +kernel
theorem d_Model_partsAt_40 : decode prog_14_method_67_code 40 = .ok (.iinc 2 1, 3) := by decide +kernel
theorem d_Model_partsAt_43 : decode prog_14_method_67_code 43 = .ok (.goto (-24), 3) := by decide +kernel
theorem d_Model_partsAt_46 : decode prog_14_method_67_code 46 = .ok (.iinc 1 1, 3) := by decide +kernel
theorem d_Model_partsAt_49 : decode prog_14_method_67_code 49 = .ok (.goto (-42), 3) := by decide +kernel
theorem d_Model_partsAt_52 : decode prog_14_method_67_code 52 = .ok (.aload_n 0, 1) := by decide +kernel
theorem d_Model_partsAt_53 : decode prog_14_method_67_code 53 = .ok (.iconst (-1), 1) := by decide +kernel
theorem d_Model_partsAt_54 : decode prog_14_method_67_code 54 = .ok (.iconst (-1), 1) := by decide +kernel
theorem d_Model_partsAt_55 : decode prog_14_method_67_code 55 = .ok (.invokevirtual 341, 3) := by decide +kernel
theorem d_Model_partsAt_58 : decode prog_14_method_67_code 58 = .ok (.iconst 0, 1) := by decide +kernel
theorem d_Model_partsAt_59 : decode prog_14_method_67_code 59 = .ok (.istore_n 1, 1) := by decide +kernel
theorem d_Model_partsAt_60 : decode prog_14_method_67_code 60 = .ok (.iload_n 1, 1) := by decide +kernel
theorem d_Model_partsAt_61 : decode prog_14_method_67_code 61 = .ok (.aload_n 0, 1) := by decide +kernel
theorem d_Model_partsAt_62 : decode prog_14_method_67_code 62 = .ok (.getfield 338, 3) := by decide +kernel
theorem d_Model_partsAt_65 : decode prog_14_method_67_code 65 = .ok (.if_icmp .ge 99, 3) := by decide +kernel
theorem d_Model_partsAt_68 : decode prog_14_method_67_code 68 = .ok (.aload_n 0, 1) := by decide +kernel
theorem d_Model_partsAt_69 : decode prog_14_method_67_code 69 = .ok (.iconst 0, 1) := by decide +kernel
theorem d_Model_partsAt_70 : decode prog_14_method_67_code 70 = .ok (.aload_n 0, 1) := by decide +kernel
theorem d_Model_partsAt_71 : decode prog_14_method_67_code 71 = .ok (.getfield 110, 3) := by decide +kernel
theorem d_Model_partsAt_74 : decode prog_14_method_67_code 74 = .ok (.bipush 8, 2) := by decide +kernel
theorem d_Model_partsAt_76 : decode prog_14_method_67_code 76 = .ok (.iload_n 1, 1) := by decide +kernel
theorem d_Model_partsAt_77 : decode prog_14_method_67_code 77 = .ok (.imul, 1) := by decide +kernel
theorem d_Model_partsAt_78 : decode prog_14_method_67_code 78 = .ok (.invokevirtual 286, 3) := by decide +kernel
theorem d_Model_partsAt_81 : decode prog_14_method_67_code 81 = .ok (.aload_n 0, 1) := by decide +kernel
theorem d_Model_partsAt_82 : decode prog_14_method_67_code 82 = .ok (.iconst 1, 1) := by decide +kernel
theorem d_Model_partsAt_83 : decode prog_14_method_67_code 83 = .ok (.aload_n 0, 1) := by decide +kernel
theorem d_Model_partsAt_84 : decode prog_14_method_67_code 84 = .ok (.getfield 110, 3) := by decide +kernel
theorem d_Model_partsAt_87 : decode prog_14_method_67_code 87 = .ok (.bipush 8, 2) := by decide +kernel
theorem d_Model_partsAt_89 : decode prog_14_method_67_code 89 = .ok (.iload_n 1, 1) := by decide +kernel
theorem d_Model_partsAt_90 : decode prog_14_method_67_code 90 = .ok (.imul, 1) := by decide +kernel
theorem d_Model_partsAt_91 : decode prog_14_method_67_code 91 = .ok (.iconst 4, 1) := by decide +kernel
theorem d_Model_partsAt_92 : decode prog_14_method_67_code 92 = .ok (.iadd, 1) := by decide +kernel
theorem d_Model_partsAt_93 : decode prog_14_method_67_code 93 = .ok (.invokevirtual 286, 3) := by decide +kernel
theorem d_Model_partsAt_96 : decode prog_14_method_67_code 96 = .ok (.if_icmp .eq 5, 3) := by decide +kernel
theorem d_Model_partsAt_99 : decode prog_14_method_67_code 99 = .ok (.iload_n 1, 1) := by decide +kernel
theorem d_Model_partsAt_101 : decode prog_14_method_67_code 101 = .ok (.iconst 0, 1) := by decide +kernel
theorem d_Model_partsAt_102 : decode prog_14_method_67_code 102 = .ok (.istore_n 2, 1) := by decide +kernel
theorem d_Model_partsAt_103 : decode prog_14_method_67_code 103 = .ok (.iload_n 2, 1) := by decide +kernel
theorem d_Model_partsAt_104 : decode prog_14_method_67_code 104 = .ok (.bipush 10, 2) := by decide +kernel
theorem d_Model_partsAt_106 : decode prog_14_method_67_code 106 = .ok (.if_icmp .ge 52, 3) := by decide +kernel
theorem d_Model_partsAt_109 : decode prog_14_method_67_code 109 = .ok (.aload_n 0, 1) := by decide +kernel
theorem d_Model_partsAt_110 : decode prog_14_method_67_code 110 = .ok (.getfield 119, 3) := by decide +kernel
theorem d_Model_partsAt_113 : decode prog_14_method_67_code 113 = .ok (.iload_n 1, 1) := by decide +kernel
theorem d_Model_partsAt_114 : decode prog_14_method_67_code 114 = .ok (.iaload, 1) := by decide +kernel
theorem d_Model_partsAt_115 : decode prog_14_method_67_code 115 = .ok (.bipush 8, 2) := by decide +kernel
theorem d_Model_partsAt_117 : decode prog_14_method_67_code 117 = .ok (.if_icmp .ge 41, 3) := by decide +kernel
theorem d_Model_partsAt_120 : decode prog_14_method_67_code 120 = .ok (.aload_n 0, 1) := by decide +kernel
theorem d_Model_partsAt_121 : decode prog_14_method_67_code 121 = .ok (.iload_n 1, 1) := by decide +kernel
theorem d_Model_partsAt_122 : decode prog_14_method_67_code 122 = .ok (.iload_n 2, 1) := by decide +kernel
theorem d_Model_partsAt_123 : decode prog_14_method_67_code 123 = .ok (.invokevirtual 344, 3) := by decide +kernel
theorem d_Model_partsAt_126 : decode prog_14_method_67_code 126 = .ok (.aload_n 0, 1) := by decide +kernel
theorem d_Model_partsAt_127 : decode prog_14_method_67_code 127 = .ok (.invokevirtual 347, 3) := by decide +kernel
theorem d_Model_partsAt_130 : decode prog_14_method_67_code 130 = .ok (.ifCond .ne 22, 3) := by decide +kernel
theorem d_Model_partsAt_133 : decode prog_14_method_67_code 133 = .ok (.aload_n 0, 1) := by decide +kernel
theorem d_Model_partsAt_134 : decode prog_14_method_67_code 134 = .ok (.getfield 338, 3) := by decide +kernel
theorem d_Model_partsAt_137 : decode prog_14_method_67_code 137 = .ok (.sipush 400, 3) := by decide +kernel
theorem d_Model_partsAt_140 : decode prog_14_method_67_code 140 = .ok (.if_icmp .ne 6, 3) := by decide +kernel
theorem d_Model_partsAt_143 : decode prog_14_method_67_code 143 = .ok (.bipush (-2), 2) := by decide +kernel
theorem d_Model_partsAt_146 : decode prog_14_method_67_code 146 = .ok (.aload_n 0, 1) := by decide +kernel
theorem d_Model_partsAt_147 : decode prog_14_method_67_code 147 = .ok (.iload_n 1, 1) := by decide +kernel
theorem d_Model_partsAt_148 : decode prog_14_method_67_code 148 = .ok (.iload_n 2, 1) := by decide +kernel
theorem d_Model_partsAt_149 : decode prog_14_method_67_code 149 = .ok (.invokevirtual 341, 3) := by decide +kernel
theorem d_Model_partsAt_152 : decode prog_14_method_67_code 152 = .ok (.iinc 2 1, 3) := by decide +kernel
theorem d_Model_partsAt_155 : decode prog_14_method_67_code 155 = .ok (.goto (-52), 3) := by decide +kernel
theorem d_Model_partsAt_158 : decode prog_14_method_67_code 158 = .ok (.iinc 1 1, 3) := by decide +kernel
theorem d_Model_partsAt_161 : decode prog_14_method_67_code 161 = .ok (.goto (-101), 3) := by decide +kernel
theorem d_Model_partsAt_164 : decode prog_14_method_67_code 164 = .ok (.iconst (-1), 1) := by decide +kernel
theorem d_Model_addTwo_0 : decode prog_14_method_65_code 0 = .ok (.iconst 0, 1) := by decide +kernel
theorem d_Model_addTwo_1 : decode prog_14_method_65_code 1 = .ok (.istore_n 3, 1) := by decide +kernel
theorem d_Model_addTwo_2 : decode prog_14_method_65_code 2 = .ok (.iload_n 3, 1) := by decide +kernel
theorem d_Model_addTwo_3 : decode prog_14_method_65_code 3 = .ok (.bipush 8, 2) := by decide +kernel
theorem d_Model_addTwo_5 : decode prog_14_method_65_code 5 = .ok (.if_icmp .ge 29, 3) := by decide +kernel
theorem d_Model_addTwo_8 : decode prog_14_method_65_code 8 = .ok (.aload_n 0, 1) := by decide +kernel
theorem d_Model_addTwo_9 : decode prog_14_method_65_code 9 = .ok (.getfield 110, 3) := by decide +kernel
theorem d_Model_addTwo_12 : decode prog_14_method_65_code 12 = .ok (.bipush 8, 2) := by decide +kernel
theorem d_Model_addTwo_14 : decode prog_14_method_65_code 14 = .ok (.aload_n 0, 1) := by decide +kernel
theorem d_Model_addTwo_15 : decode prog_14_method_65_code 15 = .ok (.getfield 338, 3) := by decide +kernel
theorem d_Model_addTwo_18 : decode prog_14_method_65_code 18 = .ok (.imul, 1) := by decide +kernel
theorem d_Model_addTwo_19 : decode prog_14_method_65_code 19 = .ok (.iload_n 3, 1) := by decide +kernel
theorem d_Model_addTwo_20 : decode prog_14_method_65_code 20 = .ok (.iadd, 1) := by decide +kernel
theorem d_Model_addTwo_21 : decode prog_14_method_65_code 21 = .ok (.aload_n 0, 1) := by decide +kernel
theorem d_Model_addTwo_22 : decode prog_14_method_65_code 22 = .ok (.getfield 122, 3) := by decide +kernel
theorem d_Model_addTwo_25 : decode prog_14_method_65_code 25 = .ok (.iload_n 3, 1) := by decide +kernel
theorem d_Model_addTwo_26 : decode prog_14_method_65_code 26 = .ok (.laload, 1) := by decide +kernel
theorem d_Model_addTwo_27 : decode prog_14_method_65_code 27 = .ok (.lastore, 1) := by decide +kernel
theorem d_Model_addTwo_28 : decode prog_14_method_65_code 28 = .ok (.iinc 3 1, 3) := by decide +kernel
theorem d_Model_addTwo_31 : decode prog_14_method_65_code 31 = .ok (.goto (-29), 3) := by decide +kernel
theorem d_Model_addTwo_34 : decode prog_14_method_65_code 34 = .ok (.aload_n 0, 1) := by decide +kernel
theorem d_Model_addTwo_35 : decode prog_14_method_65_code 35 = .ok (.getfield 113, 3) := by decide +kernel
theorem d_Model_addTwo_38 : decode prog_14_method_65_code 38 = .ok (.aload_n 0, 1) := by decide +kernel
theorem d_Model_addTwo_39 : decode prog_14_method_65_code 39 = .ok (.getfield 338, 3) := by decide +kernel
theorem d_Model_addTwo_42 : decode prog_14_method_65_code 42 = .ok (.iload_n 1, 1) := by decide +kernel
theorem d_Model_addTwo_43 : decode prog_14_method_65_code 43 = .ok (.iastore, 1) := by decide +kernel
theorem d_Model_addTwo_44 : decode prog_14_method_65_code 44 = .ok (.aload_n 0, 1) := by decide +kernel
theorem d_Model_addTwo_45 : decode prog_14_method_65_code 45 = .ok (.getfield 116, 3) := by decide +kernel
theorem d_Model_addTwo_48 : decode prog_14_method_65_code 48 = .ok (.aload_n 0, 1) := by decide +kernel
theorem d_Model_addTwo_49 : decode prog_14_method_65_code 49 = .ok (.getfield 338, 3) := by decide +kernel
theorem d_Model_addTwo_52 : decode prog_14_method_65_code 52 = .ok (.iload_n 2, 1) := by decide +kernel
theorem d_Model_addTwo_53 : decode prog_14_method_65_code 53 = .ok (.iastore, 1) := by decide +kernel
theorem d_Model_addTwo_54 : decode prog_14_method_65_code 54 = .ok (.aload_n 0, 1) := by decide +kernel
theorem d_Model_addTwo_55 : decode prog_14_method_65_code 55 = .ok (.getfield 119, 3) := by decide +kernel
theorem d_Model_addTwo_58 : decode prog_14_method_65_code 58 = .ok (.aload_n 0, 1) := by decide +kernel
theorem d_Model_addTwo_59 : decode prog_14_method_65_code 59 = .ok (.getfield 338, 3) := by decide +kernel
theorem d_Model_addTwo_62 : decode prog_14_method_65_code 62 = .ok (.iload_n 1, 1) := by decide +kernel
theorem d_Model_addTwo_63 : decode prog_14_method_65_code 63 = .ok (.iconst (-1), 1) := by decide +kernel
theorem d_Model_addTwo_64 : decode prog_14_method_65_code 64 = .ok (.if_icmp .ne 7, 3) := by decide +kernel
theorem d_Model_addTwo_67 : decode prog_14_method_65_code 67 = .ok (.iconst 0, 1) := by decide +kernel
theorem d_Model_addTwo_68 : decode prog_14_method_65_code 68 = .ok (.goto 11, 3) := by decide +kernel
theorem d_Model_addTwo_71 : decode prog_14_method_65_code 71 = .ok (.aload_n 0, 1) := by decide +kernel
theorem d_Model_addTwo_72 : decode prog_14_method_65_code 72 = .ok (.getfield 119, 3) := by decide +kernel
theorem d_Model_addTwo_75 : decode prog_14_method_65_code 75 = .ok (.iload_n 1, 1) := by decide +kernel
theorem d_Model_addTwo_76 : decode prog_14_method_65_code 76 = .ok (.iaload, 1) := by decide +kernel
theorem d_Model_addTwo_77 : decode prog_14_method_65_code 77 = .ok (.iconst 1, 1) := by decide +kernel
theorem d_Model_addTwo_78 : decode prog_14_method_65_code 78 = .ok (.iadd, 1) := by decide +kernel
theorem d_Model_addTwo_79 : decode prog_14_method_65_code 79 = .ok (.iastore, 1) := by decide +kernel
theorem d_Model_addTwo_80 : decode prog_14_method_65_code 80 = .ok (.aload_n 0, 1) := by decide +kernel
theorem d_Model_addTwo_81 : decode prog_14_method_65_code 81 = .ok (.dup, 1) := by decide +kernel
theorem d_Model_addTwo_82 : decode prog_14_method_65_code 82 = .ok (.getfield 338, 3) := by decide +kernel
theorem d_Model_addTwo_85 : decode prog_14_method_65_code 85 = .ok (.iconst 1, 1) := by decide +kernel
theorem d_Model_addTwo_86 : decode prog_14_method_65_code 86 = .ok (.iadd, 1) := by decide +kernel
theorem d_Model_addTwo_87 : decode prog_14_method_65_code 87 = .ok (.putfield 338, 3) := by decide +kernel
theorem d_Model_stepTwo_0 : decode prog_14_method_66_code 0 = .ok (.iconst 0, 1) := by decide +kernel
theorem d_Model_stepTwo_1 : decode prog_14_method_66_code 1 = .ok (.istore_n 3, 1) := by decide +kernel
theorem d_Model_stepTwo_2 : decode prog_14_method_66_code 2 = .ok (.iload_n 3, 1) := by decide +kernel
theorem d_Model_stepTwo_3 : decode prog_14_method_66_code 3 = .ok (.iconst 2, 1) := by decide +kernel
theorem d_Model_stepTwo_4 : decode prog_14_method_66_code 4 = .ok (.if_icmp .ge 62, 3) := by decide +kernel
theorem d_Model_stepTwo_7 : decode prog_14_method_66_code 7 = .ok (.aload_n 0, 1) := by decide +kernel
theorem d_Model_stepTwo_8 : decode prog_14_method_66_code 8 = .ok (.iload_n 3, 1) := by decide +kernel
theorem d_Model_stepTwo_9 : decode prog_14_method_66_code 9 = .ok (.aload_n 0, 1) := by decide +kernel
theorem d_Model_stepTwo_10 : decode prog_14_method_66_code 10 = .ok (.getfield 110, 3) := by decide +kernel
theorem d_Model_stepTwo_13 : decode prog_14_method_66_code 13 = .ok (.bipush 8, 2) := by decide +kernel
theorem d_Model_stepTwo_15 : decode prog_14_method_66_code 15 = .ok (.iload_n 1, 1) := by decide +kernel
theorem d_Model_stepTwo_16 : decode prog_14_method_66_code 16 = .ok (.imul, 1) := by decide +kernel
theorem d_Model_stepTwo_17 : decode prog_14_method_66_code 17 = .ok (.iconst 4, 1) := by decide +kernel
theorem d_Model_stepTwo_18 : decode prog_14_method_66_code 18 = .ok (.iload_n 3, 1) := by decide +kernel
theorem d_Model_stepTwo_19 : decode prog_14_method_66_code 19 = .ok (.imul, 1) := by decide +kernel
theorem d_Model_stepTwo_20 : decode prog_14_method_66_code 20 = .ok (.iadd, 1) := by decide +kernel
theorem d_Model_stepTwo_21 : decode prog_14_method_66_code 21 = .ok (.iload_n 2, 1) := by decide +kernel
theorem d_Model_stepTwo_22 : decode prog_14_method_66_code 22 = .ok (.iconst 0, 1) := by decide +kernel
theorem d_Model_stepTwo_23 : decode prog_14_method_66_code 23 = .ok (.iconst 0, 1) := by decide +kernel
theorem d_Model_stepTwo_24 : decode prog_14_method_66_code 24 = .ok (.invokevirtual 282, 3) := by decide +kernel
theorem d_Model_stepTwo_27 : decode prog_14_method_66_code 27 = .ok (.iconst 0, 1) := by decide +kernel
theorem d_Model_stepTwo_28 : decode prog_14_method_66_code 28 = .ok (.istore 4, 2) := by decide +kernel
theorem d_Model_stepTwo_30 : decode prog_14_method_66_code 30 = .ok (.iload 4, 2) := by decide +kernel
theorem d_Model_stepTwo_32 : decode prog_14_method_66_code 32 = .ok (.iconst 4, 1) := by decide +kernel
theorem d_Model_stepTwo_33 : decode prog_14_method_66_code 33 = .ok (.if_icmp .ge 27, 3) := by decide +kernel
theorem d_Model_stepTwo_36 : decode prog_14_method_66_code 36 = .ok (.aload_n 0, 1) := by decide +kernel
theorem d_Model_stepTwo_37 : decode prog_14_method_66_code 37 = .ok (.getfield 122, 3) := by decide +kernel
theorem d_Model_stepTwo_40 : decode prog_14_method_66_code 40 = .ok (.iconst 4, 1) := by decide +kernel
theorem d_Model_stepTwo_41 : decode prog_14_method_66_code 41 = .ok (.iload_n 3, 1) := by decide +kernel
theorem d_Model_stepTwo_42 : decode prog_14_method_66_code 42 = .ok (.imul, 1) := by decide +kernel
theorem d_Model_stepTwo_43 : decode prog_14_method_66_code 43 = .ok (.iload 4, 2) := by decide +kernel
theorem d_Model_stepTwo_45 : decode prog_14_method_66_code 45 = .ok (.iadd, 1) := by decide +kernel
theorem d_Model_stepTwo_46 : decode prog_14_method_66_code 46 = .ok (.aload_n 0, 1) := by decide +kernel
theorem d_Model_stepTwo_47 : decode prog_14_method_66_code 47 = .ok (.getfield 80, 3) := by decide +kernel
theorem d_Model_stepTwo_50 : decode prog_14_method_66_code 50 = .ok (.iload 4, 2) := by decide +kernel
theorem d_Model_stepTwo_52 : decode prog_14_method_66_code 52 = .ok (.laload, 1) := by decide +kernel
theorem d_Model_stepTwo_53 : decode prog_14_method_66_code 53 = .ok (.lastore, 1) := by decide +kernel
theorem d_Model_stepTwo_54 : decode prog_14_method_66_code 54 = .ok (.iinc 4 1, 3) := by decide +kernel
theorem d_Model_stepTwo_57 : decode prog_14_method_66_code 57 = .ok (.goto (-27), 3) := by decide +kernel
theorem d_Model_stepTwo_60 : decode prog_14_method_66_code 60 = .ok (.iinc 3 1, 3) := by decide +kernel
theorem d_Model_stepTwo_63 : decode prog_14_method_66_code 63 = .ok (.goto (-61), 3) := by decide +kernel
theorem d_Model_isKnown_0 : decode prog_14_method_64_code 0 = .ok (.iconst 0, 1) := by decide +kernel
theorem d_Model_isKnown_1 : decode prog_14_method_64_code 1 = .ok (.istore_n 1, 1) := by decide +kernel
theorem d_Model_isKnown_2 : decode prog_14_method_64_code 2 = .ok (.iconst 0, 1) := by decide +kernel
theorem d_Model_isKnown_3 : decode prog_14_method_64_code 3 = .ok (.istore_n 2, 1) := by decide +kernel
theorem d_Model_isKnown_4 : decode prog_14_method_64_code 4 = .ok (.iload_n 2, 1) := by decide +kernel
theorem d_Model_isKnown_5 : decode prog_14_method_64_code 5 = .ok (.aload_n 0, 1) := by decide +kernel
theorem d_Model_isKnown_6 : decode prog_14_method_64_code 6 = .ok (.getfield 338, 3) := by decide +kernel
theorem d_Model_isKnown_9 : decode prog_14_method_64_code 9 = .ok (.if_icmp .ge 59, 3) := by decide +kernel
theorem d_Model_isKnown_12 : decode prog_14_method_64_code 12 = .ok (.iload_n 1, 1) := by decide +kernel
theorem d_Model_isKnown_13 : decode prog_14_method_64_code 13 = .ok (.ifCond .ne 55, 3) := by decide +kernel
theorem d_Model_isKnown_16 : decode prog_14_method_64_code 16 = .ok (.aload_n 0, 1) := by decide +kernel
theorem d_Model_isKnown_17 : decode prog_14_method_64_code 17 = .ok (.getfield 110, 3) := by decide +kernel
theorem d_Model_isKnown_20 : decode prog_14_method_64_code 20 = .ok (.bipush 8, 2) := by decide +kernel
theorem d_Model_isKnown_22 : decode prog_14_method_64_code 22 = .ok (.iload_n 2, 1) := by decide +kernel
theorem d_Model_isKnown_23 : decode prog_14_method_64_code 23 = .ok (.imul, 1) := by decide +kernel
theorem d_Model_isKnown_24 : decode prog_14_method_64_code 24 = .ok (.aload_n 0, 1) := by decide +kernel
theorem d_Model_isKnown_25 : decode prog_14_method_64_code 25 = .ok (.getfield 122, 3) := by decide +kernel
theorem d_Model_isKnown_28 : decode prog_14_method_64_code 28 = .ok (.iconst 0, 1) := by decide +kernel
theorem d_Model_isKnown_29 : decode prog_14_method_64_code 29 = .ok (.invokestatic 323, 3) := by decide +kernel
theorem d_Model_isKnown_32 : decode prog_14_method_64_code 32 = .ok (.ifCond .eq 28, 3) := by decide +kernel
theorem d_Model_isKnown_35 : decode prog_14_method_64_code 35 = .ok (.aload_n 0, 1) := by decide +kernel
theorem d_Model_isKnown_36 : decode prog_14_method_64_code 36 = .ok (.getfield 110, 3) := by decide +kernel
theorem d_Model_isKnown_39 : decode prog_14_method_64_code 39 = .ok (.bipush 8, 2) := by decide +kernel
theorem d_Model_isKnown_41 : decode prog_14_method_64_code 41 = .ok (.iload_n 2, 1) := by decide +kernel
theorem d_Model_isKnown_42 : decode prog_14_method_64_code 42 = .ok (.imul, 1) := by decide +kernel
theorem d_Model_isKnown_43 : decode prog_14_method_64_code 43 = .ok (.iconst 4, 1) := by decide +kernel
theorem d_Model_isKnown_44 : decode prog_14_method_64_code 44 = .ok (.iadd, 1) := by decide +kernel
theorem d_Model_isKnown_45 : decode prog_14_method_64_code 45 = .ok (.aload_n 0, 1) := by decide +kernel
theorem d_Model_isKnown_46 : decode prog_14_method_64_code 46 = .ok (.getfield 122, 3) := by decide +kernel
theorem d_Model_isKnown_49 : decode prog_14_method_64_code 49 = .ok (.iconst 4, 1) := by decide +kernel
theorem d_Model_isKnown_50 : decode prog_14_method_64_code 50 = .ok (.invokestatic 323, 3) := by decide +kernel
theorem d_Model_isKnown_53 : decode prog_14_method_64_code 53 = .ok (.ifCond .eq 7, 3) := by decide +kernel
theorem d_Model_isKnown_56 : decode prog_14_method_64_code 56 = .ok (.iconst 1, 1) := by decide +kernel
theorem d_Model_isKnown_57 : decode prog_14_method_64_code 57 = .ok (.goto 4, 3) := by decide +kernel
theorem d_Model_isKnown_60 : decode prog_14_method_64_code 60 = .ok (.iconst 0, 1) := by decide +kernel
theorem d_Model_isKnown_61 : decode prog_14_method_64_code 61 = .ok (.istore_n 1, 1) := by decide +kernel
theorem d_Model_isKnown_62 : decode prog_14_method_64_code 62 = .ok (.iinc 2 1, 3) := by decide +kernel
theorem d_Model_isKnown_65 : decode prog_14_method_64_code 65 = .ok (.goto (-61), 3) := by decide +kernel
theorem d_Model_isKnown_68 : decode prog_14_method_64_code 68 = .ok (.iload_n 1, 1) := by decide +kernel
abbrev m_s4_Model_start : Room := { frames := 0, cells := 0, slots := 0, locals := 0 }
set_option maxHeartbeats 4000000 in
set_option maxRecDepth 100000 in
theorem s4_Model_start (l : Launch) (G : zG) (b0 : Nat) (b1 : Int32) (b2 : Nat) (b3 : Nat) (b4 : Nat) (b5 : Nat) (b6 : Int32) (b7 : Nat) (b8 : Int32) (b9 : Int32) (b10 : Int32) (b11 : Int32) (b12 : Nat) (b13 : Nat) (b14 : Nat) (b15 : Int32) (b16 : Nat) (b17 : Nat) (b18 : Nat) (b19 : Nat) (b20 : Nat) (b21 : Nat) (b22 : Nat) (b23 : Nat) (b24 : Nat) (b25 : Nat) (b26 : Nat) (b27 : Nat) (b28 : Int32) (b29 : Nat) (b30 : Nat) (b31 : Int32) (b32 : Int32) (b33 : Int32) (b34 : Int32) (b35 : Nat) (b36 : Nat) (b37 : Nat) (b38 : Nat) (b39 : Nat) (b40 : Nat) (b41 : Nat) (b42 : Int32) (b43 : Nat) (b44 : Nat) (b45 : Int32) (b46 : Nat) (b47 : Nat) (b48 : Nat) (b49 : Nat) (b50 : Nat) (b51 : Int32) (b52 : Nat) (b53 : Nat) (b54 : Nat) (b55 : Nat → Int32) (b56 : Nat → Int64) (hb6 : zI b6 0 8) (hb8 : zI b8 0 240) (hb9 : zI b9 0 240) (hb11 : zI b11 0 1) (hb15 : zI b15 0 12) (hb28 : zI b28 0 1) (hb31 : zI b31 0 1) (hb42 : zI b42 0 1000) (hb45 : zI b45 0 1000) (hb51 : zI b51 0 400) (hb55 : zR b55 0 241) : zM l G y_Model_start prog_14_method_46_code 3 (Option.none : Option Jvm.ClassFile.FieldType) m_s4_Model_start [.ref b0, .int 1] [(b0, .inr (12, [.int b1, .ref b2, .ref b3, .ref b4, .ref b5, .int b6, .ref b7, .int b8, .int b9, .int b10, .int b11, .ref b12, .ref b13, .ref b14, .int b15, .ref b16, .ref b17, .ref b18, .ref b19, .ref b20, .ref b21, .ref b22, .ref b23, .ref b24, .ref b25, .ref b26, .ref b27, .int b28, .ref b29, .ref b30, .int b31, .int b32, .int b33, .int b34, .ref b35, .ref b36, .ref b37, .ref b38, .ref b39, .ref b40, .ref b41, .int b42, .ref b43, .ref b44, .int b45, .ref b46, .ref b47, .ref b48, .ref b49, .ref b50, .int b51, .ref b52, .ref b53, .ref b54])), (b22, .inl (G.2 0, 2, .inl b55)), (b29, .inl (G.2 1, 4, .inr (.inl b56)))] (fun v w => ∃ (e0 : Nat → Int64), v = none ∧ w = [(b0, .inr (12, [.int b1, .ref b2, .ref b3, .ref b4, .ref b5, .int b6, .ref b7, .int b8, .int b9, .int b10, .int b11, .ref b12, .ref b13, .ref b14, .int b15, .ref b16, .ref b17, .ref b18, .ref b19, .ref b20, .ref b21, .ref b22, .ref b23, .ref b24, .ref b25, .ref b26, .ref b27, .int b28, .ref b29, .ref b30, .int b31, .int b32, .int b33, .int b34, .ref b35, .ref b36, .ref b37, .ref b38, .ref b39, .ref b40, .ref b41, .int b42, .ref b43, .ref b44, .int b45, .ref b46, .ref b47, .ref b48, .ref b49, .ref b50, .int b51, .ref b52, .ref b53, .ref b54])), (b22, .inl (G.2 0, 2, .inl b55)), (b29, .inl (G.2 1, 4, .inr (.inl e0)))]) := by
  refine z_start (by decide +kernel) (Nat.le_of_ble_eq_true rfl) ?_
  intro p e s m below meth c A Z hr hnm hA hP hD hS ls hl
  have Z : zC p s m _ meth c prog_14_method_46_code 3 "TraceMachinesModel" G := Z
  obtain ⟨hx, hb, hml, hown, hts, hK, hN, hlocks⟩ := id Z
  have hl : lv_has ls 3 [(0, .ref b0), (1, .int 1)] := hl
  refine lv_iconst (v := 0) hx hb d_Model_start_0 (by decide) ?_
  refine lv_istore_n (lv' := [(2, .int 0), (0, .ref b0), (1, .int 1)]) hx hb d_Model_start_1 rfl hl (by decide) rfl (fun ls hl => ?_)
  suffices key : ∀ (k_18 : Nat) (y_19 : Int32) (y_20 : Nat → Int64) (H : Heap) (locs : List Loc) (ls : Array Slot), (zI y_19 0 4) → (4 : Int) - y_19.toInt < (k_18 : Int) → va_P G.1 classes [(b0, .inr (12, [.int b1, .ref b2, .ref b3, .ref b4, .ref b5, .int b6, .ref b7, .int b8, .int b9, .int b10, .int b11, .ref b12, .ref b13, .ref b14, .int b15, .ref b16, .ref b17, .ref b18, .ref b19, .ref b20, .ref b21, .ref b22, .ref b23, .ref b24, .ref b25, .ref b26, .ref b27, .int b28, .ref b29, .ref b30, .int b31, .int b32, .int b33, .int b34, .ref b35, .ref b36, .ref b37, .ref b38, .ref b39, .ref b40, .ref b41, .int b42, .ref b43, .ref b44, .int b45, .ref b46, .ref b47, .ref b48, .ref b49, .ref b50, .int b51, .ref b52, .ref b53, .ref b54])), (b22, .inl (G.2 0, 2, .inl b55)), (b29, .inl (G.2 1, 4, .inr (.inl y_20)))] H → va_D A [(b0, .inr (12, [.int b1, .ref b2, .ref b3, .ref b4, .ref b5, .int b6, .ref b7, .int b8, .int b9, .int b10, .int b11, .ref b12, .ref b13, .ref b14, .int b15, .ref b16, .ref b17, .ref b18, .ref b19, .ref b20, .ref b21, .ref b22, .ref b23, .ref b24, .ref b25, .ref b26, .ref b27, .int b28, .ref b29, .ref b30, .int b31, .int b32, .int b33, .int b34, .ref b35, .ref b36, .ref b37, .ref b38, .ref b39, .ref b40, .ref b41, .int b42, .ref b43, .ref b44, .int b45, .ref b46, .ref b47, .ref b48, .ref b49, .ref b50, .int b51, .ref b52, .ref b53, .ref b54])), (b22, .inl (G.2 0, 2, .inl b55)), (b29, .inl (G.2 1, 4, .inr (.inl y_20)))] → va_S A s.heap H locs → lv_has ls 3 [(2, .int y_19), (0, .ref b0), (1, .int 1)] → W p l e m_s4_Model_start s m ([.ref b0, .int 1] : List Value).toArray below meth c H locs 0 0 (MQ below (zQ G (fun v w => ∃ (e0 : Nat → Int64), v = none ∧ w = [(b0, .inr (12, [.int b1, .ref b2, .ref b3, .ref b4, .ref b5, .int b6, .ref b7, .int b8, .int b9, .int b10, .int b11, .ref b12, .ref b13, .ref b14, .int b15, .ref b16, .ref b17, .ref b18, .ref b19, .ref b20, .ref b21, .ref b22, .ref b23, .ref b24, .ref b25, .ref b26, .ref b27, .int b28, .ref b29, .ref b30, .int b31, .int b32, .int b33, .int b34, .ref b35, .ref b36, .ref b37, .ref b38, .ref b39, .ref b40, .ref b41, .int b42, .ref b43, .ref b44, .int b45, .ref b46, .ref b47, .ref b48, .ref b49, .ref b50, .int b51, .ref b52, .ref b53, .ref b54])), (b22, .inl (G.2 0, 2, .inl b55)), (b29, .inl (G.2 1, 4, .inr (.inl e0)))]) A) ([.ref b0, .int 1] : List Value).toArray s m_s4_Model_start.cells m_s4_Model_start.slots A) (F0 m 2 ls []) by
    exact key 5 (0) (b56) _ _ _ (zI.wk (l' := 0) (h' := 4) zc_0 (by decide)) (zm_upi (zI.wk (l' := 0) (h' := 4) zc_0 (by decide)) (by decide)) hP hD hS (lv_sub hl [0, 1, 2] rfl)
  intro k_18
  induction k_18 with
  | zero =>
    intro y_19 y_20 H locs ls hy_19 hmk_18 hP hD hS hl
    exact (zm_up0 hy_19 hmk_18).elim
  | succ k_18 ihk_18 =>
    intro y_19 y_20 H locs ls hy_19 hmk_18 hP hD hS hl
    refine lv_iload_n hx hb d_Model_start_2 rfl (lv_at hl 0 rfl) ?_
    refine lv_iconst (v := 4) hx hb d_Model_start_3 (by decide) ?_
    refine lv_icmp_ge (tgt := 20) hx hb d_Model_start_4 (by decide) (fun hc_21 => ?_) (fun hc_21 => ?_)
    · have _nhc_21 := hc_21
      have ni_22 := (fa_le _ _).mp hc_21
      rw [li_4] at ni_22
      have hv_23 : zI y_19 4 4 := zI.le_r zc_4 hy_19 hc_21 (by decide)
      refine lv_aload_n hx hb d_Model_start_20 rfl (lv_at hl 1 rfl) ?_
      refine va_get (D := G.1) (ci := 12) (v := .ref b29) (C := R_Model) (T := F_Model) (N := 54) hx hb hts i_Model hown hK hP 0 rfl rfl 28 (by decide) (hts _ q1137) (fun _ h9 => h9) rfl d_Model_start_21 ?_
      refine lv_iconst (v := 0) hx hb d_Model_start_24 (by decide) ?_
      refine lv_aload_n hx hb d_Model_start_25 rfl (lv_at hl 1 rfl) ?_
      refine va_get (D := G.1) (ci := 12) (v := .ref b22) (C := R_Model) (T := F_Model) (N := 54) hx hb hts i_Model hown hK hP 0 rfl rfl 21 (by decide) (hts _ q1130) (fun _ h9 => h9) rfl d_Model_start_26 ?_
      refine lv_iload_n hx hb d_Model_start_29 rfl (lv_at hl 2 rfl) ?_
      refine va_iald hx hb hK hP 1 0 rfl rfl (i := 1) (z_in rfl) d_Model_start_30 ?_
      refine lv_topi (fun v_24 ev_24 => ?_)
      have hv_24 : zI v_24 0 241 := (hb55 _).eq ev_24
      refine lv_if_le (tgt := 38) hx hb d_Model_start_31 (by decide) (fun hc_25 => ?_) (fun hc_25 => ?_)
      · have _nhc_25 := hc_25
        have ni_26 := (fa_le _ _).mp hc_25
        rw [li_0] at ni_26
        have hv_27 : zI v_24 0 0 := zI.le_l hv_24 zc_0 hc_25 (by decide)
        refine lv_lconst (v := 0) hx hb d_Model_start_38 (by decide) ?_
        refine va_last hx hb hK hP hD hS 2 1 rfl rfl (i := 0) (z_in rfl) d_Model_start_39 (fun H locs hP hD hS => ?_)
        obtain ⟨f_28, hP, hD⟩ := z_newL 2 hP hD rfl
        have hP : va_P G.1 classes [(b0, .inr (12, [.int b1, .ref b2, .ref b3, .ref b4, .ref b5, .int b6, .ref b7, .int b8, .int b9, .int b10, .int b11, .ref b12, .ref b13, .ref b14, .int b15, .ref b16, .ref b17, .ref b18, .ref b19, .ref b20, .ref b21, .ref b22, .ref b23, .ref b24, .ref b25, .ref b26, .ref b27, .int b28, .ref b29, .ref b30, .int b31, .int b32, .int b33, .int b34, .ref b35, .ref b36, .ref b37, .ref b38, .ref b39, .ref b40, .ref b41, .int b42, .ref b43, .ref b44, .int b45, .ref b46, .ref b47, .ref b48, .ref b49, .ref b50, .int b51, .ref b52, .ref b53, .ref b54])), (b22, .inl (G.2 0, 2, .inl b55)), (b29, .inl (G.2 1, 4, .inr (.inl f_28)))] H := hP
        have hD := z_tie hP hD rfl
        exact z_vret hx hb hr hlocks hP hD hS (Nat.le_of_ble_eq_true rfl) (Nat.le_of_ble_eq_true rfl) d_Model_start_40 ⟨f_28, rfl, rfl⟩
      · have _nhc_25 := hc_25
        have ni_29 := (fa_lt _ _).mp (zi_nle hc_25)
        rw [li_0] at ni_29
        have hv_30 : zI v_24 1 241 := zI.lt_r zc_0 hv_24 (zi_nle hc_25) (by decide)
        refine lv_lconst (v := 1) hx hb d_Model_start_34 (by decide) ?_
        refine lv_goto (tgt := 39) hx hb d_Model_start_35 (by decide) ?_
        refine va_last hx hb hK hP hD hS 2 1 rfl rfl (i := 0) (z_in rfl) d_Model_start_39 (fun H locs hP hD hS => ?_)
        obtain ⟨f_31, hP, hD⟩ := z_newL 2 hP hD rfl
        have hP : va_P G.1 classes [(b0, .inr (12, [.int b1, .ref b2, .ref b3, .ref b4, .ref b5, .int b6, .ref b7, .int b8, .int b9, .int b10, .int b11, .ref b12, .ref b13, .ref b14, .int b15, .ref b16, .ref b17, .ref b18, .ref b19, .ref b20, .ref b21, .ref b22, .ref b23, .ref b24, .ref b25, .ref b26, .ref b27, .int b28, .ref b29, .ref b30, .int b31, .int b32, .int b33, .int b34, .ref b35, .ref b36, .ref b37, .ref b38, .ref b39, .ref b40, .ref b41, .int b42, .ref b43, .ref b44, .int b45, .ref b46, .ref b47, .ref b48, .ref b49, .ref b50, .int b51, .ref b52, .ref b53, .ref b54])), (b22, .inl (G.2 0, 2, .inl b55)), (b29, .inl (G.2 1, 4, .inr (.inl f_31)))] H := hP
        have hD := z_tie hP hD rfl
        exact z_vret hx hb hr hlocks hP hD hS (Nat.le_of_ble_eq_true rfl) (Nat.le_of_ble_eq_true rfl) d_Model_start_40 ⟨f_31, rfl, rfl⟩
    · have _nhc_21 := hc_21
      have ni_32 := (fa_lt _ _).mp (zi_nle hc_21)
      rw [li_4] at ni_32
      have hv_33 : zI y_19 0 3 := zI.lt_l hy_19 zc_4 (zi_nle hc_21) (by decide)
      refine lv_aload_n hx hb d_Model_start_7 rfl (lv_at hl 1 rfl) ?_
      refine va_get (D := G.1) (ci := 12) (v := .ref b29) (C := R_Model) (T := F_Model) (N := 54) hx hb hts i_Model hown hK hP 0 rfl rfl 28 (by decide) (hts _ q1137) (fun _ h9 => h9) rfl d_Model_start_8 ?_
      refine lv_iload_n hx hb d_Model_start_11 rfl (lv_at hl 0 rfl) ?_
      refine lv_lconst (v := 0) hx hb d_Model_start_12 (by decide) ?_
      refine va_last hx hb hK hP hD hS 2 1 rfl rfl (zI.inn hv_33 (by decide)) d_Model_start_13 (fun H locs hP hD hS => ?_)
      obtain ⟨f_34, hP, hD⟩ := z_newL 2 hP hD rfl
      have hP : va_P G.1 classes [(b0, .inr (12, [.int b1, .ref b2, .ref b3, .ref b4, .ref b5, .int b6, .ref b7, .int b8, .int b9, .int b10, .int b11, .ref b12, .ref b13, .ref b14, .int b15, .ref b16, .ref b17, .ref b18, .ref b19, .ref b20, .ref b21, .ref b22, .ref b23, .ref b24, .ref b25, .ref b26, .ref b27, .int b28, .ref b29, .ref b30, .int b31, .int b32, .int b33, .int b34, .ref b35, .ref b36, .ref b37, .ref b38, .ref b39, .ref b40, .ref b41, .int b42, .ref b43, .ref b44, .int b45, .ref b46, .ref b47, .ref b48, .ref b49, .ref b50, .int b51, .ref b52, .ref b53, .ref b54])), (b22, .inl (G.2 0, 2, .inl b55)), (b29, .inl (G.2 1, 4, .inr (.inl f_34)))] H := hP
      have hD := z_tie hP hD rfl
      obtain ⟨v_35, ev_35⟩ : ∃ z : Int32, z = y_19 + 1 := ⟨_, rfl⟩
      obtain ⟨qv_35, hv_35⟩ := zI_add (l := 1) (h := 4) hv_33 zc_1 ev_35 (by decide)
      rw [li_1] at qv_35
      refine lv_iinc (v := v_35) (lv' := [(2, .int v_35), (0, .ref b0), (1, .int 1)]) hx hb d_Model_start_14 hl (k := 0) rfl (by rw [ev_35]; rfl) (by decide) rfl (fun ls hl => ?_)
      refine lv_goto (tgt := 2) hx hb d_Model_start_17 (by decide) ?_
      exact ihk_18 (v_35) (f_34) _ _ _ (zI.wk (l' := 0) (h' := 4) hv_35 (by decide)) (zm_up qv_35 hmk_18 (by decide)) hP hD hS (lv_sub hl [0, 1, 2] rfl)
theorem d_Model_addTwo_90 : decode prog_14_method_65_code 90 = .ok (.return_, 1) := by decide +kernel
abbrev m_s2_Model_addTwo : Room := { frames := 0, cells := 0, slots := 0, locals := 0 }
set_option maxHeartbeats 4000000 in
set_option maxRecDepth 100000 in
theorem s2_Model_addTwo (l : Launch) (G : zG) (b0 : Nat) (b1 : Int32) (b2 : Int32) (b3 : Int32) (b4 : Nat) (b5 : Nat) (b6 : Nat) (b7 : Nat) (b8 : Int32) (b9 : Nat) (b10 : Int32) (b11 : Int32) (b12 : Int32) (b13 : Int32) (b14 : Nat) (b15 : Nat) (b16 : Nat) (b17 : Int32) (b18 : Nat) (b19 : Nat) (b20 : Nat) (b21 : Nat) (b22 : Nat) (b23 : Nat) (b24 : Nat) (b25 : Nat) (b26 : Nat) (b27 : Nat) (b28 : Nat) (b29 : Nat) (b30 : Int32) (b31 : Nat) (b32 : Nat) (b33 : Int32) (b34 : Int32) (b35 : Int32) (b36 : Int32) (b37 : Nat) (b38 : Nat) (b39 : Nat) (b40 : Nat) (b41 : Nat) (b42 : Nat) (b43 : Nat) (b44 : Int32) (b45 : Nat) (b46 : Nat) (b47 : Int32) (b48 : Nat) (b49 : Nat) (b50 : Nat) (b51 : Nat) (b52 : Nat) (b53 : Int32) (b54 : Nat) (b55 : Nat) (b56 : Nat) (b57 : Nat → Int64) (b58 : Nat → Int32) (b59 : Nat → Int32) (b60 : Nat → Int32) (b61 : Nat → Int64) (hb1 : zI b1 (-1) 399) (hb2 : zI b2 (-1) 9) (hb8 : zI b8 0 8) (hb10 : zI b10 0 240) (hb11 : zI b11 0 240) (hb13 : zI b13 0 1) (hb17 : zI b17 0 12) (hb30 : zI b30 0 1) (hb33 : zI b33 0 1) (hb44 : zI b44 0 1000) (hb47 : zI b47 0 1000) (hb53 : zI b53 0 400) (hb58 : zR b58 (-1) 399) (hb60 : zR b60 0 8) (htm9 : b53.toInt ≤ 399) (hfr : b1.toInt = -1 ∨ b1.toInt < b53.toInt ∧ (b60 b1.toNatClampNeg).toInt ≤ 7) (htw : zTw (b53 : Int32).toInt b60 b58) : zM l G y_Model_addTwo prog_14_method_65_code 4 (Option.none : Option Jvm.ClassFile.FieldType) m_s2_Model_addTwo [.ref b0, .int b1, .int b2] [(b0, .inr (12, [.int b3, .ref b4, .ref b5, .ref b6, .ref b7, .int b8, .ref b9, .int b10, .int b11, .int b12, .int b13, .ref b14, .ref b15, .ref b16, .int b17, .ref b18, .ref b19, .ref b20, .ref b21, .ref b22, .ref b23, .ref b24, .ref b25, .ref b26, .ref b27, .ref b28, .ref b29, .int b30, .ref b31, .ref b32, .int b33, .int b34, .int b35, .int b36, .ref b37, .ref b38, .ref b39, .ref b40, .ref b41, .ref b42, .ref b43, .int b44, .ref b45, .ref b46, .int b47, .ref b48, .ref b49, .ref b50, .ref b51, .ref b52, .int b53, .ref b54, .ref b55, .ref b56])), (b48, .inl (G.2 1, 3208, .inr (.inl b57))), (b49, .inl (G.2 0, 401, .inl b58)), (b50, .inl (G.2 0, 401, .inl b59)), (b51, .inl (G.2 0, 401, .inl b60)), (b52, .inl (G.2 1, 8, .inr (.inl b61)))] (fun v w => ∃ (e0 : Int32), ∃ (e1 : Nat → Int64), ∃ (e2 : Nat → Int32), ∃ (e3 : Nat → Int32), ∃ (e4 : Nat → Int32), v = none ∧ w = [(b0, .inr (12, [.int b3, .ref b4, .ref b5, .ref b6, .ref b7, .int b8, .ref b9, .int b10, .int b11, .int b12, .int b13, .ref b14, .ref b15, .ref b16, .int b17, .ref b18, .ref b19, .ref b20, .ref b21, .ref b22, .ref b23, .ref b24, .ref b25, .ref b26, .ref b27, .ref b28, .ref b29, .int b30, .ref b31, .ref b32, .int b33, .int b34, .int b35, .int b36, .ref b37, .ref b38, .ref b39, .ref b40, .ref b41, .ref b42, .ref b43, .int b44, .ref b45, .ref b46, .int b47, .ref b48, .ref b49, .ref b50, .ref b51, .ref b52, .int e0, .ref b54, .ref b55, .ref b56])), (b48, .inl (G.2 1, 3208, .inr (.inl e1))), (b49, .inl (G.2 0, 401, .inl e2)), (b50, .inl (G.2 0, 401, .inl e3)), (b51, .inl (G.2 0, 401, .inl e4)), (b52, .inl (G.2 1, 8, .inr (.inl b61)))] ∧ (zI e0 0 400) ∧ (zR e2 (-1) 399) ∧ (zR e4 0 8) ∧ ((e0 : Int32).toInt = b53.toInt + 1) ∧ (zTw (e0 : Int32).toInt e4 e2)) := by
  refine z_start (by decide +kernel) (Nat.le_of_ble_eq_true rfl) ?_
  intro p e s m below meth c A Z hr hnm hA hP hD hS ls hl
  have Z : zC p s m _ meth c prog_14_method_65_code 4 "TraceMachinesModel" G := Z
  obtain ⟨hx, hb, hml, hown, hts, hK, hN, hlocks⟩ := id Z
  have hl : lv_has ls 4 [(0, .ref b0), (1, .int b1), (2, .int b2)] := hl
  have hv_1 : zI b53 0 399 := ⟨by omega, by omega⟩
  refine lv_iconst (v := 0) hx hb d_Model_addTwo_0 (by decide) ?_
  refine lv_istore_n (lv' := [(3, .int 0), (0, .ref b0), (1, .int b1), (2, .int b2)]) hx hb d_Model_addTwo_1 rfl hl (by decide) rfl (fun ls hl => ?_)
  suffices key : ∀ (k_28 : Nat) (y_29 : Int32) (y_30 : Nat → Int64) (H : Heap) (locs : List Loc) (ls : Array Slot), (zI y_29 0 8) → (8 : Int) - y_29.toInt < (k_28 : Int) → va_P G.1 classes [(b0, .inr (12, [.int b3, .ref b4, .ref b5, .ref b6, .ref b7, .int b8, .ref b9, .int b10, .int b11, .int b12, .int b13, .ref b14, .ref b15, .ref b16, .int b17, .ref b18, .ref b19, .ref b20, .ref b21, .ref b22, .ref b23, .ref b24, .ref b25, .ref b26, .ref b27, .ref b28, .ref b29, .int b30, .ref b31, .ref b32, .int b33, .int b34, .int b35, .int b36, .ref b37, .ref b38, .ref b39, .ref b40, .ref b41, .ref b42, .ref b43, .int b44, .ref b45, .ref b46, .int b47, .ref b48, .ref b49, .ref b50, .ref b51, .ref b52, .int b53, .ref b54, .ref b55, .ref b56])), (b48, .inl (G.2 1, 3208, .inr (.inl y_30))), (b49, .inl (G.2 0, 401, .inl b58)), (b50, .inl (G.2 0, 401, .inl b59)), (b51, .inl (G.2 0, 401, .inl b60)), (b52, .inl (G.2 1, 8, .inr (.inl b61)))] H → va_D A [(b0, .inr (12, [.int b3, .ref b4, .ref b5, .ref b6, .ref b7, .int b8, .ref b9, .int b10, .int b11, .int b12, .int b13, .ref b14, .ref b15, .ref b16, .int b17, .ref b18, .ref b19, .ref b20, .ref b21, .ref b22, .ref b23, .ref b24, .ref b25, .ref b26, .ref b27, .ref b28, .ref b29, .int b30, .ref b31, .ref b32, .int b33, .int b34, .int b35, .int b36, .ref b37, .ref b38, .ref b39, .ref b40, .ref b41, .ref b42, .ref b43, .int b44, .ref b45, .ref b46, .int b47, .ref b48, .ref b49, .ref b50, .ref b51, .ref b52, .int b53, .ref b54, .ref b55, .ref b56])), (b48, .inl (G.2 1, 3208, .inr (.inl y_30))), (b49, .inl (G.2 0, 401, .inl b58)), (b50, .inl (G.2 0, 401, .inl b59)), (b51, .inl (G.2 0, 401, .inl b60)), (b52, .inl (G.2 1, 8, .inr (.inl b61)))] → va_S A s.heap H locs → lv_has ls 4 [(3, .int y_29), (0, .ref b0), (1, .int b1), (2, .int b2)] → W p l e m_s2_Model_addTwo s m ([.ref b0, .int b1, .int b2] : List Value).toArray below meth c H locs 0 0 (MQ below (zQ G (fun v w => ∃ (e0 : Int32), ∃ (e1 : Nat → Int64), ∃ (e2 : Nat → Int32), ∃ (e3 : Nat → Int32), ∃ (e4 : Nat → Int32), v = none ∧ w = [(b0, .inr (12, [.int b3, .ref b4, .ref b5, .ref b6, .ref b7, .int b8, .ref b9, .int b10, .int b11, .int b12, .int b13, .ref b14, .ref b15, .ref b16, .int b17, .ref b18, .ref b19, .ref b20, .ref b21, .ref b22, .ref b23, .ref b24, .ref b25, .ref b26, .ref b27, .ref b28, .ref b29, .int b30, .ref b31, .ref b32, .int b33, .int b34, .int b35, .int b36, .ref b37, .ref b38, .ref b39, .ref b40, .ref b41, .ref b42, .ref b43, .int b44, .ref b45, .ref b46, .int b47, .ref b48, .ref b49, .ref b50, .ref b51, .ref b52, .int e0, .ref b54, .ref b55, .ref b56])), (b48, .inl (G.2 1, 3208, .inr (.inl e1))), (b49, .inl (G.2 0, 401, .inl e2)), (b50, .inl (G.2 0, 401, .inl e3)), (b51, .inl (G.2 0, 401, .inl e4)), (b52, .inl (G.2 1, 8, .inr (.inl b61)))] ∧ (zI e0 0 400) ∧ (zR e2 (-1) 399) ∧ (zR e4 0 8) ∧ ((e0 : Int32).toInt = b53.toInt + 1) ∧ (zTw (e0 : Int32).toInt e4 e2)) A) ([.ref b0, .int b1, .int b2] : List Value).toArray s m_s2_Model_addTwo.cells m_s2_Model_addTwo.slots A) (F0 m 2 ls []) by
    exact key 9 (0) (b57) _ _ _ (zI.wk (l' := 0) (h' := 8) zc_0 (by decide)) (zm_upi (zI.wk (l' := 0) (h' := 8) zc_0 (by decide)) (by decide)) hP hD hS (lv_sub hl [0, 1, 2, 3] rfl)
  intro k_28
  induction k_28 with
  | zero =>
    intro y_29 y_30 H locs ls hy_29 hmk_28 hP hD hS hl
    exact (zm_up0 hy_29 hmk_28).elim
  | succ k_28 ihk_28 =>
    intro y_29 y_30 H locs ls hy_29 hmk_28 hP hD hS hl
    refine lv_iload_n hx hb d_Model_addTwo_2 rfl (lv_at hl 0 rfl) ?_
    refine lv_bipush (v := 8) hx hb d_Model_addTwo_3 (by decide) ?_
    refine lv_icmp_ge (tgt := 34) hx hb d_Model_addTwo_5 (by decide) (fun hc_31 => ?_) (fun hc_31 => ?_)
    · have _nhc_31 := hc_31
      have ni_32 := (fa_le _ _).mp hc_31
      rw [li_8] at ni_32
      have hv_33 : zI y_29 8 8 := zI.le_r zc_8 hy_29 hc_31 (by decide)
      refine lv_aload_n hx hb d_Model_addTwo_34 rfl (lv_at hl 1 rfl) ?_
      refine va_get (D := G.1) (ci := 12) (v := .ref b49) (C := R_Model) (T := F_Model) (N := 54) hx hb hts i_Model hown hK hP 0 rfl rfl 46 (by decide) (hts _ q1155) (fun _ h9 => h9) rfl d_Model_addTwo_35 ?_
      refine lv_aload_n hx hb d_Model_addTwo_38 rfl (lv_at hl 1 rfl) ?_
      refine va_get (D := G.1) (ci := 12) (v := .int b53) (C := R_Model) (T := F_Model) (N := 54) hx hb hts i_Model hown hK hP 0 rfl rfl 50 (by decide) (hts _ q1159) (fun _ h9 => h9) rfl d_Model_addTwo_39 ?_
      refine lv_iload_n hx hb d_Model_addTwo_42 rfl (lv_at hl 2 rfl) ?_
      refine va_iast hx hb hK hP hD hS 2 0 rfl rfl (zI.inn hv_1 (by decide)) d_Model_addTwo_43 (fun H locs hP hD hS => ?_)
      obtain ⟨f_34, hf_34, gf_34, uf_34, hP, hD⟩ := z_newfu 2 hP hD rfl hb58 hb1
      have hP : va_P G.1 classes [(b0, .inr (12, [.int b3, .ref b4, .ref b5, .ref b6, .ref b7, .int b8, .ref b9, .int b10, .int b11, .int b12, .int b13, .ref b14, .ref b15, .ref b16, .int b17, .ref b18, .ref b19, .ref b20, .ref b21, .ref b22, .ref b23, .ref b24, .ref b25, .ref b26, .ref b27, .ref b28, .ref b29, .int b30, .ref b31, .ref b32, .int b33, .int b34, .int b35, .int b36, .ref b37, .ref b38, .ref b39, .ref b40, .ref b41, .ref b42, .ref b43, .int b44, .ref b45, .ref b46, .int b47, .ref b48, .ref b49, .ref b50, .ref b51, .ref b52, .int b53, .ref b54, .ref b55, .ref b56])), (b48, .inl (G.2 1, 3208, .inr (.inl y_30))), (b49, .inl (G.2 0, 401, .inl f_34)), (b50, .inl (G.2 0, 401, .inl b59)), (b51, .inl (G.2 0, 401, .inl b60)), (b52, .inl (G.2 1, 8, .inr (.inl b61)))] H := hP
      have hD := z_tie hP hD rfl
      refine lv_aload_n hx hb d_Model_addTwo_44 rfl (lv_at hl 1 rfl) ?_
      refine va_get (D := G.1) (ci := 12) (v := .ref b50) (C := R_Model) (T := F_Model) (N := 54) hx hb hts i_Model hown hK hP 0 rfl rfl 47 (by decide) (hts _ q1156) (fun _ h9 => h9) rfl d_Model_addTwo_45 ?_
      refine lv_aload_n hx hb d_Model_addTwo_48 rfl (lv_at hl 1 rfl) ?_
      refine va_get (D := G.1) (ci := 12) (v := .int b53) (C := R_Model) (T := F_Model) (N := 54) hx hb hts i_Model hown hK hP 0 rfl rfl 50 (by decide) (hts _ q1159) (fun _ h9 => h9) rfl d_Model_addTwo_49 ?_
      refine lv_iload_n hx hb d_Model_addTwo_52 rfl (lv_at hl 3 rfl) ?_
      refine va_iast hx hb hK hP hD hS 3 0 rfl rfl (zI.inn hv_1 (by decide)) d_Model_addTwo_53 (fun H locs hP hD hS => ?_)
      obtain ⟨f_35, gf_35, uf_35, hP, hD⟩ := z_newFu 3 hP hD rfl
      have hP : va_P G.1 classes [(b0, .inr (12, [.int b3, .ref b4, .ref b5, .ref b6, .ref b7, .int b8, .ref b9, .int b10, .int b11, .int b12, .int b13, .ref b14, .ref b15, .ref b16, .int b17, .ref b18, .ref b19, .ref b20, .ref b21, .ref b22, .ref b23, .ref b24, .ref b25, .ref b26, .ref b27, .ref b28, .ref b29, .int b30, .ref b31, .ref b32, .int b33, .int b34, .int b35, .int b36, .ref b37, .ref b38, .ref b39, .ref b40, .ref b41, .ref b42, .ref b43, .int b44, .ref b45, .ref b46, .int b47, .ref b48, .ref b49, .ref b50, .ref b51, .ref b52, .int b53, .ref b54, .ref b55, .ref b56])), (b48, .inl (G.2 1, 3208, .inr (.inl y_30))), (b49, .inl (G.2 0, 401, .inl f_34)), (b50, .inl (G.2 0, 401, .inl f_35)), (b51, .inl (G.2 0, 401, .inl b60)), (b52, .inl (G.2 1, 8, .inr (.inl b61)))] H := hP
      have hD := z_tie hP hD rfl
      refine lv_aload_n hx hb d_Model_addTwo_54 rfl (lv_at hl 1 rfl) ?_
      refine va_get (D := G.1) (ci := 12) (v := .ref b51) (C := R_Model) (T := F_Model) (N := 54) hx hb hts i_Model hown hK hP 0 rfl rfl 48 (by decide) (hts _ q1157) (fun _ h9 => h9) rfl d_Model_addTwo_55 ?_
      refine lv_aload_n hx hb d_Model_addTwo_58 rfl (lv_at hl 1 rfl) ?_
      refine va_get (D := G.1) (ci := 12) (v := .int b53) (C := R_Model) (T := F_Model) (N := 54) hx hb hts i_Model hown hK hP 0 rfl rfl 50 (by decide) (hts _ q1159) (fun _ h9 => h9) rfl d_Model_addTwo_59 ?_
      refine lv_iload_n hx hb d_Model_addTwo_62 rfl (lv_at hl 2 rfl) ?_
      refine lv_iconst (v := (-1)) hx hb d_Model_addTwo_63 (by decide) ?_
      refine lv_icmp_ne (tgt := 71) hx hb d_Model_addTwo_64 (by decide) (fun hc_36 => ?_) (fun hc_36 => ?_)
      · have _nhc_36 := hc_36
        have ni_37 : ¬ (b1 : Int32).toInt = ((-1) : Int32).toInt := fun z => hc_36 ((fa_eq _ _).mpr z)
        simp only [li_m1] at ni_37
        have hv_38 : zI b1 0 399 := zI.ne_lo hb1 zc_m1 hc_36 (by decide)
        refine lv_aload_n hx hb d_Model_addTwo_71 rfl (lv_at hl 1 rfl) ?_
        refine va_get (D := G.1) (ci := 12) (v := .ref b51) (C := R_Model) (T := F_Model) (N := 54) hx hb hts i_Model hown hK hP 0 rfl rfl 48 (by decide) (hts _ q1157) (fun _ h9 => h9) rfl d_Model_addTwo_72 ?_
        refine lv_iload_n hx hb d_Model_addTwo_75 rfl (lv_at hl 2 rfl) ?_
        refine va_iald hx hb hK hP 4 0 rfl rfl (zI.inn hv_38 (by decide)) d_Model_addTwo_76 ?_
        refine lv_topi (fun v_39 ev_39 => ?_)
        have hv_39 : zI v_39 0 8 := (hb60 _).eq ev_39
        have hv_40 : zI v_39 0 7 := ⟨hv_39.1, by rcases hfr with h9 | h9; exact absurd h9 (by omega); rw [ev_39]; exact h9.2⟩
        refine lv_iconst (v := 1) hx hb d_Model_addTwo_77 (by decide) ?_
        refine lv_iadd hx hb d_Model_addTwo_78 ?_
        refine lv_topi (fun v_41 ev_41 => ?_)
        obtain ⟨qv_41, hv_41⟩ := zI_add (l := 1) (h := 8) hv_40 zc_1 ev_41 (by decide)
        rw [li_1] at qv_41
        refine va_iast hx hb hK hP hD hS 4 0 rfl rfl (zI.inn hv_1 (by decide)) d_Model_addTwo_79 (fun H locs hP hD hS => ?_)
        obtain ⟨f_42, hf_42, gf_42, uf_42, hP, hD⟩ := z_newfu 4 hP hD rfl hb60 (zI.wk (l' := 0) (h' := 8) hv_41 (by decide))
        have hP : va_P G.1 classes [(b0, .inr (12, [.int b3, .ref b4, .ref b5, .ref b6, .ref b7, .int b8, .ref b9, .int b10, .int b11, .int b12, .int b13, .ref b14, .ref b15, .ref b16, .int b17, .ref b18, .ref b19, .ref b20, .ref b21, .ref b22, .ref b23, .ref b24, .ref b25, .ref b26, .ref b27, .ref b28, .ref b29, .int b30, .ref b31, .ref b32, .int b33, .int b34, .int b35, .int b36, .ref b37, .ref b38, .ref b39, .ref b40, .ref b41, .ref b42, .ref b43, .int b44, .ref b45, .ref b46, .int b47, .ref b48, .ref b49, .ref b50, .ref b51, .ref b52, .int b53, .ref b54, .ref b55, .ref b56])), (b48, .inl (G.2 1, 3208, .inr (.inl y_30))), (b49, .inl (G.2 0, 401, .inl f_34)), (b50, .inl (G.2 0, 401, .inl f_35)), (b51, .inl (G.2 0, 401, .inl f_42)), (b52, .inl (G.2 1, 8, .inr (.inl b61)))] H := hP
        have hD := z_tie hP hD rfl
        refine lv_aload_n hx hb d_Model_addTwo_80 rfl (lv_at hl 1 rfl) ?_
        refine lv_dup hx hb d_Model_addTwo_81 rfl ?_
        refine va_get (D := G.1) (ci := 12) (v := .int b53) (C := R_Model) (T := F_Model) (N := 54) hx hb hts i_Model hown hK hP 0 rfl rfl 50 (by decide) (hts _ q1159) (fun _ h9 => h9) rfl d_Model_addTwo_82 ?_
        refine lv_iconst (v := 1) hx hb d_Model_addTwo_85 (by decide) ?_
        refine lv_iadd hx hb d_Model_addTwo_86 ?_
        refine lv_topi (fun v_43 ev_43 => ?_)
        obtain ⟨qv_43, hv_43⟩ := zI_add (l := 1) (h := 400) hv_1 zc_1 ev_43 (by decide)
        rw [li_1] at qv_43
        refine va_put (D := G.1) (ci := 12) (v := .int v_43) (ty := .int) (C := R_Model) (T := F_Model) (N := 54) hx hb hts i_Model t_Model t_Model_ok n_Model hown hK hP hD hS 0 rfl rfl 50 (by decide) (hts _ q1159) (fun _ h9 => h9) rfl (by decide +kernel) rfl rfl (Nat.le_of_ble_eq_true rfl) d_Model_addTwo_87 (fun H locs hP hD hS => ?_)
        have hP : va_P G.1 classes [(b0, .inr (12, [.int b3, .ref b4, .ref b5, .ref b6, .ref b7, .int b8, .ref b9, .int b10, .int b11, .int b12, .int b13, .ref b14, .ref b15, .ref b16, .int b17, .ref b18, .ref b19, .ref b20, .ref b21, .ref b22, .ref b23, .ref b24, .ref b25, .ref b26, .ref b27, .ref b28, .ref b29, .int b30, .ref b31, .ref b32, .int b33, .int b34, .int b35, .int b36, .ref b37, .ref b38, .ref b39, .ref b40, .ref b41, .ref b42, .ref b43, .int b44, .ref b45, .ref b46, .int b47, .ref b48, .ref b49, .ref b50, .ref b51, .ref b52, .int v_43, .ref b54, .ref b55, .ref b56])), (b48, .inl (G.2 1, 3208, .inr (.inl y_30))), (b49, .inl (G.2 0, 401, .inl f_34)), (b50, .inl (G.2 0, 401, .inl f_35)), (b51, .inl (G.2 0, 401, .inl f_42)), (b52, .inl (G.2 1, 8, .inr (.inl b61)))] H := hP
        have hD := z_tie hP hD rfl
        exact z_vret hx hb hr hlocks hP hD hS (Nat.le_of_ble_eq_true rfl) (Nat.le_of_ble_eq_true rfl) d_Model_addTwo_90 ⟨v_43, y_30, f_34, f_35, f_42, rfl, rfl, (zI.wk (l' := 0) (h' := 400) hv_43 (by decide)), hf_34, hf_42, (by omega), (by have _l0 := li_0; have _l1 := li_m1; have p9 := z_pl hv_1 (by decide); intro j hj; rw [uf_42, uf_34, z_at, z_at]; split; omega; exact htw j (by omega))⟩
      · have _nhc_36 := hc_36
        have ni_44 := (fa_eq _ _).mp hc_36
        rw [li_m1] at ni_44
        have hv_45 : zI b1 (-1) (-1) := zI.eq_l hb1 zc_m1 hc_36
        refine lv_iconst (v := 0) hx hb d_Model_addTwo_67 (by decide) ?_
        refine lv_goto (tgt := 79) hx hb d_Model_addTwo_68 (by decide) ?_
        refine va_iast hx hb hK hP hD hS 4 0 rfl rfl (zI.inn hv_1 (by decide)) d_Model_addTwo_79 (fun H locs hP hD hS => ?_)
        obtain ⟨f_46, hf_46, gf_46, uf_46, hP, hD⟩ := z_newfu 4 hP hD rfl hb60 (zI.wk (l' := 0) (h' := 8) zc_0 (by decide))
        have hP : va_P G.1 classes [(b0, .inr (12, [.int b3, .ref b4, .ref b5, .ref b6, .ref b7, .int b8, .ref b9, .int b10, .int b11, .int b12, .int b13, .ref b14, .ref b15, .ref b16, .int b17, .ref b18, .ref b19, .ref b20, .ref b21, .ref b22, .ref b23, .ref b24, .ref b25, .ref b26, .ref b27, .ref b28, .ref b29, .int b30, .ref b31, .ref b32, .int b33, .int b34, .int b35, .int b36, .ref b37, .ref b38, .ref b39, .ref b40, .ref b41, .ref b42, .ref b43, .int b44, .ref b45, .ref b46, .int b47, .ref b48, .ref b49, .ref b50, .ref b51, .ref b52, .int b53, .ref b54, .ref b55, .ref b56])), (b48, .inl (G.2 1, 3208, .inr (.inl y_30))), (b49, .inl (G.2 0, 401, .inl f_34)), (b50, .inl (G.2 0, 401, .inl f_35)), (b51, .inl (G.2 0, 401, .inl f_46)), (b52, .inl (G.2 1, 8, .inr (.inl b61)))] H := hP
        have hD := z_tie hP hD rfl
        refine lv_aload_n hx hb d_Model_addTwo_80 rfl (lv_at hl 1 rfl) ?_
        refine lv_dup hx hb d_Model_addTwo_81 rfl ?_
        refine va_get (D := G.1) (ci := 12) (v := .int b53) (C := R_Model) (T := F_Model) (N := 54) hx hb hts i_Model hown hK hP 0 rfl rfl 50 (by decide) (hts _ q1159) (fun _ h9 => h9) rfl d_Model_addTwo_82 ?_
        refine lv_iconst (v := 1) hx hb d_Model_addTwo_85 (by decide) ?_
        refine lv_iadd hx hb d_Model_addTwo_86 ?_
        refine lv_topi (fun v_47 ev_47 => ?_)
        obtain ⟨qv_47, hv_47⟩ := zI_add (l := 1) (h := 400) hv_1 zc_1 ev_47 (by decide)
        rw [li_1] at qv_47
        refine va_put (D := G.1) (ci := 12) (v := .int v_47) (ty := .int) (C := R_Model) (T := F_Model) (N := 54) hx hb hts i_Model t_Model t_Model_ok n_Model hown hK hP hD hS 0 rfl rfl 50 (by decide) (hts _ q1159) (fun _ h9 => h9) rfl (by decide +kernel) rfl rfl (Nat.le_of_ble_eq_true rfl) d_Model_addTwo_87 (fun H locs hP hD hS => ?_)
        have hP : va_P G.1 classes [(b0, .inr (12, [.int b3, .ref b4, .ref b5, .ref b6, .ref b7, .int b8, .ref b9, .int b10, .int b11, .int b12, .int b13, .ref b14, .ref b15, .ref b16, .int b17, .ref b18, .ref b19, .ref b20, .ref b21, .ref b22, .ref b23, .ref b24, .ref b25, .ref b26, .ref b27, .ref b28, .ref b29, .int b30, .ref b31, .ref b32, .int b33, .int b34, .int b35, .int b36, .ref b37, .ref b38, .ref b39, .ref b40, .ref b41, .ref b42, .ref b43, .int b44, .ref b45, .ref b46, .int b47, .ref b48, .ref b49, .ref b50, .ref b51, .ref b52, .int v_47, .ref b54, .ref b55, .ref b56])), (b48, .inl (G.2 1, 3208, .inr (.inl y_30))), (b49, .inl (G.2 0, 401, .inl f_34)), (b50, .inl (G.2 0, 401, .inl f_35)), (b51, .inl (G.2 0, 401, .inl f_46)), (b52, .inl (G.2 1, 8, .inr (.inl b61)))] H := hP
        have hD := z_tie hP hD rfl
        exact z_vret hx hb hr hlocks hP hD hS (Nat.le_of_ble_eq_true rfl) (Nat.le_of_ble_eq_true rfl) d_Model_addTwo_90 ⟨v_47, y_30, f_34, f_35, f_46, rfl, rfl, (zI.wk (l' := 0) (h' := 400) hv_47 (by decide)), hf_34, hf_46, (by omega), (by have _l0 := li_0; have _l1 := li_m1; have p9 := z_pl hv_1 (by decide); intro j hj; rw [uf_46, uf_34, z_at, z_at]; split; omega; exact htw j (by omega))⟩
    · have _nhc_31 := hc_31
      have ni_48 := (fa_lt _ _).mp (zi_nle hc_31)
      rw [li_8] at ni_48
      have hv_49 : zI y_29 0 7 := zI.lt_l hy_29 zc_8 (zi_nle hc_31) (by decide)
      refine lv_aload_n hx hb d_Model_addTwo_8 rfl (lv_at hl 1 rfl) ?_
      refine va_get (D := G.1) (ci := 12) (v := .ref b48) (C := R_Model) (T := F_Model) (N := 54) hx hb hts i_Model hown hK hP 0 rfl rfl 45 (by decide) (hts _ q1154) (fun _ h9 => h9) rfl d_Model_addTwo_9 ?_
      refine lv_bipush (v := 8) hx hb d_Model_addTwo_12 (by decide) ?_
      refine lv_aload_n hx hb d_Model_addTwo_14 rfl (lv_at hl 1 rfl) ?_
      refine va_get (D := G.1) (ci := 12) (v := .int b53) (C := R_Model) (T := F_Model) (N := 54) hx hb hts i_Model hown hK hP 0 rfl rfl 50 (by decide) (hts _ q1159) (fun _ h9 => h9) rfl d_Model_addTwo_15 ?_
      refine lv_imul hx hb d_Model_addTwo_18 ?_
      refine lv_topi (fun v_50 ev_50 => ?_)
      obtain ⟨qv_50, hv_50⟩ := zI_mul (l := 0) (h := 3192) zc_8 hv_1 ev_50 (by decide)
      rw [li_8] at qv_50
      refine lv_iload_n hx hb d_Model_addTwo_19 rfl (lv_at hl 0 rfl) ?_
      refine lv_iadd hx hb d_Model_addTwo_20 ?_
      refine lv_topi (fun v_51 ev_51 => ?_)
      obtain ⟨qv_51, hv_51⟩ := zI_add (l := 0) (h := 3199) hv_50 hv_49 ev_51 (by decide)
      refine lv_aload_n hx hb d_Model_addTwo_21 rfl (lv_at hl 1 rfl) ?_
      refine va_get (D := G.1) (ci := 12) (v := .ref b52) (C := R_Model) (T := F_Model) (N := 54) hx hb hts i_Model hown hK hP 0 rfl rfl 49 (by decide) (hts _ q1158) (fun _ h9 => h9) rfl d_Model_addTwo_22 ?_
      refine lv_iload_n hx hb d_Model_addTwo_25 rfl (lv_at hl 0 rfl) ?_
      refine va_lald hx hb hK hP 5 1 rfl rfl (zI.inn hv_49 (by decide)) d_Model_addTwo_26 ?_
      refine lv_topl (fun v_52 ev_52 => ?_)
      refine va_last hx hb hK hP hD hS 1 1 rfl rfl (zI.inn hv_51 (by decide)) d_Model_addTwo_27 (fun H locs hP hD hS => ?_)
      obtain ⟨f_53, hP, hD⟩ := z_newL 1 hP hD rfl
      have hP : va_P G.1 classes [(b0, .inr (12, [.int b3, .ref b4, .ref b5, .ref b6, .ref b7, .int b8, .ref b9, .int b10, .int b11, .int b12, .int b13, .ref b14, .ref b15, .ref b16, .int b17, .ref b18, .ref b19, .ref b20, .ref b21, .ref b22, .ref b23, .ref b24, .ref b25, .ref b26, .ref b27, .ref b28, .ref b29, .int b30, .ref b31, .ref b32, .int b33, .int b34, .int b35, .int b36, .ref b37, .ref b38, .ref b39, .ref b40, .ref b41, .ref b42, .ref b43, .int b44, .ref b45, .ref b46, .int b47, .ref b48, .ref b49, .ref b50, .ref b51, .ref b52, .int b53, .ref b54, .ref b55, .ref b56])), (b48, .inl (G.2 1, 3208, .inr (.inl f_53))), (b49, .inl (G.2 0, 401, .inl b58)), (b50, .inl (G.2 0, 401, .inl b59)), (b51, .inl (G.2 0, 401, .inl b60)), (b52, .inl (G.2 1, 8, .inr (.inl b61)))] H := hP
      have hD := z_tie hP hD rfl
      obtain ⟨v_54, ev_54⟩ : ∃ z : Int32, z = y_29 + 1 := ⟨_, rfl⟩
      obtain ⟨qv_54, hv_54⟩ := zI_add (l := 1) (h := 8) hv_49 zc_1 ev_54 (by decide)
      rw [li_1] at qv_54
      refine lv_iinc (v := v_54) (lv' := [(3, .int v_54), (0, .ref b0), (1, .int b1), (2, .int b2)]) hx hb d_Model_addTwo_28 hl (k := 0) rfl (by rw [ev_54]; rfl) (by decide) rfl (fun ls hl => ?_)
      refine lv_goto (tgt := 2) hx hb d_Model_addTwo_31 (by decide) ?_
      exact ihk_28 (v_54) (f_53) _ _ _ (zI.wk (l' := 0) (h' := 8) hv_54 (by decide)) (zm_up qv_54 hmk_28 (by decide)) hP hD hS (lv_sub hl [0, 1, 2, 3] rfl)
theorem d_Model_partsAt_165 : decode prog_14_method_67_code 165 = .ok (.ireturn, 1) := by decide +kernel
abbrev m_s6_Model_has : Room := { frames := 0, cells := 0, slots := 0, locals := 0 }
set_option maxHeartbeats 4000000 in
set_option maxRecDepth 100000 in
theorem s6_Model_has (l : Launch) (G : zG) (b0 : Nat) (b1 : Int32) (b2 : Int32) (b3 : Nat → Int64) (hb1 : zI b1 0 3204) (hb2 : zI b2 0 240) : zM l G y_Model_has prog_14_method_45_code 3 (Option.some Jvm.ClassFile.FieldType.boolean) m_s6_Model_has [.ref b0, .int b1, .int b2] [(b0, .inl (G.2 1, 3208, .inr (.inl b3)))] (fun v w => ∃ (e0 : Int32), v = some (.int e0) ∧ w = [(b0, .inl (G.2 1, 3208, .inr (.inl b3)))] ∧ (zI e0 0 1)) := by
  refine z_start (by decide +kernel) (Nat.le_of_ble_eq_true rfl) ?_
  intro p e s m below meth c A Z hr hnm hA hP hD hS ls hl
  have Z : zC p s m _ meth c prog_14_method_45_code 3 "TraceMachinesModel" G := Z
  obtain ⟨hx, hb, hml, hown, hts, hK, hN, hlocks⟩ := id Z
  have hl : lv_has ls 3 [(0, .ref b0), (1, .int b1), (2, .int b2)] := hl
  refine lv_aload_n hx hb d_Model_has_0 rfl (lv_at hl 0 rfl) ?_
  refine lv_iload_n hx hb d_Model_has_1 rfl (lv_at hl 1 rfl) ?_
  refine lv_iload_n hx hb d_Model_has_2 rfl (lv_at hl 2 rfl) ?_
  refine lv_bipush (v := 64) hx hb d_Model_has_3 (by decide) ?_
  refine lv_idiv hx hb d_Model_has_5 (by decide +kernel) ?_
  refine lv_topi (fun v_1 ev_1 => ?_)
  obtain ⟨qv_1, hv_1⟩ := zI_div (l := 0) (h := 3) (d := 64) hb2 rfl ev_1 (by decide)
  refine lv_iadd hx hb d_Model_has_6 ?_
  refine lv_topi (fun v_2 ev_2 => ?_)
  obtain ⟨qv_2, hv_2⟩ := zI_add (l := 0) (h := 3207) hb1 hv_1 ev_2 (by decide)
  refine va_lald hx hb hK hP 0 1 rfl rfl (zI.inn hv_2 (by decide)) d_Model_has_7 ?_
  refine lv_topl (fun v_3 ev_3 => ?_)
  refine lv_iload_n hx hb d_Model_has_8 rfl (lv_at hl 2 rfl) ?_
  refine lv_bipush (v := 64) hx hb d_Model_has_9 (by decide) ?_
  refine lv_irem hx hb d_Model_has_11 (by decide +kernel) ?_
  refine lv_topi (fun v_4 ev_4 => ?_)
  obtain ⟨qv_4, hv_4⟩ := zI_rem (h := 63) (d := 64) hb2 rfl ev_4 (by decide)
  obtain ⟨v_5, ev_5⟩ : ∃ z : Int64, z = ((v_3).toUInt64 >>> ((v_4 : Int32).toInt64.toUInt64 &&& Int64.toUInt64 63)).toInt64 := ⟨_, rfl⟩
  refine lv_lushr (v := v_5) hx hb d_Model_has_12 ev_5.symm ?_
  refine lv_lconst (v := 1) hx hb d_Model_has_13 (by decide) ?_
  refine lv_land hx hb d_Model_has_14 ?_
  refine lv_topl (fun v_6 ev_6 => ?_)
  refine lv_lconst (v := 1) hx hb d_Model_has_15 (by decide) ?_
  refine W.lcmp hx hb d_Model_has_16 ?_
  refine lv_topi (fun v_7 ev_7 => ?_)
  refine lv_if_ne (tgt := 24) hx hb d_Model_has_17 (by decide) (fun hc_8 => ?_) (fun hc_8 => ?_)
  · have ni_9 := hc_8
    rw [ev_7] at ni_9
    simp only [lg_cmp_lt, lg_cmp_le, lg_cmp_gt, lg_cmp_ge, lg_cmp_eq, fa_lt64, fa_le64, fa_eq64, Int32.toInt_toInt64, ll_1] at ni_9
    refine lv_iconst (v := 0) hx hb d_Model_has_24 (by decide) ?_
    exact z_zret hx hb hr hlocks rfl hP hD hS (Nat.le_of_ble_eq_true rfl) (Nat.le_of_ble_eq_true rfl) d_Model_has_25 ⟨0, rfl, rfl, (zI.wk (l' := 0) (h' := 1) zc_0 (by decide))⟩
  · have ni_10 := hc_8
    rw [ev_7] at ni_10
    simp only [lg_cmp_lt, lg_cmp_le, lg_cmp_gt, lg_cmp_ge, lg_cmp_eq, fa_lt64, fa_le64, fa_eq64, Int32.toInt_toInt64, ll_1] at ni_10
    have hv_11 : zJ v_6 1 1 := by have _a := ni_10; have _b := (zJ_all v_6); have _c := zcl_1; simp only [Int32.toInt_toInt64] at *; exact ⟨by omega, by omega⟩
    refine lv_iconst (v := 1) hx hb d_Model_has_20 (by decide) ?_
    refine lv_goto (tgt := 25) hx hb d_Model_has_21 (by decide) ?_
    exact z_zret hx hb hr hlocks rfl hP hD hS (Nat.le_of_ble_eq_true rfl) (Nat.le_of_ble_eq_true rfl) d_Model_has_25 ⟨1, rfl, rfl, (zI.wk (l' := 0) (h' := 1) zc_1 (by decide))⟩
abbrev m_s7_Model_takes : Room := { frames := 1, cells := 0, slots := 0, locals := 22 }
set_option maxHeartbeats 4000000 in
set_option maxRecDepth 100000 in
theorem s7_Model_takes (l : Launch) (G : zG) (b0 : Nat) (b1 : Nat) (b2 : Int32) (b3 : Int32) (b4 : Nat) (b5 : Nat) (b6 : Nat) (b7 : Nat) (b8 : Int32) (b9 : Nat) (b10 : Int32) (b11 : Int32) (b12 : Int32) (b13 : Int32) (b14 : Nat) (b15 : Nat) (b16 : Nat) (b17 : Int32) (b18 : Nat) (b19 : Nat) (b20 : Nat) (b21 : Nat) (b22 : Nat) (b23 : Nat) (b24 : Nat) (b25 : Nat) (b26 : Nat) (b27 : Nat) (b28 : Nat) (b29 : Nat) (b30 : Int32) (b31 : Nat) (b32 : Nat) (b33 : Int32) (b34 : Int32) (b35 : Int32) (b36 : Int32) (b37 : Nat) (b38 : Nat) (b39 : Nat) (b40 : Nat) (b41 : Nat) (b42 : Nat) (b43 : Nat) (b44 : Int32) (b45 : Nat) (b46 : Nat) (b47 : Int32) (b48 : Nat) (b49 : Nat) (b50 : Nat) (b51 : Nat) (b52 : Int32) (b53 : Nat) (b54 : Nat) (b55 : Nat) (b56 : Nat → Int32) (b57 : Nat → Int32) (b58 : Nat → Int64) (hb2 : zI b2 0 3204) (hb8 : zI b8 0 8) (hb10 : zI b10 0 240) (hb11 : zI b11 0 240) (hb13 : zI b13 0 1) (hb17 : zI b17 0 12) (hb30 : zI b30 0 1) (hb33 : zI b33 0 1) (hb44 : zI b44 0 1000) (hb47 : zI b47 0 1000) (hb52 : zI b52 0 400) (hb56 : zR b56 0 241) : zM l G y_Model_takes prog_14_method_49_code 6 (Option.some Jvm.ClassFile.FieldType.boolean) m_s7_Model_takes [.ref b0, .int 0, .ref b1, .int b2] [(b0, .inr (12, [.int b3, .ref b4, .ref b5, .ref b6, .ref b7, .int b8, .ref b9, .int b10, .int b11, .int b12, .int b13, .ref b14, .ref b15, .ref b16, .int b17, .ref b18, .ref b19, .ref b20, .ref b21, .ref b22, .ref b23, .ref b24, .ref b25, .ref b26, .ref b27, .ref b28, .ref b29, .int b30, .ref b31, .ref b32, .int b33, .int b34, .int b35, .int b36, .ref b37, .ref b38, .ref b39, .ref b40, .ref b41, .ref b42, .ref b43, .int b44, .ref b45, .ref b46, .int b47, .ref b1, .ref b48, .ref b49, .ref b50, .ref b51, .int b52, .ref b53, .ref b54, .ref b55])), (b24, .inl (G.2 0, 2, .inl b56)), (b27, .inl (G.2 0, 482, .inl b57)), (b1, .inl (G.2 1, 3208, .inr (.inl b58)))] (fun v w => ∃ (e0 : Int32), v = some (.int e0) ∧ w = [(b0, .inr (12, [.int b3, .ref b4, .ref b5, .ref b6, .ref b7, .int b8, .ref b9, .int b10, .int b11, .int b12, .int b13, .ref b14, .ref b15, .ref b16, .int b17, .ref b18, .ref b19, .ref b20, .ref b21, .ref b22, .ref b23, .ref b24, .ref b25, .ref b26, .ref b27, .ref b28, .ref b29, .int b30, .ref b31, .ref b32, .int b33, .int b34, .int b35, .int b36, .ref b37, .ref b38, .ref b39, .ref b40, .ref b41, .ref b42, .ref b43, .int b44, .ref b45, .ref b46, .int b47, .ref b1, .ref b48, .ref b49, .ref b50, .ref b51, .int b52, .ref b53, .ref b54, .ref b55])), (b24, .inl (G.2 0, 2, .inl b56)), (b27, .inl (G.2 0, 482, .inl b57)), (b1, .inl (G.2 1, 3208, .inr (.inl b58)))] ∧ (zI e0 0 1)) := by
  refine z_start (by decide +kernel) (Nat.le_of_ble_eq_true rfl) ?_
  intro p e s m below meth c A Z hr hnm hA hP hD hS ls hl
  have Z : zC p s m _ meth c prog_14_method_49_code 6 "TraceMachinesModel" G := Z
  obtain ⟨hx, hb, hml, hown, hts, hK, hN, hlocks⟩ := id Z
  have hl : lv_has ls 6 [(0, .ref b0), (1, .int 0), (2, .ref b1), (3, .int b2)] := hl
  refine lv_iconst (v := 0) hx hb d_Model_takes_0 (by decide) ?_
  refine lv_istore (lv' := [(4, .int 0), (0, .ref b0), (1, .int 0), (2, .ref b1), (3, .int b2)]) hx hb d_Model_takes_1 hl (by decide) rfl (fun ls hl => ?_)
  refine lv_iconst (v := 0) hx hb d_Model_takes_3 (by decide) ?_
  refine lv_istore (lv' := [(5, .int 0), (4, .int 0), (0, .ref b0), (1, .int 0), (2, .ref b1), (3, .int b2)]) hx hb d_Model_takes_4 hl (by decide) rfl (fun ls hl => ?_)
  suffices key : ∀ (k_32 : Nat) (y_33 : Int32) (y_34 : Int32) (H : Heap) (locs : List Loc) (ls : Array Slot), (zI y_33 0 241) → (zI y_34 0 1) → (241 : Int) - y_33.toInt < (k_32 : Int) → va_P G.1 classes [(b0, .inr (12, [.int b3, .ref b4, .ref b5, .ref b6, .ref b7, .int b8, .ref b9, .int b10, .int b11, .int b12, .int b13, .ref b14, .ref b15, .ref b16, .int b17, .ref b18, .ref b19, .ref b20, .ref b21, .ref b22, .ref b23, .ref b24, .ref b25, .ref b26, .ref b27, .ref b28, .ref b29, .int b30, .ref b31, .ref b32, .int b33, .int b34, .int b35, .int b36, .ref b37, .ref b38, .ref b39, .ref b40, .ref b41, .ref b42, .ref b43, .int b44, .ref b45, .ref b46, .int b47, .ref b1, .ref b48, .ref b49, .ref b50, .ref b51, .int b52, .ref b53, .ref b54, .ref b55])), (b24, .inl (G.2 0, 2, .inl b56)), (b27, .inl (G.2 0, 482, .inl b57)), (b1, .inl (G.2 1, 3208, .inr (.inl b58)))] H → va_D A [(b0, .inr (12, [.int b3, .ref b4, .ref b5, .ref b6, .ref b7, .int b8, .ref b9, .int b10, .int b11, .int b12, .int b13, .ref b14, .ref b15, .ref b16, .int b17, .ref b18, .ref b19, .ref b20, .ref b21, .ref b22, .ref b23, .ref b24, .ref b25, .ref b26, .ref b27, .ref b28, .ref b29, .int b30, .ref b31, .ref b32, .int b33, .int b34, .int b35, .int b36, .ref b37, .ref b38, .ref b39, .ref b40, .ref b41, .ref b42, .ref b43, .int b44, .ref b45, .ref b46, .int b47, .ref b1, .ref b48, .ref b49, .ref b50, .ref b51, .int b52, .ref b53, .ref b54, .ref b55])), (b24, .inl (G.2 0, 2, .inl b56)), (b27, .inl (G.2 0, 482, .inl b57)), (b1, .inl (G.2 1, 3208, .inr (.inl b58)))] → va_S A s.heap H locs → lv_has ls 6 [(5, .int y_33), (4, .int y_34), (0, .ref b0), (1, .int 0), (2, .ref b1), (3, .int b2)] → W p l e m_s7_Model_takes s m ([.ref b0, .int 0, .ref b1, .int b2] : List Value).toArray below meth c H locs 0 0 (MQ below (zQ G (fun v w => ∃ (e0 : Int32), v = some (.int e0) ∧ w = [(b0, .inr (12, [.int b3, .ref b4, .ref b5, .ref b6, .ref b7, .int b8, .ref b9, .int b10, .int b11, .int b12, .int b13, .ref b14, .ref b15, .ref b16, .int b17, .ref b18, .ref b19, .ref b20, .ref b21, .ref b22, .ref b23, .ref b24, .ref b25, .ref b26, .ref b27, .ref b28, .ref b29, .int b30, .ref b31, .ref b32, .int b33, .int b34, .int b35, .int b36, .ref b37, .ref b38, .ref b39, .ref b40, .ref b41, .ref b42, .ref b43, .int b44, .ref b45, .ref b46, .int b47, .ref b1, .ref b48, .ref b49, .ref b50, .ref b51, .int b52, .ref b53, .ref b54, .ref b55])), (b24, .inl (G.2 0, 2, .inl b56)), (b27, .inl (G.2 0, 482, .inl b57)), (b1, .inl (G.2 1, 3208, .inr (.inl b58)))] ∧ (zI e0 0 1)) A) ([.ref b0, .int 0, .ref b1, .int b2] : List Value).toArray s m_s7_Model_takes.cells m_s7_Model_takes.slots A) (F0 m 6 ls []) by
    exact key 242 (0) (0) _ _ _ (zI.wk (l' := 0) (h' := 241) zc_0 (by decide)) (zI.wk (l' := 0) (h' := 1) zc_0 (by decide)) (zm_upi (zI.wk (l' := 0) (h' := 241) zc_0 (by decide)) (by decide)) hP hD hS (lv_sub hl [0, 1, 2, 3, 4, 5] rfl)
  intro k_32
  induction k_32 with
  | zero =>
    intro y_33 y_34 H locs ls hy_33 hy_34 hmk_32 hP hD hS hl
    exact (zm_up0 hy_33 hmk_32).elim
  | succ k_32 ihk_32 =>
    intro y_33 y_34 H locs ls hy_33 hy_34 hmk_32 hP hD hS hl
    refine lv_iload hx hb d_Model_takes_6 (lv_at hl 0 rfl) ?_
    refine lv_aload_n hx hb d_Model_takes_8 rfl (lv_at hl 2 rfl) ?_
    refine va_get (D := G.1) (ci := 12) (v := .ref b24) (C := R_Model) (T := F_Model) (N := 54) hx hb hts i_Model hown hK hP 0 rfl rfl 21 (by decide) (hts _ q1130) (fun _ h9 => h9) rfl d_Model_takes_9 ?_
    refine lv_iload_n hx hb d_Model_takes_12 rfl (lv_at hl 3 rfl) ?_
    refine va_iald hx hb hK hP 1 0 rfl rfl (i := 0) (z_in rfl) d_Model_takes_13 ?_
    refine lv_topi (fun v_35 ev_35 => ?_)
    have hv_35 : zI v_35 0 241 := (hb56 _).eq ev_35
    refine lv_icmp_ge (tgt := 55) hx hb d_Model_takes_14 (by decide) (fun hc_36 => ?_) (fun hc_36 => ?_)
    · have _nhc_36 := hc_36
      have ni_37 := (fa_le _ _).mp hc_36
      refine lv_iload hx hb d_Model_takes_55 (lv_at hl 1 rfl) ?_
      exact z_zret hx hb hr hlocks (zi_nb hy_34) hP hD hS (Nat.le_of_ble_eq_true rfl) (Nat.le_of_ble_eq_true rfl) d_Model_takes_57 ⟨y_34, rfl, rfl, hy_34⟩
    · have _nhc_36 := hc_36
      have ni_38 := (fa_lt _ _).mp (zi_nle hc_36)
      have hv_39 : zI y_33 0 240 := zI.lt_l hy_33 hv_35 (zi_nle hc_36) (by decide)
      have hv_40 : zI v_35 1 241 := zI.lt_r hy_33 hv_35 (zi_nle hc_36) (by decide)
      refine lv_iload hx hb d_Model_takes_17 (lv_at hl 1 rfl) ?_
      refine lv_if_ne (tgt := 42) hx hb d_Model_takes_19 (by decide) (fun hc_41 => ?_) (fun hc_41 => ?_)
      · have _nhc_41 := hc_41
        have ni_42 : ¬ (y_34 : Int32).toInt = (0 : Int32).toInt := fun z => hc_41 ((fa_eq _ _).mpr z)
        simp only [li_0] at ni_42
        have hv_43 : zI y_34 1 1 := zI.ne_lo hy_34 zc_0 hc_41 (by decide)
        refine lv_iconst (v := 1) hx hb d_Model_takes_42 (by decide) ?_
        refine lv_goto (tgt := 47) hx hb d_Model_takes_43 (by decide) ?_
        refine lv_istore (lv' := [(4, .int 1), (5, .int y_33), (0, .ref b0), (1, .int 0), (2, .ref b1), (3, .int b2)]) hx hb d_Model_takes_47 hl (by decide) rfl (fun ls hl => ?_)
        obtain ⟨v_44, ev_44⟩ : ∃ z : Int32, z = y_33 + 1 := ⟨_, rfl⟩
        obtain ⟨qv_44, hv_44⟩ := zI_add (l := 1) (h := 241) hv_39 zc_1 ev_44 (by decide)
        rw [li_1] at qv_44
        refine lv_iinc (v := v_44) (lv' := [(5, .int v_44), (4, .int 1), (0, .ref b0), (1, .int 0), (2, .ref b1), (3, .int b2)]) hx hb d_Model_takes_49 hl (k := 1) rfl (by rw [ev_44]; rfl) (by decide) rfl (fun ls hl => ?_)
        refine lv_goto (tgt := 6) hx hb d_Model_takes_52 (by decide) ?_
        exact ihk_32 (v_44) (1) _ _ _ (zI.wk (l' := 0) (h' := 241) hv_44 (by decide)) (zI.wk (l' := 0) (h' := 1) zc_1 (by decide)) (zm_up qv_44 hmk_32 (by decide)) hP hD hS (lv_sub hl [0, 1, 2, 3, 4, 5] rfl)
      · have _nhc_41 := hc_41
        have ni_45 := (fa_eq _ _).mp hc_41
        rw [li_0] at ni_45
        have hv_46 : zI y_34 0 0 := zI.eq_l hy_34 zc_0 hc_41
        refine lv_aload_n hx hb d_Model_takes_22 rfl (lv_at hl 4 rfl) ?_
        refine lv_iload_n hx hb d_Model_takes_23 rfl (lv_at hl 5 rfl) ?_
        refine lv_iload hx hb d_Model_takes_24 (lv_at hl 0 rfl) ?_
        refine z_callS (index := 271) (As := [.ref b1, .int b2, .int y_33]) (rest := []) (wr := [(b0, .inr (12, [.int b3, .ref b4, .ref b5, .ref b6, .ref b7, .int b8, .ref b9, .int b10, .int b11, .int b12, .int b13, .ref b14, .ref b15, .ref b16, .int b17, .ref b18, .ref b19, .ref b20, .ref b21, .ref b22, .ref b23, .ref b24, .ref b25, .ref b26, .ref b27, .ref b28, .ref b29, .int b30, .ref b31, .ref b32, .int b33, .int b34, .int b35, .int b36, .ref b37, .ref b38, .ref b39, .ref b40, .ref b41, .ref b42, .ref b43, .int b44, .ref b45, .ref b46, .int b47, .ref b1, .ref b48, .ref b49, .ref b50, .ref b51, .int b52, .ref b53, .ref b54, .ref b55])), (b24, .inl (G.2 0, 2, .inl b56)), (b27, .inl (G.2 0, 482, .inl b57))]) Z (s6_Model_has l G (b1) (b2) (y_33) (b58) hb2 hv_39) hl.1 q1464 q1465 q14 q1466 ⟨by decide, by decide, by show _ = some 3; decide +kernel⟩ ⟨Nat.le_of_ble_eq_true rfl, Nat.le_of_ble_eq_true rfl⟩ ⟨Nat.le_of_ble_eq_true rfl, Nat.le_of_ble_eq_true rfl⟩ rfl (Nat.le_of_ble_eq_true rfl) d_Model_takes_26 hP hD hS hA [3] [0, 1, 2] rfl rfl rfl rfl (by decide) (fun v w1 H locs hw_47 hP hD hS => ?_)
        obtain ⟨x_48, rfl, rfl, hx_48⟩ := hw_47
        have hP : va_P G.1 classes [(b0, .inr (12, [.int b3, .ref b4, .ref b5, .ref b6, .ref b7, .int b8, .ref b9, .int b10, .int b11, .int b12, .int b13, .ref b14, .ref b15, .ref b16, .int b17, .ref b18, .ref b19, .ref b20, .ref b21, .ref b22, .ref b23, .ref b24, .ref b25, .ref b26, .ref b27, .ref b28, .ref b29, .int b30, .ref b31, .ref b32, .int b33, .int b34, .int b35, .int b36, .ref b37, .ref b38, .ref b39, .ref b40, .ref b41, .ref b42, .ref b43, .int b44, .ref b45, .ref b46, .int b47, .ref b1, .ref b48, .ref b49, .ref b50, .ref b51, .int b52, .ref b53, .ref b54, .ref b55])), (b24, .inl (G.2 0, 2, .inl b56)), (b27, .inl (G.2 0, 482, .inl b57)), (b1, .inl (G.2 1, 3208, .inr (.inl b58)))] H := hP
        have hD := z_tie hP hD rfl
        refine W.widen (k := 0) (n := 0) (Nat.le_of_ble_eq_true rfl) (Nat.le_of_ble_eq_true rfl) ?_
        refine lv_if_eq (tgt := 46) hx hb d_Model_takes_29 (by decide) (fun hc_49 => ?_) (fun hc_49 => ?_)
        · have _nhc_49 := hc_49
          have ni_50 := (fa_eq _ _).mp hc_49
          rw [li_0] at ni_50
          have hv_51 : zI x_48 0 0 := zI.eq_l hx_48 zc_0 hc_49
          refine lv_iconst (v := 0) hx hb d_Model_takes_46 (by decide) ?_
          refine lv_istore (lv' := [(4, .int 0), (5, .int y_33), (0, .ref b0), (1, .int 0), (2, .ref b1), (3, .int b2)]) hx hb d_Model_takes_47 hl (by decide) rfl (fun ls hl => ?_)
          obtain ⟨v_52, ev_52⟩ : ∃ z : Int32, z = y_33 + 1 := ⟨_, rfl⟩
          obtain ⟨qv_52, hv_52⟩ := zI_add (l := 1) (h := 241) hv_39 zc_1 ev_52 (by decide)
          rw [li_1] at qv_52
          refine lv_iinc (v := v_52) (lv' := [(5, .int v_52), (4, .int 0), (0, .ref b0), (1, .int 0), (2, .ref b1), (3, .int b2)]) hx hb d_Model_takes_49 hl (k := 1) rfl (by rw [ev_52]; rfl) (by decide) rfl (fun ls hl => ?_)
          refine lv_goto (tgt := 6) hx hb d_Model_takes_52 (by decide) ?_
          exact ihk_32 (v_52) (0) _ _ _ (zI.wk (l' := 0) (h' := 241) hv_52 (by decide)) (zI.wk (l' := 0) (h' := 1) zc_0 (by decide)) (zm_up qv_52 hmk_32 (by decide)) hP hD hS (lv_sub hl [0, 1, 2, 3, 4, 5] rfl)
        · have _nhc_49 := hc_49
          have ni_53 : ¬ (x_48 : Int32).toInt = (0 : Int32).toInt := fun z => hc_49 ((fa_eq _ _).mpr z)
          simp only [li_0] at ni_53
          have hv_54 : zI x_48 1 1 := zI.ne_lo hx_48 zc_0 hc_49 (by decide)
          refine lv_aload_n hx hb d_Model_takes_32 rfl (lv_at hl 2 rfl) ?_
          refine lv_iload_n hx hb d_Model_takes_33 rfl (lv_at hl 3 rfl) ?_
          refine lv_iload hx hb d_Model_takes_34 (lv_at hl 0 rfl) ?_
          refine z_callV (index := 256) (As := [.int 0, .int y_33]) (rest := []) (wr := [(b24, .inl (G.2 0, 2, .inl b56)), (b1, .inl (G.2 1, 3208, .inr (.inl b58)))]) Z (s2_Model_isFinal l G (b0) (y_33) (b3) (b4) (b5) (b6) (b7) (b8) (b9) (b10) (b11) (b12) (b13) (b14) (b15) (b16) (b17) (b18) (b19) (b20) (b21) (b22) (b23) (b24) (b25) (b26) (b27) (b28) (b29) (b30) (b31) (b32) (b33) (b34) (b35) (b36) (b37) (b38) (b39) (b40) (b41) (b42) (b43) (b44) (b45) (b46) (b47) (b1) (b48) (b49) (b50) (b51) (b52) (b53) (b54) (b55) (b57) hv_39 hb8 hb10 hb11 hb13 hb17 hb30 hb33 hb44 hb47 hb52) hl.1 q1420 q1422 qs70 q14 q1423 ⟨by decide, by decide, by show _ = some 2; decide +kernel⟩ ⟨Nat.le_of_ble_eq_true rfl, Nat.le_of_ble_eq_true rfl⟩ ⟨Nat.le_of_ble_eq_true rfl, Nat.le_of_ble_eq_true rfl⟩ rfl (Nat.le_of_ble_eq_true rfl) d_Model_takes_36 hP hD hS hA 0 12 rfl rfl rfl [0, 2] [1, 3] rfl rfl rfl rfl (by decide) (fun v w1 H locs hw_55 hP hD hS => ?_)
          obtain ⟨x_56, rfl, rfl, hx_56⟩ := hw_55
          have hP : va_P G.1 classes [(b24, .inl (G.2 0, 2, .inl b56)), (b1, .inl (G.2 1, 3208, .inr (.inl b58))), (b0, .inr (12, [.int b3, .ref b4, .ref b5, .ref b6, .ref b7, .int b8, .ref b9, .int b10, .int b11, .int b12, .int b13, .ref b14, .ref b15, .ref b16, .int b17, .ref b18, .ref b19, .ref b20, .ref b21, .ref b22, .ref b23, .ref b24, .ref b25, .ref b26, .ref b27, .ref b28, .ref b29, .int b30, .ref b31, .ref b32, .int b33, .int b34, .int b35, .int b36, .ref b37, .ref b38, .ref b39, .ref b40, .ref b41, .ref b42, .ref b43, .int b44, .ref b45, .ref b46, .int b47, .ref b1, .ref b48, .ref b49, .ref b50, .ref b51, .int b52, .ref b53, .ref b54, .ref b55])), (b27, .inl (G.2 0, 482, .inl b57))] H := hP
          have hD := z_tie hP hD rfl
          refine W.widen (k := 0) (n := 0) (Nat.le_of_ble_eq_true rfl) (Nat.le_of_ble_eq_true rfl) ?_
          refine lv_if_eq (tgt := 46) hx hb d_Model_takes_39 (by decide) (fun hc_57 => ?_) (fun hc_57 => ?_)
          · have _nhc_57 := hc_57
            have ni_58 := (fa_eq _ _).mp hc_57
            rw [li_0] at ni_58
            have hv_59 : zI x_56 0 0 := zI.eq_l hx_56 zc_0 hc_57
            refine lv_iconst (v := 0) hx hb d_Model_takes_46 (by decide) ?_
            refine lv_istore (lv' := [(4, .int 0), (5, .int y_33), (0, .ref b0), (1, .int 0), (2, .ref b1), (3, .int b2)]) hx hb d_Model_takes_47 hl (by decide) rfl (fun ls hl => ?_)
            obtain ⟨v_60, ev_60⟩ : ∃ z : Int32, z = y_33 + 1 := ⟨_, rfl⟩
            obtain ⟨qv_60, hv_60⟩ := zI_add (l := 1) (h := 241) hv_39 zc_1 ev_60 (by decide)
            rw [li_1] at qv_60
            refine lv_iinc (v := v_60) (lv' := [(5, .int v_60), (4, .int 0), (0, .ref b0), (1, .int 0), (2, .ref b1), (3, .int b2)]) hx hb d_Model_takes_49 hl (k := 1) rfl (by rw [ev_60]; rfl) (by decide) rfl (fun ls hl => ?_)
            refine lv_goto (tgt := 6) hx hb d_Model_takes_52 (by decide) ?_
            exact ihk_32 (v_60) (0) _ _ _ (zI.wk (l' := 0) (h' := 241) hv_60 (by decide)) (zI.wk (l' := 0) (h' := 1) zc_0 (by decide)) (zm_up qv_60 hmk_32 (by decide)) (hP.sub [2, 0, 3, 1] rfl) (hD.sub [2, 0, 3, 1] (by decide) rfl) hS (lv_sub hl [0, 1, 2, 3, 4, 5] rfl)
          · have _nhc_57 := hc_57
            have ni_61 : ¬ (x_56 : Int32).toInt = (0 : Int32).toInt := fun z => hc_57 ((fa_eq _ _).mpr z)
            simp only [li_0] at ni_61
            have hv_62 : zI x_56 1 1 := zI.ne_lo hx_56 zc_0 hc_57 (by decide)
            refine lv_iconst (v := 1) hx hb d_Model_takes_42 (by decide) ?_
            refine lv_goto (tgt := 47) hx hb d_Model_takes_43 (by decide) ?_
            refine lv_istore (lv' := [(4, .int 1), (5, .int y_33), (0, .ref b0), (1, .int 0), (2, .ref b1), (3, .int b2)]) hx hb d_Model_takes_47 hl (by decide) rfl (fun ls hl => ?_)
            obtain ⟨v_63, ev_63⟩ : ∃ z : Int32, z = y_33 + 1 := ⟨_, rfl⟩
            obtain ⟨qv_63, hv_63⟩ := zI_add (l := 1) (h := 241) hv_39 zc_1 ev_63 (by decide)
            rw [li_1] at qv_63
            refine lv_iinc (v := v_63) (lv' := [(5, .int v_63), (4, .int 1), (0, .ref b0), (1, .int 0), (2, .ref b1), (3, .int b2)]) hx hb d_Model_takes_49 hl (k := 1) rfl (by rw [ev_63]; rfl) (by decide) rfl (fun ls hl => ?_)
            refine lv_goto (tgt := 6) hx hb d_Model_takes_52 (by decide) ?_
            exact ihk_32 (v_63) (1) _ _ _ (zI.wk (l' := 0) (h' := 241) hv_63 (by decide)) (zI.wk (l' := 0) (h' := 1) zc_1 (by decide)) (zm_up qv_63 hmk_32 (by decide)) (hP.sub [2, 0, 3, 1] rfl) (hD.sub [2, 0, 3, 1] (by decide) rfl) hS (lv_sub hl [0, 1, 2, 3, 4, 5] rfl)
abbrev m_s4_Model_isFinal : Room := { frames := 0, cells := 0, slots := 0, locals := 0 }
set_option maxHeartbeats 4000000 in
set_option maxRecDepth 100000 in
theorem s4_Model_isFinal (l : Launch) (G : zG) (b0 : Nat) (b1 : Int32) (b2 : Int32) (b3 : Nat) (b4 : Nat) (b5 : Nat) (b6 : Nat) (b7 : Int32) (b8 : Nat) (b9 : Int32) (b10 : Int32) (b11 : Int32) (b12 : Int32) (b13 : Nat) (b14 : Nat) (b15 : Nat) (b16 : Int32) (b17 : Nat) (b18 : Nat) (b19 : Nat) (b20 : Nat) (b21 : Nat) (b22 : Nat) (b23 : Nat) (b24 : Nat) (b25 : Nat) (b26 : Nat) (b27 : Nat) (b28 : Nat) (b29 : Int32) (b30 : Nat) (b31 : Nat) (b32 : Int32) (b33 : Int32) (b34 : Int32) (b35 : Int32) (b36 : Nat) (b37 : Nat) (b38 : Nat) (b39 : Nat) (b40 : Nat) (b41 : Nat) (b42 : Nat) (b43 : Int32) (b44 : Nat) (b45 : Nat) (b46 : Int32) (b47 : Nat) (b48 : Nat) (b49 : Nat) (b50 : Nat) (b51 : Nat) (b52 : Int32) (b53 : Nat) (b54 : Nat) (b55 : Nat) (b56 : Nat → Int32) (hb1 : zI b1 0 240) (hb7 : zI b7 0 8) (hb9 : zI b9 0 240) (hb10 : zI b10 0 240) (hb12 : zI b12 0 1) (hb16 : zI b16 0 12) (hb29 : zI b29 0 1) (hb32 : zI b32 0 1) (hb43 : zI b43 0 1000) (hb46 : zI b46 0 1000) (hb52 : zI b52 0 400) : zM l G y_Model_isFinal prog_14_method_37_code 3 (Option.some Jvm.ClassFile.FieldType.boolean) m_s4_Model_isFinal [.ref b0, .int 1, .int b1] [(b0, .inr (12, [.int b2, .ref b3, .ref b4, .ref b5, .ref b6, .int b7, .ref b8, .int b9, .int b10, .int b11, .int b12, .ref b13, .ref b14, .ref b15, .int b16, .ref b17, .ref b18, .ref b19, .ref b20, .ref b21, .ref b22, .ref b23, .ref b24, .ref b25, .ref b26, .ref b27, .ref b28, .int b29, .ref b30, .ref b31, .int b32, .int b33, .int b34, .int b35, .ref b36, .ref b37, .ref b38, .ref b39, .ref b40, .ref b41, .ref b42, .int b43, .ref b44, .ref b45, .int b46, .ref b47, .ref b48, .ref b49, .ref b50, .ref b51, .int b52, .ref b53, .ref b54, .ref b55])), (b26, .inl (G.2 0, 482, .inl b56))] (fun v w => ∃ (e0 : Int32), v = some (.int e0) ∧ w = [(b0, .inr (12, [.int b2, .ref b3, .ref b4, .ref b5, .ref b6, .int b7, .ref b8, .int b9, .int b10, .int b11, .int b12, .ref b13, .ref b14, .ref b15, .int b16, .ref b17, .ref b18, .ref b19, .ref b20, .ref b21, .ref b22, .ref b23, .ref b24, .ref b25, .ref b26, .ref b27, .ref b28, .int b29, .ref b30, .ref b31, .int b32, .int b33, .int b34, .int b35, .ref b36, .ref b37, .ref b38, .ref b39, .ref b40, .ref b41, .ref b42, .int b43, .ref b44, .ref b45, .int b46, .ref b47, .ref b48, .ref b49, .ref b50, .ref b51, .int b52, .ref b53, .ref b54, .ref b55])), (b26, .inl (G.2 0, 482, .inl b56))] ∧ (zI e0 0 1)) := by
  refine z_start (by decide +kernel) (Nat.le_of_ble_eq_true rfl) ?_
  intro p e s m below meth c A Z hr hnm hA hP hD hS ls hl
  have Z : zC p s m _ meth c prog_14_method_37_code 3 "TraceMachinesModel" G := Z
  obtain ⟨hx, hb, hml, hown, hts, hK, hN, hlocks⟩ := id Z
  have hl : lv_has ls 3 [(0, .ref b0), (1, .int 1), (2, .int b1)] := hl
  refine lv_aload_n hx hb d_Model_isFinal_0 rfl (lv_at hl 0 rfl) ?_
  refine va_get (D := G.1) (ci := 12) (v := .ref b26) (C := R_Model) (T := F_Model) (N := 54) hx hb hts i_Model hown hK hP 0 rfl rfl 24 (by decide) (hts _ q1133) (fun _ h9 => h9) rfl d_Model_isFinal_1 ?_
  refine lv_sipush (v := 241) hx hb d_Model_isFinal_4 (by decide) ?_
  refine lv_iload_n hx hb d_Model_isFinal_7 rfl (lv_at hl 1 rfl) ?_
  refine lv_imul hx hb d_Model_isFinal_8 ?_
  refine z_topi (y := 241) (by decide +kernel) ?_
  refine lv_iload_n hx hb d_Model_isFinal_9 rfl (lv_at hl 2 rfl) ?_
  refine lv_iadd hx hb d_Model_isFinal_10 ?_
  refine lv_topi (fun v_1 ev_1 => ?_)
  obtain ⟨qv_1, hv_1⟩ := zI_add (l := 241) (h := 481) zc_241 hb1 ev_1 (by decide)
  rw [li_241] at qv_1
  refine va_iald hx hb hK hP 1 0 rfl rfl (zI.inn hv_1 (by decide)) d_Model_isFinal_11 ?_
  refine lv_topi (fun v_2 ev_2 => ?_)
  refine lv_if_le (tgt := 19) hx hb d_Model_isFinal_12 (by decide) (fun hc_3 => ?_) (fun hc_3 => ?_)
  · have _nhc_3 := hc_3
    have ni_4 := (fa_le _ _).mp hc_3
    rw [li_0] at ni_4
    have hv_5 : zI v_2 (-2147483648) 0 := zI.le_l (zI_all v_2) zc_0 hc_3 (by decide)
    refine lv_iconst (v := 0) hx hb d_Model_isFinal_19 (by decide) ?_
    exact z_zret hx hb hr hlocks rfl hP hD hS (Nat.le_of_ble_eq_true rfl) (Nat.le_of_ble_eq_true rfl) d_Model_isFinal_20 ⟨0, rfl, rfl, (zI.wk (l' := 0) (h' := 1) zc_0 (by decide))⟩
  · have _nhc_3 := hc_3
    have ni_6 := (fa_lt _ _).mp (zi_nle hc_3)
    rw [li_0] at ni_6
    have hv_7 : zI v_2 1 2147483647 := zI.lt_r zc_0 (zI_all v_2) (zi_nle hc_3) (by decide)
    refine lv_iconst (v := 1) hx hb d_Model_isFinal_15 (by decide) ?_
    refine lv_goto (tgt := 20) hx hb d_Model_isFinal_16 (by decide) ?_
    exact z_zret hx hb hr hlocks rfl hP hD hS (Nat.le_of_ble_eq_true rfl) (Nat.le_of_ble_eq_true rfl) d_Model_isFinal_20 ⟨1, rfl, rfl, (zI.wk (l' := 0) (h' := 1) zc_1 (by decide))⟩
abbrev m_s8_Model_takes : Room := { frames := 1, cells := 0, slots := 0, locals := 22 }
set_option maxHeartbeats 4000000 in
set_option maxRecDepth 100000 in
theorem s8_Model_takes (l : Launch) (G : zG) (b0 : Nat) (b1 : Nat) (b2 : Int32) (b3 : Int32) (b4 : Nat) (b5 : Nat) (b6 : Nat) (b7 : Nat) (b8 : Int32) (b9 : Nat) (b10 : Int32) (b11 : Int32) (b12 : Int32) (b13 : Int32) (b14 : Nat) (b15 : Nat) (b16 : Nat) (b17 : Int32) (b18 : Nat) (b19 : Nat) (b20 : Nat) (b21 : Nat) (b22 : Nat) (b23 : Nat) (b24 : Nat) (b25 : Nat) (b26 : Nat) (b27 : Nat) (b28 : Nat) (b29 : Nat) (b30 : Int32) (b31 : Nat) (b32 : Nat) (b33 : Int32) (b34 : Int32) (b35 : Int32) (b36 : Int32) (b37 : Nat) (b38 : Nat) (b39 : Nat) (b40 : Nat) (b41 : Nat) (b42 : Nat) (b43 : Nat) (b44 : Int32) (b45 : Nat) (b46 : Nat) (b47 : Int32) (b48 : Nat) (b49 : Nat) (b50 : Nat) (b51 : Nat) (b52 : Int32) (b53 : Nat) (b54 : Nat) (b55 : Nat) (b56 : Nat → Int32) (b57 : Nat → Int32) (b58 : Nat → Int64) (hb2 : zI b2 0 3204) (hb8 : zI b8 0 8) (hb10 : zI b10 0 240) (hb11 : zI b11 0 240) (hb13 : zI b13 0 1) (hb17 : zI b17 0 12) (hb30 : zI b30 0 1) (hb33 : zI b33 0 1) (hb44 : zI b44 0 1000) (hb47 : zI b47 0 1000) (hb52 : zI b52 0 400) (hb56 : zR b56 0 241) : zM l G y_Model_takes prog_14_method_49_code 6 (Option.some Jvm.ClassFile.FieldType.boolean) m_s8_Model_takes [.ref b0, .int 1, .ref b1, .int b2] [(b0, .inr (12, [.int b3, .ref b4, .ref b5, .ref b6, .ref b7, .int b8, .ref b9, .int b10, .int b11, .int b12, .int b13, .ref b14, .ref b15, .ref b16, .int b17, .ref b18, .ref b19, .ref b20, .ref b21, .ref b22, .ref b23, .ref b24, .ref b25, .ref b26, .ref b27, .ref b28, .ref b29, .int b30, .ref b31, .ref b32, .int b33, .int b34, .int b35, .int b36, .ref b37, .ref b38, .ref b39, .ref b40, .ref b41, .ref b42, .ref b43, .int b44, .ref b45, .ref b46, .int b47, .ref b1, .ref b48, .ref b49, .ref b50, .ref b51, .int b52, .ref b53, .ref b54, .ref b55])), (b24, .inl (G.2 0, 2, .inl b56)), (b27, .inl (G.2 0, 482, .inl b57)), (b1, .inl (G.2 1, 3208, .inr (.inl b58)))] (fun v w => ∃ (e0 : Int32), v = some (.int e0) ∧ w = [(b0, .inr (12, [.int b3, .ref b4, .ref b5, .ref b6, .ref b7, .int b8, .ref b9, .int b10, .int b11, .int b12, .int b13, .ref b14, .ref b15, .ref b16, .int b17, .ref b18, .ref b19, .ref b20, .ref b21, .ref b22, .ref b23, .ref b24, .ref b25, .ref b26, .ref b27, .ref b28, .ref b29, .int b30, .ref b31, .ref b32, .int b33, .int b34, .int b35, .int b36, .ref b37, .ref b38, .ref b39, .ref b40, .ref b41, .ref b42, .ref b43, .int b44, .ref b45, .ref b46, .int b47, .ref b1, .ref b48, .ref b49, .ref b50, .ref b51, .int b52, .ref b53, .ref b54, .ref b55])), (b24, .inl (G.2 0, 2, .inl b56)), (b27, .inl (G.2 0, 482, .inl b57)), (b1, .inl (G.2 1, 3208, .inr (.inl b58)))] ∧ (zI e0 0 1)) := by
  refine z_start (by decide +kernel) (Nat.le_of_ble_eq_true rfl) ?_
  intro p e s m below meth c A Z hr hnm hA hP hD hS ls hl
  have Z : zC p s m _ meth c prog_14_method_49_code 6 "TraceMachinesModel" G := Z
  obtain ⟨hx, hb, hml, hown, hts, hK, hN, hlocks⟩ := id Z
  have hl : lv_has ls 6 [(0, .ref b0), (1, .int 1), (2, .ref b1), (3, .int b2)] := hl
  refine lv_iconst (v := 0) hx hb d_Model_takes_0 (by decide) ?_
  refine lv_istore (lv' := [(4, .int 0), (0, .ref b0), (1, .int 1), (2, .ref b1), (3, .int b2)]) hx hb d_Model_takes_1 hl (by decide) rfl (fun ls hl => ?_)
  refine lv_iconst (v := 0) hx hb d_Model_takes_3 (by decide) ?_
  refine lv_istore (lv' := [(5, .int 0), (4, .int 0), (0, .ref b0), (1, .int 1), (2, .ref b1), (3, .int b2)]) hx hb d_Model_takes_4 hl (by decide) rfl (fun ls hl => ?_)
  suffices key : ∀ (k_32 : Nat) (y_33 : Int32) (y_34 : Int32) (H : Heap) (locs : List Loc) (ls : Array Slot), (zI y_33 0 241) → (zI y_34 0 1) → (241 : Int) - y_33.toInt < (k_32 : Int) → va_P G.1 classes [(b0, .inr (12, [.int b3, .ref b4, .ref b5, .ref b6, .ref b7, .int b8, .ref b9, .int b10, .int b11, .int b12, .int b13, .ref b14, .ref b15, .ref b16, .int b17, .ref b18, .ref b19, .ref b20, .ref b21, .ref b22, .ref b23, .ref b24, .ref b25, .ref b26, .ref b27, .ref b28, .ref b29, .int b30, .ref b31, .ref b32, .int b33, .int b34, .int b35, .int b36, .ref b37, .ref b38, .ref b39, .ref b40, .ref b41, .ref b42, .ref b43, .int b44, .ref b45, .ref b46, .int b47, .ref b1, .ref b48, .ref b49, .ref b50, .ref b51, .int b52, .ref b53, .ref b54, .ref b55])), (b24, .inl (G.2 0, 2, .inl b56)), (b27, .inl (G.2 0, 482, .inl b57)), (b1, .inl (G.2 1, 3208, .inr (.inl b58)))] H → va_D A [(b0, .inr (12, [.int b3, .ref b4, .ref b5, .ref b6, .ref b7, .int b8, .ref b9, .int b10, .int b11, .int b12, .int b13, .ref b14, .ref b15, .ref b16, .int b17, .ref b18, .ref b19, .ref b20, .ref b21, .ref b22, .ref b23, .ref b24, .ref b25, .ref b26, .ref b27, .ref b28, .ref b29, .int b30, .ref b31, .ref b32, .int b33, .int b34, .int b35, .int b36, .ref b37, .ref b38, .ref b39, .ref b40, .ref b41, .ref b42, .ref b43, .int b44, .ref b45, .ref b46, .int b47, .ref b1, .ref b48, .ref b49, .ref b50, .ref b51, .int b52, .ref b53, .ref b54, .ref b55])), (b24, .inl (G.2 0, 2, .inl b56)), (b27, .inl (G.2 0, 482, .inl b57)), (b1, .inl (G.2 1, 3208, .inr (.inl b58)))] → va_S A s.heap H locs → lv_has ls 6 [(5, .int y_33), (4, .int y_34), (0, .ref b0), (1, .int 1), (2, .ref b1), (3, .int b2)] → W p l e m_s8_Model_takes s m ([.ref b0, .int 1, .ref b1, .int b2] : List Value).toArray below meth c H locs 0 0 (MQ below (zQ G (fun v w => ∃ (e0 : Int32), v = some (.int e0) ∧ w = [(b0, .inr (12, [.int b3, .ref b4, .ref b5, .ref b6, .ref b7, .int b8, .ref b9, .int b10, .int b11, .int b12, .int b13, .ref b14, .ref b15, .ref b16, .int b17, .ref b18, .ref b19, .ref b20, .ref b21, .ref b22, .ref b23, .ref b24, .ref b25, .ref b26, .ref b27, .ref b28, .ref b29, .int b30, .ref b31, .ref b32, .int b33, .int b34, .int b35, .int b36, .ref b37, .ref b38, .ref b39, .ref b40, .ref b41, .ref b42, .ref b43, .int b44, .ref b45, .ref b46, .int b47, .ref b1, .ref b48, .ref b49, .ref b50, .ref b51, .int b52, .ref b53, .ref b54, .ref b55])), (b24, .inl (G.2 0, 2, .inl b56)), (b27, .inl (G.2 0, 482, .inl b57)), (b1, .inl (G.2 1, 3208, .inr (.inl b58)))] ∧ (zI e0 0 1)) A) ([.ref b0, .int 1, .ref b1, .int b2] : List Value).toArray s m_s8_Model_takes.cells m_s8_Model_takes.slots A) (F0 m 6 ls []) by
    exact key 242 (0) (0) _ _ _ (zI.wk (l' := 0) (h' := 241) zc_0 (by decide)) (zI.wk (l' := 0) (h' := 1) zc_0 (by decide)) (zm_upi (zI.wk (l' := 0) (h' := 241) zc_0 (by decide)) (by decide)) hP hD hS (lv_sub hl [0, 1, 2, 3, 4, 5] rfl)
  intro k_32
  induction k_32 with
  | zero =>
    intro y_33 y_34 H locs ls hy_33 hy_34 hmk_32 hP hD hS hl
    exact (zm_up0 hy_33 hmk_32).elim
  | succ k_32 ihk_32 =>
    intro y_33 y_34 H locs ls hy_33 hy_34 hmk_32 hP hD hS hl
    refine lv_iload hx hb d_Model_takes_6 (lv_at hl 0 rfl) ?_
    refine lv_aload_n hx hb d_Model_takes_8 rfl (lv_at hl 2 rfl) ?_
    refine va_get (D := G.1) (ci := 12) (v := .ref b24) (C := R_Model) (T := F_Model) (N := 54) hx hb hts i_Model hown hK hP 0 rfl rfl 21 (by decide) (hts _ q1130) (fun _ h9 => h9) rfl d_Model_takes_9 ?_
    refine lv_iload_n hx hb d_Model_takes_12 rfl (lv_at hl 3 rfl) ?_
    refine va_iald hx hb hK hP 1 0 rfl rfl (i := 1) (z_in rfl) d_Model_takes_13 ?_
    refine lv_topi (fun v_35 ev_35 => ?_)
    have hv_35 : zI v_35 0 241 := (hb56 _).eq ev_35
    refine lv_icmp_ge (tgt := 55) hx hb d_Model_takes_14 (by decide) (fun hc_36 => ?_) (fun hc_36 => ?_)
    · have _nhc_36 := hc_36
      have ni_37 := (fa_le _ _).mp hc_36
      refine lv_iload hx hb d_Model_takes_55 (lv_at hl 1 rfl) ?_
      exact z_zret hx hb hr hlocks (zi_nb hy_34) hP hD hS (Nat.le_of_ble_eq_true rfl) (Nat.le_of_ble_eq_true rfl) d_Model_takes_57 ⟨y_34, rfl, rfl, hy_34⟩
    · have _nhc_36 := hc_36
      have ni_38 := (fa_lt _ _).mp (zi_nle hc_36)
      have hv_39 : zI y_33 0 240 := zI.lt_l hy_33 hv_35 (zi_nle hc_36) (by decide)
      have hv_40 : zI v_35 1 241 := zI.lt_r hy_33 hv_35 (zi_nle hc_36) (by decide)
      refine lv_iload hx hb d_Model_takes_17 (lv_at hl 1 rfl) ?_
      refine lv_if_ne (tgt := 42) hx hb d_Model_takes_19 (by decide) (fun hc_41 => ?_) (fun hc_41 => ?_)
      · have _nhc_41 := hc_41
        have ni_42 : ¬ (y_34 : Int32).toInt = (0 : Int32).toInt := fun z => hc_41 ((fa_eq _ _).mpr z)
        simp only [li_0] at ni_42
        have hv_43 : zI y_34 1 1 := zI.ne_lo hy_34 zc_0 hc_41 (by decide)
        refine lv_iconst (v := 1) hx hb d_Model_takes_42 (by decide) ?_
        refine lv_goto (tgt := 47) hx hb d_Model_takes_43 (by decide) ?_
        refine lv_istore (lv' := [(4, .int 1), (5, .int y_33), (0, .ref b0), (1, .int 1), (2, .ref b1), (3, .int b2)]) hx hb d_Model_takes_47 hl (by decide) rfl (fun ls hl => ?_)
        obtain ⟨v_44, ev_44⟩ : ∃ z : Int32, z = y_33 + 1 := ⟨_, rfl⟩
        obtain ⟨qv_44, hv_44⟩ := zI_add (l := 1) (h := 241) hv_39 zc_1 ev_44 (by decide)
        rw [li_1] at qv_44
        refine lv_iinc (v := v_44) (lv' := [(5, .int v_44), (4, .int 1), (0, .ref b0), (1, .int 1), (2, .ref b1), (3, .int b2)]) hx hb d_Model_takes_49 hl (k := 1) rfl (by rw [ev_44]; rfl) (by decide) rfl (fun ls hl => ?_)
        refine lv_goto (tgt := 6) hx hb d_Model_takes_52 (by decide) ?_
        exact ihk_32 (v_44) (1) _ _ _ (zI.wk (l' := 0) (h' := 241) hv_44 (by decide)) (zI.wk (l' := 0) (h' := 1) zc_1 (by decide)) (zm_up qv_44 hmk_32 (by decide)) hP hD hS (lv_sub hl [0, 1, 2, 3, 4, 5] rfl)
      · have _nhc_41 := hc_41
        have ni_45 := (fa_eq _ _).mp hc_41
        rw [li_0] at ni_45
        have hv_46 : zI y_34 0 0 := zI.eq_l hy_34 zc_0 hc_41
        refine lv_aload_n hx hb d_Model_takes_22 rfl (lv_at hl 4 rfl) ?_
        refine lv_iload_n hx hb d_Model_takes_23 rfl (lv_at hl 5 rfl) ?_
        refine lv_iload hx hb d_Model_takes_24 (lv_at hl 0 rfl) ?_
        refine z_callS (index := 271) (As := [.ref b1, .int b2, .int y_33]) (rest := []) (wr := [(b0, .inr (12, [.int b3, .ref b4, .ref b5, .ref b6, .ref b7, .int b8, .ref b9, .int b10, .int b11, .int b12, .int b13, .ref b14, .ref b15, .ref b16, .int b17, .ref b18, .ref b19, .ref b20, .ref b21, .ref b22, .ref b23, .ref b24, .ref b25, .ref b26, .ref b27, .ref b28, .ref b29, .int b30, .ref b31, .ref b32, .int b33, .int b34, .int b35, .int b36, .ref b37, .ref b38, .ref b39, .ref b40, .ref b41, .ref b42, .ref b43, .int b44, .ref b45, .ref b46, .int b47, .ref b1, .ref b48, .ref b49, .ref b50, .ref b51, .int b52, .ref b53, .ref b54, .ref b55])), (b24, .inl (G.2 0, 2, .inl b56)), (b27, .inl (G.2 0, 482, .inl b57))]) Z (s6_Model_has l G (b1) (b2) (y_33) (b58) hb2 hv_39) hl.1 q1464 q1465 q14 q1466 ⟨by decide, by decide, by show _ = some 3; decide +kernel⟩ ⟨Nat.le_of_ble_eq_true rfl, Nat.le_of_ble_eq_true rfl⟩ ⟨Nat.le_of_ble_eq_true rfl, Nat.le_of_ble_eq_true rfl⟩ rfl (Nat.le_of_ble_eq_true rfl) d_Model_takes_26 hP hD hS hA [3] [0, 1, 2] rfl rfl rfl rfl (by decide) (fun v w1 H locs hw_47 hP hD hS => ?_)
        obtain ⟨x_48, rfl, rfl, hx_48⟩ := hw_47
        have hP : va_P G.1 classes [(b0, .inr (12, [.int b3, .ref b4, .ref b5, .ref b6, .ref b7, .int b8, .ref b9, .int b10, .int b11, .int b12, .int b13, .ref b14, .ref b15, .ref b16, .int b17, .ref b18, .ref b19, .ref b20, .ref b21, .ref b22, .ref b23, .ref b24, .ref b25, .ref b26, .ref b27, .ref b28, .ref b29, .int b30, .ref b31, .ref b32, .int b33, .int b34, .int b35, .int b36, .ref b37, .ref b38, .ref b39, .ref b40, .ref b41, .ref b42, .ref b43, .int b44, .ref b45, .ref b46, .int b47, .ref b1, .ref b48, .ref b49, .ref b50, .ref b51, .int b52, .ref b53, .ref b54, .ref b55])), (b24, .inl (G.2 0, 2, .inl b56)), (b27, .inl (G.2 0, 482, .inl b57)), (b1, .inl (G.2 1, 3208, .inr (.inl b58)))] H := hP
        have hD := z_tie hP hD rfl
        refine W.widen (k := 0) (n := 0) (Nat.le_of_ble_eq_true rfl) (Nat.le_of_ble_eq_true rfl) ?_
        refine lv_if_eq (tgt := 46) hx hb d_Model_takes_29 (by decide) (fun hc_49 => ?_) (fun hc_49 => ?_)
        · have _nhc_49 := hc_49
          have ni_50 := (fa_eq _ _).mp hc_49
          rw [li_0] at ni_50
          have hv_51 : zI x_48 0 0 := zI.eq_l hx_48 zc_0 hc_49
          refine lv_iconst (v := 0) hx hb d_Model_takes_46 (by decide) ?_
          refine lv_istore (lv' := [(4, .int 0), (5, .int y_33), (0, .ref b0), (1, .int 1), (2, .ref b1), (3, .int b2)]) hx hb d_Model_takes_47 hl (by decide) rfl (fun ls hl => ?_)
          obtain ⟨v_52, ev_52⟩ : ∃ z : Int32, z = y_33 + 1 := ⟨_, rfl⟩
          obtain ⟨qv_52, hv_52⟩ := zI_add (l := 1) (h := 241) hv_39 zc_1 ev_52 (by decide)
          rw [li_1] at qv_52
          refine lv_iinc (v := v_52) (lv' := [(5, .int v_52), (4, .int 0), (0, .ref b0), (1, .int 1), (2, .ref b1), (3, .int b2)]) hx hb d_Model_takes_49 hl (k := 1) rfl (by rw [ev_52]; rfl) (by decide) rfl (fun ls hl => ?_)
          refine lv_goto (tgt := 6) hx hb d_Model_takes_52 (by decide) ?_
          exact ihk_32 (v_52) (0) _ _ _ (zI.wk (l' := 0) (h' := 241) hv_52 (by decide)) (zI.wk (l' := 0) (h' := 1) zc_0 (by decide)) (zm_up qv_52 hmk_32 (by decide)) hP hD hS (lv_sub hl [0, 1, 2, 3, 4, 5] rfl)
        · have _nhc_49 := hc_49
          have ni_53 : ¬ (x_48 : Int32).toInt = (0 : Int32).toInt := fun z => hc_49 ((fa_eq _ _).mpr z)
          simp only [li_0] at ni_53
          have hv_54 : zI x_48 1 1 := zI.ne_lo hx_48 zc_0 hc_49 (by decide)
          refine lv_aload_n hx hb d_Model_takes_32 rfl (lv_at hl 2 rfl) ?_
          refine lv_iload_n hx hb d_Model_takes_33 rfl (lv_at hl 3 rfl) ?_
          refine lv_iload hx hb d_Model_takes_34 (lv_at hl 0 rfl) ?_
          refine z_callV (index := 256) (As := [.int 1, .int y_33]) (rest := []) (wr := [(b24, .inl (G.2 0, 2, .inl b56)), (b1, .inl (G.2 1, 3208, .inr (.inl b58)))]) Z (s4_Model_isFinal l G (b0) (y_33) (b3) (b4) (b5) (b6) (b7) (b8) (b9) (b10) (b11) (b12) (b13) (b14) (b15) (b16) (b17) (b18) (b19) (b20) (b21) (b22) (b23) (b24) (b25) (b26) (b27) (b28) (b29) (b30) (b31) (b32) (b33) (b34) (b35) (b36) (b37) (b38) (b39) (b40) (b41) (b42) (b43) (b44) (b45) (b46) (b47) (b1) (b48) (b49) (b50) (b51) (b52) (b53) (b54) (b55) (b57) hv_39 hb8 hb10 hb11 hb13 hb17 hb30 hb33 hb44 hb47 hb52) hl.1 q1420 q1422 qs70 q14 q1423 ⟨by decide, by decide, by show _ = some 2; decide +kernel⟩ ⟨Nat.le_of_ble_eq_true rfl, Nat.le_of_ble_eq_true rfl⟩ ⟨Nat.le_of_ble_eq_true rfl, Nat.le_of_ble_eq_true rfl⟩ rfl (Nat.le_of_ble_eq_true rfl) d_Model_takes_36 hP hD hS hA 0 12 rfl rfl rfl [0, 2] [1, 3] rfl rfl rfl rfl (by decide) (fun v w1 H locs hw_55 hP hD hS => ?_)
          obtain ⟨x_56, rfl, rfl, hx_56⟩ := hw_55
          have hP : va_P G.1 classes [(b24, .inl (G.2 0, 2, .inl b56)), (b1, .inl (G.2 1, 3208, .inr (.inl b58))), (b0, .inr (12, [.int b3, .ref b4, .ref b5, .ref b6, .ref b7, .int b8, .ref b9, .int b10, .int b11, .int b12, .int b13, .ref b14, .ref b15, .ref b16, .int b17, .ref b18, .ref b19, .ref b20, .ref b21, .ref b22, .ref b23, .ref b24, .ref b25, .ref b26, .ref b27, .ref b28, .ref b29, .int b30, .ref b31, .ref b32, .int b33, .int b34, .int b35, .int b36, .ref b37, .ref b38, .ref b39, .ref b40, .ref b41, .ref b42, .ref b43, .int b44, .ref b45, .ref b46, .int b47, .ref b1, .ref b48, .ref b49, .ref b50, .ref b51, .int b52, .ref b53, .ref b54, .ref b55])), (b27, .inl (G.2 0, 482, .inl b57))] H := hP
          have hD := z_tie hP hD rfl
          refine W.widen (k := 0) (n := 0) (Nat.le_of_ble_eq_true rfl) (Nat.le_of_ble_eq_true rfl) ?_
          refine lv_if_eq (tgt := 46) hx hb d_Model_takes_39 (by decide) (fun hc_57 => ?_) (fun hc_57 => ?_)
          · have _nhc_57 := hc_57
            have ni_58 := (fa_eq _ _).mp hc_57
            rw [li_0] at ni_58
            have hv_59 : zI x_56 0 0 := zI.eq_l hx_56 zc_0 hc_57
            refine lv_iconst (v := 0) hx hb d_Model_takes_46 (by decide) ?_
            refine lv_istore (lv' := [(4, .int 0), (5, .int y_33), (0, .ref b0), (1, .int 1), (2, .ref b1), (3, .int b2)]) hx hb d_Model_takes_47 hl (by decide) rfl (fun ls hl => ?_)
            obtain ⟨v_60, ev_60⟩ : ∃ z : Int32, z = y_33 + 1 := ⟨_, rfl⟩
            obtain ⟨qv_60, hv_60⟩ := zI_add (l := 1) (h := 241) hv_39 zc_1 ev_60 (by decide)
            rw [li_1] at qv_60
            refine lv_iinc (v := v_60) (lv' := [(5, .int v_60), (4, .int 0), (0, .ref b0), (1, .int 1), (2, .ref b1), (3, .int b2)]) hx hb d_Model_takes_49 hl (k := 1) rfl (by rw [ev_60]; rfl) (by decide) rfl (fun ls hl => ?_)
            refine lv_goto (tgt := 6) hx hb d_Model_takes_52 (by decide) ?_
            exact ihk_32 (v_60) (0) _ _ _ (zI.wk (l' := 0) (h' := 241) hv_60 (by decide)) (zI.wk (l' := 0) (h' := 1) zc_0 (by decide)) (zm_up qv_60 hmk_32 (by decide)) (hP.sub [2, 0, 3, 1] rfl) (hD.sub [2, 0, 3, 1] (by decide) rfl) hS (lv_sub hl [0, 1, 2, 3, 4, 5] rfl)
          · have _nhc_57 := hc_57
            have ni_61 : ¬ (x_56 : Int32).toInt = (0 : Int32).toInt := fun z => hc_57 ((fa_eq _ _).mpr z)
            simp only [li_0] at ni_61
            have hv_62 : zI x_56 1 1 := zI.ne_lo hx_56 zc_0 hc_57 (by decide)
            refine lv_iconst (v := 1) hx hb d_Model_takes_42 (by decide) ?_
            refine lv_goto (tgt := 47) hx hb d_Model_takes_43 (by decide) ?_
            refine lv_istore (lv' := [(4, .int 1), (5, .int y_33), (0, .ref b0), (1, .int 1), (2, .ref b1), (3, .int b2)]) hx hb d_Model_takes_47 hl (by decide) rfl (fun ls hl => ?_)
            obtain ⟨v_63, ev_63⟩ : ∃ z : Int32, z = y_33 + 1 := ⟨_, rfl⟩
            obtain ⟨qv_63, hv_63⟩ := zI_add (l := 1) (h := 241) hv_39 zc_1 ev_63 (by decide)
            rw [li_1] at qv_63
            refine lv_iinc (v := v_63) (lv' := [(5, .int v_63), (4, .int 1), (0, .ref b0), (1, .int 1), (2, .ref b1), (3, .int b2)]) hx hb d_Model_takes_49 hl (k := 1) rfl (by rw [ev_63]; rfl) (by decide) rfl (fun ls hl => ?_)
            refine lv_goto (tgt := 6) hx hb d_Model_takes_52 (by decide) ?_
            exact ihk_32 (v_63) (1) _ _ _ (zI.wk (l' := 0) (h' := 241) hv_63 (by decide)) (zI.wk (l' := 0) (h' := 1) zc_1 (by decide)) (zm_up qv_63 hmk_32 (by decide)) (hP.sub [2, 0, 3, 1] rfl) (hD.sub [2, 0, 3, 1] (by decide) rfl) hS (lv_sub hl [0, 1, 2, 3, 4, 5] rfl)
abbrev m_s12_Model_step : Room := { frames := 1, cells := 0, slots := 0, locals := 25 }
set_option maxHeartbeats 4000000 in
set_option maxRecDepth 100000 in
theorem s12_Model_step (l : Launch) (G : zG) (b0 : Nat) (b1 : Nat) (b2 : Int32) (b3 : Int32) (b4 : Int32) (b5 : Int32) (b6 : Int32) (b7 : Nat) (b8 : Nat) (b9 : Nat) (b10 : Nat) (b11 : Int32) (b12 : Nat) (b13 : Int32) (b14 : Int32) (b15 : Int32) (b16 : Int32) (b17 : Nat) (b18 : Nat) (b19 : Nat) (b20 : Int32) (b21 : Nat) (b22 : Nat) (b23 : Nat) (b24 : Nat) (b25 : Nat) (b26 : Nat) (b27 : Nat) (b28 : Nat) (b29 : Nat) (b30 : Nat) (b31 : Nat) (b32 : Nat) (b33 : Int32) (b34 : Nat) (b35 : Nat) (b36 : Int32) (b37 : Int32) (b38 : Int32) (b39 : Int32) (b40 : Nat) (b41 : Nat) (b42 : Nat) (b43 : Nat) (b44 : Nat) (b45 : Nat) (b46 : Nat) (b47 : Int32) (b48 : Nat) (b49 : Nat) (b50 : Int32) (b51 : Nat) (b52 : Nat) (b53 : Nat) (b54 : Nat) (b55 : Int32) (b56 : Nat) (b57 : Nat) (b58 : Nat) (b59 : Nat → Int32) (b60 : Nat → Int32) (b61 : Nat → Int32) (b62 : Nat → Int64) (b63 : Nat → Int64) (hb2 : zI b2 0 3204) (hb3 : zI b3 0 9) (hb4 : zI b4 0 0) (hb5 : zI b5 0 1) (hb11 : zI b11 0 8) (hb13 : zI b13 0 240) (hb14 : zI b14 0 240) (hb16 : zI b16 0 1) (hb20 : zI b20 0 12) (hb33 : zI b33 0 1) (hb36 : zI b36 0 1) (hb47 : zI b47 0 1000) (hb50 : zI b50 0 1000) (hb55 : zI b55 0 400) (hb59 : zW5 b59) (hb60 : zR b60 0 240) (hb61 : zqa qE b61) : zM l G y_Model_step prog_14_method_47_code 11 (Option.none : Option Jvm.ClassFile.FieldType) m_s12_Model_step [.ref b0, .int 0, .ref b1, .int b2, .int b3, .int b4, .int b5] [(b0, .inr (12, [.int b6, .ref b7, .ref b8, .ref b9, .ref b10, .int b11, .ref b12, .int b13, .int b14, .int b15, .int b16, .ref b17, .ref b18, .ref b19, .int b20, .ref b21, .ref b22, .ref b23, .ref b24, .ref b25, .ref b26, .ref b27, .ref b28, .ref b29, .ref b30, .ref b31, .ref b32, .int b33, .ref b34, .ref b35, .int b36, .int b37, .int b38, .int b39, .ref b40, .ref b41, .ref b42, .ref b43, .ref b44, .ref b45, .ref b46, .int b47, .ref b48, .ref b49, .int b50, .ref b1, .ref b51, .ref b52, .ref b53, .ref b54, .int b55, .ref b56, .ref b57, .ref b58])), (b7, .inl (G.2 0, 503, .inl b59)), (b31, .inl (G.2 0, 2, .inl b60)), (b32, .inl (G.2 0, 2880, .inl b61)), (b35, .inl (G.2 1, 4, .inr (.inl b62))), (b1, .inl (G.2 1, 3208, .inr (.inl b63)))] (fun v w => ∃ (e0 : Nat → Int64), v = none ∧ w = [(b0, .inr (12, [.int b6, .ref b7, .ref b8, .ref b9, .ref b10, .int b11, .ref b12, .int b13, .int b14, .int b15, .int b16, .ref b17, .ref b18, .ref b19, .int b20, .ref b21, .ref b22, .ref b23, .ref b24, .ref b25, .ref b26, .ref b27, .ref b28, .ref b29, .ref b30, .ref b31, .ref b32, .int b33, .ref b34, .ref b35, .int b36, .int b37, .int b38, .int b39, .ref b40, .ref b41, .ref b42, .ref b43, .ref b44, .ref b45, .ref b46, .int b47, .ref b48, .ref b49, .int b50, .ref b1, .ref b51, .ref b52, .ref b53, .ref b54, .int b55, .ref b56, .ref b57, .ref b58])), (b7, .inl (G.2 0, 503, .inl b59)), (b31, .inl (G.2 0, 2, .inl b60)), (b32, .inl (G.2 0, 2880, .inl b61)), (b35, .inl (G.2 1, 4, .inr (.inl e0))), (b1, .inl (G.2 1, 3208, .inr (.inl b63)))]) := by
  refine z_start (by decide +kernel) (Nat.le_of_ble_eq_true rfl) ?_
  intro p e s m below meth c A Z hr hnm hA hP hD hS ls hl
  have Z : zC p s m _ meth c prog_14_method_47_code 11 "TraceMachinesModel" G := Z
  obtain ⟨hx, hb, hml, hown, hts, hK, hN, hlocks⟩ := id Z
  have hl : lv_has ls 11 [(0, .ref b0), (1, .int 0), (2, .ref b1), (3, .int b2), (4, .int b3), (5, .int b4), (6, .int b5)] := hl
  refine lv_iconst (v := 0) hx hb d_Model_step_0 (by decide) ?_
  refine lv_istore (lv' := [(7, .int 0), (0, .ref b0), (1, .int 0), (2, .ref b1), (3, .int b2), (4, .int b3), (5, .int b4), (6, .int b5)]) hx hb d_Model_step_1 hl (by decide) rfl (fun ls hl => ?_)
  suffices key : ∀ (k_207 : Nat) (y_208 : Int32) (y_209 : Nat → Int64) (H : Heap) (locs : List Loc) (ls : Array Slot), (zI y_208 0 4) → (4 : Int) - y_208.toInt < (k_207 : Int) → va_P G.1 classes [(b0, .inr (12, [.int b6, .ref b7, .ref b8, .ref b9, .ref b10, .int b11, .ref b12, .int b13, .int b14, .int b15, .int b16, .ref b17, .ref b18, .ref b19, .int b20, .ref b21, .ref b22, .ref b23, .ref b24, .ref b25, .ref b26, .ref b27, .ref b28, .ref b29, .ref b30, .ref b31, .ref b32, .int b33, .ref b34, .ref b35, .int b36, .int b37, .int b38, .int b39, .ref b40, .ref b41, .ref b42, .ref b43, .ref b44, .ref b45, .ref b46, .int b47, .ref b48, .ref b49, .int b50, .ref b1, .ref b51, .ref b52, .ref b53, .ref b54, .int b55, .ref b56, .ref b57, .ref b58])), (b7, .inl (G.2 0, 503, .inl b59)), (b31, .inl (G.2 0, 2, .inl b60)), (b32, .inl (G.2 0, 2880, .inl b61)), (b35, .inl (G.2 1, 4, .inr (.inl y_209))), (b1, .inl (G.2 1, 3208, .inr (.inl b63)))] H → va_D A [(b0, .inr (12, [.int b6, .ref b7, .ref b8, .ref b9, .ref b10, .int b11, .ref b12, .int b13, .int b14, .int b15, .int b16, .ref b17, .ref b18, .ref b19, .int b20, .ref b21, .ref b22, .ref b23, .ref b24, .ref b25, .ref b26, .ref b27, .ref b28, .ref b29, .ref b30, .ref b31, .ref b32, .int b33, .ref b34, .ref b35, .int b36, .int b37, .int b38, .int b39, .ref b40, .ref b41, .ref b42, .ref b43, .ref b44, .ref b45, .ref b46, .int b47, .ref b48, .ref b49, .int b50, .ref b1, .ref b51, .ref b52, .ref b53, .ref b54, .int b55, .ref b56, .ref b57, .ref b58])), (b7, .inl (G.2 0, 503, .inl b59)), (b31, .inl (G.2 0, 2, .inl b60)), (b32, .inl (G.2 0, 2880, .inl b61)), (b35, .inl (G.2 1, 4, .inr (.inl y_209))), (b1, .inl (G.2 1, 3208, .inr (.inl b63)))] → va_S A s.heap H locs → lv_has ls 11 [(7, .int y_208), (0, .ref b0), (1, .int 0), (2, .ref b1), (3, .int b2), (4, .int b3), (5, .int b4), (6, .int b5)] → W p l e m_s12_Model_step s m ([.ref b0, .int 0, .ref b1, .int b2, .int b3, .int b4, .int b5] : List Value).toArray below meth c H locs 0 0 (MQ below (zQ G (fun v w => ∃ (e0 : Nat → Int64), v = none ∧ w = [(b0, .inr (12, [.int b6, .ref b7, .ref b8, .ref b9, .ref b10, .int b11, .ref b12, .int b13, .int b14, .int b15, .int b16, .ref b17, .ref b18, .ref b19, .int b20, .ref b21, .ref b22, .ref b23, .ref b24, .ref b25, .ref b26, .ref b27, .ref b28, .ref b29, .ref b30, .ref b31, .ref b32, .int b33, .ref b34, .ref b35, .int b36, .int b37, .int b38, .int b39, .ref b40, .ref b41, .ref b42, .ref b43, .ref b44, .ref b45, .ref b46, .int b47, .ref b48, .ref b49, .int b50, .ref b1, .ref b51, .ref b52, .ref b53, .ref b54, .int b55, .ref b56, .ref b57, .ref b58])), (b7, .inl (G.2 0, 503, .inl b59)), (b31, .inl (G.2 0, 2, .inl b60)), (b32, .inl (G.2 0, 2880, .inl b61)), (b35, .inl (G.2 1, 4, .inr (.inl e0))), (b1, .inl (G.2 1, 3208, .inr (.inl b63)))]) A) ([.ref b0, .int 0, .ref b1, .int b2, .int b3, .int b4, .int b5] : List Value).toArray s m_s12_Model_step.cells m_s12_Model_step.slots A) (F0 m 3 ls []) by
    exact key 5 (0) (b62) _ _ _ (zI.wk (l' := 0) (h' := 4) zc_0 (by decide)) (zm_upi (zI.wk (l' := 0) (h' := 4) zc_0 (by decide)) (by decide)) hP hD hS (lv_sub hl [0, 1, 2, 3, 4, 5, 6, 7] rfl)
  intro k_207
  induction k_207 with
  | zero =>
    intro y_208 y_209 H locs ls hy_208 hmk_207 hP hD hS hl
    exact (zm_up0 hy_208 hmk_207).elim
  | succ k_207 ihk_207 =>
    intro y_208 y_209 H locs ls hy_208 hmk_207 hP hD hS hl
    refine lv_iload hx hb d_Model_step_3 (lv_at hl 0 rfl) ?_
    refine lv_iconst (v := 4) hx hb d_Model_step_5 (by decide) ?_
    refine lv_icmp_ge (tgt := 23) hx hb d_Model_step_6 (by decide) (fun hc_210 => ?_) (fun hc_210 => ?_)
    · have _nhc_210 := hc_210
      have ni_211 := (fa_le _ _).mp hc_210
      rw [li_4] at ni_211
      have hv_212 : zI y_208 4 4 := zI.le_r zc_4 hy_208 hc_210 (by decide)
      refine lv_aload_n hx hb d_Model_step_23 rfl (lv_at hl 1 rfl) ?_
      refine va_get (D := G.1) (ci := 12) (v := .ref b7) (C := R_Model) (T := F_Model) (N := 54) hx hb hts i_Model hown hK hP 0 rfl rfl 1 (by decide) (hts _ q1110) (fun _ h9 => h9) rfl d_Model_step_24 ?_
      refine lv_sipush (v := 502) hx hb d_Model_step_27 (by decide) ?_
      refine va_iald hx hb hK hP 1 0 rfl rfl (i := 502) (z_in rfl) d_Model_step_30 ?_
      refine lv_topi (fun v_213 ev_213 => ?_)
      have hv_213 : zI v_213 0 20 := zW5.ld hb59 zc_502 ev_213 (by decide)
      refine lv_istore (lv' := [(7, .int v_213), (0, .ref b0), (1, .int 0), (2, .ref b1), (3, .int b2), (4, .int b3), (5, .int b4), (6, .int b5)]) hx hb d_Model_step_31 hl (by decide) rfl (fun ls hl => ?_)
      refine lv_iconst (v := 0) hx hb d_Model_step_33 (by decide) ?_
      refine lv_istore (lv' := [(8, .int 0), (7, .int v_213), (0, .ref b0), (1, .int 0), (2, .ref b1), (3, .int b2), (4, .int b3), (5, .int b4), (6, .int b5)]) hx hb d_Model_step_34 hl (by decide) rfl (fun ls hl => ?_)
      suffices key : ∀ (k_312 : Nat) (y_313 : Int32) (y_314 : Nat → Int64) (H : Heap) (locs : List Loc) (ls : Array Slot), (zI y_313 0 240) → (240 : Int) - y_313.toInt < (k_312 : Int) → va_P G.1 classes [(b0, .inr (12, [.int b6, .ref b7, .ref b8, .ref b9, .ref b10, .int b11, .ref b12, .int b13, .int b14, .int b15, .int b16, .ref b17, .ref b18, .ref b19, .int b20, .ref b21, .ref b22, .ref b23, .ref b24, .ref b25, .ref b26, .ref b27, .ref b28, .ref b29, .ref b30, .ref b31, .ref b32, .int b33, .ref b34, .ref b35, .int b36, .int b37, .int b38, .int b39, .ref b40, .ref b41, .ref b42, .ref b43, .ref b44, .ref b45, .ref b46, .int b47, .ref b48, .ref b49, .int b50, .ref b1, .ref b51, .ref b52, .ref b53, .ref b54, .int b55, .ref b56, .ref b57, .ref b58])), (b7, .inl (G.2 0, 503, .inl b59)), (b31, .inl (G.2 0, 2, .inl b60)), (b32, .inl (G.2 0, 2880, .inl b61)), (b35, .inl (G.2 1, 4, .inr (.inl y_314))), (b1, .inl (G.2 1, 3208, .inr (.inl b63)))] H → va_D A [(b0, .inr (12, [.int b6, .ref b7, .ref b8, .ref b9, .ref b10, .int b11, .ref b12, .int b13, .int b14, .int b15, .int b16, .ref b17, .ref b18, .ref b19, .int b20, .ref b21, .ref b22, .ref b23, .ref b24, .ref b25, .ref b26, .ref b27, .ref b28, .ref b29, .ref b30, .ref b31, .ref b32, .int b33, .ref b34, .ref b35, .int b36, .int b37, .int b38, .int b39, .ref b40, .ref b41, .ref b42, .ref b43, .ref b44, .ref b45, .ref b46, .int b47, .ref b48, .ref b49, .int b50, .ref b1, .ref b51, .ref b52, .ref b53, .ref b54, .int b55, .ref b56, .ref b57, .ref b58])), (b7, .inl (G.2 0, 503, .inl b59)), (b31, .inl (G.2 0, 2, .inl b60)), (b32, .inl (G.2 0, 2880, .inl b61)), (b35, .inl (G.2 1, 4, .inr (.inl y_314))), (b1, .inl (G.2 1, 3208, .inr (.inl b63)))] → va_S A s.heap H locs → lv_has ls 11 [(8, .int y_313), (7, .int v_213), (0, .ref b0), (1, .int 0), (2, .ref b1), (3, .int b2), (4, .int b3), (5, .int b4), (6, .int b5)] → W p l e m_s12_Model_step s m ([.ref b0, .int 0, .ref b1, .int b2, .int b3, .int b4, .int b5] : List Value).toArray below meth c H locs 0 0 (MQ below (zQ G (fun v w => ∃ (e0 : Nat → Int64), v = none ∧ w = [(b0, .inr (12, [.int b6, .ref b7, .ref b8, .ref b9, .ref b10, .int b11, .ref b12, .int b13, .int b14, .int b15, .int b16, .ref b17, .ref b18, .ref b19, .int b20, .ref b21, .ref b22, .ref b23, .ref b24, .ref b25, .ref b26, .ref b27, .ref b28, .ref b29, .ref b30, .ref b31, .ref b32, .int b33, .ref b34, .ref b35, .int b36, .int b37, .int b38, .int b39, .ref b40, .ref b41, .ref b42, .ref b43, .ref b44, .ref b45, .ref b46, .int b47, .ref b48, .ref b49, .int b50, .ref b1, .ref b51, .ref b52, .ref b53, .ref b54, .int b55, .ref b56, .ref b57, .ref b58])), (b7, .inl (G.2 0, 503, .inl b59)), (b31, .inl (G.2 0, 2, .inl b60)), (b32, .inl (G.2 0, 2880, .inl b61)), (b35, .inl (G.2 1, 4, .inr (.inl e0))), (b1, .inl (G.2 1, 3208, .inr (.inl b63)))]) A) ([.ref b0, .int 0, .ref b1, .int b2, .int b3, .int b4, .int b5] : List Value).toArray s m_s12_Model_step.cells m_s12_Model_step.slots A) (F0 m 36 ls []) by
        exact key 241 (0) (y_209) _ _ _ (zI.wk (l' := 0) (h' := 240) zc_0 (by decide)) (zm_upi (zI.wk (l' := 0) (h' := 240) zc_0 (by decide)) (by decide)) hP hD hS (lv_sub hl [0, 1, 2, 3, 4, 5, 6, 7, 8] rfl)
      intro k_312
      induction k_312 with
      | zero =>
        intro y_313 y_314 H locs ls hy_313 hmk_312 hP hD hS hl
        exact (zm_up0 hy_313 hmk_312).elim
      | succ k_312 ihk_312 =>
        intro y_313 y_314 H locs ls hy_313 hmk_312 hP hD hS hl
        refine lv_iload hx hb d_Model_step_36 (lv_at hl 0 rfl) ?_
        refine lv_aload_n hx hb d_Model_step_38 rfl (lv_at hl 2 rfl) ?_
        refine va_get (D := G.1) (ci := 12) (v := .ref b31) (C := R_Model) (T := F_Model) (N := 54) hx hb hts i_Model hown hK hP 0 rfl rfl 25 (by decide) (hts _ q1134) (fun _ h9 => h9) rfl d_Model_step_39 ?_
        refine lv_iload_n hx hb d_Model_step_42 rfl (lv_at hl 3 rfl) ?_
        refine va_iald hx hb hK hP 2 0 rfl rfl (i := 0) (z_in rfl) d_Model_step_43 ?_
        refine lv_topi (fun v_315 ev_315 => ?_)
        have hv_315 : zI v_315 0 240 := (hb60 _).eq ev_315
        refine lv_icmp_ge (tgt := 178) hx hb d_Model_step_44 (by decide) (fun hc_316 => ?_) (fun hc_316 => ?_)
        · have _nhc_316 := hc_316
          have ni_317 := (fa_le _ _).mp hc_316
          exact z_vret hx hb hr hlocks hP hD hS (Nat.le_of_ble_eq_true rfl) (Nat.le_of_ble_eq_true rfl) d_Model_step_178 ⟨y_314, rfl, rfl⟩
        · have _nhc_316 := hc_316
          have ni_318 := (fa_lt _ _).mp (zi_nle hc_316)
          have hv_319 : zI y_313 0 239 := zI.lt_l hy_313 hv_315 (zi_nle hc_316) (by decide)
          have hv_320 : zI v_315 1 240 := zI.lt_r hy_313 hv_315 (zi_nle hc_316) (by decide)
          refine lv_aload_n hx hb d_Model_step_47 rfl (lv_at hl 2 rfl) ?_
          refine lv_iload_n hx hb d_Model_step_48 rfl (lv_at hl 3 rfl) ?_
          refine lv_iload hx hb d_Model_step_49 (lv_at hl 0 rfl) ?_
          refine lv_iconst (v := 1) hx hb d_Model_step_51 (by decide) ?_
          refine z_callV (index := 225) (As := [.int 0, .int y_313, .int 1]) (rest := []) (wr := [(b7, .inl (G.2 0, 503, .inl b59)), (b31, .inl (G.2 0, 2, .inl b60)), (b35, .inl (G.2 1, 4, .inr (.inl y_314))), (b1, .inl (G.2 1, 3208, .inr (.inl b63)))]) Z (s5_Model_edgeAt l G (b0) (y_313) (b6) (b7) (b8) (b9) (b10) (b11) (b12) (b13) (b14) (b15) (b16) (b17) (b18) (b19) (b20) (b21) (b22) (b23) (b24) (b25) (b26) (b27) (b28) (b29) (b30) (b31) (b32) (b33) (b34) (b35) (b36) (b37) (b38) (b39) (b40) (b41) (b42) (b43) (b44) (b45) (b46) (b47) (b48) (b49) (b50) (b1) (b51) (b52) (b53) (b54) (b55) (b56) (b57) (b58) (b61) (zI.wk (l' := 0) (h' := 240) hv_319 (by decide)) hb11 hb13 hb14 hb16 hb20 hb33 hb36 hb47 hb50 hb55 hb61) hl.1 q1408 q1410 qs68 q14 q1411 ⟨by decide, by decide, by show _ = some 3; decide +kernel⟩ ⟨Nat.le_of_ble_eq_true rfl, Nat.le_of_ble_eq_true rfl⟩ ⟨Nat.le_of_ble_eq_true rfl, Nat.le_of_ble_eq_true rfl⟩ rfl (Nat.le_of_ble_eq_true rfl) d_Model_step_52 hP hD hS hA 0 12 rfl rfl rfl [0, 3] [1, 2, 4, 5] rfl rfl rfl rfl (by decide) (fun v w1 H locs hw_321 hP hD hS => ?_)
          obtain ⟨x_322, rfl, rfl, hx_322, hfx_323⟩ := hw_321
          have hP : va_P G.1 classes [(b7, .inl (G.2 0, 503, .inl b59)), (b31, .inl (G.2 0, 2, .inl b60)), (b35, .inl (G.2 1, 4, .inr (.inl y_314))), (b1, .inl (G.2 1, 3208, .inr (.inl b63))), (b0, .inr (12, [.int b6, .ref b7, .ref b8, .ref b9, .ref b10, .int b11, .ref b12, .int b13, .int b14, .int b15, .int b16, .ref b17, .ref b18, .ref b19, .int b20, .ref b21, .ref b22, .ref b23, .ref b24, .ref b25, .ref b26, .ref b27, .ref b28, .ref b29, .ref b30, .ref b31, .ref b32, .int b33, .ref b34, .ref b35, .int b36, .int b37, .int b38, .int b39, .ref b40, .ref b41, .ref b42, .ref b43, .ref b44, .ref b45, .ref b46, .int b47, .ref b48, .ref b49, .int b50, .ref b1, .ref b51, .ref b52, .ref b53, .ref b54, .int b55, .ref b56, .ref b57, .ref b58])), (b32, .inl (G.2 0, 2880, .inl b61))] H := hP
          have hD := z_tie hP hD rfl
          refine W.widen (k := 0) (n := 0) (Nat.le_of_ble_eq_true rfl) (Nat.le_of_ble_eq_true rfl) ?_
          refine lv_iload hx hb d_Model_step_55 (lv_at hl 6 rfl) ?_
          refine lv_icmp_ne (tgt := 80) hx hb d_Model_step_57 (by decide) (fun hc_324 => ?_) (fun hc_324 => ?_)
          · have _nhc_324 := hc_324
            have ni_325 : ¬ (x_322 : Int32).toInt = (b3 : Int32).toInt := fun z => hc_324 ((fa_eq _ _).mpr z)
            refine lv_iconst (v := 0) hx hb d_Model_step_80 (by decide) ?_
            refine lv_istore (lv' := [(9, .int 0), (8, .int y_313), (7, .int v_213), (0, .ref b0), (1, .int 0), (2, .ref b1), (3, .int b2), (4, .int b3), (5, .int b4), (6, .int b5)]) hx hb d_Model_step_81 hl (by decide) rfl (fun ls hl => ?_)
            refine lv_iload hx hb d_Model_step_83 (lv_at hl 0 rfl) ?_
            refine lv_if_eq (tgt := 130) hx hb d_Model_step_85 (by decide) (fun _ => ?_) (fun hc => absurd hc (by decide +kernel))
            refine lv_iconst (v := 0) hx hb d_Model_step_130 (by decide) ?_
            refine lv_istore (lv' := [(9, .int 0), (8, .int y_313), (7, .int v_213), (0, .ref b0), (1, .int 0), (2, .ref b1), (3, .int b2), (4, .int b3), (5, .int b4), (6, .int b5)]) hx hb d_Model_step_131 hl (by decide) rfl (fun ls hl => ?_)
            refine lv_aload_n hx hb d_Model_step_133 rfl (lv_at hl 3 rfl) ?_
            refine lv_iload_n hx hb d_Model_step_134 rfl (lv_at hl 4 rfl) ?_
            refine lv_iload hx hb d_Model_step_135 (lv_at hl 1 rfl) ?_
            refine lv_iconst (v := 2) hx hb d_Model_step_137 (by decide) ?_
            refine z_callV (index := 225) (As := [.int 0, .int y_313, .int 2]) (rest := []) (wr := [(b7, .inl (G.2 0, 503, .inl b59)), (b31, .inl (G.2 0, 2, .inl b60)), (b35, .inl (G.2 1, 4, .inr (.inl y_314))), (b1, .inl (G.2 1, 3208, .inr (.inl b63)))]) Z (s6_Model_edgeAt l G (b0) (y_313) (b6) (b7) (b8) (b9) (b10) (b11) (b12) (b13) (b14) (b15) (b16) (b17) (b18) (b19) (b20) (b21) (b22) (b23) (b24) (b25) (b26) (b27) (b28) (b29) (b30) (b31) (b32) (b33) (b34) (b35) (b36) (b37) (b38) (b39) (b40) (b41) (b42) (b43) (b44) (b45) (b46) (b47) (b48) (b49) (b50) (b1) (b51) (b52) (b53) (b54) (b55) (b56) (b57) (b58) (b61) (zI.wk (l' := 0) (h' := 240) hv_319 (by decide)) hb11 hb13 hb14 hb16 hb20 hb33 hb36 hb47 hb50 hb55 hb61) hl.1 q1408 q1410 qs68 q14 q1411 ⟨by decide, by decide, by show _ = some 3; decide +kernel⟩ ⟨Nat.le_of_ble_eq_true rfl, Nat.le_of_ble_eq_true rfl⟩ ⟨Nat.le_of_ble_eq_true rfl, Nat.le_of_ble_eq_true rfl⟩ rfl (Nat.le_of_ble_eq_true rfl) d_Model_step_138 hP hD hS hA 4 12 rfl rfl rfl [4, 5] [0, 1, 2, 3] rfl rfl rfl rfl (by decide) (fun v w1 H locs hw_326 hP hD hS => ?_)
            obtain ⟨x_327, rfl, rfl, hx_327, hfx_328⟩ := hw_326
            have hP : va_P G.1 classes [(b7, .inl (G.2 0, 503, .inl b59)), (b31, .inl (G.2 0, 2, .inl b60)), (b35, .inl (G.2 1, 4, .inr (.inl y_314))), (b1, .inl (G.2 1, 3208, .inr (.inl b63))), (b0, .inr (12, [.int b6, .ref b7, .ref b8, .ref b9, .ref b10, .int b11, .ref b12, .int b13, .int b14, .int b15, .int b16, .ref b17, .ref b18, .ref b19, .int b20, .ref b21, .ref b22, .ref b23, .ref b24, .ref b25, .ref b26, .ref b27, .ref b28, .ref b29, .ref b30, .ref b31, .ref b32, .int b33, .ref b34, .ref b35, .int b36, .int b37, .int b38, .int b39, .ref b40, .ref b41, .ref b42, .ref b43, .ref b44, .ref b45, .ref b46, .int b47, .ref b48, .ref b49, .int b50, .ref b1, .ref b51, .ref b52, .ref b53, .ref b54, .int b55, .ref b56, .ref b57, .ref b58])), (b32, .inl (G.2 0, 2880, .inl b61))] H := hP
            have hD := z_tie hP hD rfl
            refine W.widen (k := 0) (n := 0) (Nat.le_of_ble_eq_true rfl) (Nat.le_of_ble_eq_true rfl) ?_
            refine lv_istore (lv' := [(10, .int x_327), (9, .int 0), (8, .int y_313), (7, .int v_213), (0, .ref b0), (1, .int 0), (2, .ref b1), (3, .int b2), (4, .int b3), (5, .int b4), (6, .int b5)]) hx hb d_Model_step_141 hl (by decide) rfl (fun ls hl => ?_)
            refine lv_aload_n hx hb d_Model_step_143 rfl (lv_at hl 4 rfl) ?_
            refine va_get (D := G.1) (ci := 12) (v := .ref b35) (C := R_Model) (T := F_Model) (N := 54) hx hb hts i_Model hown hK hP 4 rfl rfl 29 (by decide) (hts _ q1138) (fun _ h9 => h9) rfl d_Model_step_144 ?_
            refine lv_iload hx hb d_Model_step_147 (lv_at hl 0 rfl) ?_
            refine lv_bipush (v := 64) hx hb d_Model_step_149 (by decide) ?_
            refine lv_idiv hx hb d_Model_step_151 (by decide +kernel) ?_
            refine lv_topi (fun v_329 ev_329 => ?_)
            obtain ⟨qv_329, hv_329⟩ := zI_div (l := 0) (h := 3) (d := 64) hx_327 rfl ev_329 (by decide)
            refine lv_dup2_11 hx hb d_Model_step_152 rfl rfl ?_
            refine va_lald hx hb hK hP 2 1 rfl rfl (zI.inn hv_329 (by decide)) d_Model_step_153 ?_
            refine lv_topl (fun v_330 ev_330 => ?_)
            refine lv_iload hx hb d_Model_step_154 (lv_at hl 1 rfl) ?_
            refine lv_if_eq (tgt := 169) hx hb d_Model_step_156 (by decide) (fun _ => ?_) (fun hc => absurd hc (by decide +kernel))
            refine lv_lconst (v := 0) hx hb d_Model_step_169 (by decide) ?_
            refine lv_lor hx hb d_Model_step_170 ?_
            refine lv_topl (fun v_331 ev_331 => ?_)
            refine va_last hx hb hK hP hD hS 2 1 rfl rfl (zI.inn hv_329 (by decide)) d_Model_step_171 (fun H locs hP hD hS => ?_)
            obtain ⟨f_332, hP, hD⟩ := z_newL 2 hP hD rfl
            have hP : va_P G.1 classes [(b7, .inl (G.2 0, 503, .inl b59)), (b31, .inl (G.2 0, 2, .inl b60)), (b35, .inl (G.2 1, 4, .inr (.inl f_332))), (b1, .inl (G.2 1, 3208, .inr (.inl b63))), (b0, .inr (12, [.int b6, .ref b7, .ref b8, .ref b9, .ref b10, .int b11, .ref b12, .int b13, .int b14, .int b15, .int b16, .ref b17, .ref b18, .ref b19, .int b20, .ref b21, .ref b22, .ref b23, .ref b24, .ref b25, .ref b26, .ref b27, .ref b28, .ref b29, .ref b30, .ref b31, .ref b32, .int b33, .ref b34, .ref b35, .int b36, .int b37, .int b38, .int b39, .ref b40, .ref b41, .ref b42, .ref b43, .ref b44, .ref b45, .ref b46, .int b47, .ref b48, .ref b49, .int b50, .ref b1, .ref b51, .ref b52, .ref b53, .ref b54, .int b55, .ref b56, .ref b57, .ref b58])), (b32, .inl (G.2 0, 2880, .inl b61))] H := hP
            have hD := z_tie hP hD rfl
            obtain ⟨v_333, ev_333⟩ : ∃ z : Int32, z = y_313 + 1 := ⟨_, rfl⟩
            obtain ⟨qv_333, hv_333⟩ := zI_add (l := 1) (h := 240) hv_319 zc_1 ev_333 (by decide)
            rw [li_1] at qv_333
            refine lv_iinc (v := v_333) (lv' := [(8, .int v_333), (10, .int x_327), (9, .int 0), (7, .int v_213), (0, .ref b0), (1, .int 0), (2, .ref b1), (3, .int b2), (4, .int b3), (5, .int b4), (6, .int b5)]) hx hb d_Model_step_172 hl (k := 2) rfl (by rw [ev_333]; rfl) (by decide) rfl (fun ls hl => ?_)
            refine lv_goto (tgt := 36) hx hb d_Model_step_175 (by decide) ?_
            exact ihk_312 (v_333) (f_332) _ _ _ (zI.wk (l' := 0) (h' := 240) hv_333 (by decide)) (zm_up qv_333 hmk_312 (by decide)) (hP.sub [4, 0, 1, 5, 2, 3] rfl) (hD.sub [4, 0, 1, 5, 2, 3] (by decide) rfl) hS (lv_sub hl [0, 3, 4, 5, 6, 7, 8, 9, 10] rfl)
          · have _nhc_324 := hc_324
            have ni_334 := (fa_eq _ _).mp hc_324
            refine lv_aload_n hx hb d_Model_step_60 rfl (lv_at hl 4 rfl) ?_
            refine lv_iload_n hx hb d_Model_step_61 rfl (lv_at hl 5 rfl) ?_
            refine lv_aload_n hx hb d_Model_step_62 rfl (lv_at hl 2 rfl) ?_
            refine lv_iload_n hx hb d_Model_step_63 rfl (lv_at hl 3 rfl) ?_
            refine lv_iload hx hb d_Model_step_64 (lv_at hl 0 rfl) ?_
            refine lv_iconst (v := 0) hx hb d_Model_step_66 (by decide) ?_
            refine z_callV (index := 225) (As := [.int 0, .int y_313, .int 0]) (rest := [.int b2, .ref b1]) (wr := [(b7, .inl (G.2 0, 503, .inl b59)), (b31, .inl (G.2 0, 2, .inl b60)), (b35, .inl (G.2 1, 4, .inr (.inl y_314))), (b1, .inl (G.2 1, 3208, .inr (.inl b63)))]) Z (s4_Model_edgeAt l G (b0) (y_313) (b6) (b7) (b8) (b9) (b10) (b11) (b12) (b13) (b14) (b15) (b16) (b17) (b18) (b19) (b20) (b21) (b22) (b23) (b24) (b25) (b26) (b27) (b28) (b29) (b30) (b31) (b32) (b33) (b34) (b35) (b36) (b37) (b38) (b39) (b40) (b41) (b42) (b43) (b44) (b45) (b46) (b47) (b48) (b49) (b50) (b1) (b51) (b52) (b53) (b54) (b55) (b56) (b57) (b58) (b61) (zI.wk (l' := 0) (h' := 240) hv_319 (by decide)) hb11 hb13 hb14 hb16 hb20 hb33 hb36 hb47 hb50 hb55 hb61) hl.1 q1408 q1410 qs68 q14 q1411 ⟨by decide, by decide, by show _ = some 3; decide +kernel⟩ ⟨Nat.le_of_ble_eq_true rfl, Nat.le_of_ble_eq_true rfl⟩ ⟨Nat.le_of_ble_eq_true rfl, Nat.le_of_ble_eq_true rfl⟩ rfl (Nat.le_of_ble_eq_true rfl) d_Model_step_67 hP hD hS hA 4 12 rfl rfl rfl [4, 5] [0, 1, 2, 3] rfl rfl rfl rfl (by decide) (fun v w1 H locs hw_335 hP hD hS => ?_)
            obtain ⟨x_336, rfl, rfl, hx_336, hfx_337⟩ := hw_335
            have hP : va_P G.1 classes [(b7, .inl (G.2 0, 503, .inl b59)), (b31, .inl (G.2 0, 2, .inl b60)), (b35, .inl (G.2 1, 4, .inr (.inl y_314))), (b1, .inl (G.2 1, 3208, .inr (.inl b63))), (b0, .inr (12, [.int b6, .ref b7, .ref b8, .ref b9, .ref b10, .int b11, .ref b12, .int b13, .int b14, .int b15, .int b16, .ref b17, .ref b18, .ref b19, .int b20, .ref b21, .ref b22, .ref b23, .ref b24, .ref b25, .ref b26, .ref b27, .ref b28, .ref b29, .ref b30, .ref b31, .ref b32, .int b33, .ref b34, .ref b35, .int b36, .int b37, .int b38, .int b39, .ref b40, .ref b41, .ref b42, .ref b43, .ref b44, .ref b45, .ref b46, .int b47, .ref b48, .ref b49, .int b50, .ref b1, .ref b51, .ref b52, .ref b53, .ref b54, .int b55, .ref b56, .ref b57, .ref b58])), (b32, .inl (G.2 0, 2880, .inl b61))] H := hP
            have hD := z_tie hP hD rfl
            refine W.widen (k := 0) (n := 0) (Nat.le_of_ble_eq_true rfl) (Nat.le_of_ble_eq_true rfl) ?_
            refine z_callS (index := 271) (As := [.ref b1, .int b2, .int x_336]) (rest := []) (wr := [(b7, .inl (G.2 0, 503, .inl b59)), (b31, .inl (G.2 0, 2, .inl b60)), (b35, .inl (G.2 1, 4, .inr (.inl y_314))), (b0, .inr (12, [.int b6, .ref b7, .ref b8, .ref b9, .ref b10, .int b11, .ref b12, .int b13, .int b14, .int b15, .int b16, .ref b17, .ref b18, .ref b19, .int b20, .ref b21, .ref b22, .ref b23, .ref b24, .ref b25, .ref b26, .ref b27, .ref b28, .ref b29, .ref b30, .ref b31, .ref b32, .int b33, .ref b34, .ref b35, .int b36, .int b37, .int b38, .int b39, .ref b40, .ref b41, .ref b42, .ref b43, .ref b44, .ref b45, .ref b46, .int b47, .ref b48, .ref b49, .int b50, .ref b1, .ref b51, .ref b52, .ref b53, .ref b54, .int b55, .ref b56, .ref b57, .ref b58])), (b32, .inl (G.2 0, 2880, .inl b61))]) Z (s6_Model_has l G (b1) (b2) (x_336) (b63) hb2 hx_336) hl.1 q1464 q1465 q14 q1466 ⟨by decide, by decide, by show _ = some 3; decide +kernel⟩ ⟨Nat.le_of_ble_eq_true rfl, Nat.le_of_ble_eq_true rfl⟩ ⟨Nat.le_of_ble_eq_true rfl, Nat.le_of_ble_eq_true rfl⟩ rfl (Nat.le_of_ble_eq_true rfl) d_Model_step_70 hP hD hS hA [3] [0, 1, 2, 4, 5] rfl rfl rfl rfl (by decide) (fun v w1 H locs hw_338 hP hD hS => ?_)
            obtain ⟨x_339, rfl, rfl, hx_339⟩ := hw_338
            have hP : va_P G.1 classes [(b7, .inl (G.2 0, 503, .inl b59)), (b31, .inl (G.2 0, 2, .inl b60)), (b35, .inl (G.2 1, 4, .inr (.inl y_314))), (b0, .inr (12, [.int b6, .ref b7, .ref b8, .ref b9, .ref b10, .int b11, .ref b12, .int b13, .int b14, .int b15, .int b16, .ref b17, .ref b18, .ref b19, .int b20, .ref b21, .ref b22, .ref b23, .ref b24, .ref b25, .ref b26, .ref b27, .ref b28, .ref b29, .ref b30, .ref b31, .ref b32, .int b33, .ref b34, .ref b35, .int b36, .int b37, .int b38, .int b39, .ref b40, .ref b41, .ref b42, .ref b43, .ref b44, .ref b45, .ref b46, .int b47, .ref b48, .ref b49, .int b50, .ref b1, .ref b51, .ref b52, .ref b53, .ref b54, .int b55, .ref b56, .ref b57, .ref b58])), (b32, .inl (G.2 0, 2880, .inl b61)), (b1, .inl (G.2 1, 3208, .inr (.inl b63)))] H := hP
            have hD := z_tie hP hD rfl
            refine W.widen (k := 0) (n := 0) (Nat.le_of_ble_eq_true rfl) (Nat.le_of_ble_eq_true rfl) ?_
            refine lv_if_eq (tgt := 80) hx hb d_Model_step_73 (by decide) (fun hc_340 => ?_) (fun hc_340 => ?_)
            · have _nhc_340 := hc_340
              have ni_341 := (fa_eq _ _).mp hc_340
              rw [li_0] at ni_341
              have hv_342 : zI x_339 0 0 := zI.eq_l hx_339 zc_0 hc_340
              refine lv_iconst (v := 0) hx hb d_Model_step_80 (by decide) ?_
              refine lv_istore (lv' := [(9, .int 0), (8, .int y_313), (7, .int v_213), (0, .ref b0), (1, .int 0), (2, .ref b1), (3, .int b2), (4, .int b3), (5, .int b4), (6, .int b5)]) hx hb d_Model_step_81 hl (by decide) rfl (fun ls hl => ?_)
              refine lv_iload hx hb d_Model_step_83 (lv_at hl 0 rfl) ?_
              refine lv_if_eq (tgt := 130) hx hb d_Model_step_85 (by decide) (fun _ => ?_) (fun hc => absurd hc (by decide +kernel))
              refine lv_iconst (v := 0) hx hb d_Model_step_130 (by decide) ?_
              refine lv_istore (lv' := [(9, .int 0), (8, .int y_313), (7, .int v_213), (0, .ref b0), (1, .int 0), (2, .ref b1), (3, .int b2), (4, .int b3), (5, .int b4), (6, .int b5)]) hx hb d_Model_step_131 hl (by decide) rfl (fun ls hl => ?_)
              refine lv_aload_n hx hb d_Model_step_133 rfl (lv_at hl 3 rfl) ?_
              refine lv_iload_n hx hb d_Model_step_134 rfl (lv_at hl 4 rfl) ?_
              refine lv_iload hx hb d_Model_step_135 (lv_at hl 1 rfl) ?_
              refine lv_iconst (v := 2) hx hb d_Model_step_137 (by decide) ?_
              refine z_callV (index := 225) (As := [.int 0, .int y_313, .int 2]) (rest := []) (wr := [(b7, .inl (G.2 0, 503, .inl b59)), (b31, .inl (G.2 0, 2, .inl b60)), (b35, .inl (G.2 1, 4, .inr (.inl y_314))), (b1, .inl (G.2 1, 3208, .inr (.inl b63)))]) Z (s6_Model_edgeAt l G (b0) (y_313) (b6) (b7) (b8) (b9) (b10) (b11) (b12) (b13) (b14) (b15) (b16) (b17) (b18) (b19) (b20) (b21) (b22) (b23) (b24) (b25) (b26) (b27) (b28) (b29) (b30) (b31) (b32) (b33) (b34) (b35) (b36) (b37) (b38) (b39) (b40) (b41) (b42) (b43) (b44) (b45) (b46) (b47) (b48) (b49) (b50) (b1) (b51) (b52) (b53) (b54) (b55) (b56) (b57) (b58) (b61) (zI.wk (l' := 0) (h' := 240) hv_319 (by decide)) hb11 hb13 hb14 hb16 hb20 hb33 hb36 hb47 hb50 hb55 hb61) hl.1 q1408 q1410 qs68 q14 q1411 ⟨by decide, by decide, by show _ = some 3; decide +kernel⟩ ⟨Nat.le_of_ble_eq_true rfl, Nat.le_of_ble_eq_true rfl⟩ ⟨Nat.le_of_ble_eq_true rfl, Nat.le_of_ble_eq_true rfl⟩ rfl (Nat.le_of_ble_eq_true rfl) d_Model_step_138 hP hD hS hA 3 12 rfl rfl rfl [3, 4] [0, 1, 2, 5] rfl rfl rfl rfl (by decide) (fun v w1 H locs hw_343 hP hD hS => ?_)
              obtain ⟨x_344, rfl, rfl, hx_344, hfx_345⟩ := hw_343
              have hP : va_P G.1 classes [(b7, .inl (G.2 0, 503, .inl b59)), (b31, .inl (G.2 0, 2, .inl b60)), (b35, .inl (G.2 1, 4, .inr (.inl y_314))), (b1, .inl (G.2 1, 3208, .inr (.inl b63))), (b0, .inr (12, [.int b6, .ref b7, .ref b8, .ref b9, .ref b10, .int b11, .ref b12, .int b13, .int b14, .int b15, .int b16, .ref b17, .ref b18, .ref b19, .int b20, .ref b21, .ref b22, .ref b23, .ref b24, .ref b25, .ref b26, .ref b27, .ref b28, .ref b29, .ref b30, .ref b31, .ref b32, .int b33, .ref b34, .ref b35, .int b36, .int b37, .int b38, .int b39, .ref b40, .ref b41, .ref b42, .ref b43, .ref b44, .ref b45, .ref b46, .int b47, .ref b48, .ref b49, .int b50, .ref b1, .ref b51, .ref b52, .ref b53, .ref b54, .int b55, .ref b56, .ref b57, .ref b58])), (b32, .inl (G.2 0, 2880, .inl b61))] H := hP
              have hD := z_tie hP hD rfl
              refine W.widen (k := 0) (n := 0) (Nat.le_of_ble_eq_true rfl) (Nat.le_of_ble_eq_true rfl) ?_
              refine lv_istore (lv' := [(10, .int x_344), (9, .int 0), (8, .int y_313), (7, .int v_213), (0, .ref b0), (1, .int 0), (2, .ref b1), (3, .int b2), (4, .int b3), (5, .int b4), (6, .int b5)]) hx hb d_Model_step_141 hl (by decide) rfl (fun ls hl => ?_)
              refine lv_aload_n hx hb d_Model_step_143 rfl (lv_at hl 4 rfl) ?_
              refine va_get (D := G.1) (ci := 12) (v := .ref b35) (C := R_Model) (T := F_Model) (N := 54) hx hb hts i_Model hown hK hP 4 rfl rfl 29 (by decide) (hts _ q1138) (fun _ h9 => h9) rfl d_Model_step_144 ?_
              refine lv_iload hx hb d_Model_step_147 (lv_at hl 0 rfl) ?_
              refine lv_bipush (v := 64) hx hb d_Model_step_149 (by decide) ?_
              refine lv_idiv hx hb d_Model_step_151 (by decide +kernel) ?_
              refine lv_topi (fun v_346 ev_346 => ?_)
              obtain ⟨qv_346, hv_346⟩ := zI_div (l := 0) (h := 3) (d := 64) hx_344 rfl ev_346 (by decide)
              refine lv_dup2_11 hx hb d_Model_step_152 rfl rfl ?_
              refine va_lald hx hb hK hP 2 1 rfl rfl (zI.inn hv_346 (by decide)) d_Model_step_153 ?_
              refine lv_topl (fun v_347 ev_347 => ?_)
              refine lv_iload hx hb d_Model_step_154 (lv_at hl 1 rfl) ?_
              refine lv_if_eq (tgt := 169) hx hb d_Model_step_156 (by decide) (fun _ => ?_) (fun hc => absurd hc (by decide +kernel))
              refine lv_lconst (v := 0) hx hb d_Model_step_169 (by decide) ?_
              refine lv_lor hx hb d_Model_step_170 ?_
              refine lv_topl (fun v_348 ev_348 => ?_)
              refine va_last hx hb hK hP hD hS 2 1 rfl rfl (zI.inn hv_346 (by decide)) d_Model_step_171 (fun H locs hP hD hS => ?_)
              obtain ⟨f_349, hP, hD⟩ := z_newL 2 hP hD rfl
              have hP : va_P G.1 classes [(b7, .inl (G.2 0, 503, .inl b59)), (b31, .inl (G.2 0, 2, .inl b60)), (b35, .inl (G.2 1, 4, .inr (.inl f_349))), (b1, .inl (G.2 1, 3208, .inr (.inl b63))), (b0, .inr (12, [.int b6, .ref b7, .ref b8, .ref b9, .ref b10, .int b11, .ref b12, .int b13, .int b14, .int b15, .int b16, .ref b17, .ref b18, .ref b19, .int b20, .ref b21, .ref b22, .ref b23, .ref b24, .ref b25, .ref b26, .ref b27, .ref b28, .ref b29, .ref b30, .ref b31, .ref b32, .int b33, .ref b34, .ref b35, .int b36, .int b37, .int b38, .int b39, .ref b40, .ref b41, .ref b42, .ref b43, .ref b44, .ref b45, .ref b46, .int b47, .ref b48, .ref b49, .int b50, .ref b1, .ref b51, .ref b52, .ref b53, .ref b54, .int b55, .ref b56, .ref b57, .ref b58])), (b32, .inl (G.2 0, 2880, .inl b61))] H := hP
              have hD := z_tie hP hD rfl
              obtain ⟨v_350, ev_350⟩ : ∃ z : Int32, z = y_313 + 1 := ⟨_, rfl⟩
              obtain ⟨qv_350, hv_350⟩ := zI_add (l := 1) (h := 240) hv_319 zc_1 ev_350 (by decide)
              rw [li_1] at qv_350
              refine lv_iinc (v := v_350) (lv' := [(8, .int v_350), (10, .int x_344), (9, .int 0), (7, .int v_213), (0, .ref b0), (1, .int 0), (2, .ref b1), (3, .int b2), (4, .int b3), (5, .int b4), (6, .int b5)]) hx hb d_Model_step_172 hl (k := 2) rfl (by rw [ev_350]; rfl) (by decide) rfl (fun ls hl => ?_)
              refine lv_goto (tgt := 36) hx hb d_Model_step_175 (by decide) ?_
              exact ihk_312 (v_350) (f_349) _ _ _ (zI.wk (l' := 0) (h' := 240) hv_350 (by decide)) (zm_up qv_350 hmk_312 (by decide)) (hP.sub [4, 0, 1, 5, 2, 3] rfl) (hD.sub [4, 0, 1, 5, 2, 3] (by decide) rfl) hS (lv_sub hl [0, 3, 4, 5, 6, 7, 8, 9, 10] rfl)
            · have _nhc_340 := hc_340
              have ni_351 : ¬ (x_339 : Int32).toInt = (0 : Int32).toInt := fun z => hc_340 ((fa_eq _ _).mpr z)
              simp only [li_0] at ni_351
              have hv_352 : zI x_339 1 1 := zI.ne_lo hx_339 zc_0 hc_340 (by decide)
              refine lv_iconst (v := 1) hx hb d_Model_step_76 (by decide) ?_
              refine lv_goto (tgt := 81) hx hb d_Model_step_77 (by decide) ?_
              refine lv_istore (lv' := [(9, .int 1), (8, .int y_313), (7, .int v_213), (0, .ref b0), (1, .int 0), (2, .ref b1), (3, .int b2), (4, .int b3), (5, .int b4), (6, .int b5)]) hx hb d_Model_step_81 hl (by decide) rfl (fun ls hl => ?_)
              refine lv_iload hx hb d_Model_step_83 (lv_at hl 0 rfl) ?_
              refine lv_if_eq (tgt := 130) hx hb d_Model_step_85 (by decide) (fun hc => absurd hc (by decide +kernel)) (fun _ => ?_)
              refine lv_iload hx hb d_Model_step_88 (lv_at hl 9 rfl) ?_
              refine lv_if_eq (tgt := 126) hx hb d_Model_step_90 (by decide) (fun hc_353 => ?_) (fun hc_353 => ?_)
              · have _nhc_353 := hc_353
                have ni_354 := (fa_eq _ _).mp hc_353
                rw [li_0] at ni_354
                have hv_355 : zI b5 0 0 := zI.eq_l hb5 zc_0 hc_353
                refine lv_iconst (v := 1) hx hb d_Model_step_126 (by decide) ?_
                refine lv_goto (tgt := 131) hx hb d_Model_step_127 (by decide) ?_
                refine lv_istore (lv' := [(9, .int 1), (8, .int y_313), (7, .int v_213), (0, .ref b0), (1, .int 0), (2, .ref b1), (3, .int b2), (4, .int b3), (5, .int b4), (6, .int b5)]) hx hb d_Model_step_131 hl (by decide) rfl (fun ls hl => ?_)
                refine lv_aload_n hx hb d_Model_step_133 rfl (lv_at hl 3 rfl) ?_
                refine lv_iload_n hx hb d_Model_step_134 rfl (lv_at hl 4 rfl) ?_
                refine lv_iload hx hb d_Model_step_135 (lv_at hl 1 rfl) ?_
                refine lv_iconst (v := 2) hx hb d_Model_step_137 (by decide) ?_
                refine z_callV (index := 225) (As := [.int 0, .int y_313, .int 2]) (rest := []) (wr := [(b7, .inl (G.2 0, 503, .inl b59)), (b31, .inl (G.2 0, 2, .inl b60)), (b35, .inl (G.2 1, 4, .inr (.inl y_314))), (b1, .inl (G.2 1, 3208, .inr (.inl b63)))]) Z (s6_Model_edgeAt l G (b0) (y_313) (b6) (b7) (b8) (b9) (b10) (b11) (b12) (b13) (b14) (b15) (b16) (b17) (b18) (b19) (b20) (b21) (b22) (b23) (b24) (b25) (b26) (b27) (b28) (b29) (b30) (b31) (b32) (b33) (b34) (b35) (b36) (b37) (b38) (b39) (b40) (b41) (b42) (b43) (b44) (b45) (b46) (b47) (b48) (b49) (b50) (b1) (b51) (b52) (b53) (b54) (b55) (b56) (b57) (b58) (b61) (zI.wk (l' := 0) (h' := 240) hv_319 (by decide)) hb11 hb13 hb14 hb16 hb20 hb33 hb36 hb47 hb50 hb55 hb61) hl.1 q1408 q1410 qs68 q14 q1411 ⟨by decide, by decide, by show _ = some 3; decide +kernel⟩ ⟨Nat.le_of_ble_eq_true rfl, Nat.le_of_ble_eq_true rfl⟩ ⟨Nat.le_of_ble_eq_true rfl, Nat.le_of_ble_eq_true rfl⟩ rfl (Nat.le_of_ble_eq_true rfl) d_Model_step_138 hP hD hS hA 3 12 rfl rfl rfl [3, 4] [0, 1, 2, 5] rfl rfl rfl rfl (by decide) (fun v w1 H locs hw_356 hP hD hS => ?_)
                obtain ⟨x_357, rfl, rfl, hx_357, hfx_358⟩ := hw_356
                have hP : va_P G.1 classes [(b7, .inl (G.2 0, 503, .inl b59)), (b31, .inl (G.2 0, 2, .inl b60)), (b35, .inl (G.2 1, 4, .inr (.inl y_314))), (b1, .inl (G.2 1, 3208, .inr (.inl b63))), (b0, .inr (12, [.int b6, .ref b7, .ref b8, .ref b9, .ref b10, .int b11, .ref b12, .int b13, .int b14, .int b15, .int b16, .ref b17, .ref b18, .ref b19, .int b20, .ref b21, .ref b22, .ref b23, .ref b24, .ref b25, .ref b26, .ref b27, .ref b28, .ref b29, .ref b30, .ref b31, .ref b32, .int b33, .ref b34, .ref b35, .int b36, .int b37, .int b38, .int b39, .ref b40, .ref b41, .ref b42, .ref b43, .ref b44, .ref b45, .ref b46, .int b47, .ref b48, .ref b49, .int b50, .ref b1, .ref b51, .ref b52, .ref b53, .ref b54, .int b55, .ref b56, .ref b57, .ref b58])), (b32, .inl (G.2 0, 2880, .inl b61))] H := hP
                have hD := z_tie hP hD rfl
                refine W.widen (k := 0) (n := 0) (Nat.le_of_ble_eq_true rfl) (Nat.le_of_ble_eq_true rfl) ?_
                refine lv_istore (lv' := [(10, .int x_357), (9, .int 1), (8, .int y_313), (7, .int v_213), (0, .ref b0), (1, .int 0), (2, .ref b1), (3, .int b2), (4, .int b3), (5, .int b4), (6, .int b5)]) hx hb d_Model_step_141 hl (by decide) rfl (fun ls hl => ?_)
                refine lv_aload_n hx hb d_Model_step_143 rfl (lv_at hl 4 rfl) ?_
                refine va_get (D := G.1) (ci := 12) (v := .ref b35) (C := R_Model) (T := F_Model) (N := 54) hx hb hts i_Model hown hK hP 4 rfl rfl 29 (by decide) (hts _ q1138) (fun _ h9 => h9) rfl d_Model_step_144 ?_
                refine lv_iload hx hb d_Model_step_147 (lv_at hl 0 rfl) ?_
                refine lv_bipush (v := 64) hx hb d_Model_step_149 (by decide) ?_
                refine lv_idiv hx hb d_Model_step_151 (by decide +kernel) ?_
                refine lv_topi (fun v_359 ev_359 => ?_)
                obtain ⟨qv_359, hv_359⟩ := zI_div (l := 0) (h := 3) (d := 64) hx_357 rfl ev_359 (by decide)
                refine lv_dup2_11 hx hb d_Model_step_152 rfl rfl ?_
                refine va_lald hx hb hK hP 2 1 rfl rfl (zI.inn hv_359 (by decide)) d_Model_step_153 ?_
                refine lv_topl (fun v_360 ev_360 => ?_)
                refine lv_iload hx hb d_Model_step_154 (lv_at hl 1 rfl) ?_
                refine lv_if_eq (tgt := 169) hx hb d_Model_step_156 (by decide) (fun hc => absurd hc (by decide +kernel)) (fun _ => ?_)
                refine lv_lconst (v := 1) hx hb d_Model_step_159 (by decide) ?_
                refine lv_iload hx hb d_Model_step_160 (lv_at hl 0 rfl) ?_
                refine lv_bipush (v := 64) hx hb d_Model_step_162 (by decide) ?_
                refine lv_irem hx hb d_Model_step_164 (by decide +kernel) ?_
                refine lv_topi (fun v_361 ev_361 => ?_)
                obtain ⟨qv_361, hv_361⟩ := zI_rem (h := 63) (d := 64) hx_357 rfl ev_361 (by decide)
                obtain ⟨v_362, ev_362⟩ : ∃ z : Int64, z = 1 <<< ((v_361 : Int32).toInt64 &&& 63) := ⟨_, rfl⟩
                refine lv_lshl (v := v_362) hx hb d_Model_step_165 ev_362.symm ?_
                refine lv_goto (tgt := 170) hx hb d_Model_step_166 (by decide) ?_
                refine lv_lor hx hb d_Model_step_170 ?_
                refine lv_topl (fun v_363 ev_363 => ?_)
                refine va_last hx hb hK hP hD hS 2 1 rfl rfl (zI.inn hv_359 (by decide)) d_Model_step_171 (fun H locs hP hD hS => ?_)
                obtain ⟨f_364, hP, hD⟩ := z_newL 2 hP hD rfl
                have hP : va_P G.1 classes [(b7, .inl (G.2 0, 503, .inl b59)), (b31, .inl (G.2 0, 2, .inl b60)), (b35, .inl (G.2 1, 4, .inr (.inl f_364))), (b1, .inl (G.2 1, 3208, .inr (.inl b63))), (b0, .inr (12, [.int b6, .ref b7, .ref b8, .ref b9, .ref b10, .int b11, .ref b12, .int b13, .int b14, .int b15, .int b16, .ref b17, .ref b18, .ref b19, .int b20, .ref b21, .ref b22, .ref b23, .ref b24, .ref b25, .ref b26, .ref b27, .ref b28, .ref b29, .ref b30, .ref b31, .ref b32, .int b33, .ref b34, .ref b35, .int b36, .int b37, .int b38, .int b39, .ref b40, .ref b41, .ref b42, .ref b43, .ref b44, .ref b45, .ref b46, .int b47, .ref b48, .ref b49, .int b50, .ref b1, .ref b51, .ref b52, .ref b53, .ref b54, .int b55, .ref b56, .ref b57, .ref b58])), (b32, .inl (G.2 0, 2880, .inl b61))] H := hP
                have hD := z_tie hP hD rfl
                obtain ⟨v_365, ev_365⟩ : ∃ z : Int32, z = y_313 + 1 := ⟨_, rfl⟩
                obtain ⟨qv_365, hv_365⟩ := zI_add (l := 1) (h := 240) hv_319 zc_1 ev_365 (by decide)
                rw [li_1] at qv_365
                refine lv_iinc (v := v_365) (lv' := [(8, .int v_365), (10, .int x_357), (9, .int 1), (7, .int v_213), (0, .ref b0), (1, .int 0), (2, .ref b1), (3, .int b2), (4, .int b3), (5, .int b4), (6, .int b5)]) hx hb d_Model_step_172 hl (k := 2) rfl (by rw [ev_365]; rfl) (by decide) rfl (fun ls hl => ?_)
                refine lv_goto (tgt := 36) hx hb d_Model_step_175 (by decide) ?_
                exact ihk_312 (v_365) (f_364) _ _ _ (zI.wk (l' := 0) (h' := 240) hv_365 (by decide)) (zm_up qv_365 hmk_312 (by decide)) (hP.sub [4, 0, 1, 5, 2, 3] rfl) (hD.sub [4, 0, 1, 5, 2, 3] (by decide) rfl) hS (lv_sub hl [0, 3, 4, 5, 6, 7, 8, 9, 10] rfl)
              · have _nhc_353 := hc_353
                have ni_366 : ¬ (b5 : Int32).toInt = (0 : Int32).toInt := fun z => hc_353 ((fa_eq _ _).mpr z)
                simp only [li_0] at ni_366
                have hv_367 : zI b5 1 1 := zI.ne_lo hb5 zc_0 hc_353 (by decide)
                refine lv_iload hx hb d_Model_step_93 (lv_at hl 8 rfl) ?_
                refine lv_i2l (v := b4.toInt64) hx hb d_Model_step_95 rfl ?_
                refine lv_aload_n hx hb d_Model_step_96 rfl (lv_at hl 3 rfl) ?_
                refine lv_iload_n hx hb d_Model_step_97 rfl (lv_at hl 4 rfl) ?_
                refine lv_iload hx hb d_Model_step_98 (lv_at hl 1 rfl) ?_
                refine lv_iconst (v := 4) hx hb d_Model_step_100 (by decide) ?_
                refine z_callV (index := 225) (As := [.int 0, .int y_313, .int 4]) (rest := [.long b4.toInt64]) (wr := [(b7, .inl (G.2 0, 503, .inl b59)), (b31, .inl (G.2 0, 2, .inl b60)), (b35, .inl (G.2 1, 4, .inr (.inl y_314))), (b1, .inl (G.2 1, 3208, .inr (.inl b63)))]) Z (s16_Model_edgeAt l G (b0) (y_313) (4) (b6) (b7) (b8) (b9) (b10) (b11) (b12) (b13) (b14) (b15) (b16) (b17) (b18) (b19) (b20) (b21) (b22) (b23) (b24) (b25) (b26) (b27) (b28) (b29) (b30) (b31) (b32) (b33) (b34) (b35) (b36) (b37) (b38) (b39) (b40) (b41) (b42) (b43) (b44) (b45) (b46) (b47) (b48) (b49) (b50) (b1) (b51) (b52) (b53) (b54) (b55) (b56) (b57) (b58) (b61) (zI.wk (l' := 0) (h' := 240) hv_319 (by decide)) (zI.wk (l' := 0) (h' := 5) zc_4 (by decide)) hb11 hb13 hb14 hb16 hb20 hb33 hb36 hb47 hb50 hb55 hb61) hl.1 q1408 q1410 qs68 q14 q1411 ⟨by decide, by decide, by show _ = some 3; decide +kernel⟩ ⟨Nat.le_of_ble_eq_true rfl, Nat.le_of_ble_eq_true rfl⟩ ⟨Nat.le_of_ble_eq_true rfl, Nat.le_of_ble_eq_true rfl⟩ rfl (Nat.le_of_ble_eq_true rfl) d_Model_step_101 hP hD hS hA 3 12 rfl rfl rfl [3, 4] [0, 1, 2, 5] rfl rfl rfl rfl (by decide) (fun v w1 H locs hw_368 hP hD hS => ?_)
                obtain ⟨x_369, rfl, rfl⟩ := hw_368
                have hP : va_P G.1 classes [(b7, .inl (G.2 0, 503, .inl b59)), (b31, .inl (G.2 0, 2, .inl b60)), (b35, .inl (G.2 1, 4, .inr (.inl y_314))), (b1, .inl (G.2 1, 3208, .inr (.inl b63))), (b0, .inr (12, [.int b6, .ref b7, .ref b8, .ref b9, .ref b10, .int b11, .ref b12, .int b13, .int b14, .int b15, .int b16, .ref b17, .ref b18, .ref b19, .int b20, .ref b21, .ref b22, .ref b23, .ref b24, .ref b25, .ref b26, .ref b27, .ref b28, .ref b29, .ref b30, .ref b31, .ref b32, .int b33, .ref b34, .ref b35, .int b36, .int b37, .int b38, .int b39, .ref b40, .ref b41, .ref b42, .ref b43, .ref b44, .ref b45, .ref b46, .int b47, .ref b48, .ref b49, .int b50, .ref b1, .ref b51, .ref b52, .ref b53, .ref b54, .int b55, .ref b56, .ref b57, .ref b58])), (b32, .inl (G.2 0, 2880, .inl b61))] H := hP
                have hD := z_tie hP hD rfl
                refine W.widen (k := 0) (n := 0) (Nat.le_of_ble_eq_true rfl) (Nat.le_of_ble_eq_true rfl) ?_
                refine lv_iload hx hb d_Model_step_104 (lv_at hl 2 rfl) ?_
                refine lv_isub hx hb d_Model_step_106 ?_
                refine lv_topi (fun v_370 ev_370 => ?_)
                refine lv_i2l (v := v_370.toInt64) hx hb d_Model_step_107 rfl ?_
                refine lv_aload_n hx hb d_Model_step_108 rfl (lv_at hl 3 rfl) ?_
                refine lv_iload_n hx hb d_Model_step_109 rfl (lv_at hl 4 rfl) ?_
                refine lv_iload hx hb d_Model_step_110 (lv_at hl 1 rfl) ?_
                refine lv_iconst (v := 5) hx hb d_Model_step_112 (by decide) ?_
                refine z_callV (index := 225) (As := [.int 0, .int y_313, .int 5]) (rest := [.long v_370.toInt64, .long b4.toInt64]) (wr := [(b7, .inl (G.2 0, 503, .inl b59)), (b31, .inl (G.2 0, 2, .inl b60)), (b35, .inl (G.2 1, 4, .inr (.inl y_314))), (b1, .inl (G.2 1, 3208, .inr (.inl b63)))]) Z (s16_Model_edgeAt l G (b0) (y_313) (5) (b6) (b7) (b8) (b9) (b10) (b11) (b12) (b13) (b14) (b15) (b16) (b17) (b18) (b19) (b20) (b21) (b22) (b23) (b24) (b25) (b26) (b27) (b28) (b29) (b30) (b31) (b32) (b33) (b34) (b35) (b36) (b37) (b38) (b39) (b40) (b41) (b42) (b43) (b44) (b45) (b46) (b47) (b48) (b49) (b50) (b1) (b51) (b52) (b53) (b54) (b55) (b56) (b57) (b58) (b61) (zI.wk (l' := 0) (h' := 240) hv_319 (by decide)) (zI.wk (l' := 0) (h' := 5) zc_5 (by decide)) hb11 hb13 hb14 hb16 hb20 hb33 hb36 hb47 hb50 hb55 hb61) hl.1 q1408 q1410 qs68 q14 q1411 ⟨by decide, by decide, by show _ = some 3; decide +kernel⟩ ⟨Nat.le_of_ble_eq_true rfl, Nat.le_of_ble_eq_true rfl⟩ ⟨Nat.le_of_ble_eq_true rfl, Nat.le_of_ble_eq_true rfl⟩ rfl (Nat.le_of_ble_eq_true rfl) d_Model_step_113 hP hD hS hA 4 12 rfl rfl rfl [4, 5] [0, 1, 2, 3] rfl rfl rfl rfl (by decide) (fun v w1 H locs hw_371 hP hD hS => ?_)
                obtain ⟨x_372, rfl, rfl⟩ := hw_371
                have hP : va_P G.1 classes [(b7, .inl (G.2 0, 503, .inl b59)), (b31, .inl (G.2 0, 2, .inl b60)), (b35, .inl (G.2 1, 4, .inr (.inl y_314))), (b1, .inl (G.2 1, 3208, .inr (.inl b63))), (b0, .inr (12, [.int b6, .ref b7, .ref b8, .ref b9, .ref b10, .int b11, .ref b12, .int b13, .int b14, .int b15, .int b16, .ref b17, .ref b18, .ref b19, .int b20, .ref b21, .ref b22, .ref b23, .ref b24, .ref b25, .ref b26, .ref b27, .ref b28, .ref b29, .ref b30, .ref b31, .ref b32, .int b33, .ref b34, .ref b35, .int b36, .int b37, .int b38, .int b39, .ref b40, .ref b41, .ref b42, .ref b43, .ref b44, .ref b45, .ref b46, .int b47, .ref b48, .ref b49, .int b50, .ref b1, .ref b51, .ref b52, .ref b53, .ref b54, .int b55, .ref b56, .ref b57, .ref b58])), (b32, .inl (G.2 0, 2880, .inl b61))] H := hP
                have hD := z_tie hP hD rfl
                refine W.widen (k := 0) (n := 0) (Nat.le_of_ble_eq_true rfl) (Nat.le_of_ble_eq_true rfl) ?_
                refine lv_iload hx hb d_Model_step_116 (lv_at hl 2 rfl) ?_
                refine lv_iadd hx hb d_Model_step_118 ?_
                refine lv_topi (fun v_373 ev_373 => ?_)
                refine lv_i2l (v := v_373.toInt64) hx hb d_Model_step_119 rfl ?_
                refine z_callS (index := 138) (As := [.long b4.toInt64, .long v_370.toInt64, .long v_373.toInt64]) (rest := []) (wr := [(b7, .inl (G.2 0, 503, .inl b59)), (b31, .inl (G.2 0, 2, .inl b60)), (b35, .inl (G.2 1, 4, .inr (.inl y_314))), (b1, .inl (G.2 1, 3208, .inr (.inl b63))), (b0, .inr (12, [.int b6, .ref b7, .ref b8, .ref b9, .ref b10, .int b11, .ref b12, .int b13, .int b14, .int b15, .int b16, .ref b17, .ref b18, .ref b19, .int b20, .ref b21, .ref b22, .ref b23, .ref b24, .ref b25, .ref b26, .ref b27, .ref b28, .ref b29, .ref b30, .ref b31, .ref b32, .int b33, .ref b34, .ref b35, .int b36, .int b37, .int b38, .int b39, .ref b40, .ref b41, .ref b42, .ref b43, .ref b44, .ref b45, .ref b46, .int b47, .ref b48, .ref b49, .int b50, .ref b1, .ref b51, .ref b52, .ref b53, .ref b54, .int b55, .ref b56, .ref b57, .ref b58])), (b32, .inl (G.2 0, 2880, .inl b61))]) Z (s2_Model_in l G (b4.toInt64) (v_370.toInt64) (v_373.toInt64)) hl.1 q1281 q1282 q14 q1283 ⟨by decide, by decide, by show _ = some 3; decide +kernel⟩ ⟨Nat.le_of_ble_eq_true rfl, Nat.le_of_ble_eq_true rfl⟩ ⟨Nat.le_of_ble_eq_true rfl, Nat.le_of_ble_eq_true rfl⟩ rfl (Nat.le_of_ble_eq_true rfl) d_Model_step_120 hP hD hS hA [] [0, 1, 2, 3, 4, 5] rfl rfl rfl rfl (by decide) (fun v w1 H locs hw_374 hP hD hS => ?_)
                rcases hw_374 with ⟨rfl, rfl, hq_375⟩ | ⟨rfl, rfl, hq_376, hq_377⟩ | ⟨rfl, rfl, hq_378, hq_379⟩
                · have hP : va_P G.1 classes [(b7, .inl (G.2 0, 503, .inl b59)), (b31, .inl (G.2 0, 2, .inl b60)), (b35, .inl (G.2 1, 4, .inr (.inl y_314))), (b1, .inl (G.2 1, 3208, .inr (.inl b63))), (b0, .inr (12, [.int b6, .ref b7, .ref b8, .ref b9, .ref b10, .int b11, .ref b12, .int b13, .int b14, .int b15, .int b16, .ref b17, .ref b18, .ref b19, .int b20, .ref b21, .ref b22, .ref b23, .ref b24, .ref b25, .ref b26, .ref b27, .ref b28, .ref b29, .ref b30, .ref b31, .ref b32, .int b33, .ref b34, .ref b35, .int b36, .int b37, .int b38, .int b39, .ref b40, .ref b41, .ref b42, .ref b43, .ref b44, .ref b45, .ref b46, .int b47, .ref b48, .ref b49, .int b50, .ref b1, .ref b51, .ref b52, .ref b53, .ref b54, .int b55, .ref b56, .ref b57, .ref b58])), (b32, .inl (G.2 0, 2880, .inl b61))] H := hP
                  have hD := z_tie hP hD rfl
                  try simp only [Int32.toInt_toInt64] at hq_375
                  have hv_380 : zI v_370 1 2147483647 := by have _a := hq_375; have _b := (zI_all v_370); have _c := (zI_i2l hb4 rfl).2; simp only [Int32.toInt_toInt64] at *; exact ⟨by omega, by omega⟩
                  refine W.widen (k := 0) (n := 0) (Nat.le_of_ble_eq_true rfl) (Nat.le_of_ble_eq_true rfl) ?_
                  refine lv_if_eq (tgt := 130) hx hb d_Model_step_123 (by decide) (fun _ => ?_) (fun hc => absurd hc (by decide +kernel))
                  refine lv_iconst (v := 0) hx hb d_Model_step_130 (by decide) ?_
                  refine lv_istore (lv' := [(9, .int 0), (8, .int y_313), (7, .int v_213), (0, .ref b0), (1, .int 0), (2, .ref b1), (3, .int b2), (4, .int b3), (5, .int b4), (6, .int b5)]) hx hb d_Model_step_131 hl (by decide) rfl (fun ls hl => ?_)
                  refine lv_aload_n hx hb d_Model_step_133 rfl (lv_at hl 3 rfl) ?_
                  refine lv_iload_n hx hb d_Model_step_134 rfl (lv_at hl 4 rfl) ?_
                  refine lv_iload hx hb d_Model_step_135 (lv_at hl 1 rfl) ?_
                  refine lv_iconst (v := 2) hx hb d_Model_step_137 (by decide) ?_
                  refine z_callV (index := 225) (As := [.int 0, .int y_313, .int 2]) (rest := []) (wr := [(b7, .inl (G.2 0, 503, .inl b59)), (b31, .inl (G.2 0, 2, .inl b60)), (b35, .inl (G.2 1, 4, .inr (.inl y_314))), (b1, .inl (G.2 1, 3208, .inr (.inl b63)))]) Z (s6_Model_edgeAt l G (b0) (y_313) (b6) (b7) (b8) (b9) (b10) (b11) (b12) (b13) (b14) (b15) (b16) (b17) (b18) (b19) (b20) (b21) (b22) (b23) (b24) (b25) (b26) (b27) (b28) (b29) (b30) (b31) (b32) (b33) (b34) (b35) (b36) (b37) (b38) (b39) (b40) (b41) (b42) (b43) (b44) (b45) (b46) (b47) (b48) (b49) (b50) (b1) (b51) (b52) (b53) (b54) (b55) (b56) (b57) (b58) (b61) (zI.wk (l' := 0) (h' := 240) hv_319 (by decide)) hb11 hb13 hb14 hb16 hb20 hb33 hb36 hb47 hb50 hb55 hb61) hl.1 q1408 q1410 qs68 q14 q1411 ⟨by decide, by decide, by show _ = some 3; decide +kernel⟩ ⟨Nat.le_of_ble_eq_true rfl, Nat.le_of_ble_eq_true rfl⟩ ⟨Nat.le_of_ble_eq_true rfl, Nat.le_of_ble_eq_true rfl⟩ rfl (Nat.le_of_ble_eq_true rfl) d_Model_step_138 hP hD hS hA 4 12 rfl rfl rfl [4, 5] [0, 1, 2, 3] rfl rfl rfl rfl (by decide) (fun v w1 H locs hw_381 hP hD hS => ?_)
                  obtain ⟨x_382, rfl, rfl, hx_382, hfx_383⟩ := hw_381
                  have hP : va_P G.1 classes [(b7, .inl (G.2 0, 503, .inl b59)), (b31, .inl (G.2 0, 2, .inl b60)), (b35, .inl (G.2 1, 4, .inr (.inl y_314))), (b1, .inl (G.2 1, 3208, .inr (.inl b63))), (b0, .inr (12, [.int b6, .ref b7, .ref b8, .ref b9, .ref b10, .int b11, .ref b12, .int b13, .int b14, .int b15, .int b16, .ref b17, .ref b18, .ref b19, .int b20, .ref b21, .ref b22, .ref b23, .ref b24, .ref b25, .ref b26, .ref b27, .ref b28, .ref b29, .ref b30, .ref b31, .ref b32, .int b33, .ref b34, .ref b35, .int b36, .int b37, .int b38, .int b39, .ref b40, .ref b41, .ref b42, .ref b43, .ref b44, .ref b45, .ref b46, .int b47, .ref b48, .ref b49, .int b50, .ref b1, .ref b51, .ref b52, .ref b53, .ref b54, .int b55, .ref b56, .ref b57, .ref b58])), (b32, .inl (G.2 0, 2880, .inl b61))] H := hP
                  have hD := z_tie hP hD rfl
                  refine W.widen (k := 0) (n := 0) (Nat.le_of_ble_eq_true rfl) (Nat.le_of_ble_eq_true rfl) ?_
                  refine lv_istore (lv' := [(10, .int x_382), (9, .int 0), (8, .int y_313), (7, .int v_213), (0, .ref b0), (1, .int 0), (2, .ref b1), (3, .int b2), (4, .int b3), (5, .int b4), (6, .int b5)]) hx hb d_Model_step_141 hl (by decide) rfl (fun ls hl => ?_)
                  refine lv_aload_n hx hb d_Model_step_143 rfl (lv_at hl 4 rfl) ?_
                  refine va_get (D := G.1) (ci := 12) (v := .ref b35) (C := R_Model) (T := F_Model) (N := 54) hx hb hts i_Model hown hK hP 4 rfl rfl 29 (by decide) (hts _ q1138) (fun _ h9 => h9) rfl d_Model_step_144 ?_
                  refine lv_iload hx hb d_Model_step_147 (lv_at hl 0 rfl) ?_
                  refine lv_bipush (v := 64) hx hb d_Model_step_149 (by decide) ?_
                  refine lv_idiv hx hb d_Model_step_151 (by decide +kernel) ?_
                  refine lv_topi (fun v_384 ev_384 => ?_)
                  obtain ⟨qv_384, hv_384⟩ := zI_div (l := 0) (h := 3) (d := 64) hx_382 rfl ev_384 (by decide)
                  refine lv_dup2_11 hx hb d_Model_step_152 rfl rfl ?_
                  refine va_lald hx hb hK hP 2 1 rfl rfl (zI.inn hv_384 (by decide)) d_Model_step_153 ?_
                  refine lv_topl (fun v_385 ev_385 => ?_)
                  refine lv_iload hx hb d_Model_step_154 (lv_at hl 1 rfl) ?_
                  refine lv_if_eq (tgt := 169) hx hb d_Model_step_156 (by decide) (fun _ => ?_) (fun hc => absurd hc (by decide +kernel))
                  refine lv_lconst (v := 0) hx hb d_Model_step_169 (by decide) ?_
                  refine lv_lor hx hb d_Model_step_170 ?_
                  refine lv_topl (fun v_386 ev_386 => ?_)
                  refine va_last hx hb hK hP hD hS 2 1 rfl rfl (zI.inn hv_384 (by decide)) d_Model_step_171 (fun H locs hP hD hS => ?_)
                  obtain ⟨f_387, hP, hD⟩ := z_newL 2 hP hD rfl
                  have hP : va_P G.1 classes [(b7, .inl (G.2 0, 503, .inl b59)), (b31, .inl (G.2 0, 2, .inl b60)), (b35, .inl (G.2 1, 4, .inr (.inl f_387))), (b1, .inl (G.2 1, 3208, .inr (.inl b63))), (b0, .inr (12, [.int b6, .ref b7, .ref b8, .ref b9, .ref b10, .int b11, .ref b12, .int b13, .int b14, .int b15, .int b16, .ref b17, .ref b18, .ref b19, .int b20, .ref b21, .ref b22, .ref b23, .ref b24, .ref b25, .ref b26, .ref b27, .ref b28, .ref b29, .ref b30, .ref b31, .ref b32, .int b33, .ref b34, .ref b35, .int b36, .int b37, .int b38, .int b39, .ref b40, .ref b41, .ref b42, .ref b43, .ref b44, .ref b45, .ref b46, .int b47, .ref b48, .ref b49, .int b50, .ref b1, .ref b51, .ref b52, .ref b53, .ref b54, .int b55, .ref b56, .ref b57, .ref b58])), (b32, .inl (G.2 0, 2880, .inl b61))] H := hP
                  have hD := z_tie hP hD rfl
                  obtain ⟨v_388, ev_388⟩ : ∃ z : Int32, z = y_313 + 1 := ⟨_, rfl⟩
                  obtain ⟨qv_388, hv_388⟩ := zI_add (l := 1) (h := 240) hv_319 zc_1 ev_388 (by decide)
                  rw [li_1] at qv_388
                  refine lv_iinc (v := v_388) (lv' := [(8, .int v_388), (10, .int x_382), (9, .int 0), (7, .int v_213), (0, .ref b0), (1, .int 0), (2, .ref b1), (3, .int b2), (4, .int b3), (5, .int b4), (6, .int b5)]) hx hb d_Model_step_172 hl (k := 2) rfl (by rw [ev_388]; rfl) (by decide) rfl (fun ls hl => ?_)
                  refine lv_goto (tgt := 36) hx hb d_Model_step_175 (by decide) ?_
                  exact ihk_312 (v_388) (f_387) _ _ _ (zI.wk (l' := 0) (h' := 240) hv_388 (by decide)) (zm_up qv_388 hmk_312 (by decide)) (hP.sub [4, 0, 1, 5, 2, 3] rfl) (hD.sub [4, 0, 1, 5, 2, 3] (by decide) rfl) hS (lv_sub hl [0, 3, 4, 5, 6, 7, 8, 9, 10] rfl)
                · have hP : va_P G.1 classes [(b7, .inl (G.2 0, 503, .inl b59)), (b31, .inl (G.2 0, 2, .inl b60)), (b35, .inl (G.2 1, 4, .inr (.inl y_314))), (b1, .inl (G.2 1, 3208, .inr (.inl b63))), (b0, .inr (12, [.int b6, .ref b7, .ref b8, .ref b9, .ref b10, .int b11, .ref b12, .int b13, .int b14, .int b15, .int b16, .ref b17, .ref b18, .ref b19, .int b20, .ref b21, .ref b22, .ref b23, .ref b24, .ref b25, .ref b26, .ref b27, .ref b28, .ref b29, .ref b30, .ref b31, .ref b32, .int b33, .ref b34, .ref b35, .int b36, .int b37, .int b38, .int b39, .ref b40, .ref b41, .ref b42, .ref b43, .ref b44, .ref b45, .ref b46, .int b47, .ref b48, .ref b49, .int b50, .ref b1, .ref b51, .ref b52, .ref b53, .ref b54, .int b55, .ref b56, .ref b57, .ref b58])), (b32, .inl (G.2 0, 2880, .inl b61))] H := hP
                  have hD := z_tie hP hD rfl
                  try simp only [Int32.toInt_toInt64] at hq_376
                  have hv_389 : zI v_370 (-2147483648) 0 := by have _a := hq_376; have _b := (zI_all v_370); have _c := (zI_i2l hb4 rfl).2; simp only [Int32.toInt_toInt64] at *; exact ⟨by omega, by omega⟩
                  try simp only [Int32.toInt_toInt64] at hq_377
                  have hv_390 : zI v_373 (-2147483648) (-1) := by have _a := hq_377; have _b := (zI_all v_373); have _c := (zI_i2l hb4 rfl).2; simp only [Int32.toInt_toInt64] at *; exact ⟨by omega, by omega⟩
                  refine W.widen (k := 0) (n := 0) (Nat.le_of_ble_eq_true rfl) (Nat.le_of_ble_eq_true rfl) ?_
                  refine lv_if_eq (tgt := 130) hx hb d_Model_step_123 (by decide) (fun _ => ?_) (fun hc => absurd hc (by decide +kernel))
                  refine lv_iconst (v := 0) hx hb d_Model_step_130 (by decide) ?_
                  refine lv_istore (lv' := [(9, .int 0), (8, .int y_313), (7, .int v_213), (0, .ref b0), (1, .int 0), (2, .ref b1), (3, .int b2), (4, .int b3), (5, .int b4), (6, .int b5)]) hx hb d_Model_step_131 hl (by decide) rfl (fun ls hl => ?_)
                  refine lv_aload_n hx hb d_Model_step_133 rfl (lv_at hl 3 rfl) ?_
                  refine lv_iload_n hx hb d_Model_step_134 rfl (lv_at hl 4 rfl) ?_
                  refine lv_iload hx hb d_Model_step_135 (lv_at hl 1 rfl) ?_
                  refine lv_iconst (v := 2) hx hb d_Model_step_137 (by decide) ?_
                  refine z_callV (index := 225) (As := [.int 0, .int y_313, .int 2]) (rest := []) (wr := [(b7, .inl (G.2 0, 503, .inl b59)), (b31, .inl (G.2 0, 2, .inl b60)), (b35, .inl (G.2 1, 4, .inr (.inl y_314))), (b1, .inl (G.2 1, 3208, .inr (.inl b63)))]) Z (s6_Model_edgeAt l G (b0) (y_313) (b6) (b7) (b8) (b9) (b10) (b11) (b12) (b13) (b14) (b15) (b16) (b17) (b18) (b19) (b20) (b21) (b22) (b23) (b24) (b25) (b26) (b27) (b28) (b29) (b30) (b31) (b32) (b33) (b34) (b35) (b36) (b37) (b38) (b39) (b40) (b41) (b42) (b43) (b44) (b45) (b46) (b47) (b48) (b49) (b50) (b1) (b51) (b52) (b53) (b54) (b55) (b56) (b57) (b58) (b61) (zI.wk (l' := 0) (h' := 240) hv_319 (by decide)) hb11 hb13 hb14 hb16 hb20 hb33 hb36 hb47 hb50 hb55 hb61) hl.1 q1408 q1410 qs68 q14 q1411 ⟨by decide, by decide, by show _ = some 3; decide +kernel⟩ ⟨Nat.le_of_ble_eq_true rfl, Nat.le_of_ble_eq_true rfl⟩ ⟨Nat.le_of_ble_eq_true rfl, Nat.le_of_ble_eq_true rfl⟩ rfl (Nat.le_of_ble_eq_true rfl) d_Model_step_138 hP hD hS hA 4 12 rfl rfl rfl [4, 5] [0, 1, 2, 3] rfl rfl rfl rfl (by decide) (fun v w1 H locs hw_391 hP hD hS => ?_)
                  obtain ⟨x_392, rfl, rfl, hx_392, hfx_393⟩ := hw_391
                  have hP : va_P G.1 classes [(b7, .inl (G.2 0, 503, .inl b59)), (b31, .inl (G.2 0, 2, .inl b60)), (b35, .inl (G.2 1, 4, .inr (.inl y_314))), (b1, .inl (G.2 1, 3208, .inr (.inl b63))), (b0, .inr (12, [.int b6, .ref b7, .ref b8, .ref b9, .ref b10, .int b11, .ref b12, .int b13, .int b14, .int b15, .int b16, .ref b17, .ref b18, .ref b19, .int b20, .ref b21, .ref b22, .ref b23, .ref b24, .ref b25, .ref b26, .ref b27, .ref b28, .ref b29, .ref b30, .ref b31, .ref b32, .int b33, .ref b34, .ref b35, .int b36, .int b37, .int b38, .int b39, .ref b40, .ref b41, .ref b42, .ref b43, .ref b44, .ref b45, .ref b46, .int b47, .ref b48, .ref b49, .int b50, .ref b1, .ref b51, .ref b52, .ref b53, .ref b54, .int b55, .ref b56, .ref b57, .ref b58])), (b32, .inl (G.2 0, 2880, .inl b61))] H := hP
                  have hD := z_tie hP hD rfl
                  refine W.widen (k := 0) (n := 0) (Nat.le_of_ble_eq_true rfl) (Nat.le_of_ble_eq_true rfl) ?_
                  refine lv_istore (lv' := [(10, .int x_392), (9, .int 0), (8, .int y_313), (7, .int v_213), (0, .ref b0), (1, .int 0), (2, .ref b1), (3, .int b2), (4, .int b3), (5, .int b4), (6, .int b5)]) hx hb d_Model_step_141 hl (by decide) rfl (fun ls hl => ?_)
                  refine lv_aload_n hx hb d_Model_step_143 rfl (lv_at hl 4 rfl) ?_
                  refine va_get (D := G.1) (ci := 12) (v := .ref b35) (C := R_Model) (T := F_Model) (N := 54) hx hb hts i_Model hown hK hP 4 rfl rfl 29 (by decide) (hts _ q1138) (fun _ h9 => h9) rfl d_Model_step_144 ?_
                  refine lv_iload hx hb d_Model_step_147 (lv_at hl 0 rfl) ?_
                  refine lv_bipush (v := 64) hx hb d_Model_step_149 (by decide) ?_
                  refine lv_idiv hx hb d_Model_step_151 (by decide +kernel) ?_
                  refine lv_topi (fun v_394 ev_394 => ?_)
                  obtain ⟨qv_394, hv_394⟩ := zI_div (l := 0) (h := 3) (d := 64) hx_392 rfl ev_394 (by decide)
                  refine lv_dup2_11 hx hb d_Model_step_152 rfl rfl ?_
                  refine va_lald hx hb hK hP 2 1 rfl rfl (zI.inn hv_394 (by decide)) d_Model_step_153 ?_
                  refine lv_topl (fun v_395 ev_395 => ?_)
                  refine lv_iload hx hb d_Model_step_154 (lv_at hl 1 rfl) ?_
                  refine lv_if_eq (tgt := 169) hx hb d_Model_step_156 (by decide) (fun _ => ?_) (fun hc => absurd hc (by decide +kernel))
                  refine lv_lconst (v := 0) hx hb d_Model_step_169 (by decide) ?_
                  refine lv_lor hx hb d_Model_step_170 ?_
                  refine lv_topl (fun v_396 ev_396 => ?_)
                  refine va_last hx hb hK hP hD hS 2 1 rfl rfl (zI.inn hv_394 (by decide)) d_Model_step_171 (fun H locs hP hD hS => ?_)
                  obtain ⟨f_397, hP, hD⟩ := z_newL 2 hP hD rfl
                  have hP : va_P G.1 classes [(b7, .inl (G.2 0, 503, .inl b59)), (b31, .inl (G.2 0, 2, .inl b60)), (b35, .inl (G.2 1, 4, .inr (.inl f_397))), (b1, .inl (G.2 1, 3208, .inr (.inl b63))), (b0, .inr (12, [.int b6, .ref b7, .ref b8, .ref b9, .ref b10, .int b11, .ref b12, .int b13, .int b14, .int b15, .int b16, .ref b17, .ref b18, .ref b19, .int b20, .ref b21, .ref b22, .ref b23, .ref b24, .ref b25, .ref b26, .ref b27, .ref b28, .ref b29, .ref b30, .ref b31, .ref b32, .int b33, .ref b34, .ref b35, .int b36, .int b37, .int b38, .int b39, .ref b40, .ref b41, .ref b42, .ref b43, .ref b44, .ref b45, .ref b46, .int b47, .ref b48, .ref b49, .int b50, .ref b1, .ref b51, .ref b52, .ref b53, .ref b54, .int b55, .ref b56, .ref b57, .ref b58])), (b32, .inl (G.2 0, 2880, .inl b61))] H := hP
                  have hD := z_tie hP hD rfl
                  obtain ⟨v_398, ev_398⟩ : ∃ z : Int32, z = y_313 + 1 := ⟨_, rfl⟩
                  obtain ⟨qv_398, hv_398⟩ := zI_add (l := 1) (h := 240) hv_319 zc_1 ev_398 (by decide)
                  rw [li_1] at qv_398
                  refine lv_iinc (v := v_398) (lv' := [(8, .int v_398), (10, .int x_392), (9, .int 0), (7, .int v_213), (0, .ref b0), (1, .int 0), (2, .ref b1), (3, .int b2), (4, .int b3), (5, .int b4), (6, .int b5)]) hx hb d_Model_step_172 hl (k := 2) rfl (by rw [ev_398]; rfl) (by decide) rfl (fun ls hl => ?_)
                  refine lv_goto (tgt := 36) hx hb d_Model_step_175 (by decide) ?_
                  exact ihk_312 (v_398) (f_397) _ _ _ (zI.wk (l' := 0) (h' := 240) hv_398 (by decide)) (zm_up qv_398 hmk_312 (by decide)) (hP.sub [4, 0, 1, 5, 2, 3] rfl) (hD.sub [4, 0, 1, 5, 2, 3] (by decide) rfl) hS (lv_sub hl [0, 3, 4, 5, 6, 7, 8, 9, 10] rfl)
                · have hP : va_P G.1 classes [(b7, .inl (G.2 0, 503, .inl b59)), (b31, .inl (G.2 0, 2, .inl b60)), (b35, .inl (G.2 1, 4, .inr (.inl y_314))), (b1, .inl (G.2 1, 3208, .inr (.inl b63))), (b0, .inr (12, [.int b6, .ref b7, .ref b8, .ref b9, .ref b10, .int b11, .ref b12, .int b13, .int b14, .int b15, .int b16, .ref b17, .ref b18, .ref b19, .int b20, .ref b21, .ref b22, .ref b23, .ref b24, .ref b25, .ref b26, .ref b27, .ref b28, .ref b29, .ref b30, .ref b31, .ref b32, .int b33, .ref b34, .ref b35, .int b36, .int b37, .int b38, .int b39, .ref b40, .ref b41, .ref b42, .ref b43, .ref b44, .ref b45, .ref b46, .int b47, .ref b48, .ref b49, .int b50, .ref b1, .ref b51, .ref b52, .ref b53, .ref b54, .int b55, .ref b56, .ref b57, .ref b58])), (b32, .inl (G.2 0, 2880, .inl b61))] H := hP
                  have hD := z_tie hP hD rfl
                  try simp only [Int32.toInt_toInt64] at hq_378
                  have hv_399 : zI v_370 (-2147483648) 0 := by have _a := hq_378; have _b := (zI_all v_370); have _c := (zI_i2l hb4 rfl).2; simp only [Int32.toInt_toInt64] at *; exact ⟨by omega, by omega⟩
                  try simp only [Int32.toInt_toInt64] at hq_379
                  have hv_400 : zI v_373 0 2147483647 := by have _a := hq_379; have _b := (zI_all v_373); have _c := (zI_i2l hb4 rfl).2; simp only [Int32.toInt_toInt64] at *; exact ⟨by omega, by omega⟩
                  refine W.widen (k := 0) (n := 0) (Nat.le_of_ble_eq_true rfl) (Nat.le_of_ble_eq_true rfl) ?_
                  refine lv_if_eq (tgt := 130) hx hb d_Model_step_123 (by decide) (fun hc => absurd hc (by decide +kernel)) (fun _ => ?_)
                  refine lv_iconst (v := 1) hx hb d_Model_step_126 (by decide) ?_
                  refine lv_goto (tgt := 131) hx hb d_Model_step_127 (by decide) ?_
                  refine lv_istore (lv' := [(9, .int 1), (8, .int y_313), (7, .int v_213), (0, .ref b0), (1, .int 0), (2, .ref b1), (3, .int b2), (4, .int b3), (5, .int b4), (6, .int b5)]) hx hb d_Model_step_131 hl (by decide) rfl (fun ls hl => ?_)
                  refine lv_aload_n hx hb d_Model_step_133 rfl (lv_at hl 3 rfl) ?_
                  refine lv_iload_n hx hb d_Model_step_134 rfl (lv_at hl 4 rfl) ?_
                  refine lv_iload hx hb d_Model_step_135 (lv_at hl 1 rfl) ?_
                  refine lv_iconst (v := 2) hx hb d_Model_step_137 (by decide) ?_
                  refine z_callV (index := 225) (As := [.int 0, .int y_313, .int 2]) (rest := []) (wr := [(b7, .inl (G.2 0, 503, .inl b59)), (b31, .inl (G.2 0, 2, .inl b60)), (b35, .inl (G.2 1, 4, .inr (.inl y_314))), (b1, .inl (G.2 1, 3208, .inr (.inl b63)))]) Z (s6_Model_edgeAt l G (b0) (y_313) (b6) (b7) (b8) (b9) (b10) (b11) (b12) (b13) (b14) (b15) (b16) (b17) (b18) (b19) (b20) (b21) (b22) (b23) (b24) (b25) (b26) (b27) (b28) (b29) (b30) (b31) (b32) (b33) (b34) (b35) (b36) (b37) (b38) (b39) (b40) (b41) (b42) (b43) (b44) (b45) (b46) (b47) (b48) (b49) (b50) (b1) (b51) (b52) (b53) (b54) (b55) (b56) (b57) (b58) (b61) (zI.wk (l' := 0) (h' := 240) hv_319 (by decide)) hb11 hb13 hb14 hb16 hb20 hb33 hb36 hb47 hb50 hb55 hb61) hl.1 q1408 q1410 qs68 q14 q1411 ⟨by decide, by decide, by show _ = some 3; decide +kernel⟩ ⟨Nat.le_of_ble_eq_true rfl, Nat.le_of_ble_eq_true rfl⟩ ⟨Nat.le_of_ble_eq_true rfl, Nat.le_of_ble_eq_true rfl⟩ rfl (Nat.le_of_ble_eq_true rfl) d_Model_step_138 hP hD hS hA 4 12 rfl rfl rfl [4, 5] [0, 1, 2, 3] rfl rfl rfl rfl (by decide) (fun v w1 H locs hw_401 hP hD hS => ?_)
                  obtain ⟨x_402, rfl, rfl, hx_402, hfx_403⟩ := hw_401
                  have hP : va_P G.1 classes [(b7, .inl (G.2 0, 503, .inl b59)), (b31, .inl (G.2 0, 2, .inl b60)), (b35, .inl (G.2 1, 4, .inr (.inl y_314))), (b1, .inl (G.2 1, 3208, .inr (.inl b63))), (b0, .inr (12, [.int b6, .ref b7, .ref b8, .ref b9, .ref b10, .int b11, .ref b12, .int b13, .int b14, .int b15, .int b16, .ref b17, .ref b18, .ref b19, .int b20, .ref b21, .ref b22, .ref b23, .ref b24, .ref b25, .ref b26, .ref b27, .ref b28, .ref b29, .ref b30, .ref b31, .ref b32, .int b33, .ref b34, .ref b35, .int b36, .int b37, .int b38, .int b39, .ref b40, .ref b41, .ref b42, .ref b43, .ref b44, .ref b45, .ref b46, .int b47, .ref b48, .ref b49, .int b50, .ref b1, .ref b51, .ref b52, .ref b53, .ref b54, .int b55, .ref b56, .ref b57, .ref b58])), (b32, .inl (G.2 0, 2880, .inl b61))] H := hP
                  have hD := z_tie hP hD rfl
                  refine W.widen (k := 0) (n := 0) (Nat.le_of_ble_eq_true rfl) (Nat.le_of_ble_eq_true rfl) ?_
                  refine lv_istore (lv' := [(10, .int x_402), (9, .int 1), (8, .int y_313), (7, .int v_213), (0, .ref b0), (1, .int 0), (2, .ref b1), (3, .int b2), (4, .int b3), (5, .int b4), (6, .int b5)]) hx hb d_Model_step_141 hl (by decide) rfl (fun ls hl => ?_)
                  refine lv_aload_n hx hb d_Model_step_143 rfl (lv_at hl 4 rfl) ?_
                  refine va_get (D := G.1) (ci := 12) (v := .ref b35) (C := R_Model) (T := F_Model) (N := 54) hx hb hts i_Model hown hK hP 4 rfl rfl 29 (by decide) (hts _ q1138) (fun _ h9 => h9) rfl d_Model_step_144 ?_
                  refine lv_iload hx hb d_Model_step_147 (lv_at hl 0 rfl) ?_
                  refine lv_bipush (v := 64) hx hb d_Model_step_149 (by decide) ?_
                  refine lv_idiv hx hb d_Model_step_151 (by decide +kernel) ?_
                  refine lv_topi (fun v_404 ev_404 => ?_)
                  obtain ⟨qv_404, hv_404⟩ := zI_div (l := 0) (h := 3) (d := 64) hx_402 rfl ev_404 (by decide)
                  refine lv_dup2_11 hx hb d_Model_step_152 rfl rfl ?_
                  refine va_lald hx hb hK hP 2 1 rfl rfl (zI.inn hv_404 (by decide)) d_Model_step_153 ?_
                  refine lv_topl (fun v_405 ev_405 => ?_)
                  refine lv_iload hx hb d_Model_step_154 (lv_at hl 1 rfl) ?_
                  refine lv_if_eq (tgt := 169) hx hb d_Model_step_156 (by decide) (fun hc => absurd hc (by decide +kernel)) (fun _ => ?_)
                  refine lv_lconst (v := 1) hx hb d_Model_step_159 (by decide) ?_
                  refine lv_iload hx hb d_Model_step_160 (lv_at hl 0 rfl) ?_
                  refine lv_bipush (v := 64) hx hb d_Model_step_162 (by decide) ?_
                  refine lv_irem hx hb d_Model_step_164 (by decide +kernel) ?_
                  refine lv_topi (fun v_406 ev_406 => ?_)
                  obtain ⟨qv_406, hv_406⟩ := zI_rem (h := 63) (d := 64) hx_402 rfl ev_406 (by decide)
                  obtain ⟨v_407, ev_407⟩ : ∃ z : Int64, z = 1 <<< ((v_406 : Int32).toInt64 &&& 63) := ⟨_, rfl⟩
                  refine lv_lshl (v := v_407) hx hb d_Model_step_165 ev_407.symm ?_
                  refine lv_goto (tgt := 170) hx hb d_Model_step_166 (by decide) ?_
                  refine lv_lor hx hb d_Model_step_170 ?_
                  refine lv_topl (fun v_408 ev_408 => ?_)
                  refine va_last hx hb hK hP hD hS 2 1 rfl rfl (zI.inn hv_404 (by decide)) d_Model_step_171 (fun H locs hP hD hS => ?_)
                  obtain ⟨f_409, hP, hD⟩ := z_newL 2 hP hD rfl
                  have hP : va_P G.1 classes [(b7, .inl (G.2 0, 503, .inl b59)), (b31, .inl (G.2 0, 2, .inl b60)), (b35, .inl (G.2 1, 4, .inr (.inl f_409))), (b1, .inl (G.2 1, 3208, .inr (.inl b63))), (b0, .inr (12, [.int b6, .ref b7, .ref b8, .ref b9, .ref b10, .int b11, .ref b12, .int b13, .int b14, .int b15, .int b16, .ref b17, .ref b18, .ref b19, .int b20, .ref b21, .ref b22, .ref b23, .ref b24, .ref b25, .ref b26, .ref b27, .ref b28, .ref b29, .ref b30, .ref b31, .ref b32, .int b33, .ref b34, .ref b35, .int b36, .int b37, .int b38, .int b39, .ref b40, .ref b41, .ref b42, .ref b43, .ref b44, .ref b45, .ref b46, .int b47, .ref b48, .ref b49, .int b50, .ref b1, .ref b51, .ref b52, .ref b53, .ref b54, .int b55, .ref b56, .ref b57, .ref b58])), (b32, .inl (G.2 0, 2880, .inl b61))] H := hP
                  have hD := z_tie hP hD rfl
                  obtain ⟨v_410, ev_410⟩ : ∃ z : Int32, z = y_313 + 1 := ⟨_, rfl⟩
                  obtain ⟨qv_410, hv_410⟩ := zI_add (l := 1) (h := 240) hv_319 zc_1 ev_410 (by decide)
                  rw [li_1] at qv_410
                  refine lv_iinc (v := v_410) (lv' := [(8, .int v_410), (10, .int x_402), (9, .int 1), (7, .int v_213), (0, .ref b0), (1, .int 0), (2, .ref b1), (3, .int b2), (4, .int b3), (5, .int b4), (6, .int b5)]) hx hb d_Model_step_172 hl (k := 2) rfl (by rw [ev_410]; rfl) (by decide) rfl (fun ls hl => ?_)
                  refine lv_goto (tgt := 36) hx hb d_Model_step_175 (by decide) ?_
                  exact ihk_312 (v_410) (f_409) _ _ _ (zI.wk (l' := 0) (h' := 240) hv_410 (by decide)) (zm_up qv_410 hmk_312 (by decide)) (hP.sub [4, 0, 1, 5, 2, 3] rfl) (hD.sub [4, 0, 1, 5, 2, 3] (by decide) rfl) hS (lv_sub hl [0, 3, 4, 5, 6, 7, 8, 9, 10] rfl)
    · have _nhc_210 := hc_210
      have ni_411 := (fa_lt _ _).mp (zi_nle hc_210)
      rw [li_4] at ni_411
      have hv_412 : zI y_208 0 3 := zI.lt_l hy_208 zc_4 (zi_nle hc_210) (by decide)
      refine lv_aload_n hx hb d_Model_step_9 rfl (lv_at hl 1 rfl) ?_
      refine va_get (D := G.1) (ci := 12) (v := .ref b35) (C := R_Model) (T := F_Model) (N := 54) hx hb hts i_Model hown hK hP 0 rfl rfl 29 (by decide) (hts _ q1138) (fun _ h9 => h9) rfl d_Model_step_10 ?_
      refine lv_iload hx hb d_Model_step_13 (lv_at hl 0 rfl) ?_
      refine lv_lconst (v := 0) hx hb d_Model_step_15 (by decide) ?_
      refine va_last hx hb hK hP hD hS 4 1 rfl rfl (zI.inn hv_412 (by decide)) d_Model_step_16 (fun H locs hP hD hS => ?_)
      obtain ⟨f_413, hP, hD⟩ := z_newL 4 hP hD rfl
      have hP : va_P G.1 classes [(b0, .inr (12, [.int b6, .ref b7, .ref b8, .ref b9, .ref b10, .int b11, .ref b12, .int b13, .int b14, .int b15, .int b16, .ref b17, .ref b18, .ref b19, .int b20, .ref b21, .ref b22, .ref b23, .ref b24, .ref b25, .ref b26, .ref b27, .ref b28, .ref b29, .ref b30, .ref b31, .ref b32, .int b33, .ref b34, .ref b35, .int b36, .int b37, .int b38, .int b39, .ref b40, .ref b41, .ref b42, .ref b43, .ref b44, .ref b45, .ref b46, .int b47, .ref b48, .ref b49, .int b50, .ref b1, .ref b51, .ref b52, .ref b53, .ref b54, .int b55, .ref b56, .ref b57, .ref b58])), (b7, .inl (G.2 0, 503, .inl b59)), (b31, .inl (G.2 0, 2, .inl b60)), (b32, .inl (G.2 0, 2880, .inl b61)), (b35, .inl (G.2 1, 4, .inr (.inl f_413))), (b1, .inl (G.2 1, 3208, .inr (.inl b63)))] H := hP
      have hD := z_tie hP hD rfl
      obtain ⟨v_414, ev_414⟩ : ∃ z : Int32, z = y_208 + 1 := ⟨_, rfl⟩
      obtain ⟨qv_414, hv_414⟩ := zI_add (l := 1) (h := 4) hv_412 zc_1 ev_414 (by decide)
      rw [li_1] at qv_414
      refine lv_iinc (v := v_414) (lv' := [(7, .int v_414), (0, .ref b0), (1, .int 0), (2, .ref b1), (3, .int b2), (4, .int b3), (5, .int b4), (6, .int b5)]) hx hb d_Model_step_17 hl (k := 0) rfl (by rw [ev_414]; rfl) (by decide) rfl (fun ls hl => ?_)
      refine lv_goto (tgt := 3) hx hb d_Model_step_20 (by decide) ?_
      exact ihk_207 (v_414) (f_413) _ _ _ (zI.wk (l' := 0) (h' := 4) hv_414 (by decide)) (zm_up qv_414 hmk_207 (by decide)) hP hD hS (lv_sub hl [0, 1, 2, 3, 4, 5, 6, 7] rfl)
abbrev m_s19_Model_edgeAt : Room := { frames := 0, cells := 0, slots := 0, locals := 0 }
set_option maxHeartbeats 4000000 in
set_option maxRecDepth 100000 in
theorem s19_Model_edgeAt (l : Launch) (G : zG) (b0 : Nat) (b1 : Int32) (b2 : Int32) (b3 : Nat) (b4 : Nat) (b5 : Nat) (b6 : Nat) (b7 : Int32) (b8 : Nat) (b9 : Int32) (b10 : Int32) (b11 : Int32) (b12 : Int32) (b13 : Nat) (b14 : Nat) (b15 : Nat) (b16 : Int32) (b17 : Nat) (b18 : Nat) (b19 : Nat) (b20 : Nat) (b21 : Nat) (b22 : Nat) (b23 : Nat) (b24 : Nat) (b25 : Nat) (b26 : Nat) (b27 : Nat) (b28 : Nat) (b29 : Int32) (b30 : Nat) (b31 : Nat) (b32 : Int32) (b33 : Int32) (b34 : Int32) (b35 : Int32) (b36 : Nat) (b37 : Nat) (b38 : Nat) (b39 : Nat) (b40 : Nat) (b41 : Nat) (b42 : Nat) (b43 : Int32) (b44 : Nat) (b45 : Nat) (b46 : Int32) (b47 : Nat) (b48 : Nat) (b49 : Nat) (b50 : Nat) (b51 : Nat) (b52 : Int32) (b53 : Nat) (b54 : Nat) (b55 : Nat) (b56 : Nat → Int32) (hb1 : zI b1 0 239) (hb7 : zI b7 0 8) (hb9 : zI b9 0 240) (hb10 : zI b10 0 240) (hb12 : zI b12 0 1) (hb16 : zI b16 0 12) (hb29 : zI b29 0 1) (hb32 : zI b32 0 1) (hb43 : zI b43 0 1000) (hb46 : zI b46 0 1000) (hb52 : zI b52 0 400) (hb56 : zqa qE b56) : zM l G y_Model_edgeAt prog_14_method_25_code 4 (Option.some Jvm.ClassFile.FieldType.int) m_s19_Model_edgeAt [.ref b0, .int 1, .int b1, .int 4] [(b0, .inr (12, [.int b2, .ref b3, .ref b4, .ref b5, .ref b6, .int b7, .ref b8, .int b9, .int b10, .int b11, .int b12, .ref b13, .ref b14, .ref b15, .int b16, .ref b17, .ref b18, .ref b19, .ref b20, .ref b21, .ref b22, .ref b23, .ref b24, .ref b25, .ref b26, .ref b27, .ref b28, .int b29, .ref b30, .ref b31, .int b32, .int b33, .int b34, .int b35, .ref b36, .ref b37, .ref b38, .ref b39, .ref b40, .ref b41, .ref b42, .int b43, .ref b44, .ref b45, .int b46, .ref b47, .ref b48, .ref b49, .ref b50, .ref b51, .int b52, .ref b53, .ref b54, .ref b55])), (b28, .inl (G.2 0, 2880, .inl b56))] (fun v w => ∃ (e0 : Int32), v = some (.int e0) ∧ w = [(b0, .inr (12, [.int b2, .ref b3, .ref b4, .ref b5, .ref b6, .int b7, .ref b8, .int b9, .int b10, .int b11, .int b12, .ref b13, .ref b14, .ref b15, .int b16, .ref b17, .ref b18, .ref b19, .ref b20, .ref b21, .ref b22, .ref b23, .ref b24, .ref b25, .ref b26, .ref b27, .ref b28, .int b29, .ref b30, .ref b31, .int b32, .int b33, .int b34, .int b35, .ref b36, .ref b37, .ref b38, .ref b39, .ref b40, .ref b41, .ref b42, .int b43, .ref b44, .ref b45, .int b46, .ref b47, .ref b48, .ref b49, .ref b50, .ref b51, .int b52, .ref b53, .ref b54, .ref b55])), (b28, .inl (G.2 0, 2880, .inl b56))]) := by
  refine z_start (by decide +kernel) (Nat.le_of_ble_eq_true rfl) ?_
  intro p e s m below meth c A Z hr hnm hA hP hD hS ls hl
  have Z : zC p s m _ meth c prog_14_method_25_code 4 "TraceMachinesModel" G := Z
  obtain ⟨hx, hb, hml, hown, hts, hK, hN, hlocks⟩ := id Z
  have hl : lv_has ls 4 [(0, .ref b0), (1, .int 1), (2, .int b1), (3, .int 4)] := hl
  refine lv_aload_n hx hb d_Model_edgeAt_0 rfl (lv_at hl 0 rfl) ?_
  refine va_get (D := G.1) (ci := 12) (v := .ref b28) (C := R_Model) (T := F_Model) (N := 54) hx hb hts i_Model hown hK hP 0 rfl rfl 26 (by decide) (hts _ q1135) (fun _ h9 => h9) rfl d_Model_edgeAt_1 ?_
  refine lv_bipush (v := 6) hx hb d_Model_edgeAt_4 (by decide) ?_
  refine lv_sipush (v := 240) hx hb d_Model_edgeAt_6 (by decide) ?_
  refine lv_iload_n hx hb d_Model_edgeAt_9 rfl (lv_at hl 1 rfl) ?_
  refine lv_imul hx hb d_Model_edgeAt_10 ?_
  refine z_topi (y := 240) (by decide +kernel) ?_
  refine lv_iload_n hx hb d_Model_edgeAt_11 rfl (lv_at hl 2 rfl) ?_
  refine lv_iadd hx hb d_Model_edgeAt_12 ?_
  refine lv_topi (fun v_1 ev_1 => ?_)
  obtain ⟨qv_1, hv_1⟩ := zI_add (l := 240) (h := 479) zc_240 hb1 ev_1 (by decide)
  rw [li_240] at qv_1
  refine lv_imul hx hb d_Model_edgeAt_13 ?_
  refine lv_topi (fun v_2 ev_2 => ?_)
  obtain ⟨qv_2, hv_2⟩ := zI_mul (l := 1440) (h := 2874) zc_6 hv_1 ev_2 (by decide)
  rw [li_6] at qv_2
  refine lv_iload_n hx hb d_Model_edgeAt_14 rfl (lv_at hl 3 rfl) ?_
  refine lv_iadd hx hb d_Model_edgeAt_15 ?_
  refine lv_topi (fun v_3 ev_3 => ?_)
  obtain ⟨qv_3, hv_3⟩ := zI_add (l := 1444) (h := 2878) hv_2 zc_4 ev_3 (by decide)
  rw [li_4] at qv_3
  refine va_iald hx hb hK hP 1 0 rfl rfl (zI.inn hv_3 (by decide)) d_Model_edgeAt_16 ?_
  refine lv_topi (fun v_4 ev_4 => ?_)
  have kv_4 := zQE.ld hb56 hv_3 ev_4 (by decide)
  exact z_iret hx hb hr hlocks hP hD hS (Nat.le_of_ble_eq_true rfl) (Nat.le_of_ble_eq_true rfl) d_Model_edgeAt_17 ⟨v_4, rfl, rfl⟩
abbrev m_s20_Model_edgeAt : Room := { frames := 0, cells := 0, slots := 0, locals := 0 }
set_option maxHeartbeats 4000000 in
set_option maxRecDepth 100000 in
theorem s20_Model_edgeAt (l : Launch) (G : zG) (b0 : Nat) (b1 : Int32) (b2 : Int32) (b3 : Nat) (b4 : Nat) (b5 : Nat) (b6 : Nat) (b7 : Int32) (b8 : Nat) (b9 : Int32) (b10 : Int32) (b11 : Int32) (b12 : Int32) (b13 : Nat) (b14 : Nat) (b15 : Nat) (b16 : Int32) (b17 : Nat) (b18 : Nat) (b19 : Nat) (b20 : Nat) (b21 : Nat) (b22 : Nat) (b23 : Nat) (b24 : Nat) (b25 : Nat) (b26 : Nat) (b27 : Nat) (b28 : Nat) (b29 : Int32) (b30 : Nat) (b31 : Nat) (b32 : Int32) (b33 : Int32) (b34 : Int32) (b35 : Int32) (b36 : Nat) (b37 : Nat) (b38 : Nat) (b39 : Nat) (b40 : Nat) (b41 : Nat) (b42 : Nat) (b43 : Int32) (b44 : Nat) (b45 : Nat) (b46 : Int32) (b47 : Nat) (b48 : Nat) (b49 : Nat) (b50 : Nat) (b51 : Nat) (b52 : Int32) (b53 : Nat) (b54 : Nat) (b55 : Nat) (b56 : Nat → Int32) (hb1 : zI b1 0 239) (hb7 : zI b7 0 8) (hb9 : zI b9 0 240) (hb10 : zI b10 0 240) (hb12 : zI b12 0 1) (hb16 : zI b16 0 12) (hb29 : zI b29 0 1) (hb32 : zI b32 0 1) (hb43 : zI b43 0 1000) (hb46 : zI b46 0 1000) (hb52 : zI b52 0 400) (hb56 : zqa qE b56) : zM l G y_Model_edgeAt prog_14_method_25_code 4 (Option.some Jvm.ClassFile.FieldType.int) m_s20_Model_edgeAt [.ref b0, .int 1, .int b1, .int 5] [(b0, .inr (12, [.int b2, .ref b3, .ref b4, .ref b5, .ref b6, .int b7, .ref b8, .int b9, .int b10, .int b11, .int b12, .ref b13, .ref b14, .ref b15, .int b16, .ref b17, .ref b18, .ref b19, .ref b20, .ref b21, .ref b22, .ref b23, .ref b24, .ref b25, .ref b26, .ref b27, .ref b28, .int b29, .ref b30, .ref b31, .int b32, .int b33, .int b34, .int b35, .ref b36, .ref b37, .ref b38, .ref b39, .ref b40, .ref b41, .ref b42, .int b43, .ref b44, .ref b45, .int b46, .ref b47, .ref b48, .ref b49, .ref b50, .ref b51, .int b52, .ref b53, .ref b54, .ref b55])), (b28, .inl (G.2 0, 2880, .inl b56))] (fun v w => ∃ (e0 : Int32), v = some (.int e0) ∧ w = [(b0, .inr (12, [.int b2, .ref b3, .ref b4, .ref b5, .ref b6, .int b7, .ref b8, .int b9, .int b10, .int b11, .int b12, .ref b13, .ref b14, .ref b15, .int b16, .ref b17, .ref b18, .ref b19, .ref b20, .ref b21, .ref b22, .ref b23, .ref b24, .ref b25, .ref b26, .ref b27, .ref b28, .int b29, .ref b30, .ref b31, .int b32, .int b33, .int b34, .int b35, .ref b36, .ref b37, .ref b38, .ref b39, .ref b40, .ref b41, .ref b42, .int b43, .ref b44, .ref b45, .int b46, .ref b47, .ref b48, .ref b49, .ref b50, .ref b51, .int b52, .ref b53, .ref b54, .ref b55])), (b28, .inl (G.2 0, 2880, .inl b56))]) := by
  refine z_start (by decide +kernel) (Nat.le_of_ble_eq_true rfl) ?_
  intro p e s m below meth c A Z hr hnm hA hP hD hS ls hl
  have Z : zC p s m _ meth c prog_14_method_25_code 4 "TraceMachinesModel" G := Z
  obtain ⟨hx, hb, hml, hown, hts, hK, hN, hlocks⟩ := id Z
  have hl : lv_has ls 4 [(0, .ref b0), (1, .int 1), (2, .int b1), (3, .int 5)] := hl
  refine lv_aload_n hx hb d_Model_edgeAt_0 rfl (lv_at hl 0 rfl) ?_
  refine va_get (D := G.1) (ci := 12) (v := .ref b28) (C := R_Model) (T := F_Model) (N := 54) hx hb hts i_Model hown hK hP 0 rfl rfl 26 (by decide) (hts _ q1135) (fun _ h9 => h9) rfl d_Model_edgeAt_1 ?_
  refine lv_bipush (v := 6) hx hb d_Model_edgeAt_4 (by decide) ?_
  refine lv_sipush (v := 240) hx hb d_Model_edgeAt_6 (by decide) ?_
  refine lv_iload_n hx hb d_Model_edgeAt_9 rfl (lv_at hl 1 rfl) ?_
  refine lv_imul hx hb d_Model_edgeAt_10 ?_
  refine z_topi (y := 240) (by decide +kernel) ?_
  refine lv_iload_n hx hb d_Model_edgeAt_11 rfl (lv_at hl 2 rfl) ?_
  refine lv_iadd hx hb d_Model_edgeAt_12 ?_
  refine lv_topi (fun v_1 ev_1 => ?_)
  obtain ⟨qv_1, hv_1⟩ := zI_add (l := 240) (h := 479) zc_240 hb1 ev_1 (by decide)
  rw [li_240] at qv_1
  refine lv_imul hx hb d_Model_edgeAt_13 ?_
  refine lv_topi (fun v_2 ev_2 => ?_)
  obtain ⟨qv_2, hv_2⟩ := zI_mul (l := 1440) (h := 2874) zc_6 hv_1 ev_2 (by decide)
  rw [li_6] at qv_2
  refine lv_iload_n hx hb d_Model_edgeAt_14 rfl (lv_at hl 3 rfl) ?_
  refine lv_iadd hx hb d_Model_edgeAt_15 ?_
  refine lv_topi (fun v_3 ev_3 => ?_)
  obtain ⟨qv_3, hv_3⟩ := zI_add (l := 1445) (h := 2879) hv_2 zc_5 ev_3 (by decide)
  rw [li_5] at qv_3
  refine va_iald hx hb hK hP 1 0 rfl rfl (zI.inn hv_3 (by decide)) d_Model_edgeAt_16 ?_
  refine lv_topi (fun v_4 ev_4 => ?_)
  have kv_4 := zQE.ld hb56 hv_3 ev_4 (by decide)
  exact z_iret hx hb hr hlocks hP hD hS (Nat.le_of_ble_eq_true rfl) (Nat.le_of_ble_eq_true rfl) d_Model_edgeAt_17 ⟨v_4, rfl, rfl⟩
abbrev m_s13_Model_step : Room := { frames := 1, cells := 0, slots := 0, locals := 25 }
set_option maxHeartbeats 4000000 in
set_option maxRecDepth 100000 in
theorem s13_Model_step (l : Launch) (G : zG) (b0 : Nat) (b1 : Nat) (b2 : Int32) (b3 : Int32) (b4 : Int32) (b5 : Int32) (b6 : Int32) (b7 : Nat) (b8 : Nat) (b9 : Nat) (b10 : Nat) (b11 : Int32) (b12 : Nat) (b13 : Int32) (b14 : Int32) (b15 : Int32) (b16 : Int32) (b17 : Nat) (b18 : Nat) (b19 : Nat) (b20 : Int32) (b21 : Nat) (b22 : Nat) (b23 : Nat) (b24 : Nat) (b25 : Nat) (b26 : Nat) (b27 : Nat) (b28 : Nat) (b29 : Nat) (b30 : Nat) (b31 : Nat) (b32 : Nat) (b33 : Int32) (b34 : Nat) (b35 : Nat) (b36 : Int32) (b37 : Int32) (b38 : Int32) (b39 : Int32) (b40 : Nat) (b41 : Nat) (b42 : Nat) (b43 : Nat) (b44 : Nat) (b45 : Nat) (b46 : Nat) (b47 : Int32) (b48 : Nat) (b49 : Nat) (b50 : Int32) (b51 : Nat) (b52 : Nat) (b53 : Nat) (b54 : Nat) (b55 : Int32) (b56 : Nat) (b57 : Nat) (b58 : Nat) (b59 : Nat → Int32) (b60 : Nat → Int32) (b61 : Nat → Int32) (b62 : Nat → Int64) (b63 : Nat → Int64) (hb2 : zI b2 0 3204) (hb3 : zI b3 0 9) (hb4 : zI b4 0 0) (hb5 : zI b5 0 1) (hb11 : zI b11 0 8) (hb13 : zI b13 0 240) (hb14 : zI b14 0 240) (hb16 : zI b16 0 1) (hb20 : zI b20 0 12) (hb33 : zI b33 0 1) (hb36 : zI b36 0 1) (hb47 : zI b47 0 1000) (hb50 : zI b50 0 1000) (hb55 : zI b55 0 400) (hb59 : zW5 b59) (hb60 : zR b60 0 240) (hb61 : zqa qE b61) : zM l G y_Model_step prog_14_method_47_code 11 (Option.none : Option Jvm.ClassFile.FieldType) m_s13_Model_step [.ref b0, .int 1, .ref b1, .int b2, .int b3, .int b4, .int b5] [(b0, .inr (12, [.int b6, .ref b7, .ref b8, .ref b9, .ref b10, .int b11, .ref b12, .int b13, .int b14, .int b15, .int b16, .ref b17, .ref b18, .ref b19, .int b20, .ref b21, .ref b22, .ref b23, .ref b24, .ref b25, .ref b26, .ref b27, .ref b28, .ref b29, .ref b30, .ref b31, .ref b32, .int b33, .ref b34, .ref b35, .int b36, .int b37, .int b38, .int b39, .ref b40, .ref b41, .ref b42, .ref b43, .ref b44, .ref b45, .ref b46, .int b47, .ref b48, .ref b49, .int b50, .ref b1, .ref b51, .ref b52, .ref b53, .ref b54, .int b55, .ref b56, .ref b57, .ref b58])), (b7, .inl (G.2 0, 503, .inl b59)), (b31, .inl (G.2 0, 2, .inl b60)), (b32, .inl (G.2 0, 2880, .inl b61)), (b35, .inl (G.2 1, 4, .inr (.inl b62))), (b1, .inl (G.2 1, 3208, .inr (.inl b63)))] (fun v w => ∃ (e0 : Nat → Int64), v = none ∧ w = [(b0, .inr (12, [.int b6, .ref b7, .ref b8, .ref b9, .ref b10, .int b11, .ref b12, .int b13, .int b14, .int b15, .int b16, .ref b17, .ref b18, .ref b19, .int b20, .ref b21, .ref b22, .ref b23, .ref b24, .ref b25, .ref b26, .ref b27, .ref b28, .ref b29, .ref b30, .ref b31, .ref b32, .int b33, .ref b34, .ref b35, .int b36, .int b37, .int b38, .int b39, .ref b40, .ref b41, .ref b42, .ref b43, .ref b44, .ref b45, .ref b46, .int b47, .ref b48, .ref b49, .int b50, .ref b1, .ref b51, .ref b52, .ref b53, .ref b54, .int b55, .ref b56, .ref b57, .ref b58])), (b7, .inl (G.2 0, 503, .inl b59)), (b31, .inl (G.2 0, 2, .inl b60)), (b32, .inl (G.2 0, 2880, .inl b61)), (b35, .inl (G.2 1, 4, .inr (.inl e0))), (b1, .inl (G.2 1, 3208, .inr (.inl b63)))]) := by
  refine z_start (by decide +kernel) (Nat.le_of_ble_eq_true rfl) ?_
  intro p e s m below meth c A Z hr hnm hA hP hD hS ls hl
  have Z : zC p s m _ meth c prog_14_method_47_code 11 "TraceMachinesModel" G := Z
  obtain ⟨hx, hb, hml, hown, hts, hK, hN, hlocks⟩ := id Z
  have hl : lv_has ls 11 [(0, .ref b0), (1, .int 1), (2, .ref b1), (3, .int b2), (4, .int b3), (5, .int b4), (6, .int b5)] := hl
  refine lv_iconst (v := 0) hx hb d_Model_step_0 (by decide) ?_
  refine lv_istore (lv' := [(7, .int 0), (0, .ref b0), (1, .int 1), (2, .ref b1), (3, .int b2), (4, .int b3), (5, .int b4), (6, .int b5)]) hx hb d_Model_step_1 hl (by decide) rfl (fun ls hl => ?_)
  suffices key : ∀ (k_191 : Nat) (y_192 : Int32) (y_193 : Nat → Int64) (H : Heap) (locs : List Loc) (ls : Array Slot), (zI y_192 0 4) → (4 : Int) - y_192.toInt < (k_191 : Int) → va_P G.1 classes [(b0, .inr (12, [.int b6, .ref b7, .ref b8, .ref b9, .ref b10, .int b11, .ref b12, .int b13, .int b14, .int b15, .int b16, .ref b17, .ref b18, .ref b19, .int b20, .ref b21, .ref b22, .ref b23, .ref b24, .ref b25, .ref b26, .ref b27, .ref b28, .ref b29, .ref b30, .ref b31, .ref b32, .int b33, .ref b34, .ref b35, .int b36, .int b37, .int b38, .int b39, .ref b40, .ref b41, .ref b42, .ref b43, .ref b44, .ref b45, .ref b46, .int b47, .ref b48, .ref b49, .int b50, .ref b1, .ref b51, .ref b52, .ref b53, .ref b54, .int b55, .ref b56, .ref b57, .ref b58])), (b7, .inl (G.2 0, 503, .inl b59)), (b31, .inl (G.2 0, 2, .inl b60)), (b32, .inl (G.2 0, 2880, .inl b61)), (b35, .inl (G.2 1, 4, .inr (.inl y_193))), (b1, .inl (G.2 1, 3208, .inr (.inl b63)))] H → va_D A [(b0, .inr (12, [.int b6, .ref b7, .ref b8, .ref b9, .ref b10, .int b11, .ref b12, .int b13, .int b14, .int b15, .int b16, .ref b17, .ref b18, .ref b19, .int b20, .ref b21, .ref b22, .ref b23, .ref b24, .ref b25, .ref b26, .ref b27, .ref b28, .ref b29, .ref b30, .ref b31, .ref b32, .int b33, .ref b34, .ref b35, .int b36, .int b37, .int b38, .int b39, .ref b40, .ref b41, .ref b42, .ref b43, .ref b44, .ref b45, .ref b46, .int b47, .ref b48, .ref b49, .int b50, .ref b1, .ref b51, .ref b52, .ref b53, .ref b54, .int b55, .ref b56, .ref b57, .ref b58])), (b7, .inl (G.2 0, 503, .inl b59)), (b31, .inl (G.2 0, 2, .inl b60)), (b32, .inl (G.2 0, 2880, .inl b61)), (b35, .inl (G.2 1, 4, .inr (.inl y_193))), (b1, .inl (G.2 1, 3208, .inr (.inl b63)))] → va_S A s.heap H locs → lv_has ls 11 [(7, .int y_192), (0, .ref b0), (1, .int 1), (2, .ref b1), (3, .int b2), (4, .int b3), (5, .int b4), (6, .int b5)] → W p l e m_s13_Model_step s m ([.ref b0, .int 1, .ref b1, .int b2, .int b3, .int b4, .int b5] : List Value).toArray below meth c H locs 0 0 (MQ below (zQ G (fun v w => ∃ (e0 : Nat → Int64), v = none ∧ w = [(b0, .inr (12, [.int b6, .ref b7, .ref b8, .ref b9, .ref b10, .int b11, .ref b12, .int b13, .int b14, .int b15, .int b16, .ref b17, .ref b18, .ref b19, .int b20, .ref b21, .ref b22, .ref b23, .ref b24, .ref b25, .ref b26, .ref b27, .ref b28, .ref b29, .ref b30, .ref b31, .ref b32, .int b33, .ref b34, .ref b35, .int b36, .int b37, .int b38, .int b39, .ref b40, .ref b41, .ref b42, .ref b43, .ref b44, .ref b45, .ref b46, .int b47, .ref b48, .ref b49, .int b50, .ref b1, .ref b51, .ref b52, .ref b53, .ref b54, .int b55, .ref b56, .ref b57, .ref b58])), (b7, .inl (G.2 0, 503, .inl b59)), (b31, .inl (G.2 0, 2, .inl b60)), (b32, .inl (G.2 0, 2880, .inl b61)), (b35, .inl (G.2 1, 4, .inr (.inl e0))), (b1, .inl (G.2 1, 3208, .inr (.inl b63)))]) A) ([.ref b0, .int 1, .ref b1, .int b2, .int b3, .int b4, .int b5] : List Value).toArray s m_s13_Model_step.cells m_s13_Model_step.slots A) (F0 m 3 ls []) by
    exact key 5 (0) (b62) _ _ _ (zI.wk (l' := 0) (h' := 4) zc_0 (by decide)) (zm_upi (zI.wk (l' := 0) (h' := 4) zc_0 (by decide)) (by decide)) hP hD hS (lv_sub hl [0, 1, 2, 3, 4, 5, 6, 7] rfl)
  intro k_191
  induction k_191 with
  | zero =>
    intro y_192 y_193 H locs ls hy_192 hmk_191 hP hD hS hl
    exact (zm_up0 hy_192 hmk_191).elim
  | succ k_191 ihk_191 =>
    intro y_192 y_193 H locs ls hy_192 hmk_191 hP hD hS hl
    refine lv_iload hx hb d_Model_step_3 (lv_at hl 0 rfl) ?_
    refine lv_iconst (v := 4) hx hb d_Model_step_5 (by decide) ?_
    refine lv_icmp_ge (tgt := 23) hx hb d_Model_step_6 (by decide) (fun hc_194 => ?_) (fun hc_194 => ?_)
    · have _nhc_194 := hc_194
      have ni_195 := (fa_le _ _).mp hc_194
      rw [li_4] at ni_195
      have hv_196 : zI y_192 4 4 := zI.le_r zc_4 hy_192 hc_194 (by decide)
      refine lv_aload_n hx hb d_Model_step_23 rfl (lv_at hl 1 rfl) ?_
      refine va_get (D := G.1) (ci := 12) (v := .ref b7) (C := R_Model) (T := F_Model) (N := 54) hx hb hts i_Model hown hK hP 0 rfl rfl 1 (by decide) (hts _ q1110) (fun _ h9 => h9) rfl d_Model_step_24 ?_
      refine lv_sipush (v := 502) hx hb d_Model_step_27 (by decide) ?_
      refine va_iald hx hb hK hP 1 0 rfl rfl (i := 502) (z_in rfl) d_Model_step_30 ?_
      refine lv_topi (fun v_197 ev_197 => ?_)
      have hv_197 : zI v_197 0 20 := zW5.ld hb59 zc_502 ev_197 (by decide)
      refine lv_istore (lv' := [(7, .int v_197), (0, .ref b0), (1, .int 1), (2, .ref b1), (3, .int b2), (4, .int b3), (5, .int b4), (6, .int b5)]) hx hb d_Model_step_31 hl (by decide) rfl (fun ls hl => ?_)
      refine lv_iconst (v := 0) hx hb d_Model_step_33 (by decide) ?_
      refine lv_istore (lv' := [(8, .int 0), (7, .int v_197), (0, .ref b0), (1, .int 1), (2, .ref b1), (3, .int b2), (4, .int b3), (5, .int b4), (6, .int b5)]) hx hb d_Model_step_34 hl (by decide) rfl (fun ls hl => ?_)
      suffices key : ∀ (k_288 : Nat) (y_289 : Int32) (y_290 : Nat → Int64) (H : Heap) (locs : List Loc) (ls : Array Slot), (zI y_289 0 240) → (240 : Int) - y_289.toInt < (k_288 : Int) → va_P G.1 classes [(b0, .inr (12, [.int b6, .ref b7, .ref b8, .ref b9, .ref b10, .int b11, .ref b12, .int b13, .int b14, .int b15, .int b16, .ref b17, .ref b18, .ref b19, .int b20, .ref b21, .ref b22, .ref b23, .ref b24, .ref b25, .ref b26, .ref b27, .ref b28, .ref b29, .ref b30, .ref b31, .ref b32, .int b33, .ref b34, .ref b35, .int b36, .int b37, .int b38, .int b39, .ref b40, .ref b41, .ref b42, .ref b43, .ref b44, .ref b45, .ref b46, .int b47, .ref b48, .ref b49, .int b50, .ref b1, .ref b51, .ref b52, .ref b53, .ref b54, .int b55, .ref b56, .ref b57, .ref b58])), (b7, .inl (G.2 0, 503, .inl b59)), (b31, .inl (G.2 0, 2, .inl b60)), (b32, .inl (G.2 0, 2880, .inl b61)), (b35, .inl (G.2 1, 4, .inr (.inl y_290))), (b1, .inl (G.2 1, 3208, .inr (.inl b63)))] H → va_D A [(b0, .inr (12, [.int b6, .ref b7, .ref b8, .ref b9, .ref b10, .int b11, .ref b12, .int b13, .int b14, .int b15, .int b16, .ref b17, .ref b18, .ref b19, .int b20, .ref b21, .ref b22, .ref b23, .ref b24, .ref b25, .ref b26, .ref b27, .ref b28, .ref b29, .ref b30, .ref b31, .ref b32, .int b33, .ref b34, .ref b35, .int b36, .int b37, .int b38, .int b39, .ref b40, .ref b41, .ref b42, .ref b43, .ref b44, .ref b45, .ref b46, .int b47, .ref b48, .ref b49, .int b50, .ref b1, .ref b51, .ref b52, .ref b53, .ref b54, .int b55, .ref b56, .ref b57, .ref b58])), (b7, .inl (G.2 0, 503, .inl b59)), (b31, .inl (G.2 0, 2, .inl b60)), (b32, .inl (G.2 0, 2880, .inl b61)), (b35, .inl (G.2 1, 4, .inr (.inl y_290))), (b1, .inl (G.2 1, 3208, .inr (.inl b63)))] → va_S A s.heap H locs → lv_has ls 11 [(8, .int y_289), (7, .int v_197), (0, .ref b0), (1, .int 1), (2, .ref b1), (3, .int b2), (4, .int b3), (5, .int b4), (6, .int b5)] → W p l e m_s13_Model_step s m ([.ref b0, .int 1, .ref b1, .int b2, .int b3, .int b4, .int b5] : List Value).toArray below meth c H locs 0 0 (MQ below (zQ G (fun v w => ∃ (e0 : Nat → Int64), v = none ∧ w = [(b0, .inr (12, [.int b6, .ref b7, .ref b8, .ref b9, .ref b10, .int b11, .ref b12, .int b13, .int b14, .int b15, .int b16, .ref b17, .ref b18, .ref b19, .int b20, .ref b21, .ref b22, .ref b23, .ref b24, .ref b25, .ref b26, .ref b27, .ref b28, .ref b29, .ref b30, .ref b31, .ref b32, .int b33, .ref b34, .ref b35, .int b36, .int b37, .int b38, .int b39, .ref b40, .ref b41, .ref b42, .ref b43, .ref b44, .ref b45, .ref b46, .int b47, .ref b48, .ref b49, .int b50, .ref b1, .ref b51, .ref b52, .ref b53, .ref b54, .int b55, .ref b56, .ref b57, .ref b58])), (b7, .inl (G.2 0, 503, .inl b59)), (b31, .inl (G.2 0, 2, .inl b60)), (b32, .inl (G.2 0, 2880, .inl b61)), (b35, .inl (G.2 1, 4, .inr (.inl e0))), (b1, .inl (G.2 1, 3208, .inr (.inl b63)))]) A) ([.ref b0, .int 1, .ref b1, .int b2, .int b3, .int b4, .int b5] : List Value).toArray s m_s13_Model_step.cells m_s13_Model_step.slots A) (F0 m 36 ls []) by
        exact key 241 (0) (y_193) _ _ _ (zI.wk (l' := 0) (h' := 240) zc_0 (by decide)) (zm_upi (zI.wk (l' := 0) (h' := 240) zc_0 (by decide)) (by decide)) hP hD hS (lv_sub hl [0, 1, 2, 3, 4, 5, 6, 7, 8] rfl)
      intro k_288
      induction k_288 with
      | zero =>
        intro y_289 y_290 H locs ls hy_289 hmk_288 hP hD hS hl
        exact (zm_up0 hy_289 hmk_288).elim
      | succ k_288 ihk_288 =>
        intro y_289 y_290 H locs ls hy_289 hmk_288 hP hD hS hl
        refine lv_iload hx hb d_Model_step_36 (lv_at hl 0 rfl) ?_
        refine lv_aload_n hx hb d_Model_step_38 rfl (lv_at hl 2 rfl) ?_
        refine va_get (D := G.1) (ci := 12) (v := .ref b31) (C := R_Model) (T := F_Model) (N := 54) hx hb hts i_Model hown hK hP 0 rfl rfl 25 (by decide) (hts _ q1134) (fun _ h9 => h9) rfl d_Model_step_39 ?_
        refine lv_iload_n hx hb d_Model_step_42 rfl (lv_at hl 3 rfl) ?_
        refine va_iald hx hb hK hP 2 0 rfl rfl (i := 1) (z_in rfl) d_Model_step_43 ?_
        refine lv_topi (fun v_291 ev_291 => ?_)
        have hv_291 : zI v_291 0 240 := (hb60 _).eq ev_291
        refine lv_icmp_ge (tgt := 178) hx hb d_Model_step_44 (by decide) (fun hc_292 => ?_) (fun hc_292 => ?_)
        · have _nhc_292 := hc_292
          have ni_293 := (fa_le _ _).mp hc_292
          exact z_vret hx hb hr hlocks hP hD hS (Nat.le_of_ble_eq_true rfl) (Nat.le_of_ble_eq_true rfl) d_Model_step_178 ⟨y_290, rfl, rfl⟩
        · have _nhc_292 := hc_292
          have ni_294 := (fa_lt _ _).mp (zi_nle hc_292)
          have hv_295 : zI y_289 0 239 := zI.lt_l hy_289 hv_291 (zi_nle hc_292) (by decide)
          have hv_296 : zI v_291 1 240 := zI.lt_r hy_289 hv_291 (zi_nle hc_292) (by decide)
          refine lv_aload_n hx hb d_Model_step_47 rfl (lv_at hl 2 rfl) ?_
          refine lv_iload_n hx hb d_Model_step_48 rfl (lv_at hl 3 rfl) ?_
          refine lv_iload hx hb d_Model_step_49 (lv_at hl 0 rfl) ?_
          refine lv_iconst (v := 1) hx hb d_Model_step_51 (by decide) ?_
          refine z_callV (index := 225) (As := [.int 1, .int y_289, .int 1]) (rest := []) (wr := [(b7, .inl (G.2 0, 503, .inl b59)), (b31, .inl (G.2 0, 2, .inl b60)), (b35, .inl (G.2 1, 4, .inr (.inl y_290))), (b1, .inl (G.2 1, 3208, .inr (.inl b63)))]) Z (s11_Model_edgeAt l G (b0) (y_289) (b6) (b7) (b8) (b9) (b10) (b11) (b12) (b13) (b14) (b15) (b16) (b17) (b18) (b19) (b20) (b21) (b22) (b23) (b24) (b25) (b26) (b27) (b28) (b29) (b30) (b31) (b32) (b33) (b34) (b35) (b36) (b37) (b38) (b39) (b40) (b41) (b42) (b43) (b44) (b45) (b46) (b47) (b48) (b49) (b50) (b1) (b51) (b52) (b53) (b54) (b55) (b56) (b57) (b58) (b61) hv_295 hb11 hb13 hb14 hb16 hb20 hb33 hb36 hb47 hb50 hb55 hb61) hl.1 q1408 q1410 qs68 q14 q1411 ⟨by decide, by decide, by show _ = some 3; decide +kernel⟩ ⟨Nat.le_of_ble_eq_true rfl, Nat.le_of_ble_eq_true rfl⟩ ⟨Nat.le_of_ble_eq_true rfl, Nat.le_of_ble_eq_true rfl⟩ rfl (Nat.le_of_ble_eq_true rfl) d_Model_step_52 hP hD hS hA 0 12 rfl rfl rfl [0, 3] [1, 2, 4, 5] rfl rfl rfl rfl (by decide) (fun v w1 H locs hw_297 hP hD hS => ?_)
          obtain ⟨x_298, rfl, rfl, hx_298⟩ := hw_297
          have hP : va_P G.1 classes [(b7, .inl (G.2 0, 503, .inl b59)), (b31, .inl (G.2 0, 2, .inl b60)), (b35, .inl (G.2 1, 4, .inr (.inl y_290))), (b1, .inl (G.2 1, 3208, .inr (.inl b63))), (b0, .inr (12, [.int b6, .ref b7, .ref b8, .ref b9, .ref b10, .int b11, .ref b12, .int b13, .int b14, .int b15, .int b16, .ref b17, .ref b18, .ref b19, .int b20, .ref b21, .ref b22, .ref b23, .ref b24, .ref b25, .ref b26, .ref b27, .ref b28, .ref b29, .ref b30, .ref b31, .ref b32, .int b33, .ref b34, .ref b35, .int b36, .int b37, .int b38, .int b39, .ref b40, .ref b41, .ref b42, .ref b43, .ref b44, .ref b45, .ref b46, .int b47, .ref b48, .ref b49, .int b50, .ref b1, .ref b51, .ref b52, .ref b53, .ref b54, .int b55, .ref b56, .ref b57, .ref b58])), (b32, .inl (G.2 0, 2880, .inl b61))] H := hP
          have hD := z_tie hP hD rfl
          refine W.widen (k := 0) (n := 0) (Nat.le_of_ble_eq_true rfl) (Nat.le_of_ble_eq_true rfl) ?_
          refine lv_iload hx hb d_Model_step_55 (lv_at hl 6 rfl) ?_
          refine lv_icmp_ne (tgt := 80) hx hb d_Model_step_57 (by decide) (fun hc_299 => ?_) (fun hc_299 => ?_)
          · have _nhc_299 := hc_299
            have ni_300 : ¬ (x_298 : Int32).toInt = (b3 : Int32).toInt := fun z => hc_299 ((fa_eq _ _).mpr z)
            refine lv_iconst (v := 0) hx hb d_Model_step_80 (by decide) ?_
            refine lv_istore (lv' := [(9, .int 0), (8, .int y_289), (7, .int v_197), (0, .ref b0), (1, .int 1), (2, .ref b1), (3, .int b2), (4, .int b3), (5, .int b4), (6, .int b5)]) hx hb d_Model_step_81 hl (by decide) rfl (fun ls hl => ?_)
            refine lv_iload hx hb d_Model_step_83 (lv_at hl 0 rfl) ?_
            refine lv_if_eq (tgt := 130) hx hb d_Model_step_85 (by decide) (fun _ => ?_) (fun hc => absurd hc (by decide +kernel))
            refine lv_iconst (v := 0) hx hb d_Model_step_130 (by decide) ?_
            refine lv_istore (lv' := [(9, .int 0), (8, .int y_289), (7, .int v_197), (0, .ref b0), (1, .int 1), (2, .ref b1), (3, .int b2), (4, .int b3), (5, .int b4), (6, .int b5)]) hx hb d_Model_step_131 hl (by decide) rfl (fun ls hl => ?_)
            refine lv_aload_n hx hb d_Model_step_133 rfl (lv_at hl 3 rfl) ?_
            refine lv_iload_n hx hb d_Model_step_134 rfl (lv_at hl 4 rfl) ?_
            refine lv_iload hx hb d_Model_step_135 (lv_at hl 1 rfl) ?_
            refine lv_iconst (v := 2) hx hb d_Model_step_137 (by decide) ?_
            refine z_callV (index := 225) (As := [.int 1, .int y_289, .int 2]) (rest := []) (wr := [(b7, .inl (G.2 0, 503, .inl b59)), (b31, .inl (G.2 0, 2, .inl b60)), (b35, .inl (G.2 1, 4, .inr (.inl y_290))), (b1, .inl (G.2 1, 3208, .inr (.inl b63)))]) Z (s12_Model_edgeAt l G (b0) (y_289) (b6) (b7) (b8) (b9) (b10) (b11) (b12) (b13) (b14) (b15) (b16) (b17) (b18) (b19) (b20) (b21) (b22) (b23) (b24) (b25) (b26) (b27) (b28) (b29) (b30) (b31) (b32) (b33) (b34) (b35) (b36) (b37) (b38) (b39) (b40) (b41) (b42) (b43) (b44) (b45) (b46) (b47) (b48) (b49) (b50) (b1) (b51) (b52) (b53) (b54) (b55) (b56) (b57) (b58) (b61) hv_295 hb11 hb13 hb14 hb16 hb20 hb33 hb36 hb47 hb50 hb55 hb61) hl.1 q1408 q1410 qs68 q14 q1411 ⟨by decide, by decide, by show _ = some 3; decide +kernel⟩ ⟨Nat.le_of_ble_eq_true rfl, Nat.le_of_ble_eq_true rfl⟩ ⟨Nat.le_of_ble_eq_true rfl, Nat.le_of_ble_eq_true rfl⟩ rfl (Nat.le_of_ble_eq_true rfl) d_Model_step_138 hP hD hS hA 4 12 rfl rfl rfl [4, 5] [0, 1, 2, 3] rfl rfl rfl rfl (by decide) (fun v w1 H locs hw_301 hP hD hS => ?_)
            obtain ⟨x_302, rfl, rfl, hx_302⟩ := hw_301
            have hP : va_P G.1 classes [(b7, .inl (G.2 0, 503, .inl b59)), (b31, .inl (G.2 0, 2, .inl b60)), (b35, .inl (G.2 1, 4, .inr (.inl y_290))), (b1, .inl (G.2 1, 3208, .inr (.inl b63))), (b0, .inr (12, [.int b6, .ref b7, .ref b8, .ref b9, .ref b10, .int b11, .ref b12, .int b13, .int b14, .int b15, .int b16, .ref b17, .ref b18, .ref b19, .int b20, .ref b21, .ref b22, .ref b23, .ref b24, .ref b25, .ref b26, .ref b27, .ref b28, .ref b29, .ref b30, .ref b31, .ref b32, .int b33, .ref b34, .ref b35, .int b36, .int b37, .int b38, .int b39, .ref b40, .ref b41, .ref b42, .ref b43, .ref b44, .ref b45, .ref b46, .int b47, .ref b48, .ref b49, .int b50, .ref b1, .ref b51, .ref b52, .ref b53, .ref b54, .int b55, .ref b56, .ref b57, .ref b58])), (b32, .inl (G.2 0, 2880, .inl b61))] H := hP
            have hD := z_tie hP hD rfl
            refine W.widen (k := 0) (n := 0) (Nat.le_of_ble_eq_true rfl) (Nat.le_of_ble_eq_true rfl) ?_
            refine lv_istore (lv' := [(10, .int x_302), (9, .int 0), (8, .int y_289), (7, .int v_197), (0, .ref b0), (1, .int 1), (2, .ref b1), (3, .int b2), (4, .int b3), (5, .int b4), (6, .int b5)]) hx hb d_Model_step_141 hl (by decide) rfl (fun ls hl => ?_)
            refine lv_aload_n hx hb d_Model_step_143 rfl (lv_at hl 4 rfl) ?_
            refine va_get (D := G.1) (ci := 12) (v := .ref b35) (C := R_Model) (T := F_Model) (N := 54) hx hb hts i_Model hown hK hP 4 rfl rfl 29 (by decide) (hts _ q1138) (fun _ h9 => h9) rfl d_Model_step_144 ?_
            refine lv_iload hx hb d_Model_step_147 (lv_at hl 0 rfl) ?_
            refine lv_bipush (v := 64) hx hb d_Model_step_149 (by decide) ?_
            refine lv_idiv hx hb d_Model_step_151 (by decide +kernel) ?_
            refine lv_topi (fun v_303 ev_303 => ?_)
            obtain ⟨qv_303, hv_303⟩ := zI_div (l := 0) (h := 3) (d := 64) hx_302 rfl ev_303 (by decide)
            refine lv_dup2_11 hx hb d_Model_step_152 rfl rfl ?_
            refine va_lald hx hb hK hP 2 1 rfl rfl (zI.inn hv_303 (by decide)) d_Model_step_153 ?_
            refine lv_topl (fun v_304 ev_304 => ?_)
            refine lv_iload hx hb d_Model_step_154 (lv_at hl 1 rfl) ?_
            refine lv_if_eq (tgt := 169) hx hb d_Model_step_156 (by decide) (fun _ => ?_) (fun hc => absurd hc (by decide +kernel))
            refine lv_lconst (v := 0) hx hb d_Model_step_169 (by decide) ?_
            refine lv_lor hx hb d_Model_step_170 ?_
            refine lv_topl (fun v_305 ev_305 => ?_)
            refine va_last hx hb hK hP hD hS 2 1 rfl rfl (zI.inn hv_303 (by decide)) d_Model_step_171 (fun H locs hP hD hS => ?_)
            obtain ⟨f_306, hP, hD⟩ := z_newL 2 hP hD rfl
            have hP : va_P G.1 classes [(b7, .inl (G.2 0, 503, .inl b59)), (b31, .inl (G.2 0, 2, .inl b60)), (b35, .inl (G.2 1, 4, .inr (.inl f_306))), (b1, .inl (G.2 1, 3208, .inr (.inl b63))), (b0, .inr (12, [.int b6, .ref b7, .ref b8, .ref b9, .ref b10, .int b11, .ref b12, .int b13, .int b14, .int b15, .int b16, .ref b17, .ref b18, .ref b19, .int b20, .ref b21, .ref b22, .ref b23, .ref b24, .ref b25, .ref b26, .ref b27, .ref b28, .ref b29, .ref b30, .ref b31, .ref b32, .int b33, .ref b34, .ref b35, .int b36, .int b37, .int b38, .int b39, .ref b40, .ref b41, .ref b42, .ref b43, .ref b44, .ref b45, .ref b46, .int b47, .ref b48, .ref b49, .int b50, .ref b1, .ref b51, .ref b52, .ref b53, .ref b54, .int b55, .ref b56, .ref b57, .ref b58])), (b32, .inl (G.2 0, 2880, .inl b61))] H := hP
            have hD := z_tie hP hD rfl
            obtain ⟨v_307, ev_307⟩ : ∃ z : Int32, z = y_289 + 1 := ⟨_, rfl⟩
            obtain ⟨qv_307, hv_307⟩ := zI_add (l := 1) (h := 240) hv_295 zc_1 ev_307 (by decide)
            rw [li_1] at qv_307
            refine lv_iinc (v := v_307) (lv' := [(8, .int v_307), (10, .int x_302), (9, .int 0), (7, .int v_197), (0, .ref b0), (1, .int 1), (2, .ref b1), (3, .int b2), (4, .int b3), (5, .int b4), (6, .int b5)]) hx hb d_Model_step_172 hl (k := 2) rfl (by rw [ev_307]; rfl) (by decide) rfl (fun ls hl => ?_)
            refine lv_goto (tgt := 36) hx hb d_Model_step_175 (by decide) ?_
            exact ihk_288 (v_307) (f_306) _ _ _ (zI.wk (l' := 0) (h' := 240) hv_307 (by decide)) (zm_up qv_307 hmk_288 (by decide)) (hP.sub [4, 0, 1, 5, 2, 3] rfl) (hD.sub [4, 0, 1, 5, 2, 3] (by decide) rfl) hS (lv_sub hl [0, 3, 4, 5, 6, 7, 8, 9, 10] rfl)
          · have _nhc_299 := hc_299
            have ni_308 := (fa_eq _ _).mp hc_299
            refine lv_aload_n hx hb d_Model_step_60 rfl (lv_at hl 4 rfl) ?_
            refine lv_iload_n hx hb d_Model_step_61 rfl (lv_at hl 5 rfl) ?_
            refine lv_aload_n hx hb d_Model_step_62 rfl (lv_at hl 2 rfl) ?_
            refine lv_iload_n hx hb d_Model_step_63 rfl (lv_at hl 3 rfl) ?_
            refine lv_iload hx hb d_Model_step_64 (lv_at hl 0 rfl) ?_
            refine lv_iconst (v := 0) hx hb d_Model_step_66 (by decide) ?_
            refine z_callV (index := 225) (As := [.int 1, .int y_289, .int 0]) (rest := [.int b2, .ref b1]) (wr := [(b7, .inl (G.2 0, 503, .inl b59)), (b31, .inl (G.2 0, 2, .inl b60)), (b35, .inl (G.2 1, 4, .inr (.inl y_290))), (b1, .inl (G.2 1, 3208, .inr (.inl b63)))]) Z (s10_Model_edgeAt l G (b0) (y_289) (b6) (b7) (b8) (b9) (b10) (b11) (b12) (b13) (b14) (b15) (b16) (b17) (b18) (b19) (b20) (b21) (b22) (b23) (b24) (b25) (b26) (b27) (b28) (b29) (b30) (b31) (b32) (b33) (b34) (b35) (b36) (b37) (b38) (b39) (b40) (b41) (b42) (b43) (b44) (b45) (b46) (b47) (b48) (b49) (b50) (b1) (b51) (b52) (b53) (b54) (b55) (b56) (b57) (b58) (b61) hv_295 hb11 hb13 hb14 hb16 hb20 hb33 hb36 hb47 hb50 hb55 hb61) hl.1 q1408 q1410 qs68 q14 q1411 ⟨by decide, by decide, by show _ = some 3; decide +kernel⟩ ⟨Nat.le_of_ble_eq_true rfl, Nat.le_of_ble_eq_true rfl⟩ ⟨Nat.le_of_ble_eq_true rfl, Nat.le_of_ble_eq_true rfl⟩ rfl (Nat.le_of_ble_eq_true rfl) d_Model_step_67 hP hD hS hA 4 12 rfl rfl rfl [4, 5] [0, 1, 2, 3] rfl rfl rfl rfl (by decide) (fun v w1 H locs hw_309 hP hD hS => ?_)
            obtain ⟨x_310, rfl, rfl, hx_310⟩ := hw_309
            have hP : va_P G.1 classes [(b7, .inl (G.2 0, 503, .inl b59)), (b31, .inl (G.2 0, 2, .inl b60)), (b35, .inl (G.2 1, 4, .inr (.inl y_290))), (b1, .inl (G.2 1, 3208, .inr (.inl b63))), (b0, .inr (12, [.int b6, .ref b7, .ref b8, .ref b9, .ref b10, .int b11, .ref b12, .int b13, .int b14, .int b15, .int b16, .ref b17, .ref b18, .ref b19, .int b20, .ref b21, .ref b22, .ref b23, .ref b24, .ref b25, .ref b26, .ref b27, .ref b28, .ref b29, .ref b30, .ref b31, .ref b32, .int b33, .ref b34, .ref b35, .int b36, .int b37, .int b38, .int b39, .ref b40, .ref b41, .ref b42, .ref b43, .ref b44, .ref b45, .ref b46, .int b47, .ref b48, .ref b49, .int b50, .ref b1, .ref b51, .ref b52, .ref b53, .ref b54, .int b55, .ref b56, .ref b57, .ref b58])), (b32, .inl (G.2 0, 2880, .inl b61))] H := hP
            have hD := z_tie hP hD rfl
            refine W.widen (k := 0) (n := 0) (Nat.le_of_ble_eq_true rfl) (Nat.le_of_ble_eq_true rfl) ?_
            refine z_callS (index := 271) (As := [.ref b1, .int b2, .int x_310]) (rest := []) (wr := [(b7, .inl (G.2 0, 503, .inl b59)), (b31, .inl (G.2 0, 2, .inl b60)), (b35, .inl (G.2 1, 4, .inr (.inl y_290))), (b0, .inr (12, [.int b6, .ref b7, .ref b8, .ref b9, .ref b10, .int b11, .ref b12, .int b13, .int b14, .int b15, .int b16, .ref b17, .ref b18, .ref b19, .int b20, .ref b21, .ref b22, .ref b23, .ref b24, .ref b25, .ref b26, .ref b27, .ref b28, .ref b29, .ref b30, .ref b31, .ref b32, .int b33, .ref b34, .ref b35, .int b36, .int b37, .int b38, .int b39, .ref b40, .ref b41, .ref b42, .ref b43, .ref b44, .ref b45, .ref b46, .int b47, .ref b48, .ref b49, .int b50, .ref b1, .ref b51, .ref b52, .ref b53, .ref b54, .int b55, .ref b56, .ref b57, .ref b58])), (b32, .inl (G.2 0, 2880, .inl b61))]) Z (s6_Model_has l G (b1) (b2) (x_310) (b63) hb2 hx_310) hl.1 q1464 q1465 q14 q1466 ⟨by decide, by decide, by show _ = some 3; decide +kernel⟩ ⟨Nat.le_of_ble_eq_true rfl, Nat.le_of_ble_eq_true rfl⟩ ⟨Nat.le_of_ble_eq_true rfl, Nat.le_of_ble_eq_true rfl⟩ rfl (Nat.le_of_ble_eq_true rfl) d_Model_step_70 hP hD hS hA [3] [0, 1, 2, 4, 5] rfl rfl rfl rfl (by decide) (fun v w1 H locs hw_311 hP hD hS => ?_)
            obtain ⟨x_312, rfl, rfl, hx_312⟩ := hw_311
            have hP : va_P G.1 classes [(b7, .inl (G.2 0, 503, .inl b59)), (b31, .inl (G.2 0, 2, .inl b60)), (b35, .inl (G.2 1, 4, .inr (.inl y_290))), (b0, .inr (12, [.int b6, .ref b7, .ref b8, .ref b9, .ref b10, .int b11, .ref b12, .int b13, .int b14, .int b15, .int b16, .ref b17, .ref b18, .ref b19, .int b20, .ref b21, .ref b22, .ref b23, .ref b24, .ref b25, .ref b26, .ref b27, .ref b28, .ref b29, .ref b30, .ref b31, .ref b32, .int b33, .ref b34, .ref b35, .int b36, .int b37, .int b38, .int b39, .ref b40, .ref b41, .ref b42, .ref b43, .ref b44, .ref b45, .ref b46, .int b47, .ref b48, .ref b49, .int b50, .ref b1, .ref b51, .ref b52, .ref b53, .ref b54, .int b55, .ref b56, .ref b57, .ref b58])), (b32, .inl (G.2 0, 2880, .inl b61)), (b1, .inl (G.2 1, 3208, .inr (.inl b63)))] H := hP
            have hD := z_tie hP hD rfl
            refine W.widen (k := 0) (n := 0) (Nat.le_of_ble_eq_true rfl) (Nat.le_of_ble_eq_true rfl) ?_
            refine lv_if_eq (tgt := 80) hx hb d_Model_step_73 (by decide) (fun hc_313 => ?_) (fun hc_313 => ?_)
            · have _nhc_313 := hc_313
              have ni_314 := (fa_eq _ _).mp hc_313
              rw [li_0] at ni_314
              have hv_315 : zI x_312 0 0 := zI.eq_l hx_312 zc_0 hc_313
              refine lv_iconst (v := 0) hx hb d_Model_step_80 (by decide) ?_
              refine lv_istore (lv' := [(9, .int 0), (8, .int y_289), (7, .int v_197), (0, .ref b0), (1, .int 1), (2, .ref b1), (3, .int b2), (4, .int b3), (5, .int b4), (6, .int b5)]) hx hb d_Model_step_81 hl (by decide) rfl (fun ls hl => ?_)
              refine lv_iload hx hb d_Model_step_83 (lv_at hl 0 rfl) ?_
              refine lv_if_eq (tgt := 130) hx hb d_Model_step_85 (by decide) (fun _ => ?_) (fun hc => absurd hc (by decide +kernel))
              refine lv_iconst (v := 0) hx hb d_Model_step_130 (by decide) ?_
              refine lv_istore (lv' := [(9, .int 0), (8, .int y_289), (7, .int v_197), (0, .ref b0), (1, .int 1), (2, .ref b1), (3, .int b2), (4, .int b3), (5, .int b4), (6, .int b5)]) hx hb d_Model_step_131 hl (by decide) rfl (fun ls hl => ?_)
              refine lv_aload_n hx hb d_Model_step_133 rfl (lv_at hl 3 rfl) ?_
              refine lv_iload_n hx hb d_Model_step_134 rfl (lv_at hl 4 rfl) ?_
              refine lv_iload hx hb d_Model_step_135 (lv_at hl 1 rfl) ?_
              refine lv_iconst (v := 2) hx hb d_Model_step_137 (by decide) ?_
              refine z_callV (index := 225) (As := [.int 1, .int y_289, .int 2]) (rest := []) (wr := [(b7, .inl (G.2 0, 503, .inl b59)), (b31, .inl (G.2 0, 2, .inl b60)), (b35, .inl (G.2 1, 4, .inr (.inl y_290))), (b1, .inl (G.2 1, 3208, .inr (.inl b63)))]) Z (s12_Model_edgeAt l G (b0) (y_289) (b6) (b7) (b8) (b9) (b10) (b11) (b12) (b13) (b14) (b15) (b16) (b17) (b18) (b19) (b20) (b21) (b22) (b23) (b24) (b25) (b26) (b27) (b28) (b29) (b30) (b31) (b32) (b33) (b34) (b35) (b36) (b37) (b38) (b39) (b40) (b41) (b42) (b43) (b44) (b45) (b46) (b47) (b48) (b49) (b50) (b1) (b51) (b52) (b53) (b54) (b55) (b56) (b57) (b58) (b61) hv_295 hb11 hb13 hb14 hb16 hb20 hb33 hb36 hb47 hb50 hb55 hb61) hl.1 q1408 q1410 qs68 q14 q1411 ⟨by decide, by decide, by show _ = some 3; decide +kernel⟩ ⟨Nat.le_of_ble_eq_true rfl, Nat.le_of_ble_eq_true rfl⟩ ⟨Nat.le_of_ble_eq_true rfl, Nat.le_of_ble_eq_true rfl⟩ rfl (Nat.le_of_ble_eq_true rfl) d_Model_step_138 hP hD hS hA 3 12 rfl rfl rfl [3, 4] [0, 1, 2, 5] rfl rfl rfl rfl (by decide) (fun v w1 H locs hw_316 hP hD hS => ?_)
              obtain ⟨x_317, rfl, rfl, hx_317⟩ := hw_316
              have hP : va_P G.1 classes [(b7, .inl (G.2 0, 503, .inl b59)), (b31, .inl (G.2 0, 2, .inl b60)), (b35, .inl (G.2 1, 4, .inr (.inl y_290))), (b1, .inl (G.2 1, 3208, .inr (.inl b63))), (b0, .inr (12, [.int b6, .ref b7, .ref b8, .ref b9, .ref b10, .int b11, .ref b12, .int b13, .int b14, .int b15, .int b16, .ref b17, .ref b18, .ref b19, .int b20, .ref b21, .ref b22, .ref b23, .ref b24, .ref b25, .ref b26, .ref b27, .ref b28, .ref b29, .ref b30, .ref b31, .ref b32, .int b33, .ref b34, .ref b35, .int b36, .int b37, .int b38, .int b39, .ref b40, .ref b41, .ref b42, .ref b43, .ref b44, .ref b45, .ref b46, .int b47, .ref b48, .ref b49, .int b50, .ref b1, .ref b51, .ref b52, .ref b53, .ref b54, .int b55, .ref b56, .ref b57, .ref b58])), (b32, .inl (G.2 0, 2880, .inl b61))] H := hP
              have hD := z_tie hP hD rfl
              refine W.widen (k := 0) (n := 0) (Nat.le_of_ble_eq_true rfl) (Nat.le_of_ble_eq_true rfl) ?_
              refine lv_istore (lv' := [(10, .int x_317), (9, .int 0), (8, .int y_289), (7, .int v_197), (0, .ref b0), (1, .int 1), (2, .ref b1), (3, .int b2), (4, .int b3), (5, .int b4), (6, .int b5)]) hx hb d_Model_step_141 hl (by decide) rfl (fun ls hl => ?_)
              refine lv_aload_n hx hb d_Model_step_143 rfl (lv_at hl 4 rfl) ?_
              refine va_get (D := G.1) (ci := 12) (v := .ref b35) (C := R_Model) (T := F_Model) (N := 54) hx hb hts i_Model hown hK hP 4 rfl rfl 29 (by decide) (hts _ q1138) (fun _ h9 => h9) rfl d_Model_step_144 ?_
              refine lv_iload hx hb d_Model_step_147 (lv_at hl 0 rfl) ?_
              refine lv_bipush (v := 64) hx hb d_Model_step_149 (by decide) ?_
              refine lv_idiv hx hb d_Model_step_151 (by decide +kernel) ?_
              refine lv_topi (fun v_318 ev_318 => ?_)
              obtain ⟨qv_318, hv_318⟩ := zI_div (l := 0) (h := 3) (d := 64) hx_317 rfl ev_318 (by decide)
              refine lv_dup2_11 hx hb d_Model_step_152 rfl rfl ?_
              refine va_lald hx hb hK hP 2 1 rfl rfl (zI.inn hv_318 (by decide)) d_Model_step_153 ?_
              refine lv_topl (fun v_319 ev_319 => ?_)
              refine lv_iload hx hb d_Model_step_154 (lv_at hl 1 rfl) ?_
              refine lv_if_eq (tgt := 169) hx hb d_Model_step_156 (by decide) (fun _ => ?_) (fun hc => absurd hc (by decide +kernel))
              refine lv_lconst (v := 0) hx hb d_Model_step_169 (by decide) ?_
              refine lv_lor hx hb d_Model_step_170 ?_
              refine lv_topl (fun v_320 ev_320 => ?_)
              refine va_last hx hb hK hP hD hS 2 1 rfl rfl (zI.inn hv_318 (by decide)) d_Model_step_171 (fun H locs hP hD hS => ?_)
              obtain ⟨f_321, hP, hD⟩ := z_newL 2 hP hD rfl
              have hP : va_P G.1 classes [(b7, .inl (G.2 0, 503, .inl b59)), (b31, .inl (G.2 0, 2, .inl b60)), (b35, .inl (G.2 1, 4, .inr (.inl f_321))), (b1, .inl (G.2 1, 3208, .inr (.inl b63))), (b0, .inr (12, [.int b6, .ref b7, .ref b8, .ref b9, .ref b10, .int b11, .ref b12, .int b13, .int b14, .int b15, .int b16, .ref b17, .ref b18, .ref b19, .int b20, .ref b21, .ref b22, .ref b23, .ref b24, .ref b25, .ref b26, .ref b27, .ref b28, .ref b29, .ref b30, .ref b31, .ref b32, .int b33, .ref b34, .ref b35, .int b36, .int b37, .int b38, .int b39, .ref b40, .ref b41, .ref b42, .ref b43, .ref b44, .ref b45, .ref b46, .int b47, .ref b48, .ref b49, .int b50, .ref b1, .ref b51, .ref b52, .ref b53, .ref b54, .int b55, .ref b56, .ref b57, .ref b58])), (b32, .inl (G.2 0, 2880, .inl b61))] H := hP
              have hD := z_tie hP hD rfl
              obtain ⟨v_322, ev_322⟩ : ∃ z : Int32, z = y_289 + 1 := ⟨_, rfl⟩
              obtain ⟨qv_322, hv_322⟩ := zI_add (l := 1) (h := 240) hv_295 zc_1 ev_322 (by decide)
              rw [li_1] at qv_322
              refine lv_iinc (v := v_322) (lv' := [(8, .int v_322), (10, .int x_317), (9, .int 0), (7, .int v_197), (0, .ref b0), (1, .int 1), (2, .ref b1), (3, .int b2), (4, .int b3), (5, .int b4), (6, .int b5)]) hx hb d_Model_step_172 hl (k := 2) rfl (by rw [ev_322]; rfl) (by decide) rfl (fun ls hl => ?_)
              refine lv_goto (tgt := 36) hx hb d_Model_step_175 (by decide) ?_
              exact ihk_288 (v_322) (f_321) _ _ _ (zI.wk (l' := 0) (h' := 240) hv_322 (by decide)) (zm_up qv_322 hmk_288 (by decide)) (hP.sub [4, 0, 1, 5, 2, 3] rfl) (hD.sub [4, 0, 1, 5, 2, 3] (by decide) rfl) hS (lv_sub hl [0, 3, 4, 5, 6, 7, 8, 9, 10] rfl)
            · have _nhc_313 := hc_313
              have ni_323 : ¬ (x_312 : Int32).toInt = (0 : Int32).toInt := fun z => hc_313 ((fa_eq _ _).mpr z)
              simp only [li_0] at ni_323
              have hv_324 : zI x_312 1 1 := zI.ne_lo hx_312 zc_0 hc_313 (by decide)
              refine lv_iconst (v := 1) hx hb d_Model_step_76 (by decide) ?_
              refine lv_goto (tgt := 81) hx hb d_Model_step_77 (by decide) ?_
              refine lv_istore (lv' := [(9, .int 1), (8, .int y_289), (7, .int v_197), (0, .ref b0), (1, .int 1), (2, .ref b1), (3, .int b2), (4, .int b3), (5, .int b4), (6, .int b5)]) hx hb d_Model_step_81 hl (by decide) rfl (fun ls hl => ?_)
              refine lv_iload hx hb d_Model_step_83 (lv_at hl 0 rfl) ?_
              refine lv_if_eq (tgt := 130) hx hb d_Model_step_85 (by decide) (fun hc => absurd hc (by decide +kernel)) (fun _ => ?_)
              refine lv_iload hx hb d_Model_step_88 (lv_at hl 9 rfl) ?_
              refine lv_if_eq (tgt := 126) hx hb d_Model_step_90 (by decide) (fun hc_325 => ?_) (fun hc_325 => ?_)
              · have _nhc_325 := hc_325
                have ni_326 := (fa_eq _ _).mp hc_325
                rw [li_0] at ni_326
                have hv_327 : zI b5 0 0 := zI.eq_l hb5 zc_0 hc_325
                refine lv_iconst (v := 1) hx hb d_Model_step_126 (by decide) ?_
                refine lv_goto (tgt := 131) hx hb d_Model_step_127 (by decide) ?_
                refine lv_istore (lv' := [(9, .int 1), (8, .int y_289), (7, .int v_197), (0, .ref b0), (1, .int 1), (2, .ref b1), (3, .int b2), (4, .int b3), (5, .int b4), (6, .int b5)]) hx hb d_Model_step_131 hl (by decide) rfl (fun ls hl => ?_)
                refine lv_aload_n hx hb d_Model_step_133 rfl (lv_at hl 3 rfl) ?_
                refine lv_iload_n hx hb d_Model_step_134 rfl (lv_at hl 4 rfl) ?_
                refine lv_iload hx hb d_Model_step_135 (lv_at hl 1 rfl) ?_
                refine lv_iconst (v := 2) hx hb d_Model_step_137 (by decide) ?_
                refine z_callV (index := 225) (As := [.int 1, .int y_289, .int 2]) (rest := []) (wr := [(b7, .inl (G.2 0, 503, .inl b59)), (b31, .inl (G.2 0, 2, .inl b60)), (b35, .inl (G.2 1, 4, .inr (.inl y_290))), (b1, .inl (G.2 1, 3208, .inr (.inl b63)))]) Z (s12_Model_edgeAt l G (b0) (y_289) (b6) (b7) (b8) (b9) (b10) (b11) (b12) (b13) (b14) (b15) (b16) (b17) (b18) (b19) (b20) (b21) (b22) (b23) (b24) (b25) (b26) (b27) (b28) (b29) (b30) (b31) (b32) (b33) (b34) (b35) (b36) (b37) (b38) (b39) (b40) (b41) (b42) (b43) (b44) (b45) (b46) (b47) (b48) (b49) (b50) (b1) (b51) (b52) (b53) (b54) (b55) (b56) (b57) (b58) (b61) hv_295 hb11 hb13 hb14 hb16 hb20 hb33 hb36 hb47 hb50 hb55 hb61) hl.1 q1408 q1410 qs68 q14 q1411 ⟨by decide, by decide, by show _ = some 3; decide +kernel⟩ ⟨Nat.le_of_ble_eq_true rfl, Nat.le_of_ble_eq_true rfl⟩ ⟨Nat.le_of_ble_eq_true rfl, Nat.le_of_ble_eq_true rfl⟩ rfl (Nat.le_of_ble_eq_true rfl) d_Model_step_138 hP hD hS hA 3 12 rfl rfl rfl [3, 4] [0, 1, 2, 5] rfl rfl rfl rfl (by decide) (fun v w1 H locs hw_328 hP hD hS => ?_)
                obtain ⟨x_329, rfl, rfl, hx_329⟩ := hw_328
                have hP : va_P G.1 classes [(b7, .inl (G.2 0, 503, .inl b59)), (b31, .inl (G.2 0, 2, .inl b60)), (b35, .inl (G.2 1, 4, .inr (.inl y_290))), (b1, .inl (G.2 1, 3208, .inr (.inl b63))), (b0, .inr (12, [.int b6, .ref b7, .ref b8, .ref b9, .ref b10, .int b11, .ref b12, .int b13, .int b14, .int b15, .int b16, .ref b17, .ref b18, .ref b19, .int b20, .ref b21, .ref b22, .ref b23, .ref b24, .ref b25, .ref b26, .ref b27, .ref b28, .ref b29, .ref b30, .ref b31, .ref b32, .int b33, .ref b34, .ref b35, .int b36, .int b37, .int b38, .int b39, .ref b40, .ref b41, .ref b42, .ref b43, .ref b44, .ref b45, .ref b46, .int b47, .ref b48, .ref b49, .int b50, .ref b1, .ref b51, .ref b52, .ref b53, .ref b54, .int b55, .ref b56, .ref b57, .ref b58])), (b32, .inl (G.2 0, 2880, .inl b61))] H := hP
                have hD := z_tie hP hD rfl
                refine W.widen (k := 0) (n := 0) (Nat.le_of_ble_eq_true rfl) (Nat.le_of_ble_eq_true rfl) ?_
                refine lv_istore (lv' := [(10, .int x_329), (9, .int 1), (8, .int y_289), (7, .int v_197), (0, .ref b0), (1, .int 1), (2, .ref b1), (3, .int b2), (4, .int b3), (5, .int b4), (6, .int b5)]) hx hb d_Model_step_141 hl (by decide) rfl (fun ls hl => ?_)
                refine lv_aload_n hx hb d_Model_step_143 rfl (lv_at hl 4 rfl) ?_
                refine va_get (D := G.1) (ci := 12) (v := .ref b35) (C := R_Model) (T := F_Model) (N := 54) hx hb hts i_Model hown hK hP 4 rfl rfl 29 (by decide) (hts _ q1138) (fun _ h9 => h9) rfl d_Model_step_144 ?_
                refine lv_iload hx hb d_Model_step_147 (lv_at hl 0 rfl) ?_
                refine lv_bipush (v := 64) hx hb d_Model_step_149 (by decide) ?_
                refine lv_idiv hx hb d_Model_step_151 (by decide +kernel) ?_
                refine lv_topi (fun v_330 ev_330 => ?_)
                obtain ⟨qv_330, hv_330⟩ := zI_div (l := 0) (h := 3) (d := 64) hx_329 rfl ev_330 (by decide)
                refine lv_dup2_11 hx hb d_Model_step_152 rfl rfl ?_
                refine va_lald hx hb hK hP 2 1 rfl rfl (zI.inn hv_330 (by decide)) d_Model_step_153 ?_
                refine lv_topl (fun v_331 ev_331 => ?_)
                refine lv_iload hx hb d_Model_step_154 (lv_at hl 1 rfl) ?_
                refine lv_if_eq (tgt := 169) hx hb d_Model_step_156 (by decide) (fun hc => absurd hc (by decide +kernel)) (fun _ => ?_)
                refine lv_lconst (v := 1) hx hb d_Model_step_159 (by decide) ?_
                refine lv_iload hx hb d_Model_step_160 (lv_at hl 0 rfl) ?_
                refine lv_bipush (v := 64) hx hb d_Model_step_162 (by decide) ?_
                refine lv_irem hx hb d_Model_step_164 (by decide +kernel) ?_
                refine lv_topi (fun v_332 ev_332 => ?_)
                obtain ⟨qv_332, hv_332⟩ := zI_rem (h := 63) (d := 64) hx_329 rfl ev_332 (by decide)
                obtain ⟨v_333, ev_333⟩ : ∃ z : Int64, z = 1 <<< ((v_332 : Int32).toInt64 &&& 63) := ⟨_, rfl⟩
                refine lv_lshl (v := v_333) hx hb d_Model_step_165 ev_333.symm ?_
                refine lv_goto (tgt := 170) hx hb d_Model_step_166 (by decide) ?_
                refine lv_lor hx hb d_Model_step_170 ?_
                refine lv_topl (fun v_334 ev_334 => ?_)
                refine va_last hx hb hK hP hD hS 2 1 rfl rfl (zI.inn hv_330 (by decide)) d_Model_step_171 (fun H locs hP hD hS => ?_)
                obtain ⟨f_335, hP, hD⟩ := z_newL 2 hP hD rfl
                have hP : va_P G.1 classes [(b7, .inl (G.2 0, 503, .inl b59)), (b31, .inl (G.2 0, 2, .inl b60)), (b35, .inl (G.2 1, 4, .inr (.inl f_335))), (b1, .inl (G.2 1, 3208, .inr (.inl b63))), (b0, .inr (12, [.int b6, .ref b7, .ref b8, .ref b9, .ref b10, .int b11, .ref b12, .int b13, .int b14, .int b15, .int b16, .ref b17, .ref b18, .ref b19, .int b20, .ref b21, .ref b22, .ref b23, .ref b24, .ref b25, .ref b26, .ref b27, .ref b28, .ref b29, .ref b30, .ref b31, .ref b32, .int b33, .ref b34, .ref b35, .int b36, .int b37, .int b38, .int b39, .ref b40, .ref b41, .ref b42, .ref b43, .ref b44, .ref b45, .ref b46, .int b47, .ref b48, .ref b49, .int b50, .ref b1, .ref b51, .ref b52, .ref b53, .ref b54, .int b55, .ref b56, .ref b57, .ref b58])), (b32, .inl (G.2 0, 2880, .inl b61))] H := hP
                have hD := z_tie hP hD rfl
                obtain ⟨v_336, ev_336⟩ : ∃ z : Int32, z = y_289 + 1 := ⟨_, rfl⟩
                obtain ⟨qv_336, hv_336⟩ := zI_add (l := 1) (h := 240) hv_295 zc_1 ev_336 (by decide)
                rw [li_1] at qv_336
                refine lv_iinc (v := v_336) (lv' := [(8, .int v_336), (10, .int x_329), (9, .int 1), (7, .int v_197), (0, .ref b0), (1, .int 1), (2, .ref b1), (3, .int b2), (4, .int b3), (5, .int b4), (6, .int b5)]) hx hb d_Model_step_172 hl (k := 2) rfl (by rw [ev_336]; rfl) (by decide) rfl (fun ls hl => ?_)
                refine lv_goto (tgt := 36) hx hb d_Model_step_175 (by decide) ?_
                exact ihk_288 (v_336) (f_335) _ _ _ (zI.wk (l' := 0) (h' := 240) hv_336 (by decide)) (zm_up qv_336 hmk_288 (by decide)) (hP.sub [4, 0, 1, 5, 2, 3] rfl) (hD.sub [4, 0, 1, 5, 2, 3] (by decide) rfl) hS (lv_sub hl [0, 3, 4, 5, 6, 7, 8, 9, 10] rfl)
              · have _nhc_325 := hc_325
                have ni_337 : ¬ (b5 : Int32).toInt = (0 : Int32).toInt := fun z => hc_325 ((fa_eq _ _).mpr z)
                simp only [li_0] at ni_337
                have hv_338 : zI b5 1 1 := zI.ne_lo hb5 zc_0 hc_325 (by decide)
                refine lv_iload hx hb d_Model_step_93 (lv_at hl 8 rfl) ?_
                refine lv_i2l (v := b4.toInt64) hx hb d_Model_step_95 rfl ?_
                refine lv_aload_n hx hb d_Model_step_96 rfl (lv_at hl 3 rfl) ?_
                refine lv_iload_n hx hb d_Model_step_97 rfl (lv_at hl 4 rfl) ?_
                refine lv_iload hx hb d_Model_step_98 (lv_at hl 1 rfl) ?_
                refine lv_iconst (v := 4) hx hb d_Model_step_100 (by decide) ?_
                refine z_callV (index := 225) (As := [.int 1, .int y_289, .int 4]) (rest := [.long b4.toInt64]) (wr := [(b7, .inl (G.2 0, 503, .inl b59)), (b31, .inl (G.2 0, 2, .inl b60)), (b35, .inl (G.2 1, 4, .inr (.inl y_290))), (b1, .inl (G.2 1, 3208, .inr (.inl b63)))]) Z (s19_Model_edgeAt l G (b0) (y_289) (b6) (b7) (b8) (b9) (b10) (b11) (b12) (b13) (b14) (b15) (b16) (b17) (b18) (b19) (b20) (b21) (b22) (b23) (b24) (b25) (b26) (b27) (b28) (b29) (b30) (b31) (b32) (b33) (b34) (b35) (b36) (b37) (b38) (b39) (b40) (b41) (b42) (b43) (b44) (b45) (b46) (b47) (b48) (b49) (b50) (b1) (b51) (b52) (b53) (b54) (b55) (b56) (b57) (b58) (b61) hv_295 hb11 hb13 hb14 hb16 hb20 hb33 hb36 hb47 hb50 hb55 hb61) hl.1 q1408 q1410 qs68 q14 q1411 ⟨by decide, by decide, by show _ = some 3; decide +kernel⟩ ⟨Nat.le_of_ble_eq_true rfl, Nat.le_of_ble_eq_true rfl⟩ ⟨Nat.le_of_ble_eq_true rfl, Nat.le_of_ble_eq_true rfl⟩ rfl (Nat.le_of_ble_eq_true rfl) d_Model_step_101 hP hD hS hA 3 12 rfl rfl rfl [3, 4] [0, 1, 2, 5] rfl rfl rfl rfl (by decide) (fun v w1 H locs hw_339 hP hD hS => ?_)
                obtain ⟨x_340, rfl, rfl⟩ := hw_339
                have hP : va_P G.1 classes [(b7, .inl (G.2 0, 503, .inl b59)), (b31, .inl (G.2 0, 2, .inl b60)), (b35, .inl (G.2 1, 4, .inr (.inl y_290))), (b1, .inl (G.2 1, 3208, .inr (.inl b63))), (b0, .inr (12, [.int b6, .ref b7, .ref b8, .ref b9, .ref b10, .int b11, .ref b12, .int b13, .int b14, .int b15, .int b16, .ref b17, .ref b18, .ref b19, .int b20, .ref b21, .ref b22, .ref b23, .ref b24, .ref b25, .ref b26, .ref b27, .ref b28, .ref b29, .ref b30, .ref b31, .ref b32, .int b33, .ref b34, .ref b35, .int b36, .int b37, .int b38, .int b39, .ref b40, .ref b41, .ref b42, .ref b43, .ref b44, .ref b45, .ref b46, .int b47, .ref b48, .ref b49, .int b50, .ref b1, .ref b51, .ref b52, .ref b53, .ref b54, .int b55, .ref b56, .ref b57, .ref b58])), (b32, .inl (G.2 0, 2880, .inl b61))] H := hP
                have hD := z_tie hP hD rfl
                refine W.widen (k := 0) (n := 0) (Nat.le_of_ble_eq_true rfl) (Nat.le_of_ble_eq_true rfl) ?_
                refine lv_iload hx hb d_Model_step_104 (lv_at hl 2 rfl) ?_
                refine lv_isub hx hb d_Model_step_106 ?_
                refine lv_topi (fun v_341 ev_341 => ?_)
                refine lv_i2l (v := v_341.toInt64) hx hb d_Model_step_107 rfl ?_
                refine lv_aload_n hx hb d_Model_step_108 rfl (lv_at hl 3 rfl) ?_
                refine lv_iload_n hx hb d_Model_step_109 rfl (lv_at hl 4 rfl) ?_
                refine lv_iload hx hb d_Model_step_110 (lv_at hl 1 rfl) ?_
                refine lv_iconst (v := 5) hx hb d_Model_step_112 (by decide) ?_
                refine z_callV (index := 225) (As := [.int 1, .int y_289, .int 5]) (rest := [.long v_341.toInt64, .long b4.toInt64]) (wr := [(b7, .inl (G.2 0, 503, .inl b59)), (b31, .inl (G.2 0, 2, .inl b60)), (b35, .inl (G.2 1, 4, .inr (.inl y_290))), (b1, .inl (G.2 1, 3208, .inr (.inl b63)))]) Z (s20_Model_edgeAt l G (b0) (y_289) (b6) (b7) (b8) (b9) (b10) (b11) (b12) (b13) (b14) (b15) (b16) (b17) (b18) (b19) (b20) (b21) (b22) (b23) (b24) (b25) (b26) (b27) (b28) (b29) (b30) (b31) (b32) (b33) (b34) (b35) (b36) (b37) (b38) (b39) (b40) (b41) (b42) (b43) (b44) (b45) (b46) (b47) (b48) (b49) (b50) (b1) (b51) (b52) (b53) (b54) (b55) (b56) (b57) (b58) (b61) hv_295 hb11 hb13 hb14 hb16 hb20 hb33 hb36 hb47 hb50 hb55 hb61) hl.1 q1408 q1410 qs68 q14 q1411 ⟨by decide, by decide, by show _ = some 3; decide +kernel⟩ ⟨Nat.le_of_ble_eq_true rfl, Nat.le_of_ble_eq_true rfl⟩ ⟨Nat.le_of_ble_eq_true rfl, Nat.le_of_ble_eq_true rfl⟩ rfl (Nat.le_of_ble_eq_true rfl) d_Model_step_113 hP hD hS hA 4 12 rfl rfl rfl [4, 5] [0, 1, 2, 3] rfl rfl rfl rfl (by decide) (fun v w1 H locs hw_342 hP hD hS => ?_)
                obtain ⟨x_343, rfl, rfl⟩ := hw_342
                have hP : va_P G.1 classes [(b7, .inl (G.2 0, 503, .inl b59)), (b31, .inl (G.2 0, 2, .inl b60)), (b35, .inl (G.2 1, 4, .inr (.inl y_290))), (b1, .inl (G.2 1, 3208, .inr (.inl b63))), (b0, .inr (12, [.int b6, .ref b7, .ref b8, .ref b9, .ref b10, .int b11, .ref b12, .int b13, .int b14, .int b15, .int b16, .ref b17, .ref b18, .ref b19, .int b20, .ref b21, .ref b22, .ref b23, .ref b24, .ref b25, .ref b26, .ref b27, .ref b28, .ref b29, .ref b30, .ref b31, .ref b32, .int b33, .ref b34, .ref b35, .int b36, .int b37, .int b38, .int b39, .ref b40, .ref b41, .ref b42, .ref b43, .ref b44, .ref b45, .ref b46, .int b47, .ref b48, .ref b49, .int b50, .ref b1, .ref b51, .ref b52, .ref b53, .ref b54, .int b55, .ref b56, .ref b57, .ref b58])), (b32, .inl (G.2 0, 2880, .inl b61))] H := hP
                have hD := z_tie hP hD rfl
                refine W.widen (k := 0) (n := 0) (Nat.le_of_ble_eq_true rfl) (Nat.le_of_ble_eq_true rfl) ?_
                refine lv_iload hx hb d_Model_step_116 (lv_at hl 2 rfl) ?_
                refine lv_iadd hx hb d_Model_step_118 ?_
                refine lv_topi (fun v_344 ev_344 => ?_)
                refine lv_i2l (v := v_344.toInt64) hx hb d_Model_step_119 rfl ?_
                refine z_callS (index := 138) (As := [.long b4.toInt64, .long v_341.toInt64, .long v_344.toInt64]) (rest := []) (wr := [(b7, .inl (G.2 0, 503, .inl b59)), (b31, .inl (G.2 0, 2, .inl b60)), (b35, .inl (G.2 1, 4, .inr (.inl y_290))), (b1, .inl (G.2 1, 3208, .inr (.inl b63))), (b0, .inr (12, [.int b6, .ref b7, .ref b8, .ref b9, .ref b10, .int b11, .ref b12, .int b13, .int b14, .int b15, .int b16, .ref b17, .ref b18, .ref b19, .int b20, .ref b21, .ref b22, .ref b23, .ref b24, .ref b25, .ref b26, .ref b27, .ref b28, .ref b29, .ref b30, .ref b31, .ref b32, .int b33, .ref b34, .ref b35, .int b36, .int b37, .int b38, .int b39, .ref b40, .ref b41, .ref b42, .ref b43, .ref b44, .ref b45, .ref b46, .int b47, .ref b48, .ref b49, .int b50, .ref b1, .ref b51, .ref b52, .ref b53, .ref b54, .int b55, .ref b56, .ref b57, .ref b58])), (b32, .inl (G.2 0, 2880, .inl b61))]) Z (s2_Model_in l G (b4.toInt64) (v_341.toInt64) (v_344.toInt64)) hl.1 q1281 q1282 q14 q1283 ⟨by decide, by decide, by show _ = some 3; decide +kernel⟩ ⟨Nat.le_of_ble_eq_true rfl, Nat.le_of_ble_eq_true rfl⟩ ⟨Nat.le_of_ble_eq_true rfl, Nat.le_of_ble_eq_true rfl⟩ rfl (Nat.le_of_ble_eq_true rfl) d_Model_step_120 hP hD hS hA [] [0, 1, 2, 3, 4, 5] rfl rfl rfl rfl (by decide) (fun v w1 H locs hw_345 hP hD hS => ?_)
                rcases hw_345 with ⟨rfl, rfl, hq_346⟩ | ⟨rfl, rfl, hq_347, hq_348⟩ | ⟨rfl, rfl, hq_349, hq_350⟩
                · have hP : va_P G.1 classes [(b7, .inl (G.2 0, 503, .inl b59)), (b31, .inl (G.2 0, 2, .inl b60)), (b35, .inl (G.2 1, 4, .inr (.inl y_290))), (b1, .inl (G.2 1, 3208, .inr (.inl b63))), (b0, .inr (12, [.int b6, .ref b7, .ref b8, .ref b9, .ref b10, .int b11, .ref b12, .int b13, .int b14, .int b15, .int b16, .ref b17, .ref b18, .ref b19, .int b20, .ref b21, .ref b22, .ref b23, .ref b24, .ref b25, .ref b26, .ref b27, .ref b28, .ref b29, .ref b30, .ref b31, .ref b32, .int b33, .ref b34, .ref b35, .int b36, .int b37, .int b38, .int b39, .ref b40, .ref b41, .ref b42, .ref b43, .ref b44, .ref b45, .ref b46, .int b47, .ref b48, .ref b49, .int b50, .ref b1, .ref b51, .ref b52, .ref b53, .ref b54, .int b55, .ref b56, .ref b57, .ref b58])), (b32, .inl (G.2 0, 2880, .inl b61))] H := hP
                  have hD := z_tie hP hD rfl
                  try simp only [Int32.toInt_toInt64] at hq_346
                  have hv_351 : zI v_341 1 2147483647 := by have _a := hq_346; have _b := (zI_all v_341); have _c := (zI_i2l hb4 rfl).2; simp only [Int32.toInt_toInt64] at *; exact ⟨by omega, by omega⟩
                  refine W.widen (k := 0) (n := 0) (Nat.le_of_ble_eq_true rfl) (Nat.le_of_ble_eq_true rfl) ?_
                  refine lv_if_eq (tgt := 130) hx hb d_Model_step_123 (by decide) (fun _ => ?_) (fun hc => absurd hc (by decide +kernel))
                  refine lv_iconst (v := 0) hx hb d_Model_step_130 (by decide) ?_
                  refine lv_istore (lv' := [(9, .int 0), (8, .int y_289), (7, .int v_197), (0, .ref b0), (1, .int 1), (2, .ref b1), (3, .int b2), (4, .int b3), (5, .int b4), (6, .int b5)]) hx hb d_Model_step_131 hl (by decide) rfl (fun ls hl => ?_)
                  refine lv_aload_n hx hb d_Model_step_133 rfl (lv_at hl 3 rfl) ?_
                  refine lv_iload_n hx hb d_Model_step_134 rfl (lv_at hl 4 rfl) ?_
                  refine lv_iload hx hb d_Model_step_135 (lv_at hl 1 rfl) ?_
                  refine lv_iconst (v := 2) hx hb d_Model_step_137 (by decide) ?_
                  refine z_callV (index := 225) (As := [.int 1, .int y_289, .int 2]) (rest := []) (wr := [(b7, .inl (G.2 0, 503, .inl b59)), (b31, .inl (G.2 0, 2, .inl b60)), (b35, .inl (G.2 1, 4, .inr (.inl y_290))), (b1, .inl (G.2 1, 3208, .inr (.inl b63)))]) Z (s12_Model_edgeAt l G (b0) (y_289) (b6) (b7) (b8) (b9) (b10) (b11) (b12) (b13) (b14) (b15) (b16) (b17) (b18) (b19) (b20) (b21) (b22) (b23) (b24) (b25) (b26) (b27) (b28) (b29) (b30) (b31) (b32) (b33) (b34) (b35) (b36) (b37) (b38) (b39) (b40) (b41) (b42) (b43) (b44) (b45) (b46) (b47) (b48) (b49) (b50) (b1) (b51) (b52) (b53) (b54) (b55) (b56) (b57) (b58) (b61) hv_295 hb11 hb13 hb14 hb16 hb20 hb33 hb36 hb47 hb50 hb55 hb61) hl.1 q1408 q1410 qs68 q14 q1411 ⟨by decide, by decide, by show _ = some 3; decide +kernel⟩ ⟨Nat.le_of_ble_eq_true rfl, Nat.le_of_ble_eq_true rfl⟩ ⟨Nat.le_of_ble_eq_true rfl, Nat.le_of_ble_eq_true rfl⟩ rfl (Nat.le_of_ble_eq_true rfl) d_Model_step_138 hP hD hS hA 4 12 rfl rfl rfl [4, 5] [0, 1, 2, 3] rfl rfl rfl rfl (by decide) (fun v w1 H locs hw_352 hP hD hS => ?_)
                  obtain ⟨x_353, rfl, rfl, hx_353⟩ := hw_352
                  have hP : va_P G.1 classes [(b7, .inl (G.2 0, 503, .inl b59)), (b31, .inl (G.2 0, 2, .inl b60)), (b35, .inl (G.2 1, 4, .inr (.inl y_290))), (b1, .inl (G.2 1, 3208, .inr (.inl b63))), (b0, .inr (12, [.int b6, .ref b7, .ref b8, .ref b9, .ref b10, .int b11, .ref b12, .int b13, .int b14, .int b15, .int b16, .ref b17, .ref b18, .ref b19, .int b20, .ref b21, .ref b22, .ref b23, .ref b24, .ref b25, .ref b26, .ref b27, .ref b28, .ref b29, .ref b30, .ref b31, .ref b32, .int b33, .ref b34, .ref b35, .int b36, .int b37, .int b38, .int b39, .ref b40, .ref b41, .ref b42, .ref b43, .ref b44, .ref b45, .ref b46, .int b47, .ref b48, .ref b49, .int b50, .ref b1, .ref b51, .ref b52, .ref b53, .ref b54, .int b55, .ref b56, .ref b57, .ref b58])), (b32, .inl (G.2 0, 2880, .inl b61))] H := hP
                  have hD := z_tie hP hD rfl
                  refine W.widen (k := 0) (n := 0) (Nat.le_of_ble_eq_true rfl) (Nat.le_of_ble_eq_true rfl) ?_
                  refine lv_istore (lv' := [(10, .int x_353), (9, .int 0), (8, .int y_289), (7, .int v_197), (0, .ref b0), (1, .int 1), (2, .ref b1), (3, .int b2), (4, .int b3), (5, .int b4), (6, .int b5)]) hx hb d_Model_step_141 hl (by decide) rfl (fun ls hl => ?_)
                  refine lv_aload_n hx hb d_Model_step_143 rfl (lv_at hl 4 rfl) ?_
                  refine va_get (D := G.1) (ci := 12) (v := .ref b35) (C := R_Model) (T := F_Model) (N := 54) hx hb hts i_Model hown hK hP 4 rfl rfl 29 (by decide) (hts _ q1138) (fun _ h9 => h9) rfl d_Model_step_144 ?_
                  refine lv_iload hx hb d_Model_step_147 (lv_at hl 0 rfl) ?_
                  refine lv_bipush (v := 64) hx hb d_Model_step_149 (by decide) ?_
                  refine lv_idiv hx hb d_Model_step_151 (by decide +kernel) ?_
                  refine lv_topi (fun v_354 ev_354 => ?_)
                  obtain ⟨qv_354, hv_354⟩ := zI_div (l := 0) (h := 3) (d := 64) hx_353 rfl ev_354 (by decide)
                  refine lv_dup2_11 hx hb d_Model_step_152 rfl rfl ?_
                  refine va_lald hx hb hK hP 2 1 rfl rfl (zI.inn hv_354 (by decide)) d_Model_step_153 ?_
                  refine lv_topl (fun v_355 ev_355 => ?_)
                  refine lv_iload hx hb d_Model_step_154 (lv_at hl 1 rfl) ?_
                  refine lv_if_eq (tgt := 169) hx hb d_Model_step_156 (by decide) (fun _ => ?_) (fun hc => absurd hc (by decide +kernel))
                  refine lv_lconst (v := 0) hx hb d_Model_step_169 (by decide) ?_
                  refine lv_lor hx hb d_Model_step_170 ?_
                  refine lv_topl (fun v_356 ev_356 => ?_)
                  refine va_last hx hb hK hP hD hS 2 1 rfl rfl (zI.inn hv_354 (by decide)) d_Model_step_171 (fun H locs hP hD hS => ?_)
                  obtain ⟨f_357, hP, hD⟩ := z_newL 2 hP hD rfl
                  have hP : va_P G.1 classes [(b7, .inl (G.2 0, 503, .inl b59)), (b31, .inl (G.2 0, 2, .inl b60)), (b35, .inl (G.2 1, 4, .inr (.inl f_357))), (b1, .inl (G.2 1, 3208, .inr (.inl b63))), (b0, .inr (12, [.int b6, .ref b7, .ref b8, .ref b9, .ref b10, .int b11, .ref b12, .int b13, .int b14, .int b15, .int b16, .ref b17, .ref b18, .ref b19, .int b20, .ref b21, .ref b22, .ref b23, .ref b24, .ref b25, .ref b26, .ref b27, .ref b28, .ref b29, .ref b30, .ref b31, .ref b32, .int b33, .ref b34, .ref b35, .int b36, .int b37, .int b38, .int b39, .ref b40, .ref b41, .ref b42, .ref b43, .ref b44, .ref b45, .ref b46, .int b47, .ref b48, .ref b49, .int b50, .ref b1, .ref b51, .ref b52, .ref b53, .ref b54, .int b55, .ref b56, .ref b57, .ref b58])), (b32, .inl (G.2 0, 2880, .inl b61))] H := hP
                  have hD := z_tie hP hD rfl
                  obtain ⟨v_358, ev_358⟩ : ∃ z : Int32, z = y_289 + 1 := ⟨_, rfl⟩
                  obtain ⟨qv_358, hv_358⟩ := zI_add (l := 1) (h := 240) hv_295 zc_1 ev_358 (by decide)
                  rw [li_1] at qv_358
                  refine lv_iinc (v := v_358) (lv' := [(8, .int v_358), (10, .int x_353), (9, .int 0), (7, .int v_197), (0, .ref b0), (1, .int 1), (2, .ref b1), (3, .int b2), (4, .int b3), (5, .int b4), (6, .int b5)]) hx hb d_Model_step_172 hl (k := 2) rfl (by rw [ev_358]; rfl) (by decide) rfl (fun ls hl => ?_)
                  refine lv_goto (tgt := 36) hx hb d_Model_step_175 (by decide) ?_
                  exact ihk_288 (v_358) (f_357) _ _ _ (zI.wk (l' := 0) (h' := 240) hv_358 (by decide)) (zm_up qv_358 hmk_288 (by decide)) (hP.sub [4, 0, 1, 5, 2, 3] rfl) (hD.sub [4, 0, 1, 5, 2, 3] (by decide) rfl) hS (lv_sub hl [0, 3, 4, 5, 6, 7, 8, 9, 10] rfl)
                · have hP : va_P G.1 classes [(b7, .inl (G.2 0, 503, .inl b59)), (b31, .inl (G.2 0, 2, .inl b60)), (b35, .inl (G.2 1, 4, .inr (.inl y_290))), (b1, .inl (G.2 1, 3208, .inr (.inl b63))), (b0, .inr (12, [.int b6, .ref b7, .ref b8, .ref b9, .ref b10, .int b11, .ref b12, .int b13, .int b14, .int b15, .int b16, .ref b17, .ref b18, .ref b19, .int b20, .ref b21, .ref b22, .ref b23, .ref b24, .ref b25, .ref b26, .ref b27, .ref b28, .ref b29, .ref b30, .ref b31, .ref b32, .int b33, .ref b34, .ref b35, .int b36, .int b37, .int b38, .int b39, .ref b40, .ref b41, .ref b42, .ref b43, .ref b44, .ref b45, .ref b46, .int b47, .ref b48, .ref b49, .int b50, .ref b1, .ref b51, .ref b52, .ref b53, .ref b54, .int b55, .ref b56, .ref b57, .ref b58])), (b32, .inl (G.2 0, 2880, .inl b61))] H := hP
                  have hD := z_tie hP hD rfl
                  try simp only [Int32.toInt_toInt64] at hq_347
                  have hv_359 : zI v_341 (-2147483648) 0 := by have _a := hq_347; have _b := (zI_all v_341); have _c := (zI_i2l hb4 rfl).2; simp only [Int32.toInt_toInt64] at *; exact ⟨by omega, by omega⟩
                  try simp only [Int32.toInt_toInt64] at hq_348
                  have hv_360 : zI v_344 (-2147483648) (-1) := by have _a := hq_348; have _b := (zI_all v_344); have _c := (zI_i2l hb4 rfl).2; simp only [Int32.toInt_toInt64] at *; exact ⟨by omega, by omega⟩
                  refine W.widen (k := 0) (n := 0) (Nat.le_of_ble_eq_true rfl) (Nat.le_of_ble_eq_true rfl) ?_
                  refine lv_if_eq (tgt := 130) hx hb d_Model_step_123 (by decide) (fun _ => ?_) (fun hc => absurd hc (by decide +kernel))
                  refine lv_iconst (v := 0) hx hb d_Model_step_130 (by decide) ?_
                  refine lv_istore (lv' := [(9, .int 0), (8, .int y_289), (7, .int v_197), (0, .ref b0), (1, .int 1), (2, .ref b1), (3, .int b2), (4, .int b3), (5, .int b4), (6, .int b5)]) hx hb d_Model_step_131 hl (by decide) rfl (fun ls hl => ?_)
                  refine lv_aload_n hx hb d_Model_step_133 rfl (lv_at hl 3 rfl) ?_
                  refine lv_iload_n hx hb d_Model_step_134 rfl (lv_at hl 4 rfl) ?_
                  refine lv_iload hx hb d_Model_step_135 (lv_at hl 1 rfl) ?_
                  refine lv_iconst (v := 2) hx hb d_Model_step_137 (by decide) ?_
                  refine z_callV (index := 225) (As := [.int 1, .int y_289, .int 2]) (rest := []) (wr := [(b7, .inl (G.2 0, 503, .inl b59)), (b31, .inl (G.2 0, 2, .inl b60)), (b35, .inl (G.2 1, 4, .inr (.inl y_290))), (b1, .inl (G.2 1, 3208, .inr (.inl b63)))]) Z (s12_Model_edgeAt l G (b0) (y_289) (b6) (b7) (b8) (b9) (b10) (b11) (b12) (b13) (b14) (b15) (b16) (b17) (b18) (b19) (b20) (b21) (b22) (b23) (b24) (b25) (b26) (b27) (b28) (b29) (b30) (b31) (b32) (b33) (b34) (b35) (b36) (b37) (b38) (b39) (b40) (b41) (b42) (b43) (b44) (b45) (b46) (b47) (b48) (b49) (b50) (b1) (b51) (b52) (b53) (b54) (b55) (b56) (b57) (b58) (b61) hv_295 hb11 hb13 hb14 hb16 hb20 hb33 hb36 hb47 hb50 hb55 hb61) hl.1 q1408 q1410 qs68 q14 q1411 ⟨by decide, by decide, by show _ = some 3; decide +kernel⟩ ⟨Nat.le_of_ble_eq_true rfl, Nat.le_of_ble_eq_true rfl⟩ ⟨Nat.le_of_ble_eq_true rfl, Nat.le_of_ble_eq_true rfl⟩ rfl (Nat.le_of_ble_eq_true rfl) d_Model_step_138 hP hD hS hA 4 12 rfl rfl rfl [4, 5] [0, 1, 2, 3] rfl rfl rfl rfl (by decide) (fun v w1 H locs hw_361 hP hD hS => ?_)
                  obtain ⟨x_362, rfl, rfl, hx_362⟩ := hw_361
                  have hP : va_P G.1 classes [(b7, .inl (G.2 0, 503, .inl b59)), (b31, .inl (G.2 0, 2, .inl b60)), (b35, .inl (G.2 1, 4, .inr (.inl y_290))), (b1, .inl (G.2 1, 3208, .inr (.inl b63))), (b0, .inr (12, [.int b6, .ref b7, .ref b8, .ref b9, .ref b10, .int b11, .ref b12, .int b13, .int b14, .int b15, .int b16, .ref b17, .ref b18, .ref b19, .int b20, .ref b21, .ref b22, .ref b23, .ref b24, .ref b25, .ref b26, .ref b27, .ref b28, .ref b29, .ref b30, .ref b31, .ref b32, .int b33, .ref b34, .ref b35, .int b36, .int b37, .int b38, .int b39, .ref b40, .ref b41, .ref b42, .ref b43, .ref b44, .ref b45, .ref b46, .int b47, .ref b48, .ref b49, .int b50, .ref b1, .ref b51, .ref b52, .ref b53, .ref b54, .int b55, .ref b56, .ref b57, .ref b58])), (b32, .inl (G.2 0, 2880, .inl b61))] H := hP
                  have hD := z_tie hP hD rfl
                  refine W.widen (k := 0) (n := 0) (Nat.le_of_ble_eq_true rfl) (Nat.le_of_ble_eq_true rfl) ?_
                  refine lv_istore (lv' := [(10, .int x_362), (9, .int 0), (8, .int y_289), (7, .int v_197), (0, .ref b0), (1, .int 1), (2, .ref b1), (3, .int b2), (4, .int b3), (5, .int b4), (6, .int b5)]) hx hb d_Model_step_141 hl (by decide) rfl (fun ls hl => ?_)
                  refine lv_aload_n hx hb d_Model_step_143 rfl (lv_at hl 4 rfl) ?_
                  refine va_get (D := G.1) (ci := 12) (v := .ref b35) (C := R_Model) (T := F_Model) (N := 54) hx hb hts i_Model hown hK hP 4 rfl rfl 29 (by decide) (hts _ q1138) (fun _ h9 => h9) rfl d_Model_step_144 ?_
                  refine lv_iload hx hb d_Model_step_147 (lv_at hl 0 rfl) ?_
                  refine lv_bipush (v := 64) hx hb d_Model_step_149 (by decide) ?_
                  refine lv_idiv hx hb d_Model_step_151 (by decide +kernel) ?_
                  refine lv_topi (fun v_363 ev_363 => ?_)
                  obtain ⟨qv_363, hv_363⟩ := zI_div (l := 0) (h := 3) (d := 64) hx_362 rfl ev_363 (by decide)
                  refine lv_dup2_11 hx hb d_Model_step_152 rfl rfl ?_
                  refine va_lald hx hb hK hP 2 1 rfl rfl (zI.inn hv_363 (by decide)) d_Model_step_153 ?_
                  refine lv_topl (fun v_364 ev_364 => ?_)
                  refine lv_iload hx hb d_Model_step_154 (lv_at hl 1 rfl) ?_
                  refine lv_if_eq (tgt := 169) hx hb d_Model_step_156 (by decide) (fun _ => ?_) (fun hc => absurd hc (by decide +kernel))
                  refine lv_lconst (v := 0) hx hb d_Model_step_169 (by decide) ?_
                  refine lv_lor hx hb d_Model_step_170 ?_
                  refine lv_topl (fun v_365 ev_365 => ?_)
                  refine va_last hx hb hK hP hD hS 2 1 rfl rfl (zI.inn hv_363 (by decide)) d_Model_step_171 (fun H locs hP hD hS => ?_)
                  obtain ⟨f_366, hP, hD⟩ := z_newL 2 hP hD rfl
                  have hP : va_P G.1 classes [(b7, .inl (G.2 0, 503, .inl b59)), (b31, .inl (G.2 0, 2, .inl b60)), (b35, .inl (G.2 1, 4, .inr (.inl f_366))), (b1, .inl (G.2 1, 3208, .inr (.inl b63))), (b0, .inr (12, [.int b6, .ref b7, .ref b8, .ref b9, .ref b10, .int b11, .ref b12, .int b13, .int b14, .int b15, .int b16, .ref b17, .ref b18, .ref b19, .int b20, .ref b21, .ref b22, .ref b23, .ref b24, .ref b25, .ref b26, .ref b27, .ref b28, .ref b29, .ref b30, .ref b31, .ref b32, .int b33, .ref b34, .ref b35, .int b36, .int b37, .int b38, .int b39, .ref b40, .ref b41, .ref b42, .ref b43, .ref b44, .ref b45, .ref b46, .int b47, .ref b48, .ref b49, .int b50, .ref b1, .ref b51, .ref b52, .ref b53, .ref b54, .int b55, .ref b56, .ref b57, .ref b58])), (b32, .inl (G.2 0, 2880, .inl b61))] H := hP
                  have hD := z_tie hP hD rfl
                  obtain ⟨v_367, ev_367⟩ : ∃ z : Int32, z = y_289 + 1 := ⟨_, rfl⟩
                  obtain ⟨qv_367, hv_367⟩ := zI_add (l := 1) (h := 240) hv_295 zc_1 ev_367 (by decide)
                  rw [li_1] at qv_367
                  refine lv_iinc (v := v_367) (lv' := [(8, .int v_367), (10, .int x_362), (9, .int 0), (7, .int v_197), (0, .ref b0), (1, .int 1), (2, .ref b1), (3, .int b2), (4, .int b3), (5, .int b4), (6, .int b5)]) hx hb d_Model_step_172 hl (k := 2) rfl (by rw [ev_367]; rfl) (by decide) rfl (fun ls hl => ?_)
                  refine lv_goto (tgt := 36) hx hb d_Model_step_175 (by decide) ?_
                  exact ihk_288 (v_367) (f_366) _ _ _ (zI.wk (l' := 0) (h' := 240) hv_367 (by decide)) (zm_up qv_367 hmk_288 (by decide)) (hP.sub [4, 0, 1, 5, 2, 3] rfl) (hD.sub [4, 0, 1, 5, 2, 3] (by decide) rfl) hS (lv_sub hl [0, 3, 4, 5, 6, 7, 8, 9, 10] rfl)
                · have hP : va_P G.1 classes [(b7, .inl (G.2 0, 503, .inl b59)), (b31, .inl (G.2 0, 2, .inl b60)), (b35, .inl (G.2 1, 4, .inr (.inl y_290))), (b1, .inl (G.2 1, 3208, .inr (.inl b63))), (b0, .inr (12, [.int b6, .ref b7, .ref b8, .ref b9, .ref b10, .int b11, .ref b12, .int b13, .int b14, .int b15, .int b16, .ref b17, .ref b18, .ref b19, .int b20, .ref b21, .ref b22, .ref b23, .ref b24, .ref b25, .ref b26, .ref b27, .ref b28, .ref b29, .ref b30, .ref b31, .ref b32, .int b33, .ref b34, .ref b35, .int b36, .int b37, .int b38, .int b39, .ref b40, .ref b41, .ref b42, .ref b43, .ref b44, .ref b45, .ref b46, .int b47, .ref b48, .ref b49, .int b50, .ref b1, .ref b51, .ref b52, .ref b53, .ref b54, .int b55, .ref b56, .ref b57, .ref b58])), (b32, .inl (G.2 0, 2880, .inl b61))] H := hP
                  have hD := z_tie hP hD rfl
                  try simp only [Int32.toInt_toInt64] at hq_349
                  have hv_368 : zI v_341 (-2147483648) 0 := by have _a := hq_349; have _b := (zI_all v_341); have _c := (zI_i2l hb4 rfl).2; simp only [Int32.toInt_toInt64] at *; exact ⟨by omega, by omega⟩
                  try simp only [Int32.toInt_toInt64] at hq_350
                  have hv_369 : zI v_344 0 2147483647 := by have _a := hq_350; have _b := (zI_all v_344); have _c := (zI_i2l hb4 rfl).2; simp only [Int32.toInt_toInt64] at *; exact ⟨by omega, by omega⟩
                  refine W.widen (k := 0) (n := 0) (Nat.le_of_ble_eq_true rfl) (Nat.le_of_ble_eq_true rfl) ?_
                  refine lv_if_eq (tgt := 130) hx hb d_Model_step_123 (by decide) (fun hc => absurd hc (by decide +kernel)) (fun _ => ?_)
                  refine lv_iconst (v := 1) hx hb d_Model_step_126 (by decide) ?_
                  refine lv_goto (tgt := 131) hx hb d_Model_step_127 (by decide) ?_
                  refine lv_istore (lv' := [(9, .int 1), (8, .int y_289), (7, .int v_197), (0, .ref b0), (1, .int 1), (2, .ref b1), (3, .int b2), (4, .int b3), (5, .int b4), (6, .int b5)]) hx hb d_Model_step_131 hl (by decide) rfl (fun ls hl => ?_)
                  refine lv_aload_n hx hb d_Model_step_133 rfl (lv_at hl 3 rfl) ?_
                  refine lv_iload_n hx hb d_Model_step_134 rfl (lv_at hl 4 rfl) ?_
                  refine lv_iload hx hb d_Model_step_135 (lv_at hl 1 rfl) ?_
                  refine lv_iconst (v := 2) hx hb d_Model_step_137 (by decide) ?_
                  refine z_callV (index := 225) (As := [.int 1, .int y_289, .int 2]) (rest := []) (wr := [(b7, .inl (G.2 0, 503, .inl b59)), (b31, .inl (G.2 0, 2, .inl b60)), (b35, .inl (G.2 1, 4, .inr (.inl y_290))), (b1, .inl (G.2 1, 3208, .inr (.inl b63)))]) Z (s12_Model_edgeAt l G (b0) (y_289) (b6) (b7) (b8) (b9) (b10) (b11) (b12) (b13) (b14) (b15) (b16) (b17) (b18) (b19) (b20) (b21) (b22) (b23) (b24) (b25) (b26) (b27) (b28) (b29) (b30) (b31) (b32) (b33) (b34) (b35) (b36) (b37) (b38) (b39) (b40) (b41) (b42) (b43) (b44) (b45) (b46) (b47) (b48) (b49) (b50) (b1) (b51) (b52) (b53) (b54) (b55) (b56) (b57) (b58) (b61) hv_295 hb11 hb13 hb14 hb16 hb20 hb33 hb36 hb47 hb50 hb55 hb61) hl.1 q1408 q1410 qs68 q14 q1411 ⟨by decide, by decide, by show _ = some 3; decide +kernel⟩ ⟨Nat.le_of_ble_eq_true rfl, Nat.le_of_ble_eq_true rfl⟩ ⟨Nat.le_of_ble_eq_true rfl, Nat.le_of_ble_eq_true rfl⟩ rfl (Nat.le_of_ble_eq_true rfl) d_Model_step_138 hP hD hS hA 4 12 rfl rfl rfl [4, 5] [0, 1, 2, 3] rfl rfl rfl rfl (by decide) (fun v w1 H locs hw_370 hP hD hS => ?_)
                  obtain ⟨x_371, rfl, rfl, hx_371⟩ := hw_370
                  have hP : va_P G.1 classes [(b7, .inl (G.2 0, 503, .inl b59)), (b31, .inl (G.2 0, 2, .inl b60)), (b35, .inl (G.2 1, 4, .inr (.inl y_290))), (b1, .inl (G.2 1, 3208, .inr (.inl b63))), (b0, .inr (12, [.int b6, .ref b7, .ref b8, .ref b9, .ref b10, .int b11, .ref b12, .int b13, .int b14, .int b15, .int b16, .ref b17, .ref b18, .ref b19, .int b20, .ref b21, .ref b22, .ref b23, .ref b24, .ref b25, .ref b26, .ref b27, .ref b28, .ref b29, .ref b30, .ref b31, .ref b32, .int b33, .ref b34, .ref b35, .int b36, .int b37, .int b38, .int b39, .ref b40, .ref b41, .ref b42, .ref b43, .ref b44, .ref b45, .ref b46, .int b47, .ref b48, .ref b49, .int b50, .ref b1, .ref b51, .ref b52, .ref b53, .ref b54, .int b55, .ref b56, .ref b57, .ref b58])), (b32, .inl (G.2 0, 2880, .inl b61))] H := hP
                  have hD := z_tie hP hD rfl
                  refine W.widen (k := 0) (n := 0) (Nat.le_of_ble_eq_true rfl) (Nat.le_of_ble_eq_true rfl) ?_
                  refine lv_istore (lv' := [(10, .int x_371), (9, .int 1), (8, .int y_289), (7, .int v_197), (0, .ref b0), (1, .int 1), (2, .ref b1), (3, .int b2), (4, .int b3), (5, .int b4), (6, .int b5)]) hx hb d_Model_step_141 hl (by decide) rfl (fun ls hl => ?_)
                  refine lv_aload_n hx hb d_Model_step_143 rfl (lv_at hl 4 rfl) ?_
                  refine va_get (D := G.1) (ci := 12) (v := .ref b35) (C := R_Model) (T := F_Model) (N := 54) hx hb hts i_Model hown hK hP 4 rfl rfl 29 (by decide) (hts _ q1138) (fun _ h9 => h9) rfl d_Model_step_144 ?_
                  refine lv_iload hx hb d_Model_step_147 (lv_at hl 0 rfl) ?_
                  refine lv_bipush (v := 64) hx hb d_Model_step_149 (by decide) ?_
                  refine lv_idiv hx hb d_Model_step_151 (by decide +kernel) ?_
                  refine lv_topi (fun v_372 ev_372 => ?_)
                  obtain ⟨qv_372, hv_372⟩ := zI_div (l := 0) (h := 3) (d := 64) hx_371 rfl ev_372 (by decide)
                  refine lv_dup2_11 hx hb d_Model_step_152 rfl rfl ?_
                  refine va_lald hx hb hK hP 2 1 rfl rfl (zI.inn hv_372 (by decide)) d_Model_step_153 ?_
                  refine lv_topl (fun v_373 ev_373 => ?_)
                  refine lv_iload hx hb d_Model_step_154 (lv_at hl 1 rfl) ?_
                  refine lv_if_eq (tgt := 169) hx hb d_Model_step_156 (by decide) (fun hc => absurd hc (by decide +kernel)) (fun _ => ?_)
                  refine lv_lconst (v := 1) hx hb d_Model_step_159 (by decide) ?_
                  refine lv_iload hx hb d_Model_step_160 (lv_at hl 0 rfl) ?_
                  refine lv_bipush (v := 64) hx hb d_Model_step_162 (by decide) ?_
                  refine lv_irem hx hb d_Model_step_164 (by decide +kernel) ?_
                  refine lv_topi (fun v_374 ev_374 => ?_)
                  obtain ⟨qv_374, hv_374⟩ := zI_rem (h := 63) (d := 64) hx_371 rfl ev_374 (by decide)
                  obtain ⟨v_375, ev_375⟩ : ∃ z : Int64, z = 1 <<< ((v_374 : Int32).toInt64 &&& 63) := ⟨_, rfl⟩
                  refine lv_lshl (v := v_375) hx hb d_Model_step_165 ev_375.symm ?_
                  refine lv_goto (tgt := 170) hx hb d_Model_step_166 (by decide) ?_
                  refine lv_lor hx hb d_Model_step_170 ?_
                  refine lv_topl (fun v_376 ev_376 => ?_)
                  refine va_last hx hb hK hP hD hS 2 1 rfl rfl (zI.inn hv_372 (by decide)) d_Model_step_171 (fun H locs hP hD hS => ?_)
                  obtain ⟨f_377, hP, hD⟩ := z_newL 2 hP hD rfl
                  have hP : va_P G.1 classes [(b7, .inl (G.2 0, 503, .inl b59)), (b31, .inl (G.2 0, 2, .inl b60)), (b35, .inl (G.2 1, 4, .inr (.inl f_377))), (b1, .inl (G.2 1, 3208, .inr (.inl b63))), (b0, .inr (12, [.int b6, .ref b7, .ref b8, .ref b9, .ref b10, .int b11, .ref b12, .int b13, .int b14, .int b15, .int b16, .ref b17, .ref b18, .ref b19, .int b20, .ref b21, .ref b22, .ref b23, .ref b24, .ref b25, .ref b26, .ref b27, .ref b28, .ref b29, .ref b30, .ref b31, .ref b32, .int b33, .ref b34, .ref b35, .int b36, .int b37, .int b38, .int b39, .ref b40, .ref b41, .ref b42, .ref b43, .ref b44, .ref b45, .ref b46, .int b47, .ref b48, .ref b49, .int b50, .ref b1, .ref b51, .ref b52, .ref b53, .ref b54, .int b55, .ref b56, .ref b57, .ref b58])), (b32, .inl (G.2 0, 2880, .inl b61))] H := hP
                  have hD := z_tie hP hD rfl
                  obtain ⟨v_378, ev_378⟩ : ∃ z : Int32, z = y_289 + 1 := ⟨_, rfl⟩
                  obtain ⟨qv_378, hv_378⟩ := zI_add (l := 1) (h := 240) hv_295 zc_1 ev_378 (by decide)
                  rw [li_1] at qv_378
                  refine lv_iinc (v := v_378) (lv' := [(8, .int v_378), (10, .int x_371), (9, .int 1), (7, .int v_197), (0, .ref b0), (1, .int 1), (2, .ref b1), (3, .int b2), (4, .int b3), (5, .int b4), (6, .int b5)]) hx hb d_Model_step_172 hl (k := 2) rfl (by rw [ev_378]; rfl) (by decide) rfl (fun ls hl => ?_)
                  refine lv_goto (tgt := 36) hx hb d_Model_step_175 (by decide) ?_
                  exact ihk_288 (v_378) (f_377) _ _ _ (zI.wk (l' := 0) (h' := 240) hv_378 (by decide)) (zm_up qv_378 hmk_288 (by decide)) (hP.sub [4, 0, 1, 5, 2, 3] rfl) (hD.sub [4, 0, 1, 5, 2, 3] (by decide) rfl) hS (lv_sub hl [0, 3, 4, 5, 6, 7, 8, 9, 10] rfl)
    · have _nhc_194 := hc_194
      have ni_379 := (fa_lt _ _).mp (zi_nle hc_194)
      rw [li_4] at ni_379
      have hv_380 : zI y_192 0 3 := zI.lt_l hy_192 zc_4 (zi_nle hc_194) (by decide)
      refine lv_aload_n hx hb d_Model_step_9 rfl (lv_at hl 1 rfl) ?_
      refine va_get (D := G.1) (ci := 12) (v := .ref b35) (C := R_Model) (T := F_Model) (N := 54) hx hb hts i_Model hown hK hP 0 rfl rfl 29 (by decide) (hts _ q1138) (fun _ h9 => h9) rfl d_Model_step_10 ?_
      refine lv_iload hx hb d_Model_step_13 (lv_at hl 0 rfl) ?_
      refine lv_lconst (v := 0) hx hb d_Model_step_15 (by decide) ?_
      refine va_last hx hb hK hP hD hS 4 1 rfl rfl (zI.inn hv_380 (by decide)) d_Model_step_16 (fun H locs hP hD hS => ?_)
      obtain ⟨f_381, hP, hD⟩ := z_newL 4 hP hD rfl
      have hP : va_P G.1 classes [(b0, .inr (12, [.int b6, .ref b7, .ref b8, .ref b9, .ref b10, .int b11, .ref b12, .int b13, .int b14, .int b15, .int b16, .ref b17, .ref b18, .ref b19, .int b20, .ref b21, .ref b22, .ref b23, .ref b24, .ref b25, .ref b26, .ref b27, .ref b28, .ref b29, .ref b30, .ref b31, .ref b32, .int b33, .ref b34, .ref b35, .int b36, .int b37, .int b38, .int b39, .ref b40, .ref b41, .ref b42, .ref b43, .ref b44, .ref b45, .ref b46, .int b47, .ref b48, .ref b49, .int b50, .ref b1, .ref b51, .ref b52, .ref b53, .ref b54, .int b55, .ref b56, .ref b57, .ref b58])), (b7, .inl (G.2 0, 503, .inl b59)), (b31, .inl (G.2 0, 2, .inl b60)), (b32, .inl (G.2 0, 2880, .inl b61)), (b35, .inl (G.2 1, 4, .inr (.inl f_381))), (b1, .inl (G.2 1, 3208, .inr (.inl b63)))] H := hP
      have hD := z_tie hP hD rfl
      obtain ⟨v_382, ev_382⟩ : ∃ z : Int32, z = y_192 + 1 := ⟨_, rfl⟩
      obtain ⟨qv_382, hv_382⟩ := zI_add (l := 1) (h := 4) hv_380 zc_1 ev_382 (by decide)
      rw [li_1] at qv_382
      refine lv_iinc (v := v_382) (lv' := [(7, .int v_382), (0, .ref b0), (1, .int 1), (2, .ref b1), (3, .int b2), (4, .int b3), (5, .int b4), (6, .int b5)]) hx hb d_Model_step_17 hl (k := 0) rfl (by rw [ev_382]; rfl) (by decide) rfl (fun ls hl => ?_)
      refine lv_goto (tgt := 3) hx hb d_Model_step_20 (by decide) ?_
      exact ihk_191 (v_382) (f_381) _ _ _ (zI.wk (l' := 0) (h' := 4) hv_382 (by decide)) (zm_up qv_382 hmk_191 (by decide)) hP hD hS (lv_sub hl [0, 1, 2, 3, 4, 5, 6, 7] rfl)
theorem d_Model_stepTwo_66 : decode prog_14_method_66_code 66 = .ok (.return_, 1) := by decide +kernel
abbrev m_s2_Model_stepTwo : Room := { frames := 2, cells := 0, slots := 0, locals := 55 }
set_option maxHeartbeats 4000000 in
set_option maxRecDepth 100000 in
theorem s2_Model_stepTwo (l : Launch) (G : zG) (b0 : Nat) (b1 : Int32) (b2 : Int32) (b3 : Int32) (b4 : Nat) (b5 : Nat) (b6 : Nat) (b7 : Nat) (b8 : Int32) (b9 : Nat) (b10 : Int32) (b11 : Int32) (b12 : Int32) (b13 : Int32) (b14 : Nat) (b15 : Nat) (b16 : Nat) (b17 : Int32) (b18 : Nat) (b19 : Nat) (b20 : Nat) (b21 : Nat) (b22 : Nat) (b23 : Nat) (b24 : Nat) (b25 : Nat) (b26 : Nat) (b27 : Nat) (b28 : Nat) (b29 : Nat) (b30 : Int32) (b31 : Nat) (b32 : Nat) (b33 : Int32) (b34 : Int32) (b35 : Int32) (b36 : Int32) (b37 : Nat) (b38 : Nat) (b39 : Nat) (b40 : Nat) (b41 : Nat) (b42 : Nat) (b43 : Nat) (b44 : Int32) (b45 : Nat) (b46 : Nat) (b47 : Int32) (b48 : Nat) (b49 : Nat) (b50 : Nat) (b51 : Nat) (b52 : Nat) (b53 : Int32) (b54 : Nat) (b55 : Nat) (b56 : Nat) (b57 : Nat → Int32) (b58 : Nat → Int32) (b59 : Nat → Int32) (b60 : Nat → Int64) (b61 : Nat → Int64) (b62 : Nat → Int64) (hb1 : zI b1 0 399) (hb2 : zI b2 0 9) (hb8 : zI b8 0 8) (hb10 : zI b10 0 240) (hb11 : zI b11 0 240) (hb13 : zI b13 0 1) (hb17 : zI b17 0 12) (hb30 : zI b30 0 1) (hb33 : zI b33 0 1) (hb44 : zI b44 0 1000) (hb47 : zI b47 0 1000) (hb53 : zI b53 0 400) (hb57 : zW5 b57) (hb58 : zR b58 0 240) (hb59 : zqa qE b59) : zM l G y_Model_stepTwo prog_14_method_66_code 5 (Option.none : Option Jvm.ClassFile.FieldType) m_s2_Model_stepTwo [.ref b0, .int b1, .int b2] [(b0, .inr (12, [.int b3, .ref b4, .ref b5, .ref b6, .ref b7, .int b8, .ref b9, .int b10, .int b11, .int b12, .int b13, .ref b14, .ref b15, .ref b16, .int b17, .ref b18, .ref b19, .ref b20, .ref b21, .ref b22, .ref b23, .ref b24, .ref b25, .ref b26, .ref b27, .ref b28, .ref b29, .int b30, .ref b31, .ref b32, .int b33, .int b34, .int b35, .int b36, .ref b37, .ref b38, .ref b39, .ref b40, .ref b41, .ref b42, .ref b43, .int b44, .ref b45, .ref b46, .int b47, .ref b48, .ref b49, .ref b50, .ref b51, .ref b52, .int b53, .ref b54, .ref b55, .ref b56])), (b4, .inl (G.2 0, 503, .inl b57)), (b28, .inl (G.2 0, 2, .inl b58)), (b29, .inl (G.2 0, 2880, .inl b59)), (b32, .inl (G.2 1, 4, .inr (.inl b60))), (b48, .inl (G.2 1, 3208, .inr (.inl b61))), (b52, .inl (G.2 1, 8, .inr (.inl b62)))] (fun v w => ∃ (e0 : Nat → Int64), ∃ (e1 : Nat → Int64), v = none ∧ w = [(b0, .inr (12, [.int b3, .ref b4, .ref b5, .ref b6, .ref b7, .int b8, .ref b9, .int b10, .int b11, .int b12, .int b13, .ref b14, .ref b15, .ref b16, .int b17, .ref b18, .ref b19, .ref b20, .ref b21, .ref b22, .ref b23, .ref b24, .ref b25, .ref b26, .ref b27, .ref b28, .ref b29, .int b30, .ref b31, .ref b32, .int b33, .int b34, .int b35, .int b36, .ref b37, .ref b38, .ref b39, .ref b40, .ref b41, .ref b42, .ref b43, .int b44, .ref b45, .ref b46, .int b47, .ref b48, .ref b49, .ref b50, .ref b51, .ref b52, .int b53, .ref b54, .ref b55, .ref b56])), (b4, .inl (G.2 0, 503, .inl b57)), (b28, .inl (G.2 0, 2, .inl b58)), (b29, .inl (G.2 0, 2880, .inl b59)), (b32, .inl (G.2 1, 4, .inr (.inl e0))), (b48, .inl (G.2 1, 3208, .inr (.inl b61))), (b52, .inl (G.2 1, 8, .inr (.inl e1)))]) := by
  refine z_start (by decide +kernel) (Nat.le_of_ble_eq_true rfl) ?_
  intro p e s m below meth c A Z hr hnm hA hP hD hS ls hl
  have Z : zC p s m _ meth c prog_14_method_66_code 5 "TraceMachinesModel" G := Z
  obtain ⟨hx, hb, hml, hown, hts, hK, hN, hlocks⟩ := id Z
  have hl : lv_has ls 5 [(0, .ref b0), (1, .int b1), (2, .int b2)] := hl
  refine lv_iconst (v := 0) hx hb d_Model_stepTwo_0 (by decide) ?_
  refine lv_istore_n (lv' := [(3, .int 0), (0, .ref b0), (1, .int b1), (2, .int b2)]) hx hb d_Model_stepTwo_1 rfl hl (by decide) rfl (fun ls hl => ?_)
  refine lv_iload_n hx hb d_Model_stepTwo_2 rfl (lv_at hl 0 rfl) ?_
  refine lv_iconst (v := 2) hx hb d_Model_stepTwo_3 (by decide) ?_
  refine lv_icmp_ge (tgt := 66) hx hb d_Model_stepTwo_4 (by decide) (fun hc => absurd hc (by decide +kernel)) (fun _ => ?_)
  refine lv_aload_n hx hb d_Model_stepTwo_7 rfl (lv_at hl 1 rfl) ?_
  refine lv_iload_n hx hb d_Model_stepTwo_8 rfl (lv_at hl 0 rfl) ?_
  refine lv_aload_n hx hb d_Model_stepTwo_9 rfl (lv_at hl 1 rfl) ?_
  refine va_get (D := G.1) (ci := 12) (v := .ref b48) (C := R_Model) (T := F_Model) (N := 54) hx hb hts i_Model hown hK hP 0 rfl rfl 45 (by decide) (hts _ q1154) (fun _ h9 => h9) rfl d_Model_stepTwo_10 ?_
  refine lv_bipush (v := 8) hx hb d_Model_stepTwo_13 (by decide) ?_
  refine lv_iload_n hx hb d_Model_stepTwo_15 rfl (lv_at hl 2 rfl) ?_
  refine lv_imul hx hb d_Model_stepTwo_16 ?_
  refine lv_topi (fun v_1 ev_1 => ?_)
  obtain ⟨qv_1, hv_1⟩ := zI_mul (l := 0) (h := 3192) zc_8 hb1 ev_1 (by decide)
  rw [li_8] at qv_1
  refine lv_iconst (v := 4) hx hb d_Model_stepTwo_17 (by decide) ?_
  refine lv_iload_n hx hb d_Model_stepTwo_18 rfl (lv_at hl 0 rfl) ?_
  refine lv_imul hx hb d_Model_stepTwo_19 ?_
  refine z_topi (y := 0) (by decide +kernel) ?_
  refine lv_iadd hx hb d_Model_stepTwo_20 ?_
  refine lv_topi (fun v_2 ev_2 => ?_)
  obtain ⟨qv_2, hv_2⟩ := zI_add (l := 0) (h := 3192) hv_1 zc_0 ev_2 (by decide)
  rw [li_0] at qv_2
  refine lv_iload_n hx hb d_Model_stepTwo_21 rfl (lv_at hl 3 rfl) ?_
  refine lv_iconst (v := 0) hx hb d_Model_stepTwo_22 (by decide) ?_
  refine lv_iconst (v := 0) hx hb d_Model_stepTwo_23 (by decide) ?_
  refine z_callV (index := 282) (As := [.int 0, .ref b48, .int v_2, .int b2, .int 0, .int 0]) (rest := []) (wr := [(b52, .inl (G.2 1, 8, .inr (.inl b62)))]) Z (s12_Model_step l G (b0) (b48) (v_2) (b2) (0) (0) (b3) (b4) (b5) (b6) (b7) (b8) (b9) (b10) (b11) (b12) (b13) (b14) (b15) (b16) (b17) (b18) (b19) (b20) (b21) (b22) (b23) (b24) (b25) (b26) (b27) (b28) (b29) (b30) (b31) (b32) (b33) (b34) (b35) (b36) (b37) (b38) (b39) (b40) (b41) (b42) (b43) (b44) (b45) (b46) (b47) (b49) (b50) (b51) (b52) (b53) (b54) (b55) (b56) (b57) (b58) (b59) (b60) (b61) (zI.wk (l' := 0) (h' := 3204) hv_2 (by decide)) hb2 zc_0 (zI.wk (l' := 0) (h' := 1) zc_0 (by decide)) hb8 hb10 hb11 hb13 hb17 hb30 hb33 hb44 hb47 hb53 hb57 hb58 hb59) hl.1 q1460 q1462 qs76 q14 q1463 ⟨by decide, by decide, by show _ = some 6; decide +kernel⟩ ⟨Nat.le_of_ble_eq_true rfl, Nat.le_of_ble_eq_true rfl⟩ ⟨Nat.le_of_ble_eq_true rfl, Nat.le_of_ble_eq_true rfl⟩ rfl (Nat.le_of_ble_eq_true rfl) d_Model_stepTwo_24 hP hD hS hA 0 12 rfl rfl rfl [0, 1, 2, 3, 4, 5] [6] rfl rfl rfl rfl (by decide) (fun v w1 H locs hw_3 hP hD hS => ?_)
  obtain ⟨f_4, rfl, rfl⟩ := hw_3
  have hP : va_P G.1 classes [(b52, .inl (G.2 1, 8, .inr (.inl b62))), (b0, .inr (12, [.int b3, .ref b4, .ref b5, .ref b6, .ref b7, .int b8, .ref b9, .int b10, .int b11, .int b12, .int b13, .ref b14, .ref b15, .ref b16, .int b17, .ref b18, .ref b19, .ref b20, .ref b21, .ref b22, .ref b23, .ref b24, .ref b25, .ref b26, .ref b27, .ref b28, .ref b29, .int b30, .ref b31, .ref b32, .int b33, .int b34, .int b35, .int b36, .ref b37, .ref b38, .ref b39, .ref b40, .ref b41, .ref b42, .ref b43, .int b44, .ref b45, .ref b46, .int b47, .ref b48, .ref b49, .ref b50, .ref b51, .ref b52, .int b53, .ref b54, .ref b55, .ref b56])), (b4, .inl (G.2 0, 503, .inl b57)), (b28, .inl (G.2 0, 2, .inl b58)), (b29, .inl (G.2 0, 2880, .inl b59)), (b32, .inl (G.2 1, 4, .inr (.inl f_4))), (b48, .inl (G.2 1, 3208, .inr (.inl b61)))] H := hP
  have hD := z_tie hP hD rfl
  refine W.widen (k := 0) (n := 0) (Nat.le_of_ble_eq_true rfl) (Nat.le_of_ble_eq_true rfl) ?_
  refine lv_iconst (v := 0) hx hb d_Model_stepTwo_27 (by decide) ?_
  refine lv_istore (lv' := [(4, .int 0), (3, .int 0), (0, .ref b0), (1, .int b1), (2, .int b2)]) hx hb d_Model_stepTwo_28 hl (by decide) rfl (fun ls hl => ?_)
  suffices key : ∀ (k_42 : Nat) (y_43 : Int32) (y_44 : Nat → Int64) (H : Heap) (locs : List Loc) (ls : Array Slot), (zI y_43 0 4) → (4 : Int) - y_43.toInt < (k_42 : Int) → va_P G.1 classes [(b52, .inl (G.2 1, 8, .inr (.inl y_44))), (b0, .inr (12, [.int b3, .ref b4, .ref b5, .ref b6, .ref b7, .int b8, .ref b9, .int b10, .int b11, .int b12, .int b13, .ref b14, .ref b15, .ref b16, .int b17, .ref b18, .ref b19, .ref b20, .ref b21, .ref b22, .ref b23, .ref b24, .ref b25, .ref b26, .ref b27, .ref b28, .ref b29, .int b30, .ref b31, .ref b32, .int b33, .int b34, .int b35, .int b36, .ref b37, .ref b38, .ref b39, .ref b40, .ref b41, .ref b42, .ref b43, .int b44, .ref b45, .ref b46, .int b47, .ref b48, .ref b49, .ref b50, .ref b51, .ref b52, .int b53, .ref b54, .ref b55, .ref b56])), (b4, .inl (G.2 0, 503, .inl b57)), (b28, .inl (G.2 0, 2, .inl b58)), (b29, .inl (G.2 0, 2880, .inl b59)), (b32, .inl (G.2 1, 4, .inr (.inl f_4))), (b48, .inl (G.2 1, 3208, .inr (.inl b61)))] H → va_D A [(b52, .inl (G.2 1, 8, .inr (.inl y_44))), (b0, .inr (12, [.int b3, .ref b4, .ref b5, .ref b6, .ref b7, .int b8, .ref b9, .int b10, .int b11, .int b12, .int b13, .ref b14, .ref b15, .ref b16, .int b17, .ref b18, .ref b19, .ref b20, .ref b21, .ref b22, .ref b23, .ref b24, .ref b25, .ref b26, .ref b27, .ref b28, .ref b29, .int b30, .ref b31, .ref b32, .int b33, .int b34, .int b35, .int b36, .ref b37, .ref b38, .ref b39, .ref b40, .ref b41, .ref b42, .ref b43, .int b44, .ref b45, .ref b46, .int b47, .ref b48, .ref b49, .ref b50, .ref b51, .ref b52, .int b53, .ref b54, .ref b55, .ref b56])), (b4, .inl (G.2 0, 503, .inl b57)), (b28, .inl (G.2 0, 2, .inl b58)), (b29, .inl (G.2 0, 2880, .inl b59)), (b32, .inl (G.2 1, 4, .inr (.inl f_4))), (b48, .inl (G.2 1, 3208, .inr (.inl b61)))] → va_S A s.heap H locs → lv_has ls 5 [(4, .int y_43), (3, .int 0), (0, .ref b0), (1, .int b1), (2, .int b2)] → W p l e m_s2_Model_stepTwo s m ([.ref b0, .int b1, .int b2] : List Value).toArray below meth c H locs 0 0 (MQ below (zQ G (fun v w => ∃ (e0 : Nat → Int64), ∃ (e1 : Nat → Int64), v = none ∧ w = [(b0, .inr (12, [.int b3, .ref b4, .ref b5, .ref b6, .ref b7, .int b8, .ref b9, .int b10, .int b11, .int b12, .int b13, .ref b14, .ref b15, .ref b16, .int b17, .ref b18, .ref b19, .ref b20, .ref b21, .ref b22, .ref b23, .ref b24, .ref b25, .ref b26, .ref b27, .ref b28, .ref b29, .int b30, .ref b31, .ref b32, .int b33, .int b34, .int b35, .int b36, .ref b37, .ref b38, .ref b39, .ref b40, .ref b41, .ref b42, .ref b43, .int b44, .ref b45, .ref b46, .int b47, .ref b48, .ref b49, .ref b50, .ref b51, .ref b52, .int b53, .ref b54, .ref b55, .ref b56])), (b4, .inl (G.2 0, 503, .inl b57)), (b28, .inl (G.2 0, 2, .inl b58)), (b29, .inl (G.2 0, 2880, .inl b59)), (b32, .inl (G.2 1, 4, .inr (.inl e0))), (b48, .inl (G.2 1, 3208, .inr (.inl b61))), (b52, .inl (G.2 1, 8, .inr (.inl e1)))]) A) ([.ref b0, .int b1, .int b2] : List Value).toArray s m_s2_Model_stepTwo.cells m_s2_Model_stepTwo.slots A) (F0 m 30 ls []) by
    exact key 5 (0) (b62) _ _ _ (zI.wk (l' := 0) (h' := 4) zc_0 (by decide)) (zm_upi (zI.wk (l' := 0) (h' := 4) zc_0 (by decide)) (by decide)) hP hD hS (lv_sub hl [0, 1, 2, 3, 4] rfl)
  intro k_42
  induction k_42 with
  | zero =>
    intro y_43 y_44 H locs ls hy_43 hmk_42 hP hD hS hl
    exact (zm_up0 hy_43 hmk_42).elim
  | succ k_42 ihk_42 =>
    intro y_43 y_44 H locs ls hy_43 hmk_42 hP hD hS hl
    refine lv_iload hx hb d_Model_stepTwo_30 (lv_at hl 0 rfl) ?_
    refine lv_iconst (v := 4) hx hb d_Model_stepTwo_32 (by decide) ?_
    refine lv_icmp_ge (tgt := 60) hx hb d_Model_stepTwo_33 (by decide) (fun hc_45 => ?_) (fun hc_45 => ?_)
    · have _nhc_45 := hc_45
      have ni_46 := (fa_le _ _).mp hc_45
      rw [li_4] at ni_46
      have hv_47 : zI y_43 4 4 := zI.le_r zc_4 hy_43 hc_45 (by decide)
      refine lv_iinc (v := 1) (lv' := [(3, .int 1), (4, .int y_43), (0, .ref b0), (1, .int b1), (2, .int b2)]) hx hb d_Model_stepTwo_60 hl (k := 1) rfl (by decide +kernel) (by decide) rfl (fun ls hl => ?_)
      refine lv_goto (tgt := 2) hx hb d_Model_stepTwo_63 (by decide) ?_
      refine lv_iload_n hx hb d_Model_stepTwo_2 rfl (lv_at hl 0 rfl) ?_
      refine lv_iconst (v := 2) hx hb d_Model_stepTwo_3 (by decide) ?_
      refine lv_icmp_ge (tgt := 66) hx hb d_Model_stepTwo_4 (by decide) (fun hc => absurd hc (by decide +kernel)) (fun _ => ?_)
      refine lv_aload_n hx hb d_Model_stepTwo_7 rfl (lv_at hl 2 rfl) ?_
      refine lv_iload_n hx hb d_Model_stepTwo_8 rfl (lv_at hl 0 rfl) ?_
      refine lv_aload_n hx hb d_Model_stepTwo_9 rfl (lv_at hl 2 rfl) ?_
      refine va_get (D := G.1) (ci := 12) (v := .ref b48) (C := R_Model) (T := F_Model) (N := 54) hx hb hts i_Model hown hK hP 1 rfl rfl 45 (by decide) (hts _ q1154) (fun _ h9 => h9) rfl d_Model_stepTwo_10 ?_
      refine lv_bipush (v := 8) hx hb d_Model_stepTwo_13 (by decide) ?_
      refine lv_iload_n hx hb d_Model_stepTwo_15 rfl (lv_at hl 3 rfl) ?_
      refine lv_imul hx hb d_Model_stepTwo_16 ?_
      refine lv_topi (fun v_48 ev_48 => ?_)
      obtain rfl : v_1 = v_48 := ev_1.trans ev_48.symm
      refine lv_iconst (v := 4) hx hb d_Model_stepTwo_17 (by decide) ?_
      refine lv_iload_n hx hb d_Model_stepTwo_18 rfl (lv_at hl 0 rfl) ?_
      refine lv_imul hx hb d_Model_stepTwo_19 ?_
      refine z_topi (y := 4) (by decide +kernel) ?_
      refine lv_iadd hx hb d_Model_stepTwo_20 ?_
      refine lv_topi (fun v_49 ev_49 => ?_)
      obtain ⟨qv_49, hv_49⟩ := zI_add (l := 4) (h := 3196) hv_1 zc_4 ev_49 (by decide)
      rw [li_4] at qv_49
      refine lv_iload_n hx hb d_Model_stepTwo_21 rfl (lv_at hl 4 rfl) ?_
      refine lv_iconst (v := 0) hx hb d_Model_stepTwo_22 (by decide) ?_
      refine lv_iconst (v := 0) hx hb d_Model_stepTwo_23 (by decide) ?_
      refine z_callV (index := 282) (As := [.int 1, .ref b48, .int v_49, .int b2, .int 0, .int 0]) (rest := []) (wr := [(b52, .inl (G.2 1, 8, .inr (.inl y_44)))]) Z (s13_Model_step l G (b0) (b48) (v_49) (b2) (0) (0) (b3) (b4) (b5) (b6) (b7) (b8) (b9) (b10) (b11) (b12) (b13) (b14) (b15) (b16) (b17) (b18) (b19) (b20) (b21) (b22) (b23) (b24) (b25) (b26) (b27) (b28) (b29) (b30) (b31) (b32) (b33) (b34) (b35) (b36) (b37) (b38) (b39) (b40) (b41) (b42) (b43) (b44) (b45) (b46) (b47) (b49) (b50) (b51) (b52) (b53) (b54) (b55) (b56) (b57) (b58) (b59) (f_4) (b61) (zI.wk (l' := 0) (h' := 3204) hv_49 (by decide)) hb2 zc_0 (zI.wk (l' := 0) (h' := 1) zc_0 (by decide)) hb8 hb10 hb11 hb13 hb17 hb30 hb33 hb44 hb47 hb53 hb57 hb58 hb59) hl.1 q1460 q1462 qs76 q14 q1463 ⟨by decide, by decide, by show _ = some 6; decide +kernel⟩ ⟨Nat.le_of_ble_eq_true rfl, Nat.le_of_ble_eq_true rfl⟩ ⟨Nat.le_of_ble_eq_true rfl, Nat.le_of_ble_eq_true rfl⟩ rfl (Nat.le_of_ble_eq_true rfl) d_Model_stepTwo_24 hP hD hS hA 1 12 rfl rfl rfl [1, 2, 3, 4, 5, 6] [0] rfl rfl rfl rfl (by decide) (fun v w1 H locs hw_50 hP hD hS => ?_)
      obtain ⟨f_51, rfl, rfl⟩ := hw_50
      have hP : va_P G.1 classes [(b52, .inl (G.2 1, 8, .inr (.inl y_44))), (b0, .inr (12, [.int b3, .ref b4, .ref b5, .ref b6, .ref b7, .int b8, .ref b9, .int b10, .int b11, .int b12, .int b13, .ref b14, .ref b15, .ref b16, .int b17, .ref b18, .ref b19, .ref b20, .ref b21, .ref b22, .ref b23, .ref b24, .ref b25, .ref b26, .ref b27, .ref b28, .ref b29, .int b30, .ref b31, .ref b32, .int b33, .int b34, .int b35, .int b36, .ref b37, .ref b38, .ref b39, .ref b40, .ref b41, .ref b42, .ref b43, .int b44, .ref b45, .ref b46, .int b47, .ref b48, .ref b49, .ref b50, .ref b51, .ref b52, .int b53, .ref b54, .ref b55, .ref b56])), (b4, .inl (G.2 0, 503, .inl b57)), (b28, .inl (G.2 0, 2, .inl b58)), (b29, .inl (G.2 0, 2880, .inl b59)), (b32, .inl (G.2 1, 4, .inr (.inl f_51))), (b48, .inl (G.2 1, 3208, .inr (.inl b61)))] H := hP
      have hD := z_tie hP hD rfl
      refine W.widen (k := 0) (n := 0) (Nat.le_of_ble_eq_true rfl) (Nat.le_of_ble_eq_true rfl) ?_
      refine lv_iconst (v := 0) hx hb d_Model_stepTwo_27 (by decide) ?_
      refine lv_istore (lv' := [(4, .int 0), (3, .int 1), (0, .ref b0), (1, .int b1), (2, .int b2)]) hx hb d_Model_stepTwo_28 hl (by decide) rfl (fun ls hl => ?_)
      suffices key : ∀ (k_63 : Nat) (y_64 : Int32) (y_65 : Nat → Int64) (H : Heap) (locs : List Loc) (ls : Array Slot), (zI y_64 0 4) → (4 : Int) - y_64.toInt < (k_63 : Int) → va_P G.1 classes [(b52, .inl (G.2 1, 8, .inr (.inl y_65))), (b0, .inr (12, [.int b3, .ref b4, .ref b5, .ref b6, .ref b7, .int b8, .ref b9, .int b10, .int b11, .int b12, .int b13, .ref b14, .ref b15, .ref b16, .int b17, .ref b18, .ref b19, .ref b20, .ref b21, .ref b22, .ref b23, .ref b24, .ref b25, .ref b26, .ref b27, .ref b28, .ref b29, .int b30, .ref b31, .ref b32, .int b33, .int b34, .int b35, .int b36, .ref b37, .ref b38, .ref b39, .ref b40, .ref b41, .ref b42, .ref b43, .int b44, .ref b45, .ref b46, .int b47, .ref b48, .ref b49, .ref b50, .ref b51, .ref b52, .int b53, .ref b54, .ref b55, .ref b56])), (b4, .inl (G.2 0, 503, .inl b57)), (b28, .inl (G.2 0, 2, .inl b58)), (b29, .inl (G.2 0, 2880, .inl b59)), (b32, .inl (G.2 1, 4, .inr (.inl f_51))), (b48, .inl (G.2 1, 3208, .inr (.inl b61)))] H → va_D A [(b52, .inl (G.2 1, 8, .inr (.inl y_65))), (b0, .inr (12, [.int b3, .ref b4, .ref b5, .ref b6, .ref b7, .int b8, .ref b9, .int b10, .int b11, .int b12, .int b13, .ref b14, .ref b15, .ref b16, .int b17, .ref b18, .ref b19, .ref b20, .ref b21, .ref b22, .ref b23, .ref b24, .ref b25, .ref b26, .ref b27, .ref b28, .ref b29, .int b30, .ref b31, .ref b32, .int b33, .int b34, .int b35, .int b36, .ref b37, .ref b38, .ref b39, .ref b40, .ref b41, .ref b42, .ref b43, .int b44, .ref b45, .ref b46, .int b47, .ref b48, .ref b49, .ref b50, .ref b51, .ref b52, .int b53, .ref b54, .ref b55, .ref b56])), (b4, .inl (G.2 0, 503, .inl b57)), (b28, .inl (G.2 0, 2, .inl b58)), (b29, .inl (G.2 0, 2880, .inl b59)), (b32, .inl (G.2 1, 4, .inr (.inl f_51))), (b48, .inl (G.2 1, 3208, .inr (.inl b61)))] → va_S A s.heap H locs → lv_has ls 5 [(4, .int y_64), (3, .int 1), (0, .ref b0), (1, .int b1), (2, .int b2)] → W p l e m_s2_Model_stepTwo s m ([.ref b0, .int b1, .int b2] : List Value).toArray below meth c H locs 0 0 (MQ below (zQ G (fun v w => ∃ (e0 : Nat → Int64), ∃ (e1 : Nat → Int64), v = none ∧ w = [(b0, .inr (12, [.int b3, .ref b4, .ref b5, .ref b6, .ref b7, .int b8, .ref b9, .int b10, .int b11, .int b12, .int b13, .ref b14, .ref b15, .ref b16, .int b17, .ref b18, .ref b19, .ref b20, .ref b21, .ref b22, .ref b23, .ref b24, .ref b25, .ref b26, .ref b27, .ref b28, .ref b29, .int b30, .ref b31, .ref b32, .int b33, .int b34, .int b35, .int b36, .ref b37, .ref b38, .ref b39, .ref b40, .ref b41, .ref b42, .ref b43, .int b44, .ref b45, .ref b46, .int b47, .ref b48, .ref b49, .ref b50, .ref b51, .ref b52, .int b53, .ref b54, .ref b55, .ref b56])), (b4, .inl (G.2 0, 503, .inl b57)), (b28, .inl (G.2 0, 2, .inl b58)), (b29, .inl (G.2 0, 2880, .inl b59)), (b32, .inl (G.2 1, 4, .inr (.inl e0))), (b48, .inl (G.2 1, 3208, .inr (.inl b61))), (b52, .inl (G.2 1, 8, .inr (.inl e1)))]) A) ([.ref b0, .int b1, .int b2] : List Value).toArray s m_s2_Model_stepTwo.cells m_s2_Model_stepTwo.slots A) (F0 m 30 ls []) by
        exact key 5 (0) (y_44) _ _ _ (zI.wk (l' := 0) (h' := 4) zc_0 (by decide)) (zm_upi (zI.wk (l' := 0) (h' := 4) zc_0 (by decide)) (by decide)) hP hD hS (lv_sub hl [0, 1, 2, 3, 4] rfl)
      intro k_63
      induction k_63 with
      | zero =>
        intro y_64 y_65 H locs ls hy_64 hmk_63 hP hD hS hl
        exact (zm_up0 hy_64 hmk_63).elim
      | succ k_63 ihk_63 =>
        intro y_64 y_65 H locs ls hy_64 hmk_63 hP hD hS hl
        refine lv_iload hx hb d_Model_stepTwo_30 (lv_at hl 0 rfl) ?_
        refine lv_iconst (v := 4) hx hb d_Model_stepTwo_32 (by decide) ?_
        refine lv_icmp_ge (tgt := 60) hx hb d_Model_stepTwo_33 (by decide) (fun hc_66 => ?_) (fun hc_66 => ?_)
        · have _nhc_66 := hc_66
          have ni_67 := (fa_le _ _).mp hc_66
          rw [li_4] at ni_67
          have hv_68 : zI y_64 4 4 := zI.le_r zc_4 hy_64 hc_66 (by decide)
          refine lv_iinc (v := 2) (lv' := [(3, .int 2), (4, .int y_64), (0, .ref b0), (1, .int b1), (2, .int b2)]) hx hb d_Model_stepTwo_60 hl (k := 1) rfl (by decide +kernel) (by decide) rfl (fun ls hl => ?_)
          refine lv_goto (tgt := 2) hx hb d_Model_stepTwo_63 (by decide) ?_
          refine lv_iload_n hx hb d_Model_stepTwo_2 rfl (lv_at hl 0 rfl) ?_
          refine lv_iconst (v := 2) hx hb d_Model_stepTwo_3 (by decide) ?_
          refine lv_icmp_ge (tgt := 66) hx hb d_Model_stepTwo_4 (by decide) (fun _ => ?_) (fun hc => absurd hc (by decide +kernel))
          exact z_vret hx hb hr hlocks (hP.sub [1, 2, 3, 4, 5, 6, 0] rfl) (hD.sub [1, 2, 3, 4, 5, 6, 0] (by decide) rfl) hS (Nat.le_of_ble_eq_true rfl) (Nat.le_of_ble_eq_true rfl) d_Model_stepTwo_66 ⟨f_51, y_65, rfl, rfl⟩
        · have _nhc_66 := hc_66
          have ni_69 := (fa_lt _ _).mp (zi_nle hc_66)
          rw [li_4] at ni_69
          have hv_70 : zI y_64 0 3 := zI.lt_l hy_64 zc_4 (zi_nle hc_66) (by decide)
          refine lv_aload_n hx hb d_Model_stepTwo_36 rfl (lv_at hl 2 rfl) ?_
          refine va_get (D := G.1) (ci := 12) (v := .ref b52) (C := R_Model) (T := F_Model) (N := 54) hx hb hts i_Model hown hK hP 1 rfl rfl 49 (by decide) (hts _ q1158) (fun _ h9 => h9) rfl d_Model_stepTwo_37 ?_
          refine lv_iconst (v := 4) hx hb d_Model_stepTwo_40 (by decide) ?_
          refine lv_iload_n hx hb d_Model_stepTwo_41 rfl (lv_at hl 1 rfl) ?_
          refine lv_imul hx hb d_Model_stepTwo_42 ?_
          refine z_topi (y := 4) (by decide +kernel) ?_
          refine lv_iload hx hb d_Model_stepTwo_43 (lv_at hl 0 rfl) ?_
          refine lv_iadd hx hb d_Model_stepTwo_45 ?_
          refine lv_topi (fun v_71 ev_71 => ?_)
          obtain ⟨qv_71, hv_71⟩ := zI_add (l := 4) (h := 7) zc_4 hv_70 ev_71 (by decide)
          rw [li_4] at qv_71
          refine lv_aload_n hx hb d_Model_stepTwo_46 rfl (lv_at hl 2 rfl) ?_
          refine va_get (D := G.1) (ci := 12) (v := .ref b32) (C := R_Model) (T := F_Model) (N := 54) hx hb hts i_Model hown hK hP 1 rfl rfl 29 (by decide) (hts _ q1138) (fun _ h9 => h9) rfl d_Model_stepTwo_47 ?_
          refine lv_iload hx hb d_Model_stepTwo_50 (lv_at hl 0 rfl) ?_
          refine va_lald hx hb hK hP 5 1 rfl rfl (zI.inn hv_70 (by decide)) d_Model_stepTwo_52 ?_
          refine lv_topl (fun v_72 ev_72 => ?_)
          refine va_last hx hb hK hP hD hS 0 1 rfl rfl (zI.inn hv_71 (by decide)) d_Model_stepTwo_53 (fun H locs hP hD hS => ?_)
          obtain ⟨f_73, hP, hD⟩ := z_newL 0 hP hD rfl
          have hP : va_P G.1 classes [(b52, .inl (G.2 1, 8, .inr (.inl f_73))), (b0, .inr (12, [.int b3, .ref b4, .ref b5, .ref b6, .ref b7, .int b8, .ref b9, .int b10, .int b11, .int b12, .int b13, .ref b14, .ref b15, .ref b16, .int b17, .ref b18, .ref b19, .ref b20, .ref b21, .ref b22, .ref b23, .ref b24, .ref b25, .ref b26, .ref b27, .ref b28, .ref b29, .int b30, .ref b31, .ref b32, .int b33, .int b34, .int b35, .int b36, .ref b37, .ref b38, .ref b39, .ref b40, .ref b41, .ref b42, .ref b43, .int b44, .ref b45, .ref b46, .int b47, .ref b48, .ref b49, .ref b50, .ref b51, .ref b52, .int b53, .ref b54, .ref b55, .ref b56])), (b4, .inl (G.2 0, 503, .inl b57)), (b28, .inl (G.2 0, 2, .inl b58)), (b29, .inl (G.2 0, 2880, .inl b59)), (b32, .inl (G.2 1, 4, .inr (.inl f_51))), (b48, .inl (G.2 1, 3208, .inr (.inl b61)))] H := hP
          have hD := z_tie hP hD rfl
          obtain ⟨v_74, ev_74⟩ : ∃ z : Int32, z = y_64 + 1 := ⟨_, rfl⟩
          obtain ⟨qv_74, hv_74⟩ := zI_add (l := 1) (h := 4) hv_70 zc_1 ev_74 (by decide)
          rw [li_1] at qv_74
          refine lv_iinc (v := v_74) (lv' := [(4, .int v_74), (3, .int 1), (0, .ref b0), (1, .int b1), (2, .int b2)]) hx hb d_Model_stepTwo_54 hl (k := 0) rfl (by rw [ev_74]; rfl) (by decide) rfl (fun ls hl => ?_)
          refine lv_goto (tgt := 30) hx hb d_Model_stepTwo_57 (by decide) ?_
          exact ihk_63 (v_74) (f_73) _ _ _ (zI.wk (l' := 0) (h' := 4) hv_74 (by decide)) (zm_up qv_74 hmk_63 (by decide)) hP hD hS (lv_sub hl [0, 1, 2, 3, 4] rfl)
    · have _nhc_45 := hc_45
      have ni_75 := (fa_lt _ _).mp (zi_nle hc_45)
      rw [li_4] at ni_75
      have hv_76 : zI y_43 0 3 := zI.lt_l hy_43 zc_4 (zi_nle hc_45) (by decide)
      refine lv_aload_n hx hb d_Model_stepTwo_36 rfl (lv_at hl 2 rfl) ?_
      refine va_get (D := G.1) (ci := 12) (v := .ref b52) (C := R_Model) (T := F_Model) (N := 54) hx hb hts i_Model hown hK hP 1 rfl rfl 49 (by decide) (hts _ q1158) (fun _ h9 => h9) rfl d_Model_stepTwo_37 ?_
      refine lv_iconst (v := 4) hx hb d_Model_stepTwo_40 (by decide) ?_
      refine lv_iload_n hx hb d_Model_stepTwo_41 rfl (lv_at hl 1 rfl) ?_
      refine lv_imul hx hb d_Model_stepTwo_42 ?_
      refine z_topi (y := 0) (by decide +kernel) ?_
      refine lv_iload hx hb d_Model_stepTwo_43 (lv_at hl 0 rfl) ?_
      refine lv_iadd hx hb d_Model_stepTwo_45 ?_
      refine lv_topi (fun v_77 ev_77 => ?_)
      obtain ⟨qv_77, hv_77⟩ := zI_add (l := 0) (h := 3) zc_0 hv_76 ev_77 (by decide)
      rw [li_0] at qv_77
      refine lv_aload_n hx hb d_Model_stepTwo_46 rfl (lv_at hl 2 rfl) ?_
      refine va_get (D := G.1) (ci := 12) (v := .ref b32) (C := R_Model) (T := F_Model) (N := 54) hx hb hts i_Model hown hK hP 1 rfl rfl 29 (by decide) (hts _ q1138) (fun _ h9 => h9) rfl d_Model_stepTwo_47 ?_
      refine lv_iload hx hb d_Model_stepTwo_50 (lv_at hl 0 rfl) ?_
      refine va_lald hx hb hK hP 5 1 rfl rfl (zI.inn hv_76 (by decide)) d_Model_stepTwo_52 ?_
      refine lv_topl (fun v_78 ev_78 => ?_)
      refine va_last hx hb hK hP hD hS 0 1 rfl rfl (zI.inn hv_77 (by decide)) d_Model_stepTwo_53 (fun H locs hP hD hS => ?_)
      obtain ⟨f_79, hP, hD⟩ := z_newL 0 hP hD rfl
      have hP : va_P G.1 classes [(b52, .inl (G.2 1, 8, .inr (.inl f_79))), (b0, .inr (12, [.int b3, .ref b4, .ref b5, .ref b6, .ref b7, .int b8, .ref b9, .int b10, .int b11, .int b12, .int b13, .ref b14, .ref b15, .ref b16, .int b17, .ref b18, .ref b19, .ref b20, .ref b21, .ref b22, .ref b23, .ref b24, .ref b25, .ref b26, .ref b27, .ref b28, .ref b29, .int b30, .ref b31, .ref b32, .int b33, .int b34, .int b35, .int b36, .ref b37, .ref b38, .ref b39, .ref b40, .ref b41, .ref b42, .ref b43, .int b44, .ref b45, .ref b46, .int b47, .ref b48, .ref b49, .ref b50, .ref b51, .ref b52, .int b53, .ref b54, .ref b55, .ref b56])), (b4, .inl (G.2 0, 503, .inl b57)), (b28, .inl (G.2 0, 2, .inl b58)), (b29, .inl (G.2 0, 2880, .inl b59)), (b32, .inl (G.2 1, 4, .inr (.inl f_4))), (b48, .inl (G.2 1, 3208, .inr (.inl b61)))] H := hP
      have hD := z_tie hP hD rfl
      obtain ⟨v_80, ev_80⟩ : ∃ z : Int32, z = y_43 + 1 := ⟨_, rfl⟩
      obtain ⟨qv_80, hv_80⟩ := zI_add (l := 1) (h := 4) hv_76 zc_1 ev_80 (by decide)
      rw [li_1] at qv_80
      refine lv_iinc (v := v_80) (lv' := [(4, .int v_80), (3, .int 0), (0, .ref b0), (1, .int b1), (2, .int b2)]) hx hb d_Model_stepTwo_54 hl (k := 0) rfl (by rw [ev_80]; rfl) (by decide) rfl (fun ls hl => ?_)
      refine lv_goto (tgt := 30) hx hb d_Model_stepTwo_57 (by decide) ?_
      exact ihk_42 (v_80) (f_79) _ _ _ (zI.wk (l' := 0) (h' := 4) hv_80 (by decide)) (zm_up qv_80 hmk_42 (by decide)) hP hD hS (lv_sub hl [0, 1, 2, 3, 4] rfl)
theorem d_Model_isKnown_69 : decode prog_14_method_64_code 69 = .ok (.ireturn, 1) := by decide +kernel
abbrev m_s4_Model_areSame : Room := { frames := 0, cells := 0, slots := 0, locals := 0 }
set_option maxHeartbeats 4000000 in
set_option maxRecDepth 100000 in
theorem s4_Model_areSame (l : Launch) (G : zG) (b0 : Nat) (b1 : Int32) (b2 : Nat) (b3 : Int32) (b4 : Nat → Int64) (b5 : Nat → Int64) (hb1 : zI b1 0 3204) (hb3 : zI b3 0 4) : zM l G y_Model_areSame prog_14_method_60_code 4 (Option.some Jvm.ClassFile.FieldType.boolean) m_s4_Model_areSame [.ref b0, .int b1, .ref b2, .int b3] [(b0, .inl (G.2 1, 3208, .inr (.inl b4))), (b2, .inl (G.2 1, 8, .inr (.inl b5)))] (fun v w => ∃ (e0 : Int32), v = some (.int e0) ∧ w = [(b0, .inl (G.2 1, 3208, .inr (.inl b4))), (b2, .inl (G.2 1, 8, .inr (.inl b5)))] ∧ (zI e0 0 1)) := by
  refine z_start (by decide +kernel) (Nat.le_of_ble_eq_true rfl) ?_
  intro p e s m below meth c A Z hr hnm hA hP hD hS ls hl
  have Z : zC p s m _ meth c prog_14_method_60_code 4 "TraceMachinesModel" G := Z
  obtain ⟨hx, hb, hml, hown, hts, hK, hN, hlocks⟩ := id Z
  have hl : lv_has ls 4 [(0, .ref b0), (1, .int b1), (2, .ref b2), (3, .int b3)] := hl
  refine lv_aload_n hx hb d_Model_areSame_0 rfl (lv_at hl 0 rfl) ?_
  refine lv_iload_n hx hb d_Model_areSame_1 rfl (lv_at hl 1 rfl) ?_
  refine va_lald hx hb hK hP 0 1 rfl rfl (zI.inn hb1 (by decide)) d_Model_areSame_2 ?_
  refine lv_topl (fun v_1 ev_1 => ?_)
  refine lv_aload_n hx hb d_Model_areSame_3 rfl (lv_at hl 2 rfl) ?_
  refine lv_iload_n hx hb d_Model_areSame_4 rfl (lv_at hl 3 rfl) ?_
  refine va_lald hx hb hK hP 1 1 rfl rfl (zI.inn hb3 (by decide)) d_Model_areSame_5 ?_
  refine lv_topl (fun v_2 ev_2 => ?_)
  refine W.lcmp hx hb d_Model_areSame_6 ?_
  refine lv_topi (fun v_3 ev_3 => ?_)
  refine lv_if_ne (tgt := 56) hx hb d_Model_areSame_7 (by decide) (fun hc_4 => ?_) (fun hc_4 => ?_)
  · have ni_5 := hc_4
    rw [ev_3] at ni_5
    simp only [lg_cmp_lt, lg_cmp_le, lg_cmp_gt, lg_cmp_ge, lg_cmp_eq, fa_lt64, fa_le64, fa_eq64, Int32.toInt_toInt64] at ni_5
    refine lv_iconst (v := 0) hx hb d_Model_areSame_56 (by decide) ?_
    exact z_zret hx hb hr hlocks rfl hP hD hS (Nat.le_of_ble_eq_true rfl) (Nat.le_of_ble_eq_true rfl) d_Model_areSame_57 ⟨0, rfl, rfl, (zI.wk (l' := 0) (h' := 1) zc_0 (by decide))⟩
  · have ni_6 := hc_4
    rw [ev_3] at ni_6
    simp only [lg_cmp_lt, lg_cmp_le, lg_cmp_gt, lg_cmp_ge, lg_cmp_eq, fa_lt64, fa_le64, fa_eq64, Int32.toInt_toInt64] at ni_6
    refine lv_aload_n hx hb d_Model_areSame_10 rfl (lv_at hl 0 rfl) ?_
    refine lv_iload_n hx hb d_Model_areSame_11 rfl (lv_at hl 1 rfl) ?_
    refine lv_iconst (v := 1) hx hb d_Model_areSame_12 (by decide) ?_
    refine lv_iadd hx hb d_Model_areSame_13 ?_
    refine lv_topi (fun v_7 ev_7 => ?_)
    obtain ⟨qv_7, hv_7⟩ := zI_add (l := 1) (h := 3205) hb1 zc_1 ev_7 (by decide)
    rw [li_1] at qv_7
    refine va_lald hx hb hK hP 0 1 rfl rfl (zI.inn hv_7 (by decide)) d_Model_areSame_14 ?_
    refine lv_topl (fun v_8 ev_8 => ?_)
    refine lv_aload_n hx hb d_Model_areSame_15 rfl (lv_at hl 2 rfl) ?_
    refine lv_iload_n hx hb d_Model_areSame_16 rfl (lv_at hl 3 rfl) ?_
    refine lv_iconst (v := 1) hx hb d_Model_areSame_17 (by decide) ?_
    refine lv_iadd hx hb d_Model_areSame_18 ?_
    refine lv_topi (fun v_9 ev_9 => ?_)
    obtain ⟨qv_9, hv_9⟩ := zI_add (l := 1) (h := 5) hb3 zc_1 ev_9 (by decide)
    rw [li_1] at qv_9
    refine va_lald hx hb hK hP 1 1 rfl rfl (zI.inn hv_9 (by decide)) d_Model_areSame_19 ?_
    refine lv_topl (fun v_10 ev_10 => ?_)
    refine W.lcmp hx hb d_Model_areSame_20 ?_
    refine lv_topi (fun v_11 ev_11 => ?_)
    refine lv_if_ne (tgt := 56) hx hb d_Model_areSame_21 (by decide) (fun hc_12 => ?_) (fun hc_12 => ?_)
    · have ni_13 := hc_12
      rw [ev_11] at ni_13
      simp only [lg_cmp_lt, lg_cmp_le, lg_cmp_gt, lg_cmp_ge, lg_cmp_eq, fa_lt64, fa_le64, fa_eq64, Int32.toInt_toInt64] at ni_13
      refine lv_iconst (v := 0) hx hb d_Model_areSame_56 (by decide) ?_
      exact z_zret hx hb hr hlocks rfl hP hD hS (Nat.le_of_ble_eq_true rfl) (Nat.le_of_ble_eq_true rfl) d_Model_areSame_57 ⟨0, rfl, rfl, (zI.wk (l' := 0) (h' := 1) zc_0 (by decide))⟩
    · have ni_14 := hc_12
      rw [ev_11] at ni_14
      simp only [lg_cmp_lt, lg_cmp_le, lg_cmp_gt, lg_cmp_ge, lg_cmp_eq, fa_lt64, fa_le64, fa_eq64, Int32.toInt_toInt64] at ni_14
      refine lv_aload_n hx hb d_Model_areSame_24 rfl (lv_at hl 0 rfl) ?_
      refine lv_iload_n hx hb d_Model_areSame_25 rfl (lv_at hl 1 rfl) ?_
      refine lv_iconst (v := 2) hx hb d_Model_areSame_26 (by decide) ?_
      refine lv_iadd hx hb d_Model_areSame_27 ?_
      refine lv_topi (fun v_15 ev_15 => ?_)
      obtain ⟨qv_15, hv_15⟩ := zI_add (l := 2) (h := 3206) hb1 zc_2 ev_15 (by decide)
      rw [li_2] at qv_15
      refine va_lald hx hb hK hP 0 1 rfl rfl (zI.inn hv_15 (by decide)) d_Model_areSame_28 ?_
      refine lv_topl (fun v_16 ev_16 => ?_)
      refine lv_aload_n hx hb d_Model_areSame_29 rfl (lv_at hl 2 rfl) ?_
      refine lv_iload_n hx hb d_Model_areSame_30 rfl (lv_at hl 3 rfl) ?_
      refine lv_iconst (v := 2) hx hb d_Model_areSame_31 (by decide) ?_
      refine lv_iadd hx hb d_Model_areSame_32 ?_
      refine lv_topi (fun v_17 ev_17 => ?_)
      obtain ⟨qv_17, hv_17⟩ := zI_add (l := 2) (h := 6) hb3 zc_2 ev_17 (by decide)
      rw [li_2] at qv_17
      refine va_lald hx hb hK hP 1 1 rfl rfl (zI.inn hv_17 (by decide)) d_Model_areSame_33 ?_
      refine lv_topl (fun v_18 ev_18 => ?_)
      refine W.lcmp hx hb d_Model_areSame_34 ?_
      refine lv_topi (fun v_19 ev_19 => ?_)
      refine lv_if_ne (tgt := 56) hx hb d_Model_areSame_35 (by decide) (fun hc_20 => ?_) (fun hc_20 => ?_)
      · have ni_21 := hc_20
        rw [ev_19] at ni_21
        simp only [lg_cmp_lt, lg_cmp_le, lg_cmp_gt, lg_cmp_ge, lg_cmp_eq, fa_lt64, fa_le64, fa_eq64, Int32.toInt_toInt64] at ni_21
        refine lv_iconst (v := 0) hx hb d_Model_areSame_56 (by decide) ?_
        exact z_zret hx hb hr hlocks rfl hP hD hS (Nat.le_of_ble_eq_true rfl) (Nat.le_of_ble_eq_true rfl) d_Model_areSame_57 ⟨0, rfl, rfl, (zI.wk (l' := 0) (h' := 1) zc_0 (by decide))⟩
      · have ni_22 := hc_20
        rw [ev_19] at ni_22
        simp only [lg_cmp_lt, lg_cmp_le, lg_cmp_gt, lg_cmp_ge, lg_cmp_eq, fa_lt64, fa_le64, fa_eq64, Int32.toInt_toInt64] at ni_22
        refine lv_aload_n hx hb d_Model_areSame_38 rfl (lv_at hl 0 rfl) ?_
        refine lv_iload_n hx hb d_Model_areSame_39 rfl (lv_at hl 1 rfl) ?_
        refine lv_iconst (v := 3) hx hb d_Model_areSame_40 (by decide) ?_
        refine lv_iadd hx hb d_Model_areSame_41 ?_
        refine lv_topi (fun v_23 ev_23 => ?_)
        obtain ⟨qv_23, hv_23⟩ := zI_add (l := 3) (h := 3207) hb1 zc_3 ev_23 (by decide)
        rw [li_3] at qv_23
        refine va_lald hx hb hK hP 0 1 rfl rfl (zI.inn hv_23 (by decide)) d_Model_areSame_42 ?_
        refine lv_topl (fun v_24 ev_24 => ?_)
        refine lv_aload_n hx hb d_Model_areSame_43 rfl (lv_at hl 2 rfl) ?_
        refine lv_iload_n hx hb d_Model_areSame_44 rfl (lv_at hl 3 rfl) ?_
        refine lv_iconst (v := 3) hx hb d_Model_areSame_45 (by decide) ?_
        refine lv_iadd hx hb d_Model_areSame_46 ?_
        refine lv_topi (fun v_25 ev_25 => ?_)
        obtain ⟨qv_25, hv_25⟩ := zI_add (l := 3) (h := 7) hb3 zc_3 ev_25 (by decide)
        rw [li_3] at qv_25
        refine va_lald hx hb hK hP 1 1 rfl rfl (zI.inn hv_25 (by decide)) d_Model_areSame_47 ?_
        refine lv_topl (fun v_26 ev_26 => ?_)
        refine W.lcmp hx hb d_Model_areSame_48 ?_
        refine lv_topi (fun v_27 ev_27 => ?_)
        refine lv_if_ne (tgt := 56) hx hb d_Model_areSame_49 (by decide) (fun hc_28 => ?_) (fun hc_28 => ?_)
        · have ni_29 := hc_28
          rw [ev_27] at ni_29
          simp only [lg_cmp_lt, lg_cmp_le, lg_cmp_gt, lg_cmp_ge, lg_cmp_eq, fa_lt64, fa_le64, fa_eq64, Int32.toInt_toInt64] at ni_29
          refine lv_iconst (v := 0) hx hb d_Model_areSame_56 (by decide) ?_
          exact z_zret hx hb hr hlocks rfl hP hD hS (Nat.le_of_ble_eq_true rfl) (Nat.le_of_ble_eq_true rfl) d_Model_areSame_57 ⟨0, rfl, rfl, (zI.wk (l' := 0) (h' := 1) zc_0 (by decide))⟩
        · have ni_30 := hc_28
          rw [ev_27] at ni_30
          simp only [lg_cmp_lt, lg_cmp_le, lg_cmp_gt, lg_cmp_ge, lg_cmp_eq, fa_lt64, fa_le64, fa_eq64, Int32.toInt_toInt64] at ni_30
          refine lv_iconst (v := 1) hx hb d_Model_areSame_52 (by decide) ?_
          refine lv_goto (tgt := 57) hx hb d_Model_areSame_53 (by decide) ?_
          exact z_zret hx hb hr hlocks rfl hP hD hS (Nat.le_of_ble_eq_true rfl) (Nat.le_of_ble_eq_true rfl) d_Model_areSame_57 ⟨1, rfl, rfl, (zI.wk (l' := 0) (h' := 1) zc_1 (by decide))⟩
abbrev m_s2_Model_isKnown : Room := { frames := 1, cells := 0, slots := 0, locals := 23 }
set_option maxHeartbeats 4000000 in
set_option maxRecDepth 100000 in
theorem s2_Model_isKnown (l : Launch) (G : zG) (b0 : Nat) (b1 : Int32) (b2 : Nat) (b3 : Nat) (b4 : Nat) (b5 : Nat) (b6 : Int32) (b7 : Nat) (b8 : Int32) (b9 : Int32) (b10 : Int32) (b11 : Int32) (b12 : Nat) (b13 : Nat) (b14 : Nat) (b15 : Int32) (b16 : Nat) (b17 : Nat) (b18 : Nat) (b19 : Nat) (b20 : Nat) (b21 : Nat) (b22 : Nat) (b23 : Nat) (b24 : Nat) (b25 : Nat) (b26 : Nat) (b27 : Nat) (b28 : Int32) (b29 : Nat) (b30 : Nat) (b31 : Int32) (b32 : Int32) (b33 : Int32) (b34 : Int32) (b35 : Nat) (b36 : Nat) (b37 : Nat) (b38 : Nat) (b39 : Nat) (b40 : Nat) (b41 : Nat) (b42 : Int32) (b43 : Nat) (b44 : Nat) (b45 : Int32) (b46 : Nat) (b47 : Nat) (b48 : Nat) (b49 : Nat) (b50 : Nat) (b51 : Int32) (b52 : Nat) (b53 : Nat) (b54 : Nat) (b55 : Nat → Int64) (b56 : Nat → Int64) (hb6 : zI b6 0 8) (hb8 : zI b8 0 240) (hb9 : zI b9 0 240) (hb11 : zI b11 0 1) (hb15 : zI b15 0 12) (hb28 : zI b28 0 1) (hb31 : zI b31 0 1) (hb42 : zI b42 0 1000) (hb45 : zI b45 0 1000) (hb51 : zI b51 0 400) : zM l G y_Model_isKnown prog_14_method_64_code 3 (Option.some Jvm.ClassFile.FieldType.boolean) m_s2_Model_isKnown [.ref b0] [(b0, .inr (12, [.int b1, .ref b2, .ref b3, .ref b4, .ref b5, .int b6, .ref b7, .int b8, .int b9, .int b10, .int b11, .ref b12, .ref b13, .ref b14, .int b15, .ref b16, .ref b17, .ref b18, .ref b19, .ref b20, .ref b21, .ref b22, .ref b23, .ref b24, .ref b25, .ref b26, .ref b27, .int b28, .ref b29, .ref b30, .int b31, .int b32, .int b33, .int b34, .ref b35, .ref b36, .ref b37, .ref b38, .ref b39, .ref b40, .ref b41, .int b42, .ref b43, .ref b44, .int b45, .ref b46, .ref b47, .ref b48, .ref b49, .ref b50, .int b51, .ref b52, .ref b53, .ref b54])), (b46, .inl (G.2 1, 3208, .inr (.inl b55))), (b50, .inl (G.2 1, 8, .inr (.inl b56)))] (fun v w => ∃ (e0 : Int32), v = some (.int e0) ∧ w = [(b0, .inr (12, [.int b1, .ref b2, .ref b3, .ref b4, .ref b5, .int b6, .ref b7, .int b8, .int b9, .int b10, .int b11, .ref b12, .ref b13, .ref b14, .int b15, .ref b16, .ref b17, .ref b18, .ref b19, .ref b20, .ref b21, .ref b22, .ref b23, .ref b24, .ref b25, .ref b26, .ref b27, .int b28, .ref b29, .ref b30, .int b31, .int b32, .int b33, .int b34, .ref b35, .ref b36, .ref b37, .ref b38, .ref b39, .ref b40, .ref b41, .int b42, .ref b43, .ref b44, .int b45, .ref b46, .ref b47, .ref b48, .ref b49, .ref b50, .int b51, .ref b52, .ref b53, .ref b54])), (b46, .inl (G.2 1, 3208, .inr (.inl b55))), (b50, .inl (G.2 1, 8, .inr (.inl b56)))] ∧ (zI e0 0 1)) := by
  refine z_start (by decide +kernel) (Nat.le_of_ble_eq_true rfl) ?_
  intro p e s m below meth c A Z hr hnm hA hP hD hS ls hl
  have Z : zC p s m _ meth c prog_14_method_64_code 3 "TraceMachinesModel" G := Z
  obtain ⟨hx, hb, hml, hown, hts, hK, hN, hlocks⟩ := id Z
  have hl : lv_has ls 3 [(0, .ref b0)] := hl
  refine lv_iconst (v := 0) hx hb d_Model_isKnown_0 (by decide) ?_
  refine lv_istore_n (lv' := [(1, .int 0), (0, .ref b0)]) hx hb d_Model_isKnown_1 rfl hl (by decide) rfl (fun ls hl => ?_)
  refine lv_iconst (v := 0) hx hb d_Model_isKnown_2 (by decide) ?_
  refine lv_istore_n (lv' := [(2, .int 0), (1, .int 0), (0, .ref b0)]) hx hb d_Model_isKnown_3 rfl hl (by decide) rfl (fun ls hl => ?_)
  suffices key : ∀ (k_33 : Nat) (y_34 : Int32) (y_35 : Int32) (H : Heap) (locs : List Loc) (ls : Array Slot), (zI y_34 0 400) → (zI y_35 0 1) → (400 : Int) - y_34.toInt < (k_33 : Int) → va_P G.1 classes [(b0, .inr (12, [.int b1, .ref b2, .ref b3, .ref b4, .ref b5, .int b6, .ref b7, .int b8, .int b9, .int b10, .int b11, .ref b12, .ref b13, .ref b14, .int b15, .ref b16, .ref b17, .ref b18, .ref b19, .ref b20, .ref b21, .ref b22, .ref b23, .ref b24, .ref b25, .ref b26, .ref b27, .int b28, .ref b29, .ref b30, .int b31, .int b32, .int b33, .int b34, .ref b35, .ref b36, .ref b37, .ref b38, .ref b39, .ref b40, .ref b41, .int b42, .ref b43, .ref b44, .int b45, .ref b46, .ref b47, .ref b48, .ref b49, .ref b50, .int b51, .ref b52, .ref b53, .ref b54])), (b46, .inl (G.2 1, 3208, .inr (.inl b55))), (b50, .inl (G.2 1, 8, .inr (.inl b56)))] H → va_D A [(b0, .inr (12, [.int b1, .ref b2, .ref b3, .ref b4, .ref b5, .int b6, .ref b7, .int b8, .int b9, .int b10, .int b11, .ref b12, .ref b13, .ref b14, .int b15, .ref b16, .ref b17, .ref b18, .ref b19, .ref b20, .ref b21, .ref b22, .ref b23, .ref b24, .ref b25, .ref b26, .ref b27, .int b28, .ref b29, .ref b30, .int b31, .int b32, .int b33, .int b34, .ref b35, .ref b36, .ref b37, .ref b38, .ref b39, .ref b40, .ref b41, .int b42, .ref b43, .ref b44, .int b45, .ref b46, .ref b47, .ref b48, .ref b49, .ref b50, .int b51, .ref b52, .ref b53, .ref b54])), (b46, .inl (G.2 1, 3208, .inr (.inl b55))), (b50, .inl (G.2 1, 8, .inr (.inl b56)))] → va_S A s.heap H locs → lv_has ls 3 [(2, .int y_34), (1, .int y_35), (0, .ref b0)] → W p l e m_s2_Model_isKnown s m ([.ref b0] : List Value).toArray below meth c H locs 0 0 (MQ below (zQ G (fun v w => ∃ (e0 : Int32), v = some (.int e0) ∧ w = [(b0, .inr (12, [.int b1, .ref b2, .ref b3, .ref b4, .ref b5, .int b6, .ref b7, .int b8, .int b9, .int b10, .int b11, .ref b12, .ref b13, .ref b14, .int b15, .ref b16, .ref b17, .ref b18, .ref b19, .ref b20, .ref b21, .ref b22, .ref b23, .ref b24, .ref b25, .ref b26, .ref b27, .int b28, .ref b29, .ref b30, .int b31, .int b32, .int b33, .int b34, .ref b35, .ref b36, .ref b37, .ref b38, .ref b39, .ref b40, .ref b41, .int b42, .ref b43, .ref b44, .int b45, .ref b46, .ref b47, .ref b48, .ref b49, .ref b50, .int b51, .ref b52, .ref b53, .ref b54])), (b46, .inl (G.2 1, 3208, .inr (.inl b55))), (b50, .inl (G.2 1, 8, .inr (.inl b56)))] ∧ (zI e0 0 1)) A) ([.ref b0] : List Value).toArray s m_s2_Model_isKnown.cells m_s2_Model_isKnown.slots A) (F0 m 4 ls []) by
    exact key 401 (0) (0) _ _ _ (zI.wk (l' := 0) (h' := 400) zc_0 (by decide)) (zI.wk (l' := 0) (h' := 1) zc_0 (by decide)) (zm_upi (zI.wk (l' := 0) (h' := 400) zc_0 (by decide)) (by decide)) hP hD hS (lv_sub hl [0, 1, 2] rfl)
  intro k_33
  induction k_33 with
  | zero =>
    intro y_34 y_35 H locs ls hy_34 hy_35 hmk_33 hP hD hS hl
    exact (zm_up0 hy_34 hmk_33).elim
  | succ k_33 ihk_33 =>
    intro y_34 y_35 H locs ls hy_34 hy_35 hmk_33 hP hD hS hl
    refine lv_iload_n hx hb d_Model_isKnown_4 rfl (lv_at hl 0 rfl) ?_
    refine lv_aload_n hx hb d_Model_isKnown_5 rfl (lv_at hl 2 rfl) ?_
    refine va_get (D := G.1) (ci := 12) (v := .int b51) (C := R_Model) (T := F_Model) (N := 54) hx hb hts i_Model hown hK hP 0 rfl rfl 50 (by decide) (hts _ q1159) (fun _ h9 => h9) rfl d_Model_isKnown_6 ?_
    refine lv_icmp_ge (tgt := 68) hx hb d_Model_isKnown_9 (by decide) (fun hc_36 => ?_) (fun hc_36 => ?_)
    · have _nhc_36 := hc_36
      have ni_37 := (fa_le _ _).mp hc_36
      refine lv_iload_n hx hb d_Model_isKnown_68 rfl (lv_at hl 1 rfl) ?_
      exact z_zret hx hb hr hlocks (zi_nb hy_35) hP hD hS (Nat.le_of_ble_eq_true rfl) (Nat.le_of_ble_eq_true rfl) d_Model_isKnown_69 ⟨y_35, rfl, rfl, hy_35⟩
    · have _nhc_36 := hc_36
      have ni_38 := (fa_lt _ _).mp (zi_nle hc_36)
      have hv_39 : zI y_34 0 399 := zI.lt_l hy_34 hb51 (zi_nle hc_36) (by decide)
      have hv_40 : zI b51 1 400 := zI.lt_r hy_34 hb51 (zi_nle hc_36) (by decide)
      refine lv_iload_n hx hb d_Model_isKnown_12 rfl (lv_at hl 1 rfl) ?_
      refine lv_if_ne (tgt := 68) hx hb d_Model_isKnown_13 (by decide) (fun hc_41 => ?_) (fun hc_41 => ?_)
      · have _nhc_41 := hc_41
        have ni_42 : ¬ (y_35 : Int32).toInt = (0 : Int32).toInt := fun z => hc_41 ((fa_eq _ _).mpr z)
        simp only [li_0] at ni_42
        have hv_43 : zI y_35 1 1 := zI.ne_lo hy_35 zc_0 hc_41 (by decide)
        refine lv_iload_n hx hb d_Model_isKnown_68 rfl (lv_at hl 1 rfl) ?_
        exact z_zret hx hb hr hlocks (zi_nb (zI.wk (l' := 0) (h' := 1) hv_43 (by decide))) hP hD hS (Nat.le_of_ble_eq_true rfl) (Nat.le_of_ble_eq_true rfl) d_Model_isKnown_69 ⟨y_35, rfl, rfl, (zI.wk (l' := 0) (h' := 1) hv_43 (by decide))⟩
      · have _nhc_41 := hc_41
        have ni_44 := (fa_eq _ _).mp hc_41
        rw [li_0] at ni_44
        have hv_45 : zI y_35 0 0 := zI.eq_l hy_35 zc_0 hc_41
        refine lv_aload_n hx hb d_Model_isKnown_16 rfl (lv_at hl 2 rfl) ?_
        refine va_get (D := G.1) (ci := 12) (v := .ref b46) (C := R_Model) (T := F_Model) (N := 54) hx hb hts i_Model hown hK hP 0 rfl rfl 45 (by decide) (hts _ q1154) (fun _ h9 => h9) rfl d_Model_isKnown_17 ?_
        refine lv_bipush (v := 8) hx hb d_Model_isKnown_20 (by decide) ?_
        refine lv_iload_n hx hb d_Model_isKnown_22 rfl (lv_at hl 0 rfl) ?_
        refine lv_imul hx hb d_Model_isKnown_23 ?_
        refine lv_topi (fun v_46 ev_46 => ?_)
        obtain ⟨qv_46, hv_46⟩ := zI_mul (l := 0) (h := 3192) zc_8 hv_39 ev_46 (by decide)
        rw [li_8] at qv_46
        refine lv_aload_n hx hb d_Model_isKnown_24 rfl (lv_at hl 2 rfl) ?_
        refine va_get (D := G.1) (ci := 12) (v := .ref b50) (C := R_Model) (T := F_Model) (N := 54) hx hb hts i_Model hown hK hP 0 rfl rfl 49 (by decide) (hts _ q1158) (fun _ h9 => h9) rfl d_Model_isKnown_25 ?_
        refine lv_iconst (v := 0) hx hb d_Model_isKnown_28 (by decide) ?_
        refine z_callS (index := 323) (As := [.ref b46, .int v_46, .ref b50, .int 0]) (rest := []) (wr := [(b0, .inr (12, [.int b1, .ref b2, .ref b3, .ref b4, .ref b5, .int b6, .ref b7, .int b8, .int b9, .int b10, .int b11, .ref b12, .ref b13, .ref b14, .int b15, .ref b16, .ref b17, .ref b18, .ref b19, .ref b20, .ref b21, .ref b22, .ref b23, .ref b24, .ref b25, .ref b26, .ref b27, .int b28, .ref b29, .ref b30, .int b31, .int b32, .int b33, .int b34, .ref b35, .ref b36, .ref b37, .ref b38, .ref b39, .ref b40, .ref b41, .int b42, .ref b43, .ref b44, .int b45, .ref b46, .ref b47, .ref b48, .ref b49, .ref b50, .int b51, .ref b52, .ref b53, .ref b54]))]) Z (s4_Model_areSame l G (b46) (v_46) (b50) (0) (b55) (b56) (zI.wk (l' := 0) (h' := 3204) hv_46 (by decide)) (zI.wk (l' := 0) (h' := 4) zc_0 (by decide))) hl.1 q1513 q1514 q14 q1515 ⟨by decide, by decide, by show _ = some 4; decide +kernel⟩ ⟨Nat.le_of_ble_eq_true rfl, Nat.le_of_ble_eq_true rfl⟩ ⟨Nat.le_of_ble_eq_true rfl, Nat.le_of_ble_eq_true rfl⟩ rfl (Nat.le_of_ble_eq_true rfl) d_Model_isKnown_29 hP hD hS hA [1, 2] [0] rfl rfl rfl rfl (by decide) (fun v w1 H locs hw_47 hP hD hS => ?_)
        obtain ⟨x_48, rfl, rfl, hx_48⟩ := hw_47
        have hP : va_P G.1 classes [(b0, .inr (12, [.int b1, .ref b2, .ref b3, .ref b4, .ref b5, .int b6, .ref b7, .int b8, .int b9, .int b10, .int b11, .ref b12, .ref b13, .ref b14, .int b15, .ref b16, .ref b17, .ref b18, .ref b19, .ref b20, .ref b21, .ref b22, .ref b23, .ref b24, .ref b25, .ref b26, .ref b27, .int b28, .ref b29, .ref b30, .int b31, .int b32, .int b33, .int b34, .ref b35, .ref b36, .ref b37, .ref b38, .ref b39, .ref b40, .ref b41, .int b42, .ref b43, .ref b44, .int b45, .ref b46, .ref b47, .ref b48, .ref b49, .ref b50, .int b51, .ref b52, .ref b53, .ref b54])), (b46, .inl (G.2 1, 3208, .inr (.inl b55))), (b50, .inl (G.2 1, 8, .inr (.inl b56)))] H := hP
        have hD := z_tie hP hD rfl
        refine W.widen (k := 0) (n := 0) (Nat.le_of_ble_eq_true rfl) (Nat.le_of_ble_eq_true rfl) ?_
        refine lv_if_eq (tgt := 60) hx hb d_Model_isKnown_32 (by decide) (fun hc_49 => ?_) (fun hc_49 => ?_)
        · have _nhc_49 := hc_49
          have ni_50 := (fa_eq _ _).mp hc_49
          rw [li_0] at ni_50
          have hv_51 : zI x_48 0 0 := zI.eq_l hx_48 zc_0 hc_49
          refine lv_iconst (v := 0) hx hb d_Model_isKnown_60 (by decide) ?_
          refine lv_istore_n (lv' := [(1, .int 0), (2, .int y_34), (0, .ref b0)]) hx hb d_Model_isKnown_61 rfl hl (by decide) rfl (fun ls hl => ?_)
          obtain ⟨v_52, ev_52⟩ : ∃ z : Int32, z = y_34 + 1 := ⟨_, rfl⟩
          obtain ⟨qv_52, hv_52⟩ := zI_add (l := 1) (h := 400) hv_39 zc_1 ev_52 (by decide)
          rw [li_1] at qv_52
          refine lv_iinc (v := v_52) (lv' := [(2, .int v_52), (1, .int 0), (0, .ref b0)]) hx hb d_Model_isKnown_62 hl (k := 1) rfl (by rw [ev_52]; rfl) (by decide) rfl (fun ls hl => ?_)
          refine lv_goto (tgt := 4) hx hb d_Model_isKnown_65 (by decide) ?_
          exact ihk_33 (v_52) (0) _ _ _ (zI.wk (l' := 0) (h' := 400) hv_52 (by decide)) (zI.wk (l' := 0) (h' := 1) zc_0 (by decide)) (zm_up qv_52 hmk_33 (by decide)) hP hD hS (lv_sub hl [0, 1, 2] rfl)
        · have _nhc_49 := hc_49
          have ni_53 : ¬ (x_48 : Int32).toInt = (0 : Int32).toInt := fun z => hc_49 ((fa_eq _ _).mpr z)
          simp only [li_0] at ni_53
          have hv_54 : zI x_48 1 1 := zI.ne_lo hx_48 zc_0 hc_49 (by decide)
          refine lv_aload_n hx hb d_Model_isKnown_35 rfl (lv_at hl 2 rfl) ?_
          refine va_get (D := G.1) (ci := 12) (v := .ref b46) (C := R_Model) (T := F_Model) (N := 54) hx hb hts i_Model hown hK hP 0 rfl rfl 45 (by decide) (hts _ q1154) (fun _ h9 => h9) rfl d_Model_isKnown_36 ?_
          refine lv_bipush (v := 8) hx hb d_Model_isKnown_39 (by decide) ?_
          refine lv_iload_n hx hb d_Model_isKnown_41 rfl (lv_at hl 0 rfl) ?_
          refine lv_imul hx hb d_Model_isKnown_42 ?_
          refine lv_topi (fun v_55 ev_55 => ?_)
          obtain rfl : v_46 = v_55 := ev_46.trans ev_55.symm
          refine lv_iconst (v := 4) hx hb d_Model_isKnown_43 (by decide) ?_
          refine lv_iadd hx hb d_Model_isKnown_44 ?_
          refine lv_topi (fun v_56 ev_56 => ?_)
          obtain ⟨qv_56, hv_56⟩ := zI_add (l := 4) (h := 3196) hv_46 zc_4 ev_56 (by decide)
          rw [li_4] at qv_56
          refine lv_aload_n hx hb d_Model_isKnown_45 rfl (lv_at hl 2 rfl) ?_
          refine va_get (D := G.1) (ci := 12) (v := .ref b50) (C := R_Model) (T := F_Model) (N := 54) hx hb hts i_Model hown hK hP 0 rfl rfl 49 (by decide) (hts _ q1158) (fun _ h9 => h9) rfl d_Model_isKnown_46 ?_
          refine lv_iconst (v := 4) hx hb d_Model_isKnown_49 (by decide) ?_
          refine z_callS (index := 323) (As := [.ref b46, .int v_56, .ref b50, .int 4]) (rest := []) (wr := [(b0, .inr (12, [.int b1, .ref b2, .ref b3, .ref b4, .ref b5, .int b6, .ref b7, .int b8, .int b9, .int b10, .int b11, .ref b12, .ref b13, .ref b14, .int b15, .ref b16, .ref b17, .ref b18, .ref b19, .ref b20, .ref b21, .ref b22, .ref b23, .ref b24, .ref b25, .ref b26, .ref b27, .int b28, .ref b29, .ref b30, .int b31, .int b32, .int b33, .int b34, .ref b35, .ref b36, .ref b37, .ref b38, .ref b39, .ref b40, .ref b41, .int b42, .ref b43, .ref b44, .int b45, .ref b46, .ref b47, .ref b48, .ref b49, .ref b50, .int b51, .ref b52, .ref b53, .ref b54]))]) Z (s4_Model_areSame l G (b46) (v_56) (b50) (4) (b55) (b56) (zI.wk (l' := 0) (h' := 3204) hv_56 (by decide)) (zI.wk (l' := 0) (h' := 4) zc_4 (by decide))) hl.1 q1513 q1514 q14 q1515 ⟨by decide, by decide, by show _ = some 4; decide +kernel⟩ ⟨Nat.le_of_ble_eq_true rfl, Nat.le_of_ble_eq_true rfl⟩ ⟨Nat.le_of_ble_eq_true rfl, Nat.le_of_ble_eq_true rfl⟩ rfl (Nat.le_of_ble_eq_true rfl) d_Model_isKnown_50 hP hD hS hA [1, 2] [0] rfl rfl rfl rfl (by decide) (fun v w1 H locs hw_57 hP hD hS => ?_)
          obtain ⟨x_58, rfl, rfl, hx_58⟩ := hw_57
          have hP : va_P G.1 classes [(b0, .inr (12, [.int b1, .ref b2, .ref b3, .ref b4, .ref b5, .int b6, .ref b7, .int b8, .int b9, .int b10, .int b11, .ref b12, .ref b13, .ref b14, .int b15, .ref b16, .ref b17, .ref b18, .ref b19, .ref b20, .ref b21, .ref b22, .ref b23, .ref b24, .ref b25, .ref b26, .ref b27, .int b28, .ref b29, .ref b30, .int b31, .int b32, .int b33, .int b34, .ref b35, .ref b36, .ref b37, .ref b38, .ref b39, .ref b40, .ref b41, .int b42, .ref b43, .ref b44, .int b45, .ref b46, .ref b47, .ref b48, .ref b49, .ref b50, .int b51, .ref b52, .ref b53, .ref b54])), (b46, .inl (G.2 1, 3208, .inr (.inl b55))), (b50, .inl (G.2 1, 8, .inr (.inl b56)))] H := hP
          have hD := z_tie hP hD rfl
          refine W.widen (k := 0) (n := 0) (Nat.le_of_ble_eq_true rfl) (Nat.le_of_ble_eq_true rfl) ?_
          refine lv_if_eq (tgt := 60) hx hb d_Model_isKnown_53 (by decide) (fun hc_59 => ?_) (fun hc_59 => ?_)
          · have _nhc_59 := hc_59
            have ni_60 := (fa_eq _ _).mp hc_59
            rw [li_0] at ni_60
            have hv_61 : zI x_58 0 0 := zI.eq_l hx_58 zc_0 hc_59
            refine lv_iconst (v := 0) hx hb d_Model_isKnown_60 (by decide) ?_
            refine lv_istore_n (lv' := [(1, .int 0), (2, .int y_34), (0, .ref b0)]) hx hb d_Model_isKnown_61 rfl hl (by decide) rfl (fun ls hl => ?_)
            obtain ⟨v_62, ev_62⟩ : ∃ z : Int32, z = y_34 + 1 := ⟨_, rfl⟩
            obtain ⟨qv_62, hv_62⟩ := zI_add (l := 1) (h := 400) hv_39 zc_1 ev_62 (by decide)
            rw [li_1] at qv_62
            refine lv_iinc (v := v_62) (lv' := [(2, .int v_62), (1, .int 0), (0, .ref b0)]) hx hb d_Model_isKnown_62 hl (k := 1) rfl (by rw [ev_62]; rfl) (by decide) rfl (fun ls hl => ?_)
            refine lv_goto (tgt := 4) hx hb d_Model_isKnown_65 (by decide) ?_
            exact ihk_33 (v_62) (0) _ _ _ (zI.wk (l' := 0) (h' := 400) hv_62 (by decide)) (zI.wk (l' := 0) (h' := 1) zc_0 (by decide)) (zm_up qv_62 hmk_33 (by decide)) hP hD hS (lv_sub hl [0, 1, 2] rfl)
          · have _nhc_59 := hc_59
            have ni_63 : ¬ (x_58 : Int32).toInt = (0 : Int32).toInt := fun z => hc_59 ((fa_eq _ _).mpr z)
            simp only [li_0] at ni_63
            have hv_64 : zI x_58 1 1 := zI.ne_lo hx_58 zc_0 hc_59 (by decide)
            refine lv_iconst (v := 1) hx hb d_Model_isKnown_56 (by decide) ?_
            refine lv_goto (tgt := 61) hx hb d_Model_isKnown_57 (by decide) ?_
            refine lv_istore_n (lv' := [(1, .int 1), (2, .int y_34), (0, .ref b0)]) hx hb d_Model_isKnown_61 rfl hl (by decide) rfl (fun ls hl => ?_)
            obtain ⟨v_65, ev_65⟩ : ∃ z : Int32, z = y_34 + 1 := ⟨_, rfl⟩
            obtain ⟨qv_65, hv_65⟩ := zI_add (l := 1) (h := 400) hv_39 zc_1 ev_65 (by decide)
            rw [li_1] at qv_65
            refine lv_iinc (v := v_65) (lv' := [(2, .int v_65), (1, .int 1), (0, .ref b0)]) hx hb d_Model_isKnown_62 hl (k := 1) rfl (by rw [ev_65]; rfl) (by decide) rfl (fun ls hl => ?_)
            refine lv_goto (tgt := 4) hx hb d_Model_isKnown_65 (by decide) ?_
            exact ihk_33 (v_65) (1) _ _ _ (zI.wk (l' := 0) (h' := 400) hv_65 (by decide)) (zI.wk (l' := 0) (h' := 1) zc_1 (by decide)) (zm_up qv_65 hmk_33 (by decide)) hP hD hS (lv_sub hl [0, 1, 2] rfl)
theorem d_Model_partsAt_100 : decode prog_14_method_67_code 100 = .ok (.ireturn, 1) := by decide +kernel
theorem d_Model_partsAt_145 : decode prog_14_method_67_code 145 = .ok (.ireturn, 1) := by decide +kernel
theorem li_m2 : ((-2) : Int32).toInt = (-2) := by decide +kernel
abbrev m_s2_Model_partsAt : Room := { frames := 3, cells := 0, slots := 0, locals := 79 }
set_option maxHeartbeats 4000000 in
set_option maxRecDepth 100000 in
theorem s2_Model_partsAt (l : Launch) (G : zG) (b0 : Nat) (b1 : Int32) (b2 : Nat) (b3 : Nat) (b4 : Nat) (b5 : Nat) (b6 : Int32) (b7 : Nat) (b8 : Int32) (b9 : Int32) (b10 : Int32) (b11 : Int32) (b12 : Nat) (b13 : Nat) (b14 : Nat) (b15 : Int32) (b16 : Nat) (b17 : Nat) (b18 : Nat) (b19 : Nat) (b20 : Nat) (b21 : Nat) (b22 : Nat) (b23 : Nat) (b24 : Nat) (b25 : Nat) (b26 : Nat) (b27 : Nat) (b28 : Int32) (b29 : Nat) (b30 : Nat) (b31 : Int32) (b32 : Int32) (b33 : Int32) (b34 : Int32) (b35 : Nat) (b36 : Nat) (b37 : Nat) (b38 : Nat) (b39 : Nat) (b40 : Nat) (b41 : Nat) (b42 : Int32) (b43 : Nat) (b44 : Nat) (b45 : Int32) (b46 : Nat) (b47 : Nat) (b48 : Nat) (b49 : Nat) (b50 : Nat) (b51 : Int32) (b52 : Nat) (b53 : Nat) (b54 : Nat) (b55 : Nat → Int32) (b56 : Nat → Int32) (b57 : Nat → Int32) (b58 : Nat → Int32) (b59 : Nat → Int32) (b60 : Nat → Int64) (b61 : Nat → Int64) (b62 : Nat → Int64) (b63 : Nat → Int32) (b64 : Nat → Int32) (b65 : Nat → Int32) (b66 : Nat → Int64) (hb6 : zI b6 0 8) (hb8 : zI b8 0 240) (hb9 : zI b9 0 240) (hb11 : zI b11 0 1) (hb15 : zI b15 0 12) (hb28 : zI b28 0 1) (hb31 : zI b31 0 1) (hb42 : zI b42 0 1000) (hb45 : zI b45 0 1000) (hb51 : zI b51 0 400) (hb55 : zW5 b55) (hb56 : zR b56 0 241) (hb58 : zR b58 0 240) (hb59 : zqa qE b59) (hb63 : zR b63 (-1) 399) (hb65 : zR b65 0 8) : zM l G y_Model_partsAt prog_14_method_67_code 3 (Option.some Jvm.ClassFile.FieldType.int) m_s2_Model_partsAt [.ref b0] [(b0, .inr (12, [.int b1, .ref b2, .ref b3, .ref b4, .ref b5, .int b6, .ref b7, .int b8, .int b9, .int b10, .int b11, .ref b12, .ref b13, .ref b14, .int b15, .ref b16, .ref b17, .ref b18, .ref b19, .ref b20, .ref b21, .ref b22, .ref b23, .ref b24, .ref b25, .ref b26, .ref b27, .int b28, .ref b29, .ref b30, .int b31, .int b32, .int b33, .int b34, .ref b35, .ref b36, .ref b37, .ref b38, .ref b39, .ref b40, .ref b41, .int b42, .ref b43, .ref b44, .int b45, .ref b46, .ref b47, .ref b48, .ref b49, .ref b50, .int b51, .ref b52, .ref b53, .ref b54])), (b2, .inl (G.2 0, 503, .inl b55)), (b22, .inl (G.2 0, 2, .inl b56)), (b25, .inl (G.2 0, 482, .inl b57)), (b26, .inl (G.2 0, 2, .inl b58)), (b27, .inl (G.2 0, 2880, .inl b59)), (b29, .inl (G.2 1, 4, .inr (.inl b60))), (b30, .inl (G.2 1, 4, .inr (.inl b61))), (b46, .inl (G.2 1, 3208, .inr (.inl b62))), (b47, .inl (G.2 0, 401, .inl b63)), (b48, .inl (G.2 0, 401, .inl b64)), (b49, .inl (G.2 0, 401, .inl b65)), (b50, .inl (G.2 1, 8, .inr (.inl b66)))] (fun v w => ∃ (e0 : Int32), ∃ (e1 : Int32), ∃ (e2 : Nat → Int64), ∃ (e3 : Nat → Int64), ∃ (e4 : Nat → Int64), ∃ (e5 : Nat → Int32), ∃ (e6 : Nat → Int32), ∃ (e7 : Nat → Int32), ∃ (e8 : Nat → Int64), v = some (.int e0) ∧ w = [(b0, .inr (12, [.int b1, .ref b2, .ref b3, .ref b4, .ref b5, .int b6, .ref b7, .int b8, .int b9, .int b10, .int b11, .ref b12, .ref b13, .ref b14, .int b15, .ref b16, .ref b17, .ref b18, .ref b19, .ref b20, .ref b21, .ref b22, .ref b23, .ref b24, .ref b25, .ref b26, .ref b27, .int b28, .ref b29, .ref b30, .int b31, .int b32, .int b33, .int b34, .ref b35, .ref b36, .ref b37, .ref b38, .ref b39, .ref b40, .ref b41, .int b42, .ref b43, .ref b44, .int b45, .ref b46, .ref b47, .ref b48, .ref b49, .ref b50, .int e1, .ref b52, .ref b53, .ref b54])), (b2, .inl (G.2 0, 503, .inl b55)), (b22, .inl (G.2 0, 2, .inl b56)), (b25, .inl (G.2 0, 482, .inl b57)), (b26, .inl (G.2 0, 2, .inl b58)), (b27, .inl (G.2 0, 2880, .inl b59)), (b29, .inl (G.2 1, 4, .inr (.inl e2))), (b30, .inl (G.2 1, 4, .inr (.inl e3))), (b46, .inl (G.2 1, 3208, .inr (.inl e4))), (b47, .inl (G.2 0, 401, .inl e5)), (b48, .inl (G.2 0, 401, .inl e6)), (b49, .inl (G.2 0, 401, .inl e7)), (b50, .inl (G.2 1, 8, .inr (.inl e8)))] ∧ (zI e0 (-2) 399) ∧ (zI e1 0 400) ∧ (zR e5 (-1) 399) ∧ (zR e7 0 8) ∧ ((e0 : Int32).toInt < 0 ∨ (e0 : Int32).toInt < (e1 : Int32).toInt) ∧ (zTw (e1 : Int32).toInt e7 e5)) := by
  refine z_start (by decide +kernel) (Nat.le_of_ble_eq_true rfl) ?_
  intro p e s m below meth c A Z hr hnm hA hP hD hS ls hl
  have Z : zC p s m _ meth c prog_14_method_67_code 3 "TraceMachinesModel" G := Z
  obtain ⟨hx, hb, hml, hown, hts, hK, hN, hlocks⟩ := id Z
  have hl : lv_has ls 3 [(0, .ref b0)] := hl
  refine lv_aload_n hx hb d_Model_partsAt_0 rfl (lv_at hl 0 rfl) ?_
  refine lv_iconst (v := 0) hx hb d_Model_partsAt_1 (by decide) ?_
  refine va_put (D := G.1) (ci := 12) (v := .int 0) (ty := .int) (C := R_Model) (T := F_Model) (N := 54) hx hb hts i_Model t_Model t_Model_ok n_Model hown hK hP hD hS 0 rfl rfl 50 (by decide) (hts _ q1159) (fun _ h9 => h9) rfl (by decide +kernel) rfl rfl (Nat.le_of_ble_eq_true rfl) d_Model_partsAt_2 (fun H locs hP hD hS => ?_)
  have hP : va_P G.1 classes [(b0, .inr (12, [.int b1, .ref b2, .ref b3, .ref b4, .ref b5, .int b6, .ref b7, .int b8, .int b9, .int b10, .int b11, .ref b12, .ref b13, .ref b14, .int b15, .ref b16, .ref b17, .ref b18, .ref b19, .ref b20, .ref b21, .ref b22, .ref b23, .ref b24, .ref b25, .ref b26, .ref b27, .int b28, .ref b29, .ref b30, .int b31, .int b32, .int b33, .int b34, .ref b35, .ref b36, .ref b37, .ref b38, .ref b39, .ref b40, .ref b41, .int b42, .ref b43, .ref b44, .int b45, .ref b46, .ref b47, .ref b48, .ref b49, .ref b50, .int 0, .ref b52, .ref b53, .ref b54])), (b2, .inl (G.2 0, 503, .inl b55)), (b22, .inl (G.2 0, 2, .inl b56)), (b25, .inl (G.2 0, 482, .inl b57)), (b26, .inl (G.2 0, 2, .inl b58)), (b27, .inl (G.2 0, 2880, .inl b59)), (b29, .inl (G.2 1, 4, .inr (.inl b60))), (b30, .inl (G.2 1, 4, .inr (.inl b61))), (b46, .inl (G.2 1, 3208, .inr (.inl b62))), (b47, .inl (G.2 0, 401, .inl b63)), (b48, .inl (G.2 0, 401, .inl b64)), (b49, .inl (G.2 0, 401, .inl b65)), (b50, .inl (G.2 1, 8, .inr (.inl b66)))] H := hP
  have hD := z_tie hP hD rfl
  refine lv_iconst (v := 0) hx hb d_Model_partsAt_5 (by decide) ?_
  refine lv_istore_n (lv' := [(1, .int 0), (0, .ref b0)]) hx hb d_Model_partsAt_6 rfl hl (by decide) rfl (fun ls hl => ?_)
  refine lv_iload_n hx hb d_Model_partsAt_7 rfl (lv_at hl 0 rfl) ?_
  refine lv_iconst (v := 2) hx hb d_Model_partsAt_8 (by decide) ?_
  refine lv_icmp_ge (tgt := 52) hx hb d_Model_partsAt_9 (by decide) (fun hc => absurd hc (by decide +kernel)) (fun _ => ?_)
  refine lv_aload_n hx hb d_Model_partsAt_12 rfl (lv_at hl 1 rfl) ?_
  refine lv_iload_n hx hb d_Model_partsAt_13 rfl (lv_at hl 0 rfl) ?_
  refine z_callV (index := 275) (As := [.int 0]) (rest := []) (wr := [(b2, .inl (G.2 0, 503, .inl b55)), (b25, .inl (G.2 0, 482, .inl b57)), (b26, .inl (G.2 0, 2, .inl b58)), (b27, .inl (G.2 0, 2880, .inl b59)), (b30, .inl (G.2 1, 4, .inr (.inl b61))), (b46, .inl (G.2 1, 3208, .inr (.inl b62))), (b47, .inl (G.2 0, 401, .inl b63)), (b48, .inl (G.2 0, 401, .inl b64)), (b49, .inl (G.2 0, 401, .inl b65)), (b50, .inl (G.2 1, 8, .inr (.inl b66)))]) Z (s2_Model_start l G (b0) (b1) (b2) (b3) (b4) (b5) (b6) (b7) (b8) (b9) (b10) (b11) (b12) (b13) (b14) (b15) (b16) (b17) (b18) (b19) (b20) (b21) (b22) (b23) (b24) (b25) (b26) (b27) (b28) (b29) (b30) (b31) (b32) (b33) (b34) (b35) (b36) (b37) (b38) (b39) (b40) (b41) (b42) (b43) (b44) (b45) (b46) (b47) (b48) (b49) (b50) (0) (b52) (b53) (b54) (b56) (b60) hb6 hb8 hb9 hb11 hb15 hb28 hb31 hb42 hb45 (zI.wk (l' := 0) (h' := 400) zc_0 (by decide)) hb56) hl.1 q1453 q1455 qs75 q14 q1456 ⟨by decide, by decide, by show _ = some 1; decide +kernel⟩ ⟨Nat.le_of_ble_eq_true rfl, Nat.le_of_ble_eq_true rfl⟩ ⟨Nat.le_of_ble_eq_true rfl, Nat.le_of_ble_eq_true rfl⟩ rfl (Nat.le_of_ble_eq_true rfl) d_Model_partsAt_14 hP hD hS hA 0 12 rfl rfl rfl [0, 2, 6] [1, 3, 4, 5, 7, 8, 9, 10, 11, 12] rfl rfl rfl rfl (by decide) (fun v w1 H locs hw_1 hP hD hS => ?_)
  obtain ⟨f_2, rfl, rfl⟩ := hw_1
  have hP : va_P G.1 classes [(b2, .inl (G.2 0, 503, .inl b55)), (b25, .inl (G.2 0, 482, .inl b57)), (b26, .inl (G.2 0, 2, .inl b58)), (b27, .inl (G.2 0, 2880, .inl b59)), (b30, .inl (G.2 1, 4, .inr (.inl b61))), (b46, .inl (G.2 1, 3208, .inr (.inl b62))), (b47, .inl (G.2 0, 401, .inl b63)), (b48, .inl (G.2 0, 401, .inl b64)), (b49, .inl (G.2 0, 401, .inl b65)), (b50, .inl (G.2 1, 8, .inr (.inl b66))), (b0, .inr (12, [.int b1, .ref b2, .ref b3, .ref b4, .ref b5, .int b6, .ref b7, .int b8, .int b9, .int b10, .int b11, .ref b12, .ref b13, .ref b14, .int b15, .ref b16, .ref b17, .ref b18, .ref b19, .ref b20, .ref b21, .ref b22, .ref b23, .ref b24, .ref b25, .ref b26, .ref b27, .int b28, .ref b29, .ref b30, .int b31, .int b32, .int b33, .int b34, .ref b35, .ref b36, .ref b37, .ref b38, .ref b39, .ref b40, .ref b41, .int b42, .ref b43, .ref b44, .int b45, .ref b46, .ref b47, .ref b48, .ref b49, .ref b50, .int 0, .ref b52, .ref b53, .ref b54])), (b22, .inl (G.2 0, 2, .inl b56)), (b29, .inl (G.2 1, 4, .inr (.inl f_2)))] H := hP
  have hD := z_tie hP hD rfl
  refine W.widen (k := 0) (n := 0) (Nat.le_of_ble_eq_true rfl) (Nat.le_of_ble_eq_true rfl) ?_
  refine lv_iconst (v := 0) hx hb d_Model_partsAt_17 (by decide) ?_
  refine lv_istore_n (lv' := [(2, .int 0), (1, .int 0), (0, .ref b0)]) hx hb d_Model_partsAt_18 rfl hl (by decide) rfl (fun ls hl => ?_)
  suffices key : ∀ (k_518 : Nat) (y_519 : Int32) (y_520 : Nat → Int64) (H : Heap) (locs : List Loc) (ls : Array Slot), (zI y_519 0 4) → (4 : Int) - y_519.toInt < (k_518 : Int) → va_P G.1 classes [(b2, .inl (G.2 0, 503, .inl b55)), (b25, .inl (G.2 0, 482, .inl b57)), (b26, .inl (G.2 0, 2, .inl b58)), (b27, .inl (G.2 0, 2880, .inl b59)), (b30, .inl (G.2 1, 4, .inr (.inl b61))), (b46, .inl (G.2 1, 3208, .inr (.inl b62))), (b47, .inl (G.2 0, 401, .inl b63)), (b48, .inl (G.2 0, 401, .inl b64)), (b49, .inl (G.2 0, 401, .inl b65)), (b50, .inl (G.2 1, 8, .inr (.inl y_520))), (b0, .inr (12, [.int b1, .ref b2, .ref b3, .ref b4, .ref b5, .int b6, .ref b7, .int b8, .int b9, .int b10, .int b11, .ref b12, .ref b13, .ref b14, .int b15, .ref b16, .ref b17, .ref b18, .ref b19, .ref b20, .ref b21, .ref b22, .ref b23, .ref b24, .ref b25, .ref b26, .ref b27, .int b28, .ref b29, .ref b30, .int b31, .int b32, .int b33, .int b34, .ref b35, .ref b36, .ref b37, .ref b38, .ref b39, .ref b40, .ref b41, .int b42, .ref b43, .ref b44, .int b45, .ref b46, .ref b47, .ref b48, .ref b49, .ref b50, .int 0, .ref b52, .ref b53, .ref b54])), (b22, .inl (G.2 0, 2, .inl b56)), (b29, .inl (G.2 1, 4, .inr (.inl f_2)))] H → va_D A [(b2, .inl (G.2 0, 503, .inl b55)), (b25, .inl (G.2 0, 482, .inl b57)), (b26, .inl (G.2 0, 2, .inl b58)), (b27, .inl (G.2 0, 2880, .inl b59)), (b30, .inl (G.2 1, 4, .inr (.inl b61))), (b46, .inl (G.2 1, 3208, .inr (.inl b62))), (b47, .inl (G.2 0, 401, .inl b63)), (b48, .inl (G.2 0, 401, .inl b64)), (b49, .inl (G.2 0, 401, .inl b65)), (b50, .inl (G.2 1, 8, .inr (.inl y_520))), (b0, .inr (12, [.int b1, .ref b2, .ref b3, .ref b4, .ref b5, .int b6, .ref b7, .int b8, .int b9, .int b10, .int b11, .ref b12, .ref b13, .ref b14, .int b15, .ref b16, .ref b17, .ref b18, .ref b19, .ref b20, .ref b21, .ref b22, .ref b23, .ref b24, .ref b25, .ref b26, .ref b27, .int b28, .ref b29, .ref b30, .int b31, .int b32, .int b33, .int b34, .ref b35, .ref b36, .ref b37, .ref b38, .ref b39, .ref b40, .ref b41, .int b42, .ref b43, .ref b44, .int b45, .ref b46, .ref b47, .ref b48, .ref b49, .ref b50, .int 0, .ref b52, .ref b53, .ref b54])), (b22, .inl (G.2 0, 2, .inl b56)), (b29, .inl (G.2 1, 4, .inr (.inl f_2)))] → va_S A s.heap H locs → lv_has ls 3 [(2, .int y_519), (1, .int 0), (0, .ref b0)] → W p l e m_s2_Model_partsAt s m ([.ref b0] : List Value).toArray below meth c H locs 0 0 (MQ below (zQ G (fun v w => ∃ (e0 : Int32), ∃ (e1 : Int32), ∃ (e2 : Nat → Int64), ∃ (e3 : Nat → Int64), ∃ (e4 : Nat → Int64), ∃ (e5 : Nat → Int32), ∃ (e6 : Nat → Int32), ∃ (e7 : Nat → Int32), ∃ (e8 : Nat → Int64), v = some (.int e0) ∧ w = [(b0, .inr (12, [.int b1, .ref b2, .ref b3, .ref b4, .ref b5, .int b6, .ref b7, .int b8, .int b9, .int b10, .int b11, .ref b12, .ref b13, .ref b14, .int b15, .ref b16, .ref b17, .ref b18, .ref b19, .ref b20, .ref b21, .ref b22, .ref b23, .ref b24, .ref b25, .ref b26, .ref b27, .int b28, .ref b29, .ref b30, .int b31, .int b32, .int b33, .int b34, .ref b35, .ref b36, .ref b37, .ref b38, .ref b39, .ref b40, .ref b41, .int b42, .ref b43, .ref b44, .int b45, .ref b46, .ref b47, .ref b48, .ref b49, .ref b50, .int e1, .ref b52, .ref b53, .ref b54])), (b2, .inl (G.2 0, 503, .inl b55)), (b22, .inl (G.2 0, 2, .inl b56)), (b25, .inl (G.2 0, 482, .inl b57)), (b26, .inl (G.2 0, 2, .inl b58)), (b27, .inl (G.2 0, 2880, .inl b59)), (b29, .inl (G.2 1, 4, .inr (.inl e2))), (b30, .inl (G.2 1, 4, .inr (.inl e3))), (b46, .inl (G.2 1, 3208, .inr (.inl e4))), (b47, .inl (G.2 0, 401, .inl e5)), (b48, .inl (G.2 0, 401, .inl e6)), (b49, .inl (G.2 0, 401, .inl e7)), (b50, .inl (G.2 1, 8, .inr (.inl e8)))] ∧ (zI e0 (-2) 399) ∧ (zI e1 0 400) ∧ (zR e5 (-1) 399) ∧ (zR e7 0 8) ∧ ((e0 : Int32).toInt < 0 ∨ (e0 : Int32).toInt < (e1 : Int32).toInt) ∧ (zTw (e1 : Int32).toInt e7 e5)) A) ([.ref b0] : List Value).toArray s m_s2_Model_partsAt.cells m_s2_Model_partsAt.slots A) (F0 m 19 ls []) by
    exact key 5 (0) (b66) _ _ _ (zI.wk (l' := 0) (h' := 4) zc_0 (by decide)) (zm_upi (zI.wk (l' := 0) (h' := 4) zc_0 (by decide)) (by decide)) hP hD hS (lv_sub hl [0, 1, 2] rfl)
  intro k_518
  induction k_518 with
  | zero =>
    intro y_519 y_520 H locs ls hy_519 hmk_518 hP hD hS hl
    exact (zm_up0 hy_519 hmk_518).elim
  | succ k_518 ihk_518 =>
    intro y_519 y_520 H locs ls hy_519 hmk_518 hP hD hS hl
    refine lv_iload_n hx hb d_Model_partsAt_19 rfl (lv_at hl 0 rfl) ?_
    refine lv_iconst (v := 4) hx hb d_Model_partsAt_20 (by decide) ?_
    refine lv_icmp_ge (tgt := 46) hx hb d_Model_partsAt_21 (by decide) (fun hc_521 => ?_) (fun hc_521 => ?_)
    · have _nhc_521 := hc_521
      have ni_522 := (fa_le _ _).mp hc_521
      rw [li_4] at ni_522
      have hv_523 : zI y_519 4 4 := zI.le_r zc_4 hy_519 hc_521 (by decide)
      refine lv_iinc (v := 1) (lv' := [(1, .int 1), (2, .int y_519), (0, .ref b0)]) hx hb d_Model_partsAt_46 hl (k := 1) rfl (by decide +kernel) (by decide) rfl (fun ls hl => ?_)
      refine lv_goto (tgt := 7) hx hb d_Model_partsAt_49 (by decide) ?_
      refine lv_iload_n hx hb d_Model_partsAt_7 rfl (lv_at hl 0 rfl) ?_
      refine lv_iconst (v := 2) hx hb d_Model_partsAt_8 (by decide) ?_
      refine lv_icmp_ge (tgt := 52) hx hb d_Model_partsAt_9 (by decide) (fun hc => absurd hc (by decide +kernel)) (fun _ => ?_)
      refine lv_aload_n hx hb d_Model_partsAt_12 rfl (lv_at hl 2 rfl) ?_
      refine lv_iload_n hx hb d_Model_partsAt_13 rfl (lv_at hl 0 rfl) ?_
      refine z_callV (index := 275) (As := [.int 1]) (rest := []) (wr := [(b2, .inl (G.2 0, 503, .inl b55)), (b25, .inl (G.2 0, 482, .inl b57)), (b26, .inl (G.2 0, 2, .inl b58)), (b27, .inl (G.2 0, 2880, .inl b59)), (b30, .inl (G.2 1, 4, .inr (.inl b61))), (b46, .inl (G.2 1, 3208, .inr (.inl b62))), (b47, .inl (G.2 0, 401, .inl b63)), (b48, .inl (G.2 0, 401, .inl b64)), (b49, .inl (G.2 0, 401, .inl b65)), (b50, .inl (G.2 1, 8, .inr (.inl y_520)))]) Z (s4_Model_start l G (b0) (b1) (b2) (b3) (b4) (b5) (b6) (b7) (b8) (b9) (b10) (b11) (b12) (b13) (b14) (b15) (b16) (b17) (b18) (b19) (b20) (b21) (b22) (b23) (b24) (b25) (b26) (b27) (b28) (b29) (b30) (b31) (b32) (b33) (b34) (b35) (b36) (b37) (b38) (b39) (b40) (b41) (b42) (b43) (b44) (b45) (b46) (b47) (b48) (b49) (b50) (0) (b52) (b53) (b54) (b56) (f_2) hb6 hb8 hb9 hb11 hb15 hb28 hb31 hb42 hb45 (zI.wk (l' := 0) (h' := 400) zc_0 (by decide)) hb56) hl.1 q1453 q1455 qs75 q14 q1456 ⟨by decide, by decide, by show _ = some 1; decide +kernel⟩ ⟨Nat.le_of_ble_eq_true rfl, Nat.le_of_ble_eq_true rfl⟩ ⟨Nat.le_of_ble_eq_true rfl, Nat.le_of_ble_eq_true rfl⟩ rfl (Nat.le_of_ble_eq_true rfl) d_Model_partsAt_14 hP hD hS hA 10 12 rfl rfl rfl [10, 11, 12] [0, 1, 2, 3, 4, 5, 6, 7, 8, 9] rfl rfl rfl rfl (by decide) (fun v w1 H locs hw_524 hP hD hS => ?_)
      obtain ⟨f_525, rfl, rfl⟩ := hw_524
      have hP : va_P G.1 classes [(b2, .inl (G.2 0, 503, .inl b55)), (b25, .inl (G.2 0, 482, .inl b57)), (b26, .inl (G.2 0, 2, .inl b58)), (b27, .inl (G.2 0, 2880, .inl b59)), (b30, .inl (G.2 1, 4, .inr (.inl b61))), (b46, .inl (G.2 1, 3208, .inr (.inl b62))), (b47, .inl (G.2 0, 401, .inl b63)), (b48, .inl (G.2 0, 401, .inl b64)), (b49, .inl (G.2 0, 401, .inl b65)), (b50, .inl (G.2 1, 8, .inr (.inl y_520))), (b0, .inr (12, [.int b1, .ref b2, .ref b3, .ref b4, .ref b5, .int b6, .ref b7, .int b8, .int b9, .int b10, .int b11, .ref b12, .ref b13, .ref b14, .int b15, .ref b16, .ref b17, .ref b18, .ref b19, .ref b20, .ref b21, .ref b22, .ref b23, .ref b24, .ref b25, .ref b26, .ref b27, .int b28, .ref b29, .ref b30, .int b31, .int b32, .int b33, .int b34, .ref b35, .ref b36, .ref b37, .ref b38, .ref b39, .ref b40, .ref b41, .int b42, .ref b43, .ref b44, .int b45, .ref b46, .ref b47, .ref b48, .ref b49, .ref b50, .int 0, .ref b52, .ref b53, .ref b54])), (b22, .inl (G.2 0, 2, .inl b56)), (b29, .inl (G.2 1, 4, .inr (.inl f_525)))] H := hP
      have hD := z_tie hP hD rfl
      refine W.widen (k := 0) (n := 0) (Nat.le_of_ble_eq_true rfl) (Nat.le_of_ble_eq_true rfl) ?_
      refine lv_iconst (v := 0) hx hb d_Model_partsAt_17 (by decide) ?_
      refine lv_istore_n (lv' := [(2, .int 0), (1, .int 1), (0, .ref b0)]) hx hb d_Model_partsAt_18 rfl hl (by decide) rfl (fun ls hl => ?_)
      suffices key : ∀ (k_777 : Nat) (y_778 : Int32) (y_779 : Nat → Int64) (H : Heap) (locs : List Loc) (ls : Array Slot), (zI y_778 0 4) → (4 : Int) - y_778.toInt < (k_777 : Int) → va_P G.1 classes [(b2, .inl (G.2 0, 503, .inl b55)), (b25, .inl (G.2 0, 482, .inl b57)), (b26, .inl (G.2 0, 2, .inl b58)), (b27, .inl (G.2 0, 2880, .inl b59)), (b30, .inl (G.2 1, 4, .inr (.inl b61))), (b46, .inl (G.2 1, 3208, .inr (.inl b62))), (b47, .inl (G.2 0, 401, .inl b63)), (b48, .inl (G.2 0, 401, .inl b64)), (b49, .inl (G.2 0, 401, .inl b65)), (b50, .inl (G.2 1, 8, .inr (.inl y_779))), (b0, .inr (12, [.int b1, .ref b2, .ref b3, .ref b4, .ref b5, .int b6, .ref b7, .int b8, .int b9, .int b10, .int b11, .ref b12, .ref b13, .ref b14, .int b15, .ref b16, .ref b17, .ref b18, .ref b19, .ref b20, .ref b21, .ref b22, .ref b23, .ref b24, .ref b25, .ref b26, .ref b27, .int b28, .ref b29, .ref b30, .int b31, .int b32, .int b33, .int b34, .ref b35, .ref b36, .ref b37, .ref b38, .ref b39, .ref b40, .ref b41, .int b42, .ref b43, .ref b44, .int b45, .ref b46, .ref b47, .ref b48, .ref b49, .ref b50, .int 0, .ref b52, .ref b53, .ref b54])), (b22, .inl (G.2 0, 2, .inl b56)), (b29, .inl (G.2 1, 4, .inr (.inl f_525)))] H → va_D A [(b2, .inl (G.2 0, 503, .inl b55)), (b25, .inl (G.2 0, 482, .inl b57)), (b26, .inl (G.2 0, 2, .inl b58)), (b27, .inl (G.2 0, 2880, .inl b59)), (b30, .inl (G.2 1, 4, .inr (.inl b61))), (b46, .inl (G.2 1, 3208, .inr (.inl b62))), (b47, .inl (G.2 0, 401, .inl b63)), (b48, .inl (G.2 0, 401, .inl b64)), (b49, .inl (G.2 0, 401, .inl b65)), (b50, .inl (G.2 1, 8, .inr (.inl y_779))), (b0, .inr (12, [.int b1, .ref b2, .ref b3, .ref b4, .ref b5, .int b6, .ref b7, .int b8, .int b9, .int b10, .int b11, .ref b12, .ref b13, .ref b14, .int b15, .ref b16, .ref b17, .ref b18, .ref b19, .ref b20, .ref b21, .ref b22, .ref b23, .ref b24, .ref b25, .ref b26, .ref b27, .int b28, .ref b29, .ref b30, .int b31, .int b32, .int b33, .int b34, .ref b35, .ref b36, .ref b37, .ref b38, .ref b39, .ref b40, .ref b41, .int b42, .ref b43, .ref b44, .int b45, .ref b46, .ref b47, .ref b48, .ref b49, .ref b50, .int 0, .ref b52, .ref b53, .ref b54])), (b22, .inl (G.2 0, 2, .inl b56)), (b29, .inl (G.2 1, 4, .inr (.inl f_525)))] → va_S A s.heap H locs → lv_has ls 3 [(2, .int y_778), (1, .int 1), (0, .ref b0)] → W p l e m_s2_Model_partsAt s m ([.ref b0] : List Value).toArray below meth c H locs 0 0 (MQ below (zQ G (fun v w => ∃ (e0 : Int32), ∃ (e1 : Int32), ∃ (e2 : Nat → Int64), ∃ (e3 : Nat → Int64), ∃ (e4 : Nat → Int64), ∃ (e5 : Nat → Int32), ∃ (e6 : Nat → Int32), ∃ (e7 : Nat → Int32), ∃ (e8 : Nat → Int64), v = some (.int e0) ∧ w = [(b0, .inr (12, [.int b1, .ref b2, .ref b3, .ref b4, .ref b5, .int b6, .ref b7, .int b8, .int b9, .int b10, .int b11, .ref b12, .ref b13, .ref b14, .int b15, .ref b16, .ref b17, .ref b18, .ref b19, .ref b20, .ref b21, .ref b22, .ref b23, .ref b24, .ref b25, .ref b26, .ref b27, .int b28, .ref b29, .ref b30, .int b31, .int b32, .int b33, .int b34, .ref b35, .ref b36, .ref b37, .ref b38, .ref b39, .ref b40, .ref b41, .int b42, .ref b43, .ref b44, .int b45, .ref b46, .ref b47, .ref b48, .ref b49, .ref b50, .int e1, .ref b52, .ref b53, .ref b54])), (b2, .inl (G.2 0, 503, .inl b55)), (b22, .inl (G.2 0, 2, .inl b56)), (b25, .inl (G.2 0, 482, .inl b57)), (b26, .inl (G.2 0, 2, .inl b58)), (b27, .inl (G.2 0, 2880, .inl b59)), (b29, .inl (G.2 1, 4, .inr (.inl e2))), (b30, .inl (G.2 1, 4, .inr (.inl e3))), (b46, .inl (G.2 1, 3208, .inr (.inl e4))), (b47, .inl (G.2 0, 401, .inl e5)), (b48, .inl (G.2 0, 401, .inl e6)), (b49, .inl (G.2 0, 401, .inl e7)), (b50, .inl (G.2 1, 8, .inr (.inl e8)))] ∧ (zI e0 (-2) 399) ∧ (zI e1 0 400) ∧ (zR e5 (-1) 399) ∧ (zR e7 0 8) ∧ ((e0 : Int32).toInt < 0 ∨ (e0 : Int32).toInt < (e1 : Int32).toInt) ∧ (zTw (e1 : Int32).toInt e7 e5)) A) ([.ref b0] : List Value).toArray s m_s2_Model_partsAt.cells m_s2_Model_partsAt.slots A) (F0 m 19 ls []) by
        exact key 5 (0) (y_520) _ _ _ (zI.wk (l' := 0) (h' := 4) zc_0 (by decide)) (zm_upi (zI.wk (l' := 0) (h' := 4) zc_0 (by decide)) (by decide)) hP hD hS (lv_sub hl [0, 1, 2] rfl)
      intro k_777
      induction k_777 with
      | zero =>
        intro y_778 y_779 H locs ls hy_778 hmk_777 hP hD hS hl
        exact (zm_up0 hy_778 hmk_777).elim
      | succ k_777 ihk_777 =>
        intro y_778 y_779 H locs ls hy_778 hmk_777 hP hD hS hl
        refine lv_iload_n hx hb d_Model_partsAt_19 rfl (lv_at hl 0 rfl) ?_
        refine lv_iconst (v := 4) hx hb d_Model_partsAt_20 (by decide) ?_
        refine lv_icmp_ge (tgt := 46) hx hb d_Model_partsAt_21 (by decide) (fun hc_780 => ?_) (fun hc_780 => ?_)
        · have _nhc_780 := hc_780
          have ni_781 := (fa_le _ _).mp hc_780
          rw [li_4] at ni_781
          have hv_782 : zI y_778 4 4 := zI.le_r zc_4 hy_778 hc_780 (by decide)
          refine lv_iinc (v := 2) (lv' := [(1, .int 2), (2, .int y_778), (0, .ref b0)]) hx hb d_Model_partsAt_46 hl (k := 1) rfl (by decide +kernel) (by decide) rfl (fun ls hl => ?_)
          refine lv_goto (tgt := 7) hx hb d_Model_partsAt_49 (by decide) ?_
          refine lv_iload_n hx hb d_Model_partsAt_7 rfl (lv_at hl 0 rfl) ?_
          refine lv_iconst (v := 2) hx hb d_Model_partsAt_8 (by decide) ?_
          refine lv_icmp_ge (tgt := 52) hx hb d_Model_partsAt_9 (by decide) (fun _ => ?_) (fun hc => absurd hc (by decide +kernel))
          refine lv_aload_n hx hb d_Model_partsAt_52 rfl (lv_at hl 2 rfl) ?_
          refine lv_iconst (v := (-1)) hx hb d_Model_partsAt_53 (by decide) ?_
          refine lv_iconst (v := (-1)) hx hb d_Model_partsAt_54 (by decide) ?_
          refine z_callV (index := 341) (As := [.int (-1), .int (-1)]) (rest := []) (wr := [(b2, .inl (G.2 0, 503, .inl b55)), (b25, .inl (G.2 0, 482, .inl b57)), (b26, .inl (G.2 0, 2, .inl b58)), (b27, .inl (G.2 0, 2880, .inl b59)), (b30, .inl (G.2 1, 4, .inr (.inl b61))), (b22, .inl (G.2 0, 2, .inl b56)), (b29, .inl (G.2 1, 4, .inr (.inl f_525)))]) Z (s2_Model_addTwo l G (b0) ((-1)) ((-1)) (b1) (b2) (b3) (b4) (b5) (b6) (b7) (b8) (b9) (b10) (b11) (b12) (b13) (b14) (b15) (b16) (b17) (b18) (b19) (b20) (b21) (b22) (b23) (b24) (b25) (b26) (b27) (b28) (b29) (b30) (b31) (b32) (b33) (b34) (b35) (b36) (b37) (b38) (b39) (b40) (b41) (b42) (b43) (b44) (b45) (b46) (b47) (b48) (b49) (b50) (0) (b52) (b53) (b54) (b62) (b63) (b64) (b65) (y_779) (zI.wk (l' := (-1)) (h' := 399) zc_m1 (by decide)) (zI.wk (l' := (-1)) (h' := 9) zc_m1 (by decide)) hb6 hb8 hb9 hb11 hb15 hb28 hb31 hb42 hb45 (zI.wk (l' := 0) (h' := 400) zc_0 (by decide)) hb63 hb65 (by have _l0 := li_0; omega) (Or.inl li_m1) (by have _l0 := li_0; intro j hj; omega)) hl.1 q1525 q1527 qs84 q14 q1528 ⟨by decide, by decide, by show _ = some 2; decide +kernel⟩ ⟨Nat.le_of_ble_eq_true rfl, Nat.le_of_ble_eq_true rfl⟩ ⟨Nat.le_of_ble_eq_true rfl, Nat.le_of_ble_eq_true rfl⟩ rfl (Nat.le_of_ble_eq_true rfl) d_Model_partsAt_55 hP hD hS hA 10 12 rfl rfl rfl [10, 5, 6, 7, 8, 9] [0, 1, 2, 3, 4, 11, 12] rfl rfl rfl rfl (by decide) (fun v w1 H locs hw_783 hP hD hS => ?_)
          obtain ⟨x_784, f_785, f_786, f_787, f_788, rfl, rfl, hx_784, hf_786, hf_788, hfx_789, hfx_790⟩ := hw_783
          have hP : va_P G.1 classes [(b2, .inl (G.2 0, 503, .inl b55)), (b25, .inl (G.2 0, 482, .inl b57)), (b26, .inl (G.2 0, 2, .inl b58)), (b27, .inl (G.2 0, 2880, .inl b59)), (b30, .inl (G.2 1, 4, .inr (.inl b61))), (b22, .inl (G.2 0, 2, .inl b56)), (b29, .inl (G.2 1, 4, .inr (.inl f_525))), (b0, .inr (12, [.int b1, .ref b2, .ref b3, .ref b4, .ref b5, .int b6, .ref b7, .int b8, .int b9, .int b10, .int b11, .ref b12, .ref b13, .ref b14, .int b15, .ref b16, .ref b17, .ref b18, .ref b19, .ref b20, .ref b21, .ref b22, .ref b23, .ref b24, .ref b25, .ref b26, .ref b27, .int b28, .ref b29, .ref b30, .int b31, .int b32, .int b33, .int b34, .ref b35, .ref b36, .ref b37, .ref b38, .ref b39, .ref b40, .ref b41, .int b42, .ref b43, .ref b44, .int b45, .ref b46, .ref b47, .ref b48, .ref b49, .ref b50, .int x_784, .ref b52, .ref b53, .ref b54])), (b46, .inl (G.2 1, 3208, .inr (.inl f_785))), (b47, .inl (G.2 0, 401, .inl f_786)), (b48, .inl (G.2 0, 401, .inl f_787)), (b49, .inl (G.2 0, 401, .inl f_788)), (b50, .inl (G.2 1, 8, .inr (.inl y_779)))] H := hP
          have hD := z_tie hP hD rfl
          refine W.widen (k := 0) (n := 0) (Nat.le_of_ble_eq_true rfl) (Nat.le_of_ble_eq_true rfl) ?_
          refine lv_iconst (v := 0) hx hb d_Model_partsAt_58 (by decide) ?_
          refine lv_istore_n (lv' := [(1, .int 0), (2, .int y_778), (0, .ref b0)]) hx hb d_Model_partsAt_59 rfl hl (by decide) rfl (fun ls hl => ?_)
          suffices key : ∀ (k_907 : Nat) (y_908 : Int32) (y_909 : Int32) (y_910 : Int32) (y_911 : Nat → Int64) (y_912 : Nat → Int64) (y_913 : Nat → Int32) (y_914 : Nat → Int32) (y_915 : Nat → Int32) (y_916 : Nat → Int64) (H : Heap) (locs : List Loc) (ls : Array Slot), (zI y_908 0 400) → (zI y_909 0 10) → (zI y_910 0 400) → (zR y_913 (-1) 399) → (zR y_915 0 8) → (zTw (y_910 : Int32).toInt y_915 y_913) → (400 : Int) - y_908.toInt < (k_907 : Int) → va_P G.1 classes [(b2, .inl (G.2 0, 503, .inl b55)), (b25, .inl (G.2 0, 482, .inl b57)), (b26, .inl (G.2 0, 2, .inl b58)), (b27, .inl (G.2 0, 2880, .inl b59)), (b30, .inl (G.2 1, 4, .inr (.inl y_911))), (b22, .inl (G.2 0, 2, .inl b56)), (b29, .inl (G.2 1, 4, .inr (.inl f_525))), (b0, .inr (12, [.int b1, .ref b2, .ref b3, .ref b4, .ref b5, .int b6, .ref b7, .int b8, .int b9, .int b10, .int b11, .ref b12, .ref b13, .ref b14, .int b15, .ref b16, .ref b17, .ref b18, .ref b19, .ref b20, .ref b21, .ref b22, .ref b23, .ref b24, .ref b25, .ref b26, .ref b27, .int b28, .ref b29, .ref b30, .int b31, .int b32, .int b33, .int b34, .ref b35, .ref b36, .ref b37, .ref b38, .ref b39, .ref b40, .ref b41, .int b42, .ref b43, .ref b44, .int b45, .ref b46, .ref b47, .ref b48, .ref b49, .ref b50, .int y_910, .ref b52, .ref b53, .ref b54])), (b46, .inl (G.2 1, 3208, .inr (.inl y_912))), (b47, .inl (G.2 0, 401, .inl y_913)), (b48, .inl (G.2 0, 401, .inl y_914)), (b49, .inl (G.2 0, 401, .inl y_915)), (b50, .inl (G.2 1, 8, .inr (.inl y_916)))] H → va_D A [(b2, .inl (G.2 0, 503, .inl b55)), (b25, .inl (G.2 0, 482, .inl b57)), (b26, .inl (G.2 0, 2, .inl b58)), (b27, .inl (G.2 0, 2880, .inl b59)), (b30, .inl (G.2 1, 4, .inr (.inl y_911))), (b22, .inl (G.2 0, 2, .inl b56)), (b29, .inl (G.2 1, 4, .inr (.inl f_525))), (b0, .inr (12, [.int b1, .ref b2, .ref b3, .ref b4, .ref b5, .int b6, .ref b7, .int b8, .int b9, .int b10, .int b11, .ref b12, .ref b13, .ref b14, .int b15, .ref b16, .ref b17, .ref b18, .ref b19, .ref b20, .ref b21, .ref b22, .ref b23, .ref b24, .ref b25, .ref b26, .ref b27, .int b28, .ref b29, .ref b30, .int b31, .int b32, .int b33, .int b34, .ref b35, .ref b36, .ref b37, .ref b38, .ref b39, .ref b40, .ref b41, .int b42, .ref b43, .ref b44, .int b45, .ref b46, .ref b47, .ref b48, .ref b49, .ref b50, .int y_910, .ref b52, .ref b53, .ref b54])), (b46, .inl (G.2 1, 3208, .inr (.inl y_912))), (b47, .inl (G.2 0, 401, .inl y_913)), (b48, .inl (G.2 0, 401, .inl y_914)), (b49, .inl (G.2 0, 401, .inl y_915)), (b50, .inl (G.2 1, 8, .inr (.inl y_916)))] → va_S A s.heap H locs → lv_has ls 3 [(1, .int y_908), (2, .int y_909), (0, .ref b0)] → W p l e m_s2_Model_partsAt s m ([.ref b0] : List Value).toArray below meth c H locs 0 0 (MQ below (zQ G (fun v w => ∃ (e0 : Int32), ∃ (e1 : Int32), ∃ (e2 : Nat → Int64), ∃ (e3 : Nat → Int64), ∃ (e4 : Nat → Int64), ∃ (e5 : Nat → Int32), ∃ (e6 : Nat → Int32), ∃ (e7 : Nat → Int32), ∃ (e8 : Nat → Int64), v = some (.int e0) ∧ w = [(b0, .inr (12, [.int b1, .ref b2, .ref b3, .ref b4, .ref b5, .int b6, .ref b7, .int b8, .int b9, .int b10, .int b11, .ref b12, .ref b13, .ref b14, .int b15, .ref b16, .ref b17, .ref b18, .ref b19, .ref b20, .ref b21, .ref b22, .ref b23, .ref b24, .ref b25, .ref b26, .ref b27, .int b28, .ref b29, .ref b30, .int b31, .int b32, .int b33, .int b34, .ref b35, .ref b36, .ref b37, .ref b38, .ref b39, .ref b40, .ref b41, .int b42, .ref b43, .ref b44, .int b45, .ref b46, .ref b47, .ref b48, .ref b49, .ref b50, .int e1, .ref b52, .ref b53, .ref b54])), (b2, .inl (G.2 0, 503, .inl b55)), (b22, .inl (G.2 0, 2, .inl b56)), (b25, .inl (G.2 0, 482, .inl b57)), (b26, .inl (G.2 0, 2, .inl b58)), (b27, .inl (G.2 0, 2880, .inl b59)), (b29, .inl (G.2 1, 4, .inr (.inl e2))), (b30, .inl (G.2 1, 4, .inr (.inl e3))), (b46, .inl (G.2 1, 3208, .inr (.inl e4))), (b47, .inl (G.2 0, 401, .inl e5)), (b48, .inl (G.2 0, 401, .inl e6)), (b49, .inl (G.2 0, 401, .inl e7)), (b50, .inl (G.2 1, 8, .inr (.inl e8)))] ∧ (zI e0 (-2) 399) ∧ (zI e1 0 400) ∧ (zR e5 (-1) 399) ∧ (zR e7 0 8) ∧ ((e0 : Int32).toInt < 0 ∨ (e0 : Int32).toInt < (e1 : Int32).toInt) ∧ (zTw (e1 : Int32).toInt e7 e5)) A) ([.ref b0] : List Value).toArray s m_s2_Model_partsAt.cells m_s2_Model_partsAt.slots A) (F0 m 60 ls []) by
            exact key 401 (0) (y_778) (x_784) (b61) (f_785) (f_786) (f_787) (f_788) (y_779) _ _ _ (zI.wk (l' := 0) (h' := 400) zc_0 (by decide)) (zI.wk (l' := 0) (h' := 10) hv_782 (by decide)) hx_784 hf_786 hf_788 hfx_790 (zm_upi (zI.wk (l' := 0) (h' := 400) zc_0 (by decide)) (by decide)) hP hD hS (lv_sub hl [0, 1, 2] rfl)
          intro k_907
          induction k_907 with
          | zero =>
            intro y_908 y_909 y_910 y_911 y_912 y_913 y_914 y_915 y_916 H locs ls hy_908 hy_909 hy_910 hy_913 hy_915 hli_917 hmk_907 hP hD hS hl
            exact (zm_up0 hy_908 hmk_907).elim
          | succ k_907 ihk_907 =>
            intro y_908 y_909 y_910 y_911 y_912 y_913 y_914 y_915 y_916 H locs ls hy_908 hy_909 hy_910 hy_913 hy_915 hli_917 hmk_907 hP hD hS hl
            refine lv_iload_n hx hb d_Model_partsAt_60 rfl (lv_at hl 0 rfl) ?_
            refine lv_aload_n hx hb d_Model_partsAt_61 rfl (lv_at hl 2 rfl) ?_
            refine va_get (D := G.1) (ci := 12) (v := .int y_910) (C := R_Model) (T := F_Model) (N := 54) hx hb hts i_Model hown hK hP 7 rfl rfl 50 (by decide) (hts _ q1159) (fun _ h9 => h9) rfl d_Model_partsAt_62 ?_
            refine lv_icmp_ge (tgt := 164) hx hb d_Model_partsAt_65 (by decide) (fun hc_918 => ?_) (fun hc_918 => ?_)
            · have _nhc_918 := hc_918
              have ni_919 := (fa_le _ _).mp hc_918
              refine lv_iconst (v := (-1)) hx hb d_Model_partsAt_164 (by decide) ?_
              exact z_iret hx hb hr hlocks (hP.sub [7, 0, 5, 1, 2, 3, 6, 4, 8, 9, 10, 11, 12] rfl) (hD.sub [7, 0, 5, 1, 2, 3, 6, 4, 8, 9, 10, 11, 12] (by decide) rfl) hS (Nat.le_of_ble_eq_true rfl) (Nat.le_of_ble_eq_true rfl) d_Model_partsAt_165 ⟨(-1), y_910, f_525, y_911, y_912, y_913, y_914, y_915, y_916, rfl, rfl, (zI.wk (l' := (-2)) (h' := 399) zc_m1 (by decide)), hy_910, hy_913, hy_915, (by have _l0 := li_m1; omega), hli_917⟩
            · have _nhc_918 := hc_918
              have ni_920 := (fa_lt _ _).mp (zi_nle hc_918)
              have hv_921 : zI y_908 0 399 := zI.lt_l hy_908 hy_910 (zi_nle hc_918) (by decide)
              have hv_922 : zI y_910 1 400 := zI.lt_r hy_908 hy_910 (zi_nle hc_918) (by decide)
              refine lv_aload_n hx hb d_Model_partsAt_68 rfl (lv_at hl 2 rfl) ?_
              refine lv_iconst (v := 0) hx hb d_Model_partsAt_69 (by decide) ?_
              refine lv_aload_n hx hb d_Model_partsAt_70 rfl (lv_at hl 2 rfl) ?_
              refine va_get (D := G.1) (ci := 12) (v := .ref b46) (C := R_Model) (T := F_Model) (N := 54) hx hb hts i_Model hown hK hP 7 rfl rfl 45 (by decide) (hts _ q1154) (fun _ h9 => h9) rfl d_Model_partsAt_71 ?_
              refine lv_bipush (v := 8) hx hb d_Model_partsAt_74 (by decide) ?_
              refine lv_iload_n hx hb d_Model_partsAt_76 rfl (lv_at hl 0 rfl) ?_
              refine lv_imul hx hb d_Model_partsAt_77 ?_
              refine lv_topi (fun v_923 ev_923 => ?_)
              obtain ⟨qv_923, hv_923⟩ := zI_mul (l := 0) (h := 3192) zc_8 hv_921 ev_923 (by decide)
              rw [li_8] at qv_923
              refine z_callV (index := 286) (As := [.int 0, .ref b46, .int v_923]) (rest := []) (wr := [(b2, .inl (G.2 0, 503, .inl b55)), (b26, .inl (G.2 0, 2, .inl b58)), (b27, .inl (G.2 0, 2880, .inl b59)), (b30, .inl (G.2 1, 4, .inr (.inl y_911))), (b29, .inl (G.2 1, 4, .inr (.inl f_525))), (b47, .inl (G.2 0, 401, .inl y_913)), (b48, .inl (G.2 0, 401, .inl y_914)), (b49, .inl (G.2 0, 401, .inl y_915)), (b50, .inl (G.2 1, 8, .inr (.inl y_916)))]) Z (s7_Model_takes l G (b0) (b46) (v_923) (b1) (b2) (b3) (b4) (b5) (b6) (b7) (b8) (b9) (b10) (b11) (b12) (b13) (b14) (b15) (b16) (b17) (b18) (b19) (b20) (b21) (b22) (b23) (b24) (b25) (b26) (b27) (b28) (b29) (b30) (b31) (b32) (b33) (b34) (b35) (b36) (b37) (b38) (b39) (b40) (b41) (b42) (b43) (b44) (b45) (b47) (b48) (b49) (b50) (y_910) (b52) (b53) (b54) (b56) (b57) (y_912) (zI.wk (l' := 0) (h' := 3204) hv_923 (by decide)) hb6 hb8 hb9 hb11 hb15 hb28 hb31 hb42 hb45 (zI.wk (l' := 0) (h' := 400) hv_922 (by decide)) hb56) hl.1 q1467 q1469 qs77 q14 q1470 ⟨by decide, by decide, by show _ = some 3; decide +kernel⟩ ⟨Nat.le_of_ble_eq_true rfl, Nat.le_of_ble_eq_true rfl⟩ ⟨Nat.le_of_ble_eq_true rfl, Nat.le_of_ble_eq_true rfl⟩ rfl (Nat.le_of_ble_eq_true rfl) d_Model_partsAt_78 hP hD hS hA 7 12 rfl rfl rfl [7, 5, 1, 8] [0, 2, 3, 4, 6, 9, 10, 11, 12] rfl rfl rfl rfl (by decide) (fun v w1 H locs hw_924 hP hD hS => ?_)
              obtain ⟨x_925, rfl, rfl, hx_925⟩ := hw_924
              have hP : va_P G.1 classes [(b2, .inl (G.2 0, 503, .inl b55)), (b26, .inl (G.2 0, 2, .inl b58)), (b27, .inl (G.2 0, 2880, .inl b59)), (b30, .inl (G.2 1, 4, .inr (.inl y_911))), (b29, .inl (G.2 1, 4, .inr (.inl f_525))), (b47, .inl (G.2 0, 401, .inl y_913)), (b48, .inl (G.2 0, 401, .inl y_914)), (b49, .inl (G.2 0, 401, .inl y_915)), (b50, .inl (G.2 1, 8, .inr (.inl y_916))), (b0, .inr (12, [.int b1, .ref b2, .ref b3, .ref b4, .ref b5, .int b6, .ref b7, .int b8, .int b9, .int b10, .int b11, .ref b12, .ref b13, .ref b14, .int b15, .ref b16, .ref b17, .ref b18, .ref b19, .ref b20, .ref b21, .ref b22, .ref b23, .ref b24, .ref b25, .ref b26, .ref b27, .int b28, .ref b29, .ref b30, .int b31, .int b32, .int b33, .int b34, .ref b35, .ref b36, .ref b37, .ref b38, .ref b39, .ref b40, .ref b41, .int b42, .ref b43, .ref b44, .int b45, .ref b46, .ref b47, .ref b48, .ref b49, .ref b50, .int y_910, .ref b52, .ref b53, .ref b54])), (b22, .inl (G.2 0, 2, .inl b56)), (b25, .inl (G.2 0, 482, .inl b57)), (b46, .inl (G.2 1, 3208, .inr (.inl y_912)))] H := hP
              have hD := z_tie hP hD rfl
              refine W.widen (k := 0) (n := 0) (Nat.le_of_ble_eq_true rfl) (Nat.le_of_ble_eq_true rfl) ?_
              refine lv_aload_n hx hb d_Model_partsAt_81 rfl (lv_at hl 2 rfl) ?_
              refine lv_iconst (v := 1) hx hb d_Model_partsAt_82 (by decide) ?_
              refine lv_aload_n hx hb d_Model_partsAt_83 rfl (lv_at hl 2 rfl) ?_
              refine va_get (D := G.1) (ci := 12) (v := .ref b46) (C := R_Model) (T := F_Model) (N := 54) hx hb hts i_Model hown hK hP 9 rfl rfl 45 (by decide) (hts _ q1154) (fun _ h9 => h9) rfl d_Model_partsAt_84 ?_
              refine lv_bipush (v := 8) hx hb d_Model_partsAt_87 (by decide) ?_
              refine lv_iload_n hx hb d_Model_partsAt_89 rfl (lv_at hl 0 rfl) ?_
              refine lv_imul hx hb d_Model_partsAt_90 ?_
              refine lv_topi (fun v_926 ev_926 => ?_)
              obtain rfl : v_923 = v_926 := ev_923.trans ev_926.symm
              refine lv_iconst (v := 4) hx hb d_Model_partsAt_91 (by decide) ?_
              refine lv_iadd hx hb d_Model_partsAt_92 ?_
              refine lv_topi (fun v_927 ev_927 => ?_)
              obtain ⟨qv_927, hv_927⟩ := zI_add (l := 4) (h := 3196) hv_923 zc_4 ev_927 (by decide)
              rw [li_4] at qv_927
              refine z_callV (index := 286) (As := [.int 1, .ref b46, .int v_927]) (rest := [.int x_925]) (wr := [(b2, .inl (G.2 0, 503, .inl b55)), (b26, .inl (G.2 0, 2, .inl b58)), (b27, .inl (G.2 0, 2880, .inl b59)), (b30, .inl (G.2 1, 4, .inr (.inl y_911))), (b29, .inl (G.2 1, 4, .inr (.inl f_525))), (b47, .inl (G.2 0, 401, .inl y_913)), (b48, .inl (G.2 0, 401, .inl y_914)), (b49, .inl (G.2 0, 401, .inl y_915)), (b50, .inl (G.2 1, 8, .inr (.inl y_916)))]) Z (s8_Model_takes l G (b0) (b46) (v_927) (b1) (b2) (b3) (b4) (b5) (b6) (b7) (b8) (b9) (b10) (b11) (b12) (b13) (b14) (b15) (b16) (b17) (b18) (b19) (b20) (b21) (b22) (b23) (b24) (b25) (b26) (b27) (b28) (b29) (b30) (b31) (b32) (b33) (b34) (b35) (b36) (b37) (b38) (b39) (b40) (b41) (b42) (b43) (b44) (b45) (b47) (b48) (b49) (b50) (y_910) (b52) (b53) (b54) (b56) (b57) (y_912) (zI.wk (l' := 0) (h' := 3204) hv_927 (by decide)) hb6 hb8 hb9 hb11 hb15 hb28 hb31 hb42 hb45 (zI.wk (l' := 0) (h' := 400) hv_922 (by decide)) hb56) hl.1 q1467 q1469 qs77 q14 q1470 ⟨by decide, by decide, by show _ = some 3; decide +kernel⟩ ⟨Nat.le_of_ble_eq_true rfl, Nat.le_of_ble_eq_true rfl⟩ ⟨Nat.le_of_ble_eq_true rfl, Nat.le_of_ble_eq_true rfl⟩ rfl (Nat.le_of_ble_eq_true rfl) d_Model_partsAt_93 hP hD hS hA 9 12 rfl rfl rfl [9, 10, 11, 12] [0, 1, 2, 3, 4, 5, 6, 7, 8] rfl rfl rfl rfl (by decide) (fun v w1 H locs hw_928 hP hD hS => ?_)
              obtain ⟨x_929, rfl, rfl, hx_929⟩ := hw_928
              have hP : va_P G.1 classes [(b2, .inl (G.2 0, 503, .inl b55)), (b26, .inl (G.2 0, 2, .inl b58)), (b27, .inl (G.2 0, 2880, .inl b59)), (b30, .inl (G.2 1, 4, .inr (.inl y_911))), (b29, .inl (G.2 1, 4, .inr (.inl f_525))), (b47, .inl (G.2 0, 401, .inl y_913)), (b48, .inl (G.2 0, 401, .inl y_914)), (b49, .inl (G.2 0, 401, .inl y_915)), (b50, .inl (G.2 1, 8, .inr (.inl y_916))), (b0, .inr (12, [.int b1, .ref b2, .ref b3, .ref b4, .ref b5, .int b6, .ref b7, .int b8, .int b9, .int b10, .int b11, .ref b12, .ref b13, .ref b14, .int b15, .ref b16, .ref b17, .ref b18, .ref b19, .ref b20, .ref b21, .ref b22, .ref b23, .ref b24, .ref b25, .ref b26, .ref b27, .int b28, .ref b29, .ref b30, .int b31, .int b32, .int b33, .int b34, .ref b35, .ref b36, .ref b37, .ref b38, .ref b39, .ref b40, .ref b41, .int b42, .ref b43, .ref b44, .int b45, .ref b46, .ref b47, .ref b48, .ref b49, .ref b50, .int y_910, .ref b52, .ref b53, .ref b54])), (b22, .inl (G.2 0, 2, .inl b56)), (b25, .inl (G.2 0, 482, .inl b57)), (b46, .inl (G.2 1, 3208, .inr (.inl y_912)))] H := hP
              have hD := z_tie hP hD rfl
              refine W.widen (k := 0) (n := 0) (Nat.le_of_ble_eq_true rfl) (Nat.le_of_ble_eq_true rfl) ?_
              refine lv_icmp_eq (tgt := 101) hx hb d_Model_partsAt_96 (by decide) (fun hc_930 => ?_) (fun hc_930 => ?_)
              · have _nhc_930 := hc_930
                have ni_931 := (fa_eq _ _).mp hc_930
                refine lv_iconst (v := 0) hx hb d_Model_partsAt_101 (by decide) ?_
                refine lv_istore_n (lv' := [(2, .int 0), (1, .int y_908), (0, .ref b0)]) hx hb d_Model_partsAt_102 rfl hl (by decide) rfl (fun ls hl => ?_)
                suffices key : ∀ (k_978 : Nat) (y_979 : Int32) (y_980 : Int32) (y_981 : Nat → Int64) (y_982 : Nat → Int64) (y_983 : Nat → Int32) (y_984 : Nat → Int32) (y_985 : Nat → Int32) (y_986 : Nat → Int64) (H : Heap) (locs : List Loc) (ls : Array Slot), (zI y_979 0 10) → (zI y_980 0 400) → (zR y_983 (-1) 399) → (zR y_985 0 8) → (zTw (y_980 : Int32).toInt y_985 y_983) → ((y_908 : Int32).toInt < (y_980 : Int32).toInt) → (10 : Int) - y_979.toInt < (k_978 : Int) → va_P G.1 classes [(b2, .inl (G.2 0, 503, .inl b55)), (b26, .inl (G.2 0, 2, .inl b58)), (b27, .inl (G.2 0, 2880, .inl b59)), (b30, .inl (G.2 1, 4, .inr (.inl y_981))), (b29, .inl (G.2 1, 4, .inr (.inl f_525))), (b47, .inl (G.2 0, 401, .inl y_983)), (b48, .inl (G.2 0, 401, .inl y_984)), (b49, .inl (G.2 0, 401, .inl y_985)), (b50, .inl (G.2 1, 8, .inr (.inl y_986))), (b0, .inr (12, [.int b1, .ref b2, .ref b3, .ref b4, .ref b5, .int b6, .ref b7, .int b8, .int b9, .int b10, .int b11, .ref b12, .ref b13, .ref b14, .int b15, .ref b16, .ref b17, .ref b18, .ref b19, .ref b20, .ref b21, .ref b22, .ref b23, .ref b24, .ref b25, .ref b26, .ref b27, .int b28, .ref b29, .ref b30, .int b31, .int b32, .int b33, .int b34, .ref b35, .ref b36, .ref b37, .ref b38, .ref b39, .ref b40, .ref b41, .int b42, .ref b43, .ref b44, .int b45, .ref b46, .ref b47, .ref b48, .ref b49, .ref b50, .int y_980, .ref b52, .ref b53, .ref b54])), (b22, .inl (G.2 0, 2, .inl b56)), (b25, .inl (G.2 0, 482, .inl b57)), (b46, .inl (G.2 1, 3208, .inr (.inl y_982)))] H → va_D A [(b2, .inl (G.2 0, 503, .inl b55)), (b26, .inl (G.2 0, 2, .inl b58)), (b27, .inl (G.2 0, 2880, .inl b59)), (b30, .inl (G.2 1, 4, .inr (.inl y_981))), (b29, .inl (G.2 1, 4, .inr (.inl f_525))), (b47, .inl (G.2 0, 401, .inl y_983)), (b48, .inl (G.2 0, 401, .inl y_984)), (b49, .inl (G.2 0, 401, .inl y_985)), (b50, .inl (G.2 1, 8, .inr (.inl y_986))), (b0, .inr (12, [.int b1, .ref b2, .ref b3, .ref b4, .ref b5, .int b6, .ref b7, .int b8, .int b9, .int b10, .int b11, .ref b12, .ref b13, .ref b14, .int b15, .ref b16, .ref b17, .ref b18, .ref b19, .ref b20, .ref b21, .ref b22, .ref b23, .ref b24, .ref b25, .ref b26, .ref b27, .int b28, .ref b29, .ref b30, .int b31, .int b32, .int b33, .int b34, .ref b35, .ref b36, .ref b37, .ref b38, .ref b39, .ref b40, .ref b41, .int b42, .ref b43, .ref b44, .int b45, .ref b46, .ref b47, .ref b48, .ref b49, .ref b50, .int y_980, .ref b52, .ref b53, .ref b54])), (b22, .inl (G.2 0, 2, .inl b56)), (b25, .inl (G.2 0, 482, .inl b57)), (b46, .inl (G.2 1, 3208, .inr (.inl y_982)))] → va_S A s.heap H locs → lv_has ls 3 [(2, .int y_979), (1, .int y_908), (0, .ref b0)] → W p l e m_s2_Model_partsAt s m ([.ref b0] : List Value).toArray below meth c H locs 0 0 (MQ below (zQ G (fun v w => ∃ (e0 : Int32), ∃ (e1 : Int32), ∃ (e2 : Nat → Int64), ∃ (e3 : Nat → Int64), ∃ (e4 : Nat → Int64), ∃ (e5 : Nat → Int32), ∃ (e6 : Nat → Int32), ∃ (e7 : Nat → Int32), ∃ (e8 : Nat → Int64), v = some (.int e0) ∧ w = [(b0, .inr (12, [.int b1, .ref b2, .ref b3, .ref b4, .ref b5, .int b6, .ref b7, .int b8, .int b9, .int b10, .int b11, .ref b12, .ref b13, .ref b14, .int b15, .ref b16, .ref b17, .ref b18, .ref b19, .ref b20, .ref b21, .ref b22, .ref b23, .ref b24, .ref b25, .ref b26, .ref b27, .int b28, .ref b29, .ref b30, .int b31, .int b32, .int b33, .int b34, .ref b35, .ref b36, .ref b37, .ref b38, .ref b39, .ref b40, .ref b41, .int b42, .ref b43, .ref b44, .int b45, .ref b46, .ref b47, .ref b48, .ref b49, .ref b50, .int e1, .ref b52, .ref b53, .ref b54])), (b2, .inl (G.2 0, 503, .inl b55)), (b22, .inl (G.2 0, 2, .inl b56)), (b25, .inl (G.2 0, 482, .inl b57)), (b26, .inl (G.2 0, 2, .inl b58)), (b27, .inl (G.2 0, 2880, .inl b59)), (b29, .inl (G.2 1, 4, .inr (.inl e2))), (b30, .inl (G.2 1, 4, .inr (.inl e3))), (b46, .inl (G.2 1, 3208, .inr (.inl e4))), (b47, .inl (G.2 0, 401, .inl e5)), (b48, .inl (G.2 0, 401, .inl e6)), (b49, .inl (G.2 0, 401, .inl e7)), (b50, .inl (G.2 1, 8, .inr (.inl e8)))] ∧ (zI e0 (-2) 399) ∧ (zI e1 0 400) ∧ (zR e5 (-1) 399) ∧ (zR e7 0 8) ∧ ((e0 : Int32).toInt < 0 ∨ (e0 : Int32).toInt < (e1 : Int32).toInt) ∧ (zTw (e1 : Int32).toInt e7 e5)) A) ([.ref b0] : List Value).toArray s m_s2_Model_partsAt.cells m_s2_Model_partsAt.slots A) (F0 m 103 ls []) by
                  exact key 11 (0) (y_910) (y_911) (y_912) (y_913) (y_914) (y_915) (y_916) _ _ _ (zI.wk (l' := 0) (h' := 10) zc_0 (by decide)) (zI.wk (l' := 0) (h' := 400) hv_922 (by decide)) hy_913 hy_915 hli_917 (by omega) (zm_upi (zI.wk (l' := 0) (h' := 10) zc_0 (by decide)) (by decide)) hP hD hS (lv_sub hl [0, 1, 2] rfl)
                intro k_978
                induction k_978 with
                | zero =>
                  intro y_979 y_980 y_981 y_982 y_983 y_984 y_985 y_986 H locs ls hy_979 hy_980 hy_983 hy_985 hli_987 hli_988 hmk_978 hP hD hS hl
                  exact (zm_up0 hy_979 hmk_978).elim
                | succ k_978 ihk_978 =>
                  intro y_979 y_980 y_981 y_982 y_983 y_984 y_985 y_986 H locs ls hy_979 hy_980 hy_983 hy_985 hli_987 hli_988 hmk_978 hP hD hS hl
                  refine lv_iload_n hx hb d_Model_partsAt_103 rfl (lv_at hl 0 rfl) ?_
                  refine lv_bipush (v := 10) hx hb d_Model_partsAt_104 (by decide) ?_
                  refine lv_icmp_ge (tgt := 158) hx hb d_Model_partsAt_106 (by decide) (fun hc_989 => ?_) (fun hc_989 => ?_)
                  · have _nhc_989 := hc_989
                    have ni_990 := (fa_le _ _).mp hc_989
                    rw [li_10] at ni_990
                    have hv_991 : zI y_979 10 10 := zI.le_r zc_10 hy_979 hc_989 (by decide)
                    obtain ⟨v_992, ev_992⟩ : ∃ z : Int32, z = y_908 + 1 := ⟨_, rfl⟩
                    obtain ⟨qv_992, hv_992⟩ := zI_add (l := 1) (h := 400) hv_921 zc_1 ev_992 (by decide)
                    rw [li_1] at qv_992
                    refine lv_iinc (v := v_992) (lv' := [(1, .int v_992), (2, .int y_979), (0, .ref b0)]) hx hb d_Model_partsAt_158 hl (k := 1) rfl (by rw [ev_992]; rfl) (by decide) rfl (fun ls hl => ?_)
                    refine lv_goto (tgt := 60) hx hb d_Model_partsAt_161 (by decide) ?_
                    exact ihk_907 (v_992) (y_979) (y_980) (y_981) (y_982) (y_983) (y_984) (y_985) (y_986) _ _ _ (zI.wk (l' := 0) (h' := 400) hv_992 (by decide)) (zI.wk (l' := 0) (h' := 10) hv_991 (by decide)) hy_980 hy_983 hy_985 hli_987 (zm_up qv_992 hmk_907 (by decide)) (hP.sub [0, 11, 1, 2, 3, 10, 4, 9, 12, 5, 6, 7, 8] rfl) (hD.sub [0, 11, 1, 2, 3, 10, 4, 9, 12, 5, 6, 7, 8] (by decide) rfl) hS (lv_sub hl [0, 1, 2] rfl)
                  · have _nhc_989 := hc_989
                    have ni_993 := (fa_lt _ _).mp (zi_nle hc_989)
                    rw [li_10] at ni_993
                    have hv_994 : zI y_979 0 9 := zI.lt_l hy_979 zc_10 (zi_nle hc_989) (by decide)
                    refine lv_aload_n hx hb d_Model_partsAt_109 rfl (lv_at hl 2 rfl) ?_
                    refine va_get (D := G.1) (ci := 12) (v := .ref b49) (C := R_Model) (T := F_Model) (N := 54) hx hb hts i_Model hown hK hP 9 rfl rfl 48 (by decide) (hts _ q1157) (fun _ h9 => h9) rfl d_Model_partsAt_110 ?_
                    refine lv_iload_n hx hb d_Model_partsAt_113 rfl (lv_at hl 1 rfl) ?_
                    refine va_iald hx hb hK hP 7 0 rfl rfl (zI.inn hv_921 (by decide)) d_Model_partsAt_114 ?_
                    refine lv_topi (fun v_995 ev_995 => ?_)
                    have hv_995 : zI v_995 0 8 := (hy_985 _).eq ev_995
                    refine lv_bipush (v := 8) hx hb d_Model_partsAt_115 (by decide) ?_
                    refine lv_icmp_ge (tgt := 158) hx hb d_Model_partsAt_117 (by decide) (fun hc_996 => ?_) (fun hc_996 => ?_)
                    · have _nhc_996 := hc_996
                      have ni_997 := (fa_le _ _).mp hc_996
                      rw [li_8] at ni_997
                      have hv_998 : zI v_995 8 8 := zI.le_r zc_8 hv_995 hc_996 (by decide)
                      obtain ⟨v_999, ev_999⟩ : ∃ z : Int32, z = y_908 + 1 := ⟨_, rfl⟩
                      obtain ⟨qv_999, hv_999⟩ := zI_add (l := 1) (h := 400) hv_921 zc_1 ev_999 (by decide)
                      rw [li_1] at qv_999
                      refine lv_iinc (v := v_999) (lv' := [(1, .int v_999), (2, .int y_979), (0, .ref b0)]) hx hb d_Model_partsAt_158 hl (k := 1) rfl (by rw [ev_999]; rfl) (by decide) rfl (fun ls hl => ?_)
                      refine lv_goto (tgt := 60) hx hb d_Model_partsAt_161 (by decide) ?_
                      exact ihk_907 (v_999) (y_979) (y_980) (y_981) (y_982) (y_983) (y_984) (y_985) (y_986) _ _ _ (zI.wk (l' := 0) (h' := 400) hv_999 (by decide)) (zI.wk (l' := 0) (h' := 10) hv_994 (by decide)) hy_980 hy_983 hy_985 hli_987 (zm_up qv_999 hmk_907 (by decide)) (hP.sub [0, 11, 1, 2, 3, 10, 4, 9, 12, 5, 6, 7, 8] rfl) (hD.sub [0, 11, 1, 2, 3, 10, 4, 9, 12, 5, 6, 7, 8] (by decide) rfl) hS (lv_sub hl [0, 1, 2] rfl)
                    · have _nhc_996 := hc_996
                      have ni_1000 := (fa_lt _ _).mp (zi_nle hc_996)
                      rw [li_8] at ni_1000
                      have hv_1001 : zI v_995 0 7 := zI.lt_l hv_995 zc_8 (zi_nle hc_996) (by decide)
                      refine lv_aload_n hx hb d_Model_partsAt_120 rfl (lv_at hl 2 rfl) ?_
                      refine lv_iload_n hx hb d_Model_partsAt_121 rfl (lv_at hl 1 rfl) ?_
                      refine lv_iload_n hx hb d_Model_partsAt_122 rfl (lv_at hl 0 rfl) ?_
                      refine z_callV (index := 344) (As := [.int y_908, .int y_979]) (rest := []) (wr := [(b29, .inl (G.2 1, 4, .inr (.inl f_525))), (b47, .inl (G.2 0, 401, .inl y_983)), (b48, .inl (G.2 0, 401, .inl y_984)), (b49, .inl (G.2 0, 401, .inl y_985)), (b22, .inl (G.2 0, 2, .inl b56)), (b25, .inl (G.2 0, 482, .inl b57))]) Z (s2_Model_stepTwo l G (b0) (y_908) (y_979) (b1) (b2) (b3) (b4) (b5) (b6) (b7) (b8) (b9) (b10) (b11) (b12) (b13) (b14) (b15) (b16) (b17) (b18) (b19) (b20) (b21) (b22) (b23) (b24) (b25) (b26) (b27) (b28) (b29) (b30) (b31) (b32) (b33) (b34) (b35) (b36) (b37) (b38) (b39) (b40) (b41) (b42) (b43) (b44) (b45) (b46) (b47) (b48) (b49) (b50) (y_980) (b52) (b53) (b54) (b55) (b58) (b59) (y_981) (y_982) (y_986) hv_921 hv_994 hb6 hb8 hb9 hb11 hb15 hb28 hb31 hb42 hb45 hy_980 hb55 hb58 hb59) hl.1 q1529 q1531 qs85 q14 q1532 ⟨by decide, by decide, by show _ = some 2; decide +kernel⟩ ⟨Nat.le_of_ble_eq_true rfl, Nat.le_of_ble_eq_true rfl⟩ ⟨Nat.le_of_ble_eq_true rfl, Nat.le_of_ble_eq_true rfl⟩ rfl (Nat.le_of_ble_eq_true rfl) d_Model_partsAt_123 hP hD hS hA 9 12 rfl rfl rfl [9, 0, 1, 2, 3, 12, 8] [4, 5, 6, 7, 10, 11] rfl rfl rfl rfl (by decide) (fun v w1 H locs hw_1002 hP hD hS => ?_)
                      obtain ⟨f_1003, f_1004, rfl, rfl⟩ := hw_1002
                      have hP : va_P G.1 classes [(b29, .inl (G.2 1, 4, .inr (.inl f_525))), (b47, .inl (G.2 0, 401, .inl y_983)), (b48, .inl (G.2 0, 401, .inl y_984)), (b49, .inl (G.2 0, 401, .inl y_985)), (b22, .inl (G.2 0, 2, .inl b56)), (b25, .inl (G.2 0, 482, .inl b57)), (b0, .inr (12, [.int b1, .ref b2, .ref b3, .ref b4, .ref b5, .int b6, .ref b7, .int b8, .int b9, .int b10, .int b11, .ref b12, .ref b13, .ref b14, .int b15, .ref b16, .ref b17, .ref b18, .ref b19, .ref b20, .ref b21, .ref b22, .ref b23, .ref b24, .ref b25, .ref b26, .ref b27, .int b28, .ref b29, .ref b30, .int b31, .int b32, .int b33, .int b34, .ref b35, .ref b36, .ref b37, .ref b38, .ref b39, .ref b40, .ref b41, .int b42, .ref b43, .ref b44, .int b45, .ref b46, .ref b47, .ref b48, .ref b49, .ref b50, .int y_980, .ref b52, .ref b53, .ref b54])), (b2, .inl (G.2 0, 503, .inl b55)), (b26, .inl (G.2 0, 2, .inl b58)), (b27, .inl (G.2 0, 2880, .inl b59)), (b30, .inl (G.2 1, 4, .inr (.inl f_1003))), (b46, .inl (G.2 1, 3208, .inr (.inl y_982))), (b50, .inl (G.2 1, 8, .inr (.inl f_1004)))] H := hP
                      have hD := z_tie hP hD rfl
                      refine W.widen (k := 0) (n := 0) (Nat.le_of_ble_eq_true rfl) (Nat.le_of_ble_eq_true rfl) ?_
                      refine lv_aload_n hx hb d_Model_partsAt_126 rfl (lv_at hl 2 rfl) ?_
                      refine z_callV (index := 347) (As := []) (rest := []) (wr := [(b29, .inl (G.2 1, 4, .inr (.inl f_525))), (b47, .inl (G.2 0, 401, .inl y_983)), (b48, .inl (G.2 0, 401, .inl y_984)), (b49, .inl (G.2 0, 401, .inl y_985)), (b22, .inl (G.2 0, 2, .inl b56)), (b25, .inl (G.2 0, 482, .inl b57)), (b2, .inl (G.2 0, 503, .inl b55)), (b26, .inl (G.2 0, 2, .inl b58)), (b27, .inl (G.2 0, 2880, .inl b59)), (b30, .inl (G.2 1, 4, .inr (.inl f_1003)))]) Z (s2_Model_isKnown l G (b0) (b1) (b2) (b3) (b4) (b5) (b6) (b7) (b8) (b9) (b10) (b11) (b12) (b13) (b14) (b15) (b16) (b17) (b18) (b19) (b20) (b21) (b22) (b23) (b24) (b25) (b26) (b27) (b28) (b29) (b30) (b31) (b32) (b33) (b34) (b35) (b36) (b37) (b38) (b39) (b40) (b41) (b42) (b43) (b44) (b45) (b46) (b47) (b48) (b49) (b50) (y_980) (b52) (b53) (b54) (y_982) (f_1004) hb6 hb8 hb9 hb11 hb15 hb28 hb31 hb42 hb45 hy_980) hl.1 q1533 q1535 qs86 q14 q1536 ⟨by decide, by decide, by show _ = some 0; decide +kernel⟩ ⟨Nat.le_of_ble_eq_true rfl, Nat.le_of_ble_eq_true rfl⟩ ⟨Nat.le_of_ble_eq_true rfl, Nat.le_of_ble_eq_true rfl⟩ rfl (Nat.le_of_ble_eq_true rfl) d_Model_partsAt_127 hP hD hS hA 6 12 rfl rfl rfl [6, 11, 12] [0, 1, 2, 3, 4, 5, 7, 8, 9, 10] rfl rfl rfl rfl (by decide) (fun v w1 H locs hw_1005 hP hD hS => ?_)
                      obtain ⟨x_1006, rfl, rfl, hx_1006⟩ := hw_1005
                      have hP : va_P G.1 classes [(b29, .inl (G.2 1, 4, .inr (.inl f_525))), (b47, .inl (G.2 0, 401, .inl y_983)), (b48, .inl (G.2 0, 401, .inl y_984)), (b49, .inl (G.2 0, 401, .inl y_985)), (b22, .inl (G.2 0, 2, .inl b56)), (b25, .inl (G.2 0, 482, .inl b57)), (b2, .inl (G.2 0, 503, .inl b55)), (b26, .inl (G.2 0, 2, .inl b58)), (b27, .inl (G.2 0, 2880, .inl b59)), (b30, .inl (G.2 1, 4, .inr (.inl f_1003))), (b0, .inr (12, [.int b1, .ref b2, .ref b3, .ref b4, .ref b5, .int b6, .ref b7, .int b8, .int b9, .int b10, .int b11, .ref b12, .ref b13, .ref b14, .int b15, .ref b16, .ref b17, .ref b18, .ref b19, .ref b20, .ref b21, .ref b22, .ref b23, .ref b24, .ref b25, .ref b26, .ref b27, .int b28, .ref b29, .ref b30, .int b31, .int b32, .int b33, .int b34, .ref b35, .ref b36, .ref b37, .ref b38, .ref b39, .ref b40, .ref b41, .int b42, .ref b43, .ref b44, .int b45, .ref b46, .ref b47, .ref b48, .ref b49, .ref b50, .int y_980, .ref b52, .ref b53, .ref b54])), (b46, .inl (G.2 1, 3208, .inr (.inl y_982))), (b50, .inl (G.2 1, 8, .inr (.inl f_1004)))] H := hP
                      have hD := z_tie hP hD rfl
                      refine W.widen (k := 0) (n := 0) (Nat.le_of_ble_eq_true rfl) (Nat.le_of_ble_eq_true rfl) ?_
                      refine lv_if_ne (tgt := 152) hx hb d_Model_partsAt_130 (by decide) (fun hc_1007 => ?_) (fun hc_1007 => ?_)
                      · have _nhc_1007 := hc_1007
                        have ni_1008 : ¬ (x_1006 : Int32).toInt = (0 : Int32).toInt := fun z => hc_1007 ((fa_eq _ _).mpr z)
                        simp only [li_0] at ni_1008
                        have hv_1009 : zI x_1006 1 1 := zI.ne_lo hx_1006 zc_0 hc_1007 (by decide)
                        obtain ⟨v_1010, ev_1010⟩ : ∃ z : Int32, z = y_979 + 1 := ⟨_, rfl⟩
                        obtain ⟨qv_1010, hv_1010⟩ := zI_add (l := 1) (h := 10) hv_994 zc_1 ev_1010 (by decide)
                        rw [li_1] at qv_1010
                        refine lv_iinc (v := v_1010) (lv' := [(2, .int v_1010), (1, .int y_908), (0, .ref b0)]) hx hb d_Model_partsAt_152 hl (k := 0) rfl (by rw [ev_1010]; rfl) (by decide) rfl (fun ls hl => ?_)
                        refine lv_goto (tgt := 103) hx hb d_Model_partsAt_155 (by decide) ?_
                        exact ihk_978 (v_1010) (y_980) (f_1003) (y_982) (y_983) (y_984) (y_985) (f_1004) _ _ _ (zI.wk (l' := 0) (h' := 10) hv_1010 (by decide)) hy_980 hy_983 hy_985 hli_987 (by omega) (zm_up qv_1010 hmk_978 (by decide)) (hP.sub [6, 7, 8, 9, 0, 1, 2, 3, 12, 10, 4, 5, 11] rfl) (hD.sub [6, 7, 8, 9, 0, 1, 2, 3, 12, 10, 4, 5, 11] (by decide) rfl) hS (lv_sub hl [0, 1, 2] rfl)
                      · have _nhc_1007 := hc_1007
                        have ni_1011 := (fa_eq _ _).mp hc_1007
                        rw [li_0] at ni_1011
                        have hv_1012 : zI x_1006 0 0 := zI.eq_l hx_1006 zc_0 hc_1007
                        refine lv_aload_n hx hb d_Model_partsAt_133 rfl (lv_at hl 2 rfl) ?_
                        refine va_get (D := G.1) (ci := 12) (v := .int y_980) (C := R_Model) (T := F_Model) (N := 54) hx hb hts i_Model hown hK hP 10 rfl rfl 50 (by decide) (hts _ q1159) (fun _ h9 => h9) rfl d_Model_partsAt_134 ?_
                        refine lv_sipush (v := 400) hx hb d_Model_partsAt_137 (by decide) ?_
                        refine lv_icmp_ne (tgt := 146) hx hb d_Model_partsAt_140 (by decide) (fun hc_1013 => ?_) (fun hc_1013 => ?_)
                        · have _nhc_1013 := hc_1013
                          have ni_1014 : ¬ (y_980 : Int32).toInt = (400 : Int32).toInt := fun z => hc_1013 ((fa_eq _ _).mpr z)
                          simp only [li_400] at ni_1014
                          have hv_1015 : zI y_980 0 399 := zI.ne_hi hy_980 zc_400 hc_1013 (by decide)
                          refine lv_aload_n hx hb d_Model_partsAt_146 rfl (lv_at hl 2 rfl) ?_
                          refine lv_iload_n hx hb d_Model_partsAt_147 rfl (lv_at hl 1 rfl) ?_
                          refine lv_iload_n hx hb d_Model_partsAt_148 rfl (lv_at hl 0 rfl) ?_
                          refine z_callV (index := 341) (As := [.int y_908, .int y_979]) (rest := []) (wr := [(b29, .inl (G.2 1, 4, .inr (.inl f_525))), (b22, .inl (G.2 0, 2, .inl b56)), (b25, .inl (G.2 0, 482, .inl b57)), (b2, .inl (G.2 0, 503, .inl b55)), (b26, .inl (G.2 0, 2, .inl b58)), (b27, .inl (G.2 0, 2880, .inl b59)), (b30, .inl (G.2 1, 4, .inr (.inl f_1003)))]) Z (s2_Model_addTwo l G (b0) (y_908) (y_979) (b1) (b2) (b3) (b4) (b5) (b6) (b7) (b8) (b9) (b10) (b11) (b12) (b13) (b14) (b15) (b16) (b17) (b18) (b19) (b20) (b21) (b22) (b23) (b24) (b25) (b26) (b27) (b28) (b29) (b30) (b31) (b32) (b33) (b34) (b35) (b36) (b37) (b38) (b39) (b40) (b41) (b42) (b43) (b44) (b45) (b46) (b47) (b48) (b49) (b50) (y_980) (b52) (b53) (b54) (y_982) (y_983) (y_984) (y_985) (f_1004) (zI.wk (l' := (-1)) (h' := 399) hv_921 (by decide)) (zI.wk (l' := (-1)) (h' := 9) hv_994 (by decide)) hb6 hb8 hb9 hb11 hb15 hb28 hb31 hb42 hb45 (zI.wk (l' := 0) (h' := 400) hv_1015 (by decide)) hy_983 hy_985 (by omega) (Or.inr ⟨by omega, by rw [← ev_995]; omega⟩) hli_987) hl.1 q1525 q1527 qs84 q14 q1528 ⟨by decide, by decide, by show _ = some 2; decide +kernel⟩ ⟨Nat.le_of_ble_eq_true rfl, Nat.le_of_ble_eq_true rfl⟩ ⟨Nat.le_of_ble_eq_true rfl, Nat.le_of_ble_eq_true rfl⟩ rfl (Nat.le_of_ble_eq_true rfl) d_Model_partsAt_149 hP hD hS hA 10 12 rfl rfl rfl [10, 11, 1, 2, 3, 12] [0, 4, 5, 6, 7, 8, 9] rfl rfl rfl rfl (by decide) (fun v w1 H locs hw_1016 hP hD hS => ?_)
                          obtain ⟨x_1017, f_1018, f_1019, f_1020, f_1021, rfl, rfl, hx_1017, hf_1019, hf_1021, hfx_1022, hfx_1023⟩ := hw_1016
                          have hP : va_P G.1 classes [(b29, .inl (G.2 1, 4, .inr (.inl f_525))), (b22, .inl (G.2 0, 2, .inl b56)), (b25, .inl (G.2 0, 482, .inl b57)), (b2, .inl (G.2 0, 503, .inl b55)), (b26, .inl (G.2 0, 2, .inl b58)), (b27, .inl (G.2 0, 2880, .inl b59)), (b30, .inl (G.2 1, 4, .inr (.inl f_1003))), (b0, .inr (12, [.int b1, .ref b2, .ref b3, .ref b4, .ref b5, .int b6, .ref b7, .int b8, .int b9, .int b10, .int b11, .ref b12, .ref b13, .ref b14, .int b15, .ref b16, .ref b17, .ref b18, .ref b19, .ref b20, .ref b21, .ref b22, .ref b23, .ref b24, .ref b25, .ref b26, .ref b27, .int b28, .ref b29, .ref b30, .int b31, .int b32, .int b33, .int b34, .ref b35, .ref b36, .ref b37, .ref b38, .ref b39, .ref b40, .ref b41, .int b42, .ref b43, .ref b44, .int b45, .ref b46, .ref b47, .ref b48, .ref b49, .ref b50, .int x_1017, .ref b52, .ref b53, .ref b54])), (b46, .inl (G.2 1, 3208, .inr (.inl f_1018))), (b47, .inl (G.2 0, 401, .inl f_1019)), (b48, .inl (G.2 0, 401, .inl f_1020)), (b49, .inl (G.2 0, 401, .inl f_1021)), (b50, .inl (G.2 1, 8, .inr (.inl f_1004)))] H := hP
                          have hD := z_tie hP hD rfl
                          refine W.widen (k := 0) (n := 0) (Nat.le_of_ble_eq_true rfl) (Nat.le_of_ble_eq_true rfl) ?_
                          obtain ⟨v_1024, ev_1024⟩ : ∃ z : Int32, z = y_979 + 1 := ⟨_, rfl⟩
                          obtain ⟨qv_1024, hv_1024⟩ := zI_add (l := 1) (h := 10) hv_994 zc_1 ev_1024 (by decide)
                          rw [li_1] at qv_1024
                          refine lv_iinc (v := v_1024) (lv' := [(2, .int v_1024), (1, .int y_908), (0, .ref b0)]) hx hb d_Model_partsAt_152 hl (k := 0) rfl (by rw [ev_1024]; rfl) (by decide) rfl (fun ls hl => ?_)
                          refine lv_goto (tgt := 103) hx hb d_Model_partsAt_155 (by decide) ?_
                          exact ihk_978 (v_1024) (x_1017) (f_1003) (f_1018) (f_1019) (f_1020) (f_1021) (f_1004) _ _ _ (zI.wk (l' := 0) (h' := 10) hv_1024 (by decide)) hx_1017 hf_1019 hf_1021 hfx_1023 (by omega) (zm_up qv_1024 hmk_978 (by decide)) (hP.sub [3, 4, 5, 6, 0, 9, 10, 11, 12, 7, 1, 2, 8] rfl) (hD.sub [3, 4, 5, 6, 0, 9, 10, 11, 12, 7, 1, 2, 8] (by decide) rfl) hS (lv_sub hl [0, 1, 2] rfl)
                        · have _nhc_1013 := hc_1013
                          have ni_1025 := (fa_eq _ _).mp hc_1013
                          rw [li_400] at ni_1025
                          have hv_1026 : zI y_980 400 400 := zI.eq_l hy_980 zc_400 hc_1013
                          refine lv_bipush (v := (-2)) hx hb d_Model_partsAt_143 (by decide) ?_
                          exact z_iret hx hb hr hlocks (hP.sub [10, 6, 4, 5, 7, 8, 0, 9, 11, 1, 2, 3, 12] rfl) (hD.sub [10, 6, 4, 5, 7, 8, 0, 9, 11, 1, 2, 3, 12] (by decide) rfl) hS (Nat.le_of_ble_eq_true rfl) (Nat.le_of_ble_eq_true rfl) d_Model_partsAt_145 ⟨(-2), y_980, f_525, f_1003, y_982, y_983, y_984, y_985, f_1004, rfl, rfl, (zI.wk (l' := (-2)) (h' := 399) zc_m2 (by decide)), (zI.wk (l' := 0) (h' := 400) hv_1026 (by decide)), hy_983, hy_985, (by have _l0 := li_m2; omega), hli_987⟩
              · have _nhc_930 := hc_930
                have ni_1027 : ¬ (x_925 : Int32).toInt = (x_929 : Int32).toInt := fun z => hc_930 ((fa_eq _ _).mpr z)
                refine lv_iload_n hx hb d_Model_partsAt_99 rfl (lv_at hl 0 rfl) ?_
                exact z_iret hx hb hr hlocks (hP.sub [9, 0, 10, 11, 1, 2, 4, 3, 12, 5, 6, 7, 8] rfl) (hD.sub [9, 0, 10, 11, 1, 2, 4, 3, 12, 5, 6, 7, 8] (by decide) rfl) hS (Nat.le_of_ble_eq_true rfl) (Nat.le_of_ble_eq_true rfl) d_Model_partsAt_100 ⟨y_908, y_910, f_525, y_911, y_912, y_913, y_914, y_915, y_916, rfl, rfl, (zI.wk (l' := (-2)) (h' := 399) hv_921 (by decide)), (zI.wk (l' := 0) (h' := 400) hv_922 (by decide)), hy_913, hy_915, (by omega), hli_917⟩
        · have _nhc_780 := hc_780
          have ni_1028 := (fa_lt _ _).mp (zi_nle hc_780)
          rw [li_4] at ni_1028
          have hv_1029 : zI y_778 0 3 := zI.lt_l hy_778 zc_4 (zi_nle hc_780) (by decide)
          refine lv_aload_n hx hb d_Model_partsAt_24 rfl (lv_at hl 2 rfl) ?_
          refine va_get (D := G.1) (ci := 12) (v := .ref b50) (C := R_Model) (T := F_Model) (N := 54) hx hb hts i_Model hown hK hP 10 rfl rfl 49 (by decide) (hts _ q1158) (fun _ h9 => h9) rfl d_Model_partsAt_25 ?_
          refine lv_iconst (v := 4) hx hb d_Model_partsAt_28 (by decide) ?_
          refine lv_iload_n hx hb d_Model_partsAt_29 rfl (lv_at hl 1 rfl) ?_
          refine lv_imul hx hb d_Model_partsAt_30 ?_
          refine z_topi (y := 4) (by decide +kernel) ?_
          refine lv_iload_n hx hb d_Model_partsAt_31 rfl (lv_at hl 0 rfl) ?_
          refine lv_iadd hx hb d_Model_partsAt_32 ?_
          refine lv_topi (fun v_1030 ev_1030 => ?_)
          obtain ⟨qv_1030, hv_1030⟩ := zI_add (l := 4) (h := 7) zc_4 hv_1029 ev_1030 (by decide)
          rw [li_4] at qv_1030
          refine lv_aload_n hx hb d_Model_partsAt_33 rfl (lv_at hl 2 rfl) ?_
          refine va_get (D := G.1) (ci := 12) (v := .ref b29) (C := R_Model) (T := F_Model) (N := 54) hx hb hts i_Model hown hK hP 10 rfl rfl 28 (by decide) (hts _ q1137) (fun _ h9 => h9) rfl d_Model_partsAt_34 ?_
          refine lv_iload_n hx hb d_Model_partsAt_37 rfl (lv_at hl 0 rfl) ?_
          refine va_lald hx hb hK hP 12 1 rfl rfl (zI.inn hv_1029 (by decide)) d_Model_partsAt_38 ?_
          refine lv_topl (fun v_1031 ev_1031 => ?_)
          refine va_last hx hb hK hP hD hS 9 1 rfl rfl (zI.inn hv_1030 (by decide)) d_Model_partsAt_39 (fun H locs hP hD hS => ?_)
          obtain ⟨f_1032, hP, hD⟩ := z_newL 9 hP hD rfl
          have hP : va_P G.1 classes [(b2, .inl (G.2 0, 503, .inl b55)), (b25, .inl (G.2 0, 482, .inl b57)), (b26, .inl (G.2 0, 2, .inl b58)), (b27, .inl (G.2 0, 2880, .inl b59)), (b30, .inl (G.2 1, 4, .inr (.inl b61))), (b46, .inl (G.2 1, 3208, .inr (.inl b62))), (b47, .inl (G.2 0, 401, .inl b63)), (b48, .inl (G.2 0, 401, .inl b64)), (b49, .inl (G.2 0, 401, .inl b65)), (b50, .inl (G.2 1, 8, .inr (.inl f_1032))), (b0, .inr (12, [.int b1, .ref b2, .ref b3, .ref b4, .ref b5, .int b6, .ref b7, .int b8, .int b9, .int b10, .int b11, .ref b12, .ref b13, .ref b14, .int b15, .ref b16, .ref b17, .ref b18, .ref b19, .ref b20, .ref b21, .ref b22, .ref b23, .ref b24, .ref b25, .ref b26, .ref b27, .int b28, .ref b29, .ref b30, .int b31, .int b32, .int b33, .int b34, .ref b35, .ref b36, .ref b37, .ref b38, .ref b39, .ref b40, .ref b41, .int b42, .ref b43, .ref b44, .int b45, .ref b46, .ref b47, .ref b48, .ref b49, .ref b50, .int 0, .ref b52, .ref b53, .ref b54])), (b22, .inl (G.2 0, 2, .inl b56)), (b29, .inl (G.2 1, 4, .inr (.inl f_525)))] H := hP
          have hD := z_tie hP hD rfl
          obtain ⟨v_1033, ev_1033⟩ : ∃ z : Int32, z = y_778 + 1 := ⟨_, rfl⟩
          obtain ⟨qv_1033, hv_1033⟩ := zI_add (l := 1) (h := 4) hv_1029 zc_1 ev_1033 (by decide)
          rw [li_1] at qv_1033
          refine lv_iinc (v := v_1033) (lv' := [(2, .int v_1033), (1, .int 1), (0, .ref b0)]) hx hb d_Model_partsAt_40 hl (k := 0) rfl (by rw [ev_1033]; rfl) (by decide) rfl (fun ls hl => ?_)
          refine lv_goto (tgt := 19) hx hb d_Model_partsAt_43 (by decide) ?_
          exact ihk_777 (v_1033) (f_1032) _ _ _ (zI.wk (l' := 0) (h' := 4) hv_1033 (by decide)) (zm_up qv_1033 hmk_777 (by decide)) hP hD hS (lv_sub hl [0, 1, 2] rfl)
    · have _nhc_521 := hc_521
      have ni_1034 := (fa_lt _ _).mp (zi_nle hc_521)
      rw [li_4] at ni_1034
      have hv_1035 : zI y_519 0 3 := zI.lt_l hy_519 zc_4 (zi_nle hc_521) (by decide)
      refine lv_aload_n hx hb d_Model_partsAt_24 rfl (lv_at hl 2 rfl) ?_
      refine va_get (D := G.1) (ci := 12) (v := .ref b50) (C := R_Model) (T := F_Model) (N := 54) hx hb hts i_Model hown hK hP 10 rfl rfl 49 (by decide) (hts _ q1158) (fun _ h9 => h9) rfl d_Model_partsAt_25 ?_
      refine lv_iconst (v := 4) hx hb d_Model_partsAt_28 (by decide) ?_
      refine lv_iload_n hx hb d_Model_partsAt_29 rfl (lv_at hl 1 rfl) ?_
      refine lv_imul hx hb d_Model_partsAt_30 ?_
      refine z_topi (y := 0) (by decide +kernel) ?_
      refine lv_iload_n hx hb d_Model_partsAt_31 rfl (lv_at hl 0 rfl) ?_
      refine lv_iadd hx hb d_Model_partsAt_32 ?_
      refine lv_topi (fun v_1036 ev_1036 => ?_)
      obtain ⟨qv_1036, hv_1036⟩ := zI_add (l := 0) (h := 3) zc_0 hv_1035 ev_1036 (by decide)
      rw [li_0] at qv_1036
      refine lv_aload_n hx hb d_Model_partsAt_33 rfl (lv_at hl 2 rfl) ?_
      refine va_get (D := G.1) (ci := 12) (v := .ref b29) (C := R_Model) (T := F_Model) (N := 54) hx hb hts i_Model hown hK hP 10 rfl rfl 28 (by decide) (hts _ q1137) (fun _ h9 => h9) rfl d_Model_partsAt_34 ?_
      refine lv_iload_n hx hb d_Model_partsAt_37 rfl (lv_at hl 0 rfl) ?_
      refine va_lald hx hb hK hP 12 1 rfl rfl (zI.inn hv_1035 (by decide)) d_Model_partsAt_38 ?_
      refine lv_topl (fun v_1037 ev_1037 => ?_)
      refine va_last hx hb hK hP hD hS 9 1 rfl rfl (zI.inn hv_1036 (by decide)) d_Model_partsAt_39 (fun H locs hP hD hS => ?_)
      obtain ⟨f_1038, hP, hD⟩ := z_newL 9 hP hD rfl
      have hP : va_P G.1 classes [(b2, .inl (G.2 0, 503, .inl b55)), (b25, .inl (G.2 0, 482, .inl b57)), (b26, .inl (G.2 0, 2, .inl b58)), (b27, .inl (G.2 0, 2880, .inl b59)), (b30, .inl (G.2 1, 4, .inr (.inl b61))), (b46, .inl (G.2 1, 3208, .inr (.inl b62))), (b47, .inl (G.2 0, 401, .inl b63)), (b48, .inl (G.2 0, 401, .inl b64)), (b49, .inl (G.2 0, 401, .inl b65)), (b50, .inl (G.2 1, 8, .inr (.inl f_1038))), (b0, .inr (12, [.int b1, .ref b2, .ref b3, .ref b4, .ref b5, .int b6, .ref b7, .int b8, .int b9, .int b10, .int b11, .ref b12, .ref b13, .ref b14, .int b15, .ref b16, .ref b17, .ref b18, .ref b19, .ref b20, .ref b21, .ref b22, .ref b23, .ref b24, .ref b25, .ref b26, .ref b27, .int b28, .ref b29, .ref b30, .int b31, .int b32, .int b33, .int b34, .ref b35, .ref b36, .ref b37, .ref b38, .ref b39, .ref b40, .ref b41, .int b42, .ref b43, .ref b44, .int b45, .ref b46, .ref b47, .ref b48, .ref b49, .ref b50, .int 0, .ref b52, .ref b53, .ref b54])), (b22, .inl (G.2 0, 2, .inl b56)), (b29, .inl (G.2 1, 4, .inr (.inl f_2)))] H := hP
      have hD := z_tie hP hD rfl
      obtain ⟨v_1039, ev_1039⟩ : ∃ z : Int32, z = y_519 + 1 := ⟨_, rfl⟩
      obtain ⟨qv_1039, hv_1039⟩ := zI_add (l := 1) (h := 4) hv_1035 zc_1 ev_1039 (by decide)
      rw [li_1] at qv_1039
      refine lv_iinc (v := v_1039) (lv' := [(2, .int v_1039), (1, .int 0), (0, .ref b0)]) hx hb d_Model_partsAt_40 hl (k := 0) rfl (by rw [ev_1039]; rfl) (by decide) rfl (fun ls hl => ?_)
      refine lv_goto (tgt := 19) hx hb d_Model_partsAt_43 (by decide) ?_
      exact ihk_518 (v_1039) (f_1038) _ _ _ (zI.wk (l' := 0) (h' := 4) hv_1039 (by decide)) (zm_up qv_1039 hmk_518 (by decide)) hP hD hS (lv_sub hl [0, 1, 2] rfl)
theorem d_Model_apart_83 : decode prog_14_method_68_code 83 = .ok (.ireturn, 1) := by decide +kernel
theorem d_Model_apart_96 : decode prog_14_method_68_code 96 = .ok (.ireturn, 1) := by decide +kernel
theorem d_Model_apart_132 : decode prog_14_method_68_code 132 = .ok (.ireturn, 1) := by decide +kernel
abbrev m_s1_Model_apart : Room := { frames := 4, cells := 0, slots := 0, locals := 104 }
abbrev Q_s1_Model_apart (G : zG) (b0 : Nat) (b5 : Nat) (b6 : Nat) (b7 : Nat) (b8 : Nat) (b9 : Int32) (b10 : Nat) (b11 : Int32) (b12 : Int32) (b13 : Int32) (b14 : Int32) (b15 : Nat) (b16 : Nat) (b17 : Nat) (b18 : Int32) (b19 : Nat) (b20 : Nat) (b21 : Nat) (b22 : Nat) (b23 : Nat) (b24 : Nat) (b25 : Nat) (b26 : Nat) (b27 : Nat) (b28 : Nat) (b29 : Nat) (b30 : Nat) (b32 : Nat) (b33 : Nat) (b34 : Int32) (b35 : Int32) (b36 : Int32) (b37 : Int32) (b38 : Nat) (b39 : Nat) (b40 : Nat) (b41 : Nat) (b42 : Nat) (b43 : Nat) (b44 : Nat) (b45 : Int32) (b46 : Nat) (b47 : Nat) (b48 : Int32) (b49 : Nat) (b50 : Nat) (b51 : Nat) (b52 : Nat) (b53 : Nat) (b55 : Nat) (b56 : Nat) (b57 : Nat) (b58 : Nat → Int32) (e0 : Int32) (e1 : Int32) (e2 : Int32) (e3 : Nat → Int32) (e4 : Nat → Int32) (e5 : Nat → Int32) (e6 : Nat → Int32) (e7 : Nat → Int32) (e8 : Nat → Int32) (e9 : Nat → Int32) (e10 : Nat → Int32) (e11 : Nat → Int32) (e12 : Nat → Int32) (e13 : Nat → Int32) (e14 : Nat → Int32) (e15 : Nat → Int64) (e16 : Nat → Int64) (e17 : Nat → Int64) (e18 : Nat → Int32) (e19 : Nat → Int32) (e20 : Nat → Int32) (e21 : Nat → Int64) (v : Option Value) (w : va_W) : Prop := v = some (.int e0) ∧ w = [(b0, .inr (12, [.int 0, .ref b5, .ref b6, .ref b7, .ref b8, .int b9, .ref b10, .int b11, .int b12, .int b13, .int b14, .ref b15, .ref b16, .ref b17, .int b18, .ref b19, .ref b20, .ref b21, .ref b22, .ref b23, .ref b24, .ref b25, .ref b26, .ref b27, .ref b28, .ref b29, .ref b30, .int e1, .ref b32, .ref b33, .int b34, .int b35, .int b36, .int b37, .ref b38, .ref b39, .ref b40, .ref b41, .ref b42, .ref b43, .ref b44, .int b45, .ref b46, .ref b47, .int b48, .ref b49, .ref b50, .ref b51, .ref b52, .ref b53, .int e2, .ref b55, .ref b56, .ref b57])), (b5, .inl (G.2 0, 503, .inl b58)), (b19, .inl (G.2 0, 2, .inl e3)), (b20, .inl (G.2 0, 4820, .inl e4)), (b21, .inl (G.2 0, 520, .inl e5)), (b22, .inl (G.2 0, 9640, .inl e6)), (b23, .inl (G.2 0, 482, .inl e7)), (b24, .inl (G.2 0, 482, .inl e8)), (b25, .inl (G.2 0, 2, .inl e9)), (b26, .inl (G.2 0, 482, .inl e10)), (b27, .inl (G.2 0, 482, .inl e11)), (b28, .inl (G.2 0, 482, .inl e12)), (b29, .inl (G.2 0, 2, .inl e13)), (b30, .inl (G.2 0, 2880, .inl e14)), (b32, .inl (G.2 1, 4, .inr (.inl e15))), (b33, .inl (G.2 1, 4, .inr (.inl e16))), (b49, .inl (G.2 1, 3208, .inr (.inl e17))), (b50, .inl (G.2 0, 401, .inl e18)), (b51, .inl (G.2 0, 401, .inl e19)), (b52, .inl (G.2 0, 401, .inl e20)), (b53, .inl (G.2 1, 8, .inr (.inl e21)))] ∧ (zI e1 0 1) ∧ (zI e2 0 400) ∧ (zR e3 0 241) ∧ (zR e4 (-1) 240) ∧ (zqa qP e5) ∧ (zqa qC e7) ∧ (zR e8 0 240) ∧ (zR e9 0 241) ∧ (zR e10 0 240) ∧ (zR e13 0 240) ∧ (zqa qE e14) ∧ (zR e18 (-1) 399) ∧ (zR e20 0 8)
set_option maxHeartbeats 4000000 in
set_option maxRecDepth 100000 in
theorem s1_Model_apart (l : Launch) (G : zG) (b0 : Nat) (b1 : Int32) (b2 : Int32) (b3 : Int32) (b4 : Int32) (b5 : Nat) (b6 : Nat) (b7 : Nat) (b8 : Nat) (b9 : Int32) (b10 : Nat) (b11 : Int32) (b12 : Int32) (b13 : Int32) (b14 : Int32) (b15 : Nat) (b16 : Nat) (b17 : Nat) (b18 : Int32) (b19 : Nat) (b20 : Nat) (b21 : Nat) (b22 : Nat) (b23 : Nat) (b24 : Nat) (b25 : Nat) (b26 : Nat) (b27 : Nat) (b28 : Nat) (b29 : Nat) (b30 : Nat) (b31 : Int32) (b32 : Nat) (b33 : Nat) (b34 : Int32) (b35 : Int32) (b36 : Int32) (b37 : Int32) (b38 : Nat) (b39 : Nat) (b40 : Nat) (b41 : Nat) (b42 : Nat) (b43 : Nat) (b44 : Nat) (b45 : Int32) (b46 : Nat) (b47 : Nat) (b48 : Int32) (b49 : Nat) (b50 : Nat) (b51 : Nat) (b52 : Nat) (b53 : Nat) (b54 : Int32) (b55 : Nat) (b56 : Nat) (b57 : Nat) (b58 : Nat → Int32) (b59 : Nat → Int32) (b60 : Nat → Int32) (b61 : Nat → Int32) (b62 : Nat → Int32) (b63 : Nat → Int32) (b64 : Nat → Int32) (b65 : Nat → Int32) (b66 : Nat → Int32) (b67 : Nat → Int32) (b68 : Nat → Int32) (b69 : Nat → Int32) (b70 : Nat → Int32) (b71 : Nat → Int64) (b72 : Nat → Int64) (b73 : Nat → Int64) (b74 : Nat → Int32) (b75 : Nat → Int32) (b76 : Nat → Int32) (b77 : Nat → Int64) (hb9 : zI b9 0 8) (hb11 : zI b11 0 240) (hb12 : zI b12 0 240) (hb14 : zI b14 0 1) (hb18 : zI b18 0 12) (hb31 : zI b31 0 1) (hb34 : zI b34 0 1) (hb45 : zI b45 0 1000) (hb48 : zI b48 0 1000) (hb54 : zI b54 0 400) (hb58 : zW5 b58) (hb59 : zR b59 0 241) (hb60 : zR b60 (-1) 240) (hb61 : zqa qP b61) (hb63 : zqa qC b63) (hb64 : zR b64 0 240) (hb65 : zR b65 0 241) (hb66 : zR b66 0 240) (hb69 : zR b69 0 240) (hb70 : zqa qE b70) (hb74 : zR b74 (-1) 399) (hb76 : zR b76 0 8) : zM l G y_Model_apart prog_14_method_68_code 5 (Option.some Jvm.ClassFile.FieldType.int) m_s1_Model_apart [.ref b0, .int b1, .int b2, .int b3] [(b0, .inr (12, [.int b4, .ref b5, .ref b6, .ref b7, .ref b8, .int b9, .ref b10, .int b11, .int b12, .int b13, .int b14, .ref b15, .ref b16, .ref b17, .int b18, .ref b19, .ref b20, .ref b21, .ref b22, .ref b23, .ref b24, .ref b25, .ref b26, .ref b27, .ref b28, .ref b29, .ref b30, .int b31, .ref b32, .ref b33, .int b34, .int b35, .int b36, .int b37, .ref b38, .ref b39, .ref b40, .ref b41, .ref b42, .ref b43, .ref b44, .int b45, .ref b46, .ref b47, .int b48, .ref b49, .ref b50, .ref b51, .ref b52, .ref b53, .int b54, .ref b55, .ref b56, .ref b57])), (b5, .inl (G.2 0, 503, .inl b58)), (b19, .inl (G.2 0, 2, .inl b59)), (b20, .inl (G.2 0, 4820, .inl b60)), (b21, .inl (G.2 0, 520, .inl b61)), (b22, .inl (G.2 0, 9640, .inl b62)), (b23, .inl (G.2 0, 482, .inl b63)), (b24, .inl (G.2 0, 482, .inl b64)), (b25, .inl (G.2 0, 2, .inl b65)), (b26, .inl (G.2 0, 482, .inl b66)), (b27, .inl (G.2 0, 482, .inl b67)), (b28, .inl (G.2 0, 482, .inl b68)), (b29, .inl (G.2 0, 2, .inl b69)), (b30, .inl (G.2 0, 2880, .inl b70)), (b32, .inl (G.2 1, 4, .inr (.inl b71))), (b33, .inl (G.2 1, 4, .inr (.inl b72))), (b49, .inl (G.2 1, 3208, .inr (.inl b73))), (b50, .inl (G.2 0, 401, .inl b74)), (b51, .inl (G.2 0, 401, .inl b75)), (b52, .inl (G.2 0, 401, .inl b76)), (b53, .inl (G.2 1, 8, .inr (.inl b77)))] (fun v w => ∃ (e0 : Int32), ∃ (e1 : Int32), ∃ (e2 : Int32), ∃ (e3 : Nat → Int32), ∃ (e4 : Nat → Int32), ∃ (e5 : Nat → Int32), ∃ (e6 : Nat → Int32), ∃ (e7 : Nat → Int32), ∃ (e8 : Nat → Int32), ∃ (e9 : Nat → Int32), ∃ (e10 : Nat → Int32), ∃ (e11 : Nat → Int32), ∃ (e12 : Nat → Int32), ∃ (e13 : Nat → Int32), ∃ (e14 : Nat → Int32), ∃ (e15 : Nat → Int64), ∃ (e16 : Nat → Int64), ∃ (e17 : Nat → Int64), ∃ (e18 : Nat → Int32), ∃ (e19 : Nat → Int32), ∃ (e20 : Nat → Int32), ∃ (e21 : Nat → Int64), Q_s1_Model_apart G b0 b5 b6 b7 b8 b9 b10 b11 b12 b13 b14 b15 b16 b17 b18 b19 b20 b21 b22 b23 b24 b25 b26 b27 b28 b29 b30 b32 b33 b34 b35 b36 b37 b38 b39 b40 b41 b42 b43 b44 b45 b46 b47 b48 b49 b50 b51 b52 b53 b55 b56 b57 b58 e0 e1 e2 e3 e4 e5 e6 e7 e8 e9 e10 e11 e12 e13 e14 e15 e16 e17 e18 e19 e20 e21 v w) := by
  refine z_start (by decide +kernel) (Nat.le_of_ble_eq_true rfl) ?_
  intro p e s m below meth c A Z hr hnm hA hP hD hS ls hl
  have Z : zC p s m _ meth c prog_14_method_68_code 5 "TraceMachinesModel" G := Z
  obtain ⟨hx, hb, hml, hown, hts, hK, hN, hlocks⟩ := id Z
  have hl : lv_has ls 5 [(0, .ref b0), (1, .int b1), (2, .int b2), (3, .int b3)] := hl
  refine lv_aload_n hx hb d_Model_apart_0 rfl (lv_at hl 0 rfl) ?_
  refine lv_iconst (v := 0) hx hb d_Model_apart_1 (by decide) ?_
  refine va_put (D := G.1) (ci := 12) (v := .int 0) (ty := .int) (C := R_Model) (T := F_Model) (N := 54) hx hb hts i_Model t_Model t_Model_ok n_Model hown hK hP hD hS 0 rfl rfl 0 (by decide) (hts _ q1109) (fun _ h9 => h9) rfl (by decide +kernel) rfl rfl (Nat.le_of_ble_eq_true rfl) d_Model_apart_2 (fun H locs hP hD hS => ?_)
  have hP : va_P G.1 classes [(b0, .inr (12, [.int 0, .ref b5, .ref b6, .ref b7, .ref b8, .int b9, .ref b10, .int b11, .int b12, .int b13, .int b14, .ref b15, .ref b16, .ref b17, .int b18, .ref b19, .ref b20, .ref b21, .ref b22, .ref b23, .ref b24, .ref b25, .ref b26, .ref b27, .ref b28, .ref b29, .ref b30, .int b31, .ref b32, .ref b33, .int b34, .int b35, .int b36, .int b37, .ref b38, .ref b39, .ref b40, .ref b41, .ref b42, .ref b43, .ref b44, .int b45, .ref b46, .ref b47, .int b48, .ref b49, .ref b50, .ref b51, .ref b52, .ref b53, .int b54, .ref b55, .ref b56, .ref b57])), (b5, .inl (G.2 0, 503, .inl b58)), (b19, .inl (G.2 0, 2, .inl b59)), (b20, .inl (G.2 0, 4820, .inl b60)), (b21, .inl (G.2 0, 520, .inl b61)), (b22, .inl (G.2 0, 9640, .inl b62)), (b23, .inl (G.2 0, 482, .inl b63)), (b24, .inl (G.2 0, 482, .inl b64)), (b25, .inl (G.2 0, 2, .inl b65)), (b26, .inl (G.2 0, 482, .inl b66)), (b27, .inl (G.2 0, 482, .inl b67)), (b28, .inl (G.2 0, 482, .inl b68)), (b29, .inl (G.2 0, 2, .inl b69)), (b30, .inl (G.2 0, 2880, .inl b70)), (b32, .inl (G.2 1, 4, .inr (.inl b71))), (b33, .inl (G.2 1, 4, .inr (.inl b72))), (b49, .inl (G.2 1, 3208, .inr (.inl b73))), (b50, .inl (G.2 0, 401, .inl b74)), (b51, .inl (G.2 0, 401, .inl b75)), (b52, .inl (G.2 0, 401, .inl b76)), (b53, .inl (G.2 1, 8, .inr (.inl b77)))] H := hP
  have hD := z_tie hP hD rfl
  refine lv_iload_n hx hb d_Model_apart_5 rfl (lv_at hl 1 rfl) ?_
  refine lv_i2l (v := b1.toInt64) hx hb d_Model_apart_6 rfl ?_
  refine lv_lconst (v := 0) hx hb d_Model_apart_7 (by decide) ?_
  refine lv_ldc2 hx hb hown (hts _ q1520) d_Model_apart_8 ?_
  refine z_callS (index := 138) (As := [.long b1.toInt64, .long 0, .long 3]) (rest := []) (wr := [(b0, .inr (12, [.int 0, .ref b5, .ref b6, .ref b7, .ref b8, .int b9, .ref b10, .int b11, .int b12, .int b13, .int b14, .ref b15, .ref b16, .ref b17, .int b18, .ref b19, .ref b20, .ref b21, .ref b22, .ref b23, .ref b24, .ref b25, .ref b26, .ref b27, .ref b28, .ref b29, .ref b30, .int b31, .ref b32, .ref b33, .int b34, .int b35, .int b36, .int b37, .ref b38, .ref b39, .ref b40, .ref b41, .ref b42, .ref b43, .ref b44, .int b45, .ref b46, .ref b47, .int b48, .ref b49, .ref b50, .ref b51, .ref b52, .ref b53, .int b54, .ref b55, .ref b56, .ref b57])), (b5, .inl (G.2 0, 503, .inl b58)), (b19, .inl (G.2 0, 2, .inl b59)), (b20, .inl (G.2 0, 4820, .inl b60)), (b21, .inl (G.2 0, 520, .inl b61)), (b22, .inl (G.2 0, 9640, .inl b62)), (b23, .inl (G.2 0, 482, .inl b63)), (b24, .inl (G.2 0, 482, .inl b64)), (b25, .inl (G.2 0, 2, .inl b65)), (b26, .inl (G.2 0, 482, .inl b66)), (b27, .inl (G.2 0, 482, .inl b67)), (b28, .inl (G.2 0, 482, .inl b68)), (b29, .inl (G.2 0, 2, .inl b69)), (b30, .inl (G.2 0, 2880, .inl b70)), (b32, .inl (G.2 1, 4, .inr (.inl b71))), (b33, .inl (G.2 1, 4, .inr (.inl b72))), (b49, .inl (G.2 1, 3208, .inr (.inl b73))), (b50, .inl (G.2 0, 401, .inl b74)), (b51, .inl (G.2 0, 401, .inl b75)), (b52, .inl (G.2 0, 401, .inl b76)), (b53, .inl (G.2 1, 8, .inr (.inl b77)))]) Z (s2_Model_in l G (b1.toInt64) (0) (3)) hl.1 q1281 q1282 q14 q1283 ⟨by decide, by decide, by show _ = some 3; decide +kernel⟩ ⟨Nat.le_of_ble_eq_true rfl, Nat.le_of_ble_eq_true rfl⟩ ⟨Nat.le_of_ble_eq_true rfl, Nat.le_of_ble_eq_true rfl⟩ rfl (Nat.le_of_ble_eq_true rfl) d_Model_apart_11 hP hD hS hA [] [0, 1, 2, 3, 4, 5, 6, 7, 8, 9, 10, 11, 12, 13, 14, 15, 16, 17, 18, 19, 20] rfl rfl rfl rfl (by decide) (fun v w1 H locs hw_1 hP hD hS => ?_)
  rcases hw_1 with ⟨rfl, rfl, hq_2⟩ | ⟨rfl, rfl, hq_3, hq_4⟩ | ⟨rfl, rfl, hq_5, hq_6⟩
  · have hP : va_P G.1 classes [(b0, .inr (12, [.int 0, .ref b5, .ref b6, .ref b7, .ref b8, .int b9, .ref b10, .int b11, .int b12, .int b13, .int b14, .ref b15, .ref b16, .ref b17, .int b18, .ref b19, .ref b20, .ref b21, .ref b22, .ref b23, .ref b24, .ref b25, .ref b26, .ref b27, .ref b28, .ref b29, .ref b30, .int b31, .ref b32, .ref b33, .int b34, .int b35, .int b36, .int b37, .ref b38, .ref b39, .ref b40, .ref b41, .ref b42, .ref b43, .ref b44, .int b45, .ref b46, .ref b47, .int b48, .ref b49, .ref b50, .ref b51, .ref b52, .ref b53, .int b54, .ref b55, .ref b56, .ref b57])), (b5, .inl (G.2 0, 503, .inl b58)), (b19, .inl (G.2 0, 2, .inl b59)), (b20, .inl (G.2 0, 4820, .inl b60)), (b21, .inl (G.2 0, 520, .inl b61)), (b22, .inl (G.2 0, 9640, .inl b62)), (b23, .inl (G.2 0, 482, .inl b63)), (b24, .inl (G.2 0, 482, .inl b64)), (b25, .inl (G.2 0, 2, .inl b65)), (b26, .inl (G.2 0, 482, .inl b66)), (b27, .inl (G.2 0, 482, .inl b67)), (b28, .inl (G.2 0, 482, .inl b68)), (b29, .inl (G.2 0, 2, .inl b69)), (b30, .inl (G.2 0, 2880, .inl b70)), (b32, .inl (G.2 1, 4, .inr (.inl b71))), (b33, .inl (G.2 1, 4, .inr (.inl b72))), (b49, .inl (G.2 1, 3208, .inr (.inl b73))), (b50, .inl (G.2 0, 401, .inl b74)), (b51, .inl (G.2 0, 401, .inl b75)), (b52, .inl (G.2 0, 401, .inl b76)), (b53, .inl (G.2 1, 8, .inr (.inl b77)))] H := hP
    have hD := z_tie hP hD rfl
    try simp only [Int32.toInt_toInt64, ll_0] at hq_2
    have hv_7 : zI b1 (-2147483648) (-1) := by have _a := hq_2; have _b := (zI_all b1); have _c := zcl_0; simp only [Int32.toInt_toInt64] at *; exact ⟨by omega, by omega⟩
    refine W.widen (k := 0) (n := 0) (Nat.le_of_ble_eq_true rfl) (Nat.le_of_ble_eq_true rfl) ?_
    refine lv_if_eq (tgt := 34) hx hb d_Model_apart_14 (by decide) (fun _ => ?_) (fun hc => absurd hc (by decide +kernel))
    refine lv_iconst (v := (-1)) hx hb d_Model_apart_34 (by decide) ?_
    exact z_iret hx hb hr hlocks hP hD hS (Nat.le_of_ble_eq_true rfl) (Nat.le_of_ble_eq_true rfl) d_Model_apart_35 ⟨(-1), b31, b54, b59, b60, b61, b62, b63, b64, b65, b66, b67, b68, b69, b70, b71, b72, b73, b74, b75, b76, b77, rfl, rfl, hb31, hb54, hb59, hb60, hb61, hb63, hb64, hb65, hb66, hb69, hb70, hb74, hb76⟩
  · have hP : va_P G.1 classes [(b0, .inr (12, [.int 0, .ref b5, .ref b6, .ref b7, .ref b8, .int b9, .ref b10, .int b11, .int b12, .int b13, .int b14, .ref b15, .ref b16, .ref b17, .int b18, .ref b19, .ref b20, .ref b21, .ref b22, .ref b23, .ref b24, .ref b25, .ref b26, .ref b27, .ref b28, .ref b29, .ref b30, .int b31, .ref b32, .ref b33, .int b34, .int b35, .int b36, .int b37, .ref b38, .ref b39, .ref b40, .ref b41, .ref b42, .ref b43, .ref b44, .int b45, .ref b46, .ref b47, .int b48, .ref b49, .ref b50, .ref b51, .ref b52, .ref b53, .int b54, .ref b55, .ref b56, .ref b57])), (b5, .inl (G.2 0, 503, .inl b58)), (b19, .inl (G.2 0, 2, .inl b59)), (b20, .inl (G.2 0, 4820, .inl b60)), (b21, .inl (G.2 0, 520, .inl b61)), (b22, .inl (G.2 0, 9640, .inl b62)), (b23, .inl (G.2 0, 482, .inl b63)), (b24, .inl (G.2 0, 482, .inl b64)), (b25, .inl (G.2 0, 2, .inl b65)), (b26, .inl (G.2 0, 482, .inl b66)), (b27, .inl (G.2 0, 482, .inl b67)), (b28, .inl (G.2 0, 482, .inl b68)), (b29, .inl (G.2 0, 2, .inl b69)), (b30, .inl (G.2 0, 2880, .inl b70)), (b32, .inl (G.2 1, 4, .inr (.inl b71))), (b33, .inl (G.2 1, 4, .inr (.inl b72))), (b49, .inl (G.2 1, 3208, .inr (.inl b73))), (b50, .inl (G.2 0, 401, .inl b74)), (b51, .inl (G.2 0, 401, .inl b75)), (b52, .inl (G.2 0, 401, .inl b76)), (b53, .inl (G.2 1, 8, .inr (.inl b77)))] H := hP
    have hD := z_tie hP hD rfl
    try simp only [Int32.toInt_toInt64, ll_0] at hq_3
    have hv_8 : zI b1 0 2147483647 := by have _a := hq_3; have _b := (zI_all b1); have _c := zcl_0; simp only [Int32.toInt_toInt64] at *; exact ⟨by omega, by omega⟩
    try simp only [Int32.toInt_toInt64, ll_3] at hq_4
    have hv_9 : zI b1 4 2147483647 := by have _a := hq_4; have _b := hv_8; have _c := zcl_3; simp only [Int32.toInt_toInt64] at *; exact ⟨by omega, by omega⟩
    refine W.widen (k := 0) (n := 0) (Nat.le_of_ble_eq_true rfl) (Nat.le_of_ble_eq_true rfl) ?_
    refine lv_if_eq (tgt := 34) hx hb d_Model_apart_14 (by decide) (fun _ => ?_) (fun hc => absurd hc (by decide +kernel))
    refine lv_iconst (v := (-1)) hx hb d_Model_apart_34 (by decide) ?_
    exact z_iret hx hb hr hlocks hP hD hS (Nat.le_of_ble_eq_true rfl) (Nat.le_of_ble_eq_true rfl) d_Model_apart_35 ⟨(-1), b31, b54, b59, b60, b61, b62, b63, b64, b65, b66, b67, b68, b69, b70, b71, b72, b73, b74, b75, b76, b77, rfl, rfl, hb31, hb54, hb59, hb60, hb61, hb63, hb64, hb65, hb66, hb69, hb70, hb74, hb76⟩
  · have hP : va_P G.1 classes [(b0, .inr (12, [.int 0, .ref b5, .ref b6, .ref b7, .ref b8, .int b9, .ref b10, .int b11, .int b12, .int b13, .int b14, .ref b15, .ref b16, .ref b17, .int b18, .ref b19, .ref b20, .ref b21, .ref b22, .ref b23, .ref b24, .ref b25, .ref b26, .ref b27, .ref b28, .ref b29, .ref b30, .int b31, .ref b32, .ref b33, .int b34, .int b35, .int b36, .int b37, .ref b38, .ref b39, .ref b40, .ref b41, .ref b42, .ref b43, .ref b44, .int b45, .ref b46, .ref b47, .int b48, .ref b49, .ref b50, .ref b51, .ref b52, .ref b53, .int b54, .ref b55, .ref b56, .ref b57])), (b5, .inl (G.2 0, 503, .inl b58)), (b19, .inl (G.2 0, 2, .inl b59)), (b20, .inl (G.2 0, 4820, .inl b60)), (b21, .inl (G.2 0, 520, .inl b61)), (b22, .inl (G.2 0, 9640, .inl b62)), (b23, .inl (G.2 0, 482, .inl b63)), (b24, .inl (G.2 0, 482, .inl b64)), (b25, .inl (G.2 0, 2, .inl b65)), (b26, .inl (G.2 0, 482, .inl b66)), (b27, .inl (G.2 0, 482, .inl b67)), (b28, .inl (G.2 0, 482, .inl b68)), (b29, .inl (G.2 0, 2, .inl b69)), (b30, .inl (G.2 0, 2880, .inl b70)), (b32, .inl (G.2 1, 4, .inr (.inl b71))), (b33, .inl (G.2 1, 4, .inr (.inl b72))), (b49, .inl (G.2 1, 3208, .inr (.inl b73))), (b50, .inl (G.2 0, 401, .inl b74)), (b51, .inl (G.2 0, 401, .inl b75)), (b52, .inl (G.2 0, 401, .inl b76)), (b53, .inl (G.2 1, 8, .inr (.inl b77)))] H := hP
    have hD := z_tie hP hD rfl
    try simp only [Int32.toInt_toInt64, ll_0] at hq_5
    have hv_10 : zI b1 0 2147483647 := by have _a := hq_5; have _b := (zI_all b1); have _c := zcl_0; simp only [Int32.toInt_toInt64] at *; exact ⟨by omega, by omega⟩
    try simp only [Int32.toInt_toInt64, ll_3] at hq_6
    have hv_11 : zI b1 0 3 := by have _a := hq_6; have _b := hv_10; have _c := zcl_3; simp only [Int32.toInt_toInt64] at *; exact ⟨by omega, by omega⟩
    refine W.widen (k := 0) (n := 0) (Nat.le_of_ble_eq_true rfl) (Nat.le_of_ble_eq_true rfl) ?_
    refine lv_if_eq (tgt := 34) hx hb d_Model_apart_14 (by decide) (fun hc => absurd hc (by decide +kernel)) (fun _ => ?_)
    refine lv_iload_n hx hb d_Model_apart_17 rfl (lv_at hl 2 rfl) ?_
    refine lv_i2l (v := b2.toInt64) hx hb d_Model_apart_18 rfl ?_
    refine lv_lconst (v := 0) hx hb d_Model_apart_19 (by decide) ?_
    refine lv_ldc2 hx hb hown (hts _ q1520) d_Model_apart_20 ?_
    refine z_callS (index := 138) (As := [.long b2.toInt64, .long 0, .long 3]) (rest := []) (wr := [(b0, .inr (12, [.int 0, .ref b5, .ref b6, .ref b7, .ref b8, .int b9, .ref b10, .int b11, .int b12, .int b13, .int b14, .ref b15, .ref b16, .ref b17, .int b18, .ref b19, .ref b20, .ref b21, .ref b22, .ref b23, .ref b24, .ref b25, .ref b26, .ref b27, .ref b28, .ref b29, .ref b30, .int b31, .ref b32, .ref b33, .int b34, .int b35, .int b36, .int b37, .ref b38, .ref b39, .ref b40, .ref b41, .ref b42, .ref b43, .ref b44, .int b45, .ref b46, .ref b47, .int b48, .ref b49, .ref b50, .ref b51, .ref b52, .ref b53, .int b54, .ref b55, .ref b56, .ref b57])), (b5, .inl (G.2 0, 503, .inl b58)), (b19, .inl (G.2 0, 2, .inl b59)), (b20, .inl (G.2 0, 4820, .inl b60)), (b21, .inl (G.2 0, 520, .inl b61)), (b22, .inl (G.2 0, 9640, .inl b62)), (b23, .inl (G.2 0, 482, .inl b63)), (b24, .inl (G.2 0, 482, .inl b64)), (b25, .inl (G.2 0, 2, .inl b65)), (b26, .inl (G.2 0, 482, .inl b66)), (b27, .inl (G.2 0, 482, .inl b67)), (b28, .inl (G.2 0, 482, .inl b68)), (b29, .inl (G.2 0, 2, .inl b69)), (b30, .inl (G.2 0, 2880, .inl b70)), (b32, .inl (G.2 1, 4, .inr (.inl b71))), (b33, .inl (G.2 1, 4, .inr (.inl b72))), (b49, .inl (G.2 1, 3208, .inr (.inl b73))), (b50, .inl (G.2 0, 401, .inl b74)), (b51, .inl (G.2 0, 401, .inl b75)), (b52, .inl (G.2 0, 401, .inl b76)), (b53, .inl (G.2 1, 8, .inr (.inl b77)))]) Z (s2_Model_in l G (b2.toInt64) (0) (3)) hl.1 q1281 q1282 q14 q1283 ⟨by decide, by decide, by show _ = some 3; decide +kernel⟩ ⟨Nat.le_of_ble_eq_true rfl, Nat.le_of_ble_eq_true rfl⟩ ⟨Nat.le_of_ble_eq_true rfl, Nat.le_of_ble_eq_true rfl⟩ rfl (Nat.le_of_ble_eq_true rfl) d_Model_apart_23 hP hD hS hA [] [0, 1, 2, 3, 4, 5, 6, 7, 8, 9, 10, 11, 12, 13, 14, 15, 16, 17, 18, 19, 20] rfl rfl rfl rfl (by decide) (fun v w1 H locs hw_12 hP hD hS => ?_)
    rcases hw_12 with ⟨rfl, rfl, hq_13⟩ | ⟨rfl, rfl, hq_14, hq_15⟩ | ⟨rfl, rfl, hq_16, hq_17⟩
    · have hP : va_P G.1 classes [(b0, .inr (12, [.int 0, .ref b5, .ref b6, .ref b7, .ref b8, .int b9, .ref b10, .int b11, .int b12, .int b13, .int b14, .ref b15, .ref b16, .ref b17, .int b18, .ref b19, .ref b20, .ref b21, .ref b22, .ref b23, .ref b24, .ref b25, .ref b26, .ref b27, .ref b28, .ref b29, .ref b30, .int b31, .ref b32, .ref b33, .int b34, .int b35, .int b36, .int b37, .ref b38, .ref b39, .ref b40, .ref b41, .ref b42, .ref b43, .ref b44, .int b45, .ref b46, .ref b47, .int b48, .ref b49, .ref b50, .ref b51, .ref b52, .ref b53, .int b54, .ref b55, .ref b56, .ref b57])), (b5, .inl (G.2 0, 503, .inl b58)), (b19, .inl (G.2 0, 2, .inl b59)), (b20, .inl (G.2 0, 4820, .inl b60)), (b21, .inl (G.2 0, 520, .inl b61)), (b22, .inl (G.2 0, 9640, .inl b62)), (b23, .inl (G.2 0, 482, .inl b63)), (b24, .inl (G.2 0, 482, .inl b64)), (b25, .inl (G.2 0, 2, .inl b65)), (b26, .inl (G.2 0, 482, .inl b66)), (b27, .inl (G.2 0, 482, .inl b67)), (b28, .inl (G.2 0, 482, .inl b68)), (b29, .inl (G.2 0, 2, .inl b69)), (b30, .inl (G.2 0, 2880, .inl b70)), (b32, .inl (G.2 1, 4, .inr (.inl b71))), (b33, .inl (G.2 1, 4, .inr (.inl b72))), (b49, .inl (G.2 1, 3208, .inr (.inl b73))), (b50, .inl (G.2 0, 401, .inl b74)), (b51, .inl (G.2 0, 401, .inl b75)), (b52, .inl (G.2 0, 401, .inl b76)), (b53, .inl (G.2 1, 8, .inr (.inl b77)))] H := hP
      have hD := z_tie hP hD rfl
      try simp only [Int32.toInt_toInt64, ll_0] at hq_13
      have hv_18 : zI b2 (-2147483648) (-1) := by have _a := hq_13; have _b := (zI_all b2); have _c := zcl_0; simp only [Int32.toInt_toInt64] at *; exact ⟨by omega, by omega⟩
      refine W.widen (k := 0) (n := 0) (Nat.le_of_ble_eq_true rfl) (Nat.le_of_ble_eq_true rfl) ?_
      refine lv_if_eq (tgt := 34) hx hb d_Model_apart_26 (by decide) (fun _ => ?_) (fun hc => absurd hc (by decide +kernel))
      refine lv_iconst (v := (-1)) hx hb d_Model_apart_34 (by decide) ?_
      exact z_iret hx hb hr hlocks hP hD hS (Nat.le_of_ble_eq_true rfl) (Nat.le_of_ble_eq_true rfl) d_Model_apart_35 ⟨(-1), b31, b54, b59, b60, b61, b62, b63, b64, b65, b66, b67, b68, b69, b70, b71, b72, b73, b74, b75, b76, b77, rfl, rfl, hb31, hb54, hb59, hb60, hb61, hb63, hb64, hb65, hb66, hb69, hb70, hb74, hb76⟩
    · have hP : va_P G.1 classes [(b0, .inr (12, [.int 0, .ref b5, .ref b6, .ref b7, .ref b8, .int b9, .ref b10, .int b11, .int b12, .int b13, .int b14, .ref b15, .ref b16, .ref b17, .int b18, .ref b19, .ref b20, .ref b21, .ref b22, .ref b23, .ref b24, .ref b25, .ref b26, .ref b27, .ref b28, .ref b29, .ref b30, .int b31, .ref b32, .ref b33, .int b34, .int b35, .int b36, .int b37, .ref b38, .ref b39, .ref b40, .ref b41, .ref b42, .ref b43, .ref b44, .int b45, .ref b46, .ref b47, .int b48, .ref b49, .ref b50, .ref b51, .ref b52, .ref b53, .int b54, .ref b55, .ref b56, .ref b57])), (b5, .inl (G.2 0, 503, .inl b58)), (b19, .inl (G.2 0, 2, .inl b59)), (b20, .inl (G.2 0, 4820, .inl b60)), (b21, .inl (G.2 0, 520, .inl b61)), (b22, .inl (G.2 0, 9640, .inl b62)), (b23, .inl (G.2 0, 482, .inl b63)), (b24, .inl (G.2 0, 482, .inl b64)), (b25, .inl (G.2 0, 2, .inl b65)), (b26, .inl (G.2 0, 482, .inl b66)), (b27, .inl (G.2 0, 482, .inl b67)), (b28, .inl (G.2 0, 482, .inl b68)), (b29, .inl (G.2 0, 2, .inl b69)), (b30, .inl (G.2 0, 2880, .inl b70)), (b32, .inl (G.2 1, 4, .inr (.inl b71))), (b33, .inl (G.2 1, 4, .inr (.inl b72))), (b49, .inl (G.2 1, 3208, .inr (.inl b73))), (b50, .inl (G.2 0, 401, .inl b74)), (b51, .inl (G.2 0, 401, .inl b75)), (b52, .inl (G.2 0, 401, .inl b76)), (b53, .inl (G.2 1, 8, .inr (.inl b77)))] H := hP
      have hD := z_tie hP hD rfl
      try simp only [Int32.toInt_toInt64, ll_0] at hq_14
      have hv_19 : zI b2 0 2147483647 := by have _a := hq_14; have _b := (zI_all b2); have _c := zcl_0; simp only [Int32.toInt_toInt64] at *; exact ⟨by omega, by omega⟩
      try simp only [Int32.toInt_toInt64, ll_3] at hq_15
      have hv_20 : zI b2 4 2147483647 := by have _a := hq_15; have _b := hv_19; have _c := zcl_3; simp only [Int32.toInt_toInt64] at *; exact ⟨by omega, by omega⟩
      refine W.widen (k := 0) (n := 0) (Nat.le_of_ble_eq_true rfl) (Nat.le_of_ble_eq_true rfl) ?_
      refine lv_if_eq (tgt := 34) hx hb d_Model_apart_26 (by decide) (fun _ => ?_) (fun hc => absurd hc (by decide +kernel))
      refine lv_iconst (v := (-1)) hx hb d_Model_apart_34 (by decide) ?_
      exact z_iret hx hb hr hlocks hP hD hS (Nat.le_of_ble_eq_true rfl) (Nat.le_of_ble_eq_true rfl) d_Model_apart_35 ⟨(-1), b31, b54, b59, b60, b61, b62, b63, b64, b65, b66, b67, b68, b69, b70, b71, b72, b73, b74, b75, b76, b77, rfl, rfl, hb31, hb54, hb59, hb60, hb61, hb63, hb64, hb65, hb66, hb69, hb70, hb74, hb76⟩
    · have hP : va_P G.1 classes [(b0, .inr (12, [.int 0, .ref b5, .ref b6, .ref b7, .ref b8, .int b9, .ref b10, .int b11, .int b12, .int b13, .int b14, .ref b15, .ref b16, .ref b17, .int b18, .ref b19, .ref b20, .ref b21, .ref b22, .ref b23, .ref b24, .ref b25, .ref b26, .ref b27, .ref b28, .ref b29, .ref b30, .int b31, .ref b32, .ref b33, .int b34, .int b35, .int b36, .int b37, .ref b38, .ref b39, .ref b40, .ref b41, .ref b42, .ref b43, .ref b44, .int b45, .ref b46, .ref b47, .int b48, .ref b49, .ref b50, .ref b51, .ref b52, .ref b53, .int b54, .ref b55, .ref b56, .ref b57])), (b5, .inl (G.2 0, 503, .inl b58)), (b19, .inl (G.2 0, 2, .inl b59)), (b20, .inl (G.2 0, 4820, .inl b60)), (b21, .inl (G.2 0, 520, .inl b61)), (b22, .inl (G.2 0, 9640, .inl b62)), (b23, .inl (G.2 0, 482, .inl b63)), (b24, .inl (G.2 0, 482, .inl b64)), (b25, .inl (G.2 0, 2, .inl b65)), (b26, .inl (G.2 0, 482, .inl b66)), (b27, .inl (G.2 0, 482, .inl b67)), (b28, .inl (G.2 0, 482, .inl b68)), (b29, .inl (G.2 0, 2, .inl b69)), (b30, .inl (G.2 0, 2880, .inl b70)), (b32, .inl (G.2 1, 4, .inr (.inl b71))), (b33, .inl (G.2 1, 4, .inr (.inl b72))), (b49, .inl (G.2 1, 3208, .inr (.inl b73))), (b50, .inl (G.2 0, 401, .inl b74)), (b51, .inl (G.2 0, 401, .inl b75)), (b52, .inl (G.2 0, 401, .inl b76)), (b53, .inl (G.2 1, 8, .inr (.inl b77)))] H := hP
      have hD := z_tie hP hD rfl
      try simp only [Int32.toInt_toInt64, ll_0] at hq_16
      have hv_21 : zI b2 0 2147483647 := by have _a := hq_16; have _b := (zI_all b2); have _c := zcl_0; simp only [Int32.toInt_toInt64] at *; exact ⟨by omega, by omega⟩
      try simp only [Int32.toInt_toInt64, ll_3] at hq_17
      have hv_22 : zI b2 0 3 := by have _a := hq_17; have _b := hv_21; have _c := zcl_3; simp only [Int32.toInt_toInt64] at *; exact ⟨by omega, by omega⟩
      refine W.widen (k := 0) (n := 0) (Nat.le_of_ble_eq_true rfl) (Nat.le_of_ble_eq_true rfl) ?_
      refine lv_if_eq (tgt := 34) hx hb d_Model_apart_26 (by decide) (fun hc => absurd hc (by decide +kernel)) (fun _ => ?_)
      refine lv_iload_n hx hb d_Model_apart_29 rfl (lv_at hl 3 rfl) ?_
      refine lv_iconst (v := (-1)) hx hb d_Model_apart_30 (by decide) ?_
      refine lv_icmp_ge (tgt := 36) hx hb d_Model_apart_31 (by decide) (fun hc_23 => ?_) (fun hc_23 => ?_)
      · have _nhc_23 := hc_23
        have ni_24 := (fa_le _ _).mp hc_23
        rw [li_m1] at ni_24
        have hv_25 : zI b3 (-1) 2147483647 := zI.le_r zc_m1 (zI_all b3) hc_23 (by decide)
        refine lv_aload_n hx hb d_Model_apart_36 rfl (lv_at hl 0 rfl) ?_
        refine lv_iconst (v := 0) hx hb d_Model_apart_37 (by decide) ?_
        refine lv_iload_n hx hb d_Model_apart_38 rfl (lv_at hl 1 rfl) ?_
        refine lv_iconst (v := (-1)) hx hb d_Model_apart_39 (by decide) ?_
        refine z_callV (index := 251) (As := [.int 0, .int b1, .int (-1)]) (rest := []) (wr := [(b32, .inl (G.2 1, 4, .inr (.inl b71))), (b33, .inl (G.2 1, 4, .inr (.inl b72))), (b49, .inl (G.2 1, 3208, .inr (.inl b73))), (b50, .inl (G.2 0, 401, .inl b74)), (b51, .inl (G.2 0, 401, .inl b75)), (b52, .inl (G.2 0, 401, .inl b76)), (b53, .inl (G.2 1, 8, .inr (.inl b77)))]) Z (s1_Model_lay2 l G (b0) (b1) ((-1)) (0) (b5) (b6) (b7) (b8) (b9) (b10) (b11) (b12) (b13) (b14) (b15) (b16) (b17) (b18) (b19) (b20) (b21) (b22) (b23) (b24) (b25) (b26) (b27) (b28) (b29) (b30) (b31) (b32) (b33) (b34) (b35) (b36) (b37) (b38) (b39) (b40) (b41) (b42) (b43) (b44) (b45) (b46) (b47) (b48) (b49) (b50) (b51) (b52) (b53) (b54) (b55) (b56) (b57) (b58) (b59) (b60) (b61) (b62) (b63) (b64) (b65) (b66) (b67) (b68) (b69) (b70) hv_11 (zI.wk (l' := (-1)) (h' := 19) zc_m1 (by decide)) hb9 hb11 hb12 hb14 hb18 hb31 hb34 hb45 hb48 hb54 hb58 hb59 hb60 hb61 hb63 hb64 hb65 hb66 hb69 hb70) hl.1 q1360 q1362 qs56 q14 q1363 ⟨by decide, by decide, by show _ = some 3; decide +kernel⟩ ⟨Nat.le_of_ble_eq_true rfl, Nat.le_of_ble_eq_true rfl⟩ ⟨Nat.le_of_ble_eq_true rfl, Nat.le_of_ble_eq_true rfl⟩ rfl (Nat.le_of_ble_eq_true rfl) d_Model_apart_40 hP hD hS hA 0 12 rfl rfl rfl [0, 1, 2, 3, 4, 5, 6, 7, 8, 9, 10, 11, 12, 13] [14, 15, 16, 17, 18, 19, 20] rfl rfl rfl rfl (by decide) (fun v w1 H locs hw_26 hP hD hS => ?_)
        refine Exists.elim hw_26 (fun x_27 hz_41 => Exists.elim hz_41 (fun f_28 hz_42 => Exists.elim hz_42 (fun f_29 hz_43 => Exists.elim hz_43 (fun f_30 hz_44 => Exists.elim hz_44 (fun f_31 hz_45 => Exists.elim hz_45 (fun f_32 hz_46 => Exists.elim hz_46 (fun f_33 hz_47 => Exists.elim hz_47 (fun f_34 hz_48 => Exists.elim hz_48 (fun f_35 hz_49 => Exists.elim hz_49 (fun f_36 hz_50 => Exists.elim hz_50 (fun f_37 hz_51 => Exists.elim hz_51 (fun f_38 hz_52 => Exists.elim hz_52 (fun f_39 hz_53 => ?_)))))))))))))
        clear hw_26 hz_41 hz_42 hz_43 hz_44 hz_45 hz_46 hz_47 hz_48 hz_49 hz_50 hz_51 hz_52
        obtain ⟨rfl, rfl, hx_27, hf_28, hf_29, hf_30, hf_32, hf_33, hf_34, hf_35, hf_38, hf_39, hfx_40⟩ := hz_53
        have hP : va_P G.1 classes [(b32, .inl (G.2 1, 4, .inr (.inl b71))), (b33, .inl (G.2 1, 4, .inr (.inl b72))), (b49, .inl (G.2 1, 3208, .inr (.inl b73))), (b50, .inl (G.2 0, 401, .inl b74)), (b51, .inl (G.2 0, 401, .inl b75)), (b52, .inl (G.2 0, 401, .inl b76)), (b53, .inl (G.2 1, 8, .inr (.inl b77))), (b0, .inr (12, [.int 0, .ref b5, .ref b6, .ref b7, .ref b8, .int b9, .ref b10, .int b11, .int b12, .int b13, .int b14, .ref b15, .ref b16, .ref b17, .int b18, .ref b19, .ref b20, .ref b21, .ref b22, .ref b23, .ref b24, .ref b25, .ref b26, .ref b27, .ref b28, .ref b29, .ref b30, .int x_27, .ref b32, .ref b33, .int b34, .int b35, .int b36, .int b37, .ref b38, .ref b39, .ref b40, .ref b41, .ref b42, .ref b43, .ref b44, .int b45, .ref b46, .ref b47, .int b48, .ref b49, .ref b50, .ref b51, .ref b52, .ref b53, .int b54, .ref b55, .ref b56, .ref b57])), (b5, .inl (G.2 0, 503, .inl b58)), (b19, .inl (G.2 0, 2, .inl f_28)), (b20, .inl (G.2 0, 4820, .inl f_29)), (b21, .inl (G.2 0, 520, .inl f_30)), (b22, .inl (G.2 0, 9640, .inl f_31)), (b23, .inl (G.2 0, 482, .inl f_32)), (b24, .inl (G.2 0, 482, .inl f_33)), (b25, .inl (G.2 0, 2, .inl f_34)), (b26, .inl (G.2 0, 482, .inl f_35)), (b27, .inl (G.2 0, 482, .inl f_36)), (b28, .inl (G.2 0, 482, .inl f_37)), (b29, .inl (G.2 0, 2, .inl f_38)), (b30, .inl (G.2 0, 2880, .inl f_39))] H := hP
        have hD := z_tie hP hD rfl
        refine W.widen (k := 0) (n := 0) (Nat.le_of_ble_eq_true rfl) (Nat.le_of_ble_eq_true rfl) ?_
        refine lv_aload_n hx hb d_Model_apart_43 rfl (lv_at hl 0 rfl) ?_
        refine lv_iconst (v := 1) hx hb d_Model_apart_44 (by decide) ?_
        refine lv_iload_n hx hb d_Model_apart_45 rfl (lv_at hl 2 rfl) ?_
        refine lv_iconst (v := (-1)) hx hb d_Model_apart_46 (by decide) ?_
        refine z_callV (index := 251) (As := [.int 1, .int b2, .int (-1)]) (rest := []) (wr := [(b32, .inl (G.2 1, 4, .inr (.inl b71))), (b33, .inl (G.2 1, 4, .inr (.inl b72))), (b49, .inl (G.2 1, 3208, .inr (.inl b73))), (b50, .inl (G.2 0, 401, .inl b74)), (b51, .inl (G.2 0, 401, .inl b75)), (b52, .inl (G.2 0, 401, .inl b76)), (b53, .inl (G.2 1, 8, .inr (.inl b77)))]) Z (s2_Model_lay2 l G (b0) (b2) ((-1)) (0) (b5) (b6) (b7) (b8) (b9) (b10) (b11) (b12) (b13) (b14) (b15) (b16) (b17) (b18) (b19) (b20) (b21) (b22) (b23) (b24) (b25) (b26) (b27) (b28) (b29) (b30) (x_27) (b32) (b33) (b34) (b35) (b36) (b37) (b38) (b39) (b40) (b41) (b42) (b43) (b44) (b45) (b46) (b47) (b48) (b49) (b50) (b51) (b52) (b53) (b54) (b55) (b56) (b57) (b58) (f_28) (f_29) (f_30) (f_31) (f_32) (f_33) (f_34) (f_35) (f_36) (f_37) (f_38) (f_39) hv_22 (zI.wk (l' := (-1)) (h' := 19) zc_m1 (by decide)) hb9 hb11 hb12 hb14 hb18 hx_27 hb34 hb45 hb48 hb54 hb58 hf_28 hf_29 hf_30 hf_32 hf_33 hf_34 hf_35 hf_38 hf_39) hl.1 q1360 q1362 qs56 q14 q1363 ⟨by decide, by decide, by show _ = some 3; decide +kernel⟩ ⟨Nat.le_of_ble_eq_true rfl, Nat.le_of_ble_eq_true rfl⟩ ⟨Nat.le_of_ble_eq_true rfl, Nat.le_of_ble_eq_true rfl⟩ rfl (Nat.le_of_ble_eq_true rfl) d_Model_apart_47 hP hD hS hA 7 12 rfl rfl rfl [7, 8, 9, 10, 11, 12, 13, 14, 15, 16, 17, 18, 19, 20] [0, 1, 2, 3, 4, 5, 6] rfl rfl rfl rfl (by decide) (fun v w1 H locs hw_54 hP hD hS => ?_)
        refine Exists.elim hw_54 (fun x_55 hz_68 => Exists.elim hz_68 (fun f_56 hz_69 => Exists.elim hz_69 (fun f_57 hz_70 => Exists.elim hz_70 (fun f_58 hz_71 => Exists.elim hz_71 (fun f_59 hz_72 => Exists.elim hz_72 (fun f_60 hz_73 => Exists.elim hz_73 (fun f_61 hz_74 => Exists.elim hz_74 (fun f_62 hz_75 => Exists.elim hz_75 (fun f_63 hz_76 => Exists.elim hz_76 (fun f_64 hz_77 => Exists.elim hz_77 (fun f_65 hz_78 => Exists.elim hz_78 (fun f_66 hz_79 => Exists.elim hz_79 (fun f_67 hz_80 => ?_)))))))))))))
        clear hw_54 hz_68 hz_69 hz_70 hz_71 hz_72 hz_73 hz_74 hz_75 hz_76 hz_77 hz_78 hz_79
        obtain ⟨rfl, rfl, hx_55, hf_56, hf_57, hf_58, hf_60, hf_61, hf_62, hf_63, hf_66, hf_67⟩ := hz_80
        have hP : va_P G.1 classes [(b32, .inl (G.2 1, 4, .inr (.inl b71))), (b33, .inl (G.2 1, 4, .inr (.inl b72))), (b49, .inl (G.2 1, 3208, .inr (.inl b73))), (b50, .inl (G.2 0, 401, .inl b74)), (b51, .inl (G.2 0, 401, .inl b75)), (b52, .inl (G.2 0, 401, .inl b76)), (b53, .inl (G.2 1, 8, .inr (.inl b77))), (b0, .inr (12, [.int 0, .ref b5, .ref b6, .ref b7, .ref b8, .int b9, .ref b10, .int b11, .int b12, .int b13, .int b14, .ref b15, .ref b16, .ref b17, .int b18, .ref b19, .ref b20, .ref b21, .ref b22, .ref b23, .ref b24, .ref b25, .ref b26, .ref b27, .ref b28, .ref b29, .ref b30, .int x_55, .ref b32, .ref b33, .int b34, .int b35, .int b36, .int b37, .ref b38, .ref b39, .ref b40, .ref b41, .ref b42, .ref b43, .ref b44, .int b45, .ref b46, .ref b47, .int b48, .ref b49, .ref b50, .ref b51, .ref b52, .ref b53, .int b54, .ref b55, .ref b56, .ref b57])), (b5, .inl (G.2 0, 503, .inl b58)), (b19, .inl (G.2 0, 2, .inl f_56)), (b20, .inl (G.2 0, 4820, .inl f_57)), (b21, .inl (G.2 0, 520, .inl f_58)), (b22, .inl (G.2 0, 9640, .inl f_59)), (b23, .inl (G.2 0, 482, .inl f_60)), (b24, .inl (G.2 0, 482, .inl f_61)), (b25, .inl (G.2 0, 2, .inl f_62)), (b26, .inl (G.2 0, 482, .inl f_63)), (b27, .inl (G.2 0, 482, .inl f_64)), (b28, .inl (G.2 0, 482, .inl f_65)), (b29, .inl (G.2 0, 2, .inl f_66)), (b30, .inl (G.2 0, 2880, .inl f_67))] H := hP
        have hD := z_tie hP hD rfl
        refine W.widen (k := 0) (n := 0) (Nat.le_of_ble_eq_true rfl) (Nat.le_of_ble_eq_true rfl) ?_
        refine lv_aload_n hx hb d_Model_apart_50 rfl (lv_at hl 0 rfl) ?_
        refine z_callV (index := 352) (As := []) (rest := []) (wr := [(b19, .inl (G.2 0, 2, .inl f_56)), (b20, .inl (G.2 0, 4820, .inl f_57)), (b21, .inl (G.2 0, 520, .inl f_58)), (b22, .inl (G.2 0, 9640, .inl f_59)), (b23, .inl (G.2 0, 482, .inl f_60)), (b24, .inl (G.2 0, 482, .inl f_61)), (b26, .inl (G.2 0, 482, .inl f_63)), (b27, .inl (G.2 0, 482, .inl f_64))]) Z (s2_Model_partsAt l G (b0) (0) (b5) (b6) (b7) (b8) (b9) (b10) (b11) (b12) (b13) (b14) (b15) (b16) (b17) (b18) (b19) (b20) (b21) (b22) (b23) (b24) (b25) (b26) (b27) (b28) (b29) (b30) (x_55) (b32) (b33) (b34) (b35) (b36) (b37) (b38) (b39) (b40) (b41) (b42) (b43) (b44) (b45) (b46) (b47) (b48) (b49) (b50) (b51) (b52) (b53) (b54) (b55) (b56) (b57) (b58) (f_62) (f_65) (f_66) (f_67) (b71) (b72) (b73) (b74) (b75) (b76) (b77) hb9 hb11 hb12 hb14 hb18 hx_55 hb34 hb45 hb48 hb54 hb58 hf_62 hf_66 hf_67 hb74 hb76) hl.1 q1521 q1523 qs83 q14 q1524 ⟨by decide, by decide, by show _ = some 0; decide +kernel⟩ ⟨Nat.le_of_ble_eq_true rfl, Nat.le_of_ble_eq_true rfl⟩ ⟨Nat.le_of_ble_eq_true rfl, Nat.le_of_ble_eq_true rfl⟩ rfl (Nat.le_of_ble_eq_true rfl) d_Model_apart_51 hP hD hS hA 7 12 rfl rfl rfl [7, 8, 15, 18, 19, 20, 0, 1, 2, 3, 4, 5, 6] [9, 10, 11, 12, 13, 14, 16, 17] rfl rfl rfl rfl (by decide) (fun v w1 H locs hw_81 hP hD hS => ?_)
        refine Exists.elim hw_81 (fun x_82 hz_93 => Exists.elim hz_93 (fun x_83 hz_94 => Exists.elim hz_94 (fun f_84 hz_95 => Exists.elim hz_95 (fun f_85 hz_96 => Exists.elim hz_96 (fun f_86 hz_97 => Exists.elim hz_97 (fun f_87 hz_98 => Exists.elim hz_98 (fun f_88 hz_99 => Exists.elim hz_99 (fun f_89 hz_100 => Exists.elim hz_100 (fun f_90 hz_101 => ?_)))))))))
        clear hw_81 hz_93 hz_94 hz_95 hz_96 hz_97 hz_98 hz_99 hz_100
        obtain ⟨rfl, rfl, hx_82, hx_83, hf_87, hf_89, hfx_91, hfx_92⟩ := hz_101
        have hP : va_P G.1 classes [(b19, .inl (G.2 0, 2, .inl f_56)), (b20, .inl (G.2 0, 4820, .inl f_57)), (b21, .inl (G.2 0, 520, .inl f_58)), (b22, .inl (G.2 0, 9640, .inl f_59)), (b23, .inl (G.2 0, 482, .inl f_60)), (b24, .inl (G.2 0, 482, .inl f_61)), (b26, .inl (G.2 0, 482, .inl f_63)), (b27, .inl (G.2 0, 482, .inl f_64)), (b0, .inr (12, [.int 0, .ref b5, .ref b6, .ref b7, .ref b8, .int b9, .ref b10, .int b11, .int b12, .int b13, .int b14, .ref b15, .ref b16, .ref b17, .int b18, .ref b19, .ref b20, .ref b21, .ref b22, .ref b23, .ref b24, .ref b25, .ref b26, .ref b27, .ref b28, .ref b29, .ref b30, .int x_55, .ref b32, .ref b33, .int b34, .int b35, .int b36, .int b37, .ref b38, .ref b39, .ref b40, .ref b41, .ref b42, .ref b43, .ref b44, .int b45, .ref b46, .ref b47, .int b48, .ref b49, .ref b50, .ref b51, .ref b52, .ref b53, .int x_83, .ref b55, .ref b56, .ref b57])), (b5, .inl (G.2 0, 503, .inl b58)), (b25, .inl (G.2 0, 2, .inl f_62)), (b28, .inl (G.2 0, 482, .inl f_65)), (b29, .inl (G.2 0, 2, .inl f_66)), (b30, .inl (G.2 0, 2880, .inl f_67)), (b32, .inl (G.2 1, 4, .inr (.inl f_84))), (b33, .inl (G.2 1, 4, .inr (.inl f_85))), (b49, .inl (G.2 1, 3208, .inr (.inl f_86))), (b50, .inl (G.2 0, 401, .inl f_87)), (b51, .inl (G.2 0, 401, .inl f_88)), (b52, .inl (G.2 0, 401, .inl f_89)), (b53, .inl (G.2 1, 8, .inr (.inl f_90)))] H := hP
        have hD := z_tie hP hD rfl
        refine W.widen (k := 0) (n := 0) (Nat.le_of_ble_eq_true rfl) (Nat.le_of_ble_eq_true rfl) ?_
        refine lv_istore (lv' := [(4, .int x_82), (0, .ref b0), (1, .int b1), (2, .int b2), (3, .int b3)]) hx hb d_Model_apart_54 hl (by decide) rfl (fun ls hl => ?_)
        refine lv_iload hx hb d_Model_apart_56 (lv_at hl 0 rfl) ?_
        refine lv_if_lt (tgt := 66) hx hb d_Model_apart_58 (by decide) (fun hc_102 => ?_) (fun hc_102 => ?_)
        · have _nhc_102 := hc_102
          have ni_103 := (fa_lt _ _).mp hc_102
          rw [li_0] at ni_103
          have hv_104 : zI x_82 (-2) (-1) := zI.lt_l hx_82 zc_0 hc_102 (by decide)
          refine lv_iload hx hb d_Model_apart_66 (lv_at hl 0 rfl) ?_
          refine lv_if_ge (tgt := 76) hx hb d_Model_apart_68 (by decide) (fun hc => zI.no_le zc_0 hv_104 hc (by decide)) (fun _ => ?_)
          refine lv_iload hx hb d_Model_apart_71 (lv_at hl 0 rfl) ?_
          refine lv_goto (tgt := 83) hx hb d_Model_apart_73 (by decide) ?_
          exact z_iret hx hb hr hlocks (hP.sub [8, 9, 0, 1, 2, 3, 4, 5, 10, 6, 7, 11, 12, 13, 14, 15, 16, 17, 18, 19, 20] rfl) (hD.sub [8, 9, 0, 1, 2, 3, 4, 5, 10, 6, 7, 11, 12, 13, 14, 15, 16, 17, 18, 19, 20] (by decide) rfl) hS (Nat.le_of_ble_eq_true rfl) (Nat.le_of_ble_eq_true rfl) d_Model_apart_83 ⟨x_82, x_55, x_83, f_56, f_57, f_58, f_59, f_60, f_61, f_62, f_63, f_64, f_65, f_66, f_67, f_84, f_85, f_86, f_87, f_88, f_89, f_90, rfl, rfl, hx_55, hx_83, hf_56, hf_57, hf_58, hf_60, hf_61, hf_62, hf_63, hf_66, hf_67, hf_87, hf_89⟩
        · have _nhc_102 := hc_102
          have ni_105 := (fa_le _ _).mp (zi_nlt hc_102)
          rw [li_0] at ni_105
          have hv_106 : zI x_82 0 399 := zI.le_r zc_0 hx_82 (zi_nlt hc_102) (by decide)
          refine lv_iload_n hx hb d_Model_apart_61 rfl (lv_at hl 4 rfl) ?_
          refine lv_iconst (v := (-1)) hx hb d_Model_apart_62 (by decide) ?_
          refine lv_icmp_ne (tgt := 84) hx hb d_Model_apart_63 (by decide) (fun hc_107 => ?_) (fun hc_107 => ?_)
          · have _nhc_107 := hc_107
            have ni_108 : ¬ (b3 : Int32).toInt = ((-1) : Int32).toInt := fun z => hc_107 ((fa_eq _ _).mpr z)
            simp only [li_m1] at ni_108
            have hv_109 : zI b3 0 2147483647 := zI.ne_lo hv_25 zc_m1 hc_107 (by decide)
            refine lv_iload_n hx hb d_Model_apart_84 rfl (lv_at hl 4 rfl) ?_
            refine lv_aload_n hx hb d_Model_apart_85 rfl (lv_at hl 1 rfl) ?_
            refine va_get (D := G.1) (ci := 12) (v := .ref b52) (C := R_Model) (T := F_Model) (N := 54) hx hb hts i_Model hown hK hP 8 rfl rfl 48 (by decide) (hts _ q1157) (fun _ h9 => h9) rfl d_Model_apart_86 ?_
            refine lv_iload hx hb d_Model_apart_89 (lv_at hl 0 rfl) ?_
            refine va_iald hx hb hK hP 19 0 rfl rfl (zI.inn hv_106 (by decide)) d_Model_apart_91 ?_
            refine lv_topi (fun v_110 ev_110 => ?_)
            have hv_110 : zI v_110 0 8 := (hf_89 _).eq ev_110
            refine lv_icmp_lt (tgt := 97) hx hb d_Model_apart_92 (by decide) (fun hc_111 => ?_) (fun hc_111 => ?_)
            · have _nhc_111 := hc_111
              have ni_112 := (fa_lt _ _).mp hc_111
              have hv_113 : zI b3 0 7 := zI.lt_l hv_109 hv_110 hc_111 (by decide)
              have hv_114 : zI v_110 1 8 := zI.lt_r hv_109 hv_110 hc_111 (by decide)
              suffices key : ∀ (k_128 : Nat) (y_129 : Int32) (H : Heap) (locs : List Loc) (ls : Array Slot), (zI y_129 0 399) → ((y_129 : Int32).toInt < (x_83 : Int32).toInt) → (y_129).toInt < (k_128 : Int) → va_P G.1 classes [(b19, .inl (G.2 0, 2, .inl f_56)), (b20, .inl (G.2 0, 4820, .inl f_57)), (b21, .inl (G.2 0, 520, .inl f_58)), (b22, .inl (G.2 0, 9640, .inl f_59)), (b23, .inl (G.2 0, 482, .inl f_60)), (b24, .inl (G.2 0, 482, .inl f_61)), (b26, .inl (G.2 0, 482, .inl f_63)), (b27, .inl (G.2 0, 482, .inl f_64)), (b0, .inr (12, [.int 0, .ref b5, .ref b6, .ref b7, .ref b8, .int b9, .ref b10, .int b11, .int b12, .int b13, .int b14, .ref b15, .ref b16, .ref b17, .int b18, .ref b19, .ref b20, .ref b21, .ref b22, .ref b23, .ref b24, .ref b25, .ref b26, .ref b27, .ref b28, .ref b29, .ref b30, .int x_55, .ref b32, .ref b33, .int b34, .int b35, .int b36, .int b37, .ref b38, .ref b39, .ref b40, .ref b41, .ref b42, .ref b43, .ref b44, .int b45, .ref b46, .ref b47, .int b48, .ref b49, .ref b50, .ref b51, .ref b52, .ref b53, .int x_83, .ref b55, .ref b56, .ref b57])), (b5, .inl (G.2 0, 503, .inl b58)), (b25, .inl (G.2 0, 2, .inl f_62)), (b28, .inl (G.2 0, 482, .inl f_65)), (b29, .inl (G.2 0, 2, .inl f_66)), (b30, .inl (G.2 0, 2880, .inl f_67)), (b32, .inl (G.2 1, 4, .inr (.inl f_84))), (b33, .inl (G.2 1, 4, .inr (.inl f_85))), (b49, .inl (G.2 1, 3208, .inr (.inl f_86))), (b50, .inl (G.2 0, 401, .inl f_87)), (b51, .inl (G.2 0, 401, .inl f_88)), (b52, .inl (G.2 0, 401, .inl f_89)), (b53, .inl (G.2 1, 8, .inr (.inl f_90)))] H → va_D A [(b19, .inl (G.2 0, 2, .inl f_56)), (b20, .inl (G.2 0, 4820, .inl f_57)), (b21, .inl (G.2 0, 520, .inl f_58)), (b22, .inl (G.2 0, 9640, .inl f_59)), (b23, .inl (G.2 0, 482, .inl f_60)), (b24, .inl (G.2 0, 482, .inl f_61)), (b26, .inl (G.2 0, 482, .inl f_63)), (b27, .inl (G.2 0, 482, .inl f_64)), (b0, .inr (12, [.int 0, .ref b5, .ref b6, .ref b7, .ref b8, .int b9, .ref b10, .int b11, .int b12, .int b13, .int b14, .ref b15, .ref b16, .ref b17, .int b18, .ref b19, .ref b20, .ref b21, .ref b22, .ref b23, .ref b24, .ref b25, .ref b26, .ref b27, .ref b28, .ref b29, .ref b30, .int x_55, .ref b32, .ref b33, .int b34, .int b35, .int b36, .int b37, .ref b38, .ref b39, .ref b40, .ref b41, .ref b42, .ref b43, .ref b44, .int b45, .ref b46, .ref b47, .int b48, .ref b49, .ref b50, .ref b51, .ref b52, .ref b53, .int x_83, .ref b55, .ref b56, .ref b57])), (b5, .inl (G.2 0, 503, .inl b58)), (b25, .inl (G.2 0, 2, .inl f_62)), (b28, .inl (G.2 0, 482, .inl f_65)), (b29, .inl (G.2 0, 2, .inl f_66)), (b30, .inl (G.2 0, 2880, .inl f_67)), (b32, .inl (G.2 1, 4, .inr (.inl f_84))), (b33, .inl (G.2 1, 4, .inr (.inl f_85))), (b49, .inl (G.2 1, 3208, .inr (.inl f_86))), (b50, .inl (G.2 0, 401, .inl f_87)), (b51, .inl (G.2 0, 401, .inl f_88)), (b52, .inl (G.2 0, 401, .inl f_89)), (b53, .inl (G.2 1, 8, .inr (.inl f_90)))] → va_S A s.heap H locs → lv_has ls 5 [(4, .int y_129), (0, .ref b0), (1, .int b1), (2, .int b2), (3, .int b3)] → W p l e m_s1_Model_apart s m ([.ref b0, .int b1, .int b2, .int b3] : List Value).toArray below meth c H locs 0 0 (MQ below (zQ G (fun v w => ∃ (e0 : Int32), ∃ (e1 : Int32), ∃ (e2 : Int32), ∃ (e3 : Nat → Int32), ∃ (e4 : Nat → Int32), ∃ (e5 : Nat → Int32), ∃ (e6 : Nat → Int32), ∃ (e7 : Nat → Int32), ∃ (e8 : Nat → Int32), ∃ (e9 : Nat → Int32), ∃ (e10 : Nat → Int32), ∃ (e11 : Nat → Int32), ∃ (e12 : Nat → Int32), ∃ (e13 : Nat → Int32), ∃ (e14 : Nat → Int32), ∃ (e15 : Nat → Int64), ∃ (e16 : Nat → Int64), ∃ (e17 : Nat → Int64), ∃ (e18 : Nat → Int32), ∃ (e19 : Nat → Int32), ∃ (e20 : Nat → Int32), ∃ (e21 : Nat → Int64), Q_s1_Model_apart G b0 b5 b6 b7 b8 b9 b10 b11 b12 b13 b14 b15 b16 b17 b18 b19 b20 b21 b22 b23 b24 b25 b26 b27 b28 b29 b30 b32 b33 b34 b35 b36 b37 b38 b39 b40 b41 b42 b43 b44 b45 b46 b47 b48 b49 b50 b51 b52 b53 b55 b56 b57 b58 e0 e1 e2 e3 e4 e5 e6 e7 e8 e9 e10 e11 e12 e13 e14 e15 e16 e17 e18 e19 e20 e21 v w) A) ([.ref b0, .int b1, .int b2, .int b3] : List Value).toArray s m_s1_Model_apart.cells m_s1_Model_apart.slots A) (F0 m 97 ls []) by
                exact key 400 (x_82) _ _ _ hv_106 (by omega) (by omega) hP hD hS (lv_sub hl [0, 1, 2, 3, 4] rfl)
              intro k_128
              induction k_128 with
              | zero =>
                intro y_129 H locs ls hy_129 hli_130 hmk_128 hP hD hS hl
                exfalso; omega
              | succ k_128 ihk_128 =>
                intro y_129 H locs ls hy_129 hli_130 hmk_128 hP hD hS hl
                refine lv_aload_n hx hb d_Model_apart_97 rfl (lv_at hl 1 rfl) ?_
                refine va_get (D := G.1) (ci := 12) (v := .ref b52) (C := R_Model) (T := F_Model) (N := 54) hx hb hts i_Model hown hK hP 8 rfl rfl 48 (by decide) (hts _ q1157) (fun _ h9 => h9) rfl d_Model_apart_98 ?_
                refine lv_iload hx hb d_Model_apart_101 (lv_at hl 0 rfl) ?_
                refine va_iald hx hb hK hP 19 0 rfl rfl (zI.inn hy_129 (by decide)) d_Model_apart_103 ?_
                refine lv_topi (fun v_131 ev_131 => ?_)
                have hv_131 : zI v_131 0 8 := (hf_89 _).eq ev_131
                refine lv_iload_n hx hb d_Model_apart_104 rfl (lv_at hl 4 rfl) ?_
                refine lv_iconst (v := 1) hx hb d_Model_apart_105 (by decide) ?_
                refine lv_iadd hx hb d_Model_apart_106 ?_
                refine lv_topi (fun v_132 ev_132 => ?_)
                obtain ⟨qv_132, hv_132⟩ := zI_add (l := 1) (h := 8) hv_113 zc_1 ev_132 (by decide)
                rw [li_1] at qv_132
                refine lv_icmp_le (tgt := 122) hx hb d_Model_apart_107 (by decide) (fun hc_133 => ?_) (fun hc_133 => ?_)
                · have _nhc_133 := hc_133
                  have ni_134 := (fa_le _ _).mp hc_133
                  refine lv_bipush (v := 97) hx hb d_Model_apart_122 (by decide) ?_
                  refine lv_aload_n hx hb d_Model_apart_124 rfl (lv_at hl 1 rfl) ?_
                  refine va_get (D := G.1) (ci := 12) (v := .ref b51) (C := R_Model) (T := F_Model) (N := 54) hx hb hts i_Model hown hK hP 8 rfl rfl 47 (by decide) (hts _ q1156) (fun _ h9 => h9) rfl d_Model_apart_125 ?_
                  refine lv_iload hx hb d_Model_apart_128 (lv_at hl 0 rfl) ?_
                  refine va_iald hx hb hK hP 18 0 rfl rfl (zI.inn hy_129 (by decide)) d_Model_apart_130 ?_
                  refine lv_topi (fun v_135 ev_135 => ?_)
                  refine lv_iadd hx hb d_Model_apart_131 ?_
                  refine lv_topi (fun v_136 ev_136 => ?_)
                  exact z_iret hx hb hr hlocks (hP.sub [8, 9, 0, 1, 2, 3, 4, 5, 10, 6, 7, 11, 12, 13, 14, 15, 16, 17, 18, 19, 20] rfl) (hD.sub [8, 9, 0, 1, 2, 3, 4, 5, 10, 6, 7, 11, 12, 13, 14, 15, 16, 17, 18, 19, 20] (by decide) rfl) hS (Nat.le_of_ble_eq_true rfl) (Nat.le_of_ble_eq_true rfl) d_Model_apart_132 ⟨v_136, x_55, x_83, f_56, f_57, f_58, f_59, f_60, f_61, f_62, f_63, f_64, f_65, f_66, f_67, f_84, f_85, f_86, f_87, f_88, f_89, f_90, rfl, rfl, hx_55, hx_83, hf_56, hf_57, hf_58, hf_60, hf_61, hf_62, hf_63, hf_66, hf_67, hf_87, hf_89⟩
                · have _nhc_133 := hc_133
                  have ni_137 := (fa_lt _ _).mp (zi_nle hc_133)
                  have hv_138 : zI v_132 1 7 := zI.lt_l hv_132 hv_131 (zi_nle hc_133) (by decide)
                  have hv_139 : zI b3 0 6 := by have _a := hv_138; have _b := qv_132; have _c := zc_1; have _d := hv_113; exact ⟨by omega, by omega⟩
                  have hv_140 : zI v_131 2 8 := zI.lt_r hv_132 hv_131 (zi_nle hc_133) (by decide)
                  refine lv_aload_n hx hb d_Model_apart_110 rfl (lv_at hl 1 rfl) ?_
                  refine va_get (D := G.1) (ci := 12) (v := .ref b50) (C := R_Model) (T := F_Model) (N := 54) hx hb hts i_Model hown hK hP 8 rfl rfl 46 (by decide) (hts _ q1155) (fun _ h9 => h9) rfl d_Model_apart_111 ?_
                  refine lv_iload hx hb d_Model_apart_114 (lv_at hl 0 rfl) ?_
                  refine va_iald hx hb hK hP 17 0 rfl rfl (zI.inn hy_129 (by decide)) d_Model_apart_116 ?_
                  refine lv_topi (fun v_141 ev_141 => ?_)
                  have hv_141 : zI v_141 (-1) 399 := (hf_87 _).eq ev_141
                  have _wv_141 := hfx_92 y_129.toNatClampNeg (by have p9 := z_pl hy_129 (by decide); omega)
                  have hv_142 : zI v_141 0 399 ∧ v_141.toInt < y_129.toInt := by have p9 := z_pl hy_129 (by decide); rw [← ev_141] at _wv_141; rw [← ev_131] at _wv_141; exact ⟨⟨by omega, hv_141.2⟩, by omega⟩
                  refine lv_istore (lv' := [(4, .int v_141), (0, .ref b0), (1, .int b1), (2, .int b2), (3, .int b3)]) hx hb d_Model_apart_117 hl (by decide) rfl (fun ls hl => ?_)
                  refine lv_goto (tgt := 97) hx hb d_Model_apart_119 (by decide) ?_
                  exact ihk_128 (v_141) _ _ _ hv_142.1 (by omega) (by omega) hP hD hS (lv_sub hl [0, 1, 2, 3, 4] rfl)
            · have _nhc_111 := hc_111
              have ni_143 := (fa_le _ _).mp (zi_nlt hc_111)
              refine lv_iconst (v := (-1)) hx hb d_Model_apart_95 (by decide) ?_
              exact z_iret hx hb hr hlocks (hP.sub [8, 9, 0, 1, 2, 3, 4, 5, 10, 6, 7, 11, 12, 13, 14, 15, 16, 17, 18, 19, 20] rfl) (hD.sub [8, 9, 0, 1, 2, 3, 4, 5, 10, 6, 7, 11, 12, 13, 14, 15, 16, 17, 18, 19, 20] (by decide) rfl) hS (Nat.le_of_ble_eq_true rfl) (Nat.le_of_ble_eq_true rfl) d_Model_apart_96 ⟨(-1), x_55, x_83, f_56, f_57, f_58, f_59, f_60, f_61, f_62, f_63, f_64, f_65, f_66, f_67, f_84, f_85, f_86, f_87, f_88, f_89, f_90, rfl, rfl, hx_55, hx_83, hf_56, hf_57, hf_58, hf_60, hf_61, hf_62, hf_63, hf_66, hf_67, hf_87, hf_89⟩
          · have _nhc_107 := hc_107
            have ni_144 := (fa_eq _ _).mp hc_107
            rw [li_m1] at ni_144
            have hv_145 : zI b3 (-1) (-1) := zI.eq_l hv_25 zc_m1 hc_107
            refine lv_iload hx hb d_Model_apart_66 (lv_at hl 0 rfl) ?_
            refine lv_if_ge (tgt := 76) hx hb d_Model_apart_68 (by decide) (fun _ => ?_) (fun hc => zI.no_lt hv_106 zc_0 (zi_nle hc) (by decide))
            refine lv_aload_n hx hb d_Model_apart_76 rfl (lv_at hl 1 rfl) ?_
            refine va_get (D := G.1) (ci := 12) (v := .ref b52) (C := R_Model) (T := F_Model) (N := 54) hx hb hts i_Model hown hK hP 8 rfl rfl 48 (by decide) (hts _ q1157) (fun _ h9 => h9) rfl d_Model_apart_77 ?_
            refine lv_iload hx hb d_Model_apart_80 (lv_at hl 0 rfl) ?_
            refine va_iald hx hb hK hP 19 0 rfl rfl (zI.inn hv_106 (by decide)) d_Model_apart_82 ?_
            refine lv_topi (fun v_146 ev_146 => ?_)
            have hv_146 : zI v_146 0 8 := (hf_89 _).eq ev_146
            exact z_iret hx hb hr hlocks (hP.sub [8, 9, 0, 1, 2, 3, 4, 5, 10, 6, 7, 11, 12, 13, 14, 15, 16, 17, 18, 19, 20] rfl) (hD.sub [8, 9, 0, 1, 2, 3, 4, 5, 10, 6, 7, 11, 12, 13, 14, 15, 16, 17, 18, 19, 20] (by decide) rfl) hS (Nat.le_of_ble_eq_true rfl) (Nat.le_of_ble_eq_true rfl) d_Model_apart_83 ⟨v_146, x_55, x_83, f_56, f_57, f_58, f_59, f_60, f_61, f_62, f_63, f_64, f_65, f_66, f_67, f_84, f_85, f_86, f_87, f_88, f_89, f_90, rfl, rfl, hx_55, hx_83, hf_56, hf_57, hf_58, hf_60, hf_61, hf_62, hf_63, hf_66, hf_67, hf_87, hf_89⟩
      · have _nhc_23 := hc_23
        have ni_147 := (fa_lt _ _).mp (zi_nle hc_23)
        rw [li_m1] at ni_147
        have hv_148 : zI b3 (-2147483648) (-2) := zI.lt_l (zI_all b3) zc_m1 (zi_nle hc_23) (by decide)
        refine lv_iconst (v := (-1)) hx hb d_Model_apart_34 (by decide) ?_
        exact z_iret hx hb hr hlocks hP hD hS (Nat.le_of_ble_eq_true rfl) (Nat.le_of_ble_eq_true rfl) d_Model_apart_35 ⟨(-1), b31, b54, b59, b60, b61, b62, b63, b64, b65, b66, b67, b68, b69, b70, b71, b72, b73, b74, b75, b76, b77, rfl, rfl, hb31, hb54, hb59, hb60, hb61, hb63, hb64, hb65, hb66, hb69, hb70, hb74, hb76⟩
