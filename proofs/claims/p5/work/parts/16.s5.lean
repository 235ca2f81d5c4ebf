theorem d_Machine_fold_0 : decode prog_4_method_5_code 0 = .ok (.aload_n 0, 1) := by decide +kernel
theorem d_Machine_fold_1 : decode prog_4_method_5_code 1 = .ok (.iconst 1, 1) := by decide +kernel
theorem d_Machine_fold_2 : decode prog_4_method_5_code 2 = .ok (.putfield 51, 3) := by decide +kernel
theorem d_Machine_fold_5 : decode prog_4_method_5_code 5 = .ok (.aload_n 3, 1) := by decide +kernel
theorem d_Machine_fold_6 : decode prog_4_method_5_code 6 = .ok (.aload_n 1, 1) := by decide +kernel
theorem d_Machine_fold_7 : decode prog_4_method_5_code 7 = .ok (.aload_n 2, 1) := by decide +kernel
theorem d_Machine_fold_8 : decode prog_4_method_5_code 8 = .ok (.iload 4, 2) := by decide +kernel
theorem d_Machine_fold_10 : decode prog_4_method_5_code 10 = .ok (.invokevirtual 55, 3) := by decide +kernel
theorem d_Machine_fold_13 : decode prog_4_method_5_code 13 = .ok (.aload_n 0, 1) := by decide +kernel
theorem d_Machine_fold_14 : decode prog_4_method_5_code 14 = .ok (.aload_n 2, 1) := by decide +kernel
theorem d_Machine_fold_15 : decode prog_4_method_5_code 15 = .ok (.aload_n 3, 1) := by decide +kernel
theorem d_Machine_fold_16 : decode prog_4_method_5_code 16 = .ok (.invokevirtual 61, 3) := by decide +kernel
theorem d_Machine_fold_19 : decode prog_4_method_5_code 19 = .ok (.aload_n 0, 1) := by decide +kernel
theorem d_Machine_fold_20 : decode prog_4_method_5_code 20 = .ok (.aload_n 2, 1) := by decide +kernel
theorem d_Machine_fold_21 : decode prog_4_method_5_code 21 = .ok (.invokevirtual 65, 3) := by decide +kernel
theorem d_Machine_fold_24 : decode prog_4_method_5_code 24 = .ok (.aload_n 0, 1) := by decide +kernel
theorem d_Machine_fold_25 : decode prog_4_method_5_code 25 = .ok (.aload_n 2, 1) := by decide +kernel
theorem d_Machine_fold_26 : decode prog_4_method_5_code 26 = .ok (.invokevirtual 69, 3) := by decide +kernel
theorem d_Machine_fold_29 : decode prog_4_method_5_code 29 = .ok (.aload_n 0, 1) := by decide +kernel
theorem d_Machine_fold_30 : decode prog_4_method_5_code 30 = .ok (.invokevirtual 72, 3) := by decide +kernel
theorem d_Machine_foldStates_0 : decode prog_4_method_6_code 0 = .ok (.aload_n 0, 1) := by decide +kernel
theorem d_Machine_foldStates_1 : decode prog_4_method_6_code 1 = .ok (.iconst 0, 1) := by decide +kernel
theorem d_Machine_foldStates_2 : decode prog_4_method_6_code 2 = .ok (.putfield 75, 3) := by decide +kernel
theorem d_Machine_foldStates_5 : decode prog_4_method_6_code 5 = .ok (.aload_n 0, 1) := by decide +kernel
theorem d_Machine_foldStates_6 : decode prog_4_method_6_code 6 = .ok (.getfield 29, 3) := by decide +kernel
theorem d_Machine_foldStates_9 : decode prog_4_method_6_code 9 = .ok (.lconst 0, 1) := by decide +kernel
theorem d_Machine_foldStates_10 : decode prog_4_method_6_code 10 = .ok (.invokestatic 79, 3) := by decide +kernel
theorem d_Machine_foldStates_13 : decode prog_4_method_6_code 13 = .ok (.iconst 0, 1) := by decide +kernel
theorem d_Machine_foldStates_14 : decode prog_4_method_6_code 14 = .ok (.istore_n 3, 1) := by decide +kernel
theorem d_Machine_foldStates_15 : decode prog_4_method_6_code 15 = .ok (.iload_n 3, 1) := by decide +kernel
theorem d_Machine_foldStates_16 : decode prog_4_method_6_code 16 = .ok (.aload_n 1, 1) := by decide +kernel
theorem d_Machine_foldStates_17 : decode prog_4_method_6_code 17 = .ok (.getfield 85, 3) := by decide +kernel
theorem d_Machine_foldStates_20 : decode prog_4_method_6_code 20 = .ok (.if_icmp .ge 160, 3) := by decide +kernel
theorem d_Machine_foldStates_23 : decode prog_4_method_6_code 23 = .ok (.aload_n 2, 1) := by decide +kernel
theorem d_Machine_foldStates_24 : decode prog_4_method_6_code 24 = .ok (.iload_n 3, 1) := by decide +kernel
theorem d_Machine_foldStates_25 : decode prog_4_method_6_code 25 = .ok (.invokevirtual 89, 3) := by decide +kernel
theorem d_Machine_foldStates_28 : decode prog_4_method_6_code 28 = .ok (.istore 4, 2) := by decide +kernel
theorem d_Machine_foldStates_30 : decode prog_4_method_6_code 30 = .ok (.iload 4, 2) := by decide +kernel
theorem d_Machine_foldStates_32 : decode prog_4_method_6_code 32 = .ok (.iload_n 3, 1) := by decide +kernel
theorem d_Machine_foldStates_33 : decode prog_4_method_6_code 33 = .ok (.if_icmp .ne 68, 3) := by decide +kernel
theorem d_Machine_foldStates_36 : decode prog_4_method_6_code 36 = .ok (.aload_n 0, 1) := by decide +kernel
theorem d_Machine_foldStates_37 : decode prog_4_method_6_code 37 = .ok (.getfield 11, 3) := by decide +kernel
theorem d_Machine_foldStates_40 : decode prog_4_method_6_code 40 = .ok (.iload_n 3, 1) := by decide +kernel
theorem d_Machine_foldStates_41 : decode prog_4_method_6_code 41 = .ok (.aload_n 0, 1) := by decide +kernel
theorem d_Machine_foldStates_42 : decode prog_4_method_6_code 42 = .ok (.getfield 75, 3) := by decide +kernel
theorem d_Machine_foldStates_45 : decode prog_4_method_6_code 45 = .ok (.iastore, 1) := by decide +kernel
theorem d_Machine_foldStates_46 : decode prog_4_method_6_code 46 = .ok (.aload_n 0, 1) := by decide +kernel
theorem d_Machine_foldStates_47 : decode prog_4_method_6_code 47 = .ok (.getfield 15, 3) := by decide +kernel
theorem d_Machine_foldStates_50 : decode prog_4_method_6_code 50 = .ok (.aload_n 0, 1) := by decide +kernel
theorem d_Machine_foldStates_51 : decode prog_4_method_6_code 51 = .ok (.getfield 75, 3) := by decide +kernel
theorem d_Machine_foldStates_54 : decode prog_4_method_6_code 54 = .ok (.iload_n 3, 1) := by decide +kernel
theorem d_Machine_foldStates_55 : decode prog_4_method_6_code 55 = .ok (.iastore, 1) := by decide +kernel
theorem d_Machine_foldStates_56 : decode prog_4_method_6_code 56 = .ok (.aload_n 0, 1) := by decide +kernel
theorem d_Machine_foldStates_57 : decode prog_4_method_6_code 57 = .ok (.getfield 18, 3) := by decide +kernel
theorem d_Machine_foldStates_60 : decode prog_4_method_6_code 60 = .ok (.aload_n 0, 1) := by decide +kernel
theorem d_Machine_foldStates_61 : decode prog_4_method_6_code 61 = .ok (.getfield 75, 3) := by decide +kernel
theorem d_Machine_foldStates_64 : decode prog_4_method_6_code 64 = .ok (.iconst 0, 1) := by decide +kernel
theorem d_Machine_foldStates_65 : decode prog_4_method_6_code 65 = .ok (.iastore, 1) := by decide +kernel
theorem d_Machine_foldStates_66 : decode prog_4_method_6_code 66 = .ok (.aload_n 0, 1) := by decide +kernel
theorem d_Machine_foldStates_67 : decode prog_4_method_6_code 67 = .ok (.getfield 21, 3) := by decide +kernel
theorem d_Machine_foldStates_70 : decode prog_4_method_6_code 70 = .ok (.aload_n 0, 1) := by decide +kernel
theorem d_Machine_foldStates_71 : decode prog_4_method_6_code 71 = .ok (.getfield 75, 3) := by decide +kernel
theorem d_Machine_foldStates_74 : decode prog_4_method_6_code 74 = .ok (.iconst 0, 1) := by decide +kernel
theorem d_Machine_foldStates_75 : decode prog_4_method_6_code 75 = .ok (.iastore, 1) := by decide +kernel
theorem d_Machine_foldStates_76 : decode prog_4_method_6_code 76 = .ok (.aload_n 0, 1) := by decide +kernel
theorem d_Machine_foldStates_77 : decode prog_4_method_6_code 77 = .ok (.getfield 24, 3) := by decide +kernel
theorem d_Machine_foldStates_80 : decode prog_4_method_6_code 80 = .ok (.aload_n 0, 1) := by decide +kernel
theorem d_Machine_foldStates_81 : decode prog_4_method_6_code 81 = .ok (.getfield 75, 3) := by decide +kernel
theorem d_Machine_foldStates_84 : decode prog_4_method_6_code 84 = .ok (.aload_n 2, 1) := by decide +kernel
theorem d_Machine_foldStates_85 : decode prog_4_method_6_code 85 = .ok (.getfield 93, 3) := by decide +kernel
theorem d_Machine_foldStates_88 : decode prog_4_method_6_code 88 = .ok (.iload_n 3, 1) := by decide +kernel
theorem d_Machine_foldStates_89 : decode prog_4_method_6_code 89 = .ok (.iaload, 1) := by decide +kernel
theorem d_Machine_foldStates_90 : decode prog_4_method_6_code 90 = .ok (.iastore, 1) := by decide +kernel
theorem d_Machine_foldStates_91 : decode prog_4_method_6_code 91 = .ok (.aload_n 0, 1) := by decide +kernel
theorem d_Machine_foldStates_92 : decode prog_4_method_6_code 92 = .ok (.dup, 1) := by decide +kernel
theorem d_Machine_foldStates_93 : decode prog_4_method_6_code 93 = .ok (.getfield 75, 3) := by decide +kernel
theorem d_Machine_foldStates_96 : decode prog_4_method_6_code 96 = .ok (.iconst 1, 1) := by decide +kernel
theorem d_Machine_foldStates_97 : decode prog_4_method_6_code 97 = .ok (.iadd, 1) := by decide +kernel
theorem d_Machine_foldStates_98 : decode prog_4_method_6_code 98 = .ok (.putfield 75, 3) := by decide +kernel
theorem d_Machine_foldStates_101 : decode prog_4_method_6_code 101 = .ok (.aload_n 0, 1) := by decide +kernel
theorem d_Machine_foldStates_102 : decode prog_4_method_6_code 102 = .ok (.getfield 11, 3) := by decide +kernel
theorem d_Machine_foldStates_105 : decode prog_4_method_6_code 105 = .ok (.iload 4, 2) := by decide +kernel
theorem d_Machine_foldStates_107 : decode prog_4_method_6_code 107 = .ok (.iaload, 1) := by decide +kernel
theorem d_Machine_foldStates_108 : decode prog_4_method_6_code 108 = .ok (.istore 5, 2) := by decide +kernel
theorem d_Machine_foldStates_110 : decode prog_4_method_6_code 110 = .ok (.aload_n 0, 1) := by decide +kernel
theorem d_Machine_foldStates_111 : decode prog_4_method_6_code 111 = .ok (.getfield 11, 3) := by decide +kernel
theorem d_Machine_foldStates_114 : decode prog_4_method_6_code 114 = .ok (.iload_n 3, 1) := by decide +kernel
theorem d_Machine_foldStates_115 : decode prog_4_method_6_code 115 = .ok (.iload 5, 2) := by decide +kernel
theorem d_Machine_foldStates_117 : decode prog_4_method_6_code 117 = .ok (.iastore, 1) := by decide +kernel
theorem d_Machine_foldStates_118 : decode prog_4_method_6_code 118 = .ok (.aload_n 0, 1) := by decide +kernel
theorem d_Machine_foldStates_119 : decode prog_4_method_6_code 119 = .ok (.getfield 18, 3) := by decide +kernel
theorem d_Machine_foldStates_122 : decode prog_4_method_6_code 122 = .ok (.iload 5, 2) := by decide +kernel
theorem d_Machine_foldStates_124 : decode prog_4_method_6_code 124 = .ok (.dup2, 1) := by decide +kernel
theorem d_Machine_foldStates_125 : decode prog_4_method_6_code 125 = .ok (.iaload, 1) := by decide +kernel
theorem d_Machine_foldStates_126 : decode prog_4_method_6_code 126 = .ok (.iconst 1, 1) := by decide +kernel
theorem d_Machine_foldStates_127 : decode prog_4_method_6_code 127 = .ok (.iadd, 1) := by decide +kernel
theorem d_Machine_foldStates_128 : decode prog_4_method_6_code 128 = .ok (.iastore, 1) := by decide +kernel
theorem d_Machine_foldStates_129 : decode prog_4_method_6_code 129 = .ok (.aload_n 0, 1) := by decide +kernel
theorem d_Machine_foldStates_130 : decode prog_4_method_6_code 130 = .ok (.getfield 21, 3) := by decide +kernel
theorem d_Machine_foldStates_133 : decode prog_4_method_6_code 133 = .ok (.iload 5, 2) := by decide +kernel
theorem d_Machine_foldStates_135 : decode prog_4_method_6_code 135 = .ok (.dup2, 1) := by decide +kernel
theorem d_Machine_foldStates_136 : decode prog_4_method_6_code 136 = .ok (.iaload, 1) := by decide +kernel
theorem d_Machine_foldStates_137 : decode prog_4_method_6_code 137 = .ok (.aload_n 1, 1) := by decide +kernel
theorem d_Machine_foldStates_138 : decode prog_4_method_6_code 138 = .ok (.getfield 96, 3) := by decide +kernel
theorem d_Machine_foldStates_141 : decode prog_4_method_6_code 141 = .ok (.iload_n 3, 1) := by decide +kernel
theorem d_Machine_foldStates_142 : decode prog_4_method_6_code 142 = .ok (.iaload, 1) := by decide +kernel
theorem d_Machine_foldStates_143 : decode prog_4_method_6_code 143 = .ok (.iadd, 1) := by decide +kernel
theorem d_Machine_foldStates_144 : decode prog_4_method_6_code 144 = .ok (.iastore, 1) := by decide +kernel
theorem d_Machine_foldStates_145 : decode prog_4_method_6_code 145 = .ok (.aload_n 1, 1) := by decide +kernel
theorem d_Machine_foldStates_146 : decode prog_4_method_6_code 146 = .ok (.getfield 96, 3) := by decide +kernel
theorem d_Machine_foldStates_149 : decode prog_4_method_6_code 149 = .ok (.iload_n 3, 1) := by decide +kernel
theorem d_Machine_foldStates_150 : decode prog_4_method_6_code 150 = .ok (.iaload, 1) := by decide +kernel
theorem d_Machine_foldStates_151 : decode prog_4_method_6_code 151 = .ok (.ifCond .le 23, 3) := by decide +kernel
theorem d_Machine_foldStates_154 : decode prog_4_method_6_code 154 = .ok (.aload_n 0, 1) := by decide +kernel
theorem d_Machine_foldStates_155 : decode prog_4_method_6_code 155 = .ok (.getfield 29, 3) := by decide +kernel
theorem d_Machine_foldStates_158 : decode prog_4_method_6_code 158 = .ok (.iload 5, 2) := by decide +kernel
theorem d_Machine_foldStates_160 : decode prog_4_method_6_code 160 = .ok (.bipush 6, 2) := by decide +kernel
theorem d_Machine_foldStates_162 : decode prog_4_method_6_code 162 = .ok (.ishr, 1) := by decide +kernel
theorem d_Machine_foldStates_163 : decode prog_4_method_6_code 163 = .ok (.dup2, 1) := by decide +kernel
theorem d_Machine_foldStates_164 : decode prog_4_method_6_code 164 = .ok (.laload, 1) := by decide +kernel
theorem d_Machine_foldStates_165 : decode prog_4_method_6_code 165 = .ok (.lconst 1, 1) := by decide +kernel
theorem d_Machine_foldStates_166 : decode prog_4_method_6_code 166 = .ok (.iload 5, 2) := by decide +kernel
theorem d_Machine_foldStates_168 : decode prog_4_method_6_code 168 = .ok (.bipush 63, 2) := by decide +kernel
theorem d_Machine_foldStates_170 : decode prog_4_method_6_code 170 = .ok (.iand, 1) := by decide +kernel
theorem d_Machine_foldStates_171 : decode prog_4_method_6_code 171 = .ok (.lshl, 1) := by decide +kernel
theorem d_Machine_foldStates_172 : decode prog_4_method_6_code 172 = .ok (.lor, 1) := by decide +kernel
theorem d_Machine_foldStates_173 : decode prog_4_method_6_code 173 = .ok (.lastore, 1) := by decide +kernel
theorem d_Machine_foldStates_174 : decode prog_4_method_6_code 174 = .ok (.iinc 3 1, 3) := by decide +kernel
theorem d_Machine_foldStates_177 : decode prog_4_method_6_code 177 = .ok (.goto (-162), 3) := by decide +kernel
theorem d_Machine_foldStates_180 : decode prog_4_method_6_code 180 = .ok (.return_, 1) := by decide +kernel
theorem d_Machine_gatherKeys_0 : decode prog_4_method_9_code 0 = .ok (.aload_n 0, 1) := by decide +kernel
theorem d_Machine_gatherKeys_1 : decode prog_4_method_9_code 1 = .ok (.iconst 0, 1) := by decide +kernel
theorem d_Machine_gatherKeys_2 : decode prog_4_method_9_code 2 = .ok (.putfield 103, 3) := by decide +kernel
theorem d_Machine_gatherKeys_5 : decode prog_4_method_9_code 5 = .ok (.iconst 1, 1) := by decide +kernel
theorem d_Machine_gatherKeys_6 : decode prog_4_method_9_code 6 = .ok (.istore_n 2, 1) := by decide +kernel
theorem d_Machine_gatherKeys_7 : decode prog_4_method_9_code 7 = .ok (.iload_n 2, 1) := by decide +kernel
theorem d_Machine_gatherKeys_8 : decode prog_4_method_9_code 8 = .ok (.aload_n 1, 1) := by decide +kernel
theorem d_Machine_gatherKeys_9 : decode prog_4_method_9_code 9 = .ok (.getfield 85, 3) := by decide +kernel
theorem d_Machine_gatherKeys_12 : decode prog_4_method_9_code 12 = .ok (.if_icmp .ge 116, 3) := by decide +kernel
theorem d_Machine_gatherKeys_15 : decode prog_4_method_9_code 15 = .ok (.aload_n 0, 1) := by decide +kernel
theorem d_Machine_gatherKeys_16 : decode prog_4_method_9_code 16 = .ok (.aload_n 1, 1) := by decide +kernel
theorem d_Machine_gatherKeys_17 : decode prog_4_method_9_code 17 = .ok (.iload_n 2, 1) := by decide +kernel
theorem d_Machine_gatherKeys_18 : decode prog_4_method_9_code 18 = .ok (.invokevirtual 106, 3) := by decide +kernel
theorem d_Machine_gatherKeys_21 : decode prog_4_method_9_code 21 = .ok (.istore_n 3, 1) := by decide +kernel
theorem d_Machine_gatherKeys_22 : decode prog_4_method_9_code 22 = .ok (.aload_n 0, 1) := by decide +kernel
theorem d_Machine_gatherKeys_23 : decode prog_4_method_9_code 23 = .ok (.iload_n 3, 1) := by decide +kernel
theorem d_Machine_gatherKeys_24 : decode prog_4_method_9_code 24 = .ok (.invokevirtual 110, 3) := by decide +kernel
theorem d_Machine_gatherKeys_27 : decode prog_4_method_9_code 27 = .ok (.istore 4, 2) := by decide +kernel
theorem d_Machine_gatherKeys_29 : decode prog_4_method_9_code 29 = .ok (.iload 4, 2) := by decide +kernel
theorem d_Machine_gatherKeys_31 : decode prog_4_method_9_code 31 = .ok (.aload_n 0, 1) := by decide +kernel
theorem d_Machine_gatherKeys_32 : decode prog_4_method_9_code 32 = .ok (.getfield 103, 3) := by decide +kernel
theorem d_Machine_gatherKeys_35 : decode prog_4_method_9_code 35 = .ok (.if_icmp .eq 14, 3) := by decide +kernel
theorem d_Machine_gatherKeys_38 : decode prog_4_method_9_code 38 = .ok (.aload_n 0, 1) := by decide +kernel
theorem d_Machine_gatherKeys_39 : decode prog_4_method_9_code 39 = .ok (.getfield 33, 3) := by decide +kernel
theorem d_Machine_gatherKeys_42 : decode prog_4_method_9_code 42 = .ok (.iload 4, 2) := by decide +kernel
theorem d_Machine_gatherKeys_44 : decode prog_4_method_9_code 44 = .ok (.iaload, 1) := by decide +kernel
theorem d_Machine_gatherKeys_45 : decode prog_4_method_9_code 45 = .ok (.iload_n 3, 1) := by decide +kernel
theorem d_Machine_gatherKeys_46 : decode prog_4_method_9_code 46 = .ok (.if_icmp .eq 76, 3) := by decide +kernel
theorem d_Machine_gatherKeys_49 : decode prog_4_method_9_code 49 = .ok (.aload_n 0, 1) := by decide +kernel
theorem d_Machine_gatherKeys_50 : decode prog_4_method_9_code 50 = .ok (.getfield 33, 3) := by decide +kernel
theorem d_Machine_gatherKeys_53 : decode prog_4_method_9_code 53 = .ok (.iload 4, 2) := by decide +kernel
theorem d_Machine_gatherKeys_55 : decode prog_4_method_9_code 55 = .ok (.aload_n 0, 1) := by decide +kernel
theorem d_Machine_gatherKeys_56 : decode prog_4_method_9_code 56 = .ok (.getfield 33, 3) := by decide +kernel
theorem d_Machine_gatherKeys_59 : decode prog_4_method_9_code 59 = .ok (.iload 4, 2) := by decide +kernel
theorem d_Machine_gatherKeys_61 : decode prog_4_method_9_code 61 = .ok (.iconst 1, 1) := by decide +kernel
theorem d_Machine_gatherKeys_62 : decode prog_4_method_9_code 62 = .ok (.iadd, 1) := by decide +kernel
theorem d_Machine_gatherKeys_63 : decode prog_4_method_9_code 63 = .ok (.aload_n 0, 1) := by decide +kernel
theorem d_Machine_gatherKeys_64 : decode prog_4_method_9_code 64 = .ok (.getfield 103, 3) := by decide +kernel
theorem d_Machine_gatherKeys_67 : decode prog_4_method_9_code 67 = .ok (.iload 4, 2) := by decide +kernel
theorem d_Machine_gatherKeys_69 : decode prog_4_method_9_code 69 = .ok (.isub, 1) := by decide +kernel
theorem d_Machine_gatherKeys_70 : decode prog_4_method_9_code 70 = .ok (.invokestatic 113, 3) := by decide +kernel
theorem d_Machine_gatherKeys_73 : decode prog_4_method_9_code 73 = .ok (.aload_n 0, 1) := by decide +kernel
theorem d_Machine_gatherKeys_74 : decode prog_4_method_9_code 74 = .ok (.getfield 33, 3) := by decide +kernel
theorem d_Machine_gatherKeys_77 : decode prog_4_method_9_code 77 = .ok (.iload 4, 2) := by decide +kernel
theorem d_Machine_gatherKeys_79 : decode prog_4_method_9_code 79 = .ok (.iload_n 3, 1) := by decide +kernel
theorem d_Machine_gatherKeys_80 : decode prog_4_method_9_code 80 = .ok (.iastore, 1) := by decide +kernel
theorem d_Machine_gatherKeys_81 : decode prog_4_method_9_code 81 = .ok (.aload_n 0, 1) := by decide +kernel
theorem d_Machine_gatherKeys_82 : decode prog_4_method_9_code 82 = .ok (.getfield 36, 3) := by decide +kernel
theorem d_Machine_gatherKeys_85 : decode prog_4_method_9_code 85 = .ok (.aload_n 0, 1) := by decide +kernel
theorem d_Machine_gatherKeys_86 : decode prog_4_method_9_code 86 = .ok (.getfield 103, 3) := by decide +kernel
theorem d_Machine_gatherKeys_89 : decode prog_4_method_9_code 89 = .ok (.iconst 0, 1) := by decide +kernel
theorem d_Machine_gatherKeys_90 : decode prog_4_method_9_code 90 = .ok (.iastore, 1) := by decide +kernel
theorem d_Machine_gatherKeys_91 : decode prog_4_method_9_code 91 = .ok (.aload_n 0, 1) := by decide +kernel
theorem d_Machine_gatherKeys_92 : decode prog_4_method_9_code 92 = .ok (.getfield 39, 3) := by decide +kernel
theorem d_Machine_gatherKeys_95 : decode prog_4_method_9_code 95 = .ok (.aload_n 0, 1) := by decide +kernel
theorem d_Machine_gatherKeys_96 : decode prog_4_method_9_code 96 = .ok (.getfield 103, 3) := by decide +kernel
theorem d_Machine_gatherKeys_99 : decode prog_4_method_9_code 99 = .ok (.bipush 99, 2) := by decide +kernel
theorem d_Machine_gatherKeys_101 : decode prog_4_method_9_code 101 = .ok (.iastore, 1) := by decide +kernel
theorem d_Machine_gatherKeys_102 : decode prog_4_method_9_code 102 = .ok (.aload_n 0, 1) := by decide +kernel
theorem d_Machine_gatherKeys_103 : decode prog_4_method_9_code 103 = .ok (.getfield 42, 3) := by decide +kernel
theorem d_Machine_gatherKeys_106 : decode prog_4_method_9_code 106 = .ok (.aload_n 0, 1) := by decide +kernel
theorem d_Machine_gatherKeys_107 : decode prog_4_method_9_code 107 = .ok (.getfield 103, 3) := by decide +kernel
theorem d_Machine_gatherKeys_110 : decode prog_4_method_9_code 110 = .ok (.iconst 0, 1) := by decide +kernel
theorem d_Machine_gatherKeys_111 : decode prog_4_method_9_code 111 = .ok (.iastore, 1) := by decide +kernel
theorem d_Machine_gatherKeys_112 : decode prog_4_method_9_code 112 = .ok (.aload_n 0, 1) := by decide +kernel
theorem d_Machine_gatherKeys_113 : decode prog_4_method_9_code 113 = .ok (.dup, 1) := by decide +kernel
theorem d_Machine_gatherKeys_114 : decode prog_4_method_9_code 114 = .ok (.getfield 103, 3) := by decide +kernel
theorem d_Machine_gatherKeys_117 : decode prog_4_method_9_code 117 = .ok (.iconst 1, 1) := by decide +kernel
theorem d_Machine_gatherKeys_118 : decode prog_4_method_9_code 118 = .ok (.iadd, 1) := by decide +kernel
theorem d_Machine_gatherKeys_119 : decode prog_4_method_9_code 119 = .ok (.putfield 103, 3) := by decide +kernel
theorem d_Machine_gatherKeys_122 : decode prog_4_method_9_code 122 = .ok (.iinc 2 1, 3) := by decide +kernel
theorem d_Machine_gatherKeys_125 : decode prog_4_method_9_code 125 = .ok (.goto (-118), 3) := by decide +kernel
theorem d_Machine_gatherRanges_0 : decode prog_4_method_10_code 0 = .ok (.iconst 1, 1) := by decide +kernel
theorem d_Machine_gatherRanges_1 : decode prog_4_method_10_code 1 = .ok (.istore_n 2, 1) := by decide +kernel
theorem d_Machine_gatherRanges_2 : decode prog_4_method_10_code 2 = .ok (.iload_n 2, 1) := by decide +kernel
theorem d_Machine_gatherRanges_3 : decode prog_4_method_10_code 3 = .ok (.aload_n 1, 1) := by decide +kernel
theorem d_Machine_gatherRanges_4 : decode prog_4_method_10_code 4 = .ok (.getfield 85, 3) := by decide +kernel
theorem d_Machine_gatherRanges_7 : decode prog_4_method_10_code 7 = .ok (.if_icmp .ge 84, 3) := by decide +kernel
theorem d_Machine_gatherRanges_10 : decode prog_4_method_10_code 10 = .ok (.aload_n 0, 1) := by decide +kernel
theorem d_Machine_gatherRanges_11 : decode prog_4_method_10_code 11 = .ok (.aload_n 0, 1) := by decide +kernel
theorem d_Machine_gatherRanges_12 : decode prog_4_method_10_code 12 = .ok (.aload_n 1, 1) := by decide +kernel
theorem d_Machine_gatherRanges_13 : decode prog_4_method_10_code 13 = .ok (.iload_n 2, 1) := by decide +kernel
theorem d_Machine_gatherRanges_14 : decode prog_4_method_10_code 14 = .ok (.invokevirtual 106, 3) := by decide +kernel
theorem d_Machine_gatherRanges_17 : decode prog_4_method_10_code 17 = .ok (.invokevirtual 110, 3) := by decide +kernel
theorem d_Machine_gatherRanges_20 : decode prog_4_method_10_code 20 = .ok (.istore_n 3, 1) := by decide +kernel
theorem d_Machine_gatherRanges_21 : decode prog_4_method_10_code 21 = .ok (.aload_n 0, 1) := by decide +kernel
theorem d_Machine_gatherRanges_22 : decode prog_4_method_10_code 22 = .ok (.getfield 48, 3) := by decide +kernel
theorem d_Machine_gatherRanges_25 : decode prog_4_method_10_code 25 = .ok (.iload_n 2, 1) := by decide +kernel
theorem d_Machine_gatherRanges_26 : decode prog_4_method_10_code 26 = .ok (.iload_n 3, 1) := by decide +kernel
theorem d_Machine_gatherRanges_27 : decode prog_4_method_10_code 27 = .ok (.iastore, 1) := by decide +kernel
theorem d_Machine_gatherRanges_28 : decode prog_4_method_10_code 28 = .ok (.aload_n 0, 1) := by decide +kernel
theorem d_Machine_gatherRanges_29 : decode prog_4_method_10_code 29 = .ok (.getfield 36, 3) := by decide +kernel
theorem d_Machine_gatherRanges_32 : decode prog_4_method_10_code 32 = .ok (.iload_n 3, 1) := by decide +kernel
theorem d_Machine_gatherRanges_33 : decode prog_4_method_10_code 33 = .ok (.dup2, 1) := by decide +kernel
theorem d_Machine_gatherRanges_34 : decode prog_4_method_10_code 34 = .ok (.iaload, 1) := by decide +kernel
theorem d_Machine_gatherRanges_35 : decode prog_4_method_10_code 35 = .ok (.aload_n 1, 1) := by decide +kernel
theorem d_Machine_gatherRanges_36 : decode prog_4_method_10_code 36 = .ok (.getfield 119, 3) := by decide +kernel
theorem d_Machine_gatherRanges_39 : decode prog_4_method_10_code 39 = .ok (.iload_n 2, 1) := by decide +kernel
theorem d_Machine_gatherRanges_40 : decode prog_4_method_10_code 40 = .ok (.iaload, 1) := by decide +kernel
theorem d_Machine_gatherRanges_41 : decode prog_4_method_10_code 41 = .ok (.iadd, 1) := by decide +kernel
theorem d_Machine_gatherRanges_42 : decode prog_4_method_10_code 42 = .ok (.iastore, 1) := by decide +kernel
theorem d_Machine_gatherRanges_43 : decode prog_4_method_10_code 43 = .ok (.aload_n 0, 1) := by decide +kernel
theorem d_Machine_gatherRanges_44 : decode prog_4_method_10_code 44 = .ok (.getfield 39, 3) := by decide +kernel
theorem d_Machine_gatherRanges_47 : decode prog_4_method_10_code 47 = .ok (.iload_n 3, 1) := by decide +kernel
theorem d_Machine_gatherRanges_48 : decode prog_4_method_10_code 48 = .ok (.aload_n 0, 1) := by decide +kernel
theorem d_Machine_gatherRanges_49 : decode prog_4_method_10_code 49 = .ok (.getfield 39, 3) := by decide +kernel
theorem d_Machine_gatherRanges_52 : decode prog_4_method_10_code 52 = .ok (.iload_n 3, 1) := by decide +kernel
theorem d_Machine_gatherRanges_53 : decode prog_4_method_10_code 53 = .ok (.iaload, 1) := by decide +kernel
theorem d_Machine_gatherRanges_54 : decode prog_4_method_10_code 54 = .ok (.aload_n 1, 1) := by decide +kernel
theorem d_Machine_gatherRanges_55 : decode prog_4_method_10_code 55 = .ok (.getfield 122, 3) := by decide +kernel
theorem d_Machine_gatherRanges_58 : decode prog_4_method_10_code 58 = .ok (.iload_n 2, 1) := by decide +kernel
theorem d_Machine_gatherRanges_59 : decode prog_4_method_10_code 59 = .ok (.iaload, 1) := by decide +kernel
theorem d_Machine_gatherRanges_60 : decode prog_4_method_10_code 60 = .ok (.invokestatic 123, 3) := by decide +kernel
theorem d_Machine_gatherRanges_63 : decode prog_4_method_10_code 63 = .ok (.iastore, 1) := by decide +kernel
theorem d_Machine_gatherRanges_64 : decode prog_4_method_10_code 64 = .ok (.aload_n 0, 1) := by decide +kernel
theorem d_Machine_gatherRanges_65 : decode prog_4_method_10_code 65 = .ok (.getfield 42, 3) := by decide +kernel
theorem d_Machine_gatherRanges_68 : decode prog_4_method_10_code 68 = .ok (.iload_n 3, 1) := by decide +kernel
theorem d_Machine_gatherRanges_69 : decode prog_4_method_10_code 69 = .ok (.aload_n 0, 1) := by decide +kernel
theorem d_Machine_gatherRanges_70 : decode prog_4_method_10_code 70 = .ok (.getfield 42, 3) := by decide +kernel
theorem d_Machine_gatherRanges_73 : decode prog_4_method_10_code 73 = .ok (.iload_n 3, 1) := by decide +kernel
theorem d_Machine_gatherRanges_74 : decode prog_4_method_10_code 74 = .ok (.iaload, 1) := by decide +kernel
theorem d_Machine_gatherRanges_75 : decode prog_4_method_10_code 75 = .ok (.aload_n 1, 1) := by decide +kernel
theorem d_Machine_gatherRanges_76 : decode prog_4_method_10_code 76 = .ok (.getfield 129, 3) := by decide +kernel
theorem d_Machine_gatherRanges_79 : decode prog_4_method_10_code 79 = .ok (.iload_n 2, 1) := by decide +kernel
theorem d_Machine_gatherRanges_80 : decode prog_4_method_10_code 80 = .ok (.iaload, 1) := by decide +kernel
theorem d_Machine_gatherRanges_81 : decode prog_4_method_10_code 81 = .ok (.invokestatic 130, 3) := by decide +kernel
theorem d_Machine_gatherRanges_84 : decode prog_4_method_10_code 84 = .ok (.iastore, 1) := by decide +kernel
theorem d_Machine_gatherRanges_85 : decode prog_4_method_10_code 85 = .ok (.iinc 2 1, 3) := by decide +kernel
theorem d_Machine_gatherRanges_88 : decode prog_4_method_10_code 88 = .ok (.goto (-86), 3) := by decide +kernel
abbrev m_s2_Machine_foldStates : Room := { frames := 2, cells := 0, slots := 0, locals := 49 }
set_option maxHeartbeats 4000000 in
set_option maxRecDepth 100000 in
theorem s2_Machine_foldStates (l : Launch) (G : zG) (b0 : Nat) (b1 : Nat) (b2 : Nat) (b3 : Int32) (b4 : Int32) (b5 : Nat) (b6 : Nat) (b7 : Nat) (b8 : Nat) (b9 : Nat) (b10 : Nat) (b11 : Int32) (b12 : Nat) (b13 : Nat) (b14 : Nat) (b15 : Nat) (b16 : Nat) (b17 : Nat) (b18 : Nat → Int32) (b19 : Nat → Int32) (b20 : Nat → Int32) (b21 : Nat → Int32) (b22 : Nat → Int32) (b23 : Nat → Int64) (b24 : Int32) (b25 : Int32) (b26 : Int32) (b27 : Nat) (b28 : Nat) (b29 : Nat) (b30 : Nat) (b31 : Nat) (b32 : Nat) (b33 : Nat) (b34 : Nat) (b35 : Nat → Int32) (b36 : Nat) (b37 : Nat) (b38 : Nat) (b39 : Nat → Int32) (b40 : Nat → Int32) (b41 : Nat → Int32) (hb3 : zI b3 0 1) (hb4 : zI b4 0 241) (hb11 : zI b11 0 240) (hb24 : zI b24 0 1) (hb26 : zI b26 0 241) (hb18 : zR b18 0 240) (hb19 : zR b19 0 240) (hb39 : zqa qC b39) (hb41 : zR b41 (-1) 240) : zM l G y_Machine_foldStates prog_4_method_6_code 6 (Option.none : Option Jvm.ClassFile.FieldType) m_s2_Machine_foldStates [.ref b0, .ref b1, .ref b2] [(b0, .inr (5, [.int b3, .int b4, .ref b5, .ref b6, .ref b7, .ref b8, .ref b9, .ref b10, .int b11, .ref b12, .ref b13, .ref b14, .ref b15, .ref b16, .ref b17])), (b5, .inl (G.2 0, 241, .inl b18)), (b6, .inl (G.2 0, 241, .inl b19)), (b7, .inl (G.2 0, 241, .inl b20)), (b8, .inl (G.2 0, 241, .inl b21)), (b9, .inl (G.2 0, 241, .inl b22)), (b10, .inl (G.2 1, 4, .inr (.inl b23))), (b1, .inr (3, [.int b24, .int b25, .int b26, .ref b27, .ref b28, .ref b29, .ref b30, .ref b31, .ref b32, .ref b33, .ref b34])), (b30, .inl (G.2 0, 241, .inl b35)), (b2, .inr (4, [.ref b36, .ref b37, .ref b38])), (b36, .inl (G.2 0, 241, .inl b39)), (b37, .inl (G.2 0, 4820, .inl b40)), (b38, .inl (G.2 0, 512, .inl b41))] (fun v w => ∃ (e0 : Int32), ∃ (e1 : Nat → Int32), ∃ (e2 : Nat → Int32), ∃ (e3 : Nat → Int32), ∃ (e4 : Nat → Int32), ∃ (e5 : Nat → Int32), ∃ (e6 : Nat → Int64), ∃ (e7 : Nat → Int32), v = none ∧ w = [(b0, .inr (5, [.int b3, .int e0, .ref b5, .ref b6, .ref b7, .ref b8, .ref b9, .ref b10, .int b11, .ref b12, .ref b13, .ref b14, .ref b15, .ref b16, .ref b17])), (b5, .inl (G.2 0, 241, .inl e1)), (b6, .inl (G.2 0, 241, .inl e2)), (b7, .inl (G.2 0, 241, .inl e3)), (b8, .inl (G.2 0, 241, .inl e4)), (b9, .inl (G.2 0, 241, .inl e5)), (b10, .inl (G.2 1, 4, .inr (.inl e6))), (b1, .inr (3, [.int b24, .int b25, .int b26, .ref b27, .ref b28, .ref b29, .ref b30, .ref b31, .ref b32, .ref b33, .ref b34])), (b30, .inl (G.2 0, 241, .inl b35)), (b2, .inr (4, [.ref b36, .ref b37, .ref b38])), (b36, .inl (G.2 0, 241, .inl b39)), (b37, .inl (G.2 0, 4820, .inl b40)), (b38, .inl (G.2 0, 512, .inl e7))] ∧ (zI e0 0 241) ∧ (zR e1 0 240) ∧ (zR e2 0 240) ∧ (zR e7 (-1) 240)) := by
  refine z_start (by decide +kernel) (Nat.le_of_ble_eq_true rfl) ?_
  intro p e s m below meth c A Z hr hnm hA hP hD hS ls hl
  have Z : zC p s m _ meth c prog_4_method_6_code 6 "TraceMachines$Machine" G := Z
  obtain ⟨hx, hb, hml, hown, hts, hK, hN, hlocks⟩ := id Z
  have hl : lv_has ls 6 [(0, .ref b0), (1, .ref b1), (2, .ref b2)] := hl
  refine lv_aload_n hx hb d_Machine_foldStates_0 rfl (lv_at hl 0 rfl) ?_
  refine lv_iconst (v := 0) hx hb d_Machine_foldStates_1 (by decide) ?_
  refine va_put (D := G.1) (ci := 5) (v := .int 0) (ty := .int) (C := R_Machine) (T := F_Machine) (N := 15) hx hb hts i_Machine t_Machine t_Machine_ok n_Machine hown hK hP hD hS 0 rfl rfl 1 (by decide) (hts _ q168) (fun _ h9 => h9) rfl (by decide +kernel) rfl rfl (Nat.le_of_ble_eq_true rfl) d_Machine_foldStates_2 (fun H locs hP hD hS => ?_)
  have hP : va_P G.1 classes [(b0, .inr (5, [.int b3, .int 0, .ref b5, .ref b6, .ref b7, .ref b8, .ref b9, .ref b10, .int b11, .ref b12, .ref b13, .ref b14, .ref b15, .ref b16, .ref b17])), (b5, .inl (G.2 0, 241, .inl b18)), (b6, .inl (G.2 0, 241, .inl b19)), (b7, .inl (G.2 0, 241, .inl b20)), (b8, .inl (G.2 0, 241, .inl b21)), (b9, .inl (G.2 0, 241, .inl b22)), (b10, .inl (G.2 1, 4, .inr (.inl b23))), (b1, .inr (3, [.int b24, .int b25, .int b26, .ref b27, .ref b28, .ref b29, .ref b30, .ref b31, .ref b32, .ref b33, .ref b34])), (b30, .inl (G.2 0, 241, .inl b35)), (b2, .inr (4, [.ref b36, .ref b37, .ref b38])), (b36, .inl (G.2 0, 241, .inl b39)), (b37, .inl (G.2 0, 4820, .inl b40)), (b38, .inl (G.2 0, 512, .inl b41))] H := hP
  have hD := z_tie hP hD rfl
  refine lv_aload_n hx hb d_Machine_foldStates_5 rfl (lv_at hl 0 rfl) ?_
  refine va_get (D := G.1) (ci := 5) (v := .ref b10) (C := R_Machine) (T := F_Machine) (N := 15) hx hb hts i_Machine hown hK hP 0 rfl rfl 7 (by decide) (hts _ q181) (fun _ h9 => h9) rfl d_Machine_foldStates_6 ?_
  refine lv_lconst (v := 0) hx hb d_Machine_foldStates_9 (by decide) ?_
  refine z_callS (index := 79) (As := [.ref b10, .long 0]) (rest := []) (wr := [(b0, .inr (5, [.int b3, .int 0, .ref b5, .ref b6, .ref b7, .ref b8, .ref b9, .ref b10, .int b11, .ref b12, .ref b13, .ref b14, .ref b15, .ref b16, .ref b17])), (b5, .inl (G.2 0, 241, .inl b18)), (b6, .inl (G.2 0, 241, .inl b19)), (b7, .inl (G.2 0, 241, .inl b20)), (b8, .inl (G.2 0, 241, .inl b21)), (b9, .inl (G.2 0, 241, .inl b22)), (b1, .inr (3, [.int b24, .int b25, .int b26, .ref b27, .ref b28, .ref b29, .ref b30, .ref b31, .ref b32, .ref b33, .ref b34])), (b30, .inl (G.2 0, 241, .inl b35)), (b2, .inr (4, [.ref b36, .ref b37, .ref b38])), (b36, .inl (G.2 0, 241, .inl b39)), (b37, .inl (G.2 0, 4820, .inl b40)), (b38, .inl (G.2 0, 512, .inl b41))]) Z (c_fill_J l G (b10) (4) (b23) (0) (by decide)) hl.1 q622 q623 q13 q624 ⟨by decide, by decide, by show _ = some 2; decide +kernel⟩ ⟨Nat.le_of_ble_eq_true rfl, Nat.le_of_ble_eq_true rfl⟩ ⟨Nat.le_of_ble_eq_true rfl, Nat.le_of_ble_eq_true rfl⟩ rfl (Nat.le_of_ble_eq_true rfl) d_Machine_foldStates_10 hP hD hS hA [6] [0, 1, 2, 3, 4, 5, 7, 8, 9, 10, 11, 12] rfl rfl rfl rfl (by decide) (fun v w1 H locs hw_1 hP hD hS => ?_)
  obtain ⟨rfl, rfl⟩ := hw_1
  have hP : va_P G.1 classes [(b0, .inr (5, [.int b3, .int 0, .ref b5, .ref b6, .ref b7, .ref b8, .ref b9, .ref b10, .int b11, .ref b12, .ref b13, .ref b14, .ref b15, .ref b16, .ref b17])), (b5, .inl (G.2 0, 241, .inl b18)), (b6, .inl (G.2 0, 241, .inl b19)), (b7, .inl (G.2 0, 241, .inl b20)), (b8, .inl (G.2 0, 241, .inl b21)), (b9, .inl (G.2 0, 241, .inl b22)), (b1, .inr (3, [.int b24, .int b25, .int b26, .ref b27, .ref b28, .ref b29, .ref b30, .ref b31, .ref b32, .ref b33, .ref b34])), (b30, .inl (G.2 0, 241, .inl b35)), (b2, .inr (4, [.ref b36, .ref b37, .ref b38])), (b36, .inl (G.2 0, 241, .inl b39)), (b37, .inl (G.2 0, 4820, .inl b40)), (b38, .inl (G.2 0, 512, .inl b41)), (b10, .inl (G.2 1, 4, .inr (.inl (fun _ => 0))))] H := hP
  have hD := z_tie hP hD rfl
  refine W.widen (k := 0) (n := 0) (Nat.le_of_ble_eq_true rfl) (Nat.le_of_ble_eq_true rfl) ?_
  refine lv_iconst (v := 0) hx hb d_Machine_foldStates_13 (by decide) ?_
  refine lv_istore_n (lv' := [(3, .int 0), (0, .ref b0), (1, .ref b1), (2, .ref b2)]) hx hb d_Machine_foldStates_14 rfl hl (by decide) rfl (fun ls hl => ?_)
  suffices key : ∀ (k_76 : Nat) (y_77 : Int32) (y_78 : Int32) (y_79 : Nat → Int64) (y_80 : Nat → Int32) (y_81 : Nat → Int32) (y_82 : Nat → Int32) (y_83 : Nat → Int32) (y_84 : Nat → Int32) (y_85 : Nat → Int32) (H : Heap) (locs : List Loc) (ls : Array Slot), (zI y_77 0 241) → (zI y_78 0 241) → (zR y_80 (-1) 240) → (zR y_81 0 240) → (zR y_82 0 240) → ((y_78 : Int32).toInt ≤ (y_77 : Int32).toInt) → (241 : Int) - y_77.toInt < (k_76 : Int) → va_P G.1 classes [(b0, .inr (5, [.int b3, .int y_78, .ref b5, .ref b6, .ref b7, .ref b8, .ref b9, .ref b10, .int b11, .ref b12, .ref b13, .ref b14, .ref b15, .ref b16, .ref b17])), (b5, .inl (G.2 0, 241, .inl y_81)), (b6, .inl (G.2 0, 241, .inl y_82)), (b7, .inl (G.2 0, 241, .inl y_83)), (b8, .inl (G.2 0, 241, .inl y_84)), (b9, .inl (G.2 0, 241, .inl y_85)), (b1, .inr (3, [.int b24, .int b25, .int b26, .ref b27, .ref b28, .ref b29, .ref b30, .ref b31, .ref b32, .ref b33, .ref b34])), (b30, .inl (G.2 0, 241, .inl b35)), (b2, .inr (4, [.ref b36, .ref b37, .ref b38])), (b36, .inl (G.2 0, 241, .inl b39)), (b37, .inl (G.2 0, 4820, .inl b40)), (b38, .inl (G.2 0, 512, .inl y_80)), (b10, .inl (G.2 1, 4, .inr (.inl y_79)))] H → va_D A [(b0, .inr (5, [.int b3, .int y_78, .ref b5, .ref b6, .ref b7, .ref b8, .ref b9, .ref b10, .int b11, .ref b12, .ref b13, .ref b14, .ref b15, .ref b16, .ref b17])), (b5, .inl (G.2 0, 241, .inl y_81)), (b6, .inl (G.2 0, 241, .inl y_82)), (b7, .inl (G.2 0, 241, .inl y_83)), (b8, .inl (G.2 0, 241, .inl y_84)), (b9, .inl (G.2 0, 241, .inl y_85)), (b1, .inr (3, [.int b24, .int b25, .int b26, .ref b27, .ref b28, .ref b29, .ref b30, .ref b31, .ref b32, .ref b33, .ref b34])), (b30, .inl (G.2 0, 241, .inl b35)), (b2, .inr (4, [.ref b36, .ref b37, .ref b38])), (b36, .inl (G.2 0, 241, .inl b39)), (b37, .inl (G.2 0, 4820, .inl b40)), (b38, .inl (G.2 0, 512, .inl y_80)), (b10, .inl (G.2 1, 4, .inr (.inl y_79)))] → va_S A s.heap H locs → lv_has ls 6 [(3, .int y_77), (0, .ref b0), (1, .ref b1), (2, .ref b2)] → W p l e m_s2_Machine_foldStates s m ([.ref b0, .ref b1, .ref b2] : List Value).toArray below meth c H locs 0 0 (MQ below (zQ G (fun v w => ∃ (e0 : Int32), ∃ (e1 : Nat → Int32), ∃ (e2 : Nat → Int32), ∃ (e3 : Nat → Int32), ∃ (e4 : Nat → Int32), ∃ (e5 : Nat → Int32), ∃ (e6 : Nat → Int64), ∃ (e7 : Nat → Int32), v = none ∧ w = [(b0, .inr (5, [.int b3, .int e0, .ref b5, .ref b6, .ref b7, .ref b8, .ref b9, .ref b10, .int b11, .ref b12, .ref b13, .ref b14, .ref b15, .ref b16, .ref b17])), (b5, .inl (G.2 0, 241, .inl e1)), (b6, .inl (G.2 0, 241, .inl e2)), (b7, .inl (G.2 0, 241, .inl e3)), (b8, .inl (G.2 0, 241, .inl e4)), (b9, .inl (G.2 0, 241, .inl e5)), (b10, .inl (G.2 1, 4, .inr (.inl e6))), (b1, .inr (3, [.int b24, .int b25, .int b26, .ref b27, .ref b28, .ref b29, .ref b30, .ref b31, .ref b32, .ref b33, .ref b34])), (b30, .inl (G.2 0, 241, .inl b35)), (b2, .inr (4, [.ref b36, .ref b37, .ref b38])), (b36, .inl (G.2 0, 241, .inl b39)), (b37, .inl (G.2 0, 4820, .inl b40)), (b38, .inl (G.2 0, 512, .inl e7))] ∧ (zI e0 0 241) ∧ (zR e1 0 240) ∧ (zR e2 0 240) ∧ (zR e7 (-1) 240)) A) ([.ref b0, .ref b1, .ref b2] : List Value).toArray s m_s2_Machine_foldStates.cells m_s2_Machine_foldStates.slots A) (F0 m 15 ls []) by
    exact key 242 (0) (0) ((fun _ => 0)) (b41) (b18) (b19) (b20) (b21) (b22) _ _ _ (zI.wk (l' := 0) (h' := 241) zc_0 (by decide)) (zI.wk (l' := 0) (h' := 241) zc_0 (by decide)) hb41 hb18 hb19 (by have _l0 := li_0; have _l1 := li_0; omega) (zm_upi (zI.wk (l' := 0) (h' := 241) zc_0 (by decide)) (by decide)) hP hD hS (lv_sub hl [0, 1, 2, 3] rfl)
  intro k_76
  induction k_76 with
  | zero =>
    intro y_77 y_78 y_79 y_80 y_81 y_82 y_83 y_84 y_85 H locs ls hy_77 hy_78 hy_80 hy_81 hy_82 hli_86 hmk_76 hP hD hS hl
    exact (zm_up0 hy_77 hmk_76).elim
  | succ k_76 ihk_76 =>
    intro y_77 y_78 y_79 y_80 y_81 y_82 y_83 y_84 y_85 H locs ls hy_77 hy_78 hy_80 hy_81 hy_82 hli_86 hmk_76 hP hD hS hl
    refine lv_iload_n hx hb d_Machine_foldStates_15 rfl (lv_at hl 0 rfl) ?_
    refine lv_aload_n hx hb d_Machine_foldStates_16 rfl (lv_at hl 2 rfl) ?_
    refine va_get (D := G.1) (ci := 3) (v := .int b26) (C := R_Tree) (T := F_Tree) (N := 11) hx hb hts i_Tree hown hK hP 6 rfl rfl 2 (by decide) (hts _ q101) (fun _ h9 => h9) rfl d_Machine_foldStates_17 ?_
    refine lv_icmp_ge (tgt := 180) hx hb d_Machine_foldStates_20 (by decide) (fun hc_87 => ?_) (fun hc_87 => ?_)
    · have _nhc_87 := hc_87
      have ni_88 := (fa_le _ _).mp hc_87
      exact z_vret hx hb hr hlocks (hP.sub [0, 1, 2, 3, 4, 5, 12, 6, 7, 8, 9, 10, 11] rfl) (hD.sub [0, 1, 2, 3, 4, 5, 12, 6, 7, 8, 9, 10, 11] (by decide) rfl) hS (Nat.le_of_ble_eq_true rfl) (Nat.le_of_ble_eq_true rfl) d_Machine_foldStates_180 ⟨y_78, y_81, y_82, y_83, y_84, y_85, y_79, y_80, rfl, rfl, hy_78, hy_81, hy_82, hy_80⟩
    · have _nhc_87 := hc_87
      have ni_89 := (fa_lt _ _).mp (zi_nle hc_87)
      have hv_90 : zI y_77 0 240 := zI.lt_l hy_77 hb26 (zi_nle hc_87) (by decide)
      have hv_91 : zI b26 1 241 := zI.lt_r hy_77 hb26 (zi_nle hc_87) (by decide)
      refine lv_aload_n hx hb d_Machine_foldStates_23 rfl (lv_at hl 3 rfl) ?_
      refine lv_iload_n hx hb d_Machine_foldStates_24 rfl (lv_at hl 0 rfl) ?_
      refine z_callV (index := 89) (As := [.int y_77]) (rest := []) (wr := [(b0, .inr (5, [.int b3, .int y_78, .ref b5, .ref b6, .ref b7, .ref b8, .ref b9, .ref b10, .int b11, .ref b12, .ref b13, .ref b14, .ref b15, .ref b16, .ref b17])), (b5, .inl (G.2 0, 241, .inl y_81)), (b6, .inl (G.2 0, 241, .inl y_82)), (b7, .inl (G.2 0, 241, .inl y_83)), (b8, .inl (G.2 0, 241, .inl y_84)), (b9, .inl (G.2 0, 241, .inl y_85)), (b1, .inr (3, [.int b24, .int b25, .int b26, .ref b27, .ref b28, .ref b29, .ref b30, .ref b31, .ref b32, .ref b33, .ref b34])), (b30, .inl (G.2 0, 241, .inl b35)), (b10, .inl (G.2 1, 4, .inr (.inl y_79)))]) Z (s1_Follows_firstLike l G (b2) (y_77) (b36) (b37) (b38) (b39) (b40) (y_80) hv_90 hb39 hy_80) hl.1 q625 q626 q627 q5 q628 ⟨by decide, by decide, by show _ = some 1; decide +kernel⟩ ⟨Nat.le_of_ble_eq_true rfl, Nat.le_of_ble_eq_true rfl⟩ ⟨Nat.le_of_ble_eq_true rfl, Nat.le_of_ble_eq_true rfl⟩ rfl (Nat.le_of_ble_eq_true rfl) d_Machine_foldStates_25 hP hD hS hA 8 4 rfl rfl rfl [8, 9, 10, 11] [0, 1, 2, 3, 4, 5, 6, 7, 12] rfl rfl rfl rfl (by decide) (fun v w1 H locs hw_92 hP hD hS => ?_)
      obtain ⟨x_93, f_94, rfl, rfl, hx_93, hf_94⟩ := hw_92
      have hP : va_P G.1 classes [(b0, .inr (5, [.int b3, .int y_78, .ref b5, .ref b6, .ref b7, .ref b8, .ref b9, .ref b10, .int b11, .ref b12, .ref b13, .ref b14, .ref b15, .ref b16, .ref b17])), (b5, .inl (G.2 0, 241, .inl y_81)), (b6, .inl (G.2 0, 241, .inl y_82)), (b7, .inl (G.2 0, 241, .inl y_83)), (b8, .inl (G.2 0, 241, .inl y_84)), (b9, .inl (G.2 0, 241, .inl y_85)), (b1, .inr (3, [.int b24, .int b25, .int b26, .ref b27, .ref b28, .ref b29, .ref b30, .ref b31, .ref b32, .ref b33, .ref b34])), (b30, .inl (G.2 0, 241, .inl b35)), (b10, .inl (G.2 1, 4, .inr (.inl y_79))), (b2, .inr (4, [.ref b36, .ref b37, .ref b38])), (b36, .inl (G.2 0, 241, .inl b39)), (b37, .inl (G.2 0, 4820, .inl b40)), (b38, .inl (G.2 0, 512, .inl f_94))] H := hP
      have hD := z_tie hP hD rfl
      refine W.widen (k := 0) (n := 0) (Nat.le_of_ble_eq_true rfl) (Nat.le_of_ble_eq_true rfl) ?_
      refine lv_istore (lv' := [(4, .int x_93), (3, .int y_77), (0, .ref b0), (1, .ref b1), (2, .ref b2)]) hx hb d_Machine_foldStates_28 hl (by decide) rfl (fun ls hl => ?_)
      refine lv_iload hx hb d_Machine_foldStates_30 (lv_at hl 0 rfl) ?_
      refine lv_iload_n hx hb d_Machine_foldStates_32 rfl (lv_at hl 1 rfl) ?_
      refine lv_icmp_ne (tgt := 101) hx hb d_Machine_foldStates_33 (by decide) (fun hc_95 => ?_) (fun hc_95 => ?_)
      · have _nhc_95 := hc_95
        have ni_96 : ¬ (x_93 : Int32).toInt = (y_77 : Int32).toInt := fun z => hc_95 ((fa_eq _ _).mpr z)
        refine lv_aload_n hx hb d_Machine_foldStates_101 rfl (lv_at hl 2 rfl) ?_
        refine va_get (D := G.1) (ci := 5) (v := .ref b5) (C := R_Machine) (T := F_Machine) (N := 15) hx hb hts i_Machine hown hK hP 0 rfl rfl 2 (by decide) (hts _ q170) (fun _ h9 => h9) rfl d_Machine_foldStates_102 ?_
        refine lv_iload hx hb d_Machine_foldStates_105 (lv_at hl 0 rfl) ?_
        refine va_iald hx hb hK hP 1 0 rfl rfl (zI.inn hx_93 (by decide)) d_Machine_foldStates_107 ?_
        refine lv_topi (fun v_97 ev_97 => ?_)
        have hv_97 : zI v_97 0 240 := (hy_81 _).eq ev_97
        refine lv_istore (lv' := [(5, .int v_97), (4, .int x_93), (3, .int y_77), (0, .ref b0), (1, .ref b1), (2, .ref b2)]) hx hb d_Machine_foldStates_108 hl (by decide) rfl (fun ls hl => ?_)
        refine lv_aload_n hx hb d_Machine_foldStates_110 rfl (lv_at hl 3 rfl) ?_
        refine va_get (D := G.1) (ci := 5) (v := .ref b5) (C := R_Machine) (T := F_Machine) (N := 15) hx hb hts i_Machine hown hK hP 0 rfl rfl 2 (by decide) (hts _ q170) (fun _ h9 => h9) rfl d_Machine_foldStates_111 ?_
        refine lv_iload_n hx hb d_Machine_foldStates_114 rfl (lv_at hl 2 rfl) ?_
        refine lv_iload hx hb d_Machine_foldStates_115 (lv_at hl 0 rfl) ?_
        refine va_iast hx hb hK hP hD hS 1 0 rfl rfl (zI.inn hv_90 (by decide)) d_Machine_foldStates_117 (fun H locs hP hD hS => ?_)
        obtain ⟨f_98, hf_98, gf_98, uf_98, hP, hD⟩ := z_newfu 1 hP hD rfl hy_81 hv_97
        have hP : va_P G.1 classes [(b0, .inr (5, [.int b3, .int y_78, .ref b5, .ref b6, .ref b7, .ref b8, .ref b9, .ref b10, .int b11, .ref b12, .ref b13, .ref b14, .ref b15, .ref b16, .ref b17])), (b5, .inl (G.2 0, 241, .inl f_98)), (b6, .inl (G.2 0, 241, .inl y_82)), (b7, .inl (G.2 0, 241, .inl y_83)), (b8, .inl (G.2 0, 241, .inl y_84)), (b9, .inl (G.2 0, 241, .inl y_85)), (b1, .inr (3, [.int b24, .int b25, .int b26, .ref b27, .ref b28, .ref b29, .ref b30, .ref b31, .ref b32, .ref b33, .ref b34])), (b30, .inl (G.2 0, 241, .inl b35)), (b10, .inl (G.2 1, 4, .inr (.inl y_79))), (b2, .inr (4, [.ref b36, .ref b37, .ref b38])), (b36, .inl (G.2 0, 241, .inl b39)), (b37, .inl (G.2 0, 4820, .inl b40)), (b38, .inl (G.2 0, 512, .inl f_94))] H := hP
        have hD := z_tie hP hD rfl
        refine lv_aload_n hx hb d_Machine_foldStates_118 rfl (lv_at hl 3 rfl) ?_
        refine va_get (D := G.1) (ci := 5) (v := .ref b7) (C := R_Machine) (T := F_Machine) (N := 15) hx hb hts i_Machine hown hK hP 0 rfl rfl 4 (by decide) (hts _ q174) (fun _ h9 => h9) rfl d_Machine_foldStates_119 ?_
        refine lv_iload hx hb d_Machine_foldStates_122 (lv_at hl 0 rfl) ?_
        refine lv_dup2_11 hx hb d_Machine_foldStates_124 rfl rfl ?_
        refine va_iald hx hb hK hP 3 0 rfl rfl (zI.inn hv_97 (by decide)) d_Machine_foldStates_125 ?_
        refine lv_topi (fun v_99 ev_99 => ?_)
        refine lv_iconst (v := 1) hx hb d_Machine_foldStates_126 (by decide) ?_
        refine lv_iadd hx hb d_Machine_foldStates_127 ?_
        refine lv_topi (fun v_100 ev_100 => ?_)
        refine va_iast hx hb hK hP hD hS 3 0 rfl rfl (zI.inn hv_97 (by decide)) d_Machine_foldStates_128 (fun H locs hP hD hS => ?_)
        obtain ⟨f_101, gf_101, uf_101, hP, hD⟩ := z_newFu 3 hP hD rfl
        have hP : va_P G.1 classes [(b0, .inr (5, [.int b3, .int y_78, .ref b5, .ref b6, .ref b7, .ref b8, .ref b9, .ref b10, .int b11, .ref b12, .ref b13, .ref b14, .ref b15, .ref b16, .ref b17])), (b5, .inl (G.2 0, 241, .inl f_98)), (b6, .inl (G.2 0, 241, .inl y_82)), (b7, .inl (G.2 0, 241, .inl f_101)), (b8, .inl (G.2 0, 241, .inl y_84)), (b9, .inl (G.2 0, 241, .inl y_85)), (b1, .inr (3, [.int b24, .int b25, .int b26, .ref b27, .ref b28, .ref b29, .ref b30, .ref b31, .ref b32, .ref b33, .ref b34])), (b30, .inl (G.2 0, 241, .inl b35)), (b10, .inl (G.2 1, 4, .inr (.inl y_79))), (b2, .inr (4, [.ref b36, .ref b37, .ref b38])), (b36, .inl (G.2 0, 241, .inl b39)), (b37, .inl (G.2 0, 4820, .inl b40)), (b38, .inl (G.2 0, 512, .inl f_94))] H := hP
        have hD := z_tie hP hD rfl
        refine lv_aload_n hx hb d_Machine_foldStates_129 rfl (lv_at hl 3 rfl) ?_
        refine va_get (D := G.1) (ci := 5) (v := .ref b8) (C := R_Machine) (T := F_Machine) (N := 15) hx hb hts i_Machine hown hK hP 0 rfl rfl 5 (by decide) (hts _ q176) (fun _ h9 => h9) rfl d_Machine_foldStates_130 ?_
        refine lv_iload hx hb d_Machine_foldStates_133 (lv_at hl 0 rfl) ?_
        refine lv_dup2_11 hx hb d_Machine_foldStates_135 rfl rfl ?_
        refine va_iald hx hb hK hP 4 0 rfl rfl (zI.inn hv_97 (by decide)) d_Machine_foldStates_136 ?_
        refine lv_topi (fun v_102 ev_102 => ?_)
        refine lv_aload_n hx hb d_Machine_foldStates_137 rfl (lv_at hl 4 rfl) ?_
        refine va_get (D := G.1) (ci := 3) (v := .ref b30) (C := R_Tree) (T := F_Tree) (N := 11) hx hb hts i_Tree hown hK hP 6 rfl rfl 6 (by decide) (hts _ q110) (fun _ h9 => h9) rfl d_Machine_foldStates_138 ?_
        refine lv_iload_n hx hb d_Machine_foldStates_141 rfl (lv_at hl 2 rfl) ?_
        refine va_iald hx hb hK hP 7 0 rfl rfl (zI.inn hv_90 (by decide)) d_Machine_foldStates_142 ?_
        refine lv_topi (fun v_103 ev_103 => ?_)
        refine lv_iadd hx hb d_Machine_foldStates_143 ?_
        refine lv_topi (fun v_104 ev_104 => ?_)
        refine va_iast hx hb hK hP hD hS 4 0 rfl rfl (zI.inn hv_97 (by decide)) d_Machine_foldStates_144 (fun H locs hP hD hS => ?_)
        obtain ⟨f_105, gf_105, uf_105, hP, hD⟩ := z_newFu 4 hP hD rfl
        have hP : va_P G.1 classes [(b0, .inr (5, [.int b3, .int y_78, .ref b5, .ref b6, .ref b7, .ref b8, .ref b9, .ref b10, .int b11, .ref b12, .ref b13, .ref b14, .ref b15, .ref b16, .ref b17])), (b5, .inl (G.2 0, 241, .inl f_98)), (b6, .inl (G.2 0, 241, .inl y_82)), (b7, .inl (G.2 0, 241, .inl f_101)), (b8, .inl (G.2 0, 241, .inl f_105)), (b9, .inl (G.2 0, 241, .inl y_85)), (b1, .inr (3, [.int b24, .int b25, .int b26, .ref b27, .ref b28, .ref b29, .ref b30, .ref b31, .ref b32, .ref b33, .ref b34])), (b30, .inl (G.2 0, 241, .inl b35)), (b10, .inl (G.2 1, 4, .inr (.inl y_79))), (b2, .inr (4, [.ref b36, .ref b37, .ref b38])), (b36, .inl (G.2 0, 241, .inl b39)), (b37, .inl (G.2 0, 4820, .inl b40)), (b38, .inl (G.2 0, 512, .inl f_94))] H := hP
        have hD := z_tie hP hD rfl
        refine lv_aload_n hx hb d_Machine_foldStates_145 rfl (lv_at hl 4 rfl) ?_
        refine va_get (D := G.1) (ci := 3) (v := .ref b30) (C := R_Tree) (T := F_Tree) (N := 11) hx hb hts i_Tree hown hK hP 6 rfl rfl 6 (by decide) (hts _ q110) (fun _ h9 => h9) rfl d_Machine_foldStates_146 ?_
        refine lv_iload_n hx hb d_Machine_foldStates_149 rfl (lv_at hl 2 rfl) ?_
        refine va_iald hx hb hK hP 7 0 rfl rfl (zI.inn hv_90 (by decide)) d_Machine_foldStates_150 ?_
        refine lv_topi (fun v_106 ev_106 => ?_)
        obtain rfl : v_103 = v_106 := ev_103.trans ev_106.symm
        refine lv_if_le (tgt := 174) hx hb d_Machine_foldStates_151 (by decide) (fun hc_107 => ?_) (fun hc_107 => ?_)
        · have _nhc_107 := hc_107
          have ni_108 := (fa_le _ _).mp hc_107
          rw [li_0] at ni_108
          have hv_109 : zI v_103 (-2147483648) 0 := zI.le_l (zI_all v_103) zc_0 hc_107 (by decide)
          obtain ⟨v_110, ev_110⟩ : ∃ z : Int32, z = y_77 + 1 := ⟨_, rfl⟩
          obtain ⟨qv_110, hv_110⟩ := zI_add (l := 1) (h := 241) hv_90 zc_1 ev_110 (by decide)
          rw [li_1] at qv_110
          refine lv_iinc (v := v_110) (lv' := [(3, .int v_110), (5, .int v_97), (4, .int x_93), (0, .ref b0), (1, .ref b1), (2, .ref b2)]) hx hb d_Machine_foldStates_174 hl (k := 2) rfl (by rw [ev_110]; rfl) (by decide) rfl (fun ls hl => ?_)
          refine lv_goto (tgt := 15) hx hb d_Machine_foldStates_177 (by decide) ?_
          exact ihk_76 (v_110) (y_78) (y_79) (f_94) (f_98) (y_82) (f_101) (f_105) (y_85) _ _ _ (zI.wk (l' := 0) (h' := 241) hv_110 (by decide)) hy_78 hf_94 hf_98 hy_82 (by omega) (zm_up qv_110 hmk_76 (by decide)) (hP.sub [0, 1, 2, 3, 4, 5, 6, 7, 9, 10, 11, 12, 8] rfl) (hD.sub [0, 1, 2, 3, 4, 5, 6, 7, 9, 10, 11, 12, 8] (by decide) rfl) hS (lv_sub hl [0, 3, 4, 5] rfl)
        · have _nhc_107 := hc_107
          have ni_111 := (fa_lt _ _).mp (zi_nle hc_107)
          rw [li_0] at ni_111
          have hv_112 : zI v_103 1 2147483647 := zI.lt_r zc_0 (zI_all v_103) (zi_nle hc_107) (by decide)
          refine lv_aload_n hx hb d_Machine_foldStates_154 rfl (lv_at hl 3 rfl) ?_
          refine va_get (D := G.1) (ci := 5) (v := .ref b10) (C := R_Machine) (T := F_Machine) (N := 15) hx hb hts i_Machine hown hK hP 0 rfl rfl 7 (by decide) (hts _ q181) (fun _ h9 => h9) rfl d_Machine_foldStates_155 ?_
          refine lv_iload hx hb d_Machine_foldStates_158 (lv_at hl 0 rfl) ?_
          refine lv_bipush (v := 6) hx hb d_Machine_foldStates_160 (by decide) ?_
          refine lv_ishr hx hb d_Machine_foldStates_162 ?_
          refine lv_topi (fun v_113 ev_113 => ?_)
          obtain ⟨qv_113, hv_113⟩ := zI_shr (l := 0) (h := 3) (k := 6) hv_97 (by decide +kernel) ev_113 (by decide)
          refine lv_dup2_11 hx hb d_Machine_foldStates_163 rfl rfl ?_
          refine va_lald hx hb hK hP 8 1 rfl rfl (zI.inn hv_113 (by decide)) d_Machine_foldStates_164 ?_
          refine lv_topl (fun v_114 ev_114 => ?_)
          refine lv_lconst (v := 1) hx hb d_Machine_foldStates_165 (by decide) ?_
          refine lv_iload hx hb d_Machine_foldStates_166 (lv_at hl 0 rfl) ?_
          refine lv_bipush (v := 63) hx hb d_Machine_foldStates_168 (by decide) ?_
          refine lv_iand hx hb d_Machine_foldStates_170 ?_
          refine lv_topi (fun v_115 ev_115 => ?_)
          have hv_115 := zI_and (k := 6) (h := 63) (by decide +kernel) ev_115 (by decide)
          obtain ⟨v_116, ev_116⟩ : ∃ z : Int64, z = 1 <<< ((v_115 : Int32).toInt64 &&& 63) := ⟨_, rfl⟩
          refine lv_lshl (v := v_116) hx hb d_Machine_foldStates_171 ev_116.symm ?_
          refine lv_lor hx hb d_Machine_foldStates_172 ?_
          refine lv_topl (fun v_117 ev_117 => ?_)
          refine va_last hx hb hK hP hD hS 8 1 rfl rfl (zI.inn hv_113 (by decide)) d_Machine_foldStates_173 (fun H locs hP hD hS => ?_)
          obtain ⟨f_118, hP, hD⟩ := z_newL 8 hP hD rfl
          have hP : va_P G.1 classes [(b0, .inr (5, [.int b3, .int y_78, .ref b5, .ref b6, .ref b7, .ref b8, .ref b9, .ref b10, .int b11, .ref b12, .ref b13, .ref b14, .ref b15, .ref b16, .ref b17])), (b5, .inl (G.2 0, 241, .inl f_98)), (b6, .inl (G.2 0, 241, .inl y_82)), (b7, .inl (G.2 0, 241, .inl f_101)), (b8, .inl (G.2 0, 241, .inl f_105)), (b9, .inl (G.2 0, 241, .inl y_85)), (b1, .inr (3, [.int b24, .int b25, .int b26, .ref b27, .ref b28, .ref b29, .ref b30, .ref b31, .ref b32, .ref b33, .ref b34])), (b30, .inl (G.2 0, 241, .inl b35)), (b10, .inl (G.2 1, 4, .inr (.inl f_118))), (b2, .inr (4, [.ref b36, .ref b37, .ref b38])), (b36, .inl (G.2 0, 241, .inl b39)), (b37, .inl (G.2 0, 4820, .inl b40)), (b38, .inl (G.2 0, 512, .inl f_94))] H := hP
          have hD := z_tie hP hD rfl
          obtain ⟨v_119, ev_119⟩ : ∃ z : Int32, z = y_77 + 1 := ⟨_, rfl⟩
          obtain ⟨qv_119, hv_119⟩ := zI_add (l := 1) (h := 241) hv_90 zc_1 ev_119 (by decide)
          rw [li_1] at qv_119
          refine lv_iinc (v := v_119) (lv' := [(3, .int v_119), (5, .int v_97), (4, .int x_93), (0, .ref b0), (1, .ref b1), (2, .ref b2)]) hx hb d_Machine_foldStates_174 hl (k := 2) rfl (by rw [ev_119]; rfl) (by decide) rfl (fun ls hl => ?_)
          refine lv_goto (tgt := 15) hx hb d_Machine_foldStates_177 (by decide) ?_
          exact ihk_76 (v_119) (y_78) (f_118) (f_94) (f_98) (y_82) (f_101) (f_105) (y_85) _ _ _ (zI.wk (l' := 0) (h' := 241) hv_119 (by decide)) hy_78 hf_94 hf_98 hy_82 (by omega) (zm_up qv_119 hmk_76 (by decide)) (hP.sub [0, 1, 2, 3, 4, 5, 6, 7, 9, 10, 11, 12, 8] rfl) (hD.sub [0, 1, 2, 3, 4, 5, 6, 7, 9, 10, 11, 12, 8] (by decide) rfl) hS (lv_sub hl [0, 3, 4, 5] rfl)
      · have _nhc_95 := hc_95
        have ni_120 := (fa_eq _ _).mp hc_95
        refine lv_aload_n hx hb d_Machine_foldStates_36 rfl (lv_at hl 2 rfl) ?_
        refine va_get (D := G.1) (ci := 5) (v := .ref b5) (C := R_Machine) (T := F_Machine) (N := 15) hx hb hts i_Machine hown hK hP 0 rfl rfl 2 (by decide) (hts _ q170) (fun _ h9 => h9) rfl d_Machine_foldStates_37 ?_
        refine lv_iload_n hx hb d_Machine_foldStates_40 rfl (lv_at hl 1 rfl) ?_
        refine lv_aload_n hx hb d_Machine_foldStates_41 rfl (lv_at hl 2 rfl) ?_
        refine va_get (D := G.1) (ci := 5) (v := .int y_78) (C := R_Machine) (T := F_Machine) (N := 15) hx hb hts i_Machine hown hK hP 0 rfl rfl 1 (by decide) (hts _ q168) (fun _ h9 => h9) rfl d_Machine_foldStates_42 ?_
        have hv_121 : zI y_78 0 240 := ⟨by omega, by omega⟩
        refine va_iast hx hb hK hP hD hS 1 0 rfl rfl (zI.inn hv_90 (by decide)) d_Machine_foldStates_45 (fun H locs hP hD hS => ?_)
        obtain ⟨f_122, hf_122, gf_122, uf_122, hP, hD⟩ := z_newfu 1 hP hD rfl hy_81 hv_121
        have hP : va_P G.1 classes [(b0, .inr (5, [.int b3, .int y_78, .ref b5, .ref b6, .ref b7, .ref b8, .ref b9, .ref b10, .int b11, .ref b12, .ref b13, .ref b14, .ref b15, .ref b16, .ref b17])), (b5, .inl (G.2 0, 241, .inl f_122)), (b6, .inl (G.2 0, 241, .inl y_82)), (b7, .inl (G.2 0, 241, .inl y_83)), (b8, .inl (G.2 0, 241, .inl y_84)), (b9, .inl (G.2 0, 241, .inl y_85)), (b1, .inr (3, [.int b24, .int b25, .int b26, .ref b27, .ref b28, .ref b29, .ref b30, .ref b31, .ref b32, .ref b33, .ref b34])), (b30, .inl (G.2 0, 241, .inl b35)), (b10, .inl (G.2 1, 4, .inr (.inl y_79))), (b2, .inr (4, [.ref b36, .ref b37, .ref b38])), (b36, .inl (G.2 0, 241, .inl b39)), (b37, .inl (G.2 0, 4820, .inl b40)), (b38, .inl (G.2 0, 512, .inl f_94))] H := hP
        have hD := z_tie hP hD rfl
        refine lv_aload_n hx hb d_Machine_foldStates_46 rfl (lv_at hl 2 rfl) ?_
        refine va_get (D := G.1) (ci := 5) (v := .ref b6) (C := R_Machine) (T := F_Machine) (N := 15) hx hb hts i_Machine hown hK hP 0 rfl rfl 3 (by decide) (hts _ q172) (fun _ h9 => h9) rfl d_Machine_foldStates_47 ?_
        refine lv_aload_n hx hb d_Machine_foldStates_50 rfl (lv_at hl 2 rfl) ?_
        refine va_get (D := G.1) (ci := 5) (v := .int y_78) (C := R_Machine) (T := F_Machine) (N := 15) hx hb hts i_Machine hown hK hP 0 rfl rfl 1 (by decide) (hts _ q168) (fun _ h9 => h9) rfl d_Machine_foldStates_51 ?_
        refine lv_iload_n hx hb d_Machine_foldStates_54 rfl (lv_at hl 1 rfl) ?_
        refine va_iast hx hb hK hP hD hS 2 0 rfl rfl (zI.inn hv_121 (by decide)) d_Machine_foldStates_55 (fun H locs hP hD hS => ?_)
        obtain ⟨f_123, hf_123, gf_123, uf_123, hP, hD⟩ := z_newfu 2 hP hD rfl hy_82 hv_90
        have hP : va_P G.1 classes [(b0, .inr (5, [.int b3, .int y_78, .ref b5, .ref b6, .ref b7, .ref b8, .ref b9, .ref b10, .int b11, .ref b12, .ref b13, .ref b14, .ref b15, .ref b16, .ref b17])), (b5, .inl (G.2 0, 241, .inl f_122)), (b6, .inl (G.2 0, 241, .inl f_123)), (b7, .inl (G.2 0, 241, .inl y_83)), (b8, .inl (G.2 0, 241, .inl y_84)), (b9, .inl (G.2 0, 241, .inl y_85)), (b1, .inr (3, [.int b24, .int b25, .int b26, .ref b27, .ref b28, .ref b29, .ref b30, .ref b31, .ref b32, .ref b33, .ref b34])), (b30, .inl (G.2 0, 241, .inl b35)), (b10, .inl (G.2 1, 4, .inr (.inl y_79))), (b2, .inr (4, [.ref b36, .ref b37, .ref b38])), (b36, .inl (G.2 0, 241, .inl b39)), (b37, .inl (G.2 0, 4820, .inl b40)), (b38, .inl (G.2 0, 512, .inl f_94))] H := hP
        have hD := z_tie hP hD rfl
        refine lv_aload_n hx hb d_Machine_foldStates_56 rfl (lv_at hl 2 rfl) ?_
        refine va_get (D := G.1) (ci := 5) (v := .ref b7) (C := R_Machine) (T := F_Machine) (N := 15) hx hb hts i_Machine hown hK hP 0 rfl rfl 4 (by decide) (hts _ q174) (fun _ h9 => h9) rfl d_Machine_foldStates_57 ?_
        refine lv_aload_n hx hb d_Machine_foldStates_60 rfl (lv_at hl 2 rfl) ?_
        refine va_get (D := G.1) (ci := 5) (v := .int y_78) (C := R_Machine) (T := F_Machine) (N := 15) hx hb hts i_Machine hown hK hP 0 rfl rfl 1 (by decide) (hts _ q168) (fun _ h9 => h9) rfl d_Machine_foldStates_61 ?_
        refine lv_iconst (v := 0) hx hb d_Machine_foldStates_64 (by decide) ?_
        refine va_iast hx hb hK hP hD hS 3 0 rfl rfl (zI.inn hv_121 (by decide)) d_Machine_foldStates_65 (fun H locs hP hD hS => ?_)
        obtain ⟨f_124, gf_124, uf_124, hP, hD⟩ := z_newFu 3 hP hD rfl
        have hP : va_P G.1 classes [(b0, .inr (5, [.int b3, .int y_78, .ref b5, .ref b6, .ref b7, .ref b8, .ref b9, .ref b10, .int b11, .ref b12, .ref b13, .ref b14, .ref b15, .ref b16, .ref b17])), (b5, .inl (G.2 0, 241, .inl f_122)), (b6, .inl (G.2 0, 241, .inl f_123)), (b7, .inl (G.2 0, 241, .inl f_124)), (b8, .inl (G.2 0, 241, .inl y_84)), (b9, .inl (G.2 0, 241, .inl y_85)), (b1, .inr (3, [.int b24, .int b25, .int b26, .ref b27, .ref b28, .ref b29, .ref b30, .ref b31, .ref b32, .ref b33, .ref b34])), (b30, .inl (G.2 0, 241, .inl b35)), (b10, .inl (G.2 1, 4, .inr (.inl y_79))), (b2, .inr (4, [.ref b36, .ref b37, .ref b38])), (b36, .inl (G.2 0, 241, .inl b39)), (b37, .inl (G.2 0, 4820, .inl b40)), (b38, .inl (G.2 0, 512, .inl f_94))] H := hP
        have hD := z_tie hP hD rfl
        refine lv_aload_n hx hb d_Machine_foldStates_66 rfl (lv_at hl 2 rfl) ?_
        refine va_get (D := G.1) (ci := 5) (v := .ref b8) (C := R_Machine) (T := F_Machine) (N := 15) hx hb hts i_Machine hown hK hP 0 rfl rfl 5 (by decide) (hts _ q176) (fun _ h9 => h9) rfl d_Machine_foldStates_67 ?_
        refine lv_aload_n hx hb d_Machine_foldStates_70 rfl (lv_at hl 2 rfl) ?_
        refine va_get (D := G.1) (ci := 5) (v := .int y_78) (C := R_Machine) (T := F_Machine) (N := 15) hx hb hts i_Machine hown hK hP 0 rfl rfl 1 (by decide) (hts _ q168) (fun _ h9 => h9) rfl d_Machine_foldStates_71 ?_
        refine lv_iconst (v := 0) hx hb d_Machine_foldStates_74 (by decide) ?_
        refine va_iast hx hb hK hP hD hS 4 0 rfl rfl (zI.inn hv_121 (by decide)) d_Machine_foldStates_75 (fun H locs hP hD hS => ?_)
        obtain ⟨f_125, gf_125, uf_125, hP, hD⟩ := z_newFu 4 hP hD rfl
        have hP : va_P G.1 classes [(b0, .inr (5, [.int b3, .int y_78, .ref b5, .ref b6, .ref b7, .ref b8, .ref b9, .ref b10, .int b11, .ref b12, .ref b13, .ref b14, .ref b15, .ref b16, .ref b17])), (b5, .inl (G.2 0, 241, .inl f_122)), (b6, .inl (G.2 0, 241, .inl f_123)), (b7, .inl (G.2 0, 241, .inl f_124)), (b8, .inl (G.2 0, 241, .inl f_125)), (b9, .inl (G.2 0, 241, .inl y_85)), (b1, .inr (3, [.int b24, .int b25, .int b26, .ref b27, .ref b28, .ref b29, .ref b30, .ref b31, .ref b32, .ref b33, .ref b34])), (b30, .inl (G.2 0, 241, .inl b35)), (b10, .inl (G.2 1, 4, .inr (.inl y_79))), (b2, .inr (4, [.ref b36, .ref b37, .ref b38])), (b36, .inl (G.2 0, 241, .inl b39)), (b37, .inl (G.2 0, 4820, .inl b40)), (b38, .inl (G.2 0, 512, .inl f_94))] H := hP
        have hD := z_tie hP hD rfl
        refine lv_aload_n hx hb d_Machine_foldStates_76 rfl (lv_at hl 2 rfl) ?_
        refine va_get (D := G.1) (ci := 5) (v := .ref b9) (C := R_Machine) (T := F_Machine) (N := 15) hx hb hts i_Machine hown hK hP 0 rfl rfl 6 (by decide) (hts _ q179) (fun _ h9 => h9) rfl d_Machine_foldStates_77 ?_
        refine lv_aload_n hx hb d_Machine_foldStates_80 rfl (lv_at hl 2 rfl) ?_
        refine va_get (D := G.1) (ci := 5) (v := .int y_78) (C := R_Machine) (T := F_Machine) (N := 15) hx hb hts i_Machine hown hK hP 0 rfl rfl 1 (by decide) (hts _ q168) (fun _ h9 => h9) rfl d_Machine_foldStates_81 ?_
        refine lv_aload_n hx hb d_Machine_foldStates_84 rfl (lv_at hl 4 rfl) ?_
        refine va_get (D := G.1) (ci := 4) (v := .ref b36) (C := R_Follows) (T := F_Follows) (N := 3) hx hb hts i_Follows hown hK hP 9 rfl rfl 0 (by decide) (hts _ q147) (fun _ h9 => h9) rfl d_Machine_foldStates_85 ?_
        refine lv_iload_n hx hb d_Machine_foldStates_88 rfl (lv_at hl 1 rfl) ?_
        refine va_iald hx hb hK hP 10 0 rfl rfl (zI.inn hv_90 (by decide)) d_Machine_foldStates_89 ?_
        refine lv_topi (fun v_126 ev_126 => ?_)
        obtain ⟨hv_126, kv_126⟩ := zQC.ld hb39 hv_90 ev_126 (by decide)
        refine va_iast hx hb hK hP hD hS 5 0 rfl rfl (zI.inn hv_121 (by decide)) d_Machine_foldStates_90 (fun H locs hP hD hS => ?_)
        obtain ⟨f_127, gf_127, uf_127, hP, hD⟩ := z_newFu 5 hP hD rfl
        have hP : va_P G.1 classes [(b0, .inr (5, [.int b3, .int y_78, .ref b5, .ref b6, .ref b7, .ref b8, .ref b9, .ref b10, .int b11, .ref b12, .ref b13, .ref b14, .ref b15, .ref b16, .ref b17])), (b5, .inl (G.2 0, 241, .inl f_122)), (b6, .inl (G.2 0, 241, .inl f_123)), (b7, .inl (G.2 0, 241, .inl f_124)), (b8, .inl (G.2 0, 241, .inl f_125)), (b9, .inl (G.2 0, 241, .inl f_127)), (b1, .inr (3, [.int b24, .int b25, .int b26, .ref b27, .ref b28, .ref b29, .ref b30, .ref b31, .ref b32, .ref b33, .ref b34])), (b30, .inl (G.2 0, 241, .inl b35)), (b10, .inl (G.2 1, 4, .inr (.inl y_79))), (b2, .inr (4, [.ref b36, .ref b37, .ref b38])), (b36, .inl (G.2 0, 241, .inl b39)), (b37, .inl (G.2 0, 4820, .inl b40)), (b38, .inl (G.2 0, 512, .inl f_94))] H := hP
        have hD := z_tie hP hD rfl
        refine lv_aload_n hx hb d_Machine_foldStates_91 rfl (lv_at hl 2 rfl) ?_
        refine lv_dup hx hb d_Machine_foldStates_92 rfl ?_
        refine va_get (D := G.1) (ci := 5) (v := .int y_78) (C := R_Machine) (T := F_Machine) (N := 15) hx hb hts i_Machine hown hK hP 0 rfl rfl 1 (by decide) (hts _ q168) (fun _ h9 => h9) rfl d_Machine_foldStates_93 ?_
        refine lv_iconst (v := 1) hx hb d_Machine_foldStates_96 (by decide) ?_
        refine lv_iadd hx hb d_Machine_foldStates_97 ?_
        refine lv_topi (fun v_128 ev_128 => ?_)
        obtain ⟨qv_128, hv_128⟩ := zI_add (l := 1) (h := 241) hv_121 zc_1 ev_128 (by decide)
        rw [li_1] at qv_128
        refine va_put (D := G.1) (ci := 5) (v := .int v_128) (ty := .int) (C := R_Machine) (T := F_Machine) (N := 15) hx hb hts i_Machine t_Machine t_Machine_ok n_Machine hown hK hP hD hS 0 rfl rfl 1 (by decide) (hts _ q168) (fun _ h9 => h9) rfl (by decide +kernel) rfl rfl (Nat.le_of_ble_eq_true rfl) d_Machine_foldStates_98 (fun H locs hP hD hS => ?_)
        have hP : va_P G.1 classes [(b0, .inr (5, [.int b3, .int v_128, .ref b5, .ref b6, .ref b7, .ref b8, .ref b9, .ref b10, .int b11, .ref b12, .ref b13, .ref b14, .ref b15, .ref b16, .ref b17])), (b5, .inl (G.2 0, 241, .inl f_122)), (b6, .inl (G.2 0, 241, .inl f_123)), (b7, .inl (G.2 0, 241, .inl f_124)), (b8, .inl (G.2 0, 241, .inl f_125)), (b9, .inl (G.2 0, 241, .inl f_127)), (b1, .inr (3, [.int b24, .int b25, .int b26, .ref b27, .ref b28, .ref b29, .ref b30, .ref b31, .ref b32, .ref b33, .ref b34])), (b30, .inl (G.2 0, 241, .inl b35)), (b10, .inl (G.2 1, 4, .inr (.inl y_79))), (b2, .inr (4, [.ref b36, .ref b37, .ref b38])), (b36, .inl (G.2 0, 241, .inl b39)), (b37, .inl (G.2 0, 4820, .inl b40)), (b38, .inl (G.2 0, 512, .inl f_94))] H := hP
        have hD := z_tie hP hD rfl
        refine lv_aload_n hx hb d_Machine_foldStates_101 rfl (lv_at hl 2 rfl) ?_
        refine va_get (D := G.1) (ci := 5) (v := .ref b5) (C := R_Machine) (T := F_Machine) (N := 15) hx hb hts i_Machine hown hK hP 0 rfl rfl 2 (by decide) (hts _ q170) (fun _ h9 => h9) rfl d_Machine_foldStates_102 ?_
        refine lv_iload hx hb d_Machine_foldStates_105 (lv_at hl 0 rfl) ?_
        refine va_iald hx hb hK hP 1 0 rfl rfl (zI.inn hx_93 (by decide)) d_Machine_foldStates_107 ?_
        refine lv_topi (fun v_129 ev_129 => ?_)
        have hv_129 : zI v_129 0 240 := (hf_122 _).eq ev_129
        refine lv_istore (lv' := [(5, .int v_129), (4, .int x_93), (3, .int y_77), (0, .ref b0), (1, .ref b1), (2, .ref b2)]) hx hb d_Machine_foldStates_108 hl (by decide) rfl (fun ls hl => ?_)
        refine lv_aload_n hx hb d_Machine_foldStates_110 rfl (lv_at hl 3 rfl) ?_
        refine va_get (D := G.1) (ci := 5) (v := .ref b5) (C := R_Machine) (T := F_Machine) (N := 15) hx hb hts i_Machine hown hK hP 0 rfl rfl 2 (by decide) (hts _ q170) (fun _ h9 => h9) rfl d_Machine_foldStates_111 ?_
        refine lv_iload_n hx hb d_Machine_foldStates_114 rfl (lv_at hl 2 rfl) ?_
        refine lv_iload hx hb d_Machine_foldStates_115 (lv_at hl 0 rfl) ?_
        refine va_iast hx hb hK hP hD hS 1 0 rfl rfl (zI.inn hv_90 (by decide)) d_Machine_foldStates_117 (fun H locs hP hD hS => ?_)
        obtain ⟨f_130, hf_130, gf_130, uf_130, hP, hD⟩ := z_newfu 1 hP hD rfl hf_122 hv_129
        have hP : va_P G.1 classes [(b0, .inr (5, [.int b3, .int v_128, .ref b5, .ref b6, .ref b7, .ref b8, .ref b9, .ref b10, .int b11, .ref b12, .ref b13, .ref b14, .ref b15, .ref b16, .ref b17])), (b5, .inl (G.2 0, 241, .inl f_130)), (b6, .inl (G.2 0, 241, .inl f_123)), (b7, .inl (G.2 0, 241, .inl f_124)), (b8, .inl (G.2 0, 241, .inl f_125)), (b9, .inl (G.2 0, 241, .inl f_127)), (b1, .inr (3, [.int b24, .int b25, .int b26, .ref b27, .ref b28, .ref b29, .ref b30, .ref b31, .ref b32, .ref b33, .ref b34])), (b30, .inl (G.2 0, 241, .inl b35)), (b10, .inl (G.2 1, 4, .inr (.inl y_79))), (b2, .inr (4, [.ref b36, .ref b37, .ref b38])), (b36, .inl (G.2 0, 241, .inl b39)), (b37, .inl (G.2 0, 4820, .inl b40)), (b38, .inl (G.2 0, 512, .inl f_94))] H := hP
        have hD := z_tie hP hD rfl
        refine lv_aload_n hx hb d_Machine_foldStates_118 rfl (lv_at hl 3 rfl) ?_
        refine va_get (D := G.1) (ci := 5) (v := .ref b7) (C := R_Machine) (T := F_Machine) (N := 15) hx hb hts i_Machine hown hK hP 0 rfl rfl 4 (by decide) (hts _ q174) (fun _ h9 => h9) rfl d_Machine_foldStates_119 ?_
        refine lv_iload hx hb d_Machine_foldStates_122 (lv_at hl 0 rfl) ?_
        refine lv_dup2_11 hx hb d_Machine_foldStates_124 rfl rfl ?_
        refine va_iald hx hb hK hP 3 0 rfl rfl (zI.inn hv_129 (by decide)) d_Machine_foldStates_125 ?_
        refine lv_topi (fun v_131 ev_131 => ?_)
        refine lv_iconst (v := 1) hx hb d_Machine_foldStates_126 (by decide) ?_
        refine lv_iadd hx hb d_Machine_foldStates_127 ?_
        refine lv_topi (fun v_132 ev_132 => ?_)
        refine va_iast hx hb hK hP hD hS 3 0 rfl rfl (zI.inn hv_129 (by decide)) d_Machine_foldStates_128 (fun H locs hP hD hS => ?_)
        obtain ⟨f_133, gf_133, uf_133, hP, hD⟩ := z_newFu 3 hP hD rfl
        have hP : va_P G.1 classes [(b0, .inr (5, [.int b3, .int v_128, .ref b5, .ref b6, .ref b7, .ref b8, .ref b9, .ref b10, .int b11, .ref b12, .ref b13, .ref b14, .ref b15, .ref b16, .ref b17])), (b5, .inl (G.2 0, 241, .inl f_130)), (b6, .inl (G.2 0, 241, .inl f_123)), (b7, .inl (G.2 0, 241, .inl f_133)), (b8, .inl (G.2 0, 241, .inl f_125)), (b9, .inl (G.2 0, 241, .inl f_127)), (b1, .inr (3, [.int b24, .int b25, .int b26, .ref b27, .ref b28, .ref b29, .ref b30, .ref b31, .ref b32, .ref b33, .ref b34])), (b30, .inl (G.2 0, 241, .inl b35)), (b10, .inl (G.2 1, 4, .inr (.inl y_79))), (b2, .inr (4, [.ref b36, .ref b37, .ref b38])), (b36, .inl (G.2 0, 241, .inl b39)), (b37, .inl (G.2 0, 4820, .inl b40)), (b38, .inl (G.2 0, 512, .inl f_94))] H := hP
        have hD := z_tie hP hD rfl
        refine lv_aload_n hx hb d_Machine_foldStates_129 rfl (lv_at hl 3 rfl) ?_
        refine va_get (D := G.1) (ci := 5) (v := .ref b8) (C := R_Machine) (T := F_Machine) (N := 15) hx hb hts i_Machine hown hK hP 0 rfl rfl 5 (by decide) (hts _ q176) (fun _ h9 => h9) rfl d_Machine_foldStates_130 ?_
        refine lv_iload hx hb d_Machine_foldStates_133 (lv_at hl 0 rfl) ?_
        refine lv_dup2_11 hx hb d_Machine_foldStates_135 rfl rfl ?_
        refine va_iald hx hb hK hP 4 0 rfl rfl (zI.inn hv_129 (by decide)) d_Machine_foldStates_136 ?_
        refine lv_topi (fun v_134 ev_134 => ?_)
        refine lv_aload_n hx hb d_Machine_foldStates_137 rfl (lv_at hl 4 rfl) ?_
        refine va_get (D := G.1) (ci := 3) (v := .ref b30) (C := R_Tree) (T := F_Tree) (N := 11) hx hb hts i_Tree hown hK hP 6 rfl rfl 6 (by decide) (hts _ q110) (fun _ h9 => h9) rfl d_Machine_foldStates_138 ?_
        refine lv_iload_n hx hb d_Machine_foldStates_141 rfl (lv_at hl 2 rfl) ?_
        refine va_iald hx hb hK hP 7 0 rfl rfl (zI.inn hv_90 (by decide)) d_Machine_foldStates_142 ?_
        refine lv_topi (fun v_135 ev_135 => ?_)
        refine lv_iadd hx hb d_Machine_foldStates_143 ?_
        refine lv_topi (fun v_136 ev_136 => ?_)
        refine va_iast hx hb hK hP hD hS 4 0 rfl rfl (zI.inn hv_129 (by decide)) d_Machine_foldStates_144 (fun H locs hP hD hS => ?_)
        obtain ⟨f_137, gf_137, uf_137, hP, hD⟩ := z_newFu 4 hP hD rfl
        have hP : va_P G.1 classes [(b0, .inr (5, [.int b3, .int v_128, .ref b5, .ref b6, .ref b7, .ref b8, .ref b9, .ref b10, .int b11, .ref b12, .ref b13, .ref b14, .ref b15, .ref b16, .ref b17])), (b5, .inl (G.2 0, 241, .inl f_130)), (b6, .inl (G.2 0, 241, .inl f_123)), (b7, .inl (G.2 0, 241, .inl f_133)), (b8, .inl (G.2 0, 241, .inl f_137)), (b9, .inl (G.2 0, 241, .inl f_127)), (b1, .inr (3, [.int b24, .int b25, .int b26, .ref b27, .ref b28, .ref b29, .ref b30, .ref b31, .ref b32, .ref b33, .ref b34])), (b30, .inl (G.2 0, 241, .inl b35)), (b10, .inl (G.2 1, 4, .inr (.inl y_79))), (b2, .inr (4, [.ref b36, .ref b37, .ref b38])), (b36, .inl (G.2 0, 241, .inl b39)), (b37, .inl (G.2 0, 4820, .inl b40)), (b38, .inl (G.2 0, 512, .inl f_94))] H := hP
        have hD := z_tie hP hD rfl
        refine lv_aload_n hx hb d_Machine_foldStates_145 rfl (lv_at hl 4 rfl) ?_
        refine va_get (D := G.1) (ci := 3) (v := .ref b30) (C := R_Tree) (T := F_Tree) (N := 11) hx hb hts i_Tree hown hK hP 6 rfl rfl 6 (by decide) (hts _ q110) (fun _ h9 => h9) rfl d_Machine_foldStates_146 ?_
        refine lv_iload_n hx hb d_Machine_foldStates_149 rfl (lv_at hl 2 rfl) ?_
        refine va_iald hx hb hK hP 7 0 rfl rfl (zI.inn hv_90 (by decide)) d_Machine_foldStates_150 ?_
        refine lv_topi (fun v_138 ev_138 => ?_)
        obtain rfl : v_135 = v_138 := ev_135.trans ev_138.symm
        refine lv_if_le (tgt := 174) hx hb d_Machine_foldStates_151 (by decide) (fun hc_139 => ?_) (fun hc_139 => ?_)
        · have _nhc_139 := hc_139
          have ni_140 := (fa_le _ _).mp hc_139
          rw [li_0] at ni_140
          have hv_141 : zI v_135 (-2147483648) 0 := zI.le_l (zI_all v_135) zc_0 hc_139 (by decide)
          obtain ⟨v_142, ev_142⟩ : ∃ z : Int32, z = y_77 + 1 := ⟨_, rfl⟩
          obtain ⟨qv_142, hv_142⟩ := zI_add (l := 1) (h := 241) hv_90 zc_1 ev_142 (by decide)
          rw [li_1] at qv_142
          refine lv_iinc (v := v_142) (lv' := [(3, .int v_142), (5, .int v_129), (4, .int x_93), (0, .ref b0), (1, .ref b1), (2, .ref b2)]) hx hb d_Machine_foldStates_174 hl (k := 2) rfl (by rw [ev_142]; rfl) (by decide) rfl (fun ls hl => ?_)
          refine lv_goto (tgt := 15) hx hb d_Machine_foldStates_177 (by decide) ?_
          exact ihk_76 (v_142) (v_128) (y_79) (f_94) (f_130) (f_123) (f_133) (f_137) (f_127) _ _ _ (zI.wk (l' := 0) (h' := 241) hv_142 (by decide)) (zI.wk (l' := 0) (h' := 241) hv_128 (by decide)) hf_94 hf_130 hf_123 (by omega) (zm_up qv_142 hmk_76 (by decide)) (hP.sub [0, 1, 2, 3, 4, 5, 6, 7, 9, 10, 11, 12, 8] rfl) (hD.sub [0, 1, 2, 3, 4, 5, 6, 7, 9, 10, 11, 12, 8] (by decide) rfl) hS (lv_sub hl [0, 3, 4, 5] rfl)
        · have _nhc_139 := hc_139
          have ni_143 := (fa_lt _ _).mp (zi_nle hc_139)
          rw [li_0] at ni_143
          have hv_144 : zI v_135 1 2147483647 := zI.lt_r zc_0 (zI_all v_135) (zi_nle hc_139) (by decide)
          refine lv_aload_n hx hb d_Machine_foldStates_154 rfl (lv_at hl 3 rfl) ?_
          refine va_get (D := G.1) (ci := 5) (v := .ref b10) (C := R_Machine) (T := F_Machine) (N := 15) hx hb hts i_Machine hown hK hP 0 rfl rfl 7 (by decide) (hts _ q181) (fun _ h9 => h9) rfl d_Machine_foldStates_155 ?_
          refine lv_iload hx hb d_Machine_foldStates_158 (lv_at hl 0 rfl) ?_
          refine lv_bipush (v := 6) hx hb d_Machine_foldStates_160 (by decide) ?_
          refine lv_ishr hx hb d_Machine_foldStates_162 ?_
          refine lv_topi (fun v_145 ev_145 => ?_)
          obtain ⟨qv_145, hv_145⟩ := zI_shr (l := 0) (h := 3) (k := 6) hv_129 (by decide +kernel) ev_145 (by decide)
          refine lv_dup2_11 hx hb d_Machine_foldStates_163 rfl rfl ?_
          refine va_lald hx hb hK hP 8 1 rfl rfl (zI.inn hv_145 (by decide)) d_Machine_foldStates_164 ?_
          refine lv_topl (fun v_146 ev_146 => ?_)
          refine lv_lconst (v := 1) hx hb d_Machine_foldStates_165 (by decide) ?_
          refine lv_iload hx hb d_Machine_foldStates_166 (lv_at hl 0 rfl) ?_
          refine lv_bipush (v := 63) hx hb d_Machine_foldStates_168 (by decide) ?_
          refine lv_iand hx hb d_Machine_foldStates_170 ?_
          refine lv_topi (fun v_147 ev_147 => ?_)
          have hv_147 := zI_and (k := 6) (h := 63) (by decide +kernel) ev_147 (by decide)
          obtain ⟨v_148, ev_148⟩ : ∃ z : Int64, z = 1 <<< ((v_147 : Int32).toInt64 &&& 63) := ⟨_, rfl⟩
          refine lv_lshl (v := v_148) hx hb d_Machine_foldStates_171 ev_148.symm ?_
          refine lv_lor hx hb d_Machine_foldStates_172 ?_
          refine lv_topl (fun v_149 ev_149 => ?_)
          refine va_last hx hb hK hP hD hS 8 1 rfl rfl (zI.inn hv_145 (by decide)) d_Machine_foldStates_173 (fun H locs hP hD hS => ?_)
          obtain ⟨f_150, hP, hD⟩ := z_newL 8 hP hD rfl
          have hP : va_P G.1 classes [(b0, .inr (5, [.int b3, .int v_128, .ref b5, .ref b6, .ref b7, .ref b8, .ref b9, .ref b10, .int b11, .ref b12, .ref b13, .ref b14, .ref b15, .ref b16, .ref b17])), (b5, .inl (G.2 0, 241, .inl f_130)), (b6, .inl (G.2 0, 241, .inl f_123)), (b7, .inl (G.2 0, 241, .inl f_133)), (b8, .inl (G.2 0, 241, .inl f_137)), (b9, .inl (G.2 0, 241, .inl f_127)), (b1, .inr (3, [.int b24, .int b25, .int b26, .ref b27, .ref b28, .ref b29, .ref b30, .ref b31, .ref b32, .ref b33, .ref b34])), (b30, .inl (G.2 0, 241, .inl b35)), (b10, .inl (G.2 1, 4, .inr (.inl f_150))), (b2, .inr (4, [.ref b36, .ref b37, .ref b38])), (b36, .inl (G.2 0, 241, .inl b39)), (b37, .inl (G.2 0, 4820, .inl b40)), (b38, .inl (G.2 0, 512, .inl f_94))] H := hP
          have hD := z_tie hP hD rfl
          obtain ⟨v_151, ev_151⟩ : ∃ z : Int32, z = y_77 + 1 := ⟨_, rfl⟩
          obtain ⟨qv_151, hv_151⟩ := zI_add (l := 1) (h := 241) hv_90 zc_1 ev_151 (by decide)
          rw [li_1] at qv_151
          refine lv_iinc (v := v_151) (lv' := [(3, .int v_151), (5, .int v_129), (4, .int x_93), (0, .ref b0), (1, .ref b1), (2, .ref b2)]) hx hb d_Machine_foldStates_174 hl (k := 2) rfl (by rw [ev_151]; rfl) (by decide) rfl (fun ls hl => ?_)
          refine lv_goto (tgt := 15) hx hb d_Machine_foldStates_177 (by decide) ?_
          exact ihk_76 (v_151) (v_128) (f_150) (f_94) (f_130) (f_123) (f_133) (f_137) (f_127) _ _ _ (zI.wk (l' := 0) (h' := 241) hv_151 (by decide)) (zI.wk (l' := 0) (h' := 241) hv_128 (by decide)) hf_94 hf_130 hf_123 (by omega) (zm_up qv_151 hmk_76 (by decide)) (hP.sub [0, 1, 2, 3, 4, 5, 6, 7, 9, 10, 11, 12, 8] rfl) (hD.sub [0, 1, 2, 3, 4, 5, 6, 7, 9, 10, 11, 12, 8] (by decide) rfl) hS (lv_sub hl [0, 3, 4, 5] rfl)
theorem d_Machine_gatherKeys_128 : decode prog_4_method_9_code 128 = .ok (.return_, 1) := by decide +kernel
abbrev m_s2_Machine_gatherKeys : Room := { frames := 1, cells := 0, slots := 0, locals := 24 }
set_option maxHeartbeats 4000000 in
set_option maxRecDepth 100000 in
theorem s2_Machine_gatherKeys (l : Launch) (G : zG) (b0 : Nat) (b1 : Nat) (b2 : Int32) (b3 : Int32) (b4 : Nat) (b5 : Nat) (b6 : Nat) (b7 : Nat) (b8 : Nat) (b9 : Nat) (b10 : Int32) (b11 : Nat) (b12 : Nat) (b13 : Nat) (b14 : Nat) (b15 : Nat) (b16 : Nat) (b17 : Nat → Int32) (b18 : Nat → Int32) (b19 : Nat → Int32) (b20 : Nat → Int32) (b21 : Nat → Int32) (b22 : Int32) (b23 : Int32) (b24 : Int32) (b25 : Nat) (b26 : Nat) (b27 : Nat) (b28 : Nat) (b29 : Nat) (b30 : Nat) (b31 : Nat) (b32 : Nat) (b33 : Nat → Int32) (b34 : Nat → Int32) (hb2 : zI b2 0 1) (hb3 : zI b3 0 241) (hb10 : zI b10 0 240) (hb22 : zI b22 0 1) (hb24 : zI b24 0 241) (hb17 : zR b17 0 240) (hb18 : zK b18) (hb33 : zR1 b33 0 240) (hb34 : zR1 b34 0 9) : zM l G y_Machine_gatherKeys prog_4_method_9_code 5 (Option.none : Option Jvm.ClassFile.FieldType) m_s2_Machine_gatherKeys [.ref b0, .ref b1] [(b0, .inr (5, [.int b2, .int b3, .ref b4, .ref b5, .ref b6, .ref b7, .ref b8, .ref b9, .int b10, .ref b11, .ref b12, .ref b13, .ref b14, .ref b15, .ref b16])), (b4, .inl (G.2 0, 241, .inl b17)), (b11, .inl (G.2 0, 240, .inl b18)), (b12, .inl (G.2 0, 240, .inl b19)), (b13, .inl (G.2 0, 240, .inl b20)), (b14, .inl (G.2 0, 240, .inl b21)), (b1, .inr (3, [.int b22, .int b23, .int b24, .ref b25, .ref b26, .ref b27, .ref b28, .ref b29, .ref b30, .ref b31, .ref b32])), (b25, .inl (G.2 0, 241, .inl b33)), (b26, .inl (G.2 0, 241, .inl b34))] (fun v w => ∃ (e0 : Int32), ∃ (e1 : Nat → Int32), ∃ (e2 : Nat → Int32), ∃ (e3 : Nat → Int32), ∃ (e4 : Nat → Int32), v = none ∧ w = [(b0, .inr (5, [.int b2, .int b3, .ref b4, .ref b5, .ref b6, .ref b7, .ref b8, .ref b9, .int e0, .ref b11, .ref b12, .ref b13, .ref b14, .ref b15, .ref b16])), (b4, .inl (G.2 0, 241, .inl b17)), (b11, .inl (G.2 0, 240, .inl e1)), (b12, .inl (G.2 0, 240, .inl e2)), (b13, .inl (G.2 0, 240, .inl e3)), (b14, .inl (G.2 0, 240, .inl e4)), (b1, .inr (3, [.int b22, .int b23, .int b24, .ref b25, .ref b26, .ref b27, .ref b28, .ref b29, .ref b30, .ref b31, .ref b32])), (b25, .inl (G.2 0, 241, .inl b33)), (b26, .inl (G.2 0, 241, .inl b34))] ∧ (zI e0 0 240) ∧ (zK e1) ∧ (zkJ b17 b33 b34 e1 (b24.toInt).toNat (e0 : Int32).toInt.toNat)) := by
  refine z_start (by decide +kernel) (Nat.le_of_ble_eq_true rfl) ?_
  intro p e s m below meth c A Z hr hnm hA hP hD hS ls hl
  have Z : zC p s m _ meth c prog_4_method_9_code 5 "TraceMachines$Machine" G := Z
  obtain ⟨hx, hb, hml, hown, hts, hK, hN, hlocks⟩ := id Z
  have hl : lv_has ls 5 [(0, .ref b0), (1, .ref b1)] := hl
  refine lv_aload_n hx hb d_Machine_gatherKeys_0 rfl (lv_at hl 0 rfl) ?_
  refine lv_iconst (v := 0) hx hb d_Machine_gatherKeys_1 (by decide) ?_
  refine va_put (D := G.1) (ci := 5) (v := .int 0) (ty := .int) (C := R_Machine) (T := F_Machine) (N := 15) hx hb hts i_Machine t_Machine t_Machine_ok n_Machine hown hK hP hD hS 0 rfl rfl 8 (by decide) (hts _ q184) (fun _ h9 => h9) rfl (by decide +kernel) rfl rfl (Nat.le_of_ble_eq_true rfl) d_Machine_gatherKeys_2 (fun H locs hP hD hS => ?_)
  have hP : va_P G.1 classes [(b0, .inr (5, [.int b2, .int b3, .ref b4, .ref b5, .ref b6, .ref b7, .ref b8, .ref b9, .int 0, .ref b11, .ref b12, .ref b13, .ref b14, .ref b15, .ref b16])), (b4, .inl (G.2 0, 241, .inl b17)), (b11, .inl (G.2 0, 240, .inl b18)), (b12, .inl (G.2 0, 240, .inl b19)), (b13, .inl (G.2 0, 240, .inl b20)), (b14, .inl (G.2 0, 240, .inl b21)), (b1, .inr (3, [.int b22, .int b23, .int b24, .ref b25, .ref b26, .ref b27, .ref b28, .ref b29, .ref b30, .ref b31, .ref b32])), (b25, .inl (G.2 0, 241, .inl b33)), (b26, .inl (G.2 0, 241, .inl b34))] H := hP
  have hD := z_tie hP hD rfl
  refine lv_iconst (v := 1) hx hb d_Machine_gatherKeys_5 (by decide) ?_
  refine lv_istore_n (lv' := [(2, .int 1), (0, .ref b0), (1, .ref b1)]) hx hb d_Machine_gatherKeys_6 rfl hl (by decide) rfl (fun ls hl => ?_)
  suffices key : ∀ (k_52 : Nat) (y_53 : Int32) (y_54 : Int32) (y_55 : Nat → Int32) (y_56 : Nat → Int32) (y_57 : Nat → Int32) (y_58 : Nat → Int32) (H : Heap) (locs : List Loc) (ls : Array Slot), (zI y_53 1 241) → (zI y_54 0 240) → (zK y_55) → ((y_54 : Int32).toInt ≤ (y_53 : Int32).toInt - 1) → (zkI y_55 (y_54 : Int32).toInt.toNat) → (zkJ b17 b33 b34 y_55 ((y_53 : Int32).toInt).toNat (y_54 : Int32).toInt.toNat) → (241 : Int) - y_53.toInt < (k_52 : Int) → va_P G.1 classes [(b0, .inr (5, [.int b2, .int b3, .ref b4, .ref b5, .ref b6, .ref b7, .ref b8, .ref b9, .int y_54, .ref b11, .ref b12, .ref b13, .ref b14, .ref b15, .ref b16])), (b4, .inl (G.2 0, 241, .inl b17)), (b11, .inl (G.2 0, 240, .inl y_55)), (b12, .inl (G.2 0, 240, .inl y_56)), (b13, .inl (G.2 0, 240, .inl y_57)), (b14, .inl (G.2 0, 240, .inl y_58)), (b1, .inr (3, [.int b22, .int b23, .int b24, .ref b25, .ref b26, .ref b27, .ref b28, .ref b29, .ref b30, .ref b31, .ref b32])), (b25, .inl (G.2 0, 241, .inl b33)), (b26, .inl (G.2 0, 241, .inl b34))] H → va_D A [(b0, .inr (5, [.int b2, .int b3, .ref b4, .ref b5, .ref b6, .ref b7, .ref b8, .ref b9, .int y_54, .ref b11, .ref b12, .ref b13, .ref b14, .ref b15, .ref b16])), (b4, .inl (G.2 0, 241, .inl b17)), (b11, .inl (G.2 0, 240, .inl y_55)), (b12, .inl (G.2 0, 240, .inl y_56)), (b13, .inl (G.2 0, 240, .inl y_57)), (b14, .inl (G.2 0, 240, .inl y_58)), (b1, .inr (3, [.int b22, .int b23, .int b24, .ref b25, .ref b26, .ref b27, .ref b28, .ref b29, .ref b30, .ref b31, .ref b32])), (b25, .inl (G.2 0, 241, .inl b33)), (b26, .inl (G.2 0, 241, .inl b34))] → va_S A s.heap H locs → lv_has ls 5 [(2, .int y_53), (0, .ref b0), (1, .ref b1)] → W p l e m_s2_Machine_gatherKeys s m ([.ref b0, .ref b1] : List Value).toArray below meth c H locs 0 0 (MQ below (zQ G (fun v w => ∃ (e0 : Int32), ∃ (e1 : Nat → Int32), ∃ (e2 : Nat → Int32), ∃ (e3 : Nat → Int32), ∃ (e4 : Nat → Int32), v = none ∧ w = [(b0, .inr (5, [.int b2, .int b3, .ref b4, .ref b5, .ref b6, .ref b7, .ref b8, .ref b9, .int e0, .ref b11, .ref b12, .ref b13, .ref b14, .ref b15, .ref b16])), (b4, .inl (G.2 0, 241, .inl b17)), (b11, .inl (G.2 0, 240, .inl e1)), (b12, .inl (G.2 0, 240, .inl e2)), (b13, .inl (G.2 0, 240, .inl e3)), (b14, .inl (G.2 0, 240, .inl e4)), (b1, .inr (3, [.int b22, .int b23, .int b24, .ref b25, .ref b26, .ref b27, .ref b28, .ref b29, .ref b30, .ref b31, .ref b32])), (b25, .inl (G.2 0, 241, .inl b33)), (b26, .inl (G.2 0, 241, .inl b34))] ∧ (zI e0 0 240) ∧ (zK e1) ∧ (zkJ b17 b33 b34 e1 (b24.toInt).toNat (e0 : Int32).toInt.toNat)) A) ([.ref b0, .ref b1] : List Value).toArray s m_s2_Machine_gatherKeys.cells m_s2_Machine_gatherKeys.slots A) (F0 m 7 ls []) by
    exact key 241 (1) (0) (b18) (b19) (b20) (b21) _ _ _ (zI.wk (l' := 1) (h' := 241) zc_1 (by decide)) (zI.wk (l' := 0) (h' := 240) zc_0 (by decide)) hb18 (by have _l0 := li_0; have _l1 := li_1; omega) (by have _l0 := li_0; intro j h9; omega) (by have _l0 := li_0; have _l1 := li_1; exact ⟨fun q h1 h2 => by omega, fun h1 => by omega⟩) (zm_upi (zI.wk (l' := 1) (h' := 241) zc_1 (by decide)) (by decide)) hP hD hS (lv_sub hl [0, 1, 2] rfl)
  intro k_52
  induction k_52 with
  | zero =>
    intro y_53 y_54 y_55 y_56 y_57 y_58 H locs ls hy_53 hy_54 hy_55 hli_59 hli_60 hli_61 hmk_52 hP hD hS hl
    exact (zm_up0 hy_53 hmk_52).elim
  | succ k_52 ihk_52 =>
    intro y_53 y_54 y_55 y_56 y_57 y_58 H locs ls hy_53 hy_54 hy_55 hli_59 hli_60 hli_61 hmk_52 hP hD hS hl
    refine lv_iload_n hx hb d_Machine_gatherKeys_7 rfl (lv_at hl 0 rfl) ?_
    refine lv_aload_n hx hb d_Machine_gatherKeys_8 rfl (lv_at hl 2 rfl) ?_
    refine va_get (D := G.1) (ci := 3) (v := .int b24) (C := R_Tree) (T := F_Tree) (N := 11) hx hb hts i_Tree hown hK hP 6 rfl rfl 2 (by decide) (hts _ q101) (fun _ h9 => h9) rfl d_Machine_gatherKeys_9 ?_
    refine lv_icmp_ge (tgt := 128) hx hb d_Machine_gatherKeys_12 (by decide) (fun hc_62 => ?_) (fun hc_62 => ?_)
    · have _nhc_62 := hc_62
      have ni_63 := (fa_le _ _).mp hc_62
      exact z_vret hx hb hr hlocks hP hD hS (Nat.le_of_ble_eq_true rfl) (Nat.le_of_ble_eq_true rfl) d_Machine_gatherKeys_128 ⟨y_54, y_55, y_56, y_57, y_58, rfl, rfl, hy_54, hy_55, (by obtain ⟨h8, h9⟩ := hli_61; exact ⟨fun q h1 h2 => h8 q h1 (by omega), fun h1 => h9 (by omega)⟩)⟩
    · have _nhc_62 := hc_62
      have ni_64 := (fa_lt _ _).mp (zi_nle hc_62)
      have hv_65 : zI y_53 1 240 := zI.lt_l hy_53 hb24 (zi_nle hc_62) (by decide)
      have hv_66 : zI b24 2 241 := zI.lt_r hy_53 hb24 (zi_nle hc_62) (by decide)
      refine lv_aload_n hx hb d_Machine_gatherKeys_15 rfl (lv_at hl 1 rfl) ?_
      refine lv_aload_n hx hb d_Machine_gatherKeys_16 rfl (lv_at hl 2 rfl) ?_
      refine lv_iload_n hx hb d_Machine_gatherKeys_17 rfl (lv_at hl 0 rfl) ?_
      refine z_callV (index := 106) (As := [.ref b1, .int y_53]) (rest := []) (wr := [(b11, .inl (G.2 0, 240, .inl y_55)), (b12, .inl (G.2 0, 240, .inl y_56)), (b13, .inl (G.2 0, 240, .inl y_57)), (b14, .inl (G.2 0, 240, .inl y_58))]) Z (s1_Machine_keyOf l G (b0) (b1) (y_53) (b2) (b3) (b4) (b5) (b6) (b7) (b8) (b9) (y_54) (b11) (b12) (b13) (b14) (b15) (b16) (b17) (b22) (b23) (b24) (b25) (b26) (b27) (b28) (b29) (b30) (b31) (b32) (b33) (b34) hv_65 hb2 hb3 hy_54 hb22 (zI.wk (l' := 0) (h' := 241) hv_66 (by decide)) hb17 hb33 hb34) hl.1 q641 q643 qs11 q6 q644 ⟨by decide, by decide, by show _ = some 2; decide +kernel⟩ ⟨Nat.le_of_ble_eq_true rfl, Nat.le_of_ble_eq_true rfl⟩ ⟨Nat.le_of_ble_eq_true rfl, Nat.le_of_ble_eq_true rfl⟩ rfl (Nat.le_of_ble_eq_true rfl) d_Machine_gatherKeys_18 hP hD hS hA 0 5 rfl rfl rfl [0, 1, 6, 7, 8] [2, 3, 4, 5] rfl rfl rfl rfl (by decide) (fun v w1 H locs hw_67 hP hD hS => ?_)
      obtain ⟨x_68, rfl, rfl, hx_68, hfx_69, hfx_70⟩ := hw_67
      have hP : va_P G.1 classes [(b11, .inl (G.2 0, 240, .inl y_55)), (b12, .inl (G.2 0, 240, .inl y_56)), (b13, .inl (G.2 0, 240, .inl y_57)), (b14, .inl (G.2 0, 240, .inl y_58)), (b0, .inr (5, [.int b2, .int b3, .ref b4, .ref b5, .ref b6, .ref b7, .ref b8, .ref b9, .int y_54, .ref b11, .ref b12, .ref b13, .ref b14, .ref b15, .ref b16])), (b4, .inl (G.2 0, 241, .inl b17)), (b1, .inr (3, [.int b22, .int b23, .int b24, .ref b25, .ref b26, .ref b27, .ref b28, .ref b29, .ref b30, .ref b31, .ref b32])), (b25, .inl (G.2 0, 241, .inl b33)), (b26, .inl (G.2 0, 241, .inl b34))] H := hP
      have hD := z_tie hP hD rfl
      refine W.widen (k := 0) (n := 0) (Nat.le_of_ble_eq_true rfl) (Nat.le_of_ble_eq_true rfl) ?_
      refine lv_istore_n (lv' := [(3, .int x_68), (2, .int y_53), (0, .ref b0), (1, .ref b1)]) hx hb d_Machine_gatherKeys_21 rfl hl (by decide) rfl (fun ls hl => ?_)
      refine lv_aload_n hx hb d_Machine_gatherKeys_22 rfl (lv_at hl 2 rfl) ?_
      refine lv_iload_n hx hb d_Machine_gatherKeys_23 rfl (lv_at hl 0 rfl) ?_
      refine z_callV (index := 110) (As := [.int x_68]) (rest := []) (wr := [(b12, .inl (G.2 0, 240, .inl y_56)), (b13, .inl (G.2 0, 240, .inl y_57)), (b14, .inl (G.2 0, 240, .inl y_58)), (b4, .inl (G.2 0, 241, .inl b17)), (b1, .inr (3, [.int b22, .int b23, .int b24, .ref b25, .ref b26, .ref b27, .ref b28, .ref b29, .ref b30, .ref b31, .ref b32])), (b25, .inl (G.2 0, 241, .inl b33)), (b26, .inl (G.2 0, 241, .inl b34))]) Z (s1_Machine_placeOf l G (b0) (x_68) (b2) (b3) (b4) (b5) (b6) (b7) (b8) (b9) (y_54) (b11) (b12) (b13) (b14) (b15) (b16) (y_55) hb2 hb3 hy_54 hy_55) hl.1 q645 q647 qs12 q6 q648 ⟨by decide, by decide, by show _ = some 1; decide +kernel⟩ ⟨Nat.le_of_ble_eq_true rfl, Nat.le_of_ble_eq_true rfl⟩ ⟨Nat.le_of_ble_eq_true rfl, Nat.le_of_ble_eq_true rfl⟩ rfl (Nat.le_of_ble_eq_true rfl) d_Machine_gatherKeys_24 hP hD hS hA 4 5 rfl rfl rfl [4, 0] [1, 2, 3, 5, 6, 7, 8] rfl rfl rfl rfl (by decide) (fun v w1 H locs hw_71 hP hD hS => ?_)
      obtain ⟨x_72, rfl, rfl, hx_72, hfx_73, hfx_74, hfx_75⟩ := hw_71
      have hP : va_P G.1 classes [(b12, .inl (G.2 0, 240, .inl y_56)), (b13, .inl (G.2 0, 240, .inl y_57)), (b14, .inl (G.2 0, 240, .inl y_58)), (b4, .inl (G.2 0, 241, .inl b17)), (b1, .inr (3, [.int b22, .int b23, .int b24, .ref b25, .ref b26, .ref b27, .ref b28, .ref b29, .ref b30, .ref b31, .ref b32])), (b25, .inl (G.2 0, 241, .inl b33)), (b26, .inl (G.2 0, 241, .inl b34)), (b0, .inr (5, [.int b2, .int b3, .ref b4, .ref b5, .ref b6, .ref b7, .ref b8, .ref b9, .int y_54, .ref b11, .ref b12, .ref b13, .ref b14, .ref b15, .ref b16])), (b11, .inl (G.2 0, 240, .inl y_55))] H := hP
      have hD := z_tie hP hD rfl
      refine W.widen (k := 0) (n := 0) (Nat.le_of_ble_eq_true rfl) (Nat.le_of_ble_eq_true rfl) ?_
      refine lv_istore (lv' := [(4, .int x_72), (3, .int x_68), (2, .int y_53), (0, .ref b0), (1, .ref b1)]) hx hb d_Machine_gatherKeys_27 hl (by decide) rfl (fun ls hl => ?_)
      have hv_76 : zI y_54 0 239 := ⟨by omega, by omega⟩
      refine lv_iload hx hb d_Machine_gatherKeys_29 (lv_at hl 0 rfl) ?_
      refine lv_aload_n hx hb d_Machine_gatherKeys_31 rfl (lv_at hl 3 rfl) ?_
      refine va_get (D := G.1) (ci := 5) (v := .int y_54) (C := R_Machine) (T := F_Machine) (N := 15) hx hb hts i_Machine hown hK hP 7 rfl rfl 8 (by decide) (hts _ q184) (fun _ h9 => h9) rfl d_Machine_gatherKeys_32 ?_
      refine lv_icmp_eq (tgt := 49) hx hb d_Machine_gatherKeys_35 (by decide) (fun hc_77 => ?_) (fun hc_77 => ?_)
      · have _nhc_77 := hc_77
        have ni_78 := (fa_eq _ _).mp hc_77
        have hv_79 : zI x_72 0 239 := zI.eq_l hx_72 hv_76 hc_77
        refine lv_aload_n hx hb d_Machine_gatherKeys_49 rfl (lv_at hl 3 rfl) ?_
        refine va_get (D := G.1) (ci := 5) (v := .ref b11) (C := R_Machine) (T := F_Machine) (N := 15) hx hb hts i_Machine hown hK hP 7 rfl rfl 9 (by decide) (hts _ q186) (fun _ h9 => h9) rfl d_Machine_gatherKeys_50 ?_
        refine lv_iload hx hb d_Machine_gatherKeys_53 (lv_at hl 0 rfl) ?_
        refine lv_aload_n hx hb d_Machine_gatherKeys_55 rfl (lv_at hl 3 rfl) ?_
        refine va_get (D := G.1) (ci := 5) (v := .ref b11) (C := R_Machine) (T := F_Machine) (N := 15) hx hb hts i_Machine hown hK hP 7 rfl rfl 9 (by decide) (hts _ q186) (fun _ h9 => h9) rfl d_Machine_gatherKeys_56 ?_
        refine lv_iload hx hb d_Machine_gatherKeys_59 (lv_at hl 0 rfl) ?_
        refine lv_iconst (v := 1) hx hb d_Machine_gatherKeys_61 (by decide) ?_
        refine lv_iadd hx hb d_Machine_gatherKeys_62 ?_
        refine lv_topi (fun v_80 ev_80 => ?_)
        obtain ⟨qv_80, hv_80⟩ := zI_add (l := 1) (h := 240) hv_79 zc_1 ev_80 (by decide)
        rw [li_1] at qv_80
        refine lv_aload_n hx hb d_Machine_gatherKeys_63 rfl (lv_at hl 3 rfl) ?_
        refine va_get (D := G.1) (ci := 5) (v := .int y_54) (C := R_Machine) (T := F_Machine) (N := 15) hx hb hts i_Machine hown hK hP 7 rfl rfl 8 (by decide) (hts _ q184) (fun _ h9 => h9) rfl d_Machine_gatherKeys_64 ?_
        refine lv_iload hx hb d_Machine_gatherKeys_67 (lv_at hl 0 rfl) ?_
        refine lv_isub hx hb d_Machine_gatherKeys_69 ?_
        refine lv_topi (fun v_81 ev_81 => ?_)
        obtain ⟨qv_81, hv_81⟩ := zI_sub (l := -239) (h := 239) hv_76 hv_79 ev_81 (by decide)
        have hv_82 : zI v_81 0 239 := ⟨by omega, by omega⟩
        refine va_copyi hx hb (hml.trans hl.1.symm) hown (hts _ q649) (hts _ q504) (hts _ q503) (hts _ q15) hK hP hD hS 8 8 0 0 rfl rfl rfl rfl rfl (zi_nn hv_79 (by decide)) (zi_nn hv_80 (by decide)) (zi_nn hv_82 (by decide)) (zi_cpo hv_79 hv_82 (by decide) (by decide) (by have _u := hv_79; have _w := hv_82; omega)) (zi_cpo hv_80 hv_82 (by decide) (by decide) (by have _u := hv_80; have _w := hv_82; omega)) (fun _ _ => rfl) (Nat.le_of_ble_eq_true rfl) (Nat.le_of_ble_eq_true rfl) d_Machine_gatherKeys_70 (fun H locs hP hD hS => ?_)
        obtain ⟨f_83, hf_83, uf_83, hP, hD⟩ := z_newfK 8 hP hD rfl (zK.cpy hy_55 hy_55)
        have hP : va_P G.1 classes [(b12, .inl (G.2 0, 240, .inl y_56)), (b13, .inl (G.2 0, 240, .inl y_57)), (b14, .inl (G.2 0, 240, .inl y_58)), (b4, .inl (G.2 0, 241, .inl b17)), (b1, .inr (3, [.int b22, .int b23, .int b24, .ref b25, .ref b26, .ref b27, .ref b28, .ref b29, .ref b30, .ref b31, .ref b32])), (b25, .inl (G.2 0, 241, .inl b33)), (b26, .inl (G.2 0, 241, .inl b34)), (b0, .inr (5, [.int b2, .int b3, .ref b4, .ref b5, .ref b6, .ref b7, .ref b8, .ref b9, .int y_54, .ref b11, .ref b12, .ref b13, .ref b14, .ref b15, .ref b16])), (b11, .inl (G.2 0, 240, .inl f_83))] H := hP
        have hD := z_tie hP hD rfl
        refine lv_aload_n hx hb d_Machine_gatherKeys_73 rfl (lv_at hl 3 rfl) ?_
        refine va_get (D := G.1) (ci := 5) (v := .ref b11) (C := R_Machine) (T := F_Machine) (N := 15) hx hb hts i_Machine hown hK hP 7 rfl rfl 9 (by decide) (hts _ q186) (fun _ h9 => h9) rfl d_Machine_gatherKeys_74 ?_
        refine lv_iload hx hb d_Machine_gatherKeys_77 (lv_at hl 0 rfl) ?_
        refine lv_iload_n hx hb d_Machine_gatherKeys_79 rfl (lv_at hl 1 rfl) ?_
        refine va_iast hx hb hK hP hD hS 8 0 rfl rfl (zI.inn hv_79 (by decide)) d_Machine_gatherKeys_80 (fun H locs hP hD hS => ?_)
        obtain ⟨f_84, hf_84, gf_84, uf_84, hP, hD⟩ := z_newfk 8 hP hD rfl hf_83 hx_68 (by omega)
        have hP : va_P G.1 classes [(b12, .inl (G.2 0, 240, .inl y_56)), (b13, .inl (G.2 0, 240, .inl y_57)), (b14, .inl (G.2 0, 240, .inl y_58)), (b4, .inl (G.2 0, 241, .inl b17)), (b1, .inr (3, [.int b22, .int b23, .int b24, .ref b25, .ref b26, .ref b27, .ref b28, .ref b29, .ref b30, .ref b31, .ref b32])), (b25, .inl (G.2 0, 241, .inl b33)), (b26, .inl (G.2 0, 241, .inl b34)), (b0, .inr (5, [.int b2, .int b3, .ref b4, .ref b5, .ref b6, .ref b7, .ref b8, .ref b9, .int y_54, .ref b11, .ref b12, .ref b13, .ref b14, .ref b15, .ref b16])), (b11, .inl (G.2 0, 240, .inl f_84))] H := hP
        have hD := z_tie hP hD rfl
        refine lv_aload_n hx hb d_Machine_gatherKeys_81 rfl (lv_at hl 3 rfl) ?_
        refine va_get (D := G.1) (ci := 5) (v := .ref b12) (C := R_Machine) (T := F_Machine) (N := 15) hx hb hts i_Machine hown hK hP 7 rfl rfl 10 (by decide) (hts _ q187) (fun _ h9 => h9) rfl d_Machine_gatherKeys_82 ?_
        refine lv_aload_n hx hb d_Machine_gatherKeys_85 rfl (lv_at hl 3 rfl) ?_
        refine va_get (D := G.1) (ci := 5) (v := .int y_54) (C := R_Machine) (T := F_Machine) (N := 15) hx hb hts i_Machine hown hK hP 7 rfl rfl 8 (by decide) (hts _ q184) (fun _ h9 => h9) rfl d_Machine_gatherKeys_86 ?_
        refine lv_iconst (v := 0) hx hb d_Machine_gatherKeys_89 (by decide) ?_
        refine va_iast hx hb hK hP hD hS 0 0 rfl rfl (zI.inn hv_76 (by decide)) d_Machine_gatherKeys_90 (fun H locs hP hD hS => ?_)
        obtain ⟨f_85, gf_85, uf_85, hP, hD⟩ := z_newFu 0 hP hD rfl
        have hP : va_P G.1 classes [(b12, .inl (G.2 0, 240, .inl f_85)), (b13, .inl (G.2 0, 240, .inl y_57)), (b14, .inl (G.2 0, 240, .inl y_58)), (b4, .inl (G.2 0, 241, .inl b17)), (b1, .inr (3, [.int b22, .int b23, .int b24, .ref b25, .ref b26, .ref b27, .ref b28, .ref b29, .ref b30, .ref b31, .ref b32])), (b25, .inl (G.2 0, 241, .inl b33)), (b26, .inl (G.2 0, 241, .inl b34)), (b0, .inr (5, [.int b2, .int b3, .ref b4, .ref b5, .ref b6, .ref b7, .ref b8, .ref b9, .int y_54, .ref b11, .ref b12, .ref b13, .ref b14, .ref b15, .ref b16])), (b11, .inl (G.2 0, 240, .inl f_84))] H := hP
        have hD := z_tie hP hD rfl
        refine lv_aload_n hx hb d_Machine_gatherKeys_91 rfl (lv_at hl 3 rfl) ?_
        refine va_get (D := G.1) (ci := 5) (v := .ref b13) (C := R_Machine) (T := F_Machine) (N := 15) hx hb hts i_Machine hown hK hP 7 rfl rfl 11 (by decide) (hts _ q191) (fun _ h9 => h9) rfl d_Machine_gatherKeys_92 ?_
        refine lv_aload_n hx hb d_Machine_gatherKeys_95 rfl (lv_at hl 3 rfl) ?_
        refine va_get (D := G.1) (ci := 5) (v := .int y_54) (C := R_Machine) (T := F_Machine) (N := 15) hx hb hts i_Machine hown hK hP 7 rfl rfl 8 (by decide) (hts _ q184) (fun _ h9 => h9) rfl d_Machine_gatherKeys_96 ?_
        refine lv_bipush (v := 99) hx hb d_Machine_gatherKeys_99 (by decide) ?_
        refine va_iast hx hb hK hP hD hS 1 0 rfl rfl (zI.inn hv_76 (by decide)) d_Machine_gatherKeys_101 (fun H locs hP hD hS => ?_)
        obtain ⟨f_86, gf_86, uf_86, hP, hD⟩ := z_newFu 1 hP hD rfl
        have hP : va_P G.1 classes [(b12, .inl (G.2 0, 240, .inl f_85)), (b13, .inl (G.2 0, 240, .inl f_86)), (b14, .inl (G.2 0, 240, .inl y_58)), (b4, .inl (G.2 0, 241, .inl b17)), (b1, .inr (3, [.int b22, .int b23, .int b24, .ref b25, .ref b26, .ref b27, .ref b28, .ref b29, .ref b30, .ref b31, .ref b32])), (b25, .inl (G.2 0, 241, .inl b33)), (b26, .inl (G.2 0, 241, .inl b34)), (b0, .inr (5, [.int b2, .int b3, .ref b4, .ref b5, .ref b6, .ref b7, .ref b8, .ref b9, .int y_54, .ref b11, .ref b12, .ref b13, .ref b14, .ref b15, .ref b16])), (b11, .inl (G.2 0, 240, .inl f_84))] H := hP
        have hD := z_tie hP hD rfl
        refine lv_aload_n hx hb d_Machine_gatherKeys_102 rfl (lv_at hl 3 rfl) ?_
        refine va_get (D := G.1) (ci := 5) (v := .ref b14) (C := R_Machine) (T := F_Machine) (N := 15) hx hb hts i_Machine hown hK hP 7 rfl rfl 12 (by decide) (hts _ q193) (fun _ h9 => h9) rfl d_Machine_gatherKeys_103 ?_
        refine lv_aload_n hx hb d_Machine_gatherKeys_106 rfl (lv_at hl 3 rfl) ?_
        refine va_get (D := G.1) (ci := 5) (v := .int y_54) (C := R_Machine) (T := F_Machine) (N := 15) hx hb hts i_Machine hown hK hP 7 rfl rfl 8 (by decide) (hts _ q184) (fun _ h9 => h9) rfl d_Machine_gatherKeys_107 ?_
        refine lv_iconst (v := 0) hx hb d_Machine_gatherKeys_110 (by decide) ?_
        refine va_iast hx hb hK hP hD hS 2 0 rfl rfl (zI.inn hv_76 (by decide)) d_Machine_gatherKeys_111 (fun H locs hP hD hS => ?_)
        obtain ⟨f_87, gf_87, uf_87, hP, hD⟩ := z_newFu 2 hP hD rfl
        have hP : va_P G.1 classes [(b12, .inl (G.2 0, 240, .inl f_85)), (b13, .inl (G.2 0, 240, .inl f_86)), (b14, .inl (G.2 0, 240, .inl f_87)), (b4, .inl (G.2 0, 241, .inl b17)), (b1, .inr (3, [.int b22, .int b23, .int b24, .ref b25, .ref b26, .ref b27, .ref b28, .ref b29, .ref b30, .ref b31, .ref b32])), (b25, .inl (G.2 0, 241, .inl b33)), (b26, .inl (G.2 0, 241, .inl b34)), (b0, .inr (5, [.int b2, .int b3, .ref b4, .ref b5, .ref b6, .ref b7, .ref b8, .ref b9, .int y_54, .ref b11, .ref b12, .ref b13, .ref b14, .ref b15, .ref b16])), (b11, .inl (G.2 0, 240, .inl f_84))] H := hP
        have hD := z_tie hP hD rfl
        refine lv_aload_n hx hb d_Machine_gatherKeys_112 rfl (lv_at hl 3 rfl) ?_
        refine lv_dup hx hb d_Machine_gatherKeys_113 rfl ?_
        refine va_get (D := G.1) (ci := 5) (v := .int y_54) (C := R_Machine) (T := F_Machine) (N := 15) hx hb hts i_Machine hown hK hP 7 rfl rfl 8 (by decide) (hts _ q184) (fun _ h9 => h9) rfl d_Machine_gatherKeys_114 ?_
        refine lv_iconst (v := 1) hx hb d_Machine_gatherKeys_117 (by decide) ?_
        refine lv_iadd hx hb d_Machine_gatherKeys_118 ?_
        refine lv_topi (fun v_88 ev_88 => ?_)
        obtain ⟨qv_88, hv_88⟩ := zI_add (l := 1) (h := 240) hv_76 zc_1 ev_88 (by decide)
        rw [li_1] at qv_88
        refine va_put (D := G.1) (ci := 5) (v := .int v_88) (ty := .int) (C := R_Machine) (T := F_Machine) (N := 15) hx hb hts i_Machine t_Machine t_Machine_ok n_Machine hown hK hP hD hS 7 rfl rfl 8 (by decide) (hts _ q184) (fun _ h9 => h9) rfl (by decide +kernel) rfl rfl (Nat.le_of_ble_eq_true rfl) d_Machine_gatherKeys_119 (fun H locs hP hD hS => ?_)
        have hP : va_P G.1 classes [(b12, .inl (G.2 0, 240, .inl f_85)), (b13, .inl (G.2 0, 240, .inl f_86)), (b14, .inl (G.2 0, 240, .inl f_87)), (b4, .inl (G.2 0, 241, .inl b17)), (b1, .inr (3, [.int b22, .int b23, .int b24, .ref b25, .ref b26, .ref b27, .ref b28, .ref b29, .ref b30, .ref b31, .ref b32])), (b25, .inl (G.2 0, 241, .inl b33)), (b26, .inl (G.2 0, 241, .inl b34)), (b0, .inr (5, [.int b2, .int b3, .ref b4, .ref b5, .ref b6, .ref b7, .ref b8, .ref b9, .int v_88, .ref b11, .ref b12, .ref b13, .ref b14, .ref b15, .ref b16])), (b11, .inl (G.2 0, 240, .inl f_84))] H := hP
        have hD := z_tie hP hD rfl
        obtain ⟨v_89, ev_89⟩ : ∃ z : Int32, z = y_53 + 1 := ⟨_, rfl⟩
        obtain ⟨qv_89, hv_89⟩ := zI_add (l := 2) (h := 241) hv_65 zc_1 ev_89 (by decide)
        rw [li_1] at qv_89
        refine lv_iinc (v := v_89) (lv' := [(2, .int v_89), (4, .int x_72), (3, .int x_68), (0, .ref b0), (1, .ref b1)]) hx hb d_Machine_gatherKeys_122 hl (k := 2) rfl (by rw [ev_89]; rfl) (by decide) rfl (fun ls hl => ?_)
        refine lv_goto (tgt := 7) hx hb d_Machine_gatherKeys_125 (by decide) ?_
        exact ihk_52 (v_89) (v_88) (f_84) (f_85) (f_86) (f_87) _ _ _ (zI.wk (l' := 1) (h' := 241) hv_89 (by decide)) (zI.wk (l' := 0) (h' := 240) hv_88 (by decide)) hf_84 (by omega) (by have h7 : v_88.toInt.toNat = y_54.toInt.toNat + 1 := (by omega); rw [h7]; exact (zk_ins (e := y_54.toInt.toNat) (h := (uf_84.trans (by rw [uf_83]))) (h1 := (by have _l := li_1; have p9 := z_pl hv_79 (by decide); have p8 := z_pl hv_80 (by decide); omega)) (h2 := (by have p9 := z_pl hv_79 (by decide); have p8 := z_pl hv_82 (by decide); omega)) hli_60 (fun h9 => by rw [z_plf hv_79 (by decide)] at h9 ⊢; exact hfx_74 (by omega)) (fun h9 => by rw [z_plf hv_79 (by decide)] at h9; rcases hfx_75 (by omega) with h8 | h8; left; omega; right; have h7 : (y_54.toInt - 1).toNat = y_54.toInt.toNat - 1 := (by omega); rw [← h7]; exact h8)).1) (by obtain ⟨_, h8, h9⟩ := zk_ins (e := y_54.toInt.toNat) (h := (uf_84.trans (by rw [uf_83]))) (h1 := (by have _l := li_1; have p9 := z_pl hv_79 (by decide); have p8 := z_pl hv_80 (by decide); omega)) (h2 := (by have p9 := z_pl hv_79 (by decide); have p8 := z_pl hv_82 (by decide); omega)) hli_60 (fun h9 => by rw [z_plf hv_79 (by decide)] at h9 ⊢; exact hfx_74 (by omega)) (fun h9 => by rw [z_plf hv_79 (by decide)] at h9; rcases hfx_75 (by omega) with h8 | h8; left; omega; right; have h7 : (y_54.toInt - 1).toNat = y_54.toInt.toNat - 1 := (by omega); rw [← h7]; exact h8); have h7 : v_88.toInt.toNat - 1 = y_54.toInt.toNat := (by omega); refine ⟨fun q h1 h2 => ?_, fun _ => by omega⟩; rw [h7]; by_cases h3 : q < y_53.toInt.toNat; have h4 := hli_61.1 q h1 h3; have h5 := hli_61.2 (by omega); have h6 := h8 (by omega); omega; have h5 : q = y_53.toInt.toNat := (by omega); rw [h5, ← hfx_69]; exact h9) (zm_up qv_89 hmk_52 (by decide)) (hP.sub [7, 3, 8, 0, 1, 2, 4, 5, 6] rfl) (hD.sub [7, 3, 8, 0, 1, 2, 4, 5, 6] (by decide) rfl) hS (lv_sub hl [0, 3, 4] rfl)
      · have _nhc_77 := hc_77
        have ni_90 : ¬ (x_72 : Int32).toInt = (y_54 : Int32).toInt := fun z => hc_77 ((fa_eq _ _).mpr z)
        refine lv_aload_n hx hb d_Machine_gatherKeys_38 rfl (lv_at hl 3 rfl) ?_
        refine va_get (D := G.1) (ci := 5) (v := .ref b11) (C := R_Machine) (T := F_Machine) (N := 15) hx hb hts i_Machine hown hK hP 7 rfl rfl 9 (by decide) (hts _ q186) (fun _ h9 => h9) rfl d_Machine_gatherKeys_39 ?_
        refine lv_iload hx hb d_Machine_gatherKeys_42 (lv_at hl 0 rfl) ?_
        have hv_91 : zI x_72 0 239 := ⟨by omega, by omega⟩
        refine va_iald hx hb hK hP 8 0 rfl rfl (zI.inn hv_91 (by decide)) d_Machine_gatherKeys_44 ?_
        refine lv_topi (fun v_92 ev_92 => ?_)
        obtain ⟨hv_92, kv_92⟩ := zK.ld hy_55 ev_92
        refine lv_iload_n hx hb d_Machine_gatherKeys_45 rfl (lv_at hl 1 rfl) ?_
        refine lv_icmp_eq (tgt := 122) hx hb d_Machine_gatherKeys_46 (by decide) (fun hc_93 => ?_) (fun hc_93 => ?_)
        · have _nhc_93 := hc_93
          have ni_94 := (fa_eq _ _).mp hc_93
          obtain ⟨v_95, ev_95⟩ : ∃ z : Int32, z = y_53 + 1 := ⟨_, rfl⟩
          obtain ⟨qv_95, hv_95⟩ := zI_add (l := 2) (h := 241) hv_65 zc_1 ev_95 (by decide)
          rw [li_1] at qv_95
          refine lv_iinc (v := v_95) (lv' := [(2, .int v_95), (4, .int x_72), (3, .int x_68), (0, .ref b0), (1, .ref b1)]) hx hb d_Machine_gatherKeys_122 hl (k := 2) rfl (by rw [ev_95]; rfl) (by decide) rfl (fun ls hl => ?_)
          refine lv_goto (tgt := 7) hx hb d_Machine_gatherKeys_125 (by decide) ?_
          exact ihk_52 (v_95) (y_54) (y_55) (y_56) (y_57) (y_58) _ _ _ (zI.wk (l' := 1) (h' := 241) hv_95 (by decide)) (zI.wk (l' := 0) (h' := 240) hv_76 (by decide)) hy_55 (by omega) hli_60 (by refine ⟨fun q h1 h2 => ?_, fun _ => by omega⟩; by_cases h3 : q < y_53.toInt.toNat; exact hli_61.1 q h1 h3; have h5 : q = y_53.toInt.toNat := (by omega); rw [h5, ← hfx_69]; have h6 := hli_60 x_72.toNatClampNeg (by rw [z_plf hv_91 (by decide)]; omega); rw [← ev_92] at h6; omega) (zm_up qv_95 hmk_52 (by decide)) (hP.sub [7, 3, 8, 0, 1, 2, 4, 5, 6] rfl) (hD.sub [7, 3, 8, 0, 1, 2, 4, 5, 6] (by decide) rfl) hS (lv_sub hl [0, 3, 4] rfl)
        · have _nhc_93 := hc_93
          have ni_96 : ¬ (v_92 : Int32).toInt = (x_68 : Int32).toInt := fun z => hc_93 ((fa_eq _ _).mpr z)
          refine lv_aload_n hx hb d_Machine_gatherKeys_49 rfl (lv_at hl 3 rfl) ?_
          refine va_get (D := G.1) (ci := 5) (v := .ref b11) (C := R_Machine) (T := F_Machine) (N := 15) hx hb hts i_Machine hown hK hP 7 rfl rfl 9 (by decide) (hts _ q186) (fun _ h9 => h9) rfl d_Machine_gatherKeys_50 ?_
          refine lv_iload hx hb d_Machine_gatherKeys_53 (lv_at hl 0 rfl) ?_
          refine lv_aload_n hx hb d_Machine_gatherKeys_55 rfl (lv_at hl 3 rfl) ?_
          refine va_get (D := G.1) (ci := 5) (v := .ref b11) (C := R_Machine) (T := F_Machine) (N := 15) hx hb hts i_Machine hown hK hP 7 rfl rfl 9 (by decide) (hts _ q186) (fun _ h9 => h9) rfl d_Machine_gatherKeys_56 ?_
          refine lv_iload hx hb d_Machine_gatherKeys_59 (lv_at hl 0 rfl) ?_
          refine lv_iconst (v := 1) hx hb d_Machine_gatherKeys_61 (by decide) ?_
          refine lv_iadd hx hb d_Machine_gatherKeys_62 ?_
          refine lv_topi (fun v_97 ev_97 => ?_)
          obtain ⟨qv_97, hv_97⟩ := zI_add (l := 1) (h := 240) hv_91 zc_1 ev_97 (by decide)
          rw [li_1] at qv_97
          refine lv_aload_n hx hb d_Machine_gatherKeys_63 rfl (lv_at hl 3 rfl) ?_
          refine va_get (D := G.1) (ci := 5) (v := .int y_54) (C := R_Machine) (T := F_Machine) (N := 15) hx hb hts i_Machine hown hK hP 7 rfl rfl 8 (by decide) (hts _ q184) (fun _ h9 => h9) rfl d_Machine_gatherKeys_64 ?_
          refine lv_iload hx hb d_Machine_gatherKeys_67 (lv_at hl 0 rfl) ?_
          refine lv_isub hx hb d_Machine_gatherKeys_69 ?_
          refine lv_topi (fun v_98 ev_98 => ?_)
          obtain ⟨qv_98, hv_98⟩ := zI_sub (l := -239) (h := 239) hv_76 hv_91 ev_98 (by decide)
          have hv_99 : zI v_98 0 239 := ⟨by omega, by omega⟩
          refine va_copyi hx hb (hml.trans hl.1.symm) hown (hts _ q649) (hts _ q504) (hts _ q503) (hts _ q15) hK hP hD hS 8 8 0 0 rfl rfl rfl rfl rfl (zi_nn hv_91 (by decide)) (zi_nn hv_97 (by decide)) (zi_nn hv_99 (by decide)) (zi_cpo hv_91 hv_99 (by decide) (by decide) (by have _u := hv_91; have _w := hv_99; omega)) (zi_cpo hv_97 hv_99 (by decide) (by decide) (by have _u := hv_97; have _w := hv_99; omega)) (fun _ _ => rfl) (Nat.le_of_ble_eq_true rfl) (Nat.le_of_ble_eq_true rfl) d_Machine_gatherKeys_70 (fun H locs hP hD hS => ?_)
          obtain ⟨f_100, hf_100, uf_100, hP, hD⟩ := z_newfK 8 hP hD rfl (zK.cpy hy_55 hy_55)
          have hP : va_P G.1 classes [(b12, .inl (G.2 0, 240, .inl y_56)), (b13, .inl (G.2 0, 240, .inl y_57)), (b14, .inl (G.2 0, 240, .inl y_58)), (b4, .inl (G.2 0, 241, .inl b17)), (b1, .inr (3, [.int b22, .int b23, .int b24, .ref b25, .ref b26, .ref b27, .ref b28, .ref b29, .ref b30, .ref b31, .ref b32])), (b25, .inl (G.2 0, 241, .inl b33)), (b26, .inl (G.2 0, 241, .inl b34)), (b0, .inr (5, [.int b2, .int b3, .ref b4, .ref b5, .ref b6, .ref b7, .ref b8, .ref b9, .int y_54, .ref b11, .ref b12, .ref b13, .ref b14, .ref b15, .ref b16])), (b11, .inl (G.2 0, 240, .inl f_100))] H := hP
          have hD := z_tie hP hD rfl
          refine lv_aload_n hx hb d_Machine_gatherKeys_73 rfl (lv_at hl 3 rfl) ?_
          refine va_get (D := G.1) (ci := 5) (v := .ref b11) (C := R_Machine) (T := F_Machine) (N := 15) hx hb hts i_Machine hown hK hP 7 rfl rfl 9 (by decide) (hts _ q186) (fun _ h9 => h9) rfl d_Machine_gatherKeys_74 ?_
          refine lv_iload hx hb d_Machine_gatherKeys_77 (lv_at hl 0 rfl) ?_
          refine lv_iload_n hx hb d_Machine_gatherKeys_79 rfl (lv_at hl 1 rfl) ?_
          refine va_iast hx hb hK hP hD hS 8 0 rfl rfl (zI.inn hv_91 (by decide)) d_Machine_gatherKeys_80 (fun H locs hP hD hS => ?_)
          obtain ⟨f_101, hf_101, gf_101, uf_101, hP, hD⟩ := z_newfk 8 hP hD rfl hf_100 hx_68 (by omega)
          have hP : va_P G.1 classes [(b12, .inl (G.2 0, 240, .inl y_56)), (b13, .inl (G.2 0, 240, .inl y_57)), (b14, .inl (G.2 0, 240, .inl y_58)), (b4, .inl (G.2 0, 241, .inl b17)), (b1, .inr (3, [.int b22, .int b23, .int b24, .ref b25, .ref b26, .ref b27, .ref b28, .ref b29, .ref b30, .ref b31, .ref b32])), (b25, .inl (G.2 0, 241, .inl b33)), (b26, .inl (G.2 0, 241, .inl b34)), (b0, .inr (5, [.int b2, .int b3, .ref b4, .ref b5, .ref b6, .ref b7, .ref b8, .ref b9, .int y_54, .ref b11, .ref b12, .ref b13, .ref b14, .ref b15, .ref b16])), (b11, .inl (G.2 0, 240, .inl f_101))] H := hP
          have hD := z_tie hP hD rfl
          refine lv_aload_n hx hb d_Machine_gatherKeys_81 rfl (lv_at hl 3 rfl) ?_
          refine va_get (D := G.1) (ci := 5) (v := .ref b12) (C := R_Machine) (T := F_Machine) (N := 15) hx hb hts i_Machine hown hK hP 7 rfl rfl 10 (by decide) (hts _ q187) (fun _ h9 => h9) rfl d_Machine_gatherKeys_82 ?_
          refine lv_aload_n hx hb d_Machine_gatherKeys_85 rfl (lv_at hl 3 rfl) ?_
          refine va_get (D := G.1) (ci := 5) (v := .int y_54) (C := R_Machine) (T := F_Machine) (N := 15) hx hb hts i_Machine hown hK hP 7 rfl rfl 8 (by decide) (hts _ q184) (fun _ h9 => h9) rfl d_Machine_gatherKeys_86 ?_
          refine lv_iconst (v := 0) hx hb d_Machine_gatherKeys_89 (by decide) ?_
          refine va_iast hx hb hK hP hD hS 0 0 rfl rfl (zI.inn hv_76 (by decide)) d_Machine_gatherKeys_90 (fun H locs hP hD hS => ?_)
          obtain ⟨f_102, gf_102, uf_102, hP, hD⟩ := z_newFu 0 hP hD rfl
          have hP : va_P G.1 classes [(b12, .inl (G.2 0, 240, .inl f_102)), (b13, .inl (G.2 0, 240, .inl y_57)), (b14, .inl (G.2 0, 240, .inl y_58)), (b4, .inl (G.2 0, 241, .inl b17)), (b1, .inr (3, [.int b22, .int b23, .int b24, .ref b25, .ref b26, .ref b27, .ref b28, .ref b29, .ref b30, .ref b31, .ref b32])), (b25, .inl (G.2 0, 241, .inl b33)), (b26, .inl (G.2 0, 241, .inl b34)), (b0, .inr (5, [.int b2, .int b3, .ref b4, .ref b5, .ref b6, .ref b7, .ref b8, .ref b9, .int y_54, .ref b11, .ref b12, .ref b13, .ref b14, .ref b15, .ref b16])), (b11, .inl (G.2 0, 240, .inl f_101))] H := hP
          have hD := z_tie hP hD rfl
          refine lv_aload_n hx hb d_Machine_gatherKeys_91 rfl (lv_at hl 3 rfl) ?_
          refine va_get (D := G.1) (ci := 5) (v := .ref b13) (C := R_Machine) (T := F_Machine) (N := 15) hx hb hts i_Machine hown hK hP 7 rfl rfl 11 (by decide) (hts _ q191) (fun _ h9 => h9) rfl d_Machine_gatherKeys_92 ?_
          refine lv_aload_n hx hb d_Machine_gatherKeys_95 rfl (lv_at hl 3 rfl) ?_
          refine va_get (D := G.1) (ci := 5) (v := .int y_54) (C := R_Machine) (T := F_Machine) (N := 15) hx hb hts i_Machine hown hK hP 7 rfl rfl 8 (by decide) (hts _ q184) (fun _ h9 => h9) rfl d_Machine_gatherKeys_96 ?_
          refine lv_bipush (v := 99) hx hb d_Machine_gatherKeys_99 (by decide) ?_
          refine va_iast hx hb hK hP hD hS 1 0 rfl rfl (zI.inn hv_76 (by decide)) d_Machine_gatherKeys_101 (fun H locs hP hD hS => ?_)
          obtain ⟨f_103, gf_103, uf_103, hP, hD⟩ := z_newFu 1 hP hD rfl
          have hP : va_P G.1 classes [(b12, .inl (G.2 0, 240, .inl f_102)), (b13, .inl (G.2 0, 240, .inl f_103)), (b14, .inl (G.2 0, 240, .inl y_58)), (b4, .inl (G.2 0, 241, .inl b17)), (b1, .inr (3, [.int b22, .int b23, .int b24, .ref b25, .ref b26, .ref b27, .ref b28, .ref b29, .ref b30, .ref b31, .ref b32])), (b25, .inl (G.2 0, 241, .inl b33)), (b26, .inl (G.2 0, 241, .inl b34)), (b0, .inr (5, [.int b2, .int b3, .ref b4, .ref b5, .ref b6, .ref b7, .ref b8, .ref b9, .int y_54, .ref b11, .ref b12, .ref b13, .ref b14, .ref b15, .ref b16])), (b11, .inl (G.2 0, 240, .inl f_101))] H := hP
          have hD := z_tie hP hD rfl
          refine lv_aload_n hx hb d_Machine_gatherKeys_102 rfl (lv_at hl 3 rfl) ?_
          refine va_get (D := G.1) (ci := 5) (v := .ref b14) (C := R_Machine) (T := F_Machine) (N := 15) hx hb hts i_Machine hown hK hP 7 rfl rfl 12 (by decide) (hts _ q193) (fun _ h9 => h9) rfl d_Machine_gatherKeys_103 ?_
          refine lv_aload_n hx hb d_Machine_gatherKeys_106 rfl (lv_at hl 3 rfl) ?_
          refine va_get (D := G.1) (ci := 5) (v := .int y_54) (C := R_Machine) (T := F_Machine) (N := 15) hx hb hts i_Machine hown hK hP 7 rfl rfl 8 (by decide) (hts _ q184) (fun _ h9 => h9) rfl d_Machine_gatherKeys_107 ?_
          refine lv_iconst (v := 0) hx hb d_Machine_gatherKeys_110 (by decide) ?_
          refine va_iast hx hb hK hP hD hS 2 0 rfl rfl (zI.inn hv_76 (by decide)) d_Machine_gatherKeys_111 (fun H locs hP hD hS => ?_)
          obtain ⟨f_104, gf_104, uf_104, hP, hD⟩ := z_newFu 2 hP hD rfl
          have hP : va_P G.1 classes [(b12, .inl (G.2 0, 240, .inl f_102)), (b13, .inl (G.2 0, 240, .inl f_103)), (b14, .inl (G.2 0, 240, .inl f_104)), (b4, .inl (G.2 0, 241, .inl b17)), (b1, .inr (3, [.int b22, .int b23, .int b24, .ref b25, .ref b26, .ref b27, .ref b28, .ref b29, .ref b30, .ref b31, .ref b32])), (b25, .inl (G.2 0, 241, .inl b33)), (b26, .inl (G.2 0, 241, .inl b34)), (b0, .inr (5, [.int b2, .int b3, .ref b4, .ref b5, .ref b6, .ref b7, .ref b8, .ref b9, .int y_54, .ref b11, .ref b12, .ref b13, .ref b14, .ref b15, .ref b16])), (b11, .inl (G.2 0, 240, .inl f_101))] H := hP
          have hD := z_tie hP hD rfl
          refine lv_aload_n hx hb d_Machine_gatherKeys_112 rfl (lv_at hl 3 rfl) ?_
          refine lv_dup hx hb d_Machine_gatherKeys_113 rfl ?_
          refine va_get (D := G.1) (ci := 5) (v := .int y_54) (C := R_Machine) (T := F_Machine) (N := 15) hx hb hts i_Machine hown hK hP 7 rfl rfl 8 (by decide) (hts _ q184) (fun _ h9 => h9) rfl d_Machine_gatherKeys_114 ?_
          refine lv_iconst (v := 1) hx hb d_Machine_gatherKeys_117 (by decide) ?_
          refine lv_iadd hx hb d_Machine_gatherKeys_118 ?_
          refine lv_topi (fun v_105 ev_105 => ?_)
          obtain ⟨qv_105, hv_105⟩ := zI_add (l := 1) (h := 240) hv_76 zc_1 ev_105 (by decide)
          rw [li_1] at qv_105
          refine va_put (D := G.1) (ci := 5) (v := .int v_105) (ty := .int) (C := R_Machine) (T := F_Machine) (N := 15) hx hb hts i_Machine t_Machine t_Machine_ok n_Machine hown hK hP hD hS 7 rfl rfl 8 (by decide) (hts _ q184) (fun _ h9 => h9) rfl (by decide +kernel) rfl rfl (Nat.le_of_ble_eq_true rfl) d_Machine_gatherKeys_119 (fun H locs hP hD hS => ?_)
          have hP : va_P G.1 classes [(b12, .inl (G.2 0, 240, .inl f_102)), (b13, .inl (G.2 0, 240, .inl f_103)), (b14, .inl (G.2 0, 240, .inl f_104)), (b4, .inl (G.2 0, 241, .inl b17)), (b1, .inr (3, [.int b22, .int b23, .int b24, .ref b25, .ref b26, .ref b27, .ref b28, .ref b29, .ref b30, .ref b31, .ref b32])), (b25, .inl (G.2 0, 241, .inl b33)), (b26, .inl (G.2 0, 241, .inl b34)), (b0, .inr (5, [.int b2, .int b3, .ref b4, .ref b5, .ref b6, .ref b7, .ref b8, .ref b9, .int v_105, .ref b11, .ref b12, .ref b13, .ref b14, .ref b15, .ref b16])), (b11, .inl (G.2 0, 240, .inl f_101))] H := hP
          have hD := z_tie hP hD rfl
          obtain ⟨v_106, ev_106⟩ : ∃ z : Int32, z = y_53 + 1 := ⟨_, rfl⟩
          obtain ⟨qv_106, hv_106⟩ := zI_add (l := 2) (h := 241) hv_65 zc_1 ev_106 (by decide)
          rw [li_1] at qv_106
          refine lv_iinc (v := v_106) (lv' := [(2, .int v_106), (4, .int x_72), (3, .int x_68), (0, .ref b0), (1, .ref b1)]) hx hb d_Machine_gatherKeys_122 hl (k := 2) rfl (by rw [ev_106]; rfl) (by decide) rfl (fun ls hl => ?_)
          refine lv_goto (tgt := 7) hx hb d_Machine_gatherKeys_125 (by decide) ?_
          exact ihk_52 (v_106) (v_105) (f_101) (f_102) (f_103) (f_104) _ _ _ (zI.wk (l' := 1) (h' := 241) hv_106 (by decide)) (zI.wk (l' := 0) (h' := 240) hv_105 (by decide)) hf_101 (by omega) (by have h7 : v_105.toInt.toNat = y_54.toInt.toNat + 1 := (by omega); rw [h7]; exact (zk_ins (e := y_54.toInt.toNat) (h := (uf_101.trans (by rw [uf_100]))) (h1 := (by have _l := li_1; have p9 := z_pl hv_91 (by decide); have p8 := z_pl hv_97 (by decide); omega)) (h2 := (by have p9 := z_pl hv_91 (by decide); have p8 := z_pl hv_99 (by decide); omega)) hli_60 (fun h9 => by rw [z_plf hv_91 (by decide)] at h9 ⊢; exact hfx_74 (by omega)) (fun h9 => by rw [z_plf hv_91 (by decide)] at h9; rcases hfx_75 (by omega) with h8 | h8; left; omega; right; have h7 : (y_54.toInt - 1).toNat = y_54.toInt.toNat - 1 := (by omega); rw [← h7]; exact h8)).1) (by obtain ⟨_, h8, h9⟩ := zk_ins (e := y_54.toInt.toNat) (h := (uf_101.trans (by rw [uf_100]))) (h1 := (by have _l := li_1; have p9 := z_pl hv_91 (by decide); have p8 := z_pl hv_97 (by decide); omega)) (h2 := (by have p9 := z_pl hv_91 (by decide); have p8 := z_pl hv_99 (by decide); omega)) hli_60 (fun h9 => by rw [z_plf hv_91 (by decide)] at h9 ⊢; exact hfx_74 (by omega)) (fun h9 => by rw [z_plf hv_91 (by decide)] at h9; rcases hfx_75 (by omega) with h8 | h8; left; omega; right; have h7 : (y_54.toInt - 1).toNat = y_54.toInt.toNat - 1 := (by omega); rw [← h7]; exact h8); have h7 : v_105.toInt.toNat - 1 = y_54.toInt.toNat := (by omega); refine ⟨fun q h1 h2 => ?_, fun _ => by omega⟩; rw [h7]; by_cases h3 : q < y_53.toInt.toNat; have h4 := hli_61.1 q h1 h3; have h5 := hli_61.2 (by omega); have h6 := h8 (by omega); omega; have h5 : q = y_53.toInt.toNat := (by omega); rw [h5, ← hfx_69]; exact h9) (zm_up qv_106 hmk_52 (by decide)) (hP.sub [7, 3, 8, 0, 1, 2, 4, 5, 6] rfl) (hD.sub [7, 3, 8, 0, 1, 2, 4, 5, 6] (by decide) rfl) hS (lv_sub hl [0, 3, 4] rfl)
theorem d_Machine_gatherRanges_91 : decode prog_4_method_10_code 91 = .ok (.return_, 1) := by decide +kernel
abbrev m_s2_Machine_gatherRanges : Room := { frames := 1, cells := 0, slots := 0, locals := 24 }
set_option maxHeartbeats 4000000 in
set_option maxRecDepth 100000 in
theorem s2_Machine_gatherRanges (l : Launch) (G : zG) (b0 : Nat) (b1 : Nat) (b2 : Int32) (b3 : Int32) (b4 : Nat) (b5 : Nat) (b6 : Nat) (b7 : Nat) (b8 : Nat) (b9 : Nat) (b10 : Int32) (b11 : Nat) (b12 : Nat) (b13 : Nat) (b14 : Nat) (b15 : Nat) (b16 : Nat) (b17 : Nat → Int32) (b18 : Nat → Int32) (b19 : Nat → Int32) (b20 : Nat → Int32) (b21 : Nat → Int32) (b22 : Nat → Int32) (b23 : Int32) (b24 : Int32) (b25 : Int32) (b26 : Nat) (b27 : Nat) (b28 : Nat) (b29 : Nat) (b30 : Nat) (b31 : Nat) (b32 : Nat) (b33 : Nat) (b34 : Nat → Int32) (b35 : Nat → Int32) (b36 : Nat → Int32) (b37 : Nat → Int32) (b38 : Nat → Int32) (hb2 : zI b2 0 1) (hb3 : zI b3 0 241) (hb10 : zI b10 0 240) (hb23 : zI b23 0 1) (hb25 : zI b25 0 241) (hb17 : zR b17 0 240) (hb18 : zK b18) (hb22 : zR b22 0 239) (hb34 : zR1 b34 0 240) (hb35 : zR1 b35 0 9) (hkj : zkJ b17 b34 b35 b18 (b25.toInt).toNat (b10 : Int32).toInt.toNat) : zM l G y_Machine_gatherRanges prog_4_method_10_code 4 (Option.none : Option Jvm.ClassFile.FieldType) m_s2_Machine_gatherRanges [.ref b0, .ref b1] [(b0, .inr (5, [.int b2, .int b3, .ref b4, .ref b5, .ref b6, .ref b7, .ref b8, .ref b9, .int b10, .ref b11, .ref b12, .ref b13, .ref b14, .ref b15, .ref b16])), (b4, .inl (G.2 0, 241, .inl b17)), (b11, .inl (G.2 0, 240, .inl b18)), (b12, .inl (G.2 0, 240, .inl b19)), (b13, .inl (G.2 0, 240, .inl b20)), (b14, .inl (G.2 0, 240, .inl b21)), (b16, .inl (G.2 0, 241, .inl b22)), (b1, .inr (3, [.int b23, .int b24, .int b25, .ref b26, .ref b27, .ref b28, .ref b29, .ref b30, .ref b31, .ref b32, .ref b33])), (b26, .inl (G.2 0, 241, .inl b34)), (b27, .inl (G.2 0, 241, .inl b35)), (b28, .inl (G.2 0, 241, .inl b36)), (b30, .inl (G.2 0, 241, .inl b37)), (b31, .inl (G.2 0, 241, .inl b38))] (fun v w => ∃ (e0 : Nat → Int32), ∃ (e1 : Nat → Int32), ∃ (e2 : Nat → Int32), ∃ (e3 : Nat → Int32), v = none ∧ w = [(b0, .inr (5, [.int b2, .int b3, .ref b4, .ref b5, .ref b6, .ref b7, .ref b8, .ref b9, .int b10, .ref b11, .ref b12, .ref b13, .ref b14, .ref b15, .ref b16])), (b4, .inl (G.2 0, 241, .inl b17)), (b11, .inl (G.2 0, 240, .inl b18)), (b12, .inl (G.2 0, 240, .inl e0)), (b13, .inl (G.2 0, 240, .inl e1)), (b14, .inl (G.2 0, 240, .inl e2)), (b16, .inl (G.2 0, 241, .inl e3)), (b1, .inr (3, [.int b23, .int b24, .int b25, .ref b26, .ref b27, .ref b28, .ref b29, .ref b30, .ref b31, .ref b32, .ref b33])), (b26, .inl (G.2 0, 241, .inl b34)), (b27, .inl (G.2 0, 241, .inl b35)), (b28, .inl (G.2 0, 241, .inl b36)), (b30, .inl (G.2 0, 241, .inl b37)), (b31, .inl (G.2 0, 241, .inl b38))] ∧ (zR e3 0 239)) := by
  refine z_start (by decide +kernel) (Nat.le_of_ble_eq_true rfl) ?_
  intro p e s m below meth c A Z hr hnm hA hP hD hS ls hl
  have Z : zC p s m _ meth c prog_4_method_10_code 4 "TraceMachines$Machine" G := Z
  obtain ⟨hx, hb, hml, hown, hts, hK, hN, hlocks⟩ := id Z
  have hl : lv_has ls 4 [(0, .ref b0), (1, .ref b1)] := hl
  refine lv_iconst (v := 1) hx hb d_Machine_gatherRanges_0 (by decide) ?_
  refine lv_istore_n (lv' := [(2, .int 1), (0, .ref b0), (1, .ref b1)]) hx hb d_Machine_gatherRanges_1 rfl hl (by decide) rfl (fun ls hl => ?_)
  suffices key : ∀ (k_35 : Nat) (y_36 : Int32) (y_37 : Nat → Int32) (y_38 : Nat → Int32) (y_39 : Nat → Int32) (y_40 : Nat → Int32) (H : Heap) (locs : List Loc) (ls : Array Slot), (zI y_36 1 241) → (zR y_40 0 239) → (241 : Int) - y_36.toInt < (k_35 : Int) → va_P G.1 classes [(b0, .inr (5, [.int b2, .int b3, .ref b4, .ref b5, .ref b6, .ref b7, .ref b8, .ref b9, .int b10, .ref b11, .ref b12, .ref b13, .ref b14, .ref b15, .ref b16])), (b4, .inl (G.2 0, 241, .inl b17)), (b11, .inl (G.2 0, 240, .inl b18)), (b12, .inl (G.2 0, 240, .inl y_37)), (b13, .inl (G.2 0, 240, .inl y_38)), (b14, .inl (G.2 0, 240, .inl y_39)), (b16, .inl (G.2 0, 241, .inl y_40)), (b1, .inr (3, [.int b23, .int b24, .int b25, .ref b26, .ref b27, .ref b28, .ref b29, .ref b30, .ref b31, .ref b32, .ref b33])), (b26, .inl (G.2 0, 241, .inl b34)), (b27, .inl (G.2 0, 241, .inl b35)), (b28, .inl (G.2 0, 241, .inl b36)), (b30, .inl (G.2 0, 241, .inl b37)), (b31, .inl (G.2 0, 241, .inl b38))] H → va_D A [(b0, .inr (5, [.int b2, .int b3, .ref b4, .ref b5, .ref b6, .ref b7, .ref b8, .ref b9, .int b10, .ref b11, .ref b12, .ref b13, .ref b14, .ref b15, .ref b16])), (b4, .inl (G.2 0, 241, .inl b17)), (b11, .inl (G.2 0, 240, .inl b18)), (b12, .inl (G.2 0, 240, .inl y_37)), (b13, .inl (G.2 0, 240, .inl y_38)), (b14, .inl (G.2 0, 240, .inl y_39)), (b16, .inl (G.2 0, 241, .inl y_40)), (b1, .inr (3, [.int b23, .int b24, .int b25, .ref b26, .ref b27, .ref b28, .ref b29, .ref b30, .ref b31, .ref b32, .ref b33])), (b26, .inl (G.2 0, 241, .inl b34)), (b27, .inl (G.2 0, 241, .inl b35)), (b28, .inl (G.2 0, 241, .inl b36)), (b30, .inl (G.2 0, 241, .inl b37)), (b31, .inl (G.2 0, 241, .inl b38))] → va_S A s.heap H locs → lv_has ls 4 [(2, .int y_36), (0, .ref b0), (1, .ref b1)] → W p l e m_s2_Machine_gatherRanges s m ([.ref b0, .ref b1] : List Value).toArray below meth c H locs 0 0 (MQ below (zQ G (fun v w => ∃ (e0 : Nat → Int32), ∃ (e1 : Nat → Int32), ∃ (e2 : Nat → Int32), ∃ (e3 : Nat → Int32), v = none ∧ w = [(b0, .inr (5, [.int b2, .int b3, .ref b4, .ref b5, .ref b6, .ref b7, .ref b8, .ref b9, .int b10, .ref b11, .ref b12, .ref b13, .ref b14, .ref b15, .ref b16])), (b4, .inl (G.2 0, 241, .inl b17)), (b11, .inl (G.2 0, 240, .inl b18)), (b12, .inl (G.2 0, 240, .inl e0)), (b13, .inl (G.2 0, 240, .inl e1)), (b14, .inl (G.2 0, 240, .inl e2)), (b16, .inl (G.2 0, 241, .inl e3)), (b1, .inr (3, [.int b23, .int b24, .int b25, .ref b26, .ref b27, .ref b28, .ref b29, .ref b30, .ref b31, .ref b32, .ref b33])), (b26, .inl (G.2 0, 241, .inl b34)), (b27, .inl (G.2 0, 241, .inl b35)), (b28, .inl (G.2 0, 241, .inl b36)), (b30, .inl (G.2 0, 241, .inl b37)), (b31, .inl (G.2 0, 241, .inl b38))] ∧ (zR e3 0 239)) A) ([.ref b0, .ref b1] : List Value).toArray s m_s2_Machine_gatherRanges.cells m_s2_Machine_gatherRanges.slots A) (F0 m 2 ls []) by
    exact key 241 (1) (b19) (b20) (b21) (b22) _ _ _ (zI.wk (l' := 1) (h' := 241) zc_1 (by decide)) hb22 (zm_upi (zI.wk (l' := 1) (h' := 241) zc_1 (by decide)) (by decide)) hP hD hS (lv_sub hl [0, 1, 2] rfl)
  intro k_35
  induction k_35 with
  | zero =>
    intro y_36 y_37 y_38 y_39 y_40 H locs ls hy_36 hy_40 hmk_35 hP hD hS hl
    exact (zm_up0 hy_36 hmk_35).elim
  | succ k_35 ihk_35 =>
    intro y_36 y_37 y_38 y_39 y_40 H locs ls hy_36 hy_40 hmk_35 hP hD hS hl
    refine lv_iload_n hx hb d_Machine_gatherRanges_2 rfl (lv_at hl 0 rfl) ?_
    refine lv_aload_n hx hb d_Machine_gatherRanges_3 rfl (lv_at hl 2 rfl) ?_
    refine va_get (D := G.1) (ci := 3) (v := .int b25) (C := R_Tree) (T := F_Tree) (N := 11) hx hb hts i_Tree hown hK hP 7 rfl rfl 2 (by decide) (hts _ q101) (fun _ h9 => h9) rfl d_Machine_gatherRanges_4 ?_
    refine lv_icmp_ge (tgt := 91) hx hb d_Machine_gatherRanges_7 (by decide) (fun hc_41 => ?_) (fun hc_41 => ?_)
    · have _nhc_41 := hc_41
      have ni_42 := (fa_le _ _).mp hc_41
      exact z_vret hx hb hr hlocks hP hD hS (Nat.le_of_ble_eq_true rfl) (Nat.le_of_ble_eq_true rfl) d_Machine_gatherRanges_91 ⟨y_37, y_38, y_39, y_40, rfl, rfl, hy_40⟩
    · have _nhc_41 := hc_41
      have ni_43 := (fa_lt _ _).mp (zi_nle hc_41)
      have hv_44 : zI y_36 1 240 := zI.lt_l hy_36 hb25 (zi_nle hc_41) (by decide)
      have hv_45 : zI b25 2 241 := zI.lt_r hy_36 hb25 (zi_nle hc_41) (by decide)
      refine lv_aload_n hx hb d_Machine_gatherRanges_10 rfl (lv_at hl 1 rfl) ?_
      refine lv_aload_n hx hb d_Machine_gatherRanges_11 rfl (lv_at hl 1 rfl) ?_
      refine lv_aload_n hx hb d_Machine_gatherRanges_12 rfl (lv_at hl 2 rfl) ?_
      refine lv_iload_n hx hb d_Machine_gatherRanges_13 rfl (lv_at hl 0 rfl) ?_
      refine z_callV (index := 106) (As := [.ref b1, .int y_36]) (rest := [.ref b0]) (wr := [(b11, .inl (G.2 0, 240, .inl b18)), (b12, .inl (G.2 0, 240, .inl y_37)), (b13, .inl (G.2 0, 240, .inl y_38)), (b14, .inl (G.2 0, 240, .inl y_39)), (b16, .inl (G.2 0, 241, .inl y_40)), (b28, .inl (G.2 0, 241, .inl b36)), (b30, .inl (G.2 0, 241, .inl b37)), (b31, .inl (G.2 0, 241, .inl b38))]) Z (s1_Machine_keyOf l G (b0) (b1) (y_36) (b2) (b3) (b4) (b5) (b6) (b7) (b8) (b9) (b10) (b11) (b12) (b13) (b14) (b15) (b16) (b17) (b23) (b24) (b25) (b26) (b27) (b28) (b29) (b30) (b31) (b32) (b33) (b34) (b35) hv_44 hb2 hb3 hb10 hb23 (zI.wk (l' := 0) (h' := 241) hv_45 (by decide)) hb17 hb34 hb35) hl.1 q641 q643 qs11 q6 q644 ⟨by decide, by decide, by show _ = some 2; decide +kernel⟩ ⟨Nat.le_of_ble_eq_true rfl, Nat.le_of_ble_eq_true rfl⟩ ⟨Nat.le_of_ble_eq_true rfl, Nat.le_of_ble_eq_true rfl⟩ rfl (Nat.le_of_ble_eq_true rfl) d_Machine_gatherRanges_14 hP hD hS hA 0 5 rfl rfl rfl [0, 1, 7, 8, 9] [2, 3, 4, 5, 6, 10, 11, 12] rfl rfl rfl rfl (by decide) (fun v w1 H locs hw_46 hP hD hS => ?_)
      obtain ⟨x_47, rfl, rfl, hx_47, hfx_48, hfx_49⟩ := hw_46
      have hP : va_P G.1 classes [(b11, .inl (G.2 0, 240, .inl b18)), (b12, .inl (G.2 0, 240, .inl y_37)), (b13, .inl (G.2 0, 240, .inl y_38)), (b14, .inl (G.2 0, 240, .inl y_39)), (b16, .inl (G.2 0, 241, .inl y_40)), (b28, .inl (G.2 0, 241, .inl b36)), (b30, .inl (G.2 0, 241, .inl b37)), (b31, .inl (G.2 0, 241, .inl b38)), (b0, .inr (5, [.int b2, .int b3, .ref b4, .ref b5, .ref b6, .ref b7, .ref b8, .ref b9, .int b10, .ref b11, .ref b12, .ref b13, .ref b14, .ref b15, .ref b16])), (b4, .inl (G.2 0, 241, .inl b17)), (b1, .inr (3, [.int b23, .int b24, .int b25, .ref b26, .ref b27, .ref b28, .ref b29, .ref b30, .ref b31, .ref b32, .ref b33])), (b26, .inl (G.2 0, 241, .inl b34)), (b27, .inl (G.2 0, 241, .inl b35))] H := hP
      have hD := z_tie hP hD rfl
      refine W.widen (k := 0) (n := 0) (Nat.le_of_ble_eq_true rfl) (Nat.le_of_ble_eq_true rfl) ?_
      refine z_callV (index := 110) (As := [.int x_47]) (rest := []) (wr := [(b12, .inl (G.2 0, 240, .inl y_37)), (b13, .inl (G.2 0, 240, .inl y_38)), (b14, .inl (G.2 0, 240, .inl y_39)), (b16, .inl (G.2 0, 241, .inl y_40)), (b28, .inl (G.2 0, 241, .inl b36)), (b30, .inl (G.2 0, 241, .inl b37)), (b31, .inl (G.2 0, 241, .inl b38)), (b4, .inl (G.2 0, 241, .inl b17)), (b1, .inr (3, [.int b23, .int b24, .int b25, .ref b26, .ref b27, .ref b28, .ref b29, .ref b30, .ref b31, .ref b32, .ref b33])), (b26, .inl (G.2 0, 241, .inl b34)), (b27, .inl (G.2 0, 241, .inl b35))]) Z (s1_Machine_placeOf l G (b0) (x_47) (b2) (b3) (b4) (b5) (b6) (b7) (b8) (b9) (b10) (b11) (b12) (b13) (b14) (b15) (b16) (b18) hb2 hb3 hb10 hb18) hl.1 q645 q647 qs12 q6 q648 ⟨by decide, by decide, by show _ = some 1; decide +kernel⟩ ⟨Nat.le_of_ble_eq_true rfl, Nat.le_of_ble_eq_true rfl⟩ ⟨Nat.le_of_ble_eq_true rfl, Nat.le_of_ble_eq_true rfl⟩ rfl (Nat.le_of_ble_eq_true rfl) d_Machine_gatherRanges_17 hP hD hS hA 8 5 rfl rfl rfl [8, 0] [1, 2, 3, 4, 5, 6, 7, 9, 10, 11, 12] rfl rfl rfl rfl (by decide) (fun v w1 H locs hw_50 hP hD hS => ?_)
      obtain ⟨x_51, rfl, rfl, hx_51, hfx_52, hfx_53, hfx_54⟩ := hw_50
      have hP : va_P G.1 classes [(b12, .inl (G.2 0, 240, .inl y_37)), (b13, .inl (G.2 0, 240, .inl y_38)), (b14, .inl (G.2 0, 240, .inl y_39)), (b16, .inl (G.2 0, 241, .inl y_40)), (b28, .inl (G.2 0, 241, .inl b36)), (b30, .inl (G.2 0, 241, .inl b37)), (b31, .inl (G.2 0, 241, .inl b38)), (b4, .inl (G.2 0, 241, .inl b17)), (b1, .inr (3, [.int b23, .int b24, .int b25, .ref b26, .ref b27, .ref b28, .ref b29, .ref b30, .ref b31, .ref b32, .ref b33])), (b26, .inl (G.2 0, 241, .inl b34)), (b27, .inl (G.2 0, 241, .inl b35)), (b0, .inr (5, [.int b2, .int b3, .ref b4, .ref b5, .ref b6, .ref b7, .ref b8, .ref b9, .int b10, .ref b11, .ref b12, .ref b13, .ref b14, .ref b15, .ref b16])), (b11, .inl (G.2 0, 240, .inl b18))] H := hP
      have hD := z_tie hP hD rfl
      refine W.widen (k := 0) (n := 0) (Nat.le_of_ble_eq_true rfl) (Nat.le_of_ble_eq_true rfl) ?_
      have _wx_51 : x_51.toInt < b10.toInt := by rcases Decidable.em (x_51.toInt < b10.toInt) with h9 | h9; exact h9; exfalso; have h8 := hkj.2 (by omega); rcases hfx_54 (by omega) with h7 | h7; omega; have h6 := hkj.1 y_36.toInt.toNat (by omega) (by omega); rw [← hfx_48] at h6; have h5 : (b10.toInt - 1).toNat = b10.toInt.toNat - 1 := (by omega); rw [h5] at h7; omega
      have hv_55 : zI x_51 0 239 := ⟨by omega, by omega⟩
      refine lv_istore_n (lv' := [(3, .int x_51), (2, .int y_36), (0, .ref b0), (1, .ref b1)]) hx hb d_Machine_gatherRanges_20 rfl hl (by decide) rfl (fun ls hl => ?_)
      refine lv_aload_n hx hb d_Machine_gatherRanges_21 rfl (lv_at hl 2 rfl) ?_
      refine va_get (D := G.1) (ci := 5) (v := .ref b16) (C := R_Machine) (T := F_Machine) (N := 15) hx hb hts i_Machine hown hK hP 11 rfl rfl 14 (by decide) (hts _ q198) (fun _ h9 => h9) rfl d_Machine_gatherRanges_22 ?_
      refine lv_iload_n hx hb d_Machine_gatherRanges_25 rfl (lv_at hl 1 rfl) ?_
      refine lv_iload_n hx hb d_Machine_gatherRanges_26 rfl (lv_at hl 0 rfl) ?_
      refine va_iast hx hb hK hP hD hS 3 0 rfl rfl (zI.inn hv_44 (by decide)) d_Machine_gatherRanges_27 (fun H locs hP hD hS => ?_)
      obtain ⟨f_56, hf_56, gf_56, uf_56, hP, hD⟩ := z_newfu 3 hP hD rfl hy_40 hv_55
      have hP : va_P G.1 classes [(b12, .inl (G.2 0, 240, .inl y_37)), (b13, .inl (G.2 0, 240, .inl y_38)), (b14, .inl (G.2 0, 240, .inl y_39)), (b16, .inl (G.2 0, 241, .inl f_56)), (b28, .inl (G.2 0, 241, .inl b36)), (b30, .inl (G.2 0, 241, .inl b37)), (b31, .inl (G.2 0, 241, .inl b38)), (b4, .inl (G.2 0, 241, .inl b17)), (b1, .inr (3, [.int b23, .int b24, .int b25, .ref b26, .ref b27, .ref b28, .ref b29, .ref b30, .ref b31, .ref b32, .ref b33])), (b26, .inl (G.2 0, 241, .inl b34)), (b27, .inl (G.2 0, 241, .inl b35)), (b0, .inr (5, [.int b2, .int b3, .ref b4, .ref b5, .ref b6, .ref b7, .ref b8, .ref b9, .int b10, .ref b11, .ref b12, .ref b13, .ref b14, .ref b15, .ref b16])), (b11, .inl (G.2 0, 240, .inl b18))] H := hP
      have hD := z_tie hP hD rfl
      refine lv_aload_n hx hb d_Machine_gatherRanges_28 rfl (lv_at hl 2 rfl) ?_
      refine va_get (D := G.1) (ci := 5) (v := .ref b12) (C := R_Machine) (T := F_Machine) (N := 15) hx hb hts i_Machine hown hK hP 11 rfl rfl 10 (by decide) (hts _ q187) (fun _ h9 => h9) rfl d_Machine_gatherRanges_29 ?_
      refine lv_iload_n hx hb d_Machine_gatherRanges_32 rfl (lv_at hl 0 rfl) ?_
      refine lv_dup2_11 hx hb d_Machine_gatherRanges_33 rfl rfl ?_
      refine va_iald hx hb hK hP 0 0 rfl rfl (zI.inn hv_55 (by decide)) d_Machine_gatherRanges_34 ?_
      refine lv_topi (fun v_57 ev_57 => ?_)
      refine lv_aload_n hx hb d_Machine_gatherRanges_35 rfl (lv_at hl 3 rfl) ?_
      refine va_get (D := G.1) (ci := 3) (v := .ref b28) (C := R_Tree) (T := F_Tree) (N := 11) hx hb hts i_Tree hown hK hP 8 rfl rfl 5 (by decide) (hts _ q108) (fun _ h9 => h9) rfl d_Machine_gatherRanges_36 ?_
      refine lv_iload_n hx hb d_Machine_gatherRanges_39 rfl (lv_at hl 1 rfl) ?_
      refine va_iald hx hb hK hP 4 0 rfl rfl (zI.inn hv_44 (by decide)) d_Machine_gatherRanges_40 ?_
      refine lv_topi (fun v_58 ev_58 => ?_)
      refine lv_iadd hx hb d_Machine_gatherRanges_41 ?_
      refine lv_topi (fun v_59 ev_59 => ?_)
      refine va_iast hx hb hK hP hD hS 0 0 rfl rfl (zI.inn hv_55 (by decide)) d_Machine_gatherRanges_42 (fun H locs hP hD hS => ?_)
      obtain ⟨f_60, gf_60, uf_60, hP, hD⟩ := z_newFu 0 hP hD rfl
      have hP : va_P G.1 classes [(b12, .inl (G.2 0, 240, .inl f_60)), (b13, .inl (G.2 0, 240, .inl y_38)), (b14, .inl (G.2 0, 240, .inl y_39)), (b16, .inl (G.2 0, 241, .inl f_56)), (b28, .inl (G.2 0, 241, .inl b36)), (b30, .inl (G.2 0, 241, .inl b37)), (b31, .inl (G.2 0, 241, .inl b38)), (b4, .inl (G.2 0, 241, .inl b17)), (b1, .inr (3, [.int b23, .int b24, .int b25, .ref b26, .ref b27, .ref b28, .ref b29, .ref b30, .ref b31, .ref b32, .ref b33])), (b26, .inl (G.2 0, 241, .inl b34)), (b27, .inl (G.2 0, 241, .inl b35)), (b0, .inr (5, [.int b2, .int b3, .ref b4, .ref b5, .ref b6, .ref b7, .ref b8, .ref b9, .int b10, .ref b11, .ref b12, .ref b13, .ref b14, .ref b15, .ref b16])), (b11, .inl (G.2 0, 240, .inl b18))] H := hP
      have hD := z_tie hP hD rfl
      refine lv_aload_n hx hb d_Machine_gatherRanges_43 rfl (lv_at hl 2 rfl) ?_
      refine va_get (D := G.1) (ci := 5) (v := .ref b13) (C := R_Machine) (T := F_Machine) (N := 15) hx hb hts i_Machine hown hK hP 11 rfl rfl 11 (by decide) (hts _ q191) (fun _ h9 => h9) rfl d_Machine_gatherRanges_44 ?_
      refine lv_iload_n hx hb d_Machine_gatherRanges_47 rfl (lv_at hl 0 rfl) ?_
      refine lv_aload_n hx hb d_Machine_gatherRanges_48 rfl (lv_at hl 2 rfl) ?_
      refine va_get (D := G.1) (ci := 5) (v := .ref b13) (C := R_Machine) (T := F_Machine) (N := 15) hx hb hts i_Machine hown hK hP 11 rfl rfl 11 (by decide) (hts _ q191) (fun _ h9 => h9) rfl d_Machine_gatherRanges_49 ?_
      refine lv_iload_n hx hb d_Machine_gatherRanges_52 rfl (lv_at hl 0 rfl) ?_
      refine va_iald hx hb hK hP 1 0 rfl rfl (zI.inn hv_55 (by decide)) d_Machine_gatherRanges_53 ?_
      refine lv_topi (fun v_61 ev_61 => ?_)
      refine lv_aload_n hx hb d_Machine_gatherRanges_54 rfl (lv_at hl 3 rfl) ?_
      refine va_get (D := G.1) (ci := 3) (v := .ref b30) (C := R_Tree) (T := F_Tree) (N := 11) hx hb hts i_Tree hown hK hP 8 rfl rfl 7 (by decide) (hts _ q112) (fun _ h9 => h9) rfl d_Machine_gatherRanges_55 ?_
      refine lv_iload_n hx hb d_Machine_gatherRanges_58 rfl (lv_at hl 1 rfl) ?_
      refine va_iald hx hb hK hP 5 0 rfl rfl (zI.inn hv_44 (by decide)) d_Machine_gatherRanges_59 ?_
      refine lv_topi (fun v_62 ev_62 => ?_)
      refine va_mmin hx hb (hml.trans hl.1.symm) hown (hts _ q654) (hts _ q592) (hts _ q20) (hts _ q593) (Nat.le_of_ble_eq_true rfl) (Nat.le_of_ble_eq_true rfl) (Nat.le_of_ble_eq_true rfl) (Nat.le_of_ble_eq_true rfl) d_Machine_gatherRanges_60 ?_
      refine lv_topi (fun v_63 ev_63 => ?_)
      have hv_63 := zI_min (l := (-2147483648)) (h := 2147483647) (zI_all v_61) (zI_all v_62) ev_63 (by decide)
      refine va_iast hx hb hK hP hD hS 1 0 rfl rfl (zI.inn hv_55 (by decide)) d_Machine_gatherRanges_63 (fun H locs hP hD hS => ?_)
      obtain ⟨f_64, gf_64, uf_64, hP, hD⟩ := z_newFu 1 hP hD rfl
      have hP : va_P G.1 classes [(b12, .inl (G.2 0, 240, .inl f_60)), (b13, .inl (G.2 0, 240, .inl f_64)), (b14, .inl (G.2 0, 240, .inl y_39)), (b16, .inl (G.2 0, 241, .inl f_56)), (b28, .inl (G.2 0, 241, .inl b36)), (b30, .inl (G.2 0, 241, .inl b37)), (b31, .inl (G.2 0, 241, .inl b38)), (b4, .inl (G.2 0, 241, .inl b17)), (b1, .inr (3, [.int b23, .int b24, .int b25, .ref b26, .ref b27, .ref b28, .ref b29, .ref b30, .ref b31, .ref b32, .ref b33])), (b26, .inl (G.2 0, 241, .inl b34)), (b27, .inl (G.2 0, 241, .inl b35)), (b0, .inr (5, [.int b2, .int b3, .ref b4, .ref b5, .ref b6, .ref b7, .ref b8, .ref b9, .int b10, .ref b11, .ref b12, .ref b13, .ref b14, .ref b15, .ref b16])), (b11, .inl (G.2 0, 240, .inl b18))] H := hP
      have hD := z_tie hP hD rfl
      refine lv_aload_n hx hb d_Machine_gatherRanges_64 rfl (lv_at hl 2 rfl) ?_
      refine va_get (D := G.1) (ci := 5) (v := .ref b14) (C := R_Machine) (T := F_Machine) (N := 15) hx hb hts i_Machine hown hK hP 11 rfl rfl 12 (by decide) (hts _ q193) (fun _ h9 => h9) rfl d_Machine_gatherRanges_65 ?_
      refine lv_iload_n hx hb d_Machine_gatherRanges_68 rfl (lv_at hl 0 rfl) ?_
      refine lv_aload_n hx hb d_Machine_gatherRanges_69 rfl (lv_at hl 2 rfl) ?_
      refine va_get (D := G.1) (ci := 5) (v := .ref b14) (C := R_Machine) (T := F_Machine) (N := 15) hx hb hts i_Machine hown hK hP 11 rfl rfl 12 (by decide) (hts _ q193) (fun _ h9 => h9) rfl d_Machine_gatherRanges_70 ?_
      refine lv_iload_n hx hb d_Machine_gatherRanges_73 rfl (lv_at hl 0 rfl) ?_
      refine va_iald hx hb hK hP 2 0 rfl rfl (zI.inn hv_55 (by decide)) d_Machine_gatherRanges_74 ?_
      refine lv_topi (fun v_65 ev_65 => ?_)
      refine lv_aload_n hx hb d_Machine_gatherRanges_75 rfl (lv_at hl 3 rfl) ?_
      refine va_get (D := G.1) (ci := 3) (v := .ref b31) (C := R_Tree) (T := F_Tree) (N := 11) hx hb hts i_Tree hown hK hP 8 rfl rfl 8 (by decide) (hts _ q114) (fun _ h9 => h9) rfl d_Machine_gatherRanges_76 ?_
      refine lv_iload_n hx hb d_Machine_gatherRanges_79 rfl (lv_at hl 1 rfl) ?_
      refine va_iald hx hb hK hP 6 0 rfl rfl (zI.inn hv_44 (by decide)) d_Machine_gatherRanges_80 ?_
      refine lv_topi (fun v_66 ev_66 => ?_)
      refine va_mmax hx hb (hml.trans hl.1.symm) hown (hts _ q655) (hts _ q595) (hts _ q20) (hts _ q596) (Nat.le_of_ble_eq_true rfl) (Nat.le_of_ble_eq_true rfl) (Nat.le_of_ble_eq_true rfl) (Nat.le_of_ble_eq_true rfl) d_Machine_gatherRanges_81 ?_
      refine lv_topi (fun v_67 ev_67 => ?_)
      have hv_67 := zI_max (l := (-2147483648)) (h := 2147483647) (zI_all v_65) (zI_all v_66) ev_67 (by decide)
      refine va_iast hx hb hK hP hD hS 2 0 rfl rfl (zI.inn hv_55 (by decide)) d_Machine_gatherRanges_84 (fun H locs hP hD hS => ?_)
      obtain ⟨f_68, gf_68, uf_68, hP, hD⟩ := z_newFu 2 hP hD rfl
      have hP : va_P G.1 classes [(b12, .inl (G.2 0, 240, .inl f_60)), (b13, .inl (G.2 0, 240, .inl f_64)), (b14, .inl (G.2 0, 240, .inl f_68)), (b16, .inl (G.2 0, 241, .inl f_56)), (b28, .inl (G.2 0, 241, .inl b36)), (b30, .inl (G.2 0, 241, .inl b37)), (b31, .inl (G.2 0, 241, .inl b38)), (b4, .inl (G.2 0, 241, .inl b17)), (b1, .inr (3, [.int b23, .int b24, .int b25, .ref b26, .ref b27, .ref b28, .ref b29, .ref b30, .ref b31, .ref b32, .ref b33])), (b26, .inl (G.2 0, 241, .inl b34)), (b27, .inl (G.2 0, 241, .inl b35)), (b0, .inr (5, [.int b2, .int b3, .ref b4, .ref b5, .ref b6, .ref b7, .ref b8, .ref b9, .int b10, .ref b11, .ref b12, .ref b13, .ref b14, .ref b15, .ref b16])), (b11, .inl (G.2 0, 240, .inl b18))] H := hP
      have hD := z_tie hP hD rfl
      obtain ⟨v_69, ev_69⟩ : ∃ z : Int32, z = y_36 + 1 := ⟨_, rfl⟩
      obtain ⟨qv_69, hv_69⟩ := zI_add (l := 2) (h := 241) hv_44 zc_1 ev_69 (by decide)
      rw [li_1] at qv_69
      refine lv_iinc (v := v_69) (lv' := [(2, .int v_69), (3, .int x_51), (0, .ref b0), (1, .ref b1)]) hx hb d_Machine_gatherRanges_85 hl (k := 1) rfl (by rw [ev_69]; rfl) (by decide) rfl (fun ls hl => ?_)
      refine lv_goto (tgt := 2) hx hb d_Machine_gatherRanges_88 (by decide) ?_
      exact ihk_35 (v_69) (f_60) (f_64) (f_68) (f_56) _ _ _ (zI.wk (l' := 1) (h' := 241) hv_69 (by decide)) hf_56 (zm_up qv_69 hmk_35 (by decide)) (hP.sub [11, 7, 12, 0, 1, 2, 3, 8, 9, 10, 4, 5, 6] rfl) (hD.sub [11, 7, 12, 0, 1, 2, 3, 8, 9, 10, 4, 5, 6] (by decide) rfl) hS (lv_sub hl [0, 2, 3] rfl)
theorem d_Machine_fold_33 : decode prog_4_method_5_code 33 = .ok (.return_, 1) := by decide +kernel
abbrev m_s1_Machine_fold : Room := { frames := 3, cells := 0, slots := 0, locals := 74 }
set_option maxHeartbeats 4000000 in
set_option maxRecDepth 100000 in
theorem s1_Machine_fold (l : Launch) (G : zG) (b0 : Nat) (b1 : Nat) (b2 : Nat) (b3 : Nat) (b4 : Int32) (b5 : Int32) (b6 : Int32) (b7 : Nat) (b8 : Nat) (b9 : Nat) (b10 : Nat) (b11 : Nat) (b12 : Nat) (b13 : Int32) (b14 : Nat) (b15 : Nat) (b16 : Nat) (b17 : Nat) (b18 : Nat) (b19 : Nat) (b20 : Nat → Int32) (b21 : Nat → Int32) (b22 : Nat → Int32) (b23 : Nat → Int32) (b24 : Nat → Int32) (b25 : Nat → Int64) (b26 : Nat → Int32) (b27 : Nat → Int32) (b28 : Nat → Int32) (b29 : Nat → Int32) (b30 : Nat → Int32) (b31 : Nat → Int32) (b32 : Int32) (b33 : Int32) (b34 : Int32) (b35 : Nat) (b36 : Nat) (b37 : Nat) (b38 : Nat → Int32) (b39 : Nat → Int32) (b40 : Int32) (b41 : Int32) (b42 : Int32) (b43 : Nat) (b44 : Nat) (b45 : Nat) (b46 : Nat) (b47 : Nat) (b48 : Nat) (b49 : Nat) (b50 : Nat) (b51 : Nat → Int32) (b52 : Nat → Int32) (b53 : Nat → Int32) (b54 : Nat → Int32) (b55 : Nat → Int32) (b56 : Nat → Int32) (b57 : Nat → Int32) (b58 : Nat) (b59 : Nat) (b60 : Nat) (b61 : Nat → Int32) (b62 : Nat → Int32) (b63 : Nat → Int32) (hb4 : zI b4 0 3) (hb5 : zI b5 0 1) (hb6 : zI b6 0 241) (hb13 : zI b13 0 240) (hb32 : zI b32 0 20) (hb33 : zI b33 0 3) (hb34 : zI b34 0 20) (hb40 : zI b40 0 1) (hb42 : zI b42 0 241) (hb20 : zR b20 0 240) (hb21 : zR b21 0 240) (hb26 : zK b26) (hb30 : zR b30 0 240) (hb31 : zR b31 0 239) (hb38 : zR b38 0 12) (hb39 : zR b39 0 9) (hb51 : zR1 b51 0 240) (hb52 : zR1 b52 0 9) (hb57 : zqa qP b57) (hb61 : zqa qC b61) (hb63 : zR b63 (-1) 240) (htr : zTr (b32 : Int32).toInt (b41 : Int32).toInt (b42 : Int32).toInt b38 b57) : zM l G y_Machine_fold prog_4_method_5_code 5 (Option.none : Option Jvm.ClassFile.FieldType) m_s1_Machine_fold [.ref b0, .ref b1, .ref b2, .ref b3, .int b4] [(b0, .inr (5, [.int b5, .int b6, .ref b7, .ref b8, .ref b9, .ref b10, .ref b11, .ref b12, .int b13, .ref b14, .ref b15, .ref b16, .ref b17, .ref b18, .ref b19])), (b7, .inl (G.2 0, 241, .inl b20)), (b8, .inl (G.2 0, 241, .inl b21)), (b9, .inl (G.2 0, 241, .inl b22)), (b10, .inl (G.2 0, 241, .inl b23)), (b11, .inl (G.2 0, 241, .inl b24)), (b12, .inl (G.2 1, 4, .inr (.inl b25))), (b14, .inl (G.2 0, 240, .inl b26)), (b15, .inl (G.2 0, 240, .inl b27)), (b16, .inl (G.2 0, 240, .inl b28)), (b17, .inl (G.2 0, 240, .inl b29)), (b18, .inl (G.2 0, 242, .inl b30)), (b19, .inl (G.2 0, 241, .inl b31)), (b1, .inr (2, [.int b32, .int b33, .int b34, .ref b35, .ref b36, .ref b37])), (b35, .inl (G.2 0, 20, .inl b38)), (b36, .inl (G.2 0, 240, .inl b39)), (b2, .inr (3, [.int b40, .int b41, .int b42, .ref b43, .ref b44, .ref b45, .ref b46, .ref b47, .ref b48, .ref b49, .ref b50])), (b43, .inl (G.2 0, 241, .inl b51)), (b44, .inl (G.2 0, 241, .inl b52)), (b45, .inl (G.2 0, 241, .inl b53)), (b46, .inl (G.2 0, 241, .inl b54)), (b47, .inl (G.2 0, 241, .inl b55)), (b48, .inl (G.2 0, 241, .inl b56)), (b50, .inl (G.2 0, 260, .inl b57)), (b3, .inr (4, [.ref b58, .ref b59, .ref b60])), (b58, .inl (G.2 0, 241, .inl b61)), (b59, .inl (G.2 0, 4820, .inl b62)), (b60, .inl (G.2 0, 512, .inl b63))] (fun v w => ∃ (e0 : Int32), ∃ (e1 : Int32), ∃ (e2 : Nat → Int32), ∃ (e3 : Nat → Int32), ∃ (e4 : Nat → Int32), ∃ (e5 : Nat → Int32), ∃ (e6 : Nat → Int32), ∃ (e7 : Nat → Int64), ∃ (e8 : Nat → Int32), ∃ (e9 : Nat → Int32), ∃ (e10 : Nat → Int32), ∃ (e11 : Nat → Int32), ∃ (e12 : Nat → Int32), ∃ (e13 : Nat → Int32), ∃ (e14 : Nat → Int32), ∃ (e15 : Nat → Int32), ∃ (e16 : Nat → Int32), v = none ∧ w = [(b0, .inr (5, [.int 1, .int e0, .ref b7, .ref b8, .ref b9, .ref b10, .ref b11, .ref b12, .int e1, .ref b14, .ref b15, .ref b16, .ref b17, .ref b18, .ref b19])), (b7, .inl (G.2 0, 241, .inl e2)), (b8, .inl (G.2 0, 241, .inl e3)), (b9, .inl (G.2 0, 241, .inl e4)), (b10, .inl (G.2 0, 241, .inl e5)), (b11, .inl (G.2 0, 241, .inl e6)), (b12, .inl (G.2 1, 4, .inr (.inl e7))), (b14, .inl (G.2 0, 240, .inl e8)), (b15, .inl (G.2 0, 240, .inl e9)), (b16, .inl (G.2 0, 240, .inl e10)), (b17, .inl (G.2 0, 240, .inl e11)), (b18, .inl (G.2 0, 242, .inl e12)), (b19, .inl (G.2 0, 241, .inl e13)), (b1, .inr (2, [.int b32, .int b33, .int b34, .ref b35, .ref b36, .ref b37])), (b35, .inl (G.2 0, 20, .inl b38)), (b36, .inl (G.2 0, 240, .inl b39)), (b2, .inr (3, [.int b40, .int b41, .int b42, .ref b43, .ref b44, .ref b45, .ref b46, .ref b47, .ref b48, .ref b49, .ref b50])), (b43, .inl (G.2 0, 241, .inl b51)), (b44, .inl (G.2 0, 241, .inl b52)), (b45, .inl (G.2 0, 241, .inl b53)), (b46, .inl (G.2 0, 241, .inl b54)), (b47, .inl (G.2 0, 241, .inl b55)), (b48, .inl (G.2 0, 241, .inl b56)), (b50, .inl (G.2 0, 260, .inl b57)), (b3, .inr (4, [.ref b58, .ref b59, .ref b60])), (b58, .inl (G.2 0, 241, .inl e14)), (b59, .inl (G.2 0, 4820, .inl e15)), (b60, .inl (G.2 0, 512, .inl e16))] ∧ (zI e0 0 241) ∧ (zI e1 0 240) ∧ (zR e2 0 240) ∧ (zR e3 0 240) ∧ (zK e8) ∧ (zR e12 0 240) ∧ (zR e13 0 239) ∧ (zqa qC e14) ∧ (zR e16 (-1) 240)) := by
  refine z_start (by decide +kernel) (Nat.le_of_ble_eq_true rfl) ?_
  intro p e s m below meth c A Z hr hnm hA hP hD hS ls hl
  have Z : zC p s m _ meth c prog_4_method_5_code 5 "TraceMachines$Machine" G := Z
  obtain ⟨hx, hb, hml, hown, hts, hK, hN, hlocks⟩ := id Z
  have hl : lv_has ls 5 [(0, .ref b0), (1, .ref b1), (2, .ref b2), (3, .ref b3), (4, .int b4)] := hl
  refine lv_aload_n hx hb d_Machine_fold_0 rfl (lv_at hl 0 rfl) ?_
  refine lv_iconst (v := 1) hx hb d_Machine_fold_1 (by decide) ?_
  refine va_put (D := G.1) (ci := 5) (v := .int 1) (ty := .boolean) (C := R_Machine) (T := F_Machine) (N := 15) hx hb hts i_Machine t_Machine t_Machine_ok n_Machine hown hK hP hD hS 0 rfl rfl 0 (by decide) (hts _ q164) (fun _ h9 => h9) rfl (by decide +kernel) rfl rfl (Nat.le_of_ble_eq_true rfl) d_Machine_fold_2 (fun H locs hP hD hS => ?_)
  have hP : va_P G.1 classes [(b0, .inr (5, [.int 1, .int b6, .ref b7, .ref b8, .ref b9, .ref b10, .ref b11, .ref b12, .int b13, .ref b14, .ref b15, .ref b16, .ref b17, .ref b18, .ref b19])), (b7, .inl (G.2 0, 241, .inl b20)), (b8, .inl (G.2 0, 241, .inl b21)), (b9, .inl (G.2 0, 241, .inl b22)), (b10, .inl (G.2 0, 241, .inl b23)), (b11, .inl (G.2 0, 241, .inl b24)), (b12, .inl (G.2 1, 4, .inr (.inl b25))), (b14, .inl (G.2 0, 240, .inl b26)), (b15, .inl (G.2 0, 240, .inl b27)), (b16, .inl (G.2 0, 240, .inl b28)), (b17, .inl (G.2 0, 240, .inl b29)), (b18, .inl (G.2 0, 242, .inl b30)), (b19, .inl (G.2 0, 241, .inl b31)), (b1, .inr (2, [.int b32, .int b33, .int b34, .ref b35, .ref b36, .ref b37])), (b35, .inl (G.2 0, 20, .inl b38)), (b36, .inl (G.2 0, 240, .inl b39)), (b2, .inr (3, [.int b40, .int b41, .int b42, .ref b43, .ref b44, .ref b45, .ref b46, .ref b47, .ref b48, .ref b49, .ref b50])), (b43, .inl (G.2 0, 241, .inl b51)), (b44, .inl (G.2 0, 241, .inl b52)), (b45, .inl (G.2 0, 241, .inl b53)), (b46, .inl (G.2 0, 241, .inl b54)), (b47, .inl (G.2 0, 241, .inl b55)), (b48, .inl (G.2 0, 241, .inl b56)), (b50, .inl (G.2 0, 260, .inl b57)), (b3, .inr (4, [.ref b58, .ref b59, .ref b60])), (b58, .inl (G.2 0, 241, .inl b61)), (b59, .inl (G.2 0, 4820, .inl b62)), (b60, .inl (G.2 0, 512, .inl b63))] H := hP
  have hD := z_tie hP hD rfl
  refine lv_aload_n hx hb d_Machine_fold_5 rfl (lv_at hl 3 rfl) ?_
  refine lv_aload_n hx hb d_Machine_fold_6 rfl (lv_at hl 1 rfl) ?_
  refine lv_aload_n hx hb d_Machine_fold_7 rfl (lv_at hl 2 rfl) ?_
  refine lv_iload hx hb d_Machine_fold_8 (lv_at hl 4 rfl) ?_
  refine z_callV (index := 55) (As := [.ref b1, .ref b2, .int b4]) (rest := []) (wr := [(b0, .inr (5, [.int 1, .int b6, .ref b7, .ref b8, .ref b9, .ref b10, .ref b11, .ref b12, .int b13, .ref b14, .ref b15, .ref b16, .ref b17, .ref b18, .ref b19])), (b7, .inl (G.2 0, 241, .inl b20)), (b8, .inl (G.2 0, 241, .inl b21)), (b9, .inl (G.2 0, 241, .inl b22)), (b10, .inl (G.2 0, 241, .inl b23)), (b11, .inl (G.2 0, 241, .inl b24)), (b12, .inl (G.2 1, 4, .inr (.inl b25))), (b14, .inl (G.2 0, 240, .inl b26)), (b15, .inl (G.2 0, 240, .inl b27)), (b16, .inl (G.2 0, 240, .inl b28)), (b17, .inl (G.2 0, 240, .inl b29)), (b18, .inl (G.2 0, 242, .inl b30)), (b19, .inl (G.2 0, 241, .inl b31)), (b43, .inl (G.2 0, 241, .inl b51)), (b44, .inl (G.2 0, 241, .inl b52)), (b45, .inl (G.2 0, 241, .inl b53)), (b46, .inl (G.2 0, 241, .inl b54)), (b47, .inl (G.2 0, 241, .inl b55)), (b48, .inl (G.2 0, 241, .inl b56))]) Z (s1_Follows_gather l G (b3) (b1) (b2) (b4) (b58) (b59) (b60) (b61) (b62) (b63) (b32) (b33) (b34) (b35) (b36) (b37) (b38) (b39) (b40) (b41) (b42) (b43) (b44) (b45) (b46) (b47) (b48) (b49) (b50) (b57) hb4 hb32 hb33 hb34 hb40 hb42 hb61 hb63 hb38 hb39 hb57 htr) hl.1 q601 q602 q603 q5 q604 ⟨by decide, by decide, by show _ = some 3; decide +kernel⟩ ⟨Nat.le_of_ble_eq_true rfl, Nat.le_of_ble_eq_true rfl⟩ ⟨Nat.le_of_ble_eq_true rfl, Nat.le_of_ble_eq_true rfl⟩ rfl (Nat.le_of_ble_eq_true rfl) d_Machine_fold_10 hP hD hS hA 24 4 rfl rfl rfl [24, 25, 26, 27, 13, 14, 15, 16, 23] [0, 1, 2, 3, 4, 5, 6, 7, 8, 9, 10, 11, 12, 17, 18, 19, 20, 21, 22] rfl rfl rfl rfl (by decide) (fun v w1 H locs hw_1 hP hD hS => ?_)
  obtain ⟨f_2, f_3, f_4, rfl, rfl, hf_2, hf_4⟩ := hw_1
  have hP : va_P G.1 classes [(b0, .inr (5, [.int 1, .int b6, .ref b7, .ref b8, .ref b9, .ref b10, .ref b11, .ref b12, .int b13, .ref b14, .ref b15, .ref b16, .ref b17, .ref b18, .ref b19])), (b7, .inl (G.2 0, 241, .inl b20)), (b8, .inl (G.2 0, 241, .inl b21)), (b9, .inl (G.2 0, 241, .inl b22)), (b10, .inl (G.2 0, 241, .inl b23)), (b11, .inl (G.2 0, 241, .inl b24)), (b12, .inl (G.2 1, 4, .inr (.inl b25))), (b14, .inl (G.2 0, 240, .inl b26)), (b15, .inl (G.2 0, 240, .inl b27)), (b16, .inl (G.2 0, 240, .inl b28)), (b17, .inl (G.2 0, 240, .inl b29)), (b18, .inl (G.2 0, 242, .inl b30)), (b19, .inl (G.2 0, 241, .inl b31)), (b43, .inl (G.2 0, 241, .inl b51)), (b44, .inl (G.2 0, 241, .inl b52)), (b45, .inl (G.2 0, 241, .inl b53)), (b46, .inl (G.2 0, 241, .inl b54)), (b47, .inl (G.2 0, 241, .inl b55)), (b48, .inl (G.2 0, 241, .inl b56)), (b3, .inr (4, [.ref b58, .ref b59, .ref b60])), (b58, .inl (G.2 0, 241, .inl f_2)), (b59, .inl (G.2 0, 4820, .inl f_3)), (b60, .inl (G.2 0, 512, .inl f_4)), (b1, .inr (2, [.int b32, .int b33, .int b34, .ref b35, .ref b36, .ref b37])), (b35, .inl (G.2 0, 20, .inl b38)), (b36, .inl (G.2 0, 240, .inl b39)), (b2, .inr (3, [.int b40, .int b41, .int b42, .ref b43, .ref b44, .ref b45, .ref b46, .ref b47, .ref b48, .ref b49, .ref b50])), (b50, .inl (G.2 0, 260, .inl b57))] H := hP
  have hD := z_tie hP hD rfl
  refine W.widen (k := 0) (n := 0) (Nat.le_of_ble_eq_true rfl) (Nat.le_of_ble_eq_true rfl) ?_
  refine lv_aload_n hx hb d_Machine_fold_13 rfl (lv_at hl 0 rfl) ?_
  refine lv_aload_n hx hb d_Machine_fold_14 rfl (lv_at hl 2 rfl) ?_
  refine lv_aload_n hx hb d_Machine_fold_15 rfl (lv_at hl 3 rfl) ?_
  refine z_callV (index := 61) (As := [.ref b2, .ref b3]) (rest := []) (wr := [(b14, .inl (G.2 0, 240, .inl b26)), (b15, .inl (G.2 0, 240, .inl b27)), (b16, .inl (G.2 0, 240, .inl b28)), (b17, .inl (G.2 0, 240, .inl b29)), (b18, .inl (G.2 0, 242, .inl b30)), (b19, .inl (G.2 0, 241, .inl b31)), (b43, .inl (G.2 0, 241, .inl b51)), (b44, .inl (G.2 0, 241, .inl b52)), (b45, .inl (G.2 0, 241, .inl b53)), (b47, .inl (G.2 0, 241, .inl b55)), (b48, .inl (G.2 0, 241, .inl b56)), (b1, .inr (2, [.int b32, .int b33, .int b34, .ref b35, .ref b36, .ref b37])), (b35, .inl (G.2 0, 20, .inl b38)), (b36, .inl (G.2 0, 240, .inl b39)), (b50, .inl (G.2 0, 260, .inl b57))]) Z (s2_Machine_foldStates l G (b0) (b2) (b3) (1) (b6) (b7) (b8) (b9) (b10) (b11) (b12) (b13) (b14) (b15) (b16) (b17) (b18) (b19) (b20) (b21) (b22) (b23) (b24) (b25) (b40) (b41) (b42) (b43) (b44) (b45) (b46) (b47) (b48) (b49) (b50) (b54) (b58) (b59) (b60) (f_2) (f_3) (f_4) (zI.wk (l' := 0) (h' := 1) zc_1 (by decide)) hb6 hb13 hb40 hb42 hb20 hb21 hf_2 hf_4) hl.1 q618 q620 qs7 q6 q621 ⟨by decide, by decide, by show _ = some 2; decide +kernel⟩ ⟨Nat.le_of_ble_eq_true rfl, Nat.le_of_ble_eq_true rfl⟩ ⟨Nat.le_of_ble_eq_true rfl, Nat.le_of_ble_eq_true rfl⟩ rfl (Nat.le_of_ble_eq_true rfl) d_Machine_fold_16 hP hD hS hA 0 5 rfl rfl rfl [0, 1, 2, 3, 4, 5, 6, 26, 16, 19, 20, 21, 22] [7, 8, 9, 10, 11, 12, 13, 14, 15, 17, 18, 23, 24, 25, 27] rfl rfl rfl rfl (by decide) (fun v w1 H locs hw_5 hP hD hS => ?_)
  obtain ⟨x_6, f_7, f_8, f_9, f_10, f_11, f_12, f_13, rfl, rfl, hx_6, hf_7, hf_8, hf_13⟩ := hw_5
  have hP : va_P G.1 classes [(b14, .inl (G.2 0, 240, .inl b26)), (b15, .inl (G.2 0, 240, .inl b27)), (b16, .inl (G.2 0, 240, .inl b28)), (b17, .inl (G.2 0, 240, .inl b29)), (b18, .inl (G.2 0, 242, .inl b30)), (b19, .inl (G.2 0, 241, .inl b31)), (b43, .inl (G.2 0, 241, .inl b51)), (b44, .inl (G.2 0, 241, .inl b52)), (b45, .inl (G.2 0, 241, .inl b53)), (b47, .inl (G.2 0, 241, .inl b55)), (b48, .inl (G.2 0, 241, .inl b56)), (b1, .inr (2, [.int b32, .int b33, .int b34, .ref b35, .ref b36, .ref b37])), (b35, .inl (G.2 0, 20, .inl b38)), (b36, .inl (G.2 0, 240, .inl b39)), (b50, .inl (G.2 0, 260, .inl b57)), (b0, .inr (5, [.int 1, .int x_6, .ref b7, .ref b8, .ref b9, .ref b10, .ref b11, .ref b12, .int b13, .ref b14, .ref b15, .ref b16, .ref b17, .ref b18, .ref b19])), (b7, .inl (G.2 0, 241, .inl f_7)), (b8, .inl (G.2 0, 241, .inl f_8)), (b9, .inl (G.2 0, 241, .inl f_9)), (b10, .inl (G.2 0, 241, .inl f_10)), (b11, .inl (G.2 0, 241, .inl f_11)), (b12, .inl (G.2 1, 4, .inr (.inl f_12))), (b2, .inr (3, [.int b40, .int b41, .int b42, .ref b43, .ref b44, .ref b45, .ref b46, .ref b47, .ref b48, .ref b49, .ref b50])), (b46, .inl (G.2 0, 241, .inl b54)), (b3, .inr (4, [.ref b58, .ref b59, .ref b60])), (b58, .inl (G.2 0, 241, .inl f_2)), (b59, .inl (G.2 0, 4820, .inl f_3)), (b60, .inl (G.2 0, 512, .inl f_13))] H := hP
  have hD := z_tie hP hD rfl
  refine W.widen (k := 0) (n := 0) (Nat.le_of_ble_eq_true rfl) (Nat.le_of_ble_eq_true rfl) ?_
  refine lv_aload_n hx hb d_Machine_fold_19 rfl (lv_at hl 0 rfl) ?_
  refine lv_aload_n hx hb d_Machine_fold_20 rfl (lv_at hl 2 rfl) ?_
  refine z_callV (index := 65) (As := [.ref b2]) (rest := []) (wr := [(b18, .inl (G.2 0, 242, .inl b30)), (b19, .inl (G.2 0, 241, .inl b31)), (b45, .inl (G.2 0, 241, .inl b53)), (b47, .inl (G.2 0, 241, .inl b55)), (b48, .inl (G.2 0, 241, .inl b56)), (b1, .inr (2, [.int b32, .int b33, .int b34, .ref b35, .ref b36, .ref b37])), (b35, .inl (G.2 0, 20, .inl b38)), (b36, .inl (G.2 0, 240, .inl b39)), (b50, .inl (G.2 0, 260, .inl b57)), (b8, .inl (G.2 0, 241, .inl f_8)), (b9, .inl (G.2 0, 241, .inl f_9)), (b10, .inl (G.2 0, 241, .inl f_10)), (b11, .inl (G.2 0, 241, .inl f_11)), (b12, .inl (G.2 1, 4, .inr (.inl f_12))), (b46, .inl (G.2 0, 241, .inl b54)), (b3, .inr (4, [.ref b58, .ref b59, .ref b60])), (b58, .inl (G.2 0, 241, .inl f_2)), (b59, .inl (G.2 0, 4820, .inl f_3)), (b60, .inl (G.2 0, 512, .inl f_13))]) Z (s2_Machine_gatherKeys l G (b0) (b2) (1) (x_6) (b7) (b8) (b9) (b10) (b11) (b12) (b13) (b14) (b15) (b16) (b17) (b18) (b19) (f_7) (b26) (b27) (b28) (b29) (b40) (b41) (b42) (b43) (b44) (b45) (b46) (b47) (b48) (b49) (b50) (b51) (b52) (zI.wk (l' := 0) (h' := 1) zc_1 (by decide)) hx_6 hb13 hb40 hb42 hf_7 hb26 hb51 hb52) hl.1 q637 q639 qs10 q6 q640 ⟨by decide, by decide, by show _ = some 1; decide +kernel⟩ ⟨Nat.le_of_ble_eq_true rfl, Nat.le_of_ble_eq_true rfl⟩ ⟨Nat.le_of_ble_eq_true rfl, Nat.le_of_ble_eq_true rfl⟩ rfl (Nat.le_of_ble_eq_true rfl) d_Machine_fold_21 hP hD hS hA 15 5 rfl rfl rfl [15, 16, 0, 1, 2, 3, 22, 6, 7] [4, 5, 8, 9, 10, 11, 12, 13, 14, 17, 18, 19, 20, 21, 23, 24, 25, 26, 27] rfl rfl rfl rfl (by decide) (fun v w1 H locs hw_14 hP hD hS => ?_)
  obtain ⟨x_15, f_16, f_17, f_18, f_19, rfl, rfl, hx_15, hf_16, hfx_20⟩ := hw_14
  have hP : va_P G.1 classes [(b18, .inl (G.2 0, 242, .inl b30)), (b19, .inl (G.2 0, 241, .inl b31)), (b45, .inl (G.2 0, 241, .inl b53)), (b47, .inl (G.2 0, 241, .inl b55)), (b48, .inl (G.2 0, 241, .inl b56)), (b1, .inr (2, [.int b32, .int b33, .int b34, .ref b35, .ref b36, .ref b37])), (b35, .inl (G.2 0, 20, .inl b38)), (b36, .inl (G.2 0, 240, .inl b39)), (b50, .inl (G.2 0, 260, .inl b57)), (b8, .inl (G.2 0, 241, .inl f_8)), (b9, .inl (G.2 0, 241, .inl f_9)), (b10, .inl (G.2 0, 241, .inl f_10)), (b11, .inl (G.2 0, 241, .inl f_11)), (b12, .inl (G.2 1, 4, .inr (.inl f_12))), (b46, .inl (G.2 0, 241, .inl b54)), (b3, .inr (4, [.ref b58, .ref b59, .ref b60])), (b58, .inl (G.2 0, 241, .inl f_2)), (b59, .inl (G.2 0, 4820, .inl f_3)), (b60, .inl (G.2 0, 512, .inl f_13)), (b0, .inr (5, [.int 1, .int x_6, .ref b7, .ref b8, .ref b9, .ref b10, .ref b11, .ref b12, .int x_15, .ref b14, .ref b15, .ref b16, .ref b17, .ref b18, .ref b19])), (b7, .inl (G.2 0, 241, .inl f_7)), (b14, .inl (G.2 0, 240, .inl f_16)), (b15, .inl (G.2 0, 240, .inl f_17)), (b16, .inl (G.2 0, 240, .inl f_18)), (b17, .inl (G.2 0, 240, .inl f_19)), (b2, .inr (3, [.int b40, .int b41, .int b42, .ref b43, .ref b44, .ref b45, .ref b46, .ref b47, .ref b48, .ref b49, .ref b50])), (b43, .inl (G.2 0, 241, .inl b51)), (b44, .inl (G.2 0, 241, .inl b52))] H := hP
  have hD := z_tie hP hD rfl
  refine W.widen (k := 0) (n := 0) (Nat.le_of_ble_eq_true rfl) (Nat.le_of_ble_eq_true rfl) ?_
  refine lv_aload_n hx hb d_Machine_fold_24 rfl (lv_at hl 0 rfl) ?_
  refine lv_aload_n hx hb d_Machine_fold_25 rfl (lv_at hl 2 rfl) ?_
  refine z_callV (index := 69) (As := [.ref b2]) (rest := []) (wr := [(b18, .inl (G.2 0, 242, .inl b30)), (b1, .inr (2, [.int b32, .int b33, .int b34, .ref b35, .ref b36, .ref b37])), (b35, .inl (G.2 0, 20, .inl b38)), (b36, .inl (G.2 0, 240, .inl b39)), (b50, .inl (G.2 0, 260, .inl b57)), (b8, .inl (G.2 0, 241, .inl f_8)), (b9, .inl (G.2 0, 241, .inl f_9)), (b10, .inl (G.2 0, 241, .inl f_10)), (b11, .inl (G.2 0, 241, .inl f_11)), (b12, .inl (G.2 1, 4, .inr (.inl f_12))), (b46, .inl (G.2 0, 241, .inl b54)), (b3, .inr (4, [.ref b58, .ref b59, .ref b60])), (b58, .inl (G.2 0, 241, .inl f_2)), (b59, .inl (G.2 0, 4820, .inl f_3)), (b60, .inl (G.2 0, 512, .inl f_13))]) Z (s2_Machine_gatherRanges l G (b0) (b2) (1) (x_6) (b7) (b8) (b9) (b10) (b11) (b12) (x_15) (b14) (b15) (b16) (b17) (b18) (b19) (f_7) (f_16) (f_17) (f_18) (f_19) (b31) (b40) (b41) (b42) (b43) (b44) (b45) (b46) (b47) (b48) (b49) (b50) (b51) (b52) (b53) (b55) (b56) (zI.wk (l' := 0) (h' := 1) zc_1 (by decide)) hx_6 hx_15 hb40 hb42 hf_7 hf_16 hb31 hb51 hb52 hfx_20) hl.1 q650 q652 qs13 q6 q653 ⟨by decide, by decide, by show _ = some 1; decide +kernel⟩ ⟨Nat.le_of_ble_eq_true rfl, Nat.le_of_ble_eq_true rfl⟩ ⟨Nat.le_of_ble_eq_true rfl, Nat.le_of_ble_eq_true rfl⟩ rfl (Nat.le_of_ble_eq_true rfl) d_Machine_fold_26 hP hD hS hA 19 5 rfl rfl rfl [19, 20, 21, 22, 23, 24, 1, 25, 26, 27, 2, 3, 4] [0, 5, 6, 7, 8, 9, 10, 11, 12, 13, 14, 15, 16, 17, 18] rfl rfl rfl rfl (by decide) (fun v w1 H locs hw_21 hP hD hS => ?_)
  obtain ⟨f_22, f_23, f_24, f_25, rfl, rfl, hf_25⟩ := hw_21
  have hP : va_P G.1 classes [(b18, .inl (G.2 0, 242, .inl b30)), (b1, .inr (2, [.int b32, .int b33, .int b34, .ref b35, .ref b36, .ref b37])), (b35, .inl (G.2 0, 20, .inl b38)), (b36, .inl (G.2 0, 240, .inl b39)), (b50, .inl (G.2 0, 260, .inl b57)), (b8, .inl (G.2 0, 241, .inl f_8)), (b9, .inl (G.2 0, 241, .inl f_9)), (b10, .inl (G.2 0, 241, .inl f_10)), (b11, .inl (G.2 0, 241, .inl f_11)), (b12, .inl (G.2 1, 4, .inr (.inl f_12))), (b46, .inl (G.2 0, 241, .inl b54)), (b3, .inr (4, [.ref b58, .ref b59, .ref b60])), (b58, .inl (G.2 0, 241, .inl f_2)), (b59, .inl (G.2 0, 4820, .inl f_3)), (b60, .inl (G.2 0, 512, .inl f_13)), (b0, .inr (5, [.int 1, .int x_6, .ref b7, .ref b8, .ref b9, .ref b10, .ref b11, .ref b12, .int x_15, .ref b14, .ref b15, .ref b16, .ref b17, .ref b18, .ref b19])), (b7, .inl (G.2 0, 241, .inl f_7)), (b14, .inl (G.2 0, 240, .inl f_16)), (b15, .inl (G.2 0, 240, .inl f_22)), (b16, .inl (G.2 0, 240, .inl f_23)), (b17, .inl (G.2 0, 240, .inl f_24)), (b19, .inl (G.2 0, 241, .inl f_25)), (b2, .inr (3, [.int b40, .int b41, .int b42, .ref b43, .ref b44, .ref b45, .ref b46, .ref b47, .ref b48, .ref b49, .ref b50])), (b43, .inl (G.2 0, 241, .inl b51)), (b44, .inl (G.2 0, 241, .inl b52)), (b45, .inl (G.2 0, 241, .inl b53)), (b47, .inl (G.2 0, 241, .inl b55)), (b48, .inl (G.2 0, 241, .inl b56))] H := hP
  have hD := z_tie hP hD rfl
  refine W.widen (k := 0) (n := 0) (Nat.le_of_ble_eq_true rfl) (Nat.le_of_ble_eq_true rfl) ?_
  refine lv_aload_n hx hb d_Machine_fold_29 rfl (lv_at hl 0 rfl) ?_
  refine z_callV (index := 72) (As := []) (rest := []) (wr := [(b1, .inr (2, [.int b32, .int b33, .int b34, .ref b35, .ref b36, .ref b37])), (b35, .inl (G.2 0, 20, .inl b38)), (b36, .inl (G.2 0, 240, .inl b39)), (b50, .inl (G.2 0, 260, .inl b57)), (b8, .inl (G.2 0, 241, .inl f_8)), (b9, .inl (G.2 0, 241, .inl f_9)), (b10, .inl (G.2 0, 241, .inl f_10)), (b11, .inl (G.2 0, 241, .inl f_11)), (b12, .inl (G.2 1, 4, .inr (.inl f_12))), (b46, .inl (G.2 0, 241, .inl b54)), (b3, .inr (4, [.ref b58, .ref b59, .ref b60])), (b58, .inl (G.2 0, 241, .inl f_2)), (b59, .inl (G.2 0, 4820, .inl f_3)), (b60, .inl (G.2 0, 512, .inl f_13)), (b7, .inl (G.2 0, 241, .inl f_7)), (b15, .inl (G.2 0, 240, .inl f_22)), (b16, .inl (G.2 0, 240, .inl f_23)), (b17, .inl (G.2 0, 240, .inl f_24)), (b19, .inl (G.2 0, 241, .inl f_25)), (b2, .inr (3, [.int b40, .int b41, .int b42, .ref b43, .ref b44, .ref b45, .ref b46, .ref b47, .ref b48, .ref b49, .ref b50])), (b43, .inl (G.2 0, 241, .inl b51)), (b44, .inl (G.2 0, 241, .inl b52)), (b45, .inl (G.2 0, 241, .inl b53)), (b47, .inl (G.2 0, 241, .inl b55)), (b48, .inl (G.2 0, 241, .inl b56))]) Z (s1_Machine_gatherFirsts l G (b0) (1) (x_6) (b7) (b8) (b9) (b10) (b11) (b12) (x_15) (b14) (b15) (b16) (b17) (b18) (b19) (f_16) (b30) (zI.wk (l' := 0) (h' := 1) zc_1 (by decide)) hx_6 hx_15 hf_16 hb30) hl.1 q656 q658 qs14 q6 q659 ⟨by decide, by decide, by show _ = some 0; decide +kernel⟩ ⟨Nat.le_of_ble_eq_true rfl, Nat.le_of_ble_eq_true rfl⟩ ⟨Nat.le_of_ble_eq_true rfl, Nat.le_of_ble_eq_true rfl⟩ rfl (Nat.le_of_ble_eq_true rfl) d_Machine_fold_30 hP hD hS hA 15 5 rfl rfl rfl [15, 17, 0] [1, 2, 3, 4, 5, 6, 7, 8, 9, 10, 11, 12, 13, 14, 16, 18, 19, 20, 21, 22, 23, 24, 25, 26, 27] rfl rfl rfl rfl (by decide) (fun v w1 H locs hw_26 hP hD hS => ?_)
  obtain ⟨f_27, rfl, rfl, hf_27⟩ := hw_26
  have hP : va_P G.1 classes [(b1, .inr (2, [.int b32, .int b33, .int b34, .ref b35, .ref b36, .ref b37])), (b35, .inl (G.2 0, 20, .inl b38)), (b36, .inl (G.2 0, 240, .inl b39)), (b50, .inl (G.2 0, 260, .inl b57)), (b8, .inl (G.2 0, 241, .inl f_8)), (b9, .inl (G.2 0, 241, .inl f_9)), (b10, .inl (G.2 0, 241, .inl f_10)), (b11, .inl (G.2 0, 241, .inl f_11)), (b12, .inl (G.2 1, 4, .inr (.inl f_12))), (b46, .inl (G.2 0, 241, .inl b54)), (b3, .inr (4, [.ref b58, .ref b59, .ref b60])), (b58, .inl (G.2 0, 241, .inl f_2)), (b59, .inl (G.2 0, 4820, .inl f_3)), (b60, .inl (G.2 0, 512, .inl f_13)), (b7, .inl (G.2 0, 241, .inl f_7)), (b15, .inl (G.2 0, 240, .inl f_22)), (b16, .inl (G.2 0, 240, .inl f_23)), (b17, .inl (G.2 0, 240, .inl f_24)), (b19, .inl (G.2 0, 241, .inl f_25)), (b2, .inr (3, [.int b40, .int b41, .int b42, .ref b43, .ref b44, .ref b45, .ref b46, .ref b47, .ref b48, .ref b49, .ref b50])), (b43, .inl (G.2 0, 241, .inl b51)), (b44, .inl (G.2 0, 241, .inl b52)), (b45, .inl (G.2 0, 241, .inl b53)), (b47, .inl (G.2 0, 241, .inl b55)), (b48, .inl (G.2 0, 241, .inl b56)), (b0, .inr (5, [.int 1, .int x_6, .ref b7, .ref b8, .ref b9, .ref b10, .ref b11, .ref b12, .int x_15, .ref b14, .ref b15, .ref b16, .ref b17, .ref b18, .ref b19])), (b14, .inl (G.2 0, 240, .inl f_16)), (b18, .inl (G.2 0, 242, .inl f_27))] H := hP
  have hD := z_tie hP hD rfl
  refine W.widen (k := 0) (n := 0) (Nat.le_of_ble_eq_true rfl) (Nat.le_of_ble_eq_true rfl) ?_
  exact z_vret hx hb hr hlocks (hP.sub [25, 14, 4, 5, 6, 7, 8, 26, 15, 16, 17, 27, 18, 0, 1, 2, 19, 20, 21, 22, 9, 23, 24, 3, 10, 11, 12, 13] rfl) (hD.sub [25, 14, 4, 5, 6, 7, 8, 26, 15, 16, 17, 27, 18, 0, 1, 2, 19, 20, 21, 22, 9, 23, 24, 3, 10, 11, 12, 13] (by decide) rfl) hS (Nat.le_of_ble_eq_true rfl) (Nat.le_of_ble_eq_true rfl) d_Machine_fold_33 ⟨x_6, x_15, f_7, f_8, f_9, f_10, f_11, f_12, f_16, f_22, f_23, f_24, f_27, f_25, f_2, f_3, f_13, rfl, rfl, hx_6, hx_15, hf_7, hf_8, hf_16, hf_27, hf_25, hf_2, hf_13⟩
