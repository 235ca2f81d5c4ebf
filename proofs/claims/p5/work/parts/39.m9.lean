theorem d_Model_words_0 : decode prog_14_method_63_code 0 = .ok (.aload_n 0, 1) := by decide +kernel
theorem d_Model_words_1 : decode prog_14_method_63_code 1 = .ok (.iconst 0, 1) := by decide +kernel
theorem d_Model_words_2 : decode prog_14_method_63_code 2 = .ok (.putfield 1, 3) := by decide +kernel
theorem d_Model_words_5 : decode prog_14_method_63_code 5 = .ok (.iload_n 1, 1) := by decide +kernel
theorem d_Model_words_6 : decode prog_14_method_63_code 6 = .ok (.i2l, 1) := by decide +kernel
theorem d_Model_words_7 : decode prog_14_method_63_code 7 = .ok (.lconst 0, 1) := by decide +kernel
theorem d_Model_words_8 : decode prog_14_method_63_code 8 = .ok (.ldc2_w 333, 3) := by decide +kernel
theorem d_Model_words_11 : decode prog_14_method_63_code 11 = .ok (.invokestatic 138, 3) := by decide +kernel
theorem d_Model_words_14 : decode prog_14_method_63_code 14 = .ok (.ifCond .ne 5, 3) := by decide +kernel
theorem d_Model_words_17 : decode prog_14_method_63_code 17 = .ok (.iconst (-1), 1) := by decide +kernel
theorem d_Model_words_18 : decode prog_14_method_63_code 18 = .ok (.ireturn, 1) := by decide +kernel
theorem d_Model_words_19 : decode prog_14_method_63_code 19 = .ok (.aload_n 0, 1) := by decide +kernel
theorem d_Model_words_20 : decode prog_14_method_63_code 20 = .ok (.invokevirtual 254, 3) := by decide +kernel
theorem d_Model_words_23 : decode prog_14_method_63_code 23 = .ok (.aload_n 0, 1) := by decide +kernel
theorem d_Model_words_24 : decode prog_14_method_63_code 24 = .ok (.iconst 0, 1) := by decide +kernel
theorem d_Model_words_25 : decode prog_14_method_63_code 25 = .ok (.invokevirtual 275, 3) := by decide +kernel
theorem d_Model_words_28 : decode prog_14_method_63_code 28 = .ok (.aload_n 0, 1) := by decide +kernel
theorem d_Model_words_29 : decode prog_14_method_63_code 29 = .ok (.aload_n 0, 1) := by decide +kernel
theorem d_Model_words_30 : decode prog_14_method_63_code 30 = .ok (.getfield 76, 3) := by decide +kernel
theorem d_Model_words_33 : decode prog_14_method_63_code 33 = .ok (.iconst 0, 1) := by decide +kernel
theorem d_Model_words_34 : decode prog_14_method_63_code 34 = .ok (.invokestatic 278, 3) := by decide +kernel
theorem d_Model_words_37 : decode prog_14_method_63_code 37 = .ok (.ifCond .eq 7, 3) := by decide +kernel
theorem d_Model_words_40 : decode prog_14_method_63_code 40 = .ok (.iconst 0, 1) := by decide +kernel
theorem d_Model_words_41 : decode prog_14_method_63_code 41 = .ok (.goto 4, 3) := by decide +kernel
theorem d_Model_words_44 : decode prog_14_method_63_code 44 = .ok (.iconst 1, 1) := by decide +kernel
theorem d_Model_words_45 : decode prog_14_method_63_code 45 = .ok (.putfield 327, 3) := by decide +kernel
theorem d_Model_words_48 : decode prog_14_method_63_code 48 = .ok (.aload_n 0, 1) := by decide +kernel
theorem d_Model_words_49 : decode prog_14_method_63_code 49 = .ok (.getfield 101, 3) := by decide +kernel
theorem d_Model_words_52 : decode prog_14_method_63_code 52 = .ok (.iconst 0, 1) := by decide +kernel
theorem d_Model_words_53 : decode prog_14_method_63_code 53 = .ok (.iconst 1, 1) := by decide +kernel
theorem d_Model_words_54 : decode prog_14_method_63_code 54 = .ok (.iastore, 1) := by decide +kernel
theorem d_Model_words_55 : decode prog_14_method_63_code 55 = .ok (.iconst 0, 1) := by decide +kernel
theorem d_Model_words_56 : decode prog_14_method_63_code 56 = .ok (.istore_n 2, 1) := by decide +kernel
theorem d_Model_words_57 : decode prog_14_method_63_code 57 = .ok (.iload_n 2, 1) := by decide +kernel
theorem d_Model_words_58 : decode prog_14_method_63_code 58 = .ok (.iconst 4, 1) := by decide +kernel
theorem d_Model_words_59 : decode prog_14_method_63_code 59 = .ok (.if_icmp .ge 21, 3) := by decide +kernel
theorem d_Model_words_62 : decode prog_14_method_63_code 62 = .ok (.aload_n 0, 1) := by decide +kernel
theorem d_Model_words_63 : decode prog_14_method_63_code 63 = .ok (.getfield 98, 3) := by decide +kernel
theorem d_Model_words_66 : decode prog_14_method_63_code 66 = .ok (.iload_n 2, 1) := by decide +kernel
theorem d_Model_words_67 : decode prog_14_method_63_code 67 = .ok (.aload_n 0, 1) := by decide +kernel
theorem d_Model_words_68 : decode prog_14_method_63_code 68 = .ok (.getfield 76, 3) := by decide +kernel
theorem d_Model_words_71 : decode prog_14_method_63_code 71 = .ok (.iload_n 2, 1) := by decide +kernel
theorem d_Model_words_72 : decode prog_14_method_63_code 72 = .ok (.laload, 1) := by decide +kernel
theorem d_Model_words_73 : decode prog_14_method_63_code 73 = .ok (.lastore, 1) := by decide +kernel
theorem d_Model_words_74 : decode prog_14_method_63_code 74 = .ok (.iinc 2 1, 3) := by decide +kernel
theorem d_Model_words_77 : decode prog_14_method_63_code 77 = .ok (.goto (-20), 3) := by decide +kernel
theorem d_Model_words_80 : decode prog_14_method_63_code 80 = .ok (.iconst 0, 1) := by decide +kernel
theorem d_Model_words_81 : decode prog_14_method_63_code 81 = .ok (.istore_n 2, 1) := by decide +kernel
theorem d_Model_words_82 : decode prog_14_method_63_code 82 = .ok (.iload_n 2, 1) := by decide +kernel
theorem d_Model_words_83 : decode prog_14_method_63_code 83 = .ok (.iload_n 1, 1) := by decide +kernel
theorem d_Model_words_84 : decode prog_14_method_63_code 84 = .ok (.if_icmp .ge 25, 3) := by decide +kernel
theorem d_Model_words_87 : decode prog_14_method_63_code 87 = .ok (.aload_n 0, 1) := by decide +kernel
theorem d_Model_words_88 : decode prog_14_method_63_code 88 = .ok (.getfield 327, 3) := by decide +kernel
theorem d_Model_words_91 : decode prog_14_method_63_code 91 = .ok (.bipush 100, 2) := by decide +kernel
theorem d_Model_words_93 : decode prog_14_method_63_code 93 = .ok (.if_icmp .le 6, 3) := by decide +kernel
theorem d_Model_words_96 : decode prog_14_method_63_code 96 = .ok (.bipush (-2), 2) := by decide +kernel
theorem d_Model_words_99 : decode prog_14_method_63_code 99 = .ok (.aload_n 0, 1) := by decide +kernel
theorem d_Model_words_100 : decode prog_14_method_63_code 100 = .ok (.invokevirtual 335, 3) := by decide +kernel
theorem d_Model_words_103 : decode prog_14_method_63_code 103 = .ok (.iinc 2 1, 3) := by decide +kernel
theorem d_Model_words_106 : decode prog_14_method_63_code 106 = .ok (.goto (-24), 3) := by decide +kernel
theorem d_Model_words_109 : decode prog_14_method_63_code 109 = .ok (.iconst 0, 1) := by decide +kernel
theorem d_Model_words_110 : decode prog_14_method_63_code 110 = .ok (.istore_n 2, 1) := by decide +kernel
theorem d_Model_words_111 : decode prog_14_method_63_code 111 = .ok (.iconst 0, 1) := by decide +kernel
theorem d_Model_words_112 : decode prog_14_method_63_code 112 = .ok (.istore_n 3, 1) := by decide +kernel
theorem d_Model_words_113 : decode prog_14_method_63_code 113 = .ok (.iload_n 3, 1) := by decide +kernel
theorem d_Model_words_114 : decode prog_14_method_63_code 114 = .ok (.aload_n 0, 1) := by decide +kernel
theorem d_Model_words_115 : decode prog_14_method_63_code 115 = .ok (.getfield 327, 3) := by decide +kernel
theorem d_Model_words_118 : decode prog_14_method_63_code 118 = .ok (.if_icmp .ge 37, 3) := by decide +kernel
theorem d_Model_words_121 : decode prog_14_method_63_code 121 = .ok (.iload_n 2, 1) := by decide +kernel
theorem d_Model_words_122 : decode prog_14_method_63_code 122 = .ok (.aload_n 0, 1) := by decide +kernel
theorem d_Model_words_123 : decode prog_14_method_63_code 123 = .ok (.iconst 0, 1) := by decide +kernel
theorem d_Model_words_124 : decode prog_14_method_63_code 124 = .ok (.aload_n 0, 1) := by decide +kernel
theorem d_Model_words_125 : decode prog_14_method_63_code 125 = .ok (.getfield 98, 3) := by decide +kernel
theorem d_Model_words_128 : decode prog_14_method_63_code 128 = .ok (.iconst 4, 1) := by decide +kernel
theorem d_Model_words_129 : decode prog_14_method_63_code 129 = .ok (.iload_n 3, 1) := by decide +kernel
theorem d_Model_words_130 : decode prog_14_method_63_code 130 = .ok (.imul, 1) := by decide +kernel
theorem d_Model_words_131 : decode prog_14_method_63_code 131 = .ok (.invokevirtual 286, 3) := by decide +kernel
theorem d_Model_words_134 : decode prog_14_method_63_code 134 = .ok (.ifCond .eq 12, 3) := by decide +kernel
theorem d_Model_words_137 : decode prog_14_method_63_code 137 = .ok (.aload_n 0, 1) := by decide +kernel
theorem d_Model_words_138 : decode prog_14_method_63_code 138 = .ok (.getfield 101, 3) := by decide +kernel
theorem d_Model_words_141 : decode prog_14_method_63_code 141 = .ok (.iload_n 3, 1) := by decide +kernel
theorem d_Model_words_142 : decode prog_14_method_63_code 142 = .ok (.iaload, 1) := by decide +kernel
theorem d_Model_words_143 : decode prog_14_method_63_code 143 = .ok (.goto 4, 3) := by decide +kernel
theorem d_Model_words_146 : decode prog_14_method_63_code 146 = .ok (.iconst 0, 1) := by decide +kernel
theorem d_Model_words_147 : decode prog_14_method_63_code 147 = .ok (.iadd, 1) := by decide +kernel
theorem d_Model_words_148 : decode prog_14_method_63_code 148 = .ok (.istore_n 2, 1) := by decide +kernel
theorem d_Model_words_149 : decode prog_14_method_63_code 149 = .ok (.iinc 3 1, 3) := by decide +kernel
theorem d_Model_words_152 : decode prog_14_method_63_code 152 = .ok (.goto (-39), 3) := by decide +kernel
theorem d_Model_words_155 : decode prog_14_method_63_code 155 = .ok (.iload_n 2, 1) := by decide +kernel
theorem d_Model_words_156 : decode prog_14_method_63_code 156 = .ok (.ireturn, 1) := by decide +kernel
theorem d_Model_nextLevel_0 : decode prog_14_method_62_code 0 = .ok (.aload_n 0, 1) := by decide +kernel
theorem d_Model_nextLevel_1 : decode prog_14_method_62_code 1 = .ok (.iconst 0, 1) := by decide +kernel
theorem d_Model_nextLevel_2 : decode prog_14_method_62_code 2 = .ok (.putfield 320, 3) := by decide +kernel
theorem d_Model_nextLevel_5 : decode prog_14_method_62_code 5 = .ok (.iconst 0, 1) := by decide +kernel
theorem d_Model_nextLevel_6 : decode prog_14_method_62_code 6 = .ok (.istore_n 1, 1) := by decide +kernel
theorem d_Model_nextLevel_7 : decode prog_14_method_62_code 7 = .ok (.iload_n 1, 1) := by decide +kernel
theorem d_Model_nextLevel_8 : decode prog_14_method_62_code 8 = .ok (.aload_n 0, 1) := by decide +kernel
theorem d_Model_nextLevel_9 : decode prog_14_method_62_code 9 = .ok (.getfield 327, 3) := by decide +kernel
theorem d_Model_nextLevel_12 : decode prog_14_method_62_code 12 = .ok (.if_icmp .ge 59, 3) := by decide +kernel
theorem d_Model_nextLevel_15 : decode prog_14_method_62_code 15 = .ok (.iconst 0, 1) := by decide +kernel
theorem d_Model_nextLevel_16 : decode prog_14_method_62_code 16 = .ok (.istore_n 2, 1) := by decide +kernel
theorem d_Model_nextLevel_17 : decode prog_14_method_62_code 17 = .ok (.iload_n 2, 1) := by decide +kernel
theorem d_Model_nextLevel_18 : decode prog_14_method_62_code 18 = .ok (.bipush 10, 2) := by decide +kernel
theorem d_Model_nextLevel_20 : decode prog_14_method_62_code 20 = .ok (.if_icmp .ge 45, 3) := by decide +kernel
theorem d_Model_nextLevel_23 : decode prog_14_method_62_code 23 = .ok (.aload_n 0, 1) := by decide +kernel
theorem d_Model_nextLevel_24 : decode prog_14_method_62_code 24 = .ok (.iconst 0, 1) := by decide +kernel
theorem d_Model_nextLevel_25 : decode prog_14_method_62_code 25 = .ok (.aload_n 0, 1) := by decide +kernel
theorem d_Model_nextLevel_26 : decode prog_14_method_62_code 26 = .ok (.getfield 98, 3) := by decide +kernel
theorem d_Model_nextLevel_29 : decode prog_14_method_62_code 29 = .ok (.iconst 4, 1) := by decide +kernel
theorem d_Model_nextLevel_30 : decode prog_14_method_62_code 30 = .ok (.iload_n 1, 1) := by decide +kernel
theorem d_Model_nextLevel_31 : decode prog_14_method_62_code 31 = .ok (.imul, 1) := by decide +kernel
theorem d_Model_nextLevel_32 : decode prog_14_method_62_code 32 = .ok (.iload_n 2, 1) := by decide +kernel
theorem d_Model_nextLevel_33 : decode prog_14_method_62_code 33 = .ok (.iconst 0, 1) := by decide +kernel
theorem d_Model_nextLevel_34 : decode prog_14_method_62_code 34 = .ok (.iconst 0, 1) := by decide +kernel
theorem d_Model_nextLevel_35 : decode prog_14_method_62_code 35 = .ok (.invokevirtual 282, 3) := by decide +kernel
theorem d_Model_nextLevel_38 : decode prog_14_method_62_code 38 = .ok (.aload_n 0, 1) := by decide +kernel
theorem d_Model_nextLevel_39 : decode prog_14_method_62_code 39 = .ok (.getfield 80, 3) := by decide +kernel
theorem d_Model_nextLevel_42 : decode prog_14_method_62_code 42 = .ok (.iconst 0, 1) := by decide +kernel
theorem d_Model_nextLevel_43 : decode prog_14_method_62_code 43 = .ok (.invokestatic 278, 3) := by decide +kernel
theorem d_Model_nextLevel_46 : decode prog_14_method_62_code 46 = .ok (.ifCond .ne 13, 3) := by decide +kernel
theorem d_Model_nextLevel_49 : decode prog_14_method_62_code 49 = .ok (.aload_n 0, 1) := by decide +kernel
theorem d_Model_nextLevel_50 : decode prog_14_method_62_code 50 = .ok (.aload_n 0, 1) := by decide +kernel
theorem d_Model_nextLevel_51 : decode prog_14_method_62_code 51 = .ok (.getfield 101, 3) := by decide +kernel
theorem d_Model_nextLevel_54 : decode prog_14_method_62_code 54 = .ok (.iload_n 1, 1) := by decide +kernel
theorem d_Model_nextLevel_55 : decode prog_14_method_62_code 55 = .ok (.iaload, 1) := by decide +kernel
theorem d_Model_nextLevel_56 : decode prog_14_method_62_code 56 = .ok (.invokevirtual 330, 3) := by decide +kernel
theorem d_Model_nextLevel_59 : decode prog_14_method_62_code 59 = .ok (.iinc 2 1, 3) := by decide +kernel
theorem d_Model_nextLevel_62 : decode prog_14_method_62_code 62 = .ok (.goto (-45), 3) := by decide +kernel
theorem d_Model_nextLevel_65 : decode prog_14_method_62_code 65 = .ok (.iinc 1 1, 3) := by decide +kernel
theorem d_Model_nextLevel_68 : decode prog_14_method_62_code 68 = .ok (.goto (-61), 3) := by decide +kernel
theorem d_Model_nextLevel_71 : decode prog_14_method_62_code 71 = .ok (.aload_n 0, 1) := by decide +kernel
theorem d_Model_nextLevel_72 : decode prog_14_method_62_code 72 = .ok (.aload_n 0, 1) := by decide +kernel
theorem d_Model_nextLevel_73 : decode prog_14_method_62_code 73 = .ok (.getfield 320, 3) := by decide +kernel
theorem d_Model_nextLevel_76 : decode prog_14_method_62_code 76 = .ok (.putfield 327, 3) := by decide +kernel
theorem d_Model_nextLevel_79 : decode prog_14_method_62_code 79 = .ok (.iconst 0, 1) := by decide +kernel
theorem d_Model_nextLevel_80 : decode prog_14_method_62_code 80 = .ok (.istore_n 1, 1) := by decide +kernel
theorem d_Model_nextLevel_81 : decode prog_14_method_62_code 81 = .ok (.iload_n 1, 1) := by decide +kernel
theorem d_Model_nextLevel_82 : decode prog_14_method_62_code 82 = .ok (.aload_n 0, 1) := by decide +kernel
theorem d_Model_nextLevel_83 : decode prog_14_method_62_code 83 = .ok (.getfield 320, 3) := by decide +kernel
theorem d_Model_nextLevel_86 : decode prog_14_method_62_code 86 = .ok (.if_icmp .ge 54, 3) := by decide +kernel
theorem d_Model_nextLevel_89 : decode prog_14_method_62_code 89 = .ok (.aload_n 0, 1) := by decide +kernel
theorem d_Model_nextLevel_90 : decode prog_14_method_62_code 90 = .ok (.getfield 101, 3) := by decide +kernel
theorem d_Model_nextLevel_93 : decode prog_14_method_62_code 93 = .ok (.iload_n 1, 1) := by decide +kernel
theorem d_Model_nextLevel_94 : decode prog_14_method_62_code 94 = .ok (.aload_n 0, 1) := by decide +kernel
theorem d_Model_nextLevel_95 : decode prog_14_method_62_code 95 = .ok (.getfield 107, 3) := by decide +kernel
theorem d_Model_nextLevel_98 : decode prog_14_method_62_code 98 = .ok (.iload_n 1, 1) := by decide +kernel
theorem d_Model_nextLevel_99 : decode prog_14_method_62_code 99 = .ok (.iaload, 1) := by decide +kernel
theorem d_Model_nextLevel_100 : decode prog_14_method_62_code 100 = .ok (.iastore, 1) := by decide +kernel
theorem d_Model_nextLevel_101 : decode prog_14_method_62_code 101 = .ok (.iconst 0, 1) := by decide +kernel
theorem d_Model_nextLevel_102 : decode prog_14_method_62_code 102 = .ok (.istore_n 2, 1) := by decide +kernel
theorem d_Model_nextLevel_103 : decode prog_14_method_62_code 103 = .ok (.iload_n 2, 1) := by decide +kernel
theorem d_Model_nextLevel_104 : decode prog_14_method_62_code 104 = .ok (.iconst 4, 1) := by decide +kernel
theorem d_Model_nextLevel_105 : decode prog_14_method_62_code 105 = .ok (.if_icmp .ge 29, 3) := by decide +kernel
theorem d_Model_nextLevel_108 : decode prog_14_method_62_code 108 = .ok (.aload_n 0, 1) := by decide +kernel
theorem d_Model_nextLevel_109 : decode prog_14_method_62_code 109 = .ok (.getfield 98, 3) := by decide +kernel
theorem d_Model_nextLevel_112 : decode prog_14_method_62_code 112 = .ok (.iconst 4, 1) := by decide +kernel
theorem d_Model_nextLevel_113 : decode prog_14_method_62_code 113 = .ok (.iload_n 1, 1) := by decide +kernel
theorem d_Model_nextLevel_114 : decode prog_14_method_62_code 114 = .ok (.imul, 1) := by decide +kernel
theorem d_Model_nextLevel_115 : decode prog_14_method_62_code 115 = .ok (.iload_n 2, 1) := by decide +kernel
theorem d_Model_nextLevel_116 : decode prog_14_method_62_code 116 = .ok (.iadd, 1) := by decide +kernel
theorem d_Model_nextLevel_117 : decode prog_14_method_62_code 117 = .ok (.aload_n 0, 1) := by decide +kernel
theorem d_Model_nextLevel_118 : decode prog_14_method_62_code 118 = .ok (.getfield 104, 3) := by decide +kernel
theorem d_Model_nextLevel_121 : decode prog_14_method_62_code 121 = .ok (.iconst 4, 1) := by decide +kernel
theorem d_Model_nextLevel_122 : decode prog_14_method_62_code 122 = .ok (.iload_n 1, 1) := by decide +kernel
theorem d_Model_nextLevel_123 : decode prog_14_method_62_code 123 = .ok (.imul, 1) := by decide +kernel
theorem d_Model_nextLevel_124 : decode prog_14_method_62_code 124 = .ok (.iload_n 2, 1) := by decide +kernel
theorem d_Model_nextLevel_125 : decode prog_14_method_62_code 125 = .ok (.iadd, 1) := by decide +kernel
theorem d_Model_nextLevel_126 : decode prog_14_method_62_code 126 = .ok (.laload, 1) := by decide +kernel
theorem d_Model_nextLevel_127 : decode prog_14_method_62_code 127 = .ok (.lastore, 1) := by decide +kernel
theorem d_Model_nextLevel_128 : decode prog_14_method_62_code 128 = .ok (.iinc 2 1, 3) := by decide +kernel
theorem d_Model_nextLevel_131 : decode prog_14_method_62_code 131 = .ok (.goto (-28), 3) := by decide +kernel
theorem d_Model_nextLevel_134 : decode prog_14_method_62_code 134 = .ok (.iinc 1 1, 3) := by decide +kernel
theorem d_Model_nextLevel_137 : decode prog_14_method_62_code 137 = .ok (.goto (-56), 3) := by decide +kernel
theorem d_Model_addNext_0 : decode prog_14_method_61_code 0 = .ok (.iconst 0, 1) := by decide +kernel
theorem d_Model_addNext_1 : decode prog_14_method_61_code 1 = .ok (.istore_n 2, 1) := by decide +kernel
theorem d_Model_addNext_2 : decode prog_14_method_61_code 2 = .ok (.iload_n 2, 1) := by decide +kernel
theorem d_Model_addNext_3 : decode prog_14_method_61_code 3 = .ok (.aload_n 0, 1) := by decide +kernel
theorem d_Model_addNext_4 : decode prog_14_method_61_code 4 = .ok (.getfield 320, 3) := by decide +kernel
theorem d_Model_addNext_7 : decode prog_14_method_61_code 7 = .ok (.if_icmp .ge 27, 3) := by decide +kernel
theorem d_Model_addNext_10 : decode prog_14_method_61_code 10 = .ok (.aload_n 0, 1) := by decide +kernel
theorem d_Model_addNext_11 : decode prog_14_method_61_code 11 = .ok (.getfield 104, 3) := by decide +kernel
theorem d_Model_addNext_14 : decode prog_14_method_61_code 14 = .ok (.iconst 4, 1) := by decide +kernel
theorem d_Model_addNext_15 : decode prog_14_method_61_code 15 = .ok (.iload_n 2, 1) := by decide +kernel
theorem d_Model_addNext_16 : decode prog_14_method_61_code 16 = .ok (.imul, 1) := by decide +kernel
theorem d_Model_addNext_17 : decode prog_14_method_61_code 17 = .ok (.aload_n 0, 1) := by decide +kernel
theorem d_Model_addNext_18 : decode prog_14_method_61_code 18 = .ok (.getfield 80, 3) := by decide +kernel
theorem d_Model_addNext_21 : decode prog_14_method_61_code 21 = .ok (.iconst 0, 1) := by decide +kernel
theorem d_Model_addNext_22 : decode prog_14_method_61_code 22 = .ok (.invokestatic 323, 3) := by decide +kernel
theorem d_Model_addNext_25 : decode prog_14_method_61_code 25 = .ok (.ifCond .ne 9, 3) := by decide +kernel
theorem d_Model_addNext_28 : decode prog_14_method_61_code 28 = .ok (.iinc 2 1, 3) := by decide +kernel
theorem d_Model_addNext_31 : decode prog_14_method_61_code 31 = .ok (.goto (-29), 3) := by decide +kernel
theorem d_Model_addNext_34 : decode prog_14_method_61_code 34 = .ok (.iload_n 2, 1) := by decide +kernel
theorem d_Model_addNext_35 : decode prog_14_method_61_code 35 = .ok (.aload_n 0, 1) := by decide +kernel
theorem d_Model_addNext_36 : decode prog_14_method_61_code 36 = .ok (.getfield 320, 3) := by decide +kernel
theorem d_Model_addNext_39 : decode prog_14_method_61_code 39 = .ok (.if_icmp .ne 49, 3) := by decide +kernel
theorem d_Model_addNext_42 : decode prog_14_method_61_code 42 = .ok (.iconst 0, 1) := by decide +kernel
theorem d_Model_addNext_43 : decode prog_14_method_61_code 43 = .ok (.istore_n 3, 1) := by decide +kernel
theorem d_Model_addNext_44 : decode prog_14_method_61_code 44 = .ok (.iload_n 3, 1) := by decide +kernel
theorem d_Model_addNext_45 : decode prog_14_method_61_code 45 = .ok (.iconst 4, 1) := by decide +kernel
theorem d_Model_addNext_46 : decode prog_14_method_61_code 46 = .ok (.if_icmp .ge 25, 3) := by decide +kernel
theorem d_Model_addNext_49 : decode prog_14_method_61_code 49 = .ok (.aload_n 0, 1) := by decide +kernel
theorem d_Model_addNext_50 : decode prog_14_method_61_code 50 = .ok (.getfield 104, 3) := by decide +kernel
theorem d_Model_addNext_53 : decode prog_14_method_61_code 53 = .ok (.iconst 4, 1) := by decide +kernel
theorem d_Model_addNext_54 : decode prog_14_method_61_code 54 = .ok (.iload_n 2, 1) := by decide +kernel
theorem d_Model_addNext_55 : decode prog_14_method_61_code 55 = .ok (.imul, 1) := by decide +kernel
theorem d_Model_addNext_56 : decode prog_14_method_61_code 56 = .ok (.iload_n 3, 1) := by decide +kernel
theorem d_Model_addNext_57 : decode prog_14_method_61_code 57 = .ok (.iadd, 1) := by decide +kernel
theorem d_Model_addNext_58 : decode prog_14_method_61_code 58 = .ok (.aload_n 0, 1) := by decide +kernel
theorem d_Model_addNext_59 : decode prog_14_method_61_code 59 = .ok (.getfield 80, 3) := by decide +kernel
theorem d_Model_addNext_62 : decode prog_14_method_61_code 62 = .ok (.iload_n 3, 1) := by decide +kernel
theorem d_Model_addNext_63 : decode prog_14_method_61_code 63 = .ok (.laload, 1) := by decide +kernel
theorem d_Model_addNext_64 : decode prog_14_method_61_code 64 = .ok (.lastore, 1) := by decide +kernel
theorem d_Model_addNext_65 : decode prog_14_method_61_code 65 = .ok (.iinc 3 1, 3) := by decide +kernel
theorem d_Model_addNext_68 : decode prog_14_method_61_code 68 = .ok (.goto (-24), 3) := by decide +kernel
theorem d_Model_addNext_71 : decode prog_14_method_61_code 71 = .ok (.aload_n 0, 1) := by decide +kernel
theorem d_Model_addNext_72 : decode prog_14_method_61_code 72 = .ok (.getfield 107, 3) := by decide +kernel
theorem d_Model_addNext_75 : decode prog_14_method_61_code 75 = .ok (.iload_n 2, 1) := by decide +kernel
theorem d_Model_addNext_76 : decode prog_14_method_61_code 76 = .ok (.iconst 0, 1) := by decide +kernel
theorem d_Model_addNext_77 : decode prog_14_method_61_code 77 = .ok (.iastore, 1) := by decide +kernel
theorem d_Model_addNext_78 : decode prog_14_method_61_code 78 = .ok (.aload_n 0, 1) := by decide +kernel
theorem d_Model_addNext_79 : decode prog_14_method_61_code 79 = .ok (.dup, 1) := by decide +kernel
theorem d_Model_addNext_80 : decode prog_14_method_61_code 80 = .ok (.getfield 320, 3) := by decide +kernel
theorem d_Model_addNext_83 : decode prog_14_method_61_code 83 = .ok (.iconst 1, 1) := by decide +kernel
theorem d_Model_addNext_84 : decode prog_14_method_61_code 84 = .ok (.iadd, 1) := by decide +kernel
theorem d_Model_addNext_85 : decode prog_14_method_61_code 85 = .ok (.putfield 320, 3) := by decide +kernel
theorem d_Model_addNext_88 : decode prog_14_method_61_code 88 = .ok (.aload_n 0, 1) := by decide +kernel
theorem d_Model_addNext_89 : decode prog_14_method_61_code 89 = .ok (.getfield 107, 3) := by decide +kernel
theorem d_Model_addNext_92 : decode prog_14_method_61_code 92 = .ok (.iload_n 2, 1) := by decide +kernel
theorem d_Model_addNext_93 : decode prog_14_method_61_code 93 = .ok (.dup2, 1) := by decide +kernel
theorem d_Model_addNext_94 : decode prog_14_method_61_code 94 = .ok (.iaload, 1) := by decide +kernel
theorem d_Model_addNext_95 : decode prog_14_method_61_code 95 = .ok (.iload_n 1, 1) := by decide +kernel
theorem d_Model_addNext_96 : decode prog_14_method_61_code 96 = .ok (.iadd, 1) := by decide +kernel
theorem d_Model_addNext_97 : decode prog_14_method_61_code 97 = .ok (.iastore, 1) := by decide +kernel
theorem d_Model_areSame_0 : decode prog_14_method_60_code 0 = .ok (.aload_n 0, 1) := by decide +kernel
theorem d_Model_areSame_1 : decode prog_14_method_60_code 1 = .ok (.iload_n 1, 1) := by decide +kernel
theorem d_Model_areSame_2 : decode prog_14_method_60_code 2 = .ok (.laload, 1) := by decide +kernel
theorem d_Model_areSame_3 : decode prog_14_method_60_code 3 = .ok (.aload_n 2, 1) := by decide +kernel
theorem d_Model_areSame_4 : decode prog_14_method_60_code 4 = .ok (.iload_n 3, 1) := by decide +kernel
theorem d_Model_areSame_5 : decode prog_14_method_60_code 5 = .ok (.laload, 1) := by decide +kernel
theorem d_Model_areSame_6 : decode prog_14_method_60_code 6 = .ok (.lcmp, 1) := by decide +kernel
theorem d_Model_areSame_7 : decode prog_14_method_60_code 7 = .ok (.ifCond .ne 49, 3) := by decide +kernel
theorem d_Model_areSame_10 : decode prog_14_method_60_code 10 = .ok (.aload_n 0, 1) := by decide +kernel
theorem d_Model_areSame_11 : decode prog_14_method_60_code 11 = .ok (.iload_n 1, 1) := by decide +kernel
theorem d_Model_areSame_12 : decode prog_14_method_60_code 12 = .ok (.iconst 1, 1) := by decide +kernel
theorem d_Model_areSame_13 : decode prog_14_method_60_code 13 = .ok (.iadd, 1) := by decide +kernel
theorem d_Model_areSame_14 : decode prog_14_method_60_code 14 = .ok (.laload, 1) := by decide +kernel
theorem d_Model_areSame_15 : decode prog_14_method_60_code 15 = .ok (.aload_n 2, 1) := by decide +kernel
theorem d_Model_areSame_16 : decode prog_14_method_60_code 16 = .ok (.iload_n 3, 1) := by decide +kernel
theorem d_Model_areSame_17 : decode prog_14_method_60_code 17 = .ok (.iconst 1, 1) := by decide +kernel
theorem d_Model_areSame_18 : decode prog_14_method_60_code 18 = .ok (.iadd, 1) := by decide +kernel
theorem d_Model_areSame_19 : decode prog_14_method_60_code 19 = .ok (.laload, 1) := by decide +kernel
theorem d_Model_areSame_20 : decode prog_14_method_60_code 20 = .ok (.lcmp, 1) := by decide +kernel
theorem d_Model_areSame_21 : decode prog_14_method_60_code 21 = .ok (.ifCond .ne 35, 3) := by decide +kernel
theorem d_Model_areSame_24 : decode prog_14_method_60_code 24 = .ok (.aload_n 0, 1) := by decide +kernel
theorem d_Model_areSame_25 : decode prog_14_method_60_code 25 = .ok (.iload_n 1, 1) := by decide +kernel
theorem d_Model_areSame_26 : decode prog_14_method_60_code 26 = .ok (.iconst 2, 1) := by decide +kernel
theorem d_Model_areSame_27 : decode prog_14_method_60_code 27 = .ok (.iadd, 1) := by decide +kernel
theorem d_Model_areSame_28 : decode prog_14_method_60_code 28 = .ok (.laload, 1) := by decide +kernel
theorem d_Model_areSame_29 : decode prog_14_method_60_code 29 = .ok (.aload_n 2, 1) := by decide +kernel
theorem d_Model_areSame_30 : decode prog_14_method_60_code 30 = .ok (.iload_n 3, 1) := by decide +kernel
theorem d_Model_areSame_31 : decode prog_14_method_60_code 31 = .ok (.iconst 2, 1) := by decide +kernel
theorem d_Model_areSame_32 : decode prog_14_method_60_code 32 = .ok (.iadd, 1) := by decide +kernel
theorem d_Model_areSame_33 : decode prog_14_method_60_code 33 = .ok (.laload, 1) := by decide +kernel
theorem d_Model_areSame_34 : decode prog_14_method_60_code 34 = .ok (.lcmp, 1) := by decide +kernel
theorem d_Model_areSame_35 : decode prog_14_method_60_code 35 = .ok (.ifCond .ne 21, 3) := by decide +kernel
theorem d_Model_areSame_38 : decode prog_14_method_60_code 38 = .ok (.aload_n 0, 1) := by decide +kernel
theorem d_Model_areSame_39 : decode prog_14_method_60_code 39 = .ok (.iload_n 1, 1) := by decide +kernel
theorem d_Model_areSame_40 : decode prog_14_method_60_code 40 = .ok (.iconst 3, 1) := by decide +kernel
theorem d_Model_areSame_41 : decode prog_14_method_60_code 41 = .ok (.iadd, 1) := by decide +kernel
theorem d_Model_areSame_42 : decode prog_14_method_60_code 42 = .ok (.laload, 1) := by decide +kernel
theorem d_Model_areSame_43 : decode prog_14_method_60_code 43 = .ok (.aload_n 2, 1) := by decide +kernel
theorem d_Model_areSame_44 : decode prog_14_method_60_code 44 = .ok (.iload_n 3, 1) := by decide +kernel
theorem d_Model_areSame_45 : decode prog_14_method_60_code 45 = .ok (.iconst 3, 1) := by decide +kernel
theorem d_Model_areSame_46 : decode prog_14_method_60_code 46 = .ok (.iadd, 1) := by decide +kernel
theorem d_Model_areSame_47 : decode prog_14_method_60_code 47 = .ok (.laload, 1) := by decide +kernel
theorem d_Model_areSame_48 : decode prog_14_method_60_code 48 = .ok (.lcmp, 1) := by decide +kernel
theorem d_Model_areSame_49 : decode prog_14_method_60_code 49 = .ok (.ifCond .ne 7, 3) := by decide +kernel
theorem d_Model_areSame_52 : decode prog_14_method_60_code 52 = .ok (.iconst 1, 1) := by decide +kernel
theorem d_Model_areSame_53 : decode prog_14_method_60_code 53 = .ok (.goto 4, 3) := by decide +kernel
theorem d_Model_areSame_56 : decode prog_14_method_60_code 56 = .ok (.iconst 0, 1) := by decide +kernel
theorem ll_8 : (8 : Int64).toInt = 8 := by decide +kernel
theorem zcl_8 : zJ 8 8 8 := ⟨by decide +kernel, by decide +kernel⟩
abbrev m_s4_Model_has : Room := { frames := 0, cells := 0, slots := 0, locals := 0 }
set_option maxHeartbeats 4000000 in
set_option maxRecDepth 100000 in
theorem s4_Model_has (l : Launch) (G : zG) (b0 : Nat) (b1 : Int32) (b2 : Int32) (b3 : Nat → Int64) (hb1 : zI b1 0 4000) (hb2 : zI b2 0 240) : zM l G y_Model_has prog_14_method_45_code 3 (Option.some Jvm.ClassFile.FieldType.boolean) m_s4_Model_has [.ref b0, .int b1, .int b2] [(b0, .inl (G.2 1, 4004, .inr (.inl b3)))] (fun v w => ∃ (e0 : Int32), v = some (.int e0) ∧ w = [(b0, .inl (G.2 1, 4004, .inr (.inl b3)))] ∧ (zI e0 0 1)) := by
  refine z_start (by decide +kernel) (Nat.le_of_ble_eq_true rfl) ?_
  intro p e s m below meth c A Z hr hnm hA hP hD hS ls hl
  have Z : zC p s m _ meth c prog_14_method_45_code 3 "TraceMachinesModel" G := Z
  obtain ⟨hx, hb, hml, hown, hts, hK, hN, hlocks⟩ := id Z
  have hl : lv_has ls 3 [(0, .ref b0), (1, .int b1), (2, .int b2)] := hl
  refine lv_aload_n hx hb d_Model_has_0 rfl (lv_at hl 0 rfl) ?_
  refine lv_iload_n hx hb d_Model_has_1 rfl (lv_at hl 1 rfl) ?_
  refine lv_iload_n hx hb d_Model_has_2 rfl (lv_at hl 2 rfl) ?_
  refine lv_bipush (v := 64) hx hb d_Model_has_3 (by decide) ?_
  refine lv_idiv hx hb d_Model_has_5 (by decide +kernel) ?_
  refine lv_topi (fun v_1 ev_1 => ?_)
  obtain ⟨qv_1, hv_1⟩ := zI_div (l := 0) (h := 3) (d := 64) hb2 rfl ev_1 (by decide)
  refine lv_iadd hx hb d_Model_has_6 ?_
  refine lv_topi (fun v_2 ev_2 => ?_)
  obtain ⟨qv_2, hv_2⟩ := zI_add (l := 0) (h := 4003) hb1 hv_1 ev_2 (by decide)
  refine va_lald hx hb hK hP 0 1 rfl rfl (zI.inn hv_2 (by decide)) d_Model_has_7 ?_
  refine lv_topl (fun v_3 ev_3 => ?_)
  refine lv_iload_n hx hb d_Model_has_8 rfl (lv_at hl 2 rfl) ?_
  refine lv_bipush (v := 64) hx hb d_Model_has_9 (by decide) ?_
  refine lv_irem hx hb d_Model_has_11 (by decide +kernel) ?_
  refine lv_topi (fun v_4 ev_4 => ?_)
  obtain ⟨qv_4, hv_4⟩ := zI_rem (h := 63) (d := 64) hb2 rfl ev_4 (by decide)
  obtain ⟨v_5, ev_5⟩ : ∃ z : Int64, z = ((v_3).toUInt64 >>> ((v_4 : Int32).toInt64.toUInt64 &&& Int64.toUInt64 63)).toInt64 := ⟨_, rfl⟩
  refine lv_lushr (v := v_5) hx hb d_Model_has_12 ev_5.symm ?_
  refine lv_lconst (v := 1) hx hb d_Model_has_13 (by decide) ?_
  refine lv_land hx hb d_Model_has_14 ?_
  refine lv_topl (fun v_6 ev_6 => ?_)
  refine lv_lconst (v := 1) hx hb d_Model_has_15 (by decide) ?_
  refine W.lcmp hx hb d_Model_has_16 ?_
  refine lv_topi (fun v_7 ev_7 => ?_)
  refine lv_if_ne (tgt := 24) hx hb d_Model_has_17 (by decide) (fun hc_8 => ?_) (fun hc_8 => ?_)
  · have ni_9 := hc_8
    rw [ev_7] at ni_9
    simp only [lg_cmp_lt, lg_cmp_le, lg_cmp_gt, lg_cmp_ge, lg_cmp_eq, fa_lt64, fa_le64, fa_eq64, Int32.toInt_toInt64, ll_1] at ni_9
    refine lv_iconst (v := 0) hx hb d_Model_has_24 (by decide) ?_
    exact z_zret hx hb hr hlocks rfl hP hD hS (Nat.le_of_ble_eq_true rfl) (Nat.le_of_ble_eq_true rfl) d_Model_has_25 ⟨0, rfl, rfl, (zI.wk (l' := 0) (h' := 1) zc_0 (by decide))⟩
  · have ni_10 := hc_8
    rw [ev_7] at ni_10
    simp only [lg_cmp_lt, lg_cmp_le, lg_cmp_gt, lg_cmp_ge, lg_cmp_eq, fa_lt64, fa_le64, fa_eq64, Int32.toInt_toInt64, ll_1] at ni_10
    have hv_11 : zJ v_6 1 1 := by have _a := ni_10; have _b := (zJ_all v_6); have _c := zcl_1; simp only [Int32.toInt_toInt64] at *; exact ⟨by omega, by omega⟩
    refine lv_iconst (v := 1) hx hb d_Model_has_20 (by decide) ?_
    refine lv_goto (tgt := 25) hx hb d_Model_has_21 (by decide) ?_
    exact z_zret hx hb hr hlocks rfl hP hD hS (Nat.le_of_ble_eq_true rfl) (Nat.le_of_ble_eq_true rfl) d_Model_has_25 ⟨1, rfl, rfl, (zI.wk (l' := 0) (h' := 1) zc_1 (by decide))⟩
abbrev m_s4_Model_takes : Room := { frames := 1, cells := 0, slots := 0, locals := 22 }
set_option maxHeartbeats 4000000 in
set_option maxRecDepth 100000 in
theorem s4_Model_takes (l : Launch) (G : zG) (b0 : Nat) (b1 : Nat) (b2 : Int32) (b3 : Int32) (b4 : Nat) (b5 : Nat) (b6 : Nat) (b7 : Nat) (b8 : Int32) (b9 : Nat) (b10 : Int32) (b11 : Int32) (b12 : Int32) (b13 : Int32) (b14 : Nat) (b15 : Nat) (b16 : Nat) (b17 : Int32) (b18 : Nat) (b19 : Nat) (b20 : Nat) (b21 : Nat) (b22 : Nat) (b23 : Nat) (b24 : Nat) (b25 : Nat) (b26 : Nat) (b27 : Nat) (b28 : Nat) (b29 : Nat) (b30 : Int32) (b31 : Nat) (b32 : Nat) (b33 : Int32) (b34 : Int32) (b35 : Int32) (b36 : Int32) (b37 : Nat) (b38 : Nat) (b39 : Nat) (b40 : Nat) (b41 : Nat) (b42 : Nat) (b43 : Int32) (b44 : Nat) (b45 : Nat) (b46 : Int32) (b47 : Nat) (b48 : Nat) (b49 : Nat) (b50 : Nat) (b51 : Nat) (b52 : Int32) (b53 : Nat) (b54 : Nat) (b55 : Nat) (b56 : Nat → Int32) (b57 : Nat → Int32) (b58 : Nat → Int64) (hb2 : zI b2 0 4000) (hb8 : zI b8 0 8) (hb10 : zI b10 0 240) (hb11 : zI b11 0 240) (hb13 : zI b13 0 1) (hb17 : zI b17 0 12) (hb30 : zI b30 0 1) (hb33 : zI b33 0 1) (hb43 : zI b43 0 1000) (hb46 : zI b46 0 1000) (hb52 : zI b52 0 400) (hb56 : zR b56 0 241) : zM l G y_Model_takes prog_14_method_49_code 6 (Option.some Jvm.ClassFile.FieldType.boolean) m_s4_Model_takes [.ref b0, .int 0, .ref b1, .int b2] [(b0, .inr (12, [.int b3, .ref b4, .ref b5, .ref b6, .ref b7, .int b8, .ref b9, .int b10, .int b11, .int b12, .int b13, .ref b14, .ref b15, .ref b16, .int b17, .ref b18, .ref b19, .ref b20, .ref b21, .ref b22, .ref b23, .ref b24, .ref b25, .ref b26, .ref b27, .ref b28, .ref b29, .int b30, .ref b31, .ref b32, .int b33, .int b34, .int b35, .int b36, .ref b37, .ref b38, .ref b39, .ref b40, .ref b41, .ref b1, .ref b42, .int b43, .ref b44, .ref b45, .int b46, .ref b47, .ref b48, .ref b49, .ref b50, .ref b51, .int b52, .ref b53, .ref b54, .ref b55])), (b24, .inl (G.2 0, 2, .inl b56)), (b27, .inl (G.2 0, 482, .inl b57)), (b1, .inl (G.2 1, 4004, .inr (.inl b58)))] (fun v w => ∃ (e0 : Int32), v = some (.int e0) ∧ w = [(b0, .inr (12, [.int b3, .ref b4, .ref b5, .ref b6, .ref b7, .int b8, .ref b9, .int b10, .int b11, .int b12, .int b13, .ref b14, .ref b15, .ref b16, .int b17, .ref b18, .ref b19, .ref b20, .ref b21, .ref b22, .ref b23, .ref b24, .ref b25, .ref b26, .ref b27, .ref b28, .ref b29, .int b30, .ref b31, .ref b32, .int b33, .int b34, .int b35, .int b36, .ref b37, .ref b38, .ref b39, .ref b40, .ref b41, .ref b1, .ref b42, .int b43, .ref b44, .ref b45, .int b46, .ref b47, .ref b48, .ref b49, .ref b50, .ref b51, .int b52, .ref b53, .ref b54, .ref b55])), (b24, .inl (G.2 0, 2, .inl b56)), (b27, .inl (G.2 0, 482, .inl b57)), (b1, .inl (G.2 1, 4004, .inr (.inl b58)))] ∧ (zI e0 0 1)) := by
  refine z_start (by decide +kernel) (Nat.le_of_ble_eq_true rfl) ?_
  intro p e s m below meth c A Z hr hnm hA hP hD hS ls hl
  have Z : zC p s m _ meth c prog_14_method_49_code 6 "TraceMachinesModel" G := Z
  obtain ⟨hx, hb, hml, hown, hts, hK, hN, hlocks⟩ := id Z
  have hl : lv_has ls 6 [(0, .ref b0), (1, .int 0), (2, .ref b1), (3, .int b2)] := hl
  refine lv_iconst (v := 0) hx hb d_Model_takes_0 (by decide) ?_
  refine lv_istore (lv' := [(4, .int 0), (0, .ref b0), (1, .int 0), (2, .ref b1), (3, .int b2)]) hx hb d_Model_takes_1 hl (by decide) rfl (fun ls hl => ?_)
  refine lv_iconst (v := 0) hx hb d_Model_takes_3 (by decide) ?_
  refine lv_istore (lv' := [(5, .int 0), (4, .int 0), (0, .ref b0), (1, .int 0), (2, .ref b1), (3, .int b2)]) hx hb d_Model_takes_4 hl (by decide) rfl (fun ls hl => ?_)
  suffices key : ∀ (k_32 : Nat) (y_33 : Int32) (y_34 : Int32) (H : Heap) (locs : List Loc) (ls : Array Slot), (zI y_33 0 241) → (zI y_34 0 1) → (241 : Int) - y_33.toInt < (k_32 : Int) → va_P G.1 classes [(b0, .inr (12, [.int b3, .ref b4, .ref b5, .ref b6, .ref b7, .int b8, .ref b9, .int b10, .int b11, .int b12, .int b13, .ref b14, .ref b15, .ref b16, .int b17, .ref b18, .ref b19, .ref b20, .ref b21, .ref b22, .ref b23, .ref b24, .ref b25, .ref b26, .ref b27, .ref b28, .ref b29, .int b30, .ref b31, .ref b32, .int b33, .int b34, .int b35, .int b36, .ref b37, .ref b38, .ref b39, .ref b40, .ref b41, .ref b1, .ref b42, .int b43, .ref b44, .ref b45, .int b46, .ref b47, .ref b48, .ref b49, .ref b50, .ref b51, .int b52, .ref b53, .ref b54, .ref b55])), (b24, .inl (G.2 0, 2, .inl b56)), (b27, .inl (G.2 0, 482, .inl b57)), (b1, .inl (G.2 1, 4004, .inr (.inl b58)))] H → va_D A [(b0, .inr (12, [.int b3, .ref b4, .ref b5, .ref b6, .ref b7, .int b8, .ref b9, .int b10, .int b11, .int b12, .int b13, .ref b14, .ref b15, .ref b16, .int b17, .ref b18, .ref b19, .ref b20, .ref b21, .ref b22, .ref b23, .ref b24, .ref b25, .ref b26, .ref b27, .ref b28, .ref b29, .int b30, .ref b31, .ref b32, .int b33, .int b34, .int b35, .int b36, .ref b37, .ref b38, .ref b39, .ref b40, .ref b41, .ref b1, .ref b42, .int b43, .ref b44, .ref b45, .int b46, .ref b47, .ref b48, .ref b49, .ref b50, .ref b51, .int b52, .ref b53, .ref b54, .ref b55])), (b24, .inl (G.2 0, 2, .inl b56)), (b27, .inl (G.2 0, 482, .inl b57)), (b1, .inl (G.2 1, 4004, .inr (.inl b58)))] → va_S A s.heap H locs → lv_has ls 6 [(5, .int y_33), (4, .int y_34), (0, .ref b0), (1, .int 0), (2, .ref b1), (3, .int b2)] → W p l e m_s4_Model_takes s m ([.ref b0, .int 0, .ref b1, .int b2] : List Value).toArray below meth c H locs 0 0 (MQ below (zQ G (fun v w => ∃ (e0 : Int32), v = some (.int e0) ∧ w = [(b0, .inr (12, [.int b3, .ref b4, .ref b5, .ref b6, .ref b7, .int b8, .ref b9, .int b10, .int b11, .int b12, .int b13, .ref b14, .ref b15, .ref b16, .int b17, .ref b18, .ref b19, .ref b20, .ref b21, .ref b22, .ref b23, .ref b24, .ref b25, .ref b26, .ref b27, .ref b28, .ref b29, .int b30, .ref b31, .ref b32, .int b33, .int b34, .int b35, .int b36, .ref b37, .ref b38, .ref b39, .ref b40, .ref b41, .ref b1, .ref b42, .int b43, .ref b44, .ref b45, .int b46, .ref b47, .ref b48, .ref b49, .ref b50, .ref b51, .int b52, .ref b53, .ref b54, .ref b55])), (b24, .inl (G.2 0, 2, .inl b56)), (b27, .inl (G.2 0, 482, .inl b57)), (b1, .inl (G.2 1, 4004, .inr (.inl b58)))] ∧ (zI e0 0 1)) A) ([.ref b0, .int 0, .ref b1, .int b2] : List Value).toArray s m_s4_Model_takes.cells m_s4_Model_takes.slots A) (F0 m 6 ls []) by
    exact key 242 (0) (0) _ _ _ (zI.wk (l' := 0) (h' := 241) zc_0 (by decide)) (zI.wk (l' := 0) (h' := 1) zc_0 (by decide)) (zm_upi (zI.wk (l' := 0) (h' := 241) zc_0 (by decide)) (by decide)) hP hD hS (lv_sub hl [0, 1, 2, 3, 4, 5] rfl)
  intro k_32
  induction k_32 with
  | zero =>
    intro y_33 y_34 H locs ls hy_33 hy_34 hmk_32 hP hD hS hl
    exact (zm_up0 hy_33 hmk_32).elim
  | succ k_32 ihk_32 =>
    intro y_33 y_34 H locs ls hy_33 hy_34 hmk_32 hP hD hS hl
    refine lv_iload hx hb d_Model_takes_6 (lv_at hl 0 rfl) ?_
    refine lv_aload_n hx hb d_Model_takes_8 rfl (lv_at hl 2 rfl) ?_
    refine va_get (D := G.1) (ci := 12) (v := .ref b24) (C := R_Model) (T := F_Model) (N := 54) hx hb hts i_Model hown hK hP 0 rfl rfl 21 (by decide) (hts _ q1130) (fun _ h9 => h9) rfl d_Model_takes_9 ?_
    refine lv_iload_n hx hb d_Model_takes_12 rfl (lv_at hl 3 rfl) ?_
    refine va_iald hx hb hK hP 1 0 rfl rfl (i := 0) (z_in rfl) d_Model_takes_13 ?_
    refine lv_topi (fun v_35 ev_35 => ?_)
    have hv_35 : zI v_35 0 241 := (hb56 _).eq ev_35
    refine lv_icmp_ge (tgt := 55) hx hb d_Model_takes_14 (by decide) (fun hc_36 => ?_) (fun hc_36 => ?_)
    · have _nhc_36 := hc_36
      have ni_37 := (fa_le _ _).mp hc_36
      refine lv_iload hx hb d_Model_takes_55 (lv_at hl 1 rfl) ?_
      exact z_zret hx hb hr hlocks (zi_nb hy_34) hP hD hS (Nat.le_of_ble_eq_true rfl) (Nat.le_of_ble_eq_true rfl) d_Model_takes_57 ⟨y_34, rfl, rfl, hy_34⟩
    · have _nhc_36 := hc_36
      have ni_38 := (fa_lt _ _).mp (zi_nle hc_36)
      have hv_39 : zI y_33 0 240 := zI.lt_l hy_33 hv_35 (zi_nle hc_36) (by decide)
      have hv_40 : zI v_35 1 241 := zI.lt_r hy_33 hv_35 (zi_nle hc_36) (by decide)
      refine lv_iload hx hb d_Model_takes_17 (lv_at hl 1 rfl) ?_
      refine lv_if_ne (tgt := 42) hx hb d_Model_takes_19 (by decide) (fun hc_41 => ?_) (fun hc_41 => ?_)
      · have _nhc_41 := hc_41
        have ni_42 : ¬ (y_34 : Int32).toInt = (0 : Int32).toInt := fun z => hc_41 ((fa_eq _ _).mpr z)
        simp only [li_0] at ni_42
        have hv_43 : zI y_34 1 1 := zI.ne_lo hy_34 zc_0 hc_41 (by decide)
        refine lv_iconst (v := 1) hx hb d_Model_takes_42 (by decide) ?_
        refine lv_goto (tgt := 47) hx hb d_Model_takes_43 (by decide) ?_
        refine lv_istore (lv' := [(4, .int 1), (5, .int y_33), (0, .ref b0), (1, .int 0), (2, .ref b1), (3, .int b2)]) hx hb d_Model_takes_47 hl (by decide) rfl (fun ls hl => ?_)
        obtain ⟨v_44, ev_44⟩ : ∃ z : Int32, z = y_33 + 1 := ⟨_, rfl⟩
        obtain ⟨qv_44, hv_44⟩ := zI_add (l := 1) (h := 241) hv_39 zc_1 ev_44 (by decide)
        rw [li_1] at qv_44
        refine lv_iinc (v := v_44) (lv' := [(5, .int v_44), (4, .int 1), (0, .ref b0), (1, .int 0), (2, .ref b1), (3, .int b2)]) hx hb d_Model_takes_49 hl (k := 1) rfl (by rw [ev_44]; rfl) (by decide) rfl (fun ls hl => ?_)
        refine lv_goto (tgt := 6) hx hb d_Model_takes_52 (by decide) ?_
        exact ihk_32 (v_44) (1) _ _ _ (zI.wk (l' := 0) (h' := 241) hv_44 (by decide)) (zI.wk (l' := 0) (h' := 1) zc_1 (by decide)) (zm_up qv_44 hmk_32 (by decide)) hP hD hS (lv_sub hl [0, 1, 2, 3, 4, 5] rfl)
      · have _nhc_41 := hc_41
        have ni_45 := (fa_eq _ _).mp hc_41
        rw [li_0] at ni_45
        have hv_46 : zI y_34 0 0 := zI.eq_l hy_34 zc_0 hc_41
        refine lv_aload_n hx hb d_Model_takes_22 rfl (lv_at hl 4 rfl) ?_
        refine lv_iload_n hx hb d_Model_takes_23 rfl (lv_at hl 5 rfl) ?_
        refine lv_iload hx hb d_Model_takes_24 (lv_at hl 0 rfl) ?_
        refine z_callS (index := 271) (As := [.ref b1, .int b2, .int y_33]) (rest := []) (wr := [(b0, .inr (12, [.int b3, .ref b4, .ref b5, .ref b6, .ref b7, .int b8, .ref b9, .int b10, .int b11, .int b12, .int b13, .ref b14, .ref b15, .ref b16, .int b17, .ref b18, .ref b19, .ref b20, .ref b21, .ref b22, .ref b23, .ref b24, .ref b25, .ref b26, .ref b27, .ref b28, .ref b29, .int b30, .ref b31, .ref b32, .int b33, .int b34, .int b35, .int b36, .ref b37, .ref b38, .ref b39, .ref b40, .ref b41, .ref b1, .ref b42, .int b43, .ref b44, .ref b45, .int b46, .ref b47, .ref b48, .ref b49, .ref b50, .ref b51, .int b52, .ref b53, .ref b54, .ref b55])), (b24, .inl (G.2 0, 2, .inl b56)), (b27, .inl (G.2 0, 482, .inl b57))]) Z (s4_Model_has l G (b1) (b2) (y_33) (b58) hb2 hv_39) hl.1 q1464 q1465 q14 q1466 ⟨by decide, by decide, by show _ = some 3; decide +kernel⟩ ⟨Nat.le_of_ble_eq_true rfl, Nat.le_of_ble_eq_true rfl⟩ ⟨Nat.le_of_ble_eq_true rfl, Nat.le_of_ble_eq_true rfl⟩ rfl (Nat.le_of_ble_eq_true rfl) d_Model_takes_26 hP hD hS hA [3] [0, 1, 2] rfl rfl rfl rfl (by decide) (fun v w1 H locs hw_47 hP hD hS => ?_)
        obtain ⟨x_48, rfl, rfl, hx_48⟩ := hw_47
        have hP : va_P G.1 classes [(b0, .inr (12, [.int b3, .ref b4, .ref b5, .ref b6, .ref b7, .int b8, .ref b9, .int b10, .int b11, .int b12, .int b13, .ref b14, .ref b15, .ref b16, .int b17, .ref b18, .ref b19, .ref b20, .ref b21, .ref b22, .ref b23, .ref b24, .ref b25, .ref b26, .ref b27, .ref b28, .ref b29, .int b30, .ref b31, .ref b32, .int b33, .int b34, .int b35, .int b36, .ref b37, .ref b38, .ref b39, .ref b40, .ref b41, .ref b1, .ref b42, .int b43, .ref b44, .ref b45, .int b46, .ref b47, .ref b48, .ref b49, .ref b50, .ref b51, .int b52, .ref b53, .ref b54, .ref b55])), (b24, .inl (G.2 0, 2, .inl b56)), (b27, .inl (G.2 0, 482, .inl b57)), (b1, .inl (G.2 1, 4004, .inr (.inl b58)))] H := hP
        have hD := z_tie hP hD rfl
        refine W.widen (k := 0) (n := 0) (Nat.le_of_ble_eq_true rfl) (Nat.le_of_ble_eq_true rfl) ?_
        refine lv_if_eq (tgt := 46) hx hb d_Model_takes_29 (by decide) (fun hc_49 => ?_) (fun hc_49 => ?_)
        · have _nhc_49 := hc_49
          have ni_50 := (fa_eq _ _).mp hc_49
          rw [li_0] at ni_50
          have hv_51 : zI x_48 0 0 := zI.eq_l hx_48 zc_0 hc_49
          refine lv_iconst (v := 0) hx hb d_Model_takes_46 (by decide) ?_
          refine lv_istore (lv' := [(4, .int 0), (5, .int y_33), (0, .ref b0), (1, .int 0), (2, .ref b1), (3, .int b2)]) hx hb d_Model_takes_47 hl (by decide) rfl (fun ls hl => ?_)
          obtain ⟨v_52, ev_52⟩ : ∃ z : Int32, z = y_33 + 1 := ⟨_, rfl⟩
          obtain ⟨qv_52, hv_52⟩ := zI_add (l := 1) (h := 241) hv_39 zc_1 ev_52 (by decide)
          rw [li_1] at qv_52
          refine lv_iinc (v := v_52) (lv' := [(5, .int v_52), (4, .int 0), (0, .ref b0), (1, .int 0), (2, .ref b1), (3, .int b2)]) hx hb d_Model_takes_49 hl (k := 1) rfl (by rw [ev_52]; rfl) (by decide) rfl (fun ls hl => ?_)
          refine lv_goto (tgt := 6) hx hb d_Model_takes_52 (by decide) ?_
          exact ihk_32 (v_52) (0) _ _ _ (zI.wk (l' := 0) (h' := 241) hv_52 (by decide)) (zI.wk (l' := 0) (h' := 1) zc_0 (by decide)) (zm_up qv_52 hmk_32 (by decide)) hP hD hS (lv_sub hl [0, 1, 2, 3, 4, 5] rfl)
        · have _nhc_49 := hc_49
          have ni_53 : ¬ (x_48 : Int32).toInt = (0 : Int32).toInt := fun z => hc_49 ((fa_eq _ _).mpr z)
          simp only [li_0] at ni_53
          have hv_54 : zI x_48 1 1 := zI.ne_lo hx_48 zc_0 hc_49 (by decide)
          refine lv_aload_n hx hb d_Model_takes_32 rfl (lv_at hl 2 rfl) ?_
          refine lv_iload_n hx hb d_Model_takes_33 rfl (lv_at hl 3 rfl) ?_
          refine lv_iload hx hb d_Model_takes_34 (lv_at hl 0 rfl) ?_
          refine z_callV (index := 256) (As := [.int 0, .int y_33]) (rest := []) (wr := [(b24, .inl (G.2 0, 2, .inl b56)), (b1, .inl (G.2 1, 4004, .inr (.inl b58)))]) Z (s2_Model_isFinal l G (b0) (y_33) (b3) (b4) (b5) (b6) (b7) (b8) (b9) (b10) (b11) (b12) (b13) (b14) (b15) (b16) (b17) (b18) (b19) (b20) (b21) (b22) (b23) (b24) (b25) (b26) (b27) (b28) (b29) (b30) (b31) (b32) (b33) (b34) (b35) (b36) (b37) (b38) (b39) (b40) (b41) (b1) (b42) (b43) (b44) (b45) (b46) (b47) (b48) (b49) (b50) (b51) (b52) (b53) (b54) (b55) (b57) hv_39 hb8 hb10 hb11 hb13 hb17 hb30 hb33 hb43 hb46 hb52) hl.1 q1420 q1422 qs70 q14 q1423 ⟨by decide, by decide, by show _ = some 2; decide +kernel⟩ ⟨Nat.le_of_ble_eq_true rfl, Nat.le_of_ble_eq_true rfl⟩ ⟨Nat.le_of_ble_eq_true rfl, Nat.le_of_ble_eq_true rfl⟩ rfl (Nat.le_of_ble_eq_true rfl) d_Model_takes_36 hP hD hS hA 0 12 rfl rfl rfl [0, 2] [1, 3] rfl rfl rfl rfl (by decide) (fun v w1 H locs hw_55 hP hD hS => ?_)
          obtain ⟨x_56, rfl, rfl, hx_56⟩ := hw_55
          have hP : va_P G.1 classes [(b24, .inl (G.2 0, 2, .inl b56)), (b1, .inl (G.2 1, 4004, .inr (.inl b58))), (b0, .inr (12, [.int b3, .ref b4, .ref b5, .ref b6, .ref b7, .int b8, .ref b9, .int b10, .int b11, .int b12, .int b13, .ref b14, .ref b15, .ref b16, .int b17, .ref b18, .ref b19, .ref b20, .ref b21, .ref b22, .ref b23, .ref b24, .ref b25, .ref b26, .ref b27, .ref b28, .ref b29, .int b30, .ref b31, .ref b32, .int b33, .int b34, .int b35, .int b36, .ref b37, .ref b38, .ref b39, .ref b40, .ref b41, .ref b1, .ref b42, .int b43, .ref b44, .ref b45, .int b46, .ref b47, .ref b48, .ref b49, .ref b50, .ref b51, .int b52, .ref b53, .ref b54, .ref b55])), (b27, .inl (G.2 0, 482, .inl b57))] H := hP
          have hD := z_tie hP hD rfl
          refine W.widen (k := 0) (n := 0) (Nat.le_of_ble_eq_true rfl) (Nat.le_of_ble_eq_true rfl) ?_
          refine lv_if_eq (tgt := 46) hx hb d_Model_takes_39 (by decide) (fun hc_57 => ?_) (fun hc_57 => ?_)
          · have _nhc_57 := hc_57
            have ni_58 := (fa_eq _ _).mp hc_57
            rw [li_0] at ni_58
            have hv_59 : zI x_56 0 0 := zI.eq_l hx_56 zc_0 hc_57
            refine lv_iconst (v := 0) hx hb d_Model_takes_46 (by decide) ?_
            refine lv_istore (lv' := [(4, .int 0), (5, .int y_33), (0, .ref b0), (1, .int 0), (2, .ref b1), (3, .int b2)]) hx hb d_Model_takes_47 hl (by decide) rfl (fun ls hl => ?_)
            obtain ⟨v_60, ev_60⟩ : ∃ z : Int32, z = y_33 + 1 := ⟨_, rfl⟩
            obtain ⟨qv_60, hv_60⟩ := zI_add (l := 1) (h := 241) hv_39 zc_1 ev_60 (by decide)
            rw [li_1] at qv_60
            refine lv_iinc (v := v_60) (lv' := [(5, .int v_60), (4, .int 0), (0, .ref b0), (1, .int 0), (2, .ref b1), (3, .int b2)]) hx hb d_Model_takes_49 hl (k := 1) rfl (by rw [ev_60]; rfl) (by decide) rfl (fun ls hl => ?_)
            refine lv_goto (tgt := 6) hx hb d_Model_takes_52 (by decide) ?_
            exact ihk_32 (v_60) (0) _ _ _ (zI.wk (l' := 0) (h' := 241) hv_60 (by decide)) (zI.wk (l' := 0) (h' := 1) zc_0 (by decide)) (zm_up qv_60 hmk_32 (by decide)) (hP.sub [2, 0, 3, 1] rfl) (hD.sub [2, 0, 3, 1] (by decide) rfl) hS (lv_sub hl [0, 1, 2, 3, 4, 5] rfl)
          · have _nhc_57 := hc_57
            have ni_61 : ¬ (x_56 : Int32).toInt = (0 : Int32).toInt := fun z => hc_57 ((fa_eq _ _).mpr z)
            simp only [li_0] at ni_61
            have hv_62 : zI x_56 1 1 := zI.ne_lo hx_56 zc_0 hc_57 (by decide)
            refine lv_iconst (v := 1) hx hb d_Model_takes_42 (by decide) ?_
            refine lv_goto (tgt := 47) hx hb d_Model_takes_43 (by decide) ?_
            refine lv_istore (lv' := [(4, .int 1), (5, .int y_33), (0, .ref b0), (1, .int 0), (2, .ref b1), (3, .int b2)]) hx hb d_Model_takes_47 hl (by decide) rfl (fun ls hl => ?_)
            obtain ⟨v_63, ev_63⟩ : ∃ z : Int32, z = y_33 + 1 := ⟨_, rfl⟩
            obtain ⟨qv_63, hv_63⟩ := zI_add (l := 1) (h := 241) hv_39 zc_1 ev_63 (by decide)
            rw [li_1] at qv_63
            refine lv_iinc (v := v_63) (lv' := [(5, .int v_63), (4, .int 1), (0, .ref b0), (1, .int 0), (2, .ref b1), (3, .int b2)]) hx hb d_Model_takes_49 hl (k := 1) rfl (by rw [ev_63]; rfl) (by decide) rfl (fun ls hl => ?_)
            refine lv_goto (tgt := 6) hx hb d_Model_takes_52 (by decide) ?_
            exact ihk_32 (v_63) (1) _ _ _ (zI.wk (l' := 0) (h' := 241) hv_63 (by decide)) (zI.wk (l' := 0) (h' := 1) zc_1 (by decide)) (zm_up qv_63 hmk_32 (by decide)) (hP.sub [2, 0, 3, 1] rfl) (hD.sub [2, 0, 3, 1] (by decide) rfl) hS (lv_sub hl [0, 1, 2, 3, 4, 5] rfl)
theorem d_Model_nextLevel_140 : decode prog_14_method_62_code 140 = .ok (.return_, 1) := by decide +kernel
abbrev m_s9_Model_step : Room := { frames := 1, cells := 0, slots := 0, locals := 25 }
set_option maxHeartbeats 4000000 in
set_option maxRecDepth 100000 in
theorem s9_Model_step (l : Launch) (G : zG) (b0 : Nat) (b1 : Nat) (b2 : Int32) (b3 : Int32) (b4 : Int32) (b5 : Int32) (b6 : Int32) (b7 : Nat) (b8 : Nat) (b9 : Nat) (b10 : Nat) (b11 : Int32) (b12 : Nat) (b13 : Int32) (b14 : Int32) (b15 : Int32) (b16 : Int32) (b17 : Nat) (b18 : Nat) (b19 : Nat) (b20 : Int32) (b21 : Nat) (b22 : Nat) (b23 : Nat) (b24 : Nat) (b25 : Nat) (b26 : Nat) (b27 : Nat) (b28 : Nat) (b29 : Nat) (b30 : Nat) (b31 : Nat) (b32 : Nat) (b33 : Int32) (b34 : Nat) (b35 : Nat) (b36 : Int32) (b37 : Int32) (b38 : Int32) (b39 : Int32) (b40 : Nat) (b41 : Nat) (b42 : Nat) (b43 : Nat) (b44 : Nat) (b45 : Nat) (b46 : Int32) (b47 : Nat) (b48 : Nat) (b49 : Int32) (b50 : Nat) (b51 : Nat) (b52 : Nat) (b53 : Nat) (b54 : Nat) (b55 : Int32) (b56 : Nat) (b57 : Nat) (b58 : Nat) (b59 : Nat → Int32) (b60 : Nat → Int32) (b61 : Nat → Int32) (b62 : Nat → Int64) (b63 : Nat → Int64) (hb2 : zI b2 0 4000) (hb3 : zI b3 0 9) (hb4 : zI b4 0 0) (hb5 : zI b5 0 1) (hb11 : zI b11 0 8) (hb13 : zI b13 0 240) (hb14 : zI b14 0 240) (hb16 : zI b16 0 1) (hb20 : zI b20 0 12) (hb33 : zI b33 0 1) (hb36 : zI b36 0 1) (hb46 : zI b46 0 1000) (hb49 : zI b49 0 1000) (hb55 : zI b55 0 400) (hb59 : zW5 b59) (hb60 : zR b60 0 240) (hb61 : zqa qE b61) : zM l G y_Model_step prog_14_method_47_code 11 (Option.none : Option Jvm.ClassFile.FieldType) m_s9_Model_step [.ref b0, .int 0, .ref b1, .int b2, .int b3, .int b4, .int b5] [(b0, .inr (12, [.int b6, .ref b7, .ref b8, .ref b9, .ref b10, .int b11, .ref b12, .int b13, .int b14, .int b15, .int b16, .ref b17, .ref b18, .ref b19, .int b20, .ref b21, .ref b22, .ref b23, .ref b24, .ref b25, .ref b26, .ref b27, .ref b28, .ref b29, .ref b30, .ref b31, .ref b32, .int b33, .ref b34, .ref b35, .int b36, .int b37, .int b38, .int b39, .ref b40, .ref b41, .ref b42, .ref b43, .ref b44, .ref b1, .ref b45, .int b46, .ref b47, .ref b48, .int b49, .ref b50, .ref b51, .ref b52, .ref b53, .ref b54, .int b55, .ref b56, .ref b57, .ref b58])), (b7, .inl (G.2 0, 503, .inl b59)), (b31, .inl (G.2 0, 2, .inl b60)), (b32, .inl (G.2 0, 2880, .inl b61)), (b35, .inl (G.2 1, 4, .inr (.inl b62))), (b1, .inl (G.2 1, 4004, .inr (.inl b63)))] (fun v w => ∃ (e0 : Nat → Int64), v = none ∧ w = [(b0, .inr (12, [.int b6, .ref b7, .ref b8, .ref b9, .ref b10, .int b11, .ref b12, .int b13, .int b14, .int b15, .int b16, .ref b17, .ref b18, .ref b19, .int b20, .ref b21, .ref b22, .ref b23, .ref b24, .ref b25, .ref b26, .ref b27, .ref b28, .ref b29, .ref b30, .ref b31, .ref b32, .int b33, .ref b34, .ref b35, .int b36, .int b37, .int b38, .int b39, .ref b40, .ref b41, .ref b42, .ref b43, .ref b44, .ref b1, .ref b45, .int b46, .ref b47, .ref b48, .int b49, .ref b50, .ref b51, .ref b52, .ref b53, .ref b54, .int b55, .ref b56, .ref b57, .ref b58])), (b7, .inl (G.2 0, 503, .inl b59)), (b31, .inl (G.2 0, 2, .inl b60)), (b32, .inl (G.2 0, 2880, .inl b61)), (b35, .inl (G.2 1, 4, .inr (.inl e0))), (b1, .inl (G.2 1, 4004, .inr (.inl b63)))]) := by
  refine z_start (by decide +kernel) (Nat.le_of_ble_eq_true rfl) ?_
  intro p e s m below meth c A Z hr hnm hA hP hD hS ls hl
  have Z : zC p s m _ meth c prog_14_method_47_code 11 "TraceMachinesModel" G := Z
  obtain ⟨hx, hb, hml, hown, hts, hK, hN, hlocks⟩ := id Z
  have hl : lv_has ls 11 [(0, .ref b0), (1, .int 0), (2, .ref b1), (3, .int b2), (4, .int b3), (5, .int b4), (6, .int b5)] := hl
  refine lv_iconst (v := 0) hx hb d_Model_step_0 (by decide) ?_
  refine lv_istore (lv' := [(7, .int 0), (0, .ref b0), (1, .int 0), (2, .ref b1), (3, .int b2), (4, .int b3), (5, .int b4), (6, .int b5)]) hx hb d_Model_step_1 hl (by decide) rfl (fun ls hl => ?_)
  suffices key : ∀ (k_207 : Nat) (y_208 : Int32) (y_209 : Nat → Int64) (H : Heap) (locs : List Loc) (ls : Array Slot), (zI y_208 0 4) → (4 : Int) - y_208.toInt < (k_207 : Int) → va_P G.1 classes [(b0, .inr (12, [.int b6, .ref b7, .ref b8, .ref b9, .ref b10, .int b11, .ref b12, .int b13, .int b14, .int b15, .int b16, .ref b17, .ref b18, .ref b19, .int b20, .ref b21, .ref b22, .ref b23, .ref b24, .ref b25, .ref b26, .ref b27, .ref b28, .ref b29, .ref b30, .ref b31, .ref b32, .int b33, .ref b34, .ref b35, .int b36, .int b37, .int b38, .int b39, .ref b40, .ref b41, .ref b42, .ref b43, .ref b44, .ref b1, .ref b45, .int b46, .ref b47, .ref b48, .int b49, .ref b50, .ref b51, .ref b52, .ref b53, .ref b54, .int b55, .ref b56, .ref b57, .ref b58])), (b7, .inl (G.2 0, 503, .inl b59)), (b31, .inl (G.2 0, 2, .inl b60)), (b32, .inl (G.2 0, 2880, .inl b61)), (b35, .inl (G.2 1, 4, .inr (.inl y_209))), (b1, .inl (G.2 1, 4004, .inr (.inl b63)))] H → va_D A [(b0, .inr (12, [.int b6, .ref b7, .ref b8, .ref b9, .ref b10, .int b11, .ref b12, .int b13, .int b14, .int b15, .int b16, .ref b17, .ref b18, .ref b19, .int b20, .ref b21, .ref b22, .ref b23, .ref b24, .ref b25, .ref b26, .ref b27, .ref b28, .ref b29, .ref b30, .ref b31, .ref b32, .int b33, .ref b34, .ref b35, .int b36, .int b37, .int b38, .int b39, .ref b40, .ref b41, .ref b42, .ref b43, .ref b44, .ref b1, .ref b45, .int b46, .ref b47, .ref b48, .int b49, .ref b50, .ref b51, .ref b52, .ref b53, .ref b54, .int b55, .ref b56, .ref b57, .ref b58])), (b7, .inl (G.2 0, 503, .inl b59)), (b31, .inl (G.2 0, 2, .inl b60)), (b32, .inl (G.2 0, 2880, .inl b61)), (b35, .inl (G.2 1, 4, .inr (.inl y_209))), (b1, .inl (G.2 1, 4004, .inr (.inl b63)))] → va_S A s.heap H locs → lv_has ls 11 [(7, .int y_208), (0, .ref b0), (1, .int 0), (2, .ref b1), (3, .int b2), (4, .int b3), (5, .int b4), (6, .int b5)] → W p l e m_s9_Model_step s m ([.ref b0, .int 0, .ref b1, .int b2, .int b3, .int b4, .int b5] : List Value).toArray below meth c H locs 0 0 (MQ below (zQ G (fun v w => ∃ (e0 : Nat → Int64), v = none ∧ w = [(b0, .inr (12, [.int b6, .ref b7, .ref b8, .ref b9, .ref b10, .int b11, .ref b12, .int b13, .int b14, .int b15, .int b16, .ref b17, .ref b18, .ref b19, .int b20, .ref b21, .ref b22, .ref b23, .ref b24, .ref b25, .ref b26, .ref b27, .ref b28, .ref b29, .ref b30, .ref b31, .ref b32, .int b33, .ref b34, .ref b35, .int b36, .int b37, .int b38, .int b39, .ref b40, .ref b41, .ref b42, .ref b43, .ref b44, .ref b1, .ref b45, .int b46, .ref b47, .ref b48, .int b49, .ref b50, .ref b51, .ref b52, .ref b53, .ref b54, .int b55, .ref b56, .ref b57, .ref b58])), (b7, .inl (G.2 0, 503, .inl b59)), (b31, .inl (G.2 0, 2, .inl b60)), (b32, .inl (G.2 0, 2880, .inl b61)), (b35, .inl (G.2 1, 4, .inr (.inl e0))), (b1, .inl (G.2 1, 4004, .inr (.inl b63)))]) A) ([.ref b0, .int 0, .ref b1, .int b2, .int b3, .int b4, .int b5] : List Value).toArray s m_s9_Model_step.cells m_s9_Model_step.slots A) (F0 m 3 ls []) by
    exact key 5 (0) (b62) _ _ _ (zI.wk (l' := 0) (h' := 4) zc_0 (by decide)) (zm_upi (zI.wk (l' := 0) (h' := 4) zc_0 (by decide)) (by decide)) hP hD hS (lv_sub hl [0, 1, 2, 3, 4, 5, 6, 7] rfl)
  intro k_207
  induction k_207 with
  | zero =>
    intro y_208 y_209 H locs ls hy_208 hmk_207 hP hD hS hl
    exact (zm_up0 hy_208 hmk_207).elim
  | succ k_207 ihk_207 =>
    intro y_208 y_209 H locs ls hy_208 hmk_207 hP hD hS hl
    refine lv_iload hx hb d_Model_step_3 (lv_at hl 0 rfl) ?_
    refine lv_iconst (v := 4) hx hb d_Model_step_5 (by decide) ?_
    refine lv_icmp_ge (tgt := 23) hx hb d_Model_step_6 (by decide) (fun hc_210 => ?_) (fun hc_210 => ?_)
    · have _nhc_210 := hc_210
      have ni_211 := (fa_le _ _).mp hc_210
      rw [li_4] at ni_211
      have hv_212 : zI y_208 4 4 := zI.le_r zc_4 hy_208 hc_210 (by decide)
      refine lv_aload_n hx hb d_Model_step_23 rfl (lv_at hl 1 rfl) ?_
      refine va_get (D := G.1) (ci := 12) (v := .ref b7) (C := R_Model) (T := F_Model) (N := 54) hx hb hts i_Model hown hK hP 0 rfl rfl 1 (by decide) (hts _ q1110) (fun _ h9 => h9) rfl d_Model_step_24 ?_
      refine lv_sipush (v := 502) hx hb d_Model_step_27 (by decide) ?_
      refine va_iald hx hb hK hP 1 0 rfl rfl (i := 502) (z_in rfl) d_Model_step_30 ?_
      refine lv_topi (fun v_213 ev_213 => ?_)
      have hv_213 : zI v_213 0 20 := zW5.ld hb59 zc_502 ev_213 (by decide)
      refine lv_istore (lv' := [(7, .int v_213), (0, .ref b0), (1, .int 0), (2, .ref b1), (3, .int b2), (4, .int b3), (5, .int b4), (6, .int b5)]) hx hb d_Model_step_31 hl (by decide) rfl (fun ls hl => ?_)
      refine lv_iconst (v := 0) hx hb d_Model_step_33 (by decide) ?_
      refine lv_istore (lv' := [(8, .int 0), (7, .int v_213), (0, .ref b0), (1, .int 0), (2, .ref b1), (3, .int b2), (4, .int b3), (5, .int b4), (6, .int b5)]) hx hb d_Model_step_34 hl (by decide) rfl (fun ls hl => ?_)
      suffices key : ∀ (k_312 : Nat) (y_313 : Int32) (y_314 : Nat → Int64) (H : Heap) (locs : List Loc) (ls : Array Slot), (zI y_313 0 240) → (240 : Int) - y_313.toInt < (k_312 : Int) → va_P G.1 classes [(b0, .inr (12, [.int b6, .ref b7, .ref b8, .ref b9, .ref b10, .int b11, .ref b12, .int b13, .int b14, .int b15, .int b16, .ref b17, .ref b18, .ref b19, .int b20, .ref b21, .ref b22, .ref b23, .ref b24, .ref b25, .ref b26, .ref b27, .ref b28, .ref b29, .ref b30, .ref b31, .ref b32, .int b33, .ref b34, .ref b35, .int b36, .int b37, .int b38, .int b39, .ref b40, .ref b41, .ref b42, .ref b43, .ref b44, .ref b1, .ref b45, .int b46, .ref b47, .ref b48, .int b49, .ref b50, .ref b51, .ref b52, .ref b53, .ref b54, .int b55, .ref b56, .ref b57, .ref b58])), (b7, .inl (G.2 0, 503, .inl b59)), (b31, .inl (G.2 0, 2, .inl b60)), (b32, .inl (G.2 0, 2880, .inl b61)), (b35, .inl (G.2 1, 4, .inr (.inl y_314))), (b1, .inl (G.2 1, 4004, .inr (.inl b63)))] H → va_D A [(b0, .inr (12, [.int b6, .ref b7, .ref b8, .ref b9, .ref b10, .int b11, .ref b12, .int b13, .int b14, .int b15, .int b16, .ref b17, .ref b18, .ref b19, .int b20, .ref b21, .ref b22, .ref b23, .ref b24, .ref b25, .ref b26, .ref b27, .ref b28, .ref b29, .ref b30, .ref b31, .ref b32, .int b33, .ref b34, .ref b35, .int b36, .int b37, .int b38, .int b39, .ref b40, .ref b41, .ref b42, .ref b43, .ref b44, .ref b1, .ref b45, .int b46, .ref b47, .ref b48, .int b49, .ref b50, .ref b51, .ref b52, .ref b53, .ref b54, .int b55, .ref b56, .ref b57, .ref b58])), (b7, .inl (G.2 0, 503, .inl b59)), (b31, .inl (G.2 0, 2, .inl b60)), (b32, .inl (G.2 0, 2880, .inl b61)), (b35, .inl (G.2 1, 4, .inr (.inl y_314))), (b1, .inl (G.2 1, 4004, .inr (.inl b63)))] → va_S A s.heap H locs → lv_has ls 11 [(8, .int y_313), (7, .int v_213), (0, .ref b0), (1, .int 0), (2, .ref b1), (3, .int b2), (4, .int b3), (5, .int b4), (6, .int b5)] → W p l e m_s9_Model_step s m ([.ref b0, .int 0, .ref b1, .int b2, .int b3, .int b4, .int b5] : List Value).toArray below meth c H locs 0 0 (MQ below (zQ G (fun v w => ∃ (e0 : Nat → Int64), v = none ∧ w = [(b0, .inr (12, [.int b6, .ref b7, .ref b8, .ref b9, .ref b10, .int b11, .ref b12, .int b13, .int b14, .int b15, .int b16, .ref b17, .ref b18, .ref b19, .int b20, .ref b21, .ref b22, .ref b23, .ref b24, .ref b25, .ref b26, .ref b27, .ref b28, .ref b29, .ref b30, .ref b31, .ref b32, .int b33, .ref b34, .ref b35, .int b36, .int b37, .int b38, .int b39, .ref b40, .ref b41, .ref b42, .ref b43, .ref b44, .ref b1, .ref b45, .int b46, .ref b47, .ref b48, .int b49, .ref b50, .ref b51, .ref b52, .ref b53, .ref b54, .int b55, .ref b56, .ref b57, .ref b58])), (b7, .inl (G.2 0, 503, .inl b59)), (b31, .inl (G.2 0, 2, .inl b60)), (b32, .inl (G.2 0, 2880, .inl b61)), (b35, .inl (G.2 1, 4, .inr (.inl e0))), (b1, .inl (G.2 1, 4004, .inr (.inl b63)))]) A) ([.ref b0, .int 0, .ref b1, .int b2, .int b3, .int b4, .int b5] : List Value).toArray s m_s9_Model_step.cells m_s9_Model_step.slots A) (F0 m 36 ls []) by
        exact key 241 (0) (y_209) _ _ _ (zI.wk (l' := 0) (h' := 240) zc_0 (by decide)) (zm_upi (zI.wk (l' := 0) (h' := 240) zc_0 (by decide)) (by decide)) hP hD hS (lv_sub hl [0, 1, 2, 3, 4, 5, 6, 7, 8] rfl)
      intro k_312
      induction k_312 with
      | zero =>
        intro y_313 y_314 H locs ls hy_313 hmk_312 hP hD hS hl
        exact (zm_up0 hy_313 hmk_312).elim
      | succ k_312 ihk_312 =>
        intro y_313 y_314 H locs ls hy_313 hmk_312 hP hD hS hl
        refine lv_iload hx hb d_Model_step_36 (lv_at hl 0 rfl) ?_
        refine lv_aload_n hx hb d_Model_step_38 rfl (lv_at hl 2 rfl) ?_
        refine va_get (D := G.1) (ci := 12) (v := .ref b31) (C := R_Model) (T := F_Model) (N := 54) hx hb hts i_Model hown hK hP 0 rfl rfl 25 (by decide) (hts _ q1134) (fun _ h9 => h9) rfl d_Model_step_39 ?_
        refine lv_iload_n hx hb d_Model_step_42 rfl (lv_at hl 3 rfl) ?_
        refine va_iald hx hb hK hP 2 0 rfl rfl (i := 0) (z_in rfl) d_Model_step_43 ?_
        refine lv_topi (fun v_315 ev_315 => ?_)
        have hv_315 : zI v_315 0 240 := (hb60 _).eq ev_315
        refine lv_icmp_ge (tgt := 178) hx hb d_Model_step_44 (by decide) (fun hc_316 => ?_) (fun hc_316 => ?_)
        · have _nhc_316 := hc_316
          have ni_317 := (fa_le _ _).mp hc_316
          exact z_vret hx hb hr hlocks hP hD hS (Nat.le_of_ble_eq_true rfl) (Nat.le_of_ble_eq_true rfl) d_Model_step_178 ⟨y_314, rfl, rfl⟩
        · have _nhc_316 := hc_316
          have ni_318 := (fa_lt _ _).mp (zi_nle hc_316)
          have hv_319 : zI y_313 0 239 := zI.lt_l hy_313 hv_315 (zi_nle hc_316) (by decide)
          have hv_320 : zI v_315 1 240 := zI.lt_r hy_313 hv_315 (zi_nle hc_316) (by decide)
          refine lv_aload_n hx hb d_Model_step_47 rfl (lv_at hl 2 rfl) ?_
          refine lv_iload_n hx hb d_Model_step_48 rfl (lv_at hl 3 rfl) ?_
          refine lv_iload hx hb d_Model_step_49 (lv_at hl 0 rfl) ?_
          refine lv_iconst (v := 1) hx hb d_Model_step_51 (by decide) ?_
          refine z_callV (index := 225) (As := [.int 0, .int y_313, .int 1]) (rest := []) (wr := [(b7, .inl (G.2 0, 503, .inl b59)), (b31, .inl (G.2 0, 2, .inl b60)), (b35, .inl (G.2 1, 4, .inr (.inl y_314))), (b1, .inl (G.2 1, 4004, .inr (.inl b63)))]) Z (s5_Model_edgeAt l G (b0) (y_313) (b6) (b7) (b8) (b9) (b10) (b11) (b12) (b13) (b14) (b15) (b16) (b17) (b18) (b19) (b20) (b21) (b22) (b23) (b24) (b25) (b26) (b27) (b28) (b29) (b30) (b31) (b32) (b33) (b34) (b35) (b36) (b37) (b38) (b39) (b40) (b41) (b42) (b43) (b44) (b1) (b45) (b46) (b47) (b48) (b49) (b50) (b51) (b52) (b53) (b54) (b55) (b56) (b57) (b58) (b61) (zI.wk (l' := 0) (h' := 240) hv_319 (by decide)) hb11 hb13 hb14 hb16 hb20 hb33 hb36 hb46 hb49 hb55 hb61) hl.1 q1408 q1410 qs68 q14 q1411 ⟨by decide, by decide, by show _ = some 3; decide +kernel⟩ ⟨Nat.le_of_ble_eq_true rfl, Nat.le_of_ble_eq_true rfl⟩ ⟨Nat.le_of_ble_eq_true rfl, Nat.le_of_ble_eq_true rfl⟩ rfl (Nat.le_of_ble_eq_true rfl) d_Model_step_52 hP hD hS hA 0 12 rfl rfl rfl [0, 3] [1, 2, 4, 5] rfl rfl rfl rfl (by decide) (fun v w1 H locs hw_321 hP hD hS => ?_)
          obtain ⟨x_322, rfl, rfl, hx_322, hfx_323⟩ := hw_321
          have hP : va_P G.1 classes [(b7, .inl (G.2 0, 503, .inl b59)), (b31, .inl (G.2 0, 2, .inl b60)), (b35, .inl (G.2 1, 4, .inr (.inl y_314))), (b1, .inl (G.2 1, 4004, .inr (.inl b63))), (b0, .inr (12, [.int b6, .ref b7, .ref b8, .ref b9, .ref b10, .int b11, .ref b12, .int b13, .int b14, .int b15, .int b16, .ref b17, .ref b18, .ref b19, .int b20, .ref b21, .ref b22, .ref b23, .ref b24, .ref b25, .ref b26, .ref b27, .ref b28, .ref b29, .ref b30, .ref b31, .ref b32, .int b33, .ref b34, .ref b35, .int b36, .int b37, .int b38, .int b39, .ref b40, .ref b41, .ref b42, .ref b43, .ref b44, .ref b1, .ref b45, .int b46, .ref b47, .ref b48, .int b49, .ref b50, .ref b51, .ref b52, .ref b53, .ref b54, .int b55, .ref b56, .ref b57, .ref b58])), (b32, .inl (G.2 0, 2880, .inl b61))] H := hP
          have hD := z_tie hP hD rfl
          refine W.widen (k := 0) (n := 0) (Nat.le_of_ble_eq_true rfl) (Nat.le_of_ble_eq_true rfl) ?_
          refine lv_iload hx hb d_Model_step_55 (lv_at hl 6 rfl) ?_
          refine lv_icmp_ne (tgt := 80) hx hb d_Model_step_57 (by decide) (fun hc_324 => ?_) (fun hc_324 => ?_)
          · have _nhc_324 := hc_324
            have ni_325 : ¬ (x_322 : Int32).toInt = (b3 : Int32).toInt := fun z => hc_324 ((fa_eq _ _).mpr z)
            refine lv_iconst (v := 0) hx hb d_Model_step_80 (by decide) ?_
            refine lv_istore (lv' := [(9, .int 0), (8, .int y_313), (7, .int v_213), (0, .ref b0), (1, .int 0), (2, .ref b1), (3, .int b2), (4, .int b3), (5, .int b4), (6, .int b5)]) hx hb d_Model_step_81 hl (by decide) rfl (fun ls hl => ?_)
            refine lv_iload hx hb d_Model_step_83 (lv_at hl 0 rfl) ?_
            refine lv_if_eq (tgt := 130) hx hb d_Model_step_85 (by decide) (fun _ => ?_) (fun hc => absurd hc (by decide +kernel))
            refine lv_iconst (v := 0) hx hb d_Model_step_130 (by decide) ?_
            refine lv_istore (lv' := [(9, .int 0), (8, .int y_313), (7, .int v_213), (0, .ref b0), (1, .int 0), (2, .ref b1), (3, .int b2), (4, .int b3), (5, .int b4), (6, .int b5)]) hx hb d_Model_step_131 hl (by decide) rfl (fun ls hl => ?_)
            refine lv_aload_n hx hb d_Model_step_133 rfl (lv_at hl 3 rfl) ?_
            refine lv_iload_n hx hb d_Model_step_134 rfl (lv_at hl 4 rfl) ?_
            refine lv_iload hx hb d_Model_step_135 (lv_at hl 1 rfl) ?_
            refine lv_iconst (v := 2) hx hb d_Model_step_137 (by decide) ?_
            refine z_callV (index := 225) (As := [.int 0, .int y_313, .int 2]) (rest := []) (wr := [(b7, .inl (G.2 0, 503, .inl b59)), (b31, .inl (G.2 0, 2, .inl b60)), (b35, .inl (G.2 1, 4, .inr (.inl y_314))), (b1, .inl (G.2 1, 4004, .inr (.inl b63)))]) Z (s6_Model_edgeAt l G (b0) (y_313) (b6) (b7) (b8) (b9) (b10) (b11) (b12) (b13) (b14) (b15) (b16) (b17) (b18) (b19) (b20) (b21) (b22) (b23) (b24) (b25) (b26) (b27) (b28) (b29) (b30) (b31) (b32) (b33) (b34) (b35) (b36) (b37) (b38) (b39) (b40) (b41) (b42) (b43) (b44) (b1) (b45) (b46) (b47) (b48) (b49) (b50) (b51) (b52) (b53) (b54) (b55) (b56) (b57) (b58) (b61) (zI.wk (l' := 0) (h' := 240) hv_319 (by decide)) hb11 hb13 hb14 hb16 hb20 hb33 hb36 hb46 hb49 hb55 hb61) hl.1 q1408 q1410 qs68 q14 q1411 ⟨by decide, by decide, by show _ = some 3; decide +kernel⟩ ⟨Nat.le_of_ble_eq_true rfl, Nat.le_of_ble_eq_true rfl⟩ ⟨Nat.le_of_ble_eq_true rfl, Nat.le_of_ble_eq_true rfl⟩ rfl (Nat.le_of_ble_eq_true rfl) d_Model_step_138 hP hD hS hA 4 12 rfl rfl rfl [4, 5] [0, 1, 2, 3] rfl rfl rfl rfl (by decide) (fun v w1 H locs hw_326 hP hD hS => ?_)
            obtain ⟨x_327, rfl, rfl, hx_327, hfx_328⟩ := hw_326
            have hP : va_P G.1 classes [(b7, .inl (G.2 0, 503, .inl b59)), (b31, .inl (G.2 0, 2, .inl b60)), (b35, .inl (G.2 1, 4, .inr (.inl y_314))), (b1, .inl (G.2 1, 4004, .inr (.inl b63))), (b0, .inr (12, [.int b6, .ref b7, .ref b8, .ref b9, .ref b10, .int b11, .ref b12, .int b13, .int b14, .int b15, .int b16, .ref b17, .ref b18, .ref b19, .int b20, .ref b21, .ref b22, .ref b23, .ref b24, .ref b25, .ref b26, .ref b27, .ref b28, .ref b29, .ref b30, .ref b31, .ref b32, .int b33, .ref b34, .ref b35, .int b36, .int b37, .int b38, .int b39, .ref b40, .ref b41, .ref b42, .ref b43, .ref b44, .ref b1, .ref b45, .int b46, .ref b47, .ref b48, .int b49, .ref b50, .ref b51, .ref b52, .ref b53, .ref b54, .int b55, .ref b56, .ref b57, .ref b58])), (b32, .inl (G.2 0, 2880, .inl b61))] H := hP
            have hD := z_tie hP hD rfl
            refine W.widen (k := 0) (n := 0) (Nat.le_of_ble_eq_true rfl) (Nat.le_of_ble_eq_true rfl) ?_
            refine lv_istore (lv' := [(10, .int x_327), (9, .int 0), (8, .int y_313), (7, .int v_213), (0, .ref b0), (1, .int 0), (2, .ref b1), (3, .int b2), (4, .int b3), (5, .int b4), (6, .int b5)]) hx hb d_Model_step_141 hl (by decide) rfl (fun ls hl => ?_)
            refine lv_aload_n hx hb d_Model_step_143 rfl (lv_at hl 4 rfl) ?_
            refine va_get (D := G.1) (ci := 12) (v := .ref b35) (C := R_Model) (T := F_Model) (N := 54) hx hb hts i_Model hown hK hP 4 rfl rfl 29 (by decide) (hts _ q1138) (fun _ h9 => h9) rfl d_Model_step_144 ?_
            refine lv_iload hx hb d_Model_step_147 (lv_at hl 0 rfl) ?_
            refine lv_bipush (v := 64) hx hb d_Model_step_149 (by decide) ?_
            refine lv_idiv hx hb d_Model_step_151 (by decide +kernel) ?_
            refine lv_topi (fun v_329 ev_329 => ?_)
            obtain ⟨qv_329, hv_329⟩ := zI_div (l := 0) (h := 3) (d := 64) hx_327 rfl ev_329 (by decide)
            refine lv_dup2_11 hx hb d_Model_step_152 rfl rfl ?_
            refine va_lald hx hb hK hP 2 1 rfl rfl (zI.inn hv_329 (by decide)) d_Model_step_153 ?_
            refine lv_topl (fun v_330 ev_330 => ?_)
            refine lv_iload hx hb d_Model_step_154 (lv_at hl 1 rfl) ?_
            refine lv_if_eq (tgt := 169) hx hb d_Model_step_156 (by decide) (fun _ => ?_) (fun hc => absurd hc (by decide +kernel))
            refine lv_lconst (v := 0) hx hb d_Model_step_169 (by decide) ?_
            refine lv_lor hx hb d_Model_step_170 ?_
            refine lv_topl (fun v_331 ev_331 => ?_)
            refine va_last hx hb hK hP hD hS 2 1 rfl rfl (zI.inn hv_329 (by decide)) d_Model_step_171 (fun H locs hP hD hS => ?_)
            obtain ⟨f_332, hP, hD⟩ := z_newL 2 hP hD rfl
            have hP : va_P G.1 classes [(b7, .inl (G.2 0, 503, .inl b59)), (b31, .inl (G.2 0, 2, .inl b60)), (b35, .inl (G.2 1, 4, .inr (.inl f_332))), (b1, .inl (G.2 1, 4004, .inr (.inl b63))), (b0, .inr (12, [.int b6, .ref b7, .ref b8, .ref b9, .ref b10, .int b11, .ref b12, .int b13, .int b14, .int b15, .int b16, .ref b17, .ref b18, .ref b19, .int b20, .ref b21, .ref b22, .ref b23, .ref b24, .ref b25, .ref b26, .ref b27, .ref b28, .ref b29, .ref b30, .ref b31, .ref b32, .int b33, .ref b34, .ref b35, .int b36, .int b37, .int b38, .int b39, .ref b40, .ref b41, .ref b42, .ref b43, .ref b44, .ref b1, .ref b45, .int b46, .ref b47, .ref b48, .int b49, .ref b50, .ref b51, .ref b52, .ref b53, .ref b54, .int b55, .ref b56, .ref b57, .ref b58])), (b32, .inl (G.2 0, 2880, .inl b61))] H := hP
            have hD := z_tie hP hD rfl
            obtain ⟨v_333, ev_333⟩ : ∃ z : Int32, z = y_313 + 1 := ⟨_, rfl⟩
            obtain ⟨qv_333, hv_333⟩ := zI_add (l := 1) (h := 240) hv_319 zc_1 ev_333 (by decide)
            rw [li_1] at qv_333
            refine lv_iinc (v := v_333) (lv' := [(8, .int v_333), (10, .int x_327), (9, .int 0), (7, .int v_213), (0, .ref b0), (1, .int 0), (2, .ref b1), (3, .int b2), (4, .int b3), (5, .int b4), (6, .int b5)]) hx hb d_Model_step_172 hl (k := 2) rfl (by rw [ev_333]; rfl) (by decide) rfl (fun ls hl => ?_)
            refine lv_goto (tgt := 36) hx hb d_Model_step_175 (by decide) ?_
            exact ihk_312 (v_333) (f_332) _ _ _ (zI.wk (l' := 0) (h' := 240) hv_333 (by decide)) (zm_up qv_333 hmk_312 (by decide)) (hP.sub [4, 0, 1, 5, 2, 3] rfl) (hD.sub [4, 0, 1, 5, 2, 3] (by decide) rfl) hS (lv_sub hl [0, 3, 4, 5, 6, 7, 8, 9, 10] rfl)
          · have _nhc_324 := hc_324
            have ni_334 := (fa_eq _ _).mp hc_324
            refine lv_aload_n hx hb d_Model_step_60 rfl (lv_at hl 4 rfl) ?_
            refine lv_iload_n hx hb d_Model_step_61 rfl (lv_at hl 5 rfl) ?_
            refine lv_aload_n hx hb d_Model_step_62 rfl (lv_at hl 2 rfl) ?_
            refine lv_iload_n hx hb d_Model_step_63 rfl (lv_at hl 3 rfl) ?_
            refine lv_iload hx hb d_Model_step_64 (lv_at hl 0 rfl) ?_
            refine lv_iconst (v := 0) hx hb d_Model_step_66 (by decide) ?_
            refine z_callV (index := 225) (As := [.int 0, .int y_313, .int 0]) (rest := [.int b2, .ref b1]) (wr := [(b7, .inl (G.2 0, 503, .inl b59)), (b31, .inl (G.2 0, 2, .inl b60)), (b35, .inl (G.2 1, 4, .inr (.inl y_314))), (b1, .inl (G.2 1, 4004, .inr (.inl b63)))]) Z (s4_Model_edgeAt l G (b0) (y_313) (b6) (b7) (b8) (b9) (b10) (b11) (b12) (b13) (b14) (b15) (b16) (b17) (b18) (b19) (b20) (b21) (b22) (b23) (b24) (b25) (b26) (b27) (b28) (b29) (b30) (b31) (b32) (b33) (b34) (b35) (b36) (b37) (b38) (b39) (b40) (b41) (b42) (b43) (b44) (b1) (b45) (b46) (b47) (b48) (b49) (b50) (b51) (b52) (b53) (b54) (b55) (b56) (b57) (b58) (b61) (zI.wk (l' := 0) (h' := 240) hv_319 (by decide)) hb11 hb13 hb14 hb16 hb20 hb33 hb36 hb46 hb49 hb55 hb61) hl.1 q1408 q1410 qs68 q14 q1411 ⟨by decide, by decide, by show _ = some 3; decide +kernel⟩ ⟨Nat.le_of_ble_eq_true rfl, Nat.le_of_ble_eq_true rfl⟩ ⟨Nat.le_of_ble_eq_true rfl, Nat.le_of_ble_eq_true rfl⟩ rfl (Nat.le_of_ble_eq_true rfl) d_Model_step_67 hP hD hS hA 4 12 rfl rfl rfl [4, 5] [0, 1, 2, 3] rfl rfl rfl rfl (by decide) (fun v w1 H locs hw_335 hP hD hS => ?_)
            obtain ⟨x_336, rfl, rfl, hx_336, hfx_337⟩ := hw_335
            have hP : va_P G.1 classes [(b7, .inl (G.2 0, 503, .inl b59)), (b31, .inl (G.2 0, 2, .inl b60)), (b35, .inl (G.2 1, 4, .inr (.inl y_314))), (b1, .inl (G.2 1, 4004, .inr (.inl b63))), (b0, .inr (12, [.int b6, .ref b7, .ref b8, .ref b9, .ref b10, .int b11, .ref b12, .int b13, .int b14, .int b15, .int b16, .ref b17, .ref b18, .ref b19, .int b20, .ref b21, .ref b22, .ref b23, .ref b24, .ref b25, .ref b26, .ref b27, .ref b28, .ref b29, .ref b30, .ref b31, .ref b32, .int b33, .ref b34, .ref b35, .int b36, .int b37, .int b38, .int b39, .ref b40, .ref b41, .ref b42, .ref b43, .ref b44, .ref b1, .ref b45, .int b46, .ref b47, .ref b48, .int b49, .ref b50, .ref b51, .ref b52, .ref b53, .ref b54, .int b55, .ref b56, .ref b57, .ref b58])), (b32, .inl (G.2 0, 2880, .inl b61))] H := hP
            have hD := z_tie hP hD rfl
            refine W.widen (k := 0) (n := 0) (Nat.le_of_ble_eq_true rfl) (Nat.le_of_ble_eq_true rfl) ?_
            refine z_callS (index := 271) (As := [.ref b1, .int b2, .int x_336]) (rest := []) (wr := [(b7, .inl (G.2 0, 503, .inl b59)), (b31, .inl (G.2 0, 2, .inl b60)), (b35, .inl (G.2 1, 4, .inr (.inl y_314))), (b0, .inr (12, [.int b6, .ref b7, .ref b8, .ref b9, .ref b10, .int b11, .ref b12, .int b13, .int b14, .int b15, .int b16, .ref b17, .ref b18, .ref b19, .int b20, .ref b21, .ref b22, .ref b23, .ref b24, .ref b25, .ref b26, .ref b27, .ref b28, .ref b29, .ref b30, .ref b31, .ref b32, .int b33, .ref b34, .ref b35, .int b36, .int b37, .int b38, .int b39, .ref b40, .ref b41, .ref b42, .ref b43, .ref b44, .ref b1, .ref b45, .int b46, .ref b47, .ref b48, .int b49, .ref b50, .ref b51, .ref b52, .ref b53, .ref b54, .int b55, .ref b56, .ref b57, .ref b58])), (b32, .inl (G.2 0, 2880, .inl b61))]) Z (s4_Model_has l G (b1) (b2) (x_336) (b63) hb2 hx_336) hl.1 q1464 q1465 q14 q1466 ⟨by decide, by decide, by show _ = some 3; decide +kernel⟩ ⟨Nat.le_of_ble_eq_true rfl, Nat.le_of_ble_eq_true rfl⟩ ⟨Nat.le_of_ble_eq_true rfl, Nat.le_of_ble_eq_true rfl⟩ rfl (Nat.le_of_ble_eq_true rfl) d_Model_step_70 hP hD hS hA [3] [0, 1, 2, 4, 5] rfl rfl rfl rfl (by decide) (fun v w1 H locs hw_338 hP hD hS => ?_)
            obtain ⟨x_339, rfl, rfl, hx_339⟩ := hw_338
            have hP : va_P G.1 classes [(b7, .inl (G.2 0, 503, .inl b59)), (b31, .inl (G.2 0, 2, .inl b60)), (b35, .inl (G.2 1, 4, .inr (.inl y_314))), (b0, .inr (12, [.int b6, .ref b7, .ref b8, .ref b9, .ref b10, .int b11, .ref b12, .int b13, .int b14, .int b15, .int b16, .ref b17, .ref b18, .ref b19, .int b20, .ref b21, .ref b22, .ref b23, .ref b24, .ref b25, .ref b26, .ref b27, .ref b28, .ref b29, .ref b30, .ref b31, .ref b32, .int b33, .ref b34, .ref b35, .int b36, .int b37, .int b38, .int b39, .ref b40, .ref b41, .ref b42, .ref b43, .ref b44, .ref b1, .ref b45, .int b46, .ref b47, .ref b48, .int b49, .ref b50, .ref b51, .ref b52, .ref b53, .ref b54, .int b55, .ref b56, .ref b57, .ref b58])), (b32, .inl (G.2 0, 2880, .inl b61)), (b1, .inl (G.2 1, 4004, .inr (.inl b63)))] H := hP
            have hD := z_tie hP hD rfl
            refine W.widen (k := 0) (n := 0) (Nat.le_of_ble_eq_true rfl) (Nat.le_of_ble_eq_true rfl) ?_
            refine lv_if_eq (tgt := 80) hx hb d_Model_step_73 (by decide) (fun hc_340 => ?_) (fun hc_340 => ?_)
            · have _nhc_340 := hc_340
              have ni_341 := (fa_eq _ _).mp hc_340
              rw [li_0] at ni_341
              have hv_342 : zI x_339 0 0 := zI.eq_l hx_339 zc_0 hc_340
              refine lv_iconst (v := 0) hx hb d_Model_step_80 (by decide) ?_
              refine lv_istore (lv' := [(9, .int 0), (8, .int y_313), (7, .int v_213), (0, .ref b0), (1, .int 0), (2, .ref b1), (3, .int b2), (4, .int b3), (5, .int b4), (6, .int b5)]) hx hb d_Model_step_81 hl (by decide) rfl (fun ls hl => ?_)
              refine lv_iload hx hb d_Model_step_83 (lv_at hl 0 rfl) ?_
              refine lv_if_eq (tgt := 130) hx hb d_Model_step_85 (by decide) (fun _ => ?_) (fun hc => absurd hc (by decide +kernel))
              refine lv_iconst (v := 0) hx hb d_Model_step_130 (by decide) ?_
              refine lv_istore (lv' := [(9, .int 0), (8, .int y_313), (7, .int v_213), (0, .ref b0), (1, .int 0), (2, .ref b1), (3, .int b2), (4, .int b3), (5, .int b4), (6, .int b5)]) hx hb d_Model_step_131 hl (by decide) rfl (fun ls hl => ?_)
              refine lv_aload_n hx hb d_Model_step_133 rfl (lv_at hl 3 rfl) ?_
              refine lv_iload_n hx hb d_Model_step_134 rfl (lv_at hl 4 rfl) ?_
              refine lv_iload hx hb d_Model_step_135 (lv_at hl 1 rfl) ?_
              refine lv_iconst (v := 2) hx hb d_Model_step_137 (by decide) ?_
              refine z_callV (index := 225) (As := [.int 0, .int y_313, .int 2]) (rest := []) (wr := [(b7, .inl (G.2 0, 503, .inl b59)), (b31, .inl (G.2 0, 2, .inl b60)), (b35, .inl (G.2 1, 4, .inr (.inl y_314))), (b1, .inl (G.2 1, 4004, .inr (.inl b63)))]) Z (s6_Model_edgeAt l G (b0) (y_313) (b6) (b7) (b8) (b9) (b10) (b11) (b12) (b13) (b14) (b15) (b16) (b17) (b18) (b19) (b20) (b21) (b22) (b23) (b24) (b25) (b26) (b27) (b28) (b29) (b30) (b31) (b32) (b33) (b34) (b35) (b36) (b37) (b38) (b39) (b40) (b41) (b42) (b43) (b44) (b1) (b45) (b46) (b47) (b48) (b49) (b50) (b51) (b52) (b53) (b54) (b55) (b56) (b57) (b58) (b61) (zI.wk (l' := 0) (h' := 240) hv_319 (by decide)) hb11 hb13 hb14 hb16 hb20 hb33 hb36 hb46 hb49 hb55 hb61) hl.1 q1408 q1410 qs68 q14 q1411 ⟨by decide, by decide, by show _ = some 3; decide +kernel⟩ ⟨Nat.le_of_ble_eq_true rfl, Nat.le_of_ble_eq_true rfl⟩ ⟨Nat.le_of_ble_eq_true rfl, Nat.le_of_ble_eq_true rfl⟩ rfl (Nat.le_of_ble_eq_true rfl) d_Model_step_138 hP hD hS hA 3 12 rfl rfl rfl [3, 4] [0, 1, 2, 5] rfl rfl rfl rfl (by decide) (fun v w1 H locs hw_343 hP hD hS => ?_)
              obtain ⟨x_344, rfl, rfl, hx_344, hfx_345⟩ := hw_343
              have hP : va_P G.1 classes [(b7, .inl (G.2 0, 503, .inl b59)), (b31, .inl (G.2 0, 2, .inl b60)), (b35, .inl (G.2 1, 4, .inr (.inl y_314))), (b1, .inl (G.2 1, 4004, .inr (.inl b63))), (b0, .inr (12, [.int b6, .ref b7, .ref b8, .ref b9, .ref b10, .int b11, .ref b12, .int b13, .int b14, .int b15, .int b16, .ref b17, .ref b18, .ref b19, .int b20, .ref b21, .ref b22, .ref b23, .ref b24, .ref b25, .ref b26, .ref b27, .ref b28, .ref b29, .ref b30, .ref b31, .ref b32, .int b33, .ref b34, .ref b35, .int b36, .int b37, .int b38, .int b39, .ref b40, .ref b41, .ref b42, .ref b43, .ref b44, .ref b1, .ref b45, .int b46, .ref b47, .ref b48, .int b49, .ref b50, .ref b51, .ref b52, .ref b53, .ref b54, .int b55, .ref b56, .ref b57, .ref b58])), (b32, .inl (G.2 0, 2880, .inl b61))] H := hP
              have hD := z_tie hP hD rfl
              refine W.widen (k := 0) (n := 0) (Nat.le_of_ble_eq_true rfl) (Nat.le_of_ble_eq_true rfl) ?_
              refine lv_istore (lv' := [(10, .int x_344), (9, .int 0), (8, .int y_313), (7, .int v_213), (0, .ref b0), (1, .int 0), (2, .ref b1), (3, .int b2), (4, .int b3), (5, .int b4), (6, .int b5)]) hx hb d_Model_step_141 hl (by decide) rfl (fun ls hl => ?_)
              refine lv_aload_n hx hb d_Model_step_143 rfl (lv_at hl 4 rfl) ?_
              refine va_get (D := G.1) (ci := 12) (v := .ref b35) (C := R_Model) (T := F_Model) (N := 54) hx hb hts i_Model hown hK hP 4 rfl rfl 29 (by decide) (hts _ q1138) (fun _ h9 => h9) rfl d_Model_step_144 ?_
              refine lv_iload hx hb d_Model_step_147 (lv_at hl 0 rfl) ?_
              refine lv_bipush (v := 64) hx hb d_Model_step_149 (by decide) ?_
              refine lv_idiv hx hb d_Model_step_151 (by decide +kernel) ?_
              refine lv_topi (fun v_346 ev_346 => ?_)
              obtain ⟨qv_346, hv_346⟩ := zI_div (l := 0) (h := 3) (d := 64) hx_344 rfl ev_346 (by decide)
              refine lv_dup2_11 hx hb d_Model_step_152 rfl rfl ?_
              refine va_lald hx hb hK hP 2 1 rfl rfl (zI.inn hv_346 (by decide)) d_Model_step_153 ?_
              refine lv_topl (fun v_347 ev_347 => ?_)
              refine lv_iload hx hb d_Model_step_154 (lv_at hl 1 rfl) ?_
              refine lv_if_eq (tgt := 169) hx hb d_Model_step_156 (by decide) (fun _ => ?_) (fun hc => absurd hc (by decide +kernel))
              refine lv_lconst (v := 0) hx hb d_Model_step_169 (by decide) ?_
              refine lv_lor hx hb d_Model_step_170 ?_
              refine lv_topl (fun v_348 ev_348 => ?_)
              refine va_last hx hb hK hP hD hS 2 1 rfl rfl (zI.inn hv_346 (by decide)) d_Model_step_171 (fun H locs hP hD hS => ?_)
              obtain ⟨f_349, hP, hD⟩ := z_newL 2 hP hD rfl
              have hP : va_P G.1 classes [(b7, .inl (G.2 0, 503, .inl b59)), (b31, .inl (G.2 0, 2, .inl b60)), (b35, .inl (G.2 1, 4, .inr (.inl f_349))), (b1, .inl (G.2 1, 4004, .inr (.inl b63))), (b0, .inr (12, [.int b6, .ref b7, .ref b8, .ref b9, .ref b10, .int b11, .ref b12, .int b13, .int b14, .int b15, .int b16, .ref b17, .ref b18, .ref b19, .int b20, .ref b21, .ref b22, .ref b23, .ref b24, .ref b25, .ref b26, .ref b27, .ref b28, .ref b29, .ref b30, .ref b31, .ref b32, .int b33, .ref b34, .ref b35, .int b36, .int b37, .int b38, .int b39, .ref b40, .ref b41, .ref b42, .ref b43, .ref b44, .ref b1, .ref b45, .int b46, .ref b47, .ref b48, .int b49, .ref b50, .ref b51, .ref b52, .ref b53, .ref b54, .int b55, .ref b56, .ref b57, .ref b58])), (b32, .inl (G.2 0, 2880, .inl b61))] H := hP
              have hD := z_tie hP hD rfl
              obtain ⟨v_350, ev_350⟩ : ∃ z : Int32, z = y_313 + 1 := ⟨_, rfl⟩
              obtain ⟨qv_350, hv_350⟩ := zI_add (l := 1) (h := 240) hv_319 zc_1 ev_350 (by decide)
              rw [li_1] at qv_350
              refine lv_iinc (v := v_350) (lv' := [(8, .int v_350), (10, .int x_344), (9, .int 0), (7, .int v_213), (0, .ref b0), (1, .int 0), (2, .ref b1), (3, .int b2), (4, .int b3), (5, .int b4), (6, .int b5)]) hx hb d_Model_step_172 hl (k := 2) rfl (by rw [ev_350]; rfl) (by decide) rfl (fun ls hl => ?_)
              refine lv_goto (tgt := 36) hx hb d_Model_step_175 (by decide) ?_
              exact ihk_312 (v_350) (f_349) _ _ _ (zI.wk (l' := 0) (h' := 240) hv_350 (by decide)) (zm_up qv_350 hmk_312 (by decide)) (hP.sub [4, 0, 1, 5, 2, 3] rfl) (hD.sub [4, 0, 1, 5, 2, 3] (by decide) rfl) hS (lv_sub hl [0, 3, 4, 5, 6, 7, 8, 9, 10] rfl)
            · have _nhc_340 := hc_340
              have ni_351 : ¬ (x_339 : Int32).toInt = (0 : Int32).toInt := fun z => hc_340 ((fa_eq _ _).mpr z)
              simp only [li_0] at ni_351
              have hv_352 : zI x_339 1 1 := zI.ne_lo hx_339 zc_0 hc_340 (by decide)
              refine lv_iconst (v := 1) hx hb d_Model_step_76 (by decide) ?_
              refine lv_goto (tgt := 81) hx hb d_Model_step_77 (by decide) ?_
              refine lv_istore (lv' := [(9, .int 1), (8, .int y_313), (7, .int v_213), (0, .ref b0), (1, .int 0), (2, .ref b1), (3, .int b2), (4, .int b3), (5, .int b4), (6, .int b5)]) hx hb d_Model_step_81 hl (by decide) rfl (fun ls hl => ?_)
              refine lv_iload hx hb d_Model_step_83 (lv_at hl 0 rfl) ?_
              refine lv_if_eq (tgt := 130) hx hb d_Model_step_85 (by decide) (fun hc => absurd hc (by decide +kernel)) (fun _ => ?_)
              refine lv_iload hx hb d_Model_step_88 (lv_at hl 9 rfl) ?_
              refine lv_if_eq (tgt := 126) hx hb d_Model_step_90 (by decide) (fun hc_353 => ?_) (fun hc_353 => ?_)
              · have _nhc_353 := hc_353
                have ni_354 := (fa_eq _ _).mp hc_353
                rw [li_0] at ni_354
                have hv_355 : zI b5 0 0 := zI.eq_l hb5 zc_0 hc_353
                refine lv_iconst (v := 1) hx hb d_Model_step_126 (by decide) ?_
                refine lv_goto (tgt := 131) hx hb d_Model_step_127 (by decide) ?_
                refine lv_istore (lv' := [(9, .int 1), (8, .int y_313), (7, .int v_213), (0, .ref b0), (1, .int 0), (2, .ref b1), (3, .int b2), (4, .int b3), (5, .int b4), (6, .int b5)]) hx hb d_Model_step_131 hl (by decide) rfl (fun ls hl => ?_)
                refine lv_aload_n hx hb d_Model_step_133 rfl (lv_at hl 3 rfl) ?_
                refine lv_iload_n hx hb d_Model_step_134 rfl (lv_at hl 4 rfl) ?_
                refine lv_iload hx hb d_Model_step_135 (lv_at hl 1 rfl) ?_
                refine lv_iconst (v := 2) hx hb d_Model_step_137 (by decide) ?_
                refine z_callV (index := 225) (As := [.int 0, .int y_313, .int 2]) (rest := []) (wr := [(b7, .inl (G.2 0, 503, .inl b59)), (b31, .inl (G.2 0, 2, .inl b60)), (b35, .inl (G.2 1, 4, .inr (.inl y_314))), (b1, .inl (G.2 1, 4004, .inr (.inl b63)))]) Z (s6_Model_edgeAt l G (b0) (y_313) (b6) (b7) (b8) (b9) (b10) (b11) (b12) (b13) (b14) (b15) (b16) (b17) (b18) (b19) (b20) (b21) (b22) (b23) (b24) (b25) (b26) (b27) (b28) (b29) (b30) (b31) (b32) (b33) (b34) (b35) (b36) (b37) (b38) (b39) (b40) (b41) (b42) (b43) (b44) (b1) (b45) (b46) (b47) (b48) (b49) (b50) (b51) (b52) (b53) (b54) (b55) (b56) (b57) (b58) (b61) (zI.wk (l' := 0) (h' := 240) hv_319 (by decide)) hb11 hb13 hb14 hb16 hb20 hb33 hb36 hb46 hb49 hb55 hb61) hl.1 q1408 q1410 qs68 q14 q1411 ⟨by decide, by decide, by show _ = some 3; decide +kernel⟩ ⟨Nat.le_of_ble_eq_true rfl, Nat.le_of_ble_eq_true rfl⟩ ⟨Nat.le_of_ble_eq_true rfl, Nat.le_of_ble_eq_true rfl⟩ rfl (Nat.le_of_ble_eq_true rfl) d_Model_step_138 hP hD hS hA 3 12 rfl rfl rfl [3, 4] [0, 1, 2, 5] rfl rfl rfl rfl (by decide) (fun v w1 H locs hw_356 hP hD hS => ?_)
                obtain ⟨x_357, rfl, rfl, hx_357, hfx_358⟩ := hw_356
                have hP : va_P G.1 classes [(b7, .inl (G.2 0, 503, .inl b59)), (b31, .inl (G.2 0, 2, .inl b60)), (b35, .inl (G.2 1, 4, .inr (.inl y_314))), (b1, .inl (G.2 1, 4004, .inr (.inl b63))), (b0, .inr (12, [.int b6, .ref b7, .ref b8, .ref b9, .ref b10, .int b11, .ref b12, .int b13, .int b14, .int b15, .int b16, .ref b17, .ref b18, .ref b19, .int b20, .ref b21, .ref b22, .ref b23, .ref b24, .ref b25, .ref b26, .ref b27, .ref b28, .ref b29, .ref b30, .ref b31, .ref b32, .int b33, .ref b34, .ref b35, .int b36, .int b37, .int b38, .int b39, .ref b40, .ref b41, .ref b42, .ref b43, .ref b44, .ref b1, .ref b45, .int b46, .ref b47, .ref b48, .int b49, .ref b50, .ref b51, .ref b52, .ref b53, .ref b54, .int b55, .ref b56, .ref b57, .ref b58])), (b32, .inl (G.2 0, 2880, .inl b61))] H := hP
                have hD := z_tie hP hD rfl
                refine W.widen (k := 0) (n := 0) (Nat.le_of_ble_eq_true rfl) (Nat.le_of_ble_eq_true rfl) ?_
                refine lv_istore (lv' := [(10, .int x_357), (9, .int 1), (8, .int y_313), (7, .int v_213), (0, .ref b0), (1, .int 0), (2, .ref b1), (3, .int b2), (4, .int b3), (5, .int b4), (6, .int b5)]) hx hb d_Model_step_141 hl (by decide) rfl (fun ls hl => ?_)
                refine lv_aload_n hx hb d_Model_step_143 rfl (lv_at hl 4 rfl) ?_
                refine va_get (D := G.1) (ci := 12) (v := .ref b35) (C := R_Model) (T := F_Model) (N := 54) hx hb hts i_Model hown hK hP 4 rfl rfl 29 (by decide) (hts _ q1138) (fun _ h9 => h9) rfl d_Model_step_144 ?_
                refine lv_iload hx hb d_Model_step_147 (lv_at hl 0 rfl) ?_
                refine lv_bipush (v := 64) hx hb d_Model_step_149 (by decide) ?_
                refine lv_idiv hx hb d_Model_step_151 (by decide +kernel) ?_
                refine lv_topi (fun v_359 ev_359 => ?_)
                obtain ⟨qv_359, hv_359⟩ := zI_div (l := 0) (h := 3) (d := 64) hx_357 rfl ev_359 (by decide)
                refine lv_dup2_11 hx hb d_Model_step_152 rfl rfl ?_
                refine va_lald hx hb hK hP 2 1 rfl rfl (zI.inn hv_359 (by decide)) d_Model_step_153 ?_
                refine lv_topl (fun v_360 ev_360 => ?_)
                refine lv_iload hx hb d_Model_step_154 (lv_at hl 1 rfl) ?_
                refine lv_if_eq (tgt := 169) hx hb d_Model_step_156 (by decide) (fun hc => absurd hc (by decide +kernel)) (fun _ => ?_)
                refine lv_lconst (v := 1) hx hb d_Model_step_159 (by decide) ?_
                refine lv_iload hx hb d_Model_step_160 (lv_at hl 0 rfl) ?_
                refine lv_bipush (v := 64) hx hb d_Model_step_162 (by decide) ?_
                refine lv_irem hx hb d_Model_step_164 (by decide +kernel) ?_
                refine lv_topi (fun v_361 ev_361 => ?_)
                obtain ⟨qv_361, hv_361⟩ := zI_rem (h := 63) (d := 64) hx_357 rfl ev_361 (by decide)
                obtain ⟨v_362, ev_362⟩ : ∃ z : Int64, z = 1 <<< ((v_361 : Int32).toInt64 &&& 63) := ⟨_, rfl⟩
                refine lv_lshl (v := v_362) hx hb d_Model_step_165 ev_362.symm ?_
                refine lv_goto (tgt := 170) hx hb d_Model_step_166 (by decide) ?_
                refine lv_lor hx hb d_Model_step_170 ?_
                refine lv_topl (fun v_363 ev_363 => ?_)
                refine va_last hx hb hK hP hD hS 2 1 rfl rfl (zI.inn hv_359 (by decide)) d_Model_step_171 (fun H locs hP hD hS => ?_)
                obtain ⟨f_364, hP, hD⟩ := z_newL 2 hP hD rfl
                have hP : va_P G.1 classes [(b7, .inl (G.2 0, 503, .inl b59)), (b31, .inl (G.2 0, 2, .inl b60)), (b35, .inl (G.2 1, 4, .inr (.inl f_364))), (b1, .inl (G.2 1, 4004, .inr (.inl b63))), (b0, .inr (12, [.int b6, .ref b7, .ref b8, .ref b9, .ref b10, .int b11, .ref b12, .int b13, .int b14, .int b15, .int b16, .ref b17, .ref b18, .ref b19, .int b20, .ref b21, .ref b22, .ref b23, .ref b24, .ref b25, .ref b26, .ref b27, .ref b28, .ref b29, .ref b30, .ref b31, .ref b32, .int b33, .ref b34, .ref b35, .int b36, .int b37, .int b38, .int b39, .ref b40, .ref b41, .ref b42, .ref b43, .ref b44, .ref b1, .ref b45, .int b46, .ref b47, .ref b48, .int b49, .ref b50, .ref b51, .ref b52, .ref b53, .ref b54, .int b55, .ref b56, .ref b57, .ref b58])), (b32, .inl (G.2 0, 2880, .inl b61))] H := hP
                have hD := z_tie hP hD rfl
                obtain ⟨v_365, ev_365⟩ : ∃ z : Int32, z = y_313 + 1 := ⟨_, rfl⟩
                obtain ⟨qv_365, hv_365⟩ := zI_add (l := 1) (h := 240) hv_319 zc_1 ev_365 (by decide)
                rw [li_1] at qv_365
                refine lv_iinc (v := v_365) (lv' := [(8, .int v_365), (10, .int x_357), (9, .int 1), (7, .int v_213), (0, .ref b0), (1, .int 0), (2, .ref b1), (3, .int b2), (4, .int b3), (5, .int b4), (6, .int b5)]) hx hb d_Model_step_172 hl (k := 2) rfl (by rw [ev_365]; rfl) (by decide) rfl (fun ls hl => ?_)
                refine lv_goto (tgt := 36) hx hb d_Model_step_175 (by decide) ?_
                exact ihk_312 (v_365) (f_364) _ _ _ (zI.wk (l' := 0) (h' := 240) hv_365 (by decide)) (zm_up qv_365 hmk_312 (by decide)) (hP.sub [4, 0, 1, 5, 2, 3] rfl) (hD.sub [4, 0, 1, 5, 2, 3] (by decide) rfl) hS (lv_sub hl [0, 3, 4, 5, 6, 7, 8, 9, 10] rfl)
              · have _nhc_353 := hc_353
                have ni_366 : ¬ (b5 : Int32).toInt = (0 : Int32).toInt := fun z => hc_353 ((fa_eq _ _).mpr z)
                simp only [li_0] at ni_366
                have hv_367 : zI b5 1 1 := zI.ne_lo hb5 zc_0 hc_353 (by decide)
                refine lv_iload hx hb d_Model_step_93 (lv_at hl 8 rfl) ?_
                refine lv_i2l (v := b4.toInt64) hx hb d_Model_step_95 rfl ?_
                refine lv_aload_n hx hb d_Model_step_96 rfl (lv_at hl 3 rfl) ?_
                refine lv_iload_n hx hb d_Model_step_97 rfl (lv_at hl 4 rfl) ?_
                refine lv_iload hx hb d_Model_step_98 (lv_at hl 1 rfl) ?_
                refine lv_iconst (v := 4) hx hb d_Model_step_100 (by decide) ?_
                refine z_callV (index := 225) (As := [.int 0, .int y_313, .int 4]) (rest := [.long b4.toInt64]) (wr := [(b7, .inl (G.2 0, 503, .inl b59)), (b31, .inl (G.2 0, 2, .inl b60)), (b35, .inl (G.2 1, 4, .inr (.inl y_314))), (b1, .inl (G.2 1, 4004, .inr (.inl b63)))]) Z (s16_Model_edgeAt l G (b0) (y_313) (4) (b6) (b7) (b8) (b9) (b10) (b11) (b12) (b13) (b14) (b15) (b16) (b17) (b18) (b19) (b20) (b21) (b22) (b23) (b24) (b25) (b26) (b27) (b28) (b29) (b30) (b31) (b32) (b33) (b34) (b35) (b36) (b37) (b38) (b39) (b40) (b41) (b42) (b43) (b44) (b1) (b45) (b46) (b47) (b48) (b49) (b50) (b51) (b52) (b53) (b54) (b55) (b56) (b57) (b58) (b61) (zI.wk (l' := 0) (h' := 240) hv_319 (by decide)) (zI.wk (l' := 0) (h' := 5) zc_4 (by decide)) hb11 hb13 hb14 hb16 hb20 hb33 hb36 hb46 hb49 hb55 hb61) hl.1 q1408 q1410 qs68 q14 q1411 ⟨by decide, by decide, by show _ = some 3; decide +kernel⟩ ⟨Nat.le_of_ble_eq_true rfl, Nat.le_of_ble_eq_true rfl⟩ ⟨Nat.le_of_ble_eq_true rfl, Nat.le_of_ble_eq_true rfl⟩ rfl (Nat.le_of_ble_eq_true rfl) d_Model_step_101 hP hD hS hA 3 12 rfl rfl rfl [3, 4] [0, 1, 2, 5] rfl rfl rfl rfl (by decide) (fun v w1 H locs hw_368 hP hD hS => ?_)
                obtain ⟨x_369, rfl, rfl⟩ := hw_368
                have hP : va_P G.1 classes [(b7, .inl (G.2 0, 503, .inl b59)), (b31, .inl (G.2 0, 2, .inl b60)), (b35, .inl (G.2 1, 4, .inr (.inl y_314))), (b1, .inl (G.2 1, 4004, .inr (.inl b63))), (b0, .inr (12, [.int b6, .ref b7, .ref b8, .ref b9, .ref b10, .int b11, .ref b12, .int b13, .int b14, .int b15, .int b16, .ref b17, .ref b18, .ref b19, .int b20, .ref b21, .ref b22, .ref b23, .ref b24, .ref b25, .ref b26, .ref b27, .ref b28, .ref b29, .ref b30, .ref b31, .ref b32, .int b33, .ref b34, .ref b35, .int b36, .int b37, .int b38, .int b39, .ref b40, .ref b41, .ref b42, .ref b43, .ref b44, .ref b1, .ref b45, .int b46, .ref b47, .ref b48, .int b49, .ref b50, .ref b51, .ref b52, .ref b53, .ref b54, .int b55, .ref b56, .ref b57, .ref b58])), (b32, .inl (G.2 0, 2880, .inl b61))] H := hP
                have hD := z_tie hP hD rfl
                refine W.widen (k := 0) (n := 0) (Nat.le_of_ble_eq_true rfl) (Nat.le_of_ble_eq_true rfl) ?_
                refine lv_iload hx hb d_Model_step_104 (lv_at hl 2 rfl) ?_
                refine lv_isub hx hb d_Model_step_106 ?_
                refine lv_topi (fun v_370 ev_370 => ?_)
                refine lv_i2l (v := v_370.toInt64) hx hb d_Model_step_107 rfl ?_
                refine lv_aload_n hx hb d_Model_step_108 rfl (lv_at hl 3 rfl) ?_
                refine lv_iload_n hx hb d_Model_step_109 rfl (lv_at hl 4 rfl) ?_
                refine lv_iload hx hb d_Model_step_110 (lv_at hl 1 rfl) ?_
                refine lv_iconst (v := 5) hx hb d_Model_step_112 (by decide) ?_
                refine z_callV (index := 225) (As := [.int 0, .int y_313, .int 5]) (rest := [.long v_370.toInt64, .long b4.toInt64]) (wr := [(b7, .inl (G.2 0, 503, .inl b59)), (b31, .inl (G.2 0, 2, .inl b60)), (b35, .inl (G.2 1, 4, .inr (.inl y_314))), (b1, .inl (G.2 1, 4004, .inr (.inl b63)))]) Z (s16_Model_edgeAt l G (b0) (y_313) (5) (b6) (b7) (b8) (b9) (b10) (b11) (b12) (b13) (b14) (b15) (b16) (b17) (b18) (b19) (b20) (b21) (b22) (b23) (b24) (b25) (b26) (b27) (b28) (b29) (b30) (b31) (b32) (b33) (b34) (b35) (b36) (b37) (b38) (b39) (b40) (b41) (b42) (b43) (b44) (b1) (b45) (b46) (b47) (b48) (b49) (b50) (b51) (b52) (b53) (b54) (b55) (b56) (b57) (b58) (b61) (zI.wk (l' := 0) (h' := 240) hv_319 (by decide)) (zI.wk (l' := 0) (h' := 5) zc_5 (by decide)) hb11 hb13 hb14 hb16 hb20 hb33 hb36 hb46 hb49 hb55 hb61) hl.1 q1408 q1410 qs68 q14 q1411 ⟨by decide, by decide, by show _ = some 3; decide +kernel⟩ ⟨Nat.le_of_ble_eq_true rfl, Nat.le_of_ble_eq_true rfl⟩ ⟨Nat.le_of_ble_eq_true rfl, Nat.le_of_ble_eq_true rfl⟩ rfl (Nat.le_of_ble_eq_true rfl) d_Model_step_113 hP hD hS hA 4 12 rfl rfl rfl [4, 5] [0, 1, 2, 3] rfl rfl rfl rfl (by decide) (fun v w1 H locs hw_371 hP hD hS => ?_)
                obtain ⟨x_372, rfl, rfl⟩ := hw_371
                have hP : va_P G.1 classes [(b7, .inl (G.2 0, 503, .inl b59)), (b31, .inl (G.2 0, 2, .inl b60)), (b35, .inl (G.2 1, 4, .inr (.inl y_314))), (b1, .inl (G.2 1, 4004, .inr (.inl b63))), (b0, .inr (12, [.int b6, .ref b7, .ref b8, .ref b9, .ref b10, .int b11, .ref b12, .int b13, .int b14, .int b15, .int b16, .ref b17, .ref b18, .ref b19, .int b20, .ref b21, .ref b22, .ref b23, .ref b24, .ref b25, .ref b26, .ref b27, .ref b28, .ref b29, .ref b30, .ref b31, .ref b32, .int b33, .ref b34, .ref b35, .int b36, .int b37, .int b38, .int b39, .ref b40, .ref b41, .ref b42, .ref b43, .ref b44, .ref b1, .ref b45, .int b46, .ref b47, .ref b48, .int b49, .ref b50, .ref b51, .ref b52, .ref b53, .ref b54, .int b55, .ref b56, .ref b57, .ref b58])), (b32, .inl (G.2 0, 2880, .inl b61))] H := hP
                have hD := z_tie hP hD rfl
                refine W.widen (k := 0) (n := 0) (Nat.le_of_ble_eq_true rfl) (Nat.le_of_ble_eq_true rfl) ?_
                refine lv_iload hx hb d_Model_step_116 (lv_at hl 2 rfl) ?_
                refine lv_iadd hx hb d_Model_step_118 ?_
                refine lv_topi (fun v_373 ev_373 => ?_)
                refine lv_i2l (v := v_373.toInt64) hx hb d_Model_step_119 rfl ?_
                refine z_callS (index := 138) (As := [.long b4.toInt64, .long v_370.toInt64, .long v_373.toInt64]) (rest := []) (wr := [(b7, .inl (G.2 0, 503, .inl b59)), (b31, .inl (G.2 0, 2, .inl b60)), (b35, .inl (G.2 1, 4, .inr (.inl y_314))), (b1, .inl (G.2 1, 4004, .inr (.inl b63))), (b0, .inr (12, [.int b6, .ref b7, .ref b8, .ref b9, .ref b10, .int b11, .ref b12, .int b13, .int b14, .int b15, .int b16, .ref b17, .ref b18, .ref b19, .int b20, .ref b21, .ref b22, .ref b23, .ref b24, .ref b25, .ref b26, .ref b27, .ref b28, .ref b29, .ref b30, .ref b31, .ref b32, .int b33, .ref b34, .ref b35, .int b36, .int b37, .int b38, .int b39, .ref b40, .ref b41, .ref b42, .ref b43, .ref b44, .ref b1, .ref b45, .int b46, .ref b47, .ref b48, .int b49, .ref b50, .ref b51, .ref b52, .ref b53, .ref b54, .int b55, .ref b56, .ref b57, .ref b58])), (b32, .inl (G.2 0, 2880, .inl b61))]) Z (s2_Model_in l G (b4.toInt64) (v_370.toInt64) (v_373.toInt64)) hl.1 q1281 q1282 q14 q1283 ⟨by decide, by decide, by show _ = some 3; decide +kernel⟩ ⟨Nat.le_of_ble_eq_true rfl, Nat.le_of_ble_eq_true rfl⟩ ⟨Nat.le_of_ble_eq_true rfl, Nat.le_of_ble_eq_true rfl⟩ rfl (Nat.le_of_ble_eq_true rfl) d_Model_step_120 hP hD hS hA [] [0, 1, 2, 3, 4, 5] rfl rfl rfl rfl (by decide) (fun v w1 H locs hw_374 hP hD hS => ?_)
                rcases hw_374 with ⟨rfl, rfl, hq_375⟩ | ⟨rfl, rfl, hq_376, hq_377⟩ | ⟨rfl, rfl, hq_378, hq_379⟩
                · have hP : va_P G.1 classes [(b7, .inl (G.2 0, 503, .inl b59)), (b31, .inl (G.2 0, 2, .inl b60)), (b35, .inl (G.2 1, 4, .inr (.inl y_314))), (b1, .inl (G.2 1, 4004, .inr (.inl b63))), (b0, .inr (12, [.int b6, .ref b7, .ref b8, .ref b9, .ref b10, .int b11, .ref b12, .int b13, .int b14, .int b15, .int b16, .ref b17, .ref b18, .ref b19, .int b20, .ref b21, .ref b22, .ref b23, .ref b24, .ref b25, .ref b26, .ref b27, .ref b28, .ref b29, .ref b30, .ref b31, .ref b32, .int b33, .ref b34, .ref b35, .int b36, .int b37, .int b38, .int b39, .ref b40, .ref b41, .ref b42, .ref b43, .ref b44, .ref b1, .ref b45, .int b46, .ref b47, .ref b48, .int b49, .ref b50, .ref b51, .ref b52, .ref b53, .ref b54, .int b55, .ref b56, .ref b57, .ref b58])), (b32, .inl (G.2 0, 2880, .inl b61))] H := hP
                  have hD := z_tie hP hD rfl
                  try simp only [Int32.toInt_toInt64] at hq_375
                  have hv_380 : zI v_370 1 2147483647 := by have _a := hq_375; have _b := (zI_all v_370); have _c := (zI_i2l hb4 rfl).2; simp only [Int32.toInt_toInt64] at *; exact ⟨by omega, by omega⟩
                  refine W.widen (k := 0) (n := 0) (Nat.le_of_ble_eq_true rfl) (Nat.le_of_ble_eq_true rfl) ?_
                  refine lv_if_eq (tgt := 130) hx hb d_Model_step_123 (by decide) (fun _ => ?_) (fun hc => absurd hc (by decide +kernel))
                  refine lv_iconst (v := 0) hx hb d_Model_step_130 (by decide) ?_
                  refine lv_istore (lv' := [(9, .int 0), (8, .int y_313), (7, .int v_213), (0, .ref b0), (1, .int 0), (2, .ref b1), (3, .int b2), (4, .int b3), (5, .int b4), (6, .int b5)]) hx hb d_Model_step_131 hl (by decide) rfl (fun ls hl => ?_)
                  refine lv_aload_n hx hb d_Model_step_133 rfl (lv_at hl 3 rfl) ?_
                  refine lv_iload_n hx hb d_Model_step_134 rfl (lv_at hl 4 rfl) ?_
                  refine lv_iload hx hb d_Model_step_135 (lv_at hl 1 rfl) ?_
                  refine lv_iconst (v := 2) hx hb d_Model_step_137 (by decide) ?_
                  refine z_callV (index := 225) (As := [.int 0, .int y_313, .int 2]) (rest := []) (wr := [(b7, .inl (G.2 0, 503, .inl b59)), (b31, .inl (G.2 0, 2, .inl b60)), (b35, .inl (G.2 1, 4, .inr (.inl y_314))), (b1, .inl (G.2 1, 4004, .inr (.inl b63)))]) Z (s6_Model_edgeAt l G (b0) (y_313) (b6) (b7) (b8) (b9) (b10) (b11) (b12) (b13) (b14) (b15) (b16) (b17) (b18) (b19) (b20) (b21) (b22) (b23) (b24) (b25) (b26) (b27) (b28) (b29) (b30) (b31) (b32) (b33) (b34) (b35) (b36) (b37) (b38) (b39) (b40) (b41) (b42) (b43) (b44) (b1) (b45) (b46) (b47) (b48) (b49) (b50) (b51) (b52) (b53) (b54) (b55) (b56) (b57) (b58) (b61) (zI.wk (l' := 0) (h' := 240) hv_319 (by decide)) hb11 hb13 hb14 hb16 hb20 hb33 hb36 hb46 hb49 hb55 hb61) hl.1 q1408 q1410 qs68 q14 q1411 ⟨by decide, by decide, by show _ = some 3; decide +kernel⟩ ⟨Nat.le_of_ble_eq_true rfl, Nat.le_of_ble_eq_true rfl⟩ ⟨Nat.le_of_ble_eq_true rfl, Nat.le_of_ble_eq_true rfl⟩ rfl (Nat.le_of_ble_eq_true rfl) d_Model_step_138 hP hD hS hA 4 12 rfl rfl rfl [4, 5] [0, 1, 2, 3] rfl rfl rfl rfl (by decide) (fun v w1 H locs hw_381 hP hD hS => ?_)
                  obtain ⟨x_382, rfl, rfl, hx_382, hfx_383⟩ := hw_381
                  have hP : va_P G.1 classes [(b7, .inl (G.2 0, 503, .inl b59)), (b31, .inl (G.2 0, 2, .inl b60)), (b35, .inl (G.2 1, 4, .inr (.inl y_314))), (b1, .inl (G.2 1, 4004, .inr (.inl b63))), (b0, .inr (12, [.int b6, .ref b7, .ref b8, .ref b9, .ref b10, .int b11, .ref b12, .int b13, .int b14, .int b15, .int b16, .ref b17, .ref b18, .ref b19, .int b20, .ref b21, .ref b22, .ref b23, .ref b24, .ref b25, .ref b26, .ref b27, .ref b28, .ref b29, .ref b30, .ref b31, .ref b32, .int b33, .ref b34, .ref b35, .int b36, .int b37, .int b38, .int b39, .ref b40, .ref b41, .ref b42, .ref b43, .ref b44, .ref b1, .ref b45, .int b46, .ref b47, .ref b48, .int b49, .ref b50, .ref b51, .ref b52, .ref b53, .ref b54, .int b55, .ref b56, .ref b57, .ref b58])), (b32, .inl (G.2 0, 2880, .inl b61))] H := hP
                  have hD := z_tie hP hD rfl
                  refine W.widen (k := 0) (n := 0) (Nat.le_of_ble_eq_true rfl) (Nat.le_of_ble_eq_true rfl) ?_
                  refine lv_istore (lv' := [(10, .int x_382), (9, .int 0), (8, .int y_313), (7, .int v_213), (0, .ref b0), (1, .int 0), (2, .ref b1), (3, .int b2), (4, .int b3), (5, .int b4), (6, .int b5)]) hx hb d_Model_step_141 hl (by decide) rfl (fun ls hl => ?_)
                  refine lv_aload_n hx hb d_Model_step_143 rfl (lv_at hl 4 rfl) ?_
                  refine va_get (D := G.1) (ci := 12) (v := .ref b35) (C := R_Model) (T := F_Model) (N := 54) hx hb hts i_Model hown hK hP 4 rfl rfl 29 (by decide) (hts _ q1138) (fun _ h9 => h9) rfl d_Model_step_144 ?_
                  refine lv_iload hx hb d_Model_step_147 (lv_at hl 0 rfl) ?_
                  refine lv_bipush (v := 64) hx hb d_Model_step_149 (by decide) ?_
                  refine lv_idiv hx hb d_Model_step_151 (by decide +kernel) ?_
                  refine lv_topi (fun v_384 ev_384 => ?_)
                  obtain ⟨qv_384, hv_384⟩ := zI_div (l := 0) (h := 3) (d := 64) hx_382 rfl ev_384 (by decide)
                  refine lv_dup2_11 hx hb d_Model_step_152 rfl rfl ?_
                  refine va_lald hx hb hK hP 2 1 rfl rfl (zI.inn hv_384 (by decide)) d_Model_step_153 ?_
                  refine lv_topl (fun v_385 ev_385 => ?_)
                  refine lv_iload hx hb d_Model_step_154 (lv_at hl 1 rfl) ?_
                  refine lv_if_eq (tgt := 169) hx hb d_Model_step_156 (by decide) (fun _ => ?_) (fun hc => absurd hc (by decide +kernel))
                  refine lv_lconst (v := 0) hx hb d_Model_step_169 (by decide) ?_
                  refine lv_lor hx hb d_Model_step_170 ?_
                  refine lv_topl (fun v_386 ev_386 => ?_)
                  refine va_last hx hb hK hP hD hS 2 1 rfl rfl (zI.inn hv_384 (by decide)) d_Model_step_171 (fun H locs hP hD hS => ?_)
                  obtain ⟨f_387, hP, hD⟩ := z_newL 2 hP hD rfl
                  have hP : va_P G.1 classes [(b7, .inl (G.2 0, 503, .inl b59)), (b31, .inl (G.2 0, 2, .inl b60)), (b35, .inl (G.2 1, 4, .inr (.inl f_387))), (b1, .inl (G.2 1, 4004, .inr (.inl b63))), (b0, .inr (12, [.int b6, .ref b7, .ref b8, .ref b9, .ref b10, .int b11, .ref b12, .int b13, .int b14, .int b15, .int b16, .ref b17, .ref b18, .ref b19, .int b20, .ref b21, .ref b22, .ref b23, .ref b24, .ref b25, .ref b26, .ref b27, .ref b28, .ref b29, .ref b30, .ref b31, .ref b32, .int b33, .ref b34, .ref b35, .int b36, .int b37, .int b38, .int b39, .ref b40, .ref b41, .ref b42, .ref b43, .ref b44, .ref b1, .ref b45, .int b46, .ref b47, .ref b48, .int b49, .ref b50, .ref b51, .ref b52, .ref b53, .ref b54, .int b55, .ref b56, .ref b57, .ref b58])), (b32, .inl (G.2 0, 2880, .inl b61))] H := hP
                  have hD := z_tie hP hD rfl
                  obtain ⟨v_388, ev_388⟩ : ∃ z : Int32, z = y_313 + 1 := ⟨_, rfl⟩
                  obtain ⟨qv_388, hv_388⟩ := zI_add (l := 1) (h := 240) hv_319 zc_1 ev_388 (by decide)
                  rw [li_1] at qv_388
                  refine lv_iinc (v := v_388) (lv' := [(8, .int v_388), (10, .int x_382), (9, .int 0), (7, .int v_213), (0, .ref b0), (1, .int 0), (2, .ref b1), (3, .int b2), (4, .int b3), (5, .int b4), (6, .int b5)]) hx hb d_Model_step_172 hl (k := 2) rfl (by rw [ev_388]; rfl) (by decide) rfl (fun ls hl => ?_)
                  refine lv_goto (tgt := 36) hx hb d_Model_step_175 (by decide) ?_
                  exact ihk_312 (v_388) (f_387) _ _ _ (zI.wk (l' := 0) (h' := 240) hv_388 (by decide)) (zm_up qv_388 hmk_312 (by decide)) (hP.sub [4, 0, 1, 5, 2, 3] rfl) (hD.sub [4, 0, 1, 5, 2, 3] (by decide) rfl) hS (lv_sub hl [0, 3, 4, 5, 6, 7, 8, 9, 10] rfl)
                · have hP : va_P G.1 classes [(b7, .inl (G.2 0, 503, .inl b59)), (b31, .inl (G.2 0, 2, .inl b60)), (b35, .inl (G.2 1, 4, .inr (.inl y_314))), (b1, .inl (G.2 1, 4004, .inr (.inl b63))), (b0, .inr (12, [.int b6, .ref b7, .ref b8, .ref b9, .ref b10, .int b11, .ref b12, .int b13, .int b14, .int b15, .int b16, .ref b17, .ref b18, .ref b19, .int b20, .ref b21, .ref b22, .ref b23, .ref b24, .ref b25, .ref b26, .ref b27, .ref b28, .ref b29, .ref b30, .ref b31, .ref b32, .int b33, .ref b34, .ref b35, .int b36, .int b37, .int b38, .int b39, .ref b40, .ref b41, .ref b42, .ref b43, .ref b44, .ref b1, .ref b45, .int b46, .ref b47, .ref b48, .int b49, .ref b50, .ref b51, .ref b52, .ref b53, .ref b54, .int b55, .ref b56, .ref b57, .ref b58])), (b32, .inl (G.2 0, 2880, .inl b61))] H := hP
                  have hD := z_tie hP hD rfl
                  try simp only [Int32.toInt_toInt64] at hq_376
                  have hv_389 : zI v_370 (-2147483648) 0 := by have _a := hq_376; have _b := (zI_all v_370); have _c := (zI_i2l hb4 rfl).2; simp only [Int32.toInt_toInt64] at *; exact ⟨by omega, by omega⟩
                  try simp only [Int32.toInt_toInt64] at hq_377
                  have hv_390 : zI v_373 (-2147483648) (-1) := by have _a := hq_377; have _b := (zI_all v_373); have _c := (zI_i2l hb4 rfl).2; simp only [Int32.toInt_toInt64] at *; exact ⟨by omega, by omega⟩
                  refine W.widen (k := 0) (n := 0) (Nat.le_of_ble_eq_true rfl) (Nat.le_of_ble_eq_true rfl) ?_
                  refine lv_if_eq (tgt := 130) hx hb d_Model_step_123 (by decide) (fun _ => ?_) (fun hc => absurd hc (by decide +kernel))
                  refine lv_iconst (v := 0) hx hb d_Model_step_130 (by decide) ?_
                  refine lv_istore (lv' := [(9, .int 0), (8, .int y_313), (7, .int v_213), (0, .ref b0), (1, .int 0), (2, .ref b1), (3, .int b2), (4, .int b3), (5, .int b4), (6, .int b5)]) hx hb d_Model_step_131 hl (by decide) rfl (fun ls hl => ?_)
                  refine lv_aload_n hx hb d_Model_step_133 rfl (lv_at hl 3 rfl) ?_
                  refine lv_iload_n hx hb d_Model_step_134 rfl (lv_at hl 4 rfl) ?_
                  refine lv_iload hx hb d_Model_step_135 (lv_at hl 1 rfl) ?_
                  refine lv_iconst (v := 2) hx hb d_Model_step_137 (by decide) ?_
                  refine z_callV (index := 225) (As := [.int 0, .int y_313, .int 2]) (rest := []) (wr := [(b7, .inl (G.2 0, 503, .inl b59)), (b31, .inl (G.2 0, 2, .inl b60)), (b35, .inl (G.2 1, 4, .inr (.inl y_314))), (b1, .inl (G.2 1, 4004, .inr (.inl b63)))]) Z (s6_Model_edgeAt l G (b0) (y_313) (b6) (b7) (b8) (b9) (b10) (b11) (b12) (b13) (b14) (b15) (b16) (b17) (b18) (b19) (b20) (b21) (b22) (b23) (b24) (b25) (b26) (b27) (b28) (b29) (b30) (b31) (b32) (b33) (b34) (b35) (b36) (b37) (b38) (b39) (b40) (b41) (b42) (b43) (b44) (b1) (b45) (b46) (b47) (b48) (b49) (b50) (b51) (b52) (b53) (b54) (b55) (b56) (b57) (b58) (b61) (zI.wk (l' := 0) (h' := 240) hv_319 (by decide)) hb11 hb13 hb14 hb16 hb20 hb33 hb36 hb46 hb49 hb55 hb61) hl.1 q1408 q1410 qs68 q14 q1411 ⟨by decide, by decide, by show _ = some 3; decide +kernel⟩ ⟨Nat.le_of_ble_eq_true rfl, Nat.le_of_ble_eq_true rfl⟩ ⟨Nat.le_of_ble_eq_true rfl, Nat.le_of_ble_eq_true rfl⟩ rfl (Nat.le_of_ble_eq_true rfl) d_Model_step_138 hP hD hS hA 4 12 rfl rfl rfl [4, 5] [0, 1, 2, 3] rfl rfl rfl rfl (by decide) (fun v w1 H locs hw_391 hP hD hS => ?_)
                  obtain ⟨x_392, rfl, rfl, hx_392, hfx_393⟩ := hw_391
                  have hP : va_P G.1 classes [(b7, .inl (G.2 0, 503, .inl b59)), (b31, .inl (G.2 0, 2, .inl b60)), (b35, .inl (G.2 1, 4, .inr (.inl y_314))), (b1, .inl (G.2 1, 4004, .inr (.inl b63))), (b0, .inr (12, [.int b6, .ref b7, .ref b8, .ref b9, .ref b10, .int b11, .ref b12, .int b13, .int b14, .int b15, .int b16, .ref b17, .ref b18, .ref b19, .int b20, .ref b21, .ref b22, .ref b23, .ref b24, .ref b25, .ref b26, .ref b27, .ref b28, .ref b29, .ref b30, .ref b31, .ref b32, .int b33, .ref b34, .ref b35, .int b36, .int b37, .int b38, .int b39, .ref b40, .ref b41, .ref b42, .ref b43, .ref b44, .ref b1, .ref b45, .int b46, .ref b47, .ref b48, .int b49, .ref b50, .ref b51, .ref b52, .ref b53, .ref b54, .int b55, .ref b56, .ref b57, .ref b58])), (b32, .inl (G.2 0, 2880, .inl b61))] H := hP
                  have hD := z_tie hP hD rfl
                  refine W.widen (k := 0) (n := 0) (Nat.le_of_ble_eq_true rfl) (Nat.le_of_ble_eq_true rfl) ?_
                  refine lv_istore (lv' := [(10, .int x_392), (9, .int 0), (8, .int y_313), (7, .int v_213), (0, .ref b0), (1, .int 0), (2, .ref b1), (3, .int b2), (4, .int b3), (5, .int b4), (6, .int b5)]) hx hb d_Model_step_141 hl (by decide) rfl (fun ls hl => ?_)
                  refine lv_aload_n hx hb d_Model_step_143 rfl (lv_at hl 4 rfl) ?_
                  refine va_get (D := G.1) (ci := 12) (v := .ref b35) (C := R_Model) (T := F_Model) (N := 54) hx hb hts i_Model hown hK hP 4 rfl rfl 29 (by decide) (hts _ q1138) (fun _ h9 => h9) rfl d_Model_step_144 ?_
                  refine lv_iload hx hb d_Model_step_147 (lv_at hl 0 rfl) ?_
                  refine lv_bipush (v := 64) hx hb d_Model_step_149 (by decide) ?_
                  refine lv_idiv hx hb d_Model_step_151 (by decide +kernel) ?_
                  refine lv_topi (fun v_394 ev_394 => ?_)
                  obtain ⟨qv_394, hv_394⟩ := zI_div (l := 0) (h := 3) (d := 64) hx_392 rfl ev_394 (by decide)
                  refine lv_dup2_11 hx hb d_Model_step_152 rfl rfl ?_
                  refine va_lald hx hb hK hP 2 1 rfl rfl (zI.inn hv_394 (by decide)) d_Model_step_153 ?_
                  refine lv_topl (fun v_395 ev_395 => ?_)
                  refine lv_iload hx hb d_Model_step_154 (lv_at hl 1 rfl) ?_
                  refine lv_if_eq (tgt := 169) hx hb d_Model_step_156 (by decide) (fun _ => ?_) (fun hc => absurd hc (by decide +kernel))
                  refine lv_lconst (v := 0) hx hb d_Model_step_169 (by decide) ?_
                  refine lv_lor hx hb d_Model_step_170 ?_
                  refine lv_topl (fun v_396 ev_396 => ?_)
                  refine va_last hx hb hK hP hD hS 2 1 rfl rfl (zI.inn hv_394 (by decide)) d_Model_step_171 (fun H locs hP hD hS => ?_)
                  obtain ⟨f_397, hP, hD⟩ := z_newL 2 hP hD rfl
                  have hP : va_P G.1 classes [(b7, .inl (G.2 0, 503, .inl b59)), (b31, .inl (G.2 0, 2, .inl b60)), (b35, .inl (G.2 1, 4, .inr (.inl f_397))), (b1, .inl (G.2 1, 4004, .inr (.inl b63))), (b0, .inr (12, [.int b6, .ref b7, .ref b8, .ref b9, .ref b10, .int b11, .ref b12, .int b13, .int b14, .int b15, .int b16, .ref b17, .ref b18, .ref b19, .int b20, .ref b21, .ref b22, .ref b23, .ref b24, .ref b25, .ref b26, .ref b27, .ref b28, .ref b29, .ref b30, .ref b31, .ref b32, .int b33, .ref b34, .ref b35, .int b36, .int b37, .int b38, .int b39, .ref b40, .ref b41, .ref b42, .ref b43, .ref b44, .ref b1, .ref b45, .int b46, .ref b47, .ref b48, .int b49, .ref b50, .ref b51, .ref b52, .ref b53, .ref b54, .int b55, .ref b56, .ref b57, .ref b58])), (b32, .inl (G.2 0, 2880, .inl b61))] H := hP
                  have hD := z_tie hP hD rfl
                  obtain ⟨v_398, ev_398⟩ : ∃ z : Int32, z = y_313 + 1 := ⟨_, rfl⟩
                  obtain ⟨qv_398, hv_398⟩ := zI_add (l := 1) (h := 240) hv_319 zc_1 ev_398 (by decide)
                  rw [li_1] at qv_398
                  refine lv_iinc (v := v_398) (lv' := [(8, .int v_398), (10, .int x_392), (9, .int 0), (7, .int v_213), (0, .ref b0), (1, .int 0), (2, .ref b1), (3, .int b2), (4, .int b3), (5, .int b4), (6, .int b5)]) hx hb d_Model_step_172 hl (k := 2) rfl (by rw [ev_398]; rfl) (by decide) rfl (fun ls hl => ?_)
                  refine lv_goto (tgt := 36) hx hb d_Model_step_175 (by decide) ?_
                  exact ihk_312 (v_398) (f_397) _ _ _ (zI.wk (l' := 0) (h' := 240) hv_398 (by decide)) (zm_up qv_398 hmk_312 (by decide)) (hP.sub [4, 0, 1, 5, 2, 3] rfl) (hD.sub [4, 0, 1, 5, 2, 3] (by decide) rfl) hS (lv_sub hl [0, 3, 4, 5, 6, 7, 8, 9, 10] rfl)
                · have hP : va_P G.1 classes [(b7, .inl (G.2 0, 503, .inl b59)), (b31, .inl (G.2 0, 2, .inl b60)), (b35, .inl (G.2 1, 4, .inr (.inl y_314))), (b1, .inl (G.2 1, 4004, .inr (.inl b63))), (b0, .inr (12, [.int b6, .ref b7, .ref b8, .ref b9, .ref b10, .int b11, .ref b12, .int b13, .int b14, .int b15, .int b16, .ref b17, .ref b18, .ref b19, .int b20, .ref b21, .ref b22, .ref b23, .ref b24, .ref b25, .ref b26, .ref b27, .ref b28, .ref b29, .ref b30, .ref b31, .ref b32, .int b33, .ref b34, .ref b35, .int b36, .int b37, .int b38, .int b39, .ref b40, .ref b41, .ref b42, .ref b43, .ref b44, .ref b1, .ref b45, .int b46, .ref b47, .ref b48, .int b49, .ref b50, .ref b51, .ref b52, .ref b53, .ref b54, .int b55, .ref b56, .ref b57, .ref b58])), (b32, .inl (G.2 0, 2880, .inl b61))] H := hP
                  have hD := z_tie hP hD rfl
                  try simp only [Int32.toInt_toInt64] at hq_378
                  have hv_399 : zI v_370 (-2147483648) 0 := by have _a := hq_378; have _b := (zI_all v_370); have _c := (zI_i2l hb4 rfl).2; simp only [Int32.toInt_toInt64] at *; exact ⟨by omega, by omega⟩
                  try simp only [Int32.toInt_toInt64] at hq_379
                  have hv_400 : zI v_373 0 2147483647 := by have _a := hq_379; have _b := (zI_all v_373); have _c := (zI_i2l hb4 rfl).2; simp only [Int32.toInt_toInt64] at *; exact ⟨by omega, by omega⟩
                  refine W.widen (k := 0) (n := 0) (Nat.le_of_ble_eq_true rfl) (Nat.le_of_ble_eq_true rfl) ?_
                  refine lv_if_eq (tgt := 130) hx hb d_Model_step_123 (by decide) (fun hc => absurd hc (by decide +kernel)) (fun _ => ?_)
                  refine lv_iconst (v := 1) hx hb d_Model_step_126 (by decide) ?_
                  refine lv_goto (tgt := 131) hx hb d_Model_step_127 (by decide) ?_
                  refine lv_istore (lv' := [(9, .int 1), (8, .int y_313), (7, .int v_213), (0, .ref b0), (1, .int 0), (2, .ref b1), (3, .int b2), (4, .int b3), (5, .int b4), (6, .int b5)]) hx hb d_Model_step_131 hl (by decide) rfl (fun ls hl => ?_)
                  refine lv_aload_n hx hb d_Model_step_133 rfl (lv_at hl 3 rfl) ?_
                  refine lv_iload_n hx hb d_Model_step_134 rfl (lv_at hl 4 rfl) ?_
                  refine lv_iload hx hb d_Model_step_135 (lv_at hl 1 rfl) ?_
                  refine lv_iconst (v := 2) hx hb d_Model_step_137 (by decide) ?_
                  refine z_callV (index := 225) (As := [.int 0, .int y_313, .int 2]) (rest := []) (wr := [(b7, .inl (G.2 0, 503, .inl b59)), (b31, .inl (G.2 0, 2, .inl b60)), (b35, .inl (G.2 1, 4, .inr (.inl y_314))), (b1, .inl (G.2 1, 4004, .inr (.inl b63)))]) Z (s6_Model_edgeAt l G (b0) (y_313) (b6) (b7) (b8) (b9) (b10) (b11) (b12) (b13) (b14) (b15) (b16) (b17) (b18) (b19) (b20) (b21) (b22) (b23) (b24) (b25) (b26) (b27) (b28) (b29) (b30) (b31) (b32) (b33) (b34) (b35) (b36) (b37) (b38) (b39) (b40) (b41) (b42) (b43) (b44) (b1) (b45) (b46) (b47) (b48) (b49) (b50) (b51) (b52) (b53) (b54) (b55) (b56) (b57) (b58) (b61) (zI.wk (l' := 0) (h' := 240) hv_319 (by decide)) hb11 hb13 hb14 hb16 hb20 hb33 hb36 hb46 hb49 hb55 hb61) hl.1 q1408 q1410 qs68 q14 q1411 ⟨by decide, by decide, by show _ = some 3; decide +kernel⟩ ⟨Nat.le_of_ble_eq_true rfl, Nat.le_of_ble_eq_true rfl⟩ ⟨Nat.le_of_ble_eq_true rfl, Nat.le_of_ble_eq_true rfl⟩ rfl (Nat.le_of_ble_eq_true rfl) d_Model_step_138 hP hD hS hA 4 12 rfl rfl rfl [4, 5] [0, 1, 2, 3] rfl rfl rfl rfl (by decide) (fun v w1 H locs hw_401 hP hD hS => ?_)
                  obtain ⟨x_402, rfl, rfl, hx_402, hfx_403⟩ := hw_401
                  have hP : va_P G.1 classes [(b7, .inl (G.2 0, 503, .inl b59)), (b31, .inl (G.2 0, 2, .inl b60)), (b35, .inl (G.2 1, 4, .inr (.inl y_314))), (b1, .inl (G.2 1, 4004, .inr (.inl b63))), (b0, .inr (12, [.int b6, .ref b7, .ref b8, .ref b9, .ref b10, .int b11, .ref b12, .int b13, .int b14, .int b15, .int b16, .ref b17, .ref b18, .ref b19, .int b20, .ref b21, .ref b22, .ref b23, .ref b24, .ref b25, .ref b26, .ref b27, .ref b28, .ref b29, .ref b30, .ref b31, .ref b32, .int b33, .ref b34, .ref b35, .int b36, .int b37, .int b38, .int b39, .ref b40, .ref b41, .ref b42, .ref b43, .ref b44, .ref b1, .ref b45, .int b46, .ref b47, .ref b48, .int b49, .ref b50, .ref b51, .ref b52, .ref b53, .ref b54, .int b55, .ref b56, .ref b57, .ref b58])), (b32, .inl (G.2 0, 2880, .inl b61))] H := hP
                  have hD := z_tie hP hD rfl
                  refine W.widen (k := 0) (n := 0) (Nat.le_of_ble_eq_true rfl) (Nat.le_of_ble_eq_true rfl) ?_
                  refine lv_istore (lv' := [(10, .int x_402), (9, .int 1), (8, .int y_313), (7, .int v_213), (0, .ref b0), (1, .int 0), (2, .ref b1), (3, .int b2), (4, .int b3), (5, .int b4), (6, .int b5)]) hx hb d_Model_step_141 hl (by decide) rfl (fun ls hl => ?_)
                  refine lv_aload_n hx hb d_Model_step_143 rfl (lv_at hl 4 rfl) ?_
                  refine va_get (D := G.1) (ci := 12) (v := .ref b35) (C := R_Model) (T := F_Model) (N := 54) hx hb hts i_Model hown hK hP 4 rfl rfl 29 (by decide) (hts _ q1138) (fun _ h9 => h9) rfl d_Model_step_144 ?_
                  refine lv_iload hx hb d_Model_step_147 (lv_at hl 0 rfl) ?_
                  refine lv_bipush (v := 64) hx hb d_Model_step_149 (by decide) ?_
                  refine lv_idiv hx hb d_Model_step_151 (by decide +kernel) ?_
                  refine lv_topi (fun v_404 ev_404 => ?_)
                  obtain ⟨qv_404, hv_404⟩ := zI_div (l := 0) (h := 3) (d := 64) hx_402 rfl ev_404 (by decide)
                  refine lv_dup2_11 hx hb d_Model_step_152 rfl rfl ?_
                  refine va_lald hx hb hK hP 2 1 rfl rfl (zI.inn hv_404 (by decide)) d_Model_step_153 ?_
                  refine lv_topl (fun v_405 ev_405 => ?_)
                  refine lv_iload hx hb d_Model_step_154 (lv_at hl 1 rfl) ?_
                  refine lv_if_eq (tgt := 169) hx hb d_Model_step_156 (by decide) (fun hc => absurd hc (by decide +kernel)) (fun _ => ?_)
                  refine lv_lconst (v := 1) hx hb d_Model_step_159 (by decide) ?_
                  refine lv_iload hx hb d_Model_step_160 (lv_at hl 0 rfl) ?_
                  refine lv_bipush (v := 64) hx hb d_Model_step_162 (by decide) ?_
                  refine lv_irem hx hb d_Model_step_164 (by decide +kernel) ?_
                  refine lv_topi (fun v_406 ev_406 => ?_)
                  obtain ⟨qv_406, hv_406⟩ := zI_rem (h := 63) (d := 64) hx_402 rfl ev_406 (by decide)
                  obtain ⟨v_407, ev_407⟩ : ∃ z : Int64, z = 1 <<< ((v_406 : Int32).toInt64 &&& 63) := ⟨_, rfl⟩
                  refine lv_lshl (v := v_407) hx hb d_Model_step_165 ev_407.symm ?_
                  refine lv_goto (tgt := 170) hx hb d_Model_step_166 (by decide) ?_
                  refine lv_lor hx hb d_Model_step_170 ?_
                  refine lv_topl (fun v_408 ev_408 => ?_)
                  refine va_last hx hb hK hP hD hS 2 1 rfl rfl (zI.inn hv_404 (by decide)) d_Model_step_171 (fun H locs hP hD hS => ?_)
                  obtain ⟨f_409, hP, hD⟩ := z_newL 2 hP hD rfl
                  have hP : va_P G.1 classes [(b7, .inl (G.2 0, 503, .inl b59)), (b31, .inl (G.2 0, 2, .inl b60)), (b35, .inl (G.2 1, 4, .inr (.inl f_409))), (b1, .inl (G.2 1, 4004, .inr (.inl b63))), (b0, .inr (12, [.int b6, .ref b7, .ref b8, .ref b9, .ref b10, .int b11, .ref b12, .int b13, .int b14, .int b15, .int b16, .ref b17, .ref b18, .ref b19, .int b20, .ref b21, .ref b22, .ref b23, .ref b24, .ref b25, .ref b26, .ref b27, .ref b28, .ref b29, .ref b30, .ref b31, .ref b32, .int b33, .ref b34, .ref b35, .int b36, .int b37, .int b38, .int b39, .ref b40, .ref b41, .ref b42, .ref b43, .ref b44, .ref b1, .ref b45, .int b46, .ref b47, .ref b48, .int b49, .ref b50, .ref b51, .ref b52, .ref b53, .ref b54, .int b55, .ref b56, .ref b57, .ref b58])), (b32, .inl (G.2 0, 2880, .inl b61))] H := hP
                  have hD := z_tie hP hD rfl
                  obtain ⟨v_410, ev_410⟩ : ∃ z : Int32, z = y_313 + 1 := ⟨_, rfl⟩
                  obtain ⟨qv_410, hv_410⟩ := zI_add (l := 1) (h := 240) hv_319 zc_1 ev_410 (by decide)
                  rw [li_1] at qv_410
                  refine lv_iinc (v := v_410) (lv' := [(8, .int v_410), (10, .int x_402), (9, .int 1), (7, .int v_213), (0, .ref b0), (1, .int 0), (2, .ref b1), (3, .int b2), (4, .int b3), (5, .int b4), (6, .int b5)]) hx hb d_Model_step_172 hl (k := 2) rfl (by rw [ev_410]; rfl) (by decide) rfl (fun ls hl => ?_)
                  refine lv_goto (tgt := 36) hx hb d_Model_step_175 (by decide) ?_
                  exact ihk_312 (v_410) (f_409) _ _ _ (zI.wk (l' := 0) (h' := 240) hv_410 (by decide)) (zm_up qv_410 hmk_312 (by decide)) (hP.sub [4, 0, 1, 5, 2, 3] rfl) (hD.sub [4, 0, 1, 5, 2, 3] (by decide) rfl) hS (lv_sub hl [0, 3, 4, 5, 6, 7, 8, 9, 10] rfl)
    · have _nhc_210 := hc_210
      have ni_411 := (fa_lt _ _).mp (zi_nle hc_210)
      rw [li_4] at ni_411
      have hv_412 : zI y_208 0 3 := zI.lt_l hy_208 zc_4 (zi_nle hc_210) (by decide)
      refine lv_aload_n hx hb d_Model_step_9 rfl (lv_at hl 1 rfl) ?_
      refine va_get (D := G.1) (ci := 12) (v := .ref b35) (C := R_Model) (T := F_Model) (N := 54) hx hb hts i_Model hown hK hP 0 rfl rfl 29 (by decide) (hts _ q1138) (fun _ h9 => h9) rfl d_Model_step_10 ?_
      refine lv_iload hx hb d_Model_step_13 (lv_at hl 0 rfl) ?_
      refine lv_lconst (v := 0) hx hb d_Model_step_15 (by decide) ?_
      refine va_last hx hb hK hP hD hS 4 1 rfl rfl (zI.inn hv_412 (by decide)) d_Model_step_16 (fun H locs hP hD hS => ?_)
      obtain ⟨f_413, hP, hD⟩ := z_newL 4 hP hD rfl
      have hP : va_P G.1 classes [(b0, .inr (12, [.int b6, .ref b7, .ref b8, .ref b9, .ref b10, .int b11, .ref b12, .int b13, .int b14, .int b15, .int b16, .ref b17, .ref b18, .ref b19, .int b20, .ref b21, .ref b22, .ref b23, .ref b24, .ref b25, .ref b26, .ref b27, .ref b28, .ref b29, .ref b30, .ref b31, .ref b32, .int b33, .ref b34, .ref b35, .int b36, .int b37, .int b38, .int b39, .ref b40, .ref b41, .ref b42, .ref b43, .ref b44, .ref b1, .ref b45, .int b46, .ref b47, .ref b48, .int b49, .ref b50, .ref b51, .ref b52, .ref b53, .ref b54, .int b55, .ref b56, .ref b57, .ref b58])), (b7, .inl (G.2 0, 503, .inl b59)), (b31, .inl (G.2 0, 2, .inl b60)), (b32, .inl (G.2 0, 2880, .inl b61)), (b35, .inl (G.2 1, 4, .inr (.inl f_413))), (b1, .inl (G.2 1, 4004, .inr (.inl b63)))] H := hP
      have hD := z_tie hP hD rfl
      obtain ⟨v_414, ev_414⟩ : ∃ z : Int32, z = y_208 + 1 := ⟨_, rfl⟩
      obtain ⟨qv_414, hv_414⟩ := zI_add (l := 1) (h := 4) hv_412 zc_1 ev_414 (by decide)
      rw [li_1] at qv_414
      refine lv_iinc (v := v_414) (lv' := [(7, .int v_414), (0, .ref b0), (1, .int 0), (2, .ref b1), (3, .int b2), (4, .int b3), (5, .int b4), (6, .int b5)]) hx hb d_Model_step_17 hl (k := 0) rfl (by rw [ev_414]; rfl) (by decide) rfl (fun ls hl => ?_)
      refine lv_goto (tgt := 3) hx hb d_Model_step_20 (by decide) ?_
      exact ihk_207 (v_414) (f_413) _ _ _ (zI.wk (l' := 0) (h' := 4) hv_414 (by decide)) (zm_up qv_414 hmk_207 (by decide)) hP hD hS (lv_sub hl [0, 1, 2, 3, 4, 5, 6, 7] rfl)
theorem d_Model_addNext_98 : decode prog_14_method_61_code 98 = .ok (.return_, 1) := by decide +kernel
theorem d_Model_areSame_57 : decode prog_14_method_60_code 57 = .ok (.ireturn, 1) := by decide +kernel
abbrev m_s2_Model_areSame : Room := { frames := 0, cells := 0, slots := 0, locals := 0 }
set_option maxHeartbeats 4000000 in
set_option maxRecDepth 100000 in
theorem s2_Model_areSame (l : Launch) (G : zG) (b0 : Nat) (b1 : Int32) (b2 : Nat) (b3 : Int32) (b4 : Nat → Int64) (b5 : Nat → Int64) (hb1 : zI b1 0 4000) (hb3 : zI b3 0 0) : zM l G y_Model_areSame prog_14_method_60_code 4 (Option.some Jvm.ClassFile.FieldType.boolean) m_s2_Model_areSame [.ref b0, .int b1, .ref b2, .int b3] [(b0, .inl (G.2 1, 4004, .inr (.inl b4))), (b2, .inl (G.2 1, 4, .inr (.inl b5)))] (fun v w => ∃ (e0 : Int32), v = some (.int e0) ∧ w = [(b0, .inl (G.2 1, 4004, .inr (.inl b4))), (b2, .inl (G.2 1, 4, .inr (.inl b5)))] ∧ (zI e0 0 1)) := by
  refine z_start (by decide +kernel) (Nat.le_of_ble_eq_true rfl) ?_
  intro p e s m below meth c A Z hr hnm hA hP hD hS ls hl
  have Z : zC p s m _ meth c prog_14_method_60_code 4 "TraceMachinesModel" G := Z
  obtain ⟨hx, hb, hml, hown, hts, hK, hN, hlocks⟩ := id Z
  have hl : lv_has ls 4 [(0, .ref b0), (1, .int b1), (2, .ref b2), (3, .int b3)] := hl
  refine lv_aload_n hx hb d_Model_areSame_0 rfl (lv_at hl 0 rfl) ?_
  refine lv_iload_n hx hb d_Model_areSame_1 rfl (lv_at hl 1 rfl) ?_
  refine va_lald hx hb hK hP 0 1 rfl rfl (zI.inn hb1 (by decide)) d_Model_areSame_2 ?_
  refine lv_topl (fun v_1 ev_1 => ?_)
  refine lv_aload_n hx hb d_Model_areSame_3 rfl (lv_at hl 2 rfl) ?_
  refine lv_iload_n hx hb d_Model_areSame_4 rfl (lv_at hl 3 rfl) ?_
  refine va_lald hx hb hK hP 1 1 rfl rfl (zI.inn hb3 (by decide)) d_Model_areSame_5 ?_
  refine lv_topl (fun v_2 ev_2 => ?_)
  refine W.lcmp hx hb d_Model_areSame_6 ?_
  refine lv_topi (fun v_3 ev_3 => ?_)
  refine lv_if_ne (tgt := 56) hx hb d_Model_areSame_7 (by decide) (fun hc_4 => ?_) (fun hc_4 => ?_)
  · have ni_5 := hc_4
    rw [ev_3] at ni_5
    simp only [lg_cmp_lt, lg_cmp_le, lg_cmp_gt, lg_cmp_ge, lg_cmp_eq, fa_lt64, fa_le64, fa_eq64, Int32.toInt_toInt64] at ni_5
    refine lv_iconst (v := 0) hx hb d_Model_areSame_56 (by decide) ?_
    exact z_zret hx hb hr hlocks rfl hP hD hS (Nat.le_of_ble_eq_true rfl) (Nat.le_of_ble_eq_true rfl) d_Model_areSame_57 ⟨0, rfl, rfl, (zI.wk (l' := 0) (h' := 1) zc_0 (by decide))⟩
  · have ni_6 := hc_4
    rw [ev_3] at ni_6
    simp only [lg_cmp_lt, lg_cmp_le, lg_cmp_gt, lg_cmp_ge, lg_cmp_eq, fa_lt64, fa_le64, fa_eq64, Int32.toInt_toInt64] at ni_6
    refine lv_aload_n hx hb d_Model_areSame_10 rfl (lv_at hl 0 rfl) ?_
    refine lv_iload_n hx hb d_Model_areSame_11 rfl (lv_at hl 1 rfl) ?_
    refine lv_iconst (v := 1) hx hb d_Model_areSame_12 (by decide) ?_
    refine lv_iadd hx hb d_Model_areSame_13 ?_
    refine lv_topi (fun v_7 ev_7 => ?_)
    obtain ⟨qv_7, hv_7⟩ := zI_add (l := 1) (h := 4001) hb1 zc_1 ev_7 (by decide)
    rw [li_1] at qv_7
    refine va_lald hx hb hK hP 0 1 rfl rfl (zI.inn hv_7 (by decide)) d_Model_areSame_14 ?_
    refine lv_topl (fun v_8 ev_8 => ?_)
    refine lv_aload_n hx hb d_Model_areSame_15 rfl (lv_at hl 2 rfl) ?_
    refine lv_iload_n hx hb d_Model_areSame_16 rfl (lv_at hl 3 rfl) ?_
    refine lv_iconst (v := 1) hx hb d_Model_areSame_17 (by decide) ?_
    refine lv_iadd hx hb d_Model_areSame_18 ?_
    refine lv_topi (fun v_9 ev_9 => ?_)
    obtain ⟨qv_9, hv_9⟩ := zI_add (l := 1) (h := 1) hb3 zc_1 ev_9 (by decide)
    rw [li_1] at qv_9
    refine va_lald hx hb hK hP 1 1 rfl rfl (zI.inn hv_9 (by decide)) d_Model_areSame_19 ?_
    refine lv_topl (fun v_10 ev_10 => ?_)
    refine W.lcmp hx hb d_Model_areSame_20 ?_
    refine lv_topi (fun v_11 ev_11 => ?_)
    refine lv_if_ne (tgt := 56) hx hb d_Model_areSame_21 (by decide) (fun hc_12 => ?_) (fun hc_12 => ?_)
    · have ni_13 := hc_12
      rw [ev_11] at ni_13
      simp only [lg_cmp_lt, lg_cmp_le, lg_cmp_gt, lg_cmp_ge, lg_cmp_eq, fa_lt64, fa_le64, fa_eq64, Int32.toInt_toInt64] at ni_13
      refine lv_iconst (v := 0) hx hb d_Model_areSame_56 (by decide) ?_
      exact z_zret hx hb hr hlocks rfl hP hD hS (Nat.le_of_ble_eq_true rfl) (Nat.le_of_ble_eq_true rfl) d_Model_areSame_57 ⟨0, rfl, rfl, (zI.wk (l' := 0) (h' := 1) zc_0 (by decide))⟩
    · have ni_14 := hc_12
      rw [ev_11] at ni_14
      simp only [lg_cmp_lt, lg_cmp_le, lg_cmp_gt, lg_cmp_ge, lg_cmp_eq, fa_lt64, fa_le64, fa_eq64, Int32.toInt_toInt64] at ni_14
      refine lv_aload_n hx hb d_Model_areSame_24 rfl (lv_at hl 0 rfl) ?_
      refine lv_iload_n hx hb d_Model_areSame_25 rfl (lv_at hl 1 rfl) ?_
      refine lv_iconst (v := 2) hx hb d_Model_areSame_26 (by decide) ?_
      refine lv_iadd hx hb d_Model_areSame_27 ?_
      refine lv_topi (fun v_15 ev_15 => ?_)
      obtain ⟨qv_15, hv_15⟩ := zI_add (l := 2) (h := 4002) hb1 zc_2 ev_15 (by decide)
      rw [li_2] at qv_15
      refine va_lald hx hb hK hP 0 1 rfl rfl (zI.inn hv_15 (by decide)) d_Model_areSame_28 ?_
      refine lv_topl (fun v_16 ev_16 => ?_)
      refine lv_aload_n hx hb d_Model_areSame_29 rfl (lv_at hl 2 rfl) ?_
      refine lv_iload_n hx hb d_Model_areSame_30 rfl (lv_at hl 3 rfl) ?_
      refine lv_iconst (v := 2) hx hb d_Model_areSame_31 (by decide) ?_
      refine lv_iadd hx hb d_Model_areSame_32 ?_
      refine lv_topi (fun v_17 ev_17 => ?_)
      obtain ⟨qv_17, hv_17⟩ := zI_add (l := 2) (h := 2) hb3 zc_2 ev_17 (by decide)
      rw [li_2] at qv_17
      refine va_lald hx hb hK hP 1 1 rfl rfl (zI.inn hv_17 (by decide)) d_Model_areSame_33 ?_
      refine lv_topl (fun v_18 ev_18 => ?_)
      refine W.lcmp hx hb d_Model_areSame_34 ?_
      refine lv_topi (fun v_19 ev_19 => ?_)
      refine lv_if_ne (tgt := 56) hx hb d_Model_areSame_35 (by decide) (fun hc_20 => ?_) (fun hc_20 => ?_)
      · have ni_21 := hc_20
        rw [ev_19] at ni_21
        simp only [lg_cmp_lt, lg_cmp_le, lg_cmp_gt, lg_cmp_ge, lg_cmp_eq, fa_lt64, fa_le64, fa_eq64, Int32.toInt_toInt64] at ni_21
        refine lv_iconst (v := 0) hx hb d_Model_areSame_56 (by decide) ?_
        exact z_zret hx hb hr hlocks rfl hP hD hS (Nat.le_of_ble_eq_true rfl) (Nat.le_of_ble_eq_true rfl) d_Model_areSame_57 ⟨0, rfl, rfl, (zI.wk (l' := 0) (h' := 1) zc_0 (by decide))⟩
      · have ni_22 := hc_20
        rw [ev_19] at ni_22
        simp only [lg_cmp_lt, lg_cmp_le, lg_cmp_gt, lg_cmp_ge, lg_cmp_eq, fa_lt64, fa_le64, fa_eq64, Int32.toInt_toInt64] at ni_22
        refine lv_aload_n hx hb d_Model_areSame_38 rfl (lv_at hl 0 rfl) ?_
        refine lv_iload_n hx hb d_Model_areSame_39 rfl (lv_at hl 1 rfl) ?_
        refine lv_iconst (v := 3) hx hb d_Model_areSame_40 (by decide) ?_
        refine lv_iadd hx hb d_Model_areSame_41 ?_
        refine lv_topi (fun v_23 ev_23 => ?_)
        obtain ⟨qv_23, hv_23⟩ := zI_add (l := 3) (h := 4003) hb1 zc_3 ev_23 (by decide)
        rw [li_3] at qv_23
        refine va_lald hx hb hK hP 0 1 rfl rfl (zI.inn hv_23 (by decide)) d_Model_areSame_42 ?_
        refine lv_topl (fun v_24 ev_24 => ?_)
        refine lv_aload_n hx hb d_Model_areSame_43 rfl (lv_at hl 2 rfl) ?_
        refine lv_iload_n hx hb d_Model_areSame_44 rfl (lv_at hl 3 rfl) ?_
        refine lv_iconst (v := 3) hx hb d_Model_areSame_45 (by decide) ?_
        refine lv_iadd hx hb d_Model_areSame_46 ?_
        refine lv_topi (fun v_25 ev_25 => ?_)
        obtain ⟨qv_25, hv_25⟩ := zI_add (l := 3) (h := 3) hb3 zc_3 ev_25 (by decide)
        rw [li_3] at qv_25
        refine va_lald hx hb hK hP 1 1 rfl rfl (zI.inn hv_25 (by decide)) d_Model_areSame_47 ?_
        refine lv_topl (fun v_26 ev_26 => ?_)
        refine W.lcmp hx hb d_Model_areSame_48 ?_
        refine lv_topi (fun v_27 ev_27 => ?_)
        refine lv_if_ne (tgt := 56) hx hb d_Model_areSame_49 (by decide) (fun hc_28 => ?_) (fun hc_28 => ?_)
        · have ni_29 := hc_28
          rw [ev_27] at ni_29
          simp only [lg_cmp_lt, lg_cmp_le, lg_cmp_gt, lg_cmp_ge, lg_cmp_eq, fa_lt64, fa_le64, fa_eq64, Int32.toInt_toInt64] at ni_29
          refine lv_iconst (v := 0) hx hb d_Model_areSame_56 (by decide) ?_
          exact z_zret hx hb hr hlocks rfl hP hD hS (Nat.le_of_ble_eq_true rfl) (Nat.le_of_ble_eq_true rfl) d_Model_areSame_57 ⟨0, rfl, rfl, (zI.wk (l' := 0) (h' := 1) zc_0 (by decide))⟩
        · have ni_30 := hc_28
          rw [ev_27] at ni_30
          simp only [lg_cmp_lt, lg_cmp_le, lg_cmp_gt, lg_cmp_ge, lg_cmp_eq, fa_lt64, fa_le64, fa_eq64, Int32.toInt_toInt64] at ni_30
          refine lv_iconst (v := 1) hx hb d_Model_areSame_52 (by decide) ?_
          refine lv_goto (tgt := 57) hx hb d_Model_areSame_53 (by decide) ?_
          exact z_zret hx hb hr hlocks rfl hP hD hS (Nat.le_of_ble_eq_true rfl) (Nat.le_of_ble_eq_true rfl) d_Model_areSame_57 ⟨1, rfl, rfl, (zI.wk (l' := 0) (h' := 1) zc_1 (by decide))⟩
abbrev m_s2_Model_addNext : Room := { frames := 1, cells := 0, slots := 0, locals := 23 }
set_option maxHeartbeats 4000000 in
set_option maxRecDepth 100000 in
theorem s2_Model_addNext (l : Launch) (G : zG) (b0 : Nat) (b1 : Int32) (b2 : Int32) (b3 : Nat) (b4 : Nat) (b5 : Nat) (b6 : Nat) (b7 : Int32) (b8 : Nat) (b9 : Int32) (b10 : Int32) (b11 : Int32) (b12 : Int32) (b13 : Nat) (b14 : Nat) (b15 : Nat) (b16 : Int32) (b17 : Nat) (b18 : Nat) (b19 : Nat) (b20 : Nat) (b21 : Nat) (b22 : Nat) (b23 : Nat) (b24 : Nat) (b25 : Nat) (b26 : Nat) (b27 : Nat) (b28 : Nat) (b29 : Int32) (b30 : Nat) (b31 : Nat) (b32 : Int32) (b33 : Int32) (b34 : Int32) (b35 : Int32) (b36 : Nat) (b37 : Nat) (b38 : Nat) (b39 : Nat) (b40 : Nat) (b41 : Nat) (b42 : Nat) (b43 : Int32) (b44 : Nat) (b45 : Nat) (b46 : Int32) (b47 : Nat) (b48 : Nat) (b49 : Nat) (b50 : Nat) (b51 : Nat) (b52 : Int32) (b53 : Nat) (b54 : Nat) (b55 : Nat) (b56 : Nat → Int64) (b57 : Nat → Int64) (b58 : Nat → Int32) (hb7 : zI b7 0 8) (hb9 : zI b9 0 240) (hb10 : zI b10 0 240) (hb12 : zI b12 0 1) (hb16 : zI b16 0 12) (hb29 : zI b29 0 1) (hb32 : zI b32 0 1) (hb43 : zI b43 0 1000) (hb46 : zI b46 0 1000) (hb52 : zI b52 0 400) (hnm : b46.toInt ≤ 999) : zM l G y_Model_addNext prog_14_method_61_code 4 (Option.none : Option Jvm.ClassFile.FieldType) m_s2_Model_addNext [.ref b0, .int b1] [(b0, .inr (12, [.int b2, .ref b3, .ref b4, .ref b5, .ref b6, .int b7, .ref b8, .int b9, .int b10, .int b11, .int b12, .ref b13, .ref b14, .ref b15, .int b16, .ref b17, .ref b18, .ref b19, .ref b20, .ref b21, .ref b22, .ref b23, .ref b24, .ref b25, .ref b26, .ref b27, .ref b28, .int b29, .ref b30, .ref b31, .int b32, .int b33, .int b34, .int b35, .ref b36, .ref b37, .ref b38, .ref b39, .ref b40, .ref b41, .ref b42, .int b43, .ref b44, .ref b45, .int b46, .ref b47, .ref b48, .ref b49, .ref b50, .ref b51, .int b52, .ref b53, .ref b54, .ref b55])), (b31, .inl (G.2 1, 4, .inr (.inl b56))), (b44, .inl (G.2 1, 4004, .inr (.inl b57))), (b45, .inl (G.2 0, 1001, .inl b58))] (fun v w => ∃ (e0 : Int32), ∃ (e1 : Nat → Int64), ∃ (e2 : Nat → Int32), v = none ∧ w = [(b0, .inr (12, [.int b2, .ref b3, .ref b4, .ref b5, .ref b6, .int b7, .ref b8, .int b9, .int b10, .int b11, .int b12, .ref b13, .ref b14, .ref b15, .int b16, .ref b17, .ref b18, .ref b19, .ref b20, .ref b21, .ref b22, .ref b23, .ref b24, .ref b25, .ref b26, .ref b27, .ref b28, .int b29, .ref b30, .ref b31, .int b32, .int b33, .int b34, .int b35, .ref b36, .ref b37, .ref b38, .ref b39, .ref b40, .ref b41, .ref b42, .int b43, .ref b44, .ref b45, .int e0, .ref b47, .ref b48, .ref b49, .ref b50, .ref b51, .int b52, .ref b53, .ref b54, .ref b55])), (b31, .inl (G.2 1, 4, .inr (.inl b56))), (b44, .inl (G.2 1, 4004, .inr (.inl e1))), (b45, .inl (G.2 0, 1001, .inl e2))] ∧ (zI e0 0 1000) ∧ ((e0 : Int32).toInt ≤ b46.toInt + 1)) := by
  refine z_start (by decide +kernel) (Nat.le_of_ble_eq_true rfl) ?_
  intro p e s m below meth c A Z hr hnm hA hP hD hS ls hl
  have Z : zC p s m _ meth c prog_14_method_61_code 4 "TraceMachinesModel" G := Z
  obtain ⟨hx, hb, hml, hown, hts, hK, hN, hlocks⟩ := id Z
  have hl : lv_has ls 4 [(0, .ref b0), (1, .int b1)] := hl
  have hv_1 : zI b46 0 999 := ⟨by omega, by omega⟩
  refine lv_iconst (v := 0) hx hb d_Model_addNext_0 (by decide) ?_
  refine lv_istore_n (lv' := [(2, .int 0), (0, .ref b0), (1, .int b1)]) hx hb d_Model_addNext_1 rfl hl (by decide) rfl (fun ls hl => ?_)
  suffices key : ∀ (k_97 : Nat) (y_98 : Int32) (H : Heap) (locs : List Loc) (ls : Array Slot), (zI y_98 0 999) → (999 : Int) - y_98.toInt < (k_97 : Int) → va_P G.1 classes [(b0, .inr (12, [.int b2, .ref b3, .ref b4, .ref b5, .ref b6, .int b7, .ref b8, .int b9, .int b10, .int b11, .int b12, .ref b13, .ref b14, .ref b15, .int b16, .ref b17, .ref b18, .ref b19, .ref b20, .ref b21, .ref b22, .ref b23, .ref b24, .ref b25, .ref b26, .ref b27, .ref b28, .int b29, .ref b30, .ref b31, .int b32, .int b33, .int b34, .int b35, .ref b36, .ref b37, .ref b38, .ref b39, .ref b40, .ref b41, .ref b42, .int b43, .ref b44, .ref b45, .int b46, .ref b47, .ref b48, .ref b49, .ref b50, .ref b51, .int b52, .ref b53, .ref b54, .ref b55])), (b31, .inl (G.2 1, 4, .inr (.inl b56))), (b44, .inl (G.2 1, 4004, .inr (.inl b57))), (b45, .inl (G.2 0, 1001, .inl b58))] H → va_D A [(b0, .inr (12, [.int b2, .ref b3, .ref b4, .ref b5, .ref b6, .int b7, .ref b8, .int b9, .int b10, .int b11, .int b12, .ref b13, .ref b14, .ref b15, .int b16, .ref b17, .ref b18, .ref b19, .ref b20, .ref b21, .ref b22, .ref b23, .ref b24, .ref b25, .ref b26, .ref b27, .ref b28, .int b29, .ref b30, .ref b31, .int b32, .int b33, .int b34, .int b35, .ref b36, .ref b37, .ref b38, .ref b39, .ref b40, .ref b41, .ref b42, .int b43, .ref b44, .ref b45, .int b46, .ref b47, .ref b48, .ref b49, .ref b50, .ref b51, .int b52, .ref b53, .ref b54, .ref b55])), (b31, .inl (G.2 1, 4, .inr (.inl b56))), (b44, .inl (G.2 1, 4004, .inr (.inl b57))), (b45, .inl (G.2 0, 1001, .inl b58))] → va_S A s.heap H locs → lv_has ls 4 [(2, .int y_98), (0, .ref b0), (1, .int b1)] → W p l e m_s2_Model_addNext s m ([.ref b0, .int b1] : List Value).toArray below meth c H locs 0 0 (MQ below (zQ G (fun v w => ∃ (e0 : Int32), ∃ (e1 : Nat → Int64), ∃ (e2 : Nat → Int32), v = none ∧ w = [(b0, .inr (12, [.int b2, .ref b3, .ref b4, .ref b5, .ref b6, .int b7, .ref b8, .int b9, .int b10, .int b11, .int b12, .ref b13, .ref b14, .ref b15, .int b16, .ref b17, .ref b18, .ref b19, .ref b20, .ref b21, .ref b22, .ref b23, .ref b24, .ref b25, .ref b26, .ref b27, .ref b28, .int b29, .ref b30, .ref b31, .int b32, .int b33, .int b34, .int b35, .ref b36, .ref b37, .ref b38, .ref b39, .ref b40, .ref b41, .ref b42, .int b43, .ref b44, .ref b45, .int e0, .ref b47, .ref b48, .ref b49, .ref b50, .ref b51, .int b52, .ref b53, .ref b54, .ref b55])), (b31, .inl (G.2 1, 4, .inr (.inl b56))), (b44, .inl (G.2 1, 4004, .inr (.inl e1))), (b45, .inl (G.2 0, 1001, .inl e2))] ∧ (zI e0 0 1000) ∧ ((e0 : Int32).toInt ≤ b46.toInt + 1)) A) ([.ref b0, .int b1] : List Value).toArray s m_s2_Model_addNext.cells m_s2_Model_addNext.slots A) (F0 m 2 ls []) by
    exact key 1000 (0) _ _ _ (zI.wk (l' := 0) (h' := 999) zc_0 (by decide)) (zm_upi (zI.wk (l' := 0) (h' := 999) zc_0 (by decide)) (by decide)) hP hD hS (lv_sub hl [0, 1, 2] rfl)
  intro k_97
  induction k_97 with
  | zero =>
    intro y_98 H locs ls hy_98 hmk_97 hP hD hS hl
    exact (zm_up0 hy_98 hmk_97).elim
  | succ k_97 ihk_97 =>
    intro y_98 H locs ls hy_98 hmk_97 hP hD hS hl
    refine lv_iload_n hx hb d_Model_addNext_2 rfl (lv_at hl 0 rfl) ?_
    refine lv_aload_n hx hb d_Model_addNext_3 rfl (lv_at hl 1 rfl) ?_
    refine va_get (D := G.1) (ci := 12) (v := .int b46) (C := R_Model) (T := F_Model) (N := 54) hx hb hts i_Model hown hK hP 0 rfl rfl 44 (by decide) (hts _ q1153) (fun _ h9 => h9) rfl d_Model_addNext_4 ?_
    refine lv_icmp_ge (tgt := 34) hx hb d_Model_addNext_7 (by decide) (fun hc_99 => ?_) (fun hc_99 => ?_)
    · have _nhc_99 := hc_99
      have ni_100 := (fa_le _ _).mp hc_99
      refine lv_iload_n hx hb d_Model_addNext_34 rfl (lv_at hl 0 rfl) ?_
      refine lv_aload_n hx hb d_Model_addNext_35 rfl (lv_at hl 1 rfl) ?_
      refine va_get (D := G.1) (ci := 12) (v := .int b46) (C := R_Model) (T := F_Model) (N := 54) hx hb hts i_Model hown hK hP 0 rfl rfl 44 (by decide) (hts _ q1153) (fun _ h9 => h9) rfl d_Model_addNext_36 ?_
      refine lv_icmp_ne (tgt := 88) hx hb d_Model_addNext_39 (by decide) (fun hc_101 => ?_) (fun hc_101 => ?_)
      · have _nhc_101 := hc_101
        have ni_102 : ¬ (y_98 : Int32).toInt = (b46 : Int32).toInt := fun z => hc_101 ((fa_eq _ _).mpr z)
        refine lv_aload_n hx hb d_Model_addNext_88 rfl (lv_at hl 1 rfl) ?_
        refine va_get (D := G.1) (ci := 12) (v := .ref b45) (C := R_Model) (T := F_Model) (N := 54) hx hb hts i_Model hown hK hP 0 rfl rfl 43 (by decide) (hts _ q1152) (fun _ h9 => h9) rfl d_Model_addNext_89 ?_
        refine lv_iload_n hx hb d_Model_addNext_92 rfl (lv_at hl 0 rfl) ?_
        refine lv_dup2_11 hx hb d_Model_addNext_93 rfl rfl ?_
        refine va_iald hx hb hK hP 3 0 rfl rfl (zI.inn hy_98 (by decide)) d_Model_addNext_94 ?_
        refine lv_topi (fun v_103 ev_103 => ?_)
        refine lv_iload_n hx hb d_Model_addNext_95 rfl (lv_at hl 2 rfl) ?_
        refine lv_iadd hx hb d_Model_addNext_96 ?_
        refine lv_topi (fun v_104 ev_104 => ?_)
        refine va_iast hx hb hK hP hD hS 3 0 rfl rfl (zI.inn hy_98 (by decide)) d_Model_addNext_97 (fun H locs hP hD hS => ?_)
        obtain ⟨f_105, gf_105, uf_105, hP, hD⟩ := z_newFu 3 hP hD rfl
        have hP : va_P G.1 classes [(b0, .inr (12, [.int b2, .ref b3, .ref b4, .ref b5, .ref b6, .int b7, .ref b8, .int b9, .int b10, .int b11, .int b12, .ref b13, .ref b14, .ref b15, .int b16, .ref b17, .ref b18, .ref b19, .ref b20, .ref b21, .ref b22, .ref b23, .ref b24, .ref b25, .ref b26, .ref b27, .ref b28, .int b29, .ref b30, .ref b31, .int b32, .int b33, .int b34, .int b35, .ref b36, .ref b37, .ref b38, .ref b39, .ref b40, .ref b41, .ref b42, .int b43, .ref b44, .ref b45, .int b46, .ref b47, .ref b48, .ref b49, .ref b50, .ref b51, .int b52, .ref b53, .ref b54, .ref b55])), (b31, .inl (G.2 1, 4, .inr (.inl b56))), (b44, .inl (G.2 1, 4004, .inr (.inl b57))), (b45, .inl (G.2 0, 1001, .inl f_105))] H := hP
        have hD := z_tie hP hD rfl
        exact z_vret hx hb hr hlocks hP hD hS (Nat.le_of_ble_eq_true rfl) (Nat.le_of_ble_eq_true rfl) d_Model_addNext_98 ⟨b46, b57, f_105, rfl, rfl, (zI.wk (l' := 0) (h' := 1000) hv_1 (by decide)), (by omega)⟩
      · have _nhc_101 := hc_101
        have ni_106 := (fa_eq _ _).mp hc_101
        refine lv_iconst (v := 0) hx hb d_Model_addNext_42 (by decide) ?_
        refine lv_istore_n (lv' := [(3, .int 0), (2, .int y_98), (0, .ref b0), (1, .int b1)]) hx hb d_Model_addNext_43 rfl hl (by decide) rfl (fun ls hl => ?_)
        suffices key : ∀ (k_124 : Nat) (y_125 : Int32) (y_126 : Nat → Int64) (H : Heap) (locs : List Loc) (ls : Array Slot), (zI y_125 0 4) → (4 : Int) - y_125.toInt < (k_124 : Int) → va_P G.1 classes [(b0, .inr (12, [.int b2, .ref b3, .ref b4, .ref b5, .ref b6, .int b7, .ref b8, .int b9, .int b10, .int b11, .int b12, .ref b13, .ref b14, .ref b15, .int b16, .ref b17, .ref b18, .ref b19, .ref b20, .ref b21, .ref b22, .ref b23, .ref b24, .ref b25, .ref b26, .ref b27, .ref b28, .int b29, .ref b30, .ref b31, .int b32, .int b33, .int b34, .int b35, .ref b36, .ref b37, .ref b38, .ref b39, .ref b40, .ref b41, .ref b42, .int b43, .ref b44, .ref b45, .int b46, .ref b47, .ref b48, .ref b49, .ref b50, .ref b51, .int b52, .ref b53, .ref b54, .ref b55])), (b31, .inl (G.2 1, 4, .inr (.inl b56))), (b44, .inl (G.2 1, 4004, .inr (.inl y_126))), (b45, .inl (G.2 0, 1001, .inl b58))] H → va_D A [(b0, .inr (12, [.int b2, .ref b3, .ref b4, .ref b5, .ref b6, .int b7, .ref b8, .int b9, .int b10, .int b11, .int b12, .ref b13, .ref b14, .ref b15, .int b16, .ref b17, .ref b18, .ref b19, .ref b20, .ref b21, .ref b22, .ref b23, .ref b24, .ref b25, .ref b26, .ref b27, .ref b28, .int b29, .ref b30, .ref b31, .int b32, .int b33, .int b34, .int b35, .ref b36, .ref b37, .ref b38, .ref b39, .ref b40, .ref b41, .ref b42, .int b43, .ref b44, .ref b45, .int b46, .ref b47, .ref b48, .ref b49, .ref b50, .ref b51, .int b52, .ref b53, .ref b54, .ref b55])), (b31, .inl (G.2 1, 4, .inr (.inl b56))), (b44, .inl (G.2 1, 4004, .inr (.inl y_126))), (b45, .inl (G.2 0, 1001, .inl b58))] → va_S A s.heap H locs → lv_has ls 4 [(3, .int y_125), (2, .int y_98), (0, .ref b0), (1, .int b1)] → W p l e m_s2_Model_addNext s m ([.ref b0, .int b1] : List Value).toArray below meth c H locs 0 0 (MQ below (zQ G (fun v w => ∃ (e0 : Int32), ∃ (e1 : Nat → Int64), ∃ (e2 : Nat → Int32), v = none ∧ w = [(b0, .inr (12, [.int b2, .ref b3, .ref b4, .ref b5, .ref b6, .int b7, .ref b8, .int b9, .int b10, .int b11, .int b12, .ref b13, .ref b14, .ref b15, .int b16, .ref b17, .ref b18, .ref b19, .ref b20, .ref b21, .ref b22, .ref b23, .ref b24, .ref b25, .ref b26, .ref b27, .ref b28, .int b29, .ref b30, .ref b31, .int b32, .int b33, .int b34, .int b35, .ref b36, .ref b37, .ref b38, .ref b39, .ref b40, .ref b41, .ref b42, .int b43, .ref b44, .ref b45, .int e0, .ref b47, .ref b48, .ref b49, .ref b50, .ref b51, .int b52, .ref b53, .ref b54, .ref b55])), (b31, .inl (G.2 1, 4, .inr (.inl b56))), (b44, .inl (G.2 1, 4004, .inr (.inl e1))), (b45, .inl (G.2 0, 1001, .inl e2))] ∧ (zI e0 0 1000) ∧ ((e0 : Int32).toInt ≤ b46.toInt + 1)) A) ([.ref b0, .int b1] : List Value).toArray s m_s2_Model_addNext.cells m_s2_Model_addNext.slots A) (F0 m 44 ls []) by
          exact key 5 (0) (b57) _ _ _ (zI.wk (l' := 0) (h' := 4) zc_0 (by decide)) (zm_upi (zI.wk (l' := 0) (h' := 4) zc_0 (by decide)) (by decide)) hP hD hS (lv_sub hl [0, 1, 2, 3] rfl)
        intro k_124
        induction k_124 with
        | zero =>
          intro y_125 y_126 H locs ls hy_125 hmk_124 hP hD hS hl
          exact (zm_up0 hy_125 hmk_124).elim
        | succ k_124 ihk_124 =>
          intro y_125 y_126 H locs ls hy_125 hmk_124 hP hD hS hl
          refine lv_iload_n hx hb d_Model_addNext_44 rfl (lv_at hl 0 rfl) ?_
          refine lv_iconst (v := 4) hx hb d_Model_addNext_45 (by decide) ?_
          refine lv_icmp_ge (tgt := 71) hx hb d_Model_addNext_46 (by decide) (fun hc_127 => ?_) (fun hc_127 => ?_)
          · have _nhc_127 := hc_127
            have ni_128 := (fa_le _ _).mp hc_127
            rw [li_4] at ni_128
            have hv_129 : zI y_125 4 4 := zI.le_r zc_4 hy_125 hc_127 (by decide)
            refine lv_aload_n hx hb d_Model_addNext_71 rfl (lv_at hl 2 rfl) ?_
            refine va_get (D := G.1) (ci := 12) (v := .ref b45) (C := R_Model) (T := F_Model) (N := 54) hx hb hts i_Model hown hK hP 0 rfl rfl 43 (by decide) (hts _ q1152) (fun _ h9 => h9) rfl d_Model_addNext_72 ?_
            refine lv_iload_n hx hb d_Model_addNext_75 rfl (lv_at hl 1 rfl) ?_
            refine lv_iconst (v := 0) hx hb d_Model_addNext_76 (by decide) ?_
            refine va_iast hx hb hK hP hD hS 3 0 rfl rfl (zI.inn hy_98 (by decide)) d_Model_addNext_77 (fun H locs hP hD hS => ?_)
            obtain ⟨f_130, gf_130, uf_130, hP, hD⟩ := z_newFu 3 hP hD rfl
            have hP : va_P G.1 classes [(b0, .inr (12, [.int b2, .ref b3, .ref b4, .ref b5, .ref b6, .int b7, .ref b8, .int b9, .int b10, .int b11, .int b12, .ref b13, .ref b14, .ref b15, .int b16, .ref b17, .ref b18, .ref b19, .ref b20, .ref b21, .ref b22, .ref b23, .ref b24, .ref b25, .ref b26, .ref b27, .ref b28, .int b29, .ref b30, .ref b31, .int b32, .int b33, .int b34, .int b35, .ref b36, .ref b37, .ref b38, .ref b39, .ref b40, .ref b41, .ref b42, .int b43, .ref b44, .ref b45, .int b46, .ref b47, .ref b48, .ref b49, .ref b50, .ref b51, .int b52, .ref b53, .ref b54, .ref b55])), (b31, .inl (G.2 1, 4, .inr (.inl b56))), (b44, .inl (G.2 1, 4004, .inr (.inl y_126))), (b45, .inl (G.2 0, 1001, .inl f_130))] H := hP
            have hD := z_tie hP hD rfl
            refine lv_aload_n hx hb d_Model_addNext_78 rfl (lv_at hl 2 rfl) ?_
            refine lv_dup hx hb d_Model_addNext_79 rfl ?_
            refine va_get (D := G.1) (ci := 12) (v := .int b46) (C := R_Model) (T := F_Model) (N := 54) hx hb hts i_Model hown hK hP 0 rfl rfl 44 (by decide) (hts _ q1153) (fun _ h9 => h9) rfl d_Model_addNext_80 ?_
            refine lv_iconst (v := 1) hx hb d_Model_addNext_83 (by decide) ?_
            refine lv_iadd hx hb d_Model_addNext_84 ?_
            refine lv_topi (fun v_131 ev_131 => ?_)
            obtain ⟨qv_131, hv_131⟩ := zI_add (l := 1) (h := 1000) hv_1 zc_1 ev_131 (by decide)
            rw [li_1] at qv_131
            refine va_put (D := G.1) (ci := 12) (v := .int v_131) (ty := .int) (C := R_Model) (T := F_Model) (N := 54) hx hb hts i_Model t_Model t_Model_ok n_Model hown hK hP hD hS 0 rfl rfl 44 (by decide) (hts _ q1153) (fun _ h9 => h9) rfl (by decide +kernel) rfl rfl (Nat.le_of_ble_eq_true rfl) d_Model_addNext_85 (fun H locs hP hD hS => ?_)
            have hP : va_P G.1 classes [(b0, .inr (12, [.int b2, .ref b3, .ref b4, .ref b5, .ref b6, .int b7, .ref b8, .int b9, .int b10, .int b11, .int b12, .ref b13, .ref b14, .ref b15, .int b16, .ref b17, .ref b18, .ref b19, .ref b20, .ref b21, .ref b22, .ref b23, .ref b24, .ref b25, .ref b26, .ref b27, .ref b28, .int b29, .ref b30, .ref b31, .int b32, .int b33, .int b34, .int b35, .ref b36, .ref b37, .ref b38, .ref b39, .ref b40, .ref b41, .ref b42, .int b43, .ref b44, .ref b45, .int v_131, .ref b47, .ref b48, .ref b49, .ref b50, .ref b51, .int b52, .ref b53, .ref b54, .ref b55])), (b31, .inl (G.2 1, 4, .inr (.inl b56))), (b44, .inl (G.2 1, 4004, .inr (.inl y_126))), (b45, .inl (G.2 0, 1001, .inl f_130))] H := hP
            have hD := z_tie hP hD rfl
            refine lv_aload_n hx hb d_Model_addNext_88 rfl (lv_at hl 2 rfl) ?_
            refine va_get (D := G.1) (ci := 12) (v := .ref b45) (C := R_Model) (T := F_Model) (N := 54) hx hb hts i_Model hown hK hP 0 rfl rfl 43 (by decide) (hts _ q1152) (fun _ h9 => h9) rfl d_Model_addNext_89 ?_
            refine lv_iload_n hx hb d_Model_addNext_92 rfl (lv_at hl 1 rfl) ?_
            refine lv_dup2_11 hx hb d_Model_addNext_93 rfl rfl ?_
            refine va_iald hx hb hK hP 3 0 rfl rfl (zI.inn hy_98 (by decide)) d_Model_addNext_94 ?_
            refine lv_topi (fun v_132 ev_132 => ?_)
            obtain rfl : v_132 = 0 := ev_132.trans gf_130
            refine lv_iload_n hx hb d_Model_addNext_95 rfl (lv_at hl 3 rfl) ?_
            refine lv_iadd hx hb d_Model_addNext_96 ?_
            refine lv_topi (fun v_133 ev_133 => ?_)
            obtain ⟨qv_133, hv_133⟩ := zI_add (l := -2147483648) (h := 2147483647) zc_0 (zI_all b1) ev_133 (by decide)
            rw [li_0] at qv_133
            refine va_iast hx hb hK hP hD hS 3 0 rfl rfl (zI.inn hy_98 (by decide)) d_Model_addNext_97 (fun H locs hP hD hS => ?_)
            obtain ⟨f_134, gf_134, uf_134, hP, hD⟩ := z_newFu 3 hP hD rfl
            have hP : va_P G.1 classes [(b0, .inr (12, [.int b2, .ref b3, .ref b4, .ref b5, .ref b6, .int b7, .ref b8, .int b9, .int b10, .int b11, .int b12, .ref b13, .ref b14, .ref b15, .int b16, .ref b17, .ref b18, .ref b19, .ref b20, .ref b21, .ref b22, .ref b23, .ref b24, .ref b25, .ref b26, .ref b27, .ref b28, .int b29, .ref b30, .ref b31, .int b32, .int b33, .int b34, .int b35, .ref b36, .ref b37, .ref b38, .ref b39, .ref b40, .ref b41, .ref b42, .int b43, .ref b44, .ref b45, .int v_131, .ref b47, .ref b48, .ref b49, .ref b50, .ref b51, .int b52, .ref b53, .ref b54, .ref b55])), (b31, .inl (G.2 1, 4, .inr (.inl b56))), (b44, .inl (G.2 1, 4004, .inr (.inl y_126))), (b45, .inl (G.2 0, 1001, .inl f_134))] H := hP
            have hD := z_tie hP hD rfl
            exact z_vret hx hb hr hlocks hP hD hS (Nat.le_of_ble_eq_true rfl) (Nat.le_of_ble_eq_true rfl) d_Model_addNext_98 ⟨v_131, y_126, f_134, rfl, rfl, (zI.wk (l' := 0) (h' := 1000) hv_131 (by decide)), (by omega)⟩
          · have _nhc_127 := hc_127
            have ni_135 := (fa_lt _ _).mp (zi_nle hc_127)
            rw [li_4] at ni_135
            have hv_136 : zI y_125 0 3 := zI.lt_l hy_125 zc_4 (zi_nle hc_127) (by decide)
            refine lv_aload_n hx hb d_Model_addNext_49 rfl (lv_at hl 2 rfl) ?_
            refine va_get (D := G.1) (ci := 12) (v := .ref b44) (C := R_Model) (T := F_Model) (N := 54) hx hb hts i_Model hown hK hP 0 rfl rfl 42 (by decide) (hts _ q1151) (fun _ h9 => h9) rfl d_Model_addNext_50 ?_
            refine lv_iconst (v := 4) hx hb d_Model_addNext_53 (by decide) ?_
            refine lv_iload_n hx hb d_Model_addNext_54 rfl (lv_at hl 1 rfl) ?_
            refine lv_imul hx hb d_Model_addNext_55 ?_
            refine lv_topi (fun v_137 ev_137 => ?_)
            obtain ⟨qv_137, hv_137⟩ := zI_mul (l := 0) (h := 3996) zc_4 hy_98 ev_137 (by decide)
            rw [li_4] at qv_137
            refine lv_iload_n hx hb d_Model_addNext_56 rfl (lv_at hl 0 rfl) ?_
            refine lv_iadd hx hb d_Model_addNext_57 ?_
            refine lv_topi (fun v_138 ev_138 => ?_)
            obtain ⟨qv_138, hv_138⟩ := zI_add (l := 0) (h := 3999) hv_137 hv_136 ev_138 (by decide)
            refine lv_aload_n hx hb d_Model_addNext_58 rfl (lv_at hl 2 rfl) ?_
            refine va_get (D := G.1) (ci := 12) (v := .ref b31) (C := R_Model) (T := F_Model) (N := 54) hx hb hts i_Model hown hK hP 0 rfl rfl 29 (by decide) (hts _ q1138) (fun _ h9 => h9) rfl d_Model_addNext_59 ?_
            refine lv_iload_n hx hb d_Model_addNext_62 rfl (lv_at hl 0 rfl) ?_
            refine va_lald hx hb hK hP 1 1 rfl rfl (zI.inn hv_136 (by decide)) d_Model_addNext_63 ?_
            refine lv_topl (fun v_139 ev_139 => ?_)
            refine va_last hx hb hK hP hD hS 2 1 rfl rfl (zI.inn hv_138 (by decide)) d_Model_addNext_64 (fun H locs hP hD hS => ?_)
            obtain ⟨f_140, hP, hD⟩ := z_newL 2 hP hD rfl
            have hP : va_P G.1 classes [(b0, .inr (12, [.int b2, .ref b3, .ref b4, .ref b5, .ref b6, .int b7, .ref b8, .int b9, .int b10, .int b11, .int b12, .ref b13, .ref b14, .ref b15, .int b16, .ref b17, .ref b18, .ref b19, .ref b20, .ref b21, .ref b22, .ref b23, .ref b24, .ref b25, .ref b26, .ref b27, .ref b28, .int b29, .ref b30, .ref b31, .int b32, .int b33, .int b34, .int b35, .ref b36, .ref b37, .ref b38, .ref b39, .ref b40, .ref b41, .ref b42, .int b43, .ref b44, .ref b45, .int b46, .ref b47, .ref b48, .ref b49, .ref b50, .ref b51, .int b52, .ref b53, .ref b54, .ref b55])), (b31, .inl (G.2 1, 4, .inr (.inl b56))), (b44, .inl (G.2 1, 4004, .inr (.inl f_140))), (b45, .inl (G.2 0, 1001, .inl b58))] H := hP
            have hD := z_tie hP hD rfl
            obtain ⟨v_141, ev_141⟩ : ∃ z : Int32, z = y_125 + 1 := ⟨_, rfl⟩
            obtain ⟨qv_141, hv_141⟩ := zI_add (l := 1) (h := 4) hv_136 zc_1 ev_141 (by decide)
            rw [li_1] at qv_141
            refine lv_iinc (v := v_141) (lv' := [(3, .int v_141), (2, .int y_98), (0, .ref b0), (1, .int b1)]) hx hb d_Model_addNext_65 hl (k := 0) rfl (by rw [ev_141]; rfl) (by decide) rfl (fun ls hl => ?_)
            refine lv_goto (tgt := 44) hx hb d_Model_addNext_68 (by decide) ?_
            exact ihk_124 (v_141) (f_140) _ _ _ (zI.wk (l' := 0) (h' := 4) hv_141 (by decide)) (zm_up qv_141 hmk_124 (by decide)) hP hD hS (lv_sub hl [0, 1, 2, 3] rfl)
    · have _nhc_99 := hc_99
      have ni_142 := (fa_lt _ _).mp (zi_nle hc_99)
      have hv_143 : zI y_98 0 998 := zI.lt_l hy_98 hv_1 (zi_nle hc_99) (by decide)
      have hv_144 : zI b46 1 999 := zI.lt_r hy_98 hv_1 (zi_nle hc_99) (by decide)
      refine lv_aload_n hx hb d_Model_addNext_10 rfl (lv_at hl 1 rfl) ?_
      refine va_get (D := G.1) (ci := 12) (v := .ref b44) (C := R_Model) (T := F_Model) (N := 54) hx hb hts i_Model hown hK hP 0 rfl rfl 42 (by decide) (hts _ q1151) (fun _ h9 => h9) rfl d_Model_addNext_11 ?_
      refine lv_iconst (v := 4) hx hb d_Model_addNext_14 (by decide) ?_
      refine lv_iload_n hx hb d_Model_addNext_15 rfl (lv_at hl 0 rfl) ?_
      refine lv_imul hx hb d_Model_addNext_16 ?_
      refine lv_topi (fun v_145 ev_145 => ?_)
      obtain ⟨qv_145, hv_145⟩ := zI_mul (l := 0) (h := 3992) zc_4 hv_143 ev_145 (by decide)
      rw [li_4] at qv_145
      refine lv_aload_n hx hb d_Model_addNext_17 rfl (lv_at hl 1 rfl) ?_
      refine va_get (D := G.1) (ci := 12) (v := .ref b31) (C := R_Model) (T := F_Model) (N := 54) hx hb hts i_Model hown hK hP 0 rfl rfl 29 (by decide) (hts _ q1138) (fun _ h9 => h9) rfl d_Model_addNext_18 ?_
      refine lv_iconst (v := 0) hx hb d_Model_addNext_21 (by decide) ?_
      refine z_callS (index := 323) (As := [.ref b44, .int v_145, .ref b31, .int 0]) (rest := []) (wr := [(b0, .inr (12, [.int b2, .ref b3, .ref b4, .ref b5, .ref b6, .int b7, .ref b8, .int b9, .int b10, .int b11, .int b12, .ref b13, .ref b14, .ref b15, .int b16, .ref b17, .ref b18, .ref b19, .ref b20, .ref b21, .ref b22, .ref b23, .ref b24, .ref b25, .ref b26, .ref b27, .ref b28, .int b29, .ref b30, .ref b31, .int b32, .int b33, .int b34, .int b35, .ref b36, .ref b37, .ref b38, .ref b39, .ref b40, .ref b41, .ref b42, .int b43, .ref b44, .ref b45, .int b46, .ref b47, .ref b48, .ref b49, .ref b50, .ref b51, .int b52, .ref b53, .ref b54, .ref b55])), (b45, .inl (G.2 0, 1001, .inl b58))]) Z (s2_Model_areSame l G (b44) (v_145) (b31) (0) (b57) (b56) (zI.wk (l' := 0) (h' := 4000) hv_145 (by decide)) zc_0) hl.1 q1513 q1514 q14 q1515 ⟨by decide, by decide, by show _ = some 4; decide +kernel⟩ ⟨Nat.le_of_ble_eq_true rfl, Nat.le_of_ble_eq_true rfl⟩ ⟨Nat.le_of_ble_eq_true rfl, Nat.le_of_ble_eq_true rfl⟩ rfl (Nat.le_of_ble_eq_true rfl) d_Model_addNext_22 hP hD hS hA [2, 1] [0, 3] rfl rfl rfl rfl (by decide) (fun v w1 H locs hw_146 hP hD hS => ?_)
      obtain ⟨x_147, rfl, rfl, hx_147⟩ := hw_146
      have hP : va_P G.1 classes [(b0, .inr (12, [.int b2, .ref b3, .ref b4, .ref b5, .ref b6, .int b7, .ref b8, .int b9, .int b10, .int b11, .int b12, .ref b13, .ref b14, .ref b15, .int b16, .ref b17, .ref b18, .ref b19, .ref b20, .ref b21, .ref b22, .ref b23, .ref b24, .ref b25, .ref b26, .ref b27, .ref b28, .int b29, .ref b30, .ref b31, .int b32, .int b33, .int b34, .int b35, .ref b36, .ref b37, .ref b38, .ref b39, .ref b40, .ref b41, .ref b42, .int b43, .ref b44, .ref b45, .int b46, .ref b47, .ref b48, .ref b49, .ref b50, .ref b51, .int b52, .ref b53, .ref b54, .ref b55])), (b45, .inl (G.2 0, 1001, .inl b58)), (b44, .inl (G.2 1, 4004, .inr (.inl b57))), (b31, .inl (G.2 1, 4, .inr (.inl b56)))] H := hP
      have hD := z_tie hP hD rfl
      refine W.widen (k := 0) (n := 0) (Nat.le_of_ble_eq_true rfl) (Nat.le_of_ble_eq_true rfl) ?_
      refine lv_if_ne (tgt := 34) hx hb d_Model_addNext_25 (by decide) (fun hc_148 => ?_) (fun hc_148 => ?_)
      · have _nhc_148 := hc_148
        have ni_149 : ¬ (x_147 : Int32).toInt = (0 : Int32).toInt := fun z => hc_148 ((fa_eq _ _).mpr z)
        simp only [li_0] at ni_149
        have hv_150 : zI x_147 1 1 := zI.ne_lo hx_147 zc_0 hc_148 (by decide)
        refine lv_iload_n hx hb d_Model_addNext_34 rfl (lv_at hl 0 rfl) ?_
        refine lv_aload_n hx hb d_Model_addNext_35 rfl (lv_at hl 1 rfl) ?_
        refine va_get (D := G.1) (ci := 12) (v := .int b46) (C := R_Model) (T := F_Model) (N := 54) hx hb hts i_Model hown hK hP 0 rfl rfl 44 (by decide) (hts _ q1153) (fun _ h9 => h9) rfl d_Model_addNext_36 ?_
        refine lv_icmp_ne (tgt := 88) hx hb d_Model_addNext_39 (by decide) (fun hc_151 => ?_) (fun hc_151 => ?_)
        · have _nhc_151 := hc_151
          have ni_152 : ¬ (y_98 : Int32).toInt = (b46 : Int32).toInt := fun z => hc_151 ((fa_eq _ _).mpr z)
          refine lv_aload_n hx hb d_Model_addNext_88 rfl (lv_at hl 1 rfl) ?_
          refine va_get (D := G.1) (ci := 12) (v := .ref b45) (C := R_Model) (T := F_Model) (N := 54) hx hb hts i_Model hown hK hP 0 rfl rfl 43 (by decide) (hts _ q1152) (fun _ h9 => h9) rfl d_Model_addNext_89 ?_
          refine lv_iload_n hx hb d_Model_addNext_92 rfl (lv_at hl 0 rfl) ?_
          refine lv_dup2_11 hx hb d_Model_addNext_93 rfl rfl ?_
          refine va_iald hx hb hK hP 1 0 rfl rfl (zI.inn hv_143 (by decide)) d_Model_addNext_94 ?_
          refine lv_topi (fun v_153 ev_153 => ?_)
          refine lv_iload_n hx hb d_Model_addNext_95 rfl (lv_at hl 2 rfl) ?_
          refine lv_iadd hx hb d_Model_addNext_96 ?_
          refine lv_topi (fun v_154 ev_154 => ?_)
          refine va_iast hx hb hK hP hD hS 1 0 rfl rfl (zI.inn hv_143 (by decide)) d_Model_addNext_97 (fun H locs hP hD hS => ?_)
          obtain ⟨f_155, gf_155, uf_155, hP, hD⟩ := z_newFu 1 hP hD rfl
          have hP : va_P G.1 classes [(b0, .inr (12, [.int b2, .ref b3, .ref b4, .ref b5, .ref b6, .int b7, .ref b8, .int b9, .int b10, .int b11, .int b12, .ref b13, .ref b14, .ref b15, .int b16, .ref b17, .ref b18, .ref b19, .ref b20, .ref b21, .ref b22, .ref b23, .ref b24, .ref b25, .ref b26, .ref b27, .ref b28, .int b29, .ref b30, .ref b31, .int b32, .int b33, .int b34, .int b35, .ref b36, .ref b37, .ref b38, .ref b39, .ref b40, .ref b41, .ref b42, .int b43, .ref b44, .ref b45, .int b46, .ref b47, .ref b48, .ref b49, .ref b50, .ref b51, .int b52, .ref b53, .ref b54, .ref b55])), (b45, .inl (G.2 0, 1001, .inl f_155)), (b44, .inl (G.2 1, 4004, .inr (.inl b57))), (b31, .inl (G.2 1, 4, .inr (.inl b56)))] H := hP
          have hD := z_tie hP hD rfl
          exact z_vret hx hb hr hlocks (hP.sub [0, 3, 2, 1] rfl) (hD.sub [0, 3, 2, 1] (by decide) rfl) hS (Nat.le_of_ble_eq_true rfl) (Nat.le_of_ble_eq_true rfl) d_Model_addNext_98 ⟨b46, b57, f_155, rfl, rfl, (zI.wk (l' := 0) (h' := 1000) hv_144 (by decide)), (by omega)⟩
        · have _nhc_151 := hc_151
          have ni_156 := (fa_eq _ _).mp hc_151
          refine lv_iconst (v := 0) hx hb d_Model_addNext_42 (by decide) ?_
          refine lv_istore_n (lv' := [(3, .int 0), (2, .int y_98), (0, .ref b0), (1, .int b1)]) hx hb d_Model_addNext_43 rfl hl (by decide) rfl (fun ls hl => ?_)
          suffices key : ∀ (k_174 : Nat) (y_175 : Int32) (y_176 : Nat → Int64) (H : Heap) (locs : List Loc) (ls : Array Slot), (zI y_175 0 4) → (4 : Int) - y_175.toInt < (k_174 : Int) → va_P G.1 classes [(b0, .inr (12, [.int b2, .ref b3, .ref b4, .ref b5, .ref b6, .int b7, .ref b8, .int b9, .int b10, .int b11, .int b12, .ref b13, .ref b14, .ref b15, .int b16, .ref b17, .ref b18, .ref b19, .ref b20, .ref b21, .ref b22, .ref b23, .ref b24, .ref b25, .ref b26, .ref b27, .ref b28, .int b29, .ref b30, .ref b31, .int b32, .int b33, .int b34, .int b35, .ref b36, .ref b37, .ref b38, .ref b39, .ref b40, .ref b41, .ref b42, .int b43, .ref b44, .ref b45, .int b46, .ref b47, .ref b48, .ref b49, .ref b50, .ref b51, .int b52, .ref b53, .ref b54, .ref b55])), (b45, .inl (G.2 0, 1001, .inl b58)), (b44, .inl (G.2 1, 4004, .inr (.inl y_176))), (b31, .inl (G.2 1, 4, .inr (.inl b56)))] H → va_D A [(b0, .inr (12, [.int b2, .ref b3, .ref b4, .ref b5, .ref b6, .int b7, .ref b8, .int b9, .int b10, .int b11, .int b12, .ref b13, .ref b14, .ref b15, .int b16, .ref b17, .ref b18, .ref b19, .ref b20, .ref b21, .ref b22, .ref b23, .ref b24, .ref b25, .ref b26, .ref b27, .ref b28, .int b29, .ref b30, .ref b31, .int b32, .int b33, .int b34, .int b35, .ref b36, .ref b37, .ref b38, .ref b39, .ref b40, .ref b41, .ref b42, .int b43, .ref b44, .ref b45, .int b46, .ref b47, .ref b48, .ref b49, .ref b50, .ref b51, .int b52, .ref b53, .ref b54, .ref b55])), (b45, .inl (G.2 0, 1001, .inl b58)), (b44, .inl (G.2 1, 4004, .inr (.inl y_176))), (b31, .inl (G.2 1, 4, .inr (.inl b56)))] → va_S A s.heap H locs → lv_has ls 4 [(3, .int y_175), (2, .int y_98), (0, .ref b0), (1, .int b1)] → W p l e m_s2_Model_addNext s m ([.ref b0, .int b1] : List Value).toArray below meth c H locs 0 0 (MQ below (zQ G (fun v w => ∃ (e0 : Int32), ∃ (e1 : Nat → Int64), ∃ (e2 : Nat → Int32), v = none ∧ w = [(b0, .inr (12, [.int b2, .ref b3, .ref b4, .ref b5, .ref b6, .int b7, .ref b8, .int b9, .int b10, .int b11, .int b12, .ref b13, .ref b14, .ref b15, .int b16, .ref b17, .ref b18, .ref b19, .ref b20, .ref b21, .ref b22, .ref b23, .ref b24, .ref b25, .ref b26, .ref b27, .ref b28, .int b29, .ref b30, .ref b31, .int b32, .int b33, .int b34, .int b35, .ref b36, .ref b37, .ref b38, .ref b39, .ref b40, .ref b41, .ref b42, .int b43, .ref b44, .ref b45, .int e0, .ref b47, .ref b48, .ref b49, .ref b50, .ref b51, .int b52, .ref b53, .ref b54, .ref b55])), (b31, .inl (G.2 1, 4, .inr (.inl b56))), (b44, .inl (G.2 1, 4004, .inr (.inl e1))), (b45, .inl (G.2 0, 1001, .inl e2))] ∧ (zI e0 0 1000) ∧ ((e0 : Int32).toInt ≤ b46.toInt + 1)) A) ([.ref b0, .int b1] : List Value).toArray s m_s2_Model_addNext.cells m_s2_Model_addNext.slots A) (F0 m 44 ls []) by
            exact key 5 (0) (b57) _ _ _ (zI.wk (l' := 0) (h' := 4) zc_0 (by decide)) (zm_upi (zI.wk (l' := 0) (h' := 4) zc_0 (by decide)) (by decide)) hP hD hS (lv_sub hl [0, 1, 2, 3] rfl)
          intro k_174
          induction k_174 with
          | zero =>
            intro y_175 y_176 H locs ls hy_175 hmk_174 hP hD hS hl
            exact (zm_up0 hy_175 hmk_174).elim
          | succ k_174 ihk_174 =>
            intro y_175 y_176 H locs ls hy_175 hmk_174 hP hD hS hl
            refine lv_iload_n hx hb d_Model_addNext_44 rfl (lv_at hl 0 rfl) ?_
            refine lv_iconst (v := 4) hx hb d_Model_addNext_45 (by decide) ?_
            refine lv_icmp_ge (tgt := 71) hx hb d_Model_addNext_46 (by decide) (fun hc_177 => ?_) (fun hc_177 => ?_)
            · have _nhc_177 := hc_177
              have ni_178 := (fa_le _ _).mp hc_177
              rw [li_4] at ni_178
              have hv_179 : zI y_175 4 4 := zI.le_r zc_4 hy_175 hc_177 (by decide)
              refine lv_aload_n hx hb d_Model_addNext_71 rfl (lv_at hl 2 rfl) ?_
              refine va_get (D := G.1) (ci := 12) (v := .ref b45) (C := R_Model) (T := F_Model) (N := 54) hx hb hts i_Model hown hK hP 0 rfl rfl 43 (by decide) (hts _ q1152) (fun _ h9 => h9) rfl d_Model_addNext_72 ?_
              refine lv_iload_n hx hb d_Model_addNext_75 rfl (lv_at hl 1 rfl) ?_
              refine lv_iconst (v := 0) hx hb d_Model_addNext_76 (by decide) ?_
              refine va_iast hx hb hK hP hD hS 1 0 rfl rfl (zI.inn hv_143 (by decide)) d_Model_addNext_77 (fun H locs hP hD hS => ?_)
              obtain ⟨f_180, gf_180, uf_180, hP, hD⟩ := z_newFu 1 hP hD rfl
              have hP : va_P G.1 classes [(b0, .inr (12, [.int b2, .ref b3, .ref b4, .ref b5, .ref b6, .int b7, .ref b8, .int b9, .int b10, .int b11, .int b12, .ref b13, .ref b14, .ref b15, .int b16, .ref b17, .ref b18, .ref b19, .ref b20, .ref b21, .ref b22, .ref b23, .ref b24, .ref b25, .ref b26, .ref b27, .ref b28, .int b29, .ref b30, .ref b31, .int b32, .int b33, .int b34, .int b35, .ref b36, .ref b37, .ref b38, .ref b39, .ref b40, .ref b41, .ref b42, .int b43, .ref b44, .ref b45, .int b46, .ref b47, .ref b48, .ref b49, .ref b50, .ref b51, .int b52, .ref b53, .ref b54, .ref b55])), (b45, .inl (G.2 0, 1001, .inl f_180)), (b44, .inl (G.2 1, 4004, .inr (.inl y_176))), (b31, .inl (G.2 1, 4, .inr (.inl b56)))] H := hP
              have hD := z_tie hP hD rfl
              refine lv_aload_n hx hb d_Model_addNext_78 rfl (lv_at hl 2 rfl) ?_
              refine lv_dup hx hb d_Model_addNext_79 rfl ?_
              refine va_get (D := G.1) (ci := 12) (v := .int b46) (C := R_Model) (T := F_Model) (N := 54) hx hb hts i_Model hown hK hP 0 rfl rfl 44 (by decide) (hts _ q1153) (fun _ h9 => h9) rfl d_Model_addNext_80 ?_
              refine lv_iconst (v := 1) hx hb d_Model_addNext_83 (by decide) ?_
              refine lv_iadd hx hb d_Model_addNext_84 ?_
              refine lv_topi (fun v_181 ev_181 => ?_)
              obtain ⟨qv_181, hv_181⟩ := zI_add (l := 2) (h := 1000) hv_144 zc_1 ev_181 (by decide)
              rw [li_1] at qv_181
              refine va_put (D := G.1) (ci := 12) (v := .int v_181) (ty := .int) (C := R_Model) (T := F_Model) (N := 54) hx hb hts i_Model t_Model t_Model_ok n_Model hown hK hP hD hS 0 rfl rfl 44 (by decide) (hts _ q1153) (fun _ h9 => h9) rfl (by decide +kernel) rfl rfl (Nat.le_of_ble_eq_true rfl) d_Model_addNext_85 (fun H locs hP hD hS => ?_)
              have hP : va_P G.1 classes [(b0, .inr (12, [.int b2, .ref b3, .ref b4, .ref b5, .ref b6, .int b7, .ref b8, .int b9, .int b10, .int b11, .int b12, .ref b13, .ref b14, .ref b15, .int b16, .ref b17, .ref b18, .ref b19, .ref b20, .ref b21, .ref b22, .ref b23, .ref b24, .ref b25, .ref b26, .ref b27, .ref b28, .int b29, .ref b30, .ref b31, .int b32, .int b33, .int b34, .int b35, .ref b36, .ref b37, .ref b38, .ref b39, .ref b40, .ref b41, .ref b42, .int b43, .ref b44, .ref b45, .int v_181, .ref b47, .ref b48, .ref b49, .ref b50, .ref b51, .int b52, .ref b53, .ref b54, .ref b55])), (b45, .inl (G.2 0, 1001, .inl f_180)), (b44, .inl (G.2 1, 4004, .inr (.inl y_176))), (b31, .inl (G.2 1, 4, .inr (.inl b56)))] H := hP
              have hD := z_tie hP hD rfl
              refine lv_aload_n hx hb d_Model_addNext_88 rfl (lv_at hl 2 rfl) ?_
              refine va_get (D := G.1) (ci := 12) (v := .ref b45) (C := R_Model) (T := F_Model) (N := 54) hx hb hts i_Model hown hK hP 0 rfl rfl 43 (by decide) (hts _ q1152) (fun _ h9 => h9) rfl d_Model_addNext_89 ?_
              refine lv_iload_n hx hb d_Model_addNext_92 rfl (lv_at hl 1 rfl) ?_
              refine lv_dup2_11 hx hb d_Model_addNext_93 rfl rfl ?_
              refine va_iald hx hb hK hP 1 0 rfl rfl (zI.inn hv_143 (by decide)) d_Model_addNext_94 ?_
              refine lv_topi (fun v_182 ev_182 => ?_)
              obtain rfl : v_182 = 0 := ev_182.trans gf_180
              refine lv_iload_n hx hb d_Model_addNext_95 rfl (lv_at hl 3 rfl) ?_
              refine lv_iadd hx hb d_Model_addNext_96 ?_
              refine lv_topi (fun v_183 ev_183 => ?_)
              obtain ⟨qv_183, hv_183⟩ := zI_add (l := -2147483648) (h := 2147483647) zc_0 (zI_all b1) ev_183 (by decide)
              rw [li_0] at qv_183
              refine va_iast hx hb hK hP hD hS 1 0 rfl rfl (zI.inn hv_143 (by decide)) d_Model_addNext_97 (fun H locs hP hD hS => ?_)
              obtain ⟨f_184, gf_184, uf_184, hP, hD⟩ := z_newFu 1 hP hD rfl
              have hP : va_P G.1 classes [(b0, .inr (12, [.int b2, .ref b3, .ref b4, .ref b5, .ref b6, .int b7, .ref b8, .int b9, .int b10, .int b11, .int b12, .ref b13, .ref b14, .ref b15, .int b16, .ref b17, .ref b18, .ref b19, .ref b20, .ref b21, .ref b22, .ref b23, .ref b24, .ref b25, .ref b26, .ref b27, .ref b28, .int b29, .ref b30, .ref b31, .int b32, .int b33, .int b34, .int b35, .ref b36, .ref b37, .ref b38, .ref b39, .ref b40, .ref b41, .ref b42, .int b43, .ref b44, .ref b45, .int v_181, .ref b47, .ref b48, .ref b49, .ref b50, .ref b51, .int b52, .ref b53, .ref b54, .ref b55])), (b45, .inl (G.2 0, 1001, .inl f_184)), (b44, .inl (G.2 1, 4004, .inr (.inl y_176))), (b31, .inl (G.2 1, 4, .inr (.inl b56)))] H := hP
              have hD := z_tie hP hD rfl
              exact z_vret hx hb hr hlocks (hP.sub [0, 3, 2, 1] rfl) (hD.sub [0, 3, 2, 1] (by decide) rfl) hS (Nat.le_of_ble_eq_true rfl) (Nat.le_of_ble_eq_true rfl) d_Model_addNext_98 ⟨v_181, y_176, f_184, rfl, rfl, (zI.wk (l' := 0) (h' := 1000) hv_181 (by decide)), (by omega)⟩
            · have _nhc_177 := hc_177
              have ni_185 := (fa_lt _ _).mp (zi_nle hc_177)
              rw [li_4] at ni_185
              have hv_186 : zI y_175 0 3 := zI.lt_l hy_175 zc_4 (zi_nle hc_177) (by decide)
              refine lv_aload_n hx hb d_Model_addNext_49 rfl (lv_at hl 2 rfl) ?_
              refine va_get (D := G.1) (ci := 12) (v := .ref b44) (C := R_Model) (T := F_Model) (N := 54) hx hb hts i_Model hown hK hP 0 rfl rfl 42 (by decide) (hts _ q1151) (fun _ h9 => h9) rfl d_Model_addNext_50 ?_
              refine lv_iconst (v := 4) hx hb d_Model_addNext_53 (by decide) ?_
              refine lv_iload_n hx hb d_Model_addNext_54 rfl (lv_at hl 1 rfl) ?_
              refine lv_imul hx hb d_Model_addNext_55 ?_
              refine lv_topi (fun v_187 ev_187 => ?_)
              obtain rfl : v_145 = v_187 := ev_145.trans ev_187.symm
              refine lv_iload_n hx hb d_Model_addNext_56 rfl (lv_at hl 0 rfl) ?_
              refine lv_iadd hx hb d_Model_addNext_57 ?_
              refine lv_topi (fun v_188 ev_188 => ?_)
              obtain ⟨qv_188, hv_188⟩ := zI_add (l := 0) (h := 3995) hv_145 hv_186 ev_188 (by decide)
              refine lv_aload_n hx hb d_Model_addNext_58 rfl (lv_at hl 2 rfl) ?_
              refine va_get (D := G.1) (ci := 12) (v := .ref b31) (C := R_Model) (T := F_Model) (N := 54) hx hb hts i_Model hown hK hP 0 rfl rfl 29 (by decide) (hts _ q1138) (fun _ h9 => h9) rfl d_Model_addNext_59 ?_
              refine lv_iload_n hx hb d_Model_addNext_62 rfl (lv_at hl 0 rfl) ?_
              refine va_lald hx hb hK hP 3 1 rfl rfl (zI.inn hv_186 (by decide)) d_Model_addNext_63 ?_
              refine lv_topl (fun v_189 ev_189 => ?_)
              refine va_last hx hb hK hP hD hS 2 1 rfl rfl (zI.inn hv_188 (by decide)) d_Model_addNext_64 (fun H locs hP hD hS => ?_)
              obtain ⟨f_190, hP, hD⟩ := z_newL 2 hP hD rfl
              have hP : va_P G.1 classes [(b0, .inr (12, [.int b2, .ref b3, .ref b4, .ref b5, .ref b6, .int b7, .ref b8, .int b9, .int b10, .int b11, .int b12, .ref b13, .ref b14, .ref b15, .int b16, .ref b17, .ref b18, .ref b19, .ref b20, .ref b21, .ref b22, .ref b23, .ref b24, .ref b25, .ref b26, .ref b27, .ref b28, .int b29, .ref b30, .ref b31, .int b32, .int b33, .int b34, .int b35, .ref b36, .ref b37, .ref b38, .ref b39, .ref b40, .ref b41, .ref b42, .int b43, .ref b44, .ref b45, .int b46, .ref b47, .ref b48, .ref b49, .ref b50, .ref b51, .int b52, .ref b53, .ref b54, .ref b55])), (b45, .inl (G.2 0, 1001, .inl b58)), (b44, .inl (G.2 1, 4004, .inr (.inl f_190))), (b31, .inl (G.2 1, 4, .inr (.inl b56)))] H := hP
              have hD := z_tie hP hD rfl
              obtain ⟨v_191, ev_191⟩ : ∃ z : Int32, z = y_175 + 1 := ⟨_, rfl⟩
              obtain ⟨qv_191, hv_191⟩ := zI_add (l := 1) (h := 4) hv_186 zc_1 ev_191 (by decide)
              rw [li_1] at qv_191
              refine lv_iinc (v := v_191) (lv' := [(3, .int v_191), (2, .int y_98), (0, .ref b0), (1, .int b1)]) hx hb d_Model_addNext_65 hl (k := 0) rfl (by rw [ev_191]; rfl) (by decide) rfl (fun ls hl => ?_)
              refine lv_goto (tgt := 44) hx hb d_Model_addNext_68 (by decide) ?_
              exact ihk_174 (v_191) (f_190) _ _ _ (zI.wk (l' := 0) (h' := 4) hv_191 (by decide)) (zm_up qv_191 hmk_174 (by decide)) hP hD hS (lv_sub hl [0, 1, 2, 3] rfl)
      · have _nhc_148 := hc_148
        have ni_192 := (fa_eq _ _).mp hc_148
        rw [li_0] at ni_192
        have hv_193 : zI x_147 0 0 := zI.eq_l hx_147 zc_0 hc_148
        obtain ⟨v_194, ev_194⟩ : ∃ z : Int32, z = y_98 + 1 := ⟨_, rfl⟩
        obtain ⟨qv_194, hv_194⟩ := zI_add (l := 1) (h := 999) hv_143 zc_1 ev_194 (by decide)
        rw [li_1] at qv_194
        refine lv_iinc (v := v_194) (lv' := [(2, .int v_194), (0, .ref b0), (1, .int b1)]) hx hb d_Model_addNext_28 hl (k := 0) rfl (by rw [ev_194]; rfl) (by decide) rfl (fun ls hl => ?_)
        refine lv_goto (tgt := 2) hx hb d_Model_addNext_31 (by decide) ?_
        exact ihk_97 (v_194) _ _ _ (zI.wk (l' := 0) (h' := 999) hv_194 (by decide)) (zm_up qv_194 hmk_97 (by decide)) (hP.sub [0, 3, 2, 1] rfl) (hD.sub [0, 3, 2, 1] (by decide) rfl) hS (lv_sub hl [0, 1, 2] rfl)
abbrev m_s2_Model_nextLevel : Room := { frames := 2, cells := 0, slots := 0, locals := 55 }
set_option maxHeartbeats 4000000 in
set_option maxRecDepth 100000 in
theorem s2_Model_nextLevel (l : Launch) (G : zG) (b0 : Nat) (b1 : Int32) (b2 : Nat) (b3 : Nat) (b4 : Nat) (b5 : Nat) (b6 : Int32) (b7 : Nat) (b8 : Int32) (b9 : Int32) (b10 : Int32) (b11 : Int32) (b12 : Nat) (b13 : Nat) (b14 : Nat) (b15 : Int32) (b16 : Nat) (b17 : Nat) (b18 : Nat) (b19 : Nat) (b20 : Nat) (b21 : Nat) (b22 : Nat) (b23 : Nat) (b24 : Nat) (b25 : Nat) (b26 : Nat) (b27 : Nat) (b28 : Int32) (b29 : Nat) (b30 : Nat) (b31 : Int32) (b32 : Int32) (b33 : Int32) (b34 : Int32) (b35 : Nat) (b36 : Nat) (b37 : Nat) (b38 : Nat) (b39 : Nat) (b40 : Nat) (b41 : Nat) (b42 : Int32) (b43 : Nat) (b44 : Nat) (b45 : Int32) (b46 : Nat) (b47 : Nat) (b48 : Nat) (b49 : Nat) (b50 : Nat) (b51 : Int32) (b52 : Nat) (b53 : Nat) (b54 : Nat) (b55 : Nat → Int32) (b56 : Nat → Int32) (b57 : Nat → Int32) (b58 : Nat → Int64) (b59 : Nat → Int64) (b60 : Nat → Int32) (b61 : Nat → Int64) (b62 : Nat → Int32) (hb6 : zI b6 0 8) (hb8 : zI b8 0 240) (hb9 : zI b9 0 240) (hb11 : zI b11 0 1) (hb15 : zI b15 0 12) (hb28 : zI b28 0 1) (hb31 : zI b31 0 1) (hb42 : zI b42 0 1000) (hb45 : zI b45 0 1000) (hb51 : zI b51 0 400) (hb55 : zW5 b55) (hb56 : zR b56 0 240) (hb57 : zqa qE b57) (hsm : b42.toInt ≤ 100) : zM l G y_Model_nextLevel prog_14_method_62_code 3 (Option.none : Option Jvm.ClassFile.FieldType) m_s2_Model_nextLevel [.ref b0] [(b0, .inr (12, [.int b1, .ref b2, .ref b3, .ref b4, .ref b5, .int b6, .ref b7, .int b8, .int b9, .int b10, .int b11, .ref b12, .ref b13, .ref b14, .int b15, .ref b16, .ref b17, .ref b18, .ref b19, .ref b20, .ref b21, .ref b22, .ref b23, .ref b24, .ref b25, .ref b26, .ref b27, .int b28, .ref b29, .ref b30, .int b31, .int b32, .int b33, .int b34, .ref b35, .ref b36, .ref b37, .ref b38, .ref b39, .ref b40, .ref b41, .int b42, .ref b43, .ref b44, .int b45, .ref b46, .ref b47, .ref b48, .ref b49, .ref b50, .int b51, .ref b52, .ref b53, .ref b54])), (b2, .inl (G.2 0, 503, .inl b55)), (b26, .inl (G.2 0, 2, .inl b56)), (b27, .inl (G.2 0, 2880, .inl b57)), (b30, .inl (G.2 1, 4, .inr (.inl b58))), (b40, .inl (G.2 1, 4004, .inr (.inl b59))), (b41, .inl (G.2 0, 1001, .inl b60)), (b43, .inl (G.2 1, 4004, .inr (.inl b61))), (b44, .inl (G.2 0, 1001, .inl b62))] (fun v w => ∃ (e0 : Int32), ∃ (e1 : Int32), ∃ (e2 : Nat → Int64), ∃ (e3 : Nat → Int64), ∃ (e4 : Nat → Int32), ∃ (e5 : Nat → Int64), ∃ (e6 : Nat → Int32), v = none ∧ w = [(b0, .inr (12, [.int b1, .ref b2, .ref b3, .ref b4, .ref b5, .int b6, .ref b7, .int b8, .int b9, .int b10, .int b11, .ref b12, .ref b13, .ref b14, .int b15, .ref b16, .ref b17, .ref b18, .ref b19, .ref b20, .ref b21, .ref b22, .ref b23, .ref b24, .ref b25, .ref b26, .ref b27, .int b28, .ref b29, .ref b30, .int b31, .int b32, .int b33, .int b34, .ref b35, .ref b36, .ref b37, .ref b38, .ref b39, .ref b40, .ref b41, .int e0, .ref b43, .ref b44, .int e1, .ref b46, .ref b47, .ref b48, .ref b49, .ref b50, .int b51, .ref b52, .ref b53, .ref b54])), (b2, .inl (G.2 0, 503, .inl b55)), (b26, .inl (G.2 0, 2, .inl b56)), (b27, .inl (G.2 0, 2880, .inl b57)), (b30, .inl (G.2 1, 4, .inr (.inl e2))), (b40, .inl (G.2 1, 4004, .inr (.inl e3))), (b41, .inl (G.2 0, 1001, .inl e4)), (b43, .inl (G.2 1, 4004, .inr (.inl e5))), (b44, .inl (G.2 0, 1001, .inl e6))] ∧ (zI e0 0 1000) ∧ (zI e1 0 1000)) := by
  refine z_start (by decide +kernel) (Nat.le_of_ble_eq_true rfl) ?_
  intro p e s m below meth c A Z hr hnm hA hP hD hS ls hl
  have Z : zC p s m _ meth c prog_14_method_62_code 3 "TraceMachinesModel" G := Z
  obtain ⟨hx, hb, hml, hown, hts, hK, hN, hlocks⟩ := id Z
  have hl : lv_has ls 3 [(0, .ref b0)] := hl
  have hv_1 : zI b42 0 100 := ⟨by omega, by omega⟩
  refine lv_aload_n hx hb d_Model_nextLevel_0 rfl (lv_at hl 0 rfl) ?_
  refine lv_iconst (v := 0) hx hb d_Model_nextLevel_1 (by decide) ?_
  refine va_put (D := G.1) (ci := 12) (v := .int 0) (ty := .int) (C := R_Model) (T := F_Model) (N := 54) hx hb hts i_Model t_Model t_Model_ok n_Model hown hK hP hD hS 0 rfl rfl 44 (by decide) (hts _ q1153) (fun _ h9 => h9) rfl (by decide +kernel) rfl rfl (Nat.le_of_ble_eq_true rfl) d_Model_nextLevel_2 (fun H locs hP hD hS => ?_)
  have hP : va_P G.1 classes [(b0, .inr (12, [.int b1, .ref b2, .ref b3, .ref b4, .ref b5, .int b6, .ref b7, .int b8, .int b9, .int b10, .int b11, .ref b12, .ref b13, .ref b14, .int b15, .ref b16, .ref b17, .ref b18, .ref b19, .ref b20, .ref b21, .ref b22, .ref b23, .ref b24, .ref b25, .ref b26, .ref b27, .int b28, .ref b29, .ref b30, .int b31, .int b32, .int b33, .int b34, .ref b35, .ref b36, .ref b37, .ref b38, .ref b39, .ref b40, .ref b41, .int b42, .ref b43, .ref b44, .int 0, .ref b46, .ref b47, .ref b48, .ref b49, .ref b50, .int b51, .ref b52, .ref b53, .ref b54])), (b2, .inl (G.2 0, 503, .inl b55)), (b26, .inl (G.2 0, 2, .inl b56)), (b27, .inl (G.2 0, 2880, .inl b57)), (b30, .inl (G.2 1, 4, .inr (.inl b58))), (b40, .inl (G.2 1, 4004, .inr (.inl b59))), (b41, .inl (G.2 0, 1001, .inl b60)), (b43, .inl (G.2 1, 4004, .inr (.inl b61))), (b44, .inl (G.2 0, 1001, .inl b62))] H := hP
  have hD := z_tie hP hD rfl
  refine lv_iconst (v := 0) hx hb d_Model_nextLevel_5 (by decide) ?_
  refine lv_istore_n (lv' := [(1, .int 0), (0, .ref b0)]) hx hb d_Model_nextLevel_6 rfl hl (by decide) rfl (fun ls hl => ?_)
  suffices key : ∀ (k_150 : Nat) (y_151 : Int32) (y_152 : Int32) (y_153 : Nat → Int64) (y_154 : Nat → Int64) (y_155 : Nat → Int32) (H : Heap) (locs : List Loc) (ls : Array Slot), (zI y_151 0 100) → (zI y_152 0 1000) → ((y_152 : Int32).toInt ≤ 10 * (y_151 : Int32).toInt) → (100 : Int) - y_151.toInt < (k_150 : Int) → va_P G.1 classes [(b0, .inr (12, [.int b1, .ref b2, .ref b3, .ref b4, .ref b5, .int b6, .ref b7, .int b8, .int b9, .int b10, .int b11, .ref b12, .ref b13, .ref b14, .int b15, .ref b16, .ref b17, .ref b18, .ref b19, .ref b20, .ref b21, .ref b22, .ref b23, .ref b24, .ref b25, .ref b26, .ref b27, .int b28, .ref b29, .ref b30, .int b31, .int b32, .int b33, .int b34, .ref b35, .ref b36, .ref b37, .ref b38, .ref b39, .ref b40, .ref b41, .int b42, .ref b43, .ref b44, .int y_152, .ref b46, .ref b47, .ref b48, .ref b49, .ref b50, .int b51, .ref b52, .ref b53, .ref b54])), (b2, .inl (G.2 0, 503, .inl b55)), (b26, .inl (G.2 0, 2, .inl b56)), (b27, .inl (G.2 0, 2880, .inl b57)), (b30, .inl (G.2 1, 4, .inr (.inl y_153))), (b40, .inl (G.2 1, 4004, .inr (.inl b59))), (b41, .inl (G.2 0, 1001, .inl b60)), (b43, .inl (G.2 1, 4004, .inr (.inl y_154))), (b44, .inl (G.2 0, 1001, .inl y_155))] H → va_D A [(b0, .inr (12, [.int b1, .ref b2, .ref b3, .ref b4, .ref b5, .int b6, .ref b7, .int b8, .int b9, .int b10, .int b11, .ref b12, .ref b13, .ref b14, .int b15, .ref b16, .ref b17, .ref b18, .ref b19, .ref b20, .ref b21, .ref b22, .ref b23, .ref b24, .ref b25, .ref b26, .ref b27, .int b28, .ref b29, .ref b30, .int b31, .int b32, .int b33, .int b34, .ref b35, .ref b36, .ref b37, .ref b38, .ref b39, .ref b40, .ref b41, .int b42, .ref b43, .ref b44, .int y_152, .ref b46, .ref b47, .ref b48, .ref b49, .ref b50, .int b51, .ref b52, .ref b53, .ref b54])), (b2, .inl (G.2 0, 503, .inl b55)), (b26, .inl (G.2 0, 2, .inl b56)), (b27, .inl (G.2 0, 2880, .inl b57)), (b30, .inl (G.2 1, 4, .inr (.inl y_153))), (b40, .inl (G.2 1, 4004, .inr (.inl b59))), (b41, .inl (G.2 0, 1001, .inl b60)), (b43, .inl (G.2 1, 4004, .inr (.inl y_154))), (b44, .inl (G.2 0, 1001, .inl y_155))] → va_S A s.heap H locs → lv_has ls 3 [(1, .int y_151), (0, .ref b0)] → W p l e m_s2_Model_nextLevel s m ([.ref b0] : List Value).toArray below meth c H locs 0 0 (MQ below (zQ G (fun v w => ∃ (e0 : Int32), ∃ (e1 : Int32), ∃ (e2 : Nat → Int64), ∃ (e3 : Nat → Int64), ∃ (e4 : Nat → Int32), ∃ (e5 : Nat → Int64), ∃ (e6 : Nat → Int32), v = none ∧ w = [(b0, .inr (12, [.int b1, .ref b2, .ref b3, .ref b4, .ref b5, .int b6, .ref b7, .int b8, .int b9, .int b10, .int b11, .ref b12, .ref b13, .ref b14, .int b15, .ref b16, .ref b17, .ref b18, .ref b19, .ref b20, .ref b21, .ref b22, .ref b23, .ref b24, .ref b25, .ref b26, .ref b27, .int b28, .ref b29, .ref b30, .int b31, .int b32, .int b33, .int b34, .ref b35, .ref b36, .ref b37, .ref b38, .ref b39, .ref b40, .ref b41, .int e0, .ref b43, .ref b44, .int e1, .ref b46, .ref b47, .ref b48, .ref b49, .ref b50, .int b51, .ref b52, .ref b53, .ref b54])), (b2, .inl (G.2 0, 503, .inl b55)), (b26, .inl (G.2 0, 2, .inl b56)), (b27, .inl (G.2 0, 2880, .inl b57)), (b30, .inl (G.2 1, 4, .inr (.inl e2))), (b40, .inl (G.2 1, 4004, .inr (.inl e3))), (b41, .inl (G.2 0, 1001, .inl e4)), (b43, .inl (G.2 1, 4004, .inr (.inl e5))), (b44, .inl (G.2 0, 1001, .inl e6))] ∧ (zI e0 0 1000) ∧ (zI e1 0 1000)) A) ([.ref b0] : List Value).toArray s m_s2_Model_nextLevel.cells m_s2_Model_nextLevel.slots A) (F0 m 7 ls []) by
    exact key 101 (0) (0) (b58) (b61) (b62) _ _ _ (zI.wk (l' := 0) (h' := 100) zc_0 (by decide)) (zI.wk (l' := 0) (h' := 1000) zc_0 (by decide)) (by have _l0 := li_0; have _l1 := li_0; omega) (zm_upi (zI.wk (l' := 0) (h' := 100) zc_0 (by decide)) (by decide)) hP hD hS (lv_sub hl [0, 1] rfl)
  intro k_150
  induction k_150 with
  | zero =>
    intro y_151 y_152 y_153 y_154 y_155 H locs ls hy_151 hy_152 hli_156 hmk_150 hP hD hS hl
    exact (zm_up0 hy_151 hmk_150).elim
  | succ k_150 ihk_150 =>
    intro y_151 y_152 y_153 y_154 y_155 H locs ls hy_151 hy_152 hli_156 hmk_150 hP hD hS hl
    refine lv_iload_n hx hb d_Model_nextLevel_7 rfl (lv_at hl 0 rfl) ?_
    refine lv_aload_n hx hb d_Model_nextLevel_8 rfl (lv_at hl 1 rfl) ?_
    refine va_get (D := G.1) (ci := 12) (v := .int b42) (C := R_Model) (T := F_Model) (N := 54) hx hb hts i_Model hown hK hP 0 rfl rfl 41 (by decide) (hts _ q1150) (fun _ h9 => h9) rfl d_Model_nextLevel_9 ?_
    refine lv_icmp_ge (tgt := 71) hx hb d_Model_nextLevel_12 (by decide) (fun hc_157 => ?_) (fun hc_157 => ?_)
    · have _nhc_157 := hc_157
      have ni_158 := (fa_le _ _).mp hc_157
      refine lv_aload_n hx hb d_Model_nextLevel_71 rfl (lv_at hl 1 rfl) ?_
      refine lv_aload_n hx hb d_Model_nextLevel_72 rfl (lv_at hl 1 rfl) ?_
      refine va_get (D := G.1) (ci := 12) (v := .int y_152) (C := R_Model) (T := F_Model) (N := 54) hx hb hts i_Model hown hK hP 0 rfl rfl 44 (by decide) (hts _ q1153) (fun _ h9 => h9) rfl d_Model_nextLevel_73 ?_
      refine va_put (D := G.1) (ci := 12) (v := .int y_152) (ty := .int) (C := R_Model) (T := F_Model) (N := 54) hx hb hts i_Model t_Model t_Model_ok n_Model hown hK hP hD hS 0 rfl rfl 41 (by decide) (hts _ q1150) (fun _ h9 => h9) rfl (by decide +kernel) rfl rfl (Nat.le_of_ble_eq_true rfl) d_Model_nextLevel_76 (fun H locs hP hD hS => ?_)
      have hP : va_P G.1 classes [(b0, .inr (12, [.int b1, .ref b2, .ref b3, .ref b4, .ref b5, .int b6, .ref b7, .int b8, .int b9, .int b10, .int b11, .ref b12, .ref b13, .ref b14, .int b15, .ref b16, .ref b17, .ref b18, .ref b19, .ref b20, .ref b21, .ref b22, .ref b23, .ref b24, .ref b25, .ref b26, .ref b27, .int b28, .ref b29, .ref b30, .int b31, .int b32, .int b33, .int b34, .ref b35, .ref b36, .ref b37, .ref b38, .ref b39, .ref b40, .ref b41, .int y_152, .ref b43, .ref b44, .int y_152, .ref b46, .ref b47, .ref b48, .ref b49, .ref b50, .int b51, .ref b52, .ref b53, .ref b54])), (b2, .inl (G.2 0, 503, .inl b55)), (b26, .inl (G.2 0, 2, .inl b56)), (b27, .inl (G.2 0, 2880, .inl b57)), (b30, .inl (G.2 1, 4, .inr (.inl y_153))), (b40, .inl (G.2 1, 4004, .inr (.inl b59))), (b41, .inl (G.2 0, 1001, .inl b60)), (b43, .inl (G.2 1, 4004, .inr (.inl y_154))), (b44, .inl (G.2 0, 1001, .inl y_155))] H := hP
      have hD := z_tie hP hD rfl
      refine lv_iconst (v := 0) hx hb d_Model_nextLevel_79 (by decide) ?_
      refine lv_istore_n (lv' := [(1, .int 0), (0, .ref b0)]) hx hb d_Model_nextLevel_80 rfl hl (by decide) rfl (fun ls hl => ?_)
      suffices key : ∀ (k_199 : Nat) (y_200 : Int32) (y_201 : Nat → Int64) (y_202 : Nat → Int32) (H : Heap) (locs : List Loc) (ls : Array Slot), (zI y_200 0 1000) → (1000 : Int) - y_200.toInt < (k_199 : Int) → va_P G.1 classes [(b0, .inr (12, [.int b1, .ref b2, .ref b3, .ref b4, .ref b5, .int b6, .ref b7, .int b8, .int b9, .int b10, .int b11, .ref b12, .ref b13, .ref b14, .int b15, .ref b16, .ref b17, .ref b18, .ref b19, .ref b20, .ref b21, .ref b22, .ref b23, .ref b24, .ref b25, .ref b26, .ref b27, .int b28, .ref b29, .ref b30, .int b31, .int b32, .int b33, .int b34, .ref b35, .ref b36, .ref b37, .ref b38, .ref b39, .ref b40, .ref b41, .int y_152, .ref b43, .ref b44, .int y_152, .ref b46, .ref b47, .ref b48, .ref b49, .ref b50, .int b51, .ref b52, .ref b53, .ref b54])), (b2, .inl (G.2 0, 503, .inl b55)), (b26, .inl (G.2 0, 2, .inl b56)), (b27, .inl (G.2 0, 2880, .inl b57)), (b30, .inl (G.2 1, 4, .inr (.inl y_153))), (b40, .inl (G.2 1, 4004, .inr (.inl y_201))), (b41, .inl (G.2 0, 1001, .inl y_202)), (b43, .inl (G.2 1, 4004, .inr (.inl y_154))), (b44, .inl (G.2 0, 1001, .inl y_155))] H → va_D A [(b0, .inr (12, [.int b1, .ref b2, .ref b3, .ref b4, .ref b5, .int b6, .ref b7, .int b8, .int b9, .int b10, .int b11, .ref b12, .ref b13, .ref b14, .int b15, .ref b16, .ref b17, .ref b18, .ref b19, .ref b20, .ref b21, .ref b22, .ref b23, .ref b24, .ref b25, .ref b26, .ref b27, .int b28, .ref b29, .ref b30, .int b31, .int b32, .int b33, .int b34, .ref b35, .ref b36, .ref b37, .ref b38, .ref b39, .ref b40, .ref b41, .int y_152, .ref b43, .ref b44, .int y_152, .ref b46, .ref b47, .ref b48, .ref b49, .ref b50, .int b51, .ref b52, .ref b53, .ref b54])), (b2, .inl (G.2 0, 503, .inl b55)), (b26, .inl (G.2 0, 2, .inl b56)), (b27, .inl (G.2 0, 2880, .inl b57)), (b30, .inl (G.2 1, 4, .inr (.inl y_153))), (b40, .inl (G.2 1, 4004, .inr (.inl y_201))), (b41, .inl (G.2 0, 1001, .inl y_202)), (b43, .inl (G.2 1, 4004, .inr (.inl y_154))), (b44, .inl (G.2 0, 1001, .inl y_155))] → va_S A s.heap H locs → lv_has ls 3 [(1, .int y_200), (0, .ref b0)] → W p l e m_s2_Model_nextLevel s m ([.ref b0] : List Value).toArray below meth c H locs 0 0 (MQ below (zQ G (fun v w => ∃ (e0 : Int32), ∃ (e1 : Int32), ∃ (e2 : Nat → Int64), ∃ (e3 : Nat → Int64), ∃ (e4 : Nat → Int32), ∃ (e5 : Nat → Int64), ∃ (e6 : Nat → Int32), v = none ∧ w = [(b0, .inr (12, [.int b1, .ref b2, .ref b3, .ref b4, .ref b5, .int b6, .ref b7, .int b8, .int b9, .int b10, .int b11, .ref b12, .ref b13, .ref b14, .int b15, .ref b16, .ref b17, .ref b18, .ref b19, .ref b20, .ref b21, .ref b22, .ref b23, .ref b24, .ref b25, .ref b26, .ref b27, .int b28, .ref b29, .ref b30, .int b31, .int b32, .int b33, .int b34, .ref b35, .ref b36, .ref b37, .ref b38, .ref b39, .ref b40, .ref b41, .int e0, .ref b43, .ref b44, .int e1, .ref b46, .ref b47, .ref b48, .ref b49, .ref b50, .int b51, .ref b52, .ref b53, .ref b54])), (b2, .inl (G.2 0, 503, .inl b55)), (b26, .inl (G.2 0, 2, .inl b56)), (b27, .inl (G.2 0, 2880, .inl b57)), (b30, .inl (G.2 1, 4, .inr (.inl e2))), (b40, .inl (G.2 1, 4004, .inr (.inl e3))), (b41, .inl (G.2 0, 1001, .inl e4)), (b43, .inl (G.2 1, 4004, .inr (.inl e5))), (b44, .inl (G.2 0, 1001, .inl e6))] ∧ (zI e0 0 1000) ∧ (zI e1 0 1000)) A) ([.ref b0] : List Value).toArray s m_s2_Model_nextLevel.cells m_s2_Model_nextLevel.slots A) (F0 m 81 ls []) by
        exact key 1001 (0) (b59) (b60) _ _ _ (zI.wk (l' := 0) (h' := 1000) zc_0 (by decide)) (zm_upi (zI.wk (l' := 0) (h' := 1000) zc_0 (by decide)) (by decide)) hP hD hS (lv_sub hl [0, 1] rfl)
      intro k_199
      induction k_199 with
      | zero =>
        intro y_200 y_201 y_202 H locs ls hy_200 hmk_199 hP hD hS hl
        exact (zm_up0 hy_200 hmk_199).elim
      | succ k_199 ihk_199 =>
        intro y_200 y_201 y_202 H locs ls hy_200 hmk_199 hP hD hS hl
        refine lv_iload_n hx hb d_Model_nextLevel_81 rfl (lv_at hl 0 rfl) ?_
        refine lv_aload_n hx hb d_Model_nextLevel_82 rfl (lv_at hl 1 rfl) ?_
        refine va_get (D := G.1) (ci := 12) (v := .int y_152) (C := R_Model) (T := F_Model) (N := 54) hx hb hts i_Model hown hK hP 0 rfl rfl 44 (by decide) (hts _ q1153) (fun _ h9 => h9) rfl d_Model_nextLevel_83 ?_
        refine lv_icmp_ge (tgt := 140) hx hb d_Model_nextLevel_86 (by decide) (fun hc_203 => ?_) (fun hc_203 => ?_)
        · have _nhc_203 := hc_203
          have ni_204 := (fa_le _ _).mp hc_203
          exact z_vret hx hb hr hlocks hP hD hS (Nat.le_of_ble_eq_true rfl) (Nat.le_of_ble_eq_true rfl) d_Model_nextLevel_140 ⟨y_152, y_152, y_153, y_201, y_202, y_154, y_155, rfl, rfl, hy_152, hy_152⟩
        · have _nhc_203 := hc_203
          have ni_205 := (fa_lt _ _).mp (zi_nle hc_203)
          have hv_206 : zI y_200 0 999 := zI.lt_l hy_200 hy_152 (zi_nle hc_203) (by decide)
          have hv_207 : zI y_152 1 1000 := zI.lt_r hy_200 hy_152 (zi_nle hc_203) (by decide)
          refine lv_aload_n hx hb d_Model_nextLevel_89 rfl (lv_at hl 1 rfl) ?_
          refine va_get (D := G.1) (ci := 12) (v := .ref b41) (C := R_Model) (T := F_Model) (N := 54) hx hb hts i_Model hown hK hP 0 rfl rfl 40 (by decide) (hts _ q1149) (fun _ h9 => h9) rfl d_Model_nextLevel_90 ?_
          refine lv_iload_n hx hb d_Model_nextLevel_93 rfl (lv_at hl 0 rfl) ?_
          refine lv_aload_n hx hb d_Model_nextLevel_94 rfl (lv_at hl 1 rfl) ?_
          refine va_get (D := G.1) (ci := 12) (v := .ref b44) (C := R_Model) (T := F_Model) (N := 54) hx hb hts i_Model hown hK hP 0 rfl rfl 43 (by decide) (hts _ q1152) (fun _ h9 => h9) rfl d_Model_nextLevel_95 ?_
          refine lv_iload_n hx hb d_Model_nextLevel_98 rfl (lv_at hl 0 rfl) ?_
          refine va_iald hx hb hK hP 8 0 rfl rfl (zI.inn hv_206 (by decide)) d_Model_nextLevel_99 ?_
          refine lv_topi (fun v_208 ev_208 => ?_)
          refine va_iast hx hb hK hP hD hS 6 0 rfl rfl (zI.inn hv_206 (by decide)) d_Model_nextLevel_100 (fun H locs hP hD hS => ?_)
          obtain ⟨f_209, gf_209, uf_209, hP, hD⟩ := z_newFu 6 hP hD rfl
          have hP : va_P G.1 classes [(b0, .inr (12, [.int b1, .ref b2, .ref b3, .ref b4, .ref b5, .int b6, .ref b7, .int b8, .int b9, .int b10, .int b11, .ref b12, .ref b13, .ref b14, .int b15, .ref b16, .ref b17, .ref b18, .ref b19, .ref b20, .ref b21, .ref b22, .ref b23, .ref b24, .ref b25, .ref b26, .ref b27, .int b28, .ref b29, .ref b30, .int b31, .int b32, .int b33, .int b34, .ref b35, .ref b36, .ref b37, .ref b38, .ref b39, .ref b40, .ref b41, .int y_152, .ref b43, .ref b44, .int y_152, .ref b46, .ref b47, .ref b48, .ref b49, .ref b50, .int b51, .ref b52, .ref b53, .ref b54])), (b2, .inl (G.2 0, 503, .inl b55)), (b26, .inl (G.2 0, 2, .inl b56)), (b27, .inl (G.2 0, 2880, .inl b57)), (b30, .inl (G.2 1, 4, .inr (.inl y_153))), (b40, .inl (G.2 1, 4004, .inr (.inl y_201))), (b41, .inl (G.2 0, 1001, .inl f_209)), (b43, .inl (G.2 1, 4004, .inr (.inl y_154))), (b44, .inl (G.2 0, 1001, .inl y_155))] H := hP
          have hD := z_tie hP hD rfl
          refine lv_iconst (v := 0) hx hb d_Model_nextLevel_101 (by decide) ?_
          refine lv_istore_n (lv' := [(2, .int 0), (1, .int y_200), (0, .ref b0)]) hx hb d_Model_nextLevel_102 rfl hl (by decide) rfl (fun ls hl => ?_)
          suffices key : ∀ (k_225 : Nat) (y_226 : Int32) (y_227 : Nat → Int64) (H : Heap) (locs : List Loc) (ls : Array Slot), (zI y_226 0 4) → (4 : Int) - y_226.toInt < (k_225 : Int) → va_P G.1 classes [(b0, .inr (12, [.int b1, .ref b2, .ref b3, .ref b4, .ref b5, .int b6, .ref b7, .int b8, .int b9, .int b10, .int b11, .ref b12, .ref b13, .ref b14, .int b15, .ref b16, .ref b17, .ref b18, .ref b19, .ref b20, .ref b21, .ref b22, .ref b23, .ref b24, .ref b25, .ref b26, .ref b27, .int b28, .ref b29, .ref b30, .int b31, .int b32, .int b33, .int b34, .ref b35, .ref b36, .ref b37, .ref b38, .ref b39, .ref b40, .ref b41, .int y_152, .ref b43, .ref b44, .int y_152, .ref b46, .ref b47, .ref b48, .ref b49, .ref b50, .int b51, .ref b52, .ref b53, .ref b54])), (b2, .inl (G.2 0, 503, .inl b55)), (b26, .inl (G.2 0, 2, .inl b56)), (b27, .inl (G.2 0, 2880, .inl b57)), (b30, .inl (G.2 1, 4, .inr (.inl y_153))), (b40, .inl (G.2 1, 4004, .inr (.inl y_227))), (b41, .inl (G.2 0, 1001, .inl f_209)), (b43, .inl (G.2 1, 4004, .inr (.inl y_154))), (b44, .inl (G.2 0, 1001, .inl y_155))] H → va_D A [(b0, .inr (12, [.int b1, .ref b2, .ref b3, .ref b4, .ref b5, .int b6, .ref b7, .int b8, .int b9, .int b10, .int b11, .ref b12, .ref b13, .ref b14, .int b15, .ref b16, .ref b17, .ref b18, .ref b19, .ref b20, .ref b21, .ref b22, .ref b23, .ref b24, .ref b25, .ref b26, .ref b27, .int b28, .ref b29, .ref b30, .int b31, .int b32, .int b33, .int b34, .ref b35, .ref b36, .ref b37, .ref b38, .ref b39, .ref b40, .ref b41, .int y_152, .ref b43, .ref b44, .int y_152, .ref b46, .ref b47, .ref b48, .ref b49, .ref b50, .int b51, .ref b52, .ref b53, .ref b54])), (b2, .inl (G.2 0, 503, .inl b55)), (b26, .inl (G.2 0, 2, .inl b56)), (b27, .inl (G.2 0, 2880, .inl b57)), (b30, .inl (G.2 1, 4, .inr (.inl y_153))), (b40, .inl (G.2 1, 4004, .inr (.inl y_227))), (b41, .inl (G.2 0, 1001, .inl f_209)), (b43, .inl (G.2 1, 4004, .inr (.inl y_154))), (b44, .inl (G.2 0, 1001, .inl y_155))] → va_S A s.heap H locs → lv_has ls 3 [(2, .int y_226), (1, .int y_200), (0, .ref b0)] → W p l e m_s2_Model_nextLevel s m ([.ref b0] : List Value).toArray below meth c H locs 0 0 (MQ below (zQ G (fun v w => ∃ (e0 : Int32), ∃ (e1 : Int32), ∃ (e2 : Nat → Int64), ∃ (e3 : Nat → Int64), ∃ (e4 : Nat → Int32), ∃ (e5 : Nat → Int64), ∃ (e6 : Nat → Int32), v = none ∧ w = [(b0, .inr (12, [.int b1, .ref b2, .ref b3, .ref b4, .ref b5, .int b6, .ref b7, .int b8, .int b9, .int b10, .int b11, .ref b12, .ref b13, .ref b14, .int b15, .ref b16, .ref b17, .ref b18, .ref b19, .ref b20, .ref b21, .ref b22, .ref b23, .ref b24, .ref b25, .ref b26, .ref b27, .int b28, .ref b29, .ref b30, .int b31, .int b32, .int b33, .int b34, .ref b35, .ref b36, .ref b37, .ref b38, .ref b39, .ref b40, .ref b41, .int e0, .ref b43, .ref b44, .int e1, .ref b46, .ref b47, .ref b48, .ref b49, .ref b50, .int b51, .ref b52, .ref b53, .ref b54])), (b2, .inl (G.2 0, 503, .inl b55)), (b26, .inl (G.2 0, 2, .inl b56)), (b27, .inl (G.2 0, 2880, .inl b57)), (b30, .inl (G.2 1, 4, .inr (.inl e2))), (b40, .inl (G.2 1, 4004, .inr (.inl e3))), (b41, .inl (G.2 0, 1001, .inl e4)), (b43, .inl (G.2 1, 4004, .inr (.inl e5))), (b44, .inl (G.2 0, 1001, .inl e6))] ∧ (zI e0 0 1000) ∧ (zI e1 0 1000)) A) ([.ref b0] : List Value).toArray s m_s2_Model_nextLevel.cells m_s2_Model_nextLevel.slots A) (F0 m 103 ls []) by
            exact key 5 (0) (y_201) _ _ _ (zI.wk (l' := 0) (h' := 4) zc_0 (by decide)) (zm_upi (zI.wk (l' := 0) (h' := 4) zc_0 (by decide)) (by decide)) hP hD hS (lv_sub hl [0, 1, 2] rfl)
          intro k_225
          induction k_225 with
          | zero =>
            intro y_226 y_227 H locs ls hy_226 hmk_225 hP hD hS hl
            exact (zm_up0 hy_226 hmk_225).elim
          | succ k_225 ihk_225 =>
            intro y_226 y_227 H locs ls hy_226 hmk_225 hP hD hS hl
            refine lv_iload_n hx hb d_Model_nextLevel_103 rfl (lv_at hl 0 rfl) ?_
            refine lv_iconst (v := 4) hx hb d_Model_nextLevel_104 (by decide) ?_
            refine lv_icmp_ge (tgt := 134) hx hb d_Model_nextLevel_105 (by decide) (fun hc_228 => ?_) (fun hc_228 => ?_)
            · have _nhc_228 := hc_228
              have ni_229 := (fa_le _ _).mp hc_228
              rw [li_4] at ni_229
              have hv_230 : zI y_226 4 4 := zI.le_r zc_4 hy_226 hc_228 (by decide)
              obtain ⟨v_231, ev_231⟩ : ∃ z : Int32, z = y_200 + 1 := ⟨_, rfl⟩
              obtain ⟨qv_231, hv_231⟩ := zI_add (l := 1) (h := 1000) hv_206 zc_1 ev_231 (by decide)
              rw [li_1] at qv_231
              refine lv_iinc (v := v_231) (lv' := [(1, .int v_231), (2, .int y_226), (0, .ref b0)]) hx hb d_Model_nextLevel_134 hl (k := 1) rfl (by rw [ev_231]; rfl) (by decide) rfl (fun ls hl => ?_)
              refine lv_goto (tgt := 81) hx hb d_Model_nextLevel_137 (by decide) ?_
              exact ihk_199 (v_231) (y_227) (f_209) _ _ _ (zI.wk (l' := 0) (h' := 1000) hv_231 (by decide)) (zm_up qv_231 hmk_199 (by decide)) hP hD hS (lv_sub hl [0, 2] rfl)
            · have _nhc_228 := hc_228
              have ni_232 := (fa_lt _ _).mp (zi_nle hc_228)
              rw [li_4] at ni_232
              have hv_233 : zI y_226 0 3 := zI.lt_l hy_226 zc_4 (zi_nle hc_228) (by decide)
              refine lv_aload_n hx hb d_Model_nextLevel_108 rfl (lv_at hl 2 rfl) ?_
              refine va_get (D := G.1) (ci := 12) (v := .ref b40) (C := R_Model) (T := F_Model) (N := 54) hx hb hts i_Model hown hK hP 0 rfl rfl 39 (by decide) (hts _ q1148) (fun _ h9 => h9) rfl d_Model_nextLevel_109 ?_
              refine lv_iconst (v := 4) hx hb d_Model_nextLevel_112 (by decide) ?_
              refine lv_iload_n hx hb d_Model_nextLevel_113 rfl (lv_at hl 1 rfl) ?_
              refine lv_imul hx hb d_Model_nextLevel_114 ?_
              refine lv_topi (fun v_234 ev_234 => ?_)
              obtain ⟨qv_234, hv_234⟩ := zI_mul (l := 0) (h := 3996) zc_4 hv_206 ev_234 (by decide)
              rw [li_4] at qv_234
              refine lv_iload_n hx hb d_Model_nextLevel_115 rfl (lv_at hl 0 rfl) ?_
              refine lv_iadd hx hb d_Model_nextLevel_116 ?_
              refine lv_topi (fun v_235 ev_235 => ?_)
              obtain ⟨qv_235, hv_235⟩ := zI_add (l := 0) (h := 3999) hv_234 hv_233 ev_235 (by decide)
              refine lv_aload_n hx hb d_Model_nextLevel_117 rfl (lv_at hl 2 rfl) ?_
              refine va_get (D := G.1) (ci := 12) (v := .ref b43) (C := R_Model) (T := F_Model) (N := 54) hx hb hts i_Model hown hK hP 0 rfl rfl 42 (by decide) (hts _ q1151) (fun _ h9 => h9) rfl d_Model_nextLevel_118 ?_
              refine lv_iconst (v := 4) hx hb d_Model_nextLevel_121 (by decide) ?_
              refine lv_iload_n hx hb d_Model_nextLevel_122 rfl (lv_at hl 1 rfl) ?_
              refine lv_imul hx hb d_Model_nextLevel_123 ?_
              refine lv_topi (fun v_236 ev_236 => ?_)
              obtain rfl : v_234 = v_236 := ev_234.trans ev_236.symm
              refine lv_iload_n hx hb d_Model_nextLevel_124 rfl (lv_at hl 0 rfl) ?_
              refine lv_iadd hx hb d_Model_nextLevel_125 ?_
              refine lv_topi (fun v_237 ev_237 => ?_)
              obtain rfl : v_235 = v_237 := ev_235.trans ev_237.symm
              refine va_lald hx hb hK hP 7 1 rfl rfl (zI.inn hv_235 (by decide)) d_Model_nextLevel_126 ?_
              refine lv_topl (fun v_238 ev_238 => ?_)
              refine va_last hx hb hK hP hD hS 5 1 rfl rfl (zI.inn hv_235 (by decide)) d_Model_nextLevel_127 (fun H locs hP hD hS => ?_)
              obtain ⟨f_239, hP, hD⟩ := z_newL 5 hP hD rfl
              have hP : va_P G.1 classes [(b0, .inr (12, [.int b1, .ref b2, .ref b3, .ref b4, .ref b5, .int b6, .ref b7, .int b8, .int b9, .int b10, .int b11, .ref b12, .ref b13, .ref b14, .int b15, .ref b16, .ref b17, .ref b18, .ref b19, .ref b20, .ref b21, .ref b22, .ref b23, .ref b24, .ref b25, .ref b26, .ref b27, .int b28, .ref b29, .ref b30, .int b31, .int b32, .int b33, .int b34, .ref b35, .ref b36, .ref b37, .ref b38, .ref b39, .ref b40, .ref b41, .int y_152, .ref b43, .ref b44, .int y_152, .ref b46, .ref b47, .ref b48, .ref b49, .ref b50, .int b51, .ref b52, .ref b53, .ref b54])), (b2, .inl (G.2 0, 503, .inl b55)), (b26, .inl (G.2 0, 2, .inl b56)), (b27, .inl (G.2 0, 2880, .inl b57)), (b30, .inl (G.2 1, 4, .inr (.inl y_153))), (b40, .inl (G.2 1, 4004, .inr (.inl f_239))), (b41, .inl (G.2 0, 1001, .inl f_209)), (b43, .inl (G.2 1, 4004, .inr (.inl y_154))), (b44, .inl (G.2 0, 1001, .inl y_155))] H := hP
              have hD := z_tie hP hD rfl
              obtain ⟨v_240, ev_240⟩ : ∃ z : Int32, z = y_226 + 1 := ⟨_, rfl⟩
              obtain ⟨qv_240, hv_240⟩ := zI_add (l := 1) (h := 4) hv_233 zc_1 ev_240 (by decide)
              rw [li_1] at qv_240
              refine lv_iinc (v := v_240) (lv' := [(2, .int v_240), (1, .int y_200), (0, .ref b0)]) hx hb d_Model_nextLevel_128 hl (k := 0) rfl (by rw [ev_240]; rfl) (by decide) rfl (fun ls hl => ?_)
              refine lv_goto (tgt := 103) hx hb d_Model_nextLevel_131 (by decide) ?_
              exact ihk_225 (v_240) (f_239) _ _ _ (zI.wk (l' := 0) (h' := 4) hv_240 (by decide)) (zm_up qv_240 hmk_225 (by decide)) hP hD hS (lv_sub hl [0, 1, 2] rfl)
    · have _nhc_157 := hc_157
      have ni_241 := (fa_lt _ _).mp (zi_nle hc_157)
      have hv_242 : zI y_151 0 99 := zI.lt_l hy_151 hv_1 (zi_nle hc_157) (by decide)
      have hv_243 : zI b42 1 100 := zI.lt_r hy_151 hv_1 (zi_nle hc_157) (by decide)
      refine lv_iconst (v := 0) hx hb d_Model_nextLevel_15 (by decide) ?_
      refine lv_istore_n (lv' := [(2, .int 0), (1, .int y_151), (0, .ref b0)]) hx hb d_Model_nextLevel_16 rfl hl (by decide) rfl (fun ls hl => ?_)
      suffices key : ∀ (k_273 : Nat) (y_274 : Int32) (y_275 : Int32) (y_276 : Nat → Int64) (y_277 : Nat → Int64) (y_278 : Nat → Int32) (H : Heap) (locs : List Loc) (ls : Array Slot), (zI y_274 0 10) → (zI y_275 0 1000) → ((y_275 : Int32).toInt ≤ 10 * (y_151 : Int32).toInt + (y_274 : Int32).toInt) → (10 : Int) - y_274.toInt < (k_273 : Int) → va_P G.1 classes [(b0, .inr (12, [.int b1, .ref b2, .ref b3, .ref b4, .ref b5, .int b6, .ref b7, .int b8, .int b9, .int b10, .int b11, .ref b12, .ref b13, .ref b14, .int b15, .ref b16, .ref b17, .ref b18, .ref b19, .ref b20, .ref b21, .ref b22, .ref b23, .ref b24, .ref b25, .ref b26, .ref b27, .int b28, .ref b29, .ref b30, .int b31, .int b32, .int b33, .int b34, .ref b35, .ref b36, .ref b37, .ref b38, .ref b39, .ref b40, .ref b41, .int b42, .ref b43, .ref b44, .int y_275, .ref b46, .ref b47, .ref b48, .ref b49, .ref b50, .int b51, .ref b52, .ref b53, .ref b54])), (b2, .inl (G.2 0, 503, .inl b55)), (b26, .inl (G.2 0, 2, .inl b56)), (b27, .inl (G.2 0, 2880, .inl b57)), (b30, .inl (G.2 1, 4, .inr (.inl y_276))), (b40, .inl (G.2 1, 4004, .inr (.inl b59))), (b41, .inl (G.2 0, 1001, .inl b60)), (b43, .inl (G.2 1, 4004, .inr (.inl y_277))), (b44, .inl (G.2 0, 1001, .inl y_278))] H → va_D A [(b0, .inr (12, [.int b1, .ref b2, .ref b3, .ref b4, .ref b5, .int b6, .ref b7, .int b8, .int b9, .int b10, .int b11, .ref b12, .ref b13, .ref b14, .int b15, .ref b16, .ref b17, .ref b18, .ref b19, .ref b20, .ref b21, .ref b22, .ref b23, .ref b24, .ref b25, .ref b26, .ref b27, .int b28, .ref b29, .ref b30, .int b31, .int b32, .int b33, .int b34, .ref b35, .ref b36, .ref b37, .ref b38, .ref b39, .ref b40, .ref b41, .int b42, .ref b43, .ref b44, .int y_275, .ref b46, .ref b47, .ref b48, .ref b49, .ref b50, .int b51, .ref b52, .ref b53, .ref b54])), (b2, .inl (G.2 0, 503, .inl b55)), (b26, .inl (G.2 0, 2, .inl b56)), (b27, .inl (G.2 0, 2880, .inl b57)), (b30, .inl (G.2 1, 4, .inr (.inl y_276))), (b40, .inl (G.2 1, 4004, .inr (.inl b59))), (b41, .inl (G.2 0, 1001, .inl b60)), (b43, .inl (G.2 1, 4004, .inr (.inl y_277))), (b44, .inl (G.2 0, 1001, .inl y_278))] → va_S A s.heap H locs → lv_has ls 3 [(2, .int y_274), (1, .int y_151), (0, .ref b0)] → W p l e m_s2_Model_nextLevel s m ([.ref b0] : List Value).toArray below meth c H locs 0 0 (MQ below (zQ G (fun v w => ∃ (e0 : Int32), ∃ (e1 : Int32), ∃ (e2 : Nat → Int64), ∃ (e3 : Nat → Int64), ∃ (e4 : Nat → Int32), ∃ (e5 : Nat → Int64), ∃ (e6 : Nat → Int32), v = none ∧ w = [(b0, .inr (12, [.int b1, .ref b2, .ref b3, .ref b4, .ref b5, .int b6, .ref b7, .int b8, .int b9, .int b10, .int b11, .ref b12, .ref b13, .ref b14, .int b15, .ref b16, .ref b17, .ref b18, .ref b19, .ref b20, .ref b21, .ref b22, .ref b23, .ref b24, .ref b25, .ref b26, .ref b27, .int b28, .ref b29, .ref b30, .int b31, .int b32, .int b33, .int b34, .ref b35, .ref b36, .ref b37, .ref b38, .ref b39, .ref b40, .ref b41, .int e0, .ref b43, .ref b44, .int e1, .ref b46, .ref b47, .ref b48, .ref b49, .ref b50, .int b51, .ref b52, .ref b53, .ref b54])), (b2, .inl (G.2 0, 503, .inl b55)), (b26, .inl (G.2 0, 2, .inl b56)), (b27, .inl (G.2 0, 2880, .inl b57)), (b30, .inl (G.2 1, 4, .inr (.inl e2))), (b40, .inl (G.2 1, 4004, .inr (.inl e3))), (b41, .inl (G.2 0, 1001, .inl e4)), (b43, .inl (G.2 1, 4004, .inr (.inl e5))), (b44, .inl (G.2 0, 1001, .inl e6))] ∧ (zI e0 0 1000) ∧ (zI e1 0 1000)) A) ([.ref b0] : List Value).toArray s m_s2_Model_nextLevel.cells m_s2_Model_nextLevel.slots A) (F0 m 17 ls []) by
        exact key 11 (0) (y_152) (y_153) (y_154) (y_155) _ _ _ (zI.wk (l' := 0) (h' := 10) zc_0 (by decide)) hy_152 (by have _l2 := li_0; omega) (zm_upi (zI.wk (l' := 0) (h' := 10) zc_0 (by decide)) (by decide)) hP hD hS (lv_sub hl [0, 1, 2] rfl)
      intro k_273
      induction k_273 with
      | zero =>
        intro y_274 y_275 y_276 y_277 y_278 H locs ls hy_274 hy_275 hli_279 hmk_273 hP hD hS hl
        exact (zm_up0 hy_274 hmk_273).elim
      | succ k_273 ihk_273 =>
        intro y_274 y_275 y_276 y_277 y_278 H locs ls hy_274 hy_275 hli_279 hmk_273 hP hD hS hl
        refine lv_iload_n hx hb d_Model_nextLevel_17 rfl (lv_at hl 0 rfl) ?_
        refine lv_bipush (v := 10) hx hb d_Model_nextLevel_18 (by decide) ?_
        refine lv_icmp_ge (tgt := 65) hx hb d_Model_nextLevel_20 (by decide) (fun hc_280 => ?_) (fun hc_280 => ?_)
        · have _nhc_280 := hc_280
          have ni_281 := (fa_le _ _).mp hc_280
          rw [li_10] at ni_281
          have hv_282 : zI y_274 10 10 := zI.le_r zc_10 hy_274 hc_280 (by decide)
          obtain ⟨v_283, ev_283⟩ : ∃ z : Int32, z = y_151 + 1 := ⟨_, rfl⟩
          obtain ⟨qv_283, hv_283⟩ := zI_add (l := 1) (h := 100) hv_242 zc_1 ev_283 (by decide)
          rw [li_1] at qv_283
          refine lv_iinc (v := v_283) (lv' := [(1, .int v_283), (2, .int y_274), (0, .ref b0)]) hx hb d_Model_nextLevel_65 hl (k := 1) rfl (by rw [ev_283]; rfl) (by decide) rfl (fun ls hl => ?_)
          refine lv_goto (tgt := 7) hx hb d_Model_nextLevel_68 (by decide) ?_
          exact ihk_150 (v_283) (y_275) (y_276) (y_277) (y_278) _ _ _ (zI.wk (l' := 0) (h' := 100) hv_283 (by decide)) hy_275 (by omega) (zm_up qv_283 hmk_150 (by decide)) hP hD hS (lv_sub hl [0, 2] rfl)
        · have _nhc_280 := hc_280
          have ni_284 := (fa_lt _ _).mp (zi_nle hc_280)
          rw [li_10] at ni_284
          have hv_285 : zI y_274 0 9 := zI.lt_l hy_274 zc_10 (zi_nle hc_280) (by decide)
          refine lv_aload_n hx hb d_Model_nextLevel_23 rfl (lv_at hl 2 rfl) ?_
          refine lv_iconst (v := 0) hx hb d_Model_nextLevel_24 (by decide) ?_
          refine lv_aload_n hx hb d_Model_nextLevel_25 rfl (lv_at hl 2 rfl) ?_
          refine va_get (D := G.1) (ci := 12) (v := .ref b40) (C := R_Model) (T := F_Model) (N := 54) hx hb hts i_Model hown hK hP 0 rfl rfl 39 (by decide) (hts _ q1148) (fun _ h9 => h9) rfl d_Model_nextLevel_26 ?_
          refine lv_iconst (v := 4) hx hb d_Model_nextLevel_29 (by decide) ?_
          refine lv_iload_n hx hb d_Model_nextLevel_30 rfl (lv_at hl 1 rfl) ?_
          refine lv_imul hx hb d_Model_nextLevel_31 ?_
          refine lv_topi (fun v_286 ev_286 => ?_)
          obtain ⟨qv_286, hv_286⟩ := zI_mul (l := 0) (h := 396) zc_4 hv_242 ev_286 (by decide)
          rw [li_4] at qv_286
          refine lv_iload_n hx hb d_Model_nextLevel_32 rfl (lv_at hl 0 rfl) ?_
          refine lv_iconst (v := 0) hx hb d_Model_nextLevel_33 (by decide) ?_
          refine lv_iconst (v := 0) hx hb d_Model_nextLevel_34 (by decide) ?_
          refine z_callV (index := 282) (As := [.int 0, .ref b40, .int v_286, .int y_274, .int 0, .int 0]) (rest := []) (wr := [(b41, .inl (G.2 0, 1001, .inl b60)), (b43, .inl (G.2 1, 4004, .inr (.inl y_277))), (b44, .inl (G.2 0, 1001, .inl y_278))]) Z (s9_Model_step l G (b0) (b40) (v_286) (y_274) (0) (0) (b1) (b2) (b3) (b4) (b5) (b6) (b7) (b8) (b9) (b10) (b11) (b12) (b13) (b14) (b15) (b16) (b17) (b18) (b19) (b20) (b21) (b22) (b23) (b24) (b25) (b26) (b27) (b28) (b29) (b30) (b31) (b32) (b33) (b34) (b35) (b36) (b37) (b38) (b39) (b41) (b42) (b43) (b44) (y_275) (b46) (b47) (b48) (b49) (b50) (b51) (b52) (b53) (b54) (b55) (b56) (b57) (y_276) (b59) (zI.wk (l' := 0) (h' := 4000) hv_286 (by decide)) hv_285 zc_0 (zI.wk (l' := 0) (h' := 1) zc_0 (by decide)) hb6 hb8 hb9 hb11 hb15 hb28 hb31 (zI.wk (l' := 0) (h' := 1000) hv_243 (by decide)) hy_275 hb51 hb55 hb56 hb57) hl.1 q1460 q1462 qs76 q14 q1463 ⟨by decide, by decide, by show _ = some 6; decide +kernel⟩ ⟨Nat.le_of_ble_eq_true rfl, Nat.le_of_ble_eq_true rfl⟩ ⟨Nat.le_of_ble_eq_true rfl, Nat.le_of_ble_eq_true rfl⟩ rfl (Nat.le_of_ble_eq_true rfl) d_Model_nextLevel_35 hP hD hS hA 0 12 rfl rfl rfl [0, 1, 2, 3, 4, 5] [6, 7, 8] rfl rfl rfl rfl (by decide) (fun v w1 H locs hw_287 hP hD hS => ?_)
          obtain ⟨f_288, rfl, rfl⟩ := hw_287
          have hP : va_P G.1 classes [(b41, .inl (G.2 0, 1001, .inl b60)), (b43, .inl (G.2 1, 4004, .inr (.inl y_277))), (b44, .inl (G.2 0, 1001, .inl y_278)), (b0, .inr (12, [.int b1, .ref b2, .ref b3, .ref b4, .ref b5, .int b6, .ref b7, .int b8, .int b9, .int b10, .int b11, .ref b12, .ref b13, .ref b14, .int b15, .ref b16, .ref b17, .ref b18, .ref b19, .ref b20, .ref b21, .ref b22, .ref b23, .ref b24, .ref b25, .ref b26, .ref b27, .int b28, .ref b29, .ref b30, .int b31, .int b32, .int b33, .int b34, .ref b35, .ref b36, .ref b37, .ref b38, .ref b39, .ref b40, .ref b41, .int b42, .ref b43, .ref b44, .int y_275, .ref b46, .ref b47, .ref b48, .ref b49, .ref b50, .int b51, .ref b52, .ref b53, .ref b54])), (b2, .inl (G.2 0, 503, .inl b55)), (b26, .inl (G.2 0, 2, .inl b56)), (b27, .inl (G.2 0, 2880, .inl b57)), (b30, .inl (G.2 1, 4, .inr (.inl f_288))), (b40, .inl (G.2 1, 4004, .inr (.inl b59)))] H := hP
          have hD := z_tie hP hD rfl
          refine W.widen (k := 0) (n := 0) (Nat.le_of_ble_eq_true rfl) (Nat.le_of_ble_eq_true rfl) ?_
          refine lv_aload_n hx hb d_Model_nextLevel_38 rfl (lv_at hl 2 rfl) ?_
          refine va_get (D := G.1) (ci := 12) (v := .ref b30) (C := R_Model) (T := F_Model) (N := 54) hx hb hts i_Model hown hK hP 3 rfl rfl 29 (by decide) (hts _ q1138) (fun _ h9 => h9) rfl d_Model_nextLevel_39 ?_
          refine lv_iconst (v := 0) hx hb d_Model_nextLevel_42 (by decide) ?_
          refine z_callS (index := 278) (As := [.ref b30, .int 0]) (rest := []) (wr := [(b41, .inl (G.2 0, 1001, .inl b60)), (b43, .inl (G.2 1, 4004, .inr (.inl y_277))), (b44, .inl (G.2 0, 1001, .inl y_278)), (b0, .inr (12, [.int b1, .ref b2, .ref b3, .ref b4, .ref b5, .int b6, .ref b7, .int b8, .int b9, .int b10, .int b11, .ref b12, .ref b13, .ref b14, .int b15, .ref b16, .ref b17, .ref b18, .ref b19, .ref b20, .ref b21, .ref b22, .ref b23, .ref b24, .ref b25, .ref b26, .ref b27, .int b28, .ref b29, .ref b30, .int b31, .int b32, .int b33, .int b34, .ref b35, .ref b36, .ref b37, .ref b38, .ref b39, .ref b40, .ref b41, .int b42, .ref b43, .ref b44, .int y_275, .ref b46, .ref b47, .ref b48, .ref b49, .ref b50, .int b51, .ref b52, .ref b53, .ref b54])), (b2, .inl (G.2 0, 503, .inl b55)), (b26, .inl (G.2 0, 2, .inl b56)), (b27, .inl (G.2 0, 2880, .inl b57)), (b40, .inl (G.2 1, 4004, .inr (.inl b59)))]) Z (s2_Model_isEmpty l G (b30) (0) (f_288) zc_0) hl.1 q1457 q1458 q14 q1459 ⟨by decide, by decide, by show _ = some 2; decide +kernel⟩ ⟨Nat.le_of_ble_eq_true rfl, Nat.le_of_ble_eq_true rfl⟩ ⟨Nat.le_of_ble_eq_true rfl, Nat.le_of_ble_eq_true rfl⟩ rfl (Nat.le_of_ble_eq_true rfl) d_Model_nextLevel_43 hP hD hS hA [7] [0, 1, 2, 3, 4, 5, 6, 8] rfl rfl rfl rfl (by decide) (fun v w1 H locs hw_289 hP hD hS => ?_)
          obtain ⟨x_290, rfl, rfl, hx_290⟩ := hw_289
          have hP : va_P G.1 classes [(b41, .inl (G.2 0, 1001, .inl b60)), (b43, .inl (G.2 1, 4004, .inr (.inl y_277))), (b44, .inl (G.2 0, 1001, .inl y_278)), (b0, .inr (12, [.int b1, .ref b2, .ref b3, .ref b4, .ref b5, .int b6, .ref b7, .int b8, .int b9, .int b10, .int b11, .ref b12, .ref b13, .ref b14, .int b15, .ref b16, .ref b17, .ref b18, .ref b19, .ref b20, .ref b21, .ref b22, .ref b23, .ref b24, .ref b25, .ref b26, .ref b27, .int b28, .ref b29, .ref b30, .int b31, .int b32, .int b33, .int b34, .ref b35, .ref b36, .ref b37, .ref b38, .ref b39, .ref b40, .ref b41, .int b42, .ref b43, .ref b44, .int y_275, .ref b46, .ref b47, .ref b48, .ref b49, .ref b50, .int b51, .ref b52, .ref b53, .ref b54])), (b2, .inl (G.2 0, 503, .inl b55)), (b26, .inl (G.2 0, 2, .inl b56)), (b27, .inl (G.2 0, 2880, .inl b57)), (b40, .inl (G.2 1, 4004, .inr (.inl b59))), (b30, .inl (G.2 1, 4, .inr (.inl f_288)))] H := hP
          have hD := z_tie hP hD rfl
          refine W.widen (k := 0) (n := 0) (Nat.le_of_ble_eq_true rfl) (Nat.le_of_ble_eq_true rfl) ?_
          refine lv_if_ne (tgt := 59) hx hb d_Model_nextLevel_46 (by decide) (fun hc_291 => ?_) (fun hc_291 => ?_)
          · have _nhc_291 := hc_291
            have ni_292 : ¬ (x_290 : Int32).toInt = (0 : Int32).toInt := fun z => hc_291 ((fa_eq _ _).mpr z)
            simp only [li_0] at ni_292
            have hv_293 : zI x_290 1 1 := zI.ne_lo hx_290 zc_0 hc_291 (by decide)
            obtain ⟨v_294, ev_294⟩ : ∃ z : Int32, z = y_274 + 1 := ⟨_, rfl⟩
            obtain ⟨qv_294, hv_294⟩ := zI_add (l := 1) (h := 10) hv_285 zc_1 ev_294 (by decide)
            rw [li_1] at qv_294
            refine lv_iinc (v := v_294) (lv' := [(2, .int v_294), (1, .int y_151), (0, .ref b0)]) hx hb d_Model_nextLevel_59 hl (k := 0) rfl (by rw [ev_294]; rfl) (by decide) rfl (fun ls hl => ?_)
            refine lv_goto (tgt := 17) hx hb d_Model_nextLevel_62 (by decide) ?_
            exact ihk_273 (v_294) (y_275) (f_288) (y_277) (y_278) _ _ _ (zI.wk (l' := 0) (h' := 10) hv_294 (by decide)) hy_275 (by omega) (zm_up qv_294 hmk_273 (by decide)) (hP.sub [3, 4, 5, 6, 8, 7, 0, 1, 2] rfl) (hD.sub [3, 4, 5, 6, 8, 7, 0, 1, 2] (by decide) rfl) hS (lv_sub hl [0, 1, 2] rfl)
          · have _nhc_291 := hc_291
            have ni_295 := (fa_eq _ _).mp hc_291
            rw [li_0] at ni_295
            have hv_296 : zI x_290 0 0 := zI.eq_l hx_290 zc_0 hc_291
            refine lv_aload_n hx hb d_Model_nextLevel_49 rfl (lv_at hl 2 rfl) ?_
            refine lv_aload_n hx hb d_Model_nextLevel_50 rfl (lv_at hl 2 rfl) ?_
            refine va_get (D := G.1) (ci := 12) (v := .ref b41) (C := R_Model) (T := F_Model) (N := 54) hx hb hts i_Model hown hK hP 3 rfl rfl 40 (by decide) (hts _ q1149) (fun _ h9 => h9) rfl d_Model_nextLevel_51 ?_
            refine lv_iload_n hx hb d_Model_nextLevel_54 rfl (lv_at hl 1 rfl) ?_
            refine va_iald hx hb hK hP 0 0 rfl rfl (zI.inn hv_242 (by decide)) d_Model_nextLevel_55 ?_
            refine lv_topi (fun v_297 ev_297 => ?_)
            refine z_callV (index := 330) (As := [.int v_297]) (rest := []) (wr := [(b41, .inl (G.2 0, 1001, .inl b60)), (b2, .inl (G.2 0, 503, .inl b55)), (b26, .inl (G.2 0, 2, .inl b56)), (b27, .inl (G.2 0, 2880, .inl b57)), (b40, .inl (G.2 1, 4004, .inr (.inl b59)))]) Z (s2_Model_addNext l G (b0) (v_297) (b1) (b2) (b3) (b4) (b5) (b6) (b7) (b8) (b9) (b10) (b11) (b12) (b13) (b14) (b15) (b16) (b17) (b18) (b19) (b20) (b21) (b22) (b23) (b24) (b25) (b26) (b27) (b28) (b29) (b30) (b31) (b32) (b33) (b34) (b35) (b36) (b37) (b38) (b39) (b40) (b41) (b42) (b43) (b44) (y_275) (b46) (b47) (b48) (b49) (b50) (b51) (b52) (b53) (b54) (f_288) (y_277) (y_278) hb6 hb8 hb9 hb11 hb15 hb28 hb31 (zI.wk (l' := 0) (h' := 1000) hv_243 (by decide)) hy_275 hb51 (by omega)) hl.1 q1509 q1511 qs82 q14 q1512 ⟨by decide, by decide, by show _ = some 1; decide +kernel⟩ ⟨Nat.le_of_ble_eq_true rfl, Nat.le_of_ble_eq_true rfl⟩ ⟨Nat.le_of_ble_eq_true rfl, Nat.le_of_ble_eq_true rfl⟩ rfl (Nat.le_of_ble_eq_true rfl) d_Model_nextLevel_56 hP hD hS hA 3 12 rfl rfl rfl [3, 8, 1, 2] [0, 4, 5, 6, 7] rfl rfl rfl rfl (by decide) (fun v w1 H locs hw_298 hP hD hS => ?_)
            obtain ⟨x_299, f_300, f_301, rfl, rfl, hx_299, hfx_302⟩ := hw_298
            have hP : va_P G.1 classes [(b41, .inl (G.2 0, 1001, .inl b60)), (b2, .inl (G.2 0, 503, .inl b55)), (b26, .inl (G.2 0, 2, .inl b56)), (b27, .inl (G.2 0, 2880, .inl b57)), (b40, .inl (G.2 1, 4004, .inr (.inl b59))), (b0, .inr (12, [.int b1, .ref b2, .ref b3, .ref b4, .ref b5, .int b6, .ref b7, .int b8, .int b9, .int b10, .int b11, .ref b12, .ref b13, .ref b14, .int b15, .ref b16, .ref b17, .ref b18, .ref b19, .ref b20, .ref b21, .ref b22, .ref b23, .ref b24, .ref b25, .ref b26, .ref b27, .int b28, .ref b29, .ref b30, .int b31, .int b32, .int b33, .int b34, .ref b35, .ref b36, .ref b37, .ref b38, .ref b39, .ref b40, .ref b41, .int b42, .ref b43, .ref b44, .int x_299, .ref b46, .ref b47, .ref b48, .ref b49, .ref b50, .int b51, .ref b52, .ref b53, .ref b54])), (b30, .inl (G.2 1, 4, .inr (.inl f_288))), (b43, .inl (G.2 1, 4004, .inr (.inl f_300))), (b44, .inl (G.2 0, 1001, .inl f_301))] H := hP
            have hD := z_tie hP hD rfl
            refine W.widen (k := 0) (n := 0) (Nat.le_of_ble_eq_true rfl) (Nat.le_of_ble_eq_true rfl) ?_
            obtain ⟨v_303, ev_303⟩ : ∃ z : Int32, z = y_274 + 1 := ⟨_, rfl⟩
            obtain ⟨qv_303, hv_303⟩ := zI_add (l := 1) (h := 10) hv_285 zc_1 ev_303 (by decide)
            rw [li_1] at qv_303
            refine lv_iinc (v := v_303) (lv' := [(2, .int v_303), (1, .int y_151), (0, .ref b0)]) hx hb d_Model_nextLevel_59 hl (k := 0) rfl (by rw [ev_303]; rfl) (by decide) rfl (fun ls hl => ?_)
            refine lv_goto (tgt := 17) hx hb d_Model_nextLevel_62 (by decide) ?_
            exact ihk_273 (v_303) (x_299) (f_288) (f_300) (f_301) _ _ _ (zI.wk (l' := 0) (h' := 10) hv_303 (by decide)) hx_299 (by omega) (zm_up qv_303 hmk_273 (by decide)) (hP.sub [5, 1, 2, 3, 6, 4, 0, 7, 8] rfl) (hD.sub [5, 1, 2, 3, 6, 4, 0, 7, 8] (by decide) rfl) hS (lv_sub hl [0, 1, 2] rfl)
theorem d_Model_words_98 : decode prog_14_method_63_code 98 = .ok (.ireturn, 1) := by decide +kernel
abbrev m_s1_Model_words : Room := { frames := 5, cells := 0, slots := 0, locals := 124 }
abbrev Q_s1_Model_words (G : zG) (b0 : Nat) (b3 : Nat) (b4 : Nat) (b5 : Nat) (b6 : Nat) (b7 : Int32) (b8 : Nat) (b9 : Int32) (b10 : Int32) (b11 : Int32) (b12 : Int32) (b13 : Nat) (b14 : Nat) (b15 : Nat) (b16 : Int32) (b17 : Nat) (b18 : Nat) (b19 : Nat) (b20 : Nat) (b21 : Nat) (b22 : Nat) (b23 : Nat) (b24 : Nat) (b25 : Nat) (b26 : Nat) (b27 : Nat) (b28 : Nat) (b30 : Nat) (b31 : Nat) (b32 : Int32) (b33 : Int32) (b34 : Int32) (b35 : Int32) (b36 : Nat) (b37 : Nat) (b38 : Nat) (b39 : Nat) (b40 : Nat) (b41 : Nat) (b42 : Nat) (b44 : Nat) (b45 : Nat) (b47 : Nat) (b48 : Nat) (b49 : Nat) (b50 : Nat) (b51 : Nat) (b52 : Int32) (b53 : Nat) (b54 : Nat) (b55 : Nat) (b56 : Nat → Int32) (e0 : Int32) (e1 : Int32) (e2 : Int32) (e3 : Int32) (e4 : Nat → Int32) (e5 : Nat → Int32) (e6 : Nat → Int32) (e7 : Nat → Int32) (e8 : Nat → Int32) (e9 : Nat → Int32) (e10 : Nat → Int32) (e11 : Nat → Int32) (e12 : Nat → Int32) (e13 : Nat → Int32) (e14 : Nat → Int32) (e15 : Nat → Int32) (e16 : Nat → Int64) (e17 : Nat → Int64) (e18 : Nat → Int64) (e19 : Nat → Int32) (e20 : Nat → Int64) (e21 : Nat → Int32) (v : Option Value) (w : va_W) : Prop := v = some (.int e0) ∧ w = [(b0, .inr (12, [.int 0, .ref b3, .ref b4, .ref b5, .ref b6, .int b7, .ref b8, .int b9, .int b10, .int b11, .int b12, .ref b13, .ref b14, .ref b15, .int b16, .ref b17, .ref b18, .ref b19, .ref b20, .ref b21, .ref b22, .ref b23, .ref b24, .ref b25, .ref b26, .ref b27, .ref b28, .int e1, .ref b30, .ref b31, .int b32, .int b33, .int b34, .int b35, .ref b36, .ref b37, .ref b38, .ref b39, .ref b40, .ref b41, .ref b42, .int e2, .ref b44, .ref b45, .int e3, .ref b47, .ref b48, .ref b49, .ref b50, .ref b51, .int b52, .ref b53, .ref b54, .ref b55])), (b3, .inl (G.2 0, 503, .inl b56)), (b17, .inl (G.2 0, 2, .inl e4)), (b18, .inl (G.2 0, 4820, .inl e5)), (b19, .inl (G.2 0, 520, .inl e6)), (b20, .inl (G.2 0, 9640, .inl e7)), (b21, .inl (G.2 0, 482, .inl e8)), (b22, .inl (G.2 0, 482, .inl e9)), (b23, .inl (G.2 0, 2, .inl e10)), (b24, .inl (G.2 0, 482, .inl e11)), (b25, .inl (G.2 0, 482, .inl e12)), (b26, .inl (G.2 0, 482, .inl e13)), (b27, .inl (G.2 0, 2, .inl e14)), (b28, .inl (G.2 0, 2880, .inl e15)), (b30, .inl (G.2 1, 4, .inr (.inl e16))), (b31, .inl (G.2 1, 4, .inr (.inl e17))), (b41, .inl (G.2 1, 4004, .inr (.inl e18))), (b42, .inl (G.2 0, 1001, .inl e19)), (b44, .inl (G.2 1, 4004, .inr (.inl e20))), (b45, .inl (G.2 0, 1001, .inl e21))] ∧ (zI e1 0 1) ∧ (zI e2 0 1000) ∧ (zI e3 0 1000) ∧ (zR e4 0 241) ∧ (zR e5 (-1) 240) ∧ (zqa qP e6) ∧ (zqa qC e8) ∧ (zR e9 0 240) ∧ (zR e10 0 241) ∧ (zR e11 0 240) ∧ (zR e14 0 240) ∧ (zqa qE e15)
set_option maxHeartbeats 4000000 in
set_option maxRecDepth 100000 in
theorem s1_Model_words (l : Launch) (G : zG) (b0 : Nat) (b1 : Int32) (b2 : Int32) (b3 : Nat) (b4 : Nat) (b5 : Nat) (b6 : Nat) (b7 : Int32) (b8 : Nat) (b9 : Int32) (b10 : Int32) (b11 : Int32) (b12 : Int32) (b13 : Nat) (b14 : Nat) (b15 : Nat) (b16 : Int32) (b17 : Nat) (b18 : Nat) (b19 : Nat) (b20 : Nat) (b21 : Nat) (b22 : Nat) (b23 : Nat) (b24 : Nat) (b25 : Nat) (b26 : Nat) (b27 : Nat) (b28 : Nat) (b29 : Int32) (b30 : Nat) (b31 : Nat) (b32 : Int32) (b33 : Int32) (b34 : Int32) (b35 : Int32) (b36 : Nat) (b37 : Nat) (b38 : Nat) (b39 : Nat) (b40 : Nat) (b41 : Nat) (b42 : Nat) (b43 : Int32) (b44 : Nat) (b45 : Nat) (b46 : Int32) (b47 : Nat) (b48 : Nat) (b49 : Nat) (b50 : Nat) (b51 : Nat) (b52 : Int32) (b53 : Nat) (b54 : Nat) (b55 : Nat) (b56 : Nat → Int32) (b57 : Nat → Int32) (b58 : Nat → Int32) (b59 : Nat → Int32) (b60 : Nat → Int32) (b61 : Nat → Int32) (b62 : Nat → Int32) (b63 : Nat → Int32) (b64 : Nat → Int32) (b65 : Nat → Int32) (b66 : Nat → Int32) (b67 : Nat → Int32) (b68 : Nat → Int32) (b69 : Nat → Int64) (b70 : Nat → Int64) (b71 : Nat → Int64) (b72 : Nat → Int32) (b73 : Nat → Int64) (b74 : Nat → Int32) (hb7 : zI b7 0 8) (hb9 : zI b9 0 240) (hb10 : zI b10 0 240) (hb12 : zI b12 0 1) (hb16 : zI b16 0 12) (hb29 : zI b29 0 1) (hb32 : zI b32 0 1) (hb43 : zI b43 0 1000) (hb46 : zI b46 0 1000) (hb52 : zI b52 0 400) (hb56 : zW5 b56) (hb57 : zR b57 0 241) (hb58 : zR b58 (-1) 240) (hb59 : zqa qP b59) (hb61 : zqa qC b61) (hb62 : zR b62 0 240) (hb63 : zR b63 0 241) (hb64 : zR b64 0 240) (hb67 : zR b67 0 240) (hb68 : zqa qE b68) : zM l G y_Model_words prog_14_method_63_code 4 (Option.some Jvm.ClassFile.FieldType.int) m_s1_Model_words [.ref b0, .int b1] [(b0, .inr (12, [.int b2, .ref b3, .ref b4, .ref b5, .ref b6, .int b7, .ref b8, .int b9, .int b10, .int b11, .int b12, .ref b13, .ref b14, .ref b15, .int b16, .ref b17, .ref b18, .ref b19, .ref b20, .ref b21, .ref b22, .ref b23, .ref b24, .ref b25, .ref b26, .ref b27, .ref b28, .int b29, .ref b30, .ref b31, .int b32, .int b33, .int b34, .int b35, .ref b36, .ref b37, .ref b38, .ref b39, .ref b40, .ref b41, .ref b42, .int b43, .ref b44, .ref b45, .int b46, .ref b47, .ref b48, .ref b49, .ref b50, .ref b51, .int b52, .ref b53, .ref b54, .ref b55])), (b3, .inl (G.2 0, 503, .inl b56)), (b17, .inl (G.2 0, 2, .inl b57)), (b18, .inl (G.2 0, 4820, .inl b58)), (b19, .inl (G.2 0, 520, .inl b59)), (b20, .inl (G.2 0, 9640, .inl b60)), (b21, .inl (G.2 0, 482, .inl b61)), (b22, .inl (G.2 0, 482, .inl b62)), (b23, .inl (G.2 0, 2, .inl b63)), (b24, .inl (G.2 0, 482, .inl b64)), (b25, .inl (G.2 0, 482, .inl b65)), (b26, .inl (G.2 0, 482, .inl b66)), (b27, .inl (G.2 0, 2, .inl b67)), (b28, .inl (G.2 0, 2880, .inl b68)), (b30, .inl (G.2 1, 4, .inr (.inl b69))), (b31, .inl (G.2 1, 4, .inr (.inl b70))), (b41, .inl (G.2 1, 4004, .inr (.inl b71))), (b42, .inl (G.2 0, 1001, .inl b72)), (b44, .inl (G.2 1, 4004, .inr (.inl b73))), (b45, .inl (G.2 0, 1001, .inl b74))] (fun v w => ∃ (e0 : Int32), ∃ (e1 : Int32), ∃ (e2 : Int32), ∃ (e3 : Int32), ∃ (e4 : Nat → Int32), ∃ (e5 : Nat → Int32), ∃ (e6 : Nat → Int32), ∃ (e7 : Nat → Int32), ∃ (e8 : Nat → Int32), ∃ (e9 : Nat → Int32), ∃ (e10 : Nat → Int32), ∃ (e11 : Nat → Int32), ∃ (e12 : Nat → Int32), ∃ (e13 : Nat → Int32), ∃ (e14 : Nat → Int32), ∃ (e15 : Nat → Int32), ∃ (e16 : Nat → Int64), ∃ (e17 : Nat → Int64), ∃ (e18 : Nat → Int64), ∃ (e19 : Nat → Int32), ∃ (e20 : Nat → Int64), ∃ (e21 : Nat → Int32), Q_s1_Model_words G b0 b3 b4 b5 b6 b7 b8 b9 b10 b11 b12 b13 b14 b15 b16 b17 b18 b19 b20 b21 b22 b23 b24 b25 b26 b27 b28 b30 b31 b32 b33 b34 b35 b36 b37 b38 b39 b40 b41 b42 b44 b45 b47 b48 b49 b50 b51 b52 b53 b54 b55 b56 e0 e1 e2 e3 e4 e5 e6 e7 e8 e9 e10 e11 e12 e13 e14 e15 e16 e17 e18 e19 e20 e21 v w) := by
  refine z_start (by decide +kernel) (Nat.le_of_ble_eq_true rfl) ?_
  intro p e s m below meth c A Z hr hnm hA hP hD hS ls hl
  have Z : zC p s m _ meth c prog_14_method_63_code 4 "TraceMachinesModel" G := Z
  obtain ⟨hx, hb, hml, hown, hts, hK, hN, hlocks⟩ := id Z
  have hl : lv_has ls 4 [(0, .ref b0), (1, .int b1)] := hl
  refine lv_aload_n hx hb d_Model_words_0 rfl (lv_at hl 0 rfl) ?_
  refine lv_iconst (v := 0) hx hb d_Model_words_1 (by decide) ?_
  refine va_put (D := G.1) (ci := 12) (v := .int 0) (ty := .int) (C := R_Model) (T := F_Model) (N := 54) hx hb hts i_Model t_Model t_Model_ok n_Model hown hK hP hD hS 0 rfl rfl 0 (by decide) (hts _ q1109) (fun _ h9 => h9) rfl (by decide +kernel) rfl rfl (Nat.le_of_ble_eq_true rfl) d_Model_words_2 (fun H locs hP hD hS => ?_)
  have hP : va_P G.1 classes [(b0, .inr (12, [.int 0, .ref b3, .ref b4, .ref b5, .ref b6, .int b7, .ref b8, .int b9, .int b10, .int b11, .int b12, .ref b13, .ref b14, .ref b15, .int b16, .ref b17, .ref b18, .ref b19, .ref b20, .ref b21, .ref b22, .ref b23, .ref b24, .ref b25, .ref b26, .ref b27, .ref b28, .int b29, .ref b30, .ref b31, .int b32, .int b33, .int b34, .int b35, .ref b36, .ref b37, .ref b38, .ref b39, .ref b40, .ref b41, .ref b42, .int b43, .ref b44, .ref b45, .int b46, .ref b47, .ref b48, .ref b49, .ref b50, .ref b51, .int b52, .ref b53, .ref b54, .ref b55])), (b3, .inl (G.2 0, 503, .inl b56)), (b17, .inl (G.2 0, 2, .inl b57)), (b18, .inl (G.2 0, 4820, .inl b58)), (b19, .inl (G.2 0, 520, .inl b59)), (b20, .inl (G.2 0, 9640, .inl b60)), (b21, .inl (G.2 0, 482, .inl b61)), (b22, .inl (G.2 0, 482, .inl b62)), (b23, .inl (G.2 0, 2, .inl b63)), (b24, .inl (G.2 0, 482, .inl b64)), (b25, .inl (G.2 0, 482, .inl b65)), (b26, .inl (G.2 0, 482, .inl b66)), (b27, .inl (G.2 0, 2, .inl b67)), (b28, .inl (G.2 0, 2880, .inl b68)), (b30, .inl (G.2 1, 4, .inr (.inl b69))), (b31, .inl (G.2 1, 4, .inr (.inl b70))), (b41, .inl (G.2 1, 4004, .inr (.inl b71))), (b42, .inl (G.2 0, 1001, .inl b72)), (b44, .inl (G.2 1, 4004, .inr (.inl b73))), (b45, .inl (G.2 0, 1001, .inl b74))] H := hP
  have hD := z_tie hP hD rfl
  refine lv_iload_n hx hb d_Model_words_5 rfl (lv_at hl 1 rfl) ?_
  refine lv_i2l (v := b1.toInt64) hx hb d_Model_words_6 rfl ?_
  refine lv_lconst (v := 0) hx hb d_Model_words_7 (by decide) ?_
  refine lv_ldc2 hx hb hown (hts _ q1504) d_Model_words_8 ?_
  refine z_callS (index := 138) (As := [.long b1.toInt64, .long 0, .long 8]) (rest := []) (wr := [(b0, .inr (12, [.int 0, .ref b3, .ref b4, .ref b5, .ref b6, .int b7, .ref b8, .int b9, .int b10, .int b11, .int b12, .ref b13, .ref b14, .ref b15, .int b16, .ref b17, .ref b18, .ref b19, .ref b20, .ref b21, .ref b22, .ref b23, .ref b24, .ref b25, .ref b26, .ref b27, .ref b28, .int b29, .ref b30, .ref b31, .int b32, .int b33, .int b34, .int b35, .ref b36, .ref b37, .ref b38, .ref b39, .ref b40, .ref b41, .ref b42, .int b43, .ref b44, .ref b45, .int b46, .ref b47, .ref b48, .ref b49, .ref b50, .ref b51, .int b52, .ref b53, .ref b54, .ref b55])), (b3, .inl (G.2 0, 503, .inl b56)), (b17, .inl (G.2 0, 2, .inl b57)), (b18, .inl (G.2 0, 4820, .inl b58)), (b19, .inl (G.2 0, 520, .inl b59)), (b20, .inl (G.2 0, 9640, .inl b60)), (b21, .inl (G.2 0, 482, .inl b61)), (b22, .inl (G.2 0, 482, .inl b62)), (b23, .inl (G.2 0, 2, .inl b63)), (b24, .inl (G.2 0, 482, .inl b64)), (b25, .inl (G.2 0, 482, .inl b65)), (b26, .inl (G.2 0, 482, .inl b66)), (b27, .inl (G.2 0, 2, .inl b67)), (b28, .inl (G.2 0, 2880, .inl b68)), (b30, .inl (G.2 1, 4, .inr (.inl b69))), (b31, .inl (G.2 1, 4, .inr (.inl b70))), (b41, .inl (G.2 1, 4004, .inr (.inl b71))), (b42, .inl (G.2 0, 1001, .inl b72)), (b44, .inl (G.2 1, 4004, .inr (.inl b73))), (b45, .inl (G.2 0, 1001, .inl b74))]) Z (s2_Model_in l G (b1.toInt64) (0) (8)) hl.1 q1281 q1282 q14 q1283 ⟨by decide, by decide, by show _ = some 3; decide +kernel⟩ ⟨Nat.le_of_ble_eq_true rfl, Nat.le_of_ble_eq_true rfl⟩ ⟨Nat.le_of_ble_eq_true rfl, Nat.le_of_ble_eq_true rfl⟩ rfl (Nat.le_of_ble_eq_true rfl) d_Model_words_11 hP hD hS hA [] [0, 1, 2, 3, 4, 5, 6, 7, 8, 9, 10, 11, 12, 13, 14, 15, 16, 17, 18, 19] rfl rfl rfl rfl (by decide) (fun v w1 H locs hw_1 hP hD hS => ?_)
  rcases hw_1 with ⟨rfl, rfl, hq_2⟩ | ⟨rfl, rfl, hq_3, hq_4⟩ | ⟨rfl, rfl, hq_5, hq_6⟩
  · have hP : va_P G.1 classes [(b0, .inr (12, [.int 0, .ref b3, .ref b4, .ref b5, .ref b6, .int b7, .ref b8, .int b9, .int b10, .int b11, .int b12, .ref b13, .ref b14, .ref b15, .int b16, .ref b17, .ref b18, .ref b19, .ref b20, .ref b21, .ref b22, .ref b23, .ref b24, .ref b25, .ref b26, .ref b27, .ref b28, .int b29, .ref b30, .ref b31, .int b32, .int b33, .int b34, .int b35, .ref b36, .ref b37, .ref b38, .ref b39, .ref b40, .ref b41, .ref b42, .int b43, .ref b44, .ref b45, .int b46, .ref b47, .ref b48, .ref b49, .ref b50, .ref b51, .int b52, .ref b53, .ref b54, .ref b55])), (b3, .inl (G.2 0, 503, .inl b56)), (b17, .inl (G.2 0, 2, .inl b57)), (b18, .inl (G.2 0, 4820, .inl b58)), (b19, .inl (G.2 0, 520, .inl b59)), (b20, .inl (G.2 0, 9640, .inl b60)), (b21, .inl (G.2 0, 482, .inl b61)), (b22, .inl (G.2 0, 482, .inl b62)), (b23, .inl (G.2 0, 2, .inl b63)), (b24, .inl (G.2 0, 482, .inl b64)), (b25, .inl (G.2 0, 482, .inl b65)), (b26, .inl (G.2 0, 482, .inl b66)), (b27, .inl (G.2 0, 2, .inl b67)), (b28, .inl (G.2 0, 2880, .inl b68)), (b30, .inl (G.2 1, 4, .inr (.inl b69))), (b31, .inl (G.2 1, 4, .inr (.inl b70))), (b41, .inl (G.2 1, 4004, .inr (.inl b71))), (b42, .inl (G.2 0, 1001, .inl b72)), (b44, .inl (G.2 1, 4004, .inr (.inl b73))), (b45, .inl (G.2 0, 1001, .inl b74))] H := hP
    have hD := z_tie hP hD rfl
    try simp only [Int32.toInt_toInt64, ll_0] at hq_2
    have hv_7 : zI b1 (-2147483648) (-1) := by have _a := hq_2; have _b := (zI_all b1); have _c := zcl_0; simp only [Int32.toInt_toInt64] at *; exact ⟨by omega, by omega⟩
    refine W.widen (k := 0) (n := 0) (Nat.le_of_ble_eq_true rfl) (Nat.le_of_ble_eq_true rfl) ?_
    refine lv_if_ne (tgt := 19) hx hb d_Model_words_14 (by decide) (fun hc => absurd hc (by decide +kernel)) (fun _ => ?_)
    refine lv_iconst (v := (-1)) hx hb d_Model_words_17 (by decide) ?_
    exact z_iret hx hb hr hlocks hP hD hS (Nat.le_of_ble_eq_true rfl) (Nat.le_of_ble_eq_true rfl) d_Model_words_18 ⟨(-1), b29, b43, b46, b57, b58, b59, b60, b61, b62, b63, b64, b65, b66, b67, b68, b69, b70, b71, b72, b73, b74, rfl, rfl, hb29, hb43, hb46, hb57, hb58, hb59, hb61, hb62, hb63, hb64, hb67, hb68⟩
  · have hP : va_P G.1 classes [(b0, .inr (12, [.int 0, .ref b3, .ref b4, .ref b5, .ref b6, .int b7, .ref b8, .int b9, .int b10, .int b11, .int b12, .ref b13, .ref b14, .ref b15, .int b16, .ref b17, .ref b18, .ref b19, .ref b20, .ref b21, .ref b22, .ref b23, .ref b24, .ref b25, .ref b26, .ref b27, .ref b28, .int b29, .ref b30, .ref b31, .int b32, .int b33, .int b34, .int b35, .ref b36, .ref b37, .ref b38, .ref b39, .ref b40, .ref b41, .ref b42, .int b43, .ref b44, .ref b45, .int b46, .ref b47, .ref b48, .ref b49, .ref b50, .ref b51, .int b52, .ref b53, .ref b54, .ref b55])), (b3, .inl (G.2 0, 503, .inl b56)), (b17, .inl (G.2 0, 2, .inl b57)), (b18, .inl (G.2 0, 4820, .inl b58)), (b19, .inl (G.2 0, 520, .inl b59)), (b20, .inl (G.2 0, 9640, .inl b60)), (b21, .inl (G.2 0, 482, .inl b61)), (b22, .inl (G.2 0, 482, .inl b62)), (b23, .inl (G.2 0, 2, .inl b63)), (b24, .inl (G.2 0, 482, .inl b64)), (b25, .inl (G.2 0, 482, .inl b65)), (b26, .inl (G.2 0, 482, .inl b66)), (b27, .inl (G.2 0, 2, .inl b67)), (b28, .inl (G.2 0, 2880, .inl b68)), (b30, .inl (G.2 1, 4, .inr (.inl b69))), (b31, .inl (G.2 1, 4, .inr (.inl b70))), (b41, .inl (G.2 1, 4004, .inr (.inl b71))), (b42, .inl (G.2 0, 1001, .inl b72)), (b44, .inl (G.2 1, 4004, .inr (.inl b73))), (b45, .inl (G.2 0, 1001, .inl b74))] H := hP
    have hD := z_tie hP hD rfl
    try simp only [Int32.toInt_toInt64, ll_0] at hq_3
    have hv_8 : zI b1 0 2147483647 := by have _a := hq_3; have _b := (zI_all b1); have _c := zcl_0; simp only [Int32.toInt_toInt64] at *; exact ⟨by omega, by omega⟩
    try simp only [Int32.toInt_toInt64, ll_8] at hq_4
    have hv_9 : zI b1 9 2147483647 := by have _a := hq_4; have _b := hv_8; have _c := zcl_8; simp only [Int32.toInt_toInt64] at *; exact ⟨by omega, by omega⟩
    refine W.widen (k := 0) (n := 0) (Nat.le_of_ble_eq_true rfl) (Nat.le_of_ble_eq_true rfl) ?_
    refine lv_if_ne (tgt := 19) hx hb d_Model_words_14 (by decide) (fun hc => absurd hc (by decide +kernel)) (fun _ => ?_)
    refine lv_iconst (v := (-1)) hx hb d_Model_words_17 (by decide) ?_
    exact z_iret hx hb hr hlocks hP hD hS (Nat.le_of_ble_eq_true rfl) (Nat.le_of_ble_eq_true rfl) d_Model_words_18 ⟨(-1), b29, b43, b46, b57, b58, b59, b60, b61, b62, b63, b64, b65, b66, b67, b68, b69, b70, b71, b72, b73, b74, rfl, rfl, hb29, hb43, hb46, hb57, hb58, hb59, hb61, hb62, hb63, hb64, hb67, hb68⟩
  · have hP : va_P G.1 classes [(b0, .inr (12, [.int 0, .ref b3, .ref b4, .ref b5, .ref b6, .int b7, .ref b8, .int b9, .int b10, .int b11, .int b12, .ref b13, .ref b14, .ref b15, .int b16, .ref b17, .ref b18, .ref b19, .ref b20, .ref b21, .ref b22, .ref b23, .ref b24, .ref b25, .ref b26, .ref b27, .ref b28, .int b29, .ref b30, .ref b31, .int b32, .int b33, .int b34, .int b35, .ref b36, .ref b37, .ref b38, .ref b39, .ref b40, .ref b41, .ref b42, .int b43, .ref b44, .ref b45, .int b46, .ref b47, .ref b48, .ref b49, .ref b50, .ref b51, .int b52, .ref b53, .ref b54, .ref b55])), (b3, .inl (G.2 0, 503, .inl b56)), (b17, .inl (G.2 0, 2, .inl b57)), (b18, .inl (G.2 0, 4820, .inl b58)), (b19, .inl (G.2 0, 520, .inl b59)), (b20, .inl (G.2 0, 9640, .inl b60)), (b21, .inl (G.2 0, 482, .inl b61)), (b22, .inl (G.2 0, 482, .inl b62)), (b23, .inl (G.2 0, 2, .inl b63)), (b24, .inl (G.2 0, 482, .inl b64)), (b25, .inl (G.2 0, 482, .inl b65)), (b26, .inl (G.2 0, 482, .inl b66)), (b27, .inl (G.2 0, 2, .inl b67)), (b28, .inl (G.2 0, 2880, .inl b68)), (b30, .inl (G.2 1, 4, .inr (.inl b69))), (b31, .inl (G.2 1, 4, .inr (.inl b70))), (b41, .inl (G.2 1, 4004, .inr (.inl b71))), (b42, .inl (G.2 0, 1001, .inl b72)), (b44, .inl (G.2 1, 4004, .inr (.inl b73))), (b45, .inl (G.2 0, 1001, .inl b74))] H := hP
    have hD := z_tie hP hD rfl
    try simp only [Int32.toInt_toInt64, ll_0] at hq_5
    have hv_10 : zI b1 0 2147483647 := by have _a := hq_5; have _b := (zI_all b1); have _c := zcl_0; simp only [Int32.toInt_toInt64] at *; exact ⟨by omega, by omega⟩
    try simp only [Int32.toInt_toInt64, ll_8] at hq_6
    have hv_11 : zI b1 0 8 := by have _a := hq_6; have _b := hv_10; have _c := zcl_8; simp only [Int32.toInt_toInt64] at *; exact ⟨by omega, by omega⟩
    refine W.widen (k := 0) (n := 0) (Nat.le_of_ble_eq_true rfl) (Nat.le_of_ble_eq_true rfl) ?_
    refine lv_if_ne (tgt := 19) hx hb d_Model_words_14 (by decide) (fun _ => ?_) (fun hc => absurd hc (by decide +kernel))
    refine lv_aload_n hx hb d_Model_words_19 rfl (lv_at hl 0 rfl) ?_
    refine z_callV (index := 254) (As := []) (rest := []) (wr := [(b30, .inl (G.2 1, 4, .inr (.inl b69))), (b31, .inl (G.2 1, 4, .inr (.inl b70))), (b41, .inl (G.2 1, 4004, .inr (.inl b71))), (b42, .inl (G.2 0, 1001, .inl b72)), (b44, .inl (G.2 1, 4004, .inr (.inl b73))), (b45, .inl (G.2 0, 1001, .inl b74))]) Z (s1_Model_lay1 l G (b0) (0) (b3) (b4) (b5) (b6) (b7) (b8) (b9) (b10) (b11) (b12) (b13) (b14) (b15) (b16) (b17) (b18) (b19) (b20) (b21) (b22) (b23) (b24) (b25) (b26) (b27) (b28) (b29) (b30) (b31) (b32) (b33) (b34) (b35) (b36) (b37) (b38) (b39) (b40) (b41) (b42) (b43) (b44) (b45) (b46) (b47) (b48) (b49) (b50) (b51) (b52) (b53) (b54) (b55) (b56) (b57) (b58) (b59) (b60) (b61) (b62) (b63) (b64) (b65) (b66) (b67) (b68) hb7 hb9 hb10 hb12 hb16 hb29 hb32 hb43 hb46 hb52 hb56 hb57 hb58 hb59 hb61 hb62 hb63 hb64 hb67 hb68) hl.1 q1356 q1358 qs55 q14 q1359 ⟨by decide, by decide, by show _ = some 0; decide +kernel⟩ ⟨Nat.le_of_ble_eq_true rfl, Nat.le_of_ble_eq_true rfl⟩ ⟨Nat.le_of_ble_eq_true rfl, Nat.le_of_ble_eq_true rfl⟩ rfl (Nat.le_of_ble_eq_true rfl) d_Model_words_20 hP hD hS hA 0 12 rfl rfl rfl [0, 1, 2, 3, 4, 5, 6, 7, 8, 9, 10, 11, 12, 13] [14, 15, 16, 17, 18, 19] rfl rfl rfl rfl (by decide) (fun v w1 H locs hw_12 hP hD hS => ?_)
    refine Exists.elim hw_12 (fun x_13 hz_27 => Exists.elim hz_27 (fun f_14 hz_28 => Exists.elim hz_28 (fun f_15 hz_29 => Exists.elim hz_29 (fun f_16 hz_30 => Exists.elim hz_30 (fun f_17 hz_31 => Exists.elim hz_31 (fun f_18 hz_32 => Exists.elim hz_32 (fun f_19 hz_33 => Exists.elim hz_33 (fun f_20 hz_34 => Exists.elim hz_34 (fun f_21 hz_35 => Exists.elim hz_35 (fun f_22 hz_36 => Exists.elim hz_36 (fun f_23 hz_37 => Exists.elim hz_37 (fun f_24 hz_38 => Exists.elim hz_38 (fun f_25 hz_39 => ?_)))))))))))))
    clear hw_12 hz_27 hz_28 hz_29 hz_30 hz_31 hz_32 hz_33 hz_34 hz_35 hz_36 hz_37 hz_38
    obtain ⟨rfl, rfl, hx_13, hf_14, hf_15, hf_16, hf_18, hf_19, hf_20, hf_21, hf_24, hf_25, hfx_26⟩ := hz_39
    have hP : va_P G.1 classes [(b30, .inl (G.2 1, 4, .inr (.inl b69))), (b31, .inl (G.2 1, 4, .inr (.inl b70))), (b41, .inl (G.2 1, 4004, .inr (.inl b71))), (b42, .inl (G.2 0, 1001, .inl b72)), (b44, .inl (G.2 1, 4004, .inr (.inl b73))), (b45, .inl (G.2 0, 1001, .inl b74)), (b0, .inr (12, [.int 0, .ref b3, .ref b4, .ref b5, .ref b6, .int b7, .ref b8, .int b9, .int b10, .int b11, .int b12, .ref b13, .ref b14, .ref b15, .int b16, .ref b17, .ref b18, .ref b19, .ref b20, .ref b21, .ref b22, .ref b23, .ref b24, .ref b25, .ref b26, .ref b27, .ref b28, .int x_13, .ref b30, .ref b31, .int b32, .int b33, .int b34, .int b35, .ref b36, .ref b37, .ref b38, .ref b39, .ref b40, .ref b41, .ref b42, .int b43, .ref b44, .ref b45, .int b46, .ref b47, .ref b48, .ref b49, .ref b50, .ref b51, .int b52, .ref b53, .ref b54, .ref b55])), (b3, .inl (G.2 0, 503, .inl b56)), (b17, .inl (G.2 0, 2, .inl f_14)), (b18, .inl (G.2 0, 4820, .inl f_15)), (b19, .inl (G.2 0, 520, .inl f_16)), (b20, .inl (G.2 0, 9640, .inl f_17)), (b21, .inl (G.2 0, 482, .inl f_18)), (b22, .inl (G.2 0, 482, .inl f_19)), (b23, .inl (G.2 0, 2, .inl f_20)), (b24, .inl (G.2 0, 482, .inl f_21)), (b25, .inl (G.2 0, 482, .inl f_22)), (b26, .inl (G.2 0, 482, .inl f_23)), (b27, .inl (G.2 0, 2, .inl f_24)), (b28, .inl (G.2 0, 2880, .inl f_25))] H := hP
    have hD := z_tie hP hD rfl
    refine W.widen (k := 0) (n := 0) (Nat.le_of_ble_eq_true rfl) (Nat.le_of_ble_eq_true rfl) ?_
    refine lv_aload_n hx hb d_Model_words_23 rfl (lv_at hl 0 rfl) ?_
    refine lv_iconst (v := 0) hx hb d_Model_words_24 (by decide) ?_
    refine z_callV (index := 275) (As := [.int 0]) (rest := []) (wr := [(b31, .inl (G.2 1, 4, .inr (.inl b70))), (b41, .inl (G.2 1, 4004, .inr (.inl b71))), (b42, .inl (G.2 0, 1001, .inl b72)), (b44, .inl (G.2 1, 4004, .inr (.inl b73))), (b45, .inl (G.2 0, 1001, .inl b74)), (b3, .inl (G.2 0, 503, .inl b56)), (b17, .inl (G.2 0, 2, .inl f_14)), (b18, .inl (G.2 0, 4820, .inl f_15)), (b19, .inl (G.2 0, 520, .inl f_16)), (b20, .inl (G.2 0, 9640, .inl f_17)), (b21, .inl (G.2 0, 482, .inl f_18)), (b22, .inl (G.2 0, 482, .inl f_19)), (b24, .inl (G.2 0, 482, .inl f_21)), (b25, .inl (G.2 0, 482, .inl f_22)), (b26, .inl (G.2 0, 482, .inl f_23)), (b27, .inl (G.2 0, 2, .inl f_24)), (b28, .inl (G.2 0, 2880, .inl f_25))]) Z (s2_Model_start l G (b0) (0) (b3) (b4) (b5) (b6) (b7) (b8) (b9) (b10) (b11) (b12) (b13) (b14) (b15) (b16) (b17) (b18) (b19) (b20) (b21) (b22) (b23) (b24) (b25) (b26) (b27) (b28) (x_13) (b30) (b31) (b32) (b33) (b34) (b35) (b36) (b37) (b38) (b39) (b40) (b41) (b42) (b43) (b44) (b45) (b46) (b47) (b48) (b49) (b50) (b51) (b52) (b53) (b54) (b55) (f_20) (b69) hb7 hb9 hb10 hb12 hb16 hx_13 hb32 hb43 hb46 hb52 hf_20) hl.1 q1453 q1455 qs75 q14 q1456 ⟨by decide, by decide, by show _ = some 1; decide +kernel⟩ ⟨Nat.le_of_ble_eq_true rfl, Nat.le_of_ble_eq_true rfl⟩ ⟨Nat.le_of_ble_eq_true rfl, Nat.le_of_ble_eq_true rfl⟩ rfl (Nat.le_of_ble_eq_true rfl) d_Model_words_25 hP hD hS hA 6 12 rfl rfl rfl [6, 14, 0] [1, 2, 3, 4, 5, 7, 8, 9, 10, 11, 12, 13, 15, 16, 17, 18, 19] rfl rfl rfl rfl (by decide) (fun v w1 H locs hw_40 hP hD hS => ?_)
    obtain ⟨f_41, rfl, rfl⟩ := hw_40
    have hP : va_P G.1 classes [(b31, .inl (G.2 1, 4, .inr (.inl b70))), (b41, .inl (G.2 1, 4004, .inr (.inl b71))), (b42, .inl (G.2 0, 1001, .inl b72)), (b44, .inl (G.2 1, 4004, .inr (.inl b73))), (b45, .inl (G.2 0, 1001, .inl b74)), (b3, .inl (G.2 0, 503, .inl b56)), (b17, .inl (G.2 0, 2, .inl f_14)), (b18, .inl (G.2 0, 4820, .inl f_15)), (b19, .inl (G.2 0, 520, .inl f_16)), (b20, .inl (G.2 0, 9640, .inl f_17)), (b21, .inl (G.2 0, 482, .inl f_18)), (b22, .inl (G.2 0, 482, .inl f_19)), (b24, .inl (G.2 0, 482, .inl f_21)), (b25, .inl (G.2 0, 482, .inl f_22)), (b26, .inl (G.2 0, 482, .inl f_23)), (b27, .inl (G.2 0, 2, .inl f_24)), (b28, .inl (G.2 0, 2880, .inl f_25)), (b0, .inr (12, [.int 0, .ref b3, .ref b4, .ref b5, .ref b6, .int b7, .ref b8, .int b9, .int b10, .int b11, .int b12, .ref b13, .ref b14, .ref b15, .int b16, .ref b17, .ref b18, .ref b19, .ref b20, .ref b21, .ref b22, .ref b23, .ref b24, .ref b25, .ref b26, .ref b27, .ref b28, .int x_13, .ref b30, .ref b31, .int b32, .int b33, .int b34, .int b35, .ref b36, .ref b37, .ref b38, .ref b39, .ref b40, .ref b41, .ref b42, .int b43, .ref b44, .ref b45, .int b46, .ref b47, .ref b48, .ref b49, .ref b50, .ref b51, .int b52, .ref b53, .ref b54, .ref b55])), (b23, .inl (G.2 0, 2, .inl f_20)), (b30, .inl (G.2 1, 4, .inr (.inl f_41)))] H := hP
    have hD := z_tie hP hD rfl
    refine W.widen (k := 0) (n := 0) (Nat.le_of_ble_eq_true rfl) (Nat.le_of_ble_eq_true rfl) ?_
    refine lv_aload_n hx hb d_Model_words_28 rfl (lv_at hl 0 rfl) ?_
    refine lv_aload_n hx hb d_Model_words_29 rfl (lv_at hl 0 rfl) ?_
    refine va_get (D := G.1) (ci := 12) (v := .ref b30) (C := R_Model) (T := F_Model) (N := 54) hx hb hts i_Model hown hK hP 17 rfl rfl 28 (by decide) (hts _ q1137) (fun _ h9 => h9) rfl d_Model_words_30 ?_
    refine lv_iconst (v := 0) hx hb d_Model_words_33 (by decide) ?_
    refine z_callS (index := 278) (As := [.ref b30, .int 0]) (rest := [.ref b0]) (wr := [(b31, .inl (G.2 1, 4, .inr (.inl b70))), (b41, .inl (G.2 1, 4004, .inr (.inl b71))), (b42, .inl (G.2 0, 1001, .inl b72)), (b44, .inl (G.2 1, 4004, .inr (.inl b73))), (b45, .inl (G.2 0, 1001, .inl b74)), (b3, .inl (G.2 0, 503, .inl b56)), (b17, .inl (G.2 0, 2, .inl f_14)), (b18, .inl (G.2 0, 4820, .inl f_15)), (b19, .inl (G.2 0, 520, .inl f_16)), (b20, .inl (G.2 0, 9640, .inl f_17)), (b21, .inl (G.2 0, 482, .inl f_18)), (b22, .inl (G.2 0, 482, .inl f_19)), (b24, .inl (G.2 0, 482, .inl f_21)), (b25, .inl (G.2 0, 482, .inl f_22)), (b26, .inl (G.2 0, 482, .inl f_23)), (b27, .inl (G.2 0, 2, .inl f_24)), (b28, .inl (G.2 0, 2880, .inl f_25)), (b0, .inr (12, [.int 0, .ref b3, .ref b4, .ref b5, .ref b6, .int b7, .ref b8, .int b9, .int b10, .int b11, .int b12, .ref b13, .ref b14, .ref b15, .int b16, .ref b17, .ref b18, .ref b19, .ref b20, .ref b21, .ref b22, .ref b23, .ref b24, .ref b25, .ref b26, .ref b27, .ref b28, .int x_13, .ref b30, .ref b31, .int b32, .int b33, .int b34, .int b35, .ref b36, .ref b37, .ref b38, .ref b39, .ref b40, .ref b41, .ref b42, .int b43, .ref b44, .ref b45, .int b46, .ref b47, .ref b48, .ref b49, .ref b50, .ref b51, .int b52, .ref b53, .ref b54, .ref b55])), (b23, .inl (G.2 0, 2, .inl f_20))]) Z (s2_Model_isEmpty l G (b30) (0) (f_41) zc_0) hl.1 q1457 q1458 q14 q1459 ⟨by decide, by decide, by show _ = some 2; decide +kernel⟩ ⟨Nat.le_of_ble_eq_true rfl, Nat.le_of_ble_eq_true rfl⟩ ⟨Nat.le_of_ble_eq_true rfl, Nat.le_of_ble_eq_true rfl⟩ rfl (Nat.le_of_ble_eq_true rfl) d_Model_words_34 hP hD hS hA [19] [0, 1, 2, 3, 4, 5, 6, 7, 8, 9, 10, 11, 12, 13, 14, 15, 16, 17, 18] rfl rfl rfl rfl (by decide) (fun v w1 H locs hw_42 hP hD hS => ?_)
    obtain ⟨x_43, rfl, rfl, hx_43⟩ := hw_42
    have hP : va_P G.1 classes [(b31, .inl (G.2 1, 4, .inr (.inl b70))), (b41, .inl (G.2 1, 4004, .inr (.inl b71))), (b42, .inl (G.2 0, 1001, .inl b72)), (b44, .inl (G.2 1, 4004, .inr (.inl b73))), (b45, .inl (G.2 0, 1001, .inl b74)), (b3, .inl (G.2 0, 503, .inl b56)), (b17, .inl (G.2 0, 2, .inl f_14)), (b18, .inl (G.2 0, 4820, .inl f_15)), (b19, .inl (G.2 0, 520, .inl f_16)), (b20, .inl (G.2 0, 9640, .inl f_17)), (b21, .inl (G.2 0, 482, .inl f_18)), (b22, .inl (G.2 0, 482, .inl f_19)), (b24, .inl (G.2 0, 482, .inl f_21)), (b25, .inl (G.2 0, 482, .inl f_22)), (b26, .inl (G.2 0, 482, .inl f_23)), (b27, .inl (G.2 0, 2, .inl f_24)), (b28, .inl (G.2 0, 2880, .inl f_25)), (b0, .inr (12, [.int 0, .ref b3, .ref b4, .ref b5, .ref b6, .int b7, .ref b8, .int b9, .int b10, .int b11, .int b12, .ref b13, .ref b14, .ref b15, .int b16, .ref b17, .ref b18, .ref b19, .ref b20, .ref b21, .ref b22, .ref b23, .ref b24, .ref b25, .ref b26, .ref b27, .ref b28, .int x_13, .ref b30, .ref b31, .int b32, .int b33, .int b34, .int b35, .ref b36, .ref b37, .ref b38, .ref b39, .ref b40, .ref b41, .ref b42, .int b43, .ref b44, .ref b45, .int b46, .ref b47, .ref b48, .ref b49, .ref b50, .ref b51, .int b52, .ref b53, .ref b54, .ref b55])), (b23, .inl (G.2 0, 2, .inl f_20)), (b30, .inl (G.2 1, 4, .inr (.inl f_41)))] H := hP
    have hD := z_tie hP hD rfl
    refine W.widen (k := 0) (n := 0) (Nat.le_of_ble_eq_true rfl) (Nat.le_of_ble_eq_true rfl) ?_
    refine lv_if_eq (tgt := 44) hx hb d_Model_words_37 (by decide) (fun hc_44 => ?_) (fun hc_44 => ?_)
    · have _nhc_44 := hc_44
      have ni_45 := (fa_eq _ _).mp hc_44
      rw [li_0] at ni_45
      have hv_46 : zI x_43 0 0 := zI.eq_l hx_43 zc_0 hc_44
      refine lv_iconst (v := 1) hx hb d_Model_words_44 (by decide) ?_
      refine va_put (D := G.1) (ci := 12) (v := .int 1) (ty := .int) (C := R_Model) (T := F_Model) (N := 54) hx hb hts i_Model t_Model t_Model_ok n_Model hown hK hP hD hS 17 rfl rfl 41 (by decide) (hts _ q1150) (fun _ h9 => h9) rfl (by decide +kernel) rfl rfl (Nat.le_of_ble_eq_true rfl) d_Model_words_45 (fun H locs hP hD hS => ?_)
      have hP : va_P G.1 classes [(b31, .inl (G.2 1, 4, .inr (.inl b70))), (b41, .inl (G.2 1, 4004, .inr (.inl b71))), (b42, .inl (G.2 0, 1001, .inl b72)), (b44, .inl (G.2 1, 4004, .inr (.inl b73))), (b45, .inl (G.2 0, 1001, .inl b74)), (b3, .inl (G.2 0, 503, .inl b56)), (b17, .inl (G.2 0, 2, .inl f_14)), (b18, .inl (G.2 0, 4820, .inl f_15)), (b19, .inl (G.2 0, 520, .inl f_16)), (b20, .inl (G.2 0, 9640, .inl f_17)), (b21, .inl (G.2 0, 482, .inl f_18)), (b22, .inl (G.2 0, 482, .inl f_19)), (b24, .inl (G.2 0, 482, .inl f_21)), (b25, .inl (G.2 0, 482, .inl f_22)), (b26, .inl (G.2 0, 482, .inl f_23)), (b27, .inl (G.2 0, 2, .inl f_24)), (b28, .inl (G.2 0, 2880, .inl f_25)), (b0, .inr (12, [.int 0, .ref b3, .ref b4, .ref b5, .ref b6, .int b7, .ref b8, .int b9, .int b10, .int b11, .int b12, .ref b13, .ref b14, .ref b15, .int b16, .ref b17, .ref b18, .ref b19, .ref b20, .ref b21, .ref b22, .ref b23, .ref b24, .ref b25, .ref b26, .ref b27, .ref b28, .int x_13, .ref b30, .ref b31, .int b32, .int b33, .int b34, .int b35, .ref b36, .ref b37, .ref b38, .ref b39, .ref b40, .ref b41, .ref b42, .int 1, .ref b44, .ref b45, .int b46, .ref b47, .ref b48, .ref b49, .ref b50, .ref b51, .int b52, .ref b53, .ref b54, .ref b55])), (b23, .inl (G.2 0, 2, .inl f_20)), (b30, .inl (G.2 1, 4, .inr (.inl f_41)))] H := hP
      have hD := z_tie hP hD rfl
      refine lv_aload_n hx hb d_Model_words_48 rfl (lv_at hl 0 rfl) ?_
      refine va_get (D := G.1) (ci := 12) (v := .ref b42) (C := R_Model) (T := F_Model) (N := 54) hx hb hts i_Model hown hK hP 17 rfl rfl 40 (by decide) (hts _ q1149) (fun _ h9 => h9) rfl d_Model_words_49 ?_
      refine lv_iconst (v := 0) hx hb d_Model_words_52 (by decide) ?_
      refine lv_iconst (v := 1) hx hb d_Model_words_53 (by decide) ?_
      refine va_iast hx hb hK hP hD hS 2 0 rfl rfl (i := 0) (z_in rfl) d_Model_words_54 (fun H locs hP hD hS => ?_)
      obtain ⟨f_47, gf_47, uf_47, hP, hD⟩ := z_newFu 2 hP hD rfl
      have hP : va_P G.1 classes [(b31, .inl (G.2 1, 4, .inr (.inl b70))), (b41, .inl (G.2 1, 4004, .inr (.inl b71))), (b42, .inl (G.2 0, 1001, .inl f_47)), (b44, .inl (G.2 1, 4004, .inr (.inl b73))), (b45, .inl (G.2 0, 1001, .inl b74)), (b3, .inl (G.2 0, 503, .inl b56)), (b17, .inl (G.2 0, 2, .inl f_14)), (b18, .inl (G.2 0, 4820, .inl f_15)), (b19, .inl (G.2 0, 520, .inl f_16)), (b20, .inl (G.2 0, 9640, .inl f_17)), (b21, .inl (G.2 0, 482, .inl f_18)), (b22, .inl (G.2 0, 482, .inl f_19)), (b24, .inl (G.2 0, 482, .inl f_21)), (b25, .inl (G.2 0, 482, .inl f_22)), (b26, .inl (G.2 0, 482, .inl f_23)), (b27, .inl (G.2 0, 2, .inl f_24)), (b28, .inl (G.2 0, 2880, .inl f_25)), (b0, .inr (12, [.int 0, .ref b3, .ref b4, .ref b5, .ref b6, .int b7, .ref b8, .int b9, .int b10, .int b11, .int b12, .ref b13, .ref b14, .ref b15, .int b16, .ref b17, .ref b18, .ref b19, .ref b20, .ref b21, .ref b22, .ref b23, .ref b24, .ref b25, .ref b26, .ref b27, .ref b28, .int x_13, .ref b30, .ref b31, .int b32, .int b33, .int b34, .int b35, .ref b36, .ref b37, .ref b38, .ref b39, .ref b40, .ref b41, .ref b42, .int 1, .ref b44, .ref b45, .int b46, .ref b47, .ref b48, .ref b49, .ref b50, .ref b51, .int b52, .ref b53, .ref b54, .ref b55])), (b23, .inl (G.2 0, 2, .inl f_20)), (b30, .inl (G.2 1, 4, .inr (.inl f_41)))] H := hP
      have hD := z_tie hP hD rfl
      refine lv_iconst (v := 0) hx hb d_Model_words_55 (by decide) ?_
      refine lv_istore_n (lv' := [(2, .int 0), (0, .ref b0), (1, .int b1)]) hx hb d_Model_words_56 rfl hl (by decide) rfl (fun ls hl => ?_)
      suffices key : ∀ (k_192 : Nat) (y_193 : Int32) (y_194 : Nat → Int64) (H : Heap) (locs : List Loc) (ls : Array Slot), (zI y_193 0 4) → (4 : Int) - y_193.toInt < (k_192 : Int) → va_P G.1 classes [(b31, .inl (G.2 1, 4, .inr (.inl b70))), (b41, .inl (G.2 1, 4004, .inr (.inl y_194))), (b42, .inl (G.2 0, 1001, .inl f_47)), (b44, .inl (G.2 1, 4004, .inr (.inl b73))), (b45, .inl (G.2 0, 1001, .inl b74)), (b3, .inl (G.2 0, 503, .inl b56)), (b17, .inl (G.2 0, 2, .inl f_14)), (b18, .inl (G.2 0, 4820, .inl f_15)), (b19, .inl (G.2 0, 520, .inl f_16)), (b20, .inl (G.2 0, 9640, .inl f_17)), (b21, .inl (G.2 0, 482, .inl f_18)), (b22, .inl (G.2 0, 482, .inl f_19)), (b24, .inl (G.2 0, 482, .inl f_21)), (b25, .inl (G.2 0, 482, .inl f_22)), (b26, .inl (G.2 0, 482, .inl f_23)), (b27, .inl (G.2 0, 2, .inl f_24)), (b28, .inl (G.2 0, 2880, .inl f_25)), (b0, .inr (12, [.int 0, .ref b3, .ref b4, .ref b5, .ref b6, .int b7, .ref b8, .int b9, .int b10, .int b11, .int b12, .ref b13, .ref b14, .ref b15, .int b16, .ref b17, .ref b18, .ref b19, .ref b20, .ref b21, .ref b22, .ref b23, .ref b24, .ref b25, .ref b26, .ref b27, .ref b28, .int x_13, .ref b30, .ref b31, .int b32, .int b33, .int b34, .int b35, .ref b36, .ref b37, .ref b38, .ref b39, .ref b40, .ref b41, .ref b42, .int 1, .ref b44, .ref b45, .int b46, .ref b47, .ref b48, .ref b49, .ref b50, .ref b51, .int b52, .ref b53, .ref b54, .ref b55])), (b23, .inl (G.2 0, 2, .inl f_20)), (b30, .inl (G.2 1, 4, .inr (.inl f_41)))] H → va_D A [(b31, .inl (G.2 1, 4, .inr (.inl b70))), (b41, .inl (G.2 1, 4004, .inr (.inl y_194))), (b42, .inl (G.2 0, 1001, .inl f_47)), (b44, .inl (G.2 1, 4004, .inr (.inl b73))), (b45, .inl (G.2 0, 1001, .inl b74)), (b3, .inl (G.2 0, 503, .inl b56)), (b17, .inl (G.2 0, 2, .inl f_14)), (b18, .inl (G.2 0, 4820, .inl f_15)), (b19, .inl (G.2 0, 520, .inl f_16)), (b20, .inl (G.2 0, 9640, .inl f_17)), (b21, .inl (G.2 0, 482, .inl f_18)), (b22, .inl (G.2 0, 482, .inl f_19)), (b24, .inl (G.2 0, 482, .inl f_21)), (b25, .inl (G.2 0, 482, .inl f_22)), (b26, .inl (G.2 0, 482, .inl f_23)), (b27, .inl (G.2 0, 2, .inl f_24)), (b28, .inl (G.2 0, 2880, .inl f_25)), (b0, .inr (12, [.int 0, .ref b3, .ref b4, .ref b5, .ref b6, .int b7, .ref b8, .int b9, .int b10, .int b11, .int b12, .ref b13, .ref b14, .ref b15, .int b16, .ref b17, .ref b18, .ref b19, .ref b20, .ref b21, .ref b22, .ref b23, .ref b24, .ref b25, .ref b26, .ref b27, .ref b28, .int x_13, .ref b30, .ref b31, .int b32, .int b33, .int b34, .int b35, .ref b36, .ref b37, .ref b38, .ref b39, .ref b40, .ref b41, .ref b42, .int 1, .ref b44, .ref b45, .int b46, .ref b47, .ref b48, .ref b49, .ref b50, .ref b51, .int b52, .ref b53, .ref b54, .ref b55])), (b23, .inl (G.2 0, 2, .inl f_20)), (b30, .inl (G.2 1, 4, .inr (.inl f_41)))] → va_S A s.heap H locs → lv_has ls 4 [(2, .int y_193), (0, .ref b0), (1, .int b1)] → W p l e m_s1_Model_words s m ([.ref b0, .int b1] : List Value).toArray below meth c H locs 0 0 (MQ below (zQ G (fun v w => ∃ (e0 : Int32), ∃ (e1 : Int32), ∃ (e2 : Int32), ∃ (e3 : Int32), ∃ (e4 : Nat → Int32), ∃ (e5 : Nat → Int32), ∃ (e6 : Nat → Int32), ∃ (e7 : Nat → Int32), ∃ (e8 : Nat → Int32), ∃ (e9 : Nat → Int32), ∃ (e10 : Nat → Int32), ∃ (e11 : Nat → Int32), ∃ (e12 : Nat → Int32), ∃ (e13 : Nat → Int32), ∃ (e14 : Nat → Int32), ∃ (e15 : Nat → Int32), ∃ (e16 : Nat → Int64), ∃ (e17 : Nat → Int64), ∃ (e18 : Nat → Int64), ∃ (e19 : Nat → Int32), ∃ (e20 : Nat → Int64), ∃ (e21 : Nat → Int32), Q_s1_Model_words G b0 b3 b4 b5 b6 b7 b8 b9 b10 b11 b12 b13 b14 b15 b16 b17 b18 b19 b20 b21 b22 b23 b24 b25 b26 b27 b28 b30 b31 b32 b33 b34 b35 b36 b37 b38 b39 b40 b41 b42 b44 b45 b47 b48 b49 b50 b51 b52 b53 b54 b55 b56 e0 e1 e2 e3 e4 e5 e6 e7 e8 e9 e10 e11 e12 e13 e14 e15 e16 e17 e18 e19 e20 e21 v w) A) ([.ref b0, .int b1] : List Value).toArray s m_s1_Model_words.cells m_s1_Model_words.slots A) (F0 m 57 ls []) by
        exact key 5 (0) (b71) _ _ _ (zI.wk (l' := 0) (h' := 4) zc_0 (by decide)) (zm_upi (zI.wk (l' := 0) (h' := 4) zc_0 (by decide)) (by decide)) hP hD hS (lv_sub hl [0, 1, 2] rfl)
      intro k_192
      induction k_192 with
      | zero =>
        intro y_193 y_194 H locs ls hy_193 hmk_192 hP hD hS hl
        exact (zm_up0 hy_193 hmk_192).elim
      | succ k_192 ihk_192 =>
        intro y_193 y_194 H locs ls hy_193 hmk_192 hP hD hS hl
        refine lv_iload_n hx hb d_Model_words_57 rfl (lv_at hl 0 rfl) ?_
        refine lv_iconst (v := 4) hx hb d_Model_words_58 (by decide) ?_
        refine lv_icmp_ge (tgt := 80) hx hb d_Model_words_59 (by decide) (fun hc_195 => ?_) (fun hc_195 => ?_)
        · have _nhc_195 := hc_195
          have ni_196 := (fa_le _ _).mp hc_195
          rw [li_4] at ni_196
          have hv_197 : zI y_193 4 4 := zI.le_r zc_4 hy_193 hc_195 (by decide)
          refine lv_iconst (v := 0) hx hb d_Model_words_80 (by decide) ?_
          refine lv_istore_n (lv' := [(2, .int 0), (0, .ref b0), (1, .int b1)]) hx hb d_Model_words_81 rfl hl (by decide) rfl (fun ls hl => ?_)
          suffices key : ∀ (k_265 : Nat) (y_266 : Int32) (y_267 : Int32) (y_268 : Int32) (y_269 : Nat → Int64) (y_270 : Nat → Int64) (y_271 : Nat → Int32) (y_272 : Nat → Int64) (y_273 : Nat → Int32) (H : Heap) (locs : List Loc) (ls : Array Slot), (zI y_266 0 8) → (zI y_267 0 1000) → (zI y_268 0 1000) → (8 : Int) - y_266.toInt < (k_265 : Int) → va_P G.1 classes [(b31, .inl (G.2 1, 4, .inr (.inl y_269))), (b41, .inl (G.2 1, 4004, .inr (.inl y_270))), (b42, .inl (G.2 0, 1001, .inl y_271)), (b44, .inl (G.2 1, 4004, .inr (.inl y_272))), (b45, .inl (G.2 0, 1001, .inl y_273)), (b3, .inl (G.2 0, 503, .inl b56)), (b17, .inl (G.2 0, 2, .inl f_14)), (b18, .inl (G.2 0, 4820, .inl f_15)), (b19, .inl (G.2 0, 520, .inl f_16)), (b20, .inl (G.2 0, 9640, .inl f_17)), (b21, .inl (G.2 0, 482, .inl f_18)), (b22, .inl (G.2 0, 482, .inl f_19)), (b24, .inl (G.2 0, 482, .inl f_21)), (b25, .inl (G.2 0, 482, .inl f_22)), (b26, .inl (G.2 0, 482, .inl f_23)), (b27, .inl (G.2 0, 2, .inl f_24)), (b28, .inl (G.2 0, 2880, .inl f_25)), (b0, .inr (12, [.int 0, .ref b3, .ref b4, .ref b5, .ref b6, .int b7, .ref b8, .int b9, .int b10, .int b11, .int b12, .ref b13, .ref b14, .ref b15, .int b16, .ref b17, .ref b18, .ref b19, .ref b20, .ref b21, .ref b22, .ref b23, .ref b24, .ref b25, .ref b26, .ref b27, .ref b28, .int x_13, .ref b30, .ref b31, .int b32, .int b33, .int b34, .int b35, .ref b36, .ref b37, .ref b38, .ref b39, .ref b40, .ref b41, .ref b42, .int y_267, .ref b44, .ref b45, .int y_268, .ref b47, .ref b48, .ref b49, .ref b50, .ref b51, .int b52, .ref b53, .ref b54, .ref b55])), (b23, .inl (G.2 0, 2, .inl f_20)), (b30, .inl (G.2 1, 4, .inr (.inl f_41)))] H → va_D A [(b31, .inl (G.2 1, 4, .inr (.inl y_269))), (b41, .inl (G.2 1, 4004, .inr (.inl y_270))), (b42, .inl (G.2 0, 1001, .inl y_271)), (b44, .inl (G.2 1, 4004, .inr (.inl y_272))), (b45, .inl (G.2 0, 1001, .inl y_273)), (b3, .inl (G.2 0, 503, .inl b56)), (b17, .inl (G.2 0, 2, .inl f_14)), (b18, .inl (G.2 0, 4820, .inl f_15)), (b19, .inl (G.2 0, 520, .inl f_16)), (b20, .inl (G.2 0, 9640, .inl f_17)), (b21, .inl (G.2 0, 482, .inl f_18)), (b22, .inl (G.2 0, 482, .inl f_19)), (b24, .inl (G.2 0, 482, .inl f_21)), (b25, .inl (G.2 0, 482, .inl f_22)), (b26, .inl (G.2 0, 482, .inl f_23)), (b27, .inl (G.2 0, 2, .inl f_24)), (b28, .inl (G.2 0, 2880, .inl f_25)), (b0, .inr (12, [.int 0, .ref b3, .ref b4, .ref b5, .ref b6, .int b7, .ref b8, .int b9, .int b10, .int b11, .int b12, .ref b13, .ref b14, .ref b15, .int b16, .ref b17, .ref b18, .ref b19, .ref b20, .ref b21, .ref b22, .ref b23, .ref b24, .ref b25, .ref b26, .ref b27, .ref b28, .int x_13, .ref b30, .ref b31, .int b32, .int b33, .int b34, .int b35, .ref b36, .ref b37, .ref b38, .ref b39, .ref b40, .ref b41, .ref b42, .int y_267, .ref b44, .ref b45, .int y_268, .ref b47, .ref b48, .ref b49, .ref b50, .ref b51, .int b52, .ref b53, .ref b54, .ref b55])), (b23, .inl (G.2 0, 2, .inl f_20)), (b30, .inl (G.2 1, 4, .inr (.inl f_41)))] → va_S A s.heap H locs → lv_has ls 4 [(2, .int y_266), (0, .ref b0), (1, .int b1)] → W p l e m_s1_Model_words s m ([.ref b0, .int b1] : List Value).toArray below meth c H locs 0 0 (MQ below (zQ G (fun v w => ∃ (e0 : Int32), ∃ (e1 : Int32), ∃ (e2 : Int32), ∃ (e3 : Int32), ∃ (e4 : Nat → Int32), ∃ (e5 : Nat → Int32), ∃ (e6 : Nat → Int32), ∃ (e7 : Nat → Int32), ∃ (e8 : Nat → Int32), ∃ (e9 : Nat → Int32), ∃ (e10 : Nat → Int32), ∃ (e11 : Nat → Int32), ∃ (e12 : Nat → Int32), ∃ (e13 : Nat → Int32), ∃ (e14 : Nat → Int32), ∃ (e15 : Nat → Int32), ∃ (e16 : Nat → Int64), ∃ (e17 : Nat → Int64), ∃ (e18 : Nat → Int64), ∃ (e19 : Nat → Int32), ∃ (e20 : Nat → Int64), ∃ (e21 : Nat → Int32), Q_s1_Model_words G b0 b3 b4 b5 b6 b7 b8 b9 b10 b11 b12 b13 b14 b15 b16 b17 b18 b19 b20 b21 b22 b23 b24 b25 b26 b27 b28 b30 b31 b32 b33 b34 b35 b36 b37 b38 b39 b40 b41 b42 b44 b45 b47 b48 b49 b50 b51 b52 b53 b54 b55 b56 e0 e1 e2 e3 e4 e5 e6 e7 e8 e9 e10 e11 e12 e13 e14 e15 e16 e17 e18 e19 e20 e21 v w) A) ([.ref b0, .int b1] : List Value).toArray s m_s1_Model_words.cells m_s1_Model_words.slots A) (F0 m 82 ls []) by
            exact key 9 (0) (1) (b46) (b70) (y_194) (f_47) (b73) (b74) _ _ _ (zI.wk (l' := 0) (h' := 8) zc_0 (by decide)) (zI.wk (l' := 0) (h' := 1000) zc_1 (by decide)) hb46 (zm_upi (zI.wk (l' := 0) (h' := 8) zc_0 (by decide)) (by decide)) hP hD hS (lv_sub hl [0, 1, 2] rfl)
          intro k_265
          induction k_265 with
          | zero =>
            intro y_266 y_267 y_268 y_269 y_270 y_271 y_272 y_273 H locs ls hy_266 hy_267 hy_268 hmk_265 hP hD hS hl
            exact (zm_up0 hy_266 hmk_265).elim
          | succ k_265 ihk_265 =>
            intro y_266 y_267 y_268 y_269 y_270 y_271 y_272 y_273 H locs ls hy_266 hy_267 hy_268 hmk_265 hP hD hS hl
            refine lv_iload_n hx hb d_Model_words_82 rfl (lv_at hl 0 rfl) ?_
            refine lv_iload_n hx hb d_Model_words_83 rfl (lv_at hl 2 rfl) ?_
            refine lv_icmp_ge (tgt := 109) hx hb d_Model_words_84 (by decide) (fun hc_274 => ?_) (fun hc_274 => ?_)
            · have _nhc_274 := hc_274
              have ni_275 := (fa_le _ _).mp hc_274
              refine lv_iconst (v := 0) hx hb d_Model_words_109 (by decide) ?_
              refine lv_istore_n (lv' := [(2, .int 0), (0, .ref b0), (1, .int b1)]) hx hb d_Model_words_110 rfl hl (by decide) rfl (fun ls hl => ?_)
              refine lv_iconst (v := 0) hx hb d_Model_words_111 (by decide) ?_
              refine lv_istore_n (lv' := [(3, .int 0), (2, .int 0), (0, .ref b0), (1, .int b1)]) hx hb d_Model_words_112 rfl hl (by decide) rfl (fun ls hl => ?_)
              suffices key : ∀ (k_296 : Nat) (y_297 : Int32) (y_298 : Int32) (H : Heap) (locs : List Loc) (ls : Array Slot), (zI y_297 0 1000) → (1000 : Int) - y_297.toInt < (k_296 : Int) → va_P G.1 classes [(b31, .inl (G.2 1, 4, .inr (.inl y_269))), (b41, .inl (G.2 1, 4004, .inr (.inl y_270))), (b42, .inl (G.2 0, 1001, .inl y_271)), (b44, .inl (G.2 1, 4004, .inr (.inl y_272))), (b45, .inl (G.2 0, 1001, .inl y_273)), (b3, .inl (G.2 0, 503, .inl b56)), (b17, .inl (G.2 0, 2, .inl f_14)), (b18, .inl (G.2 0, 4820, .inl f_15)), (b19, .inl (G.2 0, 520, .inl f_16)), (b20, .inl (G.2 0, 9640, .inl f_17)), (b21, .inl (G.2 0, 482, .inl f_18)), (b22, .inl (G.2 0, 482, .inl f_19)), (b24, .inl (G.2 0, 482, .inl f_21)), (b25, .inl (G.2 0, 482, .inl f_22)), (b26, .inl (G.2 0, 482, .inl f_23)), (b27, .inl (G.2 0, 2, .inl f_24)), (b28, .inl (G.2 0, 2880, .inl f_25)), (b0, .inr (12, [.int 0, .ref b3, .ref b4, .ref b5, .ref b6, .int b7, .ref b8, .int b9, .int b10, .int b11, .int b12, .ref b13, .ref b14, .ref b15, .int b16, .ref b17, .ref b18, .ref b19, .ref b20, .ref b21, .ref b22, .ref b23, .ref b24, .ref b25, .ref b26, .ref b27, .ref b28, .int x_13, .ref b30, .ref b31, .int b32, .int b33, .int b34, .int b35, .ref b36, .ref b37, .ref b38, .ref b39, .ref b40, .ref b41, .ref b42, .int y_267, .ref b44, .ref b45, .int y_268, .ref b47, .ref b48, .ref b49, .ref b50, .ref b51, .int b52, .ref b53, .ref b54, .ref b55])), (b23, .inl (G.2 0, 2, .inl f_20)), (b30, .inl (G.2 1, 4, .inr (.inl f_41)))] H → va_D A [(b31, .inl (G.2 1, 4, .inr (.inl y_269))), (b41, .inl (G.2 1, 4004, .inr (.inl y_270))), (b42, .inl (G.2 0, 1001, .inl y_271)), (b44, .inl (G.2 1, 4004, .inr (.inl y_272))), (b45, .inl (G.2 0, 1001, .inl y_273)), (b3, .inl (G.2 0, 503, .inl b56)), (b17, .inl (G.2 0, 2, .inl f_14)), (b18, .inl (G.2 0, 4820, .inl f_15)), (b19, .inl (G.2 0, 520, .inl f_16)), (b20, .inl (G.2 0, 9640, .inl f_17)), (b21, .inl (G.2 0, 482, .inl f_18)), (b22, .inl (G.2 0, 482, .inl f_19)), (b24, .inl (G.2 0, 482, .inl f_21)), (b25, .inl (G.2 0, 482, .inl f_22)), (b26, .inl (G.2 0, 482, .inl f_23)), (b27, .inl (G.2 0, 2, .inl f_24)), (b28, .inl (G.2 0, 2880, .inl f_25)), (b0, .inr (12, [.int 0, .ref b3, .ref b4, .ref b5, .ref b6, .int b7, .ref b8, .int b9, .int b10, .int b11, .int b12, .ref b13, .ref b14, .ref b15, .int b16, .ref b17, .ref b18, .ref b19, .ref b20, .ref b21, .ref b22, .ref b23, .ref b24, .ref b25, .ref b26, .ref b27, .ref b28, .int x_13, .ref b30, .ref b31, .int b32, .int b33, .int b34, .int b35, .ref b36, .ref b37, .ref b38, .ref b39, .ref b40, .ref b41, .ref b42, .int y_267, .ref b44, .ref b45, .int y_268, .ref b47, .ref b48, .ref b49, .ref b50, .ref b51, .int b52, .ref b53, .ref b54, .ref b55])), (b23, .inl (G.2 0, 2, .inl f_20)), (b30, .inl (G.2 1, 4, .inr (.inl f_41)))] → va_S A s.heap H locs → lv_has ls 4 [(3, .int y_297), (2, .int y_298), (0, .ref b0), (1, .int b1)] → W p l e m_s1_Model_words s m ([.ref b0, .int b1] : List Value).toArray below meth c H locs 0 0 (MQ below (zQ G (fun v w => ∃ (e0 : Int32), ∃ (e1 : Int32), ∃ (e2 : Int32), ∃ (e3 : Int32), ∃ (e4 : Nat → Int32), ∃ (e5 : Nat → Int32), ∃ (e6 : Nat → Int32), ∃ (e7 : Nat → Int32), ∃ (e8 : Nat → Int32), ∃ (e9 : Nat → Int32), ∃ (e10 : Nat → Int32), ∃ (e11 : Nat → Int32), ∃ (e12 : Nat → Int32), ∃ (e13 : Nat → Int32), ∃ (e14 : Nat → Int32), ∃ (e15 : Nat → Int32), ∃ (e16 : Nat → Int64), ∃ (e17 : Nat → Int64), ∃ (e18 : Nat → Int64), ∃ (e19 : Nat → Int32), ∃ (e20 : Nat → Int64), ∃ (e21 : Nat → Int32), Q_s1_Model_words G b0 b3 b4 b5 b6 b7 b8 b9 b10 b11 b12 b13 b14 b15 b16 b17 b18 b19 b20 b21 b22 b23 b24 b25 b26 b27 b28 b30 b31 b32 b33 b34 b35 b36 b37 b38 b39 b40 b41 b42 b44 b45 b47 b48 b49 b50 b51 b52 b53 b54 b55 b56 e0 e1 e2 e3 e4 e5 e6 e7 e8 e9 e10 e11 e12 e13 e14 e15 e16 e17 e18 e19 e20 e21 v w) A) ([.ref b0, .int b1] : List Value).toArray s m_s1_Model_words.cells m_s1_Model_words.slots A) (F0 m 113 ls []) by
                exact key 1001 (0) (0) _ _ _ (zI.wk (l' := 0) (h' := 1000) zc_0 (by decide)) (zm_upi (zI.wk (l' := 0) (h' := 1000) zc_0 (by decide)) (by decide)) hP hD hS (lv_sub hl [0, 1, 2, 3] rfl)
              intro k_296
              induction k_296 with
              | zero =>
                intro y_297 y_298 H locs ls hy_297 hmk_296 hP hD hS hl
                exact (zm_up0 hy_297 hmk_296).elim
              | succ k_296 ihk_296 =>
                intro y_297 y_298 H locs ls hy_297 hmk_296 hP hD hS hl
                refine lv_iload_n hx hb d_Model_words_113 rfl (lv_at hl 0 rfl) ?_
                refine lv_aload_n hx hb d_Model_words_114 rfl (lv_at hl 2 rfl) ?_
                refine va_get (D := G.1) (ci := 12) (v := .int y_267) (C := R_Model) (T := F_Model) (N := 54) hx hb hts i_Model hown hK hP 17 rfl rfl 41 (by decide) (hts _ q1150) (fun _ h9 => h9) rfl d_Model_words_115 ?_
                refine lv_icmp_ge (tgt := 155) hx hb d_Model_words_118 (by decide) (fun hc_299 => ?_) (fun hc_299 => ?_)
                · have _nhc_299 := hc_299
                  have ni_300 := (fa_le _ _).mp hc_299
                  refine lv_iload_n hx hb d_Model_words_155 rfl (lv_at hl 1 rfl) ?_
                  exact z_iret hx hb hr hlocks (hP.sub [17, 5, 6, 7, 8, 9, 10, 11, 18, 12, 13, 14, 15, 16, 19, 0, 1, 2, 3, 4] rfl) (hD.sub [17, 5, 6, 7, 8, 9, 10, 11, 18, 12, 13, 14, 15, 16, 19, 0, 1, 2, 3, 4] (by decide) rfl) hS (Nat.le_of_ble_eq_true rfl) (Nat.le_of_ble_eq_true rfl) d_Model_words_156 ⟨y_298, x_13, y_267, y_268, f_14, f_15, f_16, f_17, f_18, f_19, f_20, f_21, f_22, f_23, f_24, f_25, f_41, y_269, y_270, y_271, y_272, y_273, rfl, rfl, hx_13, hy_267, hy_268, hf_14, hf_15, hf_16, hf_18, hf_19, hf_20, hf_21, hf_24, hf_25⟩
                · have _nhc_299 := hc_299
                  have ni_301 := (fa_lt _ _).mp (zi_nle hc_299)
                  have hv_302 : zI y_297 0 999 := zI.lt_l hy_297 hy_267 (zi_nle hc_299) (by decide)
                  have hv_303 : zI y_267 1 1000 := zI.lt_r hy_297 hy_267 (zi_nle hc_299) (by decide)
                  refine lv_iload_n hx hb d_Model_words_121 rfl (lv_at hl 1 rfl) ?_
                  refine lv_aload_n hx hb d_Model_words_122 rfl (lv_at hl 2 rfl) ?_
                  refine lv_iconst (v := 0) hx hb d_Model_words_123 (by decide) ?_
                  refine lv_aload_n hx hb d_Model_words_124 rfl (lv_at hl 2 rfl) ?_
                  refine va_get (D := G.1) (ci := 12) (v := .ref b41) (C := R_Model) (T := F_Model) (N := 54) hx hb hts i_Model hown hK hP 17 rfl rfl 39 (by decide) (hts _ q1148) (fun _ h9 => h9) rfl d_Model_words_125 ?_
                  refine lv_iconst (v := 4) hx hb d_Model_words_128 (by decide) ?_
                  refine lv_iload_n hx hb d_Model_words_129 rfl (lv_at hl 0 rfl) ?_
                  refine lv_imul hx hb d_Model_words_130 ?_
                  refine lv_topi (fun v_304 ev_304 => ?_)
                  obtain ⟨qv_304, hv_304⟩ := zI_mul (l := 0) (h := 3996) zc_4 hv_302 ev_304 (by decide)
                  rw [li_4] at qv_304
                  refine z_callV (index := 286) (As := [.int 0, .ref b41, .int v_304]) (rest := [.int y_298]) (wr := [(b31, .inl (G.2 1, 4, .inr (.inl y_269))), (b42, .inl (G.2 0, 1001, .inl y_271)), (b44, .inl (G.2 1, 4004, .inr (.inl y_272))), (b45, .inl (G.2 0, 1001, .inl y_273)), (b3, .inl (G.2 0, 503, .inl b56)), (b17, .inl (G.2 0, 2, .inl f_14)), (b18, .inl (G.2 0, 4820, .inl f_15)), (b19, .inl (G.2 0, 520, .inl f_16)), (b20, .inl (G.2 0, 9640, .inl f_17)), (b21, .inl (G.2 0, 482, .inl f_18)), (b22, .inl (G.2 0, 482, .inl f_19)), (b24, .inl (G.2 0, 482, .inl f_21)), (b25, .inl (G.2 0, 482, .inl f_22)), (b27, .inl (G.2 0, 2, .inl f_24)), (b28, .inl (G.2 0, 2880, .inl f_25)), (b30, .inl (G.2 1, 4, .inr (.inl f_41)))]) Z (s4_Model_takes l G (b0) (b41) (v_304) (0) (b3) (b4) (b5) (b6) (b7) (b8) (b9) (b10) (b11) (b12) (b13) (b14) (b15) (b16) (b17) (b18) (b19) (b20) (b21) (b22) (b23) (b24) (b25) (b26) (b27) (b28) (x_13) (b30) (b31) (b32) (b33) (b34) (b35) (b36) (b37) (b38) (b39) (b40) (b42) (y_267) (b44) (b45) (y_268) (b47) (b48) (b49) (b50) (b51) (b52) (b53) (b54) (b55) (f_20) (f_23) (y_270) (zI.wk (l' := 0) (h' := 4000) hv_304 (by decide)) hb7 hb9 hb10 hb12 hb16 hx_13 hb32 (zI.wk (l' := 0) (h' := 1000) hv_303 (by decide)) hy_268 hb52 hf_20) hl.1 q1467 q1469 qs77 q14 q1470 ⟨by decide, by decide, by show _ = some 3; decide +kernel⟩ ⟨Nat.le_of_ble_eq_true rfl, Nat.le_of_ble_eq_true rfl⟩ ⟨Nat.le_of_ble_eq_true rfl, Nat.le_of_ble_eq_true rfl⟩ rfl (Nat.le_of_ble_eq_true rfl) d_Model_words_131 hP hD hS hA 17 12 rfl rfl rfl [17, 18, 14, 1] [0, 2, 3, 4, 5, 6, 7, 8, 9, 10, 11, 12, 13, 15, 16, 19] rfl rfl rfl rfl (by decide) (fun v w1 H locs hw_305 hP hD hS => ?_)
                  obtain ⟨x_306, rfl, rfl, hx_306⟩ := hw_305
                  have hP : va_P G.1 classes [(b31, .inl (G.2 1, 4, .inr (.inl y_269))), (b42, .inl (G.2 0, 1001, .inl y_271)), (b44, .inl (G.2 1, 4004, .inr (.inl y_272))), (b45, .inl (G.2 0, 1001, .inl y_273)), (b3, .inl (G.2 0, 503, .inl b56)), (b17, .inl (G.2 0, 2, .inl f_14)), (b18, .inl (G.2 0, 4820, .inl f_15)), (b19, .inl (G.2 0, 520, .inl f_16)), (b20, .inl (G.2 0, 9640, .inl f_17)), (b21, .inl (G.2 0, 482, .inl f_18)), (b22, .inl (G.2 0, 482, .inl f_19)), (b24, .inl (G.2 0, 482, .inl f_21)), (b25, .inl (G.2 0, 482, .inl f_22)), (b27, .inl (G.2 0, 2, .inl f_24)), (b28, .inl (G.2 0, 2880, .inl f_25)), (b30, .inl (G.2 1, 4, .inr (.inl f_41))), (b0, .inr (12, [.int 0, .ref b3, .ref b4, .ref b5, .ref b6, .int b7, .ref b8, .int b9, .int b10, .int b11, .int b12, .ref b13, .ref b14, .ref b15, .int b16, .ref b17, .ref b18, .ref b19, .ref b20, .ref b21, .ref b22, .ref b23, .ref b24, .ref b25, .ref b26, .ref b27, .ref b28, .int x_13, .ref b30, .ref b31, .int b32, .int b33, .int b34, .int b35, .ref b36, .ref b37, .ref b38, .ref b39, .ref b40, .ref b41, .ref b42, .int y_267, .ref b44, .ref b45, .int y_268, .ref b47, .ref b48, .ref b49, .ref b50, .ref b51, .int b52, .ref b53, .ref b54, .ref b55])), (b23, .inl (G.2 0, 2, .inl f_20)), (b26, .inl (G.2 0, 482, .inl f_23)), (b41, .inl (G.2 1, 4004, .inr (.inl y_270)))] H := hP
                  have hD := z_tie hP hD rfl
                  refine W.widen (k := 0) (n := 0) (Nat.le_of_ble_eq_true rfl) (Nat.le_of_ble_eq_true rfl) ?_
                  refine lv_if_eq (tgt := 146) hx hb d_Model_words_134 (by decide) (fun hc_307 => ?_) (fun hc_307 => ?_)
                  · have _nhc_307 := hc_307
                    have ni_308 := (fa_eq _ _).mp hc_307
                    rw [li_0] at ni_308
                    have hv_309 : zI x_306 0 0 := zI.eq_l hx_306 zc_0 hc_307
                    refine lv_iconst (v := 0) hx hb d_Model_words_146 (by decide) ?_
                    refine lv_iadd hx hb d_Model_words_147 ?_
                    refine lv_topi (fun v_310 ev_310 => ?_)
                    obtain ⟨qv_310, hv_310⟩ := zI_add (l := -2147483648) (h := 2147483647) (zI_all y_298) zc_0 ev_310 (by decide)
                    rw [li_0] at qv_310
                    refine lv_istore_n (lv' := [(2, .int v_310), (3, .int y_297), (0, .ref b0), (1, .int b1)]) hx hb d_Model_words_148 rfl hl (by decide) rfl (fun ls hl => ?_)
                    obtain ⟨v_311, ev_311⟩ : ∃ z : Int32, z = y_297 + 1 := ⟨_, rfl⟩
                    obtain ⟨qv_311, hv_311⟩ := zI_add (l := 1) (h := 1000) hv_302 zc_1 ev_311 (by decide)
                    rw [li_1] at qv_311
                    refine lv_iinc (v := v_311) (lv' := [(3, .int v_311), (2, .int v_310), (0, .ref b0), (1, .int b1)]) hx hb d_Model_words_149 hl (k := 1) rfl (by rw [ev_311]; rfl) (by decide) rfl (fun ls hl => ?_)
                    refine lv_goto (tgt := 113) hx hb d_Model_words_152 (by decide) ?_
                    exact ihk_296 (v_311) (v_310) _ _ _ (zI.wk (l' := 0) (h' := 1000) hv_311 (by decide)) (zm_up qv_311 hmk_296 (by decide)) (hP.sub [0, 19, 1, 2, 3, 4, 5, 6, 7, 8, 9, 10, 11, 12, 18, 13, 14, 16, 17, 15] rfl) (hD.sub [0, 19, 1, 2, 3, 4, 5, 6, 7, 8, 9, 10, 11, 12, 18, 13, 14, 16, 17, 15] (by decide) rfl) hS (lv_sub hl [0, 1, 2, 3] rfl)
                  · have _nhc_307 := hc_307
                    have ni_312 : ¬ (x_306 : Int32).toInt = (0 : Int32).toInt := fun z => hc_307 ((fa_eq _ _).mpr z)
                    simp only [li_0] at ni_312
                    have hv_313 : zI x_306 1 1 := zI.ne_lo hx_306 zc_0 hc_307 (by decide)
                    refine lv_aload_n hx hb d_Model_words_137 rfl (lv_at hl 2 rfl) ?_
                    refine va_get (D := G.1) (ci := 12) (v := .ref b42) (C := R_Model) (T := F_Model) (N := 54) hx hb hts i_Model hown hK hP 16 rfl rfl 40 (by decide) (hts _ q1149) (fun _ h9 => h9) rfl d_Model_words_138 ?_
                    refine lv_iload_n hx hb d_Model_words_141 rfl (lv_at hl 0 rfl) ?_
                    refine va_iald hx hb hK hP 1 0 rfl rfl (zI.inn hv_302 (by decide)) d_Model_words_142 ?_
                    refine lv_topi (fun v_314 ev_314 => ?_)
                    refine lv_goto (tgt := 147) hx hb d_Model_words_143 (by decide) ?_
                    refine lv_iadd hx hb d_Model_words_147 ?_
                    refine lv_topi (fun v_315 ev_315 => ?_)
                    refine lv_istore_n (lv' := [(2, .int v_315), (3, .int y_297), (0, .ref b0), (1, .int b1)]) hx hb d_Model_words_148 rfl hl (by decide) rfl (fun ls hl => ?_)
                    obtain ⟨v_316, ev_316⟩ : ∃ z : Int32, z = y_297 + 1 := ⟨_, rfl⟩
                    obtain ⟨qv_316, hv_316⟩ := zI_add (l := 1) (h := 1000) hv_302 zc_1 ev_316 (by decide)
                    rw [li_1] at qv_316
                    refine lv_iinc (v := v_316) (lv' := [(3, .int v_316), (2, .int v_315), (0, .ref b0), (1, .int b1)]) hx hb d_Model_words_149 hl (k := 1) rfl (by rw [ev_316]; rfl) (by decide) rfl (fun ls hl => ?_)
                    refine lv_goto (tgt := 113) hx hb d_Model_words_152 (by decide) ?_
                    exact ihk_296 (v_316) (v_315) _ _ _ (zI.wk (l' := 0) (h' := 1000) hv_316 (by decide)) (zm_up qv_316 hmk_296 (by decide)) (hP.sub [0, 19, 1, 2, 3, 4, 5, 6, 7, 8, 9, 10, 11, 12, 18, 13, 14, 16, 17, 15] rfl) (hD.sub [0, 19, 1, 2, 3, 4, 5, 6, 7, 8, 9, 10, 11, 12, 18, 13, 14, 16, 17, 15] (by decide) rfl) hS (lv_sub hl [0, 1, 2, 3] rfl)
            · have _nhc_274 := hc_274
              have ni_317 := (fa_lt _ _).mp (zi_nle hc_274)
              have hv_318 : zI y_266 0 7 := zI.lt_l hy_266 hv_11 (zi_nle hc_274) (by decide)
              have hv_319 : zI b1 1 8 := zI.lt_r hy_266 hv_11 (zi_nle hc_274) (by decide)
              refine lv_aload_n hx hb d_Model_words_87 rfl (lv_at hl 1 rfl) ?_
              refine va_get (D := G.1) (ci := 12) (v := .int y_267) (C := R_Model) (T := F_Model) (N := 54) hx hb hts i_Model hown hK hP 17 rfl rfl 41 (by decide) (hts _ q1150) (fun _ h9 => h9) rfl d_Model_words_88 ?_
              refine lv_bipush (v := 100) hx hb d_Model_words_91 (by decide) ?_
              refine lv_icmp_le (tgt := 99) hx hb d_Model_words_93 (by decide) (fun hc_320 => ?_) (fun hc_320 => ?_)
              · have _nhc_320 := hc_320
                have ni_321 := (fa_le _ _).mp hc_320
                rw [li_100] at ni_321
                have hv_322 : zI y_267 0 100 := zI.le_l hy_267 zc_100 hc_320 (by decide)
                refine lv_aload_n hx hb d_Model_words_99 rfl (lv_at hl 1 rfl) ?_
                refine z_callV (index := 335) (As := []) (rest := []) (wr := [(b17, .inl (G.2 0, 2, .inl f_14)), (b18, .inl (G.2 0, 4820, .inl f_15)), (b19, .inl (G.2 0, 520, .inl f_16)), (b20, .inl (G.2 0, 9640, .inl f_17)), (b21, .inl (G.2 0, 482, .inl f_18)), (b22, .inl (G.2 0, 482, .inl f_19)), (b24, .inl (G.2 0, 482, .inl f_21)), (b25, .inl (G.2 0, 482, .inl f_22)), (b26, .inl (G.2 0, 482, .inl f_23)), (b23, .inl (G.2 0, 2, .inl f_20)), (b30, .inl (G.2 1, 4, .inr (.inl f_41)))]) Z (s2_Model_nextLevel l G (b0) (0) (b3) (b4) (b5) (b6) (b7) (b8) (b9) (b10) (b11) (b12) (b13) (b14) (b15) (b16) (b17) (b18) (b19) (b20) (b21) (b22) (b23) (b24) (b25) (b26) (b27) (b28) (x_13) (b30) (b31) (b32) (b33) (b34) (b35) (b36) (b37) (b38) (b39) (b40) (b41) (b42) (y_267) (b44) (b45) (y_268) (b47) (b48) (b49) (b50) (b51) (b52) (b53) (b54) (b55) (b56) (f_24) (f_25) (y_269) (y_270) (y_271) (y_272) (y_273) hb7 hb9 hb10 hb12 hb16 hx_13 hb32 (zI.wk (l' := 0) (h' := 1000) hv_322 (by decide)) hy_268 hb52 hb56 hf_24 hf_25 (by omega)) hl.1 q1505 q1507 qs81 q14 q1508 ⟨by decide, by decide, by show _ = some 0; decide +kernel⟩ ⟨Nat.le_of_ble_eq_true rfl, Nat.le_of_ble_eq_true rfl⟩ ⟨Nat.le_of_ble_eq_true rfl, Nat.le_of_ble_eq_true rfl⟩ rfl (Nat.le_of_ble_eq_true rfl) d_Model_words_100 hP hD hS hA 17 12 rfl rfl rfl [17, 5, 15, 16, 0, 1, 2, 3, 4] [6, 7, 8, 9, 10, 11, 12, 13, 14, 18, 19] rfl rfl rfl rfl (by decide) (fun v w1 H locs hw_323 hP hD hS => ?_)
                obtain ⟨x_324, x_325, f_326, f_327, f_328, f_329, f_330, rfl, rfl, hx_324, hx_325⟩ := hw_323
                have hP : va_P G.1 classes [(b17, .inl (G.2 0, 2, .inl f_14)), (b18, .inl (G.2 0, 4820, .inl f_15)), (b19, .inl (G.2 0, 520, .inl f_16)), (b20, .inl (G.2 0, 9640, .inl f_17)), (b21, .inl (G.2 0, 482, .inl f_18)), (b22, .inl (G.2 0, 482, .inl f_19)), (b24, .inl (G.2 0, 482, .inl f_21)), (b25, .inl (G.2 0, 482, .inl f_22)), (b26, .inl (G.2 0, 482, .inl f_23)), (b23, .inl (G.2 0, 2, .inl f_20)), (b30, .inl (G.2 1, 4, .inr (.inl f_41))), (b0, .inr (12, [.int 0, .ref b3, .ref b4, .ref b5, .ref b6, .int b7, .ref b8, .int b9, .int b10, .int b11, .int b12, .ref b13, .ref b14, .ref b15, .int b16, .ref b17, .ref b18, .ref b19, .ref b20, .ref b21, .ref b22, .ref b23, .ref b24, .ref b25, .ref b26, .ref b27, .ref b28, .int x_13, .ref b30, .ref b31, .int b32, .int b33, .int b34, .int b35, .ref b36, .ref b37, .ref b38, .ref b39, .ref b40, .ref b41, .ref b42, .int x_324, .ref b44, .ref b45, .int x_325, .ref b47, .ref b48, .ref b49, .ref b50, .ref b51, .int b52, .ref b53, .ref b54, .ref b55])), (b3, .inl (G.2 0, 503, .inl b56)), (b27, .inl (G.2 0, 2, .inl f_24)), (b28, .inl (G.2 0, 2880, .inl f_25)), (b31, .inl (G.2 1, 4, .inr (.inl f_326))), (b41, .inl (G.2 1, 4004, .inr (.inl f_327))), (b42, .inl (G.2 0, 1001, .inl f_328)), (b44, .inl (G.2 1, 4004, .inr (.inl f_329))), (b45, .inl (G.2 0, 1001, .inl f_330))] H := hP
                have hD := z_tie hP hD rfl
                refine W.widen (k := 0) (n := 0) (Nat.le_of_ble_eq_true rfl) (Nat.le_of_ble_eq_true rfl) ?_
                obtain ⟨v_331, ev_331⟩ : ∃ z : Int32, z = y_266 + 1 := ⟨_, rfl⟩
                obtain ⟨qv_331, hv_331⟩ := zI_add (l := 1) (h := 8) hv_318 zc_1 ev_331 (by decide)
                rw [li_1] at qv_331
                refine lv_iinc (v := v_331) (lv' := [(2, .int v_331), (0, .ref b0), (1, .int b1)]) hx hb d_Model_words_103 hl (k := 0) rfl (by rw [ev_331]; rfl) (by decide) rfl (fun ls hl => ?_)
                refine lv_goto (tgt := 82) hx hb d_Model_words_106 (by decide) ?_
                exact ihk_265 (v_331) (x_324) (x_325) (f_326) (f_327) (f_328) (f_329) (f_330) _ _ _ (zI.wk (l' := 0) (h' := 8) hv_331 (by decide)) hx_324 hx_325 (zm_up qv_331 hmk_265 (by decide)) (hP.sub [15, 16, 17, 18, 19, 12, 0, 1, 2, 3, 4, 5, 6, 7, 8, 13, 14, 11, 9, 10] rfl) (hD.sub [15, 16, 17, 18, 19, 12, 0, 1, 2, 3, 4, 5, 6, 7, 8, 13, 14, 11, 9, 10] (by decide) rfl) hS (lv_sub hl [0, 1, 2] rfl)
              · have _nhc_320 := hc_320
                have ni_332 := (fa_lt _ _).mp (zi_nle hc_320)
                rw [li_100] at ni_332
                have hv_333 : zI y_267 101 1000 := zI.lt_r zc_100 hy_267 (zi_nle hc_320) (by decide)
                refine lv_bipush (v := (-2)) hx hb d_Model_words_96 (by decide) ?_
                exact z_iret hx hb hr hlocks (hP.sub [17, 5, 6, 7, 8, 9, 10, 11, 18, 12, 13, 14, 15, 16, 19, 0, 1, 2, 3, 4] rfl) (hD.sub [17, 5, 6, 7, 8, 9, 10, 11, 18, 12, 13, 14, 15, 16, 19, 0, 1, 2, 3, 4] (by decide) rfl) hS (Nat.le_of_ble_eq_true rfl) (Nat.le_of_ble_eq_true rfl) d_Model_words_98 ⟨(-2), x_13, y_267, y_268, f_14, f_15, f_16, f_17, f_18, f_19, f_20, f_21, f_22, f_23, f_24, f_25, f_41, y_269, y_270, y_271, y_272, y_273, rfl, rfl, hx_13, (zI.wk (l' := 0) (h' := 1000) hv_333 (by decide)), hy_268, hf_14, hf_15, hf_16, hf_18, hf_19, hf_20, hf_21, hf_24, hf_25⟩
        · have _nhc_195 := hc_195
          have ni_334 := (fa_lt _ _).mp (zi_nle hc_195)
          rw [li_4] at ni_334
          have hv_335 : zI y_193 0 3 := zI.lt_l hy_193 zc_4 (zi_nle hc_195) (by decide)
          refine lv_aload_n hx hb d_Model_words_62 rfl (lv_at hl 1 rfl) ?_
          refine va_get (D := G.1) (ci := 12) (v := .ref b41) (C := R_Model) (T := F_Model) (N := 54) hx hb hts i_Model hown hK hP 17 rfl rfl 39 (by decide) (hts _ q1148) (fun _ h9 => h9) rfl d_Model_words_63 ?_
          refine lv_iload_n hx hb d_Model_words_66 rfl (lv_at hl 0 rfl) ?_
          refine lv_aload_n hx hb d_Model_words_67 rfl (lv_at hl 1 rfl) ?_
          refine va_get (D := G.1) (ci := 12) (v := .ref b30) (C := R_Model) (T := F_Model) (N := 54) hx hb hts i_Model hown hK hP 17 rfl rfl 28 (by decide) (hts _ q1137) (fun _ h9 => h9) rfl d_Model_words_68 ?_
          refine lv_iload_n hx hb d_Model_words_71 rfl (lv_at hl 0 rfl) ?_
          refine va_lald hx hb hK hP 19 1 rfl rfl (zI.inn hv_335 (by decide)) d_Model_words_72 ?_
          refine lv_topl (fun v_336 ev_336 => ?_)
          refine va_last hx hb hK hP hD hS 1 1 rfl rfl (zI.inn hv_335 (by decide)) d_Model_words_73 (fun H locs hP hD hS => ?_)
          obtain ⟨f_337, hP, hD⟩ := z_newL 1 hP hD rfl
          have hP : va_P G.1 classes [(b31, .inl (G.2 1, 4, .inr (.inl b70))), (b41, .inl (G.2 1, 4004, .inr (.inl f_337))), (b42, .inl (G.2 0, 1001, .inl f_47)), (b44, .inl (G.2 1, 4004, .inr (.inl b73))), (b45, .inl (G.2 0, 1001, .inl b74)), (b3, .inl (G.2 0, 503, .inl b56)), (b17, .inl (G.2 0, 2, .inl f_14)), (b18, .inl (G.2 0, 4820, .inl f_15)), (b19, .inl (G.2 0, 520, .inl f_16)), (b20, .inl (G.2 0, 9640, .inl f_17)), (b21, .inl (G.2 0, 482, .inl f_18)), (b22, .inl (G.2 0, 482, .inl f_19)), (b24, .inl (G.2 0, 482, .inl f_21)), (b25, .inl (G.2 0, 482, .inl f_22)), (b26, .inl (G.2 0, 482, .inl f_23)), (b27, .inl (G.2 0, 2, .inl f_24)), (b28, .inl (G.2 0, 2880, .inl f_25)), (b0, .inr (12, [.int 0, .ref b3, .ref b4, .ref b5, .ref b6, .int b7, .ref b8, .int b9, .int b10, .int b11, .int b12, .ref b13, .ref b14, .ref b15, .int b16, .ref b17, .ref b18, .ref b19, .ref b20, .ref b21, .ref b22, .ref b23, .ref b24, .ref b25, .ref b26, .ref b27, .ref b28, .int x_13, .ref b30, .ref b31, .int b32, .int b33, .int b34, .int b35, .ref b36, .ref b37, .ref b38, .ref b39, .ref b40, .ref b41, .ref b42, .int 1, .ref b44, .ref b45, .int b46, .ref b47, .ref b48, .ref b49, .ref b50, .ref b51, .int b52, .ref b53, .ref b54, .ref b55])), (b23, .inl (G.2 0, 2, .inl f_20)), (b30, .inl (G.2 1, 4, .inr (.inl f_41)))] H := hP
          have hD := z_tie hP hD rfl
          obtain ⟨v_338, ev_338⟩ : ∃ z : Int32, z = y_193 + 1 := ⟨_, rfl⟩
          obtain ⟨qv_338, hv_338⟩ := zI_add (l := 1) (h := 4) hv_335 zc_1 ev_338 (by decide)
          rw [li_1] at qv_338
          refine lv_iinc (v := v_338) (lv' := [(2, .int v_338), (0, .ref b0), (1, .int b1)]) hx hb d_Model_words_74 hl (k := 0) rfl (by rw [ev_338]; rfl) (by decide) rfl (fun ls hl => ?_)
          refine lv_goto (tgt := 57) hx hb d_Model_words_77 (by decide) ?_
          exact ihk_192 (v_338) (f_337) _ _ _ (zI.wk (l' := 0) (h' := 4) hv_338 (by decide)) (zm_up qv_338 hmk_192 (by decide)) hP hD hS (lv_sub hl [0, 1, 2] rfl)
    · have _nhc_44 := hc_44
      have ni_339 : ¬ (x_43 : Int32).toInt = (0 : Int32).toInt := fun z => hc_44 ((fa_eq _ _).mpr z)
      simp only [li_0] at ni_339
      have hv_340 : zI x_43 1 1 := zI.ne_lo hx_43 zc_0 hc_44 (by decide)
      refine lv_iconst (v := 0) hx hb d_Model_words_40 (by decide) ?_
      refine lv_goto (tgt := 45) hx hb d_Model_words_41 (by decide) ?_
      refine va_put (D := G.1) (ci := 12) (v := .int 0) (ty := .int) (C := R_Model) (T := F_Model) (N := 54) hx hb hts i_Model t_Model t_Model_ok n_Model hown hK hP hD hS 17 rfl rfl 41 (by decide) (hts _ q1150) (fun _ h9 => h9) rfl (by decide +kernel) rfl rfl (Nat.le_of_ble_eq_true rfl) d_Model_words_45 (fun H locs hP hD hS => ?_)
      have hP : va_P G.1 classes [(b31, .inl (G.2 1, 4, .inr (.inl b70))), (b41, .inl (G.2 1, 4004, .inr (.inl b71))), (b42, .inl (G.2 0, 1001, .inl b72)), (b44, .inl (G.2 1, 4004, .inr (.inl b73))), (b45, .inl (G.2 0, 1001, .inl b74)), (b3, .inl (G.2 0, 503, .inl b56)), (b17, .inl (G.2 0, 2, .inl f_14)), (b18, .inl (G.2 0, 4820, .inl f_15)), (b19, .inl (G.2 0, 520, .inl f_16)), (b20, .inl (G.2 0, 9640, .inl f_17)), (b21, .inl (G.2 0, 482, .inl f_18)), (b22, .inl (G.2 0, 482, .inl f_19)), (b24, .inl (G.2 0, 482, .inl f_21)), (b25, .inl (G.2 0, 482, .inl f_22)), (b26, .inl (G.2 0, 482, .inl f_23)), (b27, .inl (G.2 0, 2, .inl f_24)), (b28, .inl (G.2 0, 2880, .inl f_25)), (b0, .inr (12, [.int 0, .ref b3, .ref b4, .ref b5, .ref b6, .int b7, .ref b8, .int b9, .int b10, .int b11, .int b12, .ref b13, .ref b14, .ref b15, .int b16, .ref b17, .ref b18, .ref b19, .ref b20, .ref b21, .ref b22, .ref b23, .ref b24, .ref b25, .ref b26, .ref b27, .ref b28, .int x_13, .ref b30, .ref b31, .int b32, .int b33, .int b34, .int b35, .ref b36, .ref b37, .ref b38, .ref b39, .ref b40, .ref b41, .ref b42, .int 0, .ref b44, .ref b45, .int b46, .ref b47, .ref b48, .ref b49, .ref b50, .ref b51, .int b52, .ref b53, .ref b54, .ref b55])), (b23, .inl (G.2 0, 2, .inl f_20)), (b30, .inl (G.2 1, 4, .inr (.inl f_41)))] H := hP
      have hD := z_tie hP hD rfl
      refine lv_aload_n hx hb d_Model_words_48 rfl (lv_at hl 0 rfl) ?_
      refine va_get (D := G.1) (ci := 12) (v := .ref b42) (C := R_Model) (T := F_Model) (N := 54) hx hb hts i_Model hown hK hP 17 rfl rfl 40 (by decide) (hts _ q1149) (fun _ h9 => h9) rfl d_Model_words_49 ?_
      refine lv_iconst (v := 0) hx hb d_Model_words_52 (by decide) ?_
      refine lv_iconst (v := 1) hx hb d_Model_words_53 (by decide) ?_
      refine va_iast hx hb hK hP hD hS 2 0 rfl rfl (i := 0) (z_in rfl) d_Model_words_54 (fun H locs hP hD hS => ?_)
      obtain ⟨f_341, gf_341, uf_341, hP, hD⟩ := z_newFu 2 hP hD rfl
      have hP : va_P G.1 classes [(b31, .inl (G.2 1, 4, .inr (.inl b70))), (b41, .inl (G.2 1, 4004, .inr (.inl b71))), (b42, .inl (G.2 0, 1001, .inl f_341)), (b44, .inl (G.2 1, 4004, .inr (.inl b73))), (b45, .inl (G.2 0, 1001, .inl b74)), (b3, .inl (G.2 0, 503, .inl b56)), (b17, .inl (G.2 0, 2, .inl f_14)), (b18, .inl (G.2 0, 4820, .inl f_15)), (b19, .inl (G.2 0, 520, .inl f_16)), (b20, .inl (G.2 0, 9640, .inl f_17)), (b21, .inl (G.2 0, 482, .inl f_18)), (b22, .inl (G.2 0, 482, .inl f_19)), (b24, .inl (G.2 0, 482, .inl f_21)), (b25, .inl (G.2 0, 482, .inl f_22)), (b26, .inl (G.2 0, 482, .inl f_23)), (b27, .inl (G.2 0, 2, .inl f_24)), (b28, .inl (G.2 0, 2880, .inl f_25)), (b0, .inr (12, [.int 0, .ref b3, .ref b4, .ref b5, .ref b6, .int b7, .ref b8, .int b9, .int b10, .int b11, .int b12, .ref b13, .ref b14, .ref b15, .int b16, .ref b17, .ref b18, .ref b19, .ref b20, .ref b21, .ref b22, .ref b23, .ref b24, .ref b25, .ref b26, .ref b27, .ref b28, .int x_13, .ref b30, .ref b31, .int b32, .int b33, .int b34, .int b35, .ref b36, .ref b37, .ref b38, .ref b39, .ref b40, .ref b41, .ref b42, .int 0, .ref b44, .ref b45, .int b46, .ref b47, .ref b48, .ref b49, .ref b50, .ref b51, .int b52, .ref b53, .ref b54, .ref b55])), (b23, .inl (G.2 0, 2, .inl f_20)), (b30, .inl (G.2 1, 4, .inr (.inl f_41)))] H := hP
      have hD := z_tie hP hD rfl
      refine lv_iconst (v := 0) hx hb d_Model_words_55 (by decide) ?_
      refine lv_istore_n (lv' := [(2, .int 0), (0, .ref b0), (1, .int b1)]) hx hb d_Model_words_56 rfl hl (by decide) rfl (fun ls hl => ?_)
      suffices key : ∀ (k_486 : Nat) (y_487 : Int32) (y_488 : Nat → Int64) (H : Heap) (locs : List Loc) (ls : Array Slot), (zI y_487 0 4) → (4 : Int) - y_487.toInt < (k_486 : Int) → va_P G.1 classes [(b31, .inl (G.2 1, 4, .inr (.inl b70))), (b41, .inl (G.2 1, 4004, .inr (.inl y_488))), (b42, .inl (G.2 0, 1001, .inl f_341)), (b44, .inl (G.2 1, 4004, .inr (.inl b73))), (b45, .inl (G.2 0, 1001, .inl b74)), (b3, .inl (G.2 0, 503, .inl b56)), (b17, .inl (G.2 0, 2, .inl f_14)), (b18, .inl (G.2 0, 4820, .inl f_15)), (b19, .inl (G.2 0, 520, .inl f_16)), (b20, .inl (G.2 0, 9640, .inl f_17)), (b21, .inl (G.2 0, 482, .inl f_18)), (b22, .inl (G.2 0, 482, .inl f_19)), (b24, .inl (G.2 0, 482, .inl f_21)), (b25, .inl (G.2 0, 482, .inl f_22)), (b26, .inl (G.2 0, 482, .inl f_23)), (b27, .inl (G.2 0, 2, .inl f_24)), (b28, .inl (G.2 0, 2880, .inl f_25)), (b0, .inr (12, [.int 0, .ref b3, .ref b4, .ref b5, .ref b6, .int b7, .ref b8, .int b9, .int b10, .int b11, .int b12, .ref b13, .ref b14, .ref b15, .int b16, .ref b17, .ref b18, .ref b19, .ref b20, .ref b21, .ref b22, .ref b23, .ref b24, .ref b25, .ref b26, .ref b27, .ref b28, .int x_13, .ref b30, .ref b31, .int b32, .int b33, .int b34, .int b35, .ref b36, .ref b37, .ref b38, .ref b39, .ref b40, .ref b41, .ref b42, .int 0, .ref b44, .ref b45, .int b46, .ref b47, .ref b48, .ref b49, .ref b50, .ref b51, .int b52, .ref b53, .ref b54, .ref b55])), (b23, .inl (G.2 0, 2, .inl f_20)), (b30, .inl (G.2 1, 4, .inr (.inl f_41)))] H → va_D A [(b31, .inl (G.2 1, 4, .inr (.inl b70))), (b41, .inl (G.2 1, 4004, .inr (.inl y_488))), (b42, .inl (G.2 0, 1001, .inl f_341)), (b44, .inl (G.2 1, 4004, .inr (.inl b73))), (b45, .inl (G.2 0, 1001, .inl b74)), (b3, .inl (G.2 0, 503, .inl b56)), (b17, .inl (G.2 0, 2, .inl f_14)), (b18, .inl (G.2 0, 4820, .inl f_15)), (b19, .inl (G.2 0, 520, .inl f_16)), (b20, .inl (G.2 0, 9640, .inl f_17)), (b21, .inl (G.2 0, 482, .inl f_18)), (b22, .inl (G.2 0, 482, .inl f_19)), (b24, .inl (G.2 0, 482, .inl f_21)), (b25, .inl (G.2 0, 482, .inl f_22)), (b26, .inl (G.2 0, 482, .inl f_23)), (b27, .inl (G.2 0, 2, .inl f_24)), (b28, .inl (G.2 0, 2880, .inl f_25)), (b0, .inr (12, [.int 0, .ref b3, .ref b4, .ref b5, .ref b6, .int b7, .ref b8, .int b9, .int b10, .int b11, .int b12, .ref b13, .ref b14, .ref b15, .int b16, .ref b17, .ref b18, .ref b19, .ref b20, .ref b21, .ref b22, .ref b23, .ref b24, .ref b25, .ref b26, .ref b27, .ref b28, .int x_13, .ref b30, .ref b31, .int b32, .int b33, .int b34, .int b35, .ref b36, .ref b37, .ref b38, .ref b39, .ref b40, .ref b41, .ref b42, .int 0, .ref b44, .ref b45, .int b46, .ref b47, .ref b48, .ref b49, .ref b50, .ref b51, .int b52, .ref b53, .ref b54, .ref b55])), (b23, .inl (G.2 0, 2, .inl f_20)), (b30, .inl (G.2 1, 4, .inr (.inl f_41)))] → va_S A s.heap H locs → lv_has ls 4 [(2, .int y_487), (0, .ref b0), (1, .int b1)] → W p l e m_s1_Model_words s m ([.ref b0, .int b1] : List Value).toArray below meth c H locs 0 0 (MQ below (zQ G (fun v w => ∃ (e0 : Int32), ∃ (e1 : Int32), ∃ (e2 : Int32), ∃ (e3 : Int32), ∃ (e4 : Nat → Int32), ∃ (e5 : Nat → Int32), ∃ (e6 : Nat → Int32), ∃ (e7 : Nat → Int32), ∃ (e8 : Nat → Int32), ∃ (e9 : Nat → Int32), ∃ (e10 : Nat → Int32), ∃ (e11 : Nat → Int32), ∃ (e12 : Nat → Int32), ∃ (e13 : Nat → Int32), ∃ (e14 : Nat → Int32), ∃ (e15 : Nat → Int32), ∃ (e16 : Nat → Int64), ∃ (e17 : Nat → Int64), ∃ (e18 : Nat → Int64), ∃ (e19 : Nat → Int32), ∃ (e20 : Nat → Int64), ∃ (e21 : Nat → Int32), Q_s1_Model_words G b0 b3 b4 b5 b6 b7 b8 b9 b10 b11 b12 b13 b14 b15 b16 b17 b18 b19 b20 b21 b22 b23 b24 b25 b26 b27 b28 b30 b31 b32 b33 b34 b35 b36 b37 b38 b39 b40 b41 b42 b44 b45 b47 b48 b49 b50 b51 b52 b53 b54 b55 b56 e0 e1 e2 e3 e4 e5 e6 e7 e8 e9 e10 e11 e12 e13 e14 e15 e16 e17 e18 e19 e20 e21 v w) A) ([.ref b0, .int b1] : List Value).toArray s m_s1_Model_words.cells m_s1_Model_words.slots A) (F0 m 57 ls []) by
        exact key 5 (0) (b71) _ _ _ (zI.wk (l' := 0) (h' := 4) zc_0 (by decide)) (zm_upi (zI.wk (l' := 0) (h' := 4) zc_0 (by decide)) (by decide)) hP hD hS (lv_sub hl [0, 1, 2] rfl)
      intro k_486
      induction k_486 with
      | zero =>
        intro y_487 y_488 H locs ls hy_487 hmk_486 hP hD hS hl
        exact (zm_up0 hy_487 hmk_486).elim
      | succ k_486 ihk_486 =>
        intro y_487 y_488 H locs ls hy_487 hmk_486 hP hD hS hl
        refine lv_iload_n hx hb d_Model_words_57 rfl (lv_at hl 0 rfl) ?_
        refine lv_iconst (v := 4) hx hb d_Model_words_58 (by decide) ?_
        refine lv_icmp_ge (tgt := 80) hx hb d_Model_words_59 (by decide) (fun hc_489 => ?_) (fun hc_489 => ?_)
        · have _nhc_489 := hc_489
          have ni_490 := (fa_le _ _).mp hc_489
          rw [li_4] at ni_490
          have hv_491 : zI y_487 4 4 := zI.le_r zc_4 hy_487 hc_489 (by decide)
          refine lv_iconst (v := 0) hx hb d_Model_words_80 (by decide) ?_
          refine lv_istore_n (lv' := [(2, .int 0), (0, .ref b0), (1, .int b1)]) hx hb d_Model_words_81 rfl hl (by decide) rfl (fun ls hl => ?_)
          suffices key : ∀ (k_559 : Nat) (y_560 : Int32) (y_561 : Int32) (y_562 : Int32) (y_563 : Nat → Int64) (y_564 : Nat → Int64) (y_565 : Nat → Int32) (y_566 : Nat → Int64) (y_567 : Nat → Int32) (H : Heap) (locs : List Loc) (ls : Array Slot), (zI y_560 0 8) → (zI y_561 0 1000) → (zI y_562 0 1000) → (8 : Int) - y_560.toInt < (k_559 : Int) → va_P G.1 classes [(b31, .inl (G.2 1, 4, .inr (.inl y_563))), (b41, .inl (G.2 1, 4004, .inr (.inl y_564))), (b42, .inl (G.2 0, 1001, .inl y_565)), (b44, .inl (G.2 1, 4004, .inr (.inl y_566))), (b45, .inl (G.2 0, 1001, .inl y_567)), (b3, .inl (G.2 0, 503, .inl b56)), (b17, .inl (G.2 0, 2, .inl f_14)), (b18, .inl (G.2 0, 4820, .inl f_15)), (b19, .inl (G.2 0, 520, .inl f_16)), (b20, .inl (G.2 0, 9640, .inl f_17)), (b21, .inl (G.2 0, 482, .inl f_18)), (b22, .inl (G.2 0, 482, .inl f_19)), (b24, .inl (G.2 0, 482, .inl f_21)), (b25, .inl (G.2 0, 482, .inl f_22)), (b26, .inl (G.2 0, 482, .inl f_23)), (b27, .inl (G.2 0, 2, .inl f_24)), (b28, .inl (G.2 0, 2880, .inl f_25)), (b0, .inr (12, [.int 0, .ref b3, .ref b4, .ref b5, .ref b6, .int b7, .ref b8, .int b9, .int b10, .int b11, .int b12, .ref b13, .ref b14, .ref b15, .int b16, .ref b17, .ref b18, .ref b19, .ref b20, .ref b21, .ref b22, .ref b23, .ref b24, .ref b25, .ref b26, .ref b27, .ref b28, .int x_13, .ref b30, .ref b31, .int b32, .int b33, .int b34, .int b35, .ref b36, .ref b37, .ref b38, .ref b39, .ref b40, .ref b41, .ref b42, .int y_561, .ref b44, .ref b45, .int y_562, .ref b47, .ref b48, .ref b49, .ref b50, .ref b51, .int b52, .ref b53, .ref b54, .ref b55])), (b23, .inl (G.2 0, 2, .inl f_20)), (b30, .inl (G.2 1, 4, .inr (.inl f_41)))] H → va_D A [(b31, .inl (G.2 1, 4, .inr (.inl y_563))), (b41, .inl (G.2 1, 4004, .inr (.inl y_564))), (b42, .inl (G.2 0, 1001, .inl y_565)), (b44, .inl (G.2 1, 4004, .inr (.inl y_566))), (b45, .inl (G.2 0, 1001, .inl y_567)), (b3, .inl (G.2 0, 503, .inl b56)), (b17, .inl (G.2 0, 2, .inl f_14)), (b18, .inl (G.2 0, 4820, .inl f_15)), (b19, .inl (G.2 0, 520, .inl f_16)), (b20, .inl (G.2 0, 9640, .inl f_17)), (b21, .inl (G.2 0, 482, .inl f_18)), (b22, .inl (G.2 0, 482, .inl f_19)), (b24, .inl (G.2 0, 482, .inl f_21)), (b25, .inl (G.2 0, 482, .inl f_22)), (b26, .inl (G.2 0, 482, .inl f_23)), (b27, .inl (G.2 0, 2, .inl f_24)), (b28, .inl (G.2 0, 2880, .inl f_25)), (b0, .inr (12, [.int 0, .ref b3, .ref b4, .ref b5, .ref b6, .int b7, .ref b8, .int b9, .int b10, .int b11, .int b12, .ref b13, .ref b14, .ref b15, .int b16, .ref b17, .ref b18, .ref b19, .ref b20, .ref b21, .ref b22, .ref b23, .ref b24, .ref b25, .ref b26, .ref b27, .ref b28, .int x_13, .ref b30, .ref b31, .int b32, .int b33, .int b34, .int b35, .ref b36, .ref b37, .ref b38, .ref b39, .ref b40, .ref b41, .ref b42, .int y_561, .ref b44, .ref b45, .int y_562, .ref b47, .ref b48, .ref b49, .ref b50, .ref b51, .int b52, .ref b53, .ref b54, .ref b55])), (b23, .inl (G.2 0, 2, .inl f_20)), (b30, .inl (G.2 1, 4, .inr (.inl f_41)))] → va_S A s.heap H locs → lv_has ls 4 [(2, .int y_560), (0, .ref b0), (1, .int b1)] → W p l e m_s1_Model_words s m ([.ref b0, .int b1] : List Value).toArray below meth c H locs 0 0 (MQ below (zQ G (fun v w => ∃ (e0 : Int32), ∃ (e1 : Int32), ∃ (e2 : Int32), ∃ (e3 : Int32), ∃ (e4 : Nat → Int32), ∃ (e5 : Nat → Int32), ∃ (e6 : Nat → Int32), ∃ (e7 : Nat → Int32), ∃ (e8 : Nat → Int32), ∃ (e9 : Nat → Int32), ∃ (e10 : Nat → Int32), ∃ (e11 : Nat → Int32), ∃ (e12 : Nat → Int32), ∃ (e13 : Nat → Int32), ∃ (e14 : Nat → Int32), ∃ (e15 : Nat → Int32), ∃ (e16 : Nat → Int64), ∃ (e17 : Nat → Int64), ∃ (e18 : Nat → Int64), ∃ (e19 : Nat → Int32), ∃ (e20 : Nat → Int64), ∃ (e21 : Nat → Int32), Q_s1_Model_words G b0 b3 b4 b5 b6 b7 b8 b9 b10 b11 b12 b13 b14 b15 b16 b17 b18 b19 b20 b21 b22 b23 b24 b25 b26 b27 b28 b30 b31 b32 b33 b34 b35 b36 b37 b38 b39 b40 b41 b42 b44 b45 b47 b48 b49 b50 b51 b52 b53 b54 b55 b56 e0 e1 e2 e3 e4 e5 e6 e7 e8 e9 e10 e11 e12 e13 e14 e15 e16 e17 e18 e19 e20 e21 v w) A) ([.ref b0, .int b1] : List Value).toArray s m_s1_Model_words.cells m_s1_Model_words.slots A) (F0 m 82 ls []) by
            exact key 9 (0) (0) (b46) (b70) (y_488) (f_341) (b73) (b74) _ _ _ (zI.wk (l' := 0) (h' := 8) zc_0 (by decide)) (zI.wk (l' := 0) (h' := 1000) zc_0 (by decide)) hb46 (zm_upi (zI.wk (l' := 0) (h' := 8) zc_0 (by decide)) (by decide)) hP hD hS (lv_sub hl [0, 1, 2] rfl)
          intro k_559
          induction k_559 with
          | zero =>
            intro y_560 y_561 y_562 y_563 y_564 y_565 y_566 y_567 H locs ls hy_560 hy_561 hy_562 hmk_559 hP hD hS hl
            exact (zm_up0 hy_560 hmk_559).elim
          | succ k_559 ihk_559 =>
            intro y_560 y_561 y_562 y_563 y_564 y_565 y_566 y_567 H locs ls hy_560 hy_561 hy_562 hmk_559 hP hD hS hl
            refine lv_iload_n hx hb d_Model_words_82 rfl (lv_at hl 0 rfl) ?_
            refine lv_iload_n hx hb d_Model_words_83 rfl (lv_at hl 2 rfl) ?_
            refine lv_icmp_ge (tgt := 109) hx hb d_Model_words_84 (by decide) (fun hc_568 => ?_) (fun hc_568 => ?_)
            · have _nhc_568 := hc_568
              have ni_569 := (fa_le _ _).mp hc_568
              refine lv_iconst (v := 0) hx hb d_Model_words_109 (by decide) ?_
              refine lv_istore_n (lv' := [(2, .int 0), (0, .ref b0), (1, .int b1)]) hx hb d_Model_words_110 rfl hl (by decide) rfl (fun ls hl => ?_)
              refine lv_iconst (v := 0) hx hb d_Model_words_111 (by decide) ?_
              refine lv_istore_n (lv' := [(3, .int 0), (2, .int 0), (0, .ref b0), (1, .int b1)]) hx hb d_Model_words_112 rfl hl (by decide) rfl (fun ls hl => ?_)
              suffices key : ∀ (k_590 : Nat) (y_591 : Int32) (y_592 : Int32) (H : Heap) (locs : List Loc) (ls : Array Slot), (zI y_591 0 1000) → (1000 : Int) - y_591.toInt < (k_590 : Int) → va_P G.1 classes [(b31, .inl (G.2 1, 4, .inr (.inl y_563))), (b41, .inl (G.2 1, 4004, .inr (.inl y_564))), (b42, .inl (G.2 0, 1001, .inl y_565)), (b44, .inl (G.2 1, 4004, .inr (.inl y_566))), (b45, .inl (G.2 0, 1001, .inl y_567)), (b3, .inl (G.2 0, 503, .inl b56)), (b17, .inl (G.2 0, 2, .inl f_14)), (b18, .inl (G.2 0, 4820, .inl f_15)), (b19, .inl (G.2 0, 520, .inl f_16)), (b20, .inl (G.2 0, 9640, .inl f_17)), (b21, .inl (G.2 0, 482, .inl f_18)), (b22, .inl (G.2 0, 482, .inl f_19)), (b24, .inl (G.2 0, 482, .inl f_21)), (b25, .inl (G.2 0, 482, .inl f_22)), (b26, .inl (G.2 0, 482, .inl f_23)), (b27, .inl (G.2 0, 2, .inl f_24)), (b28, .inl (G.2 0, 2880, .inl f_25)), (b0, .inr (12, [.int 0, .ref b3, .ref b4, .ref b5, .ref b6, .int b7, .ref b8, .int b9, .int b10, .int b11, .int b12, .ref b13, .ref b14, .ref b15, .int b16, .ref b17, .ref b18, .ref b19, .ref b20, .ref b21, .ref b22, .ref b23, .ref b24, .ref b25, .ref b26, .ref b27, .ref b28, .int x_13, .ref b30, .ref b31, .int b32, .int b33, .int b34, .int b35, .ref b36, .ref b37, .ref b38, .ref b39, .ref b40, .ref b41, .ref b42, .int y_561, .ref b44, .ref b45, .int y_562, .ref b47, .ref b48, .ref b49, .ref b50, .ref b51, .int b52, .ref b53, .ref b54, .ref b55])), (b23, .inl (G.2 0, 2, .inl f_20)), (b30, .inl (G.2 1, 4, .inr (.inl f_41)))] H → va_D A [(b31, .inl (G.2 1, 4, .inr (.inl y_563))), (b41, .inl (G.2 1, 4004, .inr (.inl y_564))), (b42, .inl (G.2 0, 1001, .inl y_565)), (b44, .inl (G.2 1, 4004, .inr (.inl y_566))), (b45, .inl (G.2 0, 1001, .inl y_567)), (b3, .inl (G.2 0, 503, .inl b56)), (b17, .inl (G.2 0, 2, .inl f_14)), (b18, .inl (G.2 0, 4820, .inl f_15)), (b19, .inl (G.2 0, 520, .inl f_16)), (b20, .inl (G.2 0, 9640, .inl f_17)), (b21, .inl (G.2 0, 482, .inl f_18)), (b22, .inl (G.2 0, 482, .inl f_19)), (b24, .inl (G.2 0, 482, .inl f_21)), (b25, .inl (G.2 0, 482, .inl f_22)), (b26, .inl (G.2 0, 482, .inl f_23)), (b27, .inl (G.2 0, 2, .inl f_24)), (b28, .inl (G.2 0, 2880, .inl f_25)), (b0, .inr (12, [.int 0, .ref b3, .ref b4, .ref b5, .ref b6, .int b7, .ref b8, .int b9, .int b10, .int b11, .int b12, .ref b13, .ref b14, .ref b15, .int b16, .ref b17, .ref b18, .ref b19, .ref b20, .ref b21, .ref b22, .ref b23, .ref b24, .ref b25, .ref b26, .ref b27, .ref b28, .int x_13, .ref b30, .ref b31, .int b32, .int b33, .int b34, .int b35, .ref b36, .ref b37, .ref b38, .ref b39, .ref b40, .ref b41, .ref b42, .int y_561, .ref b44, .ref b45, .int y_562, .ref b47, .ref b48, .ref b49, .ref b50, .ref b51, .int b52, .ref b53, .ref b54, .ref b55])), (b23, .inl (G.2 0, 2, .inl f_20)), (b30, .inl (G.2 1, 4, .inr (.inl f_41)))] → va_S A s.heap H locs → lv_has ls 4 [(3, .int y_591), (2, .int y_592), (0, .ref b0), (1, .int b1)] → W p l e m_s1_Model_words s m ([.ref b0, .int b1] : List Value).toArray below meth c H locs 0 0 (MQ below (zQ G (fun v w => ∃ (e0 : Int32), ∃ (e1 : Int32), ∃ (e2 : Int32), ∃ (e3 : Int32), ∃ (e4 : Nat → Int32), ∃ (e5 : Nat → Int32), ∃ (e6 : Nat → Int32), ∃ (e7 : Nat → Int32), ∃ (e8 : Nat → Int32), ∃ (e9 : Nat → Int32), ∃ (e10 : Nat → Int32), ∃ (e11 : Nat → Int32), ∃ (e12 : Nat → Int32), ∃ (e13 : Nat → Int32), ∃ (e14 : Nat → Int32), ∃ (e15 : Nat → Int32), ∃ (e16 : Nat → Int64), ∃ (e17 : Nat → Int64), ∃ (e18 : Nat → Int64), ∃ (e19 : Nat → Int32), ∃ (e20 : Nat → Int64), ∃ (e21 : Nat → Int32), Q_s1_Model_words G b0 b3 b4 b5 b6 b7 b8 b9 b10 b11 b12 b13 b14 b15 b16 b17 b18 b19 b20 b21 b22 b23 b24 b25 b26 b27 b28 b30 b31 b32 b33 b34 b35 b36 b37 b38 b39 b40 b41 b42 b44 b45 b47 b48 b49 b50 b51 b52 b53 b54 b55 b56 e0 e1 e2 e3 e4 e5 e6 e7 e8 e9 e10 e11 e12 e13 e14 e15 e16 e17 e18 e19 e20 e21 v w) A) ([.ref b0, .int b1] : List Value).toArray s m_s1_Model_words.cells m_s1_Model_words.slots A) (F0 m 113 ls []) by
                exact key 1001 (0) (0) _ _ _ (zI.wk (l' := 0) (h' := 1000) zc_0 (by decide)) (zm_upi (zI.wk (l' := 0) (h' := 1000) zc_0 (by decide)) (by decide)) hP hD hS (lv_sub hl [0, 1, 2, 3] rfl)
              intro k_590
              induction k_590 with
              | zero =>
                intro y_591 y_592 H locs ls hy_591 hmk_590 hP hD hS hl
                exact (zm_up0 hy_591 hmk_590).elim
              | succ k_590 ihk_590 =>
                intro y_591 y_592 H locs ls hy_591 hmk_590 hP hD hS hl
                refine lv_iload_n hx hb d_Model_words_113 rfl (lv_at hl 0 rfl) ?_
                refine lv_aload_n hx hb d_Model_words_114 rfl (lv_at hl 2 rfl) ?_
                refine va_get (D := G.1) (ci := 12) (v := .int y_561) (C := R_Model) (T := F_Model) (N := 54) hx hb hts i_Model hown hK hP 17 rfl rfl 41 (by decide) (hts _ q1150) (fun _ h9 => h9) rfl d_Model_words_115 ?_
                refine lv_icmp_ge (tgt := 155) hx hb d_Model_words_118 (by decide) (fun hc_593 => ?_) (fun hc_593 => ?_)
                · have _nhc_593 := hc_593
                  have ni_594 := (fa_le _ _).mp hc_593
                  refine lv_iload_n hx hb d_Model_words_155 rfl (lv_at hl 1 rfl) ?_
                  exact z_iret hx hb hr hlocks (hP.sub [17, 5, 6, 7, 8, 9, 10, 11, 18, 12, 13, 14, 15, 16, 19, 0, 1, 2, 3, 4] rfl) (hD.sub [17, 5, 6, 7, 8, 9, 10, 11, 18, 12, 13, 14, 15, 16, 19, 0, 1, 2, 3, 4] (by decide) rfl) hS (Nat.le_of_ble_eq_true rfl) (Nat.le_of_ble_eq_true rfl) d_Model_words_156 ⟨y_592, x_13, y_561, y_562, f_14, f_15, f_16, f_17, f_18, f_19, f_20, f_21, f_22, f_23, f_24, f_25, f_41, y_563, y_564, y_565, y_566, y_567, rfl, rfl, hx_13, hy_561, hy_562, hf_14, hf_15, hf_16, hf_18, hf_19, hf_20, hf_21, hf_24, hf_25⟩
                · have _nhc_593 := hc_593
                  have ni_595 := (fa_lt _ _).mp (zi_nle hc_593)
                  have hv_596 : zI y_591 0 999 := zI.lt_l hy_591 hy_561 (zi_nle hc_593) (by decide)
                  have hv_597 : zI y_561 1 1000 := zI.lt_r hy_591 hy_561 (zi_nle hc_593) (by decide)
                  refine lv_iload_n hx hb d_Model_words_121 rfl (lv_at hl 1 rfl) ?_
                  refine lv_aload_n hx hb d_Model_words_122 rfl (lv_at hl 2 rfl) ?_
                  refine lv_iconst (v := 0) hx hb d_Model_words_123 (by decide) ?_
                  refine lv_aload_n hx hb d_Model_words_124 rfl (lv_at hl 2 rfl) ?_
                  refine va_get (D := G.1) (ci := 12) (v := .ref b41) (C := R_Model) (T := F_Model) (N := 54) hx hb hts i_Model hown hK hP 17 rfl rfl 39 (by decide) (hts _ q1148) (fun _ h9 => h9) rfl d_Model_words_125 ?_
                  refine lv_iconst (v := 4) hx hb d_Model_words_128 (by decide) ?_
                  refine lv_iload_n hx hb d_Model_words_129 rfl (lv_at hl 0 rfl) ?_
                  refine lv_imul hx hb d_Model_words_130 ?_
                  refine lv_topi (fun v_598 ev_598 => ?_)
                  obtain ⟨qv_598, hv_598⟩ := zI_mul (l := 0) (h := 3996) zc_4 hv_596 ev_598 (by decide)
                  rw [li_4] at qv_598
                  refine z_callV (index := 286) (As := [.int 0, .ref b41, .int v_598]) (rest := [.int y_592]) (wr := [(b31, .inl (G.2 1, 4, .inr (.inl y_563))), (b42, .inl (G.2 0, 1001, .inl y_565)), (b44, .inl (G.2 1, 4004, .inr (.inl y_566))), (b45, .inl (G.2 0, 1001, .inl y_567)), (b3, .inl (G.2 0, 503, .inl b56)), (b17, .inl (G.2 0, 2, .inl f_14)), (b18, .inl (G.2 0, 4820, .inl f_15)), (b19, .inl (G.2 0, 520, .inl f_16)), (b20, .inl (G.2 0, 9640, .inl f_17)), (b21, .inl (G.2 0, 482, .inl f_18)), (b22, .inl (G.2 0, 482, .inl f_19)), (b24, .inl (G.2 0, 482, .inl f_21)), (b25, .inl (G.2 0, 482, .inl f_22)), (b27, .inl (G.2 0, 2, .inl f_24)), (b28, .inl (G.2 0, 2880, .inl f_25)), (b30, .inl (G.2 1, 4, .inr (.inl f_41)))]) Z (s4_Model_takes l G (b0) (b41) (v_598) (0) (b3) (b4) (b5) (b6) (b7) (b8) (b9) (b10) (b11) (b12) (b13) (b14) (b15) (b16) (b17) (b18) (b19) (b20) (b21) (b22) (b23) (b24) (b25) (b26) (b27) (b28) (x_13) (b30) (b31) (b32) (b33) (b34) (b35) (b36) (b37) (b38) (b39) (b40) (b42) (y_561) (b44) (b45) (y_562) (b47) (b48) (b49) (b50) (b51) (b52) (b53) (b54) (b55) (f_20) (f_23) (y_564) (zI.wk (l' := 0) (h' := 4000) hv_598 (by decide)) hb7 hb9 hb10 hb12 hb16 hx_13 hb32 (zI.wk (l' := 0) (h' := 1000) hv_597 (by decide)) hy_562 hb52 hf_20) hl.1 q1467 q1469 qs77 q14 q1470 ⟨by decide, by decide, by show _ = some 3; decide +kernel⟩ ⟨Nat.le_of_ble_eq_true rfl, Nat.le_of_ble_eq_true rfl⟩ ⟨Nat.le_of_ble_eq_true rfl, Nat.le_of_ble_eq_true rfl⟩ rfl (Nat.le_of_ble_eq_true rfl) d_Model_words_131 hP hD hS hA 17 12 rfl rfl rfl [17, 18, 14, 1] [0, 2, 3, 4, 5, 6, 7, 8, 9, 10, 11, 12, 13, 15, 16, 19] rfl rfl rfl rfl (by decide) (fun v w1 H locs hw_599 hP hD hS => ?_)
                  obtain ⟨x_600, rfl, rfl, hx_600⟩ := hw_599
                  have hP : va_P G.1 classes [(b31, .inl (G.2 1, 4, .inr (.inl y_563))), (b42, .inl (G.2 0, 1001, .inl y_565)), (b44, .inl (G.2 1, 4004, .inr (.inl y_566))), (b45, .inl (G.2 0, 1001, .inl y_567)), (b3, .inl (G.2 0, 503, .inl b56)), (b17, .inl (G.2 0, 2, .inl f_14)), (b18, .inl (G.2 0, 4820, .inl f_15)), (b19, .inl (G.2 0, 520, .inl f_16)), (b20, .inl (G.2 0, 9640, .inl f_17)), (b21, .inl (G.2 0, 482, .inl f_18)), (b22, .inl (G.2 0, 482, .inl f_19)), (b24, .inl (G.2 0, 482, .inl f_21)), (b25, .inl (G.2 0, 482, .inl f_22)), (b27, .inl (G.2 0, 2, .inl f_24)), (b28, .inl (G.2 0, 2880, .inl f_25)), (b30, .inl (G.2 1, 4, .inr (.inl f_41))), (b0, .inr (12, [.int 0, .ref b3, .ref b4, .ref b5, .ref b6, .int b7, .ref b8, .int b9, .int b10, .int b11, .int b12, .ref b13, .ref b14, .ref b15, .int b16, .ref b17, .ref b18, .ref b19, .ref b20, .ref b21, .ref b22, .ref b23, .ref b24, .ref b25, .ref b26, .ref b27, .ref b28, .int x_13, .ref b30, .ref b31, .int b32, .int b33, .int b34, .int b35, .ref b36, .ref b37, .ref b38, .ref b39, .ref b40, .ref b41, .ref b42, .int y_561, .ref b44, .ref b45, .int y_562, .ref b47, .ref b48, .ref b49, .ref b50, .ref b51, .int b52, .ref b53, .ref b54, .ref b55])), (b23, .inl (G.2 0, 2, .inl f_20)), (b26, .inl (G.2 0, 482, .inl f_23)), (b41, .inl (G.2 1, 4004, .inr (.inl y_564)))] H := hP
                  have hD := z_tie hP hD rfl
                  refine W.widen (k := 0) (n := 0) (Nat.le_of_ble_eq_true rfl) (Nat.le_of_ble_eq_true rfl) ?_
                  refine lv_if_eq (tgt := 146) hx hb d_Model_words_134 (by decide) (fun hc_601 => ?_) (fun hc_601 => ?_)
                  · have _nhc_601 := hc_601
                    have ni_602 := (fa_eq _ _).mp hc_601
                    rw [li_0] at ni_602
                    have hv_603 : zI x_600 0 0 := zI.eq_l hx_600 zc_0 hc_601
                    refine lv_iconst (v := 0) hx hb d_Model_words_146 (by decide) ?_
                    refine lv_iadd hx hb d_Model_words_147 ?_
                    refine lv_topi (fun v_604 ev_604 => ?_)
                    obtain ⟨qv_604, hv_604⟩ := zI_add (l := -2147483648) (h := 2147483647) (zI_all y_592) zc_0 ev_604 (by decide)
                    rw [li_0] at qv_604
                    refine lv_istore_n (lv' := [(2, .int v_604), (3, .int y_591), (0, .ref b0), (1, .int b1)]) hx hb d_Model_words_148 rfl hl (by decide) rfl (fun ls hl => ?_)
                    obtain ⟨v_605, ev_605⟩ : ∃ z : Int32, z = y_591 + 1 := ⟨_, rfl⟩
                    obtain ⟨qv_605, hv_605⟩ := zI_add (l := 1) (h := 1000) hv_596 zc_1 ev_605 (by decide)
                    rw [li_1] at qv_605
                    refine lv_iinc (v := v_605) (lv' := [(3, .int v_605), (2, .int v_604), (0, .ref b0), (1, .int b1)]) hx hb d_Model_words_149 hl (k := 1) rfl (by rw [ev_605]; rfl) (by decide) rfl (fun ls hl => ?_)
                    refine lv_goto (tgt := 113) hx hb d_Model_words_152 (by decide) ?_
                    exact ihk_590 (v_605) (v_604) _ _ _ (zI.wk (l' := 0) (h' := 1000) hv_605 (by decide)) (zm_up qv_605 hmk_590 (by decide)) (hP.sub [0, 19, 1, 2, 3, 4, 5, 6, 7, 8, 9, 10, 11, 12, 18, 13, 14, 16, 17, 15] rfl) (hD.sub [0, 19, 1, 2, 3, 4, 5, 6, 7, 8, 9, 10, 11, 12, 18, 13, 14, 16, 17, 15] (by decide) rfl) hS (lv_sub hl [0, 1, 2, 3] rfl)
                  · have _nhc_601 := hc_601
                    have ni_606 : ¬ (x_600 : Int32).toInt = (0 : Int32).toInt := fun z => hc_601 ((fa_eq _ _).mpr z)
                    simp only [li_0] at ni_606
                    have hv_607 : zI x_600 1 1 := zI.ne_lo hx_600 zc_0 hc_601 (by decide)
                    refine lv_aload_n hx hb d_Model_words_137 rfl (lv_at hl 2 rfl) ?_
                    refine va_get (D := G.1) (ci := 12) (v := .ref b42) (C := R_Model) (T := F_Model) (N := 54) hx hb hts i_Model hown hK hP 16 rfl rfl 40 (by decide) (hts _ q1149) (fun _ h9 => h9) rfl d_Model_words_138 ?_
                    refine lv_iload_n hx hb d_Model_words_141 rfl (lv_at hl 0 rfl) ?_
                    refine va_iald hx hb hK hP 1 0 rfl rfl (zI.inn hv_596 (by decide)) d_Model_words_142 ?_
                    refine lv_topi (fun v_608 ev_608 => ?_)
                    refine lv_goto (tgt := 147) hx hb d_Model_words_143 (by decide) ?_
                    refine lv_iadd hx hb d_Model_words_147 ?_
                    refine lv_topi (fun v_609 ev_609 => ?_)
                    refine lv_istore_n (lv' := [(2, .int v_609), (3, .int y_591), (0, .ref b0), (1, .int b1)]) hx hb d_Model_words_148 rfl hl (by decide) rfl (fun ls hl => ?_)
                    obtain ⟨v_610, ev_610⟩ : ∃ z : Int32, z = y_591 + 1 := ⟨_, rfl⟩
                    obtain ⟨qv_610, hv_610⟩ := zI_add (l := 1) (h := 1000) hv_596 zc_1 ev_610 (by decide)
                    rw [li_1] at qv_610
                    refine lv_iinc (v := v_610) (lv' := [(3, .int v_610), (2, .int v_609), (0, .ref b0), (1, .int b1)]) hx hb d_Model_words_149 hl (k := 1) rfl (by rw [ev_610]; rfl) (by decide) rfl (fun ls hl => ?_)
                    refine lv_goto (tgt := 113) hx hb d_Model_words_152 (by decide) ?_
                    exact ihk_590 (v_610) (v_609) _ _ _ (zI.wk (l' := 0) (h' := 1000) hv_610 (by decide)) (zm_up qv_610 hmk_590 (by decide)) (hP.sub [0, 19, 1, 2, 3, 4, 5, 6, 7, 8, 9, 10, 11, 12, 18, 13, 14, 16, 17, 15] rfl) (hD.sub [0, 19, 1, 2, 3, 4, 5, 6, 7, 8, 9, 10, 11, 12, 18, 13, 14, 16, 17, 15] (by decide) rfl) hS (lv_sub hl [0, 1, 2, 3] rfl)
            · have _nhc_568 := hc_568
              have ni_611 := (fa_lt _ _).mp (zi_nle hc_568)
              have hv_612 : zI y_560 0 7 := zI.lt_l hy_560 hv_11 (zi_nle hc_568) (by decide)
              have hv_613 : zI b1 1 8 := zI.lt_r hy_560 hv_11 (zi_nle hc_568) (by decide)
              refine lv_aload_n hx hb d_Model_words_87 rfl (lv_at hl 1 rfl) ?_
              refine va_get (D := G.1) (ci := 12) (v := .int y_561) (C := R_Model) (T := F_Model) (N := 54) hx hb hts i_Model hown hK hP 17 rfl rfl 41 (by decide) (hts _ q1150) (fun _ h9 => h9) rfl d_Model_words_88 ?_
              refine lv_bipush (v := 100) hx hb d_Model_words_91 (by decide) ?_
              refine lv_icmp_le (tgt := 99) hx hb d_Model_words_93 (by decide) (fun hc_614 => ?_) (fun hc_614 => ?_)
              · have _nhc_614 := hc_614
                have ni_615 := (fa_le _ _).mp hc_614
                rw [li_100] at ni_615
                have hv_616 : zI y_561 0 100 := zI.le_l hy_561 zc_100 hc_614 (by decide)
                refine lv_aload_n hx hb d_Model_words_99 rfl (lv_at hl 1 rfl) ?_
                refine z_callV (index := 335) (As := []) (rest := []) (wr := [(b17, .inl (G.2 0, 2, .inl f_14)), (b18, .inl (G.2 0, 4820, .inl f_15)), (b19, .inl (G.2 0, 520, .inl f_16)), (b20, .inl (G.2 0, 9640, .inl f_17)), (b21, .inl (G.2 0, 482, .inl f_18)), (b22, .inl (G.2 0, 482, .inl f_19)), (b24, .inl (G.2 0, 482, .inl f_21)), (b25, .inl (G.2 0, 482, .inl f_22)), (b26, .inl (G.2 0, 482, .inl f_23)), (b23, .inl (G.2 0, 2, .inl f_20)), (b30, .inl (G.2 1, 4, .inr (.inl f_41)))]) Z (s2_Model_nextLevel l G (b0) (0) (b3) (b4) (b5) (b6) (b7) (b8) (b9) (b10) (b11) (b12) (b13) (b14) (b15) (b16) (b17) (b18) (b19) (b20) (b21) (b22) (b23) (b24) (b25) (b26) (b27) (b28) (x_13) (b30) (b31) (b32) (b33) (b34) (b35) (b36) (b37) (b38) (b39) (b40) (b41) (b42) (y_561) (b44) (b45) (y_562) (b47) (b48) (b49) (b50) (b51) (b52) (b53) (b54) (b55) (b56) (f_24) (f_25) (y_563) (y_564) (y_565) (y_566) (y_567) hb7 hb9 hb10 hb12 hb16 hx_13 hb32 (zI.wk (l' := 0) (h' := 1000) hv_616 (by decide)) hy_562 hb52 hb56 hf_24 hf_25 (by omega)) hl.1 q1505 q1507 qs81 q14 q1508 ⟨by decide, by decide, by show _ = some 0; decide +kernel⟩ ⟨Nat.le_of_ble_eq_true rfl, Nat.le_of_ble_eq_true rfl⟩ ⟨Nat.le_of_ble_eq_true rfl, Nat.le_of_ble_eq_true rfl⟩ rfl (Nat.le_of_ble_eq_true rfl) d_Model_words_100 hP hD hS hA 17 12 rfl rfl rfl [17, 5, 15, 16, 0, 1, 2, 3, 4] [6, 7, 8, 9, 10, 11, 12, 13, 14, 18, 19] rfl rfl rfl rfl (by decide) (fun v w1 H locs hw_617 hP hD hS => ?_)
                obtain ⟨x_618, x_619, f_620, f_621, f_622, f_623, f_624, rfl, rfl, hx_618, hx_619⟩ := hw_617
                have hP : va_P G.1 classes [(b17, .inl (G.2 0, 2, .inl f_14)), (b18, .inl (G.2 0, 4820, .inl f_15)), (b19, .inl (G.2 0, 520, .inl f_16)), (b20, .inl (G.2 0, 9640, .inl f_17)), (b21, .inl (G.2 0, 482, .inl f_18)), (b22, .inl (G.2 0, 482, .inl f_19)), (b24, .inl (G.2 0, 482, .inl f_21)), (b25, .inl (G.2 0, 482, .inl f_22)), (b26, .inl (G.2 0, 482, .inl f_23)), (b23, .inl (G.2 0, 2, .inl f_20)), (b30, .inl (G.2 1, 4, .inr (.inl f_41))), (b0, .inr (12, [.int 0, .ref b3, .ref b4, .ref b5, .ref b6, .int b7, .ref b8, .int b9, .int b10, .int b11, .int b12, .ref b13, .ref b14, .ref b15, .int b16, .ref b17, .ref b18, .ref b19, .ref b20, .ref b21, .ref b22, .ref b23, .ref b24, .ref b25, .ref b26, .ref b27, .ref b28, .int x_13, .ref b30, .ref b31, .int b32, .int b33, .int b34, .int b35, .ref b36, .ref b37, .ref b38, .ref b39, .ref b40, .ref b41, .ref b42, .int x_618, .ref b44, .ref b45, .int x_619, .ref b47, .ref b48, .ref b49, .ref b50, .ref b51, .int b52, .ref b53, .ref b54, .ref b55])), (b3, .inl (G.2 0, 503, .inl b56)), (b27, .inl (G.2 0, 2, .inl f_24)), (b28, .inl (G.2 0, 2880, .inl f_25)), (b31, .inl (G.2 1, 4, .inr (.inl f_620))), (b41, .inl (G.2 1, 4004, .inr (.inl f_621))), (b42, .inl (G.2 0, 1001, .inl f_622)), (b44, .inl (G.2 1, 4004, .inr (.inl f_623))), (b45, .inl (G.2 0, 1001, .inl f_624))] H := hP
                have hD := z_tie hP hD rfl
                refine W.widen (k := 0) (n := 0) (Nat.le_of_ble_eq_true rfl) (Nat.le_of_ble_eq_true rfl) ?_
                obtain ⟨v_625, ev_625⟩ : ∃ z : Int32, z = y_560 + 1 := ⟨_, rfl⟩
                obtain ⟨qv_625, hv_625⟩ := zI_add (l := 1) (h := 8) hv_612 zc_1 ev_625 (by decide)
                rw [li_1] at qv_625
                refine lv_iinc (v := v_625) (lv' := [(2, .int v_625), (0, .ref b0), (1, .int b1)]) hx hb d_Model_words_103 hl (k := 0) rfl (by rw [ev_625]; rfl) (by decide) rfl (fun ls hl => ?_)
                refine lv_goto (tgt := 82) hx hb d_Model_words_106 (by decide) ?_
                exact ihk_559 (v_625) (x_618) (x_619) (f_620) (f_621) (f_622) (f_623) (f_624) _ _ _ (zI.wk (l' := 0) (h' := 8) hv_625 (by decide)) hx_618 hx_619 (zm_up qv_625 hmk_559 (by decide)) (hP.sub [15, 16, 17, 18, 19, 12, 0, 1, 2, 3, 4, 5, 6, 7, 8, 13, 14, 11, 9, 10] rfl) (hD.sub [15, 16, 17, 18, 19, 12, 0, 1, 2, 3, 4, 5, 6, 7, 8, 13, 14, 11, 9, 10] (by decide) rfl) hS (lv_sub hl [0, 1, 2] rfl)
              · have _nhc_614 := hc_614
                have ni_626 := (fa_lt _ _).mp (zi_nle hc_614)
                rw [li_100] at ni_626
                have hv_627 : zI y_561 101 1000 := zI.lt_r zc_100 hy_561 (zi_nle hc_614) (by decide)
                refine lv_bipush (v := (-2)) hx hb d_Model_words_96 (by decide) ?_
                exact z_iret hx hb hr hlocks (hP.sub [17, 5, 6, 7, 8, 9, 10, 11, 18, 12, 13, 14, 15, 16, 19, 0, 1, 2, 3, 4] rfl) (hD.sub [17, 5, 6, 7, 8, 9, 10, 11, 18, 12, 13, 14, 15, 16, 19, 0, 1, 2, 3, 4] (by decide) rfl) hS (Nat.le_of_ble_eq_true rfl) (Nat.le_of_ble_eq_true rfl) d_Model_words_98 ⟨(-2), x_13, y_561, y_562, f_14, f_15, f_16, f_17, f_18, f_19, f_20, f_21, f_22, f_23, f_24, f_25, f_41, y_563, y_564, y_565, y_566, y_567, rfl, rfl, hx_13, (zI.wk (l' := 0) (h' := 1000) hv_627 (by decide)), hy_562, hf_14, hf_15, hf_16, hf_18, hf_19, hf_20, hf_21, hf_24, hf_25⟩
        · have _nhc_489 := hc_489
          have ni_628 := (fa_lt _ _).mp (zi_nle hc_489)
          rw [li_4] at ni_628
          have hv_629 : zI y_487 0 3 := zI.lt_l hy_487 zc_4 (zi_nle hc_489) (by decide)
          refine lv_aload_n hx hb d_Model_words_62 rfl (lv_at hl 1 rfl) ?_
          refine va_get (D := G.1) (ci := 12) (v := .ref b41) (C := R_Model) (T := F_Model) (N := 54) hx hb hts i_Model hown hK hP 17 rfl rfl 39 (by decide) (hts _ q1148) (fun _ h9 => h9) rfl d_Model_words_63 ?_
          refine lv_iload_n hx hb d_Model_words_66 rfl (lv_at hl 0 rfl) ?_
          refine lv_aload_n hx hb d_Model_words_67 rfl (lv_at hl 1 rfl) ?_
          refine va_get (D := G.1) (ci := 12) (v := .ref b30) (C := R_Model) (T := F_Model) (N := 54) hx hb hts i_Model hown hK hP 17 rfl rfl 28 (by decide) (hts _ q1137) (fun _ h9 => h9) rfl d_Model_words_68 ?_
          refine lv_iload_n hx hb d_Model_words_71 rfl (lv_at hl 0 rfl) ?_
          refine va_lald hx hb hK hP 19 1 rfl rfl (zI.inn hv_629 (by decide)) d_Model_words_72 ?_
          refine lv_topl (fun v_630 ev_630 => ?_)
          refine va_last hx hb hK hP hD hS 1 1 rfl rfl (zI.inn hv_629 (by decide)) d_Model_words_73 (fun H locs hP hD hS => ?_)
          obtain ⟨f_631, hP, hD⟩ := z_newL 1 hP hD rfl
          have hP : va_P G.1 classes [(b31, .inl (G.2 1, 4, .inr (.inl b70))), (b41, .inl (G.2 1, 4004, .inr (.inl f_631))), (b42, .inl (G.2 0, 1001, .inl f_341)), (b44, .inl (G.2 1, 4004, .inr (.inl b73))), (b45, .inl (G.2 0, 1001, .inl b74)), (b3, .inl (G.2 0, 503, .inl b56)), (b17, .inl (G.2 0, 2, .inl f_14)), (b18, .inl (G.2 0, 4820, .inl f_15)), (b19, .inl (G.2 0, 520, .inl f_16)), (b20, .inl (G.2 0, 9640, .inl f_17)), (b21, .inl (G.2 0, 482, .inl f_18)), (b22, .inl (G.2 0, 482, .inl f_19)), (b24, .inl (G.2 0, 482, .inl f_21)), (b25, .inl (G.2 0, 482, .inl f_22)), (b26, .inl (G.2 0, 482, .inl f_23)), (b27, .inl (G.2 0, 2, .inl f_24)), (b28, .inl (G.2 0, 2880, .inl f_25)), (b0, .inr (12, [.int 0, .ref b3, .ref b4, .ref b5, .ref b6, .int b7, .ref b8, .int b9, .int b10, .int b11, .int b12, .ref b13, .ref b14, .ref b15, .int b16, .ref b17, .ref b18, .ref b19, .ref b20, .ref b21, .ref b22, .ref b23, .ref b24, .ref b25, .ref b26, .ref b27, .ref b28, .int x_13, .ref b30, .ref b31, .int b32, .int b33, .int b34, .int b35, .ref b36, .ref b37, .ref b38, .ref b39, .ref b40, .ref b41, .ref b42, .int 0, .ref b44, .ref b45, .int b46, .ref b47, .ref b48, .ref b49, .ref b50, .ref b51, .int b52, .ref b53, .ref b54, .ref b55])), (b23, .inl (G.2 0, 2, .inl f_20)), (b30, .inl (G.2 1, 4, .inr (.inl f_41)))] H := hP
          have hD := z_tie hP hD rfl
          obtain ⟨v_632, ev_632⟩ : ∃ z : Int32, z = y_487 + 1 := ⟨_, rfl⟩
          obtain ⟨qv_632, hv_632⟩ := zI_add (l := 1) (h := 4) hv_629 zc_1 ev_632 (by decide)
          rw [li_1] at qv_632
          refine lv_iinc (v := v_632) (lv' := [(2, .int v_632), (0, .ref b0), (1, .int b1)]) hx hb d_Model_words_74 hl (k := 0) rfl (by rw [ev_632]; rfl) (by decide) rfl (fun ls hl => ?_)
          refine lv_goto (tgt := 57) hx hb d_Model_words_77 (by decide) ?_
          exact ihk_486 (v_632) (f_631) _ _ _ (zI.wk (l' := 0) (h' := 4) hv_632 (by decide)) (zm_up qv_632 hmk_486 (by decide)) hP hD hS (lv_sub hl [0, 1, 2] rfl)
