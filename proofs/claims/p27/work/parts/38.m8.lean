theorem d_Model_cover_0 : decode prog_14_method_57_code 0 = .ok (.aload_n 0, 1) := by decide +kernel
theorem d_Model_cover_1 : decode prog_14_method_57_code 1 = .ok (.iconst 0, 1) := by decide +kernel
theorem d_Model_cover_2 : decode prog_14_method_57_code 2 = .ok (.putfield 1, 3) := by decide +kernel
theorem d_Model_cover_5 : decode prog_14_method_57_code 5 = .ok (.iload_n 1, 1) := by decide +kernel
theorem d_Model_cover_6 : decode prog_14_method_57_code 6 = .ok (.i2l, 1) := by decide +kernel
theorem d_Model_cover_7 : decode prog_14_method_57_code 7 = .ok (.lconst 0, 1) := by decide +kernel
theorem d_Model_cover_8 : decode prog_14_method_57_code 8 = .ok (.lconst 1, 1) := by decide +kernel
theorem d_Model_cover_9 : decode prog_14_method_57_code 9 = .ok (.invokestatic 138, 3) := by decide +kernel
theorem d_Model_cover_12 : decode prog_14_method_57_code 12 = .ok (.ifCond .ne 5, 3) := by decide +kernel
theorem d_Model_cover_15 : decode prog_14_method_57_code 15 = .ok (.iconst (-1), 1) := by decide +kernel
theorem d_Model_cover_16 : decode prog_14_method_57_code 16 = .ok (.ireturn, 1) := by decide +kernel
theorem d_Model_cover_17 : decode prog_14_method_57_code 17 = .ok (.aload_n 0, 1) := by decide +kernel
theorem d_Model_cover_18 : decode prog_14_method_57_code 18 = .ok (.invokevirtual 254, 3) := by decide +kernel
theorem d_Model_cover_21 : decode prog_14_method_57_code 21 = .ok (.aload_n 0, 1) := by decide +kernel
theorem d_Model_cover_22 : decode prog_14_method_57_code 22 = .ok (.invokevirtual 305, 3) := by decide +kernel
theorem d_Model_cover_25 : decode prog_14_method_57_code 25 = .ok (.iconst 0, 1) := by decide +kernel
theorem d_Model_cover_26 : decode prog_14_method_57_code 26 = .ok (.istore_n 2, 1) := by decide +kernel
theorem d_Model_cover_27 : decode prog_14_method_57_code 27 = .ok (.bipush 21, 2) := by decide +kernel
theorem d_Model_cover_29 : decode prog_14_method_57_code 29 = .ok (.istore_n 3, 1) := by decide +kernel
theorem d_Model_cover_30 : decode prog_14_method_57_code 30 = .ok (.iconst 0, 1) := by decide +kernel
theorem d_Model_cover_31 : decode prog_14_method_57_code 31 = .ok (.istore 4, 2) := by decide +kernel
theorem d_Model_cover_33 : decode prog_14_method_57_code 33 = .ok (.iload 4, 2) := by decide +kernel
theorem d_Model_cover_35 : decode prog_14_method_57_code 35 = .ok (.iconst 1, 1) := by decide +kernel
theorem d_Model_cover_36 : decode prog_14_method_57_code 36 = .ok (.aload_n 0, 1) := by decide +kernel
theorem d_Model_cover_37 : decode prog_14_method_57_code 37 = .ok (.invokevirtual 134, 3) := by decide +kernel
theorem d_Model_cover_40 : decode prog_14_method_57_code 40 = .ok (.ishl, 1) := by decide +kernel
theorem d_Model_cover_41 : decode prog_14_method_57_code 41 = .ok (.if_icmp .ge 37, 3) := by decide +kernel
theorem d_Model_cover_44 : decode prog_14_method_57_code 44 = .ok (.iload 4, 2) := by decide +kernel
theorem d_Model_cover_46 : decode prog_14_method_57_code 46 = .ok (.invokestatic 308, 3) := by decide +kernel
theorem d_Model_cover_49 : decode prog_14_method_57_code 49 = .ok (.istore 5, 2) := by decide +kernel
theorem d_Model_cover_51 : decode prog_14_method_57_code 51 = .ok (.iload 5, 2) := by decide +kernel
theorem d_Model_cover_53 : decode prog_14_method_57_code 53 = .ok (.iload_n 3, 1) := by decide +kernel
theorem d_Model_cover_54 : decode prog_14_method_57_code 54 = .ok (.if_icmp .ge 18, 3) := by decide +kernel
theorem d_Model_cover_57 : decode prog_14_method_57_code 57 = .ok (.aload_n 0, 1) := by decide +kernel
theorem d_Model_cover_58 : decode prog_14_method_57_code 58 = .ok (.iload 4, 2) := by decide +kernel
theorem d_Model_cover_60 : decode prog_14_method_57_code 60 = .ok (.invokevirtual 311, 3) := by decide +kernel
theorem d_Model_cover_63 : decode prog_14_method_57_code 63 = .ok (.ifCond .eq 9, 3) := by decide +kernel
theorem d_Model_cover_66 : decode prog_14_method_57_code 66 = .ok (.iload 4, 2) := by decide +kernel
theorem d_Model_cover_68 : decode prog_14_method_57_code 68 = .ok (.istore_n 2, 1) := by decide +kernel
theorem d_Model_cover_69 : decode prog_14_method_57_code 69 = .ok (.iload 5, 2) := by decide +kernel
theorem d_Model_cover_71 : decode prog_14_method_57_code 71 = .ok (.istore_n 3, 1) := by decide +kernel
theorem d_Model_cover_72 : decode prog_14_method_57_code 72 = .ok (.iinc 4 1, 3) := by decide +kernel
theorem d_Model_cover_75 : decode prog_14_method_57_code 75 = .ok (.goto (-42), 3) := by decide +kernel
theorem d_Model_cover_78 : decode prog_14_method_57_code 78 = .ok (.iload_n 1, 1) := by decide +kernel
theorem d_Model_cover_79 : decode prog_14_method_57_code 79 = .ok (.ifCond .ne 7, 3) := by decide +kernel
theorem d_Model_cover_82 : decode prog_14_method_57_code 82 = .ok (.iload_n 3, 1) := by decide +kernel
theorem d_Model_cover_83 : decode prog_14_method_57_code 83 = .ok (.goto 4, 3) := by decide +kernel
theorem d_Model_cover_86 : decode prog_14_method_57_code 86 = .ok (.iload_n 2, 1) := by decide +kernel
theorem d_Model_layGoes_0 : decode prog_14_method_55_code 0 = .ok (.iconst 0, 1) := by decide +kernel
theorem d_Model_layGoes_1 : decode prog_14_method_55_code 1 = .ok (.istore_n 1, 1) := by decide +kernel
theorem d_Model_layGoes_2 : decode prog_14_method_55_code 2 = .ok (.iload_n 1, 1) := by decide +kernel
theorem d_Model_layGoes_3 : decode prog_14_method_55_code 3 = .ok (.bipush 80, 2) := by decide +kernel
theorem d_Model_layGoes_5 : decode prog_14_method_55_code 5 = .ok (.if_icmp .ge 16, 3) := by decide +kernel
theorem d_Model_layGoes_8 : decode prog_14_method_55_code 8 = .ok (.aload_n 0, 1) := by decide +kernel
theorem d_Model_layGoes_9 : decode prog_14_method_55_code 9 = .ok (.getfield 89, 3) := by decide +kernel
theorem d_Model_layGoes_12 : decode prog_14_method_55_code 12 = .ok (.iload_n 1, 1) := by decide +kernel
theorem d_Model_layGoes_13 : decode prog_14_method_55_code 13 = .ok (.lconst 0, 1) := by decide +kernel
theorem d_Model_layGoes_14 : decode prog_14_method_55_code 14 = .ok (.lastore, 1) := by decide +kernel
theorem d_Model_layGoes_15 : decode prog_14_method_55_code 15 = .ok (.iinc 1 1, 3) := by decide +kernel
theorem d_Model_layGoes_18 : decode prog_14_method_55_code 18 = .ok (.goto (-16), 3) := by decide +kernel
theorem d_Model_layGoes_21 : decode prog_14_method_55_code 21 = .ok (.iconst 0, 1) := by decide +kernel
theorem d_Model_layGoes_22 : decode prog_14_method_55_code 22 = .ok (.istore_n 1, 1) := by decide +kernel
theorem d_Model_layGoes_23 : decode prog_14_method_55_code 23 = .ok (.iload_n 1, 1) := by decide +kernel
theorem d_Model_layGoes_24 : decode prog_14_method_55_code 24 = .ok (.aload_n 0, 1) := by decide +kernel
theorem d_Model_layGoes_25 : decode prog_14_method_55_code 25 = .ok (.invokevirtual 134, 3) := by decide +kernel
theorem d_Model_layGoes_28 : decode prog_14_method_55_code 28 = .ok (.if_icmp .ge 76, 3) := by decide +kernel
theorem d_Model_layGoes_31 : decode prog_14_method_55_code 31 = .ok (.iconst 0, 1) := by decide +kernel
theorem d_Model_layGoes_32 : decode prog_14_method_55_code 32 = .ok (.istore_n 2, 1) := by decide +kernel
theorem d_Model_layGoes_33 : decode prog_14_method_55_code 33 = .ok (.iload_n 2, 1) := by decide +kernel
theorem d_Model_layGoes_34 : decode prog_14_method_55_code 34 = .ok (.aload_n 0, 1) := by decide +kernel
theorem d_Model_layGoes_35 : decode prog_14_method_55_code 35 = .ok (.iload_n 1, 1) := by decide +kernel
theorem d_Model_layGoes_36 : decode prog_14_method_55_code 36 = .ok (.invokevirtual 203, 3) := by decide +kernel
theorem d_Model_layGoes_39 : decode prog_14_method_55_code 39 = .ok (.if_icmp .ge 59, 3) := by decide +kernel
theorem d_Model_layGoes_42 : decode prog_14_method_55_code 42 = .ok (.aload_n 0, 1) := by decide +kernel
theorem d_Model_layGoes_43 : decode prog_14_method_55_code 43 = .ok (.iconst 0, 1) := by decide +kernel
theorem d_Model_layGoes_44 : decode prog_14_method_55_code 44 = .ok (.aload_n 0, 1) := by decide +kernel
theorem d_Model_layGoes_45 : decode prog_14_method_55_code 45 = .ok (.iconst 0, 1) := by decide +kernel
theorem d_Model_layGoes_46 : decode prog_14_method_55_code 46 = .ok (.iload_n 1, 1) := by decide +kernel
theorem d_Model_layGoes_47 : decode prog_14_method_55_code 47 = .ok (.iload_n 2, 1) := by decide +kernel
theorem d_Model_layGoes_48 : decode prog_14_method_55_code 48 = .ok (.invokevirtual 231, 3) := by decide +kernel
theorem d_Model_layGoes_51 : decode prog_14_method_55_code 51 = .ok (.aload_n 0, 1) := by decide +kernel
theorem d_Model_layGoes_52 : decode prog_14_method_55_code 52 = .ok (.iload_n 1, 1) := by decide +kernel
theorem d_Model_layGoes_53 : decode prog_14_method_55_code 53 = .ok (.iload_n 2, 1) := by decide +kernel
theorem d_Model_layGoes_54 : decode prog_14_method_55_code 54 = .ok (.invokevirtual 207, 3) := by decide +kernel
theorem d_Model_layGoes_57 : decode prog_14_method_55_code 57 = .ok (.aload_n 0, 1) := by decide +kernel
theorem d_Model_layGoes_58 : decode prog_14_method_55_code 58 = .ok (.iconst 0, 1) := by decide +kernel
theorem d_Model_layGoes_59 : decode prog_14_method_55_code 59 = .ok (.iload_n 1, 1) := by decide +kernel
theorem d_Model_layGoes_60 : decode prog_14_method_55_code 60 = .ok (.iload_n 2, 1) := by decide +kernel
theorem d_Model_layGoes_61 : decode prog_14_method_55_code 61 = .ok (.iconst 1, 1) := by decide +kernel
theorem d_Model_layGoes_62 : decode prog_14_method_55_code 62 = .ok (.iadd, 1) := by decide +kernel
theorem d_Model_layGoes_63 : decode prog_14_method_55_code 63 = .ok (.invokevirtual 231, 3) := by decide +kernel
theorem d_Model_layGoes_66 : decode prog_14_method_55_code 66 = .ok (.invokevirtual 234, 3) := by decide +kernel
theorem d_Model_layGoes_69 : decode prog_14_method_55_code 69 = .ok (.istore_n 3, 1) := by decide +kernel
theorem d_Model_layGoes_70 : decode prog_14_method_55_code 70 = .ok (.aload_n 0, 1) := by decide +kernel
theorem d_Model_layGoes_71 : decode prog_14_method_55_code 71 = .ok (.getfield 89, 3) := by decide +kernel
theorem d_Model_layGoes_74 : decode prog_14_method_55_code 74 = .ok (.iconst 4, 1) := by decide +kernel
theorem d_Model_layGoes_75 : decode prog_14_method_55_code 75 = .ok (.iload_n 1, 1) := by decide +kernel
theorem d_Model_layGoes_76 : decode prog_14_method_55_code 76 = .ok (.imul, 1) := by decide +kernel
theorem d_Model_layGoes_77 : decode prog_14_method_55_code 77 = .ok (.iload_n 3, 1) := by decide +kernel
theorem d_Model_layGoes_78 : decode prog_14_method_55_code 78 = .ok (.bipush 64, 2) := by decide +kernel
theorem d_Model_layGoes_80 : decode prog_14_method_55_code 80 = .ok (.idiv, 1) := by decide +kernel
theorem d_Model_layGoes_81 : decode prog_14_method_55_code 81 = .ok (.iadd, 1) := by decide +kernel
theorem d_Model_layGoes_82 : decode prog_14_method_55_code 82 = .ok (.dup2, 1) := by decide +kernel
theorem d_Model_layGoes_83 : decode prog_14_method_55_code 83 = .ok (.laload, 1) := by decide +kernel
theorem d_Model_layGoes_84 : decode prog_14_method_55_code 84 = .ok (.lconst 1, 1) := by decide +kernel
theorem d_Model_layGoes_85 : decode prog_14_method_55_code 85 = .ok (.iload_n 3, 1) := by decide +kernel
theorem d_Model_layGoes_86 : decode prog_14_method_55_code 86 = .ok (.bipush 64, 2) := by decide +kernel
theorem d_Model_layGoes_88 : decode prog_14_method_55_code 88 = .ok (.irem, 1) := by decide +kernel
theorem d_Model_layGoes_89 : decode prog_14_method_55_code 89 = .ok (.lshl, 1) := by decide +kernel
theorem d_Model_layGoes_90 : decode prog_14_method_55_code 90 = .ok (.lor, 1) := by decide +kernel
theorem d_Model_layGoes_91 : decode prog_14_method_55_code 91 = .ok (.lastore, 1) := by decide +kernel
theorem d_Model_layGoes_92 : decode prog_14_method_55_code 92 = .ok (.iinc 2 1, 3) := by decide +kernel
theorem d_Model_layGoes_95 : decode prog_14_method_55_code 95 = .ok (.goto (-62), 3) := by decide +kernel
theorem d_Model_layGoes_98 : decode prog_14_method_55_code 98 = .ok (.iinc 1 1, 3) := by decide +kernel
theorem d_Model_layGoes_101 : decode prog_14_method_55_code 101 = .ok (.goto (-78), 3) := by decide +kernel
theorem d_Model_layGoes_104 : decode prog_14_method_55_code 104 = .ok (.iconst 0, 1) := by decide +kernel
theorem d_Model_layGoes_105 : decode prog_14_method_55_code 105 = .ok (.istore_n 1, 1) := by decide +kernel
theorem d_Model_layGoes_106 : decode prog_14_method_55_code 106 = .ok (.iload_n 1, 1) := by decide +kernel
theorem d_Model_layGoes_107 : decode prog_14_method_55_code 107 = .ok (.sipush 4096, 3) := by decide +kernel
theorem d_Model_layGoes_110 : decode prog_14_method_55_code 110 = .ok (.if_icmp .ge 23, 3) := by decide +kernel
theorem d_Model_layGoes_113 : decode prog_14_method_55_code 113 = .ok (.aload_n 0, 1) := by decide +kernel
theorem d_Model_layGoes_114 : decode prog_14_method_55_code 114 = .ok (.getfield 83, 3) := by decide +kernel
theorem d_Model_layGoes_117 : decode prog_14_method_55_code 117 = .ok (.iload_n 1, 1) := by decide +kernel
theorem d_Model_layGoes_118 : decode prog_14_method_55_code 118 = .ok (.lconst 0, 1) := by decide +kernel
theorem d_Model_layGoes_119 : decode prog_14_method_55_code 119 = .ok (.lastore, 1) := by decide +kernel
theorem d_Model_layGoes_120 : decode prog_14_method_55_code 120 = .ok (.aload_n 0, 1) := by decide +kernel
theorem d_Model_layGoes_121 : decode prog_14_method_55_code 121 = .ok (.getfield 86, 3) := by decide +kernel
theorem d_Model_layGoes_124 : decode prog_14_method_55_code 124 = .ok (.iload_n 1, 1) := by decide +kernel
theorem d_Model_layGoes_125 : decode prog_14_method_55_code 125 = .ok (.lconst 0, 1) := by decide +kernel
theorem d_Model_layGoes_126 : decode prog_14_method_55_code 126 = .ok (.lastore, 1) := by decide +kernel
theorem d_Model_layGoes_127 : decode prog_14_method_55_code 127 = .ok (.iinc 1 1, 3) := by decide +kernel
theorem d_Model_layGoes_130 : decode prog_14_method_55_code 130 = .ok (.goto (-24), 3) := by decide +kernel
theorem d_Model_layGoes_133 : decode prog_14_method_55_code 133 = .ok (.iconst 1, 1) := by decide +kernel
theorem d_Model_layGoes_134 : decode prog_14_method_55_code 134 = .ok (.istore_n 1, 1) := by decide +kernel
theorem d_Model_layGoes_135 : decode prog_14_method_55_code 135 = .ok (.iload_n 1, 1) := by decide +kernel
theorem d_Model_layGoes_136 : decode prog_14_method_55_code 136 = .ok (.sipush 1024, 3) := by decide +kernel
theorem d_Model_layGoes_139 : decode prog_14_method_55_code 139 = .ok (.if_icmp .ge 117, 3) := by decide +kernel
theorem d_Model_layGoes_142 : decode prog_14_method_55_code 142 = .ok (.iconst 0, 1) := by decide +kernel
theorem d_Model_layGoes_143 : decode prog_14_method_55_code 143 = .ok (.istore_n 2, 1) := by decide +kernel
theorem d_Model_layGoes_144 : decode prog_14_method_55_code 144 = .ok (.iload_n 1, 1) := by decide +kernel
theorem d_Model_layGoes_145 : decode prog_14_method_55_code 145 = .ok (.iload_n 2, 1) := by decide +kernel
theorem d_Model_layGoes_146 : decode prog_14_method_55_code 146 = .ok (.ishr, 1) := by decide +kernel
theorem d_Model_layGoes_147 : decode prog_14_method_55_code 147 = .ok (.iconst 1, 1) := by decide +kernel
theorem d_Model_layGoes_148 : decode prog_14_method_55_code 148 = .ok (.iand, 1) := by decide +kernel
theorem d_Model_layGoes_149 : decode prog_14_method_55_code 149 = .ok (.ifCond .ne 9, 3) := by decide +kernel
theorem d_Model_layGoes_152 : decode prog_14_method_55_code 152 = .ok (.iinc 2 1, 3) := by decide +kernel
theorem d_Model_layGoes_155 : decode prog_14_method_55_code 155 = .ok (.goto (-11), 3) := by decide +kernel
theorem d_Model_layGoes_158 : decode prog_14_method_55_code 158 = .ok (.iload_n 1, 1) := by decide +kernel
theorem d_Model_layGoes_159 : decode prog_14_method_55_code 159 = .ok (.iload_n 1, 1) := by decide +kernel
theorem d_Model_layGoes_160 : decode prog_14_method_55_code 160 = .ok (.iconst 1, 1) := by decide +kernel
theorem d_Model_layGoes_161 : decode prog_14_method_55_code 161 = .ok (.isub, 1) := by decide +kernel
theorem d_Model_layGoes_162 : decode prog_14_method_55_code 162 = .ok (.iand, 1) := by decide +kernel
theorem d_Model_layGoes_163 : decode prog_14_method_55_code 163 = .ok (.istore_n 3, 1) := by decide +kernel
theorem d_Model_layGoes_164 : decode prog_14_method_55_code 164 = .ok (.iconst 0, 1) := by decide +kernel
theorem d_Model_layGoes_165 : decode prog_14_method_55_code 165 = .ok (.istore 4, 2) := by decide +kernel
theorem d_Model_layGoes_167 : decode prog_14_method_55_code 167 = .ok (.iload 4, 2) := by decide +kernel
theorem d_Model_layGoes_169 : decode prog_14_method_55_code 169 = .ok (.iconst 4, 1) := by decide +kernel
theorem d_Model_layGoes_170 : decode prog_14_method_55_code 170 = .ok (.if_icmp .ge 80, 3) := by decide +kernel
theorem d_Model_layGoes_173 : decode prog_14_method_55_code 173 = .ok (.aload_n 0, 1) := by decide +kernel
theorem d_Model_layGoes_174 : decode prog_14_method_55_code 174 = .ok (.getfield 83, 3) := by decide +kernel
theorem d_Model_layGoes_177 : decode prog_14_method_55_code 177 = .ok (.iconst 4, 1) := by decide +kernel
theorem d_Model_layGoes_178 : decode prog_14_method_55_code 178 = .ok (.iload_n 1, 1) := by decide +kernel
theorem d_Model_layGoes_179 : decode prog_14_method_55_code 179 = .ok (.imul, 1) := by decide +kernel
theorem d_Model_layGoes_180 : decode prog_14_method_55_code 180 = .ok (.iload 4, 2) := by decide +kernel
theorem d_Model_layGoes_182 : decode prog_14_method_55_code 182 = .ok (.iadd, 1) := by decide +kernel
theorem d_Model_layGoes_183 : decode prog_14_method_55_code 183 = .ok (.aload_n 0, 1) := by decide +kernel
theorem d_Model_layGoes_184 : decode prog_14_method_55_code 184 = .ok (.getfield 83, 3) := by decide +kernel
theorem d_Model_layGoes_187 : decode prog_14_method_55_code 187 = .ok (.iconst 4, 1) := by decide +kernel
theorem d_Model_layGoes_188 : decode prog_14_method_55_code 188 = .ok (.iload_n 3, 1) := by decide +kernel
theorem d_Model_layGoes_189 : decode prog_14_method_55_code 189 = .ok (.imul, 1) := by decide +kernel
theorem d_Model_layGoes_190 : decode prog_14_method_55_code 190 = .ok (.iload 4, 2) := by decide +kernel
theorem d_Model_layGoes_192 : decode prog_14_method_55_code 192 = .ok (.iadd, 1) := by decide +kernel
theorem d_Model_layGoes_193 : decode prog_14_method_55_code 193 = .ok (.laload, 1) := by decide +kernel
theorem d_Model_layGoes_194 : decode prog_14_method_55_code 194 = .ok (.aload_n 0, 1) := by decide +kernel
theorem d_Model_layGoes_195 : decode prog_14_method_55_code 195 = .ok (.getfield 89, 3) := by decide +kernel
theorem d_Model_layGoes_198 : decode prog_14_method_55_code 198 = .ok (.iconst 4, 1) := by decide +kernel
theorem d_Model_layGoes_199 : decode prog_14_method_55_code 199 = .ok (.iload_n 2, 1) := by decide +kernel
theorem d_Model_layGoes_200 : decode prog_14_method_55_code 200 = .ok (.imul, 1) := by decide +kernel
theorem d_Model_layGoes_201 : decode prog_14_method_55_code 201 = .ok (.iload 4, 2) := by decide +kernel
theorem d_Model_layGoes_203 : decode prog_14_method_55_code 203 = .ok (.iadd, 1) := by decide +kernel
theorem d_Model_layGoes_204 : decode prog_14_method_55_code 204 = .ok (.laload, 1) := by decide +kernel
theorem d_Model_layGoes_205 : decode prog_14_method_55_code 205 = .ok (.lor, 1) := by decide +kernel
theorem d_Model_layGoes_206 : decode prog_14_method_55_code 206 = .ok (.lastore, 1) := by decide +kernel
theorem d_Model_layGoes_207 : decode prog_14_method_55_code 207 = .ok (.aload_n 0, 1) := by decide +kernel
theorem d_Model_layGoes_208 : decode prog_14_method_55_code 208 = .ok (.getfield 86, 3) := by decide +kernel
theorem d_Model_layGoes_211 : decode prog_14_method_55_code 211 = .ok (.iconst 4, 1) := by decide +kernel
theorem d_Model_layGoes_212 : decode prog_14_method_55_code 212 = .ok (.iload_n 1, 1) := by decide +kernel
theorem d_Model_layGoes_213 : decode prog_14_method_55_code 213 = .ok (.imul, 1) := by decide +kernel
theorem d_Model_layGoes_214 : decode prog_14_method_55_code 214 = .ok (.iload 4, 2) := by decide +kernel
theorem d_Model_layGoes_216 : decode prog_14_method_55_code 216 = .ok (.iadd, 1) := by decide +kernel
theorem d_Model_layGoes_217 : decode prog_14_method_55_code 217 = .ok (.aload_n 0, 1) := by decide +kernel
theorem d_Model_layGoes_218 : decode prog_14_method_55_code 218 = .ok (.getfield 86, 3) := by decide +kernel
theorem d_Model_layGoes_221 : decode prog_14_method_55_code 221 = .ok (.iconst 4, 1) := by decide +kernel
theorem d_Model_layGoes_222 : decode prog_14_method_55_code 222 = .ok (.iload_n 3, 1) := by decide +kernel
theorem d_Model_layGoes_223 : decode prog_14_method_55_code 223 = .ok (.imul, 1) := by decide +kernel
theorem d_Model_layGoes_224 : decode prog_14_method_55_code 224 = .ok (.iload 4, 2) := by decide +kernel
theorem d_Model_layGoes_226 : decode prog_14_method_55_code 226 = .ok (.iadd, 1) := by decide +kernel
theorem d_Model_layGoes_227 : decode prog_14_method_55_code 227 = .ok (.laload, 1) := by decide +kernel
theorem d_Model_layGoes_228 : decode prog_14_method_55_code 228 = .ok (.aload_n 0, 1) := by decide +kernel
theorem d_Model_layGoes_229 : decode prog_14_method_55_code 229 = .ok (.getfield 89, 3) := by decide +kernel
theorem d_Model_layGoes_232 : decode prog_14_method_55_code 232 = .ok (.iconst 4, 1) := by decide +kernel
theorem d_Model_layGoes_233 : decode prog_14_method_55_code 233 = .ok (.iload_n 2, 1) := by decide +kernel
theorem d_Model_layGoes_234 : decode prog_14_method_55_code 234 = .ok (.bipush 10, 2) := by decide +kernel
theorem d_Model_layGoes_236 : decode prog_14_method_55_code 236 = .ok (.iadd, 1) := by decide +kernel
theorem d_Model_layGoes_237 : decode prog_14_method_55_code 237 = .ok (.imul, 1) := by decide +kernel
theorem d_Model_layGoes_238 : decode prog_14_method_55_code 238 = .ok (.iload 4, 2) := by decide +kernel
theorem d_Model_layGoes_240 : decode prog_14_method_55_code 240 = .ok (.iadd, 1) := by decide +kernel
theorem d_Model_layGoes_241 : decode prog_14_method_55_code 241 = .ok (.laload, 1) := by decide +kernel
theorem d_Model_layGoes_242 : decode prog_14_method_55_code 242 = .ok (.lor, 1) := by decide +kernel
theorem d_Model_layGoes_243 : decode prog_14_method_55_code 243 = .ok (.lastore, 1) := by decide +kernel
theorem d_Model_layGoes_244 : decode prog_14_method_55_code 244 = .ok (.iinc 4 1, 3) := by decide +kernel
theorem d_Model_layGoes_247 : decode prog_14_method_55_code 247 = .ok (.goto (-80), 3) := by decide +kernel
theorem d_Model_layGoes_250 : decode prog_14_method_55_code 250 = .ok (.iinc 1 1, 3) := by decide +kernel
theorem d_Model_layGoes_253 : decode prog_14_method_55_code 253 = .ok (.goto (-118), 3) := by decide +kernel
theorem d_Model_layGoes_256 : decode prog_14_method_55_code 256 = .ok (.return_, 1) := by decide +kernel
theorem d_Model_ones_0 : decode prog_14_method_54_code 0 = .ok (.iconst 0, 1) := by decide +kernel
theorem d_Model_ones_1 : decode prog_14_method_54_code 1 = .ok (.istore_n 1, 1) := by decide +kernel
theorem d_Model_ones_2 : decode prog_14_method_54_code 2 = .ok (.iload_n 0, 1) := by decide +kernel
theorem d_Model_ones_3 : decode prog_14_method_54_code 3 = .ok (.istore_n 2, 1) := by decide +kernel
theorem d_Model_ones_4 : decode prog_14_method_54_code 4 = .ok (.iload_n 2, 1) := by decide +kernel
theorem d_Model_ones_5 : decode prog_14_method_54_code 5 = .ok (.ifCond .eq 15, 3) := by decide +kernel
theorem d_Model_ones_8 : decode prog_14_method_54_code 8 = .ok (.iinc 1 1, 3) := by decide +kernel
theorem d_Model_ones_11 : decode prog_14_method_54_code 11 = .ok (.iload_n 2, 1) := by decide +kernel
theorem d_Model_ones_12 : decode prog_14_method_54_code 12 = .ok (.iload_n 2, 1) := by decide +kernel
theorem d_Model_ones_13 : decode prog_14_method_54_code 13 = .ok (.iconst 1, 1) := by decide +kernel
theorem d_Model_ones_14 : decode prog_14_method_54_code 14 = .ok (.isub, 1) := by decide +kernel
theorem d_Model_ones_15 : decode prog_14_method_54_code 15 = .ok (.iand, 1) := by decide +kernel
theorem d_Model_ones_16 : decode prog_14_method_54_code 16 = .ok (.istore_n 2, 1) := by decide +kernel
theorem d_Model_ones_17 : decode prog_14_method_54_code 17 = .ok (.goto (-13), 3) := by decide +kernel
theorem d_Model_ones_20 : decode prog_14_method_54_code 20 = .ok (.iload_n 1, 1) := by decide +kernel
theorem d_Model_coversAll_0 : decode prog_14_method_56_code 0 = .ok (.iconst 4, 1) := by decide +kernel
theorem d_Model_coversAll_1 : decode prog_14_method_56_code 1 = .ok (.iload_n 1, 1) := by decide +kernel
theorem d_Model_coversAll_2 : decode prog_14_method_56_code 2 = .ok (.sipush 1023, 3) := by decide +kernel
theorem d_Model_coversAll_5 : decode prog_14_method_56_code 5 = .ok (.iand, 1) := by decide +kernel
theorem d_Model_coversAll_6 : decode prog_14_method_56_code 6 = .ok (.imul, 1) := by decide +kernel
theorem d_Model_coversAll_7 : decode prog_14_method_56_code 7 = .ok (.istore_n 2, 1) := by decide +kernel
theorem d_Model_coversAll_8 : decode prog_14_method_56_code 8 = .ok (.iconst 4, 1) := by decide +kernel
theorem d_Model_coversAll_9 : decode prog_14_method_56_code 9 = .ok (.iload_n 1, 1) := by decide +kernel
theorem d_Model_coversAll_10 : decode prog_14_method_56_code 10 = .ok (.bipush 10, 2) := by decide +kernel
theorem d_Model_coversAll_12 : decode prog_14_method_56_code 12 = .ok (.ishr, 1) := by decide +kernel
theorem d_Model_coversAll_13 : decode prog_14_method_56_code 13 = .ok (.imul, 1) := by decide +kernel
theorem d_Model_coversAll_14 : decode prog_14_method_56_code 14 = .ok (.istore_n 3, 1) := by decide +kernel
theorem d_Model_coversAll_15 : decode prog_14_method_56_code 15 = .ok (.iconst 1, 1) := by decide +kernel
theorem d_Model_coversAll_16 : decode prog_14_method_56_code 16 = .ok (.istore 4, 2) := by decide +kernel
theorem d_Model_coversAll_18 : decode prog_14_method_56_code 18 = .ok (.iconst 0, 1) := by decide +kernel
theorem d_Model_coversAll_19 : decode prog_14_method_56_code 19 = .ok (.istore 5, 2) := by decide +kernel
theorem d_Model_coversAll_21 : decode prog_14_method_56_code 21 = .ok (.iload 5, 2) := by decide +kernel
theorem d_Model_coversAll_23 : decode prog_14_method_56_code 23 = .ok (.iconst 4, 1) := by decide +kernel
theorem d_Model_coversAll_24 : decode prog_14_method_56_code 24 = .ok (.if_icmp .ge 67, 3) := by decide +kernel
theorem d_Model_coversAll_27 : decode prog_14_method_56_code 27 = .ok (.iload 4, 2) := by decide +kernel
theorem d_Model_coversAll_29 : decode prog_14_method_56_code 29 = .ok (.ifCond .eq 53, 3) := by decide +kernel
theorem d_Model_coversAll_32 : decode prog_14_method_56_code 32 = .ok (.aload_n 0, 1) := by decide +kernel
theorem d_Model_coversAll_33 : decode prog_14_method_56_code 33 = .ok (.getfield 83, 3) := by decide +kernel
theorem d_Model_coversAll_36 : decode prog_14_method_56_code 36 = .ok (.iload_n 2, 1) := by decide +kernel
theorem d_Model_coversAll_37 : decode prog_14_method_56_code 37 = .ok (.iload 5, 2) := by decide +kernel
theorem d_Model_coversAll_39 : decode prog_14_method_56_code 39 = .ok (.iadd, 1) := by decide +kernel
theorem d_Model_coversAll_40 : decode prog_14_method_56_code 40 = .ok (.laload, 1) := by decide +kernel
theorem d_Model_coversAll_41 : decode prog_14_method_56_code 41 = .ok (.aload_n 0, 1) := by decide +kernel
theorem d_Model_coversAll_42 : decode prog_14_method_56_code 42 = .ok (.getfield 86, 3) := by decide +kernel
theorem d_Model_coversAll_45 : decode prog_14_method_56_code 45 = .ok (.iload_n 3, 1) := by decide +kernel
theorem d_Model_coversAll_46 : decode prog_14_method_56_code 46 = .ok (.iload 5, 2) := by decide +kernel
theorem d_Model_coversAll_48 : decode prog_14_method_56_code 48 = .ok (.iadd, 1) := by decide +kernel
theorem d_Model_coversAll_49 : decode prog_14_method_56_code 49 = .ok (.laload, 1) := by decide +kernel
theorem d_Model_coversAll_50 : decode prog_14_method_56_code 50 = .ok (.lor, 1) := by decide +kernel
theorem d_Model_coversAll_51 : decode prog_14_method_56_code 51 = .ok (.aload_n 0, 1) := by decide +kernel
theorem d_Model_coversAll_52 : decode prog_14_method_56_code 52 = .ok (.getfield 83, 3) := by decide +kernel
theorem d_Model_coversAll_55 : decode prog_14_method_56_code 55 = .ok (.sipush 4092, 3) := by decide +kernel
theorem d_Model_coversAll_58 : decode prog_14_method_56_code 58 = .ok (.iload 5, 2) := by decide +kernel
theorem d_Model_coversAll_60 : decode prog_14_method_56_code 60 = .ok (.iadd, 1) := by decide +kernel
theorem d_Model_coversAll_61 : decode prog_14_method_56_code 61 = .ok (.laload, 1) := by decide +kernel
theorem d_Model_coversAll_62 : decode prog_14_method_56_code 62 = .ok (.aload_n 0, 1) := by decide +kernel
theorem d_Model_coversAll_63 : decode prog_14_method_56_code 63 = .ok (.getfield 86, 3) := by decide +kernel
theorem d_Model_coversAll_66 : decode prog_14_method_56_code 66 = .ok (.sipush 4092, 3) := by decide +kernel
theorem d_Model_coversAll_69 : decode prog_14_method_56_code 69 = .ok (.iload 5, 2) := by decide +kernel
theorem d_Model_coversAll_71 : decode prog_14_method_56_code 71 = .ok (.iadd, 1) := by decide +kernel
theorem d_Model_coversAll_72 : decode prog_14_method_56_code 72 = .ok (.laload, 1) := by decide +kernel
theorem d_Model_coversAll_73 : decode prog_14_method_56_code 73 = .ok (.lor, 1) := by decide +kernel
theorem d_Model_coversAll_74 : decode prog_14_method_56_code 74 = .ok (.lcmp, 1) := by decide +kernel
theorem d_Model_coversAll_75 : decode prog_14_method_56_code 75 = .ok (.ifCond .ne 7, 3) := by decide +kernel
theorem d_Model_coversAll_78 : decode prog_14_method_56_code 78 = .ok (.iconst 1, 1) := by decide +kernel
theorem d_Model_coversAll_79 : decode prog_14_method_56_code 79 = .ok (.goto 4, 3) := by decide +kernel
theorem d_Model_coversAll_82 : decode prog_14_method_56_code 82 = .ok (.iconst 0, 1) := by decide +kernel
theorem d_Model_coversAll_83 : decode prog_14_method_56_code 83 = .ok (.istore 4, 2) := by decide +kernel
theorem d_Model_coversAll_85 : decode prog_14_method_56_code 85 = .ok (.iinc 5 1, 3) := by decide +kernel
theorem d_Model_coversAll_88 : decode prog_14_method_56_code 88 = .ok (.goto (-67), 3) := by decide +kernel
theorem d_Model_coversAll_91 : decode prog_14_method_56_code 91 = .ok (.iload 4, 2) := by decide +kernel
theorem zc_80 : zI 80 80 80 := ⟨by decide +kernel, by decide +kernel⟩
theorem li_80 : (80 : Int32).toInt = 80 := by decide +kernel
theorem zc_4096 : zI 4096 4096 4096 := ⟨by decide +kernel, by decide +kernel⟩
theorem li_4096 : (4096 : Int32).toInt = 4096 := by decide +kernel
theorem zc_40 : zI 40 40 40 := ⟨by decide +kernel, by decide +kernel⟩
theorem li_40 : (40 : Int32).toInt = 40 := by decide +kernel
theorem zc_44 : zI 44 44 44 := ⟨by decide +kernel, by decide +kernel⟩
theorem li_44 : (44 : Int32).toInt = 44 := by decide +kernel
theorem zc_52 : zI 52 52 52 := ⟨by decide +kernel, by decide +kernel⟩
theorem li_52 : (52 : Int32).toInt = 52 := by decide +kernel
theorem zc_56 : zI 56 56 56 := ⟨by decide +kernel, by decide +kernel⟩
theorem li_56 : (56 : Int32).toInt = 56 := by decide +kernel
theorem zc_60 : zI 60 60 60 := ⟨by decide +kernel, by decide +kernel⟩
theorem li_60 : (60 : Int32).toInt = 60 := by decide +kernel
theorem zc_24 : zI 24 24 24 := ⟨by decide +kernel, by decide +kernel⟩
theorem li_24 : (24 : Int32).toInt = 24 := by decide +kernel
theorem zc_28 : zI 28 28 28 := ⟨by decide +kernel, by decide +kernel⟩
theorem li_28 : (28 : Int32).toInt = 28 := by decide +kernel
theorem zc_68 : zI 68 68 68 := ⟨by decide +kernel, by decide +kernel⟩
theorem li_68 : (68 : Int32).toInt = 68 := by decide +kernel
theorem zc_72 : zI 72 72 72 := ⟨by decide +kernel, by decide +kernel⟩
theorem li_72 : (72 : Int32).toInt = 72 := by decide +kernel
theorem zc_36 : zI 36 36 36 := ⟨by decide +kernel, by decide +kernel⟩
theorem li_36 : (36 : Int32).toInt = 36 := by decide +kernel
theorem zc_76 : zI 76 76 76 := ⟨by decide +kernel, by decide +kernel⟩
theorem li_76 : (76 : Int32).toInt = 76 := by decide +kernel
theorem zc_4092 : zI 4092 4092 4092 := ⟨by decide +kernel, by decide +kernel⟩
theorem li_4092 : (4092 : Int32).toInt = 4092 := by decide +kernel
abbrev m_s2_Model_layGoes : Room := { frames := 2, cells := 0, slots := 0, locals := 50 }
set_option maxHeartbeats 4000000 in
set_option maxRecDepth 100000 in
theorem s2_Model_layGoes (l : Launch) (G : zG) (b0 : Nat) (b1 : Int32) (b2 : Nat) (b3 : Nat) (b4 : Nat) (b5 : Nat) (b6 : Int32) (b7 : Nat) (b8 : Int32) (b9 : Int32) (b10 : Int32) (b11 : Int32) (b12 : Nat) (b13 : Nat) (b14 : Nat) (b15 : Int32) (b16 : Nat) (b17 : Nat) (b18 : Nat) (b19 : Nat) (b20 : Nat) (b21 : Nat) (b22 : Nat) (b23 : Nat) (b24 : Nat) (b25 : Nat) (b26 : Nat) (b27 : Nat) (b28 : Int32) (b29 : Nat) (b30 : Nat) (b31 : Int32) (b32 : Int32) (b33 : Int32) (b34 : Int32) (b35 : Nat) (b36 : Nat) (b37 : Nat) (b38 : Nat) (b39 : Nat) (b40 : Nat) (b41 : Nat) (b42 : Int32) (b43 : Nat) (b44 : Nat) (b45 : Int32) (b46 : Nat) (b47 : Nat) (b48 : Nat) (b49 : Nat) (b50 : Nat) (b51 : Int32) (b52 : Nat) (b53 : Nat) (b54 : Nat) (b55 : Nat → Int32) (b56 : Nat → Int32) (b57 : Nat → Int32) (b58 : Nat → Int32) (b59 : Nat → Int32) (b60 : Nat → Int64) (b61 : Nat → Int64) (b62 : Nat → Int64) (hb6 : zI b6 0 8) (hb8 : zI b8 0 240) (hb9 : zI b9 0 240) (hb11 : zI b11 0 1) (hb15 : zI b15 0 12) (hb28 : zI b28 0 1) (hb31 : zI b31 0 1) (hb42 : zI b42 0 1000) (hb45 : zI b45 0 1000) (hb51 : zI b51 0 400) (hb55 : zW5 b55) (hb56 : zqa qP b56) (hb57 : zR b57 0 240) (hb58 : zR b58 0 240) (hb59 : zqa qE b59) : zM l G y_Model_layGoes prog_14_method_55_code 5 (Option.none : Option Jvm.ClassFile.FieldType) m_s2_Model_layGoes [.ref b0] [(b0, .inr (12, [.int b1, .ref b2, .ref b3, .ref b4, .ref b5, .int b6, .ref b7, .int b8, .int b9, .int b10, .int b11, .ref b12, .ref b13, .ref b14, .int b15, .ref b16, .ref b17, .ref b18, .ref b19, .ref b20, .ref b21, .ref b22, .ref b23, .ref b24, .ref b25, .ref b26, .ref b27, .int b28, .ref b29, .ref b30, .int b31, .int b32, .int b33, .int b34, .ref b35, .ref b36, .ref b37, .ref b38, .ref b39, .ref b40, .ref b41, .int b42, .ref b43, .ref b44, .int b45, .ref b46, .ref b47, .ref b48, .ref b49, .ref b50, .int b51, .ref b52, .ref b53, .ref b54])), (b2, .inl (G.2 0, 503, .inl b55)), (b18, .inl (G.2 0, 520, .inl b56)), (b21, .inl (G.2 0, 482, .inl b57)), (b26, .inl (G.2 0, 2, .inl b58)), (b27, .inl (G.2 0, 2880, .inl b59)), (b35, .inl (G.2 1, 4096, .inr (.inl b60))), (b36, .inl (G.2 1, 4096, .inr (.inl b61))), (b37, .inl (G.2 1, 80, .inr (.inl b62)))] (fun v w => ∃ (e0 : Int32), ∃ (e1 : Nat → Int64), ∃ (e2 : Nat → Int64), ∃ (e3 : Nat → Int64), v = none ∧ w = [(b0, .inr (12, [.int b1, .ref b2, .ref b3, .ref b4, .ref b5, .int b6, .ref b7, .int b8, .int b9, .int b10, .int b11, .ref b12, .ref b13, .ref b14, .int b15, .ref b16, .ref b17, .ref b18, .ref b19, .ref b20, .ref b21, .ref b22, .ref b23, .ref b24, .ref b25, .ref b26, .ref b27, .int e0, .ref b29, .ref b30, .int b31, .int b32, .int b33, .int b34, .ref b35, .ref b36, .ref b37, .ref b38, .ref b39, .ref b40, .ref b41, .int b42, .ref b43, .ref b44, .int b45, .ref b46, .ref b47, .ref b48, .ref b49, .ref b50, .int b51, .ref b52, .ref b53, .ref b54])), (b2, .inl (G.2 0, 503, .inl b55)), (b18, .inl (G.2 0, 520, .inl b56)), (b21, .inl (G.2 0, 482, .inl b57)), (b26, .inl (G.2 0, 2, .inl b58)), (b27, .inl (G.2 0, 2880, .inl b59)), (b35, .inl (G.2 1, 4096, .inr (.inl e1))), (b36, .inl (G.2 1, 4096, .inr (.inl e2))), (b37, .inl (G.2 1, 80, .inr (.inl e3)))] ∧ (zI e0 0 1)) := by
  refine z_start (by decide +kernel) (Nat.le_of_ble_eq_true rfl) ?_
  intro p e s m below meth c A Z hr hnm hA hP hD hS ls hl
  have Z : zC p s m _ meth c prog_14_method_55_code 5 "TraceMachinesModel" G := Z
  obtain ⟨hx, hb, hml, hown, hts, hK, hN, hlocks⟩ := id Z
  have hl : lv_has ls 5 [(0, .ref b0)] := hl
  refine lv_iconst (v := 0) hx hb d_Model_layGoes_0 (by decide) ?_
  refine lv_istore_n (lv' := [(1, .int 0), (0, .ref b0)]) hx hb d_Model_layGoes_1 rfl hl (by decide) rfl (fun ls hl => ?_)
  suffices key : ∀ (k_5548 : Nat) (y_5549 : Int32) (y_5550 : Nat → Int64) (H : Heap) (locs : List Loc) (ls : Array Slot), (zI y_5549 0 80) → (80 : Int) - y_5549.toInt < (k_5548 : Int) → va_P G.1 classes [(b0, .inr (12, [.int b1, .ref b2, .ref b3, .ref b4, .ref b5, .int b6, .ref b7, .int b8, .int b9, .int b10, .int b11, .ref b12, .ref b13, .ref b14, .int b15, .ref b16, .ref b17, .ref b18, .ref b19, .ref b20, .ref b21, .ref b22, .ref b23, .ref b24, .ref b25, .ref b26, .ref b27, .int b28, .ref b29, .ref b30, .int b31, .int b32, .int b33, .int b34, .ref b35, .ref b36, .ref b37, .ref b38, .ref b39, .ref b40, .ref b41, .int b42, .ref b43, .ref b44, .int b45, .ref b46, .ref b47, .ref b48, .ref b49, .ref b50, .int b51, .ref b52, .ref b53, .ref b54])), (b2, .inl (G.2 0, 503, .inl b55)), (b18, .inl (G.2 0, 520, .inl b56)), (b21, .inl (G.2 0, 482, .inl b57)), (b26, .inl (G.2 0, 2, .inl b58)), (b27, .inl (G.2 0, 2880, .inl b59)), (b35, .inl (G.2 1, 4096, .inr (.inl b60))), (b36, .inl (G.2 1, 4096, .inr (.inl b61))), (b37, .inl (G.2 1, 80, .inr (.inl y_5550)))] H → va_D A [(b0, .inr (12, [.int b1, .ref b2, .ref b3, .ref b4, .ref b5, .int b6, .ref b7, .int b8, .int b9, .int b10, .int b11, .ref b12, .ref b13, .ref b14, .int b15, .ref b16, .ref b17, .ref b18, .ref b19, .ref b20, .ref b21, .ref b22, .ref b23, .ref b24, .ref b25, .ref b26, .ref b27, .int b28, .ref b29, .ref b30, .int b31, .int b32, .int b33, .int b34, .ref b35, .ref b36, .ref b37, .ref b38, .ref b39, .ref b40, .ref b41, .int b42, .ref b43, .ref b44, .int b45, .ref b46, .ref b47, .ref b48, .ref b49, .ref b50, .int b51, .ref b52, .ref b53, .ref b54])), (b2, .inl (G.2 0, 503, .inl b55)), (b18, .inl (G.2 0, 520, .inl b56)), (b21, .inl (G.2 0, 482, .inl b57)), (b26, .inl (G.2 0, 2, .inl b58)), (b27, .inl (G.2 0, 2880, .inl b59)), (b35, .inl (G.2 1, 4096, .inr (.inl b60))), (b36, .inl (G.2 1, 4096, .inr (.inl b61))), (b37, .inl (G.2 1, 80, .inr (.inl y_5550)))] → va_S A s.heap H locs → lv_has ls 5 [(1, .int y_5549), (0, .ref b0)] → W p l e m_s2_Model_layGoes s m ([.ref b0] : List Value).toArray below meth c H locs 0 0 (MQ below (zQ G (fun v w => ∃ (e0 : Int32), ∃ (e1 : Nat → Int64), ∃ (e2 : Nat → Int64), ∃ (e3 : Nat → Int64), v = none ∧ w = [(b0, .inr (12, [.int b1, .ref b2, .ref b3, .ref b4, .ref b5, .int b6, .ref b7, .int b8, .int b9, .int b10, .int b11, .ref b12, .ref b13, .ref b14, .int b15, .ref b16, .ref b17, .ref b18, .ref b19, .ref b20, .ref b21, .ref b22, .ref b23, .ref b24, .ref b25, .ref b26, .ref b27, .int e0, .ref b29, .ref b30, .int b31, .int b32, .int b33, .int b34, .ref b35, .ref b36, .ref b37, .ref b38, .ref b39, .ref b40, .ref b41, .int b42, .ref b43, .ref b44, .int b45, .ref b46, .ref b47, .ref b48, .ref b49, .ref b50, .int b51, .ref b52, .ref b53, .ref b54])), (b2, .inl (G.2 0, 503, .inl b55)), (b18, .inl (G.2 0, 520, .inl b56)), (b21, .inl (G.2 0, 482, .inl b57)), (b26, .inl (G.2 0, 2, .inl b58)), (b27, .inl (G.2 0, 2880, .inl b59)), (b35, .inl (G.2 1, 4096, .inr (.inl e1))), (b36, .inl (G.2 1, 4096, .inr (.inl e2))), (b37, .inl (G.2 1, 80, .inr (.inl e3)))] ∧ (zI e0 0 1)) A) ([.ref b0] : List Value).toArray s m_s2_Model_layGoes.cells m_s2_Model_layGoes.slots A) (F0 m 2 ls []) by
    exact key 81 (0) (b62) _ _ _ (zI.wk (l' := 0) (h' := 80) zc_0 (by decide)) (zm_upi (zI.wk (l' := 0) (h' := 80) zc_0 (by decide)) (by decide)) hP hD hS (lv_sub hl [0, 1] rfl)
  intro k_5548
  induction k_5548 with
  | zero =>
    intro y_5549 y_5550 H locs ls hy_5549 hmk_5548 hP hD hS hl
    exact (zm_up0 hy_5549 hmk_5548).elim
  | succ k_5548 ihk_5548 =>
    intro y_5549 y_5550 H locs ls hy_5549 hmk_5548 hP hD hS hl
    refine lv_iload_n hx hb d_Model_layGoes_2 rfl (lv_at hl 0 rfl) ?_
    refine lv_bipush (v := 80) hx hb d_Model_layGoes_3 (by decide) ?_
    refine lv_icmp_ge (tgt := 21) hx hb d_Model_layGoes_5 (by decide) (fun hc_5551 => ?_) (fun hc_5551 => ?_)
    · have _nhc_5551 := hc_5551
      have ni_5552 := (fa_le _ _).mp hc_5551
      rw [li_80] at ni_5552
      have hv_5553 : zI y_5549 80 80 := zI.le_r zc_80 hy_5549 hc_5551 (by decide)
      refine lv_iconst (v := 0) hx hb d_Model_layGoes_21 (by decide) ?_
      refine lv_istore_n (lv' := [(1, .int 0), (0, .ref b0)]) hx hb d_Model_layGoes_22 rfl hl (by decide) rfl (fun ls hl => ?_)
      suffices key : ∀ (k_8323 : Nat) (y_8324 : Int32) (y_8325 : Int32) (y_8326 : Nat → Int64) (H : Heap) (locs : List Loc) (ls : Array Slot), (zI y_8324 0 20) → (zI y_8325 0 1) → (20 : Int) - y_8324.toInt < (k_8323 : Int) → va_P G.1 classes [(b0, .inr (12, [.int b1, .ref b2, .ref b3, .ref b4, .ref b5, .int b6, .ref b7, .int b8, .int b9, .int b10, .int b11, .ref b12, .ref b13, .ref b14, .int b15, .ref b16, .ref b17, .ref b18, .ref b19, .ref b20, .ref b21, .ref b22, .ref b23, .ref b24, .ref b25, .ref b26, .ref b27, .int y_8325, .ref b29, .ref b30, .int b31, .int b32, .int b33, .int b34, .ref b35, .ref b36, .ref b37, .ref b38, .ref b39, .ref b40, .ref b41, .int b42, .ref b43, .ref b44, .int b45, .ref b46, .ref b47, .ref b48, .ref b49, .ref b50, .int b51, .ref b52, .ref b53, .ref b54])), (b2, .inl (G.2 0, 503, .inl b55)), (b18, .inl (G.2 0, 520, .inl b56)), (b21, .inl (G.2 0, 482, .inl b57)), (b26, .inl (G.2 0, 2, .inl b58)), (b27, .inl (G.2 0, 2880, .inl b59)), (b35, .inl (G.2 1, 4096, .inr (.inl b60))), (b36, .inl (G.2 1, 4096, .inr (.inl b61))), (b37, .inl (G.2 1, 80, .inr (.inl y_8326)))] H → va_D A [(b0, .inr (12, [.int b1, .ref b2, .ref b3, .ref b4, .ref b5, .int b6, .ref b7, .int b8, .int b9, .int b10, .int b11, .ref b12, .ref b13, .ref b14, .int b15, .ref b16, .ref b17, .ref b18, .ref b19, .ref b20, .ref b21, .ref b22, .ref b23, .ref b24, .ref b25, .ref b26, .ref b27, .int y_8325, .ref b29, .ref b30, .int b31, .int b32, .int b33, .int b34, .ref b35, .ref b36, .ref b37, .ref b38, .ref b39, .ref b40, .ref b41, .int b42, .ref b43, .ref b44, .int b45, .ref b46, .ref b47, .ref b48, .ref b49, .ref b50, .int b51, .ref b52, .ref b53, .ref b54])), (b2, .inl (G.2 0, 503, .inl b55)), (b18, .inl (G.2 0, 520, .inl b56)), (b21, .inl (G.2 0, 482, .inl b57)), (b26, .inl (G.2 0, 2, .inl b58)), (b27, .inl (G.2 0, 2880, .inl b59)), (b35, .inl (G.2 1, 4096, .inr (.inl b60))), (b36, .inl (G.2 1, 4096, .inr (.inl b61))), (b37, .inl (G.2 1, 80, .inr (.inl y_8326)))] → va_S A s.heap H locs → lv_has ls 5 [(1, .int y_8324), (0, .ref b0)] → W p l e m_s2_Model_layGoes s m ([.ref b0] : List Value).toArray below meth c H locs 0 0 (MQ below (zQ G (fun v w => ∃ (e0 : Int32), ∃ (e1 : Nat → Int64), ∃ (e2 : Nat → Int64), ∃ (e3 : Nat → Int64), v = none ∧ w = [(b0, .inr (12, [.int b1, .ref b2, .ref b3, .ref b4, .ref b5, .int b6, .ref b7, .int b8, .int b9, .int b10, .int b11, .ref b12, .ref b13, .ref b14, .int b15, .ref b16, .ref b17, .ref b18, .ref b19, .ref b20, .ref b21, .ref b22, .ref b23, .ref b24, .ref b25, .ref b26, .ref b27, .int e0, .ref b29, .ref b30, .int b31, .int b32, .int b33, .int b34, .ref b35, .ref b36, .ref b37, .ref b38, .ref b39, .ref b40, .ref b41, .int b42, .ref b43, .ref b44, .int b45, .ref b46, .ref b47, .ref b48, .ref b49, .ref b50, .int b51, .ref b52, .ref b53, .ref b54])), (b2, .inl (G.2 0, 503, .inl b55)), (b18, .inl (G.2 0, 520, .inl b56)), (b21, .inl (G.2 0, 482, .inl b57)), (b26, .inl (G.2 0, 2, .inl b58)), (b27, .inl (G.2 0, 2880, .inl b59)), (b35, .inl (G.2 1, 4096, .inr (.inl e1))), (b36, .inl (G.2 1, 4096, .inr (.inl e2))), (b37, .inl (G.2 1, 80, .inr (.inl e3)))] ∧ (zI e0 0 1)) A) ([.ref b0] : List Value).toArray s m_s2_Model_layGoes.cells m_s2_Model_layGoes.slots A) (F0 m 23 ls []) by
        exact key 21 (0) (b28) (y_5550) _ _ _ (zI.wk (l' := 0) (h' := 20) zc_0 (by decide)) hb28 (zm_upi (zI.wk (l' := 0) (h' := 20) zc_0 (by decide)) (by decide)) hP hD hS (lv_sub hl [0, 1] rfl)
      intro k_8323
      induction k_8323 with
      | zero =>
        intro y_8324 y_8325 y_8326 H locs ls hy_8324 hy_8325 hmk_8323 hP hD hS hl
        exact (zm_up0 hy_8324 hmk_8323).elim
      | succ k_8323 ihk_8323 =>
        intro y_8324 y_8325 y_8326 H locs ls hy_8324 hy_8325 hmk_8323 hP hD hS hl
        refine lv_iload_n hx hb d_Model_layGoes_23 rfl (lv_at hl 0 rfl) ?_
        refine lv_aload_n hx hb d_Model_layGoes_24 rfl (lv_at hl 1 rfl) ?_
        refine z_callV (index := 134) (As := []) (rest := [.int y_8324]) (wr := [(b18, .inl (G.2 0, 520, .inl b56)), (b21, .inl (G.2 0, 482, .inl b57)), (b26, .inl (G.2 0, 2, .inl b58)), (b27, .inl (G.2 0, 2880, .inl b59)), (b35, .inl (G.2 1, 4096, .inr (.inl b60))), (b36, .inl (G.2 1, 4096, .inr (.inl b61))), (b37, .inl (G.2 1, 80, .inr (.inl y_8326)))]) Z (s1_Model_many l G (b0) (b1) (b2) (b3) (b4) (b5) (b6) (b7) (b8) (b9) (b10) (b11) (b12) (b13) (b14) (b15) (b16) (b17) (b18) (b19) (b20) (b21) (b22) (b23) (b24) (b25) (b26) (b27) (y_8325) (b29) (b30) (b31) (b32) (b33) (b34) (b35) (b36) (b37) (b38) (b39) (b40) (b41) (b42) (b43) (b44) (b45) (b46) (b47) (b48) (b49) (b50) (b51) (b52) (b53) (b54) (b55) hb6 hb8 hb9 hb11 hb15 hy_8325 hb31 hb42 hb45 hb51 hb55) hl.1 q1320 q1322 qs51 q14 q1323 ⟨by decide, by decide, by show _ = some 0; decide +kernel⟩ ⟨Nat.le_of_ble_eq_true rfl, Nat.le_of_ble_eq_true rfl⟩ ⟨Nat.le_of_ble_eq_true rfl, Nat.le_of_ble_eq_true rfl⟩ rfl (Nat.le_of_ble_eq_true rfl) d_Model_layGoes_25 hP hD hS hA 0 12 rfl rfl rfl [0, 1] [2, 3, 4, 5, 6, 7, 8] rfl rfl rfl rfl (by decide) (fun v w1 H locs hw_8327 hP hD hS => ?_)
        obtain ⟨x_8328, rfl, rfl, hx_8328, hfx_8329⟩ := hw_8327
        have hP : va_P G.1 classes [(b18, .inl (G.2 0, 520, .inl b56)), (b21, .inl (G.2 0, 482, .inl b57)), (b26, .inl (G.2 0, 2, .inl b58)), (b27, .inl (G.2 0, 2880, .inl b59)), (b35, .inl (G.2 1, 4096, .inr (.inl b60))), (b36, .inl (G.2 1, 4096, .inr (.inl b61))), (b37, .inl (G.2 1, 80, .inr (.inl y_8326))), (b0, .inr (12, [.int b1, .ref b2, .ref b3, .ref b4, .ref b5, .int b6, .ref b7, .int b8, .int b9, .int b10, .int b11, .ref b12, .ref b13, .ref b14, .int b15, .ref b16, .ref b17, .ref b18, .ref b19, .ref b20, .ref b21, .ref b22, .ref b23, .ref b24, .ref b25, .ref b26, .ref b27, .int y_8325, .ref b29, .ref b30, .int b31, .int b32, .int b33, .int b34, .ref b35, .ref b36, .ref b37, .ref b38, .ref b39, .ref b40, .ref b41, .int b42, .ref b43, .ref b44, .int b45, .ref b46, .ref b47, .ref b48, .ref b49, .ref b50, .int b51, .ref b52, .ref b53, .ref b54])), (b2, .inl (G.2 0, 503, .inl b55))] H := hP
        have hD := z_tie hP hD rfl
        refine W.widen (k := 0) (n := 0) (Nat.le_of_ble_eq_true rfl) (Nat.le_of_ble_eq_true rfl) ?_
        refine lv_icmp_ge (tgt := 104) hx hb d_Model_layGoes_28 (by decide) (fun hc_8330 => ?_) (fun hc_8330 => ?_)
        · have _nhc_8330 := hc_8330
          have ni_8331 := (fa_le _ _).mp hc_8330
          refine lv_iconst (v := 0) hx hb d_Model_layGoes_104 (by decide) ?_
          refine lv_istore_n (lv' := [(1, .int 0), (0, .ref b0)]) hx hb d_Model_layGoes_105 rfl hl (by decide) rfl (fun ls hl => ?_)
          suffices key : ∀ (k_9679 : Nat) (y_9680 : Int32) (y_9681 : Nat → Int64) (y_9682 : Nat → Int64) (H : Heap) (locs : List Loc) (ls : Array Slot), (zI y_9680 0 4096) → (4096 : Int) - y_9680.toInt < (k_9679 : Int) → va_P G.1 classes [(b18, .inl (G.2 0, 520, .inl b56)), (b21, .inl (G.2 0, 482, .inl b57)), (b26, .inl (G.2 0, 2, .inl b58)), (b27, .inl (G.2 0, 2880, .inl b59)), (b35, .inl (G.2 1, 4096, .inr (.inl y_9681))), (b36, .inl (G.2 1, 4096, .inr (.inl y_9682))), (b37, .inl (G.2 1, 80, .inr (.inl y_8326))), (b0, .inr (12, [.int b1, .ref b2, .ref b3, .ref b4, .ref b5, .int b6, .ref b7, .int b8, .int b9, .int b10, .int b11, .ref b12, .ref b13, .ref b14, .int b15, .ref b16, .ref b17, .ref b18, .ref b19, .ref b20, .ref b21, .ref b22, .ref b23, .ref b24, .ref b25, .ref b26, .ref b27, .int y_8325, .ref b29, .ref b30, .int b31, .int b32, .int b33, .int b34, .ref b35, .ref b36, .ref b37, .ref b38, .ref b39, .ref b40, .ref b41, .int b42, .ref b43, .ref b44, .int b45, .ref b46, .ref b47, .ref b48, .ref b49, .ref b50, .int b51, .ref b52, .ref b53, .ref b54])), (b2, .inl (G.2 0, 503, .inl b55))] H → va_D A [(b18, .inl (G.2 0, 520, .inl b56)), (b21, .inl (G.2 0, 482, .inl b57)), (b26, .inl (G.2 0, 2, .inl b58)), (b27, .inl (G.2 0, 2880, .inl b59)), (b35, .inl (G.2 1, 4096, .inr (.inl y_9681))), (b36, .inl (G.2 1, 4096, .inr (.inl y_9682))), (b37, .inl (G.2 1, 80, .inr (.inl y_8326))), (b0, .inr (12, [.int b1, .ref b2, .ref b3, .ref b4, .ref b5, .int b6, .ref b7, .int b8, .int b9, .int b10, .int b11, .ref b12, .ref b13, .ref b14, .int b15, .ref b16, .ref b17, .ref b18, .ref b19, .ref b20, .ref b21, .ref b22, .ref b23, .ref b24, .ref b25, .ref b26, .ref b27, .int y_8325, .ref b29, .ref b30, .int b31, .int b32, .int b33, .int b34, .ref b35, .ref b36, .ref b37, .ref b38, .ref b39, .ref b40, .ref b41, .int b42, .ref b43, .ref b44, .int b45, .ref b46, .ref b47, .ref b48, .ref b49, .ref b50, .int b51, .ref b52, .ref b53, .ref b54])), (b2, .inl (G.2 0, 503, .inl b55))] → va_S A s.heap H locs → lv_has ls 5 [(1, .int y_9680), (0, .ref b0)] → W p l e m_s2_Model_layGoes s m ([.ref b0] : List Value).toArray below meth c H locs 0 0 (MQ below (zQ G (fun v w => ∃ (e0 : Int32), ∃ (e1 : Nat → Int64), ∃ (e2 : Nat → Int64), ∃ (e3 : Nat → Int64), v = none ∧ w = [(b0, .inr (12, [.int b1, .ref b2, .ref b3, .ref b4, .ref b5, .int b6, .ref b7, .int b8, .int b9, .int b10, .int b11, .ref b12, .ref b13, .ref b14, .int b15, .ref b16, .ref b17, .ref b18, .ref b19, .ref b20, .ref b21, .ref b22, .ref b23, .ref b24, .ref b25, .ref b26, .ref b27, .int e0, .ref b29, .ref b30, .int b31, .int b32, .int b33, .int b34, .ref b35, .ref b36, .ref b37, .ref b38, .ref b39, .ref b40, .ref b41, .int b42, .ref b43, .ref b44, .int b45, .ref b46, .ref b47, .ref b48, .ref b49, .ref b50, .int b51, .ref b52, .ref b53, .ref b54])), (b2, .inl (G.2 0, 503, .inl b55)), (b18, .inl (G.2 0, 520, .inl b56)), (b21, .inl (G.2 0, 482, .inl b57)), (b26, .inl (G.2 0, 2, .inl b58)), (b27, .inl (G.2 0, 2880, .inl b59)), (b35, .inl (G.2 1, 4096, .inr (.inl e1))), (b36, .inl (G.2 1, 4096, .inr (.inl e2))), (b37, .inl (G.2 1, 80, .inr (.inl e3)))] ∧ (zI e0 0 1)) A) ([.ref b0] : List Value).toArray s m_s2_Model_layGoes.cells m_s2_Model_layGoes.slots A) (F0 m 106 ls []) by
            exact key 4097 (0) (b60) (b61) _ _ _ (zI.wk (l' := 0) (h' := 4096) zc_0 (by decide)) (zm_upi (zI.wk (l' := 0) (h' := 4096) zc_0 (by decide)) (by decide)) hP hD hS (lv_sub hl [0, 1] rfl)
          intro k_9679
          induction k_9679 with
          | zero =>
            intro y_9680 y_9681 y_9682 H locs ls hy_9680 hmk_9679 hP hD hS hl
            exact (zm_up0 hy_9680 hmk_9679).elim
          | succ k_9679 ihk_9679 =>
            intro y_9680 y_9681 y_9682 H locs ls hy_9680 hmk_9679 hP hD hS hl
            refine lv_iload_n hx hb d_Model_layGoes_106 rfl (lv_at hl 0 rfl) ?_
            refine lv_sipush (v := 4096) hx hb d_Model_layGoes_107 (by decide) ?_
            refine lv_icmp_ge (tgt := 133) hx hb d_Model_layGoes_110 (by decide) (fun hc_9683 => ?_) (fun hc_9683 => ?_)
            · have _nhc_9683 := hc_9683
              have ni_9684 := (fa_le _ _).mp hc_9683
              rw [li_4096] at ni_9684
              have hv_9685 : zI y_9680 4096 4096 := zI.le_r zc_4096 hy_9680 hc_9683 (by decide)
              refine lv_iconst (v := 1) hx hb d_Model_layGoes_133 (by decide) ?_
              refine lv_istore_n (lv' := [(1, .int 1), (0, .ref b0)]) hx hb d_Model_layGoes_134 rfl hl (by decide) rfl (fun ls hl => ?_)
              suffices key : ∀ (k_10354 : Nat) (y_10355 : Int32) (y_10356 : Nat → Int64) (y_10357 : Nat → Int64) (H : Heap) (locs : List Loc) (ls : Array Slot), (zI y_10355 1 1024) → (1024 : Int) - y_10355.toInt < (k_10354 : Int) → va_P G.1 classes [(b18, .inl (G.2 0, 520, .inl b56)), (b21, .inl (G.2 0, 482, .inl b57)), (b26, .inl (G.2 0, 2, .inl b58)), (b27, .inl (G.2 0, 2880, .inl b59)), (b35, .inl (G.2 1, 4096, .inr (.inl y_10356))), (b36, .inl (G.2 1, 4096, .inr (.inl y_10357))), (b37, .inl (G.2 1, 80, .inr (.inl y_8326))), (b0, .inr (12, [.int b1, .ref b2, .ref b3, .ref b4, .ref b5, .int b6, .ref b7, .int b8, .int b9, .int b10, .int b11, .ref b12, .ref b13, .ref b14, .int b15, .ref b16, .ref b17, .ref b18, .ref b19, .ref b20, .ref b21, .ref b22, .ref b23, .ref b24, .ref b25, .ref b26, .ref b27, .int y_8325, .ref b29, .ref b30, .int b31, .int b32, .int b33, .int b34, .ref b35, .ref b36, .ref b37, .ref b38, .ref b39, .ref b40, .ref b41, .int b42, .ref b43, .ref b44, .int b45, .ref b46, .ref b47, .ref b48, .ref b49, .ref b50, .int b51, .ref b52, .ref b53, .ref b54])), (b2, .inl (G.2 0, 503, .inl b55))] H → va_D A [(b18, .inl (G.2 0, 520, .inl b56)), (b21, .inl (G.2 0, 482, .inl b57)), (b26, .inl (G.2 0, 2, .inl b58)), (b27, .inl (G.2 0, 2880, .inl b59)), (b35, .inl (G.2 1, 4096, .inr (.inl y_10356))), (b36, .inl (G.2 1, 4096, .inr (.inl y_10357))), (b37, .inl (G.2 1, 80, .inr (.inl y_8326))), (b0, .inr (12, [.int b1, .ref b2, .ref b3, .ref b4, .ref b5, .int b6, .ref b7, .int b8, .int b9, .int b10, .int b11, .ref b12, .ref b13, .ref b14, .int b15, .ref b16, .ref b17, .ref b18, .ref b19, .ref b20, .ref b21, .ref b22, .ref b23, .ref b24, .ref b25, .ref b26, .ref b27, .int y_8325, .ref b29, .ref b30, .int b31, .int b32, .int b33, .int b34, .ref b35, .ref b36, .ref b37, .ref b38, .ref b39, .ref b40, .ref b41, .int b42, .ref b43, .ref b44, .int b45, .ref b46, .ref b47, .ref b48, .ref b49, .ref b50, .int b51, .ref b52, .ref b53, .ref b54])), (b2, .inl (G.2 0, 503, .inl b55))] → va_S A s.heap H locs → lv_has ls 5 [(1, .int y_10355), (0, .ref b0)] → W p l e m_s2_Model_layGoes s m ([.ref b0] : List Value).toArray below meth c H locs 0 0 (MQ below (zQ G (fun v w => ∃ (e0 : Int32), ∃ (e1 : Nat → Int64), ∃ (e2 : Nat → Int64), ∃ (e3 : Nat → Int64), v = none ∧ w = [(b0, .inr (12, [.int b1, .ref b2, .ref b3, .ref b4, .ref b5, .int b6, .ref b7, .int b8, .int b9, .int b10, .int b11, .ref b12, .ref b13, .ref b14, .int b15, .ref b16, .ref b17, .ref b18, .ref b19, .ref b20, .ref b21, .ref b22, .ref b23, .ref b24, .ref b25, .ref b26, .ref b27, .int e0, .ref b29, .ref b30, .int b31, .int b32, .int b33, .int b34, .ref b35, .ref b36, .ref b37, .ref b38, .ref b39, .ref b40, .ref b41, .int b42, .ref b43, .ref b44, .int b45, .ref b46, .ref b47, .ref b48, .ref b49, .ref b50, .int b51, .ref b52, .ref b53, .ref b54])), (b2, .inl (G.2 0, 503, .inl b55)), (b18, .inl (G.2 0, 520, .inl b56)), (b21, .inl (G.2 0, 482, .inl b57)), (b26, .inl (G.2 0, 2, .inl b58)), (b27, .inl (G.2 0, 2880, .inl b59)), (b35, .inl (G.2 1, 4096, .inr (.inl e1))), (b36, .inl (G.2 1, 4096, .inr (.inl e2))), (b37, .inl (G.2 1, 80, .inr (.inl e3)))] ∧ (zI e0 0 1)) A) ([.ref b0] : List Value).toArray s m_s2_Model_layGoes.cells m_s2_Model_layGoes.slots A) (F0 m 135 ls []) by
                exact key 1024 (1) (y_9681) (y_9682) _ _ _ (zI.wk (l' := 1) (h' := 1024) zc_1 (by decide)) (zm_upi (zI.wk (l' := 1) (h' := 1024) zc_1 (by decide)) (by decide)) hP hD hS (lv_sub hl [0, 1] rfl)
              intro k_10354
              induction k_10354 with
              | zero =>
                intro y_10355 y_10356 y_10357 H locs ls hy_10355 hmk_10354 hP hD hS hl
                exact (zm_up0 hy_10355 hmk_10354).elim
              | succ k_10354 ihk_10354 =>
                intro y_10355 y_10356 y_10357 H locs ls hy_10355 hmk_10354 hP hD hS hl
                refine lv_iload_n hx hb d_Model_layGoes_135 rfl (lv_at hl 0 rfl) ?_
                refine lv_sipush (v := 1024) hx hb d_Model_layGoes_136 (by decide) ?_
                refine lv_icmp_ge (tgt := 256) hx hb d_Model_layGoes_139 (by decide) (fun hc_10358 => ?_) (fun hc_10358 => ?_)
                · have _nhc_10358 := hc_10358
                  have ni_10359 := (fa_le _ _).mp hc_10358
                  rw [li_1024] at ni_10359
                  have hv_10360 : zI y_10355 1024 1024 := zI.le_r zc_1024 hy_10355 hc_10358 (by decide)
                  exact z_vret hx hb hr hlocks (hP.sub [7, 8, 0, 1, 2, 3, 4, 5, 6] rfl) (hD.sub [7, 8, 0, 1, 2, 3, 4, 5, 6] (by decide) rfl) hS (Nat.le_of_ble_eq_true rfl) (Nat.le_of_ble_eq_true rfl) d_Model_layGoes_256 ⟨y_8325, y_10356, y_10357, y_8326, rfl, rfl, hy_8325⟩
                · have _nhc_10358 := hc_10358
                  have ni_10361 := (fa_lt _ _).mp (zi_nle hc_10358)
                  rw [li_1024] at ni_10361
                  have hv_10362 : zI y_10355 1 1023 := zI.lt_l hy_10355 zc_1024 (zi_nle hc_10358) (by decide)
                  refine lv_iconst (v := 0) hx hb d_Model_layGoes_142 (by decide) ?_
                  refine lv_istore_n (lv' := [(2, .int 0), (1, .int y_10355), (0, .ref b0)]) hx hb d_Model_layGoes_143 rfl hl (by decide) rfl (fun ls hl => ?_)
                  refine lv_iload_n hx hb d_Model_layGoes_144 rfl (lv_at hl 1 rfl) ?_
                  refine lv_iload_n hx hb d_Model_layGoes_145 rfl (lv_at hl 0 rfl) ?_
                  refine lv_ishr hx hb d_Model_layGoes_146 ?_
                  refine lv_topi (fun v_10363 ev_10363 => ?_)
                  obtain ⟨qv_10363, hv_10363⟩ := zI_shr (l := 1) (h := 1023) (k := 0) hv_10362 (by decide +kernel) ev_10363 (by decide)
                  refine lv_iconst (v := 1) hx hb d_Model_layGoes_147 (by decide) ?_
                  refine lv_iand hx hb d_Model_layGoes_148 ?_
                  refine lv_topi (fun v_10364 ev_10364 => ?_)
                  have hv_10364 := zI_and (k := 1) (h := 1) (by decide +kernel) ev_10364 (by decide)
                  have qav_10364 := zI_andq (k := 1) hv_10363 (by decide) (by decide +kernel) ev_10364
                  refine lv_if_ne (tgt := 158) hx hb d_Model_layGoes_149 (by decide) (fun hc_10365 => ?_) (fun hc_10365 => ?_)
                  · have _nhc_10365 := hc_10365
                    have ni_10366 : ¬ (v_10364 : Int32).toInt = (0 : Int32).toInt := fun z => hc_10365 ((fa_eq _ _).mpr z)
                    simp only [li_0] at ni_10366
                    have hv_10367 : zI v_10364 1 1 := zI.ne_lo hv_10364 zc_0 hc_10365 (by decide)
                    refine lv_iload_n hx hb d_Model_layGoes_158 rfl (lv_at hl 1 rfl) ?_
                    refine lv_iload_n hx hb d_Model_layGoes_159 rfl (lv_at hl 1 rfl) ?_
                    refine lv_iconst (v := 1) hx hb d_Model_layGoes_160 (by decide) ?_
                    refine lv_isub hx hb d_Model_layGoes_161 ?_
                    refine lv_topi (fun v_10368 ev_10368 => ?_)
                    obtain ⟨qv_10368, hv_10368⟩ := zI_sub (l := 0) (h := 1022) hv_10362 zc_1 ev_10368 (by decide)
                    rw [li_1] at qv_10368
                    refine lv_iand hx hb d_Model_layGoes_162 ?_
                    refine lv_topi (fun v_10369 ev_10369 => ?_)
                    have hv_10370 : zI v_10369 0 1023 := zI_andl hv_10362 (by decide) ev_10369
                    refine lv_istore_n (lv' := [(3, .int v_10369), (2, .int 0), (1, .int y_10355), (0, .ref b0)]) hx hb d_Model_layGoes_163 rfl hl (by decide) rfl (fun ls hl => ?_)
                    refine lv_iconst (v := 0) hx hb d_Model_layGoes_164 (by decide) ?_
                    refine lv_istore (lv' := [(4, .int 0), (3, .int v_10369), (2, .int 0), (1, .int y_10355), (0, .ref b0)]) hx hb d_Model_layGoes_165 hl (by decide) rfl (fun ls hl => ?_)
                    suffices key : ∀ (k_10399 : Nat) (y_10400 : Int32) (y_10401 : Nat → Int64) (y_10402 : Nat → Int64) (H : Heap) (locs : List Loc) (ls : Array Slot), (zI y_10400 0 4) → (4 : Int) - y_10400.toInt < (k_10399 : Int) → va_P G.1 classes [(b18, .inl (G.2 0, 520, .inl b56)), (b21, .inl (G.2 0, 482, .inl b57)), (b26, .inl (G.2 0, 2, .inl b58)), (b27, .inl (G.2 0, 2880, .inl b59)), (b35, .inl (G.2 1, 4096, .inr (.inl y_10401))), (b36, .inl (G.2 1, 4096, .inr (.inl y_10402))), (b37, .inl (G.2 1, 80, .inr (.inl y_8326))), (b0, .inr (12, [.int b1, .ref b2, .ref b3, .ref b4, .ref b5, .int b6, .ref b7, .int b8, .int b9, .int b10, .int b11, .ref b12, .ref b13, .ref b14, .int b15, .ref b16, .ref b17, .ref b18, .ref b19, .ref b20, .ref b21, .ref b22, .ref b23, .ref b24, .ref b25, .ref b26, .ref b27, .int y_8325, .ref b29, .ref b30, .int b31, .int b32, .int b33, .int b34, .ref b35, .ref b36, .ref b37, .ref b38, .ref b39, .ref b40, .ref b41, .int b42, .ref b43, .ref b44, .int b45, .ref b46, .ref b47, .ref b48, .ref b49, .ref b50, .int b51, .ref b52, .ref b53, .ref b54])), (b2, .inl (G.2 0, 503, .inl b55))] H → va_D A [(b18, .inl (G.2 0, 520, .inl b56)), (b21, .inl (G.2 0, 482, .inl b57)), (b26, .inl (G.2 0, 2, .inl b58)), (b27, .inl (G.2 0, 2880, .inl b59)), (b35, .inl (G.2 1, 4096, .inr (.inl y_10401))), (b36, .inl (G.2 1, 4096, .inr (.inl y_10402))), (b37, .inl (G.2 1, 80, .inr (.inl y_8326))), (b0, .inr (12, [.int b1, .ref b2, .ref b3, .ref b4, .ref b5, .int b6, .ref b7, .int b8, .int b9, .int b10, .int b11, .ref b12, .ref b13, .ref b14, .int b15, .ref b16, .ref b17, .ref b18, .ref b19, .ref b20, .ref b21, .ref b22, .ref b23, .ref b24, .ref b25, .ref b26, .ref b27, .int y_8325, .ref b29, .ref b30, .int b31, .int b32, .int b33, .int b34, .ref b35, .ref b36, .ref b37, .ref b38, .ref b39, .ref b40, .ref b41, .int b42, .ref b43, .ref b44, .int b45, .ref b46, .ref b47, .ref b48, .ref b49, .ref b50, .int b51, .ref b52, .ref b53, .ref b54])), (b2, .inl (G.2 0, 503, .inl b55))] → va_S A s.heap H locs → lv_has ls 5 [(4, .int y_10400), (3, .int v_10369), (2, .int 0), (1, .int y_10355), (0, .ref b0)] → W p l e m_s2_Model_layGoes s m ([.ref b0] : List Value).toArray below meth c H locs 0 0 (MQ below (zQ G (fun v w => ∃ (e0 : Int32), ∃ (e1 : Nat → Int64), ∃ (e2 : Nat → Int64), ∃ (e3 : Nat → Int64), v = none ∧ w = [(b0, .inr (12, [.int b1, .ref b2, .ref b3, .ref b4, .ref b5, .int b6, .ref b7, .int b8, .int b9, .int b10, .int b11, .ref b12, .ref b13, .ref b14, .int b15, .ref b16, .ref b17, .ref b18, .ref b19, .ref b20, .ref b21, .ref b22, .ref b23, .ref b24, .ref b25, .ref b26, .ref b27, .int e0, .ref b29, .ref b30, .int b31, .int b32, .int b33, .int b34, .ref b35, .ref b36, .ref b37, .ref b38, .ref b39, .ref b40, .ref b41, .int b42, .ref b43, .ref b44, .int b45, .ref b46, .ref b47, .ref b48, .ref b49, .ref b50, .int b51, .ref b52, .ref b53, .ref b54])), (b2, .inl (G.2 0, 503, .inl b55)), (b18, .inl (G.2 0, 520, .inl b56)), (b21, .inl (G.2 0, 482, .inl b57)), (b26, .inl (G.2 0, 2, .inl b58)), (b27, .inl (G.2 0, 2880, .inl b59)), (b35, .inl (G.2 1, 4096, .inr (.inl e1))), (b36, .inl (G.2 1, 4096, .inr (.inl e2))), (b37, .inl (G.2 1, 80, .inr (.inl e3)))] ∧ (zI e0 0 1)) A) ([.ref b0] : List Value).toArray s m_s2_Model_layGoes.cells m_s2_Model_layGoes.slots A) (F0 m 167 ls []) by
                      exact key 5 (0) (y_10356) (y_10357) _ _ _ (zI.wk (l' := 0) (h' := 4) zc_0 (by decide)) (zm_upi (zI.wk (l' := 0) (h' := 4) zc_0 (by decide)) (by decide)) hP hD hS (lv_sub hl [0, 1, 2, 3, 4] rfl)
                    intro k_10399
                    induction k_10399 with
                    | zero =>
                      intro y_10400 y_10401 y_10402 H locs ls hy_10400 hmk_10399 hP hD hS hl
                      exact (zm_up0 hy_10400 hmk_10399).elim
                    | succ k_10399 ihk_10399 =>
                      intro y_10400 y_10401 y_10402 H locs ls hy_10400 hmk_10399 hP hD hS hl
                      refine lv_iload hx hb d_Model_layGoes_167 (lv_at hl 0 rfl) ?_
                      refine lv_iconst (v := 4) hx hb d_Model_layGoes_169 (by decide) ?_
                      refine lv_icmp_ge (tgt := 250) hx hb d_Model_layGoes_170 (by decide) (fun hc_10403 => ?_) (fun hc_10403 => ?_)
                      · have _nhc_10403 := hc_10403
                        have ni_10404 := (fa_le _ _).mp hc_10403
                        rw [li_4] at ni_10404
                        have hv_10405 : zI y_10400 4 4 := zI.le_r zc_4 hy_10400 hc_10403 (by decide)
                        obtain ⟨v_10406, ev_10406⟩ : ∃ z : Int32, z = y_10355 + 1 := ⟨_, rfl⟩
                        obtain ⟨qv_10406, hv_10406⟩ := zI_add (l := 2) (h := 1024) hv_10362 zc_1 ev_10406 (by decide)
                        rw [li_1] at qv_10406
                        refine lv_iinc (v := v_10406) (lv' := [(1, .int v_10406), (4, .int y_10400), (3, .int v_10369), (2, .int 0), (0, .ref b0)]) hx hb d_Model_layGoes_250 hl (k := 3) rfl (by rw [ev_10406]; rfl) (by decide) rfl (fun ls hl => ?_)
                        refine lv_goto (tgt := 135) hx hb d_Model_layGoes_253 (by decide) ?_
                        exact ihk_10354 (v_10406) (y_10401) (y_10402) _ _ _ (zI.wk (l' := 1) (h' := 1024) hv_10406 (by decide)) (zm_up qv_10406 hmk_10354 (by decide)) hP hD hS (lv_sub hl [0, 4] rfl)
                      · have _nhc_10403 := hc_10403
                        have ni_10407 := (fa_lt _ _).mp (zi_nle hc_10403)
                        rw [li_4] at ni_10407
                        have hv_10408 : zI y_10400 0 3 := zI.lt_l hy_10400 zc_4 (zi_nle hc_10403) (by decide)
                        refine lv_aload_n hx hb d_Model_layGoes_173 rfl (lv_at hl 4 rfl) ?_
                        refine va_get (D := G.1) (ci := 12) (v := .ref b35) (C := R_Model) (T := F_Model) (N := 54) hx hb hts i_Model hown hK hP 7 rfl rfl 34 (by decide) (hts _ q1143) (fun _ h9 => h9) rfl d_Model_layGoes_174 ?_
                        refine lv_iconst (v := 4) hx hb d_Model_layGoes_177 (by decide) ?_
                        refine lv_iload_n hx hb d_Model_layGoes_178 rfl (lv_at hl 3 rfl) ?_
                        refine lv_imul hx hb d_Model_layGoes_179 ?_
                        refine lv_topi (fun v_10409 ev_10409 => ?_)
                        obtain ⟨qv_10409, hv_10409⟩ := zI_mul (l := 4) (h := 4092) zc_4 hv_10362 ev_10409 (by decide)
                        rw [li_4] at qv_10409
                        refine lv_iload hx hb d_Model_layGoes_180 (lv_at hl 0 rfl) ?_
                        refine lv_iadd hx hb d_Model_layGoes_182 ?_
                        refine lv_topi (fun v_10410 ev_10410 => ?_)
                        obtain ⟨qv_10410, hv_10410⟩ := zI_add (l := 4) (h := 4095) hv_10409 hv_10408 ev_10410 (by decide)
                        refine lv_aload_n hx hb d_Model_layGoes_183 rfl (lv_at hl 4 rfl) ?_
                        refine va_get (D := G.1) (ci := 12) (v := .ref b35) (C := R_Model) (T := F_Model) (N := 54) hx hb hts i_Model hown hK hP 7 rfl rfl 34 (by decide) (hts _ q1143) (fun _ h9 => h9) rfl d_Model_layGoes_184 ?_
                        refine lv_iconst (v := 4) hx hb d_Model_layGoes_187 (by decide) ?_
                        refine lv_iload_n hx hb d_Model_layGoes_188 rfl (lv_at hl 1 rfl) ?_
                        refine lv_imul hx hb d_Model_layGoes_189 ?_
                        refine lv_topi (fun v_10411 ev_10411 => ?_)
                        obtain ⟨qv_10411, hv_10411⟩ := zI_mul (l := 0) (h := 4092) zc_4 hv_10370 ev_10411 (by decide)
                        rw [li_4] at qv_10411
                        refine lv_iload hx hb d_Model_layGoes_190 (lv_at hl 0 rfl) ?_
                        refine lv_iadd hx hb d_Model_layGoes_192 ?_
                        refine lv_topi (fun v_10412 ev_10412 => ?_)
                        obtain ⟨qv_10412, hv_10412⟩ := zI_add (l := 0) (h := 4095) hv_10411 hv_10408 ev_10412 (by decide)
                        refine va_lald hx hb hK hP 4 1 rfl rfl (zI.inn hv_10412 (by decide)) d_Model_layGoes_193 ?_
                        refine lv_topl (fun v_10413 ev_10413 => ?_)
                        refine lv_aload_n hx hb d_Model_layGoes_194 rfl (lv_at hl 4 rfl) ?_
                        refine va_get (D := G.1) (ci := 12) (v := .ref b37) (C := R_Model) (T := F_Model) (N := 54) hx hb hts i_Model hown hK hP 7 rfl rfl 36 (by decide) (hts _ q1145) (fun _ h9 => h9) rfl d_Model_layGoes_195 ?_
                        refine lv_iconst (v := 4) hx hb d_Model_layGoes_198 (by decide) ?_
                        refine lv_iload_n hx hb d_Model_layGoes_199 rfl (lv_at hl 2 rfl) ?_
                        refine lv_imul hx hb d_Model_layGoes_200 ?_
                        refine z_topi (y := 0) (by decide +kernel) ?_
                        refine lv_iload hx hb d_Model_layGoes_201 (lv_at hl 0 rfl) ?_
                        refine lv_iadd hx hb d_Model_layGoes_203 ?_
                        refine lv_topi (fun v_10414 ev_10414 => ?_)
                        obtain ⟨qv_10414, hv_10414⟩ := zI_add (l := 0) (h := 3) zc_0 hv_10408 ev_10414 (by decide)
                        rw [li_0] at qv_10414
                        refine va_lald hx hb hK hP 6 1 rfl rfl (zI.inn hv_10414 (by decide)) d_Model_layGoes_204 ?_
                        refine lv_topl (fun v_10415 ev_10415 => ?_)
                        refine lv_lor hx hb d_Model_layGoes_205 ?_
                        refine lv_topl (fun v_10416 ev_10416 => ?_)
                        refine va_last hx hb hK hP hD hS 4 1 rfl rfl (zI.inn hv_10410 (by decide)) d_Model_layGoes_206 (fun H locs hP hD hS => ?_)
                        obtain ⟨f_10417, hP, hD⟩ := z_newL 4 hP hD rfl
                        have hP : va_P G.1 classes [(b18, .inl (G.2 0, 520, .inl b56)), (b21, .inl (G.2 0, 482, .inl b57)), (b26, .inl (G.2 0, 2, .inl b58)), (b27, .inl (G.2 0, 2880, .inl b59)), (b35, .inl (G.2 1, 4096, .inr (.inl f_10417))), (b36, .inl (G.2 1, 4096, .inr (.inl y_10402))), (b37, .inl (G.2 1, 80, .inr (.inl y_8326))), (b0, .inr (12, [.int b1, .ref b2, .ref b3, .ref b4, .ref b5, .int b6, .ref b7, .int b8, .int b9, .int b10, .int b11, .ref b12, .ref b13, .ref b14, .int b15, .ref b16, .ref b17, .ref b18, .ref b19, .ref b20, .ref b21, .ref b22, .ref b23, .ref b24, .ref b25, .ref b26, .ref b27, .int y_8325, .ref b29, .ref b30, .int b31, .int b32, .int b33, .int b34, .ref b35, .ref b36, .ref b37, .ref b38, .ref b39, .ref b40, .ref b41, .int b42, .ref b43, .ref b44, .int b45, .ref b46, .ref b47, .ref b48, .ref b49, .ref b50, .int b51, .ref b52, .ref b53, .ref b54])), (b2, .inl (G.2 0, 503, .inl b55))] H := hP
                        have hD := z_tie hP hD rfl
                        refine lv_aload_n hx hb d_Model_layGoes_207 rfl (lv_at hl 4 rfl) ?_
                        refine va_get (D := G.1) (ci := 12) (v := .ref b36) (C := R_Model) (T := F_Model) (N := 54) hx hb hts i_Model hown hK hP 7 rfl rfl 35 (by decide) (hts _ q1144) (fun _ h9 => h9) rfl d_Model_layGoes_208 ?_
                        refine lv_iconst (v := 4) hx hb d_Model_layGoes_211 (by decide) ?_
                        refine lv_iload_n hx hb d_Model_layGoes_212 rfl (lv_at hl 3 rfl) ?_
                        refine lv_imul hx hb d_Model_layGoes_213 ?_
                        refine lv_topi (fun v_10418 ev_10418 => ?_)
                        obtain rfl : v_10409 = v_10418 := ev_10409.trans ev_10418.symm
                        refine lv_iload hx hb d_Model_layGoes_214 (lv_at hl 0 rfl) ?_
                        refine lv_iadd hx hb d_Model_layGoes_216 ?_
                        refine lv_topi (fun v_10419 ev_10419 => ?_)
                        obtain rfl : v_10410 = v_10419 := ev_10410.trans ev_10419.symm
                        refine lv_aload_n hx hb d_Model_layGoes_217 rfl (lv_at hl 4 rfl) ?_
                        refine va_get (D := G.1) (ci := 12) (v := .ref b36) (C := R_Model) (T := F_Model) (N := 54) hx hb hts i_Model hown hK hP 7 rfl rfl 35 (by decide) (hts _ q1144) (fun _ h9 => h9) rfl d_Model_layGoes_218 ?_
                        refine lv_iconst (v := 4) hx hb d_Model_layGoes_221 (by decide) ?_
                        refine lv_iload_n hx hb d_Model_layGoes_222 rfl (lv_at hl 1 rfl) ?_
                        refine lv_imul hx hb d_Model_layGoes_223 ?_
                        refine lv_topi (fun v_10420 ev_10420 => ?_)
                        obtain rfl : v_10411 = v_10420 := ev_10411.trans ev_10420.symm
                        refine lv_iload hx hb d_Model_layGoes_224 (lv_at hl 0 rfl) ?_
                        refine lv_iadd hx hb d_Model_layGoes_226 ?_
                        refine lv_topi (fun v_10421 ev_10421 => ?_)
                        obtain rfl : v_10412 = v_10421 := ev_10412.trans ev_10421.symm
                        refine va_lald hx hb hK hP 5 1 rfl rfl (zI.inn hv_10412 (by decide)) d_Model_layGoes_227 ?_
                        refine lv_topl (fun v_10422 ev_10422 => ?_)
                        refine lv_aload_n hx hb d_Model_layGoes_228 rfl (lv_at hl 4 rfl) ?_
                        refine va_get (D := G.1) (ci := 12) (v := .ref b37) (C := R_Model) (T := F_Model) (N := 54) hx hb hts i_Model hown hK hP 7 rfl rfl 36 (by decide) (hts _ q1145) (fun _ h9 => h9) rfl d_Model_layGoes_229 ?_
                        refine lv_iconst (v := 4) hx hb d_Model_layGoes_232 (by decide) ?_
                        refine lv_iload_n hx hb d_Model_layGoes_233 rfl (lv_at hl 2 rfl) ?_
                        refine lv_bipush (v := 10) hx hb d_Model_layGoes_234 (by decide) ?_
                        refine lv_iadd hx hb d_Model_layGoes_236 ?_
                        refine z_topi (y := 10) (by decide +kernel) ?_
                        refine lv_imul hx hb d_Model_layGoes_237 ?_
                        refine z_topi (y := 40) (by decide +kernel) ?_
                        refine lv_iload hx hb d_Model_layGoes_238 (lv_at hl 0 rfl) ?_
                        refine lv_iadd hx hb d_Model_layGoes_240 ?_
                        refine lv_topi (fun v_10423 ev_10423 => ?_)
                        obtain ⟨qv_10423, hv_10423⟩ := zI_add (l := 40) (h := 43) zc_40 hv_10408 ev_10423 (by decide)
                        rw [li_40] at qv_10423
                        refine va_lald hx hb hK hP 6 1 rfl rfl (zI.inn hv_10423 (by decide)) d_Model_layGoes_241 ?_
                        refine lv_topl (fun v_10424 ev_10424 => ?_)
                        refine lv_lor hx hb d_Model_layGoes_242 ?_
                        refine lv_topl (fun v_10425 ev_10425 => ?_)
                        refine va_last hx hb hK hP hD hS 5 1 rfl rfl (zI.inn hv_10410 (by decide)) d_Model_layGoes_243 (fun H locs hP hD hS => ?_)
                        obtain ⟨f_10426, hP, hD⟩ := z_newL 5 hP hD rfl
                        have hP : va_P G.1 classes [(b18, .inl (G.2 0, 520, .inl b56)), (b21, .inl (G.2 0, 482, .inl b57)), (b26, .inl (G.2 0, 2, .inl b58)), (b27, .inl (G.2 0, 2880, .inl b59)), (b35, .inl (G.2 1, 4096, .inr (.inl f_10417))), (b36, .inl (G.2 1, 4096, .inr (.inl f_10426))), (b37, .inl (G.2 1, 80, .inr (.inl y_8326))), (b0, .inr (12, [.int b1, .ref b2, .ref b3, .ref b4, .ref b5, .int b6, .ref b7, .int b8, .int b9, .int b10, .int b11, .ref b12, .ref b13, .ref b14, .int b15, .ref b16, .ref b17, .ref b18, .ref b19, .ref b20, .ref b21, .ref b22, .ref b23, .ref b24, .ref b25, .ref b26, .ref b27, .int y_8325, .ref b29, .ref b30, .int b31, .int b32, .int b33, .int b34, .ref b35, .ref b36, .ref b37, .ref b38, .ref b39, .ref b40, .ref b41, .int b42, .ref b43, .ref b44, .int b45, .ref b46, .ref b47, .ref b48, .ref b49, .ref b50, .int b51, .ref b52, .ref b53, .ref b54])), (b2, .inl (G.2 0, 503, .inl b55))] H := hP
                        have hD := z_tie hP hD rfl
                        obtain ⟨v_10427, ev_10427⟩ : ∃ z : Int32, z = y_10400 + 1 := ⟨_, rfl⟩
                        obtain ⟨qv_10427, hv_10427⟩ := zI_add (l := 1) (h := 4) hv_10408 zc_1 ev_10427 (by decide)
                        rw [li_1] at qv_10427
                        refine lv_iinc (v := v_10427) (lv' := [(4, .int v_10427), (3, .int v_10369), (2, .int 0), (1, .int y_10355), (0, .ref b0)]) hx hb d_Model_layGoes_244 hl (k := 0) rfl (by rw [ev_10427]; rfl) (by decide) rfl (fun ls hl => ?_)
                        refine lv_goto (tgt := 167) hx hb d_Model_layGoes_247 (by decide) ?_
                        exact ihk_10399 (v_10427) (f_10417) (f_10426) _ _ _ (zI.wk (l' := 0) (h' := 4) hv_10427 (by decide)) (zm_up qv_10427 hmk_10399 (by decide)) hP hD hS (lv_sub hl [0, 1, 2, 3, 4] rfl)
                  · have _nhc_10365 := hc_10365
                    have ni_10428 := (fa_eq _ _).mp hc_10365
                    rw [li_0] at ni_10428
                    have hv_10429 : zI v_10364 0 0 := zI.eq_l hv_10364 zc_0 hc_10365
                    refine lv_iinc (v := 1) (lv' := [(2, .int 1), (1, .int y_10355), (0, .ref b0)]) hx hb d_Model_layGoes_152 hl (k := 0) rfl (by decide +kernel) (by decide) rfl (fun ls hl => ?_)
                    refine lv_goto (tgt := 144) hx hb d_Model_layGoes_155 (by decide) ?_
                    refine lv_iload_n hx hb d_Model_layGoes_144 rfl (lv_at hl 1 rfl) ?_
                    refine lv_iload_n hx hb d_Model_layGoes_145 rfl (lv_at hl 0 rfl) ?_
                    refine lv_ishr hx hb d_Model_layGoes_146 ?_
                    refine lv_topi (fun v_10430 ev_10430 => ?_)
                    obtain ⟨qv_10430, hv_10430⟩ := zI_shr (l := 0) (h := 511) (k := 1) hv_10362 (by decide +kernel) ev_10430 (by decide)
                    refine lv_iconst (v := 1) hx hb d_Model_layGoes_147 (by decide) ?_
                    refine lv_iand hx hb d_Model_layGoes_148 ?_
                    refine lv_topi (fun v_10431 ev_10431 => ?_)
                    have hv_10431 := zI_and (k := 1) (h := 1) (by decide +kernel) ev_10431 (by decide)
                    have qav_10431 := zI_andq (k := 1) hv_10430 (by decide) (by decide +kernel) ev_10431
                    refine lv_if_ne (tgt := 158) hx hb d_Model_layGoes_149 (by decide) (fun hc_10432 => ?_) (fun hc_10432 => ?_)
                    · have _nhc_10432 := hc_10432
                      have ni_10433 : ¬ (v_10431 : Int32).toInt = (0 : Int32).toInt := fun z => hc_10432 ((fa_eq _ _).mpr z)
                      simp only [li_0] at ni_10433
                      have hv_10434 : zI v_10431 1 1 := zI.ne_lo hv_10431 zc_0 hc_10432 (by decide)
                      refine lv_iload_n hx hb d_Model_layGoes_158 rfl (lv_at hl 1 rfl) ?_
                      refine lv_iload_n hx hb d_Model_layGoes_159 rfl (lv_at hl 1 rfl) ?_
                      refine lv_iconst (v := 1) hx hb d_Model_layGoes_160 (by decide) ?_
                      refine lv_isub hx hb d_Model_layGoes_161 ?_
                      refine lv_topi (fun v_10435 ev_10435 => ?_)
                      obtain ⟨qv_10435, hv_10435⟩ := zI_sub (l := 0) (h := 1022) hv_10362 zc_1 ev_10435 (by decide)
                      rw [li_1] at qv_10435
                      refine lv_iand hx hb d_Model_layGoes_162 ?_
                      refine lv_topi (fun v_10436 ev_10436 => ?_)
                      have hv_10437 : zI v_10436 0 1023 := zI_andl hv_10362 (by decide) ev_10436
                      refine lv_istore_n (lv' := [(3, .int v_10436), (2, .int 1), (1, .int y_10355), (0, .ref b0)]) hx hb d_Model_layGoes_163 rfl hl (by decide) rfl (fun ls hl => ?_)
                      refine lv_iconst (v := 0) hx hb d_Model_layGoes_164 (by decide) ?_
                      refine lv_istore (lv' := [(4, .int 0), (3, .int v_10436), (2, .int 1), (1, .int y_10355), (0, .ref b0)]) hx hb d_Model_layGoes_165 hl (by decide) rfl (fun ls hl => ?_)
                      suffices key : ∀ (k_10466 : Nat) (y_10467 : Int32) (y_10468 : Nat → Int64) (y_10469 : Nat → Int64) (H : Heap) (locs : List Loc) (ls : Array Slot), (zI y_10467 0 4) → (4 : Int) - y_10467.toInt < (k_10466 : Int) → va_P G.1 classes [(b18, .inl (G.2 0, 520, .inl b56)), (b21, .inl (G.2 0, 482, .inl b57)), (b26, .inl (G.2 0, 2, .inl b58)), (b27, .inl (G.2 0, 2880, .inl b59)), (b35, .inl (G.2 1, 4096, .inr (.inl y_10468))), (b36, .inl (G.2 1, 4096, .inr (.inl y_10469))), (b37, .inl (G.2 1, 80, .inr (.inl y_8326))), (b0, .inr (12, [.int b1, .ref b2, .ref b3, .ref b4, .ref b5, .int b6, .ref b7, .int b8, .int b9, .int b10, .int b11, .ref b12, .ref b13, .ref b14, .int b15, .ref b16, .ref b17, .ref b18, .ref b19, .ref b20, .ref b21, .ref b22, .ref b23, .ref b24, .ref b25, .ref b26, .ref b27, .int y_8325, .ref b29, .ref b30, .int b31, .int b32, .int b33, .int b34, .ref b35, .ref b36, .ref b37, .ref b38, .ref b39, .ref b40, .ref b41, .int b42, .ref b43, .ref b44, .int b45, .ref b46, .ref b47, .ref b48, .ref b49, .ref b50, .int b51, .ref b52, .ref b53, .ref b54])), (b2, .inl (G.2 0, 503, .inl b55))] H → va_D A [(b18, .inl (G.2 0, 520, .inl b56)), (b21, .inl (G.2 0, 482, .inl b57)), (b26, .inl (G.2 0, 2, .inl b58)), (b27, .inl (G.2 0, 2880, .inl b59)), (b35, .inl (G.2 1, 4096, .inr (.inl y_10468))), (b36, .inl (G.2 1, 4096, .inr (.inl y_10469))), (b37, .inl (G.2 1, 80, .inr (.inl y_8326))), (b0, .inr (12, [.int b1, .ref b2, .ref b3, .ref b4, .ref b5, .int b6, .ref b7, .int b8, .int b9, .int b10, .int b11, .ref b12, .ref b13, .ref b14, .int b15, .ref b16, .ref b17, .ref b18, .ref b19, .ref b20, .ref b21, .ref b22, .ref b23, .ref b24, .ref b25, .ref b26, .ref b27, .int y_8325, .ref b29, .ref b30, .int b31, .int b32, .int b33, .int b34, .ref b35, .ref b36, .ref b37, .ref b38, .ref b39, .ref b40, .ref b41, .int b42, .ref b43, .ref b44, .int b45, .ref b46, .ref b47, .ref b48, .ref b49, .ref b50, .int b51, .ref b52, .ref b53, .ref b54])), (b2, .inl (G.2 0, 503, .inl b55))] → va_S A s.heap H locs → lv_has ls 5 [(4, .int y_10467), (3, .int v_10436), (2, .int 1), (1, .int y_10355), (0, .ref b0)] → W p l e m_s2_Model_layGoes s m ([.ref b0] : List Value).toArray below meth c H locs 0 0 (MQ below (zQ G (fun v w => ∃ (e0 : Int32), ∃ (e1 : Nat → Int64), ∃ (e2 : Nat → Int64), ∃ (e3 : Nat → Int64), v = none ∧ w = [(b0, .inr (12, [.int b1, .ref b2, .ref b3, .ref b4, .ref b5, .int b6, .ref b7, .int b8, .int b9, .int b10, .int b11, .ref b12, .ref b13, .ref b14, .int b15, .ref b16, .ref b17, .ref b18, .ref b19, .ref b20, .ref b21, .ref b22, .ref b23, .ref b24, .ref b25, .ref b26, .ref b27, .int e0, .ref b29, .ref b30, .int b31, .int b32, .int b33, .int b34, .ref b35, .ref b36, .ref b37, .ref b38, .ref b39, .ref b40, .ref b41, .int b42, .ref b43, .ref b44, .int b45, .ref b46, .ref b47, .ref b48, .ref b49, .ref b50, .int b51, .ref b52, .ref b53, .ref b54])), (b2, .inl (G.2 0, 503, .inl b55)), (b18, .inl (G.2 0, 520, .inl b56)), (b21, .inl (G.2 0, 482, .inl b57)), (b26, .inl (G.2 0, 2, .inl b58)), (b27, .inl (G.2 0, 2880, .inl b59)), (b35, .inl (G.2 1, 4096, .inr (.inl e1))), (b36, .inl (G.2 1, 4096, .inr (.inl e2))), (b37, .inl (G.2 1, 80, .inr (.inl e3)))] ∧ (zI e0 0 1)) A) ([.ref b0] : List Value).toArray s m_s2_Model_layGoes.cells m_s2_Model_layGoes.slots A) (F0 m 167 ls []) by
                        exact key 5 (0) (y_10356) (y_10357) _ _ _ (zI.wk (l' := 0) (h' := 4) zc_0 (by decide)) (zm_upi (zI.wk (l' := 0) (h' := 4) zc_0 (by decide)) (by decide)) hP hD hS (lv_sub hl [0, 1, 2, 3, 4] rfl)
                      intro k_10466
                      induction k_10466 with
                      | zero =>
                        intro y_10467 y_10468 y_10469 H locs ls hy_10467 hmk_10466 hP hD hS hl
                        exact (zm_up0 hy_10467 hmk_10466).elim
                      | succ k_10466 ihk_10466 =>
                        intro y_10467 y_10468 y_10469 H locs ls hy_10467 hmk_10466 hP hD hS hl
                        refine lv_iload hx hb d_Model_layGoes_167 (lv_at hl 0 rfl) ?_
                        refine lv_iconst (v := 4) hx hb d_Model_layGoes_169 (by decide) ?_
                        refine lv_icmp_ge (tgt := 250) hx hb d_Model_layGoes_170 (by decide) (fun hc_10470 => ?_) (fun hc_10470 => ?_)
                        · have _nhc_10470 := hc_10470
                          have ni_10471 := (fa_le _ _).mp hc_10470
                          rw [li_4] at ni_10471
                          have hv_10472 : zI y_10467 4 4 := zI.le_r zc_4 hy_10467 hc_10470 (by decide)
                          obtain ⟨v_10473, ev_10473⟩ : ∃ z : Int32, z = y_10355 + 1 := ⟨_, rfl⟩
                          obtain ⟨qv_10473, hv_10473⟩ := zI_add (l := 2) (h := 1024) hv_10362 zc_1 ev_10473 (by decide)
                          rw [li_1] at qv_10473
                          refine lv_iinc (v := v_10473) (lv' := [(1, .int v_10473), (4, .int y_10467), (3, .int v_10436), (2, .int 1), (0, .ref b0)]) hx hb d_Model_layGoes_250 hl (k := 3) rfl (by rw [ev_10473]; rfl) (by decide) rfl (fun ls hl => ?_)
                          refine lv_goto (tgt := 135) hx hb d_Model_layGoes_253 (by decide) ?_
                          exact ihk_10354 (v_10473) (y_10468) (y_10469) _ _ _ (zI.wk (l' := 1) (h' := 1024) hv_10473 (by decide)) (zm_up qv_10473 hmk_10354 (by decide)) hP hD hS (lv_sub hl [0, 4] rfl)
                        · have _nhc_10470 := hc_10470
                          have ni_10474 := (fa_lt _ _).mp (zi_nle hc_10470)
                          rw [li_4] at ni_10474
                          have hv_10475 : zI y_10467 0 3 := zI.lt_l hy_10467 zc_4 (zi_nle hc_10470) (by decide)
                          refine lv_aload_n hx hb d_Model_layGoes_173 rfl (lv_at hl 4 rfl) ?_
                          refine va_get (D := G.1) (ci := 12) (v := .ref b35) (C := R_Model) (T := F_Model) (N := 54) hx hb hts i_Model hown hK hP 7 rfl rfl 34 (by decide) (hts _ q1143) (fun _ h9 => h9) rfl d_Model_layGoes_174 ?_
                          refine lv_iconst (v := 4) hx hb d_Model_layGoes_177 (by decide) ?_
                          refine lv_iload_n hx hb d_Model_layGoes_178 rfl (lv_at hl 3 rfl) ?_
                          refine lv_imul hx hb d_Model_layGoes_179 ?_
                          refine lv_topi (fun v_10476 ev_10476 => ?_)
                          obtain ⟨qv_10476, hv_10476⟩ := zI_mul (l := 4) (h := 4092) zc_4 hv_10362 ev_10476 (by decide)
                          rw [li_4] at qv_10476
                          refine lv_iload hx hb d_Model_layGoes_180 (lv_at hl 0 rfl) ?_
                          refine lv_iadd hx hb d_Model_layGoes_182 ?_
                          refine lv_topi (fun v_10477 ev_10477 => ?_)
                          obtain ⟨qv_10477, hv_10477⟩ := zI_add (l := 4) (h := 4095) hv_10476 hv_10475 ev_10477 (by decide)
                          refine lv_aload_n hx hb d_Model_layGoes_183 rfl (lv_at hl 4 rfl) ?_
                          refine va_get (D := G.1) (ci := 12) (v := .ref b35) (C := R_Model) (T := F_Model) (N := 54) hx hb hts i_Model hown hK hP 7 rfl rfl 34 (by decide) (hts _ q1143) (fun _ h9 => h9) rfl d_Model_layGoes_184 ?_
                          refine lv_iconst (v := 4) hx hb d_Model_layGoes_187 (by decide) ?_
                          refine lv_iload_n hx hb d_Model_layGoes_188 rfl (lv_at hl 1 rfl) ?_
                          refine lv_imul hx hb d_Model_layGoes_189 ?_
                          refine lv_topi (fun v_10478 ev_10478 => ?_)
                          obtain ⟨qv_10478, hv_10478⟩ := zI_mul (l := 0) (h := 4092) zc_4 hv_10437 ev_10478 (by decide)
                          rw [li_4] at qv_10478
                          refine lv_iload hx hb d_Model_layGoes_190 (lv_at hl 0 rfl) ?_
                          refine lv_iadd hx hb d_Model_layGoes_192 ?_
                          refine lv_topi (fun v_10479 ev_10479 => ?_)
                          obtain ⟨qv_10479, hv_10479⟩ := zI_add (l := 0) (h := 4095) hv_10478 hv_10475 ev_10479 (by decide)
                          refine va_lald hx hb hK hP 4 1 rfl rfl (zI.inn hv_10479 (by decide)) d_Model_layGoes_193 ?_
                          refine lv_topl (fun v_10480 ev_10480 => ?_)
                          refine lv_aload_n hx hb d_Model_layGoes_194 rfl (lv_at hl 4 rfl) ?_
                          refine va_get (D := G.1) (ci := 12) (v := .ref b37) (C := R_Model) (T := F_Model) (N := 54) hx hb hts i_Model hown hK hP 7 rfl rfl 36 (by decide) (hts _ q1145) (fun _ h9 => h9) rfl d_Model_layGoes_195 ?_
                          refine lv_iconst (v := 4) hx hb d_Model_layGoes_198 (by decide) ?_
                          refine lv_iload_n hx hb d_Model_layGoes_199 rfl (lv_at hl 2 rfl) ?_
                          refine lv_imul hx hb d_Model_layGoes_200 ?_
                          refine z_topi (y := 4) (by decide +kernel) ?_
                          refine lv_iload hx hb d_Model_layGoes_201 (lv_at hl 0 rfl) ?_
                          refine lv_iadd hx hb d_Model_layGoes_203 ?_
                          refine lv_topi (fun v_10481 ev_10481 => ?_)
                          obtain ⟨qv_10481, hv_10481⟩ := zI_add (l := 4) (h := 7) zc_4 hv_10475 ev_10481 (by decide)
                          rw [li_4] at qv_10481
                          refine va_lald hx hb hK hP 6 1 rfl rfl (zI.inn hv_10481 (by decide)) d_Model_layGoes_204 ?_
                          refine lv_topl (fun v_10482 ev_10482 => ?_)
                          refine lv_lor hx hb d_Model_layGoes_205 ?_
                          refine lv_topl (fun v_10483 ev_10483 => ?_)
                          refine va_last hx hb hK hP hD hS 4 1 rfl rfl (zI.inn hv_10477 (by decide)) d_Model_layGoes_206 (fun H locs hP hD hS => ?_)
                          obtain ⟨f_10484, hP, hD⟩ := z_newL 4 hP hD rfl
                          have hP : va_P G.1 classes [(b18, .inl (G.2 0, 520, .inl b56)), (b21, .inl (G.2 0, 482, .inl b57)), (b26, .inl (G.2 0, 2, .inl b58)), (b27, .inl (G.2 0, 2880, .inl b59)), (b35, .inl (G.2 1, 4096, .inr (.inl f_10484))), (b36, .inl (G.2 1, 4096, .inr (.inl y_10469))), (b37, .inl (G.2 1, 80, .inr (.inl y_8326))), (b0, .inr (12, [.int b1, .ref b2, .ref b3, .ref b4, .ref b5, .int b6, .ref b7, .int b8, .int b9, .int b10, .int b11, .ref b12, .ref b13, .ref b14, .int b15, .ref b16, .ref b17, .ref b18, .ref b19, .ref b20, .ref b21, .ref b22, .ref b23, .ref b24, .ref b25, .ref b26, .ref b27, .int y_8325, .ref b29, .ref b30, .int b31, .int b32, .int b33, .int b34, .ref b35, .ref b36, .ref b37, .ref b38, .ref b39, .ref b40, .ref b41, .int b42, .ref b43, .ref b44, .int b45, .ref b46, .ref b47, .ref b48, .ref b49, .ref b50, .int b51, .ref b52, .ref b53, .ref b54])), (b2, .inl (G.2 0, 503, .inl b55))] H := hP
                          have hD := z_tie hP hD rfl
                          refine lv_aload_n hx hb d_Model_layGoes_207 rfl (lv_at hl 4 rfl) ?_
                          refine va_get (D := G.1) (ci := 12) (v := .ref b36) (C := R_Model) (T := F_Model) (N := 54) hx hb hts i_Model hown hK hP 7 rfl rfl 35 (by decide) (hts _ q1144) (fun _ h9 => h9) rfl d_Model_layGoes_208 ?_
                          refine lv_iconst (v := 4) hx hb d_Model_layGoes_211 (by decide) ?_
                          refine lv_iload_n hx hb d_Model_layGoes_212 rfl (lv_at hl 3 rfl) ?_
                          refine lv_imul hx hb d_Model_layGoes_213 ?_
                          refine lv_topi (fun v_10485 ev_10485 => ?_)
                          obtain rfl : v_10476 = v_10485 := ev_10476.trans ev_10485.symm
                          refine lv_iload hx hb d_Model_layGoes_214 (lv_at hl 0 rfl) ?_
                          refine lv_iadd hx hb d_Model_layGoes_216 ?_
                          refine lv_topi (fun v_10486 ev_10486 => ?_)
                          obtain rfl : v_10477 = v_10486 := ev_10477.trans ev_10486.symm
                          refine lv_aload_n hx hb d_Model_layGoes_217 rfl (lv_at hl 4 rfl) ?_
                          refine va_get (D := G.1) (ci := 12) (v := .ref b36) (C := R_Model) (T := F_Model) (N := 54) hx hb hts i_Model hown hK hP 7 rfl rfl 35 (by decide) (hts _ q1144) (fun _ h9 => h9) rfl d_Model_layGoes_218 ?_
                          refine lv_iconst (v := 4) hx hb d_Model_layGoes_221 (by decide) ?_
                          refine lv_iload_n hx hb d_Model_layGoes_222 rfl (lv_at hl 1 rfl) ?_
                          refine lv_imul hx hb d_Model_layGoes_223 ?_
                          refine lv_topi (fun v_10487 ev_10487 => ?_)
                          obtain rfl : v_10478 = v_10487 := ev_10478.trans ev_10487.symm
                          refine lv_iload hx hb d_Model_layGoes_224 (lv_at hl 0 rfl) ?_
                          refine lv_iadd hx hb d_Model_layGoes_226 ?_
                          refine lv_topi (fun v_10488 ev_10488 => ?_)
                          obtain rfl : v_10479 = v_10488 := ev_10479.trans ev_10488.symm
                          refine va_lald hx hb hK hP 5 1 rfl rfl (zI.inn hv_10479 (by decide)) d_Model_layGoes_227 ?_
                          refine lv_topl (fun v_10489 ev_10489 => ?_)
                          refine lv_aload_n hx hb d_Model_layGoes_228 rfl (lv_at hl 4 rfl) ?_
                          refine va_get (D := G.1) (ci := 12) (v := .ref b37) (C := R_Model) (T := F_Model) (N := 54) hx hb hts i_Model hown hK hP 7 rfl rfl 36 (by decide) (hts _ q1145) (fun _ h9 => h9) rfl d_Model_layGoes_229 ?_
                          refine lv_iconst (v := 4) hx hb d_Model_layGoes_232 (by decide) ?_
                          refine lv_iload_n hx hb d_Model_layGoes_233 rfl (lv_at hl 2 rfl) ?_
                          refine lv_bipush (v := 10) hx hb d_Model_layGoes_234 (by decide) ?_
                          refine lv_iadd hx hb d_Model_layGoes_236 ?_
                          refine z_topi (y := 11) (by decide +kernel) ?_
                          refine lv_imul hx hb d_Model_layGoes_237 ?_
                          refine z_topi (y := 44) (by decide +kernel) ?_
                          refine lv_iload hx hb d_Model_layGoes_238 (lv_at hl 0 rfl) ?_
                          refine lv_iadd hx hb d_Model_layGoes_240 ?_
                          refine lv_topi (fun v_10490 ev_10490 => ?_)
                          obtain ⟨qv_10490, hv_10490⟩ := zI_add (l := 44) (h := 47) zc_44 hv_10475 ev_10490 (by decide)
                          rw [li_44] at qv_10490
                          refine va_lald hx hb hK hP 6 1 rfl rfl (zI.inn hv_10490 (by decide)) d_Model_layGoes_241 ?_
                          refine lv_topl (fun v_10491 ev_10491 => ?_)
                          refine lv_lor hx hb d_Model_layGoes_242 ?_
                          refine lv_topl (fun v_10492 ev_10492 => ?_)
                          refine va_last hx hb hK hP hD hS 5 1 rfl rfl (zI.inn hv_10477 (by decide)) d_Model_layGoes_243 (fun H locs hP hD hS => ?_)
                          obtain ⟨f_10493, hP, hD⟩ := z_newL 5 hP hD rfl
                          have hP : va_P G.1 classes [(b18, .inl (G.2 0, 520, .inl b56)), (b21, .inl (G.2 0, 482, .inl b57)), (b26, .inl (G.2 0, 2, .inl b58)), (b27, .inl (G.2 0, 2880, .inl b59)), (b35, .inl (G.2 1, 4096, .inr (.inl f_10484))), (b36, .inl (G.2 1, 4096, .inr (.inl f_10493))), (b37, .inl (G.2 1, 80, .inr (.inl y_8326))), (b0, .inr (12, [.int b1, .ref b2, .ref b3, .ref b4, .ref b5, .int b6, .ref b7, .int b8, .int b9, .int b10, .int b11, .ref b12, .ref b13, .ref b14, .int b15, .ref b16, .ref b17, .ref b18, .ref b19, .ref b20, .ref b21, .ref b22, .ref b23, .ref b24, .ref b25, .ref b26, .ref b27, .int y_8325, .ref b29, .ref b30, .int b31, .int b32, .int b33, .int b34, .ref b35, .ref b36, .ref b37, .ref b38, .ref b39, .ref b40, .ref b41, .int b42, .ref b43, .ref b44, .int b45, .ref b46, .ref b47, .ref b48, .ref b49, .ref b50, .int b51, .ref b52, .ref b53, .ref b54])), (b2, .inl (G.2 0, 503, .inl b55))] H := hP
                          have hD := z_tie hP hD rfl
                          obtain ⟨v_10494, ev_10494⟩ : ∃ z : Int32, z = y_10467 + 1 := ⟨_, rfl⟩
                          obtain ⟨qv_10494, hv_10494⟩ := zI_add (l := 1) (h := 4) hv_10475 zc_1 ev_10494 (by decide)
                          rw [li_1] at qv_10494
                          refine lv_iinc (v := v_10494) (lv' := [(4, .int v_10494), (3, .int v_10436), (2, .int 1), (1, .int y_10355), (0, .ref b0)]) hx hb d_Model_layGoes_244 hl (k := 0) rfl (by rw [ev_10494]; rfl) (by decide) rfl (fun ls hl => ?_)
                          refine lv_goto (tgt := 167) hx hb d_Model_layGoes_247 (by decide) ?_
                          exact ihk_10466 (v_10494) (f_10484) (f_10493) _ _ _ (zI.wk (l' := 0) (h' := 4) hv_10494 (by decide)) (zm_up qv_10494 hmk_10466 (by decide)) hP hD hS (lv_sub hl [0, 1, 2, 3, 4] rfl)
                    · have _nhc_10432 := hc_10432
                      have ni_10495 := (fa_eq _ _).mp hc_10432
                      rw [li_0] at ni_10495
                      have hv_10496 : zI v_10431 0 0 := zI.eq_l hv_10431 zc_0 hc_10432
                      refine lv_iinc (v := 2) (lv' := [(2, .int 2), (1, .int y_10355), (0, .ref b0)]) hx hb d_Model_layGoes_152 hl (k := 0) rfl (by decide +kernel) (by decide) rfl (fun ls hl => ?_)
                      refine lv_goto (tgt := 144) hx hb d_Model_layGoes_155 (by decide) ?_
                      refine lv_iload_n hx hb d_Model_layGoes_144 rfl (lv_at hl 1 rfl) ?_
                      refine lv_iload_n hx hb d_Model_layGoes_145 rfl (lv_at hl 0 rfl) ?_
                      refine lv_ishr hx hb d_Model_layGoes_146 ?_
                      refine lv_topi (fun v_10497 ev_10497 => ?_)
                      obtain ⟨qv_10497, hv_10497⟩ := zI_shr (l := 0) (h := 255) (k := 2) hv_10362 (by decide +kernel) ev_10497 (by decide)
                      refine lv_iconst (v := 1) hx hb d_Model_layGoes_147 (by decide) ?_
                      refine lv_iand hx hb d_Model_layGoes_148 ?_
                      refine lv_topi (fun v_10498 ev_10498 => ?_)
                      have hv_10498 := zI_and (k := 1) (h := 1) (by decide +kernel) ev_10498 (by decide)
                      have qav_10498 := zI_andq (k := 1) hv_10497 (by decide) (by decide +kernel) ev_10498
                      refine lv_if_ne (tgt := 158) hx hb d_Model_layGoes_149 (by decide) (fun hc_10499 => ?_) (fun hc_10499 => ?_)
                      · have _nhc_10499 := hc_10499
                        have ni_10500 : ¬ (v_10498 : Int32).toInt = (0 : Int32).toInt := fun z => hc_10499 ((fa_eq _ _).mpr z)
                        simp only [li_0] at ni_10500
                        have hv_10501 : zI v_10498 1 1 := zI.ne_lo hv_10498 zc_0 hc_10499 (by decide)
                        refine lv_iload_n hx hb d_Model_layGoes_158 rfl (lv_at hl 1 rfl) ?_
                        refine lv_iload_n hx hb d_Model_layGoes_159 rfl (lv_at hl 1 rfl) ?_
                        refine lv_iconst (v := 1) hx hb d_Model_layGoes_160 (by decide) ?_
                        refine lv_isub hx hb d_Model_layGoes_161 ?_
                        refine lv_topi (fun v_10502 ev_10502 => ?_)
                        obtain ⟨qv_10502, hv_10502⟩ := zI_sub (l := 0) (h := 1022) hv_10362 zc_1 ev_10502 (by decide)
                        rw [li_1] at qv_10502
                        refine lv_iand hx hb d_Model_layGoes_162 ?_
                        refine lv_topi (fun v_10503 ev_10503 => ?_)
                        have hv_10504 : zI v_10503 0 1023 := zI_andl hv_10362 (by decide) ev_10503
                        refine lv_istore_n (lv' := [(3, .int v_10503), (2, .int 2), (1, .int y_10355), (0, .ref b0)]) hx hb d_Model_layGoes_163 rfl hl (by decide) rfl (fun ls hl => ?_)
                        refine lv_iconst (v := 0) hx hb d_Model_layGoes_164 (by decide) ?_
                        refine lv_istore (lv' := [(4, .int 0), (3, .int v_10503), (2, .int 2), (1, .int y_10355), (0, .ref b0)]) hx hb d_Model_layGoes_165 hl (by decide) rfl (fun ls hl => ?_)
                        suffices key : ∀ (k_10533 : Nat) (y_10534 : Int32) (y_10535 : Nat → Int64) (y_10536 : Nat → Int64) (H : Heap) (locs : List Loc) (ls : Array Slot), (zI y_10534 0 4) → (4 : Int) - y_10534.toInt < (k_10533 : Int) → va_P G.1 classes [(b18, .inl (G.2 0, 520, .inl b56)), (b21, .inl (G.2 0, 482, .inl b57)), (b26, .inl (G.2 0, 2, .inl b58)), (b27, .inl (G.2 0, 2880, .inl b59)), (b35, .inl (G.2 1, 4096, .inr (.inl y_10535))), (b36, .inl (G.2 1, 4096, .inr (.inl y_10536))), (b37, .inl (G.2 1, 80, .inr (.inl y_8326))), (b0, .inr (12, [.int b1, .ref b2, .ref b3, .ref b4, .ref b5, .int b6, .ref b7, .int b8, .int b9, .int b10, .int b11, .ref b12, .ref b13, .ref b14, .int b15, .ref b16, .ref b17, .ref b18, .ref b19, .ref b20, .ref b21, .ref b22, .ref b23, .ref b24, .ref b25, .ref b26, .ref b27, .int y_8325, .ref b29, .ref b30, .int b31, .int b32, .int b33, .int b34, .ref b35, .ref b36, .ref b37, .ref b38, .ref b39, .ref b40, .ref b41, .int b42, .ref b43, .ref b44, .int b45, .ref b46, .ref b47, .ref b48, .ref b49, .ref b50, .int b51, .ref b52, .ref b53, .ref b54])), (b2, .inl (G.2 0, 503, .inl b55))] H → va_D A [(b18, .inl (G.2 0, 520, .inl b56)), (b21, .inl (G.2 0, 482, .inl b57)), (b26, .inl (G.2 0, 2, .inl b58)), (b27, .inl (G.2 0, 2880, .inl b59)), (b35, .inl (G.2 1, 4096, .inr (.inl y_10535))), (b36, .inl (G.2 1, 4096, .inr (.inl y_10536))), (b37, .inl (G.2 1, 80, .inr (.inl y_8326))), (b0, .inr (12, [.int b1, .ref b2, .ref b3, .ref b4, .ref b5, .int b6, .ref b7, .int b8, .int b9, .int b10, .int b11, .ref b12, .ref b13, .ref b14, .int b15, .ref b16, .ref b17, .ref b18, .ref b19, .ref b20, .ref b21, .ref b22, .ref b23, .ref b24, .ref b25, .ref b26, .ref b27, .int y_8325, .ref b29, .ref b30, .int b31, .int b32, .int b33, .int b34, .ref b35, .ref b36, .ref b37, .ref b38, .ref b39, .ref b40, .ref b41, .int b42, .ref b43, .ref b44, .int b45, .ref b46, .ref b47, .ref b48, .ref b49, .ref b50, .int b51, .ref b52, .ref b53, .ref b54])), (b2, .inl (G.2 0, 503, .inl b55))] → va_S A s.heap H locs → lv_has ls 5 [(4, .int y_10534), (3, .int v_10503), (2, .int 2), (1, .int y_10355), (0, .ref b0)] → W p l e m_s2_Model_layGoes s m ([.ref b0] : List Value).toArray below meth c H locs 0 0 (MQ below (zQ G (fun v w => ∃ (e0 : Int32), ∃ (e1 : Nat → Int64), ∃ (e2 : Nat → Int64), ∃ (e3 : Nat → Int64), v = none ∧ w = [(b0, .inr (12, [.int b1, .ref b2, .ref b3, .ref b4, .ref b5, .int b6, .ref b7, .int b8, .int b9, .int b10, .int b11, .ref b12, .ref b13, .ref b14, .int b15, .ref b16, .ref b17, .ref b18, .ref b19, .ref b20, .ref b21, .ref b22, .ref b23, .ref b24, .ref b25, .ref b26, .ref b27, .int e0, .ref b29, .ref b30, .int b31, .int b32, .int b33, .int b34, .ref b35, .ref b36, .ref b37, .ref b38, .ref b39, .ref b40, .ref b41, .int b42, .ref b43, .ref b44, .int b45, .ref b46, .ref b47, .ref b48, .ref b49, .ref b50, .int b51, .ref b52, .ref b53, .ref b54])), (b2, .inl (G.2 0, 503, .inl b55)), (b18, .inl (G.2 0, 520, .inl b56)), (b21, .inl (G.2 0, 482, .inl b57)), (b26, .inl (G.2 0, 2, .inl b58)), (b27, .inl (G.2 0, 2880, .inl b59)), (b35, .inl (G.2 1, 4096, .inr (.inl e1))), (b36, .inl (G.2 1, 4096, .inr (.inl e2))), (b37, .inl (G.2 1, 80, .inr (.inl e3)))] ∧ (zI e0 0 1)) A) ([.ref b0] : List Value).toArray s m_s2_Model_layGoes.cells m_s2_Model_layGoes.slots A) (F0 m 167 ls []) by
                          exact key 5 (0) (y_10356) (y_10357) _ _ _ (zI.wk (l' := 0) (h' := 4) zc_0 (by decide)) (zm_upi (zI.wk (l' := 0) (h' := 4) zc_0 (by decide)) (by decide)) hP hD hS (lv_sub hl [0, 1, 2, 3, 4] rfl)
                        intro k_10533
                        induction k_10533 with
                        | zero =>
                          intro y_10534 y_10535 y_10536 H locs ls hy_10534 hmk_10533 hP hD hS hl
                          exact (zm_up0 hy_10534 hmk_10533).elim
                        | succ k_10533 ihk_10533 =>
                          intro y_10534 y_10535 y_10536 H locs ls hy_10534 hmk_10533 hP hD hS hl
                          refine lv_iload hx hb d_Model_layGoes_167 (lv_at hl 0 rfl) ?_
                          refine lv_iconst (v := 4) hx hb d_Model_layGoes_169 (by decide) ?_
                          refine lv_icmp_ge (tgt := 250) hx hb d_Model_layGoes_170 (by decide) (fun hc_10537 => ?_) (fun hc_10537 => ?_)
                          · have _nhc_10537 := hc_10537
                            have ni_10538 := (fa_le _ _).mp hc_10537
                            rw [li_4] at ni_10538
                            have hv_10539 : zI y_10534 4 4 := zI.le_r zc_4 hy_10534 hc_10537 (by decide)
                            obtain ⟨v_10540, ev_10540⟩ : ∃ z : Int32, z = y_10355 + 1 := ⟨_, rfl⟩
                            obtain ⟨qv_10540, hv_10540⟩ := zI_add (l := 2) (h := 1024) hv_10362 zc_1 ev_10540 (by decide)
                            rw [li_1] at qv_10540
                            refine lv_iinc (v := v_10540) (lv' := [(1, .int v_10540), (4, .int y_10534), (3, .int v_10503), (2, .int 2), (0, .ref b0)]) hx hb d_Model_layGoes_250 hl (k := 3) rfl (by rw [ev_10540]; rfl) (by decide) rfl (fun ls hl => ?_)
                            refine lv_goto (tgt := 135) hx hb d_Model_layGoes_253 (by decide) ?_
                            exact ihk_10354 (v_10540) (y_10535) (y_10536) _ _ _ (zI.wk (l' := 1) (h' := 1024) hv_10540 (by decide)) (zm_up qv_10540 hmk_10354 (by decide)) hP hD hS (lv_sub hl [0, 4] rfl)
                          · have _nhc_10537 := hc_10537
                            have ni_10541 := (fa_lt _ _).mp (zi_nle hc_10537)
                            rw [li_4] at ni_10541
                            have hv_10542 : zI y_10534 0 3 := zI.lt_l hy_10534 zc_4 (zi_nle hc_10537) (by decide)
                            refine lv_aload_n hx hb d_Model_layGoes_173 rfl (lv_at hl 4 rfl) ?_
                            refine va_get (D := G.1) (ci := 12) (v := .ref b35) (C := R_Model) (T := F_Model) (N := 54) hx hb hts i_Model hown hK hP 7 rfl rfl 34 (by decide) (hts _ q1143) (fun _ h9 => h9) rfl d_Model_layGoes_174 ?_
                            refine lv_iconst (v := 4) hx hb d_Model_layGoes_177 (by decide) ?_
                            refine lv_iload_n hx hb d_Model_layGoes_178 rfl (lv_at hl 3 rfl) ?_
                            refine lv_imul hx hb d_Model_layGoes_179 ?_
                            refine lv_topi (fun v_10543 ev_10543 => ?_)
                            obtain ⟨qv_10543, hv_10543⟩ := zI_mul (l := 4) (h := 4092) zc_4 hv_10362 ev_10543 (by decide)
                            rw [li_4] at qv_10543
                            refine lv_iload hx hb d_Model_layGoes_180 (lv_at hl 0 rfl) ?_
                            refine lv_iadd hx hb d_Model_layGoes_182 ?_
                            refine lv_topi (fun v_10544 ev_10544 => ?_)
                            obtain ⟨qv_10544, hv_10544⟩ := zI_add (l := 4) (h := 4095) hv_10543 hv_10542 ev_10544 (by decide)
                            refine lv_aload_n hx hb d_Model_layGoes_183 rfl (lv_at hl 4 rfl) ?_
                            refine va_get (D := G.1) (ci := 12) (v := .ref b35) (C := R_Model) (T := F_Model) (N := 54) hx hb hts i_Model hown hK hP 7 rfl rfl 34 (by decide) (hts _ q1143) (fun _ h9 => h9) rfl d_Model_layGoes_184 ?_
                            refine lv_iconst (v := 4) hx hb d_Model_layGoes_187 (by decide) ?_
                            refine lv_iload_n hx hb d_Model_layGoes_188 rfl (lv_at hl 1 rfl) ?_
                            refine lv_imul hx hb d_Model_layGoes_189 ?_
                            refine lv_topi (fun v_10545 ev_10545 => ?_)
                            obtain ⟨qv_10545, hv_10545⟩ := zI_mul (l := 0) (h := 4092) zc_4 hv_10504 ev_10545 (by decide)
                            rw [li_4] at qv_10545
                            refine lv_iload hx hb d_Model_layGoes_190 (lv_at hl 0 rfl) ?_
                            refine lv_iadd hx hb d_Model_layGoes_192 ?_
                            refine lv_topi (fun v_10546 ev_10546 => ?_)
                            obtain ⟨qv_10546, hv_10546⟩ := zI_add (l := 0) (h := 4095) hv_10545 hv_10542 ev_10546 (by decide)
                            refine va_lald hx hb hK hP 4 1 rfl rfl (zI.inn hv_10546 (by decide)) d_Model_layGoes_193 ?_
                            refine lv_topl (fun v_10547 ev_10547 => ?_)
                            refine lv_aload_n hx hb d_Model_layGoes_194 rfl (lv_at hl 4 rfl) ?_
                            refine va_get (D := G.1) (ci := 12) (v := .ref b37) (C := R_Model) (T := F_Model) (N := 54) hx hb hts i_Model hown hK hP 7 rfl rfl 36 (by decide) (hts _ q1145) (fun _ h9 => h9) rfl d_Model_layGoes_195 ?_
                            refine lv_iconst (v := 4) hx hb d_Model_layGoes_198 (by decide) ?_
                            refine lv_iload_n hx hb d_Model_layGoes_199 rfl (lv_at hl 2 rfl) ?_
                            refine lv_imul hx hb d_Model_layGoes_200 ?_
                            refine z_topi (y := 8) (by decide +kernel) ?_
                            refine lv_iload hx hb d_Model_layGoes_201 (lv_at hl 0 rfl) ?_
                            refine lv_iadd hx hb d_Model_layGoes_203 ?_
                            refine lv_topi (fun v_10548 ev_10548 => ?_)
                            obtain ⟨qv_10548, hv_10548⟩ := zI_add (l := 8) (h := 11) zc_8 hv_10542 ev_10548 (by decide)
                            rw [li_8] at qv_10548
                            refine va_lald hx hb hK hP 6 1 rfl rfl (zI.inn hv_10548 (by decide)) d_Model_layGoes_204 ?_
                            refine lv_topl (fun v_10549 ev_10549 => ?_)
                            refine lv_lor hx hb d_Model_layGoes_205 ?_
                            refine lv_topl (fun v_10550 ev_10550 => ?_)
                            refine va_last hx hb hK hP hD hS 4 1 rfl rfl (zI.inn hv_10544 (by decide)) d_Model_layGoes_206 (fun H locs hP hD hS => ?_)
                            obtain ⟨f_10551, hP, hD⟩ := z_newL 4 hP hD rfl
                            have hP : va_P G.1 classes [(b18, .inl (G.2 0, 520, .inl b56)), (b21, .inl (G.2 0, 482, .inl b57)), (b26, .inl (G.2 0, 2, .inl b58)), (b27, .inl (G.2 0, 2880, .inl b59)), (b35, .inl (G.2 1, 4096, .inr (.inl f_10551))), (b36, .inl (G.2 1, 4096, .inr (.inl y_10536))), (b37, .inl (G.2 1, 80, .inr (.inl y_8326))), (b0, .inr (12, [.int b1, .ref b2, .ref b3, .ref b4, .ref b5, .int b6, .ref b7, .int b8, .int b9, .int b10, .int b11, .ref b12, .ref b13, .ref b14, .int b15, .ref b16, .ref b17, .ref b18, .ref b19, .ref b20, .ref b21, .ref b22, .ref b23, .ref b24, .ref b25, .ref b26, .ref b27, .int y_8325, .ref b29, .ref b30, .int b31, .int b32, .int b33, .int b34, .ref b35, .ref b36, .ref b37, .ref b38, .ref b39, .ref b40, .ref b41, .int b42, .ref b43, .ref b44, .int b45, .ref b46, .ref b47, .ref b48, .ref b49, .ref b50, .int b51, .ref b52, .ref b53, .ref b54])), (b2, .inl (G.2 0, 503, .inl b55))] H := hP
                            have hD := z_tie hP hD rfl
                            refine lv_aload_n hx hb d_Model_layGoes_207 rfl (lv_at hl 4 rfl) ?_
                            refine va_get (D := G.1) (ci := 12) (v := .ref b36) (C := R_Model) (T := F_Model) (N := 54) hx hb hts i_Model hown hK hP 7 rfl rfl 35 (by decide) (hts _ q1144) (fun _ h9 => h9) rfl d_Model_layGoes_208 ?_
                            refine lv_iconst (v := 4) hx hb d_Model_layGoes_211 (by decide) ?_
                            refine lv_iload_n hx hb d_Model_layGoes_212 rfl (lv_at hl 3 rfl) ?_
                            refine lv_imul hx hb d_Model_layGoes_213 ?_
                            refine lv_topi (fun v_10552 ev_10552 => ?_)
                            obtain rfl : v_10543 = v_10552 := ev_10543.trans ev_10552.symm
                            refine lv_iload hx hb d_Model_layGoes_214 (lv_at hl 0 rfl) ?_
                            refine lv_iadd hx hb d_Model_layGoes_216 ?_
                            refine lv_topi (fun v_10553 ev_10553 => ?_)
                            obtain rfl : v_10544 = v_10553 := ev_10544.trans ev_10553.symm
                            refine lv_aload_n hx hb d_Model_layGoes_217 rfl (lv_at hl 4 rfl) ?_
                            refine va_get (D := G.1) (ci := 12) (v := .ref b36) (C := R_Model) (T := F_Model) (N := 54) hx hb hts i_Model hown hK hP 7 rfl rfl 35 (by decide) (hts _ q1144) (fun _ h9 => h9) rfl d_Model_layGoes_218 ?_
                            refine lv_iconst (v := 4) hx hb d_Model_layGoes_221 (by decide) ?_
                            refine lv_iload_n hx hb d_Model_layGoes_222 rfl (lv_at hl 1 rfl) ?_
                            refine lv_imul hx hb d_Model_layGoes_223 ?_
                            refine lv_topi (fun v_10554 ev_10554 => ?_)
                            obtain rfl : v_10545 = v_10554 := ev_10545.trans ev_10554.symm
                            refine lv_iload hx hb d_Model_layGoes_224 (lv_at hl 0 rfl) ?_
                            refine lv_iadd hx hb d_Model_layGoes_226 ?_
                            refine lv_topi (fun v_10555 ev_10555 => ?_)
                            obtain rfl : v_10546 = v_10555 := ev_10546.trans ev_10555.symm
                            refine va_lald hx hb hK hP 5 1 rfl rfl (zI.inn hv_10546 (by decide)) d_Model_layGoes_227 ?_
                            refine lv_topl (fun v_10556 ev_10556 => ?_)
                            refine lv_aload_n hx hb d_Model_layGoes_228 rfl (lv_at hl 4 rfl) ?_
                            refine va_get (D := G.1) (ci := 12) (v := .ref b37) (C := R_Model) (T := F_Model) (N := 54) hx hb hts i_Model hown hK hP 7 rfl rfl 36 (by decide) (hts _ q1145) (fun _ h9 => h9) rfl d_Model_layGoes_229 ?_
                            refine lv_iconst (v := 4) hx hb d_Model_layGoes_232 (by decide) ?_
                            refine lv_iload_n hx hb d_Model_layGoes_233 rfl (lv_at hl 2 rfl) ?_
                            refine lv_bipush (v := 10) hx hb d_Model_layGoes_234 (by decide) ?_
                            refine lv_iadd hx hb d_Model_layGoes_236 ?_
                            refine z_topi (y := 12) (by decide +kernel) ?_
                            refine lv_imul hx hb d_Model_layGoes_237 ?_
                            refine z_topi (y := 48) (by decide +kernel) ?_
                            refine lv_iload hx hb d_Model_layGoes_238 (lv_at hl 0 rfl) ?_
                            refine lv_iadd hx hb d_Model_layGoes_240 ?_
                            refine lv_topi (fun v_10557 ev_10557 => ?_)
                            obtain ⟨qv_10557, hv_10557⟩ := zI_add (l := 48) (h := 51) zc_48 hv_10542 ev_10557 (by decide)
                            rw [li_48] at qv_10557
                            refine va_lald hx hb hK hP 6 1 rfl rfl (zI.inn hv_10557 (by decide)) d_Model_layGoes_241 ?_
                            refine lv_topl (fun v_10558 ev_10558 => ?_)
                            refine lv_lor hx hb d_Model_layGoes_242 ?_
                            refine lv_topl (fun v_10559 ev_10559 => ?_)
                            refine va_last hx hb hK hP hD hS 5 1 rfl rfl (zI.inn hv_10544 (by decide)) d_Model_layGoes_243 (fun H locs hP hD hS => ?_)
                            obtain ⟨f_10560, hP, hD⟩ := z_newL 5 hP hD rfl
                            have hP : va_P G.1 classes [(b18, .inl (G.2 0, 520, .inl b56)), (b21, .inl (G.2 0, 482, .inl b57)), (b26, .inl (G.2 0, 2, .inl b58)), (b27, .inl (G.2 0, 2880, .inl b59)), (b35, .inl (G.2 1, 4096, .inr (.inl f_10551))), (b36, .inl (G.2 1, 4096, .inr (.inl f_10560))), (b37, .inl (G.2 1, 80, .inr (.inl y_8326))), (b0, .inr (12, [.int b1, .ref b2, .ref b3, .ref b4, .ref b5, .int b6, .ref b7, .int b8, .int b9, .int b10, .int b11, .ref b12, .ref b13, .ref b14, .int b15, .ref b16, .ref b17, .ref b18, .ref b19, .ref b20, .ref b21, .ref b22, .ref b23, .ref b24, .ref b25, .ref b26, .ref b27, .int y_8325, .ref b29, .ref b30, .int b31, .int b32, .int b33, .int b34, .ref b35, .ref b36, .ref b37, .ref b38, .ref b39, .ref b40, .ref b41, .int b42, .ref b43, .ref b44, .int b45, .ref b46, .ref b47, .ref b48, .ref b49, .ref b50, .int b51, .ref b52, .ref b53, .ref b54])), (b2, .inl (G.2 0, 503, .inl b55))] H := hP
                            have hD := z_tie hP hD rfl
                            obtain ⟨v_10561, ev_10561⟩ : ∃ z : Int32, z = y_10534 + 1 := ⟨_, rfl⟩
                            obtain ⟨qv_10561, hv_10561⟩ := zI_add (l := 1) (h := 4) hv_10542 zc_1 ev_10561 (by decide)
                            rw [li_1] at qv_10561
                            refine lv_iinc (v := v_10561) (lv' := [(4, .int v_10561), (3, .int v_10503), (2, .int 2), (1, .int y_10355), (0, .ref b0)]) hx hb d_Model_layGoes_244 hl (k := 0) rfl (by rw [ev_10561]; rfl) (by decide) rfl (fun ls hl => ?_)
                            refine lv_goto (tgt := 167) hx hb d_Model_layGoes_247 (by decide) ?_
                            exact ihk_10533 (v_10561) (f_10551) (f_10560) _ _ _ (zI.wk (l' := 0) (h' := 4) hv_10561 (by decide)) (zm_up qv_10561 hmk_10533 (by decide)) hP hD hS (lv_sub hl [0, 1, 2, 3, 4] rfl)
                      · have _nhc_10499 := hc_10499
                        have ni_10562 := (fa_eq _ _).mp hc_10499
                        rw [li_0] at ni_10562
                        have hv_10563 : zI v_10498 0 0 := zI.eq_l hv_10498 zc_0 hc_10499
                        refine lv_iinc (v := 3) (lv' := [(2, .int 3), (1, .int y_10355), (0, .ref b0)]) hx hb d_Model_layGoes_152 hl (k := 0) rfl (by decide +kernel) (by decide) rfl (fun ls hl => ?_)
                        refine lv_goto (tgt := 144) hx hb d_Model_layGoes_155 (by decide) ?_
                        refine lv_iload_n hx hb d_Model_layGoes_144 rfl (lv_at hl 1 rfl) ?_
                        refine lv_iload_n hx hb d_Model_layGoes_145 rfl (lv_at hl 0 rfl) ?_
                        refine lv_ishr hx hb d_Model_layGoes_146 ?_
                        refine lv_topi (fun v_10564 ev_10564 => ?_)
                        obtain ⟨qv_10564, hv_10564⟩ := zI_shr (l := 0) (h := 127) (k := 3) hv_10362 (by decide +kernel) ev_10564 (by decide)
                        refine lv_iconst (v := 1) hx hb d_Model_layGoes_147 (by decide) ?_
                        refine lv_iand hx hb d_Model_layGoes_148 ?_
                        refine lv_topi (fun v_10565 ev_10565 => ?_)
                        have hv_10565 := zI_and (k := 1) (h := 1) (by decide +kernel) ev_10565 (by decide)
                        have qav_10565 := zI_andq (k := 1) hv_10564 (by decide) (by decide +kernel) ev_10565
                        refine lv_if_ne (tgt := 158) hx hb d_Model_layGoes_149 (by decide) (fun hc_10566 => ?_) (fun hc_10566 => ?_)
                        · have _nhc_10566 := hc_10566
                          have ni_10567 : ¬ (v_10565 : Int32).toInt = (0 : Int32).toInt := fun z => hc_10566 ((fa_eq _ _).mpr z)
                          simp only [li_0] at ni_10567
                          have hv_10568 : zI v_10565 1 1 := zI.ne_lo hv_10565 zc_0 hc_10566 (by decide)
                          refine lv_iload_n hx hb d_Model_layGoes_158 rfl (lv_at hl 1 rfl) ?_
                          refine lv_iload_n hx hb d_Model_layGoes_159 rfl (lv_at hl 1 rfl) ?_
                          refine lv_iconst (v := 1) hx hb d_Model_layGoes_160 (by decide) ?_
                          refine lv_isub hx hb d_Model_layGoes_161 ?_
                          refine lv_topi (fun v_10569 ev_10569 => ?_)
                          obtain ⟨qv_10569, hv_10569⟩ := zI_sub (l := 0) (h := 1022) hv_10362 zc_1 ev_10569 (by decide)
                          rw [li_1] at qv_10569
                          refine lv_iand hx hb d_Model_layGoes_162 ?_
                          refine lv_topi (fun v_10570 ev_10570 => ?_)
                          have hv_10571 : zI v_10570 0 1023 := zI_andl hv_10362 (by decide) ev_10570
                          refine lv_istore_n (lv' := [(3, .int v_10570), (2, .int 3), (1, .int y_10355), (0, .ref b0)]) hx hb d_Model_layGoes_163 rfl hl (by decide) rfl (fun ls hl => ?_)
                          refine lv_iconst (v := 0) hx hb d_Model_layGoes_164 (by decide) ?_
                          refine lv_istore (lv' := [(4, .int 0), (3, .int v_10570), (2, .int 3), (1, .int y_10355), (0, .ref b0)]) hx hb d_Model_layGoes_165 hl (by decide) rfl (fun ls hl => ?_)
                          suffices key : ∀ (k_10600 : Nat) (y_10601 : Int32) (y_10602 : Nat → Int64) (y_10603 : Nat → Int64) (H : Heap) (locs : List Loc) (ls : Array Slot), (zI y_10601 0 4) → (4 : Int) - y_10601.toInt < (k_10600 : Int) → va_P G.1 classes [(b18, .inl (G.2 0, 520, .inl b56)), (b21, .inl (G.2 0, 482, .inl b57)), (b26, .inl (G.2 0, 2, .inl b58)), (b27, .inl (G.2 0, 2880, .inl b59)), (b35, .inl (G.2 1, 4096, .inr (.inl y_10602))), (b36, .inl (G.2 1, 4096, .inr (.inl y_10603))), (b37, .inl (G.2 1, 80, .inr (.inl y_8326))), (b0, .inr (12, [.int b1, .ref b2, .ref b3, .ref b4, .ref b5, .int b6, .ref b7, .int b8, .int b9, .int b10, .int b11, .ref b12, .ref b13, .ref b14, .int b15, .ref b16, .ref b17, .ref b18, .ref b19, .ref b20, .ref b21, .ref b22, .ref b23, .ref b24, .ref b25, .ref b26, .ref b27, .int y_8325, .ref b29, .ref b30, .int b31, .int b32, .int b33, .int b34, .ref b35, .ref b36, .ref b37, .ref b38, .ref b39, .ref b40, .ref b41, .int b42, .ref b43, .ref b44, .int b45, .ref b46, .ref b47, .ref b48, .ref b49, .ref b50, .int b51, .ref b52, .ref b53, .ref b54])), (b2, .inl (G.2 0, 503, .inl b55))] H → va_D A [(b18, .inl (G.2 0, 520, .inl b56)), (b21, .inl (G.2 0, 482, .inl b57)), (b26, .inl (G.2 0, 2, .inl b58)), (b27, .inl (G.2 0, 2880, .inl b59)), (b35, .inl (G.2 1, 4096, .inr (.inl y_10602))), (b36, .inl (G.2 1, 4096, .inr (.inl y_10603))), (b37, .inl (G.2 1, 80, .inr (.inl y_8326))), (b0, .inr (12, [.int b1, .ref b2, .ref b3, .ref b4, .ref b5, .int b6, .ref b7, .int b8, .int b9, .int b10, .int b11, .ref b12, .ref b13, .ref b14, .int b15, .ref b16, .ref b17, .ref b18, .ref b19, .ref b20, .ref b21, .ref b22, .ref b23, .ref b24, .ref b25, .ref b26, .ref b27, .int y_8325, .ref b29, .ref b30, .int b31, .int b32, .int b33, .int b34, .ref b35, .ref b36, .ref b37, .ref b38, .ref b39, .ref b40, .ref b41, .int b42, .ref b43, .ref b44, .int b45, .ref b46, .ref b47, .ref b48, .ref b49, .ref b50, .int b51, .ref b52, .ref b53, .ref b54])), (b2, .inl (G.2 0, 503, .inl b55))] → va_S A s.heap H locs → lv_has ls 5 [(4, .int y_10601), (3, .int v_10570), (2, .int 3), (1, .int y_10355), (0, .ref b0)] → W p l e m_s2_Model_layGoes s m ([.ref b0] : List Value).toArray below meth c H locs 0 0 (MQ below (zQ G (fun v w => ∃ (e0 : Int32), ∃ (e1 : Nat → Int64), ∃ (e2 : Nat → Int64), ∃ (e3 : Nat → Int64), v = none ∧ w = [(b0, .inr (12, [.int b1, .ref b2, .ref b3, .ref b4, .ref b5, .int b6, .ref b7, .int b8, .int b9, .int b10, .int b11, .ref b12, .ref b13, .ref b14, .int b15, .ref b16, .ref b17, .ref b18, .ref b19, .ref b20, .ref b21, .ref b22, .ref b23, .ref b24, .ref b25, .ref b26, .ref b27, .int e0, .ref b29, .ref b30, .int b31, .int b32, .int b33, .int b34, .ref b35, .ref b36, .ref b37, .ref b38, .ref b39, .ref b40, .ref b41, .int b42, .ref b43, .ref b44, .int b45, .ref b46, .ref b47, .ref b48, .ref b49, .ref b50, .int b51, .ref b52, .ref b53, .ref b54])), (b2, .inl (G.2 0, 503, .inl b55)), (b18, .inl (G.2 0, 520, .inl b56)), (b21, .inl (G.2 0, 482, .inl b57)), (b26, .inl (G.2 0, 2, .inl b58)), (b27, .inl (G.2 0, 2880, .inl b59)), (b35, .inl (G.2 1, 4096, .inr (.inl e1))), (b36, .inl (G.2 1, 4096, .inr (.inl e2))), (b37, .inl (G.2 1, 80, .inr (.inl e3)))] ∧ (zI e0 0 1)) A) ([.ref b0] : List Value).toArray s m_s2_Model_layGoes.cells m_s2_Model_layGoes.slots A) (F0 m 167 ls []) by
                            exact key 5 (0) (y_10356) (y_10357) _ _ _ (zI.wk (l' := 0) (h' := 4) zc_0 (by decide)) (zm_upi (zI.wk (l' := 0) (h' := 4) zc_0 (by decide)) (by decide)) hP hD hS (lv_sub hl [0, 1, 2, 3, 4] rfl)
                          intro k_10600
                          induction k_10600 with
                          | zero =>
                            intro y_10601 y_10602 y_10603 H locs ls hy_10601 hmk_10600 hP hD hS hl
                            exact (zm_up0 hy_10601 hmk_10600).elim
                          | succ k_10600 ihk_10600 =>
                            intro y_10601 y_10602 y_10603 H locs ls hy_10601 hmk_10600 hP hD hS hl
                            refine lv_iload hx hb d_Model_layGoes_167 (lv_at hl 0 rfl) ?_
                            refine lv_iconst (v := 4) hx hb d_Model_layGoes_169 (by decide) ?_
                            refine lv_icmp_ge (tgt := 250) hx hb d_Model_layGoes_170 (by decide) (fun hc_10604 => ?_) (fun hc_10604 => ?_)
                            · have _nhc_10604 := hc_10604
                              have ni_10605 := (fa_le _ _).mp hc_10604
                              rw [li_4] at ni_10605
                              have hv_10606 : zI y_10601 4 4 := zI.le_r zc_4 hy_10601 hc_10604 (by decide)
                              obtain ⟨v_10607, ev_10607⟩ : ∃ z : Int32, z = y_10355 + 1 := ⟨_, rfl⟩
                              obtain ⟨qv_10607, hv_10607⟩ := zI_add (l := 2) (h := 1024) hv_10362 zc_1 ev_10607 (by decide)
                              rw [li_1] at qv_10607
                              refine lv_iinc (v := v_10607) (lv' := [(1, .int v_10607), (4, .int y_10601), (3, .int v_10570), (2, .int 3), (0, .ref b0)]) hx hb d_Model_layGoes_250 hl (k := 3) rfl (by rw [ev_10607]; rfl) (by decide) rfl (fun ls hl => ?_)
                              refine lv_goto (tgt := 135) hx hb d_Model_layGoes_253 (by decide) ?_
                              exact ihk_10354 (v_10607) (y_10602) (y_10603) _ _ _ (zI.wk (l' := 1) (h' := 1024) hv_10607 (by decide)) (zm_up qv_10607 hmk_10354 (by decide)) hP hD hS (lv_sub hl [0, 4] rfl)
                            · have _nhc_10604 := hc_10604
                              have ni_10608 := (fa_lt _ _).mp (zi_nle hc_10604)
                              rw [li_4] at ni_10608
                              have hv_10609 : zI y_10601 0 3 := zI.lt_l hy_10601 zc_4 (zi_nle hc_10604) (by decide)
                              refine lv_aload_n hx hb d_Model_layGoes_173 rfl (lv_at hl 4 rfl) ?_
                              refine va_get (D := G.1) (ci := 12) (v := .ref b35) (C := R_Model) (T := F_Model) (N := 54) hx hb hts i_Model hown hK hP 7 rfl rfl 34 (by decide) (hts _ q1143) (fun _ h9 => h9) rfl d_Model_layGoes_174 ?_
                              refine lv_iconst (v := 4) hx hb d_Model_layGoes_177 (by decide) ?_
                              refine lv_iload_n hx hb d_Model_layGoes_178 rfl (lv_at hl 3 rfl) ?_
                              refine lv_imul hx hb d_Model_layGoes_179 ?_
                              refine lv_topi (fun v_10610 ev_10610 => ?_)
                              obtain ⟨qv_10610, hv_10610⟩ := zI_mul (l := 4) (h := 4092) zc_4 hv_10362 ev_10610 (by decide)
                              rw [li_4] at qv_10610
                              refine lv_iload hx hb d_Model_layGoes_180 (lv_at hl 0 rfl) ?_
                              refine lv_iadd hx hb d_Model_layGoes_182 ?_
                              refine lv_topi (fun v_10611 ev_10611 => ?_)
                              obtain ⟨qv_10611, hv_10611⟩ := zI_add (l := 4) (h := 4095) hv_10610 hv_10609 ev_10611 (by decide)
                              refine lv_aload_n hx hb d_Model_layGoes_183 rfl (lv_at hl 4 rfl) ?_
                              refine va_get (D := G.1) (ci := 12) (v := .ref b35) (C := R_Model) (T := F_Model) (N := 54) hx hb hts i_Model hown hK hP 7 rfl rfl 34 (by decide) (hts _ q1143) (fun _ h9 => h9) rfl d_Model_layGoes_184 ?_
                              refine lv_iconst (v := 4) hx hb d_Model_layGoes_187 (by decide) ?_
                              refine lv_iload_n hx hb d_Model_layGoes_188 rfl (lv_at hl 1 rfl) ?_
                              refine lv_imul hx hb d_Model_layGoes_189 ?_
                              refine lv_topi (fun v_10612 ev_10612 => ?_)
                              obtain ⟨qv_10612, hv_10612⟩ := zI_mul (l := 0) (h := 4092) zc_4 hv_10571 ev_10612 (by decide)
                              rw [li_4] at qv_10612
                              refine lv_iload hx hb d_Model_layGoes_190 (lv_at hl 0 rfl) ?_
                              refine lv_iadd hx hb d_Model_layGoes_192 ?_
                              refine lv_topi (fun v_10613 ev_10613 => ?_)
                              obtain ⟨qv_10613, hv_10613⟩ := zI_add (l := 0) (h := 4095) hv_10612 hv_10609 ev_10613 (by decide)
                              refine va_lald hx hb hK hP 4 1 rfl rfl (zI.inn hv_10613 (by decide)) d_Model_layGoes_193 ?_
                              refine lv_topl (fun v_10614 ev_10614 => ?_)
                              refine lv_aload_n hx hb d_Model_layGoes_194 rfl (lv_at hl 4 rfl) ?_
                              refine va_get (D := G.1) (ci := 12) (v := .ref b37) (C := R_Model) (T := F_Model) (N := 54) hx hb hts i_Model hown hK hP 7 rfl rfl 36 (by decide) (hts _ q1145) (fun _ h9 => h9) rfl d_Model_layGoes_195 ?_
                              refine lv_iconst (v := 4) hx hb d_Model_layGoes_198 (by decide) ?_
                              refine lv_iload_n hx hb d_Model_layGoes_199 rfl (lv_at hl 2 rfl) ?_
                              refine lv_imul hx hb d_Model_layGoes_200 ?_
                              refine z_topi (y := 12) (by decide +kernel) ?_
                              refine lv_iload hx hb d_Model_layGoes_201 (lv_at hl 0 rfl) ?_
                              refine lv_iadd hx hb d_Model_layGoes_203 ?_
                              refine lv_topi (fun v_10615 ev_10615 => ?_)
                              obtain ⟨qv_10615, hv_10615⟩ := zI_add (l := 12) (h := 15) zc_12 hv_10609 ev_10615 (by decide)
                              rw [li_12] at qv_10615
                              refine va_lald hx hb hK hP 6 1 rfl rfl (zI.inn hv_10615 (by decide)) d_Model_layGoes_204 ?_
                              refine lv_topl (fun v_10616 ev_10616 => ?_)
                              refine lv_lor hx hb d_Model_layGoes_205 ?_
                              refine lv_topl (fun v_10617 ev_10617 => ?_)
                              refine va_last hx hb hK hP hD hS 4 1 rfl rfl (zI.inn hv_10611 (by decide)) d_Model_layGoes_206 (fun H locs hP hD hS => ?_)
                              obtain ⟨f_10618, hP, hD⟩ := z_newL 4 hP hD rfl
                              have hP : va_P G.1 classes [(b18, .inl (G.2 0, 520, .inl b56)), (b21, .inl (G.2 0, 482, .inl b57)), (b26, .inl (G.2 0, 2, .inl b58)), (b27, .inl (G.2 0, 2880, .inl b59)), (b35, .inl (G.2 1, 4096, .inr (.inl f_10618))), (b36, .inl (G.2 1, 4096, .inr (.inl y_10603))), (b37, .inl (G.2 1, 80, .inr (.inl y_8326))), (b0, .inr (12, [.int b1, .ref b2, .ref b3, .ref b4, .ref b5, .int b6, .ref b7, .int b8, .int b9, .int b10, .int b11, .ref b12, .ref b13, .ref b14, .int b15, .ref b16, .ref b17, .ref b18, .ref b19, .ref b20, .ref b21, .ref b22, .ref b23, .ref b24, .ref b25, .ref b26, .ref b27, .int y_8325, .ref b29, .ref b30, .int b31, .int b32, .int b33, .int b34, .ref b35, .ref b36, .ref b37, .ref b38, .ref b39, .ref b40, .ref b41, .int b42, .ref b43, .ref b44, .int b45, .ref b46, .ref b47, .ref b48, .ref b49, .ref b50, .int b51, .ref b52, .ref b53, .ref b54])), (b2, .inl (G.2 0, 503, .inl b55))] H := hP
                              have hD := z_tie hP hD rfl
                              refine lv_aload_n hx hb d_Model_layGoes_207 rfl (lv_at hl 4 rfl) ?_
                              refine va_get (D := G.1) (ci := 12) (v := .ref b36) (C := R_Model) (T := F_Model) (N := 54) hx hb hts i_Model hown hK hP 7 rfl rfl 35 (by decide) (hts _ q1144) (fun _ h9 => h9) rfl d_Model_layGoes_208 ?_
                              refine lv_iconst (v := 4) hx hb d_Model_layGoes_211 (by decide) ?_
                              refine lv_iload_n hx hb d_Model_layGoes_212 rfl (lv_at hl 3 rfl) ?_
                              refine lv_imul hx hb d_Model_layGoes_213 ?_
                              refine lv_topi (fun v_10619 ev_10619 => ?_)
                              obtain rfl : v_10610 = v_10619 := ev_10610.trans ev_10619.symm
                              refine lv_iload hx hb d_Model_layGoes_214 (lv_at hl 0 rfl) ?_
                              refine lv_iadd hx hb d_Model_layGoes_216 ?_
                              refine lv_topi (fun v_10620 ev_10620 => ?_)
                              obtain rfl : v_10611 = v_10620 := ev_10611.trans ev_10620.symm
                              refine lv_aload_n hx hb d_Model_layGoes_217 rfl (lv_at hl 4 rfl) ?_
                              refine va_get (D := G.1) (ci := 12) (v := .ref b36) (C := R_Model) (T := F_Model) (N := 54) hx hb hts i_Model hown hK hP 7 rfl rfl 35 (by decide) (hts _ q1144) (fun _ h9 => h9) rfl d_Model_layGoes_218 ?_
                              refine lv_iconst (v := 4) hx hb d_Model_layGoes_221 (by decide) ?_
                              refine lv_iload_n hx hb d_Model_layGoes_222 rfl (lv_at hl 1 rfl) ?_
                              refine lv_imul hx hb d_Model_layGoes_223 ?_
                              refine lv_topi (fun v_10621 ev_10621 => ?_)
                              obtain rfl : v_10612 = v_10621 := ev_10612.trans ev_10621.symm
                              refine lv_iload hx hb d_Model_layGoes_224 (lv_at hl 0 rfl) ?_
                              refine lv_iadd hx hb d_Model_layGoes_226 ?_
                              refine lv_topi (fun v_10622 ev_10622 => ?_)
                              obtain rfl : v_10613 = v_10622 := ev_10613.trans ev_10622.symm
                              refine va_lald hx hb hK hP 5 1 rfl rfl (zI.inn hv_10613 (by decide)) d_Model_layGoes_227 ?_
                              refine lv_topl (fun v_10623 ev_10623 => ?_)
                              refine lv_aload_n hx hb d_Model_layGoes_228 rfl (lv_at hl 4 rfl) ?_
                              refine va_get (D := G.1) (ci := 12) (v := .ref b37) (C := R_Model) (T := F_Model) (N := 54) hx hb hts i_Model hown hK hP 7 rfl rfl 36 (by decide) (hts _ q1145) (fun _ h9 => h9) rfl d_Model_layGoes_229 ?_
                              refine lv_iconst (v := 4) hx hb d_Model_layGoes_232 (by decide) ?_
                              refine lv_iload_n hx hb d_Model_layGoes_233 rfl (lv_at hl 2 rfl) ?_
                              refine lv_bipush (v := 10) hx hb d_Model_layGoes_234 (by decide) ?_
                              refine lv_iadd hx hb d_Model_layGoes_236 ?_
                              refine z_topi (y := 13) (by decide +kernel) ?_
                              refine lv_imul hx hb d_Model_layGoes_237 ?_
                              refine z_topi (y := 52) (by decide +kernel) ?_
                              refine lv_iload hx hb d_Model_layGoes_238 (lv_at hl 0 rfl) ?_
                              refine lv_iadd hx hb d_Model_layGoes_240 ?_
                              refine lv_topi (fun v_10624 ev_10624 => ?_)
                              obtain ⟨qv_10624, hv_10624⟩ := zI_add (l := 52) (h := 55) zc_52 hv_10609 ev_10624 (by decide)
                              rw [li_52] at qv_10624
                              refine va_lald hx hb hK hP 6 1 rfl rfl (zI.inn hv_10624 (by decide)) d_Model_layGoes_241 ?_
                              refine lv_topl (fun v_10625 ev_10625 => ?_)
                              refine lv_lor hx hb d_Model_layGoes_242 ?_
                              refine lv_topl (fun v_10626 ev_10626 => ?_)
                              refine va_last hx hb hK hP hD hS 5 1 rfl rfl (zI.inn hv_10611 (by decide)) d_Model_layGoes_243 (fun H locs hP hD hS => ?_)
                              obtain ⟨f_10627, hP, hD⟩ := z_newL 5 hP hD rfl
                              have hP : va_P G.1 classes [(b18, .inl (G.2 0, 520, .inl b56)), (b21, .inl (G.2 0, 482, .inl b57)), (b26, .inl (G.2 0, 2, .inl b58)), (b27, .inl (G.2 0, 2880, .inl b59)), (b35, .inl (G.2 1, 4096, .inr (.inl f_10618))), (b36, .inl (G.2 1, 4096, .inr (.inl f_10627))), (b37, .inl (G.2 1, 80, .inr (.inl y_8326))), (b0, .inr (12, [.int b1, .ref b2, .ref b3, .ref b4, .ref b5, .int b6, .ref b7, .int b8, .int b9, .int b10, .int b11, .ref b12, .ref b13, .ref b14, .int b15, .ref b16, .ref b17, .ref b18, .ref b19, .ref b20, .ref b21, .ref b22, .ref b23, .ref b24, .ref b25, .ref b26, .ref b27, .int y_8325, .ref b29, .ref b30, .int b31, .int b32, .int b33, .int b34, .ref b35, .ref b36, .ref b37, .ref b38, .ref b39, .ref b40, .ref b41, .int b42, .ref b43, .ref b44, .int b45, .ref b46, .ref b47, .ref b48, .ref b49, .ref b50, .int b51, .ref b52, .ref b53, .ref b54])), (b2, .inl (G.2 0, 503, .inl b55))] H := hP
                              have hD := z_tie hP hD rfl
                              obtain ⟨v_10628, ev_10628⟩ : ∃ z : Int32, z = y_10601 + 1 := ⟨_, rfl⟩
                              obtain ⟨qv_10628, hv_10628⟩ := zI_add (l := 1) (h := 4) hv_10609 zc_1 ev_10628 (by decide)
                              rw [li_1] at qv_10628
                              refine lv_iinc (v := v_10628) (lv' := [(4, .int v_10628), (3, .int v_10570), (2, .int 3), (1, .int y_10355), (0, .ref b0)]) hx hb d_Model_layGoes_244 hl (k := 0) rfl (by rw [ev_10628]; rfl) (by decide) rfl (fun ls hl => ?_)
                              refine lv_goto (tgt := 167) hx hb d_Model_layGoes_247 (by decide) ?_
                              exact ihk_10600 (v_10628) (f_10618) (f_10627) _ _ _ (zI.wk (l' := 0) (h' := 4) hv_10628 (by decide)) (zm_up qv_10628 hmk_10600 (by decide)) hP hD hS (lv_sub hl [0, 1, 2, 3, 4] rfl)
                        · have _nhc_10566 := hc_10566
                          have ni_10629 := (fa_eq _ _).mp hc_10566
                          rw [li_0] at ni_10629
                          have hv_10630 : zI v_10565 0 0 := zI.eq_l hv_10565 zc_0 hc_10566
                          refine lv_iinc (v := 4) (lv' := [(2, .int 4), (1, .int y_10355), (0, .ref b0)]) hx hb d_Model_layGoes_152 hl (k := 0) rfl (by decide +kernel) (by decide) rfl (fun ls hl => ?_)
                          refine lv_goto (tgt := 144) hx hb d_Model_layGoes_155 (by decide) ?_
                          refine lv_iload_n hx hb d_Model_layGoes_144 rfl (lv_at hl 1 rfl) ?_
                          refine lv_iload_n hx hb d_Model_layGoes_145 rfl (lv_at hl 0 rfl) ?_
                          refine lv_ishr hx hb d_Model_layGoes_146 ?_
                          refine lv_topi (fun v_10631 ev_10631 => ?_)
                          obtain ⟨qv_10631, hv_10631⟩ := zI_shr (l := 0) (h := 63) (k := 4) hv_10362 (by decide +kernel) ev_10631 (by decide)
                          refine lv_iconst (v := 1) hx hb d_Model_layGoes_147 (by decide) ?_
                          refine lv_iand hx hb d_Model_layGoes_148 ?_
                          refine lv_topi (fun v_10632 ev_10632 => ?_)
                          have hv_10632 := zI_and (k := 1) (h := 1) (by decide +kernel) ev_10632 (by decide)
                          have qav_10632 := zI_andq (k := 1) hv_10631 (by decide) (by decide +kernel) ev_10632
                          refine lv_if_ne (tgt := 158) hx hb d_Model_layGoes_149 (by decide) (fun hc_10633 => ?_) (fun hc_10633 => ?_)
                          · have _nhc_10633 := hc_10633
                            have ni_10634 : ¬ (v_10632 : Int32).toInt = (0 : Int32).toInt := fun z => hc_10633 ((fa_eq _ _).mpr z)
                            simp only [li_0] at ni_10634
                            have hv_10635 : zI v_10632 1 1 := zI.ne_lo hv_10632 zc_0 hc_10633 (by decide)
                            refine lv_iload_n hx hb d_Model_layGoes_158 rfl (lv_at hl 1 rfl) ?_
                            refine lv_iload_n hx hb d_Model_layGoes_159 rfl (lv_at hl 1 rfl) ?_
                            refine lv_iconst (v := 1) hx hb d_Model_layGoes_160 (by decide) ?_
                            refine lv_isub hx hb d_Model_layGoes_161 ?_
                            refine lv_topi (fun v_10636 ev_10636 => ?_)
                            obtain ⟨qv_10636, hv_10636⟩ := zI_sub (l := 0) (h := 1022) hv_10362 zc_1 ev_10636 (by decide)
                            rw [li_1] at qv_10636
                            refine lv_iand hx hb d_Model_layGoes_162 ?_
                            refine lv_topi (fun v_10637 ev_10637 => ?_)
                            have hv_10638 : zI v_10637 0 1023 := zI_andl hv_10362 (by decide) ev_10637
                            refine lv_istore_n (lv' := [(3, .int v_10637), (2, .int 4), (1, .int y_10355), (0, .ref b0)]) hx hb d_Model_layGoes_163 rfl hl (by decide) rfl (fun ls hl => ?_)
                            refine lv_iconst (v := 0) hx hb d_Model_layGoes_164 (by decide) ?_
                            refine lv_istore (lv' := [(4, .int 0), (3, .int v_10637), (2, .int 4), (1, .int y_10355), (0, .ref b0)]) hx hb d_Model_layGoes_165 hl (by decide) rfl (fun ls hl => ?_)
                            suffices key : ∀ (k_10667 : Nat) (y_10668 : Int32) (y_10669 : Nat → Int64) (y_10670 : Nat → Int64) (H : Heap) (locs : List Loc) (ls : Array Slot), (zI y_10668 0 4) → (4 : Int) - y_10668.toInt < (k_10667 : Int) → va_P G.1 classes [(b18, .inl (G.2 0, 520, .inl b56)), (b21, .inl (G.2 0, 482, .inl b57)), (b26, .inl (G.2 0, 2, .inl b58)), (b27, .inl (G.2 0, 2880, .inl b59)), (b35, .inl (G.2 1, 4096, .inr (.inl y_10669))), (b36, .inl (G.2 1, 4096, .inr (.inl y_10670))), (b37, .inl (G.2 1, 80, .inr (.inl y_8326))), (b0, .inr (12, [.int b1, .ref b2, .ref b3, .ref b4, .ref b5, .int b6, .ref b7, .int b8, .int b9, .int b10, .int b11, .ref b12, .ref b13, .ref b14, .int b15, .ref b16, .ref b17, .ref b18, .ref b19, .ref b20, .ref b21, .ref b22, .ref b23, .ref b24, .ref b25, .ref b26, .ref b27, .int y_8325, .ref b29, .ref b30, .int b31, .int b32, .int b33, .int b34, .ref b35, .ref b36, .ref b37, .ref b38, .ref b39, .ref b40, .ref b41, .int b42, .ref b43, .ref b44, .int b45, .ref b46, .ref b47, .ref b48, .ref b49, .ref b50, .int b51, .ref b52, .ref b53, .ref b54])), (b2, .inl (G.2 0, 503, .inl b55))] H → va_D A [(b18, .inl (G.2 0, 520, .inl b56)), (b21, .inl (G.2 0, 482, .inl b57)), (b26, .inl (G.2 0, 2, .inl b58)), (b27, .inl (G.2 0, 2880, .inl b59)), (b35, .inl (G.2 1, 4096, .inr (.inl y_10669))), (b36, .inl (G.2 1, 4096, .inr (.inl y_10670))), (b37, .inl (G.2 1, 80, .inr (.inl y_8326))), (b0, .inr (12, [.int b1, .ref b2, .ref b3, .ref b4, .ref b5, .int b6, .ref b7, .int b8, .int b9, .int b10, .int b11, .ref b12, .ref b13, .ref b14, .int b15, .ref b16, .ref b17, .ref b18, .ref b19, .ref b20, .ref b21, .ref b22, .ref b23, .ref b24, .ref b25, .ref b26, .ref b27, .int y_8325, .ref b29, .ref b30, .int b31, .int b32, .int b33, .int b34, .ref b35, .ref b36, .ref b37, .ref b38, .ref b39, .ref b40, .ref b41, .int b42, .ref b43, .ref b44, .int b45, .ref b46, .ref b47, .ref b48, .ref b49, .ref b50, .int b51, .ref b52, .ref b53, .ref b54])), (b2, .inl (G.2 0, 503, .inl b55))] → va_S A s.heap H locs → lv_has ls 5 [(4, .int y_10668), (3, .int v_10637), (2, .int 4), (1, .int y_10355), (0, .ref b0)] → W p l e m_s2_Model_layGoes s m ([.ref b0] : List Value).toArray below meth c H locs 0 0 (MQ below (zQ G (fun v w => ∃ (e0 : Int32), ∃ (e1 : Nat → Int64), ∃ (e2 : Nat → Int64), ∃ (e3 : Nat → Int64), v = none ∧ w = [(b0, .inr (12, [.int b1, .ref b2, .ref b3, .ref b4, .ref b5, .int b6, .ref b7, .int b8, .int b9, .int b10, .int b11, .ref b12, .ref b13, .ref b14, .int b15, .ref b16, .ref b17, .ref b18, .ref b19, .ref b20, .ref b21, .ref b22, .ref b23, .ref b24, .ref b25, .ref b26, .ref b27, .int e0, .ref b29, .ref b30, .int b31, .int b32, .int b33, .int b34, .ref b35, .ref b36, .ref b37, .ref b38, .ref b39, .ref b40, .ref b41, .int b42, .ref b43, .ref b44, .int b45, .ref b46, .ref b47, .ref b48, .ref b49, .ref b50, .int b51, .ref b52, .ref b53, .ref b54])), (b2, .inl (G.2 0, 503, .inl b55)), (b18, .inl (G.2 0, 520, .inl b56)), (b21, .inl (G.2 0, 482, .inl b57)), (b26, .inl (G.2 0, 2, .inl b58)), (b27, .inl (G.2 0, 2880, .inl b59)), (b35, .inl (G.2 1, 4096, .inr (.inl e1))), (b36, .inl (G.2 1, 4096, .inr (.inl e2))), (b37, .inl (G.2 1, 80, .inr (.inl e3)))] ∧ (zI e0 0 1)) A) ([.ref b0] : List Value).toArray s m_s2_Model_layGoes.cells m_s2_Model_layGoes.slots A) (F0 m 167 ls []) by
                              exact key 5 (0) (y_10356) (y_10357) _ _ _ (zI.wk (l' := 0) (h' := 4) zc_0 (by decide)) (zm_upi (zI.wk (l' := 0) (h' := 4) zc_0 (by decide)) (by decide)) hP hD hS (lv_sub hl [0, 1, 2, 3, 4] rfl)
                            intro k_10667
                            induction k_10667 with
                            | zero =>
                              intro y_10668 y_10669 y_10670 H locs ls hy_10668 hmk_10667 hP hD hS hl
                              exact (zm_up0 hy_10668 hmk_10667).elim
                            | succ k_10667 ihk_10667 =>
                              intro y_10668 y_10669 y_10670 H locs ls hy_10668 hmk_10667 hP hD hS hl
                              refine lv_iload hx hb d_Model_layGoes_167 (lv_at hl 0 rfl) ?_
                              refine lv_iconst (v := 4) hx hb d_Model_layGoes_169 (by decide) ?_
                              refine lv_icmp_ge (tgt := 250) hx hb d_Model_layGoes_170 (by decide) (fun hc_10671 => ?_) (fun hc_10671 => ?_)
                              · have _nhc_10671 := hc_10671
                                have ni_10672 := (fa_le _ _).mp hc_10671
                                rw [li_4] at ni_10672
                                have hv_10673 : zI y_10668 4 4 := zI.le_r zc_4 hy_10668 hc_10671 (by decide)
                                obtain ⟨v_10674, ev_10674⟩ : ∃ z : Int32, z = y_10355 + 1 := ⟨_, rfl⟩
                                obtain ⟨qv_10674, hv_10674⟩ := zI_add (l := 2) (h := 1024) hv_10362 zc_1 ev_10674 (by decide)
                                rw [li_1] at qv_10674
                                refine lv_iinc (v := v_10674) (lv' := [(1, .int v_10674), (4, .int y_10668), (3, .int v_10637), (2, .int 4), (0, .ref b0)]) hx hb d_Model_layGoes_250 hl (k := 3) rfl (by rw [ev_10674]; rfl) (by decide) rfl (fun ls hl => ?_)
                                refine lv_goto (tgt := 135) hx hb d_Model_layGoes_253 (by decide) ?_
                                exact ihk_10354 (v_10674) (y_10669) (y_10670) _ _ _ (zI.wk (l' := 1) (h' := 1024) hv_10674 (by decide)) (zm_up qv_10674 hmk_10354 (by decide)) hP hD hS (lv_sub hl [0, 4] rfl)
                              · have _nhc_10671 := hc_10671
                                have ni_10675 := (fa_lt _ _).mp (zi_nle hc_10671)
                                rw [li_4] at ni_10675
                                have hv_10676 : zI y_10668 0 3 := zI.lt_l hy_10668 zc_4 (zi_nle hc_10671) (by decide)
                                refine lv_aload_n hx hb d_Model_layGoes_173 rfl (lv_at hl 4 rfl) ?_
                                refine va_get (D := G.1) (ci := 12) (v := .ref b35) (C := R_Model) (T := F_Model) (N := 54) hx hb hts i_Model hown hK hP 7 rfl rfl 34 (by decide) (hts _ q1143) (fun _ h9 => h9) rfl d_Model_layGoes_174 ?_
                                refine lv_iconst (v := 4) hx hb d_Model_layGoes_177 (by decide) ?_
                                refine lv_iload_n hx hb d_Model_layGoes_178 rfl (lv_at hl 3 rfl) ?_
                                refine lv_imul hx hb d_Model_layGoes_179 ?_
                                refine lv_topi (fun v_10677 ev_10677 => ?_)
                                obtain ⟨qv_10677, hv_10677⟩ := zI_mul (l := 4) (h := 4092) zc_4 hv_10362 ev_10677 (by decide)
                                rw [li_4] at qv_10677
                                refine lv_iload hx hb d_Model_layGoes_180 (lv_at hl 0 rfl) ?_
                                refine lv_iadd hx hb d_Model_layGoes_182 ?_
                                refine lv_topi (fun v_10678 ev_10678 => ?_)
                                obtain ⟨qv_10678, hv_10678⟩ := zI_add (l := 4) (h := 4095) hv_10677 hv_10676 ev_10678 (by decide)
                                refine lv_aload_n hx hb d_Model_layGoes_183 rfl (lv_at hl 4 rfl) ?_
                                refine va_get (D := G.1) (ci := 12) (v := .ref b35) (C := R_Model) (T := F_Model) (N := 54) hx hb hts i_Model hown hK hP 7 rfl rfl 34 (by decide) (hts _ q1143) (fun _ h9 => h9) rfl d_Model_layGoes_184 ?_
                                refine lv_iconst (v := 4) hx hb d_Model_layGoes_187 (by decide) ?_
                                refine lv_iload_n hx hb d_Model_layGoes_188 rfl (lv_at hl 1 rfl) ?_
                                refine lv_imul hx hb d_Model_layGoes_189 ?_
                                refine lv_topi (fun v_10679 ev_10679 => ?_)
                                obtain ⟨qv_10679, hv_10679⟩ := zI_mul (l := 0) (h := 4092) zc_4 hv_10638 ev_10679 (by decide)
                                rw [li_4] at qv_10679
                                refine lv_iload hx hb d_Model_layGoes_190 (lv_at hl 0 rfl) ?_
                                refine lv_iadd hx hb d_Model_layGoes_192 ?_
                                refine lv_topi (fun v_10680 ev_10680 => ?_)
                                obtain ⟨qv_10680, hv_10680⟩ := zI_add (l := 0) (h := 4095) hv_10679 hv_10676 ev_10680 (by decide)
                                refine va_lald hx hb hK hP 4 1 rfl rfl (zI.inn hv_10680 (by decide)) d_Model_layGoes_193 ?_
                                refine lv_topl (fun v_10681 ev_10681 => ?_)
                                refine lv_aload_n hx hb d_Model_layGoes_194 rfl (lv_at hl 4 rfl) ?_
                                refine va_get (D := G.1) (ci := 12) (v := .ref b37) (C := R_Model) (T := F_Model) (N := 54) hx hb hts i_Model hown hK hP 7 rfl rfl 36 (by decide) (hts _ q1145) (fun _ h9 => h9) rfl d_Model_layGoes_195 ?_
                                refine lv_iconst (v := 4) hx hb d_Model_layGoes_198 (by decide) ?_
                                refine lv_iload_n hx hb d_Model_layGoes_199 rfl (lv_at hl 2 rfl) ?_
                                refine lv_imul hx hb d_Model_layGoes_200 ?_
                                refine z_topi (y := 16) (by decide +kernel) ?_
                                refine lv_iload hx hb d_Model_layGoes_201 (lv_at hl 0 rfl) ?_
                                refine lv_iadd hx hb d_Model_layGoes_203 ?_
                                refine lv_topi (fun v_10682 ev_10682 => ?_)
                                obtain ⟨qv_10682, hv_10682⟩ := zI_add (l := 16) (h := 19) zc_16 hv_10676 ev_10682 (by decide)
                                rw [li_16] at qv_10682
                                refine va_lald hx hb hK hP 6 1 rfl rfl (zI.inn hv_10682 (by decide)) d_Model_layGoes_204 ?_
                                refine lv_topl (fun v_10683 ev_10683 => ?_)
                                refine lv_lor hx hb d_Model_layGoes_205 ?_
                                refine lv_topl (fun v_10684 ev_10684 => ?_)
                                refine va_last hx hb hK hP hD hS 4 1 rfl rfl (zI.inn hv_10678 (by decide)) d_Model_layGoes_206 (fun H locs hP hD hS => ?_)
                                obtain ⟨f_10685, hP, hD⟩ := z_newL 4 hP hD rfl
                                have hP : va_P G.1 classes [(b18, .inl (G.2 0, 520, .inl b56)), (b21, .inl (G.2 0, 482, .inl b57)), (b26, .inl (G.2 0, 2, .inl b58)), (b27, .inl (G.2 0, 2880, .inl b59)), (b35, .inl (G.2 1, 4096, .inr (.inl f_10685))), (b36, .inl (G.2 1, 4096, .inr (.inl y_10670))), (b37, .inl (G.2 1, 80, .inr (.inl y_8326))), (b0, .inr (12, [.int b1, .ref b2, .ref b3, .ref b4, .ref b5, .int b6, .ref b7, .int b8, .int b9, .int b10, .int b11, .ref b12, .ref b13, .ref b14, .int b15, .ref b16, .ref b17, .ref b18, .ref b19, .ref b20, .ref b21, .ref b22, .ref b23, .ref b24, .ref b25, .ref b26, .ref b27, .int y_8325, .ref b29, .ref b30, .int b31, .int b32, .int b33, .int b34, .ref b35, .ref b36, .ref b37, .ref b38, .ref b39, .ref b40, .ref b41, .int b42, .ref b43, .ref b44, .int b45, .ref b46, .ref b47, .ref b48, .ref b49, .ref b50, .int b51, .ref b52, .ref b53, .ref b54])), (b2, .inl (G.2 0, 503, .inl b55))] H := hP
                                have hD := z_tie hP hD rfl
                                refine lv_aload_n hx hb d_Model_layGoes_207 rfl (lv_at hl 4 rfl) ?_
                                refine va_get (D := G.1) (ci := 12) (v := .ref b36) (C := R_Model) (T := F_Model) (N := 54) hx hb hts i_Model hown hK hP 7 rfl rfl 35 (by decide) (hts _ q1144) (fun _ h9 => h9) rfl d_Model_layGoes_208 ?_
                                refine lv_iconst (v := 4) hx hb d_Model_layGoes_211 (by decide) ?_
                                refine lv_iload_n hx hb d_Model_layGoes_212 rfl (lv_at hl 3 rfl) ?_
                                refine lv_imul hx hb d_Model_layGoes_213 ?_
                                refine lv_topi (fun v_10686 ev_10686 => ?_)
                                obtain rfl : v_10677 = v_10686 := ev_10677.trans ev_10686.symm
                                refine lv_iload hx hb d_Model_layGoes_214 (lv_at hl 0 rfl) ?_
                                refine lv_iadd hx hb d_Model_layGoes_216 ?_
                                refine lv_topi (fun v_10687 ev_10687 => ?_)
                                obtain rfl : v_10678 = v_10687 := ev_10678.trans ev_10687.symm
                                refine lv_aload_n hx hb d_Model_layGoes_217 rfl (lv_at hl 4 rfl) ?_
                                refine va_get (D := G.1) (ci := 12) (v := .ref b36) (C := R_Model) (T := F_Model) (N := 54) hx hb hts i_Model hown hK hP 7 rfl rfl 35 (by decide) (hts _ q1144) (fun _ h9 => h9) rfl d_Model_layGoes_218 ?_
                                refine lv_iconst (v := 4) hx hb d_Model_layGoes_221 (by decide) ?_
                                refine lv_iload_n hx hb d_Model_layGoes_222 rfl (lv_at hl 1 rfl) ?_
                                refine lv_imul hx hb d_Model_layGoes_223 ?_
                                refine lv_topi (fun v_10688 ev_10688 => ?_)
                                obtain rfl : v_10679 = v_10688 := ev_10679.trans ev_10688.symm
                                refine lv_iload hx hb d_Model_layGoes_224 (lv_at hl 0 rfl) ?_
                                refine lv_iadd hx hb d_Model_layGoes_226 ?_
                                refine lv_topi (fun v_10689 ev_10689 => ?_)
                                obtain rfl : v_10680 = v_10689 := ev_10680.trans ev_10689.symm
                                refine va_lald hx hb hK hP 5 1 rfl rfl (zI.inn hv_10680 (by decide)) d_Model_layGoes_227 ?_
                                refine lv_topl (fun v_10690 ev_10690 => ?_)
                                refine lv_aload_n hx hb d_Model_layGoes_228 rfl (lv_at hl 4 rfl) ?_
                                refine va_get (D := G.1) (ci := 12) (v := .ref b37) (C := R_Model) (T := F_Model) (N := 54) hx hb hts i_Model hown hK hP 7 rfl rfl 36 (by decide) (hts _ q1145) (fun _ h9 => h9) rfl d_Model_layGoes_229 ?_
                                refine lv_iconst (v := 4) hx hb d_Model_layGoes_232 (by decide) ?_
                                refine lv_iload_n hx hb d_Model_layGoes_233 rfl (lv_at hl 2 rfl) ?_
                                refine lv_bipush (v := 10) hx hb d_Model_layGoes_234 (by decide) ?_
                                refine lv_iadd hx hb d_Model_layGoes_236 ?_
                                refine z_topi (y := 14) (by decide +kernel) ?_
                                refine lv_imul hx hb d_Model_layGoes_237 ?_
                                refine z_topi (y := 56) (by decide +kernel) ?_
                                refine lv_iload hx hb d_Model_layGoes_238 (lv_at hl 0 rfl) ?_
                                refine lv_iadd hx hb d_Model_layGoes_240 ?_
                                refine lv_topi (fun v_10691 ev_10691 => ?_)
                                obtain ⟨qv_10691, hv_10691⟩ := zI_add (l := 56) (h := 59) zc_56 hv_10676 ev_10691 (by decide)
                                rw [li_56] at qv_10691
                                refine va_lald hx hb hK hP 6 1 rfl rfl (zI.inn hv_10691 (by decide)) d_Model_layGoes_241 ?_
                                refine lv_topl (fun v_10692 ev_10692 => ?_)
                                refine lv_lor hx hb d_Model_layGoes_242 ?_
                                refine lv_topl (fun v_10693 ev_10693 => ?_)
                                refine va_last hx hb hK hP hD hS 5 1 rfl rfl (zI.inn hv_10678 (by decide)) d_Model_layGoes_243 (fun H locs hP hD hS => ?_)
                                obtain ⟨f_10694, hP, hD⟩ := z_newL 5 hP hD rfl
                                have hP : va_P G.1 classes [(b18, .inl (G.2 0, 520, .inl b56)), (b21, .inl (G.2 0, 482, .inl b57)), (b26, .inl (G.2 0, 2, .inl b58)), (b27, .inl (G.2 0, 2880, .inl b59)), (b35, .inl (G.2 1, 4096, .inr (.inl f_10685))), (b36, .inl (G.2 1, 4096, .inr (.inl f_10694))), (b37, .inl (G.2 1, 80, .inr (.inl y_8326))), (b0, .inr (12, [.int b1, .ref b2, .ref b3, .ref b4, .ref b5, .int b6, .ref b7, .int b8, .int b9, .int b10, .int b11, .ref b12, .ref b13, .ref b14, .int b15, .ref b16, .ref b17, .ref b18, .ref b19, .ref b20, .ref b21, .ref b22, .ref b23, .ref b24, .ref b25, .ref b26, .ref b27, .int y_8325, .ref b29, .ref b30, .int b31, .int b32, .int b33, .int b34, .ref b35, .ref b36, .ref b37, .ref b38, .ref b39, .ref b40, .ref b41, .int b42, .ref b43, .ref b44, .int b45, .ref b46, .ref b47, .ref b48, .ref b49, .ref b50, .int b51, .ref b52, .ref b53, .ref b54])), (b2, .inl (G.2 0, 503, .inl b55))] H := hP
                                have hD := z_tie hP hD rfl
                                obtain ⟨v_10695, ev_10695⟩ : ∃ z : Int32, z = y_10668 + 1 := ⟨_, rfl⟩
                                obtain ⟨qv_10695, hv_10695⟩ := zI_add (l := 1) (h := 4) hv_10676 zc_1 ev_10695 (by decide)
                                rw [li_1] at qv_10695
                                refine lv_iinc (v := v_10695) (lv' := [(4, .int v_10695), (3, .int v_10637), (2, .int 4), (1, .int y_10355), (0, .ref b0)]) hx hb d_Model_layGoes_244 hl (k := 0) rfl (by rw [ev_10695]; rfl) (by decide) rfl (fun ls hl => ?_)
                                refine lv_goto (tgt := 167) hx hb d_Model_layGoes_247 (by decide) ?_
                                exact ihk_10667 (v_10695) (f_10685) (f_10694) _ _ _ (zI.wk (l' := 0) (h' := 4) hv_10695 (by decide)) (zm_up qv_10695 hmk_10667 (by decide)) hP hD hS (lv_sub hl [0, 1, 2, 3, 4] rfl)
                          · have _nhc_10633 := hc_10633
                            have ni_10696 := (fa_eq _ _).mp hc_10633
                            rw [li_0] at ni_10696
                            have hv_10697 : zI v_10632 0 0 := zI.eq_l hv_10632 zc_0 hc_10633
                            refine lv_iinc (v := 5) (lv' := [(2, .int 5), (1, .int y_10355), (0, .ref b0)]) hx hb d_Model_layGoes_152 hl (k := 0) rfl (by decide +kernel) (by decide) rfl (fun ls hl => ?_)
                            refine lv_goto (tgt := 144) hx hb d_Model_layGoes_155 (by decide) ?_
                            refine lv_iload_n hx hb d_Model_layGoes_144 rfl (lv_at hl 1 rfl) ?_
                            refine lv_iload_n hx hb d_Model_layGoes_145 rfl (lv_at hl 0 rfl) ?_
                            refine lv_ishr hx hb d_Model_layGoes_146 ?_
                            refine lv_topi (fun v_10698 ev_10698 => ?_)
                            obtain ⟨qv_10698, hv_10698⟩ := zI_shr (l := 0) (h := 31) (k := 5) hv_10362 (by decide +kernel) ev_10698 (by decide)
                            refine lv_iconst (v := 1) hx hb d_Model_layGoes_147 (by decide) ?_
                            refine lv_iand hx hb d_Model_layGoes_148 ?_
                            refine lv_topi (fun v_10699 ev_10699 => ?_)
                            have hv_10699 := zI_and (k := 1) (h := 1) (by decide +kernel) ev_10699 (by decide)
                            have qav_10699 := zI_andq (k := 1) hv_10698 (by decide) (by decide +kernel) ev_10699
                            refine lv_if_ne (tgt := 158) hx hb d_Model_layGoes_149 (by decide) (fun hc_10700 => ?_) (fun hc_10700 => ?_)
                            · have _nhc_10700 := hc_10700
                              have ni_10701 : ¬ (v_10699 : Int32).toInt = (0 : Int32).toInt := fun z => hc_10700 ((fa_eq _ _).mpr z)
                              simp only [li_0] at ni_10701
                              have hv_10702 : zI v_10699 1 1 := zI.ne_lo hv_10699 zc_0 hc_10700 (by decide)
                              refine lv_iload_n hx hb d_Model_layGoes_158 rfl (lv_at hl 1 rfl) ?_
                              refine lv_iload_n hx hb d_Model_layGoes_159 rfl (lv_at hl 1 rfl) ?_
                              refine lv_iconst (v := 1) hx hb d_Model_layGoes_160 (by decide) ?_
                              refine lv_isub hx hb d_Model_layGoes_161 ?_
                              refine lv_topi (fun v_10703 ev_10703 => ?_)
                              obtain ⟨qv_10703, hv_10703⟩ := zI_sub (l := 0) (h := 1022) hv_10362 zc_1 ev_10703 (by decide)
                              rw [li_1] at qv_10703
                              refine lv_iand hx hb d_Model_layGoes_162 ?_
                              refine lv_topi (fun v_10704 ev_10704 => ?_)
                              have hv_10705 : zI v_10704 0 1023 := zI_andl hv_10362 (by decide) ev_10704
                              refine lv_istore_n (lv' := [(3, .int v_10704), (2, .int 5), (1, .int y_10355), (0, .ref b0)]) hx hb d_Model_layGoes_163 rfl hl (by decide) rfl (fun ls hl => ?_)
                              refine lv_iconst (v := 0) hx hb d_Model_layGoes_164 (by decide) ?_
                              refine lv_istore (lv' := [(4, .int 0), (3, .int v_10704), (2, .int 5), (1, .int y_10355), (0, .ref b0)]) hx hb d_Model_layGoes_165 hl (by decide) rfl (fun ls hl => ?_)
                              suffices key : ∀ (k_10734 : Nat) (y_10735 : Int32) (y_10736 : Nat → Int64) (y_10737 : Nat → Int64) (H : Heap) (locs : List Loc) (ls : Array Slot), (zI y_10735 0 4) → (4 : Int) - y_10735.toInt < (k_10734 : Int) → va_P G.1 classes [(b18, .inl (G.2 0, 520, .inl b56)), (b21, .inl (G.2 0, 482, .inl b57)), (b26, .inl (G.2 0, 2, .inl b58)), (b27, .inl (G.2 0, 2880, .inl b59)), (b35, .inl (G.2 1, 4096, .inr (.inl y_10736))), (b36, .inl (G.2 1, 4096, .inr (.inl y_10737))), (b37, .inl (G.2 1, 80, .inr (.inl y_8326))), (b0, .inr (12, [.int b1, .ref b2, .ref b3, .ref b4, .ref b5, .int b6, .ref b7, .int b8, .int b9, .int b10, .int b11, .ref b12, .ref b13, .ref b14, .int b15, .ref b16, .ref b17, .ref b18, .ref b19, .ref b20, .ref b21, .ref b22, .ref b23, .ref b24, .ref b25, .ref b26, .ref b27, .int y_8325, .ref b29, .ref b30, .int b31, .int b32, .int b33, .int b34, .ref b35, .ref b36, .ref b37, .ref b38, .ref b39, .ref b40, .ref b41, .int b42, .ref b43, .ref b44, .int b45, .ref b46, .ref b47, .ref b48, .ref b49, .ref b50, .int b51, .ref b52, .ref b53, .ref b54])), (b2, .inl (G.2 0, 503, .inl b55))] H → va_D A [(b18, .inl (G.2 0, 520, .inl b56)), (b21, .inl (G.2 0, 482, .inl b57)), (b26, .inl (G.2 0, 2, .inl b58)), (b27, .inl (G.2 0, 2880, .inl b59)), (b35, .inl (G.2 1, 4096, .inr (.inl y_10736))), (b36, .inl (G.2 1, 4096, .inr (.inl y_10737))), (b37, .inl (G.2 1, 80, .inr (.inl y_8326))), (b0, .inr (12, [.int b1, .ref b2, .ref b3, .ref b4, .ref b5, .int b6, .ref b7, .int b8, .int b9, .int b10, .int b11, .ref b12, .ref b13, .ref b14, .int b15, .ref b16, .ref b17, .ref b18, .ref b19, .ref b20, .ref b21, .ref b22, .ref b23, .ref b24, .ref b25, .ref b26, .ref b27, .int y_8325, .ref b29, .ref b30, .int b31, .int b32, .int b33, .int b34, .ref b35, .ref b36, .ref b37, .ref b38, .ref b39, .ref b40, .ref b41, .int b42, .ref b43, .ref b44, .int b45, .ref b46, .ref b47, .ref b48, .ref b49, .ref b50, .int b51, .ref b52, .ref b53, .ref b54])), (b2, .inl (G.2 0, 503, .inl b55))] → va_S A s.heap H locs → lv_has ls 5 [(4, .int y_10735), (3, .int v_10704), (2, .int 5), (1, .int y_10355), (0, .ref b0)] → W p l e m_s2_Model_layGoes s m ([.ref b0] : List Value).toArray below meth c H locs 0 0 (MQ below (zQ G (fun v w => ∃ (e0 : Int32), ∃ (e1 : Nat → Int64), ∃ (e2 : Nat → Int64), ∃ (e3 : Nat → Int64), v = none ∧ w = [(b0, .inr (12, [.int b1, .ref b2, .ref b3, .ref b4, .ref b5, .int b6, .ref b7, .int b8, .int b9, .int b10, .int b11, .ref b12, .ref b13, .ref b14, .int b15, .ref b16, .ref b17, .ref b18, .ref b19, .ref b20, .ref b21, .ref b22, .ref b23, .ref b24, .ref b25, .ref b26, .ref b27, .int e0, .ref b29, .ref b30, .int b31, .int b32, .int b33, .int b34, .ref b35, .ref b36, .ref b37, .ref b38, .ref b39, .ref b40, .ref b41, .int b42, .ref b43, .ref b44, .int b45, .ref b46, .ref b47, .ref b48, .ref b49, .ref b50, .int b51, .ref b52, .ref b53, .ref b54])), (b2, .inl (G.2 0, 503, .inl b55)), (b18, .inl (G.2 0, 520, .inl b56)), (b21, .inl (G.2 0, 482, .inl b57)), (b26, .inl (G.2 0, 2, .inl b58)), (b27, .inl (G.2 0, 2880, .inl b59)), (b35, .inl (G.2 1, 4096, .inr (.inl e1))), (b36, .inl (G.2 1, 4096, .inr (.inl e2))), (b37, .inl (G.2 1, 80, .inr (.inl e3)))] ∧ (zI e0 0 1)) A) ([.ref b0] : List Value).toArray s m_s2_Model_layGoes.cells m_s2_Model_layGoes.slots A) (F0 m 167 ls []) by
                                exact key 5 (0) (y_10356) (y_10357) _ _ _ (zI.wk (l' := 0) (h' := 4) zc_0 (by decide)) (zm_upi (zI.wk (l' := 0) (h' := 4) zc_0 (by decide)) (by decide)) hP hD hS (lv_sub hl [0, 1, 2, 3, 4] rfl)
                              intro k_10734
                              induction k_10734 with
                              | zero =>
                                intro y_10735 y_10736 y_10737 H locs ls hy_10735 hmk_10734 hP hD hS hl
                                exact (zm_up0 hy_10735 hmk_10734).elim
                              | succ k_10734 ihk_10734 =>
                                intro y_10735 y_10736 y_10737 H locs ls hy_10735 hmk_10734 hP hD hS hl
                                refine lv_iload hx hb d_Model_layGoes_167 (lv_at hl 0 rfl) ?_
                                refine lv_iconst (v := 4) hx hb d_Model_layGoes_169 (by decide) ?_
                                refine lv_icmp_ge (tgt := 250) hx hb d_Model_layGoes_170 (by decide) (fun hc_10738 => ?_) (fun hc_10738 => ?_)
                                · have _nhc_10738 := hc_10738
                                  have ni_10739 := (fa_le _ _).mp hc_10738
                                  rw [li_4] at ni_10739
                                  have hv_10740 : zI y_10735 4 4 := zI.le_r zc_4 hy_10735 hc_10738 (by decide)
                                  obtain ⟨v_10741, ev_10741⟩ : ∃ z : Int32, z = y_10355 + 1 := ⟨_, rfl⟩
                                  obtain ⟨qv_10741, hv_10741⟩ := zI_add (l := 2) (h := 1024) hv_10362 zc_1 ev_10741 (by decide)
                                  rw [li_1] at qv_10741
                                  refine lv_iinc (v := v_10741) (lv' := [(1, .int v_10741), (4, .int y_10735), (3, .int v_10704), (2, .int 5), (0, .ref b0)]) hx hb d_Model_layGoes_250 hl (k := 3) rfl (by rw [ev_10741]; rfl) (by decide) rfl (fun ls hl => ?_)
                                  refine lv_goto (tgt := 135) hx hb d_Model_layGoes_253 (by decide) ?_
                                  exact ihk_10354 (v_10741) (y_10736) (y_10737) _ _ _ (zI.wk (l' := 1) (h' := 1024) hv_10741 (by decide)) (zm_up qv_10741 hmk_10354 (by decide)) hP hD hS (lv_sub hl [0, 4] rfl)
                                · have _nhc_10738 := hc_10738
                                  have ni_10742 := (fa_lt _ _).mp (zi_nle hc_10738)
                                  rw [li_4] at ni_10742
                                  have hv_10743 : zI y_10735 0 3 := zI.lt_l hy_10735 zc_4 (zi_nle hc_10738) (by decide)
                                  refine lv_aload_n hx hb d_Model_layGoes_173 rfl (lv_at hl 4 rfl) ?_
                                  refine va_get (D := G.1) (ci := 12) (v := .ref b35) (C := R_Model) (T := F_Model) (N := 54) hx hb hts i_Model hown hK hP 7 rfl rfl 34 (by decide) (hts _ q1143) (fun _ h9 => h9) rfl d_Model_layGoes_174 ?_
                                  refine lv_iconst (v := 4) hx hb d_Model_layGoes_177 (by decide) ?_
                                  refine lv_iload_n hx hb d_Model_layGoes_178 rfl (lv_at hl 3 rfl) ?_
                                  refine lv_imul hx hb d_Model_layGoes_179 ?_
                                  refine lv_topi (fun v_10744 ev_10744 => ?_)
                                  obtain ⟨qv_10744, hv_10744⟩ := zI_mul (l := 4) (h := 4092) zc_4 hv_10362 ev_10744 (by decide)
                                  rw [li_4] at qv_10744
                                  refine lv_iload hx hb d_Model_layGoes_180 (lv_at hl 0 rfl) ?_
                                  refine lv_iadd hx hb d_Model_layGoes_182 ?_
                                  refine lv_topi (fun v_10745 ev_10745 => ?_)
                                  obtain ⟨qv_10745, hv_10745⟩ := zI_add (l := 4) (h := 4095) hv_10744 hv_10743 ev_10745 (by decide)
                                  refine lv_aload_n hx hb d_Model_layGoes_183 rfl (lv_at hl 4 rfl) ?_
                                  refine va_get (D := G.1) (ci := 12) (v := .ref b35) (C := R_Model) (T := F_Model) (N := 54) hx hb hts i_Model hown hK hP 7 rfl rfl 34 (by decide) (hts _ q1143) (fun _ h9 => h9) rfl d_Model_layGoes_184 ?_
                                  refine lv_iconst (v := 4) hx hb d_Model_layGoes_187 (by decide) ?_
                                  refine lv_iload_n hx hb d_Model_layGoes_188 rfl (lv_at hl 1 rfl) ?_
                                  refine lv_imul hx hb d_Model_layGoes_189 ?_
                                  refine lv_topi (fun v_10746 ev_10746 => ?_)
                                  obtain ⟨qv_10746, hv_10746⟩ := zI_mul (l := 0) (h := 4092) zc_4 hv_10705 ev_10746 (by decide)
                                  rw [li_4] at qv_10746
                                  refine lv_iload hx hb d_Model_layGoes_190 (lv_at hl 0 rfl) ?_
                                  refine lv_iadd hx hb d_Model_layGoes_192 ?_
                                  refine lv_topi (fun v_10747 ev_10747 => ?_)
                                  obtain ⟨qv_10747, hv_10747⟩ := zI_add (l := 0) (h := 4095) hv_10746 hv_10743 ev_10747 (by decide)
                                  refine va_lald hx hb hK hP 4 1 rfl rfl (zI.inn hv_10747 (by decide)) d_Model_layGoes_193 ?_
                                  refine lv_topl (fun v_10748 ev_10748 => ?_)
                                  refine lv_aload_n hx hb d_Model_layGoes_194 rfl (lv_at hl 4 rfl) ?_
                                  refine va_get (D := G.1) (ci := 12) (v := .ref b37) (C := R_Model) (T := F_Model) (N := 54) hx hb hts i_Model hown hK hP 7 rfl rfl 36 (by decide) (hts _ q1145) (fun _ h9 => h9) rfl d_Model_layGoes_195 ?_
                                  refine lv_iconst (v := 4) hx hb d_Model_layGoes_198 (by decide) ?_
                                  refine lv_iload_n hx hb d_Model_layGoes_199 rfl (lv_at hl 2 rfl) ?_
                                  refine lv_imul hx hb d_Model_layGoes_200 ?_
                                  refine z_topi (y := 20) (by decide +kernel) ?_
                                  refine lv_iload hx hb d_Model_layGoes_201 (lv_at hl 0 rfl) ?_
                                  refine lv_iadd hx hb d_Model_layGoes_203 ?_
                                  refine lv_topi (fun v_10749 ev_10749 => ?_)
                                  obtain ⟨qv_10749, hv_10749⟩ := zI_add (l := 20) (h := 23) zc_20 hv_10743 ev_10749 (by decide)
                                  rw [li_20] at qv_10749
                                  refine va_lald hx hb hK hP 6 1 rfl rfl (zI.inn hv_10749 (by decide)) d_Model_layGoes_204 ?_
                                  refine lv_topl (fun v_10750 ev_10750 => ?_)
                                  refine lv_lor hx hb d_Model_layGoes_205 ?_
                                  refine lv_topl (fun v_10751 ev_10751 => ?_)
                                  refine va_last hx hb hK hP hD hS 4 1 rfl rfl (zI.inn hv_10745 (by decide)) d_Model_layGoes_206 (fun H locs hP hD hS => ?_)
                                  obtain ⟨f_10752, hP, hD⟩ := z_newL 4 hP hD rfl
                                  have hP : va_P G.1 classes [(b18, .inl (G.2 0, 520, .inl b56)), (b21, .inl (G.2 0, 482, .inl b57)), (b26, .inl (G.2 0, 2, .inl b58)), (b27, .inl (G.2 0, 2880, .inl b59)), (b35, .inl (G.2 1, 4096, .inr (.inl f_10752))), (b36, .inl (G.2 1, 4096, .inr (.inl y_10737))), (b37, .inl (G.2 1, 80, .inr (.inl y_8326))), (b0, .inr (12, [.int b1, .ref b2, .ref b3, .ref b4, .ref b5, .int b6, .ref b7, .int b8, .int b9, .int b10, .int b11, .ref b12, .ref b13, .ref b14, .int b15, .ref b16, .ref b17, .ref b18, .ref b19, .ref b20, .ref b21, .ref b22, .ref b23, .ref b24, .ref b25, .ref b26, .ref b27, .int y_8325, .ref b29, .ref b30, .int b31, .int b32, .int b33, .int b34, .ref b35, .ref b36, .ref b37, .ref b38, .ref b39, .ref b40, .ref b41, .int b42, .ref b43, .ref b44, .int b45, .ref b46, .ref b47, .ref b48, .ref b49, .ref b50, .int b51, .ref b52, .ref b53, .ref b54])), (b2, .inl (G.2 0, 503, .inl b55))] H := hP
                                  have hD := z_tie hP hD rfl
                                  refine lv_aload_n hx hb d_Model_layGoes_207 rfl (lv_at hl 4 rfl) ?_
                                  refine va_get (D := G.1) (ci := 12) (v := .ref b36) (C := R_Model) (T := F_Model) (N := 54) hx hb hts i_Model hown hK hP 7 rfl rfl 35 (by decide) (hts _ q1144) (fun _ h9 => h9) rfl d_Model_layGoes_208 ?_
                                  refine lv_iconst (v := 4) hx hb d_Model_layGoes_211 (by decide) ?_
                                  refine lv_iload_n hx hb d_Model_layGoes_212 rfl (lv_at hl 3 rfl) ?_
                                  refine lv_imul hx hb d_Model_layGoes_213 ?_
                                  refine lv_topi (fun v_10753 ev_10753 => ?_)
                                  obtain rfl : v_10744 = v_10753 := ev_10744.trans ev_10753.symm
                                  refine lv_iload hx hb d_Model_layGoes_214 (lv_at hl 0 rfl) ?_
                                  refine lv_iadd hx hb d_Model_layGoes_216 ?_
                                  refine lv_topi (fun v_10754 ev_10754 => ?_)
                                  obtain rfl : v_10745 = v_10754 := ev_10745.trans ev_10754.symm
                                  refine lv_aload_n hx hb d_Model_layGoes_217 rfl (lv_at hl 4 rfl) ?_
                                  refine va_get (D := G.1) (ci := 12) (v := .ref b36) (C := R_Model) (T := F_Model) (N := 54) hx hb hts i_Model hown hK hP 7 rfl rfl 35 (by decide) (hts _ q1144) (fun _ h9 => h9) rfl d_Model_layGoes_218 ?_
                                  refine lv_iconst (v := 4) hx hb d_Model_layGoes_221 (by decide) ?_
                                  refine lv_iload_n hx hb d_Model_layGoes_222 rfl (lv_at hl 1 rfl) ?_
                                  refine lv_imul hx hb d_Model_layGoes_223 ?_
                                  refine lv_topi (fun v_10755 ev_10755 => ?_)
                                  obtain rfl : v_10746 = v_10755 := ev_10746.trans ev_10755.symm
                                  refine lv_iload hx hb d_Model_layGoes_224 (lv_at hl 0 rfl) ?_
                                  refine lv_iadd hx hb d_Model_layGoes_226 ?_
                                  refine lv_topi (fun v_10756 ev_10756 => ?_)
                                  obtain rfl : v_10747 = v_10756 := ev_10747.trans ev_10756.symm
                                  refine va_lald hx hb hK hP 5 1 rfl rfl (zI.inn hv_10747 (by decide)) d_Model_layGoes_227 ?_
                                  refine lv_topl (fun v_10757 ev_10757 => ?_)
                                  refine lv_aload_n hx hb d_Model_layGoes_228 rfl (lv_at hl 4 rfl) ?_
                                  refine va_get (D := G.1) (ci := 12) (v := .ref b37) (C := R_Model) (T := F_Model) (N := 54) hx hb hts i_Model hown hK hP 7 rfl rfl 36 (by decide) (hts _ q1145) (fun _ h9 => h9) rfl d_Model_layGoes_229 ?_
                                  refine lv_iconst (v := 4) hx hb d_Model_layGoes_232 (by decide) ?_
                                  refine lv_iload_n hx hb d_Model_layGoes_233 rfl (lv_at hl 2 rfl) ?_
                                  refine lv_bipush (v := 10) hx hb d_Model_layGoes_234 (by decide) ?_
                                  refine lv_iadd hx hb d_Model_layGoes_236 ?_
                                  refine z_topi (y := 15) (by decide +kernel) ?_
                                  refine lv_imul hx hb d_Model_layGoes_237 ?_
                                  refine z_topi (y := 60) (by decide +kernel) ?_
                                  refine lv_iload hx hb d_Model_layGoes_238 (lv_at hl 0 rfl) ?_
                                  refine lv_iadd hx hb d_Model_layGoes_240 ?_
                                  refine lv_topi (fun v_10758 ev_10758 => ?_)
                                  obtain ⟨qv_10758, hv_10758⟩ := zI_add (l := 60) (h := 63) zc_60 hv_10743 ev_10758 (by decide)
                                  rw [li_60] at qv_10758
                                  refine va_lald hx hb hK hP 6 1 rfl rfl (zI.inn hv_10758 (by decide)) d_Model_layGoes_241 ?_
                                  refine lv_topl (fun v_10759 ev_10759 => ?_)
                                  refine lv_lor hx hb d_Model_layGoes_242 ?_
                                  refine lv_topl (fun v_10760 ev_10760 => ?_)
                                  refine va_last hx hb hK hP hD hS 5 1 rfl rfl (zI.inn hv_10745 (by decide)) d_Model_layGoes_243 (fun H locs hP hD hS => ?_)
                                  obtain ⟨f_10761, hP, hD⟩ := z_newL 5 hP hD rfl
                                  have hP : va_P G.1 classes [(b18, .inl (G.2 0, 520, .inl b56)), (b21, .inl (G.2 0, 482, .inl b57)), (b26, .inl (G.2 0, 2, .inl b58)), (b27, .inl (G.2 0, 2880, .inl b59)), (b35, .inl (G.2 1, 4096, .inr (.inl f_10752))), (b36, .inl (G.2 1, 4096, .inr (.inl f_10761))), (b37, .inl (G.2 1, 80, .inr (.inl y_8326))), (b0, .inr (12, [.int b1, .ref b2, .ref b3, .ref b4, .ref b5, .int b6, .ref b7, .int b8, .int b9, .int b10, .int b11, .ref b12, .ref b13, .ref b14, .int b15, .ref b16, .ref b17, .ref b18, .ref b19, .ref b20, .ref b21, .ref b22, .ref b23, .ref b24, .ref b25, .ref b26, .ref b27, .int y_8325, .ref b29, .ref b30, .int b31, .int b32, .int b33, .int b34, .ref b35, .ref b36, .ref b37, .ref b38, .ref b39, .ref b40, .ref b41, .int b42, .ref b43, .ref b44, .int b45, .ref b46, .ref b47, .ref b48, .ref b49, .ref b50, .int b51, .ref b52, .ref b53, .ref b54])), (b2, .inl (G.2 0, 503, .inl b55))] H := hP
                                  have hD := z_tie hP hD rfl
                                  obtain ⟨v_10762, ev_10762⟩ : ∃ z : Int32, z = y_10735 + 1 := ⟨_, rfl⟩
                                  obtain ⟨qv_10762, hv_10762⟩ := zI_add (l := 1) (h := 4) hv_10743 zc_1 ev_10762 (by decide)
                                  rw [li_1] at qv_10762
                                  refine lv_iinc (v := v_10762) (lv' := [(4, .int v_10762), (3, .int v_10704), (2, .int 5), (1, .int y_10355), (0, .ref b0)]) hx hb d_Model_layGoes_244 hl (k := 0) rfl (by rw [ev_10762]; rfl) (by decide) rfl (fun ls hl => ?_)
                                  refine lv_goto (tgt := 167) hx hb d_Model_layGoes_247 (by decide) ?_
                                  exact ihk_10734 (v_10762) (f_10752) (f_10761) _ _ _ (zI.wk (l' := 0) (h' := 4) hv_10762 (by decide)) (zm_up qv_10762 hmk_10734 (by decide)) hP hD hS (lv_sub hl [0, 1, 2, 3, 4] rfl)
                            · have _nhc_10700 := hc_10700
                              have ni_10763 := (fa_eq _ _).mp hc_10700
                              rw [li_0] at ni_10763
                              have hv_10764 : zI v_10699 0 0 := zI.eq_l hv_10699 zc_0 hc_10700
                              refine lv_iinc (v := 6) (lv' := [(2, .int 6), (1, .int y_10355), (0, .ref b0)]) hx hb d_Model_layGoes_152 hl (k := 0) rfl (by decide +kernel) (by decide) rfl (fun ls hl => ?_)
                              refine lv_goto (tgt := 144) hx hb d_Model_layGoes_155 (by decide) ?_
                              refine lv_iload_n hx hb d_Model_layGoes_144 rfl (lv_at hl 1 rfl) ?_
                              refine lv_iload_n hx hb d_Model_layGoes_145 rfl (lv_at hl 0 rfl) ?_
                              refine lv_ishr hx hb d_Model_layGoes_146 ?_
                              refine lv_topi (fun v_10765 ev_10765 => ?_)
                              obtain ⟨qv_10765, hv_10765⟩ := zI_shr (l := 0) (h := 15) (k := 6) hv_10362 (by decide +kernel) ev_10765 (by decide)
                              refine lv_iconst (v := 1) hx hb d_Model_layGoes_147 (by decide) ?_
                              refine lv_iand hx hb d_Model_layGoes_148 ?_
                              refine lv_topi (fun v_10766 ev_10766 => ?_)
                              have hv_10766 := zI_and (k := 1) (h := 1) (by decide +kernel) ev_10766 (by decide)
                              have qav_10766 := zI_andq (k := 1) hv_10765 (by decide) (by decide +kernel) ev_10766
                              refine lv_if_ne (tgt := 158) hx hb d_Model_layGoes_149 (by decide) (fun hc_10767 => ?_) (fun hc_10767 => ?_)
                              · have _nhc_10767 := hc_10767
                                have ni_10768 : ¬ (v_10766 : Int32).toInt = (0 : Int32).toInt := fun z => hc_10767 ((fa_eq _ _).mpr z)
                                simp only [li_0] at ni_10768
                                have hv_10769 : zI v_10766 1 1 := zI.ne_lo hv_10766 zc_0 hc_10767 (by decide)
                                refine lv_iload_n hx hb d_Model_layGoes_158 rfl (lv_at hl 1 rfl) ?_
                                refine lv_iload_n hx hb d_Model_layGoes_159 rfl (lv_at hl 1 rfl) ?_
                                refine lv_iconst (v := 1) hx hb d_Model_layGoes_160 (by decide) ?_
                                refine lv_isub hx hb d_Model_layGoes_161 ?_
                                refine lv_topi (fun v_10770 ev_10770 => ?_)
                                obtain ⟨qv_10770, hv_10770⟩ := zI_sub (l := 0) (h := 1022) hv_10362 zc_1 ev_10770 (by decide)
                                rw [li_1] at qv_10770
                                refine lv_iand hx hb d_Model_layGoes_162 ?_
                                refine lv_topi (fun v_10771 ev_10771 => ?_)
                                have hv_10772 : zI v_10771 0 1023 := zI_andl hv_10362 (by decide) ev_10771
                                refine lv_istore_n (lv' := [(3, .int v_10771), (2, .int 6), (1, .int y_10355), (0, .ref b0)]) hx hb d_Model_layGoes_163 rfl hl (by decide) rfl (fun ls hl => ?_)
                                refine lv_iconst (v := 0) hx hb d_Model_layGoes_164 (by decide) ?_
                                refine lv_istore (lv' := [(4, .int 0), (3, .int v_10771), (2, .int 6), (1, .int y_10355), (0, .ref b0)]) hx hb d_Model_layGoes_165 hl (by decide) rfl (fun ls hl => ?_)
                                suffices key : ∀ (k_10801 : Nat) (y_10802 : Int32) (y_10803 : Nat → Int64) (y_10804 : Nat → Int64) (H : Heap) (locs : List Loc) (ls : Array Slot), (zI y_10802 0 4) → (4 : Int) - y_10802.toInt < (k_10801 : Int) → va_P G.1 classes [(b18, .inl (G.2 0, 520, .inl b56)), (b21, .inl (G.2 0, 482, .inl b57)), (b26, .inl (G.2 0, 2, .inl b58)), (b27, .inl (G.2 0, 2880, .inl b59)), (b35, .inl (G.2 1, 4096, .inr (.inl y_10803))), (b36, .inl (G.2 1, 4096, .inr (.inl y_10804))), (b37, .inl (G.2 1, 80, .inr (.inl y_8326))), (b0, .inr (12, [.int b1, .ref b2, .ref b3, .ref b4, .ref b5, .int b6, .ref b7, .int b8, .int b9, .int b10, .int b11, .ref b12, .ref b13, .ref b14, .int b15, .ref b16, .ref b17, .ref b18, .ref b19, .ref b20, .ref b21, .ref b22, .ref b23, .ref b24, .ref b25, .ref b26, .ref b27, .int y_8325, .ref b29, .ref b30, .int b31, .int b32, .int b33, .int b34, .ref b35, .ref b36, .ref b37, .ref b38, .ref b39, .ref b40, .ref b41, .int b42, .ref b43, .ref b44, .int b45, .ref b46, .ref b47, .ref b48, .ref b49, .ref b50, .int b51, .ref b52, .ref b53, .ref b54])), (b2, .inl (G.2 0, 503, .inl b55))] H → va_D A [(b18, .inl (G.2 0, 520, .inl b56)), (b21, .inl (G.2 0, 482, .inl b57)), (b26, .inl (G.2 0, 2, .inl b58)), (b27, .inl (G.2 0, 2880, .inl b59)), (b35, .inl (G.2 1, 4096, .inr (.inl y_10803))), (b36, .inl (G.2 1, 4096, .inr (.inl y_10804))), (b37, .inl (G.2 1, 80, .inr (.inl y_8326))), (b0, .inr (12, [.int b1, .ref b2, .ref b3, .ref b4, .ref b5, .int b6, .ref b7, .int b8, .int b9, .int b10, .int b11, .ref b12, .ref b13, .ref b14, .int b15, .ref b16, .ref b17, .ref b18, .ref b19, .ref b20, .ref b21, .ref b22, .ref b23, .ref b24, .ref b25, .ref b26, .ref b27, .int y_8325, .ref b29, .ref b30, .int b31, .int b32, .int b33, .int b34, .ref b35, .ref b36, .ref b37, .ref b38, .ref b39, .ref b40, .ref b41, .int b42, .ref b43, .ref b44, .int b45, .ref b46, .ref b47, .ref b48, .ref b49, .ref b50, .int b51, .ref b52, .ref b53, .ref b54])), (b2, .inl (G.2 0, 503, .inl b55))] → va_S A s.heap H locs → lv_has ls 5 [(4, .int y_10802), (3, .int v_10771), (2, .int 6), (1, .int y_10355), (0, .ref b0)] → W p l e m_s2_Model_layGoes s m ([.ref b0] : List Value).toArray below meth c H locs 0 0 (MQ below (zQ G (fun v w => ∃ (e0 : Int32), ∃ (e1 : Nat → Int64), ∃ (e2 : Nat → Int64), ∃ (e3 : Nat → Int64), v = none ∧ w = [(b0, .inr (12, [.int b1, .ref b2, .ref b3, .ref b4, .ref b5, .int b6, .ref b7, .int b8, .int b9, .int b10, .int b11, .ref b12, .ref b13, .ref b14, .int b15, .ref b16, .ref b17, .ref b18, .ref b19, .ref b20, .ref b21, .ref b22, .ref b23, .ref b24, .ref b25, .ref b26, .ref b27, .int e0, .ref b29, .ref b30, .int b31, .int b32, .int b33, .int b34, .ref b35, .ref b36, .ref b37, .ref b38, .ref b39, .ref b40, .ref b41, .int b42, .ref b43, .ref b44, .int b45, .ref b46, .ref b47, .ref b48, .ref b49, .ref b50, .int b51, .ref b52, .ref b53, .ref b54])), (b2, .inl (G.2 0, 503, .inl b55)), (b18, .inl (G.2 0, 520, .inl b56)), (b21, .inl (G.2 0, 482, .inl b57)), (b26, .inl (G.2 0, 2, .inl b58)), (b27, .inl (G.2 0, 2880, .inl b59)), (b35, .inl (G.2 1, 4096, .inr (.inl e1))), (b36, .inl (G.2 1, 4096, .inr (.inl e2))), (b37, .inl (G.2 1, 80, .inr (.inl e3)))] ∧ (zI e0 0 1)) A) ([.ref b0] : List Value).toArray s m_s2_Model_layGoes.cells m_s2_Model_layGoes.slots A) (F0 m 167 ls []) by
                                  exact key 5 (0) (y_10356) (y_10357) _ _ _ (zI.wk (l' := 0) (h' := 4) zc_0 (by decide)) (zm_upi (zI.wk (l' := 0) (h' := 4) zc_0 (by decide)) (by decide)) hP hD hS (lv_sub hl [0, 1, 2, 3, 4] rfl)
                                intro k_10801
                                induction k_10801 with
                                | zero =>
                                  intro y_10802 y_10803 y_10804 H locs ls hy_10802 hmk_10801 hP hD hS hl
                                  exact (zm_up0 hy_10802 hmk_10801).elim
                                | succ k_10801 ihk_10801 =>
                                  intro y_10802 y_10803 y_10804 H locs ls hy_10802 hmk_10801 hP hD hS hl
                                  refine lv_iload hx hb d_Model_layGoes_167 (lv_at hl 0 rfl) ?_
                                  refine lv_iconst (v := 4) hx hb d_Model_layGoes_169 (by decide) ?_
                                  refine lv_icmp_ge (tgt := 250) hx hb d_Model_layGoes_170 (by decide) (fun hc_10805 => ?_) (fun hc_10805 => ?_)
                                  · have _nhc_10805 := hc_10805
                                    have ni_10806 := (fa_le _ _).mp hc_10805
                                    rw [li_4] at ni_10806
                                    have hv_10807 : zI y_10802 4 4 := zI.le_r zc_4 hy_10802 hc_10805 (by decide)
                                    obtain ⟨v_10808, ev_10808⟩ : ∃ z : Int32, z = y_10355 + 1 := ⟨_, rfl⟩
                                    obtain ⟨qv_10808, hv_10808⟩ := zI_add (l := 2) (h := 1024) hv_10362 zc_1 ev_10808 (by decide)
                                    rw [li_1] at qv_10808
                                    refine lv_iinc (v := v_10808) (lv' := [(1, .int v_10808), (4, .int y_10802), (3, .int v_10771), (2, .int 6), (0, .ref b0)]) hx hb d_Model_layGoes_250 hl (k := 3) rfl (by rw [ev_10808]; rfl) (by decide) rfl (fun ls hl => ?_)
                                    refine lv_goto (tgt := 135) hx hb d_Model_layGoes_253 (by decide) ?_
                                    exact ihk_10354 (v_10808) (y_10803) (y_10804) _ _ _ (zI.wk (l' := 1) (h' := 1024) hv_10808 (by decide)) (zm_up qv_10808 hmk_10354 (by decide)) hP hD hS (lv_sub hl [0, 4] rfl)
                                  · have _nhc_10805 := hc_10805
                                    have ni_10809 := (fa_lt _ _).mp (zi_nle hc_10805)
                                    rw [li_4] at ni_10809
                                    have hv_10810 : zI y_10802 0 3 := zI.lt_l hy_10802 zc_4 (zi_nle hc_10805) (by decide)
                                    refine lv_aload_n hx hb d_Model_layGoes_173 rfl (lv_at hl 4 rfl) ?_
                                    refine va_get (D := G.1) (ci := 12) (v := .ref b35) (C := R_Model) (T := F_Model) (N := 54) hx hb hts i_Model hown hK hP 7 rfl rfl 34 (by decide) (hts _ q1143) (fun _ h9 => h9) rfl d_Model_layGoes_174 ?_
                                    refine lv_iconst (v := 4) hx hb d_Model_layGoes_177 (by decide) ?_
                                    refine lv_iload_n hx hb d_Model_layGoes_178 rfl (lv_at hl 3 rfl) ?_
                                    refine lv_imul hx hb d_Model_layGoes_179 ?_
                                    refine lv_topi (fun v_10811 ev_10811 => ?_)
                                    obtain ⟨qv_10811, hv_10811⟩ := zI_mul (l := 4) (h := 4092) zc_4 hv_10362 ev_10811 (by decide)
                                    rw [li_4] at qv_10811
                                    refine lv_iload hx hb d_Model_layGoes_180 (lv_at hl 0 rfl) ?_
                                    refine lv_iadd hx hb d_Model_layGoes_182 ?_
                                    refine lv_topi (fun v_10812 ev_10812 => ?_)
                                    obtain ⟨qv_10812, hv_10812⟩ := zI_add (l := 4) (h := 4095) hv_10811 hv_10810 ev_10812 (by decide)
                                    refine lv_aload_n hx hb d_Model_layGoes_183 rfl (lv_at hl 4 rfl) ?_
                                    refine va_get (D := G.1) (ci := 12) (v := .ref b35) (C := R_Model) (T := F_Model) (N := 54) hx hb hts i_Model hown hK hP 7 rfl rfl 34 (by decide) (hts _ q1143) (fun _ h9 => h9) rfl d_Model_layGoes_184 ?_
                                    refine lv_iconst (v := 4) hx hb d_Model_layGoes_187 (by decide) ?_
                                    refine lv_iload_n hx hb d_Model_layGoes_188 rfl (lv_at hl 1 rfl) ?_
                                    refine lv_imul hx hb d_Model_layGoes_189 ?_
                                    refine lv_topi (fun v_10813 ev_10813 => ?_)
                                    obtain ⟨qv_10813, hv_10813⟩ := zI_mul (l := 0) (h := 4092) zc_4 hv_10772 ev_10813 (by decide)
                                    rw [li_4] at qv_10813
                                    refine lv_iload hx hb d_Model_layGoes_190 (lv_at hl 0 rfl) ?_
                                    refine lv_iadd hx hb d_Model_layGoes_192 ?_
                                    refine lv_topi (fun v_10814 ev_10814 => ?_)
                                    obtain ⟨qv_10814, hv_10814⟩ := zI_add (l := 0) (h := 4095) hv_10813 hv_10810 ev_10814 (by decide)
                                    refine va_lald hx hb hK hP 4 1 rfl rfl (zI.inn hv_10814 (by decide)) d_Model_layGoes_193 ?_
                                    refine lv_topl (fun v_10815 ev_10815 => ?_)
                                    refine lv_aload_n hx hb d_Model_layGoes_194 rfl (lv_at hl 4 rfl) ?_
                                    refine va_get (D := G.1) (ci := 12) (v := .ref b37) (C := R_Model) (T := F_Model) (N := 54) hx hb hts i_Model hown hK hP 7 rfl rfl 36 (by decide) (hts _ q1145) (fun _ h9 => h9) rfl d_Model_layGoes_195 ?_
                                    refine lv_iconst (v := 4) hx hb d_Model_layGoes_198 (by decide) ?_
                                    refine lv_iload_n hx hb d_Model_layGoes_199 rfl (lv_at hl 2 rfl) ?_
                                    refine lv_imul hx hb d_Model_layGoes_200 ?_
                                    refine z_topi (y := 24) (by decide +kernel) ?_
                                    refine lv_iload hx hb d_Model_layGoes_201 (lv_at hl 0 rfl) ?_
                                    refine lv_iadd hx hb d_Model_layGoes_203 ?_
                                    refine lv_topi (fun v_10816 ev_10816 => ?_)
                                    obtain ⟨qv_10816, hv_10816⟩ := zI_add (l := 24) (h := 27) zc_24 hv_10810 ev_10816 (by decide)
                                    rw [li_24] at qv_10816
                                    refine va_lald hx hb hK hP 6 1 rfl rfl (zI.inn hv_10816 (by decide)) d_Model_layGoes_204 ?_
                                    refine lv_topl (fun v_10817 ev_10817 => ?_)
                                    refine lv_lor hx hb d_Model_layGoes_205 ?_
                                    refine lv_topl (fun v_10818 ev_10818 => ?_)
                                    refine va_last hx hb hK hP hD hS 4 1 rfl rfl (zI.inn hv_10812 (by decide)) d_Model_layGoes_206 (fun H locs hP hD hS => ?_)
                                    obtain ⟨f_10819, hP, hD⟩ := z_newL 4 hP hD rfl
                                    have hP : va_P G.1 classes [(b18, .inl (G.2 0, 520, .inl b56)), (b21, .inl (G.2 0, 482, .inl b57)), (b26, .inl (G.2 0, 2, .inl b58)), (b27, .inl (G.2 0, 2880, .inl b59)), (b35, .inl (G.2 1, 4096, .inr (.inl f_10819))), (b36, .inl (G.2 1, 4096, .inr (.inl y_10804))), (b37, .inl (G.2 1, 80, .inr (.inl y_8326))), (b0, .inr (12, [.int b1, .ref b2, .ref b3, .ref b4, .ref b5, .int b6, .ref b7, .int b8, .int b9, .int b10, .int b11, .ref b12, .ref b13, .ref b14, .int b15, .ref b16, .ref b17, .ref b18, .ref b19, .ref b20, .ref b21, .ref b22, .ref b23, .ref b24, .ref b25, .ref b26, .ref b27, .int y_8325, .ref b29, .ref b30, .int b31, .int b32, .int b33, .int b34, .ref b35, .ref b36, .ref b37, .ref b38, .ref b39, .ref b40, .ref b41, .int b42, .ref b43, .ref b44, .int b45, .ref b46, .ref b47, .ref b48, .ref b49, .ref b50, .int b51, .ref b52, .ref b53, .ref b54])), (b2, .inl (G.2 0, 503, .inl b55))] H := hP
                                    have hD := z_tie hP hD rfl
                                    refine lv_aload_n hx hb d_Model_layGoes_207 rfl (lv_at hl 4 rfl) ?_
                                    refine va_get (D := G.1) (ci := 12) (v := .ref b36) (C := R_Model) (T := F_Model) (N := 54) hx hb hts i_Model hown hK hP 7 rfl rfl 35 (by decide) (hts _ q1144) (fun _ h9 => h9) rfl d_Model_layGoes_208 ?_
                                    refine lv_iconst (v := 4) hx hb d_Model_layGoes_211 (by decide) ?_
                                    refine lv_iload_n hx hb d_Model_layGoes_212 rfl (lv_at hl 3 rfl) ?_
                                    refine lv_imul hx hb d_Model_layGoes_213 ?_
                                    refine lv_topi (fun v_10820 ev_10820 => ?_)
                                    obtain rfl : v_10811 = v_10820 := ev_10811.trans ev_10820.symm
                                    refine lv_iload hx hb d_Model_layGoes_214 (lv_at hl 0 rfl) ?_
                                    refine lv_iadd hx hb d_Model_layGoes_216 ?_
                                    refine lv_topi (fun v_10821 ev_10821 => ?_)
                                    obtain rfl : v_10812 = v_10821 := ev_10812.trans ev_10821.symm
                                    refine lv_aload_n hx hb d_Model_layGoes_217 rfl (lv_at hl 4 rfl) ?_
                                    refine va_get (D := G.1) (ci := 12) (v := .ref b36) (C := R_Model) (T := F_Model) (N := 54) hx hb hts i_Model hown hK hP 7 rfl rfl 35 (by decide) (hts _ q1144) (fun _ h9 => h9) rfl d_Model_layGoes_218 ?_
                                    refine lv_iconst (v := 4) hx hb d_Model_layGoes_221 (by decide) ?_
                                    refine lv_iload_n hx hb d_Model_layGoes_222 rfl (lv_at hl 1 rfl) ?_
                                    refine lv_imul hx hb d_Model_layGoes_223 ?_
                                    refine lv_topi (fun v_10822 ev_10822 => ?_)
                                    obtain rfl : v_10813 = v_10822 := ev_10813.trans ev_10822.symm
                                    refine lv_iload hx hb d_Model_layGoes_224 (lv_at hl 0 rfl) ?_
                                    refine lv_iadd hx hb d_Model_layGoes_226 ?_
                                    refine lv_topi (fun v_10823 ev_10823 => ?_)
                                    obtain rfl : v_10814 = v_10823 := ev_10814.trans ev_10823.symm
                                    refine va_lald hx hb hK hP 5 1 rfl rfl (zI.inn hv_10814 (by decide)) d_Model_layGoes_227 ?_
                                    refine lv_topl (fun v_10824 ev_10824 => ?_)
                                    refine lv_aload_n hx hb d_Model_layGoes_228 rfl (lv_at hl 4 rfl) ?_
                                    refine va_get (D := G.1) (ci := 12) (v := .ref b37) (C := R_Model) (T := F_Model) (N := 54) hx hb hts i_Model hown hK hP 7 rfl rfl 36 (by decide) (hts _ q1145) (fun _ h9 => h9) rfl d_Model_layGoes_229 ?_
                                    refine lv_iconst (v := 4) hx hb d_Model_layGoes_232 (by decide) ?_
                                    refine lv_iload_n hx hb d_Model_layGoes_233 rfl (lv_at hl 2 rfl) ?_
                                    refine lv_bipush (v := 10) hx hb d_Model_layGoes_234 (by decide) ?_
                                    refine lv_iadd hx hb d_Model_layGoes_236 ?_
                                    refine z_topi (y := 16) (by decide +kernel) ?_
                                    refine lv_imul hx hb d_Model_layGoes_237 ?_
                                    refine z_topi (y := 64) (by decide +kernel) ?_
                                    refine lv_iload hx hb d_Model_layGoes_238 (lv_at hl 0 rfl) ?_
                                    refine lv_iadd hx hb d_Model_layGoes_240 ?_
                                    refine lv_topi (fun v_10825 ev_10825 => ?_)
                                    obtain ⟨qv_10825, hv_10825⟩ := zI_add (l := 64) (h := 67) zc_64 hv_10810 ev_10825 (by decide)
                                    rw [li_64] at qv_10825
                                    refine va_lald hx hb hK hP 6 1 rfl rfl (zI.inn hv_10825 (by decide)) d_Model_layGoes_241 ?_
                                    refine lv_topl (fun v_10826 ev_10826 => ?_)
                                    refine lv_lor hx hb d_Model_layGoes_242 ?_
                                    refine lv_topl (fun v_10827 ev_10827 => ?_)
                                    refine va_last hx hb hK hP hD hS 5 1 rfl rfl (zI.inn hv_10812 (by decide)) d_Model_layGoes_243 (fun H locs hP hD hS => ?_)
                                    obtain ⟨f_10828, hP, hD⟩ := z_newL 5 hP hD rfl
                                    have hP : va_P G.1 classes [(b18, .inl (G.2 0, 520, .inl b56)), (b21, .inl (G.2 0, 482, .inl b57)), (b26, .inl (G.2 0, 2, .inl b58)), (b27, .inl (G.2 0, 2880, .inl b59)), (b35, .inl (G.2 1, 4096, .inr (.inl f_10819))), (b36, .inl (G.2 1, 4096, .inr (.inl f_10828))), (b37, .inl (G.2 1, 80, .inr (.inl y_8326))), (b0, .inr (12, [.int b1, .ref b2, .ref b3, .ref b4, .ref b5, .int b6, .ref b7, .int b8, .int b9, .int b10, .int b11, .ref b12, .ref b13, .ref b14, .int b15, .ref b16, .ref b17, .ref b18, .ref b19, .ref b20, .ref b21, .ref b22, .ref b23, .ref b24, .ref b25, .ref b26, .ref b27, .int y_8325, .ref b29, .ref b30, .int b31, .int b32, .int b33, .int b34, .ref b35, .ref b36, .ref b37, .ref b38, .ref b39, .ref b40, .ref b41, .int b42, .ref b43, .ref b44, .int b45, .ref b46, .ref b47, .ref b48, .ref b49, .ref b50, .int b51, .ref b52, .ref b53, .ref b54])), (b2, .inl (G.2 0, 503, .inl b55))] H := hP
                                    have hD := z_tie hP hD rfl
                                    obtain ⟨v_10829, ev_10829⟩ : ∃ z : Int32, z = y_10802 + 1 := ⟨_, rfl⟩
                                    obtain ⟨qv_10829, hv_10829⟩ := zI_add (l := 1) (h := 4) hv_10810 zc_1 ev_10829 (by decide)
                                    rw [li_1] at qv_10829
                                    refine lv_iinc (v := v_10829) (lv' := [(4, .int v_10829), (3, .int v_10771), (2, .int 6), (1, .int y_10355), (0, .ref b0)]) hx hb d_Model_layGoes_244 hl (k := 0) rfl (by rw [ev_10829]; rfl) (by decide) rfl (fun ls hl => ?_)
                                    refine lv_goto (tgt := 167) hx hb d_Model_layGoes_247 (by decide) ?_
                                    exact ihk_10801 (v_10829) (f_10819) (f_10828) _ _ _ (zI.wk (l' := 0) (h' := 4) hv_10829 (by decide)) (zm_up qv_10829 hmk_10801 (by decide)) hP hD hS (lv_sub hl [0, 1, 2, 3, 4] rfl)
                              · have _nhc_10767 := hc_10767
                                have ni_10830 := (fa_eq _ _).mp hc_10767
                                rw [li_0] at ni_10830
                                have hv_10831 : zI v_10766 0 0 := zI.eq_l hv_10766 zc_0 hc_10767
                                refine lv_iinc (v := 7) (lv' := [(2, .int 7), (1, .int y_10355), (0, .ref b0)]) hx hb d_Model_layGoes_152 hl (k := 0) rfl (by decide +kernel) (by decide) rfl (fun ls hl => ?_)
                                refine lv_goto (tgt := 144) hx hb d_Model_layGoes_155 (by decide) ?_
                                refine lv_iload_n hx hb d_Model_layGoes_144 rfl (lv_at hl 1 rfl) ?_
                                refine lv_iload_n hx hb d_Model_layGoes_145 rfl (lv_at hl 0 rfl) ?_
                                refine lv_ishr hx hb d_Model_layGoes_146 ?_
                                refine lv_topi (fun v_10832 ev_10832 => ?_)
                                obtain ⟨qv_10832, hv_10832⟩ := zI_shr (l := 0) (h := 7) (k := 7) hv_10362 (by decide +kernel) ev_10832 (by decide)
                                refine lv_iconst (v := 1) hx hb d_Model_layGoes_147 (by decide) ?_
                                refine lv_iand hx hb d_Model_layGoes_148 ?_
                                refine lv_topi (fun v_10833 ev_10833 => ?_)
                                have hv_10833 := zI_and (k := 1) (h := 1) (by decide +kernel) ev_10833 (by decide)
                                have qav_10833 := zI_andq (k := 1) hv_10832 (by decide) (by decide +kernel) ev_10833
                                refine lv_if_ne (tgt := 158) hx hb d_Model_layGoes_149 (by decide) (fun hc_10834 => ?_) (fun hc_10834 => ?_)
                                · have _nhc_10834 := hc_10834
                                  have ni_10835 : ¬ (v_10833 : Int32).toInt = (0 : Int32).toInt := fun z => hc_10834 ((fa_eq _ _).mpr z)
                                  simp only [li_0] at ni_10835
                                  have hv_10836 : zI v_10833 1 1 := zI.ne_lo hv_10833 zc_0 hc_10834 (by decide)
                                  refine lv_iload_n hx hb d_Model_layGoes_158 rfl (lv_at hl 1 rfl) ?_
                                  refine lv_iload_n hx hb d_Model_layGoes_159 rfl (lv_at hl 1 rfl) ?_
                                  refine lv_iconst (v := 1) hx hb d_Model_layGoes_160 (by decide) ?_
                                  refine lv_isub hx hb d_Model_layGoes_161 ?_
                                  refine lv_topi (fun v_10837 ev_10837 => ?_)
                                  obtain ⟨qv_10837, hv_10837⟩ := zI_sub (l := 0) (h := 1022) hv_10362 zc_1 ev_10837 (by decide)
                                  rw [li_1] at qv_10837
                                  refine lv_iand hx hb d_Model_layGoes_162 ?_
                                  refine lv_topi (fun v_10838 ev_10838 => ?_)
                                  have hv_10839 : zI v_10838 0 1023 := zI_andl hv_10362 (by decide) ev_10838
                                  refine lv_istore_n (lv' := [(3, .int v_10838), (2, .int 7), (1, .int y_10355), (0, .ref b0)]) hx hb d_Model_layGoes_163 rfl hl (by decide) rfl (fun ls hl => ?_)
                                  refine lv_iconst (v := 0) hx hb d_Model_layGoes_164 (by decide) ?_
                                  refine lv_istore (lv' := [(4, .int 0), (3, .int v_10838), (2, .int 7), (1, .int y_10355), (0, .ref b0)]) hx hb d_Model_layGoes_165 hl (by decide) rfl (fun ls hl => ?_)
                                  suffices key : ∀ (k_10868 : Nat) (y_10869 : Int32) (y_10870 : Nat → Int64) (y_10871 : Nat → Int64) (H : Heap) (locs : List Loc) (ls : Array Slot), (zI y_10869 0 4) → (4 : Int) - y_10869.toInt < (k_10868 : Int) → va_P G.1 classes [(b18, .inl (G.2 0, 520, .inl b56)), (b21, .inl (G.2 0, 482, .inl b57)), (b26, .inl (G.2 0, 2, .inl b58)), (b27, .inl (G.2 0, 2880, .inl b59)), (b35, .inl (G.2 1, 4096, .inr (.inl y_10870))), (b36, .inl (G.2 1, 4096, .inr (.inl y_10871))), (b37, .inl (G.2 1, 80, .inr (.inl y_8326))), (b0, .inr (12, [.int b1, .ref b2, .ref b3, .ref b4, .ref b5, .int b6, .ref b7, .int b8, .int b9, .int b10, .int b11, .ref b12, .ref b13, .ref b14, .int b15, .ref b16, .ref b17, .ref b18, .ref b19, .ref b20, .ref b21, .ref b22, .ref b23, .ref b24, .ref b25, .ref b26, .ref b27, .int y_8325, .ref b29, .ref b30, .int b31, .int b32, .int b33, .int b34, .ref b35, .ref b36, .ref b37, .ref b38, .ref b39, .ref b40, .ref b41, .int b42, .ref b43, .ref b44, .int b45, .ref b46, .ref b47, .ref b48, .ref b49, .ref b50, .int b51, .ref b52, .ref b53, .ref b54])), (b2, .inl (G.2 0, 503, .inl b55))] H → va_D A [(b18, .inl (G.2 0, 520, .inl b56)), (b21, .inl (G.2 0, 482, .inl b57)), (b26, .inl (G.2 0, 2, .inl b58)), (b27, .inl (G.2 0, 2880, .inl b59)), (b35, .inl (G.2 1, 4096, .inr (.inl y_10870))), (b36, .inl (G.2 1, 4096, .inr (.inl y_10871))), (b37, .inl (G.2 1, 80, .inr (.inl y_8326))), (b0, .inr (12, [.int b1, .ref b2, .ref b3, .ref b4, .ref b5, .int b6, .ref b7, .int b8, .int b9, .int b10, .int b11, .ref b12, .ref b13, .ref b14, .int b15, .ref b16, .ref b17, .ref b18, .ref b19, .ref b20, .ref b21, .ref b22, .ref b23, .ref b24, .ref b25, .ref b26, .ref b27, .int y_8325, .ref b29, .ref b30, .int b31, .int b32, .int b33, .int b34, .ref b35, .ref b36, .ref b37, .ref b38, .ref b39, .ref b40, .ref b41, .int b42, .ref b43, .ref b44, .int b45, .ref b46, .ref b47, .ref b48, .ref b49, .ref b50, .int b51, .ref b52, .ref b53, .ref b54])), (b2, .inl (G.2 0, 503, .inl b55))] → va_S A s.heap H locs → lv_has ls 5 [(4, .int y_10869), (3, .int v_10838), (2, .int 7), (1, .int y_10355), (0, .ref b0)] → W p l e m_s2_Model_layGoes s m ([.ref b0] : List Value).toArray below meth c H locs 0 0 (MQ below (zQ G (fun v w => ∃ (e0 : Int32), ∃ (e1 : Nat → Int64), ∃ (e2 : Nat → Int64), ∃ (e3 : Nat → Int64), v = none ∧ w = [(b0, .inr (12, [.int b1, .ref b2, .ref b3, .ref b4, .ref b5, .int b6, .ref b7, .int b8, .int b9, .int b10, .int b11, .ref b12, .ref b13, .ref b14, .int b15, .ref b16, .ref b17, .ref b18, .ref b19, .ref b20, .ref b21, .ref b22, .ref b23, .ref b24, .ref b25, .ref b26, .ref b27, .int e0, .ref b29, .ref b30, .int b31, .int b32, .int b33, .int b34, .ref b35, .ref b36, .ref b37, .ref b38, .ref b39, .ref b40, .ref b41, .int b42, .ref b43, .ref b44, .int b45, .ref b46, .ref b47, .ref b48, .ref b49, .ref b50, .int b51, .ref b52, .ref b53, .ref b54])), (b2, .inl (G.2 0, 503, .inl b55)), (b18, .inl (G.2 0, 520, .inl b56)), (b21, .inl (G.2 0, 482, .inl b57)), (b26, .inl (G.2 0, 2, .inl b58)), (b27, .inl (G.2 0, 2880, .inl b59)), (b35, .inl (G.2 1, 4096, .inr (.inl e1))), (b36, .inl (G.2 1, 4096, .inr (.inl e2))), (b37, .inl (G.2 1, 80, .inr (.inl e3)))] ∧ (zI e0 0 1)) A) ([.ref b0] : List Value).toArray s m_s2_Model_layGoes.cells m_s2_Model_layGoes.slots A) (F0 m 167 ls []) by
                                    exact key 5 (0) (y_10356) (y_10357) _ _ _ (zI.wk (l' := 0) (h' := 4) zc_0 (by decide)) (zm_upi (zI.wk (l' := 0) (h' := 4) zc_0 (by decide)) (by decide)) hP hD hS (lv_sub hl [0, 1, 2, 3, 4] rfl)
                                  intro k_10868
                                  induction k_10868 with
                                  | zero =>
                                    intro y_10869 y_10870 y_10871 H locs ls hy_10869 hmk_10868 hP hD hS hl
                                    exact (zm_up0 hy_10869 hmk_10868).elim
                                  | succ k_10868 ihk_10868 =>
                                    intro y_10869 y_10870 y_10871 H locs ls hy_10869 hmk_10868 hP hD hS hl
                                    refine lv_iload hx hb d_Model_layGoes_167 (lv_at hl 0 rfl) ?_
                                    refine lv_iconst (v := 4) hx hb d_Model_layGoes_169 (by decide) ?_
                                    refine lv_icmp_ge (tgt := 250) hx hb d_Model_layGoes_170 (by decide) (fun hc_10872 => ?_) (fun hc_10872 => ?_)
                                    · have _nhc_10872 := hc_10872
                                      have ni_10873 := (fa_le _ _).mp hc_10872
                                      rw [li_4] at ni_10873
                                      have hv_10874 : zI y_10869 4 4 := zI.le_r zc_4 hy_10869 hc_10872 (by decide)
                                      obtain ⟨v_10875, ev_10875⟩ : ∃ z : Int32, z = y_10355 + 1 := ⟨_, rfl⟩
                                      obtain ⟨qv_10875, hv_10875⟩ := zI_add (l := 2) (h := 1024) hv_10362 zc_1 ev_10875 (by decide)
                                      rw [li_1] at qv_10875
                                      refine lv_iinc (v := v_10875) (lv' := [(1, .int v_10875), (4, .int y_10869), (3, .int v_10838), (2, .int 7), (0, .ref b0)]) hx hb d_Model_layGoes_250 hl (k := 3) rfl (by rw [ev_10875]; rfl) (by decide) rfl (fun ls hl => ?_)
                                      refine lv_goto (tgt := 135) hx hb d_Model_layGoes_253 (by decide) ?_
                                      exact ihk_10354 (v_10875) (y_10870) (y_10871) _ _ _ (zI.wk (l' := 1) (h' := 1024) hv_10875 (by decide)) (zm_up qv_10875 hmk_10354 (by decide)) hP hD hS (lv_sub hl [0, 4] rfl)
                                    · have _nhc_10872 := hc_10872
                                      have ni_10876 := (fa_lt _ _).mp (zi_nle hc_10872)
                                      rw [li_4] at ni_10876
                                      have hv_10877 : zI y_10869 0 3 := zI.lt_l hy_10869 zc_4 (zi_nle hc_10872) (by decide)
                                      refine lv_aload_n hx hb d_Model_layGoes_173 rfl (lv_at hl 4 rfl) ?_
                                      refine va_get (D := G.1) (ci := 12) (v := .ref b35) (C := R_Model) (T := F_Model) (N := 54) hx hb hts i_Model hown hK hP 7 rfl rfl 34 (by decide) (hts _ q1143) (fun _ h9 => h9) rfl d_Model_layGoes_174 ?_
                                      refine lv_iconst (v := 4) hx hb d_Model_layGoes_177 (by decide) ?_
                                      refine lv_iload_n hx hb d_Model_layGoes_178 rfl (lv_at hl 3 rfl) ?_
                                      refine lv_imul hx hb d_Model_layGoes_179 ?_
                                      refine lv_topi (fun v_10878 ev_10878 => ?_)
                                      obtain ⟨qv_10878, hv_10878⟩ := zI_mul (l := 4) (h := 4092) zc_4 hv_10362 ev_10878 (by decide)
                                      rw [li_4] at qv_10878
                                      refine lv_iload hx hb d_Model_layGoes_180 (lv_at hl 0 rfl) ?_
                                      refine lv_iadd hx hb d_Model_layGoes_182 ?_
                                      refine lv_topi (fun v_10879 ev_10879 => ?_)
                                      obtain ⟨qv_10879, hv_10879⟩ := zI_add (l := 4) (h := 4095) hv_10878 hv_10877 ev_10879 (by decide)
                                      refine lv_aload_n hx hb d_Model_layGoes_183 rfl (lv_at hl 4 rfl) ?_
                                      refine va_get (D := G.1) (ci := 12) (v := .ref b35) (C := R_Model) (T := F_Model) (N := 54) hx hb hts i_Model hown hK hP 7 rfl rfl 34 (by decide) (hts _ q1143) (fun _ h9 => h9) rfl d_Model_layGoes_184 ?_
                                      refine lv_iconst (v := 4) hx hb d_Model_layGoes_187 (by decide) ?_
                                      refine lv_iload_n hx hb d_Model_layGoes_188 rfl (lv_at hl 1 rfl) ?_
                                      refine lv_imul hx hb d_Model_layGoes_189 ?_
                                      refine lv_topi (fun v_10880 ev_10880 => ?_)
                                      obtain ⟨qv_10880, hv_10880⟩ := zI_mul (l := 0) (h := 4092) zc_4 hv_10839 ev_10880 (by decide)
                                      rw [li_4] at qv_10880
                                      refine lv_iload hx hb d_Model_layGoes_190 (lv_at hl 0 rfl) ?_
                                      refine lv_iadd hx hb d_Model_layGoes_192 ?_
                                      refine lv_topi (fun v_10881 ev_10881 => ?_)
                                      obtain ⟨qv_10881, hv_10881⟩ := zI_add (l := 0) (h := 4095) hv_10880 hv_10877 ev_10881 (by decide)
                                      refine va_lald hx hb hK hP 4 1 rfl rfl (zI.inn hv_10881 (by decide)) d_Model_layGoes_193 ?_
                                      refine lv_topl (fun v_10882 ev_10882 => ?_)
                                      refine lv_aload_n hx hb d_Model_layGoes_194 rfl (lv_at hl 4 rfl) ?_
                                      refine va_get (D := G.1) (ci := 12) (v := .ref b37) (C := R_Model) (T := F_Model) (N := 54) hx hb hts i_Model hown hK hP 7 rfl rfl 36 (by decide) (hts _ q1145) (fun _ h9 => h9) rfl d_Model_layGoes_195 ?_
                                      refine lv_iconst (v := 4) hx hb d_Model_layGoes_198 (by decide) ?_
                                      refine lv_iload_n hx hb d_Model_layGoes_199 rfl (lv_at hl 2 rfl) ?_
                                      refine lv_imul hx hb d_Model_layGoes_200 ?_
                                      refine z_topi (y := 28) (by decide +kernel) ?_
                                      refine lv_iload hx hb d_Model_layGoes_201 (lv_at hl 0 rfl) ?_
                                      refine lv_iadd hx hb d_Model_layGoes_203 ?_
                                      refine lv_topi (fun v_10883 ev_10883 => ?_)
                                      obtain ⟨qv_10883, hv_10883⟩ := zI_add (l := 28) (h := 31) zc_28 hv_10877 ev_10883 (by decide)
                                      rw [li_28] at qv_10883
                                      refine va_lald hx hb hK hP 6 1 rfl rfl (zI.inn hv_10883 (by decide)) d_Model_layGoes_204 ?_
                                      refine lv_topl (fun v_10884 ev_10884 => ?_)
                                      refine lv_lor hx hb d_Model_layGoes_205 ?_
                                      refine lv_topl (fun v_10885 ev_10885 => ?_)
                                      refine va_last hx hb hK hP hD hS 4 1 rfl rfl (zI.inn hv_10879 (by decide)) d_Model_layGoes_206 (fun H locs hP hD hS => ?_)
                                      obtain ⟨f_10886, hP, hD⟩ := z_newL 4 hP hD rfl
                                      have hP : va_P G.1 classes [(b18, .inl (G.2 0, 520, .inl b56)), (b21, .inl (G.2 0, 482, .inl b57)), (b26, .inl (G.2 0, 2, .inl b58)), (b27, .inl (G.2 0, 2880, .inl b59)), (b35, .inl (G.2 1, 4096, .inr (.inl f_10886))), (b36, .inl (G.2 1, 4096, .inr (.inl y_10871))), (b37, .inl (G.2 1, 80, .inr (.inl y_8326))), (b0, .inr (12, [.int b1, .ref b2, .ref b3, .ref b4, .ref b5, .int b6, .ref b7, .int b8, .int b9, .int b10, .int b11, .ref b12, .ref b13, .ref b14, .int b15, .ref b16, .ref b17, .ref b18, .ref b19, .ref b20, .ref b21, .ref b22, .ref b23, .ref b24, .ref b25, .ref b26, .ref b27, .int y_8325, .ref b29, .ref b30, .int b31, .int b32, .int b33, .int b34, .ref b35, .ref b36, .ref b37, .ref b38, .ref b39, .ref b40, .ref b41, .int b42, .ref b43, .ref b44, .int b45, .ref b46, .ref b47, .ref b48, .ref b49, .ref b50, .int b51, .ref b52, .ref b53, .ref b54])), (b2, .inl (G.2 0, 503, .inl b55))] H := hP
                                      have hD := z_tie hP hD rfl
                                      refine lv_aload_n hx hb d_Model_layGoes_207 rfl (lv_at hl 4 rfl) ?_
                                      refine va_get (D := G.1) (ci := 12) (v := .ref b36) (C := R_Model) (T := F_Model) (N := 54) hx hb hts i_Model hown hK hP 7 rfl rfl 35 (by decide) (hts _ q1144) (fun _ h9 => h9) rfl d_Model_layGoes_208 ?_
                                      refine lv_iconst (v := 4) hx hb d_Model_layGoes_211 (by decide) ?_
                                      refine lv_iload_n hx hb d_Model_layGoes_212 rfl (lv_at hl 3 rfl) ?_
                                      refine lv_imul hx hb d_Model_layGoes_213 ?_
                                      refine lv_topi (fun v_10887 ev_10887 => ?_)
                                      obtain rfl : v_10878 = v_10887 := ev_10878.trans ev_10887.symm
                                      refine lv_iload hx hb d_Model_layGoes_214 (lv_at hl 0 rfl) ?_
                                      refine lv_iadd hx hb d_Model_layGoes_216 ?_
                                      refine lv_topi (fun v_10888 ev_10888 => ?_)
                                      obtain rfl : v_10879 = v_10888 := ev_10879.trans ev_10888.symm
                                      refine lv_aload_n hx hb d_Model_layGoes_217 rfl (lv_at hl 4 rfl) ?_
                                      refine va_get (D := G.1) (ci := 12) (v := .ref b36) (C := R_Model) (T := F_Model) (N := 54) hx hb hts i_Model hown hK hP 7 rfl rfl 35 (by decide) (hts _ q1144) (fun _ h9 => h9) rfl d_Model_layGoes_218 ?_
                                      refine lv_iconst (v := 4) hx hb d_Model_layGoes_221 (by decide) ?_
                                      refine lv_iload_n hx hb d_Model_layGoes_222 rfl (lv_at hl 1 rfl) ?_
                                      refine lv_imul hx hb d_Model_layGoes_223 ?_
                                      refine lv_topi (fun v_10889 ev_10889 => ?_)
                                      obtain rfl : v_10880 = v_10889 := ev_10880.trans ev_10889.symm
                                      refine lv_iload hx hb d_Model_layGoes_224 (lv_at hl 0 rfl) ?_
                                      refine lv_iadd hx hb d_Model_layGoes_226 ?_
                                      refine lv_topi (fun v_10890 ev_10890 => ?_)
                                      obtain rfl : v_10881 = v_10890 := ev_10881.trans ev_10890.symm
                                      refine va_lald hx hb hK hP 5 1 rfl rfl (zI.inn hv_10881 (by decide)) d_Model_layGoes_227 ?_
                                      refine lv_topl (fun v_10891 ev_10891 => ?_)
                                      refine lv_aload_n hx hb d_Model_layGoes_228 rfl (lv_at hl 4 rfl) ?_
                                      refine va_get (D := G.1) (ci := 12) (v := .ref b37) (C := R_Model) (T := F_Model) (N := 54) hx hb hts i_Model hown hK hP 7 rfl rfl 36 (by decide) (hts _ q1145) (fun _ h9 => h9) rfl d_Model_layGoes_229 ?_
                                      refine lv_iconst (v := 4) hx hb d_Model_layGoes_232 (by decide) ?_
                                      refine lv_iload_n hx hb d_Model_layGoes_233 rfl (lv_at hl 2 rfl) ?_
                                      refine lv_bipush (v := 10) hx hb d_Model_layGoes_234 (by decide) ?_
                                      refine lv_iadd hx hb d_Model_layGoes_236 ?_
                                      refine z_topi (y := 17) (by decide +kernel) ?_
                                      refine lv_imul hx hb d_Model_layGoes_237 ?_
                                      refine z_topi (y := 68) (by decide +kernel) ?_
                                      refine lv_iload hx hb d_Model_layGoes_238 (lv_at hl 0 rfl) ?_
                                      refine lv_iadd hx hb d_Model_layGoes_240 ?_
                                      refine lv_topi (fun v_10892 ev_10892 => ?_)
                                      obtain ⟨qv_10892, hv_10892⟩ := zI_add (l := 68) (h := 71) zc_68 hv_10877 ev_10892 (by decide)
                                      rw [li_68] at qv_10892
                                      refine va_lald hx hb hK hP 6 1 rfl rfl (zI.inn hv_10892 (by decide)) d_Model_layGoes_241 ?_
                                      refine lv_topl (fun v_10893 ev_10893 => ?_)
                                      refine lv_lor hx hb d_Model_layGoes_242 ?_
                                      refine lv_topl (fun v_10894 ev_10894 => ?_)
                                      refine va_last hx hb hK hP hD hS 5 1 rfl rfl (zI.inn hv_10879 (by decide)) d_Model_layGoes_243 (fun H locs hP hD hS => ?_)
                                      obtain ⟨f_10895, hP, hD⟩ := z_newL 5 hP hD rfl
                                      have hP : va_P G.1 classes [(b18, .inl (G.2 0, 520, .inl b56)), (b21, .inl (G.2 0, 482, .inl b57)), (b26, .inl (G.2 0, 2, .inl b58)), (b27, .inl (G.2 0, 2880, .inl b59)), (b35, .inl (G.2 1, 4096, .inr (.inl f_10886))), (b36, .inl (G.2 1, 4096, .inr (.inl f_10895))), (b37, .inl (G.2 1, 80, .inr (.inl y_8326))), (b0, .inr (12, [.int b1, .ref b2, .ref b3, .ref b4, .ref b5, .int b6, .ref b7, .int b8, .int b9, .int b10, .int b11, .ref b12, .ref b13, .ref b14, .int b15, .ref b16, .ref b17, .ref b18, .ref b19, .ref b20, .ref b21, .ref b22, .ref b23, .ref b24, .ref b25, .ref b26, .ref b27, .int y_8325, .ref b29, .ref b30, .int b31, .int b32, .int b33, .int b34, .ref b35, .ref b36, .ref b37, .ref b38, .ref b39, .ref b40, .ref b41, .int b42, .ref b43, .ref b44, .int b45, .ref b46, .ref b47, .ref b48, .ref b49, .ref b50, .int b51, .ref b52, .ref b53, .ref b54])), (b2, .inl (G.2 0, 503, .inl b55))] H := hP
                                      have hD := z_tie hP hD rfl
                                      obtain ⟨v_10896, ev_10896⟩ : ∃ z : Int32, z = y_10869 + 1 := ⟨_, rfl⟩
                                      obtain ⟨qv_10896, hv_10896⟩ := zI_add (l := 1) (h := 4) hv_10877 zc_1 ev_10896 (by decide)
                                      rw [li_1] at qv_10896
                                      refine lv_iinc (v := v_10896) (lv' := [(4, .int v_10896), (3, .int v_10838), (2, .int 7), (1, .int y_10355), (0, .ref b0)]) hx hb d_Model_layGoes_244 hl (k := 0) rfl (by rw [ev_10896]; rfl) (by decide) rfl (fun ls hl => ?_)
                                      refine lv_goto (tgt := 167) hx hb d_Model_layGoes_247 (by decide) ?_
                                      exact ihk_10868 (v_10896) (f_10886) (f_10895) _ _ _ (zI.wk (l' := 0) (h' := 4) hv_10896 (by decide)) (zm_up qv_10896 hmk_10868 (by decide)) hP hD hS (lv_sub hl [0, 1, 2, 3, 4] rfl)
                                · have _nhc_10834 := hc_10834
                                  have ni_10897 := (fa_eq _ _).mp hc_10834
                                  rw [li_0] at ni_10897
                                  have hv_10898 : zI v_10833 0 0 := zI.eq_l hv_10833 zc_0 hc_10834
                                  refine lv_iinc (v := 8) (lv' := [(2, .int 8), (1, .int y_10355), (0, .ref b0)]) hx hb d_Model_layGoes_152 hl (k := 0) rfl (by decide +kernel) (by decide) rfl (fun ls hl => ?_)
                                  refine lv_goto (tgt := 144) hx hb d_Model_layGoes_155 (by decide) ?_
                                  refine lv_iload_n hx hb d_Model_layGoes_144 rfl (lv_at hl 1 rfl) ?_
                                  refine lv_iload_n hx hb d_Model_layGoes_145 rfl (lv_at hl 0 rfl) ?_
                                  refine lv_ishr hx hb d_Model_layGoes_146 ?_
                                  refine lv_topi (fun v_10899 ev_10899 => ?_)
                                  obtain ⟨qv_10899, hv_10899⟩ := zI_shr (l := 0) (h := 3) (k := 8) hv_10362 (by decide +kernel) ev_10899 (by decide)
                                  refine lv_iconst (v := 1) hx hb d_Model_layGoes_147 (by decide) ?_
                                  refine lv_iand hx hb d_Model_layGoes_148 ?_
                                  refine lv_topi (fun v_10900 ev_10900 => ?_)
                                  have hv_10900 := zI_and (k := 1) (h := 1) (by decide +kernel) ev_10900 (by decide)
                                  have qav_10900 := zI_andq (k := 1) hv_10899 (by decide) (by decide +kernel) ev_10900
                                  refine lv_if_ne (tgt := 158) hx hb d_Model_layGoes_149 (by decide) (fun hc_10901 => ?_) (fun hc_10901 => ?_)
                                  · have _nhc_10901 := hc_10901
                                    have ni_10902 : ¬ (v_10900 : Int32).toInt = (0 : Int32).toInt := fun z => hc_10901 ((fa_eq _ _).mpr z)
                                    simp only [li_0] at ni_10902
                                    have hv_10903 : zI v_10900 1 1 := zI.ne_lo hv_10900 zc_0 hc_10901 (by decide)
                                    refine lv_iload_n hx hb d_Model_layGoes_158 rfl (lv_at hl 1 rfl) ?_
                                    refine lv_iload_n hx hb d_Model_layGoes_159 rfl (lv_at hl 1 rfl) ?_
                                    refine lv_iconst (v := 1) hx hb d_Model_layGoes_160 (by decide) ?_
                                    refine lv_isub hx hb d_Model_layGoes_161 ?_
                                    refine lv_topi (fun v_10904 ev_10904 => ?_)
                                    obtain ⟨qv_10904, hv_10904⟩ := zI_sub (l := 0) (h := 1022) hv_10362 zc_1 ev_10904 (by decide)
                                    rw [li_1] at qv_10904
                                    refine lv_iand hx hb d_Model_layGoes_162 ?_
                                    refine lv_topi (fun v_10905 ev_10905 => ?_)
                                    have hv_10906 : zI v_10905 0 1023 := zI_andl hv_10362 (by decide) ev_10905
                                    refine lv_istore_n (lv' := [(3, .int v_10905), (2, .int 8), (1, .int y_10355), (0, .ref b0)]) hx hb d_Model_layGoes_163 rfl hl (by decide) rfl (fun ls hl => ?_)
                                    refine lv_iconst (v := 0) hx hb d_Model_layGoes_164 (by decide) ?_
                                    refine lv_istore (lv' := [(4, .int 0), (3, .int v_10905), (2, .int 8), (1, .int y_10355), (0, .ref b0)]) hx hb d_Model_layGoes_165 hl (by decide) rfl (fun ls hl => ?_)
                                    suffices key : ∀ (k_10935 : Nat) (y_10936 : Int32) (y_10937 : Nat → Int64) (y_10938 : Nat → Int64) (H : Heap) (locs : List Loc) (ls : Array Slot), (zI y_10936 0 4) → (4 : Int) - y_10936.toInt < (k_10935 : Int) → va_P G.1 classes [(b18, .inl (G.2 0, 520, .inl b56)), (b21, .inl (G.2 0, 482, .inl b57)), (b26, .inl (G.2 0, 2, .inl b58)), (b27, .inl (G.2 0, 2880, .inl b59)), (b35, .inl (G.2 1, 4096, .inr (.inl y_10937))), (b36, .inl (G.2 1, 4096, .inr (.inl y_10938))), (b37, .inl (G.2 1, 80, .inr (.inl y_8326))), (b0, .inr (12, [.int b1, .ref b2, .ref b3, .ref b4, .ref b5, .int b6, .ref b7, .int b8, .int b9, .int b10, .int b11, .ref b12, .ref b13, .ref b14, .int b15, .ref b16, .ref b17, .ref b18, .ref b19, .ref b20, .ref b21, .ref b22, .ref b23, .ref b24, .ref b25, .ref b26, .ref b27, .int y_8325, .ref b29, .ref b30, .int b31, .int b32, .int b33, .int b34, .ref b35, .ref b36, .ref b37, .ref b38, .ref b39, .ref b40, .ref b41, .int b42, .ref b43, .ref b44, .int b45, .ref b46, .ref b47, .ref b48, .ref b49, .ref b50, .int b51, .ref b52, .ref b53, .ref b54])), (b2, .inl (G.2 0, 503, .inl b55))] H → va_D A [(b18, .inl (G.2 0, 520, .inl b56)), (b21, .inl (G.2 0, 482, .inl b57)), (b26, .inl (G.2 0, 2, .inl b58)), (b27, .inl (G.2 0, 2880, .inl b59)), (b35, .inl (G.2 1, 4096, .inr (.inl y_10937))), (b36, .inl (G.2 1, 4096, .inr (.inl y_10938))), (b37, .inl (G.2 1, 80, .inr (.inl y_8326))), (b0, .inr (12, [.int b1, .ref b2, .ref b3, .ref b4, .ref b5, .int b6, .ref b7, .int b8, .int b9, .int b10, .int b11, .ref b12, .ref b13, .ref b14, .int b15, .ref b16, .ref b17, .ref b18, .ref b19, .ref b20, .ref b21, .ref b22, .ref b23, .ref b24, .ref b25, .ref b26, .ref b27, .int y_8325, .ref b29, .ref b30, .int b31, .int b32, .int b33, .int b34, .ref b35, .ref b36, .ref b37, .ref b38, .ref b39, .ref b40, .ref b41, .int b42, .ref b43, .ref b44, .int b45, .ref b46, .ref b47, .ref b48, .ref b49, .ref b50, .int b51, .ref b52, .ref b53, .ref b54])), (b2, .inl (G.2 0, 503, .inl b55))] → va_S A s.heap H locs → lv_has ls 5 [(4, .int y_10936), (3, .int v_10905), (2, .int 8), (1, .int y_10355), (0, .ref b0)] → W p l e m_s2_Model_layGoes s m ([.ref b0] : List Value).toArray below meth c H locs 0 0 (MQ below (zQ G (fun v w => ∃ (e0 : Int32), ∃ (e1 : Nat → Int64), ∃ (e2 : Nat → Int64), ∃ (e3 : Nat → Int64), v = none ∧ w = [(b0, .inr (12, [.int b1, .ref b2, .ref b3, .ref b4, .ref b5, .int b6, .ref b7, .int b8, .int b9, .int b10, .int b11, .ref b12, .ref b13, .ref b14, .int b15, .ref b16, .ref b17, .ref b18, .ref b19, .ref b20, .ref b21, .ref b22, .ref b23, .ref b24, .ref b25, .ref b26, .ref b27, .int e0, .ref b29, .ref b30, .int b31, .int b32, .int b33, .int b34, .ref b35, .ref b36, .ref b37, .ref b38, .ref b39, .ref b40, .ref b41, .int b42, .ref b43, .ref b44, .int b45, .ref b46, .ref b47, .ref b48, .ref b49, .ref b50, .int b51, .ref b52, .ref b53, .ref b54])), (b2, .inl (G.2 0, 503, .inl b55)), (b18, .inl (G.2 0, 520, .inl b56)), (b21, .inl (G.2 0, 482, .inl b57)), (b26, .inl (G.2 0, 2, .inl b58)), (b27, .inl (G.2 0, 2880, .inl b59)), (b35, .inl (G.2 1, 4096, .inr (.inl e1))), (b36, .inl (G.2 1, 4096, .inr (.inl e2))), (b37, .inl (G.2 1, 80, .inr (.inl e3)))] ∧ (zI e0 0 1)) A) ([.ref b0] : List Value).toArray s m_s2_Model_layGoes.cells m_s2_Model_layGoes.slots A) (F0 m 167 ls []) by
                                      exact key 5 (0) (y_10356) (y_10357) _ _ _ (zI.wk (l' := 0) (h' := 4) zc_0 (by decide)) (zm_upi (zI.wk (l' := 0) (h' := 4) zc_0 (by decide)) (by decide)) hP hD hS (lv_sub hl [0, 1, 2, 3, 4] rfl)
                                    intro k_10935
                                    induction k_10935 with
                                    | zero =>
                                      intro y_10936 y_10937 y_10938 H locs ls hy_10936 hmk_10935 hP hD hS hl
                                      exact (zm_up0 hy_10936 hmk_10935).elim
                                    | succ k_10935 ihk_10935 =>
                                      intro y_10936 y_10937 y_10938 H locs ls hy_10936 hmk_10935 hP hD hS hl
                                      refine lv_iload hx hb d_Model_layGoes_167 (lv_at hl 0 rfl) ?_
                                      refine lv_iconst (v := 4) hx hb d_Model_layGoes_169 (by decide) ?_
                                      refine lv_icmp_ge (tgt := 250) hx hb d_Model_layGoes_170 (by decide) (fun hc_10939 => ?_) (fun hc_10939 => ?_)
                                      · have _nhc_10939 := hc_10939
                                        have ni_10940 := (fa_le _ _).mp hc_10939
                                        rw [li_4] at ni_10940
                                        have hv_10941 : zI y_10936 4 4 := zI.le_r zc_4 hy_10936 hc_10939 (by decide)
                                        obtain ⟨v_10942, ev_10942⟩ : ∃ z : Int32, z = y_10355 + 1 := ⟨_, rfl⟩
                                        obtain ⟨qv_10942, hv_10942⟩ := zI_add (l := 2) (h := 1024) hv_10362 zc_1 ev_10942 (by decide)
                                        rw [li_1] at qv_10942
                                        refine lv_iinc (v := v_10942) (lv' := [(1, .int v_10942), (4, .int y_10936), (3, .int v_10905), (2, .int 8), (0, .ref b0)]) hx hb d_Model_layGoes_250 hl (k := 3) rfl (by rw [ev_10942]; rfl) (by decide) rfl (fun ls hl => ?_)
                                        refine lv_goto (tgt := 135) hx hb d_Model_layGoes_253 (by decide) ?_
                                        exact ihk_10354 (v_10942) (y_10937) (y_10938) _ _ _ (zI.wk (l' := 1) (h' := 1024) hv_10942 (by decide)) (zm_up qv_10942 hmk_10354 (by decide)) hP hD hS (lv_sub hl [0, 4] rfl)
                                      · have _nhc_10939 := hc_10939
                                        have ni_10943 := (fa_lt _ _).mp (zi_nle hc_10939)
                                        rw [li_4] at ni_10943
                                        have hv_10944 : zI y_10936 0 3 := zI.lt_l hy_10936 zc_4 (zi_nle hc_10939) (by decide)
                                        refine lv_aload_n hx hb d_Model_layGoes_173 rfl (lv_at hl 4 rfl) ?_
                                        refine va_get (D := G.1) (ci := 12) (v := .ref b35) (C := R_Model) (T := F_Model) (N := 54) hx hb hts i_Model hown hK hP 7 rfl rfl 34 (by decide) (hts _ q1143) (fun _ h9 => h9) rfl d_Model_layGoes_174 ?_
                                        refine lv_iconst (v := 4) hx hb d_Model_layGoes_177 (by decide) ?_
                                        refine lv_iload_n hx hb d_Model_layGoes_178 rfl (lv_at hl 3 rfl) ?_
                                        refine lv_imul hx hb d_Model_layGoes_179 ?_
                                        refine lv_topi (fun v_10945 ev_10945 => ?_)
                                        obtain ⟨qv_10945, hv_10945⟩ := zI_mul (l := 4) (h := 4092) zc_4 hv_10362 ev_10945 (by decide)
                                        rw [li_4] at qv_10945
                                        refine lv_iload hx hb d_Model_layGoes_180 (lv_at hl 0 rfl) ?_
                                        refine lv_iadd hx hb d_Model_layGoes_182 ?_
                                        refine lv_topi (fun v_10946 ev_10946 => ?_)
                                        obtain ⟨qv_10946, hv_10946⟩ := zI_add (l := 4) (h := 4095) hv_10945 hv_10944 ev_10946 (by decide)
                                        refine lv_aload_n hx hb d_Model_layGoes_183 rfl (lv_at hl 4 rfl) ?_
                                        refine va_get (D := G.1) (ci := 12) (v := .ref b35) (C := R_Model) (T := F_Model) (N := 54) hx hb hts i_Model hown hK hP 7 rfl rfl 34 (by decide) (hts _ q1143) (fun _ h9 => h9) rfl d_Model_layGoes_184 ?_
                                        refine lv_iconst (v := 4) hx hb d_Model_layGoes_187 (by decide) ?_
                                        refine lv_iload_n hx hb d_Model_layGoes_188 rfl (lv_at hl 1 rfl) ?_
                                        refine lv_imul hx hb d_Model_layGoes_189 ?_
                                        refine lv_topi (fun v_10947 ev_10947 => ?_)
                                        obtain ⟨qv_10947, hv_10947⟩ := zI_mul (l := 0) (h := 4092) zc_4 hv_10906 ev_10947 (by decide)
                                        rw [li_4] at qv_10947
                                        refine lv_iload hx hb d_Model_layGoes_190 (lv_at hl 0 rfl) ?_
                                        refine lv_iadd hx hb d_Model_layGoes_192 ?_
                                        refine lv_topi (fun v_10948 ev_10948 => ?_)
                                        obtain ⟨qv_10948, hv_10948⟩ := zI_add (l := 0) (h := 4095) hv_10947 hv_10944 ev_10948 (by decide)
                                        refine va_lald hx hb hK hP 4 1 rfl rfl (zI.inn hv_10948 (by decide)) d_Model_layGoes_193 ?_
                                        refine lv_topl (fun v_10949 ev_10949 => ?_)
                                        refine lv_aload_n hx hb d_Model_layGoes_194 rfl (lv_at hl 4 rfl) ?_
                                        refine va_get (D := G.1) (ci := 12) (v := .ref b37) (C := R_Model) (T := F_Model) (N := 54) hx hb hts i_Model hown hK hP 7 rfl rfl 36 (by decide) (hts _ q1145) (fun _ h9 => h9) rfl d_Model_layGoes_195 ?_
                                        refine lv_iconst (v := 4) hx hb d_Model_layGoes_198 (by decide) ?_
                                        refine lv_iload_n hx hb d_Model_layGoes_199 rfl (lv_at hl 2 rfl) ?_
                                        refine lv_imul hx hb d_Model_layGoes_200 ?_
                                        refine z_topi (y := 32) (by decide +kernel) ?_
                                        refine lv_iload hx hb d_Model_layGoes_201 (lv_at hl 0 rfl) ?_
                                        refine lv_iadd hx hb d_Model_layGoes_203 ?_
                                        refine lv_topi (fun v_10950 ev_10950 => ?_)
                                        obtain ⟨qv_10950, hv_10950⟩ := zI_add (l := 32) (h := 35) zc_32 hv_10944 ev_10950 (by decide)
                                        rw [li_32] at qv_10950
                                        refine va_lald hx hb hK hP 6 1 rfl rfl (zI.inn hv_10950 (by decide)) d_Model_layGoes_204 ?_
                                        refine lv_topl (fun v_10951 ev_10951 => ?_)
                                        refine lv_lor hx hb d_Model_layGoes_205 ?_
                                        refine lv_topl (fun v_10952 ev_10952 => ?_)
                                        refine va_last hx hb hK hP hD hS 4 1 rfl rfl (zI.inn hv_10946 (by decide)) d_Model_layGoes_206 (fun H locs hP hD hS => ?_)
                                        obtain ⟨f_10953, hP, hD⟩ := z_newL 4 hP hD rfl
                                        have hP : va_P G.1 classes [(b18, .inl (G.2 0, 520, .inl b56)), (b21, .inl (G.2 0, 482, .inl b57)), (b26, .inl (G.2 0, 2, .inl b58)), (b27, .inl (G.2 0, 2880, .inl b59)), (b35, .inl (G.2 1, 4096, .inr (.inl f_10953))), (b36, .inl (G.2 1, 4096, .inr (.inl y_10938))), (b37, .inl (G.2 1, 80, .inr (.inl y_8326))), (b0, .inr (12, [.int b1, .ref b2, .ref b3, .ref b4, .ref b5, .int b6, .ref b7, .int b8, .int b9, .int b10, .int b11, .ref b12, .ref b13, .ref b14, .int b15, .ref b16, .ref b17, .ref b18, .ref b19, .ref b20, .ref b21, .ref b22, .ref b23, .ref b24, .ref b25, .ref b26, .ref b27, .int y_8325, .ref b29, .ref b30, .int b31, .int b32, .int b33, .int b34, .ref b35, .ref b36, .ref b37, .ref b38, .ref b39, .ref b40, .ref b41, .int b42, .ref b43, .ref b44, .int b45, .ref b46, .ref b47, .ref b48, .ref b49, .ref b50, .int b51, .ref b52, .ref b53, .ref b54])), (b2, .inl (G.2 0, 503, .inl b55))] H := hP
                                        have hD := z_tie hP hD rfl
                                        refine lv_aload_n hx hb d_Model_layGoes_207 rfl (lv_at hl 4 rfl) ?_
                                        refine va_get (D := G.1) (ci := 12) (v := .ref b36) (C := R_Model) (T := F_Model) (N := 54) hx hb hts i_Model hown hK hP 7 rfl rfl 35 (by decide) (hts _ q1144) (fun _ h9 => h9) rfl d_Model_layGoes_208 ?_
                                        refine lv_iconst (v := 4) hx hb d_Model_layGoes_211 (by decide) ?_
                                        refine lv_iload_n hx hb d_Model_layGoes_212 rfl (lv_at hl 3 rfl) ?_
                                        refine lv_imul hx hb d_Model_layGoes_213 ?_
                                        refine lv_topi (fun v_10954 ev_10954 => ?_)
                                        obtain rfl : v_10945 = v_10954 := ev_10945.trans ev_10954.symm
                                        refine lv_iload hx hb d_Model_layGoes_214 (lv_at hl 0 rfl) ?_
                                        refine lv_iadd hx hb d_Model_layGoes_216 ?_
                                        refine lv_topi (fun v_10955 ev_10955 => ?_)
                                        obtain rfl : v_10946 = v_10955 := ev_10946.trans ev_10955.symm
                                        refine lv_aload_n hx hb d_Model_layGoes_217 rfl (lv_at hl 4 rfl) ?_
                                        refine va_get (D := G.1) (ci := 12) (v := .ref b36) (C := R_Model) (T := F_Model) (N := 54) hx hb hts i_Model hown hK hP 7 rfl rfl 35 (by decide) (hts _ q1144) (fun _ h9 => h9) rfl d_Model_layGoes_218 ?_
                                        refine lv_iconst (v := 4) hx hb d_Model_layGoes_221 (by decide) ?_
                                        refine lv_iload_n hx hb d_Model_layGoes_222 rfl (lv_at hl 1 rfl) ?_
                                        refine lv_imul hx hb d_Model_layGoes_223 ?_
                                        refine lv_topi (fun v_10956 ev_10956 => ?_)
                                        obtain rfl : v_10947 = v_10956 := ev_10947.trans ev_10956.symm
                                        refine lv_iload hx hb d_Model_layGoes_224 (lv_at hl 0 rfl) ?_
                                        refine lv_iadd hx hb d_Model_layGoes_226 ?_
                                        refine lv_topi (fun v_10957 ev_10957 => ?_)
                                        obtain rfl : v_10948 = v_10957 := ev_10948.trans ev_10957.symm
                                        refine va_lald hx hb hK hP 5 1 rfl rfl (zI.inn hv_10948 (by decide)) d_Model_layGoes_227 ?_
                                        refine lv_topl (fun v_10958 ev_10958 => ?_)
                                        refine lv_aload_n hx hb d_Model_layGoes_228 rfl (lv_at hl 4 rfl) ?_
                                        refine va_get (D := G.1) (ci := 12) (v := .ref b37) (C := R_Model) (T := F_Model) (N := 54) hx hb hts i_Model hown hK hP 7 rfl rfl 36 (by decide) (hts _ q1145) (fun _ h9 => h9) rfl d_Model_layGoes_229 ?_
                                        refine lv_iconst (v := 4) hx hb d_Model_layGoes_232 (by decide) ?_
                                        refine lv_iload_n hx hb d_Model_layGoes_233 rfl (lv_at hl 2 rfl) ?_
                                        refine lv_bipush (v := 10) hx hb d_Model_layGoes_234 (by decide) ?_
                                        refine lv_iadd hx hb d_Model_layGoes_236 ?_
                                        refine z_topi (y := 18) (by decide +kernel) ?_
                                        refine lv_imul hx hb d_Model_layGoes_237 ?_
                                        refine z_topi (y := 72) (by decide +kernel) ?_
                                        refine lv_iload hx hb d_Model_layGoes_238 (lv_at hl 0 rfl) ?_
                                        refine lv_iadd hx hb d_Model_layGoes_240 ?_
                                        refine lv_topi (fun v_10959 ev_10959 => ?_)
                                        obtain ⟨qv_10959, hv_10959⟩ := zI_add (l := 72) (h := 75) zc_72 hv_10944 ev_10959 (by decide)
                                        rw [li_72] at qv_10959
                                        refine va_lald hx hb hK hP 6 1 rfl rfl (zI.inn hv_10959 (by decide)) d_Model_layGoes_241 ?_
                                        refine lv_topl (fun v_10960 ev_10960 => ?_)
                                        refine lv_lor hx hb d_Model_layGoes_242 ?_
                                        refine lv_topl (fun v_10961 ev_10961 => ?_)
                                        refine va_last hx hb hK hP hD hS 5 1 rfl rfl (zI.inn hv_10946 (by decide)) d_Model_layGoes_243 (fun H locs hP hD hS => ?_)
                                        obtain ⟨f_10962, hP, hD⟩ := z_newL 5 hP hD rfl
                                        have hP : va_P G.1 classes [(b18, .inl (G.2 0, 520, .inl b56)), (b21, .inl (G.2 0, 482, .inl b57)), (b26, .inl (G.2 0, 2, .inl b58)), (b27, .inl (G.2 0, 2880, .inl b59)), (b35, .inl (G.2 1, 4096, .inr (.inl f_10953))), (b36, .inl (G.2 1, 4096, .inr (.inl f_10962))), (b37, .inl (G.2 1, 80, .inr (.inl y_8326))), (b0, .inr (12, [.int b1, .ref b2, .ref b3, .ref b4, .ref b5, .int b6, .ref b7, .int b8, .int b9, .int b10, .int b11, .ref b12, .ref b13, .ref b14, .int b15, .ref b16, .ref b17, .ref b18, .ref b19, .ref b20, .ref b21, .ref b22, .ref b23, .ref b24, .ref b25, .ref b26, .ref b27, .int y_8325, .ref b29, .ref b30, .int b31, .int b32, .int b33, .int b34, .ref b35, .ref b36, .ref b37, .ref b38, .ref b39, .ref b40, .ref b41, .int b42, .ref b43, .ref b44, .int b45, .ref b46, .ref b47, .ref b48, .ref b49, .ref b50, .int b51, .ref b52, .ref b53, .ref b54])), (b2, .inl (G.2 0, 503, .inl b55))] H := hP
                                        have hD := z_tie hP hD rfl
                                        obtain ⟨v_10963, ev_10963⟩ : ∃ z : Int32, z = y_10936 + 1 := ⟨_, rfl⟩
                                        obtain ⟨qv_10963, hv_10963⟩ := zI_add (l := 1) (h := 4) hv_10944 zc_1 ev_10963 (by decide)
                                        rw [li_1] at qv_10963
                                        refine lv_iinc (v := v_10963) (lv' := [(4, .int v_10963), (3, .int v_10905), (2, .int 8), (1, .int y_10355), (0, .ref b0)]) hx hb d_Model_layGoes_244 hl (k := 0) rfl (by rw [ev_10963]; rfl) (by decide) rfl (fun ls hl => ?_)
                                        refine lv_goto (tgt := 167) hx hb d_Model_layGoes_247 (by decide) ?_
                                        exact ihk_10935 (v_10963) (f_10953) (f_10962) _ _ _ (zI.wk (l' := 0) (h' := 4) hv_10963 (by decide)) (zm_up qv_10963 hmk_10935 (by decide)) hP hD hS (lv_sub hl [0, 1, 2, 3, 4] rfl)
                                  · have _nhc_10901 := hc_10901
                                    have ni_10964 := (fa_eq _ _).mp hc_10901
                                    rw [li_0] at ni_10964
                                    have hv_10965 : zI v_10900 0 0 := zI.eq_l hv_10900 zc_0 hc_10901
                                    refine lv_iinc (v := 9) (lv' := [(2, .int 9), (1, .int y_10355), (0, .ref b0)]) hx hb d_Model_layGoes_152 hl (k := 0) rfl (by decide +kernel) (by decide) rfl (fun ls hl => ?_)
                                    refine lv_goto (tgt := 144) hx hb d_Model_layGoes_155 (by decide) ?_
                                    refine lv_iload_n hx hb d_Model_layGoes_144 rfl (lv_at hl 1 rfl) ?_
                                    refine lv_iload_n hx hb d_Model_layGoes_145 rfl (lv_at hl 0 rfl) ?_
                                    refine lv_ishr hx hb d_Model_layGoes_146 ?_
                                    refine lv_topi (fun v_10966 ev_10966 => ?_)
                                    obtain ⟨qv_10966, hv_10966⟩ := zI_shr (l := 0) (h := 1) (k := 9) hv_10362 (by decide +kernel) ev_10966 (by decide)
                                    refine lv_iconst (v := 1) hx hb d_Model_layGoes_147 (by decide) ?_
                                    refine lv_iand hx hb d_Model_layGoes_148 ?_
                                    refine lv_topi (fun v_10967 ev_10967 => ?_)
                                    have hv_10967 := zI_and (k := 1) (h := 1) (by decide +kernel) ev_10967 (by decide)
                                    have qav_10967 := zI_andq (k := 1) hv_10966 (by decide) (by decide +kernel) ev_10967
                                    refine lv_if_ne (tgt := 158) hx hb d_Model_layGoes_149 (by decide) (fun hc_10968 => ?_) (fun hc_10968 => ?_)
                                    · have _nhc_10968 := hc_10968
                                      have ni_10969 : ¬ (v_10967 : Int32).toInt = (0 : Int32).toInt := fun z => hc_10968 ((fa_eq _ _).mpr z)
                                      simp only [li_0] at ni_10969
                                      have hv_10970 : zI v_10967 1 1 := zI.ne_lo hv_10967 zc_0 hc_10968 (by decide)
                                      refine lv_iload_n hx hb d_Model_layGoes_158 rfl (lv_at hl 1 rfl) ?_
                                      refine lv_iload_n hx hb d_Model_layGoes_159 rfl (lv_at hl 1 rfl) ?_
                                      refine lv_iconst (v := 1) hx hb d_Model_layGoes_160 (by decide) ?_
                                      refine lv_isub hx hb d_Model_layGoes_161 ?_
                                      refine lv_topi (fun v_10971 ev_10971 => ?_)
                                      obtain ⟨qv_10971, hv_10971⟩ := zI_sub (l := 0) (h := 1022) hv_10362 zc_1 ev_10971 (by decide)
                                      rw [li_1] at qv_10971
                                      refine lv_iand hx hb d_Model_layGoes_162 ?_
                                      refine lv_topi (fun v_10972 ev_10972 => ?_)
                                      have hv_10973 : zI v_10972 0 1023 := zI_andl hv_10362 (by decide) ev_10972
                                      refine lv_istore_n (lv' := [(3, .int v_10972), (2, .int 9), (1, .int y_10355), (0, .ref b0)]) hx hb d_Model_layGoes_163 rfl hl (by decide) rfl (fun ls hl => ?_)
                                      refine lv_iconst (v := 0) hx hb d_Model_layGoes_164 (by decide) ?_
                                      refine lv_istore (lv' := [(4, .int 0), (3, .int v_10972), (2, .int 9), (1, .int y_10355), (0, .ref b0)]) hx hb d_Model_layGoes_165 hl (by decide) rfl (fun ls hl => ?_)
                                      suffices key : ∀ (k_11002 : Nat) (y_11003 : Int32) (y_11004 : Nat → Int64) (y_11005 : Nat → Int64) (H : Heap) (locs : List Loc) (ls : Array Slot), (zI y_11003 0 4) → (4 : Int) - y_11003.toInt < (k_11002 : Int) → va_P G.1 classes [(b18, .inl (G.2 0, 520, .inl b56)), (b21, .inl (G.2 0, 482, .inl b57)), (b26, .inl (G.2 0, 2, .inl b58)), (b27, .inl (G.2 0, 2880, .inl b59)), (b35, .inl (G.2 1, 4096, .inr (.inl y_11004))), (b36, .inl (G.2 1, 4096, .inr (.inl y_11005))), (b37, .inl (G.2 1, 80, .inr (.inl y_8326))), (b0, .inr (12, [.int b1, .ref b2, .ref b3, .ref b4, .ref b5, .int b6, .ref b7, .int b8, .int b9, .int b10, .int b11, .ref b12, .ref b13, .ref b14, .int b15, .ref b16, .ref b17, .ref b18, .ref b19, .ref b20, .ref b21, .ref b22, .ref b23, .ref b24, .ref b25, .ref b26, .ref b27, .int y_8325, .ref b29, .ref b30, .int b31, .int b32, .int b33, .int b34, .ref b35, .ref b36, .ref b37, .ref b38, .ref b39, .ref b40, .ref b41, .int b42, .ref b43, .ref b44, .int b45, .ref b46, .ref b47, .ref b48, .ref b49, .ref b50, .int b51, .ref b52, .ref b53, .ref b54])), (b2, .inl (G.2 0, 503, .inl b55))] H → va_D A [(b18, .inl (G.2 0, 520, .inl b56)), (b21, .inl (G.2 0, 482, .inl b57)), (b26, .inl (G.2 0, 2, .inl b58)), (b27, .inl (G.2 0, 2880, .inl b59)), (b35, .inl (G.2 1, 4096, .inr (.inl y_11004))), (b36, .inl (G.2 1, 4096, .inr (.inl y_11005))), (b37, .inl (G.2 1, 80, .inr (.inl y_8326))), (b0, .inr (12, [.int b1, .ref b2, .ref b3, .ref b4, .ref b5, .int b6, .ref b7, .int b8, .int b9, .int b10, .int b11, .ref b12, .ref b13, .ref b14, .int b15, .ref b16, .ref b17, .ref b18, .ref b19, .ref b20, .ref b21, .ref b22, .ref b23, .ref b24, .ref b25, .ref b26, .ref b27, .int y_8325, .ref b29, .ref b30, .int b31, .int b32, .int b33, .int b34, .ref b35, .ref b36, .ref b37, .ref b38, .ref b39, .ref b40, .ref b41, .int b42, .ref b43, .ref b44, .int b45, .ref b46, .ref b47, .ref b48, .ref b49, .ref b50, .int b51, .ref b52, .ref b53, .ref b54])), (b2, .inl (G.2 0, 503, .inl b55))] → va_S A s.heap H locs → lv_has ls 5 [(4, .int y_11003), (3, .int v_10972), (2, .int 9), (1, .int y_10355), (0, .ref b0)] → W p l e m_s2_Model_layGoes s m ([.ref b0] : List Value).toArray below meth c H locs 0 0 (MQ below (zQ G (fun v w => ∃ (e0 : Int32), ∃ (e1 : Nat → Int64), ∃ (e2 : Nat → Int64), ∃ (e3 : Nat → Int64), v = none ∧ w = [(b0, .inr (12, [.int b1, .ref b2, .ref b3, .ref b4, .ref b5, .int b6, .ref b7, .int b8, .int b9, .int b10, .int b11, .ref b12, .ref b13, .ref b14, .int b15, .ref b16, .ref b17, .ref b18, .ref b19, .ref b20, .ref b21, .ref b22, .ref b23, .ref b24, .ref b25, .ref b26, .ref b27, .int e0, .ref b29, .ref b30, .int b31, .int b32, .int b33, .int b34, .ref b35, .ref b36, .ref b37, .ref b38, .ref b39, .ref b40, .ref b41, .int b42, .ref b43, .ref b44, .int b45, .ref b46, .ref b47, .ref b48, .ref b49, .ref b50, .int b51, .ref b52, .ref b53, .ref b54])), (b2, .inl (G.2 0, 503, .inl b55)), (b18, .inl (G.2 0, 520, .inl b56)), (b21, .inl (G.2 0, 482, .inl b57)), (b26, .inl (G.2 0, 2, .inl b58)), (b27, .inl (G.2 0, 2880, .inl b59)), (b35, .inl (G.2 1, 4096, .inr (.inl e1))), (b36, .inl (G.2 1, 4096, .inr (.inl e2))), (b37, .inl (G.2 1, 80, .inr (.inl e3)))] ∧ (zI e0 0 1)) A) ([.ref b0] : List Value).toArray s m_s2_Model_layGoes.cells m_s2_Model_layGoes.slots A) (F0 m 167 ls []) by
                                        exact key 5 (0) (y_10356) (y_10357) _ _ _ (zI.wk (l' := 0) (h' := 4) zc_0 (by decide)) (zm_upi (zI.wk (l' := 0) (h' := 4) zc_0 (by decide)) (by decide)) hP hD hS (lv_sub hl [0, 1, 2, 3, 4] rfl)
                                      intro k_11002
                                      induction k_11002 with
                                      | zero =>
                                        intro y_11003 y_11004 y_11005 H locs ls hy_11003 hmk_11002 hP hD hS hl
                                        exact (zm_up0 hy_11003 hmk_11002).elim
                                      | succ k_11002 ihk_11002 =>
                                        intro y_11003 y_11004 y_11005 H locs ls hy_11003 hmk_11002 hP hD hS hl
                                        refine lv_iload hx hb d_Model_layGoes_167 (lv_at hl 0 rfl) ?_
                                        refine lv_iconst (v := 4) hx hb d_Model_layGoes_169 (by decide) ?_
                                        refine lv_icmp_ge (tgt := 250) hx hb d_Model_layGoes_170 (by decide) (fun hc_11006 => ?_) (fun hc_11006 => ?_)
                                        · have _nhc_11006 := hc_11006
                                          have ni_11007 := (fa_le _ _).mp hc_11006
                                          rw [li_4] at ni_11007
                                          have hv_11008 : zI y_11003 4 4 := zI.le_r zc_4 hy_11003 hc_11006 (by decide)
                                          obtain ⟨v_11009, ev_11009⟩ : ∃ z : Int32, z = y_10355 + 1 := ⟨_, rfl⟩
                                          obtain ⟨qv_11009, hv_11009⟩ := zI_add (l := 2) (h := 1024) hv_10362 zc_1 ev_11009 (by decide)
                                          rw [li_1] at qv_11009
                                          refine lv_iinc (v := v_11009) (lv' := [(1, .int v_11009), (4, .int y_11003), (3, .int v_10972), (2, .int 9), (0, .ref b0)]) hx hb d_Model_layGoes_250 hl (k := 3) rfl (by rw [ev_11009]; rfl) (by decide) rfl (fun ls hl => ?_)
                                          refine lv_goto (tgt := 135) hx hb d_Model_layGoes_253 (by decide) ?_
                                          exact ihk_10354 (v_11009) (y_11004) (y_11005) _ _ _ (zI.wk (l' := 1) (h' := 1024) hv_11009 (by decide)) (zm_up qv_11009 hmk_10354 (by decide)) hP hD hS (lv_sub hl [0, 4] rfl)
                                        · have _nhc_11006 := hc_11006
                                          have ni_11010 := (fa_lt _ _).mp (zi_nle hc_11006)
                                          rw [li_4] at ni_11010
                                          have hv_11011 : zI y_11003 0 3 := zI.lt_l hy_11003 zc_4 (zi_nle hc_11006) (by decide)
                                          refine lv_aload_n hx hb d_Model_layGoes_173 rfl (lv_at hl 4 rfl) ?_
                                          refine va_get (D := G.1) (ci := 12) (v := .ref b35) (C := R_Model) (T := F_Model) (N := 54) hx hb hts i_Model hown hK hP 7 rfl rfl 34 (by decide) (hts _ q1143) (fun _ h9 => h9) rfl d_Model_layGoes_174 ?_
                                          refine lv_iconst (v := 4) hx hb d_Model_layGoes_177 (by decide) ?_
                                          refine lv_iload_n hx hb d_Model_layGoes_178 rfl (lv_at hl 3 rfl) ?_
                                          refine lv_imul hx hb d_Model_layGoes_179 ?_
                                          refine lv_topi (fun v_11012 ev_11012 => ?_)
                                          obtain ⟨qv_11012, hv_11012⟩ := zI_mul (l := 4) (h := 4092) zc_4 hv_10362 ev_11012 (by decide)
                                          rw [li_4] at qv_11012
                                          refine lv_iload hx hb d_Model_layGoes_180 (lv_at hl 0 rfl) ?_
                                          refine lv_iadd hx hb d_Model_layGoes_182 ?_
                                          refine lv_topi (fun v_11013 ev_11013 => ?_)
                                          obtain ⟨qv_11013, hv_11013⟩ := zI_add (l := 4) (h := 4095) hv_11012 hv_11011 ev_11013 (by decide)
                                          refine lv_aload_n hx hb d_Model_layGoes_183 rfl (lv_at hl 4 rfl) ?_
                                          refine va_get (D := G.1) (ci := 12) (v := .ref b35) (C := R_Model) (T := F_Model) (N := 54) hx hb hts i_Model hown hK hP 7 rfl rfl 34 (by decide) (hts _ q1143) (fun _ h9 => h9) rfl d_Model_layGoes_184 ?_
                                          refine lv_iconst (v := 4) hx hb d_Model_layGoes_187 (by decide) ?_
                                          refine lv_iload_n hx hb d_Model_layGoes_188 rfl (lv_at hl 1 rfl) ?_
                                          refine lv_imul hx hb d_Model_layGoes_189 ?_
                                          refine lv_topi (fun v_11014 ev_11014 => ?_)
                                          obtain ⟨qv_11014, hv_11014⟩ := zI_mul (l := 0) (h := 4092) zc_4 hv_10973 ev_11014 (by decide)
                                          rw [li_4] at qv_11014
                                          refine lv_iload hx hb d_Model_layGoes_190 (lv_at hl 0 rfl) ?_
                                          refine lv_iadd hx hb d_Model_layGoes_192 ?_
                                          refine lv_topi (fun v_11015 ev_11015 => ?_)
                                          obtain ⟨qv_11015, hv_11015⟩ := zI_add (l := 0) (h := 4095) hv_11014 hv_11011 ev_11015 (by decide)
                                          refine va_lald hx hb hK hP 4 1 rfl rfl (zI.inn hv_11015 (by decide)) d_Model_layGoes_193 ?_
                                          refine lv_topl (fun v_11016 ev_11016 => ?_)
                                          refine lv_aload_n hx hb d_Model_layGoes_194 rfl (lv_at hl 4 rfl) ?_
                                          refine va_get (D := G.1) (ci := 12) (v := .ref b37) (C := R_Model) (T := F_Model) (N := 54) hx hb hts i_Model hown hK hP 7 rfl rfl 36 (by decide) (hts _ q1145) (fun _ h9 => h9) rfl d_Model_layGoes_195 ?_
                                          refine lv_iconst (v := 4) hx hb d_Model_layGoes_198 (by decide) ?_
                                          refine lv_iload_n hx hb d_Model_layGoes_199 rfl (lv_at hl 2 rfl) ?_
                                          refine lv_imul hx hb d_Model_layGoes_200 ?_
                                          refine z_topi (y := 36) (by decide +kernel) ?_
                                          refine lv_iload hx hb d_Model_layGoes_201 (lv_at hl 0 rfl) ?_
                                          refine lv_iadd hx hb d_Model_layGoes_203 ?_
                                          refine lv_topi (fun v_11017 ev_11017 => ?_)
                                          obtain ⟨qv_11017, hv_11017⟩ := zI_add (l := 36) (h := 39) zc_36 hv_11011 ev_11017 (by decide)
                                          rw [li_36] at qv_11017
                                          refine va_lald hx hb hK hP 6 1 rfl rfl (zI.inn hv_11017 (by decide)) d_Model_layGoes_204 ?_
                                          refine lv_topl (fun v_11018 ev_11018 => ?_)
                                          refine lv_lor hx hb d_Model_layGoes_205 ?_
                                          refine lv_topl (fun v_11019 ev_11019 => ?_)
                                          refine va_last hx hb hK hP hD hS 4 1 rfl rfl (zI.inn hv_11013 (by decide)) d_Model_layGoes_206 (fun H locs hP hD hS => ?_)
                                          obtain ⟨f_11020, hP, hD⟩ := z_newL 4 hP hD rfl
                                          have hP : va_P G.1 classes [(b18, .inl (G.2 0, 520, .inl b56)), (b21, .inl (G.2 0, 482, .inl b57)), (b26, .inl (G.2 0, 2, .inl b58)), (b27, .inl (G.2 0, 2880, .inl b59)), (b35, .inl (G.2 1, 4096, .inr (.inl f_11020))), (b36, .inl (G.2 1, 4096, .inr (.inl y_11005))), (b37, .inl (G.2 1, 80, .inr (.inl y_8326))), (b0, .inr (12, [.int b1, .ref b2, .ref b3, .ref b4, .ref b5, .int b6, .ref b7, .int b8, .int b9, .int b10, .int b11, .ref b12, .ref b13, .ref b14, .int b15, .ref b16, .ref b17, .ref b18, .ref b19, .ref b20, .ref b21, .ref b22, .ref b23, .ref b24, .ref b25, .ref b26, .ref b27, .int y_8325, .ref b29, .ref b30, .int b31, .int b32, .int b33, .int b34, .ref b35, .ref b36, .ref b37, .ref b38, .ref b39, .ref b40, .ref b41, .int b42, .ref b43, .ref b44, .int b45, .ref b46, .ref b47, .ref b48, .ref b49, .ref b50, .int b51, .ref b52, .ref b53, .ref b54])), (b2, .inl (G.2 0, 503, .inl b55))] H := hP
                                          have hD := z_tie hP hD rfl
                                          refine lv_aload_n hx hb d_Model_layGoes_207 rfl (lv_at hl 4 rfl) ?_
                                          refine va_get (D := G.1) (ci := 12) (v := .ref b36) (C := R_Model) (T := F_Model) (N := 54) hx hb hts i_Model hown hK hP 7 rfl rfl 35 (by decide) (hts _ q1144) (fun _ h9 => h9) rfl d_Model_layGoes_208 ?_
                                          refine lv_iconst (v := 4) hx hb d_Model_layGoes_211 (by decide) ?_
                                          refine lv_iload_n hx hb d_Model_layGoes_212 rfl (lv_at hl 3 rfl) ?_
                                          refine lv_imul hx hb d_Model_layGoes_213 ?_
                                          refine lv_topi (fun v_11021 ev_11021 => ?_)
                                          obtain rfl : v_11012 = v_11021 := ev_11012.trans ev_11021.symm
                                          refine lv_iload hx hb d_Model_layGoes_214 (lv_at hl 0 rfl) ?_
                                          refine lv_iadd hx hb d_Model_layGoes_216 ?_
                                          refine lv_topi (fun v_11022 ev_11022 => ?_)
                                          obtain rfl : v_11013 = v_11022 := ev_11013.trans ev_11022.symm
                                          refine lv_aload_n hx hb d_Model_layGoes_217 rfl (lv_at hl 4 rfl) ?_
                                          refine va_get (D := G.1) (ci := 12) (v := .ref b36) (C := R_Model) (T := F_Model) (N := 54) hx hb hts i_Model hown hK hP 7 rfl rfl 35 (by decide) (hts _ q1144) (fun _ h9 => h9) rfl d_Model_layGoes_218 ?_
                                          refine lv_iconst (v := 4) hx hb d_Model_layGoes_221 (by decide) ?_
                                          refine lv_iload_n hx hb d_Model_layGoes_222 rfl (lv_at hl 1 rfl) ?_
                                          refine lv_imul hx hb d_Model_layGoes_223 ?_
                                          refine lv_topi (fun v_11023 ev_11023 => ?_)
                                          obtain rfl : v_11014 = v_11023 := ev_11014.trans ev_11023.symm
                                          refine lv_iload hx hb d_Model_layGoes_224 (lv_at hl 0 rfl) ?_
                                          refine lv_iadd hx hb d_Model_layGoes_226 ?_
                                          refine lv_topi (fun v_11024 ev_11024 => ?_)
                                          obtain rfl : v_11015 = v_11024 := ev_11015.trans ev_11024.symm
                                          refine va_lald hx hb hK hP 5 1 rfl rfl (zI.inn hv_11015 (by decide)) d_Model_layGoes_227 ?_
                                          refine lv_topl (fun v_11025 ev_11025 => ?_)
                                          refine lv_aload_n hx hb d_Model_layGoes_228 rfl (lv_at hl 4 rfl) ?_
                                          refine va_get (D := G.1) (ci := 12) (v := .ref b37) (C := R_Model) (T := F_Model) (N := 54) hx hb hts i_Model hown hK hP 7 rfl rfl 36 (by decide) (hts _ q1145) (fun _ h9 => h9) rfl d_Model_layGoes_229 ?_
                                          refine lv_iconst (v := 4) hx hb d_Model_layGoes_232 (by decide) ?_
                                          refine lv_iload_n hx hb d_Model_layGoes_233 rfl (lv_at hl 2 rfl) ?_
                                          refine lv_bipush (v := 10) hx hb d_Model_layGoes_234 (by decide) ?_
                                          refine lv_iadd hx hb d_Model_layGoes_236 ?_
                                          refine z_topi (y := 19) (by decide +kernel) ?_
                                          refine lv_imul hx hb d_Model_layGoes_237 ?_
                                          refine z_topi (y := 76) (by decide +kernel) ?_
                                          refine lv_iload hx hb d_Model_layGoes_238 (lv_at hl 0 rfl) ?_
                                          refine lv_iadd hx hb d_Model_layGoes_240 ?_
                                          refine lv_topi (fun v_11026 ev_11026 => ?_)
                                          obtain ⟨qv_11026, hv_11026⟩ := zI_add (l := 76) (h := 79) zc_76 hv_11011 ev_11026 (by decide)
                                          rw [li_76] at qv_11026
                                          refine va_lald hx hb hK hP 6 1 rfl rfl (zI.inn hv_11026 (by decide)) d_Model_layGoes_241 ?_
                                          refine lv_topl (fun v_11027 ev_11027 => ?_)
                                          refine lv_lor hx hb d_Model_layGoes_242 ?_
                                          refine lv_topl (fun v_11028 ev_11028 => ?_)
                                          refine va_last hx hb hK hP hD hS 5 1 rfl rfl (zI.inn hv_11013 (by decide)) d_Model_layGoes_243 (fun H locs hP hD hS => ?_)
                                          obtain ⟨f_11029, hP, hD⟩ := z_newL 5 hP hD rfl
                                          have hP : va_P G.1 classes [(b18, .inl (G.2 0, 520, .inl b56)), (b21, .inl (G.2 0, 482, .inl b57)), (b26, .inl (G.2 0, 2, .inl b58)), (b27, .inl (G.2 0, 2880, .inl b59)), (b35, .inl (G.2 1, 4096, .inr (.inl f_11020))), (b36, .inl (G.2 1, 4096, .inr (.inl f_11029))), (b37, .inl (G.2 1, 80, .inr (.inl y_8326))), (b0, .inr (12, [.int b1, .ref b2, .ref b3, .ref b4, .ref b5, .int b6, .ref b7, .int b8, .int b9, .int b10, .int b11, .ref b12, .ref b13, .ref b14, .int b15, .ref b16, .ref b17, .ref b18, .ref b19, .ref b20, .ref b21, .ref b22, .ref b23, .ref b24, .ref b25, .ref b26, .ref b27, .int y_8325, .ref b29, .ref b30, .int b31, .int b32, .int b33, .int b34, .ref b35, .ref b36, .ref b37, .ref b38, .ref b39, .ref b40, .ref b41, .int b42, .ref b43, .ref b44, .int b45, .ref b46, .ref b47, .ref b48, .ref b49, .ref b50, .int b51, .ref b52, .ref b53, .ref b54])), (b2, .inl (G.2 0, 503, .inl b55))] H := hP
                                          have hD := z_tie hP hD rfl
                                          obtain ⟨v_11030, ev_11030⟩ : ∃ z : Int32, z = y_11003 + 1 := ⟨_, rfl⟩
                                          obtain ⟨qv_11030, hv_11030⟩ := zI_add (l := 1) (h := 4) hv_11011 zc_1 ev_11030 (by decide)
                                          rw [li_1] at qv_11030
                                          refine lv_iinc (v := v_11030) (lv' := [(4, .int v_11030), (3, .int v_10972), (2, .int 9), (1, .int y_10355), (0, .ref b0)]) hx hb d_Model_layGoes_244 hl (k := 0) rfl (by rw [ev_11030]; rfl) (by decide) rfl (fun ls hl => ?_)
                                          refine lv_goto (tgt := 167) hx hb d_Model_layGoes_247 (by decide) ?_
                                          exact ihk_11002 (v_11030) (f_11020) (f_11029) _ _ _ (zI.wk (l' := 0) (h' := 4) hv_11030 (by decide)) (zm_up qv_11030 hmk_11002 (by decide)) hP hD hS (lv_sub hl [0, 1, 2, 3, 4] rfl)
                                    · have _nhc_10968 := hc_10968
                                      have ni_11031 := (fa_eq _ _).mp hc_10968
                                      rw [li_0] at ni_11031
                                      have hv_11032 : zI v_10967 0 0 := zI.eq_l hv_10967 zc_0 hc_10968
                                      refine lv_iinc (v := 10) (lv' := [(2, .int 10), (1, .int y_10355), (0, .ref b0)]) hx hb d_Model_layGoes_152 hl (k := 0) rfl (by decide +kernel) (by decide) rfl (fun ls hl => ?_)
                                      refine lv_goto (tgt := 144) hx hb d_Model_layGoes_155 (by decide) ?_
                                      exfalso; omega
            · have _nhc_9683 := hc_9683
              have ni_11033 := (fa_lt _ _).mp (zi_nle hc_9683)
              rw [li_4096] at ni_11033
              have hv_11034 : zI y_9680 0 4095 := zI.lt_l hy_9680 zc_4096 (zi_nle hc_9683) (by decide)
              refine lv_aload_n hx hb d_Model_layGoes_113 rfl (lv_at hl 1 rfl) ?_
              refine va_get (D := G.1) (ci := 12) (v := .ref b35) (C := R_Model) (T := F_Model) (N := 54) hx hb hts i_Model hown hK hP 7 rfl rfl 34 (by decide) (hts _ q1143) (fun _ h9 => h9) rfl d_Model_layGoes_114 ?_
              refine lv_iload_n hx hb d_Model_layGoes_117 rfl (lv_at hl 0 rfl) ?_
              refine lv_lconst (v := 0) hx hb d_Model_layGoes_118 (by decide) ?_
              refine va_last hx hb hK hP hD hS 4 1 rfl rfl (zI.inn hv_11034 (by decide)) d_Model_layGoes_119 (fun H locs hP hD hS => ?_)
              obtain ⟨f_11035, hP, hD⟩ := z_newL 4 hP hD rfl
              have hP : va_P G.1 classes [(b18, .inl (G.2 0, 520, .inl b56)), (b21, .inl (G.2 0, 482, .inl b57)), (b26, .inl (G.2 0, 2, .inl b58)), (b27, .inl (G.2 0, 2880, .inl b59)), (b35, .inl (G.2 1, 4096, .inr (.inl f_11035))), (b36, .inl (G.2 1, 4096, .inr (.inl y_9682))), (b37, .inl (G.2 1, 80, .inr (.inl y_8326))), (b0, .inr (12, [.int b1, .ref b2, .ref b3, .ref b4, .ref b5, .int b6, .ref b7, .int b8, .int b9, .int b10, .int b11, .ref b12, .ref b13, .ref b14, .int b15, .ref b16, .ref b17, .ref b18, .ref b19, .ref b20, .ref b21, .ref b22, .ref b23, .ref b24, .ref b25, .ref b26, .ref b27, .int y_8325, .ref b29, .ref b30, .int b31, .int b32, .int b33, .int b34, .ref b35, .ref b36, .ref b37, .ref b38, .ref b39, .ref b40, .ref b41, .int b42, .ref b43, .ref b44, .int b45, .ref b46, .ref b47, .ref b48, .ref b49, .ref b50, .int b51, .ref b52, .ref b53, .ref b54])), (b2, .inl (G.2 0, 503, .inl b55))] H := hP
              have hD := z_tie hP hD rfl
              refine lv_aload_n hx hb d_Model_layGoes_120 rfl (lv_at hl 1 rfl) ?_
              refine va_get (D := G.1) (ci := 12) (v := .ref b36) (C := R_Model) (T := F_Model) (N := 54) hx hb hts i_Model hown hK hP 7 rfl rfl 35 (by decide) (hts _ q1144) (fun _ h9 => h9) rfl d_Model_layGoes_121 ?_
              refine lv_iload_n hx hb d_Model_layGoes_124 rfl (lv_at hl 0 rfl) ?_
              refine lv_lconst (v := 0) hx hb d_Model_layGoes_125 (by decide) ?_
              refine va_last hx hb hK hP hD hS 5 1 rfl rfl (zI.inn hv_11034 (by decide)) d_Model_layGoes_126 (fun H locs hP hD hS => ?_)
              obtain ⟨f_11036, hP, hD⟩ := z_newL 5 hP hD rfl
              have hP : va_P G.1 classes [(b18, .inl (G.2 0, 520, .inl b56)), (b21, .inl (G.2 0, 482, .inl b57)), (b26, .inl (G.2 0, 2, .inl b58)), (b27, .inl (G.2 0, 2880, .inl b59)), (b35, .inl (G.2 1, 4096, .inr (.inl f_11035))), (b36, .inl (G.2 1, 4096, .inr (.inl f_11036))), (b37, .inl (G.2 1, 80, .inr (.inl y_8326))), (b0, .inr (12, [.int b1, .ref b2, .ref b3, .ref b4, .ref b5, .int b6, .ref b7, .int b8, .int b9, .int b10, .int b11, .ref b12, .ref b13, .ref b14, .int b15, .ref b16, .ref b17, .ref b18, .ref b19, .ref b20, .ref b21, .ref b22, .ref b23, .ref b24, .ref b25, .ref b26, .ref b27, .int y_8325, .ref b29, .ref b30, .int b31, .int b32, .int b33, .int b34, .ref b35, .ref b36, .ref b37, .ref b38, .ref b39, .ref b40, .ref b41, .int b42, .ref b43, .ref b44, .int b45, .ref b46, .ref b47, .ref b48, .ref b49, .ref b50, .int b51, .ref b52, .ref b53, .ref b54])), (b2, .inl (G.2 0, 503, .inl b55))] H := hP
              have hD := z_tie hP hD rfl
              obtain ⟨v_11037, ev_11037⟩ : ∃ z : Int32, z = y_9680 + 1 := ⟨_, rfl⟩
              obtain ⟨qv_11037, hv_11037⟩ := zI_add (l := 1) (h := 4096) hv_11034 zc_1 ev_11037 (by decide)
              rw [li_1] at qv_11037
              refine lv_iinc (v := v_11037) (lv' := [(1, .int v_11037), (0, .ref b0)]) hx hb d_Model_layGoes_127 hl (k := 0) rfl (by rw [ev_11037]; rfl) (by decide) rfl (fun ls hl => ?_)
              refine lv_goto (tgt := 106) hx hb d_Model_layGoes_130 (by decide) ?_
              exact ihk_9679 (v_11037) (f_11035) (f_11036) _ _ _ (zI.wk (l' := 0) (h' := 4096) hv_11037 (by decide)) (zm_up qv_11037 hmk_9679 (by decide)) hP hD hS (lv_sub hl [0, 1] rfl)
        · have _nhc_8330 := hc_8330
          have ni_11038 := (fa_lt _ _).mp (zi_nle hc_8330)
          have hv_11039 : zI y_8324 0 19 := zI.lt_l hy_8324 hx_8328 (zi_nle hc_8330) (by decide)
          have hv_11040 : zI x_8328 1 20 := zI.lt_r hy_8324 hx_8328 (zi_nle hc_8330) (by decide)
          refine lv_iconst (v := 0) hx hb d_Model_layGoes_31 (by decide) ?_
          refine lv_istore_n (lv' := [(2, .int 0), (1, .int y_8324), (0, .ref b0)]) hx hb d_Model_layGoes_32 rfl hl (by decide) rfl (fun ls hl => ?_)
          suffices key : ∀ (k_11073 : Nat) (y_11074 : Int32) (y_11075 : Int32) (y_11076 : Nat → Int64) (H : Heap) (locs : List Loc) (ls : Array Slot), (zI y_11074 0 12) → (zI y_11075 0 1) → (12 : Int) - y_11074.toInt < (k_11073 : Int) → va_P G.1 classes [(b18, .inl (G.2 0, 520, .inl b56)), (b21, .inl (G.2 0, 482, .inl b57)), (b26, .inl (G.2 0, 2, .inl b58)), (b27, .inl (G.2 0, 2880, .inl b59)), (b35, .inl (G.2 1, 4096, .inr (.inl b60))), (b36, .inl (G.2 1, 4096, .inr (.inl b61))), (b37, .inl (G.2 1, 80, .inr (.inl y_11076))), (b0, .inr (12, [.int b1, .ref b2, .ref b3, .ref b4, .ref b5, .int b6, .ref b7, .int b8, .int b9, .int b10, .int b11, .ref b12, .ref b13, .ref b14, .int b15, .ref b16, .ref b17, .ref b18, .ref b19, .ref b20, .ref b21, .ref b22, .ref b23, .ref b24, .ref b25, .ref b26, .ref b27, .int y_11075, .ref b29, .ref b30, .int b31, .int b32, .int b33, .int b34, .ref b35, .ref b36, .ref b37, .ref b38, .ref b39, .ref b40, .ref b41, .int b42, .ref b43, .ref b44, .int b45, .ref b46, .ref b47, .ref b48, .ref b49, .ref b50, .int b51, .ref b52, .ref b53, .ref b54])), (b2, .inl (G.2 0, 503, .inl b55))] H → va_D A [(b18, .inl (G.2 0, 520, .inl b56)), (b21, .inl (G.2 0, 482, .inl b57)), (b26, .inl (G.2 0, 2, .inl b58)), (b27, .inl (G.2 0, 2880, .inl b59)), (b35, .inl (G.2 1, 4096, .inr (.inl b60))), (b36, .inl (G.2 1, 4096, .inr (.inl b61))), (b37, .inl (G.2 1, 80, .inr (.inl y_11076))), (b0, .inr (12, [.int b1, .ref b2, .ref b3, .ref b4, .ref b5, .int b6, .ref b7, .int b8, .int b9, .int b10, .int b11, .ref b12, .ref b13, .ref b14, .int b15, .ref b16, .ref b17, .ref b18, .ref b19, .ref b20, .ref b21, .ref b22, .ref b23, .ref b24, .ref b25, .ref b26, .ref b27, .int y_11075, .ref b29, .ref b30, .int b31, .int b32, .int b33, .int b34, .ref b35, .ref b36, .ref b37, .ref b38, .ref b39, .ref b40, .ref b41, .int b42, .ref b43, .ref b44, .int b45, .ref b46, .ref b47, .ref b48, .ref b49, .ref b50, .int b51, .ref b52, .ref b53, .ref b54])), (b2, .inl (G.2 0, 503, .inl b55))] → va_S A s.heap H locs → lv_has ls 5 [(2, .int y_11074), (1, .int y_8324), (0, .ref b0)] → W p l e m_s2_Model_layGoes s m ([.ref b0] : List Value).toArray below meth c H locs 0 0 (MQ below (zQ G (fun v w => ∃ (e0 : Int32), ∃ (e1 : Nat → Int64), ∃ (e2 : Nat → Int64), ∃ (e3 : Nat → Int64), v = none ∧ w = [(b0, .inr (12, [.int b1, .ref b2, .ref b3, .ref b4, .ref b5, .int b6, .ref b7, .int b8, .int b9, .int b10, .int b11, .ref b12, .ref b13, .ref b14, .int b15, .ref b16, .ref b17, .ref b18, .ref b19, .ref b20, .ref b21, .ref b22, .ref b23, .ref b24, .ref b25, .ref b26, .ref b27, .int e0, .ref b29, .ref b30, .int b31, .int b32, .int b33, .int b34, .ref b35, .ref b36, .ref b37, .ref b38, .ref b39, .ref b40, .ref b41, .int b42, .ref b43, .ref b44, .int b45, .ref b46, .ref b47, .ref b48, .ref b49, .ref b50, .int b51, .ref b52, .ref b53, .ref b54])), (b2, .inl (G.2 0, 503, .inl b55)), (b18, .inl (G.2 0, 520, .inl b56)), (b21, .inl (G.2 0, 482, .inl b57)), (b26, .inl (G.2 0, 2, .inl b58)), (b27, .inl (G.2 0, 2880, .inl b59)), (b35, .inl (G.2 1, 4096, .inr (.inl e1))), (b36, .inl (G.2 1, 4096, .inr (.inl e2))), (b37, .inl (G.2 1, 80, .inr (.inl e3)))] ∧ (zI e0 0 1)) A) ([.ref b0] : List Value).toArray s m_s2_Model_layGoes.cells m_s2_Model_layGoes.slots A) (F0 m 33 ls []) by
            exact key 13 (0) (y_8325) (y_8326) _ _ _ (zI.wk (l' := 0) (h' := 12) zc_0 (by decide)) hy_8325 (zm_upi (zI.wk (l' := 0) (h' := 12) zc_0 (by decide)) (by decide)) hP hD hS (lv_sub hl [0, 1, 2] rfl)
          intro k_11073
          induction k_11073 with
          | zero =>
            intro y_11074 y_11075 y_11076 H locs ls hy_11074 hy_11075 hmk_11073 hP hD hS hl
            exact (zm_up0 hy_11074 hmk_11073).elim
          | succ k_11073 ihk_11073 =>
            intro y_11074 y_11075 y_11076 H locs ls hy_11074 hy_11075 hmk_11073 hP hD hS hl
            refine lv_iload_n hx hb d_Model_layGoes_33 rfl (lv_at hl 0 rfl) ?_
            refine lv_aload_n hx hb d_Model_layGoes_34 rfl (lv_at hl 2 rfl) ?_
            refine lv_iload_n hx hb d_Model_layGoes_35 rfl (lv_at hl 1 rfl) ?_
            refine z_callV (index := 203) (As := [.int y_8324]) (rest := [.int y_11074]) (wr := [(b18, .inl (G.2 0, 520, .inl b56)), (b21, .inl (G.2 0, 482, .inl b57)), (b26, .inl (G.2 0, 2, .inl b58)), (b27, .inl (G.2 0, 2880, .inl b59)), (b35, .inl (G.2 1, 4096, .inr (.inl b60))), (b36, .inl (G.2 1, 4096, .inr (.inl b61))), (b37, .inl (G.2 1, 80, .inr (.inl y_11076)))]) Z (s1_Model_calls l G (b0) (y_8324) (b1) (b2) (b3) (b4) (b5) (b6) (b7) (b8) (b9) (b10) (b11) (b12) (b13) (b14) (b15) (b16) (b17) (b18) (b19) (b20) (b21) (b22) (b23) (b24) (b25) (b26) (b27) (y_11075) (b29) (b30) (b31) (b32) (b33) (b34) (b35) (b36) (b37) (b38) (b39) (b40) (b41) (b42) (b43) (b44) (b45) (b46) (b47) (b48) (b49) (b50) (b51) (b52) (b53) (b54) (b55) hv_11039 hb6 hb8 hb9 hb11 hb15 hy_11075 hb31 hb42 hb45 hb51 hb55) hl.1 q1352 q1354 qs54 q14 q1355 ⟨by decide, by decide, by show _ = some 1; decide +kernel⟩ ⟨Nat.le_of_ble_eq_true rfl, Nat.le_of_ble_eq_true rfl⟩ ⟨Nat.le_of_ble_eq_true rfl, Nat.le_of_ble_eq_true rfl⟩ rfl (Nat.le_of_ble_eq_true rfl) d_Model_layGoes_36 hP hD hS hA 7 12 rfl rfl rfl [7, 8] [0, 1, 2, 3, 4, 5, 6] rfl rfl rfl rfl (by decide) (fun v w1 H locs hw_11077 hP hD hS => ?_)
            obtain ⟨x_11078, rfl, rfl, hx_11078, hfx_11079⟩ := hw_11077
            have hP : va_P G.1 classes [(b18, .inl (G.2 0, 520, .inl b56)), (b21, .inl (G.2 0, 482, .inl b57)), (b26, .inl (G.2 0, 2, .inl b58)), (b27, .inl (G.2 0, 2880, .inl b59)), (b35, .inl (G.2 1, 4096, .inr (.inl b60))), (b36, .inl (G.2 1, 4096, .inr (.inl b61))), (b37, .inl (G.2 1, 80, .inr (.inl y_11076))), (b0, .inr (12, [.int b1, .ref b2, .ref b3, .ref b4, .ref b5, .int b6, .ref b7, .int b8, .int b9, .int b10, .int b11, .ref b12, .ref b13, .ref b14, .int b15, .ref b16, .ref b17, .ref b18, .ref b19, .ref b20, .ref b21, .ref b22, .ref b23, .ref b24, .ref b25, .ref b26, .ref b27, .int y_11075, .ref b29, .ref b30, .int b31, .int b32, .int b33, .int b34, .ref b35, .ref b36, .ref b37, .ref b38, .ref b39, .ref b40, .ref b41, .int b42, .ref b43, .ref b44, .int b45, .ref b46, .ref b47, .ref b48, .ref b49, .ref b50, .int b51, .ref b52, .ref b53, .ref b54])), (b2, .inl (G.2 0, 503, .inl b55))] H := hP
            have hD := z_tie hP hD rfl
            refine W.widen (k := 0) (n := 0) (Nat.le_of_ble_eq_true rfl) (Nat.le_of_ble_eq_true rfl) ?_
            refine lv_icmp_ge (tgt := 98) hx hb d_Model_layGoes_39 (by decide) (fun hc_11080 => ?_) (fun hc_11080 => ?_)
            · have _nhc_11080 := hc_11080
              have ni_11081 := (fa_le _ _).mp hc_11080
              obtain ⟨v_11082, ev_11082⟩ : ∃ z : Int32, z = y_8324 + 1 := ⟨_, rfl⟩
              obtain ⟨qv_11082, hv_11082⟩ := zI_add (l := 1) (h := 20) hv_11039 zc_1 ev_11082 (by decide)
              rw [li_1] at qv_11082
              refine lv_iinc (v := v_11082) (lv' := [(1, .int v_11082), (2, .int y_11074), (0, .ref b0)]) hx hb d_Model_layGoes_98 hl (k := 1) rfl (by rw [ev_11082]; rfl) (by decide) rfl (fun ls hl => ?_)
              refine lv_goto (tgt := 23) hx hb d_Model_layGoes_101 (by decide) ?_
              exact ihk_8323 (v_11082) (y_11075) (y_11076) _ _ _ (zI.wk (l' := 0) (h' := 20) hv_11082 (by decide)) hy_11075 (zm_up qv_11082 hmk_8323 (by decide)) (hP.sub [7, 8, 0, 1, 2, 3, 4, 5, 6] rfl) (hD.sub [7, 8, 0, 1, 2, 3, 4, 5, 6] (by decide) rfl) hS (lv_sub hl [0, 2] rfl)
            · have _nhc_11080 := hc_11080
              have ni_11083 := (fa_lt _ _).mp (zi_nle hc_11080)
              have hv_11084 : zI y_11074 0 11 := zI.lt_l hy_11074 hx_11078 (zi_nle hc_11080) (by decide)
              have hv_11085 : zI x_11078 1 12 := zI.lt_r hy_11074 hx_11078 (zi_nle hc_11080) (by decide)
              refine lv_aload_n hx hb d_Model_layGoes_42 rfl (lv_at hl 2 rfl) ?_
              refine lv_iconst (v := 0) hx hb d_Model_layGoes_43 (by decide) ?_
              refine lv_aload_n hx hb d_Model_layGoes_44 rfl (lv_at hl 2 rfl) ?_
              refine lv_iconst (v := 0) hx hb d_Model_layGoes_45 (by decide) ?_
              refine lv_iload_n hx hb d_Model_layGoes_46 rfl (lv_at hl 1 rfl) ?_
              refine lv_iload_n hx hb d_Model_layGoes_47 rfl (lv_at hl 0 rfl) ?_
              refine z_callV (index := 231) (As := [.int 0, .int y_8324, .int y_11074]) (rest := [.int 0, .ref b0]) (wr := [(b26, .inl (G.2 0, 2, .inl b58)), (b27, .inl (G.2 0, 2880, .inl b59)), (b35, .inl (G.2 1, 4096, .inr (.inl b60))), (b36, .inl (G.2 1, 4096, .inr (.inl b61))), (b37, .inl (G.2 1, 80, .inr (.inl y_11076))), (b2, .inl (G.2 0, 503, .inl b55))]) Z (s1_Model_stateAt l G (b0) (y_8324) (y_11074) (b1) (b2) (b3) (b4) (b5) (b6) (b7) (b8) (b9) (b10) (b11) (b12) (b13) (b14) (b15) (b16) (b17) (b18) (b19) (b20) (b21) (b22) (b23) (b24) (b25) (b26) (b27) (y_11075) (b29) (b30) (b31) (b32) (b33) (b34) (b35) (b36) (b37) (b38) (b39) (b40) (b41) (b42) (b43) (b44) (b45) (b46) (b47) (b48) (b49) (b50) (b51) (b52) (b53) (b54) (b56) (b57) hv_11039 (zI.wk (l' := 0) (h' := 12) hv_11084 (by decide)) hb6 hb8 hb9 hb11 hb15 hy_11075 hb31 hb42 hb45 hb51 hb56 hb57) hl.1 q1400 q1402 qs66 q14 q1403 ⟨by decide, by decide, by show _ = some 3; decide +kernel⟩ ⟨Nat.le_of_ble_eq_true rfl, Nat.le_of_ble_eq_true rfl⟩ ⟨Nat.le_of_ble_eq_true rfl, Nat.le_of_ble_eq_true rfl⟩ rfl (Nat.le_of_ble_eq_true rfl) d_Model_layGoes_48 hP hD hS hA 7 12 rfl rfl rfl [7, 0, 1] [2, 3, 4, 5, 6, 8] rfl rfl rfl rfl (by decide) (fun v w1 H locs hw_11086 hP hD hS => ?_)
              obtain ⟨x_11087, rfl, rfl, hx_11087⟩ := hw_11086
              have hP : va_P G.1 classes [(b26, .inl (G.2 0, 2, .inl b58)), (b27, .inl (G.2 0, 2880, .inl b59)), (b35, .inl (G.2 1, 4096, .inr (.inl b60))), (b36, .inl (G.2 1, 4096, .inr (.inl b61))), (b37, .inl (G.2 1, 80, .inr (.inl y_11076))), (b2, .inl (G.2 0, 503, .inl b55)), (b0, .inr (12, [.int b1, .ref b2, .ref b3, .ref b4, .ref b5, .int b6, .ref b7, .int b8, .int b9, .int b10, .int b11, .ref b12, .ref b13, .ref b14, .int b15, .ref b16, .ref b17, .ref b18, .ref b19, .ref b20, .ref b21, .ref b22, .ref b23, .ref b24, .ref b25, .ref b26, .ref b27, .int y_11075, .ref b29, .ref b30, .int b31, .int b32, .int b33, .int b34, .ref b35, .ref b36, .ref b37, .ref b38, .ref b39, .ref b40, .ref b41, .int b42, .ref b43, .ref b44, .int b45, .ref b46, .ref b47, .ref b48, .ref b49, .ref b50, .int b51, .ref b52, .ref b53, .ref b54])), (b18, .inl (G.2 0, 520, .inl b56)), (b21, .inl (G.2 0, 482, .inl b57))] H := hP
              have hD := z_tie hP hD rfl
              refine W.widen (k := 0) (n := 0) (Nat.le_of_ble_eq_true rfl) (Nat.le_of_ble_eq_true rfl) ?_
              refine lv_aload_n hx hb d_Model_layGoes_51 rfl (lv_at hl 2 rfl) ?_
              refine lv_iload_n hx hb d_Model_layGoes_52 rfl (lv_at hl 1 rfl) ?_
              refine lv_iload_n hx hb d_Model_layGoes_53 rfl (lv_at hl 0 rfl) ?_
              refine z_callV (index := 207) (As := [.int y_8324, .int y_11074]) (rest := [.int x_11087, .int 0, .ref b0]) (wr := [(b26, .inl (G.2 0, 2, .inl b58)), (b27, .inl (G.2 0, 2880, .inl b59)), (b35, .inl (G.2 1, 4096, .inr (.inl b60))), (b36, .inl (G.2 1, 4096, .inr (.inl b61))), (b37, .inl (G.2 1, 80, .inr (.inl y_11076))), (b18, .inl (G.2 0, 520, .inl b56)), (b21, .inl (G.2 0, 482, .inl b57))]) Z (s1_Model_letterAt l G (b0) (y_8324) (y_11074) (b1) (b2) (b3) (b4) (b5) (b6) (b7) (b8) (b9) (b10) (b11) (b12) (b13) (b14) (b15) (b16) (b17) (b18) (b19) (b20) (b21) (b22) (b23) (b24) (b25) (b26) (b27) (y_11075) (b29) (b30) (b31) (b32) (b33) (b34) (b35) (b36) (b37) (b38) (b39) (b40) (b41) (b42) (b43) (b44) (b45) (b46) (b47) (b48) (b49) (b50) (b51) (b52) (b53) (b54) (b55) hv_11039 hv_11084 hb6 hb8 hb9 hb11 hb15 hy_11075 hb31 hb42 hb45 hb51 hb55) hl.1 q1372 q1374 qs59 q14 q1375 ⟨by decide, by decide, by show _ = some 2; decide +kernel⟩ ⟨Nat.le_of_ble_eq_true rfl, Nat.le_of_ble_eq_true rfl⟩ ⟨Nat.le_of_ble_eq_true rfl, Nat.le_of_ble_eq_true rfl⟩ rfl (Nat.le_of_ble_eq_true rfl) d_Model_layGoes_54 hP hD hS hA 6 12 rfl rfl rfl [6, 5] [0, 1, 2, 3, 4, 7, 8] rfl rfl rfl rfl (by decide) (fun v w1 H locs hw_11088 hP hD hS => ?_)
              obtain ⟨x_11089, rfl, rfl, hx_11089⟩ := hw_11088
              have hP : va_P G.1 classes [(b26, .inl (G.2 0, 2, .inl b58)), (b27, .inl (G.2 0, 2880, .inl b59)), (b35, .inl (G.2 1, 4096, .inr (.inl b60))), (b36, .inl (G.2 1, 4096, .inr (.inl b61))), (b37, .inl (G.2 1, 80, .inr (.inl y_11076))), (b18, .inl (G.2 0, 520, .inl b56)), (b21, .inl (G.2 0, 482, .inl b57)), (b0, .inr (12, [.int b1, .ref b2, .ref b3, .ref b4, .ref b5, .int b6, .ref b7, .int b8, .int b9, .int b10, .int b11, .ref b12, .ref b13, .ref b14, .int b15, .ref b16, .ref b17, .ref b18, .ref b19, .ref b20, .ref b21, .ref b22, .ref b23, .ref b24, .ref b25, .ref b26, .ref b27, .int y_11075, .ref b29, .ref b30, .int b31, .int b32, .int b33, .int b34, .ref b35, .ref b36, .ref b37, .ref b38, .ref b39, .ref b40, .ref b41, .int b42, .ref b43, .ref b44, .int b45, .ref b46, .ref b47, .ref b48, .ref b49, .ref b50, .int b51, .ref b52, .ref b53, .ref b54])), (b2, .inl (G.2 0, 503, .inl b55))] H := hP
              have hD := z_tie hP hD rfl
              refine W.widen (k := 0) (n := 0) (Nat.le_of_ble_eq_true rfl) (Nat.le_of_ble_eq_true rfl) ?_
              refine lv_aload_n hx hb d_Model_layGoes_57 rfl (lv_at hl 2 rfl) ?_
              refine lv_iconst (v := 0) hx hb d_Model_layGoes_58 (by decide) ?_
              refine lv_iload_n hx hb d_Model_layGoes_59 rfl (lv_at hl 1 rfl) ?_
              refine lv_iload_n hx hb d_Model_layGoes_60 rfl (lv_at hl 0 rfl) ?_
              refine lv_iconst (v := 1) hx hb d_Model_layGoes_61 (by decide) ?_
              refine lv_iadd hx hb d_Model_layGoes_62 ?_
              refine lv_topi (fun v_11090 ev_11090 => ?_)
              obtain ⟨qv_11090, hv_11090⟩ := zI_add (l := 1) (h := 12) hv_11084 zc_1 ev_11090 (by decide)
              rw [li_1] at qv_11090
              refine z_callV (index := 231) (As := [.int 0, .int y_8324, .int v_11090]) (rest := [.int x_11089, .int x_11087, .int 0, .ref b0]) (wr := [(b26, .inl (G.2 0, 2, .inl b58)), (b27, .inl (G.2 0, 2880, .inl b59)), (b35, .inl (G.2 1, 4096, .inr (.inl b60))), (b36, .inl (G.2 1, 4096, .inr (.inl b61))), (b37, .inl (G.2 1, 80, .inr (.inl y_11076))), (b2, .inl (G.2 0, 503, .inl b55))]) Z (s1_Model_stateAt l G (b0) (y_8324) (v_11090) (b1) (b2) (b3) (b4) (b5) (b6) (b7) (b8) (b9) (b10) (b11) (b12) (b13) (b14) (b15) (b16) (b17) (b18) (b19) (b20) (b21) (b22) (b23) (b24) (b25) (b26) (b27) (y_11075) (b29) (b30) (b31) (b32) (b33) (b34) (b35) (b36) (b37) (b38) (b39) (b40) (b41) (b42) (b43) (b44) (b45) (b46) (b47) (b48) (b49) (b50) (b51) (b52) (b53) (b54) (b56) (b57) hv_11039 (zI.wk (l' := 0) (h' := 12) hv_11090 (by decide)) hb6 hb8 hb9 hb11 hb15 hy_11075 hb31 hb42 hb45 hb51 hb56 hb57) hl.1 q1400 q1402 qs66 q14 q1403 ⟨by decide, by decide, by show _ = some 3; decide +kernel⟩ ⟨Nat.le_of_ble_eq_true rfl, Nat.le_of_ble_eq_true rfl⟩ ⟨Nat.le_of_ble_eq_true rfl, Nat.le_of_ble_eq_true rfl⟩ rfl (Nat.le_of_ble_eq_true rfl) d_Model_layGoes_63 hP hD hS hA 7 12 rfl rfl rfl [7, 5, 6] [0, 1, 2, 3, 4, 8] rfl rfl rfl rfl (by decide) (fun v w1 H locs hw_11091 hP hD hS => ?_)
              obtain ⟨x_11092, rfl, rfl, hx_11092⟩ := hw_11091
              have hP : va_P G.1 classes [(b26, .inl (G.2 0, 2, .inl b58)), (b27, .inl (G.2 0, 2880, .inl b59)), (b35, .inl (G.2 1, 4096, .inr (.inl b60))), (b36, .inl (G.2 1, 4096, .inr (.inl b61))), (b37, .inl (G.2 1, 80, .inr (.inl y_11076))), (b2, .inl (G.2 0, 503, .inl b55)), (b0, .inr (12, [.int b1, .ref b2, .ref b3, .ref b4, .ref b5, .int b6, .ref b7, .int b8, .int b9, .int b10, .int b11, .ref b12, .ref b13, .ref b14, .int b15, .ref b16, .ref b17, .ref b18, .ref b19, .ref b20, .ref b21, .ref b22, .ref b23, .ref b24, .ref b25, .ref b26, .ref b27, .int y_11075, .ref b29, .ref b30, .int b31, .int b32, .int b33, .int b34, .ref b35, .ref b36, .ref b37, .ref b38, .ref b39, .ref b40, .ref b41, .int b42, .ref b43, .ref b44, .int b45, .ref b46, .ref b47, .ref b48, .ref b49, .ref b50, .int b51, .ref b52, .ref b53, .ref b54])), (b18, .inl (G.2 0, 520, .inl b56)), (b21, .inl (G.2 0, 482, .inl b57))] H := hP
              have hD := z_tie hP hD rfl
              refine W.widen (k := 0) (n := 0) (Nat.le_of_ble_eq_true rfl) (Nat.le_of_ble_eq_true rfl) ?_
              refine z_callV (index := 234) (As := [.int 0, .int x_11087, .int x_11089, .int x_11092]) (rest := []) (wr := [(b35, .inl (G.2 1, 4096, .inr (.inl b60))), (b36, .inl (G.2 1, 4096, .inr (.inl b61))), (b37, .inl (G.2 1, 80, .inr (.inl y_11076))), (b2, .inl (G.2 0, 503, .inl b55)), (b18, .inl (G.2 0, 520, .inl b56)), (b21, .inl (G.2 0, 482, .inl b57))]) Z (s1_Model_placeOf l G (b0) (x_11087) (x_11089) (x_11092) (b1) (b2) (b3) (b4) (b5) (b6) (b7) (b8) (b9) (b10) (b11) (b12) (b13) (b14) (b15) (b16) (b17) (b18) (b19) (b20) (b21) (b22) (b23) (b24) (b25) (b26) (b27) (y_11075) (b29) (b30) (b31) (b32) (b33) (b34) (b35) (b36) (b37) (b38) (b39) (b40) (b41) (b42) (b43) (b44) (b45) (b46) (b47) (b48) (b49) (b50) (b51) (b52) (b53) (b54) (b58) (b59) hx_11087 hx_11089 hx_11092 hb6 hb8 hb9 hb11 hb15 hy_11075 hb31 hb42 hb45 hb51 hb58 hb59) hl.1 q1404 q1406 qs67 q14 q1407 ⟨by decide, by decide, by show _ = some 4; decide +kernel⟩ ⟨Nat.le_of_ble_eq_true rfl, Nat.le_of_ble_eq_true rfl⟩ ⟨Nat.le_of_ble_eq_true rfl, Nat.le_of_ble_eq_true rfl⟩ rfl (Nat.le_of_ble_eq_true rfl) d_Model_layGoes_66 hP hD hS hA 6 12 rfl rfl rfl [6, 0, 1] [2, 3, 4, 5, 7, 8] rfl rfl rfl rfl (by decide) (fun v w1 H locs hw_11093 hP hD hS => ?_)
              obtain ⟨x_11094, x_11095, rfl, rfl, hx_11094, hx_11095, hfx_11096⟩ := hw_11093
              have hP : va_P G.1 classes [(b35, .inl (G.2 1, 4096, .inr (.inl b60))), (b36, .inl (G.2 1, 4096, .inr (.inl b61))), (b37, .inl (G.2 1, 80, .inr (.inl y_11076))), (b2, .inl (G.2 0, 503, .inl b55)), (b18, .inl (G.2 0, 520, .inl b56)), (b21, .inl (G.2 0, 482, .inl b57)), (b0, .inr (12, [.int b1, .ref b2, .ref b3, .ref b4, .ref b5, .int b6, .ref b7, .int b8, .int b9, .int b10, .int b11, .ref b12, .ref b13, .ref b14, .int b15, .ref b16, .ref b17, .ref b18, .ref b19, .ref b20, .ref b21, .ref b22, .ref b23, .ref b24, .ref b25, .ref b26, .ref b27, .int x_11095, .ref b29, .ref b30, .int b31, .int b32, .int b33, .int b34, .ref b35, .ref b36, .ref b37, .ref b38, .ref b39, .ref b40, .ref b41, .int b42, .ref b43, .ref b44, .int b45, .ref b46, .ref b47, .ref b48, .ref b49, .ref b50, .int b51, .ref b52, .ref b53, .ref b54])), (b26, .inl (G.2 0, 2, .inl b58)), (b27, .inl (G.2 0, 2880, .inl b59))] H := hP
              have hD := z_tie hP hD rfl
              refine W.widen (k := 0) (n := 0) (Nat.le_of_ble_eq_true rfl) (Nat.le_of_ble_eq_true rfl) ?_
              refine lv_istore_n (lv' := [(3, .int x_11094), (2, .int y_11074), (1, .int y_8324), (0, .ref b0)]) hx hb d_Model_layGoes_69 rfl hl (by decide) rfl (fun ls hl => ?_)
              refine lv_aload_n hx hb d_Model_layGoes_70 rfl (lv_at hl 3 rfl) ?_
              refine va_get (D := G.1) (ci := 12) (v := .ref b37) (C := R_Model) (T := F_Model) (N := 54) hx hb hts i_Model hown hK hP 6 rfl rfl 36 (by decide) (hts _ q1145) (fun _ h9 => h9) rfl d_Model_layGoes_71 ?_
              refine lv_iconst (v := 4) hx hb d_Model_layGoes_74 (by decide) ?_
              refine lv_iload_n hx hb d_Model_layGoes_75 rfl (lv_at hl 2 rfl) ?_
              refine lv_imul hx hb d_Model_layGoes_76 ?_
              refine lv_topi (fun v_11097 ev_11097 => ?_)
              obtain ⟨qv_11097, hv_11097⟩ := zI_mul (l := 0) (h := 76) zc_4 hv_11039 ev_11097 (by decide)
              rw [li_4] at qv_11097
              refine lv_iload_n hx hb d_Model_layGoes_77 rfl (lv_at hl 0 rfl) ?_
              refine lv_bipush (v := 64) hx hb d_Model_layGoes_78 (by decide) ?_
              refine lv_idiv hx hb d_Model_layGoes_80 (by decide +kernel) ?_
              refine lv_topi (fun v_11098 ev_11098 => ?_)
              obtain ⟨qv_11098, hv_11098⟩ := zI_div (l := 0) (h := 3) (d := 64) hx_11094 rfl ev_11098 (by decide)
              refine lv_iadd hx hb d_Model_layGoes_81 ?_
              refine lv_topi (fun v_11099 ev_11099 => ?_)
              obtain ⟨qv_11099, hv_11099⟩ := zI_add (l := 0) (h := 79) hv_11097 hv_11098 ev_11099 (by decide)
              refine lv_dup2_11 hx hb d_Model_layGoes_82 rfl rfl ?_
              refine va_lald hx hb hK hP 2 1 rfl rfl (zI.inn hv_11099 (by decide)) d_Model_layGoes_83 ?_
              refine lv_topl (fun v_11100 ev_11100 => ?_)
              refine lv_lconst (v := 1) hx hb d_Model_layGoes_84 (by decide) ?_
              refine lv_iload_n hx hb d_Model_layGoes_85 rfl (lv_at hl 0 rfl) ?_
              refine lv_bipush (v := 64) hx hb d_Model_layGoes_86 (by decide) ?_
              refine lv_irem hx hb d_Model_layGoes_88 (by decide +kernel) ?_
              refine lv_topi (fun v_11101 ev_11101 => ?_)
              obtain ⟨qv_11101, hv_11101⟩ := zI_rem (h := 63) (d := 64) hx_11094 rfl ev_11101 (by decide)
              obtain ⟨v_11102, ev_11102⟩ : ∃ z : Int64, z = 1 <<< ((v_11101 : Int32).toInt64 &&& 63) := ⟨_, rfl⟩
              refine lv_lshl (v := v_11102) hx hb d_Model_layGoes_89 ev_11102.symm ?_
              refine lv_lor hx hb d_Model_layGoes_90 ?_
              refine lv_topl (fun v_11103 ev_11103 => ?_)
              refine va_last hx hb hK hP hD hS 2 1 rfl rfl (zI.inn hv_11099 (by decide)) d_Model_layGoes_91 (fun H locs hP hD hS => ?_)
              obtain ⟨f_11104, hP, hD⟩ := z_newL 2 hP hD rfl
              have hP : va_P G.1 classes [(b35, .inl (G.2 1, 4096, .inr (.inl b60))), (b36, .inl (G.2 1, 4096, .inr (.inl b61))), (b37, .inl (G.2 1, 80, .inr (.inl f_11104))), (b2, .inl (G.2 0, 503, .inl b55)), (b18, .inl (G.2 0, 520, .inl b56)), (b21, .inl (G.2 0, 482, .inl b57)), (b0, .inr (12, [.int b1, .ref b2, .ref b3, .ref b4, .ref b5, .int b6, .ref b7, .int b8, .int b9, .int b10, .int b11, .ref b12, .ref b13, .ref b14, .int b15, .ref b16, .ref b17, .ref b18, .ref b19, .ref b20, .ref b21, .ref b22, .ref b23, .ref b24, .ref b25, .ref b26, .ref b27, .int x_11095, .ref b29, .ref b30, .int b31, .int b32, .int b33, .int b34, .ref b35, .ref b36, .ref b37, .ref b38, .ref b39, .ref b40, .ref b41, .int b42, .ref b43, .ref b44, .int b45, .ref b46, .ref b47, .ref b48, .ref b49, .ref b50, .int b51, .ref b52, .ref b53, .ref b54])), (b26, .inl (G.2 0, 2, .inl b58)), (b27, .inl (G.2 0, 2880, .inl b59))] H := hP
              have hD := z_tie hP hD rfl
              obtain ⟨v_11105, ev_11105⟩ : ∃ z : Int32, z = y_11074 + 1 := ⟨_, rfl⟩
              obtain ⟨qv_11105, hv_11105⟩ := zI_add (l := 1) (h := 12) hv_11084 zc_1 ev_11105 (by decide)
              rw [li_1] at qv_11105
              refine lv_iinc (v := v_11105) (lv' := [(2, .int v_11105), (3, .int x_11094), (1, .int y_8324), (0, .ref b0)]) hx hb d_Model_layGoes_92 hl (k := 1) rfl (by rw [ev_11105]; rfl) (by decide) rfl (fun ls hl => ?_)
              refine lv_goto (tgt := 33) hx hb d_Model_layGoes_95 (by decide) ?_
              exact ihk_11073 (v_11105) (x_11095) (f_11104) _ _ _ (zI.wk (l' := 0) (h' := 12) hv_11105 (by decide)) hx_11095 (zm_up qv_11105 hmk_11073 (by decide)) (hP.sub [4, 5, 7, 8, 0, 1, 2, 6, 3] rfl) (hD.sub [4, 5, 7, 8, 0, 1, 2, 6, 3] (by decide) rfl) hS (lv_sub hl [0, 2, 3] rfl)
    · have _nhc_5551 := hc_5551
      have ni_11106 := (fa_lt _ _).mp (zi_nle hc_5551)
      rw [li_80] at ni_11106
      have hv_11107 : zI y_5549 0 79 := zI.lt_l hy_5549 zc_80 (zi_nle hc_5551) (by decide)
      refine lv_aload_n hx hb d_Model_layGoes_8 rfl (lv_at hl 1 rfl) ?_
      refine va_get (D := G.1) (ci := 12) (v := .ref b37) (C := R_Model) (T := F_Model) (N := 54) hx hb hts i_Model hown hK hP 0 rfl rfl 36 (by decide) (hts _ q1145) (fun _ h9 => h9) rfl d_Model_layGoes_9 ?_
      refine lv_iload_n hx hb d_Model_layGoes_12 rfl (lv_at hl 0 rfl) ?_
      refine lv_lconst (v := 0) hx hb d_Model_layGoes_13 (by decide) ?_
      refine va_last hx hb hK hP hD hS 8 1 rfl rfl (zI.inn hv_11107 (by decide)) d_Model_layGoes_14 (fun H locs hP hD hS => ?_)
      obtain ⟨f_11108, hP, hD⟩ := z_newL 8 hP hD rfl
      have hP : va_P G.1 classes [(b0, .inr (12, [.int b1, .ref b2, .ref b3, .ref b4, .ref b5, .int b6, .ref b7, .int b8, .int b9, .int b10, .int b11, .ref b12, .ref b13, .ref b14, .int b15, .ref b16, .ref b17, .ref b18, .ref b19, .ref b20, .ref b21, .ref b22, .ref b23, .ref b24, .ref b25, .ref b26, .ref b27, .int b28, .ref b29, .ref b30, .int b31, .int b32, .int b33, .int b34, .ref b35, .ref b36, .ref b37, .ref b38, .ref b39, .ref b40, .ref b41, .int b42, .ref b43, .ref b44, .int b45, .ref b46, .ref b47, .ref b48, .ref b49, .ref b50, .int b51, .ref b52, .ref b53, .ref b54])), (b2, .inl (G.2 0, 503, .inl b55)), (b18, .inl (G.2 0, 520, .inl b56)), (b21, .inl (G.2 0, 482, .inl b57)), (b26, .inl (G.2 0, 2, .inl b58)), (b27, .inl (G.2 0, 2880, .inl b59)), (b35, .inl (G.2 1, 4096, .inr (.inl b60))), (b36, .inl (G.2 1, 4096, .inr (.inl b61))), (b37, .inl (G.2 1, 80, .inr (.inl f_11108)))] H := hP
      have hD := z_tie hP hD rfl
      obtain ⟨v_11109, ev_11109⟩ : ∃ z : Int32, z = y_5549 + 1 := ⟨_, rfl⟩
      obtain ⟨qv_11109, hv_11109⟩ := zI_add (l := 1) (h := 80) hv_11107 zc_1 ev_11109 (by decide)
      rw [li_1] at qv_11109
      refine lv_iinc (v := v_11109) (lv' := [(1, .int v_11109), (0, .ref b0)]) hx hb d_Model_layGoes_15 hl (k := 0) rfl (by rw [ev_11109]; rfl) (by decide) rfl (fun ls hl => ?_)
      refine lv_goto (tgt := 2) hx hb d_Model_layGoes_18 (by decide) ?_
      exact ihk_5548 (v_11109) (f_11108) _ _ _ (zI.wk (l' := 0) (h' := 80) hv_11109 (by decide)) (zm_up qv_11109 hmk_5548 (by decide)) hP hD hS (lv_sub hl [0, 1] rfl)
theorem d_Model_cover_87 : decode prog_14_method_57_code 87 = .ok (.ireturn, 1) := by decide +kernel
theorem d_Model_ones_21 : decode prog_14_method_54_code 21 = .ok (.ireturn, 1) := by decide +kernel
abbrev m_s17_Model_ones : Room := { frames := 0, cells := 0, slots := 0, locals := 0 }
set_option maxHeartbeats 4000000 in
set_option maxRecDepth 100000 in
theorem s17_Model_ones (l : Launch) (G : zG) (b0 : Int32) (hb0 : zI b0 0 2147483647) : zM l G y_Model_ones prog_14_method_54_code 3 (Option.some Jvm.ClassFile.FieldType.int) m_s17_Model_ones [.int b0] [] (fun v w => ∃ (e0 : Int32), v = some (.int e0) ∧ w = []) := by
  refine z_start (by decide +kernel) (Nat.le_of_ble_eq_true rfl) ?_
  intro p e s m below meth c A Z hr hnm hA hP hD hS ls hl
  have Z : zC p s m _ meth c prog_14_method_54_code 3 "TraceMachinesModel" G := Z
  obtain ⟨hx, hb, hml, hown, hts, hK, hN, hlocks⟩ := id Z
  have hl : lv_has ls 3 [(0, .int b0)] := hl
  refine lv_iconst (v := 0) hx hb d_Model_ones_0 (by decide) ?_
  refine lv_istore_n (lv' := [(1, .int 0), (0, .int b0)]) hx hb d_Model_ones_1 rfl hl (by decide) rfl (fun ls hl => ?_)
  refine lv_iload_n hx hb d_Model_ones_2 rfl (lv_at hl 1 rfl) ?_
  refine lv_istore_n (lv' := [(2, .int b0), (1, .int 0), (0, .int b0)]) hx hb d_Model_ones_3 rfl hl (by decide) rfl (fun ls hl => ?_)
  suffices key : ∀ (k_10 : Nat) (y_11 : Int32) (y_12 : Int32) (H : Heap) (locs : List Loc) (ls : Array Slot), (y_11).toBitVec.toNat < k_10 → va_P G.1 classes [] H → va_D A [] → va_S A s.heap H locs → lv_has ls 3 [(2, .int y_11), (1, .int y_12), (0, .int b0)] → W p l e m_s17_Model_ones s m ([.int b0] : List Value).toArray below meth c H locs 0 0 (MQ below (zQ G (fun v w => ∃ (e0 : Int32), v = some (.int e0) ∧ w = []) A) ([.int b0] : List Value).toArray s m_s17_Model_ones.cells m_s17_Model_ones.slots A) (F0 m 4 ls []) by
    exact key 4294967296 (b0) (0) _ _ _  (Nat.lt_of_lt_of_le (b0).toBitVec.isLt (by decide)) hP hD hS (lv_sub hl [0, 1, 2] rfl)
  intro k_10
  induction k_10 with
  | zero =>
    intro y_11 y_12 H locs ls hmk_10 hP hD hS hl
    exfalso; omega
  | succ k_10 ihk_10 =>
    intro y_11 y_12 H locs ls hmk_10 hP hD hS hl
    refine lv_iload_n hx hb d_Model_ones_4 rfl (lv_at hl 0 rfl) ?_
    refine lv_if_eq (tgt := 20) hx hb d_Model_ones_5 (by decide) (fun hc_13 => ?_) (fun hc_13 => ?_)
    · have _nhc_13 := hc_13
      have ni_14 := (fa_eq _ _).mp hc_13
      rw [li_0] at ni_14
      have hv_15 : zI y_11 0 0 := zI.eq_l (zI_all y_11) zc_0 hc_13
      refine lv_iload_n hx hb d_Model_ones_20 rfl (lv_at hl 1 rfl) ?_
      exact z_iret hx hb hr hlocks hP hD hS (Nat.le_of_ble_eq_true rfl) (Nat.le_of_ble_eq_true rfl) d_Model_ones_21 ⟨y_12, rfl, rfl⟩
    · have _nhc_13 := hc_13
      have ni_16 : ¬ (y_11 : Int32).toInt = (0 : Int32).toInt := fun z => hc_13 ((fa_eq _ _).mpr z)
      simp only [li_0] at ni_16
      obtain ⟨v_17, ev_17⟩ : ∃ z : Int32, z = y_12 + 1 := ⟨_, rfl⟩
      refine lv_iinc (v := v_17) (lv' := [(1, .int v_17), (2, .int y_11), (0, .int b0)]) hx hb d_Model_ones_8 hl (k := 1) rfl (by rw [ev_17]; rfl) (by decide) rfl (fun ls hl => ?_)
      refine lv_iload_n hx hb d_Model_ones_11 rfl (lv_at hl 1 rfl) ?_
      refine lv_iload_n hx hb d_Model_ones_12 rfl (lv_at hl 1 rfl) ?_
      refine lv_iconst (v := 1) hx hb d_Model_ones_13 (by decide) ?_
      refine lv_isub hx hb d_Model_ones_14 ?_
      refine lv_topi (fun v_18 ev_18 => ?_)
      refine lv_iand hx hb d_Model_ones_15 ?_
      refine lv_topi (fun v_19 ev_19 => ?_)
      refine lv_istore_n (lv' := [(2, .int v_19), (1, .int v_17), (0, .int b0)]) hx hb d_Model_ones_16 rfl hl (by decide) rfl (fun ls hl => ?_)
      refine lv_goto (tgt := 4) hx hb d_Model_ones_17 (by decide) ?_
      exact ihk_10 (v_19) (v_17) _ _ _  (z_dec32 ev_18 ev_19 (by omega) hmk_10) hP hD hS (lv_sub hl [0, 1, 2] rfl)
theorem d_Model_coversAll_93 : decode prog_14_method_56_code 93 = .ok (.ireturn, 1) := by decide +kernel
abbrev m_s2_Model_coversAll : Room := { frames := 0, cells := 0, slots := 0, locals := 0 }
set_option maxHeartbeats 4000000 in
set_option maxRecDepth 100000 in
theorem s2_Model_coversAll (l : Launch) (G : zG) (b0 : Nat) (b1 : Int32) (b2 : Int32) (b3 : Nat) (b4 : Nat) (b5 : Nat) (b6 : Nat) (b7 : Int32) (b8 : Nat) (b9 : Int32) (b10 : Int32) (b11 : Int32) (b12 : Int32) (b13 : Nat) (b14 : Nat) (b15 : Nat) (b16 : Int32) (b17 : Nat) (b18 : Nat) (b19 : Nat) (b20 : Nat) (b21 : Nat) (b22 : Nat) (b23 : Nat) (b24 : Nat) (b25 : Nat) (b26 : Nat) (b27 : Nat) (b28 : Nat) (b29 : Int32) (b30 : Nat) (b31 : Nat) (b32 : Int32) (b33 : Int32) (b34 : Int32) (b35 : Int32) (b36 : Nat) (b37 : Nat) (b38 : Nat) (b39 : Nat) (b40 : Nat) (b41 : Nat) (b42 : Nat) (b43 : Int32) (b44 : Nat) (b45 : Nat) (b46 : Int32) (b47 : Nat) (b48 : Nat) (b49 : Nat) (b50 : Nat) (b51 : Nat) (b52 : Int32) (b53 : Nat) (b54 : Nat) (b55 : Nat) (b56 : Nat → Int64) (b57 : Nat → Int64) (hb1 : zI b1 0 1048575) (hb7 : zI b7 0 8) (hb9 : zI b9 0 240) (hb10 : zI b10 0 240) (hb12 : zI b12 0 1) (hb16 : zI b16 0 12) (hb29 : zI b29 0 1) (hb32 : zI b32 0 1) (hb43 : zI b43 0 1000) (hb46 : zI b46 0 1000) (hb52 : zI b52 0 400) : zM l G y_Model_coversAll prog_14_method_56_code 6 (Option.some Jvm.ClassFile.FieldType.boolean) m_s2_Model_coversAll [.ref b0, .int b1] [(b0, .inr (12, [.int b2, .ref b3, .ref b4, .ref b5, .ref b6, .int b7, .ref b8, .int b9, .int b10, .int b11, .int b12, .ref b13, .ref b14, .ref b15, .int b16, .ref b17, .ref b18, .ref b19, .ref b20, .ref b21, .ref b22, .ref b23, .ref b24, .ref b25, .ref b26, .ref b27, .ref b28, .int b29, .ref b30, .ref b31, .int b32, .int b33, .int b34, .int b35, .ref b36, .ref b37, .ref b38, .ref b39, .ref b40, .ref b41, .ref b42, .int b43, .ref b44, .ref b45, .int b46, .ref b47, .ref b48, .ref b49, .ref b50, .ref b51, .int b52, .ref b53, .ref b54, .ref b55])), (b36, .inl (G.2 1, 4096, .inr (.inl b56))), (b37, .inl (G.2 1, 4096, .inr (.inl b57)))] (fun v w => ∃ (e0 : Int32), v = some (.int e0) ∧ w = [(b0, .inr (12, [.int b2, .ref b3, .ref b4, .ref b5, .ref b6, .int b7, .ref b8, .int b9, .int b10, .int b11, .int b12, .ref b13, .ref b14, .ref b15, .int b16, .ref b17, .ref b18, .ref b19, .ref b20, .ref b21, .ref b22, .ref b23, .ref b24, .ref b25, .ref b26, .ref b27, .ref b28, .int b29, .ref b30, .ref b31, .int b32, .int b33, .int b34, .int b35, .ref b36, .ref b37, .ref b38, .ref b39, .ref b40, .ref b41, .ref b42, .int b43, .ref b44, .ref b45, .int b46, .ref b47, .ref b48, .ref b49, .ref b50, .ref b51, .int b52, .ref b53, .ref b54, .ref b55])), (b36, .inl (G.2 1, 4096, .inr (.inl b56))), (b37, .inl (G.2 1, 4096, .inr (.inl b57)))] ∧ (zI e0 0 1)) := by
  refine z_start (by decide +kernel) (Nat.le_of_ble_eq_true rfl) ?_
  intro p e s m below meth c A Z hr hnm hA hP hD hS ls hl
  have Z : zC p s m _ meth c prog_14_method_56_code 6 "TraceMachinesModel" G := Z
  obtain ⟨hx, hb, hml, hown, hts, hK, hN, hlocks⟩ := id Z
  have hl : lv_has ls 6 [(0, .ref b0), (1, .int b1)] := hl
  refine lv_iconst (v := 4) hx hb d_Model_coversAll_0 (by decide) ?_
  refine lv_iload_n hx hb d_Model_coversAll_1 rfl (lv_at hl 1 rfl) ?_
  refine lv_sipush (v := 1023) hx hb d_Model_coversAll_2 (by decide) ?_
  refine lv_iand hx hb d_Model_coversAll_5 ?_
  refine lv_topi (fun v_1 ev_1 => ?_)
  have hv_1 := zI_and (k := 10) (h := 1023) (by decide +kernel) ev_1 (by decide)
  refine lv_imul hx hb d_Model_coversAll_6 ?_
  refine lv_topi (fun v_2 ev_2 => ?_)
  obtain ⟨qv_2, hv_2⟩ := zI_mul (l := 0) (h := 4092) zc_4 hv_1 ev_2 (by decide)
  rw [li_4] at qv_2
  refine lv_istore_n (lv' := [(2, .int v_2), (0, .ref b0), (1, .int b1)]) hx hb d_Model_coversAll_7 rfl hl (by decide) rfl (fun ls hl => ?_)
  refine lv_iconst (v := 4) hx hb d_Model_coversAll_8 (by decide) ?_
  refine lv_iload_n hx hb d_Model_coversAll_9 rfl (lv_at hl 2 rfl) ?_
  refine lv_bipush (v := 10) hx hb d_Model_coversAll_10 (by decide) ?_
  refine lv_ishr hx hb d_Model_coversAll_12 ?_
  refine lv_topi (fun v_3 ev_3 => ?_)
  obtain ⟨qv_3, hv_3⟩ := zI_shr (l := 0) (h := 1023) (k := 10) hb1 (by decide +kernel) ev_3 (by decide)
  refine lv_imul hx hb d_Model_coversAll_13 ?_
  refine lv_topi (fun v_4 ev_4 => ?_)
  obtain ⟨qv_4, hv_4⟩ := zI_mul (l := 0) (h := 4092) zc_4 hv_3 ev_4 (by decide)
  rw [li_4] at qv_4
  refine lv_istore_n (lv' := [(3, .int v_4), (2, .int v_2), (0, .ref b0), (1, .int b1)]) hx hb d_Model_coversAll_14 rfl hl (by decide) rfl (fun ls hl => ?_)
  refine lv_iconst (v := 1) hx hb d_Model_coversAll_15 (by decide) ?_
  refine lv_istore (lv' := [(4, .int 1), (3, .int v_4), (2, .int v_2), (0, .ref b0), (1, .int b1)]) hx hb d_Model_coversAll_16 hl (by decide) rfl (fun ls hl => ?_)
  refine lv_iconst (v := 0) hx hb d_Model_coversAll_18 (by decide) ?_
  refine lv_istore (lv' := [(5, .int 0), (4, .int 1), (3, .int v_4), (2, .int v_2), (0, .ref b0), (1, .int b1)]) hx hb d_Model_coversAll_19 hl (by decide) rfl (fun ls hl => ?_)
  suffices key : ∀ (k_34 : Nat) (y_35 : Int32) (y_36 : Int32) (H : Heap) (locs : List Loc) (ls : Array Slot), (zI y_35 0 4) → (zI y_36 0 1) → (4 : Int) - y_35.toInt < (k_34 : Int) → va_P G.1 classes [(b0, .inr (12, [.int b2, .ref b3, .ref b4, .ref b5, .ref b6, .int b7, .ref b8, .int b9, .int b10, .int b11, .int b12, .ref b13, .ref b14, .ref b15, .int b16, .ref b17, .ref b18, .ref b19, .ref b20, .ref b21, .ref b22, .ref b23, .ref b24, .ref b25, .ref b26, .ref b27, .ref b28, .int b29, .ref b30, .ref b31, .int b32, .int b33, .int b34, .int b35, .ref b36, .ref b37, .ref b38, .ref b39, .ref b40, .ref b41, .ref b42, .int b43, .ref b44, .ref b45, .int b46, .ref b47, .ref b48, .ref b49, .ref b50, .ref b51, .int b52, .ref b53, .ref b54, .ref b55])), (b36, .inl (G.2 1, 4096, .inr (.inl b56))), (b37, .inl (G.2 1, 4096, .inr (.inl b57)))] H → va_D A [(b0, .inr (12, [.int b2, .ref b3, .ref b4, .ref b5, .ref b6, .int b7, .ref b8, .int b9, .int b10, .int b11, .int b12, .ref b13, .ref b14, .ref b15, .int b16, .ref b17, .ref b18, .ref b19, .ref b20, .ref b21, .ref b22, .ref b23, .ref b24, .ref b25, .ref b26, .ref b27, .ref b28, .int b29, .ref b30, .ref b31, .int b32, .int b33, .int b34, .int b35, .ref b36, .ref b37, .ref b38, .ref b39, .ref b40, .ref b41, .ref b42, .int b43, .ref b44, .ref b45, .int b46, .ref b47, .ref b48, .ref b49, .ref b50, .ref b51, .int b52, .ref b53, .ref b54, .ref b55])), (b36, .inl (G.2 1, 4096, .inr (.inl b56))), (b37, .inl (G.2 1, 4096, .inr (.inl b57)))] → va_S A s.heap H locs → lv_has ls 6 [(5, .int y_35), (4, .int y_36), (3, .int v_4), (2, .int v_2), (0, .ref b0), (1, .int b1)] → W p l e m_s2_Model_coversAll s m ([.ref b0, .int b1] : List Value).toArray below meth c H locs 0 0 (MQ below (zQ G (fun v w => ∃ (e0 : Int32), v = some (.int e0) ∧ w = [(b0, .inr (12, [.int b2, .ref b3, .ref b4, .ref b5, .ref b6, .int b7, .ref b8, .int b9, .int b10, .int b11, .int b12, .ref b13, .ref b14, .ref b15, .int b16, .ref b17, .ref b18, .ref b19, .ref b20, .ref b21, .ref b22, .ref b23, .ref b24, .ref b25, .ref b26, .ref b27, .ref b28, .int b29, .ref b30, .ref b31, .int b32, .int b33, .int b34, .int b35, .ref b36, .ref b37, .ref b38, .ref b39, .ref b40, .ref b41, .ref b42, .int b43, .ref b44, .ref b45, .int b46, .ref b47, .ref b48, .ref b49, .ref b50, .ref b51, .int b52, .ref b53, .ref b54, .ref b55])), (b36, .inl (G.2 1, 4096, .inr (.inl b56))), (b37, .inl (G.2 1, 4096, .inr (.inl b57)))] ∧ (zI e0 0 1)) A) ([.ref b0, .int b1] : List Value).toArray s m_s2_Model_coversAll.cells m_s2_Model_coversAll.slots A) (F0 m 21 ls []) by
    exact key 5 (0) (1) _ _ _ (zI.wk (l' := 0) (h' := 4) zc_0 (by decide)) (zI.wk (l' := 0) (h' := 1) zc_1 (by decide)) (zm_upi (zI.wk (l' := 0) (h' := 4) zc_0 (by decide)) (by decide)) hP hD hS (lv_sub hl [0, 1, 2, 3, 4, 5] rfl)
  intro k_34
  induction k_34 with
  | zero =>
    intro y_35 y_36 H locs ls hy_35 hy_36 hmk_34 hP hD hS hl
    exact (zm_up0 hy_35 hmk_34).elim
  | succ k_34 ihk_34 =>
    intro y_35 y_36 H locs ls hy_35 hy_36 hmk_34 hP hD hS hl
    refine lv_iload hx hb d_Model_coversAll_21 (lv_at hl 0 rfl) ?_
    refine lv_iconst (v := 4) hx hb d_Model_coversAll_23 (by decide) ?_
    refine lv_icmp_ge (tgt := 91) hx hb d_Model_coversAll_24 (by decide) (fun hc_37 => ?_) (fun hc_37 => ?_)
    · have _nhc_37 := hc_37
      have ni_38 := (fa_le _ _).mp hc_37
      rw [li_4] at ni_38
      have hv_39 : zI y_35 4 4 := zI.le_r zc_4 hy_35 hc_37 (by decide)
      refine lv_iload hx hb d_Model_coversAll_91 (lv_at hl 1 rfl) ?_
      exact z_zret hx hb hr hlocks (zi_nb hy_36) hP hD hS (Nat.le_of_ble_eq_true rfl) (Nat.le_of_ble_eq_true rfl) d_Model_coversAll_93 ⟨y_36, rfl, rfl, hy_36⟩
    · have _nhc_37 := hc_37
      have ni_40 := (fa_lt _ _).mp (zi_nle hc_37)
      rw [li_4] at ni_40
      have hv_41 : zI y_35 0 3 := zI.lt_l hy_35 zc_4 (zi_nle hc_37) (by decide)
      refine lv_iload hx hb d_Model_coversAll_27 (lv_at hl 1 rfl) ?_
      refine lv_if_eq (tgt := 82) hx hb d_Model_coversAll_29 (by decide) (fun hc_42 => ?_) (fun hc_42 => ?_)
      · have _nhc_42 := hc_42
        have ni_43 := (fa_eq _ _).mp hc_42
        rw [li_0] at ni_43
        have hv_44 : zI y_36 0 0 := zI.eq_l hy_36 zc_0 hc_42
        refine lv_iconst (v := 0) hx hb d_Model_coversAll_82 (by decide) ?_
        refine lv_istore (lv' := [(4, .int 0), (5, .int y_35), (3, .int v_4), (2, .int v_2), (0, .ref b0), (1, .int b1)]) hx hb d_Model_coversAll_83 hl (by decide) rfl (fun ls hl => ?_)
        obtain ⟨v_45, ev_45⟩ : ∃ z : Int32, z = y_35 + 1 := ⟨_, rfl⟩
        obtain ⟨qv_45, hv_45⟩ := zI_add (l := 1) (h := 4) hv_41 zc_1 ev_45 (by decide)
        rw [li_1] at qv_45
        refine lv_iinc (v := v_45) (lv' := [(5, .int v_45), (4, .int 0), (3, .int v_4), (2, .int v_2), (0, .ref b0), (1, .int b1)]) hx hb d_Model_coversAll_85 hl (k := 1) rfl (by rw [ev_45]; rfl) (by decide) rfl (fun ls hl => ?_)
        refine lv_goto (tgt := 21) hx hb d_Model_coversAll_88 (by decide) ?_
        exact ihk_34 (v_45) (0) _ _ _ (zI.wk (l' := 0) (h' := 4) hv_45 (by decide)) (zI.wk (l' := 0) (h' := 1) zc_0 (by decide)) (zm_up qv_45 hmk_34 (by decide)) hP hD hS (lv_sub hl [0, 1, 2, 3, 4, 5] rfl)
      · have _nhc_42 := hc_42
        have ni_46 : ¬ (y_36 : Int32).toInt = (0 : Int32).toInt := fun z => hc_42 ((fa_eq _ _).mpr z)
        simp only [li_0] at ni_46
        have hv_47 : zI y_36 1 1 := zI.ne_lo hy_36 zc_0 hc_42 (by decide)
        refine lv_aload_n hx hb d_Model_coversAll_32 rfl (lv_at hl 4 rfl) ?_
        refine va_get (D := G.1) (ci := 12) (v := .ref b36) (C := R_Model) (T := F_Model) (N := 54) hx hb hts i_Model hown hK hP 0 rfl rfl 34 (by decide) (hts _ q1143) (fun _ h9 => h9) rfl d_Model_coversAll_33 ?_
        refine lv_iload_n hx hb d_Model_coversAll_36 rfl (lv_at hl 3 rfl) ?_
        refine lv_iload hx hb d_Model_coversAll_37 (lv_at hl 0 rfl) ?_
        refine lv_iadd hx hb d_Model_coversAll_39 ?_
        refine lv_topi (fun v_48 ev_48 => ?_)
        obtain ⟨qv_48, hv_48⟩ := zI_add (l := 0) (h := 4095) hv_2 hv_41 ev_48 (by decide)
        refine va_lald hx hb hK hP 1 1 rfl rfl (zI.inn hv_48 (by decide)) d_Model_coversAll_40 ?_
        refine lv_topl (fun v_49 ev_49 => ?_)
        refine lv_aload_n hx hb d_Model_coversAll_41 rfl (lv_at hl 4 rfl) ?_
        refine va_get (D := G.1) (ci := 12) (v := .ref b37) (C := R_Model) (T := F_Model) (N := 54) hx hb hts i_Model hown hK hP 0 rfl rfl 35 (by decide) (hts _ q1144) (fun _ h9 => h9) rfl d_Model_coversAll_42 ?_
        refine lv_iload_n hx hb d_Model_coversAll_45 rfl (lv_at hl 2 rfl) ?_
        refine lv_iload hx hb d_Model_coversAll_46 (lv_at hl 0 rfl) ?_
        refine lv_iadd hx hb d_Model_coversAll_48 ?_
        refine lv_topi (fun v_50 ev_50 => ?_)
        obtain ⟨qv_50, hv_50⟩ := zI_add (l := 0) (h := 4095) hv_4 hv_41 ev_50 (by decide)
        refine va_lald hx hb hK hP 2 1 rfl rfl (zI.inn hv_50 (by decide)) d_Model_coversAll_49 ?_
        refine lv_topl (fun v_51 ev_51 => ?_)
        refine lv_lor hx hb d_Model_coversAll_50 ?_
        refine lv_topl (fun v_52 ev_52 => ?_)
        refine lv_aload_n hx hb d_Model_coversAll_51 rfl (lv_at hl 4 rfl) ?_
        refine va_get (D := G.1) (ci := 12) (v := .ref b36) (C := R_Model) (T := F_Model) (N := 54) hx hb hts i_Model hown hK hP 0 rfl rfl 34 (by decide) (hts _ q1143) (fun _ h9 => h9) rfl d_Model_coversAll_52 ?_
        refine lv_sipush (v := 4092) hx hb d_Model_coversAll_55 (by decide) ?_
        refine lv_iload hx hb d_Model_coversAll_58 (lv_at hl 0 rfl) ?_
        refine lv_iadd hx hb d_Model_coversAll_60 ?_
        refine lv_topi (fun v_53 ev_53 => ?_)
        obtain ⟨qv_53, hv_53⟩ := zI_add (l := 4092) (h := 4095) zc_4092 hv_41 ev_53 (by decide)
        rw [li_4092] at qv_53
        refine va_lald hx hb hK hP 1 1 rfl rfl (zI.inn hv_53 (by decide)) d_Model_coversAll_61 ?_
        refine lv_topl (fun v_54 ev_54 => ?_)
        refine lv_aload_n hx hb d_Model_coversAll_62 rfl (lv_at hl 4 rfl) ?_
        refine va_get (D := G.1) (ci := 12) (v := .ref b37) (C := R_Model) (T := F_Model) (N := 54) hx hb hts i_Model hown hK hP 0 rfl rfl 35 (by decide) (hts _ q1144) (fun _ h9 => h9) rfl d_Model_coversAll_63 ?_
        refine lv_sipush (v := 4092) hx hb d_Model_coversAll_66 (by decide) ?_
        refine lv_iload hx hb d_Model_coversAll_69 (lv_at hl 0 rfl) ?_
        refine lv_iadd hx hb d_Model_coversAll_71 ?_
        refine lv_topi (fun v_55 ev_55 => ?_)
        obtain rfl : v_53 = v_55 := ev_53.trans ev_55.symm
        refine va_lald hx hb hK hP 2 1 rfl rfl (zI.inn hv_53 (by decide)) d_Model_coversAll_72 ?_
        refine lv_topl (fun v_56 ev_56 => ?_)
        refine lv_lor hx hb d_Model_coversAll_73 ?_
        refine lv_topl (fun v_57 ev_57 => ?_)
        refine W.lcmp hx hb d_Model_coversAll_74 ?_
        refine lv_topi (fun v_58 ev_58 => ?_)
        refine lv_if_ne (tgt := 82) hx hb d_Model_coversAll_75 (by decide) (fun hc_59 => ?_) (fun hc_59 => ?_)
        · have ni_60 := hc_59
          rw [ev_58] at ni_60
          simp only [lg_cmp_lt, lg_cmp_le, lg_cmp_gt, lg_cmp_ge, lg_cmp_eq, fa_lt64, fa_le64, fa_eq64, Int32.toInt_toInt64] at ni_60
          refine lv_iconst (v := 0) hx hb d_Model_coversAll_82 (by decide) ?_
          refine lv_istore (lv' := [(4, .int 0), (5, .int y_35), (3, .int v_4), (2, .int v_2), (0, .ref b0), (1, .int b1)]) hx hb d_Model_coversAll_83 hl (by decide) rfl (fun ls hl => ?_)
          obtain ⟨v_61, ev_61⟩ : ∃ z : Int32, z = y_35 + 1 := ⟨_, rfl⟩
          obtain ⟨qv_61, hv_61⟩ := zI_add (l := 1) (h := 4) hv_41 zc_1 ev_61 (by decide)
          rw [li_1] at qv_61
          refine lv_iinc (v := v_61) (lv' := [(5, .int v_61), (4, .int 0), (3, .int v_4), (2, .int v_2), (0, .ref b0), (1, .int b1)]) hx hb d_Model_coversAll_85 hl (k := 1) rfl (by rw [ev_61]; rfl) (by decide) rfl (fun ls hl => ?_)
          refine lv_goto (tgt := 21) hx hb d_Model_coversAll_88 (by decide) ?_
          exact ihk_34 (v_61) (0) _ _ _ (zI.wk (l' := 0) (h' := 4) hv_61 (by decide)) (zI.wk (l' := 0) (h' := 1) zc_0 (by decide)) (zm_up qv_61 hmk_34 (by decide)) hP hD hS (lv_sub hl [0, 1, 2, 3, 4, 5] rfl)
        · have ni_62 := hc_59
          rw [ev_58] at ni_62
          simp only [lg_cmp_lt, lg_cmp_le, lg_cmp_gt, lg_cmp_ge, lg_cmp_eq, fa_lt64, fa_le64, fa_eq64, Int32.toInt_toInt64] at ni_62
          refine lv_iconst (v := 1) hx hb d_Model_coversAll_78 (by decide) ?_
          refine lv_goto (tgt := 83) hx hb d_Model_coversAll_79 (by decide) ?_
          refine lv_istore (lv' := [(4, .int 1), (5, .int y_35), (3, .int v_4), (2, .int v_2), (0, .ref b0), (1, .int b1)]) hx hb d_Model_coversAll_83 hl (by decide) rfl (fun ls hl => ?_)
          obtain ⟨v_63, ev_63⟩ : ∃ z : Int32, z = y_35 + 1 := ⟨_, rfl⟩
          obtain ⟨qv_63, hv_63⟩ := zI_add (l := 1) (h := 4) hv_41 zc_1 ev_63 (by decide)
          rw [li_1] at qv_63
          refine lv_iinc (v := v_63) (lv' := [(5, .int v_63), (4, .int 1), (3, .int v_4), (2, .int v_2), (0, .ref b0), (1, .int b1)]) hx hb d_Model_coversAll_85 hl (k := 1) rfl (by rw [ev_63]; rfl) (by decide) rfl (fun ls hl => ?_)
          refine lv_goto (tgt := 21) hx hb d_Model_coversAll_88 (by decide) ?_
          exact ihk_34 (v_63) (1) _ _ _ (zI.wk (l' := 0) (h' := 4) hv_63 (by decide)) (zI.wk (l' := 0) (h' := 1) zc_1 (by decide)) (zm_up qv_63 hmk_34 (by decide)) hP hD hS (lv_sub hl [0, 1, 2, 3, 4, 5] rfl)
abbrev m_s1_Model_cover : Room := { frames := 5, cells := 0, slots := 0, locals := 124 }
set_option maxHeartbeats 4000000 in
set_option maxRecDepth 100000 in
theorem s1_Model_cover (l : Launch) (G : zG) (b0 : Nat) (b1 : Int32) (b2 : Int32) (b3 : Nat) (b4 : Nat) (b5 : Nat) (b6 : Nat) (b7 : Int32) (b8 : Nat) (b9 : Int32) (b10 : Int32) (b11 : Int32) (b12 : Int32) (b13 : Nat) (b14 : Nat) (b15 : Nat) (b16 : Int32) (b17 : Nat) (b18 : Nat) (b19 : Nat) (b20 : Nat) (b21 : Nat) (b22 : Nat) (b23 : Nat) (b24 : Nat) (b25 : Nat) (b26 : Nat) (b27 : Nat) (b28 : Nat) (b29 : Int32) (b30 : Nat) (b31 : Nat) (b32 : Int32) (b33 : Int32) (b34 : Int32) (b35 : Int32) (b36 : Nat) (b37 : Nat) (b38 : Nat) (b39 : Nat) (b40 : Nat) (b41 : Nat) (b42 : Nat) (b43 : Int32) (b44 : Nat) (b45 : Nat) (b46 : Int32) (b47 : Nat) (b48 : Nat) (b49 : Nat) (b50 : Nat) (b51 : Nat) (b52 : Int32) (b53 : Nat) (b54 : Nat) (b55 : Nat) (b56 : Nat → Int32) (b57 : Nat → Int32) (b58 : Nat → Int32) (b59 : Nat → Int32) (b60 : Nat → Int32) (b61 : Nat → Int32) (b62 : Nat → Int32) (b63 : Nat → Int32) (b64 : Nat → Int32) (b65 : Nat → Int32) (b66 : Nat → Int32) (b67 : Nat → Int32) (b68 : Nat → Int32) (b69 : Nat → Int64) (b70 : Nat → Int64) (b71 : Nat → Int64) (hb7 : zI b7 0 8) (hb9 : zI b9 0 240) (hb10 : zI b10 0 240) (hb12 : zI b12 0 1) (hb16 : zI b16 0 12) (hb29 : zI b29 0 1) (hb32 : zI b32 0 1) (hb43 : zI b43 0 1000) (hb46 : zI b46 0 1000) (hb52 : zI b52 0 400) (hb56 : zW5 b56) (hb57 : zR b57 0 241) (hb58 : zR b58 (-1) 240) (hb59 : zqa qP b59) (hb61 : zqa qC b61) (hb62 : zR b62 0 240) (hb63 : zR b63 0 241) (hb64 : zR b64 0 240) (hb67 : zR b67 0 240) (hb68 : zqa qE b68) : zM l G y_Model_cover prog_14_method_57_code 6 (Option.some Jvm.ClassFile.FieldType.int) m_s1_Model_cover [.ref b0, .int b1] [(b0, .inr (12, [.int b2, .ref b3, .ref b4, .ref b5, .ref b6, .int b7, .ref b8, .int b9, .int b10, .int b11, .int b12, .ref b13, .ref b14, .ref b15, .int b16, .ref b17, .ref b18, .ref b19, .ref b20, .ref b21, .ref b22, .ref b23, .ref b24, .ref b25, .ref b26, .ref b27, .ref b28, .int b29, .ref b30, .ref b31, .int b32, .int b33, .int b34, .int b35, .ref b36, .ref b37, .ref b38, .ref b39, .ref b40, .ref b41, .ref b42, .int b43, .ref b44, .ref b45, .int b46, .ref b47, .ref b48, .ref b49, .ref b50, .ref b51, .int b52, .ref b53, .ref b54, .ref b55])), (b3, .inl (G.2 0, 503, .inl b56)), (b17, .inl (G.2 0, 2, .inl b57)), (b18, .inl (G.2 0, 4820, .inl b58)), (b19, .inl (G.2 0, 520, .inl b59)), (b20, .inl (G.2 0, 9640, .inl b60)), (b21, .inl (G.2 0, 482, .inl b61)), (b22, .inl (G.2 0, 482, .inl b62)), (b23, .inl (G.2 0, 2, .inl b63)), (b24, .inl (G.2 0, 482, .inl b64)), (b25, .inl (G.2 0, 482, .inl b65)), (b26, .inl (G.2 0, 482, .inl b66)), (b27, .inl (G.2 0, 2, .inl b67)), (b28, .inl (G.2 0, 2880, .inl b68)), (b36, .inl (G.2 1, 4096, .inr (.inl b69))), (b37, .inl (G.2 1, 4096, .inr (.inl b70))), (b38, .inl (G.2 1, 80, .inr (.inl b71)))] (fun v w => ∃ (e0 : Int32), ∃ (e1 : Int32), ∃ (e2 : Nat → Int32), ∃ (e3 : Nat → Int32), ∃ (e4 : Nat → Int32), ∃ (e5 : Nat → Int32), ∃ (e6 : Nat → Int32), ∃ (e7 : Nat → Int32), ∃ (e8 : Nat → Int32), ∃ (e9 : Nat → Int32), ∃ (e10 : Nat → Int32), ∃ (e11 : Nat → Int32), ∃ (e12 : Nat → Int32), ∃ (e13 : Nat → Int32), ∃ (e14 : Nat → Int64), ∃ (e15 : Nat → Int64), ∃ (e16 : Nat → Int64), v = some (.int e0) ∧ w = [(b0, .inr (12, [.int 0, .ref b3, .ref b4, .ref b5, .ref b6, .int b7, .ref b8, .int b9, .int b10, .int b11, .int b12, .ref b13, .ref b14, .ref b15, .int b16, .ref b17, .ref b18, .ref b19, .ref b20, .ref b21, .ref b22, .ref b23, .ref b24, .ref b25, .ref b26, .ref b27, .ref b28, .int e1, .ref b30, .ref b31, .int b32, .int b33, .int b34, .int b35, .ref b36, .ref b37, .ref b38, .ref b39, .ref b40, .ref b41, .ref b42, .int b43, .ref b44, .ref b45, .int b46, .ref b47, .ref b48, .ref b49, .ref b50, .ref b51, .int b52, .ref b53, .ref b54, .ref b55])), (b3, .inl (G.2 0, 503, .inl b56)), (b17, .inl (G.2 0, 2, .inl e2)), (b18, .inl (G.2 0, 4820, .inl e3)), (b19, .inl (G.2 0, 520, .inl e4)), (b20, .inl (G.2 0, 9640, .inl e5)), (b21, .inl (G.2 0, 482, .inl e6)), (b22, .inl (G.2 0, 482, .inl e7)), (b23, .inl (G.2 0, 2, .inl e8)), (b24, .inl (G.2 0, 482, .inl e9)), (b25, .inl (G.2 0, 482, .inl e10)), (b26, .inl (G.2 0, 482, .inl e11)), (b27, .inl (G.2 0, 2, .inl e12)), (b28, .inl (G.2 0, 2880, .inl e13)), (b36, .inl (G.2 1, 4096, .inr (.inl e14))), (b37, .inl (G.2 1, 4096, .inr (.inl e15))), (b38, .inl (G.2 1, 80, .inr (.inl e16)))] ∧ (zI e0 (-2147483648) 1048575) ∧ (zI e1 0 1) ∧ (zR e2 0 241) ∧ (zR e3 (-1) 240) ∧ (zqa qP e4) ∧ (zqa qC e6) ∧ (zR e7 0 240) ∧ (zR e8 0 241) ∧ (zR e9 0 240) ∧ (zR e12 0 240) ∧ (zqa qE e13)) := by
  refine z_start (by decide +kernel) (Nat.le_of_ble_eq_true rfl) ?_
  intro p e s m below meth c A Z hr hnm hA hP hD hS ls hl
  have Z : zC p s m _ meth c prog_14_method_57_code 6 "TraceMachinesModel" G := Z
  obtain ⟨hx, hb, hml, hown, hts, hK, hN, hlocks⟩ := id Z
  have hl : lv_has ls 6 [(0, .ref b0), (1, .int b1)] := hl
  refine lv_aload_n hx hb d_Model_cover_0 rfl (lv_at hl 0 rfl) ?_
  refine lv_iconst (v := 0) hx hb d_Model_cover_1 (by decide) ?_
  refine va_put (D := G.1) (ci := 12) (v := .int 0) (ty := .int) (C := R_Model) (T := F_Model) (N := 54) hx hb hts i_Model t_Model t_Model_ok n_Model hown hK hP hD hS 0 rfl rfl 0 (by decide) (hts _ q1109) (fun _ h9 => h9) rfl (by decide +kernel) rfl rfl (Nat.le_of_ble_eq_true rfl) d_Model_cover_2 (fun H locs hP hD hS => ?_)
  have hP : va_P G.1 classes [(b0, .inr (12, [.int 0, .ref b3, .ref b4, .ref b5, .ref b6, .int b7, .ref b8, .int b9, .int b10, .int b11, .int b12, .ref b13, .ref b14, .ref b15, .int b16, .ref b17, .ref b18, .ref b19, .ref b20, .ref b21, .ref b22, .ref b23, .ref b24, .ref b25, .ref b26, .ref b27, .ref b28, .int b29, .ref b30, .ref b31, .int b32, .int b33, .int b34, .int b35, .ref b36, .ref b37, .ref b38, .ref b39, .ref b40, .ref b41, .ref b42, .int b43, .ref b44, .ref b45, .int b46, .ref b47, .ref b48, .ref b49, .ref b50, .ref b51, .int b52, .ref b53, .ref b54, .ref b55])), (b3, .inl (G.2 0, 503, .inl b56)), (b17, .inl (G.2 0, 2, .inl b57)), (b18, .inl (G.2 0, 4820, .inl b58)), (b19, .inl (G.2 0, 520, .inl b59)), (b20, .inl (G.2 0, 9640, .inl b60)), (b21, .inl (G.2 0, 482, .inl b61)), (b22, .inl (G.2 0, 482, .inl b62)), (b23, .inl (G.2 0, 2, .inl b63)), (b24, .inl (G.2 0, 482, .inl b64)), (b25, .inl (G.2 0, 482, .inl b65)), (b26, .inl (G.2 0, 482, .inl b66)), (b27, .inl (G.2 0, 2, .inl b67)), (b28, .inl (G.2 0, 2880, .inl b68)), (b36, .inl (G.2 1, 4096, .inr (.inl b69))), (b37, .inl (G.2 1, 4096, .inr (.inl b70))), (b38, .inl (G.2 1, 80, .inr (.inl b71)))] H := hP
  have hD := z_tie hP hD rfl
  refine lv_iload_n hx hb d_Model_cover_5 rfl (lv_at hl 1 rfl) ?_
  refine lv_i2l (v := b1.toInt64) hx hb d_Model_cover_6 rfl ?_
  refine lv_lconst (v := 0) hx hb d_Model_cover_7 (by decide) ?_
  refine lv_lconst (v := 1) hx hb d_Model_cover_8 (by decide) ?_
  refine z_callS (index := 138) (As := [.long b1.toInt64, .long 0, .long 1]) (rest := []) (wr := [(b0, .inr (12, [.int 0, .ref b3, .ref b4, .ref b5, .ref b6, .int b7, .ref b8, .int b9, .int b10, .int b11, .int b12, .ref b13, .ref b14, .ref b15, .int b16, .ref b17, .ref b18, .ref b19, .ref b20, .ref b21, .ref b22, .ref b23, .ref b24, .ref b25, .ref b26, .ref b27, .ref b28, .int b29, .ref b30, .ref b31, .int b32, .int b33, .int b34, .int b35, .ref b36, .ref b37, .ref b38, .ref b39, .ref b40, .ref b41, .ref b42, .int b43, .ref b44, .ref b45, .int b46, .ref b47, .ref b48, .ref b49, .ref b50, .ref b51, .int b52, .ref b53, .ref b54, .ref b55])), (b3, .inl (G.2 0, 503, .inl b56)), (b17, .inl (G.2 0, 2, .inl b57)), (b18, .inl (G.2 0, 4820, .inl b58)), (b19, .inl (G.2 0, 520, .inl b59)), (b20, .inl (G.2 0, 9640, .inl b60)), (b21, .inl (G.2 0, 482, .inl b61)), (b22, .inl (G.2 0, 482, .inl b62)), (b23, .inl (G.2 0, 2, .inl b63)), (b24, .inl (G.2 0, 482, .inl b64)), (b25, .inl (G.2 0, 482, .inl b65)), (b26, .inl (G.2 0, 482, .inl b66)), (b27, .inl (G.2 0, 2, .inl b67)), (b28, .inl (G.2 0, 2880, .inl b68)), (b36, .inl (G.2 1, 4096, .inr (.inl b69))), (b37, .inl (G.2 1, 4096, .inr (.inl b70))), (b38, .inl (G.2 1, 80, .inr (.inl b71)))]) Z (s2_Model_in l G (b1.toInt64) (0) (1)) hl.1 q1281 q1282 q14 q1283 ⟨by decide, by decide, by show _ = some 3; decide +kernel⟩ ⟨Nat.le_of_ble_eq_true rfl, Nat.le_of_ble_eq_true rfl⟩ ⟨Nat.le_of_ble_eq_true rfl, Nat.le_of_ble_eq_true rfl⟩ rfl (Nat.le_of_ble_eq_true rfl) d_Model_cover_9 hP hD hS hA [] [0, 1, 2, 3, 4, 5, 6, 7, 8, 9, 10, 11, 12, 13, 14, 15, 16] rfl rfl rfl rfl (by decide) (fun v w1 H locs hw_1 hP hD hS => ?_)
  rcases hw_1 with ⟨rfl, rfl, hq_2⟩ | ⟨rfl, rfl, hq_3, hq_4⟩ | ⟨rfl, rfl, hq_5, hq_6⟩
  · have hP : va_P G.1 classes [(b0, .inr (12, [.int 0, .ref b3, .ref b4, .ref b5, .ref b6, .int b7, .ref b8, .int b9, .int b10, .int b11, .int b12, .ref b13, .ref b14, .ref b15, .int b16, .ref b17, .ref b18, .ref b19, .ref b20, .ref b21, .ref b22, .ref b23, .ref b24, .ref b25, .ref b26, .ref b27, .ref b28, .int b29, .ref b30, .ref b31, .int b32, .int b33, .int b34, .int b35, .ref b36, .ref b37, .ref b38, .ref b39, .ref b40, .ref b41, .ref b42, .int b43, .ref b44, .ref b45, .int b46, .ref b47, .ref b48, .ref b49, .ref b50, .ref b51, .int b52, .ref b53, .ref b54, .ref b55])), (b3, .inl (G.2 0, 503, .inl b56)), (b17, .inl (G.2 0, 2, .inl b57)), (b18, .inl (G.2 0, 4820, .inl b58)), (b19, .inl (G.2 0, 520, .inl b59)), (b20, .inl (G.2 0, 9640, .inl b60)), (b21, .inl (G.2 0, 482, .inl b61)), (b22, .inl (G.2 0, 482, .inl b62)), (b23, .inl (G.2 0, 2, .inl b63)), (b24, .inl (G.2 0, 482, .inl b64)), (b25, .inl (G.2 0, 482, .inl b65)), (b26, .inl (G.2 0, 482, .inl b66)), (b27, .inl (G.2 0, 2, .inl b67)), (b28, .inl (G.2 0, 2880, .inl b68)), (b36, .inl (G.2 1, 4096, .inr (.inl b69))), (b37, .inl (G.2 1, 4096, .inr (.inl b70))), (b38, .inl (G.2 1, 80, .inr (.inl b71)))] H := hP
    have hD := z_tie hP hD rfl
    try simp only [Int32.toInt_toInt64, ll_0] at hq_2
    have hv_7 : zI b1 (-2147483648) (-1) := by have _a := hq_2; have _b := (zI_all b1); have _c := zcl_0; simp only [Int32.toInt_toInt64] at *; exact ⟨by omega, by omega⟩
    refine W.widen (k := 0) (n := 0) (Nat.le_of_ble_eq_true rfl) (Nat.le_of_ble_eq_true rfl) ?_
    refine lv_if_ne (tgt := 17) hx hb d_Model_cover_12 (by decide) (fun hc => absurd hc (by decide +kernel)) (fun _ => ?_)
    refine lv_iconst (v := (-1)) hx hb d_Model_cover_15 (by decide) ?_
    exact z_iret hx hb hr hlocks hP hD hS (Nat.le_of_ble_eq_true rfl) (Nat.le_of_ble_eq_true rfl) d_Model_cover_16 ⟨(-1), b29, b57, b58, b59, b60, b61, b62, b63, b64, b65, b66, b67, b68, b69, b70, b71, rfl, rfl, (zI.wk (l' := (-2147483648)) (h' := 1048575) zc_m1 (by decide)), hb29, hb57, hb58, hb59, hb61, hb62, hb63, hb64, hb67, hb68⟩
  · have hP : va_P G.1 classes [(b0, .inr (12, [.int 0, .ref b3, .ref b4, .ref b5, .ref b6, .int b7, .ref b8, .int b9, .int b10, .int b11, .int b12, .ref b13, .ref b14, .ref b15, .int b16, .ref b17, .ref b18, .ref b19, .ref b20, .ref b21, .ref b22, .ref b23, .ref b24, .ref b25, .ref b26, .ref b27, .ref b28, .int b29, .ref b30, .ref b31, .int b32, .int b33, .int b34, .int b35, .ref b36, .ref b37, .ref b38, .ref b39, .ref b40, .ref b41, .ref b42, .int b43, .ref b44, .ref b45, .int b46, .ref b47, .ref b48, .ref b49, .ref b50, .ref b51, .int b52, .ref b53, .ref b54, .ref b55])), (b3, .inl (G.2 0, 503, .inl b56)), (b17, .inl (G.2 0, 2, .inl b57)), (b18, .inl (G.2 0, 4820, .inl b58)), (b19, .inl (G.2 0, 520, .inl b59)), (b20, .inl (G.2 0, 9640, .inl b60)), (b21, .inl (G.2 0, 482, .inl b61)), (b22, .inl (G.2 0, 482, .inl b62)), (b23, .inl (G.2 0, 2, .inl b63)), (b24, .inl (G.2 0, 482, .inl b64)), (b25, .inl (G.2 0, 482, .inl b65)), (b26, .inl (G.2 0, 482, .inl b66)), (b27, .inl (G.2 0, 2, .inl b67)), (b28, .inl (G.2 0, 2880, .inl b68)), (b36, .inl (G.2 1, 4096, .inr (.inl b69))), (b37, .inl (G.2 1, 4096, .inr (.inl b70))), (b38, .inl (G.2 1, 80, .inr (.inl b71)))] H := hP
    have hD := z_tie hP hD rfl
    try simp only [Int32.toInt_toInt64, ll_0] at hq_3
    have hv_8 : zI b1 0 2147483647 := by have _a := hq_3; have _b := (zI_all b1); have _c := zcl_0; simp only [Int32.toInt_toInt64] at *; exact ⟨by omega, by omega⟩
    try simp only [Int32.toInt_toInt64, ll_1] at hq_4
    have hv_9 : zI b1 2 2147483647 := by have _a := hq_4; have _b := hv_8; have _c := zcl_1; simp only [Int32.toInt_toInt64] at *; exact ⟨by omega, by omega⟩
    refine W.widen (k := 0) (n := 0) (Nat.le_of_ble_eq_true rfl) (Nat.le_of_ble_eq_true rfl) ?_
    refine lv_if_ne (tgt := 17) hx hb d_Model_cover_12 (by decide) (fun hc => absurd hc (by decide +kernel)) (fun _ => ?_)
    refine lv_iconst (v := (-1)) hx hb d_Model_cover_15 (by decide) ?_
    exact z_iret hx hb hr hlocks hP hD hS (Nat.le_of_ble_eq_true rfl) (Nat.le_of_ble_eq_true rfl) d_Model_cover_16 ⟨(-1), b29, b57, b58, b59, b60, b61, b62, b63, b64, b65, b66, b67, b68, b69, b70, b71, rfl, rfl, (zI.wk (l' := (-2147483648)) (h' := 1048575) zc_m1 (by decide)), hb29, hb57, hb58, hb59, hb61, hb62, hb63, hb64, hb67, hb68⟩
  · have hP : va_P G.1 classes [(b0, .inr (12, [.int 0, .ref b3, .ref b4, .ref b5, .ref b6, .int b7, .ref b8, .int b9, .int b10, .int b11, .int b12, .ref b13, .ref b14, .ref b15, .int b16, .ref b17, .ref b18, .ref b19, .ref b20, .ref b21, .ref b22, .ref b23, .ref b24, .ref b25, .ref b26, .ref b27, .ref b28, .int b29, .ref b30, .ref b31, .int b32, .int b33, .int b34, .int b35, .ref b36, .ref b37, .ref b38, .ref b39, .ref b40, .ref b41, .ref b42, .int b43, .ref b44, .ref b45, .int b46, .ref b47, .ref b48, .ref b49, .ref b50, .ref b51, .int b52, .ref b53, .ref b54, .ref b55])), (b3, .inl (G.2 0, 503, .inl b56)), (b17, .inl (G.2 0, 2, .inl b57)), (b18, .inl (G.2 0, 4820, .inl b58)), (b19, .inl (G.2 0, 520, .inl b59)), (b20, .inl (G.2 0, 9640, .inl b60)), (b21, .inl (G.2 0, 482, .inl b61)), (b22, .inl (G.2 0, 482, .inl b62)), (b23, .inl (G.2 0, 2, .inl b63)), (b24, .inl (G.2 0, 482, .inl b64)), (b25, .inl (G.2 0, 482, .inl b65)), (b26, .inl (G.2 0, 482, .inl b66)), (b27, .inl (G.2 0, 2, .inl b67)), (b28, .inl (G.2 0, 2880, .inl b68)), (b36, .inl (G.2 1, 4096, .inr (.inl b69))), (b37, .inl (G.2 1, 4096, .inr (.inl b70))), (b38, .inl (G.2 1, 80, .inr (.inl b71)))] H := hP
    have hD := z_tie hP hD rfl
    try simp only [Int32.toInt_toInt64, ll_0] at hq_5
    have hv_10 : zI b1 0 2147483647 := by have _a := hq_5; have _b := (zI_all b1); have _c := zcl_0; simp only [Int32.toInt_toInt64] at *; exact ⟨by omega, by omega⟩
    try simp only [Int32.toInt_toInt64, ll_1] at hq_6
    have hv_11 : zI b1 0 1 := by have _a := hq_6; have _b := hv_10; have _c := zcl_1; simp only [Int32.toInt_toInt64] at *; exact ⟨by omega, by omega⟩
    refine W.widen (k := 0) (n := 0) (Nat.le_of_ble_eq_true rfl) (Nat.le_of_ble_eq_true rfl) ?_
    refine lv_if_ne (tgt := 17) hx hb d_Model_cover_12 (by decide) (fun _ => ?_) (fun hc => absurd hc (by decide +kernel))
    refine lv_aload_n hx hb d_Model_cover_17 rfl (lv_at hl 0 rfl) ?_
    refine z_callV (index := 254) (As := []) (rest := []) (wr := [(b36, .inl (G.2 1, 4096, .inr (.inl b69))), (b37, .inl (G.2 1, 4096, .inr (.inl b70))), (b38, .inl (G.2 1, 80, .inr (.inl b71)))]) Z (s1_Model_lay1 l G (b0) (0) (b3) (b4) (b5) (b6) (b7) (b8) (b9) (b10) (b11) (b12) (b13) (b14) (b15) (b16) (b17) (b18) (b19) (b20) (b21) (b22) (b23) (b24) (b25) (b26) (b27) (b28) (b29) (b30) (b31) (b32) (b33) (b34) (b35) (b36) (b37) (b38) (b39) (b40) (b41) (b42) (b43) (b44) (b45) (b46) (b47) (b48) (b49) (b50) (b51) (b52) (b53) (b54) (b55) (b56) (b57) (b58) (b59) (b60) (b61) (b62) (b63) (b64) (b65) (b66) (b67) (b68) hb7 hb9 hb10 hb12 hb16 hb29 hb32 hb43 hb46 hb52 hb56 hb57 hb58 hb59 hb61 hb62 hb63 hb64 hb67 hb68) hl.1 q1356 q1358 qs55 q14 q1359 ⟨by decide, by decide, by show _ = some 0; decide +kernel⟩ ⟨Nat.le_of_ble_eq_true rfl, Nat.le_of_ble_eq_true rfl⟩ ⟨Nat.le_of_ble_eq_true rfl, Nat.le_of_ble_eq_true rfl⟩ rfl (Nat.le_of_ble_eq_true rfl) d_Model_cover_18 hP hD hS hA 0 12 rfl rfl rfl [0, 1, 2, 3, 4, 5, 6, 7, 8, 9, 10, 11, 12, 13] [14, 15, 16] rfl rfl rfl rfl (by decide) (fun v w1 H locs hw_12 hP hD hS => ?_)
    refine Exists.elim hw_12 (fun x_13 hz_26 => Exists.elim hz_26 (fun f_14 hz_27 => Exists.elim hz_27 (fun f_15 hz_28 => Exists.elim hz_28 (fun f_16 hz_29 => Exists.elim hz_29 (fun f_17 hz_30 => Exists.elim hz_30 (fun f_18 hz_31 => Exists.elim hz_31 (fun f_19 hz_32 => Exists.elim hz_32 (fun f_20 hz_33 => Exists.elim hz_33 (fun f_21 hz_34 => Exists.elim hz_34 (fun f_22 hz_35 => Exists.elim hz_35 (fun f_23 hz_36 => Exists.elim hz_36 (fun f_24 hz_37 => Exists.elim hz_37 (fun f_25 hz_38 => ?_)))))))))))))
    clear hw_12 hz_26 hz_27 hz_28 hz_29 hz_30 hz_31 hz_32 hz_33 hz_34 hz_35 hz_36 hz_37
    obtain ⟨rfl, rfl, hx_13, hf_14, hf_15, hf_16, hf_18, hf_19, hf_20, hf_21, hf_24, hf_25⟩ := hz_38
    have hP : va_P G.1 classes [(b36, .inl (G.2 1, 4096, .inr (.inl b69))), (b37, .inl (G.2 1, 4096, .inr (.inl b70))), (b38, .inl (G.2 1, 80, .inr (.inl b71))), (b0, .inr (12, [.int 0, .ref b3, .ref b4, .ref b5, .ref b6, .int b7, .ref b8, .int b9, .int b10, .int b11, .int b12, .ref b13, .ref b14, .ref b15, .int b16, .ref b17, .ref b18, .ref b19, .ref b20, .ref b21, .ref b22, .ref b23, .ref b24, .ref b25, .ref b26, .ref b27, .ref b28, .int x_13, .ref b30, .ref b31, .int b32, .int b33, .int b34, .int b35, .ref b36, .ref b37, .ref b38, .ref b39, .ref b40, .ref b41, .ref b42, .int b43, .ref b44, .ref b45, .int b46, .ref b47, .ref b48, .ref b49, .ref b50, .ref b51, .int b52, .ref b53, .ref b54, .ref b55])), (b3, .inl (G.2 0, 503, .inl b56)), (b17, .inl (G.2 0, 2, .inl f_14)), (b18, .inl (G.2 0, 4820, .inl f_15)), (b19, .inl (G.2 0, 520, .inl f_16)), (b20, .inl (G.2 0, 9640, .inl f_17)), (b21, .inl (G.2 0, 482, .inl f_18)), (b22, .inl (G.2 0, 482, .inl f_19)), (b23, .inl (G.2 0, 2, .inl f_20)), (b24, .inl (G.2 0, 482, .inl f_21)), (b25, .inl (G.2 0, 482, .inl f_22)), (b26, .inl (G.2 0, 482, .inl f_23)), (b27, .inl (G.2 0, 2, .inl f_24)), (b28, .inl (G.2 0, 2880, .inl f_25))] H := hP
    have hD := z_tie hP hD rfl
    refine W.widen (k := 0) (n := 0) (Nat.le_of_ble_eq_true rfl) (Nat.le_of_ble_eq_true rfl) ?_
    refine lv_aload_n hx hb d_Model_cover_21 rfl (lv_at hl 0 rfl) ?_
    refine z_callV (index := 305) (As := []) (rest := []) (wr := [(b17, .inl (G.2 0, 2, .inl f_14)), (b18, .inl (G.2 0, 4820, .inl f_15)), (b20, .inl (G.2 0, 9640, .inl f_17)), (b21, .inl (G.2 0, 482, .inl f_18)), (b23, .inl (G.2 0, 2, .inl f_20)), (b24, .inl (G.2 0, 482, .inl f_21)), (b25, .inl (G.2 0, 482, .inl f_22)), (b26, .inl (G.2 0, 482, .inl f_23))]) Z (s2_Model_layGoes l G (b0) (0) (b3) (b4) (b5) (b6) (b7) (b8) (b9) (b10) (b11) (b12) (b13) (b14) (b15) (b16) (b17) (b18) (b19) (b20) (b21) (b22) (b23) (b24) (b25) (b26) (b27) (b28) (x_13) (b30) (b31) (b32) (b33) (b34) (b35) (b36) (b37) (b38) (b39) (b40) (b41) (b42) (b43) (b44) (b45) (b46) (b47) (b48) (b49) (b50) (b51) (b52) (b53) (b54) (b55) (b56) (f_16) (f_19) (f_24) (f_25) (b69) (b70) (b71) hb7 hb9 hb10 hb12 hb16 hx_13 hb32 hb43 hb46 hb52 hb56 hf_16 hf_19 hf_24 hf_25) hl.1 q1479 q1481 qs78 q14 q1482 ⟨by decide, by decide, by show _ = some 0; decide +kernel⟩ ⟨Nat.le_of_ble_eq_true rfl, Nat.le_of_ble_eq_true rfl⟩ ⟨Nat.le_of_ble_eq_true rfl, Nat.le_of_ble_eq_true rfl⟩ rfl (Nat.le_of_ble_eq_true rfl) d_Model_cover_22 hP hD hS hA 3 12 rfl rfl rfl [3, 4, 7, 10, 15, 16, 0, 1, 2] [5, 6, 8, 9, 11, 12, 13, 14] rfl rfl rfl rfl (by decide) (fun v w1 H locs hw_39 hP hD hS => ?_)
    obtain ⟨x_40, f_41, f_42, f_43, rfl, rfl, hx_40⟩ := hw_39
    have hP : va_P G.1 classes [(b17, .inl (G.2 0, 2, .inl f_14)), (b18, .inl (G.2 0, 4820, .inl f_15)), (b20, .inl (G.2 0, 9640, .inl f_17)), (b21, .inl (G.2 0, 482, .inl f_18)), (b23, .inl (G.2 0, 2, .inl f_20)), (b24, .inl (G.2 0, 482, .inl f_21)), (b25, .inl (G.2 0, 482, .inl f_22)), (b26, .inl (G.2 0, 482, .inl f_23)), (b0, .inr (12, [.int 0, .ref b3, .ref b4, .ref b5, .ref b6, .int b7, .ref b8, .int b9, .int b10, .int b11, .int b12, .ref b13, .ref b14, .ref b15, .int b16, .ref b17, .ref b18, .ref b19, .ref b20, .ref b21, .ref b22, .ref b23, .ref b24, .ref b25, .ref b26, .ref b27, .ref b28, .int x_40, .ref b30, .ref b31, .int b32, .int b33, .int b34, .int b35, .ref b36, .ref b37, .ref b38, .ref b39, .ref b40, .ref b41, .ref b42, .int b43, .ref b44, .ref b45, .int b46, .ref b47, .ref b48, .ref b49, .ref b50, .ref b51, .int b52, .ref b53, .ref b54, .ref b55])), (b3, .inl (G.2 0, 503, .inl b56)), (b19, .inl (G.2 0, 520, .inl f_16)), (b22, .inl (G.2 0, 482, .inl f_19)), (b27, .inl (G.2 0, 2, .inl f_24)), (b28, .inl (G.2 0, 2880, .inl f_25)), (b36, .inl (G.2 1, 4096, .inr (.inl f_41))), (b37, .inl (G.2 1, 4096, .inr (.inl f_42))), (b38, .inl (G.2 1, 80, .inr (.inl f_43)))] H := hP
    have hD := z_tie hP hD rfl
    refine W.widen (k := 0) (n := 0) (Nat.le_of_ble_eq_true rfl) (Nat.le_of_ble_eq_true rfl) ?_
    refine lv_iconst (v := 0) hx hb d_Model_cover_25 (by decide) ?_
    refine lv_istore_n (lv' := [(2, .int 0), (0, .ref b0), (1, .int b1)]) hx hb d_Model_cover_26 rfl hl (by decide) rfl (fun ls hl => ?_)
    refine lv_bipush (v := 21) hx hb d_Model_cover_27 (by decide) ?_
    refine lv_istore_n (lv' := [(3, .int 21), (2, .int 0), (0, .ref b0), (1, .int b1)]) hx hb d_Model_cover_29 rfl hl (by decide) rfl (fun ls hl => ?_)
    refine lv_iconst (v := 0) hx hb d_Model_cover_30 (by decide) ?_
    refine lv_istore (lv' := [(4, .int 0), (3, .int 21), (2, .int 0), (0, .ref b0), (1, .int b1)]) hx hb d_Model_cover_31 hl (by decide) rfl (fun ls hl => ?_)
    suffices key : ∀ (k_79 : Nat) (y_80 : Int32) (y_81 : Int32) (y_82 : Int32) (H : Heap) (locs : List Loc) (ls : Array Slot), (zI y_80 0 1048576) → (zI y_81 (-2147483648) 21) → (zI y_82 0 1048575) → (1048576 : Int) - y_80.toInt < (k_79 : Int) → va_P G.1 classes [(b17, .inl (G.2 0, 2, .inl f_14)), (b18, .inl (G.2 0, 4820, .inl f_15)), (b20, .inl (G.2 0, 9640, .inl f_17)), (b21, .inl (G.2 0, 482, .inl f_18)), (b23, .inl (G.2 0, 2, .inl f_20)), (b24, .inl (G.2 0, 482, .inl f_21)), (b25, .inl (G.2 0, 482, .inl f_22)), (b26, .inl (G.2 0, 482, .inl f_23)), (b0, .inr (12, [.int 0, .ref b3, .ref b4, .ref b5, .ref b6, .int b7, .ref b8, .int b9, .int b10, .int b11, .int b12, .ref b13, .ref b14, .ref b15, .int b16, .ref b17, .ref b18, .ref b19, .ref b20, .ref b21, .ref b22, .ref b23, .ref b24, .ref b25, .ref b26, .ref b27, .ref b28, .int x_40, .ref b30, .ref b31, .int b32, .int b33, .int b34, .int b35, .ref b36, .ref b37, .ref b38, .ref b39, .ref b40, .ref b41, .ref b42, .int b43, .ref b44, .ref b45, .int b46, .ref b47, .ref b48, .ref b49, .ref b50, .ref b51, .int b52, .ref b53, .ref b54, .ref b55])), (b3, .inl (G.2 0, 503, .inl b56)), (b19, .inl (G.2 0, 520, .inl f_16)), (b22, .inl (G.2 0, 482, .inl f_19)), (b27, .inl (G.2 0, 2, .inl f_24)), (b28, .inl (G.2 0, 2880, .inl f_25)), (b36, .inl (G.2 1, 4096, .inr (.inl f_41))), (b37, .inl (G.2 1, 4096, .inr (.inl f_42))), (b38, .inl (G.2 1, 80, .inr (.inl f_43)))] H → va_D A [(b17, .inl (G.2 0, 2, .inl f_14)), (b18, .inl (G.2 0, 4820, .inl f_15)), (b20, .inl (G.2 0, 9640, .inl f_17)), (b21, .inl (G.2 0, 482, .inl f_18)), (b23, .inl (G.2 0, 2, .inl f_20)), (b24, .inl (G.2 0, 482, .inl f_21)), (b25, .inl (G.2 0, 482, .inl f_22)), (b26, .inl (G.2 0, 482, .inl f_23)), (b0, .inr (12, [.int 0, .ref b3, .ref b4, .ref b5, .ref b6, .int b7, .ref b8, .int b9, .int b10, .int b11, .int b12, .ref b13, .ref b14, .ref b15, .int b16, .ref b17, .ref b18, .ref b19, .ref b20, .ref b21, .ref b22, .ref b23, .ref b24, .ref b25, .ref b26, .ref b27, .ref b28, .int x_40, .ref b30, .ref b31, .int b32, .int b33, .int b34, .int b35, .ref b36, .ref b37, .ref b38, .ref b39, .ref b40, .ref b41, .ref b42, .int b43, .ref b44, .ref b45, .int b46, .ref b47, .ref b48, .ref b49, .ref b50, .ref b51, .int b52, .ref b53, .ref b54, .ref b55])), (b3, .inl (G.2 0, 503, .inl b56)), (b19, .inl (G.2 0, 520, .inl f_16)), (b22, .inl (G.2 0, 482, .inl f_19)), (b27, .inl (G.2 0, 2, .inl f_24)), (b28, .inl (G.2 0, 2880, .inl f_25)), (b36, .inl (G.2 1, 4096, .inr (.inl f_41))), (b37, .inl (G.2 1, 4096, .inr (.inl f_42))), (b38, .inl (G.2 1, 80, .inr (.inl f_43)))] → va_S A s.heap H locs → lv_has ls 6 [(4, .int y_80), (3, .int y_81), (2, .int y_82), (0, .ref b0), (1, .int b1)] → W p l e m_s1_Model_cover s m ([.ref b0, .int b1] : List Value).toArray below meth c H locs 0 0 (MQ below (zQ G (fun v w => ∃ (e0 : Int32), ∃ (e1 : Int32), ∃ (e2 : Nat → Int32), ∃ (e3 : Nat → Int32), ∃ (e4 : Nat → Int32), ∃ (e5 : Nat → Int32), ∃ (e6 : Nat → Int32), ∃ (e7 : Nat → Int32), ∃ (e8 : Nat → Int32), ∃ (e9 : Nat → Int32), ∃ (e10 : Nat → Int32), ∃ (e11 : Nat → Int32), ∃ (e12 : Nat → Int32), ∃ (e13 : Nat → Int32), ∃ (e14 : Nat → Int64), ∃ (e15 : Nat → Int64), ∃ (e16 : Nat → Int64), v = some (.int e0) ∧ w = [(b0, .inr (12, [.int 0, .ref b3, .ref b4, .ref b5, .ref b6, .int b7, .ref b8, .int b9, .int b10, .int b11, .int b12, .ref b13, .ref b14, .ref b15, .int b16, .ref b17, .ref b18, .ref b19, .ref b20, .ref b21, .ref b22, .ref b23, .ref b24, .ref b25, .ref b26, .ref b27, .ref b28, .int e1, .ref b30, .ref b31, .int b32, .int b33, .int b34, .int b35, .ref b36, .ref b37, .ref b38, .ref b39, .ref b40, .ref b41, .ref b42, .int b43, .ref b44, .ref b45, .int b46, .ref b47, .ref b48, .ref b49, .ref b50, .ref b51, .int b52, .ref b53, .ref b54, .ref b55])), (b3, .inl (G.2 0, 503, .inl b56)), (b17, .inl (G.2 0, 2, .inl e2)), (b18, .inl (G.2 0, 4820, .inl e3)), (b19, .inl (G.2 0, 520, .inl e4)), (b20, .inl (G.2 0, 9640, .inl e5)), (b21, .inl (G.2 0, 482, .inl e6)), (b22, .inl (G.2 0, 482, .inl e7)), (b23, .inl (G.2 0, 2, .inl e8)), (b24, .inl (G.2 0, 482, .inl e9)), (b25, .inl (G.2 0, 482, .inl e10)), (b26, .inl (G.2 0, 482, .inl e11)), (b27, .inl (G.2 0, 2, .inl e12)), (b28, .inl (G.2 0, 2880, .inl e13)), (b36, .inl (G.2 1, 4096, .inr (.inl e14))), (b37, .inl (G.2 1, 4096, .inr (.inl e15))), (b38, .inl (G.2 1, 80, .inr (.inl e16)))] ∧ (zI e0 (-2147483648) 1048575) ∧ (zI e1 0 1) ∧ (zR e2 0 241) ∧ (zR e3 (-1) 240) ∧ (zqa qP e4) ∧ (zqa qC e6) ∧ (zR e7 0 240) ∧ (zR e8 0 241) ∧ (zR e9 0 240) ∧ (zR e12 0 240) ∧ (zqa qE e13)) A) ([.ref b0, .int b1] : List Value).toArray s m_s1_Model_cover.cells m_s1_Model_cover.slots A) (F0 m 33 ls []) by
      exact key 1048577 (0) (21) (0) _ _ _ (zI.wk (l' := 0) (h' := 1048576) zc_0 (by decide)) (zI.wk (l' := (-2147483648)) (h' := 21) zc_21 (by decide)) (zI.wk (l' := 0) (h' := 1048575) zc_0 (by decide)) (zm_upi (zI.wk (l' := 0) (h' := 1048576) zc_0 (by decide)) (by decide)) hP hD hS (lv_sub hl [0, 1, 2, 3, 4] rfl)
    intro k_79
    induction k_79 with
    | zero =>
      intro y_80 y_81 y_82 H locs ls hy_80 hy_81 hy_82 hmk_79 hP hD hS hl
      exact (zm_up0 hy_80 hmk_79).elim
    | succ k_79 ihk_79 =>
      intro y_80 y_81 y_82 H locs ls hy_80 hy_81 hy_82 hmk_79 hP hD hS hl
      refine lv_iload hx hb d_Model_cover_33 (lv_at hl 0 rfl) ?_
      refine lv_iconst (v := 1) hx hb d_Model_cover_35 (by decide) ?_
      refine lv_aload_n hx hb d_Model_cover_36 rfl (lv_at hl 3 rfl) ?_
      refine z_callV (index := 134) (As := []) (rest := [.int 1, .int y_80]) (wr := [(b17, .inl (G.2 0, 2, .inl f_14)), (b18, .inl (G.2 0, 4820, .inl f_15)), (b20, .inl (G.2 0, 9640, .inl f_17)), (b21, .inl (G.2 0, 482, .inl f_18)), (b23, .inl (G.2 0, 2, .inl f_20)), (b24, .inl (G.2 0, 482, .inl f_21)), (b25, .inl (G.2 0, 482, .inl f_22)), (b26, .inl (G.2 0, 482, .inl f_23)), (b19, .inl (G.2 0, 520, .inl f_16)), (b22, .inl (G.2 0, 482, .inl f_19)), (b27, .inl (G.2 0, 2, .inl f_24)), (b28, .inl (G.2 0, 2880, .inl f_25)), (b36, .inl (G.2 1, 4096, .inr (.inl f_41))), (b37, .inl (G.2 1, 4096, .inr (.inl f_42))), (b38, .inl (G.2 1, 80, .inr (.inl f_43)))]) Z (s1_Model_many l G (b0) (0) (b3) (b4) (b5) (b6) (b7) (b8) (b9) (b10) (b11) (b12) (b13) (b14) (b15) (b16) (b17) (b18) (b19) (b20) (b21) (b22) (b23) (b24) (b25) (b26) (b27) (b28) (x_40) (b30) (b31) (b32) (b33) (b34) (b35) (b36) (b37) (b38) (b39) (b40) (b41) (b42) (b43) (b44) (b45) (b46) (b47) (b48) (b49) (b50) (b51) (b52) (b53) (b54) (b55) (b56) hb7 hb9 hb10 hb12 hb16 hx_40 hb32 hb43 hb46 hb52 hb56) hl.1 q1320 q1322 qs51 q14 q1323 ⟨by decide, by decide, by show _ = some 0; decide +kernel⟩ ⟨Nat.le_of_ble_eq_true rfl, Nat.le_of_ble_eq_true rfl⟩ ⟨Nat.le_of_ble_eq_true rfl, Nat.le_of_ble_eq_true rfl⟩ rfl (Nat.le_of_ble_eq_true rfl) d_Model_cover_37 hP hD hS hA 8 12 rfl rfl rfl [8, 9] [0, 1, 2, 3, 4, 5, 6, 7, 10, 11, 12, 13, 14, 15, 16] rfl rfl rfl rfl (by decide) (fun v w1 H locs hw_83 hP hD hS => ?_)
      obtain ⟨x_84, rfl, rfl, hx_84, hfx_85⟩ := hw_83
      have hP : va_P G.1 classes [(b17, .inl (G.2 0, 2, .inl f_14)), (b18, .inl (G.2 0, 4820, .inl f_15)), (b20, .inl (G.2 0, 9640, .inl f_17)), (b21, .inl (G.2 0, 482, .inl f_18)), (b23, .inl (G.2 0, 2, .inl f_20)), (b24, .inl (G.2 0, 482, .inl f_21)), (b25, .inl (G.2 0, 482, .inl f_22)), (b26, .inl (G.2 0, 482, .inl f_23)), (b19, .inl (G.2 0, 520, .inl f_16)), (b22, .inl (G.2 0, 482, .inl f_19)), (b27, .inl (G.2 0, 2, .inl f_24)), (b28, .inl (G.2 0, 2880, .inl f_25)), (b36, .inl (G.2 1, 4096, .inr (.inl f_41))), (b37, .inl (G.2 1, 4096, .inr (.inl f_42))), (b38, .inl (G.2 1, 80, .inr (.inl f_43))), (b0, .inr (12, [.int 0, .ref b3, .ref b4, .ref b5, .ref b6, .int b7, .ref b8, .int b9, .int b10, .int b11, .int b12, .ref b13, .ref b14, .ref b15, .int b16, .ref b17, .ref b18, .ref b19, .ref b20, .ref b21, .ref b22, .ref b23, .ref b24, .ref b25, .ref b26, .ref b27, .ref b28, .int x_40, .ref b30, .ref b31, .int b32, .int b33, .int b34, .int b35, .ref b36, .ref b37, .ref b38, .ref b39, .ref b40, .ref b41, .ref b42, .int b43, .ref b44, .ref b45, .int b46, .ref b47, .ref b48, .ref b49, .ref b50, .ref b51, .int b52, .ref b53, .ref b54, .ref b55])), (b3, .inl (G.2 0, 503, .inl b56))] H := hP
      have hD := z_tie hP hD rfl
      refine W.widen (k := 0) (n := 0) (Nat.le_of_ble_eq_true rfl) (Nat.le_of_ble_eq_true rfl) ?_
      refine lv_ishl hx hb d_Model_cover_40 ?_
      refine lv_topi (fun v_86 ev_86 => ?_)
      have hv_87 : zI v_86 1 1048576 := zI_shl1 hx_84 ev_86 (by decide)
      refine lv_icmp_ge (tgt := 78) hx hb d_Model_cover_41 (by decide) (fun hc_88 => ?_) (fun hc_88 => ?_)
      · have _nhc_88 := hc_88
        have ni_89 := (fa_le _ _).mp hc_88
        have hv_90 : zI y_80 1 1048576 := zI.le_r hv_87 hy_80 hc_88 (by decide)
        refine lv_iload_n hx hb d_Model_cover_78 rfl (lv_at hl 4 rfl) ?_
        refine lv_if_ne (tgt := 86) hx hb d_Model_cover_79 (by decide) (fun hc_91 => ?_) (fun hc_91 => ?_)
        · have _nhc_91 := hc_91
          have ni_92 : ¬ (b1 : Int32).toInt = (0 : Int32).toInt := fun z => hc_91 ((fa_eq _ _).mpr z)
          simp only [li_0] at ni_92
          have hv_93 : zI b1 1 1 := zI.ne_lo hv_11 zc_0 hc_91 (by decide)
          refine lv_iload_n hx hb d_Model_cover_86 rfl (lv_at hl 2 rfl) ?_
          exact z_iret hx hb hr hlocks (hP.sub [15, 16, 0, 1, 8, 2, 3, 9, 4, 5, 6, 7, 10, 11, 12, 13, 14] rfl) (hD.sub [15, 16, 0, 1, 8, 2, 3, 9, 4, 5, 6, 7, 10, 11, 12, 13, 14] (by decide) rfl) hS (Nat.le_of_ble_eq_true rfl) (Nat.le_of_ble_eq_true rfl) d_Model_cover_87 ⟨y_82, x_40, f_14, f_15, f_16, f_17, f_18, f_19, f_20, f_21, f_22, f_23, f_24, f_25, f_41, f_42, f_43, rfl, rfl, (zI.wk (l' := (-2147483648)) (h' := 1048575) hy_82 (by decide)), hx_40, hf_14, hf_15, hf_16, hf_18, hf_19, hf_20, hf_21, hf_24, hf_25⟩
        · have _nhc_91 := hc_91
          have ni_94 := (fa_eq _ _).mp hc_91
          rw [li_0] at ni_94
          have hv_95 : zI b1 0 0 := zI.eq_l hv_11 zc_0 hc_91
          refine lv_iload_n hx hb d_Model_cover_82 rfl (lv_at hl 1 rfl) ?_
          refine lv_goto (tgt := 87) hx hb d_Model_cover_83 (by decide) ?_
          exact z_iret hx hb hr hlocks (hP.sub [15, 16, 0, 1, 8, 2, 3, 9, 4, 5, 6, 7, 10, 11, 12, 13, 14] rfl) (hD.sub [15, 16, 0, 1, 8, 2, 3, 9, 4, 5, 6, 7, 10, 11, 12, 13, 14] (by decide) rfl) hS (Nat.le_of_ble_eq_true rfl) (Nat.le_of_ble_eq_true rfl) d_Model_cover_87 ⟨y_81, x_40, f_14, f_15, f_16, f_17, f_18, f_19, f_20, f_21, f_22, f_23, f_24, f_25, f_41, f_42, f_43, rfl, rfl, (zI.wk (l' := (-2147483648)) (h' := 1048575) hy_81 (by decide)), hx_40, hf_14, hf_15, hf_16, hf_18, hf_19, hf_20, hf_21, hf_24, hf_25⟩
      · have _nhc_88 := hc_88
        have ni_96 := (fa_lt _ _).mp (zi_nle hc_88)
        have hv_97 : zI y_80 0 1048575 := zI.lt_l hy_80 hv_87 (zi_nle hc_88) (by decide)
        refine lv_iload hx hb d_Model_cover_44 (lv_at hl 0 rfl) ?_
        refine z_callS (index := 308) (As := [.int y_80]) (rest := []) (wr := [(b17, .inl (G.2 0, 2, .inl f_14)), (b18, .inl (G.2 0, 4820, .inl f_15)), (b20, .inl (G.2 0, 9640, .inl f_17)), (b21, .inl (G.2 0, 482, .inl f_18)), (b23, .inl (G.2 0, 2, .inl f_20)), (b24, .inl (G.2 0, 482, .inl f_21)), (b25, .inl (G.2 0, 482, .inl f_22)), (b26, .inl (G.2 0, 482, .inl f_23)), (b19, .inl (G.2 0, 520, .inl f_16)), (b22, .inl (G.2 0, 482, .inl f_19)), (b27, .inl (G.2 0, 2, .inl f_24)), (b28, .inl (G.2 0, 2880, .inl f_25)), (b36, .inl (G.2 1, 4096, .inr (.inl f_41))), (b37, .inl (G.2 1, 4096, .inr (.inl f_42))), (b38, .inl (G.2 1, 80, .inr (.inl f_43))), (b0, .inr (12, [.int 0, .ref b3, .ref b4, .ref b5, .ref b6, .int b7, .ref b8, .int b9, .int b10, .int b11, .int b12, .ref b13, .ref b14, .ref b15, .int b16, .ref b17, .ref b18, .ref b19, .ref b20, .ref b21, .ref b22, .ref b23, .ref b24, .ref b25, .ref b26, .ref b27, .ref b28, .int x_40, .ref b30, .ref b31, .int b32, .int b33, .int b34, .int b35, .ref b36, .ref b37, .ref b38, .ref b39, .ref b40, .ref b41, .ref b42, .int b43, .ref b44, .ref b45, .int b46, .ref b47, .ref b48, .ref b49, .ref b50, .ref b51, .int b52, .ref b53, .ref b54, .ref b55])), (b3, .inl (G.2 0, 503, .inl b56))]) Z (s17_Model_ones l G (y_80) (zI.wk (l' := 0) (h' := 2147483647) hv_97 (by decide))) hl.1 q1483 q1484 q14 q1485 ⟨by decide, by decide, by show _ = some 1; decide +kernel⟩ ⟨Nat.le_of_ble_eq_true rfl, Nat.le_of_ble_eq_true rfl⟩ ⟨Nat.le_of_ble_eq_true rfl, Nat.le_of_ble_eq_true rfl⟩ rfl (Nat.le_of_ble_eq_true rfl) d_Model_cover_46 hP hD hS hA [] [0, 1, 2, 3, 4, 5, 6, 7, 8, 9, 10, 11, 12, 13, 14, 15, 16] rfl rfl rfl rfl (by decide) (fun v w1 H locs hw_98 hP hD hS => ?_)
        obtain ⟨x_99, rfl, rfl⟩ := hw_98
        have hP : va_P G.1 classes [(b17, .inl (G.2 0, 2, .inl f_14)), (b18, .inl (G.2 0, 4820, .inl f_15)), (b20, .inl (G.2 0, 9640, .inl f_17)), (b21, .inl (G.2 0, 482, .inl f_18)), (b23, .inl (G.2 0, 2, .inl f_20)), (b24, .inl (G.2 0, 482, .inl f_21)), (b25, .inl (G.2 0, 482, .inl f_22)), (b26, .inl (G.2 0, 482, .inl f_23)), (b19, .inl (G.2 0, 520, .inl f_16)), (b22, .inl (G.2 0, 482, .inl f_19)), (b27, .inl (G.2 0, 2, .inl f_24)), (b28, .inl (G.2 0, 2880, .inl f_25)), (b36, .inl (G.2 1, 4096, .inr (.inl f_41))), (b37, .inl (G.2 1, 4096, .inr (.inl f_42))), (b38, .inl (G.2 1, 80, .inr (.inl f_43))), (b0, .inr (12, [.int 0, .ref b3, .ref b4, .ref b5, .ref b6, .int b7, .ref b8, .int b9, .int b10, .int b11, .int b12, .ref b13, .ref b14, .ref b15, .int b16, .ref b17, .ref b18, .ref b19, .ref b20, .ref b21, .ref b22, .ref b23, .ref b24, .ref b25, .ref b26, .ref b27, .ref b28, .int x_40, .ref b30, .ref b31, .int b32, .int b33, .int b34, .int b35, .ref b36, .ref b37, .ref b38, .ref b39, .ref b40, .ref b41, .ref b42, .int b43, .ref b44, .ref b45, .int b46, .ref b47, .ref b48, .ref b49, .ref b50, .ref b51, .int b52, .ref b53, .ref b54, .ref b55])), (b3, .inl (G.2 0, 503, .inl b56))] H := hP
        have hD := z_tie hP hD rfl
        refine W.widen (k := 0) (n := 0) (Nat.le_of_ble_eq_true rfl) (Nat.le_of_ble_eq_true rfl) ?_
        refine lv_istore (lv' := [(5, .int x_99), (4, .int y_80), (3, .int y_81), (2, .int y_82), (0, .ref b0), (1, .int b1)]) hx hb d_Model_cover_49 hl (by decide) rfl (fun ls hl => ?_)
        refine lv_iload hx hb d_Model_cover_51 (lv_at hl 0 rfl) ?_
        refine lv_iload_n hx hb d_Model_cover_53 rfl (lv_at hl 2 rfl) ?_
        refine lv_icmp_ge (tgt := 72) hx hb d_Model_cover_54 (by decide) (fun hc_100 => ?_) (fun hc_100 => ?_)
        · have _nhc_100 := hc_100
          have ni_101 := (fa_le _ _).mp hc_100
          obtain ⟨v_102, ev_102⟩ : ∃ z : Int32, z = y_80 + 1 := ⟨_, rfl⟩
          obtain ⟨qv_102, hv_102⟩ := zI_add (l := 1) (h := 1048576) hv_97 zc_1 ev_102 (by decide)
          rw [li_1] at qv_102
          refine lv_iinc (v := v_102) (lv' := [(4, .int v_102), (5, .int x_99), (3, .int y_81), (2, .int y_82), (0, .ref b0), (1, .int b1)]) hx hb d_Model_cover_72 hl (k := 1) rfl (by rw [ev_102]; rfl) (by decide) rfl (fun ls hl => ?_)
          refine lv_goto (tgt := 33) hx hb d_Model_cover_75 (by decide) ?_
          exact ihk_79 (v_102) (y_81) (y_82) _ _ _ (zI.wk (l' := 0) (h' := 1048576) hv_102 (by decide)) hy_81 hy_82 (zm_up qv_102 hmk_79 (by decide)) (hP.sub [0, 1, 2, 3, 4, 5, 6, 7, 15, 16, 8, 9, 10, 11, 12, 13, 14] rfl) (hD.sub [0, 1, 2, 3, 4, 5, 6, 7, 15, 16, 8, 9, 10, 11, 12, 13, 14] (by decide) rfl) hS (lv_sub hl [0, 2, 3, 4, 5] rfl)
        · have _nhc_100 := hc_100
          have ni_103 := (fa_lt _ _).mp (zi_nle hc_100)
          have hv_104 : zI x_99 (-2147483648) 20 := zI.lt_l (zI_all x_99) hy_81 (zi_nle hc_100) (by decide)
          have hv_105 : zI y_81 (-2147483647) 21 := zI.lt_r (zI_all x_99) hy_81 (zi_nle hc_100) (by decide)
          refine lv_aload_n hx hb d_Model_cover_57 rfl (lv_at hl 4 rfl) ?_
          refine lv_iload hx hb d_Model_cover_58 (lv_at hl 1 rfl) ?_
          refine z_callV (index := 311) (As := [.int y_80]) (rest := []) (wr := [(b17, .inl (G.2 0, 2, .inl f_14)), (b18, .inl (G.2 0, 4820, .inl f_15)), (b20, .inl (G.2 0, 9640, .inl f_17)), (b21, .inl (G.2 0, 482, .inl f_18)), (b23, .inl (G.2 0, 2, .inl f_20)), (b24, .inl (G.2 0, 482, .inl f_21)), (b25, .inl (G.2 0, 482, .inl f_22)), (b26, .inl (G.2 0, 482, .inl f_23)), (b19, .inl (G.2 0, 520, .inl f_16)), (b22, .inl (G.2 0, 482, .inl f_19)), (b27, .inl (G.2 0, 2, .inl f_24)), (b28, .inl (G.2 0, 2880, .inl f_25)), (b38, .inl (G.2 1, 80, .inr (.inl f_43))), (b3, .inl (G.2 0, 503, .inl b56))]) Z (s2_Model_coversAll l G (b0) (y_80) (0) (b3) (b4) (b5) (b6) (b7) (b8) (b9) (b10) (b11) (b12) (b13) (b14) (b15) (b16) (b17) (b18) (b19) (b20) (b21) (b22) (b23) (b24) (b25) (b26) (b27) (b28) (x_40) (b30) (b31) (b32) (b33) (b34) (b35) (b36) (b37) (b38) (b39) (b40) (b41) (b42) (b43) (b44) (b45) (b46) (b47) (b48) (b49) (b50) (b51) (b52) (b53) (b54) (b55) (f_41) (f_42) hv_97 hb7 hb9 hb10 hb12 hb16 hx_40 hb32 hb43 hb46 hb52) hl.1 q1486 q1488 qs79 q14 q1489 ⟨by decide, by decide, by show _ = some 1; decide +kernel⟩ ⟨Nat.le_of_ble_eq_true rfl, Nat.le_of_ble_eq_true rfl⟩ ⟨Nat.le_of_ble_eq_true rfl, Nat.le_of_ble_eq_true rfl⟩ rfl (Nat.le_of_ble_eq_true rfl) d_Model_cover_60 hP hD hS hA 15 12 rfl rfl rfl [15, 12, 13] [0, 1, 2, 3, 4, 5, 6, 7, 8, 9, 10, 11, 14, 16] rfl rfl rfl rfl (by decide) (fun v w1 H locs hw_106 hP hD hS => ?_)
          obtain ⟨x_107, rfl, rfl, hx_107⟩ := hw_106
          have hP : va_P G.1 classes [(b17, .inl (G.2 0, 2, .inl f_14)), (b18, .inl (G.2 0, 4820, .inl f_15)), (b20, .inl (G.2 0, 9640, .inl f_17)), (b21, .inl (G.2 0, 482, .inl f_18)), (b23, .inl (G.2 0, 2, .inl f_20)), (b24, .inl (G.2 0, 482, .inl f_21)), (b25, .inl (G.2 0, 482, .inl f_22)), (b26, .inl (G.2 0, 482, .inl f_23)), (b19, .inl (G.2 0, 520, .inl f_16)), (b22, .inl (G.2 0, 482, .inl f_19)), (b27, .inl (G.2 0, 2, .inl f_24)), (b28, .inl (G.2 0, 2880, .inl f_25)), (b38, .inl (G.2 1, 80, .inr (.inl f_43))), (b3, .inl (G.2 0, 503, .inl b56)), (b0, .inr (12, [.int 0, .ref b3, .ref b4, .ref b5, .ref b6, .int b7, .ref b8, .int b9, .int b10, .int b11, .int b12, .ref b13, .ref b14, .ref b15, .int b16, .ref b17, .ref b18, .ref b19, .ref b20, .ref b21, .ref b22, .ref b23, .ref b24, .ref b25, .ref b26, .ref b27, .ref b28, .int x_40, .ref b30, .ref b31, .int b32, .int b33, .int b34, .int b35, .ref b36, .ref b37, .ref b38, .ref b39, .ref b40, .ref b41, .ref b42, .int b43, .ref b44, .ref b45, .int b46, .ref b47, .ref b48, .ref b49, .ref b50, .ref b51, .int b52, .ref b53, .ref b54, .ref b55])), (b36, .inl (G.2 1, 4096, .inr (.inl f_41))), (b37, .inl (G.2 1, 4096, .inr (.inl f_42)))] H := hP
          have hD := z_tie hP hD rfl
          refine W.widen (k := 0) (n := 0) (Nat.le_of_ble_eq_true rfl) (Nat.le_of_ble_eq_true rfl) ?_
          refine lv_if_eq (tgt := 72) hx hb d_Model_cover_63 (by decide) (fun hc_108 => ?_) (fun hc_108 => ?_)
          · have _nhc_108 := hc_108
            have ni_109 := (fa_eq _ _).mp hc_108
            rw [li_0] at ni_109
            have hv_110 : zI x_107 0 0 := zI.eq_l hx_107 zc_0 hc_108
            obtain ⟨v_111, ev_111⟩ : ∃ z : Int32, z = y_80 + 1 := ⟨_, rfl⟩
            obtain ⟨qv_111, hv_111⟩ := zI_add (l := 1) (h := 1048576) hv_97 zc_1 ev_111 (by decide)
            rw [li_1] at qv_111
            refine lv_iinc (v := v_111) (lv' := [(4, .int v_111), (5, .int x_99), (3, .int y_81), (2, .int y_82), (0, .ref b0), (1, .int b1)]) hx hb d_Model_cover_72 hl (k := 1) rfl (by rw [ev_111]; rfl) (by decide) rfl (fun ls hl => ?_)
            refine lv_goto (tgt := 33) hx hb d_Model_cover_75 (by decide) ?_
            exact ihk_79 (v_111) (y_81) (y_82) _ _ _ (zI.wk (l' := 0) (h' := 1048576) hv_111 (by decide)) (zI.wk (l' := (-2147483648)) (h' := 21) hv_105 (by decide)) hy_82 (zm_up qv_111 hmk_79 (by decide)) (hP.sub [0, 1, 2, 3, 4, 5, 6, 7, 14, 13, 8, 9, 10, 11, 15, 16, 12] rfl) (hD.sub [0, 1, 2, 3, 4, 5, 6, 7, 14, 13, 8, 9, 10, 11, 15, 16, 12] (by decide) rfl) hS (lv_sub hl [0, 2, 3, 4, 5] rfl)
          · have _nhc_108 := hc_108
            have ni_112 : ¬ (x_107 : Int32).toInt = (0 : Int32).toInt := fun z => hc_108 ((fa_eq _ _).mpr z)
            simp only [li_0] at ni_112
            have hv_113 : zI x_107 1 1 := zI.ne_lo hx_107 zc_0 hc_108 (by decide)
            refine lv_iload hx hb d_Model_cover_66 (lv_at hl 1 rfl) ?_
            refine lv_istore_n (lv' := [(2, .int y_80), (5, .int x_99), (4, .int y_80), (3, .int y_81), (0, .ref b0), (1, .int b1)]) hx hb d_Model_cover_68 rfl hl (by decide) rfl (fun ls hl => ?_)
            refine lv_iload hx hb d_Model_cover_69 (lv_at hl 1 rfl) ?_
            refine lv_istore_n (lv' := [(3, .int x_99), (2, .int y_80), (5, .int x_99), (4, .int y_80), (0, .ref b0), (1, .int b1)]) hx hb d_Model_cover_71 rfl hl (by decide) rfl (fun ls hl => ?_)
            obtain ⟨v_114, ev_114⟩ : ∃ z : Int32, z = y_80 + 1 := ⟨_, rfl⟩
            obtain ⟨qv_114, hv_114⟩ := zI_add (l := 1) (h := 1048576) hv_97 zc_1 ev_114 (by decide)
            rw [li_1] at qv_114
            refine lv_iinc (v := v_114) (lv' := [(4, .int v_114), (3, .int x_99), (2, .int y_80), (5, .int x_99), (0, .ref b0), (1, .int b1)]) hx hb d_Model_cover_72 hl (k := 3) rfl (by rw [ev_114]; rfl) (by decide) rfl (fun ls hl => ?_)
            refine lv_goto (tgt := 33) hx hb d_Model_cover_75 (by decide) ?_
            exact ihk_79 (v_114) (x_99) (y_80) _ _ _ (zI.wk (l' := 0) (h' := 1048576) hv_114 (by decide)) (zI.wk (l' := (-2147483648)) (h' := 21) hv_104 (by decide)) hv_97 (zm_up qv_114 hmk_79 (by decide)) (hP.sub [0, 1, 2, 3, 4, 5, 6, 7, 14, 13, 8, 9, 10, 11, 15, 16, 12] rfl) (hD.sub [0, 1, 2, 3, 4, 5, 6, 7, 14, 13, 8, 9, 10, 11, 15, 16, 12] (by decide) rfl) hS (lv_sub hl [0, 1, 2, 4, 5] rfl)
