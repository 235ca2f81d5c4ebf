theorem d_Model_cover_0 : decode prog_14_method_57_code 0 = .ok (.aload_n 0, 1) := by decide +kernel
theorem d_Model_cover_1 : decode prog_14_method_57_code 1 = .ok (.iconst 0, 1) := by decide +kernel
theorem d_Model_cover_2 : decode prog_14_method_57_code 2 = .ok (.putfield 1, 3) := by decide +kernel
theorem d_Model_cover_5 : decode prog_14_method_57_code 5 = .ok (.iload_n 1, 1) := by decide +kernel
theorem d_Model_cover_6 : decode prog_14_method_57_code 6 = .ok (.i2l, 1) := by decide +kernel
theorem d_Model_cover_7 : decode prog_14_method_57_code 7 = .ok (.lconst 0, 1) := by decide +kernel
theorem d_Model_cover_8 : decode prog_14_method_57_code 8 = .ok (.lconst 1, 1) := by decide +kernel
theorem d_Model_cover_9 : decode prog_14_method_57_code 9 = .ok (.invokestatic 138, 3) := by decide +kernel
theorem d_Model_cover_12 : decode prog_14_method_57_code 12 = .ok (.ifCond .ne 5, 3) := by decide +kernel
theorem d_Model_cover_15 : decode prog_14_method_57_code 15 = .ok (.iconst (-1), 1) := by decide +kernel
theorem d_Model_cover_16 : decode prog_14_method_57_code 16 = .ok (.ireturn, 1) := by decide +kernel
theorem d_Model_cover_17 : decode prog_14_method_57_code 17 = .ok (.aload_n 0, 1) := by decide +kernel
theorem d_Model_cover_18 : decode prog_14_method_57_code 18 = .ok (.invokevirtual 254, 3) := by decide +kernel
theorem d_Model_cover_21 : decode prog_14_method_57_code 21 = .ok (.aload_n 0, 1) := by decide +kernel
theorem d_Model_cover_22 : decode prog_14_method_57_code 22 = .ok (.invokevirtual 305, 3) := by decide +kernel
theorem d_Model_cover_25 : decode prog_14_method_57_code 25 = .ok (.iconst 0, 1) := by decide +kernel
theorem d_Model_cover_26 : decode prog_14_method_57_code 26 = .ok (.istore_n 2, 1) := by decide +kernel
theorem d_Model_cover_27 : decode prog_14_method_57_code 27 = .ok (.bipush 21, 2) := by decide +kernel
theorem d_Model_cover_29 : decode prog_14_method_57_code 29 = .ok (.istore_n 3, 1) := by decide +kernel
theorem d_Model_cover_30 : decode prog_14_method_57_code 30 = .ok (.iconst 0, 1) := by decide +kernel
theorem d_Model_cover_31 : decode prog_14_method_57_code 31 = .ok (.istore 4, 2) := by decide +kernel
theorem d_Model_cover_33 : decode prog_14_method_57_code 33 = .ok (.iload 4, 2) := by decide +kernel
theorem d_Model_cover_35 : decode prog_14_method_57_code 35 = .ok (.iconst 1, 1) := by decide +kernel
theorem d_Model_cover_36 : decode prog_14_method_57_code 36 = .ok (.aload_n 0, 1) := by decide +kernel
theorem d_Model_cover_37 : decode prog_14_method_57_code 37 = .ok (.invokevirtual 134, 3) := by decide +kernel
theorem d_Model_cover_40 : decode prog_14_method_57_code 40 = .ok (.ishl, 1) := by decide +kernel
theorem d_Model_cover_41 : decode prog_14_method_57_code 41 = .ok (.if_icmp .ge 37, 3) := by decide +kernel
theorem d_Model_cover_44 : decode prog_14_method_57_code 44 = .ok (.iload 4, 2) := by decide +kernel
theorem d_Model_cover_46 : decode prog_14_method_57_code 46 = .ok (.invokestatic 308, 3) := by decide +kernel
theorem d_Model_cover_49 : decode prog_14_method_57_code 49 = .ok (.istore 5, 2) := by decide +kernel
theorem d_Model_cover_51 : decode prog_14_method_57_code 51 = .ok (.iload 5, 2) := by decide +kernel
theorem d_Model_cover_53 : decode prog_14_method_57_code 53 = .ok (.iload_n 3, 1) := by decide +kernel
theorem d_Model_cover_54 : decode prog_14_method_57_code 54 = .ok (.if_icmp .ge 18, 3) := by decide +kernel
theorem d_Model_cover_57 : decode prog_14_method_57_code 57 = .ok (.aload_n 0, 1) := by decide +kernel
theorem d_Model_cover_58 : decode prog_14_method_57_code 58 = .ok (.iload 4, 2) := by decide +kernel
theorem d_Model_cover_60 : decode prog_14_method_57_code 60 = .ok (.invokevirtual 311, 3) := by decide +kernel
theorem d_Model_cover_63 : decode prog_14_method_57_code 63 = .ok (.ifCond .eq 9, 3) := by decide +kernel
theorem d_Model_cover_66 : decode prog_14_method_57_code 66 = .ok (.iload 4, 2) := by decide +kernel
theorem d_Model_cover_68 : decode prog_14_method_57_code 68 = .ok (.istore_n 2, 1) := by decide +kernel
theorem d_Model_cover_69 : decode prog_14_method_57_code 69 = .ok (.iload 5, 2) := by decide +kernel
theorem d_Model_cover_71 : decode prog_14_method_57_code 71 = .ok (.istore_n 3, 1) := by decide +kernel
theorem d_Model_cover_72 : decode prog_14_method_57_code 72 = .ok (.iinc 4 1, 3) := by decide +kernel
theorem d_Model_cover_75 : decode prog_14_method_57_code 75 = .ok (.goto (-42), 3) := by decide +kernel
theorem d_Model_cover_78 : decode prog_14_method_57_code 78 = .ok (.iload_n 1, 1) := by decide +kernel
theorem d_Model_cover_79 : decode prog_14_method_57_code 79 = .ok (.ifCond .ne 7, 3) := by decide +kernel
theorem d_Model_cover_82 : decode prog_14_method_57_code 82 = .ok (.iload_n 3, 1) := by decide +kernel
theorem d_Model_cover_83 : decode prog_14_method_57_code 83 = .ok (.goto 4, 3) := by decide +kernel
theorem d_Model_cover_86 : decode prog_14_method_57_code 86 = .ok (.iload_n 2, 1) := by decide +kernel
theorem d_Model_layGoes_0 : decode prog_14_method_55_code 0 = .ok (.iconst 0, 1) := by decide +kernel
theorem d_Model_layGoes_1 : decode prog_14_method_55_code 1 = .ok (.istore_n 1, 1) := by decide +kernel
theorem d_Model_layGoes_2 : decode prog_14_method_55_code 2 = .ok (.iload_n 1, 1) := by decide +kernel
theorem d_Model_layGoes_3 : decode prog_14_method_55_code 3 = .ok (.bipush 80, 2) := by decide +kernel
theorem d_Model_layGoes_5 : decode prog_14_method_55_code 5 = .ok (.if_icmp .ge 16, 3) := by decide +kernel
theorem d_Model_layGoes_8 : decode prog_14_method_55_code 8 = .ok (.aload_n 0, 1) := by decide +kernel
theorem d_Model_layGoes_9 : decode prog_14_method_55_code 9 = .ok (.getfield 89, 3) := by decide +kernel
theorem d_Model_layGoes_12 : decode prog_14_method_55_code 12 = .ok (.iload_n 1, 1) := by decide +kernel
theorem d_Model_layGoes_13 : decode prog_14_method_55_code 13 = .ok (.lconst 0, 1) := by decide +kernel
theorem d_Model_layGoes_14 : decode prog_14_method_55_code 14 = .ok (.lastore, 1) := by decide +kernel
theorem d_Model_layGoes_15 : decode prog_14_method_55_code 15 = .ok (.iinc 1 1, 3) := by decide +kernel
theorem d_Model_layGoes_18 : decode prog_14_method_55_code 18 = .ok (.goto (-16), 3) := by decide +kernel
theorem d_Model_layGoes_21 : decode prog_14_method_55_code 21 = .ok (.iconst 0, 1) := by decide +kernel
theorem d_Model_layGoes_22 : decode prog_14_method_55_code 22 = .ok (.istore_n 1, 1) := by decide +kernel
theorem d_Model_layGoes_23 : decode prog_14_method_55_code 23 = .ok (.iload_n 1, 1) := by decide +kernel
theorem d_Model_layGoes_24 : decode prog_14_method_55_code 24 = .ok (.aload_n 0, 1) := by decide +kernel
theorem d_Model_layGoes_25 : decode prog_14_method_55_code 25 = .ok (.invokevirtual 134, 3) := by decide +kernel
theorem d_Model_layGoes_28 : decode prog_14_method_55_code 28 = .ok (.if_icmp .ge 76, 3) := by decide +kernel
theorem d_Model_layGoes_31 : decode prog_14_method_55_code 31 = .ok (.iconst 0, 1) := by decide +kernel
theorem d_Model_layGoes_32 : decode prog_14_method_55_code 32 = .ok (.istore_n 2, 1) := by decide +kernel
theorem d_Model_layGoes_33 : decode prog_14_method_55_code 33 = .ok (.iload_n 2, 1) := by decide +kernel
theorem d_Model_layGoes_34 : decode prog_14_method_55_code 34 = .ok (.aload_n 0, 1) := by decide +kernel
theorem d_Model_layGoes_35 : decode prog_14_method_55_code 35 = .ok (.iload_n 1, 1) := by decide +kernel
theorem d_Model_layGoes_36 : decode prog_14_method_55_code 36 = .ok (.invokevirtual 203, 3) := by decide +kernel
theorem d_Model_layGoes_39 : decode prog_14_method_55_code 39 = .ok (.if_icmp .ge 59, 3) := by decide +kernel
theorem d_Model_layGoes_42 : decode prog_14_method_55_code 42 = .ok (.aload_n 0, 1) := by decide +kernel
theorem d_Model_layGoes_43 : decode prog_14_method_55_code 43 = .ok (.iconst 0, 1) := by decide +kernel
theorem d_Model_layGoes_44 : decode prog_14_method_55_code 44 = .ok (.aload_n 0, 1) := by decide +kernel
theorem d_Model_layGoes_45 : decode prog_14_method_55_code 45 = .ok (.iconst 0, 1) := by decide +kernel
theorem d_Model_layGoes_46 : decode prog_14_method_55_code 46 = .ok (.iload_n 1, 1) := by decide +kernel
theorem d_Model_layGoes_47 : decode prog_14_method_55_code 47 = .ok (.iload_n 2, 1) := by decide +kernel
theorem d_Model_layGoes_48 : decode prog_14_method_55_code 48 = .ok (.invokevirtual 231, 3) := by decide +kernel
theorem d_Model_layGoes_51 : decode prog_14_method_55_code 51 = .ok (.aload_n 0, 1) := by decide +kernel
theorem d_Model_layGoes_52 : decode prog_14_method_55_code 52 = .ok (.iload_n 1, 1) := by decide +kernel
theorem d_Model_layGoes_53 : decode prog_14_method_55_code 53 = .ok (.iload_n 2, 1) := by decide +kernel
theorem d_Model_layGoes_54 : decode prog_14_method_55_code 54 = .ok (.invokevirtual 207, 3) := by decide +kernel
theorem d_Model_layGoes_57 : decode prog_14_method_55_code 57 = .ok (.aload_n 0, 1) := by decide +kernel
theorem d_Model_layGoes_58 : decode prog_14_method_55_code 58 = .ok (.iconst 0, 1) := by decide +kernel
theorem d_Model_layGoes_59 : decode prog_14_method_55_code 59 = .ok (.iload_n 1, 1) := by decide +kernel
theorem d_Model_layGoes_60 : decode prog_14_method_55_code 60 = .ok (.iload_n 2, 1) := by decide +kernel
theorem d_Model_layGoes_61 : decode prog_14_method_55_code 61 = .ok (.iconst 1, 1) := by decide +kernel
theorem d_Model_layGoes_62 : decode prog_14_method_55_code 62 = .ok (.iadd, 1) := by decide +kernel
theorem d_Model_layGoes_63 : decode prog_14_method_55_code 63 = .ok (.invokevirtual 231, 3) := by decide +kernel
theorem d_Model_layGoes_66 : decode prog_14_method_55_code 66 = .ok (.invokevirtual 234, 3) := by decide +kernel
theorem d_Model_layGoes_69 : decode prog_14_method_55_code 69 = .ok (.istore_n 3, 1) := by decide +kernel
theorem d_Model_layGoes_70 : decode prog_14_method_55_code 70 = .ok (.aload_n 0, 1) := by decide +kernel
theorem d_Model_layGoes_71 : decode prog_14_method_55_code 71 = .ok (.getfield 89, 3) := by decide +kernel
theorem d_Model_layGoes_74 : decode prog_14_method_55_code 74 = .ok (.iconst 4, 1) := by decide +kernel
theorem d_Model_layGoes_75 : decode prog_14_method_55_code 75 = .ok (.iload_n 1, 1) := by decide +kernel
theorem d_Model_layGoes_76 : decode prog_14_method_55_code 76 = .ok (.imul, 1) := by decide +kernel
theorem d_Model_layGoes_77 : decode prog_14_method_55_code 77 = .ok (.iload_n 3, 1) := by decide +kernel
theorem d_Model_layGoes_78 : decode prog_14_method_55_code 78 = .ok (.bipush 64, 2) := by decide +kernel
theorem d_Model_layGoes_80 : decode prog_14_method_55_code 80 = .ok (.idiv, 1) := by decide +kernel
theorem d_Model_layGoes_81 : decode prog_14_method_55_code 81 = .ok (.iadd, 1) := by decide +kernel
theorem d_Model_layGoes_82 : decode prog_14_method_55_code 82 = .ok (.dup2, 1) := by decide +kernel
theorem d_Model_layGoes_83 : decode prog_14_method_55_code 83 = .ok (.laload, 1) := by decide +kernel
theorem d_Model_layGoes_84 : decode prog_14_method_55_code 84 = .ok (.lconst 1, 1) := by decide +kernel
theorem d_Model_layGoes_85 : decode prog_14_method_55_code 85 = .ok (.iload_n 3, 1) := by decide +kernel
theorem d_Model_layGoes_86 : decode prog_14_method_55_code 86 = .ok (.bipush 64, 2) := by decide +kernel
theorem d_Model_layGoes_88 : decode prog_14_method_55_code 88 = .ok (.irem, 1) := by decide +kernel
theorem d_Model_layGoes_89 : decode prog_14_method_55_code 89 = .ok (.lshl, 1) := by decide +kernel
theorem d_Model_layGoes_90 : decode prog_14_method_55_code 90 = .ok (.lor, 1) := by decide +kernel
theorem d_Model_layGoes_91 : decode prog_14_method_55_code 91 = .ok (.lastore, 1) := by decide +kernel
theorem d_Model_layGoes_92 : decode prog_14_method_55_code 92 = .ok (.iinc 2 1, 3) := by decide +kernel
theorem d_Model_layGoes_95 : decode prog_14_method_55_code 95 = .ok (.goto (-62), 3) := by decide +kernel
theorem d_Model_layGoes_98 : decode prog_14_method_55_code 98 = .ok (.iinc 1 1, 3) := by decide +kernel
theorem d_Model_layGoes_101 : decode prog_14_method_55_code 101 = .ok (.goto (-78), 3) := by decide +kernel
theorem d_Model_layGoes_104 : decode prog_14_method_55_code 104 = .ok (.iconst 0, 1) := by decide +kernel
theorem d_Model_layGoes_105 : decode prog_14_method_55_code 105 = .ok (.istore_n 1, 1) := by decide +kernel
theorem d_Model_layGoes_106 : decode prog_14_method_55_code 106 = .ok (.iload_n 1, 1) := by decide +kernel
theorem d_Model_layGoes_107 : decode prog_14_method_55_code 107 = .ok (.sipush 4096, 3) := by decide +kernel
theorem d_Model_layGoes_110 : decode prog_14_method_55_code 110 = .ok (.if_icmp .ge 23, 3) := by decide +kernel
theorem d_Model_layGoes_113 : decode prog_14_method_55_code 113 = .ok (.aload_n 0, 1) := by decide +kernel
theorem d_Model_layGoes_114 : decode prog_14_method_55_code 114 = .ok (.getfield 83, 3) := by decide +kernel
theorem d_Model_layGoes_117 : decode prog_14_method_55_code 117 = .ok (.iload_n 1, 1) := by decide +kernel
theorem d_Model_layGoes_118 : decode prog_14_method_55_code 118 = .ok (.lconst 0, 1) := by decide +kernel
theorem d_Model_layGoes_119 : decode prog_14_method_55_code 119 = .ok (.lastore, 1) := by decide +kernel
theorem d_Model_layGoes_120 : decode prog_14_method_55_code 120 = .ok (.aload_n 0, 1) := by decide +kernel
theorem d_Model_layGoes_121 : decode prog_14_method_55_code 121 = .ok (.getfield 86, 3) := by decide +kernel
theorem d_Model_layGoes_124 : decode prog_14_method_55_code 124 = .ok (.iload_n 1, 1) := by decide +kernel
theorem d_Model_layGoes_125 : decode prog_14_method_55_code 125 = .ok (.lconst 0, 1) := by decide +kernel
theorem d_Model_layGoes_126 : decode prog_14_method_55_code 126 = .ok (.lastore, 1) := by decide +kernel
theorem d_Model_layGoes_127 : decode prog_14_method_55_code 127 = .ok (.iinc 1 1, 3) := by decide +kernel
theorem d_Model_layGoes_130 : decode prog_14_method_55_code 130 = .ok (.goto (-24), 3) := by decide +kernel
theorem d_Model_layGoes_133 : decode prog_14_method_55_code 133 = .ok (.iconst 1, 1) := by decide +kernel
theorem d_Model_layGoes_134 : decode prog_14_method_55_code 134 = .ok (.istore_n 1, 1) := by decide +kernel
theorem d_Model_layGoes_135 : decode prog_14_method_55_code 135 = .ok (.iload_n 1, 1) := by decide +kernel
theorem d_Model_layGoes_136 : decode prog_14_method_55_code 136 = .ok (.sipush 1024, 3) := by decide +kernel
theorem d_Model_layGoes_139 : decode prog_14_method_55_code 139 = .ok (.if_icmp .ge 117, 3) := by decide +kernel
theorem d_Model_layGoes_142 : decode prog_14_method_55_code 142 = .ok (.iconst 0, 1) := by decide +kernel
theorem d_Model_layGoes_143 : decode prog_14_method_55_code 143 = .ok (.istore_n 2, 1) := by decide +kernel
theorem d_Model_layGoes_144 : decode prog_14_method_55_code 144 = .ok (.iload_n 1, 1) := by decide +kernel
theorem d_Model_layGoes_145 : decode prog_14_method_55_code 145 = .ok (.iload_n 2, 1) := by decide +kernel
theorem d_Model_layGoes_146 : decode prog_14_method_55_code 146 = .ok (.ishr, 1) := by decide +kernel
theorem d_Model_layGoes_147 : decode prog_14_method_55_code 147 = .ok (.iconst 1, 1) := by decide +kernel
theorem d_Model_layGoes_148 : decode prog_14_method_55_code 148 = .ok (.iand, 1) := by decide +kernel
theorem d_Model_layGoes_149 : decode prog_14_method_55_code 149 = .ok (.ifCond .ne 9, 3) := by decide +kernel
theorem d_Model_layGoes_152 : decode prog_14_method_55_code 152 = .ok (.iinc 2 1, 3) := by decide +kernel
theorem d_Model_layGoes_155 : decode prog_14_method_55_code 155 = .ok (.goto (-11), 3) := by decide +kernel
theorem d_Model_layGoes_158 : decode prog_14_method_55_code 158 = .ok (.iload_n 1, 1) := by decide +kernel
theorem d_Model_layGoes_159 : decode prog_14_method_55_code 159 = .ok (.iload_n 1, 1) := by decide +kernel
theorem d_Model_layGoes_160 : decode prog_14_method_55_code 160 = .ok (.iconst 1, 1) := by decide +kernel
theorem d_Model_layGoes_161 : decode prog_14_method_55_code 161 = .ok (.isub, 1) := by decide +kernel
theorem d_Model_layGoes_162 : decode prog_14_method_55_code 162 = .ok (.iand, 1) := by decide +kernel
theorem d_Model_layGoes_163 : decode prog_14_method_55_code 163 = .ok (.istore_n 3, 1) := by decide +kernel
theorem d_Model_layGoes_164 : decode prog_14_method_55_code 164 = .ok (.iconst 0, 1) := by decide +kernel
theorem d_Model_layGoes_165 : decode prog_14_method_55_code 165 = .ok (.istore 4, 2) := by decide +kernel
theorem d_Model_layGoes_167 : decode prog_14_method_55_code 167 = .ok (.iload 4, 2) := by decide +kernel
theorem d_Model_layGoes_169 : decode prog_14_method_55_code 169 = .ok (.iconst 4, 1) := by decide +kernel
theorem d_Model_layGoes_170 : decode prog_14_method_55_code 170 = .ok (.if_icmp .ge 80, 3) := by decide +kernel
theorem d_Model_layGoes_173 : decode prog_14_method_55_code 173 = .ok (.aload_n 0, 1) := by decide +kernel
theorem d_Model_layGoes_174 : decode prog_14_method_55_code 174 = .ok (.getfield 83, 3) := by decide +kernel
theorem d_Model_layGoes_177 : decode prog_14_method_55_code 177 = .ok (.iconst 4, 1) := by decide +kernel
theorem d_Model_layGoes_178 : decode prog_14_method_55_code 178 = .ok (.iload_n 1, 1) := by decide +kernel
theorem d_Model_layGoes_179 : decode prog_14_method_55_code 179 = .ok (.imul, 1) := by decide +kernel
theorem d_Model_layGoes_180 : decode prog_14_method_55_code 180 = .ok (.iload 4, 2) := by decide +kernel
theorem d_Model_layGoes_182 : decode prog_14_method_55_code 182 = .ok (.iadd, 1) := by decide +kernel
theorem d_Model_layGoes_183 : decode prog_14_method_55_code 183 = .ok (.aload_n 0, 1) := by decide +kernel
theorem d_Model_layGoes_184 : decode prog_14_method_55_code 184 = .ok (.getfield 83, 3) := by decide +kernel
theorem d_Model_layGoes_187 : decode prog_14_method_55_code 187 = .ok (.iconst 4, 1) := by decide +kernel
theorem d_Model_layGoes_188 : decode prog_14_method_55_code 188 = .ok (.iload_n 3, 1) := by decide +kernel
theorem d_Model_layGoes_189 : decode prog_14_method_55_code 189 = .ok (.imul, 1) := by decide +kernel
theorem d_Model_layGoes_190 : decode prog_14_method_55_code 190 = .ok (.iload 4, 2) := by decide +kernel
theorem d_Model_layGoes_192 : decode prog_14_method_55_code 192 = .ok (.iadd, 1) := by decide +kernel
theorem d_Model_layGoes_193 : decode prog_14_method_55_code 193 = .ok (.laload, 1) := by decide +kernel
theorem d_Model_layGoes_194 : decode prog_14_method_55_code 194 = .ok (.aload_n 0, 1) := by decide +kernel
theorem d_Model_layGoes_195 : decode prog_14_method_55_code 195 = .ok (.getfield 89, 3) := by decide +kernel
theorem d_Model_layGoes_198 : decode prog_14_method_55_code 198 = .ok (.iconst 4, 1) := by decide +kernel
theorem d_Model_layGoes_199 : decode prog_14_method_55_code 199 = .ok (.iload_n 2, 1) := by decide +kernel
theorem d_Model_layGoes_200 : decode prog_14_method_55_code 200 = .ok (.imul, 1) := by decide +kernel
theorem d_Model_layGoes_201 : decode prog_14_method_55_code 201 = .ok (.iload 4, 2) := by decide +kernel
theorem d_Model_layGoes_203 : decode prog_14_method_55_code 203 = .ok (.iadd, 1) := by decide +kernel
theorem d_Model_layGoes_204 : decode prog_14_method_55_code 204 = .ok (.laload, 1) := by decide +kernel
theorem d_Model_layGoes_205 : decode prog_14_method_55_code 205 = .ok (.lor, 1) := by decide +kernel
theorem d_Model_layGoes_206 : decode prog_14_method_55_code 206 = .ok (.lastore, 1) := by decide +kernel
theorem d_Model_layGoes_207 : decode prog_14_method_55_code 207 = .ok (.aload_n 0, 1) := by decide +kernel
theorem d_Model_layGoes_208 : decode prog_14_method_55_code 208 = .ok (.getfield 86, 3) := by decide +kernel
theorem d_Model_layGoes_211 : decode prog_14_method_55_code 211 = .ok (.iconst 4, 1) := by decide +kernel
theorem d_Model_layGoes_212 : decode prog_14_method_55_code 212 = .ok (.iload_n 1, 1) := by decide +kernel
theorem d_Model_layGoes_213 : decode prog_14_method_55_code 213 = .ok (.imul, 1) := by decide +kernel
theorem d_Model_layGoes_214 : decode prog_14_method_55_code 214 = .ok (.iload 4, 2) := by decide +kernel
theorem d_Model_layGoes_216 : decode prog_14_method_55_code 216 = .ok (.iadd, 1) := by decide +kernel
theorem d_Model_layGoes_217 : decode prog_14_method_55_code 217 = .ok (.aload_n 0, 1) := by decide +kernel
theorem d_Model_layGoes_218 : decode prog_14_method_55_code 218 = .ok (.getfield 86, 3) := by decide +kernel
theorem d_Model_layGoes_221 : decode prog_14_method_55_code 221 = .ok (.iconst 4, 1) := by decide +kernel
theorem d_Model_layGoes_222 : decode prog_14_method_55_code 222 = .ok (.iload_n 3, 1) := by decide +kernel
theorem d_Model_layGoes_223 : decode prog_14_method_55_code 223 = .ok (.imul, 1) := by decide +kernel
theorem d_Model_layGoes_224 : decode prog_14_method_55_code 224 = .ok (.iload 4, 2) := by decide +kernel
theorem d_Model_layGoes_226 : decode prog_14_method_55_code 226 = .ok (.iadd, 1) := by decide +kernel
theorem d_Model_layGoes_227 : decode prog_14_method_55_code 227 = .ok (.laload, 1) := by decide +kernel
theorem d_Model_layGoes_228 : decode prog_14_method_55_code 228 = .ok (.aload_n 0, 1) := by decide +kernel
theorem d_Model_layGoes_229 : decode prog_14_method_55_code 229 = .ok (.getfield 89, 3) := by decide +kernel
theorem d_Model_layGoes_232 : decode prog_14_method_55_code 232 = .ok (.iconst 4, 1) := by decide +kernel
theorem d_Model_layGoes_233 : decode prog_14_method_55_code 233 = .ok (.iload_n 2, 1) := by decide +kernel
theorem d_Model_layGoes_234 : decode prog_14_method_55_code 234 = .ok (.bipush 10, 2) := by decide +kernel
theorem d_Model_layGoes_236 : decode prog_14_method_55_code 236 = .ok (.iadd, 1) := by decide +kernel
theorem d_Model_layGoes_237 : decode prog_14_method_55_code 237 = .ok (.imul, 1) := by decide +kernel
theorem d_Model_layGoes_238 : decode prog_14_method_55_code 238 = .ok (.iload 4, 2) := by decide +kernel
theorem d_Model_layGoes_240 : decode prog_14_method_55_code 240 = .ok (.iadd, 1) := by decide +kernel
theorem d_Model_layGoes_241 : decode prog_14_method_55_code 241 = .ok (.laload, 1) := by decide +kernel
theorem d_Model_layGoes_242 : decode prog_14_method_55_code 242 = .ok (.lor, 1) := by decide +kernel
theorem d_Model_layGoes_243 : decode prog_14_method_55_code 243 = .ok (.lastore, 1) := by decide +kernel
theorem d_Model_layGoes_244 : decode prog_14_method_55_code 244 = .ok (.iinc 4 1, 3) := by decide +kernel
theorem d_Model_layGoes_247 : decode prog_14_method_55_code 247 = .ok (.goto (-80), 3) := by decide +kernel
theorem d_Model_layGoes_250 : decode prog_14_method_55_code 250 = .ok (.iinc 1 1, 3) := by decide +kernel
theorem d_Model_layGoes_253 : decode prog_14_method_55_code 253 = .ok (.goto (-118), 3) := by decide +kernel
theorem d_Model_layGoes_256 : decode prog_14_method_55_code 256 = .ok (.return_, 1) := by decide +kernel
theorem d_Model_ones_0 : decode prog_14_method_54_code 0 = .ok (.iconst 0, 1) := by decide +kernel
theorem d_Model_ones_1 : decode prog_14_method_54_code 1 = .ok (.istore_n 1, 1) := by decide +kernel
theorem d_Model_ones_2 : decode prog_14_method_54_code 2 = .ok (.iload_n 0, 1) := by decide +kernel
theorem d_Model_ones_3 : decode prog_14_method_54_code 3 = .ok (.istore_n 2, 1) := by decide +kernel
theorem d_Model_ones_4 : decode prog_14_method_54_code 4 = .ok (.iload_n 2, 1) := by decide +kernel
theorem d_Model_ones_5 : decode prog_14_method_54_code 5 = .ok (.ifCond .eq 15, 3) := by decide +kernel
theorem d_Model_ones_8 : decode prog_14_method_54_code 8 = .ok (.iinc 1 1, 3) := by decide +kernel
theorem d_Model_ones_11 : decode prog_14_method_54_code 11 = .ok (.iload_n 2, 1) := by decide +kernel
theorem d_Model_ones_12 : decode prog_14_method_54_code 12 = .ok (.iload_n 2, 1) := by decide +kernel
theorem d_Model_ones_13 : decode prog_14_method_54_code 13 = .ok (.iconst 1, 1) := by decide +kernel
theorem d_Model_ones_14 : decode prog_14_method_54_code 14 = .ok (.isub, 1) := by decide +kernel
theorem d_Model_ones_15 : decode prog_14_method_54_code 15 = .ok (.iand, 1) := by decide +kernel
theorem d_Model_ones_16 : decode prog_14_method_54_code 16 = .ok (.istore_n 2, 1) := by decide +kernel
theorem d_Model_ones_17 : decode prog_14_method_54_code 17 = .ok (.goto (-13), 3) := by decide +kernel
theorem d_Model_ones_20 : decode prog_14_method_54_code 20 = .ok (.iload_n 1, 1) := by decide +kernel
theorem d_Model_coversAll_0 : decode prog_14_method_56_code 0 = .ok (.iconst 4, 1) := by decide +kernel
theorem d_Model_coversAll_1 : decode prog_14_method_56_code 1 = .ok (.iload_n 1, 1) := by decide +kernel
theorem d_Model_coversAll_2 : decode prog_14_method_56_code 2 = .ok (.sipush 1023, 3) := by decide +kernel
theorem d_Model_coversAll_5 : decode prog_14_method_56_code 5 = .ok (.iand, 1) := by decide +kernel
theorem d_Model_coversAll_6 : decode prog_14_method_56_code 6 = .ok (.imul, 1) := by decide +kernel
theorem d_Model_coversAll_7 : decode prog_14_method_56_code 7 = .ok (.istore_n 2, 1) := by decide +kernel
theorem d_Model_coversAll_8 : decode prog_14_method_56_code 8 = .ok (.iconst 4, 1) := by decide +kernel
theorem d_Model_coversAll_9 : decode prog_14_method_56_code 9 = .ok (.iload_n 1, 1) := by decide +kernel
theorem d_Model_coversAll_10 : decode prog_14_method_56_code 10 = .ok (.bipush 10, 2) := by decide +kernel
theorem d_Model_coversAll_12 : decode prog_14_method_56_code 12 = .ok (.ishr, 1) := by decide +kernel
theorem d_Model_coversAll_13 : decode prog_14_method_56_code 13 = .ok (.imul, 1) := by decide +kernel
theorem d_Model_coversAll_14 : decode prog_14_method_56_code 14 = .ok (.istore_n 3, 1) := by decide +kernel
theorem d_Model_coversAll_15 : decode prog_14_method_56_code 15 = .ok (.iconst 1, 1) := by decide +kernel
theorem d_Model_coversAll_16 : decode prog_14_method_56_code 16 = .ok (.istore 4, 2) := by decide +kernel
theorem d_Model_coversAll_18 : decode prog_14_method_56_code 18 = .ok (.iconst 0, 1) := by decide +kernel
theorem d_Model_coversAll_19 : decode prog_14_method_56_code 19 = .ok (.istore 5, 2) := by decide +kernel
theorem d_Model_coversAll_21 : decode prog_14_method_56_code 21 = .ok (.iload 5, 2) := by decide +kernel
theorem d_Model_coversAll_23 : decode prog_14_method_56_code 23 = .ok (.iconst 4, 1) := by decide +kernel
theorem d_Model_coversAll_24 : decode prog_14_method_56_code 24 = .ok (.if_icmp .ge 67, 3) := by decide +kernel
theorem d_Model_coversAll_27 : decode prog_14_method_56_code 27 = .ok (.iload 4, 2) := by decide +kernel
theorem d_Model_coversAll_29 : decode prog_14_method_56_code 29 = .ok (.ifCond .eq 53, 3) := by decide +kernel
theorem d_Model_coversAll_32 : decode prog_14_method_56_code 32 = .ok (.aload_n 0, 1) := by decide +kernel
theorem d_Model_coversAll_33 : decode prog_14_method_56_code 33 = .ok (.getfield 83, 3) := by decide +kernel
theorem d_Model_coversAll_36 : decode prog_14_method_56_code 36 = .ok (.iload_n 2, 1) := by decide +kernel
theorem d_Model_coversAll_37 : decode prog_14_method_56_code 37 = .ok (.iload 5, 2) := by decide +kernel
theorem d_Model_coversAll_39 : decode prog_14_method_56_code 39 = .ok (.iadd, 1) := by decide +kernel
theorem d_Model_coversAll_40 : decode prog_14_method_56_code 40 = .ok (.laload, 1) := by decide +kernel
theorem d_Model_coversAll_41 : decode prog_14_method_56_code 41 = .ok (.aload_n 0, 1) := by decide +kernel
theorem d_Model_coversAll_42 : decode prog_14_method_56_code 42 = .ok (.getfield 86, 3) := by decide +kernel
theorem d_Model_coversAll_45 : decode prog_14_method_56_code 45 = .ok (.iload_n 3, 1) := by decide +kernel
theorem d_Model_coversAll_46 : decode prog_14_method_56_code 46 = .ok (.iload 5, 2) := by decide +kernel
theorem d_Model_coversAll_48 : decode prog_14_method_56_code 48 = .ok (.iadd, 1) := by decide +kernel
theorem d_Model_coversAll_49 : decode prog_14_method_56_code 49 = .ok (.laload, 1) := by decide +kernel
theorem d_Model_coversAll_50 : decode prog_14_method_56_code 50 = .ok (.lor, 1) := by decide +kernel
theorem d_Model_coversAll_51 : decode prog_14_method_56_code 51 = .ok (.aload_n 0, 1) := by decide +kernel
theorem d_Model_coversAll_52 : decode prog_14_method_56_code 52 = .ok (.getfield 83, 3) := by decide +kernel
theorem d_Model_coversAll_55 : decode prog_14_method_56_code 55 = .ok (.sipush 4092, 3) := by decide +kernel
theorem d_Model_coversAll_58 : decode prog_14_method_56_code 58 = .ok (.iload 5, 2) := by decide +kernel
theorem d_Model_coversAll_60 : decode prog_14_method_56_code 60 = .ok (.iadd, 1) := by decide +kernel
theorem d_Model_coversAll_61 : decode prog_14_method_56_code 61 = .ok (.laload, 1) := by decide +kernel
theorem d_Model_coversAll_62 : decode prog_14_method_56_code 62 = .ok (.aload_n 0, 1) := by decide +kernel
theorem d_Model_coversAll_63 : decode prog_14_method_56_code 63 = .ok (.getfield 86, 3) := by decide +kernel
theorem d_Model_coversAll_66 : decode prog_14_method_56_code 66 = .ok (.sipush 4092, 3) := by decide +kernel
theorem d_Model_coversAll_69 : decode prog_14_method_56_code 69 = .ok (.iload 5, 2) := by decide +kernel
theorem d_Model_coversAll_71 : decode prog_14_method_56_code 71 = .ok (.iadd, 1) := by decide +kernel
theorem d_Model_coversAll_72 : decode prog_14_method_56_code 72 = .ok (.laload, 1) := by decide +kernel
theorem d_Model_coversAll_73 : decode prog_14_method_56_code 73 = .ok (.lor, 1) := by decide +kernel
theorem d_Model_coversAll_74 : decode prog_14_method_56_code 74 = .ok (.lcmp, 1) := by decide +kernel
theorem d_Model_coversAll_75 : decode prog_14_method_56_code 75 = .ok (.ifCond .ne 7, 3) := by decide +kernel
theorem d_Model_coversAll_78 : decode prog_14_method_56_code 78 = .ok (.iconst 1, 1) := by decide +kernel
theorem d_Model_coversAll_79 : decode prog_14_method_56_code 79 = .ok (.goto 4, 3) := by decide +kernel
theorem d_Model_coversAll_82 : decode prog_14_method_56_code 82 = .ok (.iconst 0, 1) := by decide +kernel
theorem d_Model_coversAll_83 : decode prog_14_method_56_code 83 = .ok (.istore 4, 2) := by decide +kernel
theorem d_Model_coversAll_85 : decode prog_14_method_56_code 85 = .ok (.iinc 5 1, 3) := by decide +kernel
theorem d_Model_coversAll_88 : decode prog_14_method_56_code 88 = .ok (.goto (-67), 3) := by decide +kernel
theorem d_Model_coversAll_91 : decode prog_14_method_56_code 91 = .ok (.iload 4, 2) := by decide +kernel
theorem zc_80 : zI 80 80 80 := ⟨by decide +kernel, by decide +kernel⟩
theorem li_80 : (80 : Int32).toInt = 80 := by decide +kernel
theorem zc_4096 : zI 4096 4096 4096 := ⟨by decide +kernel, by decide +kernel⟩
theorem li_4096 : (4096 : Int32).toInt = 4096 := by decide +kernel
theorem zc_40 : zI 40 40 40 := ⟨by decide +kernel, by decide +kernel⟩
theorem li_40 : (40 : Int32).toInt = 40 := by decide +kernel
theorem zc_4092 : zI 4092 4092 4092 := ⟨by decide +kernel, by decide +kernel⟩
theorem li_4092 : (4092 : Int32).toInt = 4092 := by decide +kernel
abbrev m_s2_Model_layGoes : Room := { frames := 2, cells := 0, slots := 0, locals := 50 }
set_option maxHeartbeats 4000000 in
set_option maxRecDepth 100000 in
theorem s2_Model_layGoes (l : Launch) (G : zG) (b0 : Nat) (b1 : Int32) (b2 : Nat) (b3 : Nat) (b4 : Nat) (b5 : Nat) (b6 : Int32) (b7 : Nat) (b8 : Int32) (b9 : Int32) (b10 : Int32) (b11 : Int32) (b12 : Nat) (b13 : Nat) (b14 : Nat) (b15 : Int32) (b16 : Nat) (b17 : Nat) (b18 : Nat) (b19 : Nat) (b20 : Nat) (b21 : Nat) (b22 : Nat) (b23 : Nat) (b24 : Nat) (b25 : Nat) (b26 : Nat) (b27 : Nat) (b28 : Int32) (b29 : Nat) (b30 : Nat) (b31 : Int32) (b32 : Int32) (b33 : Int32) (b34 : Int32) (b35 : Nat) (b36 : Nat) (b37 : Nat) (b38 : Nat) (b39 : Nat) (b40 : Nat) (b41 : Nat) (b42 : Int32) (b43 : Nat) (b44 : Nat) (b45 : Int32) (b46 : Nat) (b47 : Nat) (b48 : Nat) (b49 : Nat) (b50 : Nat) (b51 : Int32) (b52 : Nat) (b53 : Nat) (b54 : Nat) (b55 : Nat → Int32) (b56 : Nat → Int32) (b57 : Nat → Int32) (b58 : Nat → Int32) (b59 : Nat → Int32) (b60 : Nat → Int64) (b61 : Nat → Int64) (b62 : Nat → Int64) (hb6 : zI b6 0 8) (hb8 : zI b8 0 240) (hb9 : zI b9 0 240) (hb11 : zI b11 0 1) (hb15 : zI b15 0 12) (hb28 : zI b28 0 1) (hb31 : zI b31 0 1) (hb42 : zI b42 0 1000) (hb45 : zI b45 0 1000) (hb51 : zI b51 0 400) (hb55 : zW5 b55) (hb56 : zqa qP b56) (hb57 : zR b57 0 240) (hb58 : zR b58 0 240) (hb59 : zqa qE b59) : zM l G y_Model_layGoes prog_14_method_55_code 5 (Option.none : Option Jvm.ClassFile.FieldType) m_s2_Model_layGoes [.ref b0] [(b0, .inr (12, [.int b1, .ref b2, .ref b3, .ref b4, .ref b5, .int b6, .ref b7, .int b8, .int b9, .int b10, .int b11, .ref b12, .ref b13, .ref b14, .int b15, .ref b16, .ref b17, .ref b18, .ref b19, .ref b20, .ref b21, .ref b22, .ref b23, .ref b24, .ref b25, .ref b26, .ref b27, .int b28, .ref b29, .ref b30, .int b31, .int b32, .int b33, .int b34, .ref b35, .ref b36, .ref b37, .ref b38, .ref b39, .ref b40, .ref b41, .int b42, .ref b43, .ref b44, .int b45, .ref b46, .ref b47, .ref b48, .ref b49, .ref b50, .int b51, .ref b52, .ref b53, .ref b54])), (b2, .inl (G.2 0, 503, .inl b55)), (b18, .inl (G.2 0, 520, .inl b56)), (b21, .inl (G.2 0, 482, .inl b57)), (b26, .inl (G.2 0, 2, .inl b58)), (b27, .inl (G.2 0, 2880, .inl b59)), (b35, .inl (G.2 1, 4096, .inr (.inl b60))), (b36, .inl (G.2 1, 4096, .inr (.inl b61))), (b37, .inl (G.2 1, 80, .inr (.inl b62)))] (fun v w => ∃ (e0 : Int32), ∃ (e1 : Nat → Int64), ∃ (e2 : Nat → Int64), ∃ (e3 : Nat → Int64), v = none ∧ w = [(b0, .inr (12, [.int b1, .ref b2, .ref b3, .ref b4, .ref b5, .int b6, .ref b7, .int b8, .int b9, .int b10, .int b11, .ref b12, .ref b13, .ref b14, .int b15, .ref b16, .ref b17, .ref b18, .ref b19, .ref b20, .ref b21, .ref b22, .ref b23, .ref b24, .ref b25, .ref b26, .ref b27, .int e0, .ref b29, .ref b30, .int b31, .int b32, .int b33, .int b34, .ref b35, .ref b36, .ref b37, .ref b38, .ref b39, .ref b40, .ref b41, .int b42, .ref b43, .ref b44, .int b45, .ref b46, .ref b47, .ref b48, .ref b49, .ref b50, .int b51, .ref b52, .ref b53, .ref b54])), (b2, .inl (G.2 0, 503, .inl b55)), (b18, .inl (G.2 0, 520, .inl b56)), (b21, .inl (G.2 0, 482, .inl b57)), (b26, .inl (G.2 0, 2, .inl b58)), (b27, .inl (G.2 0, 2880, .inl b59)), (b35, .inl (G.2 1, 4096, .inr (.inl e1))), (b36, .inl (G.2 1, 4096, .inr (.inl e2))), (b37, .inl (G.2 1, 80, .inr (.inl e3)))] ∧ (zI e0 0 1)) := by
  refine z_start (by decide +kernel) (Nat.le_of_ble_eq_true rfl) ?_
  intro p e s m below meth c A Z hr hnm hA hP hD hS ls hl
  have Z : zC p s m _ meth c prog_14_method_55_code 5 "TraceMachinesModel" G := Z
  obtain ⟨hx, hb, hml, hown, hts, hK, hN, hlocks⟩ := id Z
  have hl : lv_has ls 5 [(0, .ref b0)] := hl
  refine lv_iconst (v := 0) hx hb d_Model_layGoes_0 (by decide) ?_
  refine lv_istore_n (lv' := [(1, .int 0), (0, .ref b0)]) hx hb d_Model_layGoes_1 rfl hl (by decide) rfl (fun ls hl => ?_)
  suffices key : ∀ (k_1480 : Nat) (y_1481 : Int32) (y_1482 : Nat → Int64) (H : Heap) (locs : List Loc) (ls : Array Slot), (zI y_1481 0 80) → (80 : Int) - y_1481.toInt < (k_1480 : Int) → va_P G.1 classes [(b0, .inr (12, [.int b1, .ref b2, .ref b3, .ref b4, .ref b5, .int b6, .ref b7, .int b8, .int b9, .int b10, .int b11, .ref b12, .ref b13, .ref b14, .int b15, .ref b16, .ref b17, .ref b18, .ref b19, .ref b20, .ref b21, .ref b22, .ref b23, .ref b24, .ref b25, .ref b26, .ref b27, .int b28, .ref b29, .ref b30, .int b31, .int b32, .int b33, .int b34, .ref b35, .ref b36, .ref b37, .ref b38, .ref b39, .ref b40, .ref b41, .int b42, .ref b43, .ref b44, .int b45, .ref b46, .ref b47, .ref b48, .ref b49, .ref b50, .int b51, .ref b52, .ref b53, .ref b54])), (b2, .inl (G.2 0, 503, .inl b55)), (b18, .inl (G.2 0, 520, .inl b56)), (b21, .inl (G.2 0, 482, .inl b57)), (b26, .inl (G.2 0, 2, .inl b58)), (b27, .inl (G.2 0, 2880, .inl b59)), (b35, .inl (G.2 1, 4096, .inr (.inl b60))), (b36, .inl (G.2 1, 4096, .inr (.inl b61))), (b37, .inl (G.2 1, 80, .inr (.inl y_1482)))] H → va_D A [(b0, .inr (12, [.int b1, .ref b2, .ref b3, .ref b4, .ref b5, .int b6, .ref b7, .int b8, .int b9, .int b10, .int b11, .ref b12, .ref b13, .ref b14, .int b15, .ref b16, .ref b17, .ref b18, .ref b19, .ref b20, .ref b21, .ref b22, .ref b23, .ref b24, .ref b25, .ref b26, .ref b27, .int b28, .ref b29, .ref b30, .int b31, .int b32, .int b33, .int b34, .ref b35, .ref b36, .ref b37, .ref b38, .ref b39, .ref b40, .ref b41, .int b42, .ref b43, .ref b44, .int b45, .ref b46, .ref b47, .ref b48, .ref b49, .ref b50, .int b51, .ref b52, .ref b53, .ref b54])), (b2, .inl (G.2 0, 503, .inl b55)), (b18, .inl (G.2 0, 520, .inl b56)), (b21, .inl (G.2 0, 482, .inl b57)), (b26, .inl (G.2 0, 2, .inl b58)), (b27, .inl (G.2 0, 2880, .inl b59)), (b35, .inl (G.2 1, 4096, .inr (.inl b60))), (b36, .inl (G.2 1, 4096, .inr (.inl b61))), (b37, .inl (G.2 1, 80, .inr (.inl y_1482)))] → va_S A s.heap H locs → lv_has ls 5 [(1, .int y_1481), (0, .ref b0)] → W p l e m_s2_Model_layGoes s m ([.ref b0] : List Value).toArray below meth c H locs 0 0 (MQ below (zQ G (fun v w => ∃ (e0 : Int32), ∃ (e1 : Nat → Int64), ∃ (e2 : Nat → Int64), ∃ (e3 : Nat → Int64), v = none ∧ w = [(b0, .inr (12, [.int b1, .ref b2, .ref b3, .ref b4, .ref b5, .int b6, .ref b7, .int b8, .int b9, .int b10, .int b11, .ref b12, .ref b13, .ref b14, .int b15, .ref b16, .ref b17, .ref b18, .ref b19, .ref b20, .ref b21, .ref b22, .ref b23, .ref b24, .ref b25, .ref b26, .ref b27, .int e0, .ref b29, .ref b30, .int b31, .int b32, .int b33, .int b34, .ref b35, .ref b36, .ref b37, .ref b38, .ref b39, .ref b40, .ref b41, .int b42, .ref b43, .ref b44, .int b45, .ref b46, .ref b47, .ref b48, .ref b49, .ref b50, .int b51, .ref b52, .ref b53, .ref b54])), (b2, .inl (G.2 0, 503, .inl b55)), (b18, .inl (G.2 0, 520, .inl b56)), (b21, .inl (G.2 0, 482, .inl b57)), (b26, .inl (G.2 0, 2, .inl b58)), (b27, .inl (G.2 0, 2880, .inl b59)), (b35, .inl (G.2 1, 4096, .inr (.inl e1))), (b36, .inl (G.2 1, 4096, .inr (.inl e2))), (b37, .inl (G.2 1, 80, .inr (.inl e3)))] ∧ (zI e0 0 1)) A) ([.ref b0] : List Value).toArray s m_s2_Model_layGoes.cells m_s2_Model_layGoes.slots A) (F0 m 2 ls []) by
    exact key 81 (0) (b62) _ _ _ (zI.wk (l' := 0) (h' := 80) zc_0 (by decide)) (zm_upi (zI.wk (l' := 0) (h' := 80) zc_0 (by decide)) (by decide)) hP hD hS (lv_sub hl [0, 1] rfl)
  intro k_1480
  induction k_1480 with
  | zero =>
    intro y_1481 y_1482 H locs ls hy_1481 hmk_1480 hP hD hS hl
    exact (zm_up0 hy_1481 hmk_1480).elim
  | succ k_1480 ihk_1480 =>
    intro y_1481 y_1482 H locs ls hy_1481 hmk_1480 hP hD hS hl
    refine lv_iload_n hx hb d_Model_layGoes_2 rfl (lv_at hl 0 rfl) ?_
    refine lv_bipush (v := 80) hx hb d_Model_layGoes_3 (by decide) ?_
    refine lv_icmp_ge (tgt := 21) hx hb d_Model_layGoes_5 (by decide) (fun hc_1483 => ?_) (fun hc_1483 => ?_)
    · have _nhc_1483 := hc_1483
      have ni_1484 := (fa_le _ _).mp hc_1483
      rw [li_80] at ni_1484
      have hv_1485 : zI y_1481 80 80 := zI.le_r zc_80 hy_1481 hc_1483 (by decide)
      refine lv_iconst (v := 0) hx hb d_Model_layGoes_21 (by decide) ?_
      refine lv_istore_n (lv' := [(1, .int 0), (0, .ref b0)]) hx hb d_Model_layGoes_22 rfl hl (by decide) rfl (fun ls hl => ?_)
      suffices key : ∀ (k_2221 : Nat) (y_2222 : Int32) (y_2223 : Int32) (y_2224 : Nat → Int64) (H : Heap) (locs : List Loc) (ls : Array Slot), (zI y_2222 0 20) → (zI y_2223 0 1) → (20 : Int) - y_2222.toInt < (k_2221 : Int) → va_P G.1 classes [(b0, .inr (12, [.int b1, .ref b2, .ref b3, .ref b4, .ref b5, .int b6, .ref b7, .int b8, .int b9, .int b10, .int b11, .ref b12, .ref b13, .ref b14, .int b15, .ref b16, .ref b17, .ref b18, .ref b19, .ref b20, .ref b21, .ref b22, .ref b23, .ref b24, .ref b25, .ref b26, .ref b27, .int y_2223, .ref b29, .ref b30, .int b31, .int b32, .int b33, .int b34, .ref b35, .ref b36, .ref b37, .ref b38, .ref b39, .ref b40, .ref b41, .int b42, .ref b43, .ref b44, .int b45, .ref b46, .ref b47, .ref b48, .ref b49, .ref b50, .int b51, .ref b52, .ref b53, .ref b54])), (b2, .inl (G.2 0, 503, .inl b55)), (b18, .inl (G.2 0, 520, .inl b56)), (b21, .inl (G.2 0, 482, .inl b57)), (b26, .inl (G.2 0, 2, .inl b58)), (b27, .inl (G.2 0, 2880, .inl b59)), (b35, .inl (G.2 1, 4096, .inr (.inl b60))), (b36, .inl (G.2 1, 4096, .inr (.inl b61))), (b37, .inl (G.2 1, 80, .inr (.inl y_2224)))] H → va_D A [(b0, .inr (12, [.int b1, .ref b2, .ref b3, .ref b4, .ref b5, .int b6, .ref b7, .int b8, .int b9, .int b10, .int b11, .ref b12, .ref b13, .ref b14, .int b15, .ref b16, .ref b17, .ref b18, .ref b19, .ref b20, .ref b21, .ref b22, .ref b23, .ref b24, .ref b25, .ref b26, .ref b27, .int y_2223, .ref b29, .ref b30, .int b31, .int b32, .int b33, .int b34, .ref b35, .ref b36, .ref b37, .ref b38, .ref b39, .ref b40, .ref b41, .int b42, .ref b43, .ref b44, .int b45, .ref b46, .ref b47, .ref b48, .ref b49, .ref b50, .int b51, .ref b52, .ref b53, .ref b54])), (b2, .inl (G.2 0, 503, .inl b55)), (b18, .inl (G.2 0, 520, .inl b56)), (b21, .inl (G.2 0, 482, .inl b57)), (b26, .inl (G.2 0, 2, .inl b58)), (b27, .inl (G.2 0, 2880, .inl b59)), (b35, .inl (G.2 1, 4096, .inr (.inl b60))), (b36, .inl (G.2 1, 4096, .inr (.inl b61))), (b37, .inl (G.2 1, 80, .inr (.inl y_2224)))] → va_S A s.heap H locs → lv_has ls 5 [(1, .int y_2222), (0, .ref b0)] → W p l e m_s2_Model_layGoes s m ([.ref b0] : List Value).toArray below meth c H locs 0 0 (MQ below (zQ G (fun v w => ∃ (e0 : Int32), ∃ (e1 : Nat → Int64), ∃ (e2 : Nat → Int64), ∃ (e3 : Nat → Int64), v = none ∧ w = [(b0, .inr (12, [.int b1, .ref b2, .ref b3, .ref b4, .ref b5, .int b6, .ref b7, .int b8, .int b9, .int b10, .int b11, .ref b12, .ref b13, .ref b14, .int b15, .ref b16, .ref b17, .ref b18, .ref b19, .ref b20, .ref b21, .ref b22, .ref b23, .ref b24, .ref b25, .ref b26, .ref b27, .int e0, .ref b29, .ref b30, .int b31, .int b32, .int b33, .int b34, .ref b35, .ref b36, .ref b37, .ref b38, .ref b39, .ref b40, .ref b41, .int b42, .ref b43, .ref b44, .int b45, .ref b46, .ref b47, .ref b48, .ref b49, .ref b50, .int b51, .ref b52, .ref b53, .ref b54])), (b2, .inl (G.2 0, 503, .inl b55)), (b18, .inl (G.2 0, 520, .inl b56)), (b21, .inl (G.2 0, 482, .inl b57)), (b26, .inl (G.2 0, 2, .inl b58)), (b27, .inl (G.2 0, 2880, .inl b59)), (b35, .inl (G.2 1, 4096, .inr (.inl e1))), (b36, .inl (G.2 1, 4096, .inr (.inl e2))), (b37, .inl (G.2 1, 80, .inr (.inl e3)))] ∧ (zI e0 0 1)) A) ([.ref b0] : List Value).toArray s m_s2_Model_layGoes.cells m_s2_Model_layGoes.slots A) (F0 m 23 ls []) by
        exact key 21 (0) (b28) (y_1482) _ _ _ (zI.wk (l' := 0) (h' := 20) zc_0 (by decide)) hb28 (zm_upi (zI.wk (l' := 0) (h' := 20) zc_0 (by decide)) (by decide)) hP hD hS (lv_sub hl [0, 1] rfl)
      intro k_2221
      induction k_2221 with
      | zero =>
        intro y_2222 y_2223 y_2224 H locs ls hy_2222 hy_2223 hmk_2221 hP hD hS hl
        exact (zm_up0 hy_2222 hmk_2221).elim
      | succ k_2221 ihk_2221 =>
        intro y_2222 y_2223 y_2224 H locs ls hy_2222 hy_2223 hmk_2221 hP hD hS hl
        refine lv_iload_n hx hb d_Model_layGoes_23 rfl (lv_at hl 0 rfl) ?_
        refine lv_aload_n hx hb d_Model_layGoes_24 rfl (lv_at hl 1 rfl) ?_
        refine z_callV (index := 134) (As := []) (rest := [.int y_2222]) (wr := [(b18, .inl (G.2 0, 520, .inl b56)), (b21, .inl (G.2 0, 482, .inl b57)), (b26, .inl (G.2 0, 2, .inl b58)), (b27, .inl (G.2 0, 2880, .inl b59)), (b35, .inl (G.2 1, 4096, .inr (.inl b60))), (b36, .inl (G.2 1, 4096, .inr (.inl b61))), (b37, .inl (G.2 1, 80, .inr (.inl y_2224)))]) Z (s1_Model_many l G (b0) (b1) (b2) (b3) (b4) (b5) (b6) (b7) (b8) (b9) (b10) (b11) (b12) (b13) (b14) (b15) (b16) (b17) (b18) (b19) (b20) (b21) (b22) (b23) (b24) (b25) (b26) (b27) (y_2223) (b29) (b30) (b31) (b32) (b33) (b34) (b35) (b36) (b37) (b38) (b39) (b40) (b41) (b42) (b43) (b44) (b45) (b46) (b47) (b48) (b49) (b50) (b51) (b52) (b53) (b54) (b55) hb6 hb8 hb9 hb11 hb15 hy_2223 hb31 hb42 hb45 hb51 hb55) hl.1 q1320 q1322 qs51 q14 q1323 ⟨by decide, by decide, by show _ = some 0; decide +kernel⟩ ⟨Nat.le_of_ble_eq_true rfl, Nat.le_of_ble_eq_true rfl⟩ ⟨Nat.le_of_ble_eq_true rfl, Nat.le_of_ble_eq_true rfl⟩ rfl (Nat.le_of_ble_eq_true rfl) d_Model_layGoes_25 hP hD hS hA 0 12 rfl rfl rfl [0, 1] [2, 3, 4, 5, 6, 7, 8] rfl rfl rfl rfl (by decide) (fun v w1 H locs hw_2225 hP hD hS => ?_)
        obtain ⟨x_2226, rfl, rfl, hx_2226, hfx_2227⟩ := hw_2225
        have hP : va_P G.1 classes [(b18, .inl (G.2 0, 520, .inl b56)), (b21, .inl (G.2 0, 482, .inl b57)), (b26, .inl (G.2 0, 2, .inl b58)), (b27, .inl (G.2 0, 2880, .inl b59)), (b35, .inl (G.2 1, 4096, .inr (.inl b60))), (b36, .inl (G.2 1, 4096, .inr (.inl b61))), (b37, .inl (G.2 1, 80, .inr (.inl y_2224))), (b0, .inr (12, [.int b1, .ref b2, .ref b3, .ref b4, .ref b5, .int b6, .ref b7, .int b8, .int b9, .int b10, .int b11, .ref b12, .ref b13, .ref b14, .int b15, .ref b16, .ref b17, .ref b18, .ref b19, .ref b20, .ref b21, .ref b22, .ref b23, .ref b24, .ref b25, .ref b26, .ref b27, .int y_2223, .ref b29, .ref b30, .int b31, .int b32, .int b33, .int b34, .ref b35, .ref b36, .ref b37, .ref b38, .ref b39, .ref b40, .ref b41, .int b42, .ref b43, .ref b44, .int b45, .ref b46, .ref b47, .ref b48, .ref b49, .ref b50, .int b51, .ref b52, .ref b53, .ref b54])), (b2, .inl (G.2 0, 503, .inl b55))] H := hP
        have hD := z_tie hP hD rfl
        refine W.widen (k := 0) (n := 0) (Nat.le_of_ble_eq_true rfl) (Nat.le_of_ble_eq_true rfl) ?_
        refine lv_icmp_ge (tgt := 104) hx hb d_Model_layGoes_28 (by decide) (fun hc_2228 => ?_) (fun hc_2228 => ?_)
        · have _nhc_2228 := hc_2228
          have ni_2229 := (fa_le _ _).mp hc_2228
          refine lv_iconst (v := 0) hx hb d_Model_layGoes_104 (by decide) ?_
          refine lv_istore_n (lv' := [(1, .int 0), (0, .ref b0)]) hx hb d_Model_layGoes_105 rfl hl (by decide) rfl (fun ls hl => ?_)
          suffices key : ∀ (k_2557 : Nat) (y_2558 : Int32) (y_2559 : Nat → Int64) (y_2560 : Nat → Int64) (H : Heap) (locs : List Loc) (ls : Array Slot), (zI y_2558 0 4096) → (4096 : Int) - y_2558.toInt < (k_2557 : Int) → va_P G.1 classes [(b18, .inl (G.2 0, 520, .inl b56)), (b21, .inl (G.2 0, 482, .inl b57)), (b26, .inl (G.2 0, 2, .inl b58)), (b27, .inl (G.2 0, 2880, .inl b59)), (b35, .inl (G.2 1, 4096, .inr (.inl y_2559))), (b36, .inl (G.2 1, 4096, .inr (.inl y_2560))), (b37, .inl (G.2 1, 80, .inr (.inl y_2224))), (b0, .inr (12, [.int b1, .ref b2, .ref b3, .ref b4, .ref b5, .int b6, .ref b7, .int b8, .int b9, .int b10, .int b11, .ref b12, .ref b13, .ref b14, .int b15, .ref b16, .ref b17, .ref b18, .ref b19, .ref b20, .ref b21, .ref b22, .ref b23, .ref b24, .ref b25, .ref b26, .ref b27, .int y_2223, .ref b29, .ref b30, .int b31, .int b32, .int b33, .int b34, .ref b35, .ref b36, .ref b37, .ref b38, .ref b39, .ref b40, .ref b41, .int b42, .ref b43, .ref b44, .int b45, .ref b46, .ref b47, .ref b48, .ref b49, .ref b50, .int b51, .ref b52, .ref b53, .ref b54])), (b2, .inl (G.2 0, 503, .inl b55))] H → va_D A [(b18, .inl (G.2 0, 520, .inl b56)), (b21, .inl (G.2 0, 482, .inl b57)), (b26, .inl (G.2 0, 2, .inl b58)), (b27, .inl (G.2 0, 2880, .inl b59)), (b35, .inl (G.2 1, 4096, .inr (.inl y_2559))), (b36, .inl (G.2 1, 4096, .inr (.inl y_2560))), (b37, .inl (G.2 1, 80, .inr (.inl y_2224))), (b0, .inr (12, [.int b1, .ref b2, .ref b3, .ref b4, .ref b5, .int b6, .ref b7, .int b8, .int b9, .int b10, .int b11, .ref b12, .ref b13, .ref b14, .int b15, .ref b16, .ref b17, .ref b18, .ref b19, .ref b20, .ref b21, .ref b22, .ref b23, .ref b24, .ref b25, .ref b26, .ref b27, .int y_2223, .ref b29, .ref b30, .int b31, .int b32, .int b33, .int b34, .ref b35, .ref b36, .ref b37, .ref b38, .ref b39, .ref b40, .ref b41, .int b42, .ref b43, .ref b44, .int b45, .ref b46, .ref b47, .ref b48, .ref b49, .ref b50, .int b51, .ref b52, .ref b53, .ref b54])), (b2, .inl (G.2 0, 503, .inl b55))] → va_S A s.heap H locs → lv_has ls 5 [(1, .int y_2558), (0, .ref b0)] → W p l e m_s2_Model_layGoes s m ([.ref b0] : List Value).toArray below meth c H locs 0 0 (MQ below (zQ G (fun v w => ∃ (e0 : Int32), ∃ (e1 : Nat → Int64), ∃ (e2 : Nat → Int64), ∃ (e3 : Nat → Int64), v = none ∧ w = [(b0, .inr (12, [.int b1, .ref b2, .ref b3, .ref b4, .ref b5, .int b6, .ref b7, .int b8, .int b9, .int b10, .int b11, .ref b12, .ref b13, .ref b14, .int b15, .ref b16, .ref b17, .ref b18, .ref b19, .ref b20, .ref b21, .ref b22, .ref b23, .ref b24, .ref b25, .ref b26, .ref b27, .int e0, .ref b29, .ref b30, .int b31, .int b32, .int b33, .int b34, .ref b35, .ref b36, .ref b37, .ref b38, .ref b39, .ref b40, .ref b41, .int b42, .ref b43, .ref b44, .int b45, .ref b46, .ref b47, .ref b48, .ref b49, .ref b50, .int b51, .ref b52, .ref b53, .ref b54])), (b2, .inl (G.2 0, 503, .inl b55)), (b18, .inl (G.2 0, 520, .inl b56)), (b21, .inl (G.2 0, 482, .inl b57)), (b26, .inl (G.2 0, 2, .inl b58)), (b27, .inl (G.2 0, 2880, .inl b59)), (b35, .inl (G.2 1, 4096, .inr (.inl e1))), (b36, .inl (G.2 1, 4096, .inr (.inl e2))), (b37, .inl (G.2 1, 80, .inr (.inl e3)))] ∧ (zI e0 0 1)) A) ([.ref b0] : List Value).toArray s m_s2_Model_layGoes.cells m_s2_Model_layGoes.slots A) (F0 m 106 ls []) by
            exact key 4097 (0) (b60) (b61) _ _ _ (zI.wk (l' := 0) (h' := 4096) zc_0 (by decide)) (zm_upi (zI.wk (l' := 0) (h' := 4096) zc_0 (by decide)) (by decide)) hP hD hS (lv_sub hl [0, 1] rfl)
          intro k_2557
          induction k_2557 with
          | zero =>
            intro y_2558 y_2559 y_2560 H locs ls hy_2558 hmk_2557 hP hD hS hl
            exact (zm_up0 hy_2558 hmk_2557).elim
          | succ k_2557 ihk_2557 =>
            intro y_2558 y_2559 y_2560 H locs ls hy_2558 hmk_2557 hP hD hS hl
            refine lv_iload_n hx hb d_Model_layGoes_106 rfl (lv_at hl 0 rfl) ?_
            refine lv_sipush (v := 4096) hx hb d_Model_layGoes_107 (by decide) ?_
            refine lv_icmp_ge (tgt := 133) hx hb d_Model_layGoes_110 (by decide) (fun hc_2561 => ?_) (fun hc_2561 => ?_)
            · have _nhc_2561 := hc_2561
              have ni_2562 := (fa_le _ _).mp hc_2561
              rw [li_4096] at ni_2562
              have hv_2563 : zI y_2558 4096 4096 := zI.le_r zc_4096 hy_2558 hc_2561 (by decide)
              refine lv_iconst (v := 1) hx hb d_Model_layGoes_133 (by decide) ?_
              refine lv_istore_n (lv' := [(1, .int 1), (0, .ref b0)]) hx hb d_Model_layGoes_134 rfl hl (by decide) rfl (fun ls hl => ?_)
              suffices key : ∀ (k_2722 : Nat) (y_2723 : Int32) (y_2724 : Nat → Int64) (y_2725 : Nat → Int64) (H : Heap) (locs : List Loc) (ls : Array Slot), (zI y_2723 1 1024) → (1024 : Int) - y_2723.toInt < (k_2722 : Int) → va_P G.1 classes [(b18, .inl (G.2 0, 520, .inl b56)), (b21, .inl (G.2 0, 482, .inl b57)), (b26, .inl (G.2 0, 2, .inl b58)), (b27, .inl (G.2 0, 2880, .inl b59)), (b35, .inl (G.2 1, 4096, .inr (.inl y_2724))), (b36, .inl (G.2 1, 4096, .inr (.inl y_2725))), (b37, .inl (G.2 1, 80, .inr (.inl y_2224))), (b0, .inr (12, [.int b1, .ref b2, .ref b3, .ref b4, .ref b5, .int b6, .ref b7, .int b8, .int b9, .int b10, .int b11, .ref b12, .ref b13, .ref b14, .int b15, .ref b16, .ref b17, .ref b18, .ref b19, .ref b20, .ref b21, .ref b22, .ref b23, .ref b24, .ref b25, .ref b26, .ref b27, .int y_2223, .ref b29, .ref b30, .int b31, .int b32, .int b33, .int b34, .ref b35, .ref b36, .ref b37, .ref b38, .ref b39, .ref b40, .ref b41, .int b42, .ref b43, .ref b44, .int b45, .ref b46, .ref b47, .ref b48, .ref b49, .ref b50, .int b51, .ref b52, .ref b53, .ref b54])), (b2, .inl (G.2 0, 503, .inl b55))] H → va_D A [(b18, .inl (G.2 0, 520, .inl b56)), (b21, .inl (G.2 0, 482, .inl b57)), (b26, .inl (G.2 0, 2, .inl b58)), (b27, .inl (G.2 0, 2880, .inl b59)), (b35, .inl (G.2 1, 4096, .inr (.inl y_2724))), (b36, .inl (G.2 1, 4096, .inr (.inl y_2725))), (b37, .inl (G.2 1, 80, .inr (.inl y_2224))), (b0, .inr (12, [.int b1, .ref b2, .ref b3, .ref b4, .ref b5, .int b6, .ref b7, .int b8, .int b9, .int b10, .int b11, .ref b12, .ref b13, .ref b14, .int b15, .ref b16, .ref b17, .ref b18, .ref b19, .ref b20, .ref b21, .ref b22, .ref b23, .ref b24, .ref b25, .ref b26, .ref b27, .int y_2223, .ref b29, .ref b30, .int b31, .int b32, .int b33, .int b34, .ref b35, .ref b36, .ref b37, .ref b38, .ref b39, .ref b40, .ref b41, .int b42, .ref b43, .ref b44, .int b45, .ref b46, .ref b47, .ref b48, .ref b49, .ref b50, .int b51, .ref b52, .ref b53, .ref b54])), (b2, .inl (G.2 0, 503, .inl b55))] → va_S A s.heap H locs → lv_has ls 5 [(1, .int y_2723), (0, .ref b0)] → W p l e m_s2_Model_layGoes s m ([.ref b0] : List Value).toArray below meth c H locs 0 0 (MQ below (zQ G (fun v w => ∃ (e0 : Int32), ∃ (e1 : Nat → Int64), ∃ (e2 : Nat → Int64), ∃ (e3 : Nat → Int64), v = none ∧ w = [(b0, .inr (12, [.int b1, .ref b2, .ref b3, .ref b4, .ref b5, .int b6, .ref b7, .int b8, .int b9, .int b10, .int b11, .ref b12, .ref b13, .ref b14, .int b15, .ref b16, .ref b17, .ref b18, .ref b19, .ref b20, .ref b21, .ref b22, .ref b23, .ref b24, .ref b25, .ref b26, .ref b27, .int e0, .ref b29, .ref b30, .int b31, .int b32, .int b33, .int b34, .ref b35, .ref b36, .ref b37, .ref b38, .ref b39, .ref b40, .ref b41, .int b42, .ref b43, .ref b44, .int b45, .ref b46, .ref b47, .ref b48, .ref b49, .ref b50, .int b51, .ref b52, .ref b53, .ref b54])), (b2, .inl (G.2 0, 503, .inl b55)), (b18, .inl (G.2 0, 520, .inl b56)), (b21, .inl (G.2 0, 482, .inl b57)), (b26, .inl (G.2 0, 2, .inl b58)), (b27, .inl (G.2 0, 2880, .inl b59)), (b35, .inl (G.2 1, 4096, .inr (.inl e1))), (b36, .inl (G.2 1, 4096, .inr (.inl e2))), (b37, .inl (G.2 1, 80, .inr (.inl e3)))] ∧ (zI e0 0 1)) A) ([.ref b0] : List Value).toArray s m_s2_Model_layGoes.cells m_s2_Model_layGoes.slots A) (F0 m 135 ls []) by
                exact key 1024 (1) (y_2559) (y_2560) _ _ _ (zI.wk (l' := 1) (h' := 1024) zc_1 (by decide)) (zm_upi (zI.wk (l' := 1) (h' := 1024) zc_1 (by decide)) (by decide)) hP hD hS (lv_sub hl [0, 1] rfl)
              intro k_2722
              induction k_2722 with
              | zero =>
                intro y_2723 y_2724 y_2725 H locs ls hy_2723 hmk_2722 hP hD hS hl
                exact (zm_up0 hy_2723 hmk_2722).elim
              | succ k_2722 ihk_2722 =>
                intro y_2723 y_2724 y_2725 H locs ls hy_2723 hmk_2722 hP hD hS hl
                refine lv_iload_n hx hb d_Model_layGoes_135 rfl (lv_at hl 0 rfl) ?_
                refine lv_sipush (v := 1024) hx hb d_Model_layGoes_136 (by decide) ?_
                refine lv_icmp_ge (tgt := 256) hx hb d_Model_layGoes_139 (by decide) (fun hc_2726 => ?_) (fun hc_2726 => ?_)
                · have _nhc_2726 := hc_2726
                  have ni_2727 := (fa_le _ _).mp hc_2726
                  rw [li_1024] at ni_2727
                  have hv_2728 : zI y_2723 1024 1024 := zI.le_r zc_1024 hy_2723 hc_2726 (by decide)
                  exact z_vret hx hb hr hlocks (hP.sub [7, 8, 0, 1, 2, 3, 4, 5, 6] rfl) (hD.sub [7, 8, 0, 1, 2, 3, 4, 5, 6] (by decide) rfl) hS (Nat.le_of_ble_eq_true rfl) (Nat.le_of_ble_eq_true rfl) d_Model_layGoes_256 ⟨y_2223, y_2724, y_2725, y_2224, rfl, rfl, hy_2223⟩
                · have _nhc_2726 := hc_2726
                  have ni_2729 := (fa_lt _ _).mp (zi_nle hc_2726)
                  rw [li_1024] at ni_2729
                  have hv_2730 : zI y_2723 1 1023 := zI.lt_l hy_2723 zc_1024 (zi_nle hc_2726) (by decide)
                  refine lv_iconst (v := 0) hx hb d_Model_layGoes_142 (by decide) ?_
                  refine lv_istore_n (lv' := [(2, .int 0), (1, .int y_2723), (0, .ref b0)]) hx hb d_Model_layGoes_143 rfl hl (by decide) rfl (fun ls hl => ?_)
                  suffices key : ∀ (k_2806 : Nat) (y_2807 : Int32) (H : Heap) (locs : List Loc) (ls : Array Slot), (zI y_2807 0 10) → (zdv y_2723 y_2807) → (10 : Int) - y_2807.toInt < (k_2806 : Int) → va_P G.1 classes [(b18, .inl (G.2 0, 520, .inl b56)), (b21, .inl (G.2 0, 482, .inl b57)), (b26, .inl (G.2 0, 2, .inl b58)), (b27, .inl (G.2 0, 2880, .inl b59)), (b35, .inl (G.2 1, 4096, .inr (.inl y_2724))), (b36, .inl (G.2 1, 4096, .inr (.inl y_2725))), (b37, .inl (G.2 1, 80, .inr (.inl y_2224))), (b0, .inr (12, [.int b1, .ref b2, .ref b3, .ref b4, .ref b5, .int b6, .ref b7, .int b8, .int b9, .int b10, .int b11, .ref b12, .ref b13, .ref b14, .int b15, .ref b16, .ref b17, .ref b18, .ref b19, .ref b20, .ref b21, .ref b22, .ref b23, .ref b24, .ref b25, .ref b26, .ref b27, .int y_2223, .ref b29, .ref b30, .int b31, .int b32, .int b33, .int b34, .ref b35, .ref b36, .ref b37, .ref b38, .ref b39, .ref b40, .ref b41, .int b42, .ref b43, .ref b44, .int b45, .ref b46, .ref b47, .ref b48, .ref b49, .ref b50, .int b51, .ref b52, .ref b53, .ref b54])), (b2, .inl (G.2 0, 503, .inl b55))] H → va_D A [(b18, .inl (G.2 0, 520, .inl b56)), (b21, .inl (G.2 0, 482, .inl b57)), (b26, .inl (G.2 0, 2, .inl b58)), (b27, .inl (G.2 0, 2880, .inl b59)), (b35, .inl (G.2 1, 4096, .inr (.inl y_2724))), (b36, .inl (G.2 1, 4096, .inr (.inl y_2725))), (b37, .inl (G.2 1, 80, .inr (.inl y_2224))), (b0, .inr (12, [.int b1, .ref b2, .ref b3, .ref b4, .ref b5, .int b6, .ref b7, .int b8, .int b9, .int b10, .int b11, .ref b12, .ref b13, .ref b14, .int b15, .ref b16, .ref b17, .ref b18, .ref b19, .ref b20, .ref b21, .ref b22, .ref b23, .ref b24, .ref b25, .ref b26, .ref b27, .int y_2223, .ref b29, .ref b30, .int b31, .int b32, .int b33, .int b34, .ref b35, .ref b36, .ref b37, .ref b38, .ref b39, .ref b40, .ref b41, .int b42, .ref b43, .ref b44, .int b45, .ref b46, .ref b47, .ref b48, .ref b49, .ref b50, .int b51, .ref b52, .ref b53, .ref b54])), (b2, .inl (G.2 0, 503, .inl b55))] → va_S A s.heap H locs → lv_has ls 5 [(2, .int y_2807), (1, .int y_2723), (0, .ref b0)] → W p l e m_s2_Model_layGoes s m ([.ref b0] : List Value).toArray below meth c H locs 0 0 (MQ below (zQ G (fun v w => ∃ (e0 : Int32), ∃ (e1 : Nat → Int64), ∃ (e2 : Nat → Int64), ∃ (e3 : Nat → Int64), v = none ∧ w = [(b0, .inr (12, [.int b1, .ref b2, .ref b3, .ref b4, .ref b5, .int b6, .ref b7, .int b8, .int b9, .int b10, .int b11, .ref b12, .ref b13, .ref b14, .int b15, .ref b16, .ref b17, .ref b18, .ref b19, .ref b20, .ref b21, .ref b22, .ref b23, .ref b24, .ref b25, .ref b26, .ref b27, .int e0, .ref b29, .ref b30, .int b31, .int b32, .int b33, .int b34, .ref b35, .ref b36, .ref b37, .ref b38, .ref b39, .ref b40, .ref b41, .int b42, .ref b43, .ref b44, .int b45, .ref b46, .ref b47, .ref b48, .ref b49, .ref b50, .int b51, .ref b52, .ref b53, .ref b54])), (b2, .inl (G.2 0, 503, .inl b55)), (b18, .inl (G.2 0, 520, .inl b56)), (b21, .inl (G.2 0, 482, .inl b57)), (b26, .inl (G.2 0, 2, .inl b58)), (b27, .inl (G.2 0, 2880, .inl b59)), (b35, .inl (G.2 1, 4096, .inr (.inl e1))), (b36, .inl (G.2 1, 4096, .inr (.inl e2))), (b37, .inl (G.2 1, 80, .inr (.inl e3)))] ∧ (zI e0 0 1)) A) ([.ref b0] : List Value).toArray s m_s2_Model_layGoes.cells m_s2_Model_layGoes.slots A) (F0 m 144 ls []) by
                    exact key 11 (0) _ _ _ (zI.wk (l' := 0) (h' := 10) zc_0 (by decide)) (zdv_0 li_0) (zm_upi (zI.wk (l' := 0) (h' := 10) zc_0 (by decide)) (by decide)) hP hD hS (lv_sub hl [0, 1, 2] rfl)
                  intro k_2806
                  induction k_2806 with
                  | zero =>
                    intro y_2807 H locs ls hy_2807 hli_2808 hmk_2806 hP hD hS hl
                    exact (zm_up0 hy_2807 hmk_2806).elim
                  | succ k_2806 ihk_2806 =>
                    intro y_2807 H locs ls hy_2807 hli_2808 hmk_2806 hP hD hS hl
                    have hv_2809 : zI y_2807 0 9 := ⟨(hy_2807).1, zdv_le hli_2808 hv_2730 (by decide)⟩
                    refine lv_iload_n hx hb d_Model_layGoes_144 rfl (lv_at hl 1 rfl) ?_
                    refine lv_iload_n hx hb d_Model_layGoes_145 rfl (lv_at hl 0 rfl) ?_
                    refine lv_ishr hx hb d_Model_layGoes_146 ?_
                    refine lv_topi (fun v_2810 ev_2810 => ?_)
                    refine lv_iconst (v := 1) hx hb d_Model_layGoes_147 (by decide) ?_
                    refine lv_iand hx hb d_Model_layGoes_148 ?_
                    refine lv_topi (fun v_2811 ev_2811 => ?_)
                    have hv_2811 := zI_and (k := 1) (h := 1) (by decide +kernel) ev_2811 (by decide)
                    refine lv_if_ne (tgt := 158) hx hb d_Model_layGoes_149 (by decide) (fun hc_2812 => ?_) (fun hc_2812 => ?_)
                    · have _nhc_2812 := hc_2812
                      have ni_2813 : ¬ (v_2811 : Int32).toInt = (0 : Int32).toInt := fun z => hc_2812 ((fa_eq _ _).mpr z)
                      simp only [li_0] at ni_2813
                      have hv_2814 : zI v_2811 1 1 := zI.ne_lo hv_2811 zc_0 hc_2812 (by decide)
                      refine lv_iload_n hx hb d_Model_layGoes_158 rfl (lv_at hl 1 rfl) ?_
                      refine lv_iload_n hx hb d_Model_layGoes_159 rfl (lv_at hl 1 rfl) ?_
                      refine lv_iconst (v := 1) hx hb d_Model_layGoes_160 (by decide) ?_
                      refine lv_isub hx hb d_Model_layGoes_161 ?_
                      refine lv_topi (fun v_2815 ev_2815 => ?_)
                      obtain ⟨qv_2815, hv_2815⟩ := zI_sub (l := 0) (h := 1022) hv_2730 zc_1 ev_2815 (by decide)
                      rw [li_1] at qv_2815
                      refine lv_iand hx hb d_Model_layGoes_162 ?_
                      refine lv_topi (fun v_2816 ev_2816 => ?_)
                      have hv_2817 : zI v_2816 0 1023 := zI_andl hv_2730 (by decide) ev_2816
                      refine lv_istore_n (lv' := [(3, .int v_2816), (2, .int y_2807), (1, .int y_2723), (0, .ref b0)]) hx hb d_Model_layGoes_163 rfl hl (by decide) rfl (fun ls hl => ?_)
                      refine lv_iconst (v := 0) hx hb d_Model_layGoes_164 (by decide) ?_
                      refine lv_istore (lv' := [(4, .int 0), (3, .int v_2816), (2, .int y_2807), (1, .int y_2723), (0, .ref b0)]) hx hb d_Model_layGoes_165 hl (by decide) rfl (fun ls hl => ?_)
                      suffices key : ∀ (k_2849 : Nat) (y_2850 : Int32) (y_2851 : Nat → Int64) (y_2852 : Nat → Int64) (H : Heap) (locs : List Loc) (ls : Array Slot), (zI y_2850 0 4) → (4 : Int) - y_2850.toInt < (k_2849 : Int) → va_P G.1 classes [(b18, .inl (G.2 0, 520, .inl b56)), (b21, .inl (G.2 0, 482, .inl b57)), (b26, .inl (G.2 0, 2, .inl b58)), (b27, .inl (G.2 0, 2880, .inl b59)), (b35, .inl (G.2 1, 4096, .inr (.inl y_2851))), (b36, .inl (G.2 1, 4096, .inr (.inl y_2852))), (b37, .inl (G.2 1, 80, .inr (.inl y_2224))), (b0, .inr (12, [.int b1, .ref b2, .ref b3, .ref b4, .ref b5, .int b6, .ref b7, .int b8, .int b9, .int b10, .int b11, .ref b12, .ref b13, .ref b14, .int b15, .ref b16, .ref b17, .ref b18, .ref b19, .ref b20, .ref b21, .ref b22, .ref b23, .ref b24, .ref b25, .ref b26, .ref b27, .int y_2223, .ref b29, .ref b30, .int b31, .int b32, .int b33, .int b34, .ref b35, .ref b36, .ref b37, .ref b38, .ref b39, .ref b40, .ref b41, .int b42, .ref b43, .ref b44, .int b45, .ref b46, .ref b47, .ref b48, .ref b49, .ref b50, .int b51, .ref b52, .ref b53, .ref b54])), (b2, .inl (G.2 0, 503, .inl b55))] H → va_D A [(b18, .inl (G.2 0, 520, .inl b56)), (b21, .inl (G.2 0, 482, .inl b57)), (b26, .inl (G.2 0, 2, .inl b58)), (b27, .inl (G.2 0, 2880, .inl b59)), (b35, .inl (G.2 1, 4096, .inr (.inl y_2851))), (b36, .inl (G.2 1, 4096, .inr (.inl y_2852))), (b37, .inl (G.2 1, 80, .inr (.inl y_2224))), (b0, .inr (12, [.int b1, .ref b2, .ref b3, .ref b4, .ref b5, .int b6, .ref b7, .int b8, .int b9, .int b10, .int b11, .ref b12, .ref b13, .ref b14, .int b15, .ref b16, .ref b17, .ref b18, .ref b19, .ref b20, .ref b21, .ref b22, .ref b23, .ref b24, .ref b25, .ref b26, .ref b27, .int y_2223, .ref b29, .ref b30, .int b31, .int b32, .int b33, .int b34, .ref b35, .ref b36, .ref b37, .ref b38, .ref b39, .ref b40, .ref b41, .int b42, .ref b43, .ref b44, .int b45, .ref b46, .ref b47, .ref b48, .ref b49, .ref b50, .int b51, .ref b52, .ref b53, .ref b54])), (b2, .inl (G.2 0, 503, .inl b55))] → va_S A s.heap H locs → lv_has ls 5 [(4, .int y_2850), (3, .int v_2816), (2, .int y_2807), (1, .int y_2723), (0, .ref b0)] → W p l e m_s2_Model_layGoes s m ([.ref b0] : List Value).toArray below meth c H locs 0 0 (MQ below (zQ G (fun v w => ∃ (e0 : Int32), ∃ (e1 : Nat → Int64), ∃ (e2 : Nat → Int64), ∃ (e3 : Nat → Int64), v = none ∧ w = [(b0, .inr (12, [.int b1, .ref b2, .ref b3, .ref b4, .ref b5, .int b6, .ref b7, .int b8, .int b9, .int b10, .int b11, .ref b12, .ref b13, .ref b14, .int b15, .ref b16, .ref b17, .ref b18, .ref b19, .ref b20, .ref b21, .ref b22, .ref b23, .ref b24, .ref b25, .ref b26, .ref b27, .int e0, .ref b29, .ref b30, .int b31, .int b32, .int b33, .int b34, .ref b35, .ref b36, .ref b37, .ref b38, .ref b39, .ref b40, .ref b41, .int b42, .ref b43, .ref b44, .int b45, .ref b46, .ref b47, .ref b48, .ref b49, .ref b50, .int b51, .ref b52, .ref b53, .ref b54])), (b2, .inl (G.2 0, 503, .inl b55)), (b18, .inl (G.2 0, 520, .inl b56)), (b21, .inl (G.2 0, 482, .inl b57)), (b26, .inl (G.2 0, 2, .inl b58)), (b27, .inl (G.2 0, 2880, .inl b59)), (b35, .inl (G.2 1, 4096, .inr (.inl e1))), (b36, .inl (G.2 1, 4096, .inr (.inl e2))), (b37, .inl (G.2 1, 80, .inr (.inl e3)))] ∧ (zI e0 0 1)) A) ([.ref b0] : List Value).toArray s m_s2_Model_layGoes.cells m_s2_Model_layGoes.slots A) (F0 m 167 ls []) by
                        exact key 5 (0) (y_2724) (y_2725) _ _ _ (zI.wk (l' := 0) (h' := 4) zc_0 (by decide)) (zm_upi (zI.wk (l' := 0) (h' := 4) zc_0 (by decide)) (by decide)) hP hD hS (lv_sub hl [0, 1, 2, 3, 4] rfl)
                      intro k_2849
                      induction k_2849 with
                      | zero =>
                        intro y_2850 y_2851 y_2852 H locs ls hy_2850 hmk_2849 hP hD hS hl
                        exact (zm_up0 hy_2850 hmk_2849).elim
                      | succ k_2849 ihk_2849 =>
                        intro y_2850 y_2851 y_2852 H locs ls hy_2850 hmk_2849 hP hD hS hl
                        refine lv_iload hx hb d_Model_layGoes_167 (lv_at hl 0 rfl) ?_
                        refine lv_iconst (v := 4) hx hb d_Model_layGoes_169 (by decide) ?_
                        refine lv_icmp_ge (tgt := 250) hx hb d_Model_layGoes_170 (by decide) (fun hc_2853 => ?_) (fun hc_2853 => ?_)
                        · have _nhc_2853 := hc_2853
                          have ni_2854 := (fa_le _ _).mp hc_2853
                          rw [li_4] at ni_2854
                          have hv_2855 : zI y_2850 4 4 := zI.le_r zc_4 hy_2850 hc_2853 (by decide)
                          obtain ⟨v_2856, ev_2856⟩ : ∃ z : Int32, z = y_2723 + 1 := ⟨_, rfl⟩
                          obtain ⟨qv_2856, hv_2856⟩ := zI_add (l := 2) (h := 1024) hv_2730 zc_1 ev_2856 (by decide)
                          rw [li_1] at qv_2856
                          refine lv_iinc (v := v_2856) (lv' := [(1, .int v_2856), (4, .int y_2850), (3, .int v_2816), (2, .int y_2807), (0, .ref b0)]) hx hb d_Model_layGoes_250 hl (k := 3) rfl (by rw [ev_2856]; rfl) (by decide) rfl (fun ls hl => ?_)
                          refine lv_goto (tgt := 135) hx hb d_Model_layGoes_253 (by decide) ?_
                          exact ihk_2722 (v_2856) (y_2851) (y_2852) _ _ _ (zI.wk (l' := 1) (h' := 1024) hv_2856 (by decide)) (zm_up qv_2856 hmk_2722 (by decide)) hP hD hS (lv_sub hl [0, 4] rfl)
                        · have _nhc_2853 := hc_2853
                          have ni_2857 := (fa_lt _ _).mp (zi_nle hc_2853)
                          rw [li_4] at ni_2857
                          have hv_2858 : zI y_2850 0 3 := zI.lt_l hy_2850 zc_4 (zi_nle hc_2853) (by decide)
                          refine lv_aload_n hx hb d_Model_layGoes_173 rfl (lv_at hl 4 rfl) ?_
                          refine va_get (D := G.1) (ci := 12) (v := .ref b35) (C := R_Model) (T := F_Model) (N := 54) hx hb hts i_Model hown hK hP 7 rfl rfl 34 (by decide) (hts _ q1143) (fun _ h9 => h9) rfl d_Model_layGoes_174 ?_
                          refine lv_iconst (v := 4) hx hb d_Model_layGoes_177 (by decide) ?_
                          refine lv_iload_n hx hb d_Model_layGoes_178 rfl (lv_at hl 3 rfl) ?_
                          refine lv_imul hx hb d_Model_layGoes_179 ?_
                          refine lv_topi (fun v_2859 ev_2859 => ?_)
                          obtain ⟨qv_2859, hv_2859⟩ := zI_mul (l := 4) (h := 4092) zc_4 hv_2730 ev_2859 (by decide)
                          rw [li_4] at qv_2859
                          refine lv_iload hx hb d_Model_layGoes_180 (lv_at hl 0 rfl) ?_
                          refine lv_iadd hx hb d_Model_layGoes_182 ?_
                          refine lv_topi (fun v_2860 ev_2860 => ?_)
                          obtain ⟨qv_2860, hv_2860⟩ := zI_add (l := 4) (h := 4095) hv_2859 hv_2858 ev_2860 (by decide)
                          refine lv_aload_n hx hb d_Model_layGoes_183 rfl (lv_at hl 4 rfl) ?_
                          refine va_get (D := G.1) (ci := 12) (v := .ref b35) (C := R_Model) (T := F_Model) (N := 54) hx hb hts i_Model hown hK hP 7 rfl rfl 34 (by decide) (hts _ q1143) (fun _ h9 => h9) rfl d_Model_layGoes_184 ?_
                          refine lv_iconst (v := 4) hx hb d_Model_layGoes_187 (by decide) ?_
                          refine lv_iload_n hx hb d_Model_layGoes_188 rfl (lv_at hl 1 rfl) ?_
                          refine lv_imul hx hb d_Model_layGoes_189 ?_
                          refine lv_topi (fun v_2861 ev_2861 => ?_)
                          obtain ⟨qv_2861, hv_2861⟩ := zI_mul (l := 0) (h := 4092) zc_4 hv_2817 ev_2861 (by decide)
                          rw [li_4] at qv_2861
                          refine lv_iload hx hb d_Model_layGoes_190 (lv_at hl 0 rfl) ?_
                          refine lv_iadd hx hb d_Model_layGoes_192 ?_
                          refine lv_topi (fun v_2862 ev_2862 => ?_)
                          obtain ⟨qv_2862, hv_2862⟩ := zI_add (l := 0) (h := 4095) hv_2861 hv_2858 ev_2862 (by decide)
                          refine va_lald hx hb hK hP 4 1 rfl rfl (zI.inn hv_2862 (by decide)) d_Model_layGoes_193 ?_
                          refine lv_topl (fun v_2863 ev_2863 => ?_)
                          refine lv_aload_n hx hb d_Model_layGoes_194 rfl (lv_at hl 4 rfl) ?_
                          refine va_get (D := G.1) (ci := 12) (v := .ref b37) (C := R_Model) (T := F_Model) (N := 54) hx hb hts i_Model hown hK hP 7 rfl rfl 36 (by decide) (hts _ q1145) (fun _ h9 => h9) rfl d_Model_layGoes_195 ?_
                          refine lv_iconst (v := 4) hx hb d_Model_layGoes_198 (by decide) ?_
                          refine lv_iload_n hx hb d_Model_layGoes_199 rfl (lv_at hl 2 rfl) ?_
                          refine lv_imul hx hb d_Model_layGoes_200 ?_
                          refine lv_topi (fun v_2864 ev_2864 => ?_)
                          obtain ⟨qv_2864, hv_2864⟩ := zI_mul (l := 0) (h := 36) zc_4 hv_2809 ev_2864 (by decide)
                          rw [li_4] at qv_2864
                          refine lv_iload hx hb d_Model_layGoes_201 (lv_at hl 0 rfl) ?_
                          refine lv_iadd hx hb d_Model_layGoes_203 ?_
                          refine lv_topi (fun v_2865 ev_2865 => ?_)
                          obtain ⟨qv_2865, hv_2865⟩ := zI_add (l := 0) (h := 39) hv_2864 hv_2858 ev_2865 (by decide)
                          refine va_lald hx hb hK hP 6 1 rfl rfl (zI.inn hv_2865 (by decide)) d_Model_layGoes_204 ?_
                          refine lv_topl (fun v_2866 ev_2866 => ?_)
                          refine lv_lor hx hb d_Model_layGoes_205 ?_
                          refine lv_topl (fun v_2867 ev_2867 => ?_)
                          refine va_last hx hb hK hP hD hS 4 1 rfl rfl (zI.inn hv_2860 (by decide)) d_Model_layGoes_206 (fun H locs hP hD hS => ?_)
                          obtain ⟨f_2868, hP, hD⟩ := z_newL 4 hP hD rfl
                          have hP : va_P G.1 classes [(b18, .inl (G.2 0, 520, .inl b56)), (b21, .inl (G.2 0, 482, .inl b57)), (b26, .inl (G.2 0, 2, .inl b58)), (b27, .inl (G.2 0, 2880, .inl b59)), (b35, .inl (G.2 1, 4096, .inr (.inl f_2868))), (b36, .inl (G.2 1, 4096, .inr (.inl y_2852))), (b37, .inl (G.2 1, 80, .inr (.inl y_2224))), (b0, .inr (12, [.int b1, .ref b2, .ref b3, .ref b4, .ref b5, .int b6, .ref b7, .int b8, .int b9, .int b10, .int b11, .ref b12, .ref b13, .ref b14, .int b15, .ref b16, .ref b17, .ref b18, .ref b19, .ref b20, .ref b21, .ref b22, .ref b23, .ref b24, .ref b25, .ref b26, .ref b27, .int y_2223, .ref b29, .ref b30, .int b31, .int b32, .int b33, .int b34, .ref b35, .ref b36, .ref b37, .ref b38, .ref b39, .ref b40, .ref b41, .int b42, .ref b43, .ref b44, .int b45, .ref b46, .ref b47, .ref b48, .ref b49, .ref b50, .int b51, .ref b52, .ref b53, .ref b54])), (b2, .inl (G.2 0, 503, .inl b55))] H := hP
                          have hD := z_tie hP hD rfl
                          refine lv_aload_n hx hb d_Model_layGoes_207 rfl (lv_at hl 4 rfl) ?_
                          refine va_get (D := G.1) (ci := 12) (v := .ref b36) (C := R_Model) (T := F_Model) (N := 54) hx hb hts i_Model hown hK hP 7 rfl rfl 35 (by decide) (hts _ q1144) (fun _ h9 => h9) rfl d_Model_layGoes_208 ?_
                          refine lv_iconst (v := 4) hx hb d_Model_layGoes_211 (by decide) ?_
                          refine lv_iload_n hx hb d_Model_layGoes_212 rfl (lv_at hl 3 rfl) ?_
                          refine lv_imul hx hb d_Model_layGoes_213 ?_
                          refine lv_topi (fun v_2869 ev_2869 => ?_)
                          obtain rfl : v_2859 = v_2869 := ev_2859.trans ev_2869.symm
                          refine lv_iload hx hb d_Model_layGoes_214 (lv_at hl 0 rfl) ?_
                          refine lv_iadd hx hb d_Model_layGoes_216 ?_
                          refine lv_topi (fun v_2870 ev_2870 => ?_)
                          obtain rfl : v_2860 = v_2870 := ev_2860.trans ev_2870.symm
                          refine lv_aload_n hx hb d_Model_layGoes_217 rfl (lv_at hl 4 rfl) ?_
                          refine va_get (D := G.1) (ci := 12) (v := .ref b36) (C := R_Model) (T := F_Model) (N := 54) hx hb hts i_Model hown hK hP 7 rfl rfl 35 (by decide) (hts _ q1144) (fun _ h9 => h9) rfl d_Model_layGoes_218 ?_
                          refine lv_iconst (v := 4) hx hb d_Model_layGoes_221 (by decide) ?_
                          refine lv_iload_n hx hb d_Model_layGoes_222 rfl (lv_at hl 1 rfl) ?_
                          refine lv_imul hx hb d_Model_layGoes_223 ?_
                          refine lv_topi (fun v_2871 ev_2871 => ?_)
                          obtain rfl : v_2861 = v_2871 := ev_2861.trans ev_2871.symm
                          refine lv_iload hx hb d_Model_layGoes_224 (lv_at hl 0 rfl) ?_
                          refine lv_iadd hx hb d_Model_layGoes_226 ?_
                          refine lv_topi (fun v_2872 ev_2872 => ?_)
                          obtain rfl : v_2862 = v_2872 := ev_2862.trans ev_2872.symm
                          refine va_lald hx hb hK hP 5 1 rfl rfl (zI.inn hv_2862 (by decide)) d_Model_layGoes_227 ?_
                          refine lv_topl (fun v_2873 ev_2873 => ?_)
                          refine lv_aload_n hx hb d_Model_layGoes_228 rfl (lv_at hl 4 rfl) ?_
                          refine va_get (D := G.1) (ci := 12) (v := .ref b37) (C := R_Model) (T := F_Model) (N := 54) hx hb hts i_Model hown hK hP 7 rfl rfl 36 (by decide) (hts _ q1145) (fun _ h9 => h9) rfl d_Model_layGoes_229 ?_
                          refine lv_iconst (v := 4) hx hb d_Model_layGoes_232 (by decide) ?_
                          refine lv_iload_n hx hb d_Model_layGoes_233 rfl (lv_at hl 2 rfl) ?_
                          refine lv_bipush (v := 10) hx hb d_Model_layGoes_234 (by decide) ?_
                          refine lv_iadd hx hb d_Model_layGoes_236 ?_
                          refine lv_topi (fun v_2874 ev_2874 => ?_)
                          obtain ⟨qv_2874, hv_2874⟩ := zI_add (l := 10) (h := 19) hv_2809 zc_10 ev_2874 (by decide)
                          rw [li_10] at qv_2874
                          refine lv_imul hx hb d_Model_layGoes_237 ?_
                          refine lv_topi (fun v_2875 ev_2875 => ?_)
                          obtain ⟨qv_2875, hv_2875⟩ := zI_mul (l := 40) (h := 76) zc_4 hv_2874 ev_2875 (by decide)
                          rw [li_4] at qv_2875
                          refine lv_iload hx hb d_Model_layGoes_238 (lv_at hl 0 rfl) ?_
                          refine lv_iadd hx hb d_Model_layGoes_240 ?_
                          refine lv_topi (fun v_2876 ev_2876 => ?_)
                          obtain ⟨qv_2876, hv_2876⟩ := zI_add (l := 40) (h := 79) hv_2875 hv_2858 ev_2876 (by decide)
                          refine va_lald hx hb hK hP 6 1 rfl rfl (zI.inn hv_2876 (by decide)) d_Model_layGoes_241 ?_
                          refine lv_topl (fun v_2877 ev_2877 => ?_)
                          refine lv_lor hx hb d_Model_layGoes_242 ?_
                          refine lv_topl (fun v_2878 ev_2878 => ?_)
                          refine va_last hx hb hK hP hD hS 5 1 rfl rfl (zI.inn hv_2860 (by decide)) d_Model_layGoes_243 (fun H locs hP hD hS => ?_)
                          obtain ⟨f_2879, hP, hD⟩ := z_newL 5 hP hD rfl
                          have hP : va_P G.1 classes [(b18, .inl (G.2 0, 520, .inl b56)), (b21, .inl (G.2 0, 482, .inl b57)), (b26, .inl (G.2 0, 2, .inl b58)), (b27, .inl (G.2 0, 2880, .inl b59)), (b35, .inl (G.2 1, 4096, .inr (.inl f_2868))), (b36, .inl (G.2 1, 4096, .inr (.inl f_2879))), (b37, .inl (G.2 1, 80, .inr (.inl y_2224))), (b0, .inr (12, [.int b1, .ref b2, .ref b3, .ref b4, .ref b5, .int b6, .ref b7, .int b8, .int b9, .int b10, .int b11, .ref b12, .ref b13, .ref b14, .int b15, .ref b16, .ref b17, .ref b18, .ref b19, .ref b20, .ref b21, .ref b22, .ref b23, .ref b24, .ref b25, .ref b26, .ref b27, .int y_2223, .ref b29, .ref b30, .int b31, .int b32, .int b33, .int b34, .ref b35, .ref b36, .ref b37, .ref b38, .ref b39, .ref b40, .ref b41, .int b42, .ref b43, .ref b44, .int b45, .ref b46, .ref b47, .ref b48, .ref b49, .ref b50, .int b51, .ref b52, .ref b53, .ref b54])), (b2, .inl (G.2 0, 503, .inl b55))] H := hP
                          have hD := z_tie hP hD rfl
                          obtain ⟨v_2880, ev_2880⟩ : ∃ z : Int32, z = y_2850 + 1 := ⟨_, rfl⟩
                          obtain ⟨qv_2880, hv_2880⟩ := zI_add (l := 1) (h := 4) hv_2858 zc_1 ev_2880 (by decide)
                          rw [li_1] at qv_2880
                          refine lv_iinc (v := v_2880) (lv' := [(4, .int v_2880), (3, .int v_2816), (2, .int y_2807), (1, .int y_2723), (0, .ref b0)]) hx hb d_Model_layGoes_244 hl (k := 0) rfl (by rw [ev_2880]; rfl) (by decide) rfl (fun ls hl => ?_)
                          refine lv_goto (tgt := 167) hx hb d_Model_layGoes_247 (by decide) ?_
                          exact ihk_2849 (v_2880) (f_2868) (f_2879) _ _ _ (zI.wk (l' := 0) (h' := 4) hv_2880 (by decide)) (zm_up qv_2880 hmk_2849 (by decide)) hP hD hS (lv_sub hl [0, 1, 2, 3, 4] rfl)
                    · have _nhc_2812 := hc_2812
                      have ni_2881 := (fa_eq _ _).mp hc_2812
                      rw [li_0] at ni_2881
                      have hv_2882 : zI v_2811 0 0 := zI.eq_l hv_2811 zc_0 hc_2812
                      obtain ⟨v_2883, ev_2883⟩ : ∃ z : Int32, z = y_2807 + 1 := ⟨_, rfl⟩
                      obtain ⟨qv_2883, hv_2883⟩ := zI_add (l := 1) (h := 10) hv_2809 zc_1 ev_2883 (by decide)
                      rw [li_1] at qv_2883
                      refine lv_iinc (v := v_2883) (lv' := [(2, .int v_2883), (1, .int y_2723), (0, .ref b0)]) hx hb d_Model_layGoes_152 hl (k := 0) rfl (by rw [ev_2883]; rfl) (by decide) rfl (fun ls hl => ?_)
                      refine lv_goto (tgt := 144) hx hb d_Model_layGoes_155 (by decide) ?_
                      exact ihk_2806 (v_2883) _ _ _ (zI.wk (l' := 0) (h' := 10) hv_2883 (by decide)) (zdv_s hli_2808 hv_2730 (by decide) hv_2809 (by decide) ev_2810 ev_2811 (by omega) (by omega)) (zm_up qv_2883 hmk_2806 (by decide)) hP hD hS (lv_sub hl [0, 1, 2] rfl)
            · have _nhc_2561 := hc_2561
              have ni_2884 := (fa_lt _ _).mp (zi_nle hc_2561)
              rw [li_4096] at ni_2884
              have hv_2885 : zI y_2558 0 4095 := zI.lt_l hy_2558 zc_4096 (zi_nle hc_2561) (by decide)
              refine lv_aload_n hx hb d_Model_layGoes_113 rfl (lv_at hl 1 rfl) ?_
              refine va_get (D := G.1) (ci := 12) (v := .ref b35) (C := R_Model) (T := F_Model) (N := 54) hx hb hts i_Model hown hK hP 7 rfl rfl 34 (by decide) (hts _ q1143) (fun _ h9 => h9) rfl d_Model_layGoes_114 ?_
              refine lv_iload_n hx hb d_Model_layGoes_117 rfl (lv_at hl 0 rfl) ?_
              refine lv_lconst (v := 0) hx hb d_Model_layGoes_118 (by decide) ?_
              refine va_last hx hb hK hP hD hS 4 1 rfl rfl (zI.inn hv_2885 (by decide)) d_Model_layGoes_119 (fun H locs hP hD hS => ?_)
              obtain ⟨f_2886, hP, hD⟩ := z_newL 4 hP hD rfl
              have hP : va_P G.1 classes [(b18, .inl (G.2 0, 520, .inl b56)), (b21, .inl (G.2 0, 482, .inl b57)), (b26, .inl (G.2 0, 2, .inl b58)), (b27, .inl (G.2 0, 2880, .inl b59)), (b35, .inl (G.2 1, 4096, .inr (.inl f_2886))), (b36, .inl (G.2 1, 4096, .inr (.inl y_2560))), (b37, .inl (G.2 1, 80, .inr (.inl y_2224))), (b0, .inr (12, [.int b1, .ref b2, .ref b3, .ref b4, .ref b5, .int b6, .ref b7, .int b8, .int b9, .int b10, .int b11, .ref b12, .ref b13, .ref b14, .int b15, .ref b16, .ref b17, .ref b18, .ref b19, .ref b20, .ref b21, .ref b22, .ref b23, .ref b24, .ref b25, .ref b26, .ref b27, .int y_2223, .ref b29, .ref b30, .int b31, .int b32, .int b33, .int b34, .ref b35, .ref b36, .ref b37, .ref b38, .ref b39, .ref b40, .ref b41, .int b42, .ref b43, .ref b44, .int b45, .ref b46, .ref b47, .ref b48, .ref b49, .ref b50, .int b51, .ref b52, .ref b53, .ref b54])), (b2, .inl (G.2 0, 503, .inl b55))] H := hP
              have hD := z_tie hP hD rfl
              refine lv_aload_n hx hb d_Model_layGoes_120 rfl (lv_at hl 1 rfl) ?_
              refine va_get (D := G.1) (ci := 12) (v := .ref b36) (C := R_Model) (T := F_Model) (N := 54) hx hb hts i_Model hown hK hP 7 rfl rfl 35 (by decide) (hts _ q1144) (fun _ h9 => h9) rfl d_Model_layGoes_121 ?_
              refine lv_iload_n hx hb d_Model_layGoes_124 rfl (lv_at hl 0 rfl) ?_
              refine lv_lconst (v := 0) hx hb d_Model_layGoes_125 (by decide) ?_
              refine va_last hx hb hK hP hD hS 5 1 rfl rfl (zI.inn hv_2885 (by decide)) d_Model_layGoes_126 (fun H locs hP hD hS => ?_)
              obtain ⟨f_2887, hP, hD⟩ := z_newL 5 hP hD rfl
              have hP : va_P G.1 classes [(b18, .inl (G.2 0, 520, .inl b56)), (b21, .inl (G.2 0, 482, .inl b57)), (b26, .inl (G.2 0, 2, .inl b58)), (b27, .inl (G.2 0, 2880, .inl b59)), (b35, .inl (G.2 1, 4096, .inr (.inl f_2886))), (b36, .inl (G.2 1, 4096, .inr (.inl f_2887))), (b37, .inl (G.2 1, 80, .inr (.inl y_2224))), (b0, .inr (12, [.int b1, .ref b2, .ref b3, .ref b4, .ref b5, .int b6, .ref b7, .int b8, .int b9, .int b10, .int b11, .ref b12, .ref b13, .ref b14, .int b15, .ref b16, .ref b17, .ref b18, .ref b19, .ref b20, .ref b21, .ref b22, .ref b23, .ref b24, .ref b25, .ref b26, .ref b27, .int y_2223, .ref b29, .ref b30, .int b31, .int b32, .int b33, .int b34, .ref b35, .ref b36, .ref b37, .ref b38, .ref b39, .ref b40, .ref b41, .int b42, .ref b43, .ref b44, .int b45, .ref b46, .ref b47, .ref b48, .ref b49, .ref b50, .int b51, .ref b52, .ref b53, .ref b54])), (b2, .inl (G.2 0, 503, .inl b55))] H := hP
              have hD := z_tie hP hD rfl
              obtain ⟨v_2888, ev_2888⟩ : ∃ z : Int32, z = y_2558 + 1 := ⟨_, rfl⟩
              obtain ⟨qv_2888, hv_2888⟩ := zI_add (l := 1) (h := 4096) hv_2885 zc_1 ev_2888 (by decide)
              rw [li_1] at qv_2888
              refine lv_iinc (v := v_2888) (lv' := [(1, .int v_2888), (0, .ref b0)]) hx hb d_Model_layGoes_127 hl (k := 0) rfl (by rw [ev_2888]; rfl) (by decide) rfl (fun ls hl => ?_)
              refine lv_goto (tgt := 106) hx hb d_Model_layGoes_130 (by decide) ?_
              exact ihk_2557 (v_2888) (f_2886) (f_2887) _ _ _ (zI.wk (l' := 0) (h' := 4096) hv_2888 (by decide)) (zm_up qv_2888 hmk_2557 (by decide)) hP hD hS (lv_sub hl [0, 1] rfl)
        · have _nhc_2228 := hc_2228
          have ni_2889 := (fa_lt _ _).mp (zi_nle hc_2228)
          have hv_2890 : zI y_2222 0 19 := zI.lt_l hy_2222 hx_2226 (zi_nle hc_2228) (by decide)
          have hv_2891 : zI x_2226 1 20 := zI.lt_r hy_2222 hx_2226 (zi_nle hc_2228) (by decide)
          refine lv_iconst (v := 0) hx hb d_Model_layGoes_31 (by decide) ?_
          refine lv_istore_n (lv' := [(2, .int 0), (1, .int y_2222), (0, .ref b0)]) hx hb d_Model_layGoes_32 rfl hl (by decide) rfl (fun ls hl => ?_)
          suffices key : ∀ (k_2927 : Nat) (y_2928 : Int32) (y_2929 : Int32) (y_2930 : Nat → Int64) (H : Heap) (locs : List Loc) (ls : Array Slot), (zI y_2928 0 12) → (zI y_2929 0 1) → (12 : Int) - y_2928.toInt < (k_2927 : Int) → va_P G.1 classes [(b18, .inl (G.2 0, 520, .inl b56)), (b21, .inl (G.2 0, 482, .inl b57)), (b26, .inl (G.2 0, 2, .inl b58)), (b27, .inl (G.2 0, 2880, .inl b59)), (b35, .inl (G.2 1, 4096, .inr (.inl b60))), (b36, .inl (G.2 1, 4096, .inr (.inl b61))), (b37, .inl (G.2 1, 80, .inr (.inl y_2930))), (b0, .inr (12, [.int b1, .ref b2, .ref b3, .ref b4, .ref b5, .int b6, .ref b7, .int b8, .int b9, .int b10, .int b11, .ref b12, .ref b13, .ref b14, .int b15, .ref b16, .ref b17, .ref b18, .ref b19, .ref b20, .ref b21, .ref b22, .ref b23, .ref b24, .ref b25, .ref b26, .ref b27, .int y_2929, .ref b29, .ref b30, .int b31, .int b32, .int b33, .int b34, .ref b35, .ref b36, .ref b37, .ref b38, .ref b39, .ref b40, .ref b41, .int b42, .ref b43, .ref b44, .int b45, .ref b46, .ref b47, .ref b48, .ref b49, .ref b50, .int b51, .ref b52, .ref b53, .ref b54])), (b2, .inl (G.2 0, 503, .inl b55))] H → va_D A [(b18, .inl (G.2 0, 520, .inl b56)), (b21, .inl (G.2 0, 482, .inl b57)), (b26, .inl (G.2 0, 2, .inl b58)), (b27, .inl (G.2 0, 2880, .inl b59)), (b35, .inl (G.2 1, 4096, .inr (.inl b60))), (b36, .inl (G.2 1, 4096, .inr (.inl b61))), (b37, .inl (G.2 1, 80, .inr (.inl y_2930))), (b0, .inr (12, [.int b1, .ref b2, .ref b3, .ref b4, .ref b5, .int b6, .ref b7, .int b8, .int b9, .int b10, .int b11, .ref b12, .ref b13, .ref b14, .int b15, .ref b16, .ref b17, .ref b18, .ref b19, .ref b20, .ref b21, .ref b22, .ref b23, .ref b24, .ref b25, .ref b26, .ref b27, .int y_2929, .ref b29, .ref b30, .int b31, .int b32, .int b33, .int b34, .ref b35, .ref b36, .ref b37, .ref b38, .ref b39, .ref b40, .ref b41, .int b42, .ref b43, .ref b44, .int b45, .ref b46, .ref b47, .ref b48, .ref b49, .ref b50, .int b51, .ref b52, .ref b53, .ref b54])), (b2, .inl (G.2 0, 503, .inl b55))] → va_S A s.heap H locs → lv_has ls 5 [(2, .int y_2928), (1, .int y_2222), (0, .ref b0)] → W p l e m_s2_Model_layGoes s m ([.ref b0] : List Value).toArray below meth c H locs 0 0 (MQ below (zQ G (fun v w => ∃ (e0 : Int32), ∃ (e1 : Nat → Int64), ∃ (e2 : Nat → Int64), ∃ (e3 : Nat → Int64), v = none ∧ w = [(b0, .inr (12, [.int b1, .ref b2, .ref b3, .ref b4, .ref b5, .int b6, .ref b7, .int b8, .int b9, .int b10, .int b11, .ref b12, .ref b13, .ref b14, .int b15, .ref b16, .ref b17, .ref b18, .ref b19, .ref b20, .ref b21, .ref b22, .ref b23, .ref b24, .ref b25, .ref b26, .ref b27, .int e0, .ref b29, .ref b30, .int b31, .int b32, .int b33, .int b34, .ref b35, .ref b36, .ref b37, .ref b38, .ref b39, .ref b40, .ref b41, .int b42, .ref b43, .ref b44, .int b45, .ref b46, .ref b47, .ref b48, .ref b49, .ref b50, .int b51, .ref b52, .ref b53, .ref b54])), (b2, .inl (G.2 0, 503, .inl b55)), (b18, .inl (G.2 0, 520, .inl b56)), (b21, .inl (G.2 0, 482, .inl b57)), (b26, .inl (G.2 0, 2, .inl b58)), (b27, .inl (G.2 0, 2880, .inl b59)), (b35, .inl (G.2 1, 4096, .inr (.inl e1))), (b36, .inl (G.2 1, 4096, .inr (.inl e2))), (b37, .inl (G.2 1, 80, .inr (.inl e3)))] ∧ (zI e0 0 1)) A) ([.ref b0] : List Value).toArray s m_s2_Model_layGoes.cells m_s2_Model_layGoes.slots A) (F0 m 33 ls []) by
            exact key 13 (0) (y_2223) (y_2224) _ _ _ (zI.wk (l' := 0) (h' := 12) zc_0 (by decide)) hy_2223 (zm_upi (zI.wk (l' := 0) (h' := 12) zc_0 (by decide)) (by decide)) hP hD hS (lv_sub hl [0, 1, 2] rfl)
          intro k_2927
          induction k_2927 with
          | zero =>
            intro y_2928 y_2929 y_2930 H locs ls hy_2928 hy_2929 hmk_2927 hP hD hS hl
            exact (zm_up0 hy_2928 hmk_2927).elim
          | succ k_2927 ihk_2927 =>
            intro y_2928 y_2929 y_2930 H locs ls hy_2928 hy_2929 hmk_2927 hP hD hS hl
            refine lv_iload_n hx hb d_Model_layGoes_33 rfl (lv_at hl 0 rfl) ?_
            refine lv_aload_n hx hb d_Model_layGoes_34 rfl (lv_at hl 2 rfl) ?_
            refine lv_iload_n hx hb d_Model_layGoes_35 rfl (lv_at hl 1 rfl) ?_
            refine z_callV (index := 203) (As := [.int y_2222]) (rest := [.int y_2928]) (wr := [(b18, .inl (G.2 0, 520, .inl b56)), (b21, .inl (G.2 0, 482, .inl b57)), (b26, .inl (G.2 0, 2, .inl b58)), (b27, .inl (G.2 0, 2880, .inl b59)), (b35, .inl (G.2 1, 4096, .inr (.inl b60))), (b36, .inl (G.2 1, 4096, .inr (.inl b61))), (b37, .inl (G.2 1, 80, .inr (.inl y_2930)))]) Z (s1_Model_calls l G (b0) (y_2222) (b1) (b2) (b3) (b4) (b5) (b6) (b7) (b8) (b9) (b10) (b11) (b12) (b13) (b14) (b15) (b16) (b17) (b18) (b19) (b20) (b21) (b22) (b23) (b24) (b25) (b26) (b27) (y_2929) (b29) (b30) (b31) (b32) (b33) (b34) (b35) (b36) (b37) (b38) (b39) (b40) (b41) (b42) (b43) (b44) (b45) (b46) (b47) (b48) (b49) (b50) (b51) (b52) (b53) (b54) (b55) hv_2890 hb6 hb8 hb9 hb11 hb15 hy_2929 hb31 hb42 hb45 hb51 hb55) hl.1 q1352 q1354 qs54 q14 q1355 ⟨by decide, by decide, by show _ = some 1; decide +kernel⟩ ⟨Nat.le_of_ble_eq_true rfl, Nat.le_of_ble_eq_true rfl⟩ ⟨Nat.le_of_ble_eq_true rfl, Nat.le_of_ble_eq_true rfl⟩ rfl (Nat.le_of_ble_eq_true rfl) d_Model_layGoes_36 hP hD hS hA 7 12 rfl rfl rfl [7, 8] [0, 1, 2, 3, 4, 5, 6] rfl rfl rfl rfl (by decide) (fun v w1 H locs hw_2931 hP hD hS => ?_)
            obtain ⟨x_2932, rfl, rfl, hx_2932, hfx_2933⟩ := hw_2931
            have hP : va_P G.1 classes [(b18, .inl (G.2 0, 520, .inl b56)), (b21, .inl (G.2 0, 482, .inl b57)), (b26, .inl (G.2 0, 2, .inl b58)), (b27, .inl (G.2 0, 2880, .inl b59)), (b35, .inl (G.2 1, 4096, .inr (.inl b60))), (b36, .inl (G.2 1, 4096, .inr (.inl b61))), (b37, .inl (G.2 1, 80, .inr (.inl y_2930))), (b0, .inr (12, [.int b1, .ref b2, .ref b3, .ref b4, .ref b5, .int b6, .ref b7, .int b8, .int b9, .int b10, .int b11, .ref b12, .ref b13, .ref b14, .int b15, .ref b16, .ref b17, .ref b18, .ref b19, .ref b20, .ref b21, .ref b22, .ref b23, .ref b24, .ref b25, .ref b26, .ref b27, .int y_2929, .ref b29, .ref b30, .int b31, .int b32, .int b33, .int b34, .ref b35, .ref b36, .ref b37, .ref b38, .ref b39, .ref b40, .ref b41, .int b42, .ref b43, .ref b44, .int b45, .ref b46, .ref b47, .ref b48, .ref b49, .ref b50, .int b51, .ref b52, .ref b53, .ref b54])), (b2, .inl (G.2 0, 503, .inl b55))] H := hP
            have hD := z_tie hP hD rfl
            refine W.widen (k := 0) (n := 0) (Nat.le_of_ble_eq_true rfl) (Nat.le_of_ble_eq_true rfl) ?_
            refine lv_icmp_ge (tgt := 98) hx hb d_Model_layGoes_39 (by decide) (fun hc_2934 => ?_) (fun hc_2934 => ?_)
            · have _nhc_2934 := hc_2934
              have ni_2935 := (fa_le _ _).mp hc_2934
              obtain ⟨v_2936, ev_2936⟩ : ∃ z : Int32, z = y_2222 + 1 := ⟨_, rfl⟩
              obtain ⟨qv_2936, hv_2936⟩ := zI_add (l := 1) (h := 20) hv_2890 zc_1 ev_2936 (by decide)
              rw [li_1] at qv_2936
              refine lv_iinc (v := v_2936) (lv' := [(1, .int v_2936), (2, .int y_2928), (0, .ref b0)]) hx hb d_Model_layGoes_98 hl (k := 1) rfl (by rw [ev_2936]; rfl) (by decide) rfl (fun ls hl => ?_)
              refine lv_goto (tgt := 23) hx hb d_Model_layGoes_101 (by decide) ?_
              exact ihk_2221 (v_2936) (y_2929) (y_2930) _ _ _ (zI.wk (l' := 0) (h' := 20) hv_2936 (by decide)) hy_2929 (zm_up qv_2936 hmk_2221 (by decide)) (hP.sub [7, 8, 0, 1, 2, 3, 4, 5, 6] rfl) (hD.sub [7, 8, 0, 1, 2, 3, 4, 5, 6] (by decide) rfl) hS (lv_sub hl [0, 2] rfl)
            · have _nhc_2934 := hc_2934
              have ni_2937 := (fa_lt _ _).mp (zi_nle hc_2934)
              have hv_2938 : zI y_2928 0 11 := zI.lt_l hy_2928 hx_2932 (zi_nle hc_2934) (by decide)
              have hv_2939 : zI x_2932 1 12 := zI.lt_r hy_2928 hx_2932 (zi_nle hc_2934) (by decide)
              refine lv_aload_n hx hb d_Model_layGoes_42 rfl (lv_at hl 2 rfl) ?_
              refine lv_iconst (v := 0) hx hb d_Model_layGoes_43 (by decide) ?_
              refine lv_aload_n hx hb d_Model_layGoes_44 rfl (lv_at hl 2 rfl) ?_
              refine lv_iconst (v := 0) hx hb d_Model_layGoes_45 (by decide) ?_
              refine lv_iload_n hx hb d_Model_layGoes_46 rfl (lv_at hl 1 rfl) ?_
              refine lv_iload_n hx hb d_Model_layGoes_47 rfl (lv_at hl 0 rfl) ?_
              refine z_callV (index := 231) (As := [.int 0, .int y_2222, .int y_2928]) (rest := [.int 0, .ref b0]) (wr := [(b26, .inl (G.2 0, 2, .inl b58)), (b27, .inl (G.2 0, 2880, .inl b59)), (b35, .inl (G.2 1, 4096, .inr (.inl b60))), (b36, .inl (G.2 1, 4096, .inr (.inl b61))), (b37, .inl (G.2 1, 80, .inr (.inl y_2930))), (b2, .inl (G.2 0, 503, .inl b55))]) Z (s1_Model_stateAt l G (b0) (y_2222) (y_2928) (b1) (b2) (b3) (b4) (b5) (b6) (b7) (b8) (b9) (b10) (b11) (b12) (b13) (b14) (b15) (b16) (b17) (b18) (b19) (b20) (b21) (b22) (b23) (b24) (b25) (b26) (b27) (y_2929) (b29) (b30) (b31) (b32) (b33) (b34) (b35) (b36) (b37) (b38) (b39) (b40) (b41) (b42) (b43) (b44) (b45) (b46) (b47) (b48) (b49) (b50) (b51) (b52) (b53) (b54) (b56) (b57) hv_2890 (zI.wk (l' := 0) (h' := 12) hv_2938 (by decide)) hb6 hb8 hb9 hb11 hb15 hy_2929 hb31 hb42 hb45 hb51 hb56 hb57) hl.1 q1400 q1402 qs66 q14 q1403 ⟨by decide, by decide, by show _ = some 3; decide +kernel⟩ ⟨Nat.le_of_ble_eq_true rfl, Nat.le_of_ble_eq_true rfl⟩ ⟨Nat.le_of_ble_eq_true rfl, Nat.le_of_ble_eq_true rfl⟩ rfl (Nat.le_of_ble_eq_true rfl) d_Model_layGoes_48 hP hD hS hA 7 12 rfl rfl rfl [7, 0, 1] [2, 3, 4, 5, 6, 8] rfl rfl rfl rfl (by decide) (fun v w1 H locs hw_2940 hP hD hS => ?_)
              obtain ⟨x_2941, rfl, rfl, hx_2941, hfx_2942⟩ := hw_2940
              have hP : va_P G.1 classes [(b26, .inl (G.2 0, 2, .inl b58)), (b27, .inl (G.2 0, 2880, .inl b59)), (b35, .inl (G.2 1, 4096, .inr (.inl b60))), (b36, .inl (G.2 1, 4096, .inr (.inl b61))), (b37, .inl (G.2 1, 80, .inr (.inl y_2930))), (b2, .inl (G.2 0, 503, .inl b55)), (b0, .inr (12, [.int b1, .ref b2, .ref b3, .ref b4, .ref b5, .int b6, .ref b7, .int b8, .int b9, .int b10, .int b11, .ref b12, .ref b13, .ref b14, .int b15, .ref b16, .ref b17, .ref b18, .ref b19, .ref b20, .ref b21, .ref b22, .ref b23, .ref b24, .ref b25, .ref b26, .ref b27, .int y_2929, .ref b29, .ref b30, .int b31, .int b32, .int b33, .int b34, .ref b35, .ref b36, .ref b37, .ref b38, .ref b39, .ref b40, .ref b41, .int b42, .ref b43, .ref b44, .int b45, .ref b46, .ref b47, .ref b48, .ref b49, .ref b50, .int b51, .ref b52, .ref b53, .ref b54])), (b18, .inl (G.2 0, 520, .inl b56)), (b21, .inl (G.2 0, 482, .inl b57))] H := hP
              have hD := z_tie hP hD rfl
              refine W.widen (k := 0) (n := 0) (Nat.le_of_ble_eq_true rfl) (Nat.le_of_ble_eq_true rfl) ?_
              refine lv_aload_n hx hb d_Model_layGoes_51 rfl (lv_at hl 2 rfl) ?_
              refine lv_iload_n hx hb d_Model_layGoes_52 rfl (lv_at hl 1 rfl) ?_
              refine lv_iload_n hx hb d_Model_layGoes_53 rfl (lv_at hl 0 rfl) ?_
              refine z_callV (index := 207) (As := [.int y_2222, .int y_2928]) (rest := [.int x_2941, .int 0, .ref b0]) (wr := [(b26, .inl (G.2 0, 2, .inl b58)), (b27, .inl (G.2 0, 2880, .inl b59)), (b35, .inl (G.2 1, 4096, .inr (.inl b60))), (b36, .inl (G.2 1, 4096, .inr (.inl b61))), (b37, .inl (G.2 1, 80, .inr (.inl y_2930))), (b18, .inl (G.2 0, 520, .inl b56)), (b21, .inl (G.2 0, 482, .inl b57))]) Z (s1_Model_letterAt l G (b0) (y_2222) (y_2928) (b1) (b2) (b3) (b4) (b5) (b6) (b7) (b8) (b9) (b10) (b11) (b12) (b13) (b14) (b15) (b16) (b17) (b18) (b19) (b20) (b21) (b22) (b23) (b24) (b25) (b26) (b27) (y_2929) (b29) (b30) (b31) (b32) (b33) (b34) (b35) (b36) (b37) (b38) (b39) (b40) (b41) (b42) (b43) (b44) (b45) (b46) (b47) (b48) (b49) (b50) (b51) (b52) (b53) (b54) (b55) hv_2890 hv_2938 hb6 hb8 hb9 hb11 hb15 hy_2929 hb31 hb42 hb45 hb51 hb55) hl.1 q1372 q1374 qs59 q14 q1375 ⟨by decide, by decide, by show _ = some 2; decide +kernel⟩ ⟨Nat.le_of_ble_eq_true rfl, Nat.le_of_ble_eq_true rfl⟩ ⟨Nat.le_of_ble_eq_true rfl, Nat.le_of_ble_eq_true rfl⟩ rfl (Nat.le_of_ble_eq_true rfl) d_Model_layGoes_54 hP hD hS hA 6 12 rfl rfl rfl [6, 5] [0, 1, 2, 3, 4, 7, 8] rfl rfl rfl rfl (by decide) (fun v w1 H locs hw_2943 hP hD hS => ?_)
              obtain ⟨x_2944, rfl, rfl, hx_2944⟩ := hw_2943
              have hP : va_P G.1 classes [(b26, .inl (G.2 0, 2, .inl b58)), (b27, .inl (G.2 0, 2880, .inl b59)), (b35, .inl (G.2 1, 4096, .inr (.inl b60))), (b36, .inl (G.2 1, 4096, .inr (.inl b61))), (b37, .inl (G.2 1, 80, .inr (.inl y_2930))), (b18, .inl (G.2 0, 520, .inl b56)), (b21, .inl (G.2 0, 482, .inl b57)), (b0, .inr (12, [.int b1, .ref b2, .ref b3, .ref b4, .ref b5, .int b6, .ref b7, .int b8, .int b9, .int b10, .int b11, .ref b12, .ref b13, .ref b14, .int b15, .ref b16, .ref b17, .ref b18, .ref b19, .ref b20, .ref b21, .ref b22, .ref b23, .ref b24, .ref b25, .ref b26, .ref b27, .int y_2929, .ref b29, .ref b30, .int b31, .int b32, .int b33, .int b34, .ref b35, .ref b36, .ref b37, .ref b38, .ref b39, .ref b40, .ref b41, .int b42, .ref b43, .ref b44, .int b45, .ref b46, .ref b47, .ref b48, .ref b49, .ref b50, .int b51, .ref b52, .ref b53, .ref b54])), (b2, .inl (G.2 0, 503, .inl b55))] H := hP
              have hD := z_tie hP hD rfl
              refine W.widen (k := 0) (n := 0) (Nat.le_of_ble_eq_true rfl) (Nat.le_of_ble_eq_true rfl) ?_
              refine lv_aload_n hx hb d_Model_layGoes_57 rfl (lv_at hl 2 rfl) ?_
              refine lv_iconst (v := 0) hx hb d_Model_layGoes_58 (by decide) ?_
              refine lv_iload_n hx hb d_Model_layGoes_59 rfl (lv_at hl 1 rfl) ?_
              refine lv_iload_n hx hb d_Model_layGoes_60 rfl (lv_at hl 0 rfl) ?_
              refine lv_iconst (v := 1) hx hb d_Model_layGoes_61 (by decide) ?_
              refine lv_iadd hx hb d_Model_layGoes_62 ?_
              refine lv_topi (fun v_2945 ev_2945 => ?_)
              obtain ⟨qv_2945, hv_2945⟩ := zI_add (l := 1) (h := 12) hv_2938 zc_1 ev_2945 (by decide)
              rw [li_1] at qv_2945
              refine z_callV (index := 231) (As := [.int 0, .int y_2222, .int v_2945]) (rest := [.int x_2944, .int x_2941, .int 0, .ref b0]) (wr := [(b26, .inl (G.2 0, 2, .inl b58)), (b27, .inl (G.2 0, 2880, .inl b59)), (b35, .inl (G.2 1, 4096, .inr (.inl b60))), (b36, .inl (G.2 1, 4096, .inr (.inl b61))), (b37, .inl (G.2 1, 80, .inr (.inl y_2930))), (b2, .inl (G.2 0, 503, .inl b55))]) Z (s1_Model_stateAt l G (b0) (y_2222) (v_2945) (b1) (b2) (b3) (b4) (b5) (b6) (b7) (b8) (b9) (b10) (b11) (b12) (b13) (b14) (b15) (b16) (b17) (b18) (b19) (b20) (b21) (b22) (b23) (b24) (b25) (b26) (b27) (y_2929) (b29) (b30) (b31) (b32) (b33) (b34) (b35) (b36) (b37) (b38) (b39) (b40) (b41) (b42) (b43) (b44) (b45) (b46) (b47) (b48) (b49) (b50) (b51) (b52) (b53) (b54) (b56) (b57) hv_2890 (zI.wk (l' := 0) (h' := 12) hv_2945 (by decide)) hb6 hb8 hb9 hb11 hb15 hy_2929 hb31 hb42 hb45 hb51 hb56 hb57) hl.1 q1400 q1402 qs66 q14 q1403 ⟨by decide, by decide, by show _ = some 3; decide +kernel⟩ ⟨Nat.le_of_ble_eq_true rfl, Nat.le_of_ble_eq_true rfl⟩ ⟨Nat.le_of_ble_eq_true rfl, Nat.le_of_ble_eq_true rfl⟩ rfl (Nat.le_of_ble_eq_true rfl) d_Model_layGoes_63 hP hD hS hA 7 12 rfl rfl rfl [7, 5, 6] [0, 1, 2, 3, 4, 8] rfl rfl rfl rfl (by decide) (fun v w1 H locs hw_2946 hP hD hS => ?_)
              obtain ⟨x_2947, rfl, rfl, hx_2947, hfx_2948⟩ := hw_2946
              have hP : va_P G.1 classes [(b26, .inl (G.2 0, 2, .inl b58)), (b27, .inl (G.2 0, 2880, .inl b59)), (b35, .inl (G.2 1, 4096, .inr (.inl b60))), (b36, .inl (G.2 1, 4096, .inr (.inl b61))), (b37, .inl (G.2 1, 80, .inr (.inl y_2930))), (b2, .inl (G.2 0, 503, .inl b55)), (b0, .inr (12, [.int b1, .ref b2, .ref b3, .ref b4, .ref b5, .int b6, .ref b7, .int b8, .int b9, .int b10, .int b11, .ref b12, .ref b13, .ref b14, .int b15, .ref b16, .ref b17, .ref b18, .ref b19, .ref b20, .ref b21, .ref b22, .ref b23, .ref b24, .ref b25, .ref b26, .ref b27, .int y_2929, .ref b29, .ref b30, .int b31, .int b32, .int b33, .int b34, .ref b35, .ref b36, .ref b37, .ref b38, .ref b39, .ref b40, .ref b41, .int b42, .ref b43, .ref b44, .int b45, .ref b46, .ref b47, .ref b48, .ref b49, .ref b50, .int b51, .ref b52, .ref b53, .ref b54])), (b18, .inl (G.2 0, 520, .inl b56)), (b21, .inl (G.2 0, 482, .inl b57))] H := hP
              have hD := z_tie hP hD rfl
              refine W.widen (k := 0) (n := 0) (Nat.le_of_ble_eq_true rfl) (Nat.le_of_ble_eq_true rfl) ?_
              refine z_callV (index := 234) (As := [.int 0, .int x_2941, .int x_2944, .int x_2947]) (rest := []) (wr := [(b35, .inl (G.2 1, 4096, .inr (.inl b60))), (b36, .inl (G.2 1, 4096, .inr (.inl b61))), (b37, .inl (G.2 1, 80, .inr (.inl y_2930))), (b2, .inl (G.2 0, 503, .inl b55)), (b18, .inl (G.2 0, 520, .inl b56)), (b21, .inl (G.2 0, 482, .inl b57))]) Z (s1_Model_placeOf l G (b0) (x_2941) (x_2944) (x_2947) (b1) (b2) (b3) (b4) (b5) (b6) (b7) (b8) (b9) (b10) (b11) (b12) (b13) (b14) (b15) (b16) (b17) (b18) (b19) (b20) (b21) (b22) (b23) (b24) (b25) (b26) (b27) (y_2929) (b29) (b30) (b31) (b32) (b33) (b34) (b35) (b36) (b37) (b38) (b39) (b40) (b41) (b42) (b43) (b44) (b45) (b46) (b47) (b48) (b49) (b50) (b51) (b52) (b53) (b54) (b58) (b59) hx_2941 hx_2944 hx_2947 hb6 hb8 hb9 hb11 hb15 hy_2929 hb31 hb42 hb45 hb51 hb58 hb59) hl.1 q1404 q1406 qs67 q14 q1407 ⟨by decide, by decide, by show _ = some 4; decide +kernel⟩ ⟨Nat.le_of_ble_eq_true rfl, Nat.le_of_ble_eq_true rfl⟩ ⟨Nat.le_of_ble_eq_true rfl, Nat.le_of_ble_eq_true rfl⟩ rfl (Nat.le_of_ble_eq_true rfl) d_Model_layGoes_66 hP hD hS hA 6 12 rfl rfl rfl [6, 0, 1] [2, 3, 4, 5, 7, 8] rfl rfl rfl rfl (by decide) (fun v w1 H locs hw_2949 hP hD hS => ?_)
              obtain ⟨x_2950, x_2951, rfl, rfl, hx_2950, hx_2951, hfx_2952, hfx_2953⟩ := hw_2949
              have hP : va_P G.1 classes [(b35, .inl (G.2 1, 4096, .inr (.inl b60))), (b36, .inl (G.2 1, 4096, .inr (.inl b61))), (b37, .inl (G.2 1, 80, .inr (.inl y_2930))), (b2, .inl (G.2 0, 503, .inl b55)), (b18, .inl (G.2 0, 520, .inl b56)), (b21, .inl (G.2 0, 482, .inl b57)), (b0, .inr (12, [.int b1, .ref b2, .ref b3, .ref b4, .ref b5, .int b6, .ref b7, .int b8, .int b9, .int b10, .int b11, .ref b12, .ref b13, .ref b14, .int b15, .ref b16, .ref b17, .ref b18, .ref b19, .ref b20, .ref b21, .ref b22, .ref b23, .ref b24, .ref b25, .ref b26, .ref b27, .int x_2951, .ref b29, .ref b30, .int b31, .int b32, .int b33, .int b34, .ref b35, .ref b36, .ref b37, .ref b38, .ref b39, .ref b40, .ref b41, .int b42, .ref b43, .ref b44, .int b45, .ref b46, .ref b47, .ref b48, .ref b49, .ref b50, .int b51, .ref b52, .ref b53, .ref b54])), (b26, .inl (G.2 0, 2, .inl b58)), (b27, .inl (G.2 0, 2880, .inl b59))] H := hP
              have hD := z_tie hP hD rfl
              refine W.widen (k := 0) (n := 0) (Nat.le_of_ble_eq_true rfl) (Nat.le_of_ble_eq_true rfl) ?_
              refine lv_istore_n (lv' := [(3, .int x_2950), (2, .int y_2928), (1, .int y_2222), (0, .ref b0)]) hx hb d_Model_layGoes_69 rfl hl (by decide) rfl (fun ls hl => ?_)
              refine lv_aload_n hx hb d_Model_layGoes_70 rfl (lv_at hl 3 rfl) ?_
              refine va_get (D := G.1) (ci := 12) (v := .ref b37) (C := R_Model) (T := F_Model) (N := 54) hx hb hts i_Model hown hK hP 6 rfl rfl 36 (by decide) (hts _ q1145) (fun _ h9 => h9) rfl d_Model_layGoes_71 ?_
              refine lv_iconst (v := 4) hx hb d_Model_layGoes_74 (by decide) ?_
              refine lv_iload_n hx hb d_Model_layGoes_75 rfl (lv_at hl 2 rfl) ?_
              refine lv_imul hx hb d_Model_layGoes_76 ?_
              refine lv_topi (fun v_2954 ev_2954 => ?_)
              obtain ⟨qv_2954, hv_2954⟩ := zI_mul (l := 0) (h := 76) zc_4 hv_2890 ev_2954 (by decide)
              rw [li_4] at qv_2954
              refine lv_iload_n hx hb d_Model_layGoes_77 rfl (lv_at hl 0 rfl) ?_
              refine lv_bipush (v := 64) hx hb d_Model_layGoes_78 (by decide) ?_
              refine lv_idiv hx hb d_Model_layGoes_80 (by decide +kernel) ?_
              refine lv_topi (fun v_2955 ev_2955 => ?_)
              obtain ⟨qv_2955, hv_2955⟩ := zI_div (l := 0) (h := 3) (d := 64) hx_2950 rfl ev_2955 (by decide)
              refine lv_iadd hx hb d_Model_layGoes_81 ?_
              refine lv_topi (fun v_2956 ev_2956 => ?_)
              obtain ⟨qv_2956, hv_2956⟩ := zI_add (l := 0) (h := 79) hv_2954 hv_2955 ev_2956 (by decide)
              refine lv_dup2_11 hx hb d_Model_layGoes_82 rfl rfl ?_
              refine va_lald hx hb hK hP 2 1 rfl rfl (zI.inn hv_2956 (by decide)) d_Model_layGoes_83 ?_
              refine lv_topl (fun v_2957 ev_2957 => ?_)
              refine lv_lconst (v := 1) hx hb d_Model_layGoes_84 (by decide) ?_
              refine lv_iload_n hx hb d_Model_layGoes_85 rfl (lv_at hl 0 rfl) ?_
              refine lv_bipush (v := 64) hx hb d_Model_layGoes_86 (by decide) ?_
              refine lv_irem hx hb d_Model_layGoes_88 (by decide +kernel) ?_
              refine lv_topi (fun v_2958 ev_2958 => ?_)
              obtain ⟨qv_2958, hv_2958⟩ := zI_rem (h := 63) (d := 64) hx_2950 rfl ev_2958 (by decide)
              obtain ⟨v_2959, ev_2959⟩ : ∃ z : Int64, z = 1 <<< ((v_2958 : Int32).toInt64 &&& 63) := ⟨_, rfl⟩
              refine lv_lshl (v := v_2959) hx hb d_Model_layGoes_89 ev_2959.symm ?_
              refine lv_lor hx hb d_Model_layGoes_90 ?_
              refine lv_topl (fun v_2960 ev_2960 => ?_)
              refine va_last hx hb hK hP hD hS 2 1 rfl rfl (zI.inn hv_2956 (by decide)) d_Model_layGoes_91 (fun H locs hP hD hS => ?_)
              obtain ⟨f_2961, hP, hD⟩ := z_newL 2 hP hD rfl
              have hP : va_P G.1 classes [(b35, .inl (G.2 1, 4096, .inr (.inl b60))), (b36, .inl (G.2 1, 4096, .inr (.inl b61))), (b37, .inl (G.2 1, 80, .inr (.inl f_2961))), (b2, .inl (G.2 0, 503, .inl b55)), (b18, .inl (G.2 0, 520, .inl b56)), (b21, .inl (G.2 0, 482, .inl b57)), (b0, .inr (12, [.int b1, .ref b2, .ref b3, .ref b4, .ref b5, .int b6, .ref b7, .int b8, .int b9, .int b10, .int b11, .ref b12, .ref b13, .ref b14, .int b15, .ref b16, .ref b17, .ref b18, .ref b19, .ref b20, .ref b21, .ref b22, .ref b23, .ref b24, .ref b25, .ref b26, .ref b27, .int x_2951, .ref b29, .ref b30, .int b31, .int b32, .int b33, .int b34, .ref b35, .ref b36, .ref b37, .ref b38, .ref b39, .ref b40, .ref b41, .int b42, .ref b43, .ref b44, .int b45, .ref b46, .ref b47, .ref b48, .ref b49, .ref b50, .int b51, .ref b52, .ref b53, .ref b54])), (b26, .inl (G.2 0, 2, .inl b58)), (b27, .inl (G.2 0, 2880, .inl b59))] H := hP
              have hD := z_tie hP hD rfl
              obtain ⟨v_2962, ev_2962⟩ : ∃ z : Int32, z = y_2928 + 1 := ⟨_, rfl⟩
              obtain ⟨qv_2962, hv_2962⟩ := zI_add (l := 1) (h := 12) hv_2938 zc_1 ev_2962 (by decide)
              rw [li_1] at qv_2962
              refine lv_iinc (v := v_2962) (lv' := [(2, .int v_2962), (3, .int x_2950), (1, .int y_2222), (0, .ref b0)]) hx hb d_Model_layGoes_92 hl (k := 1) rfl (by rw [ev_2962]; rfl) (by decide) rfl (fun ls hl => ?_)
              refine lv_goto (tgt := 33) hx hb d_Model_layGoes_95 (by decide) ?_
              exact ihk_2927 (v_2962) (x_2951) (f_2961) _ _ _ (zI.wk (l' := 0) (h' := 12) hv_2962 (by decide)) hx_2951 (zm_up qv_2962 hmk_2927 (by decide)) (hP.sub [4, 5, 7, 8, 0, 1, 2, 6, 3] rfl) (hD.sub [4, 5, 7, 8, 0, 1, 2, 6, 3] (by decide) rfl) hS (lv_sub hl [0, 2, 3] rfl)
    · have _nhc_1483 := hc_1483
      have ni_2963 := (fa_lt _ _).mp (zi_nle hc_1483)
      rw [li_80] at ni_2963
      have hv_2964 : zI y_1481 0 79 := zI.lt_l hy_1481 zc_80 (zi_nle hc_1483) (by decide)
      refine lv_aload_n hx hb d_Model_layGoes_8 rfl (lv_at hl 1 rfl) ?_
      refine va_get (D := G.1) (ci := 12) (v := .ref b37) (C := R_Model) (T := F_Model) (N := 54) hx hb hts i_Model hown hK hP 0 rfl rfl 36 (by decide) (hts _ q1145) (fun _ h9 => h9) rfl d_Model_layGoes_9 ?_
      refine lv_iload_n hx hb d_Model_layGoes_12 rfl (lv_at hl 0 rfl) ?_
      refine lv_lconst (v := 0) hx hb d_Model_layGoes_13 (by decide) ?_
      refine va_last hx hb hK hP hD hS 8 1 rfl rfl (zI.inn hv_2964 (by decide)) d_Model_layGoes_14 (fun H locs hP hD hS => ?_)
      obtain ⟨f_2965, hP, hD⟩ := z_newL 8 hP hD rfl
      have hP : va_P G.1 classes [(b0, .inr (12, [.int b1, .ref b2, .ref b3, .ref b4, .ref b5, .int b6, .ref b7, .int b8, .int b9, .int b10, .int b11, .ref b12, .ref b13, .ref b14, .int b15, .ref b16, .ref b17, .ref b18, .ref b19, .ref b20, .ref b21, .ref b22, .ref b23, .ref b24, .ref b25, .ref b26, .ref b27, .int b28, .ref b29, .ref b30, .int b31, .int b32, .int b33, .int b34, .ref b35, .ref b36, .ref b37, .ref b38, .ref b39, .ref b40, .ref b41, .int b42, .ref b43, .ref b44, .int b45, .ref b46, .ref b47, .ref b48, .ref b49, .ref b50, .int b51, .ref b52, .ref b53, .ref b54])), (b2, .inl (G.2 0, 503, .inl b55)), (b18, .inl (G.2 0, 520, .inl b56)), (b21, .inl (G.2 0, 482, .inl b57)), (b26, .inl (G.2 0, 2, .inl b58)), (b27, .inl (G.2 0, 2880, .inl b59)), (b35, .inl (G.2 1, 4096, .inr (.inl b60))), (b36, .inl (G.2 1, 4096, .inr (.inl b61))), (b37, .inl (G.2 1, 80, .inr (.inl f_2965)))] H := hP
      have hD := z_tie hP hD rfl
      obtain ⟨v_2966, ev_2966⟩ : ∃ z : Int32, z = y_1481 + 1 := ⟨_, rfl⟩
      obtain ⟨qv_2966, hv_2966⟩ := zI_add (l := 1) (h := 80) hv_2964 zc_1 ev_2966 (by decide)
      rw [li_1] at qv_2966
      refine lv_iinc (v := v_2966) (lv' := [(1, .int v_2966), (0, .ref b0)]) hx hb d_Model_layGoes_15 hl (k := 0) rfl (by rw [ev_2966]; rfl) (by decide) rfl (fun ls hl => ?_)
      refine lv_goto (tgt := 2) hx hb d_Model_layGoes_18 (by decide) ?_
      exact ihk_1480 (v_2966) (f_2965) _ _ _ (zI.wk (l' := 0) (h' := 80) hv_2966 (by decide)) (zm_up qv_2966 hmk_1480 (by decide)) hP hD hS (lv_sub hl [0, 1] rfl)
theorem d_Model_cover_87 : decode prog_14_method_57_code 87 = .ok (.ireturn, 1) := by decide +kernel
theorem d_Model_ones_21 : decode prog_14_method_54_code 21 = .ok (.ireturn, 1) := by decide +kernel
abbrev m_s17_Model_ones : Room := { frames := 0, cells := 0, slots := 0, locals := 0 }
set_option maxHeartbeats 4000000 in
set_option maxRecDepth 100000 in
theorem s17_Model_ones (l : Launch) (G : zG) (b0 : Int32) (hb0 : zI b0 0 2147483647) : zM l G y_Model_ones prog_14_method_54_code 3 (Option.some Jvm.ClassFile.FieldType.int) m_s17_Model_ones [.int b0] [] (fun v w => ∃ (e0 : Int32), v = some (.int e0) ∧ w = []) := by
  refine z_start (by decide +kernel) (Nat.le_of_ble_eq_true rfl) ?_
  intro p e s m below meth c A Z hr hnm hA hP hD hS ls hl
  have Z : zC p s m _ meth c prog_14_method_54_code 3 "TraceMachinesModel" G := Z
  obtain ⟨hx, hb, hml, hown, hts, hK, hN, hlocks⟩ := id Z
  have hl : lv_has ls 3 [(0, .int b0)] := hl
  refine lv_iconst (v := 0) hx hb d_Model_ones_0 (by decide) ?_
  refine lv_istore_n (lv' := [(1, .int 0), (0, .int b0)]) hx hb d_Model_ones_1 rfl hl (by decide) rfl (fun ls hl => ?_)
  refine lv_iload_n hx hb d_Model_ones_2 rfl (lv_at hl 1 rfl) ?_
  refine lv_istore_n (lv' := [(2, .int b0), (1, .int 0), (0, .int b0)]) hx hb d_Model_ones_3 rfl hl (by decide) rfl (fun ls hl => ?_)
  suffices key : ∀ (k_10 : Nat) (y_11 : Int32) (y_12 : Int32) (H : Heap) (locs : List Loc) (ls : Array Slot), (y_11).toBitVec.toNat < k_10 → va_P G.1 classes [] H → va_D A [] → va_S A s.heap H locs → lv_has ls 3 [(2, .int y_11), (1, .int y_12), (0, .int b0)] → W p l e m_s17_Model_ones s m ([.int b0] : List Value).toArray below meth c H locs 0 0 (MQ below (zQ G (fun v w => ∃ (e0 : Int32), v = some (.int e0) ∧ w = []) A) ([.int b0] : List Value).toArray s m_s17_Model_ones.cells m_s17_Model_ones.slots A) (F0 m 4 ls []) by
    exact key 4294967296 (b0) (0) _ _ _  (Nat.lt_of_lt_of_le (b0).toBitVec.isLt (by decide)) hP hD hS (lv_sub hl [0, 1, 2] rfl)
  intro k_10
  induction k_10 with
  | zero =>
    intro y_11 y_12 H locs ls hmk_10 hP hD hS hl
    exfalso; omega
  | succ k_10 ihk_10 =>
    intro y_11 y_12 H locs ls hmk_10 hP hD hS hl
    refine lv_iload_n hx hb d_Model_ones_4 rfl (lv_at hl 0 rfl) ?_
    refine lv_if_eq (tgt := 20) hx hb d_Model_ones_5 (by decide) (fun hc_13 => ?_) (fun hc_13 => ?_)
    · have _nhc_13 := hc_13
      have ni_14 := (fa_eq _ _).mp hc_13
      rw [li_0] at ni_14
      have hv_15 : zI y_11 0 0 := zI.eq_l (zI_all y_11) zc_0 hc_13
      refine lv_iload_n hx hb d_Model_ones_20 rfl (lv_at hl 1 rfl) ?_
      exact z_iret hx hb hr hlocks hP hD hS (Nat.le_of_ble_eq_true rfl) (Nat.le_of_ble_eq_true rfl) d_Model_ones_21 ⟨y_12, rfl, rfl⟩
    · have _nhc_13 := hc_13
      have ni_16 : ¬ (y_11 : Int32).toInt = (0 : Int32).toInt := fun z => hc_13 ((fa_eq _ _).mpr z)
      simp only [li_0] at ni_16
      obtain ⟨v_17, ev_17⟩ : ∃ z : Int32, z = y_12 + 1 := ⟨_, rfl⟩
      refine lv_iinc (v := v_17) (lv' := [(1, .int v_17), (2, .int y_11), (0, .int b0)]) hx hb d_Model_ones_8 hl (k := 1) rfl (by rw [ev_17]; rfl) (by decide) rfl (fun ls hl => ?_)
      refine lv_iload_n hx hb d_Model_ones_11 rfl (lv_at hl 1 rfl) ?_
      refine lv_iload_n hx hb d_Model_ones_12 rfl (lv_at hl 1 rfl) ?_
      refine lv_iconst (v := 1) hx hb d_Model_ones_13 (by decide) ?_
      refine lv_isub hx hb d_Model_ones_14 ?_
      refine lv_topi (fun v_18 ev_18 => ?_)
      refine lv_iand hx hb d_Model_ones_15 ?_
      refine lv_topi (fun v_19 ev_19 => ?_)
      refine lv_istore_n (lv' := [(2, .int v_19), (1, .int v_17), (0, .int b0)]) hx hb d_Model_ones_16 rfl hl (by decide) rfl (fun ls hl => ?_)
      refine lv_goto (tgt := 4) hx hb d_Model_ones_17 (by decide) ?_
      exact ihk_10 (v_19) (v_17) _ _ _  (z_dec32 ev_18 ev_19 (by omega) hmk_10) hP hD hS (lv_sub hl [0, 1, 2] rfl)
theorem d_Model_coversAll_93 : decode prog_14_method_56_code 93 = .ok (.ireturn, 1) := by decide +kernel
abbrev m_s2_Model_coversAll : Room := { frames := 0, cells := 0, slots := 0, locals := 0 }
set_option maxHeartbeats 4000000 in
set_option maxRecDepth 100000 in
theorem s2_Model_coversAll (l : Launch) (G : zG) (b0 : Nat) (b1 : Int32) (b2 : Int32) (b3 : Nat) (b4 : Nat) (b5 : Nat) (b6 : Nat) (b7 : Int32) (b8 : Nat) (b9 : Int32) (b10 : Int32) (b11 : Int32) (b12 : Int32) (b13 : Nat) (b14 : Nat) (b15 : Nat) (b16 : Int32) (b17 : Nat) (b18 : Nat) (b19 : Nat) (b20 : Nat) (b21 : Nat) (b22 : Nat) (b23 : Nat) (b24 : Nat) (b25 : Nat) (b26 : Nat) (b27 : Nat) (b28 : Nat) (b29 : Int32) (b30 : Nat) (b31 : Nat) (b32 : Int32) (b33 : Int32) (b34 : Int32) (b35 : Int32) (b36 : Nat) (b37 : Nat) (b38 : Nat) (b39 : Nat) (b40 : Nat) (b41 : Nat) (b42 : Nat) (b43 : Int32) (b44 : Nat) (b45 : Nat) (b46 : Int32) (b47 : Nat) (b48 : Nat) (b49 : Nat) (b50 : Nat) (b51 : Nat) (b52 : Int32) (b53 : Nat) (b54 : Nat) (b55 : Nat) (b56 : Nat → Int64) (b57 : Nat → Int64) (hb1 : zI b1 0 1048575) (hb7 : zI b7 0 8) (hb9 : zI b9 0 240) (hb10 : zI b10 0 240) (hb12 : zI b12 0 1) (hb16 : zI b16 0 12) (hb29 : zI b29 0 1) (hb32 : zI b32 0 1) (hb43 : zI b43 0 1000) (hb46 : zI b46 0 1000) (hb52 : zI b52 0 400) : zM l G y_Model_coversAll prog_14_method_56_code 6 (Option.some Jvm.ClassFile.FieldType.boolean) m_s2_Model_coversAll [.ref b0, .int b1] [(b0, .inr (12, [.int b2, .ref b3, .ref b4, .ref b5, .ref b6, .int b7, .ref b8, .int b9, .int b10, .int b11, .int b12, .ref b13, .ref b14, .ref b15, .int b16, .ref b17, .ref b18, .ref b19, .ref b20, .ref b21, .ref b22, .ref b23, .ref b24, .ref b25, .ref b26, .ref b27, .ref b28, .int b29, .ref b30, .ref b31, .int b32, .int b33, .int b34, .int b35, .ref b36, .ref b37, .ref b38, .ref b39, .ref b40, .ref b41, .ref b42, .int b43, .ref b44, .ref b45, .int b46, .ref b47, .ref b48, .ref b49, .ref b50, .ref b51, .int b52, .ref b53, .ref b54, .ref b55])), (b36, .inl (G.2 1, 4096, .inr (.inl b56))), (b37, .inl (G.2 1, 4096, .inr (.inl b57)))] (fun v w => ∃ (e0 : Int32), v = some (.int e0) ∧ w = [(b0, .inr (12, [.int b2, .ref b3, .ref b4, .ref b5, .ref b6, .int b7, .ref b8, .int b9, .int b10, .int b11, .int b12, .ref b13, .ref b14, .ref b15, .int b16, .ref b17, .ref b18, .ref b19, .ref b20, .ref b21, .ref b22, .ref b23, .ref b24, .ref b25, .ref b26, .ref b27, .ref b28, .int b29, .ref b30, .ref b31, .int b32, .int b33, .int b34, .int b35, .ref b36, .ref b37, .ref b38, .ref b39, .ref b40, .ref b41, .ref b42, .int b43, .ref b44, .ref b45, .int b46, .ref b47, .ref b48, .ref b49, .ref b50, .ref b51, .int b52, .ref b53, .ref b54, .ref b55])), (b36, .inl (G.2 1, 4096, .inr (.inl b56))), (b37, .inl (G.2 1, 4096, .inr (.inl b57)))] ∧ (zI e0 0 1)) := by
  refine z_start (by decide +kernel) (Nat.le_of_ble_eq_true rfl) ?_
  intro p e s m below meth c A Z hr hnm hA hP hD hS ls hl
  have Z : zC p s m _ meth c prog_14_method_56_code 6 "TraceMachinesModel" G := Z
  obtain ⟨hx, hb, hml, hown, hts, hK, hN, hlocks⟩ := id Z
  have hl : lv_has ls 6 [(0, .ref b0), (1, .int b1)] := hl
  refine lv_iconst (v := 4) hx hb d_Model_coversAll_0 (by decide) ?_
  refine lv_iload_n hx hb d_Model_coversAll_1 rfl (lv_at hl 1 rfl) ?_
  refine lv_sipush (v := 1023) hx hb d_Model_coversAll_2 (by decide) ?_
  refine lv_iand hx hb d_Model_coversAll_5 ?_
  refine lv_topi (fun v_1 ev_1 => ?_)
  have hv_1 := zI_and (k := 10) (h := 1023) (by decide +kernel) ev_1 (by decide)
  refine lv_imul hx hb d_Model_coversAll_6 ?_
  refine lv_topi (fun v_2 ev_2 => ?_)
  obtain ⟨qv_2, hv_2⟩ := zI_mul (l := 0) (h := 4092) zc_4 hv_1 ev_2 (by decide)
  rw [li_4] at qv_2
  refine lv_istore_n (lv' := [(2, .int v_2), (0, .ref b0), (1, .int b1)]) hx hb d_Model_coversAll_7 rfl hl (by decide) rfl (fun ls hl => ?_)
  refine lv_iconst (v := 4) hx hb d_Model_coversAll_8 (by decide) ?_
  refine lv_iload_n hx hb d_Model_coversAll_9 rfl (lv_at hl 2 rfl) ?_
  refine lv_bipush (v := 10) hx hb d_Model_coversAll_10 (by decide) ?_
  refine lv_ishr hx hb d_Model_coversAll_12 ?_
  refine lv_topi (fun v_3 ev_3 => ?_)
  obtain ⟨qv_3, hv_3⟩ := zI_shr (l := 0) (h := 1023) (k := 10) hb1 (by decide +kernel) ev_3 (by decide)
  refine lv_imul hx hb d_Model_coversAll_13 ?_
  refine lv_topi (fun v_4 ev_4 => ?_)
  obtain ⟨qv_4, hv_4⟩ := zI_mul (l := 0) (h := 4092) zc_4 hv_3 ev_4 (by decide)
  rw [li_4] at qv_4
  refine lv_istore_n (lv' := [(3, .int v_4), (2, .int v_2), (0, .ref b0), (1, .int b1)]) hx hb d_Model_coversAll_14 rfl hl (by decide) rfl (fun ls hl => ?_)
  refine lv_iconst (v := 1) hx hb d_Model_coversAll_15 (by decide) ?_
  refine lv_istore (lv' := [(4, .int 1), (3, .int v_4), (2, .int v_2), (0, .ref b0), (1, .int b1)]) hx hb d_Model_coversAll_16 hl (by decide) rfl (fun ls hl => ?_)
  refine lv_iconst (v := 0) hx hb d_Model_coversAll_18 (by decide) ?_
  refine lv_istore (lv' := [(5, .int 0), (4, .int 1), (3, .int v_4), (2, .int v_2), (0, .ref b0), (1, .int b1)]) hx hb d_Model_coversAll_19 hl (by decide) rfl (fun ls hl => ?_)
  suffices key : ∀ (k_34 : Nat) (y_35 : Int32) (y_36 : Int32) (H : Heap) (locs : List Loc) (ls : Array Slot), (zI y_35 0 4) → (zI y_36 0 1) → (4 : Int) - y_35.toInt < (k_34 : Int) → va_P G.1 classes [(b0, .inr (12, [.int b2, .ref b3, .ref b4, .ref b5, .ref b6, .int b7, .ref b8, .int b9, .int b10, .int b11, .int b12, .ref b13, .ref b14, .ref b15, .int b16, .ref b17, .ref b18, .ref b19, .ref b20, .ref b21, .ref b22, .ref b23, .ref b24, .ref b25, .ref b26, .ref b27, .ref b28, .int b29, .ref b30, .ref b31, .int b32, .int b33, .int b34, .int b35, .ref b36, .ref b37, .ref b38, .ref b39, .ref b40, .ref b41, .ref b42, .int b43, .ref b44, .ref b45, .int b46, .ref b47, .ref b48, .ref b49, .ref b50, .ref b51, .int b52, .ref b53, .ref b54, .ref b55])), (b36, .inl (G.2 1, 4096, .inr (.inl b56))), (b37, .inl (G.2 1, 4096, .inr (.inl b57)))] H → va_D A [(b0, .inr (12, [.int b2, .ref b3, .ref b4, .ref b5, .ref b6, .int b7, .ref b8, .int b9, .int b10, .int b11, .int b12, .ref b13, .ref b14, .ref b15, .int b16, .ref b17, .ref b18, .ref b19, .ref b20, .ref b21, .ref b22, .ref b23, .ref b24, .ref b25, .ref b26, .ref b27, .ref b28, .int b29, .ref b30, .ref b31, .int b32, .int b33, .int b34, .int b35, .ref b36, .ref b37, .ref b38, .ref b39, .ref b40, .ref b41, .ref b42, .int b43, .ref b44, .ref b45, .int b46, .ref b47, .ref b48, .ref b49, .ref b50, .ref b51, .int b52, .ref b53, .ref b54, .ref b55])), (b36, .inl (G.2 1, 4096, .inr (.inl b56))), (b37, .inl (G.2 1, 4096, .inr (.inl b57)))] → va_S A s.heap H locs → lv_has ls 6 [(5, .int y_35), (4, .int y_36), (3, .int v_4), (2, .int v_2), (0, .ref b0), (1, .int b1)] → W p l e m_s2_Model_coversAll s m ([.ref b0, .int b1] : List Value).toArray below meth c H locs 0 0 (MQ below (zQ G (fun v w => ∃ (e0 : Int32), v = some (.int e0) ∧ w = [(b0, .inr (12, [.int b2, .ref b3, .ref b4, .ref b5, .ref b6, .int b7, .ref b8, .int b9, .int b10, .int b11, .int b12, .ref b13, .ref b14, .ref b15, .int b16, .ref b17, .ref b18, .ref b19, .ref b20, .ref b21, .ref b22, .ref b23, .ref b24, .ref b25, .ref b26, .ref b27, .ref b28, .int b29, .ref b30, .ref b31, .int b32, .int b33, .int b34, .int b35, .ref b36, .ref b37, .ref b38, .ref b39, .ref b40, .ref b41, .ref b42, .int b43, .ref b44, .ref b45, .int b46, .ref b47, .ref b48, .ref b49, .ref b50, .ref b51, .int b52, .ref b53, .ref b54, .ref b55])), (b36, .inl (G.2 1, 4096, .inr (.inl b56))), (b37, .inl (G.2 1, 4096, .inr (.inl b57)))] ∧ (zI e0 0 1)) A) ([.ref b0, .int b1] : List Value).toArray s m_s2_Model_coversAll.cells m_s2_Model_coversAll.slots A) (F0 m 21 ls []) by
    exact key 5 (0) (1) _ _ _ (zI.wk (l' := 0) (h' := 4) zc_0 (by decide)) (zI.wk (l' := 0) (h' := 1) zc_1 (by decide)) (zm_upi (zI.wk (l' := 0) (h' := 4) zc_0 (by decide)) (by decide)) hP hD hS (lv_sub hl [0, 1, 2, 3, 4, 5] rfl)
  intro k_34
  induction k_34 with
  | zero =>
    intro y_35 y_36 H locs ls hy_35 hy_36 hmk_34 hP hD hS hl
    exact (zm_up0 hy_35 hmk_34).elim
  | succ k_34 ihk_34 =>
    intro y_35 y_36 H locs ls hy_35 hy_36 hmk_34 hP hD hS hl
    refine lv_iload hx hb d_Model_coversAll_21 (lv_at hl 0 rfl) ?_
    refine lv_iconst (v := 4) hx hb d_Model_coversAll_23 (by decide) ?_
    refine lv_icmp_ge (tgt := 91) hx hb d_Model_coversAll_24 (by decide) (fun hc_37 => ?_) (fun hc_37 => ?_)
    · have _nhc_37 := hc_37
      have ni_38 := (fa_le _ _).mp hc_37
      rw [li_4] at ni_38
      have hv_39 : zI y_35 4 4 := zI.le_r zc_4 hy_35 hc_37 (by decide)
      refine lv_iload hx hb d_Model_coversAll_91 (lv_at hl 1 rfl) ?_
      exact z_zret hx hb hr hlocks (zi_nb hy_36) hP hD hS (Nat.le_of_ble_eq_true rfl) (Nat.le_of_ble_eq_true rfl) d_Model_coversAll_93 ⟨y_36, rfl, rfl, hy_36⟩
    · have _nhc_37 := hc_37
      have ni_40 := (fa_lt _ _).mp (zi_nle hc_37)
      rw [li_4] at ni_40
      have hv_41 : zI y_35 0 3 := zI.lt_l hy_35 zc_4 (zi_nle hc_37) (by decide)
      refine lv_iload hx hb d_Model_coversAll_27 (lv_at hl 1 rfl) ?_
      refine lv_if_eq (tgt := 82) hx hb d_Model_coversAll_29 (by decide) (fun hc_42 => ?_) (fun hc_42 => ?_)
      · have _nhc_42 := hc_42
        have ni_43 := (fa_eq _ _).mp hc_42
        rw [li_0] at ni_43
        have hv_44 : zI y_36 0 0 := zI.eq_l hy_36 zc_0 hc_42
        refine lv_iconst (v := 0) hx hb d_Model_coversAll_82 (by decide) ?_
        refine lv_istore (lv' := [(4, .int 0), (5, .int y_35), (3, .int v_4), (2, .int v_2), (0, .ref b0), (1, .int b1)]) hx hb d_Model_coversAll_83 hl (by decide) rfl (fun ls hl => ?_)
        obtain ⟨v_45, ev_45⟩ : ∃ z : Int32, z = y_35 + 1 := ⟨_, rfl⟩
        obtain ⟨qv_45, hv_45⟩ := zI_add (l := 1) (h := 4) hv_41 zc_1 ev_45 (by decide)
        rw [li_1] at qv_45
        refine lv_iinc (v := v_45) (lv' := [(5, .int v_45), (4, .int 0), (3, .int v_4), (2, .int v_2), (0, .ref b0), (1, .int b1)]) hx hb d_Model_coversAll_85 hl (k := 1) rfl (by rw [ev_45]; rfl) (by decide) rfl (fun ls hl => ?_)
        refine lv_goto (tgt := 21) hx hb d_Model_coversAll_88 (by decide) ?_
        exact ihk_34 (v_45) (0) _ _ _ (zI.wk (l' := 0) (h' := 4) hv_45 (by decide)) (zI.wk (l' := 0) (h' := 1) zc_0 (by decide)) (zm_up qv_45 hmk_34 (by decide)) hP hD hS (lv_sub hl [0, 1, 2, 3, 4, 5] rfl)
      · have _nhc_42 := hc_42
        have ni_46 : ¬ (y_36 : Int32).toInt = (0 : Int32).toInt := fun z => hc_42 ((fa_eq _ _).mpr z)
        simp only [li_0] at ni_46
        have hv_47 : zI y_36 1 1 := zI.ne_lo hy_36 zc_0 hc_42 (by decide)
        refine lv_aload_n hx hb d_Model_coversAll_32 rfl (lv_at hl 4 rfl) ?_
        refine va_get (D := G.1) (ci := 12) (v := .ref b36) (C := R_Model) (T := F_Model) (N := 54) hx hb hts i_Model hown hK hP 0 rfl rfl 34 (by decide) (hts _ q1143) (fun _ h9 => h9) rfl d_Model_coversAll_33 ?_
        refine lv_iload_n hx hb d_Model_coversAll_36 rfl (lv_at hl 3 rfl) ?_
        refine lv_iload hx hb d_Model_coversAll_37 (lv_at hl 0 rfl) ?_
        refine lv_iadd hx hb d_Model_coversAll_39 ?_
        refine lv_topi (fun v_48 ev_48 => ?_)
        obtain ⟨qv_48, hv_48⟩ := zI_add (l := 0) (h := 4095) hv_2 hv_41 ev_48 (by decide)
        refine va_lald hx hb hK hP 1 1 rfl rfl (zI.inn hv_48 (by decide)) d_Model_coversAll_40 ?_
        refine lv_topl (fun v_49 ev_49 => ?_)
        refine lv_aload_n hx hb d_Model_coversAll_41 rfl (lv_at hl 4 rfl) ?_
        refine va_get (D := G.1) (ci := 12) (v := .ref b37) (C := R_Model) (T := F_Model) (N := 54) hx hb hts i_Model hown hK hP 0 rfl rfl 35 (by decide) (hts _ q1144) (fun _ h9 => h9) rfl d_Model_coversAll_42 ?_
        refine lv_iload_n hx hb d_Model_coversAll_45 rfl (lv_at hl 2 rfl) ?_
        refine lv_iload hx hb d_Model_coversAll_46 (lv_at hl 0 rfl) ?_
        refine lv_iadd hx hb d_Model_coversAll_48 ?_
        refine lv_topi (fun v_50 ev_50 => ?_)
        obtain ⟨qv_50, hv_50⟩ := zI_add (l := 0) (h := 4095) hv_4 hv_41 ev_50 (by decide)
        refine va_lald hx hb hK hP 2 1 rfl rfl (zI.inn hv_50 (by decide)) d_Model_coversAll_49 ?_
        refine lv_topl (fun v_51 ev_51 => ?_)
        refine lv_lor hx hb d_Model_coversAll_50 ?_
        refine lv_topl (fun v_52 ev_52 => ?_)
        refine lv_aload_n hx hb d_Model_coversAll_51 rfl (lv_at hl 4 rfl) ?_
        refine va_get (D := G.1) (ci := 12) (v := .ref b36) (C := R_Model) (T := F_Model) (N := 54) hx hb hts i_Model hown hK hP 0 rfl rfl 34 (by decide) (hts _ q1143) (fun _ h9 => h9) rfl d_Model_coversAll_52 ?_
        refine lv_sipush (v := 4092) hx hb d_Model_coversAll_55 (by decide) ?_
        refine lv_iload hx hb d_Model_coversAll_58 (lv_at hl 0 rfl) ?_
        refine lv_iadd hx hb d_Model_coversAll_60 ?_
        refine lv_topi (fun v_53 ev_53 => ?_)
        obtain ⟨qv_53, hv_53⟩ := zI_add (l := 4092) (h := 4095) zc_4092 hv_41 ev_53 (by decide)
        rw [li_4092] at qv_53
        refine va_lald hx hb hK hP 1 1 rfl rfl (zI.inn hv_53 (by decide)) d_Model_coversAll_61 ?_
        refine lv_topl (fun v_54 ev_54 => ?_)
        refine lv_aload_n hx hb d_Model_coversAll_62 rfl (lv_at hl 4 rfl) ?_
        refine va_get (D := G.1) (ci := 12) (v := .ref b37) (C := R_Model) (T := F_Model) (N := 54) hx hb hts i_Model hown hK hP 0 rfl rfl 35 (by decide) (hts _ q1144) (fun _ h9 => h9) rfl d_Model_coversAll_63 ?_
        refine lv_sipush (v := 4092) hx hb d_Model_coversAll_66 (by decide) ?_
        refine lv_iload hx hb d_Model_coversAll_69 (lv_at hl 0 rfl) ?_
        refine lv_iadd hx hb d_Model_coversAll_71 ?_
        refine lv_topi (fun v_55 ev_55 => ?_)
        obtain rfl : v_53 = v_55 := ev_53.trans ev_55.symm
        refine va_lald hx hb hK hP 2 1 rfl rfl (zI.inn hv_53 (by decide)) d_Model_coversAll_72 ?_
        refine lv_topl (fun v_56 ev_56 => ?_)
        refine lv_lor hx hb d_Model_coversAll_73 ?_
        refine lv_topl (fun v_57 ev_57 => ?_)
        refine W.lcmp hx hb d_Model_coversAll_74 ?_
        refine lv_topi (fun v_58 ev_58 => ?_)
        refine lv_if_ne (tgt := 82) hx hb d_Model_coversAll_75 (by decide) (fun hc_59 => ?_) (fun hc_59 => ?_)
        · have ni_60 := hc_59
          rw [ev_58] at ni_60
          simp only [lg_cmp_lt, lg_cmp_le, lg_cmp_gt, lg_cmp_ge, lg_cmp_eq, fa_lt64, fa_le64, fa_eq64, Int32.toInt_toInt64] at ni_60
          refine lv_iconst (v := 0) hx hb d_Model_coversAll_82 (by decide) ?_
          refine lv_istore (lv' := [(4, .int 0), (5, .int y_35), (3, .int v_4), (2, .int v_2), (0, .ref b0), (1, .int b1)]) hx hb d_Model_coversAll_83 hl (by decide) rfl (fun ls hl => ?_)
          obtain ⟨v_61, ev_61⟩ : ∃ z : Int32, z = y_35 + 1 := ⟨_, rfl⟩
          obtain ⟨qv_61, hv_61⟩ := zI_add (l := 1) (h := 4) hv_41 zc_1 ev_61 (by decide)
          rw [li_1] at qv_61
          refine lv_iinc (v := v_61) (lv' := [(5, .int v_61), (4, .int 0), (3, .int v_4), (2, .int v_2), (0, .ref b0), (1, .int b1)]) hx hb d_Model_coversAll_85 hl (k := 1) rfl (by rw [ev_61]; rfl) (by decide) rfl (fun ls hl => ?_)
          refine lv_goto (tgt := 21) hx hb d_Model_coversAll_88 (by decide) ?_
          exact ihk_34 (v_61) (0) _ _ _ (zI.wk (l' := 0) (h' := 4) hv_61 (by decide)) (zI.wk (l' := 0) (h' := 1) zc_0 (by decide)) (zm_up qv_61 hmk_34 (by decide)) hP hD hS (lv_sub hl [0, 1, 2, 3, 4, 5] rfl)
        · have ni_62 := hc_59
          rw [ev_58] at ni_62
          simp only [lg_cmp_lt, lg_cmp_le, lg_cmp_gt, lg_cmp_ge, lg_cmp_eq, fa_lt64, fa_le64, fa_eq64, Int32.toInt_toInt64] at ni_62
          refine lv_iconst (v := 1) hx hb d_Model_coversAll_78 (by decide) ?_
          refine lv_goto (tgt := 83) hx hb d_Model_coversAll_79 (by decide) ?_
          refine lv_istore (lv' := [(4, .int 1), (5, .int y_35), (3, .int v_4), (2, .int v_2), (0, .ref b0), (1, .int b1)]) hx hb d_Model_coversAll_83 hl (by decide) rfl (fun ls hl => ?_)
          obtain ⟨v_63, ev_63⟩ : ∃ z : Int32, z = y_35 + 1 := ⟨_, rfl⟩
          obtain ⟨qv_63, hv_63⟩ := zI_add (l := 1) (h := 4) hv_41 zc_1 ev_63 (by decide)
          rw [li_1] at qv_63
          refine lv_iinc (v := v_63) (lv' := [(5, .int v_63), (4, .int 1), (3, .int v_4), (2, .int v_2), (0, .ref b0), (1, .int b1)]) hx hb d_Model_coversAll_85 hl (k := 1) rfl (by rw [ev_63]; rfl) (by decide) rfl (fun ls hl => ?_)
          refine lv_goto (tgt := 21) hx hb d_Model_coversAll_88 (by decide) ?_
          exact ihk_34 (v_63) (1) _ _ _ (zI.wk (l' := 0) (h' := 4) hv_63 (by decide)) (zI.wk (l' := 0) (h' := 1) zc_1 (by decide)) (zm_up qv_63 hmk_34 (by decide)) hP hD hS (lv_sub hl [0, 1, 2, 3, 4, 5] rfl)
abbrev m_s1_Model_cover : Room := { frames := 5, cells := 0, slots := 0, locals := 124 }
set_option maxHeartbeats 4000000 in
set_option maxRecDepth 100000 in
theorem s1_Model_cover (l : Launch) (G : zG) (b0 : Nat) (b1 : Int32) (b2 : Int32) (b3 : Nat) (b4 : Nat) (b5 : Nat) (b6 : Nat) (b7 : Int32) (b8 : Nat) (b9 : Int32) (b10 : Int32) (b11 : Int32) (b12 : Int32) (b13 : Nat) (b14 : Nat) (b15 : Nat) (b16 : Int32) (b17 : Nat) (b18 : Nat) (b19 : Nat) (b20 : Nat) (b21 : Nat) (b22 : Nat) (b23 : Nat) (b24 : Nat) (b25 : Nat) (b26 : Nat) (b27 : Nat) (b28 : Nat) (b29 : Int32) (b30 : Nat) (b31 : Nat) (b32 : Int32) (b33 : Int32) (b34 : Int32) (b35 : Int32) (b36 : Nat) (b37 : Nat) (b38 : Nat) (b39 : Nat) (b40 : Nat) (b41 : Nat) (b42 : Nat) (b43 : Int32) (b44 : Nat) (b45 : Nat) (b46 : Int32) (b47 : Nat) (b48 : Nat) (b49 : Nat) (b50 : Nat) (b51 : Nat) (b52 : Int32) (b53 : Nat) (b54 : Nat) (b55 : Nat) (b56 : Nat → Int32) (b57 : Nat → Int32) (b58 : Nat → Int32) (b59 : Nat → Int32) (b60 : Nat → Int32) (b61 : Nat → Int32) (b62 : Nat → Int32) (b63 : Nat → Int32) (b64 : Nat → Int32) (b65 : Nat → Int32) (b66 : Nat → Int32) (b67 : Nat → Int32) (b68 : Nat → Int32) (b69 : Nat → Int64) (b70 : Nat → Int64) (b71 : Nat → Int64) (hb7 : zI b7 0 8) (hb9 : zI b9 0 240) (hb10 : zI b10 0 240) (hb12 : zI b12 0 1) (hb16 : zI b16 0 12) (hb29 : zI b29 0 1) (hb32 : zI b32 0 1) (hb43 : zI b43 0 1000) (hb46 : zI b46 0 1000) (hb52 : zI b52 0 400) (hb56 : zW5 b56) (hb57 : zR b57 0 241) (hb58 : zR b58 (-1) 240) (hb59 : zqa qP b59) (hb61 : zqa qC b61) (hb62 : zR b62 0 240) (hb63 : zR b63 0 241) (hb64 : zR b64 0 240) (hb67 : zR b67 0 240) (hb68 : zqa qE b68) : zM l G y_Model_cover prog_14_method_57_code 6 (Option.some Jvm.ClassFile.FieldType.int) m_s1_Model_cover [.ref b0, .int b1] [(b0, .inr (12, [.int b2, .ref b3, .ref b4, .ref b5, .ref b6, .int b7, .ref b8, .int b9, .int b10, .int b11, .int b12, .ref b13, .ref b14, .ref b15, .int b16, .ref b17, .ref b18, .ref b19, .ref b20, .ref b21, .ref b22, .ref b23, .ref b24, .ref b25, .ref b26, .ref b27, .ref b28, .int b29, .ref b30, .ref b31, .int b32, .int b33, .int b34, .int b35, .ref b36, .ref b37, .ref b38, .ref b39, .ref b40, .ref b41, .ref b42, .int b43, .ref b44, .ref b45, .int b46, .ref b47, .ref b48, .ref b49, .ref b50, .ref b51, .int b52, .ref b53, .ref b54, .ref b55])), (b3, .inl (G.2 0, 503, .inl b56)), (b17, .inl (G.2 0, 2, .inl b57)), (b18, .inl (G.2 0, 4820, .inl b58)), (b19, .inl (G.2 0, 520, .inl b59)), (b20, .inl (G.2 0, 9640, .inl b60)), (b21, .inl (G.2 0, 482, .inl b61)), (b22, .inl (G.2 0, 482, .inl b62)), (b23, .inl (G.2 0, 2, .inl b63)), (b24, .inl (G.2 0, 482, .inl b64)), (b25, .inl (G.2 0, 482, .inl b65)), (b26, .inl (G.2 0, 482, .inl b66)), (b27, .inl (G.2 0, 2, .inl b67)), (b28, .inl (G.2 0, 2880, .inl b68)), (b36, .inl (G.2 1, 4096, .inr (.inl b69))), (b37, .inl (G.2 1, 4096, .inr (.inl b70))), (b38, .inl (G.2 1, 80, .inr (.inl b71)))] (fun v w => ∃ (e0 : Int32), ∃ (e1 : Int32), ∃ (e2 : Nat → Int32), ∃ (e3 : Nat → Int32), ∃ (e4 : Nat → Int32), ∃ (e5 : Nat → Int32), ∃ (e6 : Nat → Int32), ∃ (e7 : Nat → Int32), ∃ (e8 : Nat → Int32), ∃ (e9 : Nat → Int32), ∃ (e10 : Nat → Int32), ∃ (e11 : Nat → Int32), ∃ (e12 : Nat → Int32), ∃ (e13 : Nat → Int32), ∃ (e14 : Nat → Int64), ∃ (e15 : Nat → Int64), ∃ (e16 : Nat → Int64), v = some (.int e0) ∧ w = [(b0, .inr (12, [.int 0, .ref b3, .ref b4, .ref b5, .ref b6, .int b7, .ref b8, .int b9, .int b10, .int b11, .int b12, .ref b13, .ref b14, .ref b15, .int b16, .ref b17, .ref b18, .ref b19, .ref b20, .ref b21, .ref b22, .ref b23, .ref b24, .ref b25, .ref b26, .ref b27, .ref b28, .int e1, .ref b30, .ref b31, .int b32, .int b33, .int b34, .int b35, .ref b36, .ref b37, .ref b38, .ref b39, .ref b40, .ref b41, .ref b42, .int b43, .ref b44, .ref b45, .int b46, .ref b47, .ref b48, .ref b49, .ref b50, .ref b51, .int b52, .ref b53, .ref b54, .ref b55])), (b3, .inl (G.2 0, 503, .inl b56)), (b17, .inl (G.2 0, 2, .inl e2)), (b18, .inl (G.2 0, 4820, .inl e3)), (b19, .inl (G.2 0, 520, .inl e4)), (b20, .inl (G.2 0, 9640, .inl e5)), (b21, .inl (G.2 0, 482, .inl e6)), (b22, .inl (G.2 0, 482, .inl e7)), (b23, .inl (G.2 0, 2, .inl e8)), (b24, .inl (G.2 0, 482, .inl e9)), (b25, .inl (G.2 0, 482, .inl e10)), (b26, .inl (G.2 0, 482, .inl e11)), (b27, .inl (G.2 0, 2, .inl e12)), (b28, .inl (G.2 0, 2880, .inl e13)), (b36, .inl (G.2 1, 4096, .inr (.inl e14))), (b37, .inl (G.2 1, 4096, .inr (.inl e15))), (b38, .inl (G.2 1, 80, .inr (.inl e16)))] ∧ (zI e0 (-2147483648) 1048575) ∧ (zI e1 0 1) ∧ (zR e2 0 241) ∧ (zR e3 (-1) 240) ∧ (zqa qP e4) ∧ (zqa qC e6) ∧ (zR e7 0 240) ∧ (zR e8 0 241) ∧ (zR e9 0 240) ∧ (zR e12 0 240) ∧ (zqa qE e13)) := by
  refine z_start (by decide +kernel) (Nat.le_of_ble_eq_true rfl) ?_
  intro p e s m below meth c A Z hr hnm hA hP hD hS ls hl
  have Z : zC p s m _ meth c prog_14_method_57_code 6 "TraceMachinesModel" G := Z
  obtain ⟨hx, hb, hml, hown, hts, hK, hN, hlocks⟩ := id Z
  have hl : lv_has ls 6 [(0, .ref b0), (1, .int b1)] := hl
  refine lv_aload_n hx hb d_Model_cover_0 rfl (lv_at hl 0 rfl) ?_
  refine lv_iconst (v := 0) hx hb d_Model_cover_1 (by decide) ?_
  refine va_put (D := G.1) (ci := 12) (v := .int 0) (ty := .int) (C := R_Model) (T := F_Model) (N := 54) hx hb hts i_Model t_Model t_Model_ok n_Model hown hK hP hD hS 0 rfl rfl 0 (by decide) (hts _ q1109) (fun _ h9 => h9) rfl (by decide +kernel) rfl rfl (Nat.le_of_ble_eq_true rfl) d_Model_cover_2 (fun H locs hP hD hS => ?_)
  have hP : va_P G.1 classes [(b0, .inr (12, [.int 0, .ref b3, .ref b4, .ref b5, .ref b6, .int b7, .ref b8, .int b9, .int b10, .int b11, .int b12, .ref b13, .ref b14, .ref b15, .int b16, .ref b17, .ref b18, .ref b19, .ref b20, .ref b21, .ref b22, .ref b23, .ref b24, .ref b25, .ref b26, .ref b27, .ref b28, .int b29, .ref b30, .ref b31, .int b32, .int b33, .int b34, .int b35, .ref b36, .ref b37, .ref b38, .ref b39, .ref b40, .ref b41, .ref b42, .int b43, .ref b44, .ref b45, .int b46, .ref b47, .ref b48, .ref b49, .ref b50, .ref b51, .int b52, .ref b53, .ref b54, .ref b55])), (b3, .inl (G.2 0, 503, .inl b56)), (b17, .inl (G.2 0, 2, .inl b57)), (b18, .inl (G.2 0, 4820, .inl b58)), (b19, .inl (G.2 0, 520, .inl b59)), (b20, .inl (G.2 0, 9640, .inl b60)), (b21, .inl (G.2 0, 482, .inl b61)), (b22, .inl (G.2 0, 482, .inl b62)), (b23, .inl (G.2 0, 2, .inl b63)), (b24, .inl (G.2 0, 482, .inl b64)), (b25, .inl (G.2 0, 482, .inl b65)), (b26, .inl (G.2 0, 482, .inl b66)), (b27, .inl (G.2 0, 2, .inl b67)), (b28, .inl (G.2 0, 2880, .inl b68)), (b36, .inl (G.2 1, 4096, .inr (.inl b69))), (b37, .inl (G.2 1, 4096, .inr (.inl b70))), (b38, .inl (G.2 1, 80, .inr (.inl b71)))] H := hP
  have hD := z_tie hP hD rfl
  refine lv_iload_n hx hb d_Model_cover_5 rfl (lv_at hl 1 rfl) ?_
  refine lv_i2l (v := b1.toInt64) hx hb d_Model_cover_6 rfl ?_
  refine lv_lconst (v := 0) hx hb d_Model_cover_7 (by decide) ?_
  refine lv_lconst (v := 1) hx hb d_Model_cover_8 (by decide) ?_
  refine z_callS (index := 138) (As := [.long b1.toInt64, .long 0, .long 1]) (rest := []) (wr := [(b0, .inr (12, [.int 0, .ref b3, .ref b4, .ref b5, .ref b6, .int b7, .ref b8, .int b9, .int b10, .int b11, .int b12, .ref b13, .ref b14, .ref b15, .int b16, .ref b17, .ref b18, .ref b19, .ref b20, .ref b21, .ref b22, .ref b23, .ref b24, .ref b25, .ref b26, .ref b27, .ref b28, .int b29, .ref b30, .ref b31, .int b32, .int b33, .int b34, .int b35, .ref b36, .ref b37, .ref b38, .ref b39, .ref b40, .ref b41, .ref b42, .int b43, .ref b44, .ref b45, .int b46, .ref b47, .ref b48, .ref b49, .ref b50, .ref b51, .int b52, .ref b53, .ref b54, .ref b55])), (b3, .inl (G.2 0, 503, .inl b56)), (b17, .inl (G.2 0, 2, .inl b57)), (b18, .inl (G.2 0, 4820, .inl b58)), (b19, .inl (G.2 0, 520, .inl b59)), (b20, .inl (G.2 0, 9640, .inl b60)), (b21, .inl (G.2 0, 482, .inl b61)), (b22, .inl (G.2 0, 482, .inl b62)), (b23, .inl (G.2 0, 2, .inl b63)), (b24, .inl (G.2 0, 482, .inl b64)), (b25, .inl (G.2 0, 482, .inl b65)), (b26, .inl (G.2 0, 482, .inl b66)), (b27, .inl (G.2 0, 2, .inl b67)), (b28, .inl (G.2 0, 2880, .inl b68)), (b36, .inl (G.2 1, 4096, .inr (.inl b69))), (b37, .inl (G.2 1, 4096, .inr (.inl b70))), (b38, .inl (G.2 1, 80, .inr (.inl b71)))]) Z (s2_Model_in l G (b1.toInt64) (0) (1)) hl.1 q1281 q1282 q14 q1283 ⟨by decide, by decide, by show _ = some 3; decide +kernel⟩ ⟨Nat.le_of_ble_eq_true rfl, Nat.le_of_ble_eq_true rfl⟩ ⟨Nat.le_of_ble_eq_true rfl, Nat.le_of_ble_eq_true rfl⟩ rfl (Nat.le_of_ble_eq_true rfl) d_Model_cover_9 hP hD hS hA [] [0, 1, 2, 3, 4, 5, 6, 7, 8, 9, 10, 11, 12, 13, 14, 15, 16] rfl rfl rfl rfl (by decide) (fun v w1 H locs hw_1 hP hD hS => ?_)
  rcases hw_1 with ⟨rfl, rfl, hq_2⟩ | ⟨rfl, rfl, hq_3, hq_4⟩ | ⟨rfl, rfl, hq_5, hq_6⟩
  · have hP : va_P G.1 classes [(b0, .inr (12, [.int 0, .ref b3, .ref b4, .ref b5, .ref b6, .int b7, .ref b8, .int b9, .int b10, .int b11, .int b12, .ref b13, .ref b14, .ref b15, .int b16, .ref b17, .ref b18, .ref b19, .ref b20, .ref b21, .ref b22, .ref b23, .ref b24, .ref b25, .ref b26, .ref b27, .ref b28, .int b29, .ref b30, .ref b31, .int b32, .int b33, .int b34, .int b35, .ref b36, .ref b37, .ref b38, .ref b39, .ref b40, .ref b41, .ref b42, .int b43, .ref b44, .ref b45, .int b46, .ref b47, .ref b48, .ref b49, .ref b50, .ref b51, .int b52, .ref b53, .ref b54, .ref b55])), (b3, .inl (G.2 0, 503, .inl b56)), (b17, .inl (G.2 0, 2, .inl b57)), (b18, .inl (G.2 0, 4820, .inl b58)), (b19, .inl (G.2 0, 520, .inl b59)), (b20, .inl (G.2 0, 9640, .inl b60)), (b21, .inl (G.2 0, 482, .inl b61)), (b22, .inl (G.2 0, 482, .inl b62)), (b23, .inl (G.2 0, 2, .inl b63)), (b24, .inl (G.2 0, 482, .inl b64)), (b25, .inl (G.2 0, 482, .inl b65)), (b26, .inl (G.2 0, 482, .inl b66)), (b27, .inl (G.2 0, 2, .inl b67)), (b28, .inl (G.2 0, 2880, .inl b68)), (b36, .inl (G.2 1, 4096, .inr (.inl b69))), (b37, .inl (G.2 1, 4096, .inr (.inl b70))), (b38, .inl (G.2 1, 80, .inr (.inl b71)))] H := hP
    have hD := z_tie hP hD rfl
    try simp only [Int32.toInt_toInt64, ll_0] at hq_2
    have hv_7 : zI b1 (-2147483648) (-1) := by have _a := hq_2; have _b := (zI_all b1); have _c := zcl_0; simp only [Int32.toInt_toInt64] at *; exact ⟨by omega, by omega⟩
    refine W.widen (k := 0) (n := 0) (Nat.le_of_ble_eq_true rfl) (Nat.le_of_ble_eq_true rfl) ?_
    refine lv_if_ne (tgt := 17) hx hb d_Model_cover_12 (by decide) (fun hc => absurd hc (by decide +kernel)) (fun _ => ?_)
    refine lv_iconst (v := (-1)) hx hb d_Model_cover_15 (by decide) ?_
    exact z_iret hx hb hr hlocks hP hD hS (Nat.le_of_ble_eq_true rfl) (Nat.le_of_ble_eq_true rfl) d_Model_cover_16 ⟨(-1), b29, b57, b58, b59, b60, b61, b62, b63, b64, b65, b66, b67, b68, b69, b70, b71, rfl, rfl, (zI.wk (l' := (-2147483648)) (h' := 1048575) zc_m1 (by decide)), hb29, hb57, hb58, hb59, hb61, hb62, hb63, hb64, hb67, hb68⟩
  · have hP : va_P G.1 classes [(b0, .inr (12, [.int 0, .ref b3, .ref b4, .ref b5, .ref b6, .int b7, .ref b8, .int b9, .int b10, .int b11, .int b12, .ref b13, .ref b14, .ref b15, .int b16, .ref b17, .ref b18, .ref b19, .ref b20, .ref b21, .ref b22, .ref b23, .ref b24, .ref b25, .ref b26, .ref b27, .ref b28, .int b29, .ref b30, .ref b31, .int b32, .int b33, .int b34, .int b35, .ref b36, .ref b37, .ref b38, .ref b39, .ref b40, .ref b41, .ref b42, .int b43, .ref b44, .ref b45, .int b46, .ref b47, .ref b48, .ref b49, .ref b50, .ref b51, .int b52, .ref b53, .ref b54, .ref b55])), (b3, .inl (G.2 0, 503, .inl b56)), (b17, .inl (G.2 0, 2, .inl b57)), (b18, .inl (G.2 0, 4820, .inl b58)), (b19, .inl (G.2 0, 520, .inl b59)), (b20, .inl (G.2 0, 9640, .inl b60)), (b21, .inl (G.2 0, 482, .inl b61)), (b22, .inl (G.2 0, 482, .inl b62)), (b23, .inl (G.2 0, 2, .inl b63)), (b24, .inl (G.2 0, 482, .inl b64)), (b25, .inl (G.2 0, 482, .inl b65)), (b26, .inl (G.2 0, 482, .inl b66)), (b27, .inl (G.2 0, 2, .inl b67)), (b28, .inl (G.2 0, 2880, .inl b68)), (b36, .inl (G.2 1, 4096, .inr (.inl b69))), (b37, .inl (G.2 1, 4096, .inr (.inl b70))), (b38, .inl (G.2 1, 80, .inr (.inl b71)))] H := hP
    have hD := z_tie hP hD rfl
    try simp only [Int32.toInt_toInt64, ll_0] at hq_3
    have hv_8 : zI b1 0 2147483647 := by have _a := hq_3; have _b := (zI_all b1); have _c := zcl_0; simp only [Int32.toInt_toInt64] at *; exact ⟨by omega, by omega⟩
    try simp only [Int32.toInt_toInt64, ll_1] at hq_4
    have hv_9 : zI b1 2 2147483647 := by have _a := hq_4; have _b := hv_8; have _c := zcl_1; simp only [Int32.toInt_toInt64] at *; exact ⟨by omega, by omega⟩
    refine W.widen (k := 0) (n := 0) (Nat.le_of_ble_eq_true rfl) (Nat.le_of_ble_eq_true rfl) ?_
    refine lv_if_ne (tgt := 17) hx hb d_Model_cover_12 (by decide) (fun hc => absurd hc (by decide +kernel)) (fun _ => ?_)
    refine lv_iconst (v := (-1)) hx hb d_Model_cover_15 (by decide) ?_
    exact z_iret hx hb hr hlocks hP hD hS (Nat.le_of_ble_eq_true rfl) (Nat.le_of_ble_eq_true rfl) d_Model_cover_16 ⟨(-1), b29, b57, b58, b59, b60, b61, b62, b63, b64, b65, b66, b67, b68, b69, b70, b71, rfl, rfl, (zI.wk (l' := (-2147483648)) (h' := 1048575) zc_m1 (by decide)), hb29, hb57, hb58, hb59, hb61, hb62, hb63, hb64, hb67, hb68⟩
  · have hP : va_P G.1 classes [(b0, .inr (12, [.int 0, .ref b3, .ref b4, .ref b5, .ref b6, .int b7, .ref b8, .int b9, .int b10, .int b11, .int b12, .ref b13, .ref b14, .ref b15, .int b16, .ref b17, .ref b18, .ref b19, .ref b20, .ref b21, .ref b22, .ref b23, .ref b24, .ref b25, .ref b26, .ref b27, .ref b28, .int b29, .ref b30, .ref b31, .int b32, .int b33, .int b34, .int b35, .ref b36, .ref b37, .ref b38, .ref b39, .ref b40, .ref b41, .ref b42, .int b43, .ref b44, .ref b45, .int b46, .ref b47, .ref b48, .ref b49, .ref b50, .ref b51, .int b52, .ref b53, .ref b54, .ref b55])), (b3, .inl (G.2 0, 503, .inl b56)), (b17, .inl (G.2 0, 2, .inl b57)), (b18, .inl (G.2 0, 4820, .inl b58)), (b19, .inl (G.2 0, 520, .inl b59)), (b20, .inl (G.2 0, 9640, .inl b60)), (b21, .inl (G.2 0, 482, .inl b61)), (b22, .inl (G.2 0, 482, .inl b62)), (b23, .inl (G.2 0, 2, .inl b63)), (b24, .inl (G.2 0, 482, .inl b64)), (b25, .inl (G.2 0, 482, .inl b65)), (b26, .inl (G.2 0, 482, .inl b66)), (b27, .inl (G.2 0, 2, .inl b67)), (b28, .inl (G.2 0, 2880, .inl b68)), (b36, .inl (G.2 1, 4096, .inr (.inl b69))), (b37, .inl (G.2 1, 4096, .inr (.inl b70))), (b38, .inl (G.2 1, 80, .inr (.inl b71)))] H := hP
    have hD := z_tie hP hD rfl
    try simp only [Int32.toInt_toInt64, ll_0] at hq_5
    have hv_10 : zI b1 0 2147483647 := by have _a := hq_5; have _b := (zI_all b1); have _c := zcl_0; simp only [Int32.toInt_toInt64] at *; exact ⟨by omega, by omega⟩
    try simp only [Int32.toInt_toInt64, ll_1] at hq_6
    have hv_11 : zI b1 0 1 := by have _a := hq_6; have _b := hv_10; have _c := zcl_1; simp only [Int32.toInt_toInt64] at *; exact ⟨by omega, by omega⟩
    refine W.widen (k := 0) (n := 0) (Nat.le_of_ble_eq_true rfl) (Nat.le_of_ble_eq_true rfl) ?_
    refine lv_if_ne (tgt := 17) hx hb d_Model_cover_12 (by decide) (fun _ => ?_) (fun hc => absurd hc (by decide +kernel))
    refine lv_aload_n hx hb d_Model_cover_17 rfl (lv_at hl 0 rfl) ?_
    refine z_callV (index := 254) (As := []) (rest := []) (wr := [(b36, .inl (G.2 1, 4096, .inr (.inl b69))), (b37, .inl (G.2 1, 4096, .inr (.inl b70))), (b38, .inl (G.2 1, 80, .inr (.inl b71)))]) Z (s1_Model_lay1 l G (b0) (0) (b3) (b4) (b5) (b6) (b7) (b8) (b9) (b10) (b11) (b12) (b13) (b14) (b15) (b16) (b17) (b18) (b19) (b20) (b21) (b22) (b23) (b24) (b25) (b26) (b27) (b28) (b29) (b30) (b31) (b32) (b33) (b34) (b35) (b36) (b37) (b38) (b39) (b40) (b41) (b42) (b43) (b44) (b45) (b46) (b47) (b48) (b49) (b50) (b51) (b52) (b53) (b54) (b55) (b56) (b57) (b58) (b59) (b60) (b61) (b62) (b63) (b64) (b65) (b66) (b67) (b68) hb7 hb9 hb10 hb12 hb16 hb29 hb32 hb43 hb46 hb52 hb56 hb57 hb58 hb59 hb61 hb62 hb63 hb64 hb67 hb68) hl.1 q1356 q1358 qs55 q14 q1359 ⟨by decide, by decide, by show _ = some 0; decide +kernel⟩ ⟨Nat.le_of_ble_eq_true rfl, Nat.le_of_ble_eq_true rfl⟩ ⟨Nat.le_of_ble_eq_true rfl, Nat.le_of_ble_eq_true rfl⟩ rfl (Nat.le_of_ble_eq_true rfl) d_Model_cover_18 hP hD hS hA 0 12 rfl rfl rfl [0, 1, 2, 3, 4, 5, 6, 7, 8, 9, 10, 11, 12, 13] [14, 15, 16] rfl rfl rfl rfl (by decide) (fun v w1 H locs hw_12 hP hD hS => ?_)
    refine Exists.elim hw_12 (fun x_13 hz_27 => Exists.elim hz_27 (fun f_14 hz_28 => Exists.elim hz_28 (fun f_15 hz_29 => Exists.elim hz_29 (fun f_16 hz_30 => Exists.elim hz_30 (fun f_17 hz_31 => Exists.elim hz_31 (fun f_18 hz_32 => Exists.elim hz_32 (fun f_19 hz_33 => Exists.elim hz_33 (fun f_20 hz_34 => Exists.elim hz_34 (fun f_21 hz_35 => Exists.elim hz_35 (fun f_22 hz_36 => Exists.elim hz_36 (fun f_23 hz_37 => Exists.elim hz_37 (fun f_24 hz_38 => Exists.elim hz_38 (fun f_25 hz_39 => ?_)))))))))))))
    clear hw_12 hz_27 hz_28 hz_29 hz_30 hz_31 hz_32 hz_33 hz_34 hz_35 hz_36 hz_37 hz_38
    obtain ⟨rfl, rfl, hx_13, hf_14, hf_15, hf_16, hf_18, hf_19, hf_20, hf_21, hf_24, hf_25, hfx_26⟩ := hz_39
    have hP : va_P G.1 classes [(b36, .inl (G.2 1, 4096, .inr (.inl b69))), (b37, .inl (G.2 1, 4096, .inr (.inl b70))), (b38, .inl (G.2 1, 80, .inr (.inl b71))), (b0, .inr (12, [.int 0, .ref b3, .ref b4, .ref b5, .ref b6, .int b7, .ref b8, .int b9, .int b10, .int b11, .int b12, .ref b13, .ref b14, .ref b15, .int b16, .ref b17, .ref b18, .ref b19, .ref b20, .ref b21, .ref b22, .ref b23, .ref b24, .ref b25, .ref b26, .ref b27, .ref b28, .int x_13, .ref b30, .ref b31, .int b32, .int b33, .int b34, .int b35, .ref b36, .ref b37, .ref b38, .ref b39, .ref b40, .ref b41, .ref b42, .int b43, .ref b44, .ref b45, .int b46, .ref b47, .ref b48, .ref b49, .ref b50, .ref b51, .int b52, .ref b53, .ref b54, .ref b55])), (b3, .inl (G.2 0, 503, .inl b56)), (b17, .inl (G.2 0, 2, .inl f_14)), (b18, .inl (G.2 0, 4820, .inl f_15)), (b19, .inl (G.2 0, 520, .inl f_16)), (b20, .inl (G.2 0, 9640, .inl f_17)), (b21, .inl (G.2 0, 482, .inl f_18)), (b22, .inl (G.2 0, 482, .inl f_19)), (b23, .inl (G.2 0, 2, .inl f_20)), (b24, .inl (G.2 0, 482, .inl f_21)), (b25, .inl (G.2 0, 482, .inl f_22)), (b26, .inl (G.2 0, 482, .inl f_23)), (b27, .inl (G.2 0, 2, .inl f_24)), (b28, .inl (G.2 0, 2880, .inl f_25))] H := hP
    have hD := z_tie hP hD rfl
    refine W.widen (k := 0) (n := 0) (Nat.le_of_ble_eq_true rfl) (Nat.le_of_ble_eq_true rfl) ?_
    refine lv_aload_n hx hb d_Model_cover_21 rfl (lv_at hl 0 rfl) ?_
    refine z_callV (index := 305) (As := []) (rest := []) (wr := [(b17, .inl (G.2 0, 2, .inl f_14)), (b18, .inl (G.2 0, 4820, .inl f_15)), (b20, .inl (G.2 0, 9640, .inl f_17)), (b21, .inl (G.2 0, 482, .inl f_18)), (b23, .inl (G.2 0, 2, .inl f_20)), (b24, .inl (G.2 0, 482, .inl f_21)), (b25, .inl (G.2 0, 482, .inl f_22)), (b26, .inl (G.2 0, 482, .inl f_23))]) Z (s2_Model_layGoes l G (b0) (0) (b3) (b4) (b5) (b6) (b7) (b8) (b9) (b10) (b11) (b12) (b13) (b14) (b15) (b16) (b17) (b18) (b19) (b20) (b21) (b22) (b23) (b24) (b25) (b26) (b27) (b28) (x_13) (b30) (b31) (b32) (b33) (b34) (b35) (b36) (b37) (b38) (b39) (b40) (b41) (b42) (b43) (b44) (b45) (b46) (b47) (b48) (b49) (b50) (b51) (b52) (b53) (b54) (b55) (b56) (f_16) (f_19) (f_24) (f_25) (b69) (b70) (b71) hb7 hb9 hb10 hb12 hb16 hx_13 hb32 hb43 hb46 hb52 hb56 hf_16 hf_19 hf_24 hf_25) hl.1 q1479 q1481 qs78 q14 q1482 ⟨by decide, by decide, by show _ = some 0; decide +kernel⟩ ⟨Nat.le_of_ble_eq_true rfl, Nat.le_of_ble_eq_true rfl⟩ ⟨Nat.le_of_ble_eq_true rfl, Nat.le_of_ble_eq_true rfl⟩ rfl (Nat.le_of_ble_eq_true rfl) d_Model_cover_22 hP hD hS hA 3 12 rfl rfl rfl [3, 4, 7, 10, 15, 16, 0, 1, 2] [5, 6, 8, 9, 11, 12, 13, 14] rfl rfl rfl rfl (by decide) (fun v w1 H locs hw_40 hP hD hS => ?_)
    obtain ⟨x_41, f_42, f_43, f_44, rfl, rfl, hx_41⟩ := hw_40
    have hP : va_P G.1 classes [(b17, .inl (G.2 0, 2, .inl f_14)), (b18, .inl (G.2 0, 4820, .inl f_15)), (b20, .inl (G.2 0, 9640, .inl f_17)), (b21, .inl (G.2 0, 482, .inl f_18)), (b23, .inl (G.2 0, 2, .inl f_20)), (b24, .inl (G.2 0, 482, .inl f_21)), (b25, .inl (G.2 0, 482, .inl f_22)), (b26, .inl (G.2 0, 482, .inl f_23)), (b0, .inr (12, [.int 0, .ref b3, .ref b4, .ref b5, .ref b6, .int b7, .ref b8, .int b9, .int b10, .int b11, .int b12, .ref b13, .ref b14, .ref b15, .int b16, .ref b17, .ref b18, .ref b19, .ref b20, .ref b21, .ref b22, .ref b23, .ref b24, .ref b25, .ref b26, .ref b27, .ref b28, .int x_41, .ref b30, .ref b31, .int b32, .int b33, .int b34, .int b35, .ref b36, .ref b37, .ref b38, .ref b39, .ref b40, .ref b41, .ref b42, .int b43, .ref b44, .ref b45, .int b46, .ref b47, .ref b48, .ref b49, .ref b50, .ref b51, .int b52, .ref b53, .ref b54, .ref b55])), (b3, .inl (G.2 0, 503, .inl b56)), (b19, .inl (G.2 0, 520, .inl f_16)), (b22, .inl (G.2 0, 482, .inl f_19)), (b27, .inl (G.2 0, 2, .inl f_24)), (b28, .inl (G.2 0, 2880, .inl f_25)), (b36, .inl (G.2 1, 4096, .inr (.inl f_42))), (b37, .inl (G.2 1, 4096, .inr (.inl f_43))), (b38, .inl (G.2 1, 80, .inr (.inl f_44)))] H := hP
    have hD := z_tie hP hD rfl
    refine W.widen (k := 0) (n := 0) (Nat.le_of_ble_eq_true rfl) (Nat.le_of_ble_eq_true rfl) ?_
    refine lv_iconst (v := 0) hx hb d_Model_cover_25 (by decide) ?_
    refine lv_istore_n (lv' := [(2, .int 0), (0, .ref b0), (1, .int b1)]) hx hb d_Model_cover_26 rfl hl (by decide) rfl (fun ls hl => ?_)
    refine lv_bipush (v := 21) hx hb d_Model_cover_27 (by decide) ?_
    refine lv_istore_n (lv' := [(3, .int 21), (2, .int 0), (0, .ref b0), (1, .int b1)]) hx hb d_Model_cover_29 rfl hl (by decide) rfl (fun ls hl => ?_)
    refine lv_iconst (v := 0) hx hb d_Model_cover_30 (by decide) ?_
    refine lv_istore (lv' := [(4, .int 0), (3, .int 21), (2, .int 0), (0, .ref b0), (1, .int b1)]) hx hb d_Model_cover_31 hl (by decide) rfl (fun ls hl => ?_)
    suffices key : ∀ (k_80 : Nat) (y_81 : Int32) (y_82 : Int32) (y_83 : Int32) (H : Heap) (locs : List Loc) (ls : Array Slot), (zI y_81 0 1048576) → (zI y_82 (-2147483648) 21) → (zI y_83 0 1048575) → (1048576 : Int) - y_81.toInt < (k_80 : Int) → va_P G.1 classes [(b17, .inl (G.2 0, 2, .inl f_14)), (b18, .inl (G.2 0, 4820, .inl f_15)), (b20, .inl (G.2 0, 9640, .inl f_17)), (b21, .inl (G.2 0, 482, .inl f_18)), (b23, .inl (G.2 0, 2, .inl f_20)), (b24, .inl (G.2 0, 482, .inl f_21)), (b25, .inl (G.2 0, 482, .inl f_22)), (b26, .inl (G.2 0, 482, .inl f_23)), (b0, .inr (12, [.int 0, .ref b3, .ref b4, .ref b5, .ref b6, .int b7, .ref b8, .int b9, .int b10, .int b11, .int b12, .ref b13, .ref b14, .ref b15, .int b16, .ref b17, .ref b18, .ref b19, .ref b20, .ref b21, .ref b22, .ref b23, .ref b24, .ref b25, .ref b26, .ref b27, .ref b28, .int x_41, .ref b30, .ref b31, .int b32, .int b33, .int b34, .int b35, .ref b36, .ref b37, .ref b38, .ref b39, .ref b40, .ref b41, .ref b42, .int b43, .ref b44, .ref b45, .int b46, .ref b47, .ref b48, .ref b49, .ref b50, .ref b51, .int b52, .ref b53, .ref b54, .ref b55])), (b3, .inl (G.2 0, 503, .inl b56)), (b19, .inl (G.2 0, 520, .inl f_16)), (b22, .inl (G.2 0, 482, .inl f_19)), (b27, .inl (G.2 0, 2, .inl f_24)), (b28, .inl (G.2 0, 2880, .inl f_25)), (b36, .inl (G.2 1, 4096, .inr (.inl f_42))), (b37, .inl (G.2 1, 4096, .inr (.inl f_43))), (b38, .inl (G.2 1, 80, .inr (.inl f_44)))] H → va_D A [(b17, .inl (G.2 0, 2, .inl f_14)), (b18, .inl (G.2 0, 4820, .inl f_15)), (b20, .inl (G.2 0, 9640, .inl f_17)), (b21, .inl (G.2 0, 482, .inl f_18)), (b23, .inl (G.2 0, 2, .inl f_20)), (b24, .inl (G.2 0, 482, .inl f_21)), (b25, .inl (G.2 0, 482, .inl f_22)), (b26, .inl (G.2 0, 482, .inl f_23)), (b0, .inr (12, [.int 0, .ref b3, .ref b4, .ref b5, .ref b6, .int b7, .ref b8, .int b9, .int b10, .int b11, .int b12, .ref b13, .ref b14, .ref b15, .int b16, .ref b17, .ref b18, .ref b19, .ref b20, .ref b21, .ref b22, .ref b23, .ref b24, .ref b25, .ref b26, .ref b27, .ref b28, .int x_41, .ref b30, .ref b31, .int b32, .int b33, .int b34, .int b35, .ref b36, .ref b37, .ref b38, .ref b39, .ref b40, .ref b41, .ref b42, .int b43, .ref b44, .ref b45, .int b46, .ref b47, .ref b48, .ref b49, .ref b50, .ref b51, .int b52, .ref b53, .ref b54, .ref b55])), (b3, .inl (G.2 0, 503, .inl b56)), (b19, .inl (G.2 0, 520, .inl f_16)), (b22, .inl (G.2 0, 482, .inl f_19)), (b27, .inl (G.2 0, 2, .inl f_24)), (b28, .inl (G.2 0, 2880, .inl f_25)), (b36, .inl (G.2 1, 4096, .inr (.inl f_42))), (b37, .inl (G.2 1, 4096, .inr (.inl f_43))), (b38, .inl (G.2 1, 80, .inr (.inl f_44)))] → va_S A s.heap H locs → lv_has ls 6 [(4, .int y_81), (3, .int y_82), (2, .int y_83), (0, .ref b0), (1, .int b1)] → W p l e m_s1_Model_cover s m ([.ref b0, .int b1] : List Value).toArray below meth c H locs 0 0 (MQ below (zQ G (fun v w => ∃ (e0 : Int32), ∃ (e1 : Int32), ∃ (e2 : Nat → Int32), ∃ (e3 : Nat → Int32), ∃ (e4 : Nat → Int32), ∃ (e5 : Nat → Int32), ∃ (e6 : Nat → Int32), ∃ (e7 : Nat → Int32), ∃ (e8 : Nat → Int32), ∃ (e9 : Nat → Int32), ∃ (e10 : Nat → Int32), ∃ (e11 : Nat → Int32), ∃ (e12 : Nat → Int32), ∃ (e13 : Nat → Int32), ∃ (e14 : Nat → Int64), ∃ (e15 : Nat → Int64), ∃ (e16 : Nat → Int64), v = some (.int e0) ∧ w = [(b0, .inr (12, [.int 0, .ref b3, .ref b4, .ref b5, .ref b6, .int b7, .ref b8, .int b9, .int b10, .int b11, .int b12, .ref b13, .ref b14, .ref b15, .int b16, .ref b17, .ref b18, .ref b19, .ref b20, .ref b21, .ref b22, .ref b23, .ref b24, .ref b25, .ref b26, .ref b27, .ref b28, .int e1, .ref b30, .ref b31, .int b32, .int b33, .int b34, .int b35, .ref b36, .ref b37, .ref b38, .ref b39, .ref b40, .ref b41, .ref b42, .int b43, .ref b44, .ref b45, .int b46, .ref b47, .ref b48, .ref b49, .ref b50, .ref b51, .int b52, .ref b53, .ref b54, .ref b55])), (b3, .inl (G.2 0, 503, .inl b56)), (b17, .inl (G.2 0, 2, .inl e2)), (b18, .inl (G.2 0, 4820, .inl e3)), (b19, .inl (G.2 0, 520, .inl e4)), (b20, .inl (G.2 0, 9640, .inl e5)), (b21, .inl (G.2 0, 482, .inl e6)), (b22, .inl (G.2 0, 482, .inl e7)), (b23, .inl (G.2 0, 2, .inl e8)), (b24, .inl (G.2 0, 482, .inl e9)), (b25, .inl (G.2 0, 482, .inl e10)), (b26, .inl (G.2 0, 482, .inl e11)), (b27, .inl (G.2 0, 2, .inl e12)), (b28, .inl (G.2 0, 2880, .inl e13)), (b36, .inl (G.2 1, 4096, .inr (.inl e14))), (b37, .inl (G.2 1, 4096, .inr (.inl e15))), (b38, .inl (G.2 1, 80, .inr (.inl e16)))] ∧ (zI e0 (-2147483648) 1048575) ∧ (zI e1 0 1) ∧ (zR e2 0 241) ∧ (zR e3 (-1) 240) ∧ (zqa qP e4) ∧ (zqa qC e6) ∧ (zR e7 0 240) ∧ (zR e8 0 241) ∧ (zR e9 0 240) ∧ (zR e12 0 240) ∧ (zqa qE e13)) A) ([.ref b0, .int b1] : List Value).toArray s m_s1_Model_cover.cells m_s1_Model_cover.slots A) (F0 m 33 ls []) by
      exact key 1048577 (0) (21) (0) _ _ _ (zI.wk (l' := 0) (h' := 1048576) zc_0 (by decide)) (zI.wk (l' := (-2147483648)) (h' := 21) zc_21 (by decide)) (zI.wk (l' := 0) (h' := 1048575) zc_0 (by decide)) (zm_upi (zI.wk (l' := 0) (h' := 1048576) zc_0 (by decide)) (by decide)) hP hD hS (lv_sub hl [0, 1, 2, 3, 4] rfl)
    intro k_80
    induction k_80 with
    | zero =>
      intro y_81 y_82 y_83 H locs ls hy_81 hy_82 hy_83 hmk_80 hP hD hS hl
      exact (zm_up0 hy_81 hmk_80).elim
    | succ k_80 ihk_80 =>
      intro y_81 y_82 y_83 H locs ls hy_81 hy_82 hy_83 hmk_80 hP hD hS hl
      refine lv_iload hx hb d_Model_cover_33 (lv_at hl 0 rfl) ?_
      refine lv_iconst (v := 1) hx hb d_Model_cover_35 (by decide) ?_
      refine lv_aload_n hx hb d_Model_cover_36 rfl (lv_at hl 3 rfl) ?_
      refine z_callV (index := 134) (As := []) (rest := [.int 1, .int y_81]) (wr := [(b17, .inl (G.2 0, 2, .inl f_14)), (b18, .inl (G.2 0, 4820, .inl f_15)), (b20, .inl (G.2 0, 9640, .inl f_17)), (b21, .inl (G.2 0, 482, .inl f_18)), (b23, .inl (G.2 0, 2, .inl f_20)), (b24, .inl (G.2 0, 482, .inl f_21)), (b25, .inl (G.2 0, 482, .inl f_22)), (b26, .inl (G.2 0, 482, .inl f_23)), (b19, .inl (G.2 0, 520, .inl f_16)), (b22, .inl (G.2 0, 482, .inl f_19)), (b27, .inl (G.2 0, 2, .inl f_24)), (b28, .inl (G.2 0, 2880, .inl f_25)), (b36, .inl (G.2 1, 4096, .inr (.inl f_42))), (b37, .inl (G.2 1, 4096, .inr (.inl f_43))), (b38, .inl (G.2 1, 80, .inr (.inl f_44)))]) Z (s1_Model_many l G (b0) (0) (b3) (b4) (b5) (b6) (b7) (b8) (b9) (b10) (b11) (b12) (b13) (b14) (b15) (b16) (b17) (b18) (b19) (b20) (b21) (b22) (b23) (b24) (b25) (b26) (b27) (b28) (x_41) (b30) (b31) (b32) (b33) (b34) (b35) (b36) (b37) (b38) (b39) (b40) (b41) (b42) (b43) (b44) (b45) (b46) (b47) (b48) (b49) (b50) (b51) (b52) (b53) (b54) (b55) (b56) hb7 hb9 hb10 hb12 hb16 hx_41 hb32 hb43 hb46 hb52 hb56) hl.1 q1320 q1322 qs51 q14 q1323 ⟨by decide, by decide, by show _ = some 0; decide +kernel⟩ ⟨Nat.le_of_ble_eq_true rfl, Nat.le_of_ble_eq_true rfl⟩ ⟨Nat.le_of_ble_eq_true rfl, Nat.le_of_ble_eq_true rfl⟩ rfl (Nat.le_of_ble_eq_true rfl) d_Model_cover_37 hP hD hS hA 8 12 rfl rfl rfl [8, 9] [0, 1, 2, 3, 4, 5, 6, 7, 10, 11, 12, 13, 14, 15, 16] rfl rfl rfl rfl (by decide) (fun v w1 H locs hw_84 hP hD hS => ?_)
      obtain ⟨x_85, rfl, rfl, hx_85, hfx_86⟩ := hw_84
      have hP : va_P G.1 classes [(b17, .inl (G.2 0, 2, .inl f_14)), (b18, .inl (G.2 0, 4820, .inl f_15)), (b20, .inl (G.2 0, 9640, .inl f_17)), (b21, .inl (G.2 0, 482, .inl f_18)), (b23, .inl (G.2 0, 2, .inl f_20)), (b24, .inl (G.2 0, 482, .inl f_21)), (b25, .inl (G.2 0, 482, .inl f_22)), (b26, .inl (G.2 0, 482, .inl f_23)), (b19, .inl (G.2 0, 520, .inl f_16)), (b22, .inl (G.2 0, 482, .inl f_19)), (b27, .inl (G.2 0, 2, .inl f_24)), (b28, .inl (G.2 0, 2880, .inl f_25)), (b36, .inl (G.2 1, 4096, .inr (.inl f_42))), (b37, .inl (G.2 1, 4096, .inr (.inl f_43))), (b38, .inl (G.2 1, 80, .inr (.inl f_44))), (b0, .inr (12, [.int 0, .ref b3, .ref b4, .ref b5, .ref b6, .int b7, .ref b8, .int b9, .int b10, .int b11, .int b12, .ref b13, .ref b14, .ref b15, .int b16, .ref b17, .ref b18, .ref b19, .ref b20, .ref b21, .ref b22, .ref b23, .ref b24, .ref b25, .ref b26, .ref b27, .ref b28, .int x_41, .ref b30, .ref b31, .int b32, .int b33, .int b34, .int b35, .ref b36, .ref b37, .ref b38, .ref b39, .ref b40, .ref b41, .ref b42, .int b43, .ref b44, .ref b45, .int b46, .ref b47, .ref b48, .ref b49, .ref b50, .ref b51, .int b52, .ref b53, .ref b54, .ref b55])), (b3, .inl (G.2 0, 503, .inl b56))] H := hP
      have hD := z_tie hP hD rfl
      refine W.widen (k := 0) (n := 0) (Nat.le_of_ble_eq_true rfl) (Nat.le_of_ble_eq_true rfl) ?_
      refine lv_ishl hx hb d_Model_cover_40 ?_
      refine lv_topi (fun v_87 ev_87 => ?_)
      have hv_88 : zI v_87 1 1048576 := zI_shl1 hx_85 ev_87 (by decide)
      refine lv_icmp_ge (tgt := 78) hx hb d_Model_cover_41 (by decide) (fun hc_89 => ?_) (fun hc_89 => ?_)
      · have _nhc_89 := hc_89
        have ni_90 := (fa_le _ _).mp hc_89
        have hv_91 : zI y_81 1 1048576 := zI.le_r hv_88 hy_81 hc_89 (by decide)
        refine lv_iload_n hx hb d_Model_cover_78 rfl (lv_at hl 4 rfl) ?_
        refine lv_if_ne (tgt := 86) hx hb d_Model_cover_79 (by decide) (fun hc_92 => ?_) (fun hc_92 => ?_)
        · have _nhc_92 := hc_92
          have ni_93 : ¬ (b1 : Int32).toInt = (0 : Int32).toInt := fun z => hc_92 ((fa_eq _ _).mpr z)
          simp only [li_0] at ni_93
          have hv_94 : zI b1 1 1 := zI.ne_lo hv_11 zc_0 hc_92 (by decide)
          refine lv_iload_n hx hb d_Model_cover_86 rfl (lv_at hl 2 rfl) ?_
          exact z_iret hx hb hr hlocks (hP.sub [15, 16, 0, 1, 8, 2, 3, 9, 4, 5, 6, 7, 10, 11, 12, 13, 14] rfl) (hD.sub [15, 16, 0, 1, 8, 2, 3, 9, 4, 5, 6, 7, 10, 11, 12, 13, 14] (by decide) rfl) hS (Nat.le_of_ble_eq_true rfl) (Nat.le_of_ble_eq_true rfl) d_Model_cover_87 ⟨y_83, x_41, f_14, f_15, f_16, f_17, f_18, f_19, f_20, f_21, f_22, f_23, f_24, f_25, f_42, f_43, f_44, rfl, rfl, (zI.wk (l' := (-2147483648)) (h' := 1048575) hy_83 (by decide)), hx_41, hf_14, hf_15, hf_16, hf_18, hf_19, hf_20, hf_21, hf_24, hf_25⟩
        · have _nhc_92 := hc_92
          have ni_95 := (fa_eq _ _).mp hc_92
          rw [li_0] at ni_95
          have hv_96 : zI b1 0 0 := zI.eq_l hv_11 zc_0 hc_92
          refine lv_iload_n hx hb d_Model_cover_82 rfl (lv_at hl 1 rfl) ?_
          refine lv_goto (tgt := 87) hx hb d_Model_cover_83 (by decide) ?_
          exact z_iret hx hb hr hlocks (hP.sub [15, 16, 0, 1, 8, 2, 3, 9, 4, 5, 6, 7, 10, 11, 12, 13, 14] rfl) (hD.sub [15, 16, 0, 1, 8, 2, 3, 9, 4, 5, 6, 7, 10, 11, 12, 13, 14] (by decide) rfl) hS (Nat.le_of_ble_eq_true rfl) (Nat.le_of_ble_eq_true rfl) d_Model_cover_87 ⟨y_82, x_41, f_14, f_15, f_16, f_17, f_18, f_19, f_20, f_21, f_22, f_23, f_24, f_25, f_42, f_43, f_44, rfl, rfl, (zI.wk (l' := (-2147483648)) (h' := 1048575) hy_82 (by decide)), hx_41, hf_14, hf_15, hf_16, hf_18, hf_19, hf_20, hf_21, hf_24, hf_25⟩
      · have _nhc_89 := hc_89
        have ni_97 := (fa_lt _ _).mp (zi_nle hc_89)
        have hv_98 : zI y_81 0 1048575 := zI.lt_l hy_81 hv_88 (zi_nle hc_89) (by decide)
        refine lv_iload hx hb d_Model_cover_44 (lv_at hl 0 rfl) ?_
        refine z_callS (index := 308) (As := [.int y_81]) (rest := []) (wr := [(b17, .inl (G.2 0, 2, .inl f_14)), (b18, .inl (G.2 0, 4820, .inl f_15)), (b20, .inl (G.2 0, 9640, .inl f_17)), (b21, .inl (G.2 0, 482, .inl f_18)), (b23, .inl (G.2 0, 2, .inl f_20)), (b24, .inl (G.2 0, 482, .inl f_21)), (b25, .inl (G.2 0, 482, .inl f_22)), (b26, .inl (G.2 0, 482, .inl f_23)), (b19, .inl (G.2 0, 520, .inl f_16)), (b22, .inl (G.2 0, 482, .inl f_19)), (b27, .inl (G.2 0, 2, .inl f_24)), (b28, .inl (G.2 0, 2880, .inl f_25)), (b36, .inl (G.2 1, 4096, .inr (.inl f_42))), (b37, .inl (G.2 1, 4096, .inr (.inl f_43))), (b38, .inl (G.2 1, 80, .inr (.inl f_44))), (b0, .inr (12, [.int 0, .ref b3, .ref b4, .ref b5, .ref b6, .int b7, .ref b8, .int b9, .int b10, .int b11, .int b12, .ref b13, .ref b14, .ref b15, .int b16, .ref b17, .ref b18, .ref b19, .ref b20, .ref b21, .ref b22, .ref b23, .ref b24, .ref b25, .ref b26, .ref b27, .ref b28, .int x_41, .ref b30, .ref b31, .int b32, .int b33, .int b34, .int b35, .ref b36, .ref b37, .ref b38, .ref b39, .ref b40, .ref b41, .ref b42, .int b43, .ref b44, .ref b45, .int b46, .ref b47, .ref b48, .ref b49, .ref b50, .ref b51, .int b52, .ref b53, .ref b54, .ref b55])), (b3, .inl (G.2 0, 503, .inl b56))]) Z (s17_Model_ones l G (y_81) (zI.wk (l' := 0) (h' := 2147483647) hv_98 (by decide))) hl.1 q1483 q1484 q14 q1485 ⟨by decide, by decide, by show _ = some 1; decide +kernel⟩ ⟨Nat.le_of_ble_eq_true rfl, Nat.le_of_ble_eq_true rfl⟩ ⟨Nat.le_of_ble_eq_true rfl, Nat.le_of_ble_eq_true rfl⟩ rfl (Nat.le_of_ble_eq_true rfl) d_Model_cover_46 hP hD hS hA [] [0, 1, 2, 3, 4, 5, 6, 7, 8, 9, 10, 11, 12, 13, 14, 15, 16] rfl rfl rfl rfl (by decide) (fun v w1 H locs hw_99 hP hD hS => ?_)
        obtain ⟨x_100, rfl, rfl⟩ := hw_99
        have hP : va_P G.1 classes [(b17, .inl (G.2 0, 2, .inl f_14)), (b18, .inl (G.2 0, 4820, .inl f_15)), (b20, .inl (G.2 0, 9640, .inl f_17)), (b21, .inl (G.2 0, 482, .inl f_18)), (b23, .inl (G.2 0, 2, .inl f_20)), (b24, .inl (G.2 0, 482, .inl f_21)), (b25, .inl (G.2 0, 482, .inl f_22)), (b26, .inl (G.2 0, 482, .inl f_23)), (b19, .inl (G.2 0, 520, .inl f_16)), (b22, .inl (G.2 0, 482, .inl f_19)), (b27, .inl (G.2 0, 2, .inl f_24)), (b28, .inl (G.2 0, 2880, .inl f_25)), (b36, .inl (G.2 1, 4096, .inr (.inl f_42))), (b37, .inl (G.2 1, 4096, .inr (.inl f_43))), (b38, .inl (G.2 1, 80, .inr (.inl f_44))), (b0, .inr (12, [.int 0, .ref b3, .ref b4, .ref b5, .ref b6, .int b7, .ref b8, .int b9, .int b10, .int b11, .int b12, .ref b13, .ref b14, .ref b15, .int b16, .ref b17, .ref b18, .ref b19, .ref b20, .ref b21, .ref b22, .ref b23, .ref b24, .ref b25, .ref b26, .ref b27, .ref b28, .int x_41, .ref b30, .ref b31, .int b32, .int b33, .int b34, .int b35, .ref b36, .ref b37, .ref b38, .ref b39, .ref b40, .ref b41, .ref b42, .int b43, .ref b44, .ref b45, .int b46, .ref b47, .ref b48, .ref b49, .ref b50, .ref b51, .int b52, .ref b53, .ref b54, .ref b55])), (b3, .inl (G.2 0, 503, .inl b56))] H := hP
        have hD := z_tie hP hD rfl
        refine W.widen (k := 0) (n := 0) (Nat.le_of_ble_eq_true rfl) (Nat.le_of_ble_eq_true rfl) ?_
        refine lv_istore (lv' := [(5, .int x_100), (4, .int y_81), (3, .int y_82), (2, .int y_83), (0, .ref b0), (1, .int b1)]) hx hb d_Model_cover_49 hl (by decide) rfl (fun ls hl => ?_)
        refine lv_iload hx hb d_Model_cover_51 (lv_at hl 0 rfl) ?_
        refine lv_iload_n hx hb d_Model_cover_53 rfl (lv_at hl 2 rfl) ?_
        refine lv_icmp_ge (tgt := 72) hx hb d_Model_cover_54 (by decide) (fun hc_101 => ?_) (fun hc_101 => ?_)
        · have _nhc_101 := hc_101
          have ni_102 := (fa_le _ _).mp hc_101
          obtain ⟨v_103, ev_103⟩ : ∃ z : Int32, z = y_81 + 1 := ⟨_, rfl⟩
          obtain ⟨qv_103, hv_103⟩ := zI_add (l := 1) (h := 1048576) hv_98 zc_1 ev_103 (by decide)
          rw [li_1] at qv_103
          refine lv_iinc (v := v_103) (lv' := [(4, .int v_103), (5, .int x_100), (3, .int y_82), (2, .int y_83), (0, .ref b0), (1, .int b1)]) hx hb d_Model_cover_72 hl (k := 1) rfl (by rw [ev_103]; rfl) (by decide) rfl (fun ls hl => ?_)
          refine lv_goto (tgt := 33) hx hb d_Model_cover_75 (by decide) ?_
          exact ihk_80 (v_103) (y_82) (y_83) _ _ _ (zI.wk (l' := 0) (h' := 1048576) hv_103 (by decide)) hy_82 hy_83 (zm_up qv_103 hmk_80 (by decide)) (hP.sub [0, 1, 2, 3, 4, 5, 6, 7, 15, 16, 8, 9, 10, 11, 12, 13, 14] rfl) (hD.sub [0, 1, 2, 3, 4, 5, 6, 7, 15, 16, 8, 9, 10, 11, 12, 13, 14] (by decide) rfl) hS (lv_sub hl [0, 2, 3, 4, 5] rfl)
        · have _nhc_101 := hc_101
          have ni_104 := (fa_lt _ _).mp (zi_nle hc_101)
          have hv_105 : zI x_100 (-2147483648) 20 := zI.lt_l (zI_all x_100) hy_82 (zi_nle hc_101) (by decide)
          have hv_106 : zI y_82 (-2147483647) 21 := zI.lt_r (zI_all x_100) hy_82 (zi_nle hc_101) (by decide)
          refine lv_aload_n hx hb d_Model_cover_57 rfl (lv_at hl 4 rfl) ?_
          refine lv_iload hx hb d_Model_cover_58 (lv_at hl 1 rfl) ?_
          refine z_callV (index := 311) (As := [.int y_81]) (rest := []) (wr := [(b17, .inl (G.2 0, 2, .inl f_14)), (b18, .inl (G.2 0, 4820, .inl f_15)), (b20, .inl (G.2 0, 9640, .inl f_17)), (b21, .inl (G.2 0, 482, .inl f_18)), (b23, .inl (G.2 0, 2, .inl f_20)), (b24, .inl (G.2 0, 482, .inl f_21)), (b25, .inl (G.2 0, 482, .inl f_22)), (b26, .inl (G.2 0, 482, .inl f_23)), (b19, .inl (G.2 0, 520, .inl f_16)), (b22, .inl (G.2 0, 482, .inl f_19)), (b27, .inl (G.2 0, 2, .inl f_24)), (b28, .inl (G.2 0, 2880, .inl f_25)), (b38, .inl (G.2 1, 80, .inr (.inl f_44))), (b3, .inl (G.2 0, 503, .inl b56))]) Z (s2_Model_coversAll l G (b0) (y_81) (0) (b3) (b4) (b5) (b6) (b7) (b8) (b9) (b10) (b11) (b12) (b13) (b14) (b15) (b16) (b17) (b18) (b19) (b20) (b21) (b22) (b23) (b24) (b25) (b26) (b27) (b28) (x_41) (b30) (b31) (b32) (b33) (b34) (b35) (b36) (b37) (b38) (b39) (b40) (b41) (b42) (b43) (b44) (b45) (b46) (b47) (b48) (b49) (b50) (b51) (b52) (b53) (b54) (b55) (f_42) (f_43) hv_98 hb7 hb9 hb10 hb12 hb16 hx_41 hb32 hb43 hb46 hb52) hl.1 q1486 q1488 qs79 q14 q1489 ⟨by decide, by decide, by show _ = some 1; decide +kernel⟩ ⟨Nat.le_of_ble_eq_true rfl, Nat.le_of_ble_eq_true rfl⟩ ⟨Nat.le_of_ble_eq_true rfl, Nat.le_of_ble_eq_true rfl⟩ rfl (Nat.le_of_ble_eq_true rfl) d_Model_cover_60 hP hD hS hA 15 12 rfl rfl rfl [15, 12, 13] [0, 1, 2, 3, 4, 5, 6, 7, 8, 9, 10, 11, 14, 16] rfl rfl rfl rfl (by decide) (fun v w1 H locs hw_107 hP hD hS => ?_)
          obtain ⟨x_108, rfl, rfl, hx_108⟩ := hw_107
          have hP : va_P G.1 classes [(b17, .inl (G.2 0, 2, .inl f_14)), (b18, .inl (G.2 0, 4820, .inl f_15)), (b20, .inl (G.2 0, 9640, .inl f_17)), (b21, .inl (G.2 0, 482, .inl f_18)), (b23, .inl (G.2 0, 2, .inl f_20)), (b24, .inl (G.2 0, 482, .inl f_21)), (b25, .inl (G.2 0, 482, .inl f_22)), (b26, .inl (G.2 0, 482, .inl f_23)), (b19, .inl (G.2 0, 520, .inl f_16)), (b22, .inl (G.2 0, 482, .inl f_19)), (b27, .inl (G.2 0, 2, .inl f_24)), (b28, .inl (G.2 0, 2880, .inl f_25)), (b38, .inl (G.2 1, 80, .inr (.inl f_44))), (b3, .inl (G.2 0, 503, .inl b56)), (b0, .inr (12, [.int 0, .ref b3, .ref b4, .ref b5, .ref b6, .int b7, .ref b8, .int b9, .int b10, .int b11, .int b12, .ref b13, .ref b14, .ref b15, .int b16, .ref b17, .ref b18, .ref b19, .ref b20, .ref b21, .ref b22, .ref b23, .ref b24, .ref b25, .ref b26, .ref b27, .ref b28, .int x_41, .ref b30, .ref b31, .int b32, .int b33, .int b34, .int b35, .ref b36, .ref b37, .ref b38, .ref b39, .ref b40, .ref b41, .ref b42, .int b43, .ref b44, .ref b45, .int b46, .ref b47, .ref b48, .ref b49, .ref b50, .ref b51, .int b52, .ref b53, .ref b54, .ref b55])), (b36, .inl (G.2 1, 4096, .inr (.inl f_42))), (b37, .inl (G.2 1, 4096, .inr (.inl f_43)))] H := hP
          have hD := z_tie hP hD rfl
          refine W.widen (k := 0) (n := 0) (Nat.le_of_ble_eq_true rfl) (Nat.le_of_ble_eq_true rfl) ?_
          refine lv_if_eq (tgt := 72) hx hb d_Model_cover_63 (by decide) (fun hc_109 => ?_) (fun hc_109 => ?_)
          · have _nhc_109 := hc_109
            have ni_110 := (fa_eq _ _).mp hc_109
            rw [li_0] at ni_110
            have hv_111 : zI x_108 0 0 := zI.eq_l hx_108 zc_0 hc_109
            obtain ⟨v_112, ev_112⟩ : ∃ z : Int32, z = y_81 + 1 := ⟨_, rfl⟩
            obtain ⟨qv_112, hv_112⟩ := zI_add (l := 1) (h := 1048576) hv_98 zc_1 ev_112 (by decide)
            rw [li_1] at qv_112
            refine lv_iinc (v := v_112) (lv' := [(4, .int v_112), (5, .int x_100), (3, .int y_82), (2, .int y_83), (0, .ref b0), (1, .int b1)]) hx hb d_Model_cover_72 hl (k := 1) rfl (by rw [ev_112]; rfl) (by decide) rfl (fun ls hl => ?_)
            refine lv_goto (tgt := 33) hx hb d_Model_cover_75 (by decide) ?_
            exact ihk_80 (v_112) (y_82) (y_83) _ _ _ (zI.wk (l' := 0) (h' := 1048576) hv_112 (by decide)) (zI.wk (l' := (-2147483648)) (h' := 21) hv_106 (by decide)) hy_83 (zm_up qv_112 hmk_80 (by decide)) (hP.sub [0, 1, 2, 3, 4, 5, 6, 7, 14, 13, 8, 9, 10, 11, 15, 16, 12] rfl) (hD.sub [0, 1, 2, 3, 4, 5, 6, 7, 14, 13, 8, 9, 10, 11, 15, 16, 12] (by decide) rfl) hS (lv_sub hl [0, 2, 3, 4, 5] rfl)
          · have _nhc_109 := hc_109
            have ni_113 : ¬ (x_108 : Int32).toInt = (0 : Int32).toInt := fun z => hc_109 ((fa_eq _ _).mpr z)
            simp only [li_0] at ni_113
            have hv_114 : zI x_108 1 1 := zI.ne_lo hx_108 zc_0 hc_109 (by decide)
            refine lv_iload hx hb d_Model_cover_66 (lv_at hl 1 rfl) ?_
            refine lv_istore_n (lv' := [(2, .int y_81), (5, .int x_100), (4, .int y_81), (3, .int y_82), (0, .ref b0), (1, .int b1)]) hx hb d_Model_cover_68 rfl hl (by decide) rfl (fun ls hl => ?_)
            refine lv_iload hx hb d_Model_cover_69 (lv_at hl 1 rfl) ?_
            refine lv_istore_n (lv' := [(3, .int x_100), (2, .int y_81), (5, .int x_100), (4, .int y_81), (0, .ref b0), (1, .int b1)]) hx hb d_Model_cover_71 rfl hl (by decide) rfl (fun ls hl => ?_)
            obtain ⟨v_115, ev_115⟩ : ∃ z : Int32, z = y_81 + 1 := ⟨_, rfl⟩
            obtain ⟨qv_115, hv_115⟩ := zI_add (l := 1) (h := 1048576) hv_98 zc_1 ev_115 (by decide)
            rw [li_1] at qv_115
            refine lv_iinc (v := v_115) (lv' := [(4, .int v_115), (3, .int x_100), (2, .int y_81), (5, .int x_100), (0, .ref b0), (1, .int b1)]) hx hb d_Model_cover_72 hl (k := 3) rfl (by rw [ev_115]; rfl) (by decide) rfl (fun ls hl => ?_)
            refine lv_goto (tgt := 33) hx hb d_Model_cover_75 (by decide) ?_
            exact ihk_80 (v_115) (x_100) (y_81) _ _ _ (zI.wk (l' := 0) (h' := 1048576) hv_115 (by decide)) (zI.wk (l' := (-2147483648)) (h' := 21) hv_105 (by decide)) hv_98 (zm_up qv_115 hmk_80 (by decide)) (hP.sub [0, 1, 2, 3, 4, 5, 6, 7, 14, 13, 8, 9, 10, 11, 15, 16, 12] rfl) (hD.sub [0, 1, 2, 3, 4, 5, 6, 7, 14, 13, 8, 9, 10, 11, 15, 16, 12] (by decide) rfl) hS (lv_sub hl [0, 1, 2, 4, 5] rfl)
