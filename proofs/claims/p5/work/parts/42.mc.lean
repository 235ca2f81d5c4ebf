theorem d_Model_walk_0 : decode prog_14_method_69_code 0 = .ok (.aload_n 0, 1) := by decide +kernel
theorem d_Model_walk_1 : decode prog_14_method_69_code 1 = .ok (.iconst 0, 1) := by decide +kernel
theorem d_Model_walk_2 : decode prog_14_method_69_code 2 = .ok (.putfield 1, 3) := by decide +kernel
theorem d_Model_walk_5 : decode prog_14_method_69_code 5 = .ok (.iload_n 1, 1) := by decide +kernel
theorem d_Model_walk_6 : decode prog_14_method_69_code 6 = .ok (.i2l, 1) := by decide +kernel
theorem d_Model_walk_7 : decode prog_14_method_69_code 7 = .ok (.lconst 0, 1) := by decide +kernel
theorem d_Model_walk_8 : decode prog_14_method_69_code 8 = .ok (.ldc2_w 355, 3) := by decide +kernel
theorem d_Model_walk_11 : decode prog_14_method_69_code 11 = .ok (.invokestatic 138, 3) := by decide +kernel
theorem d_Model_walk_14 : decode prog_14_method_69_code 14 = .ok (.ifCond .eq 15, 3) := by decide +kernel
theorem d_Model_walk_17 : decode prog_14_method_69_code 17 = .ok (.aload_n 0, 1) := by decide +kernel
theorem d_Model_walk_18 : decode prog_14_method_69_code 18 = .ok (.invokevirtual 134, 3) := by decide +kernel
theorem d_Model_walk_21 : decode prog_14_method_69_code 21 = .ok (.ifCond .eq 8, 3) := by decide +kernel
theorem d_Model_walk_24 : decode prog_14_method_69_code 24 = .ok (.iload_n 2, 1) := by decide +kernel
theorem d_Model_walk_25 : decode prog_14_method_69_code 25 = .ok (.iconst (-1), 1) := by decide +kernel
theorem d_Model_walk_26 : decode prog_14_method_69_code 26 = .ok (.if_icmp .ge 5, 3) := by decide +kernel
theorem d_Model_walk_29 : decode prog_14_method_69_code 29 = .ok (.iconst (-1), 1) := by decide +kernel
theorem d_Model_walk_30 : decode prog_14_method_69_code 30 = .ok (.ireturn, 1) := by decide +kernel
theorem d_Model_walk_31 : decode prog_14_method_69_code 31 = .ok (.aload_n 0, 1) := by decide +kernel
theorem d_Model_walk_32 : decode prog_14_method_69_code 32 = .ok (.invokevirtual 254, 3) := by decide +kernel
theorem d_Model_walk_35 : decode prog_14_method_69_code 35 = .ok (.iload_n 1, 1) := by decide +kernel
theorem d_Model_walk_36 : decode prog_14_method_69_code 36 = .ok (.i2l, 1) := by decide +kernel
theorem d_Model_walk_37 : decode prog_14_method_69_code 37 = .ok (.lstore_n 3, 1) := by decide +kernel
theorem d_Model_walk_38 : decode prog_14_method_69_code 38 = .ok (.iconst 0, 1) := by decide +kernel
theorem d_Model_walk_39 : decode prog_14_method_69_code 39 = .ok (.istore 5, 2) := by decide +kernel
theorem d_Model_walk_41 : decode prog_14_method_69_code 41 = .ok (.iconst 0, 1) := by decide +kernel
theorem d_Model_walk_42 : decode prog_14_method_69_code 42 = .ok (.istore 6, 2) := by decide +kernel
theorem d_Model_walk_44 : decode prog_14_method_69_code 44 = .ok (.iconst 1, 1) := by decide +kernel
theorem d_Model_walk_45 : decode prog_14_method_69_code 45 = .ok (.istore 7, 2) := by decide +kernel
theorem d_Model_walk_47 : decode prog_14_method_69_code 47 = .ok (.iconst 0, 1) := by decide +kernel
theorem d_Model_walk_48 : decode prog_14_method_69_code 48 = .ok (.istore 8, 2) := by decide +kernel
theorem d_Model_walk_50 : decode prog_14_method_69_code 50 = .ok (.iload 7, 2) := by decide +kernel
theorem d_Model_walk_52 : decode prog_14_method_69_code 52 = .ok (.ifCond .eq 183, 3) := by decide +kernel
theorem d_Model_walk_55 : decode prog_14_method_69_code 55 = .ok (.lload_n 3, 1) := by decide +kernel
theorem d_Model_walk_56 : decode prog_14_method_69_code 56 = .ok (.ldc2_w 357, 3) := by decide +kernel
theorem d_Model_walk_59 : decode prog_14_method_69_code 59 = .ok (.lmul, 1) := by decide +kernel
theorem d_Model_walk_60 : decode prog_14_method_69_code 60 = .ok (.ldc2_w 359, 3) := by decide +kernel
theorem d_Model_walk_63 : decode prog_14_method_69_code 63 = .ok (.ladd, 1) := by decide +kernel
theorem d_Model_walk_64 : decode prog_14_method_69_code 64 = .ok (.ldc2_w 361, 3) := by decide +kernel
theorem d_Model_walk_67 : decode prog_14_method_69_code 67 = .ok (.lrem, 1) := by decide +kernel
theorem d_Model_walk_68 : decode prog_14_method_69_code 68 = .ok (.lstore_n 3, 1) := by decide +kernel
theorem d_Model_walk_69 : decode prog_14_method_69_code 69 = .ok (.lload_n 3, 1) := by decide +kernel
theorem d_Model_walk_70 : decode prog_14_method_69_code 70 = .ok (.aload_n 0, 1) := by decide +kernel
theorem d_Model_walk_71 : decode prog_14_method_69_code 71 = .ok (.getfield 67, 3) := by decide +kernel
theorem d_Model_walk_74 : decode prog_14_method_69_code 74 = .ok (.iload 5, 2) := by decide +kernel
theorem d_Model_walk_76 : decode prog_14_method_69_code 76 = .ok (.iaload, 1) := by decide +kernel
theorem d_Model_walk_77 : decode prog_14_method_69_code 77 = .ok (.aload_n 0, 1) := by decide +kernel
theorem d_Model_walk_78 : decode prog_14_method_69_code 78 = .ok (.iload 5, 2) := by decide +kernel
theorem d_Model_walk_80 : decode prog_14_method_69_code 80 = .ok (.iconst 1, 1) := by decide +kernel
theorem d_Model_walk_81 : decode prog_14_method_69_code 81 = .ok (.invokevirtual 259, 3) := by decide +kernel
theorem d_Model_walk_84 : decode prog_14_method_69_code 84 = .ok (.iadd, 1) := by decide +kernel
theorem d_Model_walk_85 : decode prog_14_method_69_code 85 = .ok (.i2l, 1) := by decide +kernel
theorem d_Model_walk_86 : decode prog_14_method_69_code 86 = .ok (.lrem, 1) := by decide +kernel
theorem d_Model_walk_87 : decode prog_14_method_69_code 87 = .ok (.l2i, 1) := by decide +kernel
theorem d_Model_walk_88 : decode prog_14_method_69_code 88 = .ok (.aload_n 0, 1) := by decide +kernel
theorem d_Model_walk_89 : decode prog_14_method_69_code 89 = .ok (.getfield 67, 3) := by decide +kernel
theorem d_Model_walk_92 : decode prog_14_method_69_code 92 = .ok (.iload 5, 2) := by decide +kernel
theorem d_Model_walk_94 : decode prog_14_method_69_code 94 = .ok (.iaload, 1) := by decide +kernel
theorem d_Model_walk_95 : decode prog_14_method_69_code 95 = .ok (.isub, 1) := by decide +kernel
theorem d_Model_walk_96 : decode prog_14_method_69_code 96 = .ok (.istore 9, 2) := by decide +kernel
theorem d_Model_walk_98 : decode prog_14_method_69_code 98 = .ok (.iload 9, 2) := by decide +kernel
theorem d_Model_walk_100 : decode prog_14_method_69_code 100 = .ok (.ifCond .lt 14, 3) := by decide +kernel
theorem d_Model_walk_103 : decode prog_14_method_69_code 103 = .ok (.iload 6, 2) := by decide +kernel
theorem d_Model_walk_105 : decode prog_14_method_69_code 105 = .ok (.bipush 12, 2) := by decide +kernel
theorem d_Model_walk_107 : decode prog_14_method_69_code 107 = .ok (.if_icmp .ne 7, 3) := by decide +kernel
theorem d_Model_walk_110 : decode prog_14_method_69_code 110 = .ok (.iconst 1, 1) := by decide +kernel
theorem d_Model_walk_111 : decode prog_14_method_69_code 111 = .ok (.goto 4, 3) := by decide +kernel
theorem d_Model_walk_114 : decode prog_14_method_69_code 114 = .ok (.iconst 0, 1) := by decide +kernel
theorem d_Model_walk_115 : decode prog_14_method_69_code 115 = .ok (.istore 8, 2) := by decide +kernel
theorem d_Model_walk_117 : decode prog_14_method_69_code 117 = .ok (.iload 9, 2) := by decide +kernel
theorem d_Model_walk_119 : decode prog_14_method_69_code 119 = .ok (.ifCond .lt 12, 3) := by decide +kernel
theorem d_Model_walk_122 : decode prog_14_method_69_code 122 = .ok (.iload 8, 2) := by decide +kernel
theorem d_Model_walk_124 : decode prog_14_method_69_code 124 = .ok (.ifCond .ne 7, 3) := by decide +kernel
theorem d_Model_walk_127 : decode prog_14_method_69_code 127 = .ok (.iconst 1, 1) := by decide +kernel
theorem d_Model_walk_128 : decode prog_14_method_69_code 128 = .ok (.goto 4, 3) := by decide +kernel
theorem d_Model_walk_131 : decode prog_14_method_69_code 131 = .ok (.iconst 0, 1) := by decide +kernel
theorem d_Model_walk_132 : decode prog_14_method_69_code 132 = .ok (.istore 7, 2) := by decide +kernel
theorem d_Model_walk_134 : decode prog_14_method_69_code 134 = .ok (.iload 7, 2) := by decide +kernel
theorem d_Model_walk_136 : decode prog_14_method_69_code 136 = .ok (.ifCond .eq 96, 3) := by decide +kernel
theorem d_Model_walk_139 : decode prog_14_method_69_code 139 = .ok (.iconst 0, 1) := by decide +kernel
theorem d_Model_walk_140 : decode prog_14_method_69_code 140 = .ok (.istore 10, 2) := by decide +kernel
theorem d_Model_walk_142 : decode prog_14_method_69_code 142 = .ok (.aload_n 0, 1) := by decide +kernel
theorem d_Model_walk_143 : decode prog_14_method_69_code 143 = .ok (.iconst 0, 1) := by decide +kernel
theorem d_Model_walk_144 : decode prog_14_method_69_code 144 = .ok (.iload 10, 2) := by decide +kernel
theorem d_Model_walk_146 : decode prog_14_method_69_code 146 = .ok (.iconst 0, 1) := by decide +kernel
theorem d_Model_walk_147 : decode prog_14_method_69_code 147 = .ok (.invokevirtual 225, 3) := by decide +kernel
theorem d_Model_walk_150 : decode prog_14_method_69_code 150 = .ok (.iload 5, 2) := by decide +kernel
theorem d_Model_walk_152 : decode prog_14_method_69_code 152 = .ok (.if_icmp .ne 16, 3) := by decide +kernel
theorem d_Model_walk_155 : decode prog_14_method_69_code 155 = .ok (.iload 9, 2) := by decide +kernel
theorem d_Model_walk_157 : decode prog_14_method_69_code 157 = .ok (.aload_n 0, 1) := by decide +kernel
theorem d_Model_walk_158 : decode prog_14_method_69_code 158 = .ok (.iconst 0, 1) := by decide +kernel
theorem d_Model_walk_159 : decode prog_14_method_69_code 159 = .ok (.iload 10, 2) := by decide +kernel
theorem d_Model_walk_161 : decode prog_14_method_69_code 161 = .ok (.iconst 3, 1) := by decide +kernel
theorem d_Model_walk_162 : decode prog_14_method_69_code 162 = .ok (.invokevirtual 225, 3) := by decide +kernel
theorem d_Model_walk_165 : decode prog_14_method_69_code 165 = .ok (.if_icmp .lt 39, 3) := by decide +kernel
theorem d_Model_walk_168 : decode prog_14_method_69_code 168 = .ok (.iload 9, 2) := by decide +kernel
theorem d_Model_walk_170 : decode prog_14_method_69_code 170 = .ok (.aload_n 0, 1) := by decide +kernel
theorem d_Model_walk_171 : decode prog_14_method_69_code 171 = .ok (.iconst 0, 1) := by decide +kernel
theorem d_Model_walk_172 : decode prog_14_method_69_code 172 = .ok (.iload 10, 2) := by decide +kernel
theorem d_Model_walk_174 : decode prog_14_method_69_code 174 = .ok (.iconst 0, 1) := by decide +kernel
theorem d_Model_walk_175 : decode prog_14_method_69_code 175 = .ok (.invokevirtual 225, 3) := by decide +kernel
theorem d_Model_walk_178 : decode prog_14_method_69_code 178 = .ok (.iload 5, 2) := by decide +kernel
theorem d_Model_walk_180 : decode prog_14_method_69_code 180 = .ok (.if_icmp .ne 14, 3) := by decide +kernel
theorem d_Model_walk_183 : decode prog_14_method_69_code 183 = .ok (.aload_n 0, 1) := by decide +kernel
theorem d_Model_walk_184 : decode prog_14_method_69_code 184 = .ok (.iconst 0, 1) := by decide +kernel
theorem d_Model_walk_185 : decode prog_14_method_69_code 185 = .ok (.iload 10, 2) := by decide +kernel
theorem d_Model_walk_187 : decode prog_14_method_69_code 187 = .ok (.iconst 3, 1) := by decide +kernel
theorem d_Model_walk_188 : decode prog_14_method_69_code 188 = .ok (.invokevirtual 225, 3) := by decide +kernel
theorem d_Model_walk_191 : decode prog_14_method_69_code 191 = .ok (.goto 4, 3) := by decide +kernel
theorem d_Model_walk_194 : decode prog_14_method_69_code 194 = .ok (.iconst 0, 1) := by decide +kernel
theorem d_Model_walk_195 : decode prog_14_method_69_code 195 = .ok (.isub, 1) := by decide +kernel
theorem d_Model_walk_196 : decode prog_14_method_69_code 196 = .ok (.istore 9, 2) := by decide +kernel
theorem d_Model_walk_198 : decode prog_14_method_69_code 198 = .ok (.iinc 10 1, 3) := by decide +kernel
theorem d_Model_walk_201 : decode prog_14_method_69_code 201 = .ok (.goto (-59), 3) := by decide +kernel
theorem d_Model_walk_204 : decode prog_14_method_69_code 204 = .ok (.aload_n 0, 1) := by decide +kernel
theorem d_Model_walk_205 : decode prog_14_method_69_code 205 = .ok (.getfield 125, 3) := by decide +kernel
theorem d_Model_walk_208 : decode prog_14_method_69_code 208 = .ok (.iload 6, 2) := by decide +kernel
theorem d_Model_walk_210 : decode prog_14_method_69_code 210 = .ok (.aload_n 0, 1) := by decide +kernel
theorem d_Model_walk_211 : decode prog_14_method_69_code 211 = .ok (.iconst 0, 1) := by decide +kernel
theorem d_Model_walk_212 : decode prog_14_method_69_code 212 = .ok (.iload 10, 2) := by decide +kernel
theorem d_Model_walk_214 : decode prog_14_method_69_code 214 = .ok (.iconst 1, 1) := by decide +kernel
theorem d_Model_walk_215 : decode prog_14_method_69_code 215 = .ok (.invokevirtual 225, 3) := by decide +kernel
theorem d_Model_walk_218 : decode prog_14_method_69_code 218 = .ok (.iastore, 1) := by decide +kernel
theorem d_Model_walk_219 : decode prog_14_method_69_code 219 = .ok (.aload_n 0, 1) := by decide +kernel
theorem d_Model_walk_220 : decode prog_14_method_69_code 220 = .ok (.iconst 0, 1) := by decide +kernel
theorem d_Model_walk_221 : decode prog_14_method_69_code 221 = .ok (.iload 10, 2) := by decide +kernel
theorem d_Model_walk_223 : decode prog_14_method_69_code 223 = .ok (.iconst 2, 1) := by decide +kernel
theorem d_Model_walk_224 : decode prog_14_method_69_code 224 = .ok (.invokevirtual 225, 3) := by decide +kernel
theorem d_Model_walk_227 : decode prog_14_method_69_code 227 = .ok (.istore 5, 2) := by decide +kernel
theorem d_Model_walk_229 : decode prog_14_method_69_code 229 = .ok (.iinc 6 1, 3) := by decide +kernel
theorem d_Model_walk_232 : decode prog_14_method_69_code 232 = .ok (.goto (-182), 3) := by decide +kernel
theorem d_Model_walk_235 : decode prog_14_method_69_code 235 = .ok (.iload_n 2, 1) := by decide +kernel
theorem d_Model_walk_236 : decode prog_14_method_69_code 236 = .ok (.iconst (-1), 1) := by decide +kernel
theorem d_Model_walk_237 : decode prog_14_method_69_code 237 = .ok (.if_icmp .ne 16, 3) := by decide +kernel
theorem d_Model_walk_240 : decode prog_14_method_69_code 240 = .ok (.iload 8, 2) := by decide +kernel
theorem d_Model_walk_242 : decode prog_14_method_69_code 242 = .ok (.ifCond .eq 8, 3) := by decide +kernel
theorem d_Model_walk_245 : decode prog_14_method_69_code 245 = .ok (.bipush (-2), 2) := by decide +kernel
theorem d_Model_walk_247 : decode prog_14_method_69_code 247 = .ok (.goto 5, 3) := by decide +kernel
theorem d_Model_walk_250 : decode prog_14_method_69_code 250 = .ok (.iload 6, 2) := by decide +kernel
theorem d_Model_walk_252 : decode prog_14_method_69_code 252 = .ok (.ireturn, 1) := by decide +kernel
theorem d_Model_walk_253 : decode prog_14_method_69_code 253 = .ok (.iload_n 2, 1) := by decide +kernel
theorem d_Model_walk_254 : decode prog_14_method_69_code 254 = .ok (.iload 6, 2) := by decide +kernel
theorem d_Model_walk_256 : decode prog_14_method_69_code 256 = .ok (.if_icmp .ge 15, 3) := by decide +kernel
theorem d_Model_walk_259 : decode prog_14_method_69_code 259 = .ok (.bipush 97, 2) := by decide +kernel
theorem d_Model_walk_261 : decode prog_14_method_69_code 261 = .ok (.aload_n 0, 1) := by decide +kernel
theorem d_Model_walk_262 : decode prog_14_method_69_code 262 = .ok (.getfield 125, 3) := by decide +kernel
theorem d_Model_walk_265 : decode prog_14_method_69_code 265 = .ok (.iload_n 2, 1) := by decide +kernel
theorem d_Model_walk_266 : decode prog_14_method_69_code 266 = .ok (.iaload, 1) := by decide +kernel
theorem d_Model_walk_267 : decode prog_14_method_69_code 267 = .ok (.iadd, 1) := by decide +kernel
theorem d_Model_walk_268 : decode prog_14_method_69_code 268 = .ok (.goto 4, 3) := by decide +kernel
theorem d_Model_walk_271 : decode prog_14_method_69_code 271 = .ok (.iconst (-1), 1) := by decide +kernel
theorem d_Model_walk_272 : decode prog_14_method_69_code 272 = .ok (.ireturn, 1) := by decide +kernel
theorem ll_999999 : (999999 : Int64).toInt = 999999 := by decide +kernel
theorem zcl_999999 : zJ 999999 999999 999999 := ⟨by decide +kernel, by decide +kernel⟩
abbrev m_s1_Model_walk : Room := { frames := 5, cells := 0, slots := 0, locals := 124 }
set_option maxHeartbeats 4000000 in
set_option maxRecDepth 100000 in
theorem s1_Model_walk (l : Launch) (G : zG) (b0 : Nat) (b1 : Int32) (b2 : Int32) (b3 : Int32) (b4 : Nat) (b5 : Nat) (b6 : Nat) (b7 : Nat) (b8 : Int32) (b9 : Nat) (b10 : Int32) (b11 : Int32) (b12 : Int32) (b13 : Int32) (b14 : Nat) (b15 : Nat) (b16 : Nat) (b17 : Int32) (b18 : Nat) (b19 : Nat) (b20 : Nat) (b21 : Nat) (b22 : Nat) (b23 : Nat) (b24 : Nat) (b25 : Nat) (b26 : Nat) (b27 : Nat) (b28 : Nat) (b29 : Nat) (b30 : Int32) (b31 : Nat) (b32 : Nat) (b33 : Int32) (b34 : Int32) (b35 : Int32) (b36 : Int32) (b37 : Nat) (b38 : Nat) (b39 : Nat) (b40 : Nat) (b41 : Nat) (b42 : Nat) (b43 : Nat) (b44 : Int32) (b45 : Nat) (b46 : Nat) (b47 : Int32) (b48 : Nat) (b49 : Nat) (b50 : Nat) (b51 : Nat) (b52 : Nat) (b53 : Int32) (b54 : Nat) (b55 : Nat) (b56 : Nat) (b57 : Nat → Int32) (b58 : Nat → Int32) (b59 : Nat → Int32) (b60 : Nat → Int32) (b61 : Nat → Int32) (b62 : Nat → Int32) (b63 : Nat → Int32) (b64 : Nat → Int32) (b65 : Nat → Int32) (b66 : Nat → Int32) (b67 : Nat → Int32) (b68 : Nat → Int32) (b69 : Nat → Int32) (b70 : Nat → Int32) (hb8 : zI b8 0 8) (hb10 : zI b10 0 240) (hb11 : zI b11 0 240) (hb13 : zI b13 0 1) (hb17 : zI b17 0 12) (hb30 : zI b30 0 1) (hb33 : zI b33 0 1) (hb44 : zI b44 0 1000) (hb47 : zI b47 0 1000) (hb53 : zI b53 0 400) (hb57 : zW5 b57) (hb58 : zR b58 0 241) (hb59 : zR b59 (-1) 240) (hb60 : zqa qP b60) (hb62 : zqa qC b62) (hb63 : zR b63 0 240) (hb64 : zR b64 0 241) (hb65 : zR b65 0 240) (hb68 : zR b68 0 240) (hb69 : zqa qE b69) : zM l G y_Model_walk prog_14_method_69_code 11 (Option.some Jvm.ClassFile.FieldType.int) m_s1_Model_walk [.ref b0, .int b1, .int b2] [(b0, .inr (12, [.int b3, .ref b4, .ref b5, .ref b6, .ref b7, .int b8, .ref b9, .int b10, .int b11, .int b12, .int b13, .ref b14, .ref b15, .ref b16, .int b17, .ref b18, .ref b19, .ref b20, .ref b21, .ref b22, .ref b23, .ref b24, .ref b25, .ref b26, .ref b27, .ref b28, .ref b29, .int b30, .ref b31, .ref b32, .int b33, .int b34, .int b35, .int b36, .ref b37, .ref b38, .ref b39, .ref b40, .ref b41, .ref b42, .ref b43, .int b44, .ref b45, .ref b46, .int b47, .ref b48, .ref b49, .ref b50, .ref b51, .ref b52, .int b53, .ref b54, .ref b55, .ref b56])), (b4, .inl (G.2 0, 503, .inl b57)), (b18, .inl (G.2 0, 2, .inl b58)), (b19, .inl (G.2 0, 4820, .inl b59)), (b20, .inl (G.2 0, 520, .inl b60)), (b21, .inl (G.2 0, 9640, .inl b61)), (b22, .inl (G.2 0, 482, .inl b62)), (b23, .inl (G.2 0, 482, .inl b63)), (b24, .inl (G.2 0, 2, .inl b64)), (b25, .inl (G.2 0, 482, .inl b65)), (b26, .inl (G.2 0, 482, .inl b66)), (b27, .inl (G.2 0, 482, .inl b67)), (b28, .inl (G.2 0, 2, .inl b68)), (b29, .inl (G.2 0, 2880, .inl b69)), (b54, .inl (G.2 0, 12, .inl b70))] (fun v w => ∃ (e0 : Int32), ∃ (e1 : Int32), ∃ (e2 : Nat → Int32), ∃ (e3 : Nat → Int32), ∃ (e4 : Nat → Int32), ∃ (e5 : Nat → Int32), ∃ (e6 : Nat → Int32), ∃ (e7 : Nat → Int32), ∃ (e8 : Nat → Int32), ∃ (e9 : Nat → Int32), ∃ (e10 : Nat → Int32), ∃ (e11 : Nat → Int32), ∃ (e12 : Nat → Int32), ∃ (e13 : Nat → Int32), ∃ (e14 : Nat → Int32), v = some (.int e0) ∧ w = [(b0, .inr (12, [.int 0, .ref b4, .ref b5, .ref b6, .ref b7, .int b8, .ref b9, .int b10, .int b11, .int b12, .int b13, .ref b14, .ref b15, .ref b16, .int b17, .ref b18, .ref b19, .ref b20, .ref b21, .ref b22, .ref b23, .ref b24, .ref b25, .ref b26, .ref b27, .ref b28, .ref b29, .int e1, .ref b31, .ref b32, .int b33, .int b34, .int b35, .int b36, .ref b37, .ref b38, .ref b39, .ref b40, .ref b41, .ref b42, .ref b43, .int b44, .ref b45, .ref b46, .int b47, .ref b48, .ref b49, .ref b50, .ref b51, .ref b52, .int b53, .ref b54, .ref b55, .ref b56])), (b4, .inl (G.2 0, 503, .inl b57)), (b18, .inl (G.2 0, 2, .inl e2)), (b19, .inl (G.2 0, 4820, .inl e3)), (b20, .inl (G.2 0, 520, .inl e4)), (b21, .inl (G.2 0, 9640, .inl e5)), (b22, .inl (G.2 0, 482, .inl e6)), (b23, .inl (G.2 0, 482, .inl e7)), (b24, .inl (G.2 0, 2, .inl e8)), (b25, .inl (G.2 0, 482, .inl e9)), (b26, .inl (G.2 0, 482, .inl e10)), (b27, .inl (G.2 0, 482, .inl e11)), (b28, .inl (G.2 0, 2, .inl e12)), (b29, .inl (G.2 0, 2880, .inl e13)), (b54, .inl (G.2 0, 12, .inl e14))] ∧ (zI e1 0 1) ∧ (zR e2 0 241) ∧ (zR e3 (-1) 240) ∧ (zqa qP e4) ∧ (zqa qC e6) ∧ (zR e7 0 240) ∧ (zR e8 0 241) ∧ (zR e9 0 240) ∧ (zR e12 0 240) ∧ (zqa qE e13)) := by
  refine z_start (by decide +kernel) (Nat.le_of_ble_eq_true rfl) ?_
  intro p e s m below meth c A Z hr hnm hA hP hD hS ls hl
  have Z : zC p s m _ meth c prog_14_method_69_code 11 "TraceMachinesModel" G := Z
  obtain ⟨hx, hb, hml, hown, hts, hK, hN, hlocks⟩ := id Z
  have hl : lv_has ls 11 [(0, .ref b0), (1, .int b1), (2, .int b2)] := hl
  refine lv_aload_n hx hb d_Model_walk_0 rfl (lv_at hl 0 rfl) ?_
  refine lv_iconst (v := 0) hx hb d_Model_walk_1 (by decide) ?_
  refine va_put (D := G.1) (ci := 12) (v := .int 0) (ty := .int) (C := R_Model) (T := F_Model) (N := 54) hx hb hts i_Model t_Model t_Model_ok n_Model hown hK hP hD hS 0 rfl rfl 0 (by decide) (hts _ q1109) (fun _ h9 => h9) rfl (by decide +kernel) rfl rfl (Nat.le_of_ble_eq_true rfl) d_Model_walk_2 (fun H locs hP hD hS => ?_)
  have hP : va_P G.1 classes [(b0, .inr (12, [.int 0, .ref b4, .ref b5, .ref b6, .ref b7, .int b8, .ref b9, .int b10, .int b11, .int b12, .int b13, .ref b14, .ref b15, .ref b16, .int b17, .ref b18, .ref b19, .ref b20, .ref b21, .ref b22, .ref b23, .ref b24, .ref b25, .ref b26, .ref b27, .ref b28, .ref b29, .int b30, .ref b31, .ref b32, .int b33, .int b34, .int b35, .int b36, .ref b37, .ref b38, .ref b39, .ref b40, .ref b41, .ref b42, .ref b43, .int b44, .ref b45, .ref b46, .int b47, .ref b48, .ref b49, .ref b50, .ref b51, .ref b52, .int b53, .ref b54, .ref b55, .ref b56])), (b4, .inl (G.2 0, 503, .inl b57)), (b18, .inl (G.2 0, 2, .inl b58)), (b19, .inl (G.2 0, 4820, .inl b59)), (b20, .inl (G.2 0, 520, .inl b60)), (b21, .inl (G.2 0, 9640, .inl b61)), (b22, .inl (G.2 0, 482, .inl b62)), (b23, .inl (G.2 0, 482, .inl b63)), (b24, .inl (G.2 0, 2, .inl b64)), (b25, .inl (G.2 0, 482, .inl b65)), (b26, .inl (G.2 0, 482, .inl b66)), (b27, .inl (G.2 0, 482, .inl b67)), (b28, .inl (G.2 0, 2, .inl b68)), (b29, .inl (G.2 0, 2880, .inl b69)), (b54, .inl (G.2 0, 12, .inl b70))] H := hP
  have hD := z_tie hP hD rfl
  refine lv_iload_n hx hb d_Model_walk_5 rfl (lv_at hl 1 rfl) ?_
  refine lv_i2l (v := b1.toInt64) hx hb d_Model_walk_6 rfl ?_
  refine lv_lconst (v := 0) hx hb d_Model_walk_7 (by decide) ?_
  refine lv_ldc2 hx hb hown (hts _ q1541) d_Model_walk_8 ?_
  refine z_callS (index := 138) (As := [.long b1.toInt64, .long 0, .long 999999]) (rest := []) (wr := [(b0, .inr (12, [.int 0, .ref b4, .ref b5, .ref b6, .ref b7, .int b8, .ref b9, .int b10, .int b11, .int b12, .int b13, .ref b14, .ref b15, .ref b16, .int b17, .ref b18, .ref b19, .ref b20, .ref b21, .ref b22, .ref b23, .ref b24, .ref b25, .ref b26, .ref b27, .ref b28, .ref b29, .int b30, .ref b31, .ref b32, .int b33, .int b34, .int b35, .int b36, .ref b37, .ref b38, .ref b39, .ref b40, .ref b41, .ref b42, .ref b43, .int b44, .ref b45, .ref b46, .int b47, .ref b48, .ref b49, .ref b50, .ref b51, .ref b52, .int b53, .ref b54, .ref b55, .ref b56])), (b4, .inl (G.2 0, 503, .inl b57)), (b18, .inl (G.2 0, 2, .inl b58)), (b19, .inl (G.2 0, 4820, .inl b59)), (b20, .inl (G.2 0, 520, .inl b60)), (b21, .inl (G.2 0, 9640, .inl b61)), (b22, .inl (G.2 0, 482, .inl b62)), (b23, .inl (G.2 0, 482, .inl b63)), (b24, .inl (G.2 0, 2, .inl b64)), (b25, .inl (G.2 0, 482, .inl b65)), (b26, .inl (G.2 0, 482, .inl b66)), (b27, .inl (G.2 0, 482, .inl b67)), (b28, .inl (G.2 0, 2, .inl b68)), (b29, .inl (G.2 0, 2880, .inl b69)), (b54, .inl (G.2 0, 12, .inl b70))]) Z (s2_Model_in l G (b1.toInt64) (0) (999999)) hl.1 q1281 q1282 q14 q1283 ⟨by decide, by decide, by show _ = some 3; decide +kernel⟩ ⟨Nat.le_of_ble_eq_true rfl, Nat.le_of_ble_eq_true rfl⟩ ⟨Nat.le_of_ble_eq_true rfl, Nat.le_of_ble_eq_true rfl⟩ rfl (Nat.le_of_ble_eq_true rfl) d_Model_walk_11 hP hD hS hA [] [0, 1, 2, 3, 4, 5, 6, 7, 8, 9, 10, 11, 12, 13, 14] rfl rfl rfl rfl (by decide) (fun v w1 H locs hw_1 hP hD hS => ?_)
  rcases hw_1 with ⟨rfl, rfl, hq_2⟩ | ⟨rfl, rfl, hq_3, hq_4⟩ | ⟨rfl, rfl, hq_5, hq_6⟩
  · have hP : va_P G.1 classes [(b0, .inr (12, [.int 0, .ref b4, .ref b5, .ref b6, .ref b7, .int b8, .ref b9, .int b10, .int b11, .int b12, .int b13, .ref b14, .ref b15, .ref b16, .int b17, .ref b18, .ref b19, .ref b20, .ref b21, .ref b22, .ref b23, .ref b24, .ref b25, .ref b26, .ref b27, .ref b28, .ref b29, .int b30, .ref b31, .ref b32, .int b33, .int b34, .int b35, .int b36, .ref b37, .ref b38, .ref b39, .ref b40, .ref b41, .ref b42, .ref b43, .int b44, .ref b45, .ref b46, .int b47, .ref b48, .ref b49, .ref b50, .ref b51, .ref b52, .int b53, .ref b54, .ref b55, .ref b56])), (b4, .inl (G.2 0, 503, .inl b57)), (b18, .inl (G.2 0, 2, .inl b58)), (b19, .inl (G.2 0, 4820, .inl b59)), (b20, .inl (G.2 0, 520, .inl b60)), (b21, .inl (G.2 0, 9640, .inl b61)), (b22, .inl (G.2 0, 482, .inl b62)), (b23, .inl (G.2 0, 482, .inl b63)), (b24, .inl (G.2 0, 2, .inl b64)), (b25, .inl (G.2 0, 482, .inl b65)), (b26, .inl (G.2 0, 482, .inl b66)), (b27, .inl (G.2 0, 482, .inl b67)), (b28, .inl (G.2 0, 2, .inl b68)), (b29, .inl (G.2 0, 2880, .inl b69)), (b54, .inl (G.2 0, 12, .inl b70))] H := hP
    have hD := z_tie hP hD rfl
    try simp only [Int32.toInt_toInt64, ll_0] at hq_2
    have hv_7 : zI b1 (-2147483648) (-1) := by have _a := hq_2; have _b := (zI_all b1); have _c := zcl_0; simp only [Int32.toInt_toInt64] at *; exact ⟨by omega, by omega⟩
    refine W.widen (k := 0) (n := 0) (Nat.le_of_ble_eq_true rfl) (Nat.le_of_ble_eq_true rfl) ?_
    refine lv_if_eq (tgt := 29) hx hb d_Model_walk_14 (by decide) (fun _ => ?_) (fun hc => absurd hc (by decide +kernel))
    refine lv_iconst (v := (-1)) hx hb d_Model_walk_29 (by decide) ?_
    exact z_iret hx hb hr hlocks hP hD hS (Nat.le_of_ble_eq_true rfl) (Nat.le_of_ble_eq_true rfl) d_Model_walk_30 ⟨(-1), b30, b58, b59, b60, b61, b62, b63, b64, b65, b66, b67, b68, b69, b70, rfl, rfl, hb30, hb58, hb59, hb60, hb62, hb63, hb64, hb65, hb68, hb69⟩
  · have hP : va_P G.1 classes [(b0, .inr (12, [.int 0, .ref b4, .ref b5, .ref b6, .ref b7, .int b8, .ref b9, .int b10, .int b11, .int b12, .int b13, .ref b14, .ref b15, .ref b16, .int b17, .ref b18, .ref b19, .ref b20, .ref b21, .ref b22, .ref b23, .ref b24, .ref b25, .ref b26, .ref b27, .ref b28, .ref b29, .int b30, .ref b31, .ref b32, .int b33, .int b34, .int b35, .int b36, .ref b37, .ref b38, .ref b39, .ref b40, .ref b41, .ref b42, .ref b43, .int b44, .ref b45, .ref b46, .int b47, .ref b48, .ref b49, .ref b50, .ref b51, .ref b52, .int b53, .ref b54, .ref b55, .ref b56])), (b4, .inl (G.2 0, 503, .inl b57)), (b18, .inl (G.2 0, 2, .inl b58)), (b19, .inl (G.2 0, 4820, .inl b59)), (b20, .inl (G.2 0, 520, .inl b60)), (b21, .inl (G.2 0, 9640, .inl b61)), (b22, .inl (G.2 0, 482, .inl b62)), (b23, .inl (G.2 0, 482, .inl b63)), (b24, .inl (G.2 0, 2, .inl b64)), (b25, .inl (G.2 0, 482, .inl b65)), (b26, .inl (G.2 0, 482, .inl b66)), (b27, .inl (G.2 0, 482, .inl b67)), (b28, .inl (G.2 0, 2, .inl b68)), (b29, .inl (G.2 0, 2880, .inl b69)), (b54, .inl (G.2 0, 12, .inl b70))] H := hP
    have hD := z_tie hP hD rfl
    try simp only [Int32.toInt_toInt64, ll_0] at hq_3
    have hv_8 : zI b1 0 2147483647 := by have _a := hq_3; have _b := (zI_all b1); have _c := zcl_0; simp only [Int32.toInt_toInt64] at *; exact ⟨by omega, by omega⟩
    try simp only [Int32.toInt_toInt64, ll_999999] at hq_4
    have hv_9 : zI b1 1000000 2147483647 := by have _a := hq_4; have _b := hv_8; have _c := zcl_999999; simp only [Int32.toInt_toInt64] at *; exact ⟨by omega, by omega⟩
    refine W.widen (k := 0) (n := 0) (Nat.le_of_ble_eq_true rfl) (Nat.le_of_ble_eq_true rfl) ?_
    refine lv_if_eq (tgt := 29) hx hb d_Model_walk_14 (by decide) (fun _ => ?_) (fun hc => absurd hc (by decide +kernel))
    refine lv_iconst (v := (-1)) hx hb d_Model_walk_29 (by decide) ?_
    exact z_iret hx hb hr hlocks hP hD hS (Nat.le_of_ble_eq_true rfl) (Nat.le_of_ble_eq_true rfl) d_Model_walk_30 ⟨(-1), b30, b58, b59, b60, b61, b62, b63, b64, b65, b66, b67, b68, b69, b70, rfl, rfl, hb30, hb58, hb59, hb60, hb62, hb63, hb64, hb65, hb68, hb69⟩
  · have hP : va_P G.1 classes [(b0, .inr (12, [.int 0, .ref b4, .ref b5, .ref b6, .ref b7, .int b8, .ref b9, .int b10, .int b11, .int b12, .int b13, .ref b14, .ref b15, .ref b16, .int b17, .ref b18, .ref b19, .ref b20, .ref b21, .ref b22, .ref b23, .ref b24, .ref b25, .ref b26, .ref b27, .ref b28, .ref b29, .int b30, .ref b31, .ref b32, .int b33, .int b34, .int b35, .int b36, .ref b37, .ref b38, .ref b39, .ref b40, .ref b41, .ref b42, .ref b43, .int b44, .ref b45, .ref b46, .int b47, .ref b48, .ref b49, .ref b50, .ref b51, .ref b52, .int b53, .ref b54, .ref b55, .ref b56])), (b4, .inl (G.2 0, 503, .inl b57)), (b18, .inl (G.2 0, 2, .inl b58)), (b19, .inl (G.2 0, 4820, .inl b59)), (b20, .inl (G.2 0, 520, .inl b60)), (b21, .inl (G.2 0, 9640, .inl b61)), (b22, .inl (G.2 0, 482, .inl b62)), (b23, .inl (G.2 0, 482, .inl b63)), (b24, .inl (G.2 0, 2, .inl b64)), (b25, .inl (G.2 0, 482, .inl b65)), (b26, .inl (G.2 0, 482, .inl b66)), (b27, .inl (G.2 0, 482, .inl b67)), (b28, .inl (G.2 0, 2, .inl b68)), (b29, .inl (G.2 0, 2880, .inl b69)), (b54, .inl (G.2 0, 12, .inl b70))] H := hP
    have hD := z_tie hP hD rfl
    try simp only [Int32.toInt_toInt64, ll_0] at hq_5
    have hv_10 : zI b1 0 2147483647 := by have _a := hq_5; have _b := (zI_all b1); have _c := zcl_0; simp only [Int32.toInt_toInt64] at *; exact ⟨by omega, by omega⟩
    try simp only [Int32.toInt_toInt64, ll_999999] at hq_6
    have hv_11 : zI b1 0 999999 := by have _a := hq_6; have _b := hv_10; have _c := zcl_999999; simp only [Int32.toInt_toInt64] at *; exact ⟨by omega, by omega⟩
    refine W.widen (k := 0) (n := 0) (Nat.le_of_ble_eq_true rfl) (Nat.le_of_ble_eq_true rfl) ?_
    refine lv_if_eq (tgt := 29) hx hb d_Model_walk_14 (by decide) (fun hc => absurd hc (by decide +kernel)) (fun _ => ?_)
    refine lv_aload_n hx hb d_Model_walk_17 rfl (lv_at hl 0 rfl) ?_
    refine z_callV (index := 134) (As := []) (rest := []) (wr := [(b18, .inl (G.2 0, 2, .inl b58)), (b19, .inl (G.2 0, 4820, .inl b59)), (b20, .inl (G.2 0, 520, .inl b60)), (b21, .inl (G.2 0, 9640, .inl b61)), (b22, .inl (G.2 0, 482, .inl b62)), (b23, .inl (G.2 0, 482, .inl b63)), (b24, .inl (G.2 0, 2, .inl b64)), (b25, .inl (G.2 0, 482, .inl b65)), (b26, .inl (G.2 0, 482, .inl b66)), (b27, .inl (G.2 0, 482, .inl b67)), (b28, .inl (G.2 0, 2, .inl b68)), (b29, .inl (G.2 0, 2880, .inl b69)), (b54, .inl (G.2 0, 12, .inl b70))]) Z (s1_Model_many l G (b0) (0) (b4) (b5) (b6) (b7) (b8) (b9) (b10) (b11) (b12) (b13) (b14) (b15) (b16) (b17) (b18) (b19) (b20) (b21) (b22) (b23) (b24) (b25) (b26) (b27) (b28) (b29) (b30) (b31) (b32) (b33) (b34) (b35) (b36) (b37) (b38) (b39) (b40) (b41) (b42) (b43) (b44) (b45) (b46) (b47) (b48) (b49) (b50) (b51) (b52) (b53) (b54) (b55) (b56) (b57) hb8 hb10 hb11 hb13 hb17 hb30 hb33 hb44 hb47 hb53 hb57) hl.1 q1320 q1322 qs51 q14 q1323 ⟨by decide, by decide, by show _ = some 0; decide +kernel⟩ ⟨Nat.le_of_ble_eq_true rfl, Nat.le_of_ble_eq_true rfl⟩ ⟨Nat.le_of_ble_eq_true rfl, Nat.le_of_ble_eq_true rfl⟩ rfl (Nat.le_of_ble_eq_true rfl) d_Model_walk_18 hP hD hS hA 0 12 rfl rfl rfl [0, 1] [2, 3, 4, 5, 6, 7, 8, 9, 10, 11, 12, 13, 14] rfl rfl rfl rfl (by decide) (fun v w1 H locs hw_12 hP hD hS => ?_)
    obtain ⟨x_13, rfl, rfl, hx_13, hfx_14⟩ := hw_12
    have hP : va_P G.1 classes [(b18, .inl (G.2 0, 2, .inl b58)), (b19, .inl (G.2 0, 4820, .inl b59)), (b20, .inl (G.2 0, 520, .inl b60)), (b21, .inl (G.2 0, 9640, .inl b61)), (b22, .inl (G.2 0, 482, .inl b62)), (b23, .inl (G.2 0, 482, .inl b63)), (b24, .inl (G.2 0, 2, .inl b64)), (b25, .inl (G.2 0, 482, .inl b65)), (b26, .inl (G.2 0, 482, .inl b66)), (b27, .inl (G.2 0, 482, .inl b67)), (b28, .inl (G.2 0, 2, .inl b68)), (b29, .inl (G.2 0, 2880, .inl b69)), (b54, .inl (G.2 0, 12, .inl b70)), (b0, .inr (12, [.int 0, .ref b4, .ref b5, .ref b6, .ref b7, .int b8, .ref b9, .int b10, .int b11, .int b12, .int b13, .ref b14, .ref b15, .ref b16, .int b17, .ref b18, .ref b19, .ref b20, .ref b21, .ref b22, .ref b23, .ref b24, .ref b25, .ref b26, .ref b27, .ref b28, .ref b29, .int b30, .ref b31, .ref b32, .int b33, .int b34, .int b35, .int b36, .ref b37, .ref b38, .ref b39, .ref b40, .ref b41, .ref b42, .ref b43, .int b44, .ref b45, .ref b46, .int b47, .ref b48, .ref b49, .ref b50, .ref b51, .ref b52, .int b53, .ref b54, .ref b55, .ref b56])), (b4, .inl (G.2 0, 503, .inl b57))] H := hP
    have hD := z_tie hP hD rfl
    refine W.widen (k := 0) (n := 0) (Nat.le_of_ble_eq_true rfl) (Nat.le_of_ble_eq_true rfl) ?_
    refine lv_if_eq (tgt := 29) hx hb d_Model_walk_21 (by decide) (fun hc_15 => ?_) (fun hc_15 => ?_)
    · have _nhc_15 := hc_15
      have ni_16 := (fa_eq _ _).mp hc_15
      rw [li_0] at ni_16
      have hv_17 : zI x_13 0 0 := zI.eq_l hx_13 zc_0 hc_15
      refine lv_iconst (v := (-1)) hx hb d_Model_walk_29 (by decide) ?_
      exact z_iret hx hb hr hlocks (hP.sub [13, 14, 0, 1, 2, 3, 4, 5, 6, 7, 8, 9, 10, 11, 12] rfl) (hD.sub [13, 14, 0, 1, 2, 3, 4, 5, 6, 7, 8, 9, 10, 11, 12] (by decide) rfl) hS (Nat.le_of_ble_eq_true rfl) (Nat.le_of_ble_eq_true rfl) d_Model_walk_30 ⟨(-1), b30, b58, b59, b60, b61, b62, b63, b64, b65, b66, b67, b68, b69, b70, rfl, rfl, hb30, hb58, hb59, hb60, hb62, hb63, hb64, hb65, hb68, hb69⟩
    · have _nhc_15 := hc_15
      have ni_18 : ¬ (x_13 : Int32).toInt = (0 : Int32).toInt := fun z => hc_15 ((fa_eq _ _).mpr z)
      simp only [li_0] at ni_18
      have hv_19 : zI x_13 1 20 := zI.ne_lo hx_13 zc_0 hc_15 (by decide)
      refine lv_iload_n hx hb d_Model_walk_24 rfl (lv_at hl 2 rfl) ?_
      refine lv_iconst (v := (-1)) hx hb d_Model_walk_25 (by decide) ?_
      refine lv_icmp_ge (tgt := 31) hx hb d_Model_walk_26 (by decide) (fun hc_20 => ?_) (fun hc_20 => ?_)
      · have _nhc_20 := hc_20
        have ni_21 := (fa_le _ _).mp hc_20
        rw [li_m1] at ni_21
        have hv_22 : zI b2 (-1) 2147483647 := zI.le_r zc_m1 (zI_all b2) hc_20 (by decide)
        refine lv_aload_n hx hb d_Model_walk_31 rfl (lv_at hl 0 rfl) ?_
        refine z_callV (index := 254) (As := []) (rest := []) (wr := [(b54, .inl (G.2 0, 12, .inl b70))]) Z (s1_Model_lay1 l G (b0) (0) (b4) (b5) (b6) (b7) (b8) (b9) (b10) (b11) (b12) (b13) (b14) (b15) (b16) (b17) (b18) (b19) (b20) (b21) (b22) (b23) (b24) (b25) (b26) (b27) (b28) (b29) (b30) (b31) (b32) (b33) (b34) (b35) (b36) (b37) (b38) (b39) (b40) (b41) (b42) (b43) (b44) (b45) (b46) (b47) (b48) (b49) (b50) (b51) (b52) (b53) (b54) (b55) (b56) (b57) (b58) (b59) (b60) (b61) (b62) (b63) (b64) (b65) (b66) (b67) (b68) (b69) hb8 hb10 hb11 hb13 hb17 hb30 hb33 hb44 hb47 hb53 hb57 hb58 hb59 hb60 hb62 hb63 hb64 hb65 hb68 hb69) hl.1 q1356 q1358 qs55 q14 q1359 ⟨by decide, by decide, by show _ = some 0; decide +kernel⟩ ⟨Nat.le_of_ble_eq_true rfl, Nat.le_of_ble_eq_true rfl⟩ ⟨Nat.le_of_ble_eq_true rfl, Nat.le_of_ble_eq_true rfl⟩ rfl (Nat.le_of_ble_eq_true rfl) d_Model_walk_32 hP hD hS hA 13 12 rfl rfl rfl [13, 14, 0, 1, 2, 3, 4, 5, 6, 7, 8, 9, 10, 11] [12] rfl rfl rfl rfl (by decide) (fun v w1 H locs hw_23 hP hD hS => ?_)
        refine Exists.elim hw_23 (fun x_24 hz_38 => Exists.elim hz_38 (fun f_25 hz_39 => Exists.elim hz_39 (fun f_26 hz_40 => Exists.elim hz_40 (fun f_27 hz_41 => Exists.elim hz_41 (fun f_28 hz_42 => Exists.elim hz_42 (fun f_29 hz_43 => Exists.elim hz_43 (fun f_30 hz_44 => Exists.elim hz_44 (fun f_31 hz_45 => Exists.elim hz_45 (fun f_32 hz_46 => Exists.elim hz_46 (fun f_33 hz_47 => Exists.elim hz_47 (fun f_34 hz_48 => Exists.elim hz_48 (fun f_35 hz_49 => Exists.elim hz_49 (fun f_36 hz_50 => ?_)))))))))))))
        clear hw_23 hz_38 hz_39 hz_40 hz_41 hz_42 hz_43 hz_44 hz_45 hz_46 hz_47 hz_48 hz_49
        obtain ⟨rfl, rfl, hx_24, hf_25, hf_26, hf_27, hf_29, hf_30, hf_31, hf_32, hf_35, hf_36, hfx_37⟩ := hz_50
        have hP : va_P G.1 classes [(b54, .inl (G.2 0, 12, .inl b70)), (b0, .inr (12, [.int 0, .ref b4, .ref b5, .ref b6, .ref b7, .int b8, .ref b9, .int b10, .int b11, .int b12, .int b13, .ref b14, .ref b15, .ref b16, .int b17, .ref b18, .ref b19, .ref b20, .ref b21, .ref b22, .ref b23, .ref b24, .ref b25, .ref b26, .ref b27, .ref b28, .ref b29, .int x_24, .ref b31, .ref b32, .int b33, .int b34, .int b35, .int b36, .ref b37, .ref b38, .ref b39, .ref b40, .ref b41, .ref b42, .ref b43, .int b44, .ref b45, .ref b46, .int b47, .ref b48, .ref b49, .ref b50, .ref b51, .ref b52, .int b53, .ref b54, .ref b55, .ref b56])), (b4, .inl (G.2 0, 503, .inl b57)), (b18, .inl (G.2 0, 2, .inl f_25)), (b19, .inl (G.2 0, 4820, .inl f_26)), (b20, .inl (G.2 0, 520, .inl f_27)), (b21, .inl (G.2 0, 9640, .inl f_28)), (b22, .inl (G.2 0, 482, .inl f_29)), (b23, .inl (G.2 0, 482, .inl f_30)), (b24, .inl (G.2 0, 2, .inl f_31)), (b25, .inl (G.2 0, 482, .inl f_32)), (b26, .inl (G.2 0, 482, .inl f_33)), (b27, .inl (G.2 0, 482, .inl f_34)), (b28, .inl (G.2 0, 2, .inl f_35)), (b29, .inl (G.2 0, 2880, .inl f_36))] H := hP
        have hD := z_tie hP hD rfl
        refine W.widen (k := 0) (n := 0) (Nat.le_of_ble_eq_true rfl) (Nat.le_of_ble_eq_true rfl) ?_
        refine lv_iload_n hx hb d_Model_walk_35 rfl (lv_at hl 1 rfl) ?_
        refine lv_i2l (v := b1.toInt64) hx hb d_Model_walk_36 rfl ?_
        refine lv_lstore_n (lv' := [(3, .long b1.toInt64), (0, .ref b0), (1, .int b1), (2, .int b2)]) hx hb d_Model_walk_37 rfl hl (by decide) rfl (fun ls hl => ?_)
        refine lv_iconst (v := 0) hx hb d_Model_walk_38 (by decide) ?_
        refine lv_istore (lv' := [(5, .int 0), (3, .long b1.toInt64), (0, .ref b0), (1, .int b1), (2, .int b2)]) hx hb d_Model_walk_39 hl (by decide) rfl (fun ls hl => ?_)
        refine lv_iconst (v := 0) hx hb d_Model_walk_41 (by decide) ?_
        refine lv_istore (lv' := [(6, .int 0), (5, .int 0), (3, .long b1.toInt64), (0, .ref b0), (1, .int b1), (2, .int b2)]) hx hb d_Model_walk_42 hl (by decide) rfl (fun ls hl => ?_)
        refine lv_iconst (v := 1) hx hb d_Model_walk_44 (by decide) ?_
        refine lv_istore (lv' := [(7, .int 1), (6, .int 0), (5, .int 0), (3, .long b1.toInt64), (0, .ref b0), (1, .int b1), (2, .int b2)]) hx hb d_Model_walk_45 hl (by decide) rfl (fun ls hl => ?_)
        refine lv_iconst (v := 0) hx hb d_Model_walk_47 (by decide) ?_
        refine lv_istore (lv' := [(8, .int 0), (7, .int 1), (6, .int 0), (5, .int 0), (3, .long b1.toInt64), (0, .ref b0), (1, .int b1), (2, .int b2)]) hx hb d_Model_walk_48 hl (by decide) rfl (fun ls hl => ?_)
        suffices key : ∀ (k_189 : Nat) (y_190 : Int32) (y_191 : Int64) (y_192 : Int32) (y_193 : Int32) (y_194 : Int32) (y_195 : Nat → Int32) (H : Heap) (locs : List Loc) (ls : Array Slot), (zI y_190 0 1) → (zI y_192 0 12) → (zI y_193 0 240) → (zI y_194 0 1) → (zJ y_191 0 1000002) → (0 ≤ (y_193 : Int32).toInt ∧ (y_193 : Int32).toInt < (f_31 (0 : Int32).toNatClampNeg).toInt) → (zGd f_34 f_36 ((f_35 (0 : Int32).toNatClampNeg).toInt).toNat (y_193 : Int32).toInt) → (13 : Int) - y_192.toInt < (k_189 : Int) → va_P G.1 classes [(b54, .inl (G.2 0, 12, .inl y_195)), (b0, .inr (12, [.int 0, .ref b4, .ref b5, .ref b6, .ref b7, .int b8, .ref b9, .int b10, .int b11, .int b12, .int b13, .ref b14, .ref b15, .ref b16, .int b17, .ref b18, .ref b19, .ref b20, .ref b21, .ref b22, .ref b23, .ref b24, .ref b25, .ref b26, .ref b27, .ref b28, .ref b29, .int x_24, .ref b31, .ref b32, .int b33, .int b34, .int b35, .int b36, .ref b37, .ref b38, .ref b39, .ref b40, .ref b41, .ref b42, .ref b43, .int b44, .ref b45, .ref b46, .int b47, .ref b48, .ref b49, .ref b50, .ref b51, .ref b52, .int b53, .ref b54, .ref b55, .ref b56])), (b4, .inl (G.2 0, 503, .inl b57)), (b18, .inl (G.2 0, 2, .inl f_25)), (b19, .inl (G.2 0, 4820, .inl f_26)), (b20, .inl (G.2 0, 520, .inl f_27)), (b21, .inl (G.2 0, 9640, .inl f_28)), (b22, .inl (G.2 0, 482, .inl f_29)), (b23, .inl (G.2 0, 482, .inl f_30)), (b24, .inl (G.2 0, 2, .inl f_31)), (b25, .inl (G.2 0, 482, .inl f_32)), (b26, .inl (G.2 0, 482, .inl f_33)), (b27, .inl (G.2 0, 482, .inl f_34)), (b28, .inl (G.2 0, 2, .inl f_35)), (b29, .inl (G.2 0, 2880, .inl f_36))] H → va_D A [(b54, .inl (G.2 0, 12, .inl y_195)), (b0, .inr (12, [.int 0, .ref b4, .ref b5, .ref b6, .ref b7, .int b8, .ref b9, .int b10, .int b11, .int b12, .int b13, .ref b14, .ref b15, .ref b16, .int b17, .ref b18, .ref b19, .ref b20, .ref b21, .ref b22, .ref b23, .ref b24, .ref b25, .ref b26, .ref b27, .ref b28, .ref b29, .int x_24, .ref b31, .ref b32, .int b33, .int b34, .int b35, .int b36, .ref b37, .ref b38, .ref b39, .ref b40, .ref b41, .ref b42, .ref b43, .int b44, .ref b45, .ref b46, .int b47, .ref b48, .ref b49, .ref b50, .ref b51, .ref b52, .int b53, .ref b54, .ref b55, .ref b56])), (b4, .inl (G.2 0, 503, .inl b57)), (b18, .inl (G.2 0, 2, .inl f_25)), (b19, .inl (G.2 0, 4820, .inl f_26)), (b20, .inl (G.2 0, 520, .inl f_27)), (b21, .inl (G.2 0, 9640, .inl f_28)), (b22, .inl (G.2 0, 482, .inl f_29)), (b23, .inl (G.2 0, 482, .inl f_30)), (b24, .inl (G.2 0, 2, .inl f_31)), (b25, .inl (G.2 0, 482, .inl f_32)), (b26, .inl (G.2 0, 482, .inl f_33)), (b27, .inl (G.2 0, 482, .inl f_34)), (b28, .inl (G.2 0, 2, .inl f_35)), (b29, .inl (G.2 0, 2880, .inl f_36))] → va_S A s.heap H locs → lv_has ls 11 [(8, .int y_194), (7, .int y_190), (6, .int y_192), (5, .int y_193), (3, .long y_191), (0, .ref b0), (1, .int b1), (2, .int b2)] → W p l e m_s1_Model_walk s m ([.ref b0, .int b1, .int b2] : List Value).toArray below meth c H locs 0 0 (MQ below (zQ G (fun v w => ∃ (e0 : Int32), ∃ (e1 : Int32), ∃ (e2 : Nat → Int32), ∃ (e3 : Nat → Int32), ∃ (e4 : Nat → Int32), ∃ (e5 : Nat → Int32), ∃ (e6 : Nat → Int32), ∃ (e7 : Nat → Int32), ∃ (e8 : Nat → Int32), ∃ (e9 : Nat → Int32), ∃ (e10 : Nat → Int32), ∃ (e11 : Nat → Int32), ∃ (e12 : Nat → Int32), ∃ (e13 : Nat → Int32), ∃ (e14 : Nat → Int32), v = some (.int e0) ∧ w = [(b0, .inr (12, [.int 0, .ref b4, .ref b5, .ref b6, .ref b7, .int b8, .ref b9, .int b10, .int b11, .int b12, .int b13, .ref b14, .ref b15, .ref b16, .int b17, .ref b18, .ref b19, .ref b20, .ref b21, .ref b22, .ref b23, .ref b24, .ref b25, .ref b26, .ref b27, .ref b28, .ref b29, .int e1, .ref b31, .ref b32, .int b33, .int b34, .int b35, .int b36, .ref b37, .ref b38, .ref b39, .ref b40, .ref b41, .ref b42, .ref b43, .int b44, .ref b45, .ref b46, .int b47, .ref b48, .ref b49, .ref b50, .ref b51, .ref b52, .int b53, .ref b54, .ref b55, .ref b56])), (b4, .inl (G.2 0, 503, .inl b57)), (b18, .inl (G.2 0, 2, .inl e2)), (b19, .inl (G.2 0, 4820, .inl e3)), (b20, .inl (G.2 0, 520, .inl e4)), (b21, .inl (G.2 0, 9640, .inl e5)), (b22, .inl (G.2 0, 482, .inl e6)), (b23, .inl (G.2 0, 482, .inl e7)), (b24, .inl (G.2 0, 2, .inl e8)), (b25, .inl (G.2 0, 482, .inl e9)), (b26, .inl (G.2 0, 482, .inl e10)), (b27, .inl (G.2 0, 482, .inl e11)), (b28, .inl (G.2 0, 2, .inl e12)), (b29, .inl (G.2 0, 2880, .inl e13)), (b54, .inl (G.2 0, 12, .inl e14))] ∧ (zI e1 0 1) ∧ (zR e2 0 241) ∧ (zR e3 (-1) 240) ∧ (zqa qP e4) ∧ (zqa qC e6) ∧ (zR e7 0 240) ∧ (zR e8 0 241) ∧ (zR e9 0 240) ∧ (zR e12 0 240) ∧ (zqa qE e13)) A) ([.ref b0, .int b1, .int b2] : List Value).toArray s m_s1_Model_walk.cells m_s1_Model_walk.slots A) (F0 m 50 ls []) by
          exact key 15 (1) (b1.toInt64) (0) (0) (0) (b70) _ _ _ (zI.wk (l' := 0) (h' := 1) zc_1 (by decide)) (zI.wk (l' := 0) (h' := 12) zc_0 (by decide)) (zI.wk (l' := 0) (h' := 240) zc_0 (by decide)) (zI.wk (l' := 0) (h' := 1) zc_0 (by decide)) (zJ.wk (zI_i2l hv_11 rfl).2 (by decide)) (by have z1 := (hfx_37.2.2.2.2 (by have h2 := congrArg Int32.toInt hfx_14; omega)); have z0 := li_0; omega) (by rw [li_0]; exact ((hfx_37.2.2.2.2 (by have h2 := congrArg Int32.toInt hfx_14; omega))).1) (by have _l0 := li_0; omega) hP hD hS (lv_sub hl [0, 1, 2, 3, 4, 5, 6, 7] rfl)
        intro k_189
        induction k_189 with
        | zero =>
          intro y_190 y_191 y_192 y_193 y_194 y_195 H locs ls hy_190 hy_192 hy_193 hy_194 hli_196 hli_197 hli_198 hmk_189 hP hD hS hl
          exfalso; omega
        | succ k_189 ihk_189 =>
          intro y_190 y_191 y_192 y_193 y_194 y_195 H locs ls hy_190 hy_192 hy_193 hy_194 hli_196 hli_197 hli_198 hmk_189 hP hD hS hl
          refine lv_iload hx hb d_Model_walk_50 (lv_at hl 1 rfl) ?_
          refine lv_if_eq (tgt := 235) hx hb d_Model_walk_52 (by decide) (fun hc_199 => ?_) (fun hc_199 => ?_)
          · have _nhc_199 := hc_199
            have ni_200 := (fa_eq _ _).mp hc_199
            rw [li_0] at ni_200
            have hv_201 : zI y_190 0 0 := zI.eq_l hy_190 zc_0 hc_199
            refine lv_iload_n hx hb d_Model_walk_235 rfl (lv_at hl 7 rfl) ?_
            refine lv_iconst (v := (-1)) hx hb d_Model_walk_236 (by decide) ?_
            refine lv_icmp_ne (tgt := 253) hx hb d_Model_walk_237 (by decide) (fun hc_202 => ?_) (fun hc_202 => ?_)
            · have _nhc_202 := hc_202
              have ni_203 : ¬ (b2 : Int32).toInt = ((-1) : Int32).toInt := fun z => hc_202 ((fa_eq _ _).mpr z)
              simp only [li_m1] at ni_203
              have hv_204 : zI b2 0 2147483647 := zI.ne_lo hv_22 zc_m1 hc_202 (by decide)
              refine lv_iload_n hx hb d_Model_walk_253 rfl (lv_at hl 7 rfl) ?_
              refine lv_iload hx hb d_Model_walk_254 (lv_at hl 2 rfl) ?_
              refine lv_icmp_ge (tgt := 271) hx hb d_Model_walk_256 (by decide) (fun hc_205 => ?_) (fun hc_205 => ?_)
              · have _nhc_205 := hc_205
                have ni_206 := (fa_le _ _).mp hc_205
                refine lv_iconst (v := (-1)) hx hb d_Model_walk_271 (by decide) ?_
                exact z_iret hx hb hr hlocks (hP.sub [1, 2, 3, 4, 5, 6, 7, 8, 9, 10, 11, 12, 13, 14, 0] rfl) (hD.sub [1, 2, 3, 4, 5, 6, 7, 8, 9, 10, 11, 12, 13, 14, 0] (by decide) rfl) hS (Nat.le_of_ble_eq_true rfl) (Nat.le_of_ble_eq_true rfl) d_Model_walk_272 ⟨(-1), x_24, f_25, f_26, f_27, f_28, f_29, f_30, f_31, f_32, f_33, f_34, f_35, f_36, y_195, rfl, rfl, hx_24, hf_25, hf_26, hf_27, hf_29, hf_30, hf_31, hf_32, hf_35, hf_36⟩
              · have _nhc_205 := hc_205
                have ni_207 := (fa_lt _ _).mp (zi_nle hc_205)
                have hv_208 : zI b2 0 11 := zI.lt_l hv_204 hy_192 (zi_nle hc_205) (by decide)
                have hv_209 : zI y_192 1 12 := zI.lt_r hv_204 hy_192 (zi_nle hc_205) (by decide)
                refine lv_bipush (v := 97) hx hb d_Model_walk_259 (by decide) ?_
                refine lv_aload_n hx hb d_Model_walk_261 rfl (lv_at hl 5 rfl) ?_
                refine va_get (D := G.1) (ci := 12) (v := .ref b54) (C := R_Model) (T := F_Model) (N := 54) hx hb hts i_Model hown hK hP 1 rfl rfl 51 (by decide) (hts _ q1160) (fun _ h9 => h9) rfl d_Model_walk_262 ?_
                refine lv_iload_n hx hb d_Model_walk_265 rfl (lv_at hl 7 rfl) ?_
                refine va_iald hx hb hK hP 0 0 rfl rfl (zI.inn hv_208 (by decide)) d_Model_walk_266 ?_
                refine lv_topi (fun v_210 ev_210 => ?_)
                refine lv_iadd hx hb d_Model_walk_267 ?_
                refine lv_topi (fun v_211 ev_211 => ?_)
                refine lv_goto (tgt := 272) hx hb d_Model_walk_268 (by decide) ?_
                exact z_iret hx hb hr hlocks (hP.sub [1, 2, 3, 4, 5, 6, 7, 8, 9, 10, 11, 12, 13, 14, 0] rfl) (hD.sub [1, 2, 3, 4, 5, 6, 7, 8, 9, 10, 11, 12, 13, 14, 0] (by decide) rfl) hS (Nat.le_of_ble_eq_true rfl) (Nat.le_of_ble_eq_true rfl) d_Model_walk_272 ⟨v_211, x_24, f_25, f_26, f_27, f_28, f_29, f_30, f_31, f_32, f_33, f_34, f_35, f_36, y_195, rfl, rfl, hx_24, hf_25, hf_26, hf_27, hf_29, hf_30, hf_31, hf_32, hf_35, hf_36⟩
            · have _nhc_202 := hc_202
              have ni_212 := (fa_eq _ _).mp hc_202
              rw [li_m1] at ni_212
              have hv_213 : zI b2 (-1) (-1) := zI.eq_l hv_22 zc_m1 hc_202
              refine lv_iload hx hb d_Model_walk_240 (lv_at hl 0 rfl) ?_
              refine lv_if_eq (tgt := 250) hx hb d_Model_walk_242 (by decide) (fun hc_214 => ?_) (fun hc_214 => ?_)
              · have _nhc_214 := hc_214
                have ni_215 := (fa_eq _ _).mp hc_214
                rw [li_0] at ni_215
                have hv_216 : zI y_194 0 0 := zI.eq_l hy_194 zc_0 hc_214
                refine lv_iload hx hb d_Model_walk_250 (lv_at hl 2 rfl) ?_
                exact z_iret hx hb hr hlocks (hP.sub [1, 2, 3, 4, 5, 6, 7, 8, 9, 10, 11, 12, 13, 14, 0] rfl) (hD.sub [1, 2, 3, 4, 5, 6, 7, 8, 9, 10, 11, 12, 13, 14, 0] (by decide) rfl) hS (Nat.le_of_ble_eq_true rfl) (Nat.le_of_ble_eq_true rfl) d_Model_walk_252 ⟨y_192, x_24, f_25, f_26, f_27, f_28, f_29, f_30, f_31, f_32, f_33, f_34, f_35, f_36, y_195, rfl, rfl, hx_24, hf_25, hf_26, hf_27, hf_29, hf_30, hf_31, hf_32, hf_35, hf_36⟩
              · have _nhc_214 := hc_214
                have ni_217 : ¬ (y_194 : Int32).toInt = (0 : Int32).toInt := fun z => hc_214 ((fa_eq _ _).mpr z)
                simp only [li_0] at ni_217
                have hv_218 : zI y_194 1 1 := zI.ne_lo hy_194 zc_0 hc_214 (by decide)
                refine lv_bipush (v := (-2)) hx hb d_Model_walk_245 (by decide) ?_
                refine lv_goto (tgt := 252) hx hb d_Model_walk_247 (by decide) ?_
                exact z_iret hx hb hr hlocks (hP.sub [1, 2, 3, 4, 5, 6, 7, 8, 9, 10, 11, 12, 13, 14, 0] rfl) (hD.sub [1, 2, 3, 4, 5, 6, 7, 8, 9, 10, 11, 12, 13, 14, 0] (by decide) rfl) hS (Nat.le_of_ble_eq_true rfl) (Nat.le_of_ble_eq_true rfl) d_Model_walk_252 ⟨(-2), x_24, f_25, f_26, f_27, f_28, f_29, f_30, f_31, f_32, f_33, f_34, f_35, f_36, y_195, rfl, rfl, hx_24, hf_25, hf_26, hf_27, hf_29, hf_30, hf_31, hf_32, hf_35, hf_36⟩
          · have _nhc_199 := hc_199
            have ni_219 : ¬ (y_190 : Int32).toInt = (0 : Int32).toInt := fun z => hc_199 ((fa_eq _ _).mpr z)
            simp only [li_0] at ni_219
            have hv_220 : zI y_190 1 1 := zI.ne_lo hy_190 zc_0 hc_199 (by decide)
            refine lv_lload_n hx hb d_Model_walk_55 rfl (lv_at hl 4 rfl) ?_
            refine lv_ldc2 hx hb hown (hts _ q1542) d_Model_walk_56 ?_
            refine lv_lmul hx hb d_Model_walk_59 ?_
            refine lv_topl (fun v_221 ev_221 => ?_)
            refine lv_ldc2 hx hb hown (hts _ q1543) d_Model_walk_60 ?_
            refine lv_ladd hx hb d_Model_walk_63 ?_
            refine lv_topl (fun v_222 ev_222 => ?_)
            refine lv_ldc2 hx hb hown (hts _ q1544) d_Model_walk_64 ?_
            refine lv_lrem hx hb d_Model_walk_67 (by decide +kernel) ?_
            refine lv_topl (fun v_223 ev_223 => ?_)
            have zsv_223 := zw_draw hli_196 ev_221 ev_222 ev_223
            refine lv_lstore_n (lv' := [(3, .long v_223), (8, .int y_194), (7, .int y_190), (6, .int y_192), (5, .int y_193), (0, .ref b0), (1, .int b1), (2, .int b2)]) hx hb d_Model_walk_68 rfl hl (by decide) rfl (fun ls hl => ?_)
            refine lv_lload_n hx hb d_Model_walk_69 rfl (lv_at hl 0 rfl) ?_
            refine lv_aload_n hx hb d_Model_walk_70 rfl (lv_at hl 5 rfl) ?_
            refine va_get (D := G.1) (ci := 12) (v := .ref b27) (C := R_Model) (T := F_Model) (N := 54) hx hb hts i_Model hown hK hP 1 rfl rfl 24 (by decide) (hts _ q1133) (fun _ h9 => h9) rfl d_Model_walk_71 ?_
            refine lv_iload hx hb d_Model_walk_74 (lv_at hl 4 rfl) ?_
            refine va_iald hx hb hK hP 12 0 rfl rfl (zI.inn hy_193 (by decide)) d_Model_walk_76 ?_
            refine lv_topi (fun v_224 ev_224 => ?_)
            refine lv_aload_n hx hb d_Model_walk_77 rfl (lv_at hl 5 rfl) ?_
            refine lv_iload hx hb d_Model_walk_78 (lv_at hl 4 rfl) ?_
            refine lv_iconst (v := 1) hx hb d_Model_walk_80 (by decide) ?_
            refine z_callV (index := 259) (As := [.int y_193, .int 1]) (rest := [.int v_224, .long v_223]) (wr := [(b54, .inl (G.2 0, 12, .inl y_195)), (b4, .inl (G.2 0, 503, .inl b57)), (b18, .inl (G.2 0, 2, .inl f_25)), (b19, .inl (G.2 0, 4820, .inl f_26)), (b20, .inl (G.2 0, 520, .inl f_27)), (b21, .inl (G.2 0, 9640, .inl f_28)), (b22, .inl (G.2 0, 482, .inl f_29)), (b23, .inl (G.2 0, 482, .inl f_30)), (b24, .inl (G.2 0, 2, .inl f_31)), (b25, .inl (G.2 0, 482, .inl f_32)), (b26, .inl (G.2 0, 482, .inl f_33)), (b27, .inl (G.2 0, 482, .inl f_34))]) Z (s1_Model_leaving l G (b0) (y_193) (1) (0) (b4) (b5) (b6) (b7) (b8) (b9) (b10) (b11) (b12) (b13) (b14) (b15) (b16) (b17) (b18) (b19) (b20) (b21) (b22) (b23) (b24) (b25) (b26) (b27) (b28) (b29) (x_24) (b31) (b32) (b33) (b34) (b35) (b36) (b37) (b38) (b39) (b40) (b41) (b42) (b43) (b44) (b45) (b46) (b47) (b48) (b49) (b50) (b51) (b52) (b53) (b54) (b55) (b56) (f_35) (f_36) (zI.wk (l' := 0) (h' := 1) zc_1 (by decide)) hb8 hb10 hb11 hb13 hb17 hx_24 hb33 hb44 hb47 hb53 hf_35 hf_36) hl.1 q1424 q1426 qs71 q14 q1427 ⟨by decide, by decide, by show _ = some 2; decide +kernel⟩ ⟨Nat.le_of_ble_eq_true rfl, Nat.le_of_ble_eq_true rfl⟩ ⟨Nat.le_of_ble_eq_true rfl, Nat.le_of_ble_eq_true rfl⟩ rfl (Nat.le_of_ble_eq_true rfl) d_Model_walk_81 hP hD hS hA 1 12 rfl rfl rfl [1, 13, 14] [0, 2, 3, 4, 5, 6, 7, 8, 9, 10, 11, 12] rfl rfl rfl rfl (by decide) (fun v w1 H locs hw_225 hP hD hS => ?_)
            obtain ⟨x_226, rfl, rfl, hfx_227⟩ := hw_225
            have hP : va_P G.1 classes [(b54, .inl (G.2 0, 12, .inl y_195)), (b4, .inl (G.2 0, 503, .inl b57)), (b18, .inl (G.2 0, 2, .inl f_25)), (b19, .inl (G.2 0, 4820, .inl f_26)), (b20, .inl (G.2 0, 520, .inl f_27)), (b21, .inl (G.2 0, 9640, .inl f_28)), (b22, .inl (G.2 0, 482, .inl f_29)), (b23, .inl (G.2 0, 482, .inl f_30)), (b24, .inl (G.2 0, 2, .inl f_31)), (b25, .inl (G.2 0, 482, .inl f_32)), (b26, .inl (G.2 0, 482, .inl f_33)), (b27, .inl (G.2 0, 482, .inl f_34)), (b0, .inr (12, [.int 0, .ref b4, .ref b5, .ref b6, .ref b7, .int b8, .ref b9, .int b10, .int b11, .int b12, .int b13, .ref b14, .ref b15, .ref b16, .int b17, .ref b18, .ref b19, .ref b20, .ref b21, .ref b22, .ref b23, .ref b24, .ref b25, .ref b26, .ref b27, .ref b28, .ref b29, .int x_24, .ref b31, .ref b32, .int b33, .int b34, .int b35, .int b36, .ref b37, .ref b38, .ref b39, .ref b40, .ref b41, .ref b42, .ref b43, .int b44, .ref b45, .ref b46, .int b47, .ref b48, .ref b49, .ref b50, .ref b51, .ref b52, .int b53, .ref b54, .ref b55, .ref b56])), (b28, .inl (G.2 0, 2, .inl f_35)), (b29, .inl (G.2 0, 2880, .inl f_36))] H := hP
            have hD := z_tie hP hD rfl
            refine W.widen (k := 0) (n := 0) (Nat.le_of_ble_eq_true rfl) (Nat.le_of_ble_eq_true rfl) ?_
            refine lv_iadd hx hb d_Model_walk_84 ?_
            refine lv_topi (fun v_228 ev_228 => ?_)
            have wzv_228 := hfx_227 li_1 hfx_37.1 (by have h9 := hfx_37.2.1; have h8 := ((zW5.ld (i := 0) (v := b57 (0 : Int32).toNatClampNeg) (a := 0) (b := 20) hb57 zc_0 rfl (by decide))).2; omega)
            have wav_228 := zw_div hfx_37 ((zW5.ld (i := 0) (v := b57 (0 : Int32).toNatClampNeg) (a := 0) (b := 20) hb57 zc_0 rfl (by decide))).2 hli_198 hli_197 ev_224 wzv_228 ev_228
            refine lv_i2l (v := v_228.toInt64) hx hb d_Model_walk_85 rfl ?_
            refine lv_lrem hx hb d_Model_walk_86 (by intro h9; have h8 := congrArg Int64.toInt h9; rw [Int32.toInt_toInt64] at h8; have h7 : (0 : Int64).toInt = 0 := (by decide +kernel); omega) ?_
            refine lv_topl (fun v_229 ev_229 => ?_)
            obtain ⟨v_230, ev_230⟩ : ∃ z : Int32, z = (v_229).toInt32 := ⟨_, rfl⟩
            refine lv_l2i (v := v_230) hx hb d_Model_walk_87 ev_230.symm ?_
            refine lv_aload_n hx hb d_Model_walk_88 rfl (lv_at hl 5 rfl) ?_
            refine va_get (D := G.1) (ci := 12) (v := .ref b27) (C := R_Model) (T := F_Model) (N := 54) hx hb hts i_Model hown hK hP 12 rfl rfl 24 (by decide) (hts _ q1133) (fun _ h9 => h9) rfl d_Model_walk_89 ?_
            refine lv_iload hx hb d_Model_walk_92 (lv_at hl 4 rfl) ?_
            refine va_iald hx hb hK hP 11 0 rfl rfl (zI.inn hy_193 (by decide)) d_Model_walk_94 ?_
            refine lv_topi (fun v_231 ev_231 => ?_)
            obtain rfl : v_224 = v_231 := ev_224.trans ev_231.symm
            refine lv_isub hx hb d_Model_walk_95 ?_
            refine lv_topi (fun v_232 ev_232 => ?_)
            obtain ⟨hv_232, wlv_232⟩ := zw_left zsv_223 wav_228 ev_229 ev_230 ev_232
            refine lv_istore (lv' := [(9, .int v_232), (3, .long v_223), (8, .int y_194), (7, .int y_190), (6, .int y_192), (5, .int y_193), (0, .ref b0), (1, .int b1), (2, .int b2)]) hx hb d_Model_walk_96 hl (by decide) rfl (fun ls hl => ?_)
            refine lv_iload hx hb d_Model_walk_98 (lv_at hl 0 rfl) ?_
            refine lv_if_lt (tgt := 114) hx hb d_Model_walk_100 (by decide) (fun hc_233 => ?_) (fun hc_233 => ?_)
            · have _nhc_233 := hc_233
              have ni_234 := (fa_lt _ _).mp hc_233
              rw [li_0] at ni_234
              have hv_235 : zI v_232 (-20) (-1) := zI.lt_l hv_232 zc_0 hc_233 (by decide)
              refine lv_iconst (v := 0) hx hb d_Model_walk_114 (by decide) ?_
              refine lv_istore (lv' := [(8, .int 0), (9, .int v_232), (3, .long v_223), (7, .int y_190), (6, .int y_192), (5, .int y_193), (0, .ref b0), (1, .int b1), (2, .int b2)]) hx hb d_Model_walk_115 hl (by decide) rfl (fun ls hl => ?_)
              refine lv_iload hx hb d_Model_walk_117 (lv_at hl 1 rfl) ?_
              refine lv_if_lt (tgt := 131) hx hb d_Model_walk_119 (by decide) (fun _ => ?_) (fun hc => zI.no_le zc_0 hv_235 (zi_nlt hc) (by decide))
              refine lv_iconst (v := 0) hx hb d_Model_walk_131 (by decide) ?_
              refine lv_istore (lv' := [(7, .int 0), (8, .int 0), (9, .int v_232), (3, .long v_223), (6, .int y_192), (5, .int y_193), (0, .ref b0), (1, .int b1), (2, .int b2)]) hx hb d_Model_walk_132 hl (by decide) rfl (fun ls hl => ?_)
              refine lv_iload hx hb d_Model_walk_134 (lv_at hl 0 rfl) ?_
              refine lv_if_eq (tgt := 232) hx hb d_Model_walk_136 (by decide) (fun _ => ?_) (fun hc => absurd hc (by decide +kernel))
              refine lv_goto (tgt := 50) hx hb d_Model_walk_232 (by decide) ?_
              refine lv_iload hx hb d_Model_walk_50 (lv_at hl 0 rfl) ?_
              refine lv_if_eq (tgt := 235) hx hb d_Model_walk_52 (by decide) (fun _ => ?_) (fun hc => absurd hc (by decide +kernel))
              refine lv_iload_n hx hb d_Model_walk_235 rfl (lv_at hl 8 rfl) ?_
              refine lv_iconst (v := (-1)) hx hb d_Model_walk_236 (by decide) ?_
              refine lv_icmp_ne (tgt := 253) hx hb d_Model_walk_237 (by decide) (fun hc_236 => ?_) (fun hc_236 => ?_)
              · have _nhc_236 := hc_236
                have ni_237 : ¬ (b2 : Int32).toInt = ((-1) : Int32).toInt := fun z => hc_236 ((fa_eq _ _).mpr z)
                simp only [li_m1] at ni_237
                have hv_238 : zI b2 0 2147483647 := zI.ne_lo hv_22 zc_m1 hc_236 (by decide)
                refine lv_iload_n hx hb d_Model_walk_253 rfl (lv_at hl 8 rfl) ?_
                refine lv_iload hx hb d_Model_walk_254 (lv_at hl 4 rfl) ?_
                refine lv_icmp_ge (tgt := 271) hx hb d_Model_walk_256 (by decide) (fun hc_239 => ?_) (fun hc_239 => ?_)
                · have _nhc_239 := hc_239
                  have ni_240 := (fa_le _ _).mp hc_239
                  refine lv_iconst (v := (-1)) hx hb d_Model_walk_271 (by decide) ?_
                  exact z_iret hx hb hr hlocks (hP.sub [12, 1, 2, 3, 4, 5, 6, 7, 8, 9, 10, 11, 13, 14, 0] rfl) (hD.sub [12, 1, 2, 3, 4, 5, 6, 7, 8, 9, 10, 11, 13, 14, 0] (by decide) rfl) hS (Nat.le_of_ble_eq_true rfl) (Nat.le_of_ble_eq_true rfl) d_Model_walk_272 ⟨(-1), x_24, f_25, f_26, f_27, f_28, f_29, f_30, f_31, f_32, f_33, f_34, f_35, f_36, y_195, rfl, rfl, hx_24, hf_25, hf_26, hf_27, hf_29, hf_30, hf_31, hf_32, hf_35, hf_36⟩
                · have _nhc_239 := hc_239
                  have ni_241 := (fa_lt _ _).mp (zi_nle hc_239)
                  have hv_242 : zI b2 0 11 := zI.lt_l hv_238 hy_192 (zi_nle hc_239) (by decide)
                  have hv_243 : zI y_192 1 12 := zI.lt_r hv_238 hy_192 (zi_nle hc_239) (by decide)
                  refine lv_bipush (v := 97) hx hb d_Model_walk_259 (by decide) ?_
                  refine lv_aload_n hx hb d_Model_walk_261 rfl (lv_at hl 6 rfl) ?_
                  refine va_get (D := G.1) (ci := 12) (v := .ref b54) (C := R_Model) (T := F_Model) (N := 54) hx hb hts i_Model hown hK hP 12 rfl rfl 51 (by decide) (hts _ q1160) (fun _ h9 => h9) rfl d_Model_walk_262 ?_
                  refine lv_iload_n hx hb d_Model_walk_265 rfl (lv_at hl 8 rfl) ?_
                  refine va_iald hx hb hK hP 0 0 rfl rfl (zI.inn hv_242 (by decide)) d_Model_walk_266 ?_
                  refine lv_topi (fun v_244 ev_244 => ?_)
                  refine lv_iadd hx hb d_Model_walk_267 ?_
                  refine lv_topi (fun v_245 ev_245 => ?_)
                  refine lv_goto (tgt := 272) hx hb d_Model_walk_268 (by decide) ?_
                  exact z_iret hx hb hr hlocks (hP.sub [12, 1, 2, 3, 4, 5, 6, 7, 8, 9, 10, 11, 13, 14, 0] rfl) (hD.sub [12, 1, 2, 3, 4, 5, 6, 7, 8, 9, 10, 11, 13, 14, 0] (by decide) rfl) hS (Nat.le_of_ble_eq_true rfl) (Nat.le_of_ble_eq_true rfl) d_Model_walk_272 ⟨v_245, x_24, f_25, f_26, f_27, f_28, f_29, f_30, f_31, f_32, f_33, f_34, f_35, f_36, y_195, rfl, rfl, hx_24, hf_25, hf_26, hf_27, hf_29, hf_30, hf_31, hf_32, hf_35, hf_36⟩
              · have _nhc_236 := hc_236
                have ni_246 := (fa_eq _ _).mp hc_236
                rw [li_m1] at ni_246
                have hv_247 : zI b2 (-1) (-1) := zI.eq_l hv_22 zc_m1 hc_236
                refine lv_iload hx hb d_Model_walk_240 (lv_at hl 1 rfl) ?_
                refine lv_if_eq (tgt := 250) hx hb d_Model_walk_242 (by decide) (fun _ => ?_) (fun hc => absurd hc (by decide +kernel))
                refine lv_iload hx hb d_Model_walk_250 (lv_at hl 4 rfl) ?_
                exact z_iret hx hb hr hlocks (hP.sub [12, 1, 2, 3, 4, 5, 6, 7, 8, 9, 10, 11, 13, 14, 0] rfl) (hD.sub [12, 1, 2, 3, 4, 5, 6, 7, 8, 9, 10, 11, 13, 14, 0] (by decide) rfl) hS (Nat.le_of_ble_eq_true rfl) (Nat.le_of_ble_eq_true rfl) d_Model_walk_252 ⟨y_192, x_24, f_25, f_26, f_27, f_28, f_29, f_30, f_31, f_32, f_33, f_34, f_35, f_36, y_195, rfl, rfl, hx_24, hf_25, hf_26, hf_27, hf_29, hf_30, hf_31, hf_32, hf_35, hf_36⟩
            · have _nhc_233 := hc_233
              have ni_248 := (fa_le _ _).mp (zi_nlt hc_233)
              rw [li_0] at ni_248
              have hv_249 : zI v_232 0 1000 := zI.le_r zc_0 hv_232 (zi_nlt hc_233) (by decide)
              refine lv_iload hx hb d_Model_walk_103 (lv_at hl 4 rfl) ?_
              refine lv_bipush (v := 12) hx hb d_Model_walk_105 (by decide) ?_
              refine lv_icmp_ne (tgt := 114) hx hb d_Model_walk_107 (by decide) (fun hc_250 => ?_) (fun hc_250 => ?_)
              · have _nhc_250 := hc_250
                have ni_251 : ¬ (y_192 : Int32).toInt = (12 : Int32).toInt := fun z => hc_250 ((fa_eq _ _).mpr z)
                simp only [li_12] at ni_251
                have hv_252 : zI y_192 0 11 := zI.ne_hi hy_192 zc_12 hc_250 (by decide)
                refine lv_iconst (v := 0) hx hb d_Model_walk_114 (by decide) ?_
                refine lv_istore (lv' := [(8, .int 0), (9, .int v_232), (3, .long v_223), (7, .int y_190), (6, .int y_192), (5, .int y_193), (0, .ref b0), (1, .int b1), (2, .int b2)]) hx hb d_Model_walk_115 hl (by decide) rfl (fun ls hl => ?_)
                refine lv_iload hx hb d_Model_walk_117 (lv_at hl 1 rfl) ?_
                refine lv_if_lt (tgt := 131) hx hb d_Model_walk_119 (by decide) (fun hc => zI.no_lt hv_249 zc_0 hc (by decide)) (fun _ => ?_)
                refine lv_iload hx hb d_Model_walk_122 (lv_at hl 0 rfl) ?_
                refine lv_if_ne (tgt := 131) hx hb d_Model_walk_124 (by decide) (fun hc => absurd hc (by decide +kernel)) (fun _ => ?_)
                refine lv_iconst (v := 1) hx hb d_Model_walk_127 (by decide) ?_
                refine lv_goto (tgt := 132) hx hb d_Model_walk_128 (by decide) ?_
                refine lv_istore (lv' := [(7, .int 1), (8, .int 0), (9, .int v_232), (3, .long v_223), (6, .int y_192), (5, .int y_193), (0, .ref b0), (1, .int b1), (2, .int b2)]) hx hb d_Model_walk_132 hl (by decide) rfl (fun ls hl => ?_)
                refine lv_iload hx hb d_Model_walk_134 (lv_at hl 0 rfl) ?_
                refine lv_if_eq (tgt := 232) hx hb d_Model_walk_136 (by decide) (fun hc => absurd hc (by decide +kernel)) (fun _ => ?_)
                refine lv_iconst (v := 0) hx hb d_Model_walk_139 (by decide) ?_
                refine lv_istore (lv' := [(10, .int 0), (7, .int 1), (8, .int 0), (9, .int v_232), (3, .long v_223), (6, .int y_192), (5, .int y_193), (0, .ref b0), (1, .int b1), (2, .int b2)]) hx hb d_Model_walk_140 hl (by decide) rfl (fun ls hl => ?_)
                suffices key : ∀ (k_297 : Nat) (y_298 : Int32) (y_299 : Int32) (H : Heap) (locs : List Loc) (ls : Array Slot), (zI y_298 0 240) → (0 ≤ (y_299 : Int32).toInt) → ((y_299 : Int32).toInt + zsm (zeF f_36) (zeU f_36) (y_193 : Int32).toInt (y_298 : Int32).toInt.toNat < zsm (zeF f_36) (zeU f_36) (y_193 : Int32).toInt ((f_35 (0 : Int32).toNatClampNeg).toInt).toNat) → ((y_298 : Int32).toInt ≤ (f_35 (0 : Int32).toNatClampNeg).toInt) → (240 : Int) - y_298.toInt < (k_297 : Int) → va_P G.1 classes [(b54, .inl (G.2 0, 12, .inl y_195)), (b4, .inl (G.2 0, 503, .inl b57)), (b18, .inl (G.2 0, 2, .inl f_25)), (b19, .inl (G.2 0, 4820, .inl f_26)), (b20, .inl (G.2 0, 520, .inl f_27)), (b21, .inl (G.2 0, 9640, .inl f_28)), (b22, .inl (G.2 0, 482, .inl f_29)), (b23, .inl (G.2 0, 482, .inl f_30)), (b24, .inl (G.2 0, 2, .inl f_31)), (b25, .inl (G.2 0, 482, .inl f_32)), (b26, .inl (G.2 0, 482, .inl f_33)), (b27, .inl (G.2 0, 482, .inl f_34)), (b0, .inr (12, [.int 0, .ref b4, .ref b5, .ref b6, .ref b7, .int b8, .ref b9, .int b10, .int b11, .int b12, .int b13, .ref b14, .ref b15, .ref b16, .int b17, .ref b18, .ref b19, .ref b20, .ref b21, .ref b22, .ref b23, .ref b24, .ref b25, .ref b26, .ref b27, .ref b28, .ref b29, .int x_24, .ref b31, .ref b32, .int b33, .int b34, .int b35, .int b36, .ref b37, .ref b38, .ref b39, .ref b40, .ref b41, .ref b42, .ref b43, .int b44, .ref b45, .ref b46, .int b47, .ref b48, .ref b49, .ref b50, .ref b51, .ref b52, .int b53, .ref b54, .ref b55, .ref b56])), (b28, .inl (G.2 0, 2, .inl f_35)), (b29, .inl (G.2 0, 2880, .inl f_36))] H → va_D A [(b54, .inl (G.2 0, 12, .inl y_195)), (b4, .inl (G.2 0, 503, .inl b57)), (b18, .inl (G.2 0, 2, .inl f_25)), (b19, .inl (G.2 0, 4820, .inl f_26)), (b20, .inl (G.2 0, 520, .inl f_27)), (b21, .inl (G.2 0, 9640, .inl f_28)), (b22, .inl (G.2 0, 482, .inl f_29)), (b23, .inl (G.2 0, 482, .inl f_30)), (b24, .inl (G.2 0, 2, .inl f_31)), (b25, .inl (G.2 0, 482, .inl f_32)), (b26, .inl (G.2 0, 482, .inl f_33)), (b27, .inl (G.2 0, 482, .inl f_34)), (b0, .inr (12, [.int 0, .ref b4, .ref b5, .ref b6, .ref b7, .int b8, .ref b9, .int b10, .int b11, .int b12, .int b13, .ref b14, .ref b15, .ref b16, .int b17, .ref b18, .ref b19, .ref b20, .ref b21, .ref b22, .ref b23, .ref b24, .ref b25, .ref b26, .ref b27, .ref b28, .ref b29, .int x_24, .ref b31, .ref b32, .int b33, .int b34, .int b35, .int b36, .ref b37, .ref b38, .ref b39, .ref b40, .ref b41, .ref b42, .ref b43, .int b44, .ref b45, .ref b46, .int b47, .ref b48, .ref b49, .ref b50, .ref b51, .ref b52, .int b53, .ref b54, .ref b55, .ref b56])), (b28, .inl (G.2 0, 2, .inl f_35)), (b29, .inl (G.2 0, 2880, .inl f_36))] → va_S A s.heap H locs → lv_has ls 11 [(10, .int y_298), (7, .int 1), (8, .int 0), (9, .int y_299), (3, .long v_223), (6, .int y_192), (5, .int y_193), (0, .ref b0), (1, .int b1), (2, .int b2)] → W p l e m_s1_Model_walk s m ([.ref b0, .int b1, .int b2] : List Value).toArray below meth c H locs 0 0 (MQ below (zQ G (fun v w => ∃ (e0 : Int32), ∃ (e1 : Int32), ∃ (e2 : Nat → Int32), ∃ (e3 : Nat → Int32), ∃ (e4 : Nat → Int32), ∃ (e5 : Nat → Int32), ∃ (e6 : Nat → Int32), ∃ (e7 : Nat → Int32), ∃ (e8 : Nat → Int32), ∃ (e9 : Nat → Int32), ∃ (e10 : Nat → Int32), ∃ (e11 : Nat → Int32), ∃ (e12 : Nat → Int32), ∃ (e13 : Nat → Int32), ∃ (e14 : Nat → Int32), v = some (.int e0) ∧ w = [(b0, .inr (12, [.int 0, .ref b4, .ref b5, .ref b6, .ref b7, .int b8, .ref b9, .int b10, .int b11, .int b12, .int b13, .ref b14, .ref b15, .ref b16, .int b17, .ref b18, .ref b19, .ref b20, .ref b21, .ref b22, .ref b23, .ref b24, .ref b25, .ref b26, .ref b27, .ref b28, .ref b29, .int e1, .ref b31, .ref b32, .int b33, .int b34, .int b35, .int b36, .ref b37, .ref b38, .ref b39, .ref b40, .ref b41, .ref b42, .ref b43, .int b44, .ref b45, .ref b46, .int b47, .ref b48, .ref b49, .ref b50, .ref b51, .ref b52, .int b53, .ref b54, .ref b55, .ref b56])), (b4, .inl (G.2 0, 503, .inl b57)), (b18, .inl (G.2 0, 2, .inl e2)), (b19, .inl (G.2 0, 4820, .inl e3)), (b20, .inl (G.2 0, 520, .inl e4)), (b21, .inl (G.2 0, 9640, .inl e5)), (b22, .inl (G.2 0, 482, .inl e6)), (b23, .inl (G.2 0, 482, .inl e7)), (b24, .inl (G.2 0, 2, .inl e8)), (b25, .inl (G.2 0, 482, .inl e9)), (b26, .inl (G.2 0, 482, .inl e10)), (b27, .inl (G.2 0, 482, .inl e11)), (b28, .inl (G.2 0, 2, .inl e12)), (b29, .inl (G.2 0, 2880, .inl e13)), (b54, .inl (G.2 0, 12, .inl e14))] ∧ (zI e1 0 1) ∧ (zR e2 0 241) ∧ (zR e3 (-1) 240) ∧ (zqa qP e4) ∧ (zqa qC e6) ∧ (zR e7 0 240) ∧ (zR e8 0 241) ∧ (zR e9 0 240) ∧ (zR e12 0 240) ∧ (zqa qE e13)) A) ([.ref b0, .int b1, .int b2] : List Value).toArray s m_s1_Model_walk.cells m_s1_Model_walk.slots A) (F0 m 142 ls []) by
                  exact key 241 (0) (v_232) _ _ _ (zI.wk (l' := 0) (h' := 240) zc_0 (by decide)) (by omega) (by have z0 : (0 : Int32).toInt.toNat = 0 := (by decide +kernel); rw [z0]; show v_232.toInt + (0 : Int) < _; have z1 := wzv_228; have z2 := wlv_232; omega) (by have _l0 := li_0; have h9 := (hf_35 (0 : Int32).toNatClampNeg).1; omega) (zm_upi (zI.wk (l' := 0) (h' := 240) zc_0 (by decide)) (by decide)) hP hD hS (lv_sub hl [0, 1, 2, 3, 4, 5, 6, 7, 8, 9] rfl)
                intro k_297
                induction k_297 with
                | zero =>
                  intro y_298 y_299 H locs ls hy_298 hli_300 hli_301 hli_302 hmk_297 hP hD hS hl
                  exact (zm_up0 hy_298 hmk_297).elim
                | succ k_297 ihk_297 =>
                  intro y_298 y_299 H locs ls hy_298 hli_300 hli_301 hli_302 hmk_297 hP hD hS hl
                  have wey_298 : y_298.toInt < (f_35 (0 : Int32).toNatClampNeg).toInt := by rcases Decidable.em (y_298.toInt < (f_35 (0 : Int32).toNatClampNeg).toInt) with h9 | h9; exact h9; exfalso; have h8 := hli_301; have h7 := hli_300; have h6 := hli_302; have h5 : y_298.toInt.toNat = ((f_35 (0 : Int32).toNatClampNeg).toInt).toNat := (by omega); rw [h5] at h8; omega
                  have hv_303 : zI y_298 0 239 := ⟨(hy_298).1, by have h9 := (hf_35 (0 : Int32).toNatClampNeg).2; omega⟩
                  refine lv_aload_n hx hb d_Model_walk_142 rfl (lv_at hl 7 rfl) ?_
                  refine lv_iconst (v := 0) hx hb d_Model_walk_143 (by decide) ?_
                  refine lv_iload hx hb d_Model_walk_144 (lv_at hl 0 rfl) ?_
                  refine lv_iconst (v := 0) hx hb d_Model_walk_146 (by decide) ?_
                  refine z_callV (index := 225) (As := [.int 0, .int y_298, .int 0]) (rest := []) (wr := [(b54, .inl (G.2 0, 12, .inl y_195)), (b4, .inl (G.2 0, 503, .inl b57)), (b18, .inl (G.2 0, 2, .inl f_25)), (b19, .inl (G.2 0, 4820, .inl f_26)), (b20, .inl (G.2 0, 520, .inl f_27)), (b21, .inl (G.2 0, 9640, .inl f_28)), (b22, .inl (G.2 0, 482, .inl f_29)), (b23, .inl (G.2 0, 482, .inl f_30)), (b24, .inl (G.2 0, 2, .inl f_31)), (b25, .inl (G.2 0, 482, .inl f_32)), (b26, .inl (G.2 0, 482, .inl f_33)), (b27, .inl (G.2 0, 482, .inl f_34)), (b28, .inl (G.2 0, 2, .inl f_35))]) Z (s4_Model_edgeAt l G (b0) (y_298) (0) (b4) (b5) (b6) (b7) (b8) (b9) (b10) (b11) (b12) (b13) (b14) (b15) (b16) (b17) (b18) (b19) (b20) (b21) (b22) (b23) (b24) (b25) (b26) (b27) (b28) (b29) (x_24) (b31) (b32) (b33) (b34) (b35) (b36) (b37) (b38) (b39) (b40) (b41) (b42) (b43) (b44) (b45) (b46) (b47) (b48) (b49) (b50) (b51) (b52) (b53) (b54) (b55) (b56) (f_36) (zI.wk (l' := 0) (h' := 240) hv_303 (by decide)) hb8 hb10 hb11 hb13 hb17 hx_24 hb33 hb44 hb47 hb53 hf_36) hl.1 q1408 q1410 qs68 q14 q1411 ⟨by decide, by decide, by show _ = some 3; decide +kernel⟩ ⟨Nat.le_of_ble_eq_true rfl, Nat.le_of_ble_eq_true rfl⟩ ⟨Nat.le_of_ble_eq_true rfl, Nat.le_of_ble_eq_true rfl⟩ rfl (Nat.le_of_ble_eq_true rfl) d_Model_walk_147 hP hD hS hA 12 12 rfl rfl rfl [12, 14] [0, 1, 2, 3, 4, 5, 6, 7, 8, 9, 10, 11, 13] rfl rfl rfl rfl (by decide) (fun v w1 H locs hw_304 hP hD hS => ?_)
                  obtain ⟨x_305, rfl, rfl, hx_305, hfx_306⟩ := hw_304
                  have hP : va_P G.1 classes [(b54, .inl (G.2 0, 12, .inl y_195)), (b4, .inl (G.2 0, 503, .inl b57)), (b18, .inl (G.2 0, 2, .inl f_25)), (b19, .inl (G.2 0, 4820, .inl f_26)), (b20, .inl (G.2 0, 520, .inl f_27)), (b21, .inl (G.2 0, 9640, .inl f_28)), (b22, .inl (G.2 0, 482, .inl f_29)), (b23, .inl (G.2 0, 482, .inl f_30)), (b24, .inl (G.2 0, 2, .inl f_31)), (b25, .inl (G.2 0, 482, .inl f_32)), (b26, .inl (G.2 0, 482, .inl f_33)), (b27, .inl (G.2 0, 482, .inl f_34)), (b28, .inl (G.2 0, 2, .inl f_35)), (b0, .inr (12, [.int 0, .ref b4, .ref b5, .ref b6, .ref b7, .int b8, .ref b9, .int b10, .int b11, .int b12, .int b13, .ref b14, .ref b15, .ref b16, .int b17, .ref b18, .ref b19, .ref b20, .ref b21, .ref b22, .ref b23, .ref b24, .ref b25, .ref b26, .ref b27, .ref b28, .ref b29, .int x_24, .ref b31, .ref b32, .int b33, .int b34, .int b35, .int b36, .ref b37, .ref b38, .ref b39, .ref b40, .ref b41, .ref b42, .ref b43, .int b44, .ref b45, .ref b46, .int b47, .ref b48, .ref b49, .ref b50, .ref b51, .ref b52, .int b53, .ref b54, .ref b55, .ref b56])), (b29, .inl (G.2 0, 2880, .inl f_36))] H := hP
                  have hD := z_tie hP hD rfl
                  refine W.widen (k := 0) (n := 0) (Nat.le_of_ble_eq_true rfl) (Nat.le_of_ble_eq_true rfl) ?_
                  refine lv_iload hx hb d_Model_walk_150 (lv_at hl 6 rfl) ?_
                  refine lv_icmp_ne (tgt := 168) hx hb d_Model_walk_152 (by decide) (fun hc_307 => ?_) (fun hc_307 => ?_)
                  · have _nhc_307 := hc_307
                    have ni_308 : ¬ (x_305 : Int32).toInt = (y_193 : Int32).toInt := fun z => hc_307 ((fa_eq _ _).mpr z)
                    refine lv_iload hx hb d_Model_walk_168 (lv_at hl 3 rfl) ?_
                    refine lv_aload_n hx hb d_Model_walk_170 rfl (lv_at hl 7 rfl) ?_
                    refine lv_iconst (v := 0) hx hb d_Model_walk_171 (by decide) ?_
                    refine lv_iload hx hb d_Model_walk_172 (lv_at hl 0 rfl) ?_
                    refine lv_iconst (v := 0) hx hb d_Model_walk_174 (by decide) ?_
                    refine z_callV (index := 225) (As := [.int 0, .int y_298, .int 0]) (rest := [.int y_299]) (wr := [(b54, .inl (G.2 0, 12, .inl y_195)), (b4, .inl (G.2 0, 503, .inl b57)), (b18, .inl (G.2 0, 2, .inl f_25)), (b19, .inl (G.2 0, 4820, .inl f_26)), (b20, .inl (G.2 0, 520, .inl f_27)), (b21, .inl (G.2 0, 9640, .inl f_28)), (b22, .inl (G.2 0, 482, .inl f_29)), (b23, .inl (G.2 0, 482, .inl f_30)), (b24, .inl (G.2 0, 2, .inl f_31)), (b25, .inl (G.2 0, 482, .inl f_32)), (b26, .inl (G.2 0, 482, .inl f_33)), (b27, .inl (G.2 0, 482, .inl f_34)), (b28, .inl (G.2 0, 2, .inl f_35))]) Z (s4_Model_edgeAt l G (b0) (y_298) (0) (b4) (b5) (b6) (b7) (b8) (b9) (b10) (b11) (b12) (b13) (b14) (b15) (b16) (b17) (b18) (b19) (b20) (b21) (b22) (b23) (b24) (b25) (b26) (b27) (b28) (b29) (x_24) (b31) (b32) (b33) (b34) (b35) (b36) (b37) (b38) (b39) (b40) (b41) (b42) (b43) (b44) (b45) (b46) (b47) (b48) (b49) (b50) (b51) (b52) (b53) (b54) (b55) (b56) (f_36) (zI.wk (l' := 0) (h' := 240) hv_303 (by decide)) hb8 hb10 hb11 hb13 hb17 hx_24 hb33 hb44 hb47 hb53 hf_36) hl.1 q1408 q1410 qs68 q14 q1411 ⟨by decide, by decide, by show _ = some 3; decide +kernel⟩ ⟨Nat.le_of_ble_eq_true rfl, Nat.le_of_ble_eq_true rfl⟩ ⟨Nat.le_of_ble_eq_true rfl, Nat.le_of_ble_eq_true rfl⟩ rfl (Nat.le_of_ble_eq_true rfl) d_Model_walk_175 hP hD hS hA 13 12 rfl rfl rfl [13, 14] [0, 1, 2, 3, 4, 5, 6, 7, 8, 9, 10, 11, 12] rfl rfl rfl rfl (by decide) (fun v w1 H locs hw_309 hP hD hS => ?_)
                    obtain ⟨x_310, rfl, rfl, hx_310, hfx_311⟩ := hw_309
                    have hP : va_P G.1 classes [(b54, .inl (G.2 0, 12, .inl y_195)), (b4, .inl (G.2 0, 503, .inl b57)), (b18, .inl (G.2 0, 2, .inl f_25)), (b19, .inl (G.2 0, 4820, .inl f_26)), (b20, .inl (G.2 0, 520, .inl f_27)), (b21, .inl (G.2 0, 9640, .inl f_28)), (b22, .inl (G.2 0, 482, .inl f_29)), (b23, .inl (G.2 0, 482, .inl f_30)), (b24, .inl (G.2 0, 2, .inl f_31)), (b25, .inl (G.2 0, 482, .inl f_32)), (b26, .inl (G.2 0, 482, .inl f_33)), (b27, .inl (G.2 0, 482, .inl f_34)), (b28, .inl (G.2 0, 2, .inl f_35)), (b0, .inr (12, [.int 0, .ref b4, .ref b5, .ref b6, .ref b7, .int b8, .ref b9, .int b10, .int b11, .int b12, .int b13, .ref b14, .ref b15, .ref b16, .int b17, .ref b18, .ref b19, .ref b20, .ref b21, .ref b22, .ref b23, .ref b24, .ref b25, .ref b26, .ref b27, .ref b28, .ref b29, .int x_24, .ref b31, .ref b32, .int b33, .int b34, .int b35, .int b36, .ref b37, .ref b38, .ref b39, .ref b40, .ref b41, .ref b42, .ref b43, .int b44, .ref b45, .ref b46, .int b47, .ref b48, .ref b49, .ref b50, .ref b51, .ref b52, .int b53, .ref b54, .ref b55, .ref b56])), (b29, .inl (G.2 0, 2880, .inl f_36))] H := hP
                    have hD := z_tie hP hD rfl
                    refine W.widen (k := 0) (n := 0) (Nat.le_of_ble_eq_true rfl) (Nat.le_of_ble_eq_true rfl) ?_
                    refine lv_iload hx hb d_Model_walk_178 (lv_at hl 6 rfl) ?_
                    refine lv_icmp_ne (tgt := 194) hx hb d_Model_walk_180 (by decide) (fun hc_312 => ?_) (fun hc_312 => ?_)
                    · have _nhc_312 := hc_312
                      have ni_313 : ¬ (x_310 : Int32).toInt = (y_193 : Int32).toInt := fun z => hc_312 ((fa_eq _ _).mpr z)
                      refine lv_iconst (v := 0) hx hb d_Model_walk_194 (by decide) ?_
                      refine lv_isub hx hb d_Model_walk_195 ?_
                      refine lv_topi (fun v_314 ev_314 => ?_)
                      obtain ⟨qv_314, hv_314⟩ := zI_sub (l := -2147483648) (h := 2147483647) (zI_all y_299) zc_0 ev_314 (by decide)
                      rw [li_0] at qv_314
                      have wsv_314 : v_314.toInt = y_299.toInt - 0 ∧ 0 ≤ v_314.toInt := by have z1 := li_0; have z7 := zI_all y_299; have z8 := hli_300; have z9 := z_subq ev_314 (by omega); omega
                      refine lv_istore (lv' := [(9, .int v_314), (10, .int y_298), (7, .int 1), (8, .int 0), (3, .long v_223), (6, .int y_192), (5, .int y_193), (0, .ref b0), (1, .int b1), (2, .int b2)]) hx hb d_Model_walk_196 hl (by decide) rfl (fun ls hl => ?_)
                      obtain ⟨v_315, ev_315⟩ : ∃ z : Int32, z = y_298 + 1 := ⟨_, rfl⟩
                      obtain ⟨qv_315, hv_315⟩ := zI_add (l := 1) (h := 240) hv_303 zc_1 ev_315 (by decide)
                      rw [li_1] at qv_315
                      refine lv_iinc (v := v_315) (lv' := [(10, .int v_315), (9, .int v_314), (7, .int 1), (8, .int 0), (3, .long v_223), (6, .int y_192), (5, .int y_193), (0, .ref b0), (1, .int b1), (2, .int b2)]) hx hb d_Model_walk_198 hl (k := 1) rfl (by rw [ev_315]; rfl) (by decide) rfl (fun ls hl => ?_)
                      refine lv_goto (tgt := 142) hx hb d_Model_walk_201 (by decide) ?_
                      exact ihk_297 (v_315) (v_314) _ _ _ (zI.wk (l' := 0) (h' := 240) hv_315 (by decide)) (by have z8 := wsv_314; omega) (by have z3 := zsm_s (zeF f_36) (zeU f_36) y_193.toInt y_298.toInt.toNat; have z4 : v_315.toInt.toNat = y_298.toInt.toNat + 1 := (by omega); have z5 : zeF f_36 y_298.toInt.toNat = x_305.toInt := (congrArg Int32.toInt hfx_306).symm; rw [z5, if_neg (by omega)] at z3; rw [z4, z3]; have z7 := hli_301; have z8 := wsv_314; omega) (by have z3 := wey_298; omega) (zm_up qv_315 hmk_297 (by decide)) (hP.sub [0, 1, 2, 3, 4, 5, 6, 7, 8, 9, 10, 11, 13, 12, 14] rfl) (hD.sub [0, 1, 2, 3, 4, 5, 6, 7, 8, 9, 10, 11, 13, 12, 14] (by decide) rfl) hS (lv_sub hl [0, 2, 3, 1, 4, 5, 6, 7, 8, 9] rfl)
                    · have _nhc_312 := hc_312
                      have ni_316 := (fa_eq _ _).mp hc_312
                      exfalso; have z1 := congrArg Int32.toInt hfx_306; have z2 := congrArg Int32.toInt hfx_311; omega
                  · have _nhc_307 := hc_307
                    have ni_317 := (fa_eq _ _).mp hc_307
                    refine lv_iload hx hb d_Model_walk_155 (lv_at hl 3 rfl) ?_
                    refine lv_aload_n hx hb d_Model_walk_157 rfl (lv_at hl 7 rfl) ?_
                    refine lv_iconst (v := 0) hx hb d_Model_walk_158 (by decide) ?_
                    refine lv_iload hx hb d_Model_walk_159 (lv_at hl 0 rfl) ?_
                    refine lv_iconst (v := 3) hx hb d_Model_walk_161 (by decide) ?_
                    refine z_callV (index := 225) (As := [.int 0, .int y_298, .int 3]) (rest := [.int y_299]) (wr := [(b54, .inl (G.2 0, 12, .inl y_195)), (b4, .inl (G.2 0, 503, .inl b57)), (b18, .inl (G.2 0, 2, .inl f_25)), (b19, .inl (G.2 0, 4820, .inl f_26)), (b20, .inl (G.2 0, 520, .inl f_27)), (b21, .inl (G.2 0, 9640, .inl f_28)), (b22, .inl (G.2 0, 482, .inl f_29)), (b23, .inl (G.2 0, 482, .inl f_30)), (b24, .inl (G.2 0, 2, .inl f_31)), (b25, .inl (G.2 0, 482, .inl f_32)), (b26, .inl (G.2 0, 482, .inl f_33)), (b27, .inl (G.2 0, 482, .inl f_34)), (b28, .inl (G.2 0, 2, .inl f_35))]) Z (s14_Model_edgeAt l G (b0) (y_298) (0) (b4) (b5) (b6) (b7) (b8) (b9) (b10) (b11) (b12) (b13) (b14) (b15) (b16) (b17) (b18) (b19) (b20) (b21) (b22) (b23) (b24) (b25) (b26) (b27) (b28) (b29) (x_24) (b31) (b32) (b33) (b34) (b35) (b36) (b37) (b38) (b39) (b40) (b41) (b42) (b43) (b44) (b45) (b46) (b47) (b48) (b49) (b50) (b51) (b52) (b53) (b54) (b55) (b56) (f_36) (zI.wk (l' := 0) (h' := 240) hv_303 (by decide)) hb8 hb10 hb11 hb13 hb17 hx_24 hb33 hb44 hb47 hb53 hf_36) hl.1 q1408 q1410 qs68 q14 q1411 ⟨by decide, by decide, by show _ = some 3; decide +kernel⟩ ⟨Nat.le_of_ble_eq_true rfl, Nat.le_of_ble_eq_true rfl⟩ ⟨Nat.le_of_ble_eq_true rfl, Nat.le_of_ble_eq_true rfl⟩ rfl (Nat.le_of_ble_eq_true rfl) d_Model_walk_162 hP hD hS hA 13 12 rfl rfl rfl [13, 14] [0, 1, 2, 3, 4, 5, 6, 7, 8, 9, 10, 11, 12] rfl rfl rfl rfl (by decide) (fun v w1 H locs hw_318 hP hD hS => ?_)
                    obtain ⟨x_319, rfl, rfl, hfx_320⟩ := hw_318
                    have hP : va_P G.1 classes [(b54, .inl (G.2 0, 12, .inl y_195)), (b4, .inl (G.2 0, 503, .inl b57)), (b18, .inl (G.2 0, 2, .inl f_25)), (b19, .inl (G.2 0, 4820, .inl f_26)), (b20, .inl (G.2 0, 520, .inl f_27)), (b21, .inl (G.2 0, 9640, .inl f_28)), (b22, .inl (G.2 0, 482, .inl f_29)), (b23, .inl (G.2 0, 482, .inl f_30)), (b24, .inl (G.2 0, 2, .inl f_31)), (b25, .inl (G.2 0, 482, .inl f_32)), (b26, .inl (G.2 0, 482, .inl f_33)), (b27, .inl (G.2 0, 482, .inl f_34)), (b28, .inl (G.2 0, 2, .inl f_35)), (b0, .inr (12, [.int 0, .ref b4, .ref b5, .ref b6, .ref b7, .int b8, .ref b9, .int b10, .int b11, .int b12, .int b13, .ref b14, .ref b15, .ref b16, .int b17, .ref b18, .ref b19, .ref b20, .ref b21, .ref b22, .ref b23, .ref b24, .ref b25, .ref b26, .ref b27, .ref b28, .ref b29, .int x_24, .ref b31, .ref b32, .int b33, .int b34, .int b35, .int b36, .ref b37, .ref b38, .ref b39, .ref b40, .ref b41, .ref b42, .ref b43, .int b44, .ref b45, .ref b46, .int b47, .ref b48, .ref b49, .ref b50, .ref b51, .ref b52, .int b53, .ref b54, .ref b55, .ref b56])), (b29, .inl (G.2 0, 2880, .inl f_36))] H := hP
                    have hD := z_tie hP hD rfl
                    refine W.widen (k := 0) (n := 0) (Nat.le_of_ble_eq_true rfl) (Nat.le_of_ble_eq_true rfl) ?_
                    refine lv_icmp_lt (tgt := 204) hx hb d_Model_walk_165 (by decide) (fun hc_321 => ?_) (fun hc_321 => ?_)
                    · have _nhc_321 := hc_321
                      have ni_322 := (fa_lt _ _).mp hc_321
                      have hv_323 : zI y_299 (-2147483648) 2147483646 := zI.lt_l (zI_all y_299) (zI_all x_319) hc_321 (by decide)
                      have hv_324 : zI x_319 (-2147483647) 2147483647 := zI.lt_r (zI_all y_299) (zI_all x_319) hc_321 (by decide)
                      refine lv_aload_n hx hb d_Model_walk_204 rfl (lv_at hl 7 rfl) ?_
                      refine va_get (D := G.1) (ci := 12) (v := .ref b54) (C := R_Model) (T := F_Model) (N := 54) hx hb hts i_Model hown hK hP 13 rfl rfl 51 (by decide) (hts _ q1160) (fun _ h9 => h9) rfl d_Model_walk_205 ?_
                      refine lv_iload hx hb d_Model_walk_208 (lv_at hl 5 rfl) ?_
                      refine lv_aload_n hx hb d_Model_walk_210 rfl (lv_at hl 7 rfl) ?_
                      refine lv_iconst (v := 0) hx hb d_Model_walk_211 (by decide) ?_
                      refine lv_iload hx hb d_Model_walk_212 (lv_at hl 0 rfl) ?_
                      refine lv_iconst (v := 1) hx hb d_Model_walk_214 (by decide) ?_
                      refine z_callV (index := 225) (As := [.int 0, .int y_298, .int 1]) (rest := [.int y_192, .ref b54]) (wr := [(b54, .inl (G.2 0, 12, .inl y_195)), (b4, .inl (G.2 0, 503, .inl b57)), (b18, .inl (G.2 0, 2, .inl f_25)), (b19, .inl (G.2 0, 4820, .inl f_26)), (b20, .inl (G.2 0, 520, .inl f_27)), (b21, .inl (G.2 0, 9640, .inl f_28)), (b22, .inl (G.2 0, 482, .inl f_29)), (b23, .inl (G.2 0, 482, .inl f_30)), (b24, .inl (G.2 0, 2, .inl f_31)), (b25, .inl (G.2 0, 482, .inl f_32)), (b26, .inl (G.2 0, 482, .inl f_33)), (b27, .inl (G.2 0, 482, .inl f_34)), (b28, .inl (G.2 0, 2, .inl f_35))]) Z (s5_Model_edgeAt l G (b0) (y_298) (0) (b4) (b5) (b6) (b7) (b8) (b9) (b10) (b11) (b12) (b13) (b14) (b15) (b16) (b17) (b18) (b19) (b20) (b21) (b22) (b23) (b24) (b25) (b26) (b27) (b28) (b29) (x_24) (b31) (b32) (b33) (b34) (b35) (b36) (b37) (b38) (b39) (b40) (b41) (b42) (b43) (b44) (b45) (b46) (b47) (b48) (b49) (b50) (b51) (b52) (b53) (b54) (b55) (b56) (f_36) (zI.wk (l' := 0) (h' := 240) hv_303 (by decide)) hb8 hb10 hb11 hb13 hb17 hx_24 hb33 hb44 hb47 hb53 hf_36) hl.1 q1408 q1410 qs68 q14 q1411 ⟨by decide, by decide, by show _ = some 3; decide +kernel⟩ ⟨Nat.le_of_ble_eq_true rfl, Nat.le_of_ble_eq_true rfl⟩ ⟨Nat.le_of_ble_eq_true rfl, Nat.le_of_ble_eq_true rfl⟩ rfl (Nat.le_of_ble_eq_true rfl) d_Model_walk_215 hP hD hS hA 13 12 rfl rfl rfl [13, 14] [0, 1, 2, 3, 4, 5, 6, 7, 8, 9, 10, 11, 12] rfl rfl rfl rfl (by decide) (fun v w1 H locs hw_325 hP hD hS => ?_)
                      obtain ⟨x_326, rfl, rfl, hx_326, hfx_327⟩ := hw_325
                      have hP : va_P G.1 classes [(b54, .inl (G.2 0, 12, .inl y_195)), (b4, .inl (G.2 0, 503, .inl b57)), (b18, .inl (G.2 0, 2, .inl f_25)), (b19, .inl (G.2 0, 4820, .inl f_26)), (b20, .inl (G.2 0, 520, .inl f_27)), (b21, .inl (G.2 0, 9640, .inl f_28)), (b22, .inl (G.2 0, 482, .inl f_29)), (b23, .inl (G.2 0, 482, .inl f_30)), (b24, .inl (G.2 0, 2, .inl f_31)), (b25, .inl (G.2 0, 482, .inl f_32)), (b26, .inl (G.2 0, 482, .inl f_33)), (b27, .inl (G.2 0, 482, .inl f_34)), (b28, .inl (G.2 0, 2, .inl f_35)), (b0, .inr (12, [.int 0, .ref b4, .ref b5, .ref b6, .ref b7, .int b8, .ref b9, .int b10, .int b11, .int b12, .int b13, .ref b14, .ref b15, .ref b16, .int b17, .ref b18, .ref b19, .ref b20, .ref b21, .ref b22, .ref b23, .ref b24, .ref b25, .ref b26, .ref b27, .ref b28, .ref b29, .int x_24, .ref b31, .ref b32, .int b33, .int b34, .int b35, .int b36, .ref b37, .ref b38, .ref b39, .ref b40, .ref b41, .ref b42, .ref b43, .int b44, .ref b45, .ref b46, .int b47, .ref b48, .ref b49, .ref b50, .ref b51, .ref b52, .int b53, .ref b54, .ref b55, .ref b56])), (b29, .inl (G.2 0, 2880, .inl f_36))] H := hP
                      have hD := z_tie hP hD rfl
                      refine W.widen (k := 0) (n := 0) (Nat.le_of_ble_eq_true rfl) (Nat.le_of_ble_eq_true rfl) ?_
                      refine va_iast hx hb hK hP hD hS 0 0 rfl rfl (zI.inn hv_252 (by decide)) d_Model_walk_218 (fun H locs hP hD hS => ?_)
                      obtain ⟨f_328, gf_328, uf_328, hP, hD⟩ := z_newFu 0 hP hD rfl
                      have hP : va_P G.1 classes [(b54, .inl (G.2 0, 12, .inl f_328)), (b4, .inl (G.2 0, 503, .inl b57)), (b18, .inl (G.2 0, 2, .inl f_25)), (b19, .inl (G.2 0, 4820, .inl f_26)), (b20, .inl (G.2 0, 520, .inl f_27)), (b21, .inl (G.2 0, 9640, .inl f_28)), (b22, .inl (G.2 0, 482, .inl f_29)), (b23, .inl (G.2 0, 482, .inl f_30)), (b24, .inl (G.2 0, 2, .inl f_31)), (b25, .inl (G.2 0, 482, .inl f_32)), (b26, .inl (G.2 0, 482, .inl f_33)), (b27, .inl (G.2 0, 482, .inl f_34)), (b28, .inl (G.2 0, 2, .inl f_35)), (b0, .inr (12, [.int 0, .ref b4, .ref b5, .ref b6, .ref b7, .int b8, .ref b9, .int b10, .int b11, .int b12, .int b13, .ref b14, .ref b15, .ref b16, .int b17, .ref b18, .ref b19, .ref b20, .ref b21, .ref b22, .ref b23, .ref b24, .ref b25, .ref b26, .ref b27, .ref b28, .ref b29, .int x_24, .ref b31, .ref b32, .int b33, .int b34, .int b35, .int b36, .ref b37, .ref b38, .ref b39, .ref b40, .ref b41, .ref b42, .ref b43, .int b44, .ref b45, .ref b46, .int b47, .ref b48, .ref b49, .ref b50, .ref b51, .ref b52, .int b53, .ref b54, .ref b55, .ref b56])), (b29, .inl (G.2 0, 2880, .inl f_36))] H := hP
                      have hD := z_tie hP hD rfl
                      refine lv_aload_n hx hb d_Model_walk_219 rfl (lv_at hl 7 rfl) ?_
                      refine lv_iconst (v := 0) hx hb d_Model_walk_220 (by decide) ?_
                      refine lv_iload hx hb d_Model_walk_221 (lv_at hl 0 rfl) ?_
                      refine lv_iconst (v := 2) hx hb d_Model_walk_223 (by decide) ?_
                      refine z_callV (index := 225) (As := [.int 0, .int y_298, .int 2]) (rest := []) (wr := [(b54, .inl (G.2 0, 12, .inl f_328)), (b4, .inl (G.2 0, 503, .inl b57)), (b18, .inl (G.2 0, 2, .inl f_25)), (b19, .inl (G.2 0, 4820, .inl f_26)), (b20, .inl (G.2 0, 520, .inl f_27)), (b21, .inl (G.2 0, 9640, .inl f_28)), (b22, .inl (G.2 0, 482, .inl f_29)), (b23, .inl (G.2 0, 482, .inl f_30)), (b24, .inl (G.2 0, 2, .inl f_31)), (b25, .inl (G.2 0, 482, .inl f_32)), (b26, .inl (G.2 0, 482, .inl f_33)), (b27, .inl (G.2 0, 482, .inl f_34)), (b28, .inl (G.2 0, 2, .inl f_35))]) Z (s6_Model_edgeAt l G (b0) (y_298) (0) (b4) (b5) (b6) (b7) (b8) (b9) (b10) (b11) (b12) (b13) (b14) (b15) (b16) (b17) (b18) (b19) (b20) (b21) (b22) (b23) (b24) (b25) (b26) (b27) (b28) (b29) (x_24) (b31) (b32) (b33) (b34) (b35) (b36) (b37) (b38) (b39) (b40) (b41) (b42) (b43) (b44) (b45) (b46) (b47) (b48) (b49) (b50) (b51) (b52) (b53) (b54) (b55) (b56) (f_36) (zI.wk (l' := 0) (h' := 240) hv_303 (by decide)) hb8 hb10 hb11 hb13 hb17 hx_24 hb33 hb44 hb47 hb53 hf_36) hl.1 q1408 q1410 qs68 q14 q1411 ⟨by decide, by decide, by show _ = some 3; decide +kernel⟩ ⟨Nat.le_of_ble_eq_true rfl, Nat.le_of_ble_eq_true rfl⟩ ⟨Nat.le_of_ble_eq_true rfl, Nat.le_of_ble_eq_true rfl⟩ rfl (Nat.le_of_ble_eq_true rfl) d_Model_walk_224 hP hD hS hA 13 12 rfl rfl rfl [13, 14] [0, 1, 2, 3, 4, 5, 6, 7, 8, 9, 10, 11, 12] rfl rfl rfl rfl (by decide) (fun v w1 H locs hw_329 hP hD hS => ?_)
                      obtain ⟨x_330, rfl, rfl, hx_330, hfx_331⟩ := hw_329
                      have hP : va_P G.1 classes [(b54, .inl (G.2 0, 12, .inl f_328)), (b4, .inl (G.2 0, 503, .inl b57)), (b18, .inl (G.2 0, 2, .inl f_25)), (b19, .inl (G.2 0, 4820, .inl f_26)), (b20, .inl (G.2 0, 520, .inl f_27)), (b21, .inl (G.2 0, 9640, .inl f_28)), (b22, .inl (G.2 0, 482, .inl f_29)), (b23, .inl (G.2 0, 482, .inl f_30)), (b24, .inl (G.2 0, 2, .inl f_31)), (b25, .inl (G.2 0, 482, .inl f_32)), (b26, .inl (G.2 0, 482, .inl f_33)), (b27, .inl (G.2 0, 482, .inl f_34)), (b28, .inl (G.2 0, 2, .inl f_35)), (b0, .inr (12, [.int 0, .ref b4, .ref b5, .ref b6, .ref b7, .int b8, .ref b9, .int b10, .int b11, .int b12, .int b13, .ref b14, .ref b15, .ref b16, .int b17, .ref b18, .ref b19, .ref b20, .ref b21, .ref b22, .ref b23, .ref b24, .ref b25, .ref b26, .ref b27, .ref b28, .ref b29, .int x_24, .ref b31, .ref b32, .int b33, .int b34, .int b35, .int b36, .ref b37, .ref b38, .ref b39, .ref b40, .ref b41, .ref b42, .ref b43, .int b44, .ref b45, .ref b46, .int b47, .ref b48, .ref b49, .ref b50, .ref b51, .ref b52, .int b53, .ref b54, .ref b55, .ref b56])), (b29, .inl (G.2 0, 2880, .inl f_36))] H := hP
                      have hD := z_tie hP hD rfl
                      refine W.widen (k := 0) (n := 0) (Nat.le_of_ble_eq_true rfl) (Nat.le_of_ble_eq_true rfl) ?_
                      refine lv_istore (lv' := [(5, .int x_330), (10, .int y_298), (7, .int 1), (8, .int 0), (9, .int y_299), (3, .long v_223), (6, .int y_192), (0, .ref b0), (1, .int b1), (2, .int b2)]) hx hb d_Model_walk_227 hl (by decide) rfl (fun ls hl => ?_)
                      obtain ⟨v_332, ev_332⟩ : ∃ z : Int32, z = y_192 + 1 := ⟨_, rfl⟩
                      obtain ⟨qv_332, hv_332⟩ := zI_add (l := 1) (h := 12) hv_252 zc_1 ev_332 (by decide)
                      rw [li_1] at qv_332
                      refine lv_iinc (v := v_332) (lv' := [(6, .int v_332), (5, .int x_330), (10, .int y_298), (7, .int 1), (8, .int 0), (9, .int y_299), (3, .long v_223), (0, .ref b0), (1, .int b1), (2, .int b2)]) hx hb d_Model_walk_229 hl (k := 6) rfl (by rw [ev_332]; rfl) (by decide) rfl (fun ls hl => ?_)
                      refine lv_goto (tgt := 50) hx hb d_Model_walk_232 (by decide) ?_
                      exact ihk_189 (1) (v_223) (v_332) (x_330) (0) (f_328) _ _ _ (zI.wk (l' := 0) (h' := 1) zc_1 (by decide)) (zI.wk (l' := 0) (h' := 12) hv_332 (by decide)) hx_330 (zI.wk (l' := 0) (h' := 1) zc_0 (by decide)) zsv_223 (by have z2 := hfx_37.2.2.2.1 y_298.toInt.toNat (by have z3 := wey_298; omega); have z4 : zeT f_36 y_298.toInt.toNat = x_330.toInt := (congrArg Int32.toInt hfx_331).symm; rw [z4] at z2; exact ⟨z2.1, z2.2.1⟩) (by have z2 := hfx_37.2.2.2.1 y_298.toInt.toNat (by have z3 := wey_298; omega); have z4 : zeT f_36 y_298.toInt.toNat = x_330.toInt := (congrArg Int32.toInt hfx_331).symm; rw [z4] at z2; exact z2.2.2) (by omega) (hP.sub [0, 13, 1, 2, 3, 4, 5, 6, 7, 8, 9, 10, 11, 12, 14] rfl) (hD.sub [0, 13, 1, 2, 3, 4, 5, 6, 7, 8, 9, 10, 11, 12, 14] (by decide) rfl) hS (lv_sub hl [4, 3, 0, 1, 6, 7, 8, 9] rfl)
                    · have _nhc_321 := hc_321
                      have ni_333 := (fa_le _ _).mp (zi_nlt hc_321)
                      refine lv_iload hx hb d_Model_walk_168 (lv_at hl 3 rfl) ?_
                      refine lv_aload_n hx hb d_Model_walk_170 rfl (lv_at hl 7 rfl) ?_
                      refine lv_iconst (v := 0) hx hb d_Model_walk_171 (by decide) ?_
                      refine lv_iload hx hb d_Model_walk_172 (lv_at hl 0 rfl) ?_
                      refine lv_iconst (v := 0) hx hb d_Model_walk_174 (by decide) ?_
                      refine z_callV (index := 225) (As := [.int 0, .int y_298, .int 0]) (rest := [.int y_299]) (wr := [(b54, .inl (G.2 0, 12, .inl y_195)), (b4, .inl (G.2 0, 503, .inl b57)), (b18, .inl (G.2 0, 2, .inl f_25)), (b19, .inl (G.2 0, 4820, .inl f_26)), (b20, .inl (G.2 0, 520, .inl f_27)), (b21, .inl (G.2 0, 9640, .inl f_28)), (b22, .inl (G.2 0, 482, .inl f_29)), (b23, .inl (G.2 0, 482, .inl f_30)), (b24, .inl (G.2 0, 2, .inl f_31)), (b25, .inl (G.2 0, 482, .inl f_32)), (b26, .inl (G.2 0, 482, .inl f_33)), (b27, .inl (G.2 0, 482, .inl f_34)), (b28, .inl (G.2 0, 2, .inl f_35))]) Z (s4_Model_edgeAt l G (b0) (y_298) (0) (b4) (b5) (b6) (b7) (b8) (b9) (b10) (b11) (b12) (b13) (b14) (b15) (b16) (b17) (b18) (b19) (b20) (b21) (b22) (b23) (b24) (b25) (b26) (b27) (b28) (b29) (x_24) (b31) (b32) (b33) (b34) (b35) (b36) (b37) (b38) (b39) (b40) (b41) (b42) (b43) (b44) (b45) (b46) (b47) (b48) (b49) (b50) (b51) (b52) (b53) (b54) (b55) (b56) (f_36) (zI.wk (l' := 0) (h' := 240) hv_303 (by decide)) hb8 hb10 hb11 hb13 hb17 hx_24 hb33 hb44 hb47 hb53 hf_36) hl.1 q1408 q1410 qs68 q14 q1411 ⟨by decide, by decide, by show _ = some 3; decide +kernel⟩ ⟨Nat.le_of_ble_eq_true rfl, Nat.le_of_ble_eq_true rfl⟩ ⟨Nat.le_of_ble_eq_true rfl, Nat.le_of_ble_eq_true rfl⟩ rfl (Nat.le_of_ble_eq_true rfl) d_Model_walk_175 hP hD hS hA 13 12 rfl rfl rfl [13, 14] [0, 1, 2, 3, 4, 5, 6, 7, 8, 9, 10, 11, 12] rfl rfl rfl rfl (by decide) (fun v w1 H locs hw_334 hP hD hS => ?_)
                      obtain ⟨x_335, rfl, rfl, hx_335, hfx_336⟩ := hw_334
                      have hP : va_P G.1 classes [(b54, .inl (G.2 0, 12, .inl y_195)), (b4, .inl (G.2 0, 503, .inl b57)), (b18, .inl (G.2 0, 2, .inl f_25)), (b19, .inl (G.2 0, 4820, .inl f_26)), (b20, .inl (G.2 0, 520, .inl f_27)), (b21, .inl (G.2 0, 9640, .inl f_28)), (b22, .inl (G.2 0, 482, .inl f_29)), (b23, .inl (G.2 0, 482, .inl f_30)), (b24, .inl (G.2 0, 2, .inl f_31)), (b25, .inl (G.2 0, 482, .inl f_32)), (b26, .inl (G.2 0, 482, .inl f_33)), (b27, .inl (G.2 0, 482, .inl f_34)), (b28, .inl (G.2 0, 2, .inl f_35)), (b0, .inr (12, [.int 0, .ref b4, .ref b5, .ref b6, .ref b7, .int b8, .ref b9, .int b10, .int b11, .int b12, .int b13, .ref b14, .ref b15, .ref b16, .int b17, .ref b18, .ref b19, .ref b20, .ref b21, .ref b22, .ref b23, .ref b24, .ref b25, .ref b26, .ref b27, .ref b28, .ref b29, .int x_24, .ref b31, .ref b32, .int b33, .int b34, .int b35, .int b36, .ref b37, .ref b38, .ref b39, .ref b40, .ref b41, .ref b42, .ref b43, .int b44, .ref b45, .ref b46, .int b47, .ref b48, .ref b49, .ref b50, .ref b51, .ref b52, .int b53, .ref b54, .ref b55, .ref b56])), (b29, .inl (G.2 0, 2880, .inl f_36))] H := hP
                      have hD := z_tie hP hD rfl
                      refine W.widen (k := 0) (n := 0) (Nat.le_of_ble_eq_true rfl) (Nat.le_of_ble_eq_true rfl) ?_
                      refine lv_iload hx hb d_Model_walk_178 (lv_at hl 6 rfl) ?_
                      refine lv_icmp_ne (tgt := 194) hx hb d_Model_walk_180 (by decide) (fun hc_337 => ?_) (fun hc_337 => ?_)
                      · have _nhc_337 := hc_337
                        have ni_338 : ¬ (x_335 : Int32).toInt = (y_193 : Int32).toInt := fun z => hc_337 ((fa_eq _ _).mpr z)
                        exfalso; have z1 := congrArg Int32.toInt hfx_306; have z2 := congrArg Int32.toInt hfx_336; omega
                      · have _nhc_337 := hc_337
                        have ni_339 := (fa_eq _ _).mp hc_337
                        refine lv_aload_n hx hb d_Model_walk_183 rfl (lv_at hl 7 rfl) ?_
                        refine lv_iconst (v := 0) hx hb d_Model_walk_184 (by decide) ?_
                        refine lv_iload hx hb d_Model_walk_185 (lv_at hl 0 rfl) ?_
                        refine lv_iconst (v := 3) hx hb d_Model_walk_187 (by decide) ?_
                        refine z_callV (index := 225) (As := [.int 0, .int y_298, .int 3]) (rest := [.int y_299]) (wr := [(b54, .inl (G.2 0, 12, .inl y_195)), (b4, .inl (G.2 0, 503, .inl b57)), (b18, .inl (G.2 0, 2, .inl f_25)), (b19, .inl (G.2 0, 4820, .inl f_26)), (b20, .inl (G.2 0, 520, .inl f_27)), (b21, .inl (G.2 0, 9640, .inl f_28)), (b22, .inl (G.2 0, 482, .inl f_29)), (b23, .inl (G.2 0, 482, .inl f_30)), (b24, .inl (G.2 0, 2, .inl f_31)), (b25, .inl (G.2 0, 482, .inl f_32)), (b26, .inl (G.2 0, 482, .inl f_33)), (b27, .inl (G.2 0, 482, .inl f_34)), (b28, .inl (G.2 0, 2, .inl f_35))]) Z (s14_Model_edgeAt l G (b0) (y_298) (0) (b4) (b5) (b6) (b7) (b8) (b9) (b10) (b11) (b12) (b13) (b14) (b15) (b16) (b17) (b18) (b19) (b20) (b21) (b22) (b23) (b24) (b25) (b26) (b27) (b28) (b29) (x_24) (b31) (b32) (b33) (b34) (b35) (b36) (b37) (b38) (b39) (b40) (b41) (b42) (b43) (b44) (b45) (b46) (b47) (b48) (b49) (b50) (b51) (b52) (b53) (b54) (b55) (b56) (f_36) (zI.wk (l' := 0) (h' := 240) hv_303 (by decide)) hb8 hb10 hb11 hb13 hb17 hx_24 hb33 hb44 hb47 hb53 hf_36) hl.1 q1408 q1410 qs68 q14 q1411 ⟨by decide, by decide, by show _ = some 3; decide +kernel⟩ ⟨Nat.le_of_ble_eq_true rfl, Nat.le_of_ble_eq_true rfl⟩ ⟨Nat.le_of_ble_eq_true rfl, Nat.le_of_ble_eq_true rfl⟩ rfl (Nat.le_of_ble_eq_true rfl) d_Model_walk_188 hP hD hS hA 13 12 rfl rfl rfl [13, 14] [0, 1, 2, 3, 4, 5, 6, 7, 8, 9, 10, 11, 12] rfl rfl rfl rfl (by decide) (fun v w1 H locs hw_340 hP hD hS => ?_)
                        obtain ⟨x_341, rfl, rfl, hfx_342⟩ := hw_340
                        have hP : va_P G.1 classes [(b54, .inl (G.2 0, 12, .inl y_195)), (b4, .inl (G.2 0, 503, .inl b57)), (b18, .inl (G.2 0, 2, .inl f_25)), (b19, .inl (G.2 0, 4820, .inl f_26)), (b20, .inl (G.2 0, 520, .inl f_27)), (b21, .inl (G.2 0, 9640, .inl f_28)), (b22, .inl (G.2 0, 482, .inl f_29)), (b23, .inl (G.2 0, 482, .inl f_30)), (b24, .inl (G.2 0, 2, .inl f_31)), (b25, .inl (G.2 0, 482, .inl f_32)), (b26, .inl (G.2 0, 482, .inl f_33)), (b27, .inl (G.2 0, 482, .inl f_34)), (b28, .inl (G.2 0, 2, .inl f_35)), (b0, .inr (12, [.int 0, .ref b4, .ref b5, .ref b6, .ref b7, .int b8, .ref b9, .int b10, .int b11, .int b12, .int b13, .ref b14, .ref b15, .ref b16, .int b17, .ref b18, .ref b19, .ref b20, .ref b21, .ref b22, .ref b23, .ref b24, .ref b25, .ref b26, .ref b27, .ref b28, .ref b29, .int x_24, .ref b31, .ref b32, .int b33, .int b34, .int b35, .int b36, .ref b37, .ref b38, .ref b39, .ref b40, .ref b41, .ref b42, .ref b43, .int b44, .ref b45, .ref b46, .int b47, .ref b48, .ref b49, .ref b50, .ref b51, .ref b52, .int b53, .ref b54, .ref b55, .ref b56])), (b29, .inl (G.2 0, 2880, .inl f_36))] H := hP
                        have hD := z_tie hP hD rfl
                        refine W.widen (k := 0) (n := 0) (Nat.le_of_ble_eq_true rfl) (Nat.le_of_ble_eq_true rfl) ?_
                        refine lv_goto (tgt := 195) hx hb d_Model_walk_191 (by decide) ?_
                        refine lv_isub hx hb d_Model_walk_195 ?_
                        refine lv_topi (fun v_343 ev_343 => ?_)
                        have wsv_343 : v_343.toInt = y_299.toInt - x_341.toInt ∧ 0 ≤ v_343.toInt := by have z1 := hfx_37.1 y_298.toInt.toNat (by have z3 := wey_298; omega); have z2 : zeU f_36 y_298.toInt.toNat = x_341.toInt := (congrArg Int32.toInt hfx_342).symm; have z4 := congrArg Int32.toInt hfx_320; have z5 := congrArg Int32.toInt hfx_342; have z7 := zI_all y_299; have z8 := hli_300; have z9 := z_subq ev_343 (by omega); omega
                        refine lv_istore (lv' := [(9, .int v_343), (10, .int y_298), (7, .int 1), (8, .int 0), (3, .long v_223), (6, .int y_192), (5, .int y_193), (0, .ref b0), (1, .int b1), (2, .int b2)]) hx hb d_Model_walk_196 hl (by decide) rfl (fun ls hl => ?_)
                        obtain ⟨v_344, ev_344⟩ : ∃ z : Int32, z = y_298 + 1 := ⟨_, rfl⟩
                        obtain ⟨qv_344, hv_344⟩ := zI_add (l := 1) (h := 240) hv_303 zc_1 ev_344 (by decide)
                        rw [li_1] at qv_344
                        refine lv_iinc (v := v_344) (lv' := [(10, .int v_344), (9, .int v_343), (7, .int 1), (8, .int 0), (3, .long v_223), (6, .int y_192), (5, .int y_193), (0, .ref b0), (1, .int b1), (2, .int b2)]) hx hb d_Model_walk_198 hl (k := 1) rfl (by rw [ev_344]; rfl) (by decide) rfl (fun ls hl => ?_)
                        refine lv_goto (tgt := 142) hx hb d_Model_walk_201 (by decide) ?_
                        exact ihk_297 (v_344) (v_343) _ _ _ (zI.wk (l' := 0) (h' := 240) hv_344 (by decide)) (by have z8 := wsv_343; omega) (by have z3 := zsm_s (zeF f_36) (zeU f_36) y_193.toInt y_298.toInt.toNat; have z4 : v_344.toInt.toNat = y_298.toInt.toNat + 1 := (by omega); have z5 : zeF f_36 y_298.toInt.toNat = x_305.toInt := (congrArg Int32.toInt hfx_306).symm; have z6 : zeU f_36 y_298.toInt.toNat = x_341.toInt := (congrArg Int32.toInt hfx_342).symm; rw [z5, z6, if_pos (by omega)] at z3; rw [z4, z3]; have z7 := hli_301; have z8 := wsv_343; omega) (by have z3 := wey_298; omega) (zm_up qv_344 hmk_297 (by decide)) (hP.sub [0, 1, 2, 3, 4, 5, 6, 7, 8, 9, 10, 11, 13, 12, 14] rfl) (hD.sub [0, 1, 2, 3, 4, 5, 6, 7, 8, 9, 10, 11, 13, 12, 14] (by decide) rfl) hS (lv_sub hl [0, 2, 3, 1, 4, 5, 6, 7, 8, 9] rfl)
              · have _nhc_250 := hc_250
                have ni_345 := (fa_eq _ _).mp hc_250
                rw [li_12] at ni_345
                have hv_346 : zI y_192 12 12 := zI.eq_l hy_192 zc_12 hc_250
                refine lv_iconst (v := 1) hx hb d_Model_walk_110 (by decide) ?_
                refine lv_goto (tgt := 115) hx hb d_Model_walk_111 (by decide) ?_
                refine lv_istore (lv' := [(8, .int 1), (9, .int v_232), (3, .long v_223), (7, .int y_190), (6, .int y_192), (5, .int y_193), (0, .ref b0), (1, .int b1), (2, .int b2)]) hx hb d_Model_walk_115 hl (by decide) rfl (fun ls hl => ?_)
                refine lv_iload hx hb d_Model_walk_117 (lv_at hl 1 rfl) ?_
                refine lv_if_lt (tgt := 131) hx hb d_Model_walk_119 (by decide) (fun hc => zI.no_lt hv_249 zc_0 hc (by decide)) (fun _ => ?_)
                refine lv_iload hx hb d_Model_walk_122 (lv_at hl 0 rfl) ?_
                refine lv_if_ne (tgt := 131) hx hb d_Model_walk_124 (by decide) (fun _ => ?_) (fun hc => absurd hc (by decide +kernel))
                refine lv_iconst (v := 0) hx hb d_Model_walk_131 (by decide) ?_
                refine lv_istore (lv' := [(7, .int 0), (8, .int 1), (9, .int v_232), (3, .long v_223), (6, .int y_192), (5, .int y_193), (0, .ref b0), (1, .int b1), (2, .int b2)]) hx hb d_Model_walk_132 hl (by decide) rfl (fun ls hl => ?_)
                refine lv_iload hx hb d_Model_walk_134 (lv_at hl 0 rfl) ?_
                refine lv_if_eq (tgt := 232) hx hb d_Model_walk_136 (by decide) (fun _ => ?_) (fun hc => absurd hc (by decide +kernel))
                refine lv_goto (tgt := 50) hx hb d_Model_walk_232 (by decide) ?_
                refine lv_iload hx hb d_Model_walk_50 (lv_at hl 0 rfl) ?_
                refine lv_if_eq (tgt := 235) hx hb d_Model_walk_52 (by decide) (fun _ => ?_) (fun hc => absurd hc (by decide +kernel))
                refine lv_iload_n hx hb d_Model_walk_235 rfl (lv_at hl 8 rfl) ?_
                refine lv_iconst (v := (-1)) hx hb d_Model_walk_236 (by decide) ?_
                refine lv_icmp_ne (tgt := 253) hx hb d_Model_walk_237 (by decide) (fun hc_347 => ?_) (fun hc_347 => ?_)
                · have _nhc_347 := hc_347
                  have ni_348 : ¬ (b2 : Int32).toInt = ((-1) : Int32).toInt := fun z => hc_347 ((fa_eq _ _).mpr z)
                  simp only [li_m1] at ni_348
                  have hv_349 : zI b2 0 2147483647 := zI.ne_lo hv_22 zc_m1 hc_347 (by decide)
                  refine lv_iload_n hx hb d_Model_walk_253 rfl (lv_at hl 8 rfl) ?_
                  refine lv_iload hx hb d_Model_walk_254 (lv_at hl 4 rfl) ?_
                  refine lv_icmp_ge (tgt := 271) hx hb d_Model_walk_256 (by decide) (fun hc_350 => ?_) (fun hc_350 => ?_)
                  · have _nhc_350 := hc_350
                    have ni_351 := (fa_le _ _).mp hc_350
                    have hv_352 : zI b2 12 2147483647 := zI.le_r hv_346 hv_349 hc_350 (by decide)
                    refine lv_iconst (v := (-1)) hx hb d_Model_walk_271 (by decide) ?_
                    exact z_iret hx hb hr hlocks (hP.sub [12, 1, 2, 3, 4, 5, 6, 7, 8, 9, 10, 11, 13, 14, 0] rfl) (hD.sub [12, 1, 2, 3, 4, 5, 6, 7, 8, 9, 10, 11, 13, 14, 0] (by decide) rfl) hS (Nat.le_of_ble_eq_true rfl) (Nat.le_of_ble_eq_true rfl) d_Model_walk_272 ⟨(-1), x_24, f_25, f_26, f_27, f_28, f_29, f_30, f_31, f_32, f_33, f_34, f_35, f_36, y_195, rfl, rfl, hx_24, hf_25, hf_26, hf_27, hf_29, hf_30, hf_31, hf_32, hf_35, hf_36⟩
                  · have _nhc_350 := hc_350
                    have ni_353 := (fa_lt _ _).mp (zi_nle hc_350)
                    have hv_354 : zI b2 0 11 := zI.lt_l hv_349 hv_346 (zi_nle hc_350) (by decide)
                    refine lv_bipush (v := 97) hx hb d_Model_walk_259 (by decide) ?_
                    refine lv_aload_n hx hb d_Model_walk_261 rfl (lv_at hl 6 rfl) ?_
                    refine va_get (D := G.1) (ci := 12) (v := .ref b54) (C := R_Model) (T := F_Model) (N := 54) hx hb hts i_Model hown hK hP 12 rfl rfl 51 (by decide) (hts _ q1160) (fun _ h9 => h9) rfl d_Model_walk_262 ?_
                    refine lv_iload_n hx hb d_Model_walk_265 rfl (lv_at hl 8 rfl) ?_
                    refine va_iald hx hb hK hP 0 0 rfl rfl (zI.inn hv_354 (by decide)) d_Model_walk_266 ?_
                    refine lv_topi (fun v_355 ev_355 => ?_)
                    refine lv_iadd hx hb d_Model_walk_267 ?_
                    refine lv_topi (fun v_356 ev_356 => ?_)
                    refine lv_goto (tgt := 272) hx hb d_Model_walk_268 (by decide) ?_
                    exact z_iret hx hb hr hlocks (hP.sub [12, 1, 2, 3, 4, 5, 6, 7, 8, 9, 10, 11, 13, 14, 0] rfl) (hD.sub [12, 1, 2, 3, 4, 5, 6, 7, 8, 9, 10, 11, 13, 14, 0] (by decide) rfl) hS (Nat.le_of_ble_eq_true rfl) (Nat.le_of_ble_eq_true rfl) d_Model_walk_272 ⟨v_356, x_24, f_25, f_26, f_27, f_28, f_29, f_30, f_31, f_32, f_33, f_34, f_35, f_36, y_195, rfl, rfl, hx_24, hf_25, hf_26, hf_27, hf_29, hf_30, hf_31, hf_32, hf_35, hf_36⟩
                · have _nhc_347 := hc_347
                  have ni_357 := (fa_eq _ _).mp hc_347
                  rw [li_m1] at ni_357
                  have hv_358 : zI b2 (-1) (-1) := zI.eq_l hv_22 zc_m1 hc_347
                  refine lv_iload hx hb d_Model_walk_240 (lv_at hl 1 rfl) ?_
                  refine lv_if_eq (tgt := 250) hx hb d_Model_walk_242 (by decide) (fun hc => absurd hc (by decide +kernel)) (fun _ => ?_)
                  refine lv_bipush (v := (-2)) hx hb d_Model_walk_245 (by decide) ?_
                  refine lv_goto (tgt := 252) hx hb d_Model_walk_247 (by decide) ?_
                  exact z_iret hx hb hr hlocks (hP.sub [12, 1, 2, 3, 4, 5, 6, 7, 8, 9, 10, 11, 13, 14, 0] rfl) (hD.sub [12, 1, 2, 3, 4, 5, 6, 7, 8, 9, 10, 11, 13, 14, 0] (by decide) rfl) hS (Nat.le_of_ble_eq_true rfl) (Nat.le_of_ble_eq_true rfl) d_Model_walk_252 ⟨(-2), x_24, f_25, f_26, f_27, f_28, f_29, f_30, f_31, f_32, f_33, f_34, f_35, f_36, y_195, rfl, rfl, hx_24, hf_25, hf_26, hf_27, hf_29, hf_30, hf_31, hf_32, hf_35, hf_36⟩
      · have _nhc_20 := hc_20
        have ni_359 := (fa_lt _ _).mp (zi_nle hc_20)
        rw [li_m1] at ni_359
        have hv_360 : zI b2 (-2147483648) (-2) := zI.lt_l (zI_all b2) zc_m1 (zi_nle hc_20) (by decide)
        refine lv_iconst (v := (-1)) hx hb d_Model_walk_29 (by decide) ?_
        exact z_iret hx hb hr hlocks (hP.sub [13, 14, 0, 1, 2, 3, 4, 5, 6, 7, 8, 9, 10, 11, 12] rfl) (hD.sub [13, 14, 0, 1, 2, 3, 4, 5, 6, 7, 8, 9, 10, 11, 12] (by decide) rfl) hS (Nat.le_of_ble_eq_true rfl) (Nat.le_of_ble_eq_true rfl) d_Model_walk_30 ⟨(-1), b30, b58, b59, b60, b61, b62, b63, b64, b65, b66, b67, b68, b69, b70, rfl, rfl, hb30, hb58, hb59, hb60, hb62, hb63, hb64, hb65, hb68, hb69⟩
