theorem d_Model_layStates_0 : decode prog_14_method_31_code 0 = .ok (.sipush 241, 3) := by decide +kernel
theorem d_Model_layStates_3 : decode prog_14_method_31_code 3 = .ok (.iload_n 1, 1) := by decide +kernel
theorem d_Model_layStates_4 : decode prog_14_method_31_code 4 = .ok (.imul, 1) := by decide +kernel
theorem d_Model_layStates_5 : decode prog_14_method_31_code 5 = .ok (.istore 4, 2) := by decide +kernel
theorem d_Model_layStates_7 : decode prog_14_method_31_code 7 = .ok (.iconst 0, 1) := by decide +kernel
theorem d_Model_layStates_8 : decode prog_14_method_31_code 8 = .ok (.istore 5, 2) := by decide +kernel
theorem d_Model_layStates_10 : decode prog_14_method_31_code 10 = .ok (.iload 5, 2) := by decide +kernel
theorem d_Model_layStates_12 : decode prog_14_method_31_code 12 = .ok (.aload_n 0, 1) := by decide +kernel
theorem d_Model_layStates_13 : decode prog_14_method_31_code 13 = .ok (.invokevirtual 134, 3) := by decide +kernel
theorem d_Model_layStates_16 : decode prog_14_method_31_code 16 = .ok (.if_icmp .ge 60, 3) := by decide +kernel
theorem d_Model_layStates_19 : decode prog_14_method_31_code 19 = .ok (.iconst 0, 1) := by decide +kernel
theorem d_Model_layStates_20 : decode prog_14_method_31_code 20 = .ok (.istore 6, 2) := by decide +kernel
theorem d_Model_layStates_22 : decode prog_14_method_31_code 22 = .ok (.iload 6, 2) := by decide +kernel
theorem d_Model_layStates_24 : decode prog_14_method_31_code 24 = .ok (.aload_n 0, 1) := by decide +kernel
theorem d_Model_layStates_25 : decode prog_14_method_31_code 25 = .ok (.iload 5, 2) := by decide +kernel
theorem d_Model_layStates_27 : decode prog_14_method_31_code 27 = .ok (.invokevirtual 203, 3) := by decide +kernel
theorem d_Model_layStates_30 : decode prog_14_method_31_code 30 = .ok (.if_icmp .gt 40, 3) := by decide +kernel
theorem d_Model_layStates_33 : decode prog_14_method_31_code 33 = .ok (.iload 5, 2) := by decide +kernel
theorem d_Model_layStates_35 : decode prog_14_method_31_code 35 = .ok (.iload_n 3, 1) := by decide +kernel
theorem d_Model_layStates_36 : decode prog_14_method_31_code 36 = .ok (.if_icmp .eq 34, 3) := by decide +kernel
theorem d_Model_layStates_39 : decode prog_14_method_31_code 39 = .ok (.aload_n 0, 1) := by decide +kernel
theorem d_Model_layStates_40 : decode prog_14_method_31_code 40 = .ok (.iload 4, 2) := by decide +kernel
theorem d_Model_layStates_42 : decode prog_14_method_31_code 42 = .ok (.aload_n 0, 1) := by decide +kernel
theorem d_Model_layStates_43 : decode prog_14_method_31_code 43 = .ok (.iload_n 1, 1) := by decide +kernel
theorem d_Model_layStates_44 : decode prog_14_method_31_code 44 = .ok (.iload 5, 2) := by decide +kernel
theorem d_Model_layStates_46 : decode prog_14_method_31_code 46 = .ok (.iload 6, 2) := by decide +kernel
theorem d_Model_layStates_48 : decode prog_14_method_31_code 48 = .ok (.invokevirtual 211, 3) := by decide +kernel
theorem d_Model_layStates_51 : decode prog_14_method_31_code 51 = .ok (.iadd, 1) := by decide +kernel
theorem d_Model_layStates_52 : decode prog_14_method_31_code 52 = .ok (.aload_n 0, 1) := by decide +kernel
theorem d_Model_layStates_53 : decode prog_14_method_31_code 53 = .ok (.iload 5, 2) := by decide +kernel
theorem d_Model_layStates_55 : decode prog_14_method_31_code 55 = .ok (.iload 6, 2) := by decide +kernel
theorem d_Model_layStates_57 : decode prog_14_method_31_code 57 = .ok (.iload_n 2, 1) := by decide +kernel
theorem d_Model_layStates_58 : decode prog_14_method_31_code 58 = .ok (.invokevirtual 214, 3) := by decide +kernel
theorem d_Model_layStates_61 : decode prog_14_method_31_code 61 = .ok (.invokevirtual 217, 3) := by decide +kernel
theorem d_Model_layStates_64 : decode prog_14_method_31_code 64 = .ok (.iinc 6 1, 3) := by decide +kernel
theorem d_Model_layStates_67 : decode prog_14_method_31_code 67 = .ok (.goto (-45), 3) := by decide +kernel
theorem d_Model_layStates_70 : decode prog_14_method_31_code 70 = .ok (.iinc 5 1, 3) := by decide +kernel
theorem d_Model_layStates_73 : decode prog_14_method_31_code 73 = .ok (.goto (-63), 3) := by decide +kernel
theorem d_Model_layStates_76 : decode prog_14_method_31_code 76 = .ok (.aload_n 0, 1) := by decide +kernel
theorem d_Model_layStates_77 : decode prog_14_method_31_code 77 = .ok (.getfield 58, 3) := by decide +kernel
theorem d_Model_layStates_80 : decode prog_14_method_31_code 80 = .ok (.iload_n 1, 1) := by decide +kernel
theorem d_Model_layStates_81 : decode prog_14_method_31_code 81 = .ok (.iconst 0, 1) := by decide +kernel
theorem d_Model_layStates_82 : decode prog_14_method_31_code 82 = .ok (.iastore, 1) := by decide +kernel
theorem d_Model_layStates_83 : decode prog_14_method_31_code 83 = .ok (.aload_n 0, 1) := by decide +kernel
theorem d_Model_layStates_84 : decode prog_14_method_31_code 84 = .ok (.invokevirtual 134, 3) := by decide +kernel
theorem d_Model_layStates_87 : decode prog_14_method_31_code 87 = .ok (.iload_n 3, 1) := by decide +kernel
theorem d_Model_layStates_88 : decode prog_14_method_31_code 88 = .ok (.iconst (-1), 1) := by decide +kernel
theorem d_Model_layStates_89 : decode prog_14_method_31_code 89 = .ok (.if_icmp .ne 7, 3) := by decide +kernel
theorem d_Model_layStates_92 : decode prog_14_method_31_code 92 = .ok (.iconst 0, 1) := by decide +kernel
theorem d_Model_layStates_93 : decode prog_14_method_31_code 93 = .ok (.goto 4, 3) := by decide +kernel
theorem d_Model_layStates_96 : decode prog_14_method_31_code 96 = .ok (.iconst 1, 1) := by decide +kernel
theorem d_Model_layStates_97 : decode prog_14_method_31_code 97 = .ok (.if_icmp .le 7, 3) := by decide +kernel
theorem d_Model_layStates_100 : decode prog_14_method_31_code 100 = .ok (.iconst 1, 1) := by decide +kernel
theorem d_Model_layStates_101 : decode prog_14_method_31_code 101 = .ok (.goto 4, 3) := by decide +kernel
theorem d_Model_layStates_104 : decode prog_14_method_31_code 104 = .ok (.iconst 0, 1) := by decide +kernel
theorem d_Model_layStates_105 : decode prog_14_method_31_code 105 = .ok (.istore 5, 2) := by decide +kernel
theorem d_Model_layStates_107 : decode prog_14_method_31_code 107 = .ok (.iconst 0, 1) := by decide +kernel
theorem d_Model_layStates_108 : decode prog_14_method_31_code 108 = .ok (.istore 6, 2) := by decide +kernel
theorem d_Model_layStates_110 : decode prog_14_method_31_code 110 = .ok (.iload 6, 2) := by decide +kernel
theorem d_Model_layStates_112 : decode prog_14_method_31_code 112 = .ok (.aload_n 0, 1) := by decide +kernel
theorem d_Model_layStates_113 : decode prog_14_method_31_code 113 = .ok (.getfield 40, 3) := by decide +kernel
theorem d_Model_layStates_116 : decode prog_14_method_31_code 116 = .ok (.iload_n 1, 1) := by decide +kernel
theorem d_Model_layStates_117 : decode prog_14_method_31_code 117 = .ok (.iaload, 1) := by decide +kernel
theorem d_Model_layStates_118 : decode prog_14_method_31_code 118 = .ok (.if_icmp .ge 140, 3) := by decide +kernel
theorem d_Model_layStates_121 : decode prog_14_method_31_code 121 = .ok (.iload 5, 2) := by decide +kernel
theorem d_Model_layStates_123 : decode prog_14_method_31_code 123 = .ok (.ifCond .eq 135, 3) := by decide +kernel
theorem d_Model_layStates_126 : decode prog_14_method_31_code 126 = .ok (.iconst 0, 1) := by decide +kernel
theorem d_Model_layStates_127 : decode prog_14_method_31_code 127 = .ok (.istore 7, 2) := by decide +kernel
theorem d_Model_layStates_129 : decode prog_14_method_31_code 129 = .ok (.iload 7, 2) := by decide +kernel
theorem d_Model_layStates_131 : decode prog_14_method_31_code 131 = .ok (.aload_n 0, 1) := by decide +kernel
theorem d_Model_layStates_132 : decode prog_14_method_31_code 132 = .ok (.getfield 58, 3) := by decide +kernel
theorem d_Model_layStates_135 : decode prog_14_method_31_code 135 = .ok (.iload_n 1, 1) := by decide +kernel
theorem d_Model_layStates_136 : decode prog_14_method_31_code 136 = .ok (.iaload, 1) := by decide +kernel
theorem d_Model_layStates_137 : decode prog_14_method_31_code 137 = .ok (.if_icmp .ge 34, 3) := by decide +kernel
theorem d_Model_layStates_140 : decode prog_14_method_31_code 140 = .ok (.aload_n 0, 1) := by decide +kernel
theorem d_Model_layStates_141 : decode prog_14_method_31_code 141 = .ok (.iload 4, 2) := by decide +kernel
theorem d_Model_layStates_143 : decode prog_14_method_31_code 143 = .ok (.aload_n 0, 1) := by decide +kernel
theorem d_Model_layStates_144 : decode prog_14_method_31_code 144 = .ok (.getfield 61, 3) := by decide +kernel
theorem d_Model_layStates_147 : decode prog_14_method_31_code 147 = .ok (.iload 4, 2) := by decide +kernel
theorem d_Model_layStates_149 : decode prog_14_method_31_code 149 = .ok (.iload 7, 2) := by decide +kernel
theorem d_Model_layStates_151 : decode prog_14_method_31_code 151 = .ok (.iadd, 1) := by decide +kernel
theorem d_Model_layStates_152 : decode prog_14_method_31_code 152 = .ok (.iaload, 1) := by decide +kernel
theorem d_Model_layStates_153 : decode prog_14_method_31_code 153 = .ok (.iadd, 1) := by decide +kernel
theorem d_Model_layStates_154 : decode prog_14_method_31_code 154 = .ok (.iload 4, 2) := by decide +kernel
theorem d_Model_layStates_156 : decode prog_14_method_31_code 156 = .ok (.iload 6, 2) := by decide +kernel
theorem d_Model_layStates_158 : decode prog_14_method_31_code 158 = .ok (.iadd, 1) := by decide +kernel
theorem d_Model_layStates_159 : decode prog_14_method_31_code 159 = .ok (.invokevirtual 221, 3) := by decide +kernel
theorem d_Model_layStates_162 : decode prog_14_method_31_code 162 = .ok (.ifCond .ne 9, 3) := by decide +kernel
theorem d_Model_layStates_165 : decode prog_14_method_31_code 165 = .ok (.iinc 7 1, 3) := by decide +kernel
theorem d_Model_layStates_168 : decode prog_14_method_31_code 168 = .ok (.goto (-39), 3) := by decide +kernel
theorem d_Model_layStates_171 : decode prog_14_method_31_code 171 = .ok (.iload 7, 2) := by decide +kernel
theorem d_Model_layStates_173 : decode prog_14_method_31_code 173 = .ok (.aload_n 0, 1) := by decide +kernel
theorem d_Model_layStates_174 : decode prog_14_method_31_code 174 = .ok (.getfield 58, 3) := by decide +kernel
theorem d_Model_layStates_177 : decode prog_14_method_31_code 177 = .ok (.iload_n 1, 1) := by decide +kernel
theorem d_Model_layStates_178 : decode prog_14_method_31_code 178 = .ok (.iaload, 1) := by decide +kernel
theorem d_Model_layStates_179 : decode prog_14_method_31_code 179 = .ok (.if_icmp .ne 47, 3) := by decide +kernel
theorem d_Model_layStates_182 : decode prog_14_method_31_code 182 = .ok (.aload_n 0, 1) := by decide +kernel
theorem d_Model_layStates_183 : decode prog_14_method_31_code 183 = .ok (.getfield 61, 3) := by decide +kernel
theorem d_Model_layStates_186 : decode prog_14_method_31_code 186 = .ok (.iload 4, 2) := by decide +kernel
theorem d_Model_layStates_188 : decode prog_14_method_31_code 188 = .ok (.iload 7, 2) := by decide +kernel
theorem d_Model_layStates_190 : decode prog_14_method_31_code 190 = .ok (.iadd, 1) := by decide +kernel
theorem d_Model_layStates_191 : decode prog_14_method_31_code 191 = .ok (.iload 6, 2) := by decide +kernel
theorem d_Model_layStates_193 : decode prog_14_method_31_code 193 = .ok (.iastore, 1) := by decide +kernel
theorem d_Model_layStates_194 : decode prog_14_method_31_code 194 = .ok (.aload_n 0, 1) := by decide +kernel
theorem d_Model_layStates_195 : decode prog_14_method_31_code 195 = .ok (.getfield 64, 3) := by decide +kernel
theorem d_Model_layStates_198 : decode prog_14_method_31_code 198 = .ok (.iload 4, 2) := by decide +kernel
theorem d_Model_layStates_200 : decode prog_14_method_31_code 200 = .ok (.iload 7, 2) := by decide +kernel
theorem d_Model_layStates_202 : decode prog_14_method_31_code 202 = .ok (.iadd, 1) := by decide +kernel
theorem d_Model_layStates_203 : decode prog_14_method_31_code 203 = .ok (.iconst 0, 1) := by decide +kernel
theorem d_Model_layStates_204 : decode prog_14_method_31_code 204 = .ok (.iastore, 1) := by decide +kernel
theorem d_Model_layStates_205 : decode prog_14_method_31_code 205 = .ok (.aload_n 0, 1) := by decide +kernel
theorem d_Model_layStates_206 : decode prog_14_method_31_code 206 = .ok (.getfield 67, 3) := by decide +kernel
theorem d_Model_layStates_209 : decode prog_14_method_31_code 209 = .ok (.iload 4, 2) := by decide +kernel
theorem d_Model_layStates_211 : decode prog_14_method_31_code 211 = .ok (.iload 7, 2) := by decide +kernel
theorem d_Model_layStates_213 : decode prog_14_method_31_code 213 = .ok (.iadd, 1) := by decide +kernel
theorem d_Model_layStates_214 : decode prog_14_method_31_code 214 = .ok (.iconst 0, 1) := by decide +kernel
theorem d_Model_layStates_215 : decode prog_14_method_31_code 215 = .ok (.iastore, 1) := by decide +kernel
theorem d_Model_layStates_216 : decode prog_14_method_31_code 216 = .ok (.aload_n 0, 1) := by decide +kernel
theorem d_Model_layStates_217 : decode prog_14_method_31_code 217 = .ok (.getfield 58, 3) := by decide +kernel
theorem d_Model_layStates_220 : decode prog_14_method_31_code 220 = .ok (.iload_n 1, 1) := by decide +kernel
theorem d_Model_layStates_221 : decode prog_14_method_31_code 221 = .ok (.dup2, 1) := by decide +kernel
theorem d_Model_layStates_222 : decode prog_14_method_31_code 222 = .ok (.iaload, 1) := by decide +kernel
theorem d_Model_layStates_223 : decode prog_14_method_31_code 223 = .ok (.iconst 1, 1) := by decide +kernel
theorem d_Model_layStates_224 : decode prog_14_method_31_code 224 = .ok (.iadd, 1) := by decide +kernel
theorem d_Model_layStates_225 : decode prog_14_method_31_code 225 = .ok (.iastore, 1) := by decide +kernel
theorem d_Model_layStates_226 : decode prog_14_method_31_code 226 = .ok (.aload_n 0, 1) := by decide +kernel
theorem d_Model_layStates_227 : decode prog_14_method_31_code 227 = .ok (.getfield 64, 3) := by decide +kernel
theorem d_Model_layStates_230 : decode prog_14_method_31_code 230 = .ok (.iload 4, 2) := by decide +kernel
theorem d_Model_layStates_232 : decode prog_14_method_31_code 232 = .ok (.iload 7, 2) := by decide +kernel
theorem d_Model_layStates_234 : decode prog_14_method_31_code 234 = .ok (.iadd, 1) := by decide +kernel
theorem d_Model_layStates_235 : decode prog_14_method_31_code 235 = .ok (.dup2, 1) := by decide +kernel
theorem d_Model_layStates_236 : decode prog_14_method_31_code 236 = .ok (.iaload, 1) := by decide +kernel
theorem d_Model_layStates_237 : decode prog_14_method_31_code 237 = .ok (.iconst 1, 1) := by decide +kernel
theorem d_Model_layStates_238 : decode prog_14_method_31_code 238 = .ok (.iadd, 1) := by decide +kernel
theorem d_Model_layStates_239 : decode prog_14_method_31_code 239 = .ok (.iastore, 1) := by decide +kernel
theorem d_Model_layStates_240 : decode prog_14_method_31_code 240 = .ok (.aload_n 0, 1) := by decide +kernel
theorem d_Model_layStates_241 : decode prog_14_method_31_code 241 = .ok (.getfield 55, 3) := by decide +kernel
theorem d_Model_layStates_244 : decode prog_14_method_31_code 244 = .ok (.iload 4, 2) := by decide +kernel
theorem d_Model_layStates_246 : decode prog_14_method_31_code 246 = .ok (.iload 6, 2) := by decide +kernel
theorem d_Model_layStates_248 : decode prog_14_method_31_code 248 = .ok (.iadd, 1) := by decide +kernel
theorem d_Model_layStates_249 : decode prog_14_method_31_code 249 = .ok (.iload 7, 2) := by decide +kernel
theorem d_Model_layStates_251 : decode prog_14_method_31_code 251 = .ok (.iastore, 1) := by decide +kernel
theorem d_Model_layStates_252 : decode prog_14_method_31_code 252 = .ok (.iinc 6 1, 3) := by decide +kernel
theorem d_Model_layStates_255 : decode prog_14_method_31_code 255 = .ok (.goto (-145), 3) := by decide +kernel
theorem d_Model_layStates_258 : decode prog_14_method_31_code 258 = .ok (.return_, 1) := by decide +kernel
abbrev m_s1_Model_layStates : Room := { frames := 2, cells := 0, slots := 0, locals := 48 }
set_option maxHeartbeats 4000000 in
set_option maxRecDepth 100000 in
theorem s1_Model_layStates (l : Launch) (G : zG) (b0 : Nat) (b1 : Int32) (b2 : Int32) (b3 : Int32) (b4 : Nat) (b5 : Nat) (b6 : Nat) (b7 : Nat) (b8 : Int32) (b9 : Nat) (b10 : Int32) (b11 : Int32) (b12 : Int32) (b13 : Int32) (b14 : Nat) (b15 : Nat) (b16 : Nat) (b17 : Int32) (b18 : Nat) (b19 : Nat) (b20 : Nat) (b21 : Nat) (b22 : Nat) (b23 : Nat) (b24 : Nat) (b25 : Nat) (b26 : Nat) (b27 : Nat) (b28 : Nat) (b29 : Nat) (b30 : Int32) (b31 : Nat) (b32 : Nat) (b33 : Int32) (b34 : Int32) (b35 : Int32) (b36 : Int32) (b37 : Nat) (b38 : Nat) (b39 : Nat) (b40 : Nat) (b41 : Nat) (b42 : Nat) (b43 : Nat) (b44 : Int32) (b45 : Nat) (b46 : Nat) (b47 : Int32) (b48 : Nat) (b49 : Nat) (b50 : Nat) (b51 : Nat) (b52 : Nat) (b53 : Int32) (b54 : Nat) (b55 : Nat) (b56 : Nat) (b57 : Nat → Int32) (b58 : Nat → Int32) (b59 : Nat → Int32) (b60 : Nat → Int32) (b61 : Nat → Int32) (b62 : Nat → Int32) (b63 : Nat → Int32) (b64 : Nat → Int32) (b65 : Nat → Int32) (b66 : Nat → Int32) (hb1 : zI b1 0 3) (hb2 : zI b2 (-1) 19) (hb8 : zI b8 0 8) (hb10 : zI b10 0 240) (hb11 : zI b11 0 240) (hb13 : zI b13 0 1) (hb17 : zI b17 0 12) (hb30 : zI b30 0 1) (hb33 : zI b33 0 1) (hb44 : zI b44 0 1000) (hb47 : zI b47 0 1000) (hb53 : zI b53 0 400) (hb57 : zW5 b57) (hb58 : zR b58 0 241) (hb59 : zqa qP b59) (hb61 : zqa qC b61) (hb62 : zR b62 0 240) (hb63 : zR b63 0 241) (hb64 : zR b64 0 240) (htm : zTm ((b57 (0 : Int32).toNatClampNeg).toInt) (b2 : Int32).toInt (b58 (0 : Int32).toNatClampNeg).toInt 0 b57 b59) (hz0 : ∀ q : Nat, (q : Int) < (b58 (0 : Int32).toNatClampNeg).toInt → (b61 (0 + q)).toInt = 0) : zM l G y_Model_layStates prog_14_method_31_code 8 (Option.none : Option Jvm.ClassFile.FieldType) m_s1_Model_layStates [.ref b0, .int 0, .int b1, .int b2] [(b0, .inr (12, [.int b3, .ref b4, .ref b5, .ref b6, .ref b7, .int b8, .ref b9, .int b10, .int b11, .int b12, .int b13, .ref b14, .ref b15, .ref b16, .int b17, .ref b18, .ref b19, .ref b20, .ref b21, .ref b22, .ref b23, .ref b24, .ref b25, .ref b26, .ref b27, .ref b28, .ref b29, .int b30, .ref b31, .ref b32, .int b33, .int b34, .int b35, .int b36, .ref b37, .ref b38, .ref b39, .ref b40, .ref b41, .ref b42, .ref b43, .int b44, .ref b45, .ref b46, .int b47, .ref b48, .ref b49, .ref b50, .ref b51, .ref b52, .int b53, .ref b54, .ref b55, .ref b56])), (b4, .inl (G.2 0, 503, .inl b57)), (b18, .inl (G.2 0, 2, .inl b58)), (b20, .inl (G.2 0, 520, .inl b59)), (b21, .inl (G.2 0, 9640, .inl b60)), (b22, .inl (G.2 0, 482, .inl b61)), (b23, .inl (G.2 0, 482, .inl b62)), (b24, .inl (G.2 0, 2, .inl b63)), (b25, .inl (G.2 0, 482, .inl b64)), (b26, .inl (G.2 0, 482, .inl b65)), (b27, .inl (G.2 0, 482, .inl b66))] (fun v w => ∃ (e0 : Nat → Int32), ∃ (e1 : Nat → Int32), ∃ (e2 : Nat → Int32), ∃ (e3 : Nat → Int32), ∃ (e4 : Nat → Int32), ∃ (e5 : Nat → Int32), ∃ (e6 : Nat → Int32), v = none ∧ w = [(b0, .inr (12, [.int b3, .ref b4, .ref b5, .ref b6, .ref b7, .int b8, .ref b9, .int b10, .int b11, .int b12, .int b13, .ref b14, .ref b15, .ref b16, .int b17, .ref b18, .ref b19, .ref b20, .ref b21, .ref b22, .ref b23, .ref b24, .ref b25, .ref b26, .ref b27, .ref b28, .ref b29, .int b30, .ref b31, .ref b32, .int b33, .int b34, .int b35, .int b36, .ref b37, .ref b38, .ref b39, .ref b40, .ref b41, .ref b42, .ref b43, .int b44, .ref b45, .ref b46, .int b47, .ref b48, .ref b49, .ref b50, .ref b51, .ref b52, .int b53, .ref b54, .ref b55, .ref b56])), (b4, .inl (G.2 0, 503, .inl b57)), (b18, .inl (G.2 0, 2, .inl b58)), (b20, .inl (G.2 0, 520, .inl b59)), (b21, .inl (G.2 0, 9640, .inl e0)), (b22, .inl (G.2 0, 482, .inl e1)), (b23, .inl (G.2 0, 482, .inl e2)), (b24, .inl (G.2 0, 2, .inl e3)), (b25, .inl (G.2 0, 482, .inl e4)), (b26, .inl (G.2 0, 482, .inl e5)), (b27, .inl (G.2 0, 482, .inl e6))] ∧ (zqa qC e1) ∧ (zR e2 0 240) ∧ (zR e3 0 241) ∧ (zR e4 0 240)) := by
  refine z_start (by decide +kernel) (Nat.le_of_ble_eq_true rfl) ?_
  intro p e s m below meth c A Z hr hnm hA hP hD hS ls hl
  have Z : zC p s m _ meth c prog_14_method_31_code 8 "TraceMachinesModel" G := Z
  obtain ⟨hx, hb, hml, hown, hts, hK, hN, hlocks⟩ := id Z
  have hl : lv_has ls 8 [(0, .ref b0), (1, .int 0), (2, .int b1), (3, .int b2)] := hl
  refine lv_sipush (v := 241) hx hb d_Model_layStates_0 (by decide) ?_
  refine lv_iload_n hx hb d_Model_layStates_3 rfl (lv_at hl 1 rfl) ?_
  refine lv_imul hx hb d_Model_layStates_4 ?_
  refine z_topi (y := 0) (by decide +kernel) ?_
  refine lv_istore (lv' := [(4, .int 0), (0, .ref b0), (1, .int 0), (2, .int b1), (3, .int b2)]) hx hb d_Model_layStates_5 hl (by decide) rfl (fun ls hl => ?_)
  refine lv_iconst (v := 0) hx hb d_Model_layStates_7 (by decide) ?_
  refine lv_istore (lv' := [(5, .int 0), (4, .int 0), (0, .ref b0), (1, .int 0), (2, .int b1), (3, .int b2)]) hx hb d_Model_layStates_8 hl (by decide) rfl (fun ls hl => ?_)
  suffices key : ∀ (k_761 : Nat) (y_762 : Int32) (y_763 : Nat → Int32) (y_764 : Nat → Int32) (H : Heap) (locs : List Loc) (ls : Array Slot), (zI y_762 0 20) → (zqa qC y_764) → (∀ q : Nat, (q : Int) < (b58 (0 : Int32).toNatClampNeg).toInt → (y_764 (0 + q)).toInt = 0 ∨ (y_764 (0 + q)).toInt + (q : Int) ≤ 13 * (y_762 : Int32).toInt) → (20 : Int) - y_762.toInt < (k_761 : Int) → va_P G.1 classes [(b0, .inr (12, [.int b3, .ref b4, .ref b5, .ref b6, .ref b7, .int b8, .ref b9, .int b10, .int b11, .int b12, .int b13, .ref b14, .ref b15, .ref b16, .int b17, .ref b18, .ref b19, .ref b20, .ref b21, .ref b22, .ref b23, .ref b24, .ref b25, .ref b26, .ref b27, .ref b28, .ref b29, .int b30, .ref b31, .ref b32, .int b33, .int b34, .int b35, .int b36, .ref b37, .ref b38, .ref b39, .ref b40, .ref b41, .ref b42, .ref b43, .int b44, .ref b45, .ref b46, .int b47, .ref b48, .ref b49, .ref b50, .ref b51, .ref b52, .int b53, .ref b54, .ref b55, .ref b56])), (b4, .inl (G.2 0, 503, .inl b57)), (b18, .inl (G.2 0, 2, .inl b58)), (b20, .inl (G.2 0, 520, .inl b59)), (b21, .inl (G.2 0, 9640, .inl y_763)), (b22, .inl (G.2 0, 482, .inl y_764)), (b23, .inl (G.2 0, 482, .inl b62)), (b24, .inl (G.2 0, 2, .inl b63)), (b25, .inl (G.2 0, 482, .inl b64)), (b26, .inl (G.2 0, 482, .inl b65)), (b27, .inl (G.2 0, 482, .inl b66))] H → va_D A [(b0, .inr (12, [.int b3, .ref b4, .ref b5, .ref b6, .ref b7, .int b8, .ref b9, .int b10, .int b11, .int b12, .int b13, .ref b14, .ref b15, .ref b16, .int b17, .ref b18, .ref b19, .ref b20, .ref b21, .ref b22, .ref b23, .ref b24, .ref b25, .ref b26, .ref b27, .ref b28, .ref b29, .int b30, .ref b31, .ref b32, .int b33, .int b34, .int b35, .int b36, .ref b37, .ref b38, .ref b39, .ref b40, .ref b41, .ref b42, .ref b43, .int b44, .ref b45, .ref b46, .int b47, .ref b48, .ref b49, .ref b50, .ref b51, .ref b52, .int b53, .ref b54, .ref b55, .ref b56])), (b4, .inl (G.2 0, 503, .inl b57)), (b18, .inl (G.2 0, 2, .inl b58)), (b20, .inl (G.2 0, 520, .inl b59)), (b21, .inl (G.2 0, 9640, .inl y_763)), (b22, .inl (G.2 0, 482, .inl y_764)), (b23, .inl (G.2 0, 482, .inl b62)), (b24, .inl (G.2 0, 2, .inl b63)), (b25, .inl (G.2 0, 482, .inl b64)), (b26, .inl (G.2 0, 482, .inl b65)), (b27, .inl (G.2 0, 482, .inl b66))] → va_S A s.heap H locs → lv_has ls 8 [(5, .int y_762), (4, .int 0), (0, .ref b0), (1, .int 0), (2, .int b1), (3, .int b2)] → W p l e m_s1_Model_layStates s m ([.ref b0, .int 0, .int b1, .int b2] : List Value).toArray below meth c H locs 0 0 (MQ below (zQ G (fun v w => ∃ (e0 : Nat → Int32), ∃ (e1 : Nat → Int32), ∃ (e2 : Nat → Int32), ∃ (e3 : Nat → Int32), ∃ (e4 : Nat → Int32), ∃ (e5 : Nat → Int32), ∃ (e6 : Nat → Int32), v = none ∧ w = [(b0, .inr (12, [.int b3, .ref b4, .ref b5, .ref b6, .ref b7, .int b8, .ref b9, .int b10, .int b11, .int b12, .int b13, .ref b14, .ref b15, .ref b16, .int b17, .ref b18, .ref b19, .ref b20, .ref b21, .ref b22, .ref b23, .ref b24, .ref b25, .ref b26, .ref b27, .ref b28, .ref b29, .int b30, .ref b31, .ref b32, .int b33, .int b34, .int b35, .int b36, .ref b37, .ref b38, .ref b39, .ref b40, .ref b41, .ref b42, .ref b43, .int b44, .ref b45, .ref b46, .int b47, .ref b48, .ref b49, .ref b50, .ref b51, .ref b52, .int b53, .ref b54, .ref b55, .ref b56])), (b4, .inl (G.2 0, 503, .inl b57)), (b18, .inl (G.2 0, 2, .inl b58)), (b20, .inl (G.2 0, 520, .inl b59)), (b21, .inl (G.2 0, 9640, .inl e0)), (b22, .inl (G.2 0, 482, .inl e1)), (b23, .inl (G.2 0, 482, .inl e2)), (b24, .inl (G.2 0, 2, .inl e3)), (b25, .inl (G.2 0, 482, .inl e4)), (b26, .inl (G.2 0, 482, .inl e5)), (b27, .inl (G.2 0, 482, .inl e6))] ∧ (zqa qC e1) ∧ (zR e2 0 240) ∧ (zR e3 0 241) ∧ (zR e4 0 240)) A) ([.ref b0, .int 0, .int b1, .int b2] : List Value).toArray s m_s1_Model_layStates.cells m_s1_Model_layStates.slots A) (F0 m 10 ls []) by
    exact key 21 (0) (b60) (b61) _ _ _ (zI.wk (l' := 0) (h' := 20) zc_0 (by decide)) hb61 (fun q hq => Or.inl (hz0 q hq)) (zm_upi (zI.wk (l' := 0) (h' := 20) zc_0 (by decide)) (by decide)) hP hD hS (lv_sub hl [0, 1, 2, 3, 4, 5] rfl)
  intro k_761
  induction k_761 with
  | zero =>
    intro y_762 y_763 y_764 H locs ls hy_762 hy_764 hli_765 hmk_761 hP hD hS hl
    exact (zm_up0 hy_762 hmk_761).elim
  | succ k_761 ihk_761 =>
    intro y_762 y_763 y_764 H locs ls hy_762 hy_764 hli_765 hmk_761 hP hD hS hl
    refine lv_iload hx hb d_Model_layStates_10 (lv_at hl 0 rfl) ?_
    refine lv_aload_n hx hb d_Model_layStates_12 rfl (lv_at hl 2 rfl) ?_
    refine z_callV (index := 134) (As := []) (rest := [.int y_762]) (wr := [(b18, .inl (G.2 0, 2, .inl b58)), (b20, .inl (G.2 0, 520, .inl b59)), (b21, .inl (G.2 0, 9640, .inl y_763)), (b22, .inl (G.2 0, 482, .inl y_764)), (b23, .inl (G.2 0, 482, .inl b62)), (b24, .inl (G.2 0, 2, .inl b63)), (b25, .inl (G.2 0, 482, .inl b64)), (b26, .inl (G.2 0, 482, .inl b65)), (b27, .inl (G.2 0, 482, .inl b66))]) Z (s1_Model_many l G (b0) (b3) (b4) (b5) (b6) (b7) (b8) (b9) (b10) (b11) (b12) (b13) (b14) (b15) (b16) (b17) (b18) (b19) (b20) (b21) (b22) (b23) (b24) (b25) (b26) (b27) (b28) (b29) (b30) (b31) (b32) (b33) (b34) (b35) (b36) (b37) (b38) (b39) (b40) (b41) (b42) (b43) (b44) (b45) (b46) (b47) (b48) (b49) (b50) (b51) (b52) (b53) (b54) (b55) (b56) (b57) hb8 hb10 hb11 hb13 hb17 hb30 hb33 hb44 hb47 hb53 hb57) hl.1 q1320 q1322 qs51 q14 q1323 ⟨by decide, by decide, by show _ = some 0; decide +kernel⟩ ⟨Nat.le_of_ble_eq_true rfl, Nat.le_of_ble_eq_true rfl⟩ ⟨Nat.le_of_ble_eq_true rfl, Nat.le_of_ble_eq_true rfl⟩ rfl (Nat.le_of_ble_eq_true rfl) d_Model_layStates_13 hP hD hS hA 0 12 rfl rfl rfl [0, 1] [2, 3, 4, 5, 6, 7, 8, 9, 10] rfl rfl rfl rfl (by decide) (fun v w1 H locs hw_766 hP hD hS => ?_)
    obtain ⟨x_767, rfl, rfl, hx_767, hfx_768⟩ := hw_766
    have hP : va_P G.1 classes [(b18, .inl (G.2 0, 2, .inl b58)), (b20, .inl (G.2 0, 520, .inl b59)), (b21, .inl (G.2 0, 9640, .inl y_763)), (b22, .inl (G.2 0, 482, .inl y_764)), (b23, .inl (G.2 0, 482, .inl b62)), (b24, .inl (G.2 0, 2, .inl b63)), (b25, .inl (G.2 0, 482, .inl b64)), (b26, .inl (G.2 0, 482, .inl b65)), (b27, .inl (G.2 0, 482, .inl b66)), (b0, .inr (12, [.int b3, .ref b4, .ref b5, .ref b6, .ref b7, .int b8, .ref b9, .int b10, .int b11, .int b12, .int b13, .ref b14, .ref b15, .ref b16, .int b17, .ref b18, .ref b19, .ref b20, .ref b21, .ref b22, .ref b23, .ref b24, .ref b25, .ref b26, .ref b27, .ref b28, .ref b29, .int b30, .ref b31, .ref b32, .int b33, .int b34, .int b35, .int b36, .ref b37, .ref b38, .ref b39, .ref b40, .ref b41, .ref b42, .ref b43, .int b44, .ref b45, .ref b46, .int b47, .ref b48, .ref b49, .ref b50, .ref b51, .ref b52, .int b53, .ref b54, .ref b55, .ref b56])), (b4, .inl (G.2 0, 503, .inl b57))] H := hP
    have hD := z_tie hP hD rfl
    refine W.widen (k := 0) (n := 0) (Nat.le_of_ble_eq_true rfl) (Nat.le_of_ble_eq_true rfl) ?_
    refine lv_icmp_ge (tgt := 76) hx hb d_Model_layStates_16 (by decide) (fun hc_769 => ?_) (fun hc_769 => ?_)
    · have _nhc_769 := hc_769
      have ni_770 := (fa_le _ _).mp hc_769
      refine lv_aload_n hx hb d_Model_layStates_76 rfl (lv_at hl 2 rfl) ?_
      refine va_get (D := G.1) (ci := 12) (v := .ref b24) (C := R_Model) (T := F_Model) (N := 54) hx hb hts i_Model hown hK hP 9 rfl rfl 21 (by decide) (hts _ q1130) (fun _ h9 => h9) rfl d_Model_layStates_77 ?_
      refine lv_iload_n hx hb d_Model_layStates_80 rfl (lv_at hl 3 rfl) ?_
      refine lv_iconst (v := 0) hx hb d_Model_layStates_81 (by decide) ?_
      refine va_iast hx hb hK hP hD hS 5 0 rfl rfl (i := 0) (z_in rfl) d_Model_layStates_82 (fun H locs hP hD hS => ?_)
      obtain ⟨f_771, hf_771, gf_771, uf_771, hP, hD⟩ := z_newfu 5 hP hD rfl hb63 (zI.wk (l' := 0) (h' := 241) zc_0 (by decide))
      have hP : va_P G.1 classes [(b18, .inl (G.2 0, 2, .inl b58)), (b20, .inl (G.2 0, 520, .inl b59)), (b21, .inl (G.2 0, 9640, .inl y_763)), (b22, .inl (G.2 0, 482, .inl y_764)), (b23, .inl (G.2 0, 482, .inl b62)), (b24, .inl (G.2 0, 2, .inl f_771)), (b25, .inl (G.2 0, 482, .inl b64)), (b26, .inl (G.2 0, 482, .inl b65)), (b27, .inl (G.2 0, 482, .inl b66)), (b0, .inr (12, [.int b3, .ref b4, .ref b5, .ref b6, .ref b7, .int b8, .ref b9, .int b10, .int b11, .int b12, .int b13, .ref b14, .ref b15, .ref b16, .int b17, .ref b18, .ref b19, .ref b20, .ref b21, .ref b22, .ref b23, .ref b24, .ref b25, .ref b26, .ref b27, .ref b28, .ref b29, .int b30, .ref b31, .ref b32, .int b33, .int b34, .int b35, .int b36, .ref b37, .ref b38, .ref b39, .ref b40, .ref b41, .ref b42, .ref b43, .int b44, .ref b45, .ref b46, .int b47, .ref b48, .ref b49, .ref b50, .ref b51, .ref b52, .int b53, .ref b54, .ref b55, .ref b56])), (b4, .inl (G.2 0, 503, .inl b57))] H := hP
      have hD := z_tie hP hD rfl
      refine lv_aload_n hx hb d_Model_layStates_83 rfl (lv_at hl 2 rfl) ?_
      refine z_callV (index := 134) (As := []) (rest := []) (wr := [(b18, .inl (G.2 0, 2, .inl b58)), (b20, .inl (G.2 0, 520, .inl b59)), (b21, .inl (G.2 0, 9640, .inl y_763)), (b22, .inl (G.2 0, 482, .inl y_764)), (b23, .inl (G.2 0, 482, .inl b62)), (b24, .inl (G.2 0, 2, .inl f_771)), (b25, .inl (G.2 0, 482, .inl b64)), (b26, .inl (G.2 0, 482, .inl b65)), (b27, .inl (G.2 0, 482, .inl b66))]) Z (s1_Model_many l G (b0) (b3) (b4) (b5) (b6) (b7) (b8) (b9) (b10) (b11) (b12) (b13) (b14) (b15) (b16) (b17) (b18) (b19) (b20) (b21) (b22) (b23) (b24) (b25) (b26) (b27) (b28) (b29) (b30) (b31) (b32) (b33) (b34) (b35) (b36) (b37) (b38) (b39) (b40) (b41) (b42) (b43) (b44) (b45) (b46) (b47) (b48) (b49) (b50) (b51) (b52) (b53) (b54) (b55) (b56) (b57) hb8 hb10 hb11 hb13 hb17 hb30 hb33 hb44 hb47 hb53 hb57) hl.1 q1320 q1322 qs51 q14 q1323 ⟨by decide, by decide, by show _ = some 0; decide +kernel⟩ ⟨Nat.le_of_ble_eq_true rfl, Nat.le_of_ble_eq_true rfl⟩ ⟨Nat.le_of_ble_eq_true rfl, Nat.le_of_ble_eq_true rfl⟩ rfl (Nat.le_of_ble_eq_true rfl) d_Model_layStates_84 hP hD hS hA 9 12 rfl rfl rfl [9, 10] [0, 1, 2, 3, 4, 5, 6, 7, 8] rfl rfl rfl rfl (by decide) (fun v w1 H locs hw_772 hP hD hS => ?_)
      obtain ⟨x_773, rfl, rfl, hx_773, hfx_774⟩ := hw_772
      have hP : va_P G.1 classes [(b18, .inl (G.2 0, 2, .inl b58)), (b20, .inl (G.2 0, 520, .inl b59)), (b21, .inl (G.2 0, 9640, .inl y_763)), (b22, .inl (G.2 0, 482, .inl y_764)), (b23, .inl (G.2 0, 482, .inl b62)), (b24, .inl (G.2 0, 2, .inl f_771)), (b25, .inl (G.2 0, 482, .inl b64)), (b26, .inl (G.2 0, 482, .inl b65)), (b27, .inl (G.2 0, 482, .inl b66)), (b0, .inr (12, [.int b3, .ref b4, .ref b5, .ref b6, .ref b7, .int b8, .ref b9, .int b10, .int b11, .int b12, .int b13, .ref b14, .ref b15, .ref b16, .int b17, .ref b18, .ref b19, .ref b20, .ref b21, .ref b22, .ref b23, .ref b24, .ref b25, .ref b26, .ref b27, .ref b28, .ref b29, .int b30, .ref b31, .ref b32, .int b33, .int b34, .int b35, .int b36, .ref b37, .ref b38, .ref b39, .ref b40, .ref b41, .ref b42, .ref b43, .int b44, .ref b45, .ref b46, .int b47, .ref b48, .ref b49, .ref b50, .ref b51, .ref b52, .int b53, .ref b54, .ref b55, .ref b56])), (b4, .inl (G.2 0, 503, .inl b57))] H := hP
      have hD := z_tie hP hD rfl
      refine W.widen (k := 0) (n := 0) (Nat.le_of_ble_eq_true rfl) (Nat.le_of_ble_eq_true rfl) ?_
      refine lv_iload_n hx hb d_Model_layStates_87 rfl (lv_at hl 5 rfl) ?_
      refine lv_iconst (v := (-1)) hx hb d_Model_layStates_88 (by decide) ?_
      refine lv_icmp_ne (tgt := 96) hx hb d_Model_layStates_89 (by decide) (fun hc_775 => ?_) (fun hc_775 => ?_)
      · have _nhc_775 := hc_775
        have ni_776 : ¬ (b2 : Int32).toInt = ((-1) : Int32).toInt := fun z => hc_775 ((fa_eq _ _).mpr z)
        simp only [li_m1] at ni_776
        have hv_777 : zI b2 0 19 := zI.ne_lo hb2 zc_m1 hc_775 (by decide)
        refine lv_iconst (v := 1) hx hb d_Model_layStates_96 (by decide) ?_
        refine lv_icmp_le (tgt := 104) hx hb d_Model_layStates_97 (by decide) (fun hc_778 => ?_) (fun hc_778 => ?_)
        · have _nhc_778 := hc_778
          have ni_779 := (fa_le _ _).mp hc_778
          rw [li_1] at ni_779
          have hv_780 : zI x_773 0 1 := zI.le_l hx_773 zc_1 hc_778 (by decide)
          refine lv_iconst (v := 0) hx hb d_Model_layStates_104 (by decide) ?_
          refine lv_istore (lv' := [(5, .int 0), (4, .int 0), (0, .ref b0), (1, .int 0), (2, .int b1), (3, .int b2)]) hx hb d_Model_layStates_105 hl (by decide) rfl (fun ls hl => ?_)
          refine lv_iconst (v := 0) hx hb d_Model_layStates_107 (by decide) ?_
          refine lv_istore (lv' := [(6, .int 0), (5, .int 0), (4, .int 0), (0, .ref b0), (1, .int 0), (2, .int b1), (3, .int b2)]) hx hb d_Model_layStates_108 hl (by decide) rfl (fun ls hl => ?_)
          refine lv_iload hx hb d_Model_layStates_110 (lv_at hl 0 rfl) ?_
          refine lv_aload_n hx hb d_Model_layStates_112 rfl (lv_at hl 3 rfl) ?_
          refine va_get (D := G.1) (ci := 12) (v := .ref b18) (C := R_Model) (T := F_Model) (N := 54) hx hb hts i_Model hown hK hP 9 rfl rfl 15 (by decide) (hts _ q1124) (fun _ h9 => h9) rfl d_Model_layStates_113 ?_
          refine lv_iload_n hx hb d_Model_layStates_116 rfl (lv_at hl 4 rfl) ?_
          refine va_iald hx hb hK hP 0 0 rfl rfl (i := 0) (z_in rfl) d_Model_layStates_117 ?_
          refine lv_topi (fun v_793 ev_793 => ?_)
          have hv_793 : zI v_793 0 241 := (hb58 _).eq ev_793
          refine lv_icmp_ge (tgt := 258) hx hb d_Model_layStates_118 (by decide) (fun hc_794 => ?_) (fun hc_794 => ?_)
          · have _nhc_794 := hc_794
            have ni_795 := (fa_le _ _).mp hc_794
            rw [li_0] at ni_795
            have hv_796 : zI v_793 0 0 := zI.le_l hv_793 zc_0 hc_794 (by decide)
            exact z_vret hx hb hr hlocks (hP.sub [9, 10, 0, 1, 2, 3, 4, 5, 6, 7, 8] rfl) (hD.sub [9, 10, 0, 1, 2, 3, 4, 5, 6, 7, 8] (by decide) rfl) hS (Nat.le_of_ble_eq_true rfl) (Nat.le_of_ble_eq_true rfl) d_Model_layStates_258 ⟨y_763, y_764, b62, f_771, b64, b65, b66, rfl, rfl, hy_764, hb62, hf_771, hb64⟩
          · have _nhc_794 := hc_794
            have ni_797 := (fa_lt _ _).mp (zi_nle hc_794)
            rw [li_0] at ni_797
            have hv_798 : zI v_793 1 241 := zI.lt_r zc_0 hv_793 (zi_nle hc_794) (by decide)
            refine lv_iload hx hb d_Model_layStates_121 (lv_at hl 1 rfl) ?_
            refine lv_if_eq (tgt := 258) hx hb d_Model_layStates_123 (by decide) (fun _ => ?_) (fun hc => absurd hc (by decide +kernel))
            exact z_vret hx hb hr hlocks (hP.sub [9, 10, 0, 1, 2, 3, 4, 5, 6, 7, 8] rfl) (hD.sub [9, 10, 0, 1, 2, 3, 4, 5, 6, 7, 8] (by decide) rfl) hS (Nat.le_of_ble_eq_true rfl) (Nat.le_of_ble_eq_true rfl) d_Model_layStates_258 ⟨y_763, y_764, b62, f_771, b64, b65, b66, rfl, rfl, hy_764, hb62, hf_771, hb64⟩
        · have _nhc_778 := hc_778
          have ni_799 := (fa_lt _ _).mp (zi_nle hc_778)
          rw [li_1] at ni_799
          have hv_800 : zI x_773 2 20 := zI.lt_r zc_1 hx_773 (zi_nle hc_778) (by decide)
          refine lv_iconst (v := 1) hx hb d_Model_layStates_100 (by decide) ?_
          refine lv_goto (tgt := 105) hx hb d_Model_layStates_101 (by decide) ?_
          refine lv_istore (lv' := [(5, .int 1), (4, .int 0), (0, .ref b0), (1, .int 0), (2, .int b1), (3, .int b2)]) hx hb d_Model_layStates_105 hl (by decide) rfl (fun ls hl => ?_)
          refine lv_iconst (v := 0) hx hb d_Model_layStates_107 (by decide) ?_
          refine lv_istore (lv' := [(6, .int 0), (5, .int 1), (4, .int 0), (0, .ref b0), (1, .int 0), (2, .int b1), (3, .int b2)]) hx hb d_Model_layStates_108 hl (by decide) rfl (fun ls hl => ?_)
          suffices key : ∀ (k_957 : Nat) (y_958 : Int32) (y_959 : Nat → Int32) (y_960 : Nat → Int32) (y_961 : Nat → Int32) (y_962 : Nat → Int32) (y_963 : Nat → Int32) (H : Heap) (locs : List Loc) (ls : Array Slot), (zI y_958 0 241) → (zR y_959 0 240) → (zR y_960 0 241) → (zR y_961 0 240) → ((y_960 (0 : Int32).toNatClampNeg).toInt ≤ (y_958 : Int32).toInt) → (241 : Int) - y_958.toInt < (k_957 : Int) → va_P G.1 classes [(b18, .inl (G.2 0, 2, .inl b58)), (b20, .inl (G.2 0, 520, .inl b59)), (b21, .inl (G.2 0, 9640, .inl y_763)), (b22, .inl (G.2 0, 482, .inl y_764)), (b23, .inl (G.2 0, 482, .inl y_959)), (b24, .inl (G.2 0, 2, .inl y_960)), (b25, .inl (G.2 0, 482, .inl y_961)), (b26, .inl (G.2 0, 482, .inl y_962)), (b27, .inl (G.2 0, 482, .inl y_963)), (b0, .inr (12, [.int b3, .ref b4, .ref b5, .ref b6, .ref b7, .int b8, .ref b9, .int b10, .int b11, .int b12, .int b13, .ref b14, .ref b15, .ref b16, .int b17, .ref b18, .ref b19, .ref b20, .ref b21, .ref b22, .ref b23, .ref b24, .ref b25, .ref b26, .ref b27, .ref b28, .ref b29, .int b30, .ref b31, .ref b32, .int b33, .int b34, .int b35, .int b36, .ref b37, .ref b38, .ref b39, .ref b40, .ref b41, .ref b42, .ref b43, .int b44, .ref b45, .ref b46, .int b47, .ref b48, .ref b49, .ref b50, .ref b51, .ref b52, .int b53, .ref b54, .ref b55, .ref b56])), (b4, .inl (G.2 0, 503, .inl b57))] H → va_D A [(b18, .inl (G.2 0, 2, .inl b58)), (b20, .inl (G.2 0, 520, .inl b59)), (b21, .inl (G.2 0, 9640, .inl y_763)), (b22, .inl (G.2 0, 482, .inl y_764)), (b23, .inl (G.2 0, 482, .inl y_959)), (b24, .inl (G.2 0, 2, .inl y_960)), (b25, .inl (G.2 0, 482, .inl y_961)), (b26, .inl (G.2 0, 482, .inl y_962)), (b27, .inl (G.2 0, 482, .inl y_963)), (b0, .inr (12, [.int b3, .ref b4, .ref b5, .ref b6, .ref b7, .int b8, .ref b9, .int b10, .int b11, .int b12, .int b13, .ref b14, .ref b15, .ref b16, .int b17, .ref b18, .ref b19, .ref b20, .ref b21, .ref b22, .ref b23, .ref b24, .ref b25, .ref b26, .ref b27, .ref b28, .ref b29, .int b30, .ref b31, .ref b32, .int b33, .int b34, .int b35, .int b36, .ref b37, .ref b38, .ref b39, .ref b40, .ref b41, .ref b42, .ref b43, .int b44, .ref b45, .ref b46, .int b47, .ref b48, .ref b49, .ref b50, .ref b51, .ref b52, .int b53, .ref b54, .ref b55, .ref b56])), (b4, .inl (G.2 0, 503, .inl b57))] → va_S A s.heap H locs → lv_has ls 8 [(6, .int y_958), (5, .int 1), (4, .int 0), (0, .ref b0), (1, .int 0), (2, .int b1), (3, .int b2)] → W p l e m_s1_Model_layStates s m ([.ref b0, .int 0, .int b1, .int b2] : List Value).toArray below meth c H locs 0 0 (MQ below (zQ G (fun v w => ∃ (e0 : Nat → Int32), ∃ (e1 : Nat → Int32), ∃ (e2 : Nat → Int32), ∃ (e3 : Nat → Int32), ∃ (e4 : Nat → Int32), ∃ (e5 : Nat → Int32), ∃ (e6 : Nat → Int32), v = none ∧ w = [(b0, .inr (12, [.int b3, .ref b4, .ref b5, .ref b6, .ref b7, .int b8, .ref b9, .int b10, .int b11, .int b12, .int b13, .ref b14, .ref b15, .ref b16, .int b17, .ref b18, .ref b19, .ref b20, .ref b21, .ref b22, .ref b23, .ref b24, .ref b25, .ref b26, .ref b27, .ref b28, .ref b29, .int b30, .ref b31, .ref b32, .int b33, .int b34, .int b35, .int b36, .ref b37, .ref b38, .ref b39, .ref b40, .ref b41, .ref b42, .ref b43, .int b44, .ref b45, .ref b46, .int b47, .ref b48, .ref b49, .ref b50, .ref b51, .ref b52, .int b53, .ref b54, .ref b55, .ref b56])), (b4, .inl (G.2 0, 503, .inl b57)), (b18, .inl (G.2 0, 2, .inl b58)), (b20, .inl (G.2 0, 520, .inl b59)), (b21, .inl (G.2 0, 9640, .inl e0)), (b22, .inl (G.2 0, 482, .inl e1)), (b23, .inl (G.2 0, 482, .inl e2)), (b24, .inl (G.2 0, 2, .inl e3)), (b25, .inl (G.2 0, 482, .inl e4)), (b26, .inl (G.2 0, 482, .inl e5)), (b27, .inl (G.2 0, 482, .inl e6))] ∧ (zqa qC e1) ∧ (zR e2 0 240) ∧ (zR e3 0 241) ∧ (zR e4 0 240)) A) ([.ref b0, .int 0, .int b1, .int b2] : List Value).toArray s m_s1_Model_layStates.cells m_s1_Model_layStates.slots A) (F0 m 110 ls []) by
            exact key 242 (0) (b62) (f_771) (b64) (b65) (b66) _ _ _ (zI.wk (l' := 0) (h' := 241) zc_0 (by decide)) hb62 hf_771 hb64 (by rw [gf_771]; have _l0 := li_0; omega) (zm_upi (zI.wk (l' := 0) (h' := 241) zc_0 (by decide)) (by decide)) hP hD hS (lv_sub hl [0, 1, 2, 3, 4, 5, 6] rfl)
          intro k_957
          induction k_957 with
          | zero =>
            intro y_958 y_959 y_960 y_961 y_962 y_963 H locs ls hy_958 hy_959 hy_960 hy_961 hli_964 hmk_957 hP hD hS hl
            exact (zm_up0 hy_958 hmk_957).elim
          | succ k_957 ihk_957 =>
            intro y_958 y_959 y_960 y_961 y_962 y_963 H locs ls hy_958 hy_959 hy_960 hy_961 hli_964 hmk_957 hP hD hS hl
            refine lv_iload hx hb d_Model_layStates_110 (lv_at hl 0 rfl) ?_
            refine lv_aload_n hx hb d_Model_layStates_112 rfl (lv_at hl 3 rfl) ?_
            refine va_get (D := G.1) (ci := 12) (v := .ref b18) (C := R_Model) (T := F_Model) (N := 54) hx hb hts i_Model hown hK hP 9 rfl rfl 15 (by decide) (hts _ q1124) (fun _ h9 => h9) rfl d_Model_layStates_113 ?_
            refine lv_iload_n hx hb d_Model_layStates_116 rfl (lv_at hl 4 rfl) ?_
            refine va_iald hx hb hK hP 0 0 rfl rfl (i := 0) (z_in rfl) d_Model_layStates_117 ?_
            refine lv_topi (fun v_965 ev_965 => ?_)
            have hv_965 : zI v_965 0 241 := (hb58 _).eq ev_965
            refine lv_icmp_ge (tgt := 258) hx hb d_Model_layStates_118 (by decide) (fun hc_966 => ?_) (fun hc_966 => ?_)
            · have _nhc_966 := hc_966
              have ni_967 := (fa_le _ _).mp hc_966
              exact z_vret hx hb hr hlocks (hP.sub [9, 10, 0, 1, 2, 3, 4, 5, 6, 7, 8] rfl) (hD.sub [9, 10, 0, 1, 2, 3, 4, 5, 6, 7, 8] (by decide) rfl) hS (Nat.le_of_ble_eq_true rfl) (Nat.le_of_ble_eq_true rfl) d_Model_layStates_258 ⟨y_763, y_764, y_959, y_960, y_961, y_962, y_963, rfl, rfl, hy_764, hy_959, hy_960, hy_961⟩
            · have _nhc_966 := hc_966
              have ni_968 := (fa_lt _ _).mp (zi_nle hc_966)
              have hv_969 : zI y_958 0 240 := zI.lt_l hy_958 hv_965 (zi_nle hc_966) (by decide)
              have hv_970 : zI v_965 1 241 := zI.lt_r hy_958 hv_965 (zi_nle hc_966) (by decide)
              refine lv_iload hx hb d_Model_layStates_121 (lv_at hl 1 rfl) ?_
              refine lv_if_eq (tgt := 258) hx hb d_Model_layStates_123 (by decide) (fun hc => absurd hc (by decide +kernel)) (fun _ => ?_)
              refine lv_iconst (v := 0) hx hb d_Model_layStates_126 (by decide) ?_
              refine lv_istore (lv' := [(7, .int 0), (6, .int y_958), (5, .int 1), (4, .int 0), (0, .ref b0), (1, .int 0), (2, .int b1), (3, .int b2)]) hx hb d_Model_layStates_127 hl (by decide) rfl (fun ls hl => ?_)
              suffices key : ∀ (k_1043 : Nat) (y_1044 : Int32) (H : Heap) (locs : List Loc) (ls : Array Slot), (zI y_1044 0 240) → ((y_1044 : Int32).toInt ≤ (y_960 (0 : Int32).toNatClampNeg).toInt) → (240 : Int) - y_1044.toInt < (k_1043 : Int) → va_P G.1 classes [(b18, .inl (G.2 0, 2, .inl b58)), (b20, .inl (G.2 0, 520, .inl b59)), (b21, .inl (G.2 0, 9640, .inl y_763)), (b22, .inl (G.2 0, 482, .inl y_764)), (b23, .inl (G.2 0, 482, .inl y_959)), (b24, .inl (G.2 0, 2, .inl y_960)), (b25, .inl (G.2 0, 482, .inl y_961)), (b26, .inl (G.2 0, 482, .inl y_962)), (b27, .inl (G.2 0, 482, .inl y_963)), (b0, .inr (12, [.int b3, .ref b4, .ref b5, .ref b6, .ref b7, .int b8, .ref b9, .int b10, .int b11, .int b12, .int b13, .ref b14, .ref b15, .ref b16, .int b17, .ref b18, .ref b19, .ref b20, .ref b21, .ref b22, .ref b23, .ref b24, .ref b25, .ref b26, .ref b27, .ref b28, .ref b29, .int b30, .ref b31, .ref b32, .int b33, .int b34, .int b35, .int b36, .ref b37, .ref b38, .ref b39, .ref b40, .ref b41, .ref b42, .ref b43, .int b44, .ref b45, .ref b46, .int b47, .ref b48, .ref b49, .ref b50, .ref b51, .ref b52, .int b53, .ref b54, .ref b55, .ref b56])), (b4, .inl (G.2 0, 503, .inl b57))] H → va_D A [(b18, .inl (G.2 0, 2, .inl b58)), (b20, .inl (G.2 0, 520, .inl b59)), (b21, .inl (G.2 0, 9640, .inl y_763)), (b22, .inl (G.2 0, 482, .inl y_764)), (b23, .inl (G.2 0, 482, .inl y_959)), (b24, .inl (G.2 0, 2, .inl y_960)), (b25, .inl (G.2 0, 482, .inl y_961)), (b26, .inl (G.2 0, 482, .inl y_962)), (b27, .inl (G.2 0, 482, .inl y_963)), (b0, .inr (12, [.int b3, .ref b4, .ref b5, .ref b6, .ref b7, .int b8, .ref b9, .int b10, .int b11, .int b12, .int b13, .ref b14, .ref b15, .ref b16, .int b17, .ref b18, .ref b19, .ref b20, .ref b21, .ref b22, .ref b23, .ref b24, .ref b25, .ref b26, .ref b27, .ref b28, .ref b29, .int b30, .ref b31, .ref b32, .int b33, .int b34, .int b35, .int b36, .ref b37, .ref b38, .ref b39, .ref b40, .ref b41, .ref b42, .ref b43, .int b44, .ref b45, .ref b46, .int b47, .ref b48, .ref b49, .ref b50, .ref b51, .ref b52, .int b53, .ref b54, .ref b55, .ref b56])), (b4, .inl (G.2 0, 503, .inl b57))] → va_S A s.heap H locs → lv_has ls 8 [(7, .int y_1044), (6, .int y_958), (5, .int 1), (4, .int 0), (0, .ref b0), (1, .int 0), (2, .int b1), (3, .int b2)] → W p l e m_s1_Model_layStates s m ([.ref b0, .int 0, .int b1, .int b2] : List Value).toArray below meth c H locs 0 0 (MQ below (zQ G (fun v w => ∃ (e0 : Nat → Int32), ∃ (e1 : Nat → Int32), ∃ (e2 : Nat → Int32), ∃ (e3 : Nat → Int32), ∃ (e4 : Nat → Int32), ∃ (e5 : Nat → Int32), ∃ (e6 : Nat → Int32), v = none ∧ w = [(b0, .inr (12, [.int b3, .ref b4, .ref b5, .ref b6, .ref b7, .int b8, .ref b9, .int b10, .int b11, .int b12, .int b13, .ref b14, .ref b15, .ref b16, .int b17, .ref b18, .ref b19, .ref b20, .ref b21, .ref b22, .ref b23, .ref b24, .ref b25, .ref b26, .ref b27, .ref b28, .ref b29, .int b30, .ref b31, .ref b32, .int b33, .int b34, .int b35, .int b36, .ref b37, .ref b38, .ref b39, .ref b40, .ref b41, .ref b42, .ref b43, .int b44, .ref b45, .ref b46, .int b47, .ref b48, .ref b49, .ref b50, .ref b51, .ref b52, .int b53, .ref b54, .ref b55, .ref b56])), (b4, .inl (G.2 0, 503, .inl b57)), (b18, .inl (G.2 0, 2, .inl b58)), (b20, .inl (G.2 0, 520, .inl b59)), (b21, .inl (G.2 0, 9640, .inl e0)), (b22, .inl (G.2 0, 482, .inl e1)), (b23, .inl (G.2 0, 482, .inl e2)), (b24, .inl (G.2 0, 2, .inl e3)), (b25, .inl (G.2 0, 482, .inl e4)), (b26, .inl (G.2 0, 482, .inl e5)), (b27, .inl (G.2 0, 482, .inl e6))] ∧ (zqa qC e1) ∧ (zR e2 0 240) ∧ (zR e3 0 241) ∧ (zR e4 0 240)) A) ([.ref b0, .int 0, .int b1, .int b2] : List Value).toArray s m_s1_Model_layStates.cells m_s1_Model_layStates.slots A) (F0 m 129 ls []) by
                exact key 241 (0) _ _ _ (zI.wk (l' := 0) (h' := 240) zc_0 (by decide)) (by have _l0 := li_0; have h9 := hy_960 (0 : Int32).toNatClampNeg; omega) (zm_upi (zI.wk (l' := 0) (h' := 240) zc_0 (by decide)) (by decide)) hP hD hS (lv_sub hl [0, 1, 2, 3, 4, 5, 6, 7] rfl)
              intro k_1043
              induction k_1043 with
              | zero =>
                intro y_1044 H locs ls hy_1044 hli_1045 hmk_1043 hP hD hS hl
                exact (zm_up0 hy_1044 hmk_1043).elim
              | succ k_1043 ihk_1043 =>
                intro y_1044 H locs ls hy_1044 hli_1045 hmk_1043 hP hD hS hl
                refine lv_iload hx hb d_Model_layStates_129 (lv_at hl 0 rfl) ?_
                refine lv_aload_n hx hb d_Model_layStates_131 rfl (lv_at hl 4 rfl) ?_
                refine va_get (D := G.1) (ci := 12) (v := .ref b24) (C := R_Model) (T := F_Model) (N := 54) hx hb hts i_Model hown hK hP 9 rfl rfl 21 (by decide) (hts _ q1130) (fun _ h9 => h9) rfl d_Model_layStates_132 ?_
                refine lv_iload_n hx hb d_Model_layStates_135 rfl (lv_at hl 5 rfl) ?_
                refine va_iald hx hb hK hP 5 0 rfl rfl (i := 0) (z_in rfl) d_Model_layStates_136 ?_
                refine lv_topi (fun v_1046 ev_1046 => ?_)
                have hv_1046 : zI v_1046 0 241 := (hy_960 _).eq ev_1046
                have hv_1047 : zI v_1046 0 240 := ⟨hv_1046.1, by rw [ev_1046]; omega⟩
                have hsmv_1046 : v_1046.toInt ≤ y_958.toInt := by rw [ev_1046]; omega
                refine lv_icmp_ge (tgt := 171) hx hb d_Model_layStates_137 (by decide) (fun hc_1048 => ?_) (fun hc_1048 => ?_)
                · have _nhc_1048 := hc_1048
                  have ni_1049 := (fa_le _ _).mp hc_1048
                  refine lv_iload hx hb d_Model_layStates_171 (lv_at hl 0 rfl) ?_
                  refine lv_aload_n hx hb d_Model_layStates_173 rfl (lv_at hl 4 rfl) ?_
                  refine va_get (D := G.1) (ci := 12) (v := .ref b24) (C := R_Model) (T := F_Model) (N := 54) hx hb hts i_Model hown hK hP 9 rfl rfl 21 (by decide) (hts _ q1130) (fun _ h9 => h9) rfl d_Model_layStates_174 ?_
                  refine lv_iload_n hx hb d_Model_layStates_177 rfl (lv_at hl 5 rfl) ?_
                  refine va_iald hx hb hK hP 5 0 rfl rfl (i := 0) (z_in rfl) d_Model_layStates_178 ?_
                  refine lv_topi (fun v_1050 ev_1050 => ?_)
                  obtain rfl : v_1046 = v_1050 := ev_1046.trans ev_1050.symm
                  refine lv_icmp_ne (tgt := 226) hx hb d_Model_layStates_179 (by decide) (fun hc_1051 => ?_) (fun hc_1051 => ?_)
                  · have _nhc_1051 := hc_1051
                    have ni_1052 : ¬ (y_1044 : Int32).toInt = (v_1046 : Int32).toInt := fun z => hc_1051 ((fa_eq _ _).mpr z)
                    refine lv_aload_n hx hb d_Model_layStates_226 rfl (lv_at hl 4 rfl) ?_
                    refine va_get (D := G.1) (ci := 12) (v := .ref b26) (C := R_Model) (T := F_Model) (N := 54) hx hb hts i_Model hown hK hP 9 rfl rfl 23 (by decide) (hts _ q1132) (fun _ h9 => h9) rfl d_Model_layStates_227 ?_
                    refine lv_iload hx hb d_Model_layStates_230 (lv_at hl 3 rfl) ?_
                    refine lv_iload hx hb d_Model_layStates_232 (lv_at hl 0 rfl) ?_
                    refine lv_iadd hx hb d_Model_layStates_234 ?_
                    refine lv_topi (fun v_1053 ev_1053 => ?_)
                    obtain ⟨qv_1053, hv_1053⟩ := zI_add (l := 0) (h := 240) zc_0 hy_1044 ev_1053 (by decide)
                    rw [li_0] at qv_1053
                    refine lv_dup2_11 hx hb d_Model_layStates_235 rfl rfl ?_
                    refine va_iald hx hb hK hP 7 0 rfl rfl (zI.inn hv_1053 (by decide)) d_Model_layStates_236 ?_
                    refine lv_topi (fun v_1054 ev_1054 => ?_)
                    refine lv_iconst (v := 1) hx hb d_Model_layStates_237 (by decide) ?_
                    refine lv_iadd hx hb d_Model_layStates_238 ?_
                    refine lv_topi (fun v_1055 ev_1055 => ?_)
                    refine va_iast hx hb hK hP hD hS 7 0 rfl rfl (zI.inn hv_1053 (by decide)) d_Model_layStates_239 (fun H locs hP hD hS => ?_)
                    obtain ⟨f_1056, gf_1056, uf_1056, hP, hD⟩ := z_newFu 7 hP hD rfl
                    have hP : va_P G.1 classes [(b18, .inl (G.2 0, 2, .inl b58)), (b20, .inl (G.2 0, 520, .inl b59)), (b21, .inl (G.2 0, 9640, .inl y_763)), (b22, .inl (G.2 0, 482, .inl y_764)), (b23, .inl (G.2 0, 482, .inl y_959)), (b24, .inl (G.2 0, 2, .inl y_960)), (b25, .inl (G.2 0, 482, .inl y_961)), (b26, .inl (G.2 0, 482, .inl f_1056)), (b27, .inl (G.2 0, 482, .inl y_963)), (b0, .inr (12, [.int b3, .ref b4, .ref b5, .ref b6, .ref b7, .int b8, .ref b9, .int b10, .int b11, .int b12, .int b13, .ref b14, .ref b15, .ref b16, .int b17, .ref b18, .ref b19, .ref b20, .ref b21, .ref b22, .ref b23, .ref b24, .ref b25, .ref b26, .ref b27, .ref b28, .ref b29, .int b30, .ref b31, .ref b32, .int b33, .int b34, .int b35, .int b36, .ref b37, .ref b38, .ref b39, .ref b40, .ref b41, .ref b42, .ref b43, .int b44, .ref b45, .ref b46, .int b47, .ref b48, .ref b49, .ref b50, .ref b51, .ref b52, .int b53, .ref b54, .ref b55, .ref b56])), (b4, .inl (G.2 0, 503, .inl b57))] H := hP
                    have hD := z_tie hP hD rfl
                    refine lv_aload_n hx hb d_Model_layStates_240 rfl (lv_at hl 4 rfl) ?_
                    refine va_get (D := G.1) (ci := 12) (v := .ref b23) (C := R_Model) (T := F_Model) (N := 54) hx hb hts i_Model hown hK hP 9 rfl rfl 20 (by decide) (hts _ q1129) (fun _ h9 => h9) rfl d_Model_layStates_241 ?_
                    refine lv_iload hx hb d_Model_layStates_244 (lv_at hl 3 rfl) ?_
                    refine lv_iload hx hb d_Model_layStates_246 (lv_at hl 1 rfl) ?_
                    refine lv_iadd hx hb d_Model_layStates_248 ?_
                    refine lv_topi (fun v_1057 ev_1057 => ?_)
                    obtain ⟨qv_1057, hv_1057⟩ := zI_add (l := 0) (h := 240) zc_0 hv_969 ev_1057 (by decide)
                    rw [li_0] at qv_1057
                    refine lv_iload hx hb d_Model_layStates_249 (lv_at hl 0 rfl) ?_
                    refine va_iast hx hb hK hP hD hS 4 0 rfl rfl (zI.inn hv_1057 (by decide)) d_Model_layStates_251 (fun H locs hP hD hS => ?_)
                    obtain ⟨f_1058, hf_1058, gf_1058, uf_1058, hP, hD⟩ := z_newfu 4 hP hD rfl hy_959 hy_1044
                    have hP : va_P G.1 classes [(b18, .inl (G.2 0, 2, .inl b58)), (b20, .inl (G.2 0, 520, .inl b59)), (b21, .inl (G.2 0, 9640, .inl y_763)), (b22, .inl (G.2 0, 482, .inl y_764)), (b23, .inl (G.2 0, 482, .inl f_1058)), (b24, .inl (G.2 0, 2, .inl y_960)), (b25, .inl (G.2 0, 482, .inl y_961)), (b26, .inl (G.2 0, 482, .inl f_1056)), (b27, .inl (G.2 0, 482, .inl y_963)), (b0, .inr (12, [.int b3, .ref b4, .ref b5, .ref b6, .ref b7, .int b8, .ref b9, .int b10, .int b11, .int b12, .int b13, .ref b14, .ref b15, .ref b16, .int b17, .ref b18, .ref b19, .ref b20, .ref b21, .ref b22, .ref b23, .ref b24, .ref b25, .ref b26, .ref b27, .ref b28, .ref b29, .int b30, .ref b31, .ref b32, .int b33, .int b34, .int b35, .int b36, .ref b37, .ref b38, .ref b39, .ref b40, .ref b41, .ref b42, .ref b43, .int b44, .ref b45, .ref b46, .int b47, .ref b48, .ref b49, .ref b50, .ref b51, .ref b52, .int b53, .ref b54, .ref b55, .ref b56])), (b4, .inl (G.2 0, 503, .inl b57))] H := hP
                    have hD := z_tie hP hD rfl
                    obtain ⟨v_1059, ev_1059⟩ : ∃ z : Int32, z = y_958 + 1 := ⟨_, rfl⟩
                    obtain ⟨qv_1059, hv_1059⟩ := zI_add (l := 1) (h := 241) hv_969 zc_1 ev_1059 (by decide)
                    rw [li_1] at qv_1059
                    refine lv_iinc (v := v_1059) (lv' := [(6, .int v_1059), (7, .int y_1044), (5, .int 1), (4, .int 0), (0, .ref b0), (1, .int 0), (2, .int b1), (3, .int b2)]) hx hb d_Model_layStates_252 hl (k := 1) rfl (by rw [ev_1059]; rfl) (by decide) rfl (fun ls hl => ?_)
                    refine lv_goto (tgt := 110) hx hb d_Model_layStates_255 (by decide) ?_
                    exact ihk_957 (v_1059) (f_1058) (y_960) (y_961) (f_1056) (y_963) _ _ _ (zI.wk (l' := 0) (h' := 241) hv_1059 (by decide)) hf_1058 hy_960 hy_961 (by omega) (zm_up qv_1059 hmk_957 (by decide)) hP hD hS (lv_sub hl [0, 2, 3, 4, 5, 6, 7] rfl)
                  · have _nhc_1051 := hc_1051
                    have ni_1060 := (fa_eq _ _).mp hc_1051
                    refine lv_aload_n hx hb d_Model_layStates_182 rfl (lv_at hl 4 rfl) ?_
                    refine va_get (D := G.1) (ci := 12) (v := .ref b25) (C := R_Model) (T := F_Model) (N := 54) hx hb hts i_Model hown hK hP 9 rfl rfl 22 (by decide) (hts _ q1131) (fun _ h9 => h9) rfl d_Model_layStates_183 ?_
                    refine lv_iload hx hb d_Model_layStates_186 (lv_at hl 3 rfl) ?_
                    refine lv_iload hx hb d_Model_layStates_188 (lv_at hl 0 rfl) ?_
                    refine lv_iadd hx hb d_Model_layStates_190 ?_
                    refine lv_topi (fun v_1061 ev_1061 => ?_)
                    obtain ⟨qv_1061, hv_1061⟩ := zI_add (l := 0) (h := 240) zc_0 hy_1044 ev_1061 (by decide)
                    rw [li_0] at qv_1061
                    refine lv_iload hx hb d_Model_layStates_191 (lv_at hl 1 rfl) ?_
                    refine va_iast hx hb hK hP hD hS 6 0 rfl rfl (zI.inn hv_1061 (by decide)) d_Model_layStates_193 (fun H locs hP hD hS => ?_)
                    obtain ⟨f_1062, hf_1062, gf_1062, uf_1062, hP, hD⟩ := z_newfu 6 hP hD rfl hy_961 hv_969
                    have hP : va_P G.1 classes [(b18, .inl (G.2 0, 2, .inl b58)), (b20, .inl (G.2 0, 520, .inl b59)), (b21, .inl (G.2 0, 9640, .inl y_763)), (b22, .inl (G.2 0, 482, .inl y_764)), (b23, .inl (G.2 0, 482, .inl y_959)), (b24, .inl (G.2 0, 2, .inl y_960)), (b25, .inl (G.2 0, 482, .inl f_1062)), (b26, .inl (G.2 0, 482, .inl y_962)), (b27, .inl (G.2 0, 482, .inl y_963)), (b0, .inr (12, [.int b3, .ref b4, .ref b5, .ref b6, .ref b7, .int b8, .ref b9, .int b10, .int b11, .int b12, .int b13, .ref b14, .ref b15, .ref b16, .int b17, .ref b18, .ref b19, .ref b20, .ref b21, .ref b22, .ref b23, .ref b24, .ref b25, .ref b26, .ref b27, .ref b28, .ref b29, .int b30, .ref b31, .ref b32, .int b33, .int b34, .int b35, .int b36, .ref b37, .ref b38, .ref b39, .ref b40, .ref b41, .ref b42, .ref b43, .int b44, .ref b45, .ref b46, .int b47, .ref b48, .ref b49, .ref b50, .ref b51, .ref b52, .int b53, .ref b54, .ref b55, .ref b56])), (b4, .inl (G.2 0, 503, .inl b57))] H := hP
                    have hD := z_tie hP hD rfl
                    refine lv_aload_n hx hb d_Model_layStates_194 rfl (lv_at hl 4 rfl) ?_
                    refine va_get (D := G.1) (ci := 12) (v := .ref b26) (C := R_Model) (T := F_Model) (N := 54) hx hb hts i_Model hown hK hP 9 rfl rfl 23 (by decide) (hts _ q1132) (fun _ h9 => h9) rfl d_Model_layStates_195 ?_
                    refine lv_iload hx hb d_Model_layStates_198 (lv_at hl 3 rfl) ?_
                    refine lv_iload hx hb d_Model_layStates_200 (lv_at hl 0 rfl) ?_
                    refine lv_iadd hx hb d_Model_layStates_202 ?_
                    refine lv_topi (fun v_1063 ev_1063 => ?_)
                    obtain rfl : v_1061 = v_1063 := ev_1061.trans ev_1063.symm
                    refine lv_iconst (v := 0) hx hb d_Model_layStates_203 (by decide) ?_
                    refine va_iast hx hb hK hP hD hS 7 0 rfl rfl (zI.inn hv_1061 (by decide)) d_Model_layStates_204 (fun H locs hP hD hS => ?_)
                    obtain ⟨f_1064, gf_1064, uf_1064, hP, hD⟩ := z_newFu 7 hP hD rfl
                    have hP : va_P G.1 classes [(b18, .inl (G.2 0, 2, .inl b58)), (b20, .inl (G.2 0, 520, .inl b59)), (b21, .inl (G.2 0, 9640, .inl y_763)), (b22, .inl (G.2 0, 482, .inl y_764)), (b23, .inl (G.2 0, 482, .inl y_959)), (b24, .inl (G.2 0, 2, .inl y_960)), (b25, .inl (G.2 0, 482, .inl f_1062)), (b26, .inl (G.2 0, 482, .inl f_1064)), (b27, .inl (G.2 0, 482, .inl y_963)), (b0, .inr (12, [.int b3, .ref b4, .ref b5, .ref b6, .ref b7, .int b8, .ref b9, .int b10, .int b11, .int b12, .int b13, .ref b14, .ref b15, .ref b16, .int b17, .ref b18, .ref b19, .ref b20, .ref b21, .ref b22, .ref b23, .ref b24, .ref b25, .ref b26, .ref b27, .ref b28, .ref b29, .int b30, .ref b31, .ref b32, .int b33, .int b34, .int b35, .int b36, .ref b37, .ref b38, .ref b39, .ref b40, .ref b41, .ref b42, .ref b43, .int b44, .ref b45, .ref b46, .int b47, .ref b48, .ref b49, .ref b50, .ref b51, .ref b52, .int b53, .ref b54, .ref b55, .ref b56])), (b4, .inl (G.2 0, 503, .inl b57))] H := hP
                    have hD := z_tie hP hD rfl
                    refine lv_aload_n hx hb d_Model_layStates_205 rfl (lv_at hl 4 rfl) ?_
                    refine va_get (D := G.1) (ci := 12) (v := .ref b27) (C := R_Model) (T := F_Model) (N := 54) hx hb hts i_Model hown hK hP 9 rfl rfl 24 (by decide) (hts _ q1133) (fun _ h9 => h9) rfl d_Model_layStates_206 ?_
                    refine lv_iload hx hb d_Model_layStates_209 (lv_at hl 3 rfl) ?_
                    refine lv_iload hx hb d_Model_layStates_211 (lv_at hl 0 rfl) ?_
                    refine lv_iadd hx hb d_Model_layStates_213 ?_
                    refine lv_topi (fun v_1065 ev_1065 => ?_)
                    obtain rfl : v_1061 = v_1065 := ev_1061.trans ev_1065.symm
                    refine lv_iconst (v := 0) hx hb d_Model_layStates_214 (by decide) ?_
                    refine va_iast hx hb hK hP hD hS 8 0 rfl rfl (zI.inn hv_1061 (by decide)) d_Model_layStates_215 (fun H locs hP hD hS => ?_)
                    obtain ⟨f_1066, gf_1066, uf_1066, hP, hD⟩ := z_newFu 8 hP hD rfl
                    have hP : va_P G.1 classes [(b18, .inl (G.2 0, 2, .inl b58)), (b20, .inl (G.2 0, 520, .inl b59)), (b21, .inl (G.2 0, 9640, .inl y_763)), (b22, .inl (G.2 0, 482, .inl y_764)), (b23, .inl (G.2 0, 482, .inl y_959)), (b24, .inl (G.2 0, 2, .inl y_960)), (b25, .inl (G.2 0, 482, .inl f_1062)), (b26, .inl (G.2 0, 482, .inl f_1064)), (b27, .inl (G.2 0, 482, .inl f_1066)), (b0, .inr (12, [.int b3, .ref b4, .ref b5, .ref b6, .ref b7, .int b8, .ref b9, .int b10, .int b11, .int b12, .int b13, .ref b14, .ref b15, .ref b16, .int b17, .ref b18, .ref b19, .ref b20, .ref b21, .ref b22, .ref b23, .ref b24, .ref b25, .ref b26, .ref b27, .ref b28, .ref b29, .int b30, .ref b31, .ref b32, .int b33, .int b34, .int b35, .int b36, .ref b37, .ref b38, .ref b39, .ref b40, .ref b41, .ref b42, .ref b43, .int b44, .ref b45, .ref b46, .int b47, .ref b48, .ref b49, .ref b50, .ref b51, .ref b52, .int b53, .ref b54, .ref b55, .ref b56])), (b4, .inl (G.2 0, 503, .inl b57))] H := hP
                    have hD := z_tie hP hD rfl
                    refine lv_aload_n hx hb d_Model_layStates_216 rfl (lv_at hl 4 rfl) ?_
                    refine va_get (D := G.1) (ci := 12) (v := .ref b24) (C := R_Model) (T := F_Model) (N := 54) hx hb hts i_Model hown hK hP 9 rfl rfl 21 (by decide) (hts _ q1130) (fun _ h9 => h9) rfl d_Model_layStates_217 ?_
                    refine lv_iload_n hx hb d_Model_layStates_220 rfl (lv_at hl 5 rfl) ?_
                    refine lv_dup2_11 hx hb d_Model_layStates_221 rfl rfl ?_
                    refine va_iald hx hb hK hP 5 0 rfl rfl (i := 0) (z_in rfl) d_Model_layStates_222 ?_
                    refine lv_topi (fun v_1067 ev_1067 => ?_)
                    obtain rfl : v_1046 = v_1067 := ev_1046.trans ev_1067.symm
                    refine lv_iconst (v := 1) hx hb d_Model_layStates_223 (by decide) ?_
                    refine lv_iadd hx hb d_Model_layStates_224 ?_
                    refine lv_topi (fun v_1068 ev_1068 => ?_)
                    obtain ⟨qv_1068, hv_1068⟩ := zI_add (l := 1) (h := 241) hv_1047 zc_1 ev_1068 (by decide)
                    rw [li_1] at qv_1068
                    refine va_iast hx hb hK hP hD hS 5 0 rfl rfl (i := 0) (z_in rfl) d_Model_layStates_225 (fun H locs hP hD hS => ?_)
                    obtain ⟨f_1069, hf_1069, gf_1069, uf_1069, hP, hD⟩ := z_newfu 5 hP hD rfl hy_960 (zI.wk (l' := 0) (h' := 241) hv_1068 (by decide))
                    have hP : va_P G.1 classes [(b18, .inl (G.2 0, 2, .inl b58)), (b20, .inl (G.2 0, 520, .inl b59)), (b21, .inl (G.2 0, 9640, .inl y_763)), (b22, .inl (G.2 0, 482, .inl y_764)), (b23, .inl (G.2 0, 482, .inl y_959)), (b24, .inl (G.2 0, 2, .inl f_1069)), (b25, .inl (G.2 0, 482, .inl f_1062)), (b26, .inl (G.2 0, 482, .inl f_1064)), (b27, .inl (G.2 0, 482, .inl f_1066)), (b0, .inr (12, [.int b3, .ref b4, .ref b5, .ref b6, .ref b7, .int b8, .ref b9, .int b10, .int b11, .int b12, .int b13, .ref b14, .ref b15, .ref b16, .int b17, .ref b18, .ref b19, .ref b20, .ref b21, .ref b22, .ref b23, .ref b24, .ref b25, .ref b26, .ref b27, .ref b28, .ref b29, .int b30, .ref b31, .ref b32, .int b33, .int b34, .int b35, .int b36, .ref b37, .ref b38, .ref b39, .ref b40, .ref b41, .ref b42, .ref b43, .int b44, .ref b45, .ref b46, .int b47, .ref b48, .ref b49, .ref b50, .ref b51, .ref b52, .int b53, .ref b54, .ref b55, .ref b56])), (b4, .inl (G.2 0, 503, .inl b57))] H := hP
                    have hD := z_tie hP hD rfl
                    refine lv_aload_n hx hb d_Model_layStates_226 rfl (lv_at hl 4 rfl) ?_
                    refine va_get (D := G.1) (ci := 12) (v := .ref b26) (C := R_Model) (T := F_Model) (N := 54) hx hb hts i_Model hown hK hP 9 rfl rfl 23 (by decide) (hts _ q1132) (fun _ h9 => h9) rfl d_Model_layStates_227 ?_
                    refine lv_iload hx hb d_Model_layStates_230 (lv_at hl 3 rfl) ?_
                    refine lv_iload hx hb d_Model_layStates_232 (lv_at hl 0 rfl) ?_
                    refine lv_iadd hx hb d_Model_layStates_234 ?_
                    refine lv_topi (fun v_1070 ev_1070 => ?_)
                    obtain rfl : v_1061 = v_1070 := ev_1061.trans ev_1070.symm
                    refine lv_dup2_11 hx hb d_Model_layStates_235 rfl rfl ?_
                    refine va_iald hx hb hK hP 7 0 rfl rfl (zI.inn hv_1061 (by decide)) d_Model_layStates_236 ?_
                    refine lv_topi (fun v_1071 ev_1071 => ?_)
                    obtain rfl : v_1071 = 0 := ev_1071.trans gf_1064
                    refine lv_iconst (v := 1) hx hb d_Model_layStates_237 (by decide) ?_
                    refine lv_iadd hx hb d_Model_layStates_238 ?_
                    refine z_topi (y := 1) (by decide +kernel) ?_
                    refine va_iast hx hb hK hP hD hS 7 0 rfl rfl (zI.inn hv_1061 (by decide)) d_Model_layStates_239 (fun H locs hP hD hS => ?_)
                    obtain ⟨f_1072, gf_1072, uf_1072, hP, hD⟩ := z_newFu 7 hP hD rfl
                    have hP : va_P G.1 classes [(b18, .inl (G.2 0, 2, .inl b58)), (b20, .inl (G.2 0, 520, .inl b59)), (b21, .inl (G.2 0, 9640, .inl y_763)), (b22, .inl (G.2 0, 482, .inl y_764)), (b23, .inl (G.2 0, 482, .inl y_959)), (b24, .inl (G.2 0, 2, .inl f_1069)), (b25, .inl (G.2 0, 482, .inl f_1062)), (b26, .inl (G.2 0, 482, .inl f_1072)), (b27, .inl (G.2 0, 482, .inl f_1066)), (b0, .inr (12, [.int b3, .ref b4, .ref b5, .ref b6, .ref b7, .int b8, .ref b9, .int b10, .int b11, .int b12, .int b13, .ref b14, .ref b15, .ref b16, .int b17, .ref b18, .ref b19, .ref b20, .ref b21, .ref b22, .ref b23, .ref b24, .ref b25, .ref b26, .ref b27, .ref b28, .ref b29, .int b30, .ref b31, .ref b32, .int b33, .int b34, .int b35, .int b36, .ref b37, .ref b38, .ref b39, .ref b40, .ref b41, .ref b42, .ref b43, .int b44, .ref b45, .ref b46, .int b47, .ref b48, .ref b49, .ref b50, .ref b51, .ref b52, .int b53, .ref b54, .ref b55, .ref b56])), (b4, .inl (G.2 0, 503, .inl b57))] H := hP
                    have hD := z_tie hP hD rfl
                    refine lv_aload_n hx hb d_Model_layStates_240 rfl (lv_at hl 4 rfl) ?_
                    refine va_get (D := G.1) (ci := 12) (v := .ref b23) (C := R_Model) (T := F_Model) (N := 54) hx hb hts i_Model hown hK hP 9 rfl rfl 20 (by decide) (hts _ q1129) (fun _ h9 => h9) rfl d_Model_layStates_241 ?_
                    refine lv_iload hx hb d_Model_layStates_244 (lv_at hl 3 rfl) ?_
                    refine lv_iload hx hb d_Model_layStates_246 (lv_at hl 1 rfl) ?_
                    refine lv_iadd hx hb d_Model_layStates_248 ?_
                    refine lv_topi (fun v_1073 ev_1073 => ?_)
                    obtain ⟨qv_1073, hv_1073⟩ := zI_add (l := 0) (h := 240) zc_0 hv_969 ev_1073 (by decide)
                    rw [li_0] at qv_1073
                    refine lv_iload hx hb d_Model_layStates_249 (lv_at hl 0 rfl) ?_
                    refine va_iast hx hb hK hP hD hS 4 0 rfl rfl (zI.inn hv_1073 (by decide)) d_Model_layStates_251 (fun H locs hP hD hS => ?_)
                    obtain ⟨f_1074, hf_1074, gf_1074, uf_1074, hP, hD⟩ := z_newfu 4 hP hD rfl hy_959 hy_1044
                    have hP : va_P G.1 classes [(b18, .inl (G.2 0, 2, .inl b58)), (b20, .inl (G.2 0, 520, .inl b59)), (b21, .inl (G.2 0, 9640, .inl y_763)), (b22, .inl (G.2 0, 482, .inl y_764)), (b23, .inl (G.2 0, 482, .inl f_1074)), (b24, .inl (G.2 0, 2, .inl f_1069)), (b25, .inl (G.2 0, 482, .inl f_1062)), (b26, .inl (G.2 0, 482, .inl f_1072)), (b27, .inl (G.2 0, 482, .inl f_1066)), (b0, .inr (12, [.int b3, .ref b4, .ref b5, .ref b6, .ref b7, .int b8, .ref b9, .int b10, .int b11, .int b12, .int b13, .ref b14, .ref b15, .ref b16, .int b17, .ref b18, .ref b19, .ref b20, .ref b21, .ref b22, .ref b23, .ref b24, .ref b25, .ref b26, .ref b27, .ref b28, .ref b29, .int b30, .ref b31, .ref b32, .int b33, .int b34, .int b35, .int b36, .ref b37, .ref b38, .ref b39, .ref b40, .ref b41, .ref b42, .ref b43, .int b44, .ref b45, .ref b46, .int b47, .ref b48, .ref b49, .ref b50, .ref b51, .ref b52, .int b53, .ref b54, .ref b55, .ref b56])), (b4, .inl (G.2 0, 503, .inl b57))] H := hP
                    have hD := z_tie hP hD rfl
                    obtain ⟨v_1075, ev_1075⟩ : ∃ z : Int32, z = y_958 + 1 := ⟨_, rfl⟩
                    obtain ⟨qv_1075, hv_1075⟩ := zI_add (l := 1) (h := 241) hv_969 zc_1 ev_1075 (by decide)
                    rw [li_1] at qv_1075
                    refine lv_iinc (v := v_1075) (lv' := [(6, .int v_1075), (7, .int y_1044), (5, .int 1), (4, .int 0), (0, .ref b0), (1, .int 0), (2, .int b1), (3, .int b2)]) hx hb d_Model_layStates_252 hl (k := 1) rfl (by rw [ev_1075]; rfl) (by decide) rfl (fun ls hl => ?_)
                    refine lv_goto (tgt := 110) hx hb d_Model_layStates_255 (by decide) ?_
                    exact ihk_957 (v_1075) (f_1074) (f_1069) (f_1062) (f_1072) (f_1066) _ _ _ (zI.wk (l' := 0) (h' := 241) hv_1075 (by decide)) hf_1074 hf_1069 hf_1062 (by rw [gf_1069]; omega) (zm_up qv_1075 hmk_957 (by decide)) hP hD hS (lv_sub hl [0, 2, 3, 4, 5, 6, 7] rfl)
                · have _nhc_1048 := hc_1048
                  have ni_1076 := (fa_lt _ _).mp (zi_nle hc_1048)
                  have hv_1077 : zI y_1044 0 239 := zI.lt_l hy_1044 hv_1047 (zi_nle hc_1048) (by decide)
                  have hv_1078 : zI v_1046 1 240 := zI.lt_r hy_1044 hv_1047 (zi_nle hc_1048) (by decide)
                  refine lv_aload_n hx hb d_Model_layStates_140 rfl (lv_at hl 4 rfl) ?_
                  refine lv_iload hx hb d_Model_layStates_141 (lv_at hl 3 rfl) ?_
                  refine lv_aload_n hx hb d_Model_layStates_143 rfl (lv_at hl 4 rfl) ?_
                  refine va_get (D := G.1) (ci := 12) (v := .ref b25) (C := R_Model) (T := F_Model) (N := 54) hx hb hts i_Model hown hK hP 9 rfl rfl 22 (by decide) (hts _ q1131) (fun _ h9 => h9) rfl d_Model_layStates_144 ?_
                  refine lv_iload hx hb d_Model_layStates_147 (lv_at hl 3 rfl) ?_
                  refine lv_iload hx hb d_Model_layStates_149 (lv_at hl 0 rfl) ?_
                  refine lv_iadd hx hb d_Model_layStates_151 ?_
                  refine lv_topi (fun v_1079 ev_1079 => ?_)
                  obtain ⟨qv_1079, hv_1079⟩ := zI_add (l := 0) (h := 239) zc_0 hv_1077 ev_1079 (by decide)
                  rw [li_0] at qv_1079
                  refine va_iald hx hb hK hP 6 0 rfl rfl (zI.inn hv_1079 (by decide)) d_Model_layStates_152 ?_
                  refine lv_topi (fun v_1080 ev_1080 => ?_)
                  have hv_1080 : zI v_1080 0 240 := (hy_961 _).eq ev_1080
                  refine lv_iadd hx hb d_Model_layStates_153 ?_
                  refine lv_topi (fun v_1081 ev_1081 => ?_)
                  obtain ⟨qv_1081, hv_1081⟩ := zI_add (l := 0) (h := 240) zc_0 hv_1080 ev_1081 (by decide)
                  rw [li_0] at qv_1081
                  refine lv_iload hx hb d_Model_layStates_154 (lv_at hl 3 rfl) ?_
                  refine lv_iload hx hb d_Model_layStates_156 (lv_at hl 1 rfl) ?_
                  refine lv_iadd hx hb d_Model_layStates_158 ?_
                  refine lv_topi (fun v_1082 ev_1082 => ?_)
                  obtain ⟨qv_1082, hv_1082⟩ := zI_add (l := 0) (h := 240) zc_0 hv_969 ev_1082 (by decide)
                  rw [li_0] at qv_1082
                  refine z_callV (index := 221) (As := [.int v_1081, .int v_1082]) (rest := []) (wr := [(b18, .inl (G.2 0, 2, .inl b58)), (b20, .inl (G.2 0, 520, .inl b59)), (b23, .inl (G.2 0, 482, .inl y_959)), (b24, .inl (G.2 0, 2, .inl y_960)), (b25, .inl (G.2 0, 482, .inl y_961)), (b26, .inl (G.2 0, 482, .inl y_962)), (b27, .inl (G.2 0, 482, .inl y_963)), (b4, .inl (G.2 0, 503, .inl b57))]) Z (s1_Model_areAlike l G (b0) (v_1081) (v_1082) (b3) (b4) (b5) (b6) (b7) (b8) (b9) (b10) (b11) (b12) (b13) (b14) (b15) (b16) (b17) (b18) (b19) (b20) (b21) (b22) (b23) (b24) (b25) (b26) (b27) (b28) (b29) (b30) (b31) (b32) (b33) (b34) (b35) (b36) (b37) (b38) (b39) (b40) (b41) (b42) (b43) (b44) (b45) (b46) (b47) (b48) (b49) (b50) (b51) (b52) (b53) (b54) (b55) (b56) (y_763) (y_764) (zI.wk (l' := 0) (h' := 481) hv_1081 (by decide)) (zI.wk (l' := 0) (h' := 481) hv_1082 (by decide)) hb8 hb10 hb11 hb13 hb17 hb30 hb33 hb44 hb47 hb53 hy_764) hl.1 q1392 q1394 qs64 q14 q1395 ⟨by decide, by decide, by show _ = some 2; decide +kernel⟩ ⟨Nat.le_of_ble_eq_true rfl, Nat.le_of_ble_eq_true rfl⟩ ⟨Nat.le_of_ble_eq_true rfl, Nat.le_of_ble_eq_true rfl⟩ rfl (Nat.le_of_ble_eq_true rfl) d_Model_layStates_159 hP hD hS hA 9 12 rfl rfl rfl [9, 2, 3] [0, 1, 4, 5, 6, 7, 8, 10] rfl rfl rfl rfl (by decide) (fun v w1 H locs hw_1083 hP hD hS => ?_)
                  obtain ⟨x_1084, rfl, rfl, hx_1084⟩ := hw_1083
                  have hP : va_P G.1 classes [(b18, .inl (G.2 0, 2, .inl b58)), (b20, .inl (G.2 0, 520, .inl b59)), (b23, .inl (G.2 0, 482, .inl y_959)), (b24, .inl (G.2 0, 2, .inl y_960)), (b25, .inl (G.2 0, 482, .inl y_961)), (b26, .inl (G.2 0, 482, .inl y_962)), (b27, .inl (G.2 0, 482, .inl y_963)), (b4, .inl (G.2 0, 503, .inl b57)), (b0, .inr (12, [.int b3, .ref b4, .ref b5, .ref b6, .ref b7, .int b8, .ref b9, .int b10, .int b11, .int b12, .int b13, .ref b14, .ref b15, .ref b16, .int b17, .ref b18, .ref b19, .ref b20, .ref b21, .ref b22, .ref b23, .ref b24, .ref b25, .ref b26, .ref b27, .ref b28, .ref b29, .int b30, .ref b31, .ref b32, .int b33, .int b34, .int b35, .int b36, .ref b37, .ref b38, .ref b39, .ref b40, .ref b41, .ref b42, .ref b43, .int b44, .ref b45, .ref b46, .int b47, .ref b48, .ref b49, .ref b50, .ref b51, .ref b52, .int b53, .ref b54, .ref b55, .ref b56])), (b21, .inl (G.2 0, 9640, .inl y_763)), (b22, .inl (G.2 0, 482, .inl y_764))] H := hP
                  have hD := z_tie hP hD rfl
                  refine W.widen (k := 0) (n := 0) (Nat.le_of_ble_eq_true rfl) (Nat.le_of_ble_eq_true rfl) ?_
                  refine lv_if_ne (tgt := 171) hx hb d_Model_layStates_162 (by decide) (fun hc_1085 => ?_) (fun hc_1085 => ?_)
                  · have _nhc_1085 := hc_1085
                    have ni_1086 : ¬ (x_1084 : Int32).toInt = (0 : Int32).toInt := fun z => hc_1085 ((fa_eq _ _).mpr z)
                    simp only [li_0] at ni_1086
                    have hv_1087 : zI x_1084 1 1 := zI.ne_lo hx_1084 zc_0 hc_1085 (by decide)
                    refine lv_iload hx hb d_Model_layStates_171 (lv_at hl 0 rfl) ?_
                    refine lv_aload_n hx hb d_Model_layStates_173 rfl (lv_at hl 4 rfl) ?_
                    refine va_get (D := G.1) (ci := 12) (v := .ref b24) (C := R_Model) (T := F_Model) (N := 54) hx hb hts i_Model hown hK hP 8 rfl rfl 21 (by decide) (hts _ q1130) (fun _ h9 => h9) rfl d_Model_layStates_174 ?_
                    refine lv_iload_n hx hb d_Model_layStates_177 rfl (lv_at hl 5 rfl) ?_
                    refine va_iald hx hb hK hP 3 0 rfl rfl (i := 0) (z_in rfl) d_Model_layStates_178 ?_
                    refine lv_topi (fun v_1088 ev_1088 => ?_)
                    obtain rfl : v_1046 = v_1088 := ev_1046.trans ev_1088.symm
                    refine lv_icmp_ne (tgt := 226) hx hb d_Model_layStates_179 (by decide) (fun hc_1089 => ?_) (fun hc_1089 => ?_)
                    · have _nhc_1089 := hc_1089
                      have ni_1090 : ¬ (y_1044 : Int32).toInt = (v_1046 : Int32).toInt := fun z => hc_1089 ((fa_eq _ _).mpr z)
                      refine lv_aload_n hx hb d_Model_layStates_226 rfl (lv_at hl 4 rfl) ?_
                      refine va_get (D := G.1) (ci := 12) (v := .ref b26) (C := R_Model) (T := F_Model) (N := 54) hx hb hts i_Model hown hK hP 8 rfl rfl 23 (by decide) (hts _ q1132) (fun _ h9 => h9) rfl d_Model_layStates_227 ?_
                      refine lv_iload hx hb d_Model_layStates_230 (lv_at hl 3 rfl) ?_
                      refine lv_iload hx hb d_Model_layStates_232 (lv_at hl 0 rfl) ?_
                      refine lv_iadd hx hb d_Model_layStates_234 ?_
                      refine lv_topi (fun v_1091 ev_1091 => ?_)
                      obtain rfl : v_1079 = v_1091 := ev_1079.trans ev_1091.symm
                      refine lv_dup2_11 hx hb d_Model_layStates_235 rfl rfl ?_
                      refine va_iald hx hb hK hP 5 0 rfl rfl (zI.inn hv_1079 (by decide)) d_Model_layStates_236 ?_
                      refine lv_topi (fun v_1092 ev_1092 => ?_)
                      refine lv_iconst (v := 1) hx hb d_Model_layStates_237 (by decide) ?_
                      refine lv_iadd hx hb d_Model_layStates_238 ?_
                      refine lv_topi (fun v_1093 ev_1093 => ?_)
                      refine va_iast hx hb hK hP hD hS 5 0 rfl rfl (zI.inn hv_1079 (by decide)) d_Model_layStates_239 (fun H locs hP hD hS => ?_)
                      obtain ⟨f_1094, gf_1094, uf_1094, hP, hD⟩ := z_newFu 5 hP hD rfl
                      have hP : va_P G.1 classes [(b18, .inl (G.2 0, 2, .inl b58)), (b20, .inl (G.2 0, 520, .inl b59)), (b23, .inl (G.2 0, 482, .inl y_959)), (b24, .inl (G.2 0, 2, .inl y_960)), (b25, .inl (G.2 0, 482, .inl y_961)), (b26, .inl (G.2 0, 482, .inl f_1094)), (b27, .inl (G.2 0, 482, .inl y_963)), (b4, .inl (G.2 0, 503, .inl b57)), (b0, .inr (12, [.int b3, .ref b4, .ref b5, .ref b6, .ref b7, .int b8, .ref b9, .int b10, .int b11, .int b12, .int b13, .ref b14, .ref b15, .ref b16, .int b17, .ref b18, .ref b19, .ref b20, .ref b21, .ref b22, .ref b23, .ref b24, .ref b25, .ref b26, .ref b27, .ref b28, .ref b29, .int b30, .ref b31, .ref b32, .int b33, .int b34, .int b35, .int b36, .ref b37, .ref b38, .ref b39, .ref b40, .ref b41, .ref b42, .ref b43, .int b44, .ref b45, .ref b46, .int b47, .ref b48, .ref b49, .ref b50, .ref b51, .ref b52, .int b53, .ref b54, .ref b55, .ref b56])), (b21, .inl (G.2 0, 9640, .inl y_763)), (b22, .inl (G.2 0, 482, .inl y_764))] H := hP
                      have hD := z_tie hP hD rfl
                      refine lv_aload_n hx hb d_Model_layStates_240 rfl (lv_at hl 4 rfl) ?_
                      refine va_get (D := G.1) (ci := 12) (v := .ref b23) (C := R_Model) (T := F_Model) (N := 54) hx hb hts i_Model hown hK hP 8 rfl rfl 20 (by decide) (hts _ q1129) (fun _ h9 => h9) rfl d_Model_layStates_241 ?_
                      refine lv_iload hx hb d_Model_layStates_244 (lv_at hl 3 rfl) ?_
                      refine lv_iload hx hb d_Model_layStates_246 (lv_at hl 1 rfl) ?_
                      refine lv_iadd hx hb d_Model_layStates_248 ?_
                      refine lv_topi (fun v_1095 ev_1095 => ?_)
                      obtain rfl : v_1082 = v_1095 := ev_1082.trans ev_1095.symm
                      refine lv_iload hx hb d_Model_layStates_249 (lv_at hl 0 rfl) ?_
                      refine va_iast hx hb hK hP hD hS 2 0 rfl rfl (zI.inn hv_1082 (by decide)) d_Model_layStates_251 (fun H locs hP hD hS => ?_)
                      obtain ⟨f_1096, hf_1096, gf_1096, uf_1096, hP, hD⟩ := z_newfu 2 hP hD rfl hy_959 (zI.wk (l' := 0) (h' := 240) hv_1077 (by decide))
                      have hP : va_P G.1 classes [(b18, .inl (G.2 0, 2, .inl b58)), (b20, .inl (G.2 0, 520, .inl b59)), (b23, .inl (G.2 0, 482, .inl f_1096)), (b24, .inl (G.2 0, 2, .inl y_960)), (b25, .inl (G.2 0, 482, .inl y_961)), (b26, .inl (G.2 0, 482, .inl f_1094)), (b27, .inl (G.2 0, 482, .inl y_963)), (b4, .inl (G.2 0, 503, .inl b57)), (b0, .inr (12, [.int b3, .ref b4, .ref b5, .ref b6, .ref b7, .int b8, .ref b9, .int b10, .int b11, .int b12, .int b13, .ref b14, .ref b15, .ref b16, .int b17, .ref b18, .ref b19, .ref b20, .ref b21, .ref b22, .ref b23, .ref b24, .ref b25, .ref b26, .ref b27, .ref b28, .ref b29, .int b30, .ref b31, .ref b32, .int b33, .int b34, .int b35, .int b36, .ref b37, .ref b38, .ref b39, .ref b40, .ref b41, .ref b42, .ref b43, .int b44, .ref b45, .ref b46, .int b47, .ref b48, .ref b49, .ref b50, .ref b51, .ref b52, .int b53, .ref b54, .ref b55, .ref b56])), (b21, .inl (G.2 0, 9640, .inl y_763)), (b22, .inl (G.2 0, 482, .inl y_764))] H := hP
                      have hD := z_tie hP hD rfl
                      obtain ⟨v_1097, ev_1097⟩ : ∃ z : Int32, z = y_958 + 1 := ⟨_, rfl⟩
                      obtain ⟨qv_1097, hv_1097⟩ := zI_add (l := 1) (h := 241) hv_969 zc_1 ev_1097 (by decide)
                      rw [li_1] at qv_1097
                      refine lv_iinc (v := v_1097) (lv' := [(6, .int v_1097), (7, .int y_1044), (5, .int 1), (4, .int 0), (0, .ref b0), (1, .int 0), (2, .int b1), (3, .int b2)]) hx hb d_Model_layStates_252 hl (k := 1) rfl (by rw [ev_1097]; rfl) (by decide) rfl (fun ls hl => ?_)
                      refine lv_goto (tgt := 110) hx hb d_Model_layStates_255 (by decide) ?_
                      exact ihk_957 (v_1097) (f_1096) (y_960) (y_961) (f_1094) (y_963) _ _ _ (zI.wk (l' := 0) (h' := 241) hv_1097 (by decide)) hf_1096 hy_960 hy_961 (by omega) (zm_up qv_1097 hmk_957 (by decide)) (hP.sub [0, 1, 9, 10, 2, 3, 4, 5, 6, 8, 7] rfl) (hD.sub [0, 1, 9, 10, 2, 3, 4, 5, 6, 8, 7] (by decide) rfl) hS (lv_sub hl [0, 2, 3, 4, 5, 6, 7] rfl)
                    · have _nhc_1089 := hc_1089
                      have ni_1098 := (fa_eq _ _).mp hc_1089
                      refine lv_aload_n hx hb d_Model_layStates_182 rfl (lv_at hl 4 rfl) ?_
                      refine va_get (D := G.1) (ci := 12) (v := .ref b25) (C := R_Model) (T := F_Model) (N := 54) hx hb hts i_Model hown hK hP 8 rfl rfl 22 (by decide) (hts _ q1131) (fun _ h9 => h9) rfl d_Model_layStates_183 ?_
                      refine lv_iload hx hb d_Model_layStates_186 (lv_at hl 3 rfl) ?_
                      refine lv_iload hx hb d_Model_layStates_188 (lv_at hl 0 rfl) ?_
                      refine lv_iadd hx hb d_Model_layStates_190 ?_
                      refine lv_topi (fun v_1099 ev_1099 => ?_)
                      obtain rfl : v_1079 = v_1099 := ev_1079.trans ev_1099.symm
                      refine lv_iload hx hb d_Model_layStates_191 (lv_at hl 1 rfl) ?_
                      refine va_iast hx hb hK hP hD hS 4 0 rfl rfl (zI.inn hv_1079 (by decide)) d_Model_layStates_193 (fun H locs hP hD hS => ?_)
                      obtain ⟨f_1100, hf_1100, gf_1100, uf_1100, hP, hD⟩ := z_newfu 4 hP hD rfl hy_961 hv_969
                      have hP : va_P G.1 classes [(b18, .inl (G.2 0, 2, .inl b58)), (b20, .inl (G.2 0, 520, .inl b59)), (b23, .inl (G.2 0, 482, .inl y_959)), (b24, .inl (G.2 0, 2, .inl y_960)), (b25, .inl (G.2 0, 482, .inl f_1100)), (b26, .inl (G.2 0, 482, .inl y_962)), (b27, .inl (G.2 0, 482, .inl y_963)), (b4, .inl (G.2 0, 503, .inl b57)), (b0, .inr (12, [.int b3, .ref b4, .ref b5, .ref b6, .ref b7, .int b8, .ref b9, .int b10, .int b11, .int b12, .int b13, .ref b14, .ref b15, .ref b16, .int b17, .ref b18, .ref b19, .ref b20, .ref b21, .ref b22, .ref b23, .ref b24, .ref b25, .ref b26, .ref b27, .ref b28, .ref b29, .int b30, .ref b31, .ref b32, .int b33, .int b34, .int b35, .int b36, .ref b37, .ref b38, .ref b39, .ref b40, .ref b41, .ref b42, .ref b43, .int b44, .ref b45, .ref b46, .int b47, .ref b48, .ref b49, .ref b50, .ref b51, .ref b52, .int b53, .ref b54, .ref b55, .ref b56])), (b21, .inl (G.2 0, 9640, .inl y_763)), (b22, .inl (G.2 0, 482, .inl y_764))] H := hP
                      have hD := z_tie hP hD rfl
                      refine lv_aload_n hx hb d_Model_layStates_194 rfl (lv_at hl 4 rfl) ?_
                      refine va_get (D := G.1) (ci := 12) (v := .ref b26) (C := R_Model) (T := F_Model) (N := 54) hx hb hts i_Model hown hK hP 8 rfl rfl 23 (by decide) (hts _ q1132) (fun _ h9 => h9) rfl d_Model_layStates_195 ?_
                      refine lv_iload hx hb d_Model_layStates_198 (lv_at hl 3 rfl) ?_
                      refine lv_iload hx hb d_Model_layStates_200 (lv_at hl 0 rfl) ?_
                      refine lv_iadd hx hb d_Model_layStates_202 ?_
                      refine lv_topi (fun v_1101 ev_1101 => ?_)
                      obtain rfl : v_1079 = v_1101 := ev_1079.trans ev_1101.symm
                      refine lv_iconst (v := 0) hx hb d_Model_layStates_203 (by decide) ?_
                      refine va_iast hx hb hK hP hD hS 5 0 rfl rfl (zI.inn hv_1079 (by decide)) d_Model_layStates_204 (fun H locs hP hD hS => ?_)
                      obtain ⟨f_1102, gf_1102, uf_1102, hP, hD⟩ := z_newFu 5 hP hD rfl
                      have hP : va_P G.1 classes [(b18, .inl (G.2 0, 2, .inl b58)), (b20, .inl (G.2 0, 520, .inl b59)), (b23, .inl (G.2 0, 482, .inl y_959)), (b24, .inl (G.2 0, 2, .inl y_960)), (b25, .inl (G.2 0, 482, .inl f_1100)), (b26, .inl (G.2 0, 482, .inl f_1102)), (b27, .inl (G.2 0, 482, .inl y_963)), (b4, .inl (G.2 0, 503, .inl b57)), (b0, .inr (12, [.int b3, .ref b4, .ref b5, .ref b6, .ref b7, .int b8, .ref b9, .int b10, .int b11, .int b12, .int b13, .ref b14, .ref b15, .ref b16, .int b17, .ref b18, .ref b19, .ref b20, .ref b21, .ref b22, .ref b23, .ref b24, .ref b25, .ref b26, .ref b27, .ref b28, .ref b29, .int b30, .ref b31, .ref b32, .int b33, .int b34, .int b35, .int b36, .ref b37, .ref b38, .ref b39, .ref b40, .ref b41, .ref b42, .ref b43, .int b44, .ref b45, .ref b46, .int b47, .ref b48, .ref b49, .ref b50, .ref b51, .ref b52, .int b53, .ref b54, .ref b55, .ref b56])), (b21, .inl (G.2 0, 9640, .inl y_763)), (b22, .inl (G.2 0, 482, .inl y_764))] H := hP
                      have hD := z_tie hP hD rfl
                      refine lv_aload_n hx hb d_Model_layStates_205 rfl (lv_at hl 4 rfl) ?_
                      refine va_get (D := G.1) (ci := 12) (v := .ref b27) (C := R_Model) (T := F_Model) (N := 54) hx hb hts i_Model hown hK hP 8 rfl rfl 24 (by decide) (hts _ q1133) (fun _ h9 => h9) rfl d_Model_layStates_206 ?_
                      refine lv_iload hx hb d_Model_layStates_209 (lv_at hl 3 rfl) ?_
                      refine lv_iload hx hb d_Model_layStates_211 (lv_at hl 0 rfl) ?_
                      refine lv_iadd hx hb d_Model_layStates_213 ?_
                      refine lv_topi (fun v_1103 ev_1103 => ?_)
                      obtain rfl : v_1079 = v_1103 := ev_1079.trans ev_1103.symm
                      refine lv_iconst (v := 0) hx hb d_Model_layStates_214 (by decide) ?_
                      refine va_iast hx hb hK hP hD hS 6 0 rfl rfl (zI.inn hv_1079 (by decide)) d_Model_layStates_215 (fun H locs hP hD hS => ?_)
                      obtain ⟨f_1104, gf_1104, uf_1104, hP, hD⟩ := z_newFu 6 hP hD rfl
                      have hP : va_P G.1 classes [(b18, .inl (G.2 0, 2, .inl b58)), (b20, .inl (G.2 0, 520, .inl b59)), (b23, .inl (G.2 0, 482, .inl y_959)), (b24, .inl (G.2 0, 2, .inl y_960)), (b25, .inl (G.2 0, 482, .inl f_1100)), (b26, .inl (G.2 0, 482, .inl f_1102)), (b27, .inl (G.2 0, 482, .inl f_1104)), (b4, .inl (G.2 0, 503, .inl b57)), (b0, .inr (12, [.int b3, .ref b4, .ref b5, .ref b6, .ref b7, .int b8, .ref b9, .int b10, .int b11, .int b12, .int b13, .ref b14, .ref b15, .ref b16, .int b17, .ref b18, .ref b19, .ref b20, .ref b21, .ref b22, .ref b23, .ref b24, .ref b25, .ref b26, .ref b27, .ref b28, .ref b29, .int b30, .ref b31, .ref b32, .int b33, .int b34, .int b35, .int b36, .ref b37, .ref b38, .ref b39, .ref b40, .ref b41, .ref b42, .ref b43, .int b44, .ref b45, .ref b46, .int b47, .ref b48, .ref b49, .ref b50, .ref b51, .ref b52, .int b53, .ref b54, .ref b55, .ref b56])), (b21, .inl (G.2 0, 9640, .inl y_763)), (b22, .inl (G.2 0, 482, .inl y_764))] H := hP
                      have hD := z_tie hP hD rfl
                      refine lv_aload_n hx hb d_Model_layStates_216 rfl (lv_at hl 4 rfl) ?_
                      refine va_get (D := G.1) (ci := 12) (v := .ref b24) (C := R_Model) (T := F_Model) (N := 54) hx hb hts i_Model hown hK hP 8 rfl rfl 21 (by decide) (hts _ q1130) (fun _ h9 => h9) rfl d_Model_layStates_217 ?_
                      refine lv_iload_n hx hb d_Model_layStates_220 rfl (lv_at hl 5 rfl) ?_
                      refine lv_dup2_11 hx hb d_Model_layStates_221 rfl rfl ?_
                      refine va_iald hx hb hK hP 3 0 rfl rfl (i := 0) (z_in rfl) d_Model_layStates_222 ?_
                      refine lv_topi (fun v_1105 ev_1105 => ?_)
                      obtain rfl : v_1046 = v_1105 := ev_1046.trans ev_1105.symm
                      refine lv_iconst (v := 1) hx hb d_Model_layStates_223 (by decide) ?_
                      refine lv_iadd hx hb d_Model_layStates_224 ?_
                      refine lv_topi (fun v_1106 ev_1106 => ?_)
                      obtain ⟨qv_1106, hv_1106⟩ := zI_add (l := 2) (h := 241) hv_1078 zc_1 ev_1106 (by decide)
                      rw [li_1] at qv_1106
                      refine va_iast hx hb hK hP hD hS 3 0 rfl rfl (i := 0) (z_in rfl) d_Model_layStates_225 (fun H locs hP hD hS => ?_)
                      obtain ⟨f_1107, hf_1107, gf_1107, uf_1107, hP, hD⟩ := z_newfu 3 hP hD rfl hy_960 (zI.wk (l' := 0) (h' := 241) hv_1106 (by decide))
                      have hP : va_P G.1 classes [(b18, .inl (G.2 0, 2, .inl b58)), (b20, .inl (G.2 0, 520, .inl b59)), (b23, .inl (G.2 0, 482, .inl y_959)), (b24, .inl (G.2 0, 2, .inl f_1107)), (b25, .inl (G.2 0, 482, .inl f_1100)), (b26, .inl (G.2 0, 482, .inl f_1102)), (b27, .inl (G.2 0, 482, .inl f_1104)), (b4, .inl (G.2 0, 503, .inl b57)), (b0, .inr (12, [.int b3, .ref b4, .ref b5, .ref b6, .ref b7, .int b8, .ref b9, .int b10, .int b11, .int b12, .int b13, .ref b14, .ref b15, .ref b16, .int b17, .ref b18, .ref b19, .ref b20, .ref b21, .ref b22, .ref b23, .ref b24, .ref b25, .ref b26, .ref b27, .ref b28, .ref b29, .int b30, .ref b31, .ref b32, .int b33, .int b34, .int b35, .int b36, .ref b37, .ref b38, .ref b39, .ref b40, .ref b41, .ref b42, .ref b43, .int b44, .ref b45, .ref b46, .int b47, .ref b48, .ref b49, .ref b50, .ref b51, .ref b52, .int b53, .ref b54, .ref b55, .ref b56])), (b21, .inl (G.2 0, 9640, .inl y_763)), (b22, .inl (G.2 0, 482, .inl y_764))] H := hP
                      have hD := z_tie hP hD rfl
                      refine lv_aload_n hx hb d_Model_layStates_226 rfl (lv_at hl 4 rfl) ?_
                      refine va_get (D := G.1) (ci := 12) (v := .ref b26) (C := R_Model) (T := F_Model) (N := 54) hx hb hts i_Model hown hK hP 8 rfl rfl 23 (by decide) (hts _ q1132) (fun _ h9 => h9) rfl d_Model_layStates_227 ?_
                      refine lv_iload hx hb d_Model_layStates_230 (lv_at hl 3 rfl) ?_
                      refine lv_iload hx hb d_Model_layStates_232 (lv_at hl 0 rfl) ?_
                      refine lv_iadd hx hb d_Model_layStates_234 ?_
                      refine lv_topi (fun v_1108 ev_1108 => ?_)
                      obtain rfl : v_1079 = v_1108 := ev_1079.trans ev_1108.symm
                      refine lv_dup2_11 hx hb d_Model_layStates_235 rfl rfl ?_
                      refine va_iald hx hb hK hP 5 0 rfl rfl (zI.inn hv_1079 (by decide)) d_Model_layStates_236 ?_
                      refine lv_topi (fun v_1109 ev_1109 => ?_)
                      obtain rfl : v_1109 = 0 := ev_1109.trans gf_1102
                      refine lv_iconst (v := 1) hx hb d_Model_layStates_237 (by decide) ?_
                      refine lv_iadd hx hb d_Model_layStates_238 ?_
                      refine z_topi (y := 1) (by decide +kernel) ?_
                      refine va_iast hx hb hK hP hD hS 5 0 rfl rfl (zI.inn hv_1079 (by decide)) d_Model_layStates_239 (fun H locs hP hD hS => ?_)
                      obtain ⟨f_1110, gf_1110, uf_1110, hP, hD⟩ := z_newFu 5 hP hD rfl
                      have hP : va_P G.1 classes [(b18, .inl (G.2 0, 2, .inl b58)), (b20, .inl (G.2 0, 520, .inl b59)), (b23, .inl (G.2 0, 482, .inl y_959)), (b24, .inl (G.2 0, 2, .inl f_1107)), (b25, .inl (G.2 0, 482, .inl f_1100)), (b26, .inl (G.2 0, 482, .inl f_1110)), (b27, .inl (G.2 0, 482, .inl f_1104)), (b4, .inl (G.2 0, 503, .inl b57)), (b0, .inr (12, [.int b3, .ref b4, .ref b5, .ref b6, .ref b7, .int b8, .ref b9, .int b10, .int b11, .int b12, .int b13, .ref b14, .ref b15, .ref b16, .int b17, .ref b18, .ref b19, .ref b20, .ref b21, .ref b22, .ref b23, .ref b24, .ref b25, .ref b26, .ref b27, .ref b28, .ref b29, .int b30, .ref b31, .ref b32, .int b33, .int b34, .int b35, .int b36, .ref b37, .ref b38, .ref b39, .ref b40, .ref b41, .ref b42, .ref b43, .int b44, .ref b45, .ref b46, .int b47, .ref b48, .ref b49, .ref b50, .ref b51, .ref b52, .int b53, .ref b54, .ref b55, .ref b56])), (b21, .inl (G.2 0, 9640, .inl y_763)), (b22, .inl (G.2 0, 482, .inl y_764))] H := hP
                      have hD := z_tie hP hD rfl
                      refine lv_aload_n hx hb d_Model_layStates_240 rfl (lv_at hl 4 rfl) ?_
                      refine va_get (D := G.1) (ci := 12) (v := .ref b23) (C := R_Model) (T := F_Model) (N := 54) hx hb hts i_Model hown hK hP 8 rfl rfl 20 (by decide) (hts _ q1129) (fun _ h9 => h9) rfl d_Model_layStates_241 ?_
                      refine lv_iload hx hb d_Model_layStates_244 (lv_at hl 3 rfl) ?_
                      refine lv_iload hx hb d_Model_layStates_246 (lv_at hl 1 rfl) ?_
                      refine lv_iadd hx hb d_Model_layStates_248 ?_
                      refine lv_topi (fun v_1111 ev_1111 => ?_)
                      obtain rfl : v_1082 = v_1111 := ev_1082.trans ev_1111.symm
                      refine lv_iload hx hb d_Model_layStates_249 (lv_at hl 0 rfl) ?_
                      refine va_iast hx hb hK hP hD hS 2 0 rfl rfl (zI.inn hv_1082 (by decide)) d_Model_layStates_251 (fun H locs hP hD hS => ?_)
                      obtain ⟨f_1112, hf_1112, gf_1112, uf_1112, hP, hD⟩ := z_newfu 2 hP hD rfl hy_959 (zI.wk (l' := 0) (h' := 240) hv_1077 (by decide))
                      have hP : va_P G.1 classes [(b18, .inl (G.2 0, 2, .inl b58)), (b20, .inl (G.2 0, 520, .inl b59)), (b23, .inl (G.2 0, 482, .inl f_1112)), (b24, .inl (G.2 0, 2, .inl f_1107)), (b25, .inl (G.2 0, 482, .inl f_1100)), (b26, .inl (G.2 0, 482, .inl f_1110)), (b27, .inl (G.2 0, 482, .inl f_1104)), (b4, .inl (G.2 0, 503, .inl b57)), (b0, .inr (12, [.int b3, .ref b4, .ref b5, .ref b6, .ref b7, .int b8, .ref b9, .int b10, .int b11, .int b12, .int b13, .ref b14, .ref b15, .ref b16, .int b17, .ref b18, .ref b19, .ref b20, .ref b21, .ref b22, .ref b23, .ref b24, .ref b25, .ref b26, .ref b27, .ref b28, .ref b29, .int b30, .ref b31, .ref b32, .int b33, .int b34, .int b35, .int b36, .ref b37, .ref b38, .ref b39, .ref b40, .ref b41, .ref b42, .ref b43, .int b44, .ref b45, .ref b46, .int b47, .ref b48, .ref b49, .ref b50, .ref b51, .ref b52, .int b53, .ref b54, .ref b55, .ref b56])), (b21, .inl (G.2 0, 9640, .inl y_763)), (b22, .inl (G.2 0, 482, .inl y_764))] H := hP
                      have hD := z_tie hP hD rfl
                      obtain ⟨v_1113, ev_1113⟩ : ∃ z : Int32, z = y_958 + 1 := ⟨_, rfl⟩
                      obtain ⟨qv_1113, hv_1113⟩ := zI_add (l := 1) (h := 241) hv_969 zc_1 ev_1113 (by decide)
                      rw [li_1] at qv_1113
                      refine lv_iinc (v := v_1113) (lv' := [(6, .int v_1113), (7, .int y_1044), (5, .int 1), (4, .int 0), (0, .ref b0), (1, .int 0), (2, .int b1), (3, .int b2)]) hx hb d_Model_layStates_252 hl (k := 1) rfl (by rw [ev_1113]; rfl) (by decide) rfl (fun ls hl => ?_)
                      refine lv_goto (tgt := 110) hx hb d_Model_layStates_255 (by decide) ?_
                      exact ihk_957 (v_1113) (f_1112) (f_1107) (f_1100) (f_1110) (f_1104) _ _ _ (zI.wk (l' := 0) (h' := 241) hv_1113 (by decide)) hf_1112 hf_1107 hf_1100 (by rw [gf_1107]; omega) (zm_up qv_1113 hmk_957 (by decide)) (hP.sub [0, 1, 9, 10, 2, 3, 4, 5, 6, 8, 7] rfl) (hD.sub [0, 1, 9, 10, 2, 3, 4, 5, 6, 8, 7] (by decide) rfl) hS (lv_sub hl [0, 2, 3, 4, 5, 6, 7] rfl)
                  · have _nhc_1085 := hc_1085
                    have ni_1114 := (fa_eq _ _).mp hc_1085
                    rw [li_0] at ni_1114
                    have hv_1115 : zI x_1084 0 0 := zI.eq_l hx_1084 zc_0 hc_1085
                    obtain ⟨v_1116, ev_1116⟩ : ∃ z : Int32, z = y_1044 + 1 := ⟨_, rfl⟩
                    obtain ⟨qv_1116, hv_1116⟩ := zI_add (l := 1) (h := 240) hv_1077 zc_1 ev_1116 (by decide)
                    rw [li_1] at qv_1116
                    refine lv_iinc (v := v_1116) (lv' := [(7, .int v_1116), (6, .int y_958), (5, .int 1), (4, .int 0), (0, .ref b0), (1, .int 0), (2, .int b1), (3, .int b2)]) hx hb d_Model_layStates_165 hl (k := 0) rfl (by rw [ev_1116]; rfl) (by decide) rfl (fun ls hl => ?_)
                    refine lv_goto (tgt := 129) hx hb d_Model_layStates_168 (by decide) ?_
                    exact ihk_1043 (v_1116) _ _ _ (zI.wk (l' := 0) (h' := 240) hv_1116 (by decide)) (by rw [← ev_1046]; omega) (zm_up qv_1116 hmk_1043 (by decide)) (hP.sub [0, 1, 9, 10, 2, 3, 4, 5, 6, 8, 7] rfl) (hD.sub [0, 1, 9, 10, 2, 3, 4, 5, 6, 8, 7] (by decide) rfl) hS (lv_sub hl [0, 1, 2, 3, 4, 5, 6, 7] rfl)
      · have _nhc_775 := hc_775
        have ni_1117 := (fa_eq _ _).mp hc_775
        rw [li_m1] at ni_1117
        have hv_1118 : zI b2 (-1) (-1) := zI.eq_l hb2 zc_m1 hc_775
        refine lv_iconst (v := 0) hx hb d_Model_layStates_92 (by decide) ?_
        refine lv_goto (tgt := 97) hx hb d_Model_layStates_93 (by decide) ?_
        refine lv_icmp_le (tgt := 104) hx hb d_Model_layStates_97 (by decide) (fun hc_1119 => ?_) (fun hc_1119 => ?_)
        · have _nhc_1119 := hc_1119
          have ni_1120 := (fa_le _ _).mp hc_1119
          rw [li_0] at ni_1120
          have hv_1121 : zI x_773 0 0 := zI.le_l hx_773 zc_0 hc_1119 (by decide)
          refine lv_iconst (v := 0) hx hb d_Model_layStates_104 (by decide) ?_
          refine lv_istore (lv' := [(5, .int 0), (4, .int 0), (0, .ref b0), (1, .int 0), (2, .int b1), (3, .int b2)]) hx hb d_Model_layStates_105 hl (by decide) rfl (fun ls hl => ?_)
          refine lv_iconst (v := 0) hx hb d_Model_layStates_107 (by decide) ?_
          refine lv_istore (lv' := [(6, .int 0), (5, .int 0), (4, .int 0), (0, .ref b0), (1, .int 0), (2, .int b1), (3, .int b2)]) hx hb d_Model_layStates_108 hl (by decide) rfl (fun ls hl => ?_)
          refine lv_iload hx hb d_Model_layStates_110 (lv_at hl 0 rfl) ?_
          refine lv_aload_n hx hb d_Model_layStates_112 rfl (lv_at hl 3 rfl) ?_
          refine va_get (D := G.1) (ci := 12) (v := .ref b18) (C := R_Model) (T := F_Model) (N := 54) hx hb hts i_Model hown hK hP 9 rfl rfl 15 (by decide) (hts _ q1124) (fun _ h9 => h9) rfl d_Model_layStates_113 ?_
          refine lv_iload_n hx hb d_Model_layStates_116 rfl (lv_at hl 4 rfl) ?_
          refine va_iald hx hb hK hP 0 0 rfl rfl (i := 0) (z_in rfl) d_Model_layStates_117 ?_
          refine lv_topi (fun v_1134 ev_1134 => ?_)
          have hv_1134 : zI v_1134 0 241 := (hb58 _).eq ev_1134
          refine lv_icmp_ge (tgt := 258) hx hb d_Model_layStates_118 (by decide) (fun hc_1135 => ?_) (fun hc_1135 => ?_)
          · have _nhc_1135 := hc_1135
            have ni_1136 := (fa_le _ _).mp hc_1135
            rw [li_0] at ni_1136
            have hv_1137 : zI v_1134 0 0 := zI.le_l hv_1134 zc_0 hc_1135 (by decide)
            exact z_vret hx hb hr hlocks (hP.sub [9, 10, 0, 1, 2, 3, 4, 5, 6, 7, 8] rfl) (hD.sub [9, 10, 0, 1, 2, 3, 4, 5, 6, 7, 8] (by decide) rfl) hS (Nat.le_of_ble_eq_true rfl) (Nat.le_of_ble_eq_true rfl) d_Model_layStates_258 ⟨y_763, y_764, b62, f_771, b64, b65, b66, rfl, rfl, hy_764, hb62, hf_771, hb64⟩
          · have _nhc_1135 := hc_1135
            have ni_1138 := (fa_lt _ _).mp (zi_nle hc_1135)
            rw [li_0] at ni_1138
            have hv_1139 : zI v_1134 1 241 := zI.lt_r zc_0 hv_1134 (zi_nle hc_1135) (by decide)
            refine lv_iload hx hb d_Model_layStates_121 (lv_at hl 1 rfl) ?_
            refine lv_if_eq (tgt := 258) hx hb d_Model_layStates_123 (by decide) (fun _ => ?_) (fun hc => absurd hc (by decide +kernel))
            exact z_vret hx hb hr hlocks (hP.sub [9, 10, 0, 1, 2, 3, 4, 5, 6, 7, 8] rfl) (hD.sub [9, 10, 0, 1, 2, 3, 4, 5, 6, 7, 8] (by decide) rfl) hS (Nat.le_of_ble_eq_true rfl) (Nat.le_of_ble_eq_true rfl) d_Model_layStates_258 ⟨y_763, y_764, b62, f_771, b64, b65, b66, rfl, rfl, hy_764, hb62, hf_771, hb64⟩
        · have _nhc_1119 := hc_1119
          have ni_1140 := (fa_lt _ _).mp (zi_nle hc_1119)
          rw [li_0] at ni_1140
          have hv_1141 : zI x_773 1 20 := zI.lt_r zc_0 hx_773 (zi_nle hc_1119) (by decide)
          refine lv_iconst (v := 1) hx hb d_Model_layStates_100 (by decide) ?_
          refine lv_goto (tgt := 105) hx hb d_Model_layStates_101 (by decide) ?_
          refine lv_istore (lv' := [(5, .int 1), (4, .int 0), (0, .ref b0), (1, .int 0), (2, .int b1), (3, .int b2)]) hx hb d_Model_layStates_105 hl (by decide) rfl (fun ls hl => ?_)
          refine lv_iconst (v := 0) hx hb d_Model_layStates_107 (by decide) ?_
          refine lv_istore (lv' := [(6, .int 0), (5, .int 1), (4, .int 0), (0, .ref b0), (1, .int 0), (2, .int b1), (3, .int b2)]) hx hb d_Model_layStates_108 hl (by decide) rfl (fun ls hl => ?_)
          suffices key : ∀ (k_1298 : Nat) (y_1299 : Int32) (y_1300 : Nat → Int32) (y_1301 : Nat → Int32) (y_1302 : Nat → Int32) (y_1303 : Nat → Int32) (y_1304 : Nat → Int32) (H : Heap) (locs : List Loc) (ls : Array Slot), (zI y_1299 0 241) → (zR y_1300 0 240) → (zR y_1301 0 241) → (zR y_1302 0 240) → ((y_1301 (0 : Int32).toNatClampNeg).toInt ≤ (y_1299 : Int32).toInt) → (241 : Int) - y_1299.toInt < (k_1298 : Int) → va_P G.1 classes [(b18, .inl (G.2 0, 2, .inl b58)), (b20, .inl (G.2 0, 520, .inl b59)), (b21, .inl (G.2 0, 9640, .inl y_763)), (b22, .inl (G.2 0, 482, .inl y_764)), (b23, .inl (G.2 0, 482, .inl y_1300)), (b24, .inl (G.2 0, 2, .inl y_1301)), (b25, .inl (G.2 0, 482, .inl y_1302)), (b26, .inl (G.2 0, 482, .inl y_1303)), (b27, .inl (G.2 0, 482, .inl y_1304)), (b0, .inr (12, [.int b3, .ref b4, .ref b5, .ref b6, .ref b7, .int b8, .ref b9, .int b10, .int b11, .int b12, .int b13, .ref b14, .ref b15, .ref b16, .int b17, .ref b18, .ref b19, .ref b20, .ref b21, .ref b22, .ref b23, .ref b24, .ref b25, .ref b26, .ref b27, .ref b28, .ref b29, .int b30, .ref b31, .ref b32, .int b33, .int b34, .int b35, .int b36, .ref b37, .ref b38, .ref b39, .ref b40, .ref b41, .ref b42, .ref b43, .int b44, .ref b45, .ref b46, .int b47, .ref b48, .ref b49, .ref b50, .ref b51, .ref b52, .int b53, .ref b54, .ref b55, .ref b56])), (b4, .inl (G.2 0, 503, .inl b57))] H → va_D A [(b18, .inl (G.2 0, 2, .inl b58)), (b20, .inl (G.2 0, 520, .inl b59)), (b21, .inl (G.2 0, 9640, .inl y_763)), (b22, .inl (G.2 0, 482, .inl y_764)), (b23, .inl (G.2 0, 482, .inl y_1300)), (b24, .inl (G.2 0, 2, .inl y_1301)), (b25, .inl (G.2 0, 482, .inl y_1302)), (b26, .inl (G.2 0, 482, .inl y_1303)), (b27, .inl (G.2 0, 482, .inl y_1304)), (b0, .inr (12, [.int b3, .ref b4, .ref b5, .ref b6, .ref b7, .int b8, .ref b9, .int b10, .int b11, .int b12, .int b13, .ref b14, .ref b15, .ref b16, .int b17, .ref b18, .ref b19, .ref b20, .ref b21, .ref b22, .ref b23, .ref b24, .ref b25, .ref b26, .ref b27, .ref b28, .ref b29, .int b30, .ref b31, .ref b32, .int b33, .int b34, .int b35, .int b36, .ref b37, .ref b38, .ref b39, .ref b40, .ref b41, .ref b42, .ref b43, .int b44, .ref b45, .ref b46, .int b47, .ref b48, .ref b49, .ref b50, .ref b51, .ref b52, .int b53, .ref b54, .ref b55, .ref b56])), (b4, .inl (G.2 0, 503, .inl b57))] → va_S A s.heap H locs → lv_has ls 8 [(6, .int y_1299), (5, .int 1), (4, .int 0), (0, .ref b0), (1, .int 0), (2, .int b1), (3, .int b2)] → W p l e m_s1_Model_layStates s m ([.ref b0, .int 0, .int b1, .int b2] : List Value).toArray below meth c H locs 0 0 (MQ below (zQ G (fun v w => ∃ (e0 : Nat → Int32), ∃ (e1 : Nat → Int32), ∃ (e2 : Nat → Int32), ∃ (e3 : Nat → Int32), ∃ (e4 : Nat → Int32), ∃ (e5 : Nat → Int32), ∃ (e6 : Nat → Int32), v = none ∧ w = [(b0, .inr (12, [.int b3, .ref b4, .ref b5, .ref b6, .ref b7, .int b8, .ref b9, .int b10, .int b11, .int b12, .int b13, .ref b14, .ref b15, .ref b16, .int b17, .ref b18, .ref b19, .ref b20, .ref b21, .ref b22, .ref b23, .ref b24, .ref b25, .ref b26, .ref b27, .ref b28, .ref b29, .int b30, .ref b31, .ref b32, .int b33, .int b34, .int b35, .int b36, .ref b37, .ref b38, .ref b39, .ref b40, .ref b41, .ref b42, .ref b43, .int b44, .ref b45, .ref b46, .int b47, .ref b48, .ref b49, .ref b50, .ref b51, .ref b52, .int b53, .ref b54, .ref b55, .ref b56])), (b4, .inl (G.2 0, 503, .inl b57)), (b18, .inl (G.2 0, 2, .inl b58)), (b20, .inl (G.2 0, 520, .inl b59)), (b21, .inl (G.2 0, 9640, .inl e0)), (b22, .inl (G.2 0, 482, .inl e1)), (b23, .inl (G.2 0, 482, .inl e2)), (b24, .inl (G.2 0, 2, .inl e3)), (b25, .inl (G.2 0, 482, .inl e4)), (b26, .inl (G.2 0, 482, .inl e5)), (b27, .inl (G.2 0, 482, .inl e6))] ∧ (zqa qC e1) ∧ (zR e2 0 240) ∧ (zR e3 0 241) ∧ (zR e4 0 240)) A) ([.ref b0, .int 0, .int b1, .int b2] : List Value).toArray s m_s1_Model_layStates.cells m_s1_Model_layStates.slots A) (F0 m 110 ls []) by
            exact key 242 (0) (b62) (f_771) (b64) (b65) (b66) _ _ _ (zI.wk (l' := 0) (h' := 241) zc_0 (by decide)) hb62 hf_771 hb64 (by rw [gf_771]; have _l0 := li_0; omega) (zm_upi (zI.wk (l' := 0) (h' := 241) zc_0 (by decide)) (by decide)) hP hD hS (lv_sub hl [0, 1, 2, 3, 4, 5, 6] rfl)
          intro k_1298
          induction k_1298 with
          | zero =>
            intro y_1299 y_1300 y_1301 y_1302 y_1303 y_1304 H locs ls hy_1299 hy_1300 hy_1301 hy_1302 hli_1305 hmk_1298 hP hD hS hl
            exact (zm_up0 hy_1299 hmk_1298).elim
          | succ k_1298 ihk_1298 =>
            intro y_1299 y_1300 y_1301 y_1302 y_1303 y_1304 H locs ls hy_1299 hy_1300 hy_1301 hy_1302 hli_1305 hmk_1298 hP hD hS hl
            refine lv_iload hx hb d_Model_layStates_110 (lv_at hl 0 rfl) ?_
            refine lv_aload_n hx hb d_Model_layStates_112 rfl (lv_at hl 3 rfl) ?_
            refine va_get (D := G.1) (ci := 12) (v := .ref b18) (C := R_Model) (T := F_Model) (N := 54) hx hb hts i_Model hown hK hP 9 rfl rfl 15 (by decide) (hts _ q1124) (fun _ h9 => h9) rfl d_Model_layStates_113 ?_
            refine lv_iload_n hx hb d_Model_layStates_116 rfl (lv_at hl 4 rfl) ?_
            refine va_iald hx hb hK hP 0 0 rfl rfl (i := 0) (z_in rfl) d_Model_layStates_117 ?_
            refine lv_topi (fun v_1306 ev_1306 => ?_)
            have hv_1306 : zI v_1306 0 241 := (hb58 _).eq ev_1306
            refine lv_icmp_ge (tgt := 258) hx hb d_Model_layStates_118 (by decide) (fun hc_1307 => ?_) (fun hc_1307 => ?_)
            · have _nhc_1307 := hc_1307
              have ni_1308 := (fa_le _ _).mp hc_1307
              exact z_vret hx hb hr hlocks (hP.sub [9, 10, 0, 1, 2, 3, 4, 5, 6, 7, 8] rfl) (hD.sub [9, 10, 0, 1, 2, 3, 4, 5, 6, 7, 8] (by decide) rfl) hS (Nat.le_of_ble_eq_true rfl) (Nat.le_of_ble_eq_true rfl) d_Model_layStates_258 ⟨y_763, y_764, y_1300, y_1301, y_1302, y_1303, y_1304, rfl, rfl, hy_764, hy_1300, hy_1301, hy_1302⟩
            · have _nhc_1307 := hc_1307
              have ni_1309 := (fa_lt _ _).mp (zi_nle hc_1307)
              have hv_1310 : zI y_1299 0 240 := zI.lt_l hy_1299 hv_1306 (zi_nle hc_1307) (by decide)
              have hv_1311 : zI v_1306 1 241 := zI.lt_r hy_1299 hv_1306 (zi_nle hc_1307) (by decide)
              refine lv_iload hx hb d_Model_layStates_121 (lv_at hl 1 rfl) ?_
              refine lv_if_eq (tgt := 258) hx hb d_Model_layStates_123 (by decide) (fun hc => absurd hc (by decide +kernel)) (fun _ => ?_)
              refine lv_iconst (v := 0) hx hb d_Model_layStates_126 (by decide) ?_
              refine lv_istore (lv' := [(7, .int 0), (6, .int y_1299), (5, .int 1), (4, .int 0), (0, .ref b0), (1, .int 0), (2, .int b1), (3, .int b2)]) hx hb d_Model_layStates_127 hl (by decide) rfl (fun ls hl => ?_)
              suffices key : ∀ (k_1384 : Nat) (y_1385 : Int32) (H : Heap) (locs : List Loc) (ls : Array Slot), (zI y_1385 0 240) → ((y_1385 : Int32).toInt ≤ (y_1301 (0 : Int32).toNatClampNeg).toInt) → (240 : Int) - y_1385.toInt < (k_1384 : Int) → va_P G.1 classes [(b18, .inl (G.2 0, 2, .inl b58)), (b20, .inl (G.2 0, 520, .inl b59)), (b21, .inl (G.2 0, 9640, .inl y_763)), (b22, .inl (G.2 0, 482, .inl y_764)), (b23, .inl (G.2 0, 482, .inl y_1300)), (b24, .inl (G.2 0, 2, .inl y_1301)), (b25, .inl (G.2 0, 482, .inl y_1302)), (b26, .inl (G.2 0, 482, .inl y_1303)), (b27, .inl (G.2 0, 482, .inl y_1304)), (b0, .inr (12, [.int b3, .ref b4, .ref b5, .ref b6, .ref b7, .int b8, .ref b9, .int b10, .int b11, .int b12, .int b13, .ref b14, .ref b15, .ref b16, .int b17, .ref b18, .ref b19, .ref b20, .ref b21, .ref b22, .ref b23, .ref b24, .ref b25, .ref b26, .ref b27, .ref b28, .ref b29, .int b30, .ref b31, .ref b32, .int b33, .int b34, .int b35, .int b36, .ref b37, .ref b38, .ref b39, .ref b40, .ref b41, .ref b42, .ref b43, .int b44, .ref b45, .ref b46, .int b47, .ref b48, .ref b49, .ref b50, .ref b51, .ref b52, .int b53, .ref b54, .ref b55, .ref b56])), (b4, .inl (G.2 0, 503, .inl b57))] H → va_D A [(b18, .inl (G.2 0, 2, .inl b58)), (b20, .inl (G.2 0, 520, .inl b59)), (b21, .inl (G.2 0, 9640, .inl y_763)), (b22, .inl (G.2 0, 482, .inl y_764)), (b23, .inl (G.2 0, 482, .inl y_1300)), (b24, .inl (G.2 0, 2, .inl y_1301)), (b25, .inl (G.2 0, 482, .inl y_1302)), (b26, .inl (G.2 0, 482, .inl y_1303)), (b27, .inl (G.2 0, 482, .inl y_1304)), (b0, .inr (12, [.int b3, .ref b4, .ref b5, .ref b6, .ref b7, .int b8, .ref b9, .int b10, .int b11, .int b12, .int b13, .ref b14, .ref b15, .ref b16, .int b17, .ref b18, .ref b19, .ref b20, .ref b21, .ref b22, .ref b23, .ref b24, .ref b25, .ref b26, .ref b27, .ref b28, .ref b29, .int b30, .ref b31, .ref b32, .int b33, .int b34, .int b35, .int b36, .ref b37, .ref b38, .ref b39, .ref b40, .ref b41, .ref b42, .ref b43, .int b44, .ref b45, .ref b46, .int b47, .ref b48, .ref b49, .ref b50, .ref b51, .ref b52, .int b53, .ref b54, .ref b55, .ref b56])), (b4, .inl (G.2 0, 503, .inl b57))] → va_S A s.heap H locs → lv_has ls 8 [(7, .int y_1385), (6, .int y_1299), (5, .int 1), (4, .int 0), (0, .ref b0), (1, .int 0), (2, .int b1), (3, .int b2)] → W p l e m_s1_Model_layStates s m ([.ref b0, .int 0, .int b1, .int b2] : List Value).toArray below meth c H locs 0 0 (MQ below (zQ G (fun v w => ∃ (e0 : Nat → Int32), ∃ (e1 : Nat → Int32), ∃ (e2 : Nat → Int32), ∃ (e3 : Nat → Int32), ∃ (e4 : Nat → Int32), ∃ (e5 : Nat → Int32), ∃ (e6 : Nat → Int32), v = none ∧ w = [(b0, .inr (12, [.int b3, .ref b4, .ref b5, .ref b6, .ref b7, .int b8, .ref b9, .int b10, .int b11, .int b12, .int b13, .ref b14, .ref b15, .ref b16, .int b17, .ref b18, .ref b19, .ref b20, .ref b21, .ref b22, .ref b23, .ref b24, .ref b25, .ref b26, .ref b27, .ref b28, .ref b29, .int b30, .ref b31, .ref b32, .int b33, .int b34, .int b35, .int b36, .ref b37, .ref b38, .ref b39, .ref b40, .ref b41, .ref b42, .ref b43, .int b44, .ref b45, .ref b46, .int b47, .ref b48, .ref b49, .ref b50, .ref b51, .ref b52, .int b53, .ref b54, .ref b55, .ref b56])), (b4, .inl (G.2 0, 503, .inl b57)), (b18, .inl (G.2 0, 2, .inl b58)), (b20, .inl (G.2 0, 520, .inl b59)), (b21, .inl (G.2 0, 9640, .inl e0)), (b22, .inl (G.2 0, 482, .inl e1)), (b23, .inl (G.2 0, 482, .inl e2)), (b24, .inl (G.2 0, 2, .inl e3)), (b25, .inl (G.2 0, 482, .inl e4)), (b26, .inl (G.2 0, 482, .inl e5)), (b27, .inl (G.2 0, 482, .inl e6))] ∧ (zqa qC e1) ∧ (zR e2 0 240) ∧ (zR e3 0 241) ∧ (zR e4 0 240)) A) ([.ref b0, .int 0, .int b1, .int b2] : List Value).toArray s m_s1_Model_layStates.cells m_s1_Model_layStates.slots A) (F0 m 129 ls []) by
                exact key 241 (0) _ _ _ (zI.wk (l' := 0) (h' := 240) zc_0 (by decide)) (by have _l0 := li_0; have h9 := hy_1301 (0 : Int32).toNatClampNeg; omega) (zm_upi (zI.wk (l' := 0) (h' := 240) zc_0 (by decide)) (by decide)) hP hD hS (lv_sub hl [0, 1, 2, 3, 4, 5, 6, 7] rfl)
              intro k_1384
              induction k_1384 with
              | zero =>
                intro y_1385 H locs ls hy_1385 hli_1386 hmk_1384 hP hD hS hl
                exact (zm_up0 hy_1385 hmk_1384).elim
              | succ k_1384 ihk_1384 =>
                intro y_1385 H locs ls hy_1385 hli_1386 hmk_1384 hP hD hS hl
                refine lv_iload hx hb d_Model_layStates_129 (lv_at hl 0 rfl) ?_
                refine lv_aload_n hx hb d_Model_layStates_131 rfl (lv_at hl 4 rfl) ?_
                refine va_get (D := G.1) (ci := 12) (v := .ref b24) (C := R_Model) (T := F_Model) (N := 54) hx hb hts i_Model hown hK hP 9 rfl rfl 21 (by decide) (hts _ q1130) (fun _ h9 => h9) rfl d_Model_layStates_132 ?_
                refine lv_iload_n hx hb d_Model_layStates_135 rfl (lv_at hl 5 rfl) ?_
                refine va_iald hx hb hK hP 5 0 rfl rfl (i := 0) (z_in rfl) d_Model_layStates_136 ?_
                refine lv_topi (fun v_1387 ev_1387 => ?_)
                have hv_1387 : zI v_1387 0 241 := (hy_1301 _).eq ev_1387
                have hv_1388 : zI v_1387 0 240 := ⟨hv_1387.1, by rw [ev_1387]; omega⟩
                have hsmv_1387 : v_1387.toInt ≤ y_1299.toInt := by rw [ev_1387]; omega
                refine lv_icmp_ge (tgt := 171) hx hb d_Model_layStates_137 (by decide) (fun hc_1389 => ?_) (fun hc_1389 => ?_)
                · have _nhc_1389 := hc_1389
                  have ni_1390 := (fa_le _ _).mp hc_1389
                  refine lv_iload hx hb d_Model_layStates_171 (lv_at hl 0 rfl) ?_
                  refine lv_aload_n hx hb d_Model_layStates_173 rfl (lv_at hl 4 rfl) ?_
                  refine va_get (D := G.1) (ci := 12) (v := .ref b24) (C := R_Model) (T := F_Model) (N := 54) hx hb hts i_Model hown hK hP 9 rfl rfl 21 (by decide) (hts _ q1130) (fun _ h9 => h9) rfl d_Model_layStates_174 ?_
                  refine lv_iload_n hx hb d_Model_layStates_177 rfl (lv_at hl 5 rfl) ?_
                  refine va_iald hx hb hK hP 5 0 rfl rfl (i := 0) (z_in rfl) d_Model_layStates_178 ?_
                  refine lv_topi (fun v_1391 ev_1391 => ?_)
                  obtain rfl : v_1387 = v_1391 := ev_1387.trans ev_1391.symm
                  refine lv_icmp_ne (tgt := 226) hx hb d_Model_layStates_179 (by decide) (fun hc_1392 => ?_) (fun hc_1392 => ?_)
                  · have _nhc_1392 := hc_1392
                    have ni_1393 : ¬ (y_1385 : Int32).toInt = (v_1387 : Int32).toInt := fun z => hc_1392 ((fa_eq _ _).mpr z)
                    refine lv_aload_n hx hb d_Model_layStates_226 rfl (lv_at hl 4 rfl) ?_
                    refine va_get (D := G.1) (ci := 12) (v := .ref b26) (C := R_Model) (T := F_Model) (N := 54) hx hb hts i_Model hown hK hP 9 rfl rfl 23 (by decide) (hts _ q1132) (fun _ h9 => h9) rfl d_Model_layStates_227 ?_
                    refine lv_iload hx hb d_Model_layStates_230 (lv_at hl 3 rfl) ?_
                    refine lv_iload hx hb d_Model_layStates_232 (lv_at hl 0 rfl) ?_
                    refine lv_iadd hx hb d_Model_layStates_234 ?_
                    refine lv_topi (fun v_1394 ev_1394 => ?_)
                    obtain ⟨qv_1394, hv_1394⟩ := zI_add (l := 0) (h := 240) zc_0 hy_1385 ev_1394 (by decide)
                    rw [li_0] at qv_1394
                    refine lv_dup2_11 hx hb d_Model_layStates_235 rfl rfl ?_
                    refine va_iald hx hb hK hP 7 0 rfl rfl (zI.inn hv_1394 (by decide)) d_Model_layStates_236 ?_
                    refine lv_topi (fun v_1395 ev_1395 => ?_)
                    refine lv_iconst (v := 1) hx hb d_Model_layStates_237 (by decide) ?_
                    refine lv_iadd hx hb d_Model_layStates_238 ?_
                    refine lv_topi (fun v_1396 ev_1396 => ?_)
                    refine va_iast hx hb hK hP hD hS 7 0 rfl rfl (zI.inn hv_1394 (by decide)) d_Model_layStates_239 (fun H locs hP hD hS => ?_)
                    obtain ⟨f_1397, gf_1397, uf_1397, hP, hD⟩ := z_newFu 7 hP hD rfl
                    have hP : va_P G.1 classes [(b18, .inl (G.2 0, 2, .inl b58)), (b20, .inl (G.2 0, 520, .inl b59)), (b21, .inl (G.2 0, 9640, .inl y_763)), (b22, .inl (G.2 0, 482, .inl y_764)), (b23, .inl (G.2 0, 482, .inl y_1300)), (b24, .inl (G.2 0, 2, .inl y_1301)), (b25, .inl (G.2 0, 482, .inl y_1302)), (b26, .inl (G.2 0, 482, .inl f_1397)), (b27, .inl (G.2 0, 482, .inl y_1304)), (b0, .inr (12, [.int b3, .ref b4, .ref b5, .ref b6, .ref b7, .int b8, .ref b9, .int b10, .int b11, .int b12, .int b13, .ref b14, .ref b15, .ref b16, .int b17, .ref b18, .ref b19, .ref b20, .ref b21, .ref b22, .ref b23, .ref b24, .ref b25, .ref b26, .ref b27, .ref b28, .ref b29, .int b30, .ref b31, .ref b32, .int b33, .int b34, .int b35, .int b36, .ref b37, .ref b38, .ref b39, .ref b40, .ref b41, .ref b42, .ref b43, .int b44, .ref b45, .ref b46, .int b47, .ref b48, .ref b49, .ref b50, .ref b51, .ref b52, .int b53, .ref b54, .ref b55, .ref b56])), (b4, .inl (G.2 0, 503, .inl b57))] H := hP
                    have hD := z_tie hP hD rfl
                    refine lv_aload_n hx hb d_Model_layStates_240 rfl (lv_at hl 4 rfl) ?_
                    refine va_get (D := G.1) (ci := 12) (v := .ref b23) (C := R_Model) (T := F_Model) (N := 54) hx hb hts i_Model hown hK hP 9 rfl rfl 20 (by decide) (hts _ q1129) (fun _ h9 => h9) rfl d_Model_layStates_241 ?_
                    refine lv_iload hx hb d_Model_layStates_244 (lv_at hl 3 rfl) ?_
                    refine lv_iload hx hb d_Model_layStates_246 (lv_at hl 1 rfl) ?_
                    refine lv_iadd hx hb d_Model_layStates_248 ?_
                    refine lv_topi (fun v_1398 ev_1398 => ?_)
                    obtain ⟨qv_1398, hv_1398⟩ := zI_add (l := 0) (h := 240) zc_0 hv_1310 ev_1398 (by decide)
                    rw [li_0] at qv_1398
                    refine lv_iload hx hb d_Model_layStates_249 (lv_at hl 0 rfl) ?_
                    refine va_iast hx hb hK hP hD hS 4 0 rfl rfl (zI.inn hv_1398 (by decide)) d_Model_layStates_251 (fun H locs hP hD hS => ?_)
                    obtain ⟨f_1399, hf_1399, gf_1399, uf_1399, hP, hD⟩ := z_newfu 4 hP hD rfl hy_1300 hy_1385
                    have hP : va_P G.1 classes [(b18, .inl (G.2 0, 2, .inl b58)), (b20, .inl (G.2 0, 520, .inl b59)), (b21, .inl (G.2 0, 9640, .inl y_763)), (b22, .inl (G.2 0, 482, .inl y_764)), (b23, .inl (G.2 0, 482, .inl f_1399)), (b24, .inl (G.2 0, 2, .inl y_1301)), (b25, .inl (G.2 0, 482, .inl y_1302)), (b26, .inl (G.2 0, 482, .inl f_1397)), (b27, .inl (G.2 0, 482, .inl y_1304)), (b0, .inr (12, [.int b3, .ref b4, .ref b5, .ref b6, .ref b7, .int b8, .ref b9, .int b10, .int b11, .int b12, .int b13, .ref b14, .ref b15, .ref b16, .int b17, .ref b18, .ref b19, .ref b20, .ref b21, .ref b22, .ref b23, .ref b24, .ref b25, .ref b26, .ref b27, .ref b28, .ref b29, .int b30, .ref b31, .ref b32, .int b33, .int b34, .int b35, .int b36, .ref b37, .ref b38, .ref b39, .ref b40, .ref b41, .ref b42, .ref b43, .int b44, .ref b45, .ref b46, .int b47, .ref b48, .ref b49, .ref b50, .ref b51, .ref b52, .int b53, .ref b54, .ref b55, .ref b56])), (b4, .inl (G.2 0, 503, .inl b57))] H := hP
                    have hD := z_tie hP hD rfl
                    obtain ⟨v_1400, ev_1400⟩ : ∃ z : Int32, z = y_1299 + 1 := ⟨_, rfl⟩
                    obtain ⟨qv_1400, hv_1400⟩ := zI_add (l := 1) (h := 241) hv_1310 zc_1 ev_1400 (by decide)
                    rw [li_1] at qv_1400
                    refine lv_iinc (v := v_1400) (lv' := [(6, .int v_1400), (7, .int y_1385), (5, .int 1), (4, .int 0), (0, .ref b0), (1, .int 0), (2, .int b1), (3, .int b2)]) hx hb d_Model_layStates_252 hl (k := 1) rfl (by rw [ev_1400]; rfl) (by decide) rfl (fun ls hl => ?_)
                    refine lv_goto (tgt := 110) hx hb d_Model_layStates_255 (by decide) ?_
                    exact ihk_1298 (v_1400) (f_1399) (y_1301) (y_1302) (f_1397) (y_1304) _ _ _ (zI.wk (l' := 0) (h' := 241) hv_1400 (by decide)) hf_1399 hy_1301 hy_1302 (by omega) (zm_up qv_1400 hmk_1298 (by decide)) hP hD hS (lv_sub hl [0, 2, 3, 4, 5, 6, 7] rfl)
                  · have _nhc_1392 := hc_1392
                    have ni_1401 := (fa_eq _ _).mp hc_1392
                    refine lv_aload_n hx hb d_Model_layStates_182 rfl (lv_at hl 4 rfl) ?_
                    refine va_get (D := G.1) (ci := 12) (v := .ref b25) (C := R_Model) (T := F_Model) (N := 54) hx hb hts i_Model hown hK hP 9 rfl rfl 22 (by decide) (hts _ q1131) (fun _ h9 => h9) rfl d_Model_layStates_183 ?_
                    refine lv_iload hx hb d_Model_layStates_186 (lv_at hl 3 rfl) ?_
                    refine lv_iload hx hb d_Model_layStates_188 (lv_at hl 0 rfl) ?_
                    refine lv_iadd hx hb d_Model_layStates_190 ?_
                    refine lv_topi (fun v_1402 ev_1402 => ?_)
                    obtain ⟨qv_1402, hv_1402⟩ := zI_add (l := 0) (h := 240) zc_0 hy_1385 ev_1402 (by decide)
                    rw [li_0] at qv_1402
                    refine lv_iload hx hb d_Model_layStates_191 (lv_at hl 1 rfl) ?_
                    refine va_iast hx hb hK hP hD hS 6 0 rfl rfl (zI.inn hv_1402 (by decide)) d_Model_layStates_193 (fun H locs hP hD hS => ?_)
                    obtain ⟨f_1403, hf_1403, gf_1403, uf_1403, hP, hD⟩ := z_newfu 6 hP hD rfl hy_1302 hv_1310
                    have hP : va_P G.1 classes [(b18, .inl (G.2 0, 2, .inl b58)), (b20, .inl (G.2 0, 520, .inl b59)), (b21, .inl (G.2 0, 9640, .inl y_763)), (b22, .inl (G.2 0, 482, .inl y_764)), (b23, .inl (G.2 0, 482, .inl y_1300)), (b24, .inl (G.2 0, 2, .inl y_1301)), (b25, .inl (G.2 0, 482, .inl f_1403)), (b26, .inl (G.2 0, 482, .inl y_1303)), (b27, .inl (G.2 0, 482, .inl y_1304)), (b0, .inr (12, [.int b3, .ref b4, .ref b5, .ref b6, .ref b7, .int b8, .ref b9, .int b10, .int b11, .int b12, .int b13, .ref b14, .ref b15, .ref b16, .int b17, .ref b18, .ref b19, .ref b20, .ref b21, .ref b22, .ref b23, .ref b24, .ref b25, .ref b26, .ref b27, .ref b28, .ref b29, .int b30, .ref b31, .ref b32, .int b33, .int b34, .int b35, .int b36, .ref b37, .ref b38, .ref b39, .ref b40, .ref b41, .ref b42, .ref b43, .int b44, .ref b45, .ref b46, .int b47, .ref b48, .ref b49, .ref b50, .ref b51, .ref b52, .int b53, .ref b54, .ref b55, .ref b56])), (b4, .inl (G.2 0, 503, .inl b57))] H := hP
                    have hD := z_tie hP hD rfl
                    refine lv_aload_n hx hb d_Model_layStates_194 rfl (lv_at hl 4 rfl) ?_
                    refine va_get (D := G.1) (ci := 12) (v := .ref b26) (C := R_Model) (T := F_Model) (N := 54) hx hb hts i_Model hown hK hP 9 rfl rfl 23 (by decide) (hts _ q1132) (fun _ h9 => h9) rfl d_Model_layStates_195 ?_
                    refine lv_iload hx hb d_Model_layStates_198 (lv_at hl 3 rfl) ?_
                    refine lv_iload hx hb d_Model_layStates_200 (lv_at hl 0 rfl) ?_
                    refine lv_iadd hx hb d_Model_layStates_202 ?_
                    refine lv_topi (fun v_1404 ev_1404 => ?_)
                    obtain rfl : v_1402 = v_1404 := ev_1402.trans ev_1404.symm
                    refine lv_iconst (v := 0) hx hb d_Model_layStates_203 (by decide) ?_
                    refine va_iast hx hb hK hP hD hS 7 0 rfl rfl (zI.inn hv_1402 (by decide)) d_Model_layStates_204 (fun H locs hP hD hS => ?_)
                    obtain ⟨f_1405, gf_1405, uf_1405, hP, hD⟩ := z_newFu 7 hP hD rfl
                    have hP : va_P G.1 classes [(b18, .inl (G.2 0, 2, .inl b58)), (b20, .inl (G.2 0, 520, .inl b59)), (b21, .inl (G.2 0, 9640, .inl y_763)), (b22, .inl (G.2 0, 482, .inl y_764)), (b23, .inl (G.2 0, 482, .inl y_1300)), (b24, .inl (G.2 0, 2, .inl y_1301)), (b25, .inl (G.2 0, 482, .inl f_1403)), (b26, .inl (G.2 0, 482, .inl f_1405)), (b27, .inl (G.2 0, 482, .inl y_1304)), (b0, .inr (12, [.int b3, .ref b4, .ref b5, .ref b6, .ref b7, .int b8, .ref b9, .int b10, .int b11, .int b12, .int b13, .ref b14, .ref b15, .ref b16, .int b17, .ref b18, .ref b19, .ref b20, .ref b21, .ref b22, .ref b23, .ref b24, .ref b25, .ref b26, .ref b27, .ref b28, .ref b29, .int b30, .ref b31, .ref b32, .int b33, .int b34, .int b35, .int b36, .ref b37, .ref b38, .ref b39, .ref b40, .ref b41, .ref b42, .ref b43, .int b44, .ref b45, .ref b46, .int b47, .ref b48, .ref b49, .ref b50, .ref b51, .ref b52, .int b53, .ref b54, .ref b55, .ref b56])), (b4, .inl (G.2 0, 503, .inl b57))] H := hP
                    have hD := z_tie hP hD rfl
                    refine lv_aload_n hx hb d_Model_layStates_205 rfl (lv_at hl 4 rfl) ?_
                    refine va_get (D := G.1) (ci := 12) (v := .ref b27) (C := R_Model) (T := F_Model) (N := 54) hx hb hts i_Model hown hK hP 9 rfl rfl 24 (by decide) (hts _ q1133) (fun _ h9 => h9) rfl d_Model_layStates_206 ?_
                    refine lv_iload hx hb d_Model_layStates_209 (lv_at hl 3 rfl) ?_
                    refine lv_iload hx hb d_Model_layStates_211 (lv_at hl 0 rfl) ?_
                    refine lv_iadd hx hb d_Model_layStates_213 ?_
                    refine lv_topi (fun v_1406 ev_1406 => ?_)
                    obtain rfl : v_1402 = v_1406 := ev_1402.trans ev_1406.symm
                    refine lv_iconst (v := 0) hx hb d_Model_layStates_214 (by decide) ?_
                    refine va_iast hx hb hK hP hD hS 8 0 rfl rfl (zI.inn hv_1402 (by decide)) d_Model_layStates_215 (fun H locs hP hD hS => ?_)
                    obtain ⟨f_1407, gf_1407, uf_1407, hP, hD⟩ := z_newFu 8 hP hD rfl
                    have hP : va_P G.1 classes [(b18, .inl (G.2 0, 2, .inl b58)), (b20, .inl (G.2 0, 520, .inl b59)), (b21, .inl (G.2 0, 9640, .inl y_763)), (b22, .inl (G.2 0, 482, .inl y_764)), (b23, .inl (G.2 0, 482, .inl y_1300)), (b24, .inl (G.2 0, 2, .inl y_1301)), (b25, .inl (G.2 0, 482, .inl f_1403)), (b26, .inl (G.2 0, 482, .inl f_1405)), (b27, .inl (G.2 0, 482, .inl f_1407)), (b0, .inr (12, [.int b3, .ref b4, .ref b5, .ref b6, .ref b7, .int b8, .ref b9, .int b10, .int b11, .int b12, .int b13, .ref b14, .ref b15, .ref b16, .int b17, .ref b18, .ref b19, .ref b20, .ref b21, .ref b22, .ref b23, .ref b24, .ref b25, .ref b26, .ref b27, .ref b28, .ref b29, .int b30, .ref b31, .ref b32, .int b33, .int b34, .int b35, .int b36, .ref b37, .ref b38, .ref b39, .ref b40, .ref b41, .ref b42, .ref b43, .int b44, .ref b45, .ref b46, .int b47, .ref b48, .ref b49, .ref b50, .ref b51, .ref b52, .int b53, .ref b54, .ref b55, .ref b56])), (b4, .inl (G.2 0, 503, .inl b57))] H := hP
                    have hD := z_tie hP hD rfl
                    refine lv_aload_n hx hb d_Model_layStates_216 rfl (lv_at hl 4 rfl) ?_
                    refine va_get (D := G.1) (ci := 12) (v := .ref b24) (C := R_Model) (T := F_Model) (N := 54) hx hb hts i_Model hown hK hP 9 rfl rfl 21 (by decide) (hts _ q1130) (fun _ h9 => h9) rfl d_Model_layStates_217 ?_
                    refine lv_iload_n hx hb d_Model_layStates_220 rfl (lv_at hl 5 rfl) ?_
                    refine lv_dup2_11 hx hb d_Model_layStates_221 rfl rfl ?_
                    refine va_iald hx hb hK hP 5 0 rfl rfl (i := 0) (z_in rfl) d_Model_layStates_222 ?_
                    refine lv_topi (fun v_1408 ev_1408 => ?_)
                    obtain rfl : v_1387 = v_1408 := ev_1387.trans ev_1408.symm
                    refine lv_iconst (v := 1) hx hb d_Model_layStates_223 (by decide) ?_
                    refine lv_iadd hx hb d_Model_layStates_224 ?_
                    refine lv_topi (fun v_1409 ev_1409 => ?_)
                    obtain ⟨qv_1409, hv_1409⟩ := zI_add (l := 1) (h := 241) hv_1388 zc_1 ev_1409 (by decide)
                    rw [li_1] at qv_1409
                    refine va_iast hx hb hK hP hD hS 5 0 rfl rfl (i := 0) (z_in rfl) d_Model_layStates_225 (fun H locs hP hD hS => ?_)
                    obtain ⟨f_1410, hf_1410, gf_1410, uf_1410, hP, hD⟩ := z_newfu 5 hP hD rfl hy_1301 (zI.wk (l' := 0) (h' := 241) hv_1409 (by decide))
                    have hP : va_P G.1 classes [(b18, .inl (G.2 0, 2, .inl b58)), (b20, .inl (G.2 0, 520, .inl b59)), (b21, .inl (G.2 0, 9640, .inl y_763)), (b22, .inl (G.2 0, 482, .inl y_764)), (b23, .inl (G.2 0, 482, .inl y_1300)), (b24, .inl (G.2 0, 2, .inl f_1410)), (b25, .inl (G.2 0, 482, .inl f_1403)), (b26, .inl (G.2 0, 482, .inl f_1405)), (b27, .inl (G.2 0, 482, .inl f_1407)), (b0, .inr (12, [.int b3, .ref b4, .ref b5, .ref b6, .ref b7, .int b8, .ref b9, .int b10, .int b11, .int b12, .int b13, .ref b14, .ref b15, .ref b16, .int b17, .ref b18, .ref b19, .ref b20, .ref b21, .ref b22, .ref b23, .ref b24, .ref b25, .ref b26, .ref b27, .ref b28, .ref b29, .int b30, .ref b31, .ref b32, .int b33, .int b34, .int b35, .int b36, .ref b37, .ref b38, .ref b39, .ref b40, .ref b41, .ref b42, .ref b43, .int b44, .ref b45, .ref b46, .int b47, .ref b48, .ref b49, .ref b50, .ref b51, .ref b52, .int b53, .ref b54, .ref b55, .ref b56])), (b4, .inl (G.2 0, 503, .inl b57))] H := hP
                    have hD := z_tie hP hD rfl
                    refine lv_aload_n hx hb d_Model_layStates_226 rfl (lv_at hl 4 rfl) ?_
                    refine va_get (D := G.1) (ci := 12) (v := .ref b26) (C := R_Model) (T := F_Model) (N := 54) hx hb hts i_Model hown hK hP 9 rfl rfl 23 (by decide) (hts _ q1132) (fun _ h9 => h9) rfl d_Model_layStates_227 ?_
                    refine lv_iload hx hb d_Model_layStates_230 (lv_at hl 3 rfl) ?_
                    refine lv_iload hx hb d_Model_layStates_232 (lv_at hl 0 rfl) ?_
                    refine lv_iadd hx hb d_Model_layStates_234 ?_
                    refine lv_topi (fun v_1411 ev_1411 => ?_)
                    obtain rfl : v_1402 = v_1411 := ev_1402.trans ev_1411.symm
                    refine lv_dup2_11 hx hb d_Model_layStates_235 rfl rfl ?_
                    refine va_iald hx hb hK hP 7 0 rfl rfl (zI.inn hv_1402 (by decide)) d_Model_layStates_236 ?_
                    refine lv_topi (fun v_1412 ev_1412 => ?_)
                    obtain rfl : v_1412 = 0 := ev_1412.trans gf_1405
                    refine lv_iconst (v := 1) hx hb d_Model_layStates_237 (by decide) ?_
                    refine lv_iadd hx hb d_Model_layStates_238 ?_
                    refine z_topi (y := 1) (by decide +kernel) ?_
                    refine va_iast hx hb hK hP hD hS 7 0 rfl rfl (zI.inn hv_1402 (by decide)) d_Model_layStates_239 (fun H locs hP hD hS => ?_)
                    obtain ⟨f_1413, gf_1413, uf_1413, hP, hD⟩ := z_newFu 7 hP hD rfl
                    have hP : va_P G.1 classes [(b18, .inl (G.2 0, 2, .inl b58)), (b20, .inl (G.2 0, 520, .inl b59)), (b21, .inl (G.2 0, 9640, .inl y_763)), (b22, .inl (G.2 0, 482, .inl y_764)), (b23, .inl (G.2 0, 482, .inl y_1300)), (b24, .inl (G.2 0, 2, .inl f_1410)), (b25, .inl (G.2 0, 482, .inl f_1403)), (b26, .inl (G.2 0, 482, .inl f_1413)), (b27, .inl (G.2 0, 482, .inl f_1407)), (b0, .inr (12, [.int b3, .ref b4, .ref b5, .ref b6, .ref b7, .int b8, .ref b9, .int b10, .int b11, .int b12, .int b13, .ref b14, .ref b15, .ref b16, .int b17, .ref b18, .ref b19, .ref b20, .ref b21, .ref b22, .ref b23, .ref b24, .ref b25, .ref b26, .ref b27, .ref b28, .ref b29, .int b30, .ref b31, .ref b32, .int b33, .int b34, .int b35, .int b36, .ref b37, .ref b38, .ref b39, .ref b40, .ref b41, .ref b42, .ref b43, .int b44, .ref b45, .ref b46, .int b47, .ref b48, .ref b49, .ref b50, .ref b51, .ref b52, .int b53, .ref b54, .ref b55, .ref b56])), (b4, .inl (G.2 0, 503, .inl b57))] H := hP
                    have hD := z_tie hP hD rfl
                    refine lv_aload_n hx hb d_Model_layStates_240 rfl (lv_at hl 4 rfl) ?_
                    refine va_get (D := G.1) (ci := 12) (v := .ref b23) (C := R_Model) (T := F_Model) (N := 54) hx hb hts i_Model hown hK hP 9 rfl rfl 20 (by decide) (hts _ q1129) (fun _ h9 => h9) rfl d_Model_layStates_241 ?_
                    refine lv_iload hx hb d_Model_layStates_244 (lv_at hl 3 rfl) ?_
                    refine lv_iload hx hb d_Model_layStates_246 (lv_at hl 1 rfl) ?_
                    refine lv_iadd hx hb d_Model_layStates_248 ?_
                    refine lv_topi (fun v_1414 ev_1414 => ?_)
                    obtain ⟨qv_1414, hv_1414⟩ := zI_add (l := 0) (h := 240) zc_0 hv_1310 ev_1414 (by decide)
                    rw [li_0] at qv_1414
                    refine lv_iload hx hb d_Model_layStates_249 (lv_at hl 0 rfl) ?_
                    refine va_iast hx hb hK hP hD hS 4 0 rfl rfl (zI.inn hv_1414 (by decide)) d_Model_layStates_251 (fun H locs hP hD hS => ?_)
                    obtain ⟨f_1415, hf_1415, gf_1415, uf_1415, hP, hD⟩ := z_newfu 4 hP hD rfl hy_1300 hy_1385
                    have hP : va_P G.1 classes [(b18, .inl (G.2 0, 2, .inl b58)), (b20, .inl (G.2 0, 520, .inl b59)), (b21, .inl (G.2 0, 9640, .inl y_763)), (b22, .inl (G.2 0, 482, .inl y_764)), (b23, .inl (G.2 0, 482, .inl f_1415)), (b24, .inl (G.2 0, 2, .inl f_1410)), (b25, .inl (G.2 0, 482, .inl f_1403)), (b26, .inl (G.2 0, 482, .inl f_1413)), (b27, .inl (G.2 0, 482, .inl f_1407)), (b0, .inr (12, [.int b3, .ref b4, .ref b5, .ref b6, .ref b7, .int b8, .ref b9, .int b10, .int b11, .int b12, .int b13, .ref b14, .ref b15, .ref b16, .int b17, .ref b18, .ref b19, .ref b20, .ref b21, .ref b22, .ref b23, .ref b24, .ref b25, .ref b26, .ref b27, .ref b28, .ref b29, .int b30, .ref b31, .ref b32, .int b33, .int b34, .int b35, .int b36, .ref b37, .ref b38, .ref b39, .ref b40, .ref b41, .ref b42, .ref b43, .int b44, .ref b45, .ref b46, .int b47, .ref b48, .ref b49, .ref b50, .ref b51, .ref b52, .int b53, .ref b54, .ref b55, .ref b56])), (b4, .inl (G.2 0, 503, .inl b57))] H := hP
                    have hD := z_tie hP hD rfl
                    obtain ⟨v_1416, ev_1416⟩ : ∃ z : Int32, z = y_1299 + 1 := ⟨_, rfl⟩
                    obtain ⟨qv_1416, hv_1416⟩ := zI_add (l := 1) (h := 241) hv_1310 zc_1 ev_1416 (by decide)
                    rw [li_1] at qv_1416
                    refine lv_iinc (v := v_1416) (lv' := [(6, .int v_1416), (7, .int y_1385), (5, .int 1), (4, .int 0), (0, .ref b0), (1, .int 0), (2, .int b1), (3, .int b2)]) hx hb d_Model_layStates_252 hl (k := 1) rfl (by rw [ev_1416]; rfl) (by decide) rfl (fun ls hl => ?_)
                    refine lv_goto (tgt := 110) hx hb d_Model_layStates_255 (by decide) ?_
                    exact ihk_1298 (v_1416) (f_1415) (f_1410) (f_1403) (f_1413) (f_1407) _ _ _ (zI.wk (l' := 0) (h' := 241) hv_1416 (by decide)) hf_1415 hf_1410 hf_1403 (by rw [gf_1410]; omega) (zm_up qv_1416 hmk_1298 (by decide)) hP hD hS (lv_sub hl [0, 2, 3, 4, 5, 6, 7] rfl)
                · have _nhc_1389 := hc_1389
                  have ni_1417 := (fa_lt _ _).mp (zi_nle hc_1389)
                  have hv_1418 : zI y_1385 0 239 := zI.lt_l hy_1385 hv_1388 (zi_nle hc_1389) (by decide)
                  have hv_1419 : zI v_1387 1 240 := zI.lt_r hy_1385 hv_1388 (zi_nle hc_1389) (by decide)
                  refine lv_aload_n hx hb d_Model_layStates_140 rfl (lv_at hl 4 rfl) ?_
                  refine lv_iload hx hb d_Model_layStates_141 (lv_at hl 3 rfl) ?_
                  refine lv_aload_n hx hb d_Model_layStates_143 rfl (lv_at hl 4 rfl) ?_
                  refine va_get (D := G.1) (ci := 12) (v := .ref b25) (C := R_Model) (T := F_Model) (N := 54) hx hb hts i_Model hown hK hP 9 rfl rfl 22 (by decide) (hts _ q1131) (fun _ h9 => h9) rfl d_Model_layStates_144 ?_
                  refine lv_iload hx hb d_Model_layStates_147 (lv_at hl 3 rfl) ?_
                  refine lv_iload hx hb d_Model_layStates_149 (lv_at hl 0 rfl) ?_
                  refine lv_iadd hx hb d_Model_layStates_151 ?_
                  refine lv_topi (fun v_1420 ev_1420 => ?_)
                  obtain ⟨qv_1420, hv_1420⟩ := zI_add (l := 0) (h := 239) zc_0 hv_1418 ev_1420 (by decide)
                  rw [li_0] at qv_1420
                  refine va_iald hx hb hK hP 6 0 rfl rfl (zI.inn hv_1420 (by decide)) d_Model_layStates_152 ?_
                  refine lv_topi (fun v_1421 ev_1421 => ?_)
                  have hv_1421 : zI v_1421 0 240 := (hy_1302 _).eq ev_1421
                  refine lv_iadd hx hb d_Model_layStates_153 ?_
                  refine lv_topi (fun v_1422 ev_1422 => ?_)
                  obtain ⟨qv_1422, hv_1422⟩ := zI_add (l := 0) (h := 240) zc_0 hv_1421 ev_1422 (by decide)
                  rw [li_0] at qv_1422
                  refine lv_iload hx hb d_Model_layStates_154 (lv_at hl 3 rfl) ?_
                  refine lv_iload hx hb d_Model_layStates_156 (lv_at hl 1 rfl) ?_
                  refine lv_iadd hx hb d_Model_layStates_158 ?_
                  refine lv_topi (fun v_1423 ev_1423 => ?_)
                  obtain ⟨qv_1423, hv_1423⟩ := zI_add (l := 0) (h := 240) zc_0 hv_1310 ev_1423 (by decide)
                  rw [li_0] at qv_1423
                  refine z_callV (index := 221) (As := [.int v_1422, .int v_1423]) (rest := []) (wr := [(b18, .inl (G.2 0, 2, .inl b58)), (b20, .inl (G.2 0, 520, .inl b59)), (b23, .inl (G.2 0, 482, .inl y_1300)), (b24, .inl (G.2 0, 2, .inl y_1301)), (b25, .inl (G.2 0, 482, .inl y_1302)), (b26, .inl (G.2 0, 482, .inl y_1303)), (b27, .inl (G.2 0, 482, .inl y_1304)), (b4, .inl (G.2 0, 503, .inl b57))]) Z (s1_Model_areAlike l G (b0) (v_1422) (v_1423) (b3) (b4) (b5) (b6) (b7) (b8) (b9) (b10) (b11) (b12) (b13) (b14) (b15) (b16) (b17) (b18) (b19) (b20) (b21) (b22) (b23) (b24) (b25) (b26) (b27) (b28) (b29) (b30) (b31) (b32) (b33) (b34) (b35) (b36) (b37) (b38) (b39) (b40) (b41) (b42) (b43) (b44) (b45) (b46) (b47) (b48) (b49) (b50) (b51) (b52) (b53) (b54) (b55) (b56) (y_763) (y_764) (zI.wk (l' := 0) (h' := 481) hv_1422 (by decide)) (zI.wk (l' := 0) (h' := 481) hv_1423 (by decide)) hb8 hb10 hb11 hb13 hb17 hb30 hb33 hb44 hb47 hb53 hy_764) hl.1 q1392 q1394 qs64 q14 q1395 ⟨by decide, by decide, by show _ = some 2; decide +kernel⟩ ⟨Nat.le_of_ble_eq_true rfl, Nat.le_of_ble_eq_true rfl⟩ ⟨Nat.le_of_ble_eq_true rfl, Nat.le_of_ble_eq_true rfl⟩ rfl (Nat.le_of_ble_eq_true rfl) d_Model_layStates_159 hP hD hS hA 9 12 rfl rfl rfl [9, 2, 3] [0, 1, 4, 5, 6, 7, 8, 10] rfl rfl rfl rfl (by decide) (fun v w1 H locs hw_1424 hP hD hS => ?_)
                  obtain ⟨x_1425, rfl, rfl, hx_1425⟩ := hw_1424
                  have hP : va_P G.1 classes [(b18, .inl (G.2 0, 2, .inl b58)), (b20, .inl (G.2 0, 520, .inl b59)), (b23, .inl (G.2 0, 482, .inl y_1300)), (b24, .inl (G.2 0, 2, .inl y_1301)), (b25, .inl (G.2 0, 482, .inl y_1302)), (b26, .inl (G.2 0, 482, .inl y_1303)), (b27, .inl (G.2 0, 482, .inl y_1304)), (b4, .inl (G.2 0, 503, .inl b57)), (b0, .inr (12, [.int b3, .ref b4, .ref b5, .ref b6, .ref b7, .int b8, .ref b9, .int b10, .int b11, .int b12, .int b13, .ref b14, .ref b15, .ref b16, .int b17, .ref b18, .ref b19, .ref b20, .ref b21, .ref b22, .ref b23, .ref b24, .ref b25, .ref b26, .ref b27, .ref b28, .ref b29, .int b30, .ref b31, .ref b32, .int b33, .int b34, .int b35, .int b36, .ref b37, .ref b38, .ref b39, .ref b40, .ref b41, .ref b42, .ref b43, .int b44, .ref b45, .ref b46, .int b47, .ref b48, .ref b49, .ref b50, .ref b51, .ref b52, .int b53, .ref b54, .ref b55, .ref b56])), (b21, .inl (G.2 0, 9640, .inl y_763)), (b22, .inl (G.2 0, 482, .inl y_764))] H := hP
                  have hD := z_tie hP hD rfl
                  refine W.widen (k := 0) (n := 0) (Nat.le_of_ble_eq_true rfl) (Nat.le_of_ble_eq_true rfl) ?_
                  refine lv_if_ne (tgt := 171) hx hb d_Model_layStates_162 (by decide) (fun hc_1426 => ?_) (fun hc_1426 => ?_)
                  · have _nhc_1426 := hc_1426
                    have ni_1427 : ¬ (x_1425 : Int32).toInt = (0 : Int32).toInt := fun z => hc_1426 ((fa_eq _ _).mpr z)
                    simp only [li_0] at ni_1427
                    have hv_1428 : zI x_1425 1 1 := zI.ne_lo hx_1425 zc_0 hc_1426 (by decide)
                    refine lv_iload hx hb d_Model_layStates_171 (lv_at hl 0 rfl) ?_
                    refine lv_aload_n hx hb d_Model_layStates_173 rfl (lv_at hl 4 rfl) ?_
                    refine va_get (D := G.1) (ci := 12) (v := .ref b24) (C := R_Model) (T := F_Model) (N := 54) hx hb hts i_Model hown hK hP 8 rfl rfl 21 (by decide) (hts _ q1130) (fun _ h9 => h9) rfl d_Model_layStates_174 ?_
                    refine lv_iload_n hx hb d_Model_layStates_177 rfl (lv_at hl 5 rfl) ?_
                    refine va_iald hx hb hK hP 3 0 rfl rfl (i := 0) (z_in rfl) d_Model_layStates_178 ?_
                    refine lv_topi (fun v_1429 ev_1429 => ?_)
                    obtain rfl : v_1387 = v_1429 := ev_1387.trans ev_1429.symm
                    refine lv_icmp_ne (tgt := 226) hx hb d_Model_layStates_179 (by decide) (fun hc_1430 => ?_) (fun hc_1430 => ?_)
                    · have _nhc_1430 := hc_1430
                      have ni_1431 : ¬ (y_1385 : Int32).toInt = (v_1387 : Int32).toInt := fun z => hc_1430 ((fa_eq _ _).mpr z)
                      refine lv_aload_n hx hb d_Model_layStates_226 rfl (lv_at hl 4 rfl) ?_
                      refine va_get (D := G.1) (ci := 12) (v := .ref b26) (C := R_Model) (T := F_Model) (N := 54) hx hb hts i_Model hown hK hP 8 rfl rfl 23 (by decide) (hts _ q1132) (fun _ h9 => h9) rfl d_Model_layStates_227 ?_
                      refine lv_iload hx hb d_Model_layStates_230 (lv_at hl 3 rfl) ?_
                      refine lv_iload hx hb d_Model_layStates_232 (lv_at hl 0 rfl) ?_
                      refine lv_iadd hx hb d_Model_layStates_234 ?_
                      refine lv_topi (fun v_1432 ev_1432 => ?_)
                      obtain rfl : v_1420 = v_1432 := ev_1420.trans ev_1432.symm
                      refine lv_dup2_11 hx hb d_Model_layStates_235 rfl rfl ?_
                      refine va_iald hx hb hK hP 5 0 rfl rfl (zI.inn hv_1420 (by decide)) d_Model_layStates_236 ?_
                      refine lv_topi (fun v_1433 ev_1433 => ?_)
                      refine lv_iconst (v := 1) hx hb d_Model_layStates_237 (by decide) ?_
                      refine lv_iadd hx hb d_Model_layStates_238 ?_
                      refine lv_topi (fun v_1434 ev_1434 => ?_)
                      refine va_iast hx hb hK hP hD hS 5 0 rfl rfl (zI.inn hv_1420 (by decide)) d_Model_layStates_239 (fun H locs hP hD hS => ?_)
                      obtain ⟨f_1435, gf_1435, uf_1435, hP, hD⟩ := z_newFu 5 hP hD rfl
                      have hP : va_P G.1 classes [(b18, .inl (G.2 0, 2, .inl b58)), (b20, .inl (G.2 0, 520, .inl b59)), (b23, .inl (G.2 0, 482, .inl y_1300)), (b24, .inl (G.2 0, 2, .inl y_1301)), (b25, .inl (G.2 0, 482, .inl y_1302)), (b26, .inl (G.2 0, 482, .inl f_1435)), (b27, .inl (G.2 0, 482, .inl y_1304)), (b4, .inl (G.2 0, 503, .inl b57)), (b0, .inr (12, [.int b3, .ref b4, .ref b5, .ref b6, .ref b7, .int b8, .ref b9, .int b10, .int b11, .int b12, .int b13, .ref b14, .ref b15, .ref b16, .int b17, .ref b18, .ref b19, .ref b20, .ref b21, .ref b22, .ref b23, .ref b24, .ref b25, .ref b26, .ref b27, .ref b28, .ref b29, .int b30, .ref b31, .ref b32, .int b33, .int b34, .int b35, .int b36, .ref b37, .ref b38, .ref b39, .ref b40, .ref b41, .ref b42, .ref b43, .int b44, .ref b45, .ref b46, .int b47, .ref b48, .ref b49, .ref b50, .ref b51, .ref b52, .int b53, .ref b54, .ref b55, .ref b56])), (b21, .inl (G.2 0, 9640, .inl y_763)), (b22, .inl (G.2 0, 482, .inl y_764))] H := hP
                      have hD := z_tie hP hD rfl
                      refine lv_aload_n hx hb d_Model_layStates_240 rfl (lv_at hl 4 rfl) ?_
                      refine va_get (D := G.1) (ci := 12) (v := .ref b23) (C := R_Model) (T := F_Model) (N := 54) hx hb hts i_Model hown hK hP 8 rfl rfl 20 (by decide) (hts _ q1129) (fun _ h9 => h9) rfl d_Model_layStates_241 ?_
                      refine lv_iload hx hb d_Model_layStates_244 (lv_at hl 3 rfl) ?_
                      refine lv_iload hx hb d_Model_layStates_246 (lv_at hl 1 rfl) ?_
                      refine lv_iadd hx hb d_Model_layStates_248 ?_
                      refine lv_topi (fun v_1436 ev_1436 => ?_)
                      obtain rfl : v_1423 = v_1436 := ev_1423.trans ev_1436.symm
                      refine lv_iload hx hb d_Model_layStates_249 (lv_at hl 0 rfl) ?_
                      refine va_iast hx hb hK hP hD hS 2 0 rfl rfl (zI.inn hv_1423 (by decide)) d_Model_layStates_251 (fun H locs hP hD hS => ?_)
                      obtain ⟨f_1437, hf_1437, gf_1437, uf_1437, hP, hD⟩ := z_newfu 2 hP hD rfl hy_1300 (zI.wk (l' := 0) (h' := 240) hv_1418 (by decide))
                      have hP : va_P G.1 classes [(b18, .inl (G.2 0, 2, .inl b58)), (b20, .inl (G.2 0, 520, .inl b59)), (b23, .inl (G.2 0, 482, .inl f_1437)), (b24, .inl (G.2 0, 2, .inl y_1301)), (b25, .inl (G.2 0, 482, .inl y_1302)), (b26, .inl (G.2 0, 482, .inl f_1435)), (b27, .inl (G.2 0, 482, .inl y_1304)), (b4, .inl (G.2 0, 503, .inl b57)), (b0, .inr (12, [.int b3, .ref b4, .ref b5, .ref b6, .ref b7, .int b8, .ref b9, .int b10, .int b11, .int b12, .int b13, .ref b14, .ref b15, .ref b16, .int b17, .ref b18, .ref b19, .ref b20, .ref b21, .ref b22, .ref b23, .ref b24, .ref b25, .ref b26, .ref b27, .ref b28, .ref b29, .int b30, .ref b31, .ref b32, .int b33, .int b34, .int b35, .int b36, .ref b37, .ref b38, .ref b39, .ref b40, .ref b41, .ref b42, .ref b43, .int b44, .ref b45, .ref b46, .int b47, .ref b48, .ref b49, .ref b50, .ref b51, .ref b52, .int b53, .ref b54, .ref b55, .ref b56])), (b21, .inl (G.2 0, 9640, .inl y_763)), (b22, .inl (G.2 0, 482, .inl y_764))] H := hP
                      have hD := z_tie hP hD rfl
                      obtain ⟨v_1438, ev_1438⟩ : ∃ z : Int32, z = y_1299 + 1 := ⟨_, rfl⟩
                      obtain ⟨qv_1438, hv_1438⟩ := zI_add (l := 1) (h := 241) hv_1310 zc_1 ev_1438 (by decide)
                      rw [li_1] at qv_1438
                      refine lv_iinc (v := v_1438) (lv' := [(6, .int v_1438), (7, .int y_1385), (5, .int 1), (4, .int 0), (0, .ref b0), (1, .int 0), (2, .int b1), (3, .int b2)]) hx hb d_Model_layStates_252 hl (k := 1) rfl (by rw [ev_1438]; rfl) (by decide) rfl (fun ls hl => ?_)
                      refine lv_goto (tgt := 110) hx hb d_Model_layStates_255 (by decide) ?_
                      exact ihk_1298 (v_1438) (f_1437) (y_1301) (y_1302) (f_1435) (y_1304) _ _ _ (zI.wk (l' := 0) (h' := 241) hv_1438 (by decide)) hf_1437 hy_1301 hy_1302 (by omega) (zm_up qv_1438 hmk_1298 (by decide)) (hP.sub [0, 1, 9, 10, 2, 3, 4, 5, 6, 8, 7] rfl) (hD.sub [0, 1, 9, 10, 2, 3, 4, 5, 6, 8, 7] (by decide) rfl) hS (lv_sub hl [0, 2, 3, 4, 5, 6, 7] rfl)
                    · have _nhc_1430 := hc_1430
                      have ni_1439 := (fa_eq _ _).mp hc_1430
                      refine lv_aload_n hx hb d_Model_layStates_182 rfl (lv_at hl 4 rfl) ?_
                      refine va_get (D := G.1) (ci := 12) (v := .ref b25) (C := R_Model) (T := F_Model) (N := 54) hx hb hts i_Model hown hK hP 8 rfl rfl 22 (by decide) (hts _ q1131) (fun _ h9 => h9) rfl d_Model_layStates_183 ?_
                      refine lv_iload hx hb d_Model_layStates_186 (lv_at hl 3 rfl) ?_
                      refine lv_iload hx hb d_Model_layStates_188 (lv_at hl 0 rfl) ?_
                      refine lv_iadd hx hb d_Model_layStates_190 ?_
                      refine lv_topi (fun v_1440 ev_1440 => ?_)
                      obtain rfl : v_1420 = v_1440 := ev_1420.trans ev_1440.symm
                      refine lv_iload hx hb d_Model_layStates_191 (lv_at hl 1 rfl) ?_
                      refine va_iast hx hb hK hP hD hS 4 0 rfl rfl (zI.inn hv_1420 (by decide)) d_Model_layStates_193 (fun H locs hP hD hS => ?_)
                      obtain ⟨f_1441, hf_1441, gf_1441, uf_1441, hP, hD⟩ := z_newfu 4 hP hD rfl hy_1302 hv_1310
                      have hP : va_P G.1 classes [(b18, .inl (G.2 0, 2, .inl b58)), (b20, .inl (G.2 0, 520, .inl b59)), (b23, .inl (G.2 0, 482, .inl y_1300)), (b24, .inl (G.2 0, 2, .inl y_1301)), (b25, .inl (G.2 0, 482, .inl f_1441)), (b26, .inl (G.2 0, 482, .inl y_1303)), (b27, .inl (G.2 0, 482, .inl y_1304)), (b4, .inl (G.2 0, 503, .inl b57)), (b0, .inr (12, [.int b3, .ref b4, .ref b5, .ref b6, .ref b7, .int b8, .ref b9, .int b10, .int b11, .int b12, .int b13, .ref b14, .ref b15, .ref b16, .int b17, .ref b18, .ref b19, .ref b20, .ref b21, .ref b22, .ref b23, .ref b24, .ref b25, .ref b26, .ref b27, .ref b28, .ref b29, .int b30, .ref b31, .ref b32, .int b33, .int b34, .int b35, .int b36, .ref b37, .ref b38, .ref b39, .ref b40, .ref b41, .ref b42, .ref b43, .int b44, .ref b45, .ref b46, .int b47, .ref b48, .ref b49, .ref b50, .ref b51, .ref b52, .int b53, .ref b54, .ref b55, .ref b56])), (b21, .inl (G.2 0, 9640, .inl y_763)), (b22, .inl (G.2 0, 482, .inl y_764))] H := hP
                      have hD := z_tie hP hD rfl
                      refine lv_aload_n hx hb d_Model_layStates_194 rfl (lv_at hl 4 rfl) ?_
                      refine va_get (D := G.1) (ci := 12) (v := .ref b26) (C := R_Model) (T := F_Model) (N := 54) hx hb hts i_Model hown hK hP 8 rfl rfl 23 (by decide) (hts _ q1132) (fun _ h9 => h9) rfl d_Model_layStates_195 ?_
                      refine lv_iload hx hb d_Model_layStates_198 (lv_at hl 3 rfl) ?_
                      refine lv_iload hx hb d_Model_layStates_200 (lv_at hl 0 rfl) ?_
                      refine lv_iadd hx hb d_Model_layStates_202 ?_
                      refine lv_topi (fun v_1442 ev_1442 => ?_)
                      obtain rfl : v_1420 = v_1442 := ev_1420.trans ev_1442.symm
                      refine lv_iconst (v := 0) hx hb d_Model_layStates_203 (by decide) ?_
                      refine va_iast hx hb hK hP hD hS 5 0 rfl rfl (zI.inn hv_1420 (by decide)) d_Model_layStates_204 (fun H locs hP hD hS => ?_)
                      obtain ⟨f_1443, gf_1443, uf_1443, hP, hD⟩ := z_newFu 5 hP hD rfl
                      have hP : va_P G.1 classes [(b18, .inl (G.2 0, 2, .inl b58)), (b20, .inl (G.2 0, 520, .inl b59)), (b23, .inl (G.2 0, 482, .inl y_1300)), (b24, .inl (G.2 0, 2, .inl y_1301)), (b25, .inl (G.2 0, 482, .inl f_1441)), (b26, .inl (G.2 0, 482, .inl f_1443)), (b27, .inl (G.2 0, 482, .inl y_1304)), (b4, .inl (G.2 0, 503, .inl b57)), (b0, .inr (12, [.int b3, .ref b4, .ref b5, .ref b6, .ref b7, .int b8, .ref b9, .int b10, .int b11, .int b12, .int b13, .ref b14, .ref b15, .ref b16, .int b17, .ref b18, .ref b19, .ref b20, .ref b21, .ref b22, .ref b23, .ref b24, .ref b25, .ref b26, .ref b27, .ref b28, .ref b29, .int b30, .ref b31, .ref b32, .int b33, .int b34, .int b35, .int b36, .ref b37, .ref b38, .ref b39, .ref b40, .ref b41, .ref b42, .ref b43, .int b44, .ref b45, .ref b46, .int b47, .ref b48, .ref b49, .ref b50, .ref b51, .ref b52, .int b53, .ref b54, .ref b55, .ref b56])), (b21, .inl (G.2 0, 9640, .inl y_763)), (b22, .inl (G.2 0, 482, .inl y_764))] H := hP
                      have hD := z_tie hP hD rfl
                      refine lv_aload_n hx hb d_Model_layStates_205 rfl (lv_at hl 4 rfl) ?_
                      refine va_get (D := G.1) (ci := 12) (v := .ref b27) (C := R_Model) (T := F_Model) (N := 54) hx hb hts i_Model hown hK hP 8 rfl rfl 24 (by decide) (hts _ q1133) (fun _ h9 => h9) rfl d_Model_layStates_206 ?_
                      refine lv_iload hx hb d_Model_layStates_209 (lv_at hl 3 rfl) ?_
                      refine lv_iload hx hb d_Model_layStates_211 (lv_at hl 0 rfl) ?_
                      refine lv_iadd hx hb d_Model_layStates_213 ?_
                      refine lv_topi (fun v_1444 ev_1444 => ?_)
                      obtain rfl : v_1420 = v_1444 := ev_1420.trans ev_1444.symm
                      refine lv_iconst (v := 0) hx hb d_Model_layStates_214 (by decide) ?_
                      refine va_iast hx hb hK hP hD hS 6 0 rfl rfl (zI.inn hv_1420 (by decide)) d_Model_layStates_215 (fun H locs hP hD hS => ?_)
                      obtain ⟨f_1445, gf_1445, uf_1445, hP, hD⟩ := z_newFu 6 hP hD rfl
                      have hP : va_P G.1 classes [(b18, .inl (G.2 0, 2, .inl b58)), (b20, .inl (G.2 0, 520, .inl b59)), (b23, .inl (G.2 0, 482, .inl y_1300)), (b24, .inl (G.2 0, 2, .inl y_1301)), (b25, .inl (G.2 0, 482, .inl f_1441)), (b26, .inl (G.2 0, 482, .inl f_1443)), (b27, .inl (G.2 0, 482, .inl f_1445)), (b4, .inl (G.2 0, 503, .inl b57)), (b0, .inr (12, [.int b3, .ref b4, .ref b5, .ref b6, .ref b7, .int b8, .ref b9, .int b10, .int b11, .int b12, .int b13, .ref b14, .ref b15, .ref b16, .int b17, .ref b18, .ref b19, .ref b20, .ref b21, .ref b22, .ref b23, .ref b24, .ref b25, .ref b26, .ref b27, .ref b28, .ref b29, .int b30, .ref b31, .ref b32, .int b33, .int b34, .int b35, .int b36, .ref b37, .ref b38, .ref b39, .ref b40, .ref b41, .ref b42, .ref b43, .int b44, .ref b45, .ref b46, .int b47, .ref b48, .ref b49, .ref b50, .ref b51, .ref b52, .int b53, .ref b54, .ref b55, .ref b56])), (b21, .inl (G.2 0, 9640, .inl y_763)), (b22, .inl (G.2 0, 482, .inl y_764))] H := hP
                      have hD := z_tie hP hD rfl
                      refine lv_aload_n hx hb d_Model_layStates_216 rfl (lv_at hl 4 rfl) ?_
                      refine va_get (D := G.1) (ci := 12) (v := .ref b24) (C := R_Model) (T := F_Model) (N := 54) hx hb hts i_Model hown hK hP 8 rfl rfl 21 (by decide) (hts _ q1130) (fun _ h9 => h9) rfl d_Model_layStates_217 ?_
                      refine lv_iload_n hx hb d_Model_layStates_220 rfl (lv_at hl 5 rfl) ?_
                      refine lv_dup2_11 hx hb d_Model_layStates_221 rfl rfl ?_
                      refine va_iald hx hb hK hP 3 0 rfl rfl (i := 0) (z_in rfl) d_Model_layStates_222 ?_
                      refine lv_topi (fun v_1446 ev_1446 => ?_)
                      obtain rfl : v_1387 = v_1446 := ev_1387.trans ev_1446.symm
                      refine lv_iconst (v := 1) hx hb d_Model_layStates_223 (by decide) ?_
                      refine lv_iadd hx hb d_Model_layStates_224 ?_
                      refine lv_topi (fun v_1447 ev_1447 => ?_)
                      obtain ⟨qv_1447, hv_1447⟩ := zI_add (l := 2) (h := 241) hv_1419 zc_1 ev_1447 (by decide)
                      rw [li_1] at qv_1447
                      refine va_iast hx hb hK hP hD hS 3 0 rfl rfl (i := 0) (z_in rfl) d_Model_layStates_225 (fun H locs hP hD hS => ?_)
                      obtain ⟨f_1448, hf_1448, gf_1448, uf_1448, hP, hD⟩ := z_newfu 3 hP hD rfl hy_1301 (zI.wk (l' := 0) (h' := 241) hv_1447 (by decide))
                      have hP : va_P G.1 classes [(b18, .inl (G.2 0, 2, .inl b58)), (b20, .inl (G.2 0, 520, .inl b59)), (b23, .inl (G.2 0, 482, .inl y_1300)), (b24, .inl (G.2 0, 2, .inl f_1448)), (b25, .inl (G.2 0, 482, .inl f_1441)), (b26, .inl (G.2 0, 482, .inl f_1443)), (b27, .inl (G.2 0, 482, .inl f_1445)), (b4, .inl (G.2 0, 503, .inl b57)), (b0, .inr (12, [.int b3, .ref b4, .ref b5, .ref b6, .ref b7, .int b8, .ref b9, .int b10, .int b11, .int b12, .int b13, .ref b14, .ref b15, .ref b16, .int b17, .ref b18, .ref b19, .ref b20, .ref b21, .ref b22, .ref b23, .ref b24, .ref b25, .ref b26, .ref b27, .ref b28, .ref b29, .int b30, .ref b31, .ref b32, .int b33, .int b34, .int b35, .int b36, .ref b37, .ref b38, .ref b39, .ref b40, .ref b41, .ref b42, .ref b43, .int b44, .ref b45, .ref b46, .int b47, .ref b48, .ref b49, .ref b50, .ref b51, .ref b52, .int b53, .ref b54, .ref b55, .ref b56])), (b21, .inl (G.2 0, 9640, .inl y_763)), (b22, .inl (G.2 0, 482, .inl y_764))] H := hP
                      have hD := z_tie hP hD rfl
                      refine lv_aload_n hx hb d_Model_layStates_226 rfl (lv_at hl 4 rfl) ?_
                      refine va_get (D := G.1) (ci := 12) (v := .ref b26) (C := R_Model) (T := F_Model) (N := 54) hx hb hts i_Model hown hK hP 8 rfl rfl 23 (by decide) (hts _ q1132) (fun _ h9 => h9) rfl d_Model_layStates_227 ?_
                      refine lv_iload hx hb d_Model_layStates_230 (lv_at hl 3 rfl) ?_
                      refine lv_iload hx hb d_Model_layStates_232 (lv_at hl 0 rfl) ?_
                      refine lv_iadd hx hb d_Model_layStates_234 ?_
                      refine lv_topi (fun v_1449 ev_1449 => ?_)
                      obtain rfl : v_1420 = v_1449 := ev_1420.trans ev_1449.symm
                      refine lv_dup2_11 hx hb d_Model_layStates_235 rfl rfl ?_
                      refine va_iald hx hb hK hP 5 0 rfl rfl (zI.inn hv_1420 (by decide)) d_Model_layStates_236 ?_
                      refine lv_topi (fun v_1450 ev_1450 => ?_)
                      obtain rfl : v_1450 = 0 := ev_1450.trans gf_1443
                      refine lv_iconst (v := 1) hx hb d_Model_layStates_237 (by decide) ?_
                      refine lv_iadd hx hb d_Model_layStates_238 ?_
                      refine z_topi (y := 1) (by decide +kernel) ?_
                      refine va_iast hx hb hK hP hD hS 5 0 rfl rfl (zI.inn hv_1420 (by decide)) d_Model_layStates_239 (fun H locs hP hD hS => ?_)
                      obtain ⟨f_1451, gf_1451, uf_1451, hP, hD⟩ := z_newFu 5 hP hD rfl
                      have hP : va_P G.1 classes [(b18, .inl (G.2 0, 2, .inl b58)), (b20, .inl (G.2 0, 520, .inl b59)), (b23, .inl (G.2 0, 482, .inl y_1300)), (b24, .inl (G.2 0, 2, .inl f_1448)), (b25, .inl (G.2 0, 482, .inl f_1441)), (b26, .inl (G.2 0, 482, .inl f_1451)), (b27, .inl (G.2 0, 482, .inl f_1445)), (b4, .inl (G.2 0, 503, .inl b57)), (b0, .inr (12, [.int b3, .ref b4, .ref b5, .ref b6, .ref b7, .int b8, .ref b9, .int b10, .int b11, .int b12, .int b13, .ref b14, .ref b15, .ref b16, .int b17, .ref b18, .ref b19, .ref b20, .ref b21, .ref b22, .ref b23, .ref b24, .ref b25, .ref b26, .ref b27, .ref b28, .ref b29, .int b30, .ref b31, .ref b32, .int b33, .int b34, .int b35, .int b36, .ref b37, .ref b38, .ref b39, .ref b40, .ref b41, .ref b42, .ref b43, .int b44, .ref b45, .ref b46, .int b47, .ref b48, .ref b49, .ref b50, .ref b51, .ref b52, .int b53, .ref b54, .ref b55, .ref b56])), (b21, .inl (G.2 0, 9640, .inl y_763)), (b22, .inl (G.2 0, 482, .inl y_764))] H := hP
                      have hD := z_tie hP hD rfl
                      refine lv_aload_n hx hb d_Model_layStates_240 rfl (lv_at hl 4 rfl) ?_
                      refine va_get (D := G.1) (ci := 12) (v := .ref b23) (C := R_Model) (T := F_Model) (N := 54) hx hb hts i_Model hown hK hP 8 rfl rfl 20 (by decide) (hts _ q1129) (fun _ h9 => h9) rfl d_Model_layStates_241 ?_
                      refine lv_iload hx hb d_Model_layStates_244 (lv_at hl 3 rfl) ?_
                      refine lv_iload hx hb d_Model_layStates_246 (lv_at hl 1 rfl) ?_
                      refine lv_iadd hx hb d_Model_layStates_248 ?_
                      refine lv_topi (fun v_1452 ev_1452 => ?_)
                      obtain rfl : v_1423 = v_1452 := ev_1423.trans ev_1452.symm
                      refine lv_iload hx hb d_Model_layStates_249 (lv_at hl 0 rfl) ?_
                      refine va_iast hx hb hK hP hD hS 2 0 rfl rfl (zI.inn hv_1423 (by decide)) d_Model_layStates_251 (fun H locs hP hD hS => ?_)
                      obtain ⟨f_1453, hf_1453, gf_1453, uf_1453, hP, hD⟩ := z_newfu 2 hP hD rfl hy_1300 (zI.wk (l' := 0) (h' := 240) hv_1418 (by decide))
                      have hP : va_P G.1 classes [(b18, .inl (G.2 0, 2, .inl b58)), (b20, .inl (G.2 0, 520, .inl b59)), (b23, .inl (G.2 0, 482, .inl f_1453)), (b24, .inl (G.2 0, 2, .inl f_1448)), (b25, .inl (G.2 0, 482, .inl f_1441)), (b26, .inl (G.2 0, 482, .inl f_1451)), (b27, .inl (G.2 0, 482, .inl f_1445)), (b4, .inl (G.2 0, 503, .inl b57)), (b0, .inr (12, [.int b3, .ref b4, .ref b5, .ref b6, .ref b7, .int b8, .ref b9, .int b10, .int b11, .int b12, .int b13, .ref b14, .ref b15, .ref b16, .int b17, .ref b18, .ref b19, .ref b20, .ref b21, .ref b22, .ref b23, .ref b24, .ref b25, .ref b26, .ref b27, .ref b28, .ref b29, .int b30, .ref b31, .ref b32, .int b33, .int b34, .int b35, .int b36, .ref b37, .ref b38, .ref b39, .ref b40, .ref b41, .ref b42, .ref b43, .int b44, .ref b45, .ref b46, .int b47, .ref b48, .ref b49, .ref b50, .ref b51, .ref b52, .int b53, .ref b54, .ref b55, .ref b56])), (b21, .inl (G.2 0, 9640, .inl y_763)), (b22, .inl (G.2 0, 482, .inl y_764))] H := hP
                      have hD := z_tie hP hD rfl
                      obtain ⟨v_1454, ev_1454⟩ : ∃ z : Int32, z = y_1299 + 1 := ⟨_, rfl⟩
                      obtain ⟨qv_1454, hv_1454⟩ := zI_add (l := 1) (h := 241) hv_1310 zc_1 ev_1454 (by decide)
                      rw [li_1] at qv_1454
                      refine lv_iinc (v := v_1454) (lv' := [(6, .int v_1454), (7, .int y_1385), (5, .int 1), (4, .int 0), (0, .ref b0), (1, .int 0), (2, .int b1), (3, .int b2)]) hx hb d_Model_layStates_252 hl (k := 1) rfl (by rw [ev_1454]; rfl) (by decide) rfl (fun ls hl => ?_)
                      refine lv_goto (tgt := 110) hx hb d_Model_layStates_255 (by decide) ?_
                      exact ihk_1298 (v_1454) (f_1453) (f_1448) (f_1441) (f_1451) (f_1445) _ _ _ (zI.wk (l' := 0) (h' := 241) hv_1454 (by decide)) hf_1453 hf_1448 hf_1441 (by rw [gf_1448]; omega) (zm_up qv_1454 hmk_1298 (by decide)) (hP.sub [0, 1, 9, 10, 2, 3, 4, 5, 6, 8, 7] rfl) (hD.sub [0, 1, 9, 10, 2, 3, 4, 5, 6, 8, 7] (by decide) rfl) hS (lv_sub hl [0, 2, 3, 4, 5, 6, 7] rfl)
                  · have _nhc_1426 := hc_1426
                    have ni_1455 := (fa_eq _ _).mp hc_1426
                    rw [li_0] at ni_1455
                    have hv_1456 : zI x_1425 0 0 := zI.eq_l hx_1425 zc_0 hc_1426
                    obtain ⟨v_1457, ev_1457⟩ : ∃ z : Int32, z = y_1385 + 1 := ⟨_, rfl⟩
                    obtain ⟨qv_1457, hv_1457⟩ := zI_add (l := 1) (h := 240) hv_1418 zc_1 ev_1457 (by decide)
                    rw [li_1] at qv_1457
                    refine lv_iinc (v := v_1457) (lv' := [(7, .int v_1457), (6, .int y_1299), (5, .int 1), (4, .int 0), (0, .ref b0), (1, .int 0), (2, .int b1), (3, .int b2)]) hx hb d_Model_layStates_165 hl (k := 0) rfl (by rw [ev_1457]; rfl) (by decide) rfl (fun ls hl => ?_)
                    refine lv_goto (tgt := 129) hx hb d_Model_layStates_168 (by decide) ?_
                    exact ihk_1384 (v_1457) _ _ _ (zI.wk (l' := 0) (h' := 240) hv_1457 (by decide)) (by rw [← ev_1387]; omega) (zm_up qv_1457 hmk_1384 (by decide)) (hP.sub [0, 1, 9, 10, 2, 3, 4, 5, 6, 8, 7] rfl) (hD.sub [0, 1, 9, 10, 2, 3, 4, 5, 6, 8, 7] (by decide) rfl) hS (lv_sub hl [0, 1, 2, 3, 4, 5, 6, 7] rfl)
    · have _nhc_769 := hc_769
      have ni_1458 := (fa_lt _ _).mp (zi_nle hc_769)
      have hv_1459 : zI y_762 0 19 := zI.lt_l hy_762 hx_767 (zi_nle hc_769) (by decide)
      have hv_1460 : zI x_767 1 20 := zI.lt_r hy_762 hx_767 (zi_nle hc_769) (by decide)
      refine lv_iconst (v := 0) hx hb d_Model_layStates_19 (by decide) ?_
      refine lv_istore (lv' := [(6, .int 0), (5, .int y_762), (4, .int 0), (0, .ref b0), (1, .int 0), (2, .int b1), (3, .int b2)]) hx hb d_Model_layStates_20 hl (by decide) rfl (fun ls hl => ?_)
      suffices key : ∀ (k_1490 : Nat) (y_1491 : Int32) (y_1492 : Nat → Int32) (y_1493 : Nat → Int32) (H : Heap) (locs : List Loc) (ls : Array Slot), (zI y_1491 0 13) → (zqa qC y_1493) → (∀ q : Nat, (q : Int) < (b58 (0 : Int32).toNatClampNeg).toInt → (y_1493 (0 + q)).toInt = 0 ∨ (y_1493 (0 + q)).toInt + (q : Int) ≤ 13 * (y_762 : Int32).toInt + (y_1491 : Int32).toInt) → (13 : Int) - y_1491.toInt < (k_1490 : Int) → va_P G.1 classes [(b18, .inl (G.2 0, 2, .inl b58)), (b20, .inl (G.2 0, 520, .inl b59)), (b21, .inl (G.2 0, 9640, .inl y_1492)), (b22, .inl (G.2 0, 482, .inl y_1493)), (b23, .inl (G.2 0, 482, .inl b62)), (b24, .inl (G.2 0, 2, .inl b63)), (b25, .inl (G.2 0, 482, .inl b64)), (b26, .inl (G.2 0, 482, .inl b65)), (b27, .inl (G.2 0, 482, .inl b66)), (b0, .inr (12, [.int b3, .ref b4, .ref b5, .ref b6, .ref b7, .int b8, .ref b9, .int b10, .int b11, .int b12, .int b13, .ref b14, .ref b15, .ref b16, .int b17, .ref b18, .ref b19, .ref b20, .ref b21, .ref b22, .ref b23, .ref b24, .ref b25, .ref b26, .ref b27, .ref b28, .ref b29, .int b30, .ref b31, .ref b32, .int b33, .int b34, .int b35, .int b36, .ref b37, .ref b38, .ref b39, .ref b40, .ref b41, .ref b42, .ref b43, .int b44, .ref b45, .ref b46, .int b47, .ref b48, .ref b49, .ref b50, .ref b51, .ref b52, .int b53, .ref b54, .ref b55, .ref b56])), (b4, .inl (G.2 0, 503, .inl b57))] H → va_D A [(b18, .inl (G.2 0, 2, .inl b58)), (b20, .inl (G.2 0, 520, .inl b59)), (b21, .inl (G.2 0, 9640, .inl y_1492)), (b22, .inl (G.2 0, 482, .inl y_1493)), (b23, .inl (G.2 0, 482, .inl b62)), (b24, .inl (G.2 0, 2, .inl b63)), (b25, .inl (G.2 0, 482, .inl b64)), (b26, .inl (G.2 0, 482, .inl b65)), (b27, .inl (G.2 0, 482, .inl b66)), (b0, .inr (12, [.int b3, .ref b4, .ref b5, .ref b6, .ref b7, .int b8, .ref b9, .int b10, .int b11, .int b12, .int b13, .ref b14, .ref b15, .ref b16, .int b17, .ref b18, .ref b19, .ref b20, .ref b21, .ref b22, .ref b23, .ref b24, .ref b25, .ref b26, .ref b27, .ref b28, .ref b29, .int b30, .ref b31, .ref b32, .int b33, .int b34, .int b35, .int b36, .ref b37, .ref b38, .ref b39, .ref b40, .ref b41, .ref b42, .ref b43, .int b44, .ref b45, .ref b46, .int b47, .ref b48, .ref b49, .ref b50, .ref b51, .ref b52, .int b53, .ref b54, .ref b55, .ref b56])), (b4, .inl (G.2 0, 503, .inl b57))] → va_S A s.heap H locs → lv_has ls 8 [(6, .int y_1491), (5, .int y_762), (4, .int 0), (0, .ref b0), (1, .int 0), (2, .int b1), (3, .int b2)] → W p l e m_s1_Model_layStates s m ([.ref b0, .int 0, .int b1, .int b2] : List Value).toArray below meth c H locs 0 0 (MQ below (zQ G (fun v w => ∃ (e0 : Nat → Int32), ∃ (e1 : Nat → Int32), ∃ (e2 : Nat → Int32), ∃ (e3 : Nat → Int32), ∃ (e4 : Nat → Int32), ∃ (e5 : Nat → Int32), ∃ (e6 : Nat → Int32), v = none ∧ w = [(b0, .inr (12, [.int b3, .ref b4, .ref b5, .ref b6, .ref b7, .int b8, .ref b9, .int b10, .int b11, .int b12, .int b13, .ref b14, .ref b15, .ref b16, .int b17, .ref b18, .ref b19, .ref b20, .ref b21, .ref b22, .ref b23, .ref b24, .ref b25, .ref b26, .ref b27, .ref b28, .ref b29, .int b30, .ref b31, .ref b32, .int b33, .int b34, .int b35, .int b36, .ref b37, .ref b38, .ref b39, .ref b40, .ref b41, .ref b42, .ref b43, .int b44, .ref b45, .ref b46, .int b47, .ref b48, .ref b49, .ref b50, .ref b51, .ref b52, .int b53, .ref b54, .ref b55, .ref b56])), (b4, .inl (G.2 0, 503, .inl b57)), (b18, .inl (G.2 0, 2, .inl b58)), (b20, .inl (G.2 0, 520, .inl b59)), (b21, .inl (G.2 0, 9640, .inl e0)), (b22, .inl (G.2 0, 482, .inl e1)), (b23, .inl (G.2 0, 482, .inl e2)), (b24, .inl (G.2 0, 2, .inl e3)), (b25, .inl (G.2 0, 482, .inl e4)), (b26, .inl (G.2 0, 482, .inl e5)), (b27, .inl (G.2 0, 482, .inl e6))] ∧ (zqa qC e1) ∧ (zR e2 0 240) ∧ (zR e3 0 241) ∧ (zR e4 0 240)) A) ([.ref b0, .int 0, .int b1, .int b2] : List Value).toArray s m_s1_Model_layStates.cells m_s1_Model_layStates.slots A) (F0 m 22 ls []) by
        exact key 14 (0) (y_763) (y_764) _ _ _ (zI.wk (l' := 0) (h' := 13) zc_0 (by decide)) hy_764 (by have _l0 := li_0; intro q hq; have := hli_765 q hq; omega) (zm_upi (zI.wk (l' := 0) (h' := 13) zc_0 (by decide)) (by decide)) hP hD hS (lv_sub hl [0, 1, 2, 3, 4, 5, 6] rfl)
      intro k_1490
      induction k_1490 with
      | zero =>
        intro y_1491 y_1492 y_1493 H locs ls hy_1491 hy_1493 hli_1494 hmk_1490 hP hD hS hl
        exact (zm_up0 hy_1491 hmk_1490).elim
      | succ k_1490 ihk_1490 =>
        intro y_1491 y_1492 y_1493 H locs ls hy_1491 hy_1493 hli_1494 hmk_1490 hP hD hS hl
        refine lv_iload hx hb d_Model_layStates_22 (lv_at hl 0 rfl) ?_
        refine lv_aload_n hx hb d_Model_layStates_24 rfl (lv_at hl 3 rfl) ?_
        refine lv_iload hx hb d_Model_layStates_25 (lv_at hl 1 rfl) ?_
        refine z_callV (index := 203) (As := [.int y_762]) (rest := [.int y_1491]) (wr := [(b18, .inl (G.2 0, 2, .inl b58)), (b20, .inl (G.2 0, 520, .inl b59)), (b21, .inl (G.2 0, 9640, .inl y_1492)), (b22, .inl (G.2 0, 482, .inl y_1493)), (b23, .inl (G.2 0, 482, .inl b62)), (b24, .inl (G.2 0, 2, .inl b63)), (b25, .inl (G.2 0, 482, .inl b64)), (b26, .inl (G.2 0, 482, .inl b65)), (b27, .inl (G.2 0, 482, .inl b66))]) Z (s1_Model_calls l G (b0) (y_762) (b3) (b4) (b5) (b6) (b7) (b8) (b9) (b10) (b11) (b12) (b13) (b14) (b15) (b16) (b17) (b18) (b19) (b20) (b21) (b22) (b23) (b24) (b25) (b26) (b27) (b28) (b29) (b30) (b31) (b32) (b33) (b34) (b35) (b36) (b37) (b38) (b39) (b40) (b41) (b42) (b43) (b44) (b45) (b46) (b47) (b48) (b49) (b50) (b51) (b52) (b53) (b54) (b55) (b56) (b57) hv_1459 hb8 hb10 hb11 hb13 hb17 hb30 hb33 hb44 hb47 hb53 hb57) hl.1 q1352 q1354 qs54 q14 q1355 ⟨by decide, by decide, by show _ = some 1; decide +kernel⟩ ⟨Nat.le_of_ble_eq_true rfl, Nat.le_of_ble_eq_true rfl⟩ ⟨Nat.le_of_ble_eq_true rfl, Nat.le_of_ble_eq_true rfl⟩ rfl (Nat.le_of_ble_eq_true rfl) d_Model_layStates_27 hP hD hS hA 9 12 rfl rfl rfl [9, 10] [0, 1, 2, 3, 4, 5, 6, 7, 8] rfl rfl rfl rfl (by decide) (fun v w1 H locs hw_1495 hP hD hS => ?_)
        obtain ⟨x_1496, rfl, rfl, hx_1496, hfx_1497⟩ := hw_1495
        have hP : va_P G.1 classes [(b18, .inl (G.2 0, 2, .inl b58)), (b20, .inl (G.2 0, 520, .inl b59)), (b21, .inl (G.2 0, 9640, .inl y_1492)), (b22, .inl (G.2 0, 482, .inl y_1493)), (b23, .inl (G.2 0, 482, .inl b62)), (b24, .inl (G.2 0, 2, .inl b63)), (b25, .inl (G.2 0, 482, .inl b64)), (b26, .inl (G.2 0, 482, .inl b65)), (b27, .inl (G.2 0, 482, .inl b66)), (b0, .inr (12, [.int b3, .ref b4, .ref b5, .ref b6, .ref b7, .int b8, .ref b9, .int b10, .int b11, .int b12, .int b13, .ref b14, .ref b15, .ref b16, .int b17, .ref b18, .ref b19, .ref b20, .ref b21, .ref b22, .ref b23, .ref b24, .ref b25, .ref b26, .ref b27, .ref b28, .ref b29, .int b30, .ref b31, .ref b32, .int b33, .int b34, .int b35, .int b36, .ref b37, .ref b38, .ref b39, .ref b40, .ref b41, .ref b42, .ref b43, .int b44, .ref b45, .ref b46, .int b47, .ref b48, .ref b49, .ref b50, .ref b51, .ref b52, .int b53, .ref b54, .ref b55, .ref b56])), (b4, .inl (G.2 0, 503, .inl b57))] H := hP
        have hD := z_tie hP hD rfl
        refine W.widen (k := 0) (n := 0) (Nat.le_of_ble_eq_true rfl) (Nat.le_of_ble_eq_true rfl) ?_
        refine lv_icmp_gt (tgt := 70) hx hb d_Model_layStates_30 (by decide) (fun hc_1498 => ?_) (fun hc_1498 => ?_)
        · have _nhc_1498 := hc_1498
          have ni_1499 := (fa_lt _ _).mp hc_1498
          have hv_1500 : zI y_1491 1 13 := zI.lt_r hx_1496 hy_1491 hc_1498 (by decide)
          obtain ⟨v_1501, ev_1501⟩ : ∃ z : Int32, z = y_762 + 1 := ⟨_, rfl⟩
          obtain ⟨qv_1501, hv_1501⟩ := zI_add (l := 1) (h := 20) hv_1459 zc_1 ev_1501 (by decide)
          rw [li_1] at qv_1501
          refine lv_iinc (v := v_1501) (lv' := [(5, .int v_1501), (6, .int y_1491), (4, .int 0), (0, .ref b0), (1, .int 0), (2, .int b1), (3, .int b2)]) hx hb d_Model_layStates_70 hl (k := 1) rfl (by rw [ev_1501]; rfl) (by decide) rfl (fun ls hl => ?_)
          refine lv_goto (tgt := 10) hx hb d_Model_layStates_73 (by decide) ?_
          exact ihk_761 (v_1501) (y_1492) (y_1493) _ _ _ (zI.wk (l' := 0) (h' := 20) hv_1501 (by decide)) hy_1493 (by intro q hq; have := hli_1494 q hq; omega) (zm_up qv_1501 hmk_761 (by decide)) (hP.sub [9, 10, 0, 1, 2, 3, 4, 5, 6, 7, 8] rfl) (hD.sub [9, 10, 0, 1, 2, 3, 4, 5, 6, 7, 8] (by decide) rfl) hS (lv_sub hl [0, 2, 3, 4, 5, 6] rfl)
        · have _nhc_1498 := hc_1498
          have ni_1502 := (fa_le _ _).mp (zi_nlt hc_1498)
          have hv_1503 : zI y_1491 0 12 := zI.le_l hy_1491 hx_1496 (zi_nlt hc_1498) (by decide)
          refine lv_iload hx hb d_Model_layStates_33 (lv_at hl 1 rfl) ?_
          refine lv_iload_n hx hb d_Model_layStates_35 rfl (lv_at hl 6 rfl) ?_
          refine lv_icmp_eq (tgt := 70) hx hb d_Model_layStates_36 (by decide) (fun hc_1504 => ?_) (fun hc_1504 => ?_)
          · have _nhc_1504 := hc_1504
            have ni_1505 := (fa_eq _ _).mp hc_1504
            have hv_1506 : zI b2 0 19 := zI.eq_l hb2 hv_1459 hc_1504.symm
            obtain ⟨v_1507, ev_1507⟩ : ∃ z : Int32, z = y_762 + 1 := ⟨_, rfl⟩
            obtain ⟨qv_1507, hv_1507⟩ := zI_add (l := 1) (h := 20) hv_1459 zc_1 ev_1507 (by decide)
            rw [li_1] at qv_1507
            refine lv_iinc (v := v_1507) (lv' := [(5, .int v_1507), (6, .int y_1491), (4, .int 0), (0, .ref b0), (1, .int 0), (2, .int b1), (3, .int b2)]) hx hb d_Model_layStates_70 hl (k := 1) rfl (by rw [ev_1507]; rfl) (by decide) rfl (fun ls hl => ?_)
            refine lv_goto (tgt := 10) hx hb d_Model_layStates_73 (by decide) ?_
            exact ihk_761 (v_1507) (y_1492) (y_1493) _ _ _ (zI.wk (l' := 0) (h' := 20) hv_1507 (by decide)) hy_1493 (by intro q hq; have := hli_1494 q hq; omega) (zm_up qv_1507 hmk_761 (by decide)) (hP.sub [9, 10, 0, 1, 2, 3, 4, 5, 6, 7, 8] rfl) (hD.sub [9, 10, 0, 1, 2, 3, 4, 5, 6, 7, 8] (by decide) rfl) hS (lv_sub hl [0, 2, 3, 4, 5, 6] rfl)
          · have _nhc_1504 := hc_1504
            have ni_1508 : ¬ (y_762 : Int32).toInt = (b2 : Int32).toInt := fun z => hc_1504 ((fa_eq _ _).mpr z)
            refine lv_aload_n hx hb d_Model_layStates_39 rfl (lv_at hl 3 rfl) ?_
            refine lv_iload hx hb d_Model_layStates_40 (lv_at hl 2 rfl) ?_
            refine lv_aload_n hx hb d_Model_layStates_42 rfl (lv_at hl 3 rfl) ?_
            refine lv_iload_n hx hb d_Model_layStates_43 rfl (lv_at hl 4 rfl) ?_
            refine lv_iload hx hb d_Model_layStates_44 (lv_at hl 1 rfl) ?_
            refine lv_iload hx hb d_Model_layStates_46 (lv_at hl 0 rfl) ?_
            refine z_callV (index := 211) (As := [.int 0, .int y_762, .int y_1491]) (rest := [.int 0, .ref b0]) (wr := [(b18, .inl (G.2 0, 2, .inl b58)), (b21, .inl (G.2 0, 9640, .inl y_1492)), (b22, .inl (G.2 0, 482, .inl y_1493)), (b23, .inl (G.2 0, 482, .inl b62)), (b24, .inl (G.2 0, 2, .inl b63)), (b25, .inl (G.2 0, 482, .inl b64)), (b26, .inl (G.2 0, 482, .inl b65)), (b27, .inl (G.2 0, 482, .inl b66)), (b4, .inl (G.2 0, 503, .inl b57))]) Z (s1_Model_pathOf l G (b0) (y_762) (y_1491) (b3) (b4) (b5) (b6) (b7) (b8) (b9) (b10) (b11) (b12) (b13) (b14) (b15) (b16) (b17) (b18) (b19) (b20) (b21) (b22) (b23) (b24) (b25) (b26) (b27) (b28) (b29) (b30) (b31) (b32) (b33) (b34) (b35) (b36) (b37) (b38) (b39) (b40) (b41) (b42) (b43) (b44) (b45) (b46) (b47) (b48) (b49) (b50) (b51) (b52) (b53) (b54) (b55) (b56) (b59) hv_1459 hv_1503 hb8 hb10 hb11 hb13 hb17 hb30 hb33 hb44 hb47 hb53 hb59) hl.1 q1380 q1382 qs61 q14 q1383 ⟨by decide, by decide, by show _ = some 3; decide +kernel⟩ ⟨Nat.le_of_ble_eq_true rfl, Nat.le_of_ble_eq_true rfl⟩ ⟨Nat.le_of_ble_eq_true rfl, Nat.le_of_ble_eq_true rfl⟩ rfl (Nat.le_of_ble_eq_true rfl) d_Model_layStates_48 hP hD hS hA 9 12 rfl rfl rfl [9, 1] [0, 2, 3, 4, 5, 6, 7, 8, 10] rfl rfl rfl rfl (by decide) (fun v w1 H locs hw_1509 hP hD hS => ?_)
            obtain ⟨x_1510, rfl, rfl, hx_1510, hfx_1511, hfx_1512⟩ := hw_1509
            have hP : va_P G.1 classes [(b18, .inl (G.2 0, 2, .inl b58)), (b21, .inl (G.2 0, 9640, .inl y_1492)), (b22, .inl (G.2 0, 482, .inl y_1493)), (b23, .inl (G.2 0, 482, .inl b62)), (b24, .inl (G.2 0, 2, .inl b63)), (b25, .inl (G.2 0, 482, .inl b64)), (b26, .inl (G.2 0, 482, .inl b65)), (b27, .inl (G.2 0, 482, .inl b66)), (b4, .inl (G.2 0, 503, .inl b57)), (b0, .inr (12, [.int b3, .ref b4, .ref b5, .ref b6, .ref b7, .int b8, .ref b9, .int b10, .int b11, .int b12, .int b13, .ref b14, .ref b15, .ref b16, .int b17, .ref b18, .ref b19, .ref b20, .ref b21, .ref b22, .ref b23, .ref b24, .ref b25, .ref b26, .ref b27, .ref b28, .ref b29, .int b30, .ref b31, .ref b32, .int b33, .int b34, .int b35, .int b36, .ref b37, .ref b38, .ref b39, .ref b40, .ref b41, .ref b42, .ref b43, .int b44, .ref b45, .ref b46, .int b47, .ref b48, .ref b49, .ref b50, .ref b51, .ref b52, .int b53, .ref b54, .ref b55, .ref b56])), (b20, .inl (G.2 0, 520, .inl b59))] H := hP
            have hD := z_tie hP hD rfl
            refine W.widen (k := 0) (n := 0) (Nat.le_of_ble_eq_true rfl) (Nat.le_of_ble_eq_true rfl) ?_
            refine lv_iadd hx hb d_Model_layStates_51 ?_
            refine lv_topi (fun v_1513 ev_1513 => ?_)
            obtain ⟨qv_1513, hv_1513⟩ := zI_add (l := 0) (h := 240) zc_0 hx_1510 ev_1513 (by decide)
            rw [li_0] at qv_1513
            refine lv_aload_n hx hb d_Model_layStates_52 rfl (lv_at hl 3 rfl) ?_
            refine lv_iload hx hb d_Model_layStates_53 (lv_at hl 1 rfl) ?_
            refine lv_iload hx hb d_Model_layStates_55 (lv_at hl 0 rfl) ?_
            refine lv_iload_n hx hb d_Model_layStates_57 rfl (lv_at hl 5 rfl) ?_
            refine z_callV (index := 214) (As := [.int y_762, .int y_1491, .int b1]) (rest := [.int v_1513, .ref b0]) (wr := [(b18, .inl (G.2 0, 2, .inl b58)), (b21, .inl (G.2 0, 9640, .inl y_1492)), (b22, .inl (G.2 0, 482, .inl y_1493)), (b23, .inl (G.2 0, 482, .inl b62)), (b24, .inl (G.2 0, 2, .inl b63)), (b25, .inl (G.2 0, 482, .inl b64)), (b26, .inl (G.2 0, 482, .inl b65)), (b27, .inl (G.2 0, 482, .inl b66)), (b20, .inl (G.2 0, 520, .inl b59))]) Z (s1_Model_rowBehind l G (b0) (y_762) (y_1491) (b1) (b3) (b4) (b5) (b6) (b7) (b8) (b9) (b10) (b11) (b12) (b13) (b14) (b15) (b16) (b17) (b18) (b19) (b20) (b21) (b22) (b23) (b24) (b25) (b26) (b27) (b28) (b29) (b30) (b31) (b32) (b33) (b34) (b35) (b36) (b37) (b38) (b39) (b40) (b41) (b42) (b43) (b44) (b45) (b46) (b47) (b48) (b49) (b50) (b51) (b52) (b53) (b54) (b55) (b56) (b57) hv_1459 hv_1503 hb1 hb8 hb10 hb11 hb13 hb17 hb30 hb33 hb44 hb47 hb53 hb57) hl.1 q1384 q1386 qs62 q14 q1387 ⟨by decide, by decide, by show _ = some 3; decide +kernel⟩ ⟨Nat.le_of_ble_eq_true rfl, Nat.le_of_ble_eq_true rfl⟩ ⟨Nat.le_of_ble_eq_true rfl, Nat.le_of_ble_eq_true rfl⟩ rfl (Nat.le_of_ble_eq_true rfl) d_Model_layStates_58 hP hD hS hA 9 12 rfl rfl rfl [9, 8] [0, 1, 2, 3, 4, 5, 6, 7, 10] rfl rfl rfl rfl (by decide) (fun v w1 H locs hw_1514 hP hD hS => ?_)
            obtain ⟨x_1515, rfl, rfl⟩ := hw_1514
            have hP : va_P G.1 classes [(b18, .inl (G.2 0, 2, .inl b58)), (b21, .inl (G.2 0, 9640, .inl y_1492)), (b22, .inl (G.2 0, 482, .inl y_1493)), (b23, .inl (G.2 0, 482, .inl b62)), (b24, .inl (G.2 0, 2, .inl b63)), (b25, .inl (G.2 0, 482, .inl b64)), (b26, .inl (G.2 0, 482, .inl b65)), (b27, .inl (G.2 0, 482, .inl b66)), (b20, .inl (G.2 0, 520, .inl b59)), (b0, .inr (12, [.int b3, .ref b4, .ref b5, .ref b6, .ref b7, .int b8, .ref b9, .int b10, .int b11, .int b12, .int b13, .ref b14, .ref b15, .ref b16, .int b17, .ref b18, .ref b19, .ref b20, .ref b21, .ref b22, .ref b23, .ref b24, .ref b25, .ref b26, .ref b27, .ref b28, .ref b29, .int b30, .ref b31, .ref b32, .int b33, .int b34, .int b35, .int b36, .ref b37, .ref b38, .ref b39, .ref b40, .ref b41, .ref b42, .ref b43, .int b44, .ref b45, .ref b46, .int b47, .ref b48, .ref b49, .ref b50, .ref b51, .ref b52, .int b53, .ref b54, .ref b55, .ref b56])), (b4, .inl (G.2 0, 503, .inl b57))] H := hP
            have hD := z_tie hP hD rfl
            refine W.widen (k := 0) (n := 0) (Nat.le_of_ble_eq_true rfl) (Nat.le_of_ble_eq_true rfl) ?_
            refine z_callV (index := 217) (As := [.int v_1513, .int x_1515]) (rest := []) (wr := [(b18, .inl (G.2 0, 2, .inl b58)), (b23, .inl (G.2 0, 482, .inl b62)), (b24, .inl (G.2 0, 2, .inl b63)), (b25, .inl (G.2 0, 482, .inl b64)), (b26, .inl (G.2 0, 482, .inl b65)), (b27, .inl (G.2 0, 482, .inl b66)), (b20, .inl (G.2 0, 520, .inl b59)), (b4, .inl (G.2 0, 503, .inl b57))]) Z (s1_Model_addFollow l G (b0) (v_1513) (x_1515) (b3) (b4) (b5) (b6) (b7) (b8) (b9) (b10) (b11) (b12) (b13) (b14) (b15) (b16) (b17) (b18) (b19) (b20) (b21) (b22) (b23) (b24) (b25) (b26) (b27) (b28) (b29) (b30) (b31) (b32) (b33) (b34) (b35) (b36) (b37) (b38) (b39) (b40) (b41) (b42) (b43) (b44) (b45) (b46) (b47) (b48) (b49) (b50) (b51) (b52) (b53) (b54) (b55) (b56) (y_1492) (y_1493) (zI.wk (l' := 0) (h' := 481) hv_1513 (by decide)) hb8 hb10 hb11 hb13 hb17 hb30 hb33 hb44 hb47 hb53 hy_1493 (by have p9 := z_pl hv_1513 (by decide); have p7 := z_pl hx_1510 (by decide); have p8 : x_1510.toInt < (b58 (0 : Int32).toNatClampNeg).toInt := (by rw [hfx_1511]; exact htm _ _ (by rw [← hfx_768]; omega) (by omega) (by rw [← hfx_1497]; omega)); have p6 : v_1513.toNatClampNeg = 0 + x_1510.toNatClampNeg := (by omega); have := hli_1494 x_1510.toNatClampNeg (by omega); rw [← p6] at this; omega)) hl.1 q1388 q1390 qs63 q14 q1391 ⟨by decide, by decide, by show _ = some 2; decide +kernel⟩ ⟨Nat.le_of_ble_eq_true rfl, Nat.le_of_ble_eq_true rfl⟩ ⟨Nat.le_of_ble_eq_true rfl, Nat.le_of_ble_eq_true rfl⟩ rfl (Nat.le_of_ble_eq_true rfl) d_Model_layStates_61 hP hD hS hA 9 12 rfl rfl rfl [9, 1, 2] [0, 3, 4, 5, 6, 7, 8, 10] rfl rfl rfl rfl (by decide) (fun v w1 H locs hw_1516 hP hD hS => ?_)
            obtain ⟨f_1517, f_1518, rfl, rfl, hf_1518, hfx_1519⟩ := hw_1516
            have hP : va_P G.1 classes [(b18, .inl (G.2 0, 2, .inl b58)), (b23, .inl (G.2 0, 482, .inl b62)), (b24, .inl (G.2 0, 2, .inl b63)), (b25, .inl (G.2 0, 482, .inl b64)), (b26, .inl (G.2 0, 482, .inl b65)), (b27, .inl (G.2 0, 482, .inl b66)), (b20, .inl (G.2 0, 520, .inl b59)), (b4, .inl (G.2 0, 503, .inl b57)), (b0, .inr (12, [.int b3, .ref b4, .ref b5, .ref b6, .ref b7, .int b8, .ref b9, .int b10, .int b11, .int b12, .int b13, .ref b14, .ref b15, .ref b16, .int b17, .ref b18, .ref b19, .ref b20, .ref b21, .ref b22, .ref b23, .ref b24, .ref b25, .ref b26, .ref b27, .ref b28, .ref b29, .int b30, .ref b31, .ref b32, .int b33, .int b34, .int b35, .int b36, .ref b37, .ref b38, .ref b39, .ref b40, .ref b41, .ref b42, .ref b43, .int b44, .ref b45, .ref b46, .int b47, .ref b48, .ref b49, .ref b50, .ref b51, .ref b52, .int b53, .ref b54, .ref b55, .ref b56])), (b21, .inl (G.2 0, 9640, .inl f_1517)), (b22, .inl (G.2 0, 482, .inl f_1518))] H := hP
            have hD := z_tie hP hD rfl
            refine W.widen (k := 0) (n := 0) (Nat.le_of_ble_eq_true rfl) (Nat.le_of_ble_eq_true rfl) ?_
            obtain ⟨v_1520, ev_1520⟩ : ∃ z : Int32, z = y_1491 + 1 := ⟨_, rfl⟩
            obtain ⟨qv_1520, hv_1520⟩ := zI_add (l := 1) (h := 13) hv_1503 zc_1 ev_1520 (by decide)
            rw [li_1] at qv_1520
            refine lv_iinc (v := v_1520) (lv' := [(6, .int v_1520), (5, .int y_762), (4, .int 0), (0, .ref b0), (1, .int 0), (2, .int b1), (3, .int b2)]) hx hb d_Model_layStates_64 hl (k := 0) rfl (by rw [ev_1520]; rfl) (by decide) rfl (fun ls hl => ?_)
            refine lv_goto (tgt := 22) hx hb d_Model_layStates_67 (by decide) ?_
            exact ihk_1490 (v_1520) (f_1517) (f_1518) _ _ _ (zI.wk (l' := 0) (h' := 13) hv_1520 (by decide)) hf_1518 (by have _l0 := li_0; have _l1 := li_1; have p9 := z_pl hv_1513 (by decide); intro q hq; have _a := hli_1494 q hq; have _b := hfx_1512; rcases hfx_1519 (0 + q) with h | ⟨h, h2⟩ <;> omega) (zm_up qv_1520 hmk_1490 (by decide)) (hP.sub [0, 6, 9, 10, 1, 2, 3, 4, 5, 8, 7] rfl) (hD.sub [0, 6, 9, 10, 1, 2, 3, 4, 5, 8, 7] (by decide) rfl) hS (lv_sub hl [0, 1, 2, 3, 4, 5, 6] rfl)
abbrev m_s2_Model_layStates : Room := { frames := 2, cells := 0, slots := 0, locals := 48 }
set_option maxHeartbeats 4000000 in
set_option maxRecDepth 100000 in
theorem s2_Model_layStates (l : Launch) (G : zG) (b0 : Nat) (b1 : Int32) (b2 : Int32) (b3 : Int32) (b4 : Nat) (b5 : Nat) (b6 : Nat) (b7 : Nat) (b8 : Int32) (b9 : Nat) (b10 : Int32) (b11 : Int32) (b12 : Int32) (b13 : Int32) (b14 : Nat) (b15 : Nat) (b16 : Nat) (b17 : Int32) (b18 : Nat) (b19 : Nat) (b20 : Nat) (b21 : Nat) (b22 : Nat) (b23 : Nat) (b24 : Nat) (b25 : Nat) (b26 : Nat) (b27 : Nat) (b28 : Nat) (b29 : Nat) (b30 : Int32) (b31 : Nat) (b32 : Nat) (b33 : Int32) (b34 : Int32) (b35 : Int32) (b36 : Int32) (b37 : Nat) (b38 : Nat) (b39 : Nat) (b40 : Nat) (b41 : Nat) (b42 : Nat) (b43 : Nat) (b44 : Int32) (b45 : Nat) (b46 : Nat) (b47 : Int32) (b48 : Nat) (b49 : Nat) (b50 : Nat) (b51 : Nat) (b52 : Nat) (b53 : Int32) (b54 : Nat) (b55 : Nat) (b56 : Nat) (b57 : Nat → Int32) (b58 : Nat → Int32) (b59 : Nat → Int32) (b60 : Nat → Int32) (b61 : Nat → Int32) (b62 : Nat → Int32) (b63 : Nat → Int32) (b64 : Nat → Int32) (b65 : Nat → Int32) (b66 : Nat → Int32) (hb1 : zI b1 0 3) (hb2 : zI b2 (-1) 19) (hb8 : zI b8 0 8) (hb10 : zI b10 0 240) (hb11 : zI b11 0 240) (hb13 : zI b13 0 1) (hb17 : zI b17 0 12) (hb30 : zI b30 0 1) (hb33 : zI b33 0 1) (hb44 : zI b44 0 1000) (hb47 : zI b47 0 1000) (hb53 : zI b53 0 400) (hb57 : zW5 b57) (hb58 : zR b58 0 241) (hb59 : zqa qP b59) (hb61 : zqa qC b61) (hb62 : zR b62 0 240) (hb63 : zR b63 0 241) (hb64 : zR b64 0 240) (htm : zTm ((b57 (0 : Int32).toNatClampNeg).toInt) (b2 : Int32).toInt (b58 (1 : Int32).toNatClampNeg).toInt 260 b57 b59) (hz0 : ∀ q : Nat, (q : Int) < (b58 (1 : Int32).toNatClampNeg).toInt → (b61 (241 + q)).toInt = 0) : zM l G y_Model_layStates prog_14_method_31_code 8 (Option.none : Option Jvm.ClassFile.FieldType) m_s2_Model_layStates [.ref b0, .int 1, .int b1, .int b2] [(b0, .inr (12, [.int b3, .ref b4, .ref b5, .ref b6, .ref b7, .int b8, .ref b9, .int b10, .int b11, .int b12, .int b13, .ref b14, .ref b15, .ref b16, .int b17, .ref b18, .ref b19, .ref b20, .ref b21, .ref b22, .ref b23, .ref b24, .ref b25, .ref b26, .ref b27, .ref b28, .ref b29, .int b30, .ref b31, .ref b32, .int b33, .int b34, .int b35, .int b36, .ref b37, .ref b38, .ref b39, .ref b40, .ref b41, .ref b42, .ref b43, .int b44, .ref b45, .ref b46, .int b47, .ref b48, .ref b49, .ref b50, .ref b51, .ref b52, .int b53, .ref b54, .ref b55, .ref b56])), (b4, .inl (G.2 0, 503, .inl b57)), (b18, .inl (G.2 0, 2, .inl b58)), (b20, .inl (G.2 0, 520, .inl b59)), (b21, .inl (G.2 0, 9640, .inl b60)), (b22, .inl (G.2 0, 482, .inl b61)), (b23, .inl (G.2 0, 482, .inl b62)), (b24, .inl (G.2 0, 2, .inl b63)), (b25, .inl (G.2 0, 482, .inl b64)), (b26, .inl (G.2 0, 482, .inl b65)), (b27, .inl (G.2 0, 482, .inl b66))] (fun v w => ∃ (e0 : Nat → Int32), ∃ (e1 : Nat → Int32), ∃ (e2 : Nat → Int32), ∃ (e3 : Nat → Int32), ∃ (e4 : Nat → Int32), ∃ (e5 : Nat → Int32), ∃ (e6 : Nat → Int32), v = none ∧ w = [(b0, .inr (12, [.int b3, .ref b4, .ref b5, .ref b6, .ref b7, .int b8, .ref b9, .int b10, .int b11, .int b12, .int b13, .ref b14, .ref b15, .ref b16, .int b17, .ref b18, .ref b19, .ref b20, .ref b21, .ref b22, .ref b23, .ref b24, .ref b25, .ref b26, .ref b27, .ref b28, .ref b29, .int b30, .ref b31, .ref b32, .int b33, .int b34, .int b35, .int b36, .ref b37, .ref b38, .ref b39, .ref b40, .ref b41, .ref b42, .ref b43, .int b44, .ref b45, .ref b46, .int b47, .ref b48, .ref b49, .ref b50, .ref b51, .ref b52, .int b53, .ref b54, .ref b55, .ref b56])), (b4, .inl (G.2 0, 503, .inl b57)), (b18, .inl (G.2 0, 2, .inl b58)), (b20, .inl (G.2 0, 520, .inl b59)), (b21, .inl (G.2 0, 9640, .inl e0)), (b22, .inl (G.2 0, 482, .inl e1)), (b23, .inl (G.2 0, 482, .inl e2)), (b24, .inl (G.2 0, 2, .inl e3)), (b25, .inl (G.2 0, 482, .inl e4)), (b26, .inl (G.2 0, 482, .inl e5)), (b27, .inl (G.2 0, 482, .inl e6))] ∧ (zqa qC e1) ∧ (zR e2 0 240) ∧ (zR e3 0 241) ∧ (zR e4 0 240)) := by
  refine z_start (by decide +kernel) (Nat.le_of_ble_eq_true rfl) ?_
  intro p e s m below meth c A Z hr hnm hA hP hD hS ls hl
  have Z : zC p s m _ meth c prog_14_method_31_code 8 "TraceMachinesModel" G := Z
  obtain ⟨hx, hb, hml, hown, hts, hK, hN, hlocks⟩ := id Z
  have hl : lv_has ls 8 [(0, .ref b0), (1, .int 1), (2, .int b1), (3, .int b2)] := hl
  refine lv_sipush (v := 241) hx hb d_Model_layStates_0 (by decide) ?_
  refine lv_iload_n hx hb d_Model_layStates_3 rfl (lv_at hl 1 rfl) ?_
  refine lv_imul hx hb d_Model_layStates_4 ?_
  refine z_topi (y := 241) (by decide +kernel) ?_
  refine lv_istore (lv' := [(4, .int 241), (0, .ref b0), (1, .int 1), (2, .int b1), (3, .int b2)]) hx hb d_Model_layStates_5 hl (by decide) rfl (fun ls hl => ?_)
  refine lv_iconst (v := 0) hx hb d_Model_layStates_7 (by decide) ?_
  refine lv_istore (lv' := [(5, .int 0), (4, .int 241), (0, .ref b0), (1, .int 1), (2, .int b1), (3, .int b2)]) hx hb d_Model_layStates_8 hl (by decide) rfl (fun ls hl => ?_)
  suffices key : ∀ (k_761 : Nat) (y_762 : Int32) (y_763 : Nat → Int32) (y_764 : Nat → Int32) (H : Heap) (locs : List Loc) (ls : Array Slot), (zI y_762 0 20) → (zqa qC y_764) → (∀ q : Nat, (q : Int) < (b58 (1 : Int32).toNatClampNeg).toInt → (y_764 (241 + q)).toInt = 0 ∨ (y_764 (241 + q)).toInt + (q : Int) ≤ 13 * (y_762 : Int32).toInt) → (20 : Int) - y_762.toInt < (k_761 : Int) → va_P G.1 classes [(b0, .inr (12, [.int b3, .ref b4, .ref b5, .ref b6, .ref b7, .int b8, .ref b9, .int b10, .int b11, .int b12, .int b13, .ref b14, .ref b15, .ref b16, .int b17, .ref b18, .ref b19, .ref b20, .ref b21, .ref b22, .ref b23, .ref b24, .ref b25, .ref b26, .ref b27, .ref b28, .ref b29, .int b30, .ref b31, .ref b32, .int b33, .int b34, .int b35, .int b36, .ref b37, .ref b38, .ref b39, .ref b40, .ref b41, .ref b42, .ref b43, .int b44, .ref b45, .ref b46, .int b47, .ref b48, .ref b49, .ref b50, .ref b51, .ref b52, .int b53, .ref b54, .ref b55, .ref b56])), (b4, .inl (G.2 0, 503, .inl b57)), (b18, .inl (G.2 0, 2, .inl b58)), (b20, .inl (G.2 0, 520, .inl b59)), (b21, .inl (G.2 0, 9640, .inl y_763)), (b22, .inl (G.2 0, 482, .inl y_764)), (b23, .inl (G.2 0, 482, .inl b62)), (b24, .inl (G.2 0, 2, .inl b63)), (b25, .inl (G.2 0, 482, .inl b64)), (b26, .inl (G.2 0, 482, .inl b65)), (b27, .inl (G.2 0, 482, .inl b66))] H → va_D A [(b0, .inr (12, [.int b3, .ref b4, .ref b5, .ref b6, .ref b7, .int b8, .ref b9, .int b10, .int b11, .int b12, .int b13, .ref b14, .ref b15, .ref b16, .int b17, .ref b18, .ref b19, .ref b20, .ref b21, .ref b22, .ref b23, .ref b24, .ref b25, .ref b26, .ref b27, .ref b28, .ref b29, .int b30, .ref b31, .ref b32, .int b33, .int b34, .int b35, .int b36, .ref b37, .ref b38, .ref b39, .ref b40, .ref b41, .ref b42, .ref b43, .int b44, .ref b45, .ref b46, .int b47, .ref b48, .ref b49, .ref b50, .ref b51, .ref b52, .int b53, .ref b54, .ref b55, .ref b56])), (b4, .inl (G.2 0, 503, .inl b57)), (b18, .inl (G.2 0, 2, .inl b58)), (b20, .inl (G.2 0, 520, .inl b59)), (b21, .inl (G.2 0, 9640, .inl y_763)), (b22, .inl (G.2 0, 482, .inl y_764)), (b23, .inl (G.2 0, 482, .inl b62)), (b24, .inl (G.2 0, 2, .inl b63)), (b25, .inl (G.2 0, 482, .inl b64)), (b26, .inl (G.2 0, 482, .inl b65)), (b27, .inl (G.2 0, 482, .inl b66))] → va_S A s.heap H locs → lv_has ls 8 [(5, .int y_762), (4, .int 241), (0, .ref b0), (1, .int 1), (2, .int b1), (3, .int b2)] → W p l e m_s2_Model_layStates s m ([.ref b0, .int 1, .int b1, .int b2] : List Value).toArray below meth c H locs 0 0 (MQ below (zQ G (fun v w => ∃ (e0 : Nat → Int32), ∃ (e1 : Nat → Int32), ∃ (e2 : Nat → Int32), ∃ (e3 : Nat → Int32), ∃ (e4 : Nat → Int32), ∃ (e5 : Nat → Int32), ∃ (e6 : Nat → Int32), v = none ∧ w = [(b0, .inr (12, [.int b3, .ref b4, .ref b5, .ref b6, .ref b7, .int b8, .ref b9, .int b10, .int b11, .int b12, .int b13, .ref b14, .ref b15, .ref b16, .int b17, .ref b18, .ref b19, .ref b20, .ref b21, .ref b22, .ref b23, .ref b24, .ref b25, .ref b26, .ref b27, .ref b28, .ref b29, .int b30, .ref b31, .ref b32, .int b33, .int b34, .int b35, .int b36, .ref b37, .ref b38, .ref b39, .ref b40, .ref b41, .ref b42, .ref b43, .int b44, .ref b45, .ref b46, .int b47, .ref b48, .ref b49, .ref b50, .ref b51, .ref b52, .int b53, .ref b54, .ref b55, .ref b56])), (b4, .inl (G.2 0, 503, .inl b57)), (b18, .inl (G.2 0, 2, .inl b58)), (b20, .inl (G.2 0, 520, .inl b59)), (b21, .inl (G.2 0, 9640, .inl e0)), (b22, .inl (G.2 0, 482, .inl e1)), (b23, .inl (G.2 0, 482, .inl e2)), (b24, .inl (G.2 0, 2, .inl e3)), (b25, .inl (G.2 0, 482, .inl e4)), (b26, .inl (G.2 0, 482, .inl e5)), (b27, .inl (G.2 0, 482, .inl e6))] ∧ (zqa qC e1) ∧ (zR e2 0 240) ∧ (zR e3 0 241) ∧ (zR e4 0 240)) A) ([.ref b0, .int 1, .int b1, .int b2] : List Value).toArray s m_s2_Model_layStates.cells m_s2_Model_layStates.slots A) (F0 m 10 ls []) by
    exact key 21 (0) (b60) (b61) _ _ _ (zI.wk (l' := 0) (h' := 20) zc_0 (by decide)) hb61 (fun q hq => Or.inl (hz0 q hq)) (zm_upi (zI.wk (l' := 0) (h' := 20) zc_0 (by decide)) (by decide)) hP hD hS (lv_sub hl [0, 1, 2, 3, 4, 5] rfl)
  intro k_761
  induction k_761 with
  | zero =>
    intro y_762 y_763 y_764 H locs ls hy_762 hy_764 hli_765 hmk_761 hP hD hS hl
    exact (zm_up0 hy_762 hmk_761).elim
  | succ k_761 ihk_761 =>
    intro y_762 y_763 y_764 H locs ls hy_762 hy_764 hli_765 hmk_761 hP hD hS hl
    refine lv_iload hx hb d_Model_layStates_10 (lv_at hl 0 rfl) ?_
    refine lv_aload_n hx hb d_Model_layStates_12 rfl (lv_at hl 2 rfl) ?_
    refine z_callV (index := 134) (As := []) (rest := [.int y_762]) (wr := [(b18, .inl (G.2 0, 2, .inl b58)), (b20, .inl (G.2 0, 520, .inl b59)), (b21, .inl (G.2 0, 9640, .inl y_763)), (b22, .inl (G.2 0, 482, .inl y_764)), (b23, .inl (G.2 0, 482, .inl b62)), (b24, .inl (G.2 0, 2, .inl b63)), (b25, .inl (G.2 0, 482, .inl b64)), (b26, .inl (G.2 0, 482, .inl b65)), (b27, .inl (G.2 0, 482, .inl b66))]) Z (s1_Model_many l G (b0) (b3) (b4) (b5) (b6) (b7) (b8) (b9) (b10) (b11) (b12) (b13) (b14) (b15) (b16) (b17) (b18) (b19) (b20) (b21) (b22) (b23) (b24) (b25) (b26) (b27) (b28) (b29) (b30) (b31) (b32) (b33) (b34) (b35) (b36) (b37) (b38) (b39) (b40) (b41) (b42) (b43) (b44) (b45) (b46) (b47) (b48) (b49) (b50) (b51) (b52) (b53) (b54) (b55) (b56) (b57) hb8 hb10 hb11 hb13 hb17 hb30 hb33 hb44 hb47 hb53 hb57) hl.1 q1320 q1322 qs51 q14 q1323 ⟨by decide, by decide, by show _ = some 0; decide +kernel⟩ ⟨Nat.le_of_ble_eq_true rfl, Nat.le_of_ble_eq_true rfl⟩ ⟨Nat.le_of_ble_eq_true rfl, Nat.le_of_ble_eq_true rfl⟩ rfl (Nat.le_of_ble_eq_true rfl) d_Model_layStates_13 hP hD hS hA 0 12 rfl rfl rfl [0, 1] [2, 3, 4, 5, 6, 7, 8, 9, 10] rfl rfl rfl rfl (by decide) (fun v w1 H locs hw_766 hP hD hS => ?_)
    obtain ⟨x_767, rfl, rfl, hx_767, hfx_768⟩ := hw_766
    have hP : va_P G.1 classes [(b18, .inl (G.2 0, 2, .inl b58)), (b20, .inl (G.2 0, 520, .inl b59)), (b21, .inl (G.2 0, 9640, .inl y_763)), (b22, .inl (G.2 0, 482, .inl y_764)), (b23, .inl (G.2 0, 482, .inl b62)), (b24, .inl (G.2 0, 2, .inl b63)), (b25, .inl (G.2 0, 482, .inl b64)), (b26, .inl (G.2 0, 482, .inl b65)), (b27, .inl (G.2 0, 482, .inl b66)), (b0, .inr (12, [.int b3, .ref b4, .ref b5, .ref b6, .ref b7, .int b8, .ref b9, .int b10, .int b11, .int b12, .int b13, .ref b14, .ref b15, .ref b16, .int b17, .ref b18, .ref b19, .ref b20, .ref b21, .ref b22, .ref b23, .ref b24, .ref b25, .ref b26, .ref b27, .ref b28, .ref b29, .int b30, .ref b31, .ref b32, .int b33, .int b34, .int b35, .int b36, .ref b37, .ref b38, .ref b39, .ref b40, .ref b41, .ref b42, .ref b43, .int b44, .ref b45, .ref b46, .int b47, .ref b48, .ref b49, .ref b50, .ref b51, .ref b52, .int b53, .ref b54, .ref b55, .ref b56])), (b4, .inl (G.2 0, 503, .inl b57))] H := hP
    have hD := z_tie hP hD rfl
    refine W.widen (k := 0) (n := 0) (Nat.le_of_ble_eq_true rfl) (Nat.le_of_ble_eq_true rfl) ?_
    refine lv_icmp_ge (tgt := 76) hx hb d_Model_layStates_16 (by decide) (fun hc_769 => ?_) (fun hc_769 => ?_)
    · have _nhc_769 := hc_769
      have ni_770 := (fa_le _ _).mp hc_769
      refine lv_aload_n hx hb d_Model_layStates_76 rfl (lv_at hl 2 rfl) ?_
      refine va_get (D := G.1) (ci := 12) (v := .ref b24) (C := R_Model) (T := F_Model) (N := 54) hx hb hts i_Model hown hK hP 9 rfl rfl 21 (by decide) (hts _ q1130) (fun _ h9 => h9) rfl d_Model_layStates_77 ?_
      refine lv_iload_n hx hb d_Model_layStates_80 rfl (lv_at hl 3 rfl) ?_
      refine lv_iconst (v := 0) hx hb d_Model_layStates_81 (by decide) ?_
      refine va_iast hx hb hK hP hD hS 5 0 rfl rfl (i := 1) (z_in rfl) d_Model_layStates_82 (fun H locs hP hD hS => ?_)
      obtain ⟨f_771, hf_771, gf_771, uf_771, hP, hD⟩ := z_newfu 5 hP hD rfl hb63 (zI.wk (l' := 0) (h' := 241) zc_0 (by decide))
      have hP : va_P G.1 classes [(b18, .inl (G.2 0, 2, .inl b58)), (b20, .inl (G.2 0, 520, .inl b59)), (b21, .inl (G.2 0, 9640, .inl y_763)), (b22, .inl (G.2 0, 482, .inl y_764)), (b23, .inl (G.2 0, 482, .inl b62)), (b24, .inl (G.2 0, 2, .inl f_771)), (b25, .inl (G.2 0, 482, .inl b64)), (b26, .inl (G.2 0, 482, .inl b65)), (b27, .inl (G.2 0, 482, .inl b66)), (b0, .inr (12, [.int b3, .ref b4, .ref b5, .ref b6, .ref b7, .int b8, .ref b9, .int b10, .int b11, .int b12, .int b13, .ref b14, .ref b15, .ref b16, .int b17, .ref b18, .ref b19, .ref b20, .ref b21, .ref b22, .ref b23, .ref b24, .ref b25, .ref b26, .ref b27, .ref b28, .ref b29, .int b30, .ref b31, .ref b32, .int b33, .int b34, .int b35, .int b36, .ref b37, .ref b38, .ref b39, .ref b40, .ref b41, .ref b42, .ref b43, .int b44, .ref b45, .ref b46, .int b47, .ref b48, .ref b49, .ref b50, .ref b51, .ref b52, .int b53, .ref b54, .ref b55, .ref b56])), (b4, .inl (G.2 0, 503, .inl b57))] H := hP
      have hD := z_tie hP hD rfl
      refine lv_aload_n hx hb d_Model_layStates_83 rfl (lv_at hl 2 rfl) ?_
      refine z_callV (index := 134) (As := []) (rest := []) (wr := [(b18, .inl (G.2 0, 2, .inl b58)), (b20, .inl (G.2 0, 520, .inl b59)), (b21, .inl (G.2 0, 9640, .inl y_763)), (b22, .inl (G.2 0, 482, .inl y_764)), (b23, .inl (G.2 0, 482, .inl b62)), (b24, .inl (G.2 0, 2, .inl f_771)), (b25, .inl (G.2 0, 482, .inl b64)), (b26, .inl (G.2 0, 482, .inl b65)), (b27, .inl (G.2 0, 482, .inl b66))]) Z (s1_Model_many l G (b0) (b3) (b4) (b5) (b6) (b7) (b8) (b9) (b10) (b11) (b12) (b13) (b14) (b15) (b16) (b17) (b18) (b19) (b20) (b21) (b22) (b23) (b24) (b25) (b26) (b27) (b28) (b29) (b30) (b31) (b32) (b33) (b34) (b35) (b36) (b37) (b38) (b39) (b40) (b41) (b42) (b43) (b44) (b45) (b46) (b47) (b48) (b49) (b50) (b51) (b52) (b53) (b54) (b55) (b56) (b57) hb8 hb10 hb11 hb13 hb17 hb30 hb33 hb44 hb47 hb53 hb57) hl.1 q1320 q1322 qs51 q14 q1323 ⟨by decide, by decide, by show _ = some 0; decide +kernel⟩ ⟨Nat.le_of_ble_eq_true rfl, Nat.le_of_ble_eq_true rfl⟩ ⟨Nat.le_of_ble_eq_true rfl, Nat.le_of_ble_eq_true rfl⟩ rfl (Nat.le_of_ble_eq_true rfl) d_Model_layStates_84 hP hD hS hA 9 12 rfl rfl rfl [9, 10] [0, 1, 2, 3, 4, 5, 6, 7, 8] rfl rfl rfl rfl (by decide) (fun v w1 H locs hw_772 hP hD hS => ?_)
      obtain ⟨x_773, rfl, rfl, hx_773, hfx_774⟩ := hw_772
      have hP : va_P G.1 classes [(b18, .inl (G.2 0, 2, .inl b58)), (b20, .inl (G.2 0, 520, .inl b59)), (b21, .inl (G.2 0, 9640, .inl y_763)), (b22, .inl (G.2 0, 482, .inl y_764)), (b23, .inl (G.2 0, 482, .inl b62)), (b24, .inl (G.2 0, 2, .inl f_771)), (b25, .inl (G.2 0, 482, .inl b64)), (b26, .inl (G.2 0, 482, .inl b65)), (b27, .inl (G.2 0, 482, .inl b66)), (b0, .inr (12, [.int b3, .ref b4, .ref b5, .ref b6, .ref b7, .int b8, .ref b9, .int b10, .int b11, .int b12, .int b13, .ref b14, .ref b15, .ref b16, .int b17, .ref b18, .ref b19, .ref b20, .ref b21, .ref b22, .ref b23, .ref b24, .ref b25, .ref b26, .ref b27, .ref b28, .ref b29, .int b30, .ref b31, .ref b32, .int b33, .int b34, .int b35, .int b36, .ref b37, .ref b38, .ref b39, .ref b40, .ref b41, .ref b42, .ref b43, .int b44, .ref b45, .ref b46, .int b47, .ref b48, .ref b49, .ref b50, .ref b51, .ref b52, .int b53, .ref b54, .ref b55, .ref b56])), (b4, .inl (G.2 0, 503, .inl b57))] H := hP
      have hD := z_tie hP hD rfl
      refine W.widen (k := 0) (n := 0) (Nat.le_of_ble_eq_true rfl) (Nat.le_of_ble_eq_true rfl) ?_
      refine lv_iload_n hx hb d_Model_layStates_87 rfl (lv_at hl 5 rfl) ?_
      refine lv_iconst (v := (-1)) hx hb d_Model_layStates_88 (by decide) ?_
      refine lv_icmp_ne (tgt := 96) hx hb d_Model_layStates_89 (by decide) (fun hc_775 => ?_) (fun hc_775 => ?_)
      · have _nhc_775 := hc_775
        have ni_776 : ¬ (b2 : Int32).toInt = ((-1) : Int32).toInt := fun z => hc_775 ((fa_eq _ _).mpr z)
        simp only [li_m1] at ni_776
        have hv_777 : zI b2 0 19 := zI.ne_lo hb2 zc_m1 hc_775 (by decide)
        refine lv_iconst (v := 1) hx hb d_Model_layStates_96 (by decide) ?_
        refine lv_icmp_le (tgt := 104) hx hb d_Model_layStates_97 (by decide) (fun hc_778 => ?_) (fun hc_778 => ?_)
        · have _nhc_778 := hc_778
          have ni_779 := (fa_le _ _).mp hc_778
          rw [li_1] at ni_779
          have hv_780 : zI x_773 0 1 := zI.le_l hx_773 zc_1 hc_778 (by decide)
          refine lv_iconst (v := 0) hx hb d_Model_layStates_104 (by decide) ?_
          refine lv_istore (lv' := [(5, .int 0), (4, .int 241), (0, .ref b0), (1, .int 1), (2, .int b1), (3, .int b2)]) hx hb d_Model_layStates_105 hl (by decide) rfl (fun ls hl => ?_)
          refine lv_iconst (v := 0) hx hb d_Model_layStates_107 (by decide) ?_
          refine lv_istore (lv' := [(6, .int 0), (5, .int 0), (4, .int 241), (0, .ref b0), (1, .int 1), (2, .int b1), (3, .int b2)]) hx hb d_Model_layStates_108 hl (by decide) rfl (fun ls hl => ?_)
          refine lv_iload hx hb d_Model_layStates_110 (lv_at hl 0 rfl) ?_
          refine lv_aload_n hx hb d_Model_layStates_112 rfl (lv_at hl 3 rfl) ?_
          refine va_get (D := G.1) (ci := 12) (v := .ref b18) (C := R_Model) (T := F_Model) (N := 54) hx hb hts i_Model hown hK hP 9 rfl rfl 15 (by decide) (hts _ q1124) (fun _ h9 => h9) rfl d_Model_layStates_113 ?_
          refine lv_iload_n hx hb d_Model_layStates_116 rfl (lv_at hl 4 rfl) ?_
          refine va_iald hx hb hK hP 0 0 rfl rfl (i := 1) (z_in rfl) d_Model_layStates_117 ?_
          refine lv_topi (fun v_793 ev_793 => ?_)
          have hv_793 : zI v_793 0 241 := (hb58 _).eq ev_793
          refine lv_icmp_ge (tgt := 258) hx hb d_Model_layStates_118 (by decide) (fun hc_794 => ?_) (fun hc_794 => ?_)
          · have _nhc_794 := hc_794
            have ni_795 := (fa_le _ _).mp hc_794
            rw [li_0] at ni_795
            have hv_796 : zI v_793 0 0 := zI.le_l hv_793 zc_0 hc_794 (by decide)
            exact z_vret hx hb hr hlocks (hP.sub [9, 10, 0, 1, 2, 3, 4, 5, 6, 7, 8] rfl) (hD.sub [9, 10, 0, 1, 2, 3, 4, 5, 6, 7, 8] (by decide) rfl) hS (Nat.le_of_ble_eq_true rfl) (Nat.le_of_ble_eq_true rfl) d_Model_layStates_258 ⟨y_763, y_764, b62, f_771, b64, b65, b66, rfl, rfl, hy_764, hb62, hf_771, hb64⟩
          · have _nhc_794 := hc_794
            have ni_797 := (fa_lt _ _).mp (zi_nle hc_794)
            rw [li_0] at ni_797
            have hv_798 : zI v_793 1 241 := zI.lt_r zc_0 hv_793 (zi_nle hc_794) (by decide)
            refine lv_iload hx hb d_Model_layStates_121 (lv_at hl 1 rfl) ?_
            refine lv_if_eq (tgt := 258) hx hb d_Model_layStates_123 (by decide) (fun _ => ?_) (fun hc => absurd hc (by decide +kernel))
            exact z_vret hx hb hr hlocks (hP.sub [9, 10, 0, 1, 2, 3, 4, 5, 6, 7, 8] rfl) (hD.sub [9, 10, 0, 1, 2, 3, 4, 5, 6, 7, 8] (by decide) rfl) hS (Nat.le_of_ble_eq_true rfl) (Nat.le_of_ble_eq_true rfl) d_Model_layStates_258 ⟨y_763, y_764, b62, f_771, b64, b65, b66, rfl, rfl, hy_764, hb62, hf_771, hb64⟩
        · have _nhc_778 := hc_778
          have ni_799 := (fa_lt _ _).mp (zi_nle hc_778)
          rw [li_1] at ni_799
          have hv_800 : zI x_773 2 20 := zI.lt_r zc_1 hx_773 (zi_nle hc_778) (by decide)
          refine lv_iconst (v := 1) hx hb d_Model_layStates_100 (by decide) ?_
          refine lv_goto (tgt := 105) hx hb d_Model_layStates_101 (by decide) ?_
          refine lv_istore (lv' := [(5, .int 1), (4, .int 241), (0, .ref b0), (1, .int 1), (2, .int b1), (3, .int b2)]) hx hb d_Model_layStates_105 hl (by decide) rfl (fun ls hl => ?_)
          refine lv_iconst (v := 0) hx hb d_Model_layStates_107 (by decide) ?_
          refine lv_istore (lv' := [(6, .int 0), (5, .int 1), (4, .int 241), (0, .ref b0), (1, .int 1), (2, .int b1), (3, .int b2)]) hx hb d_Model_layStates_108 hl (by decide) rfl (fun ls hl => ?_)
          suffices key : ∀ (k_957 : Nat) (y_958 : Int32) (y_959 : Nat → Int32) (y_960 : Nat → Int32) (y_961 : Nat → Int32) (y_962 : Nat → Int32) (y_963 : Nat → Int32) (H : Heap) (locs : List Loc) (ls : Array Slot), (zI y_958 0 241) → (zR y_959 0 240) → (zR y_960 0 241) → (zR y_961 0 240) → ((y_960 (1 : Int32).toNatClampNeg).toInt ≤ (y_958 : Int32).toInt) → (241 : Int) - y_958.toInt < (k_957 : Int) → va_P G.1 classes [(b18, .inl (G.2 0, 2, .inl b58)), (b20, .inl (G.2 0, 520, .inl b59)), (b21, .inl (G.2 0, 9640, .inl y_763)), (b22, .inl (G.2 0, 482, .inl y_764)), (b23, .inl (G.2 0, 482, .inl y_959)), (b24, .inl (G.2 0, 2, .inl y_960)), (b25, .inl (G.2 0, 482, .inl y_961)), (b26, .inl (G.2 0, 482, .inl y_962)), (b27, .inl (G.2 0, 482, .inl y_963)), (b0, .inr (12, [.int b3, .ref b4, .ref b5, .ref b6, .ref b7, .int b8, .ref b9, .int b10, .int b11, .int b12, .int b13, .ref b14, .ref b15, .ref b16, .int b17, .ref b18, .ref b19, .ref b20, .ref b21, .ref b22, .ref b23, .ref b24, .ref b25, .ref b26, .ref b27, .ref b28, .ref b29, .int b30, .ref b31, .ref b32, .int b33, .int b34, .int b35, .int b36, .ref b37, .ref b38, .ref b39, .ref b40, .ref b41, .ref b42, .ref b43, .int b44, .ref b45, .ref b46, .int b47, .ref b48, .ref b49, .ref b50, .ref b51, .ref b52, .int b53, .ref b54, .ref b55, .ref b56])), (b4, .inl (G.2 0, 503, .inl b57))] H → va_D A [(b18, .inl (G.2 0, 2, .inl b58)), (b20, .inl (G.2 0, 520, .inl b59)), (b21, .inl (G.2 0, 9640, .inl y_763)), (b22, .inl (G.2 0, 482, .inl y_764)), (b23, .inl (G.2 0, 482, .inl y_959)), (b24, .inl (G.2 0, 2, .inl y_960)), (b25, .inl (G.2 0, 482, .inl y_961)), (b26, .inl (G.2 0, 482, .inl y_962)), (b27, .inl (G.2 0, 482, .inl y_963)), (b0, .inr (12, [.int b3, .ref b4, .ref b5, .ref b6, .ref b7, .int b8, .ref b9, .int b10, .int b11, .int b12, .int b13, .ref b14, .ref b15, .ref b16, .int b17, .ref b18, .ref b19, .ref b20, .ref b21, .ref b22, .ref b23, .ref b24, .ref b25, .ref b26, .ref b27, .ref b28, .ref b29, .int b30, .ref b31, .ref b32, .int b33, .int b34, .int b35, .int b36, .ref b37, .ref b38, .ref b39, .ref b40, .ref b41, .ref b42, .ref b43, .int b44, .ref b45, .ref b46, .int b47, .ref b48, .ref b49, .ref b50, .ref b51, .ref b52, .int b53, .ref b54, .ref b55, .ref b56])), (b4, .inl (G.2 0, 503, .inl b57))] → va_S A s.heap H locs → lv_has ls 8 [(6, .int y_958), (5, .int 1), (4, .int 241), (0, .ref b0), (1, .int 1), (2, .int b1), (3, .int b2)] → W p l e m_s2_Model_layStates s m ([.ref b0, .int 1, .int b1, .int b2] : List Value).toArray below meth c H locs 0 0 (MQ below (zQ G (fun v w => ∃ (e0 : Nat → Int32), ∃ (e1 : Nat → Int32), ∃ (e2 : Nat → Int32), ∃ (e3 : Nat → Int32), ∃ (e4 : Nat → Int32), ∃ (e5 : Nat → Int32), ∃ (e6 : Nat → Int32), v = none ∧ w = [(b0, .inr (12, [.int b3, .ref b4, .ref b5, .ref b6, .ref b7, .int b8, .ref b9, .int b10, .int b11, .int b12, .int b13, .ref b14, .ref b15, .ref b16, .int b17, .ref b18, .ref b19, .ref b20, .ref b21, .ref b22, .ref b23, .ref b24, .ref b25, .ref b26, .ref b27, .ref b28, .ref b29, .int b30, .ref b31, .ref b32, .int b33, .int b34, .int b35, .int b36, .ref b37, .ref b38, .ref b39, .ref b40, .ref b41, .ref b42, .ref b43, .int b44, .ref b45, .ref b46, .int b47, .ref b48, .ref b49, .ref b50, .ref b51, .ref b52, .int b53, .ref b54, .ref b55, .ref b56])), (b4, .inl (G.2 0, 503, .inl b57)), (b18, .inl (G.2 0, 2, .inl b58)), (b20, .inl (G.2 0, 520, .inl b59)), (b21, .inl (G.2 0, 9640, .inl e0)), (b22, .inl (G.2 0, 482, .inl e1)), (b23, .inl (G.2 0, 482, .inl e2)), (b24, .inl (G.2 0, 2, .inl e3)), (b25, .inl (G.2 0, 482, .inl e4)), (b26, .inl (G.2 0, 482, .inl e5)), (b27, .inl (G.2 0, 482, .inl e6))] ∧ (zqa qC e1) ∧ (zR e2 0 240) ∧ (zR e3 0 241) ∧ (zR e4 0 240)) A) ([.ref b0, .int 1, .int b1, .int b2] : List Value).toArray s m_s2_Model_layStates.cells m_s2_Model_layStates.slots A) (F0 m 110 ls []) by
            exact key 242 (0) (b62) (f_771) (b64) (b65) (b66) _ _ _ (zI.wk (l' := 0) (h' := 241) zc_0 (by decide)) hb62 hf_771 hb64 (by rw [gf_771]; have _l0 := li_0; omega) (zm_upi (zI.wk (l' := 0) (h' := 241) zc_0 (by decide)) (by decide)) hP hD hS (lv_sub hl [0, 1, 2, 3, 4, 5, 6] rfl)
          intro k_957
          induction k_957 with
          | zero =>
            intro y_958 y_959 y_960 y_961 y_962 y_963 H locs ls hy_958 hy_959 hy_960 hy_961 hli_964 hmk_957 hP hD hS hl
            exact (zm_up0 hy_958 hmk_957).elim
          | succ k_957 ihk_957 =>
            intro y_958 y_959 y_960 y_961 y_962 y_963 H locs ls hy_958 hy_959 hy_960 hy_961 hli_964 hmk_957 hP hD hS hl
            refine lv_iload hx hb d_Model_layStates_110 (lv_at hl 0 rfl) ?_
            refine lv_aload_n hx hb d_Model_layStates_112 rfl (lv_at hl 3 rfl) ?_
            refine va_get (D := G.1) (ci := 12) (v := .ref b18) (C := R_Model) (T := F_Model) (N := 54) hx hb hts i_Model hown hK hP 9 rfl rfl 15 (by decide) (hts _ q1124) (fun _ h9 => h9) rfl d_Model_layStates_113 ?_
            refine lv_iload_n hx hb d_Model_layStates_116 rfl (lv_at hl 4 rfl) ?_
            refine va_iald hx hb hK hP 0 0 rfl rfl (i := 1) (z_in rfl) d_Model_layStates_117 ?_
            refine lv_topi (fun v_965 ev_965 => ?_)
            have hv_965 : zI v_965 0 241 := (hb58 _).eq ev_965
            refine lv_icmp_ge (tgt := 258) hx hb d_Model_layStates_118 (by decide) (fun hc_966 => ?_) (fun hc_966 => ?_)
            · have _nhc_966 := hc_966
              have ni_967 := (fa_le _ _).mp hc_966
              exact z_vret hx hb hr hlocks (hP.sub [9, 10, 0, 1, 2, 3, 4, 5, 6, 7, 8] rfl) (hD.sub [9, 10, 0, 1, 2, 3, 4, 5, 6, 7, 8] (by decide) rfl) hS (Nat.le_of_ble_eq_true rfl) (Nat.le_of_ble_eq_true rfl) d_Model_layStates_258 ⟨y_763, y_764, y_959, y_960, y_961, y_962, y_963, rfl, rfl, hy_764, hy_959, hy_960, hy_961⟩
            · have _nhc_966 := hc_966
              have ni_968 := (fa_lt _ _).mp (zi_nle hc_966)
              have hv_969 : zI y_958 0 240 := zI.lt_l hy_958 hv_965 (zi_nle hc_966) (by decide)
              have hv_970 : zI v_965 1 241 := zI.lt_r hy_958 hv_965 (zi_nle hc_966) (by decide)
              refine lv_iload hx hb d_Model_layStates_121 (lv_at hl 1 rfl) ?_
              refine lv_if_eq (tgt := 258) hx hb d_Model_layStates_123 (by decide) (fun hc => absurd hc (by decide +kernel)) (fun _ => ?_)
              refine lv_iconst (v := 0) hx hb d_Model_layStates_126 (by decide) ?_
              refine lv_istore (lv' := [(7, .int 0), (6, .int y_958), (5, .int 1), (4, .int 241), (0, .ref b0), (1, .int 1), (2, .int b1), (3, .int b2)]) hx hb d_Model_layStates_127 hl (by decide) rfl (fun ls hl => ?_)
              suffices key : ∀ (k_1043 : Nat) (y_1044 : Int32) (H : Heap) (locs : List Loc) (ls : Array Slot), (zI y_1044 0 240) → ((y_1044 : Int32).toInt ≤ (y_960 (1 : Int32).toNatClampNeg).toInt) → (240 : Int) - y_1044.toInt < (k_1043 : Int) → va_P G.1 classes [(b18, .inl (G.2 0, 2, .inl b58)), (b20, .inl (G.2 0, 520, .inl b59)), (b21, .inl (G.2 0, 9640, .inl y_763)), (b22, .inl (G.2 0, 482, .inl y_764)), (b23, .inl (G.2 0, 482, .inl y_959)), (b24, .inl (G.2 0, 2, .inl y_960)), (b25, .inl (G.2 0, 482, .inl y_961)), (b26, .inl (G.2 0, 482, .inl y_962)), (b27, .inl (G.2 0, 482, .inl y_963)), (b0, .inr (12, [.int b3, .ref b4, .ref b5, .ref b6, .ref b7, .int b8, .ref b9, .int b10, .int b11, .int b12, .int b13, .ref b14, .ref b15, .ref b16, .int b17, .ref b18, .ref b19, .ref b20, .ref b21, .ref b22, .ref b23, .ref b24, .ref b25, .ref b26, .ref b27, .ref b28, .ref b29, .int b30, .ref b31, .ref b32, .int b33, .int b34, .int b35, .int b36, .ref b37, .ref b38, .ref b39, .ref b40, .ref b41, .ref b42, .ref b43, .int b44, .ref b45, .ref b46, .int b47, .ref b48, .ref b49, .ref b50, .ref b51, .ref b52, .int b53, .ref b54, .ref b55, .ref b56])), (b4, .inl (G.2 0, 503, .inl b57))] H → va_D A [(b18, .inl (G.2 0, 2, .inl b58)), (b20, .inl (G.2 0, 520, .inl b59)), (b21, .inl (G.2 0, 9640, .inl y_763)), (b22, .inl (G.2 0, 482, .inl y_764)), (b23, .inl (G.2 0, 482, .inl y_959)), (b24, .inl (G.2 0, 2, .inl y_960)), (b25, .inl (G.2 0, 482, .inl y_961)), (b26, .inl (G.2 0, 482, .inl y_962)), (b27, .inl (G.2 0, 482, .inl y_963)), (b0, .inr (12, [.int b3, .ref b4, .ref b5, .ref b6, .ref b7, .int b8, .ref b9, .int b10, .int b11, .int b12, .int b13, .ref b14, .ref b15, .ref b16, .int b17, .ref b18, .ref b19, .ref b20, .ref b21, .ref b22, .ref b23, .ref b24, .ref b25, .ref b26, .ref b27, .ref b28, .ref b29, .int b30, .ref b31, .ref b32, .int b33, .int b34, .int b35, .int b36, .ref b37, .ref b38, .ref b39, .ref b40, .ref b41, .ref b42, .ref b43, .int b44, .ref b45, .ref b46, .int b47, .ref b48, .ref b49, .ref b50, .ref b51, .ref b52, .int b53, .ref b54, .ref b55, .ref b56])), (b4, .inl (G.2 0, 503, .inl b57))] → va_S A s.heap H locs → lv_has ls 8 [(7, .int y_1044), (6, .int y_958), (5, .int 1), (4, .int 241), (0, .ref b0), (1, .int 1), (2, .int b1), (3, .int b2)] → W p l e m_s2_Model_layStates s m ([.ref b0, .int 1, .int b1, .int b2] : List Value).toArray below meth c H locs 0 0 (MQ below (zQ G (fun v w => ∃ (e0 : Nat → Int32), ∃ (e1 : Nat → Int32), ∃ (e2 : Nat → Int32), ∃ (e3 : Nat → Int32), ∃ (e4 : Nat → Int32), ∃ (e5 : Nat → Int32), ∃ (e6 : Nat → Int32), v = none ∧ w = [(b0, .inr (12, [.int b3, .ref b4, .ref b5, .ref b6, .ref b7, .int b8, .ref b9, .int b10, .int b11, .int b12, .int b13, .ref b14, .ref b15, .ref b16, .int b17, .ref b18, .ref b19, .ref b20, .ref b21, .ref b22, .ref b23, .ref b24, .ref b25, .ref b26, .ref b27, .ref b28, .ref b29, .int b30, .ref b31, .ref b32, .int b33, .int b34, .int b35, .int b36, .ref b37, .ref b38, .ref b39, .ref b40, .ref b41, .ref b42, .ref b43, .int b44, .ref b45, .ref b46, .int b47, .ref b48, .ref b49, .ref b50, .ref b51, .ref b52, .int b53, .ref b54, .ref b55, .ref b56])), (b4, .inl (G.2 0, 503, .inl b57)), (b18, .inl (G.2 0, 2, .inl b58)), (b20, .inl (G.2 0, 520, .inl b59)), (b21, .inl (G.2 0, 9640, .inl e0)), (b22, .inl (G.2 0, 482, .inl e1)), (b23, .inl (G.2 0, 482, .inl e2)), (b24, .inl (G.2 0, 2, .inl e3)), (b25, .inl (G.2 0, 482, .inl e4)), (b26, .inl (G.2 0, 482, .inl e5)), (b27, .inl (G.2 0, 482, .inl e6))] ∧ (zqa qC e1) ∧ (zR e2 0 240) ∧ (zR e3 0 241) ∧ (zR e4 0 240)) A) ([.ref b0, .int 1, .int b1, .int b2] : List Value).toArray s m_s2_Model_layStates.cells m_s2_Model_layStates.slots A) (F0 m 129 ls []) by
                exact key 241 (0) _ _ _ (zI.wk (l' := 0) (h' := 240) zc_0 (by decide)) (by have _l0 := li_0; have h9 := hy_960 (1 : Int32).toNatClampNeg; omega) (zm_upi (zI.wk (l' := 0) (h' := 240) zc_0 (by decide)) (by decide)) hP hD hS (lv_sub hl [0, 1, 2, 3, 4, 5, 6, 7] rfl)
              intro k_1043
              induction k_1043 with
              | zero =>
                intro y_1044 H locs ls hy_1044 hli_1045 hmk_1043 hP hD hS hl
                exact (zm_up0 hy_1044 hmk_1043).elim
              | succ k_1043 ihk_1043 =>
                intro y_1044 H locs ls hy_1044 hli_1045 hmk_1043 hP hD hS hl
                refine lv_iload hx hb d_Model_layStates_129 (lv_at hl 0 rfl) ?_
                refine lv_aload_n hx hb d_Model_layStates_131 rfl (lv_at hl 4 rfl) ?_
                refine va_get (D := G.1) (ci := 12) (v := .ref b24) (C := R_Model) (T := F_Model) (N := 54) hx hb hts i_Model hown hK hP 9 rfl rfl 21 (by decide) (hts _ q1130) (fun _ h9 => h9) rfl d_Model_layStates_132 ?_
                refine lv_iload_n hx hb d_Model_layStates_135 rfl (lv_at hl 5 rfl) ?_
                refine va_iald hx hb hK hP 5 0 rfl rfl (i := 1) (z_in rfl) d_Model_layStates_136 ?_
                refine lv_topi (fun v_1046 ev_1046 => ?_)
                have hv_1046 : zI v_1046 0 241 := (hy_960 _).eq ev_1046
                have hv_1047 : zI v_1046 0 240 := ⟨hv_1046.1, by rw [ev_1046]; omega⟩
                have hsmv_1046 : v_1046.toInt ≤ y_958.toInt := by rw [ev_1046]; omega
                refine lv_icmp_ge (tgt := 171) hx hb d_Model_layStates_137 (by decide) (fun hc_1048 => ?_) (fun hc_1048 => ?_)
                · have _nhc_1048 := hc_1048
                  have ni_1049 := (fa_le _ _).mp hc_1048
                  refine lv_iload hx hb d_Model_layStates_171 (lv_at hl 0 rfl) ?_
                  refine lv_aload_n hx hb d_Model_layStates_173 rfl (lv_at hl 4 rfl) ?_
                  refine va_get (D := G.1) (ci := 12) (v := .ref b24) (C := R_Model) (T := F_Model) (N := 54) hx hb hts i_Model hown hK hP 9 rfl rfl 21 (by decide) (hts _ q1130) (fun _ h9 => h9) rfl d_Model_layStates_174 ?_
                  refine lv_iload_n hx hb d_Model_layStates_177 rfl (lv_at hl 5 rfl) ?_
                  refine va_iald hx hb hK hP 5 0 rfl rfl (i := 1) (z_in rfl) d_Model_layStates_178 ?_
                  refine lv_topi (fun v_1050 ev_1050 => ?_)
                  obtain rfl : v_1046 = v_1050 := ev_1046.trans ev_1050.symm
                  refine lv_icmp_ne (tgt := 226) hx hb d_Model_layStates_179 (by decide) (fun hc_1051 => ?_) (fun hc_1051 => ?_)
                  · have _nhc_1051 := hc_1051
                    have ni_1052 : ¬ (y_1044 : Int32).toInt = (v_1046 : Int32).toInt := fun z => hc_1051 ((fa_eq _ _).mpr z)
                    refine lv_aload_n hx hb d_Model_layStates_226 rfl (lv_at hl 4 rfl) ?_
                    refine va_get (D := G.1) (ci := 12) (v := .ref b26) (C := R_Model) (T := F_Model) (N := 54) hx hb hts i_Model hown hK hP 9 rfl rfl 23 (by decide) (hts _ q1132) (fun _ h9 => h9) rfl d_Model_layStates_227 ?_
                    refine lv_iload hx hb d_Model_layStates_230 (lv_at hl 3 rfl) ?_
                    refine lv_iload hx hb d_Model_layStates_232 (lv_at hl 0 rfl) ?_
                    refine lv_iadd hx hb d_Model_layStates_234 ?_
                    refine lv_topi (fun v_1053 ev_1053 => ?_)
                    obtain ⟨qv_1053, hv_1053⟩ := zI_add (l := 241) (h := 481) zc_241 hy_1044 ev_1053 (by decide)
                    rw [li_241] at qv_1053
                    refine lv_dup2_11 hx hb d_Model_layStates_235 rfl rfl ?_
                    refine va_iald hx hb hK hP 7 0 rfl rfl (zI.inn hv_1053 (by decide)) d_Model_layStates_236 ?_
                    refine lv_topi (fun v_1054 ev_1054 => ?_)
                    refine lv_iconst (v := 1) hx hb d_Model_layStates_237 (by decide) ?_
                    refine lv_iadd hx hb d_Model_layStates_238 ?_
                    refine lv_topi (fun v_1055 ev_1055 => ?_)
                    refine va_iast hx hb hK hP hD hS 7 0 rfl rfl (zI.inn hv_1053 (by decide)) d_Model_layStates_239 (fun H locs hP hD hS => ?_)
                    obtain ⟨f_1056, gf_1056, uf_1056, hP, hD⟩ := z_newFu 7 hP hD rfl
                    have hP : va_P G.1 classes [(b18, .inl (G.2 0, 2, .inl b58)), (b20, .inl (G.2 0, 520, .inl b59)), (b21, .inl (G.2 0, 9640, .inl y_763)), (b22, .inl (G.2 0, 482, .inl y_764)), (b23, .inl (G.2 0, 482, .inl y_959)), (b24, .inl (G.2 0, 2, .inl y_960)), (b25, .inl (G.2 0, 482, .inl y_961)), (b26, .inl (G.2 0, 482, .inl f_1056)), (b27, .inl (G.2 0, 482, .inl y_963)), (b0, .inr (12, [.int b3, .ref b4, .ref b5, .ref b6, .ref b7, .int b8, .ref b9, .int b10, .int b11, .int b12, .int b13, .ref b14, .ref b15, .ref b16, .int b17, .ref b18, .ref b19, .ref b20, .ref b21, .ref b22, .ref b23, .ref b24, .ref b25, .ref b26, .ref b27, .ref b28, .ref b29, .int b30, .ref b31, .ref b32, .int b33, .int b34, .int b35, .int b36, .ref b37, .ref b38, .ref b39, .ref b40, .ref b41, .ref b42, .ref b43, .int b44, .ref b45, .ref b46, .int b47, .ref b48, .ref b49, .ref b50, .ref b51, .ref b52, .int b53, .ref b54, .ref b55, .ref b56])), (b4, .inl (G.2 0, 503, .inl b57))] H := hP
                    have hD := z_tie hP hD rfl
                    refine lv_aload_n hx hb d_Model_layStates_240 rfl (lv_at hl 4 rfl) ?_
                    refine va_get (D := G.1) (ci := 12) (v := .ref b23) (C := R_Model) (T := F_Model) (N := 54) hx hb hts i_Model hown hK hP 9 rfl rfl 20 (by decide) (hts _ q1129) (fun _ h9 => h9) rfl d_Model_layStates_241 ?_
                    refine lv_iload hx hb d_Model_layStates_244 (lv_at hl 3 rfl) ?_
                    refine lv_iload hx hb d_Model_layStates_246 (lv_at hl 1 rfl) ?_
                    refine lv_iadd hx hb d_Model_layStates_248 ?_
                    refine lv_topi (fun v_1057 ev_1057 => ?_)
                    obtain ⟨qv_1057, hv_1057⟩ := zI_add (l := 241) (h := 481) zc_241 hv_969 ev_1057 (by decide)
                    rw [li_241] at qv_1057
                    refine lv_iload hx hb d_Model_layStates_249 (lv_at hl 0 rfl) ?_
                    refine va_iast hx hb hK hP hD hS 4 0 rfl rfl (zI.inn hv_1057 (by decide)) d_Model_layStates_251 (fun H locs hP hD hS => ?_)
                    obtain ⟨f_1058, hf_1058, gf_1058, uf_1058, hP, hD⟩ := z_newfu 4 hP hD rfl hy_959 hy_1044
                    have hP : va_P G.1 classes [(b18, .inl (G.2 0, 2, .inl b58)), (b20, .inl (G.2 0, 520, .inl b59)), (b21, .inl (G.2 0, 9640, .inl y_763)), (b22, .inl (G.2 0, 482, .inl y_764)), (b23, .inl (G.2 0, 482, .inl f_1058)), (b24, .inl (G.2 0, 2, .inl y_960)), (b25, .inl (G.2 0, 482, .inl y_961)), (b26, .inl (G.2 0, 482, .inl f_1056)), (b27, .inl (G.2 0, 482, .inl y_963)), (b0, .inr (12, [.int b3, .ref b4, .ref b5, .ref b6, .ref b7, .int b8, .ref b9, .int b10, .int b11, .int b12, .int b13, .ref b14, .ref b15, .ref b16, .int b17, .ref b18, .ref b19, .ref b20, .ref b21, .ref b22, .ref b23, .ref b24, .ref b25, .ref b26, .ref b27, .ref b28, .ref b29, .int b30, .ref b31, .ref b32, .int b33, .int b34, .int b35, .int b36, .ref b37, .ref b38, .ref b39, .ref b40, .ref b41, .ref b42, .ref b43, .int b44, .ref b45, .ref b46, .int b47, .ref b48, .ref b49, .ref b50, .ref b51, .ref b52, .int b53, .ref b54, .ref b55, .ref b56])), (b4, .inl (G.2 0, 503, .inl b57))] H := hP
                    have hD := z_tie hP hD rfl
                    obtain ⟨v_1059, ev_1059⟩ : ∃ z : Int32, z = y_958 + 1 := ⟨_, rfl⟩
                    obtain ⟨qv_1059, hv_1059⟩ := zI_add (l := 1) (h := 241) hv_969 zc_1 ev_1059 (by decide)
                    rw [li_1] at qv_1059
                    refine lv_iinc (v := v_1059) (lv' := [(6, .int v_1059), (7, .int y_1044), (5, .int 1), (4, .int 241), (0, .ref b0), (1, .int 1), (2, .int b1), (3, .int b2)]) hx hb d_Model_layStates_252 hl (k := 1) rfl (by rw [ev_1059]; rfl) (by decide) rfl (fun ls hl => ?_)
                    refine lv_goto (tgt := 110) hx hb d_Model_layStates_255 (by decide) ?_
                    exact ihk_957 (v_1059) (f_1058) (y_960) (y_961) (f_1056) (y_963) _ _ _ (zI.wk (l' := 0) (h' := 241) hv_1059 (by decide)) hf_1058 hy_960 hy_961 (by omega) (zm_up qv_1059 hmk_957 (by decide)) hP hD hS (lv_sub hl [0, 2, 3, 4, 5, 6, 7] rfl)
                  · have _nhc_1051 := hc_1051
                    have ni_1060 := (fa_eq _ _).mp hc_1051
                    refine lv_aload_n hx hb d_Model_layStates_182 rfl (lv_at hl 4 rfl) ?_
                    refine va_get (D := G.1) (ci := 12) (v := .ref b25) (C := R_Model) (T := F_Model) (N := 54) hx hb hts i_Model hown hK hP 9 rfl rfl 22 (by decide) (hts _ q1131) (fun _ h9 => h9) rfl d_Model_layStates_183 ?_
                    refine lv_iload hx hb d_Model_layStates_186 (lv_at hl 3 rfl) ?_
                    refine lv_iload hx hb d_Model_layStates_188 (lv_at hl 0 rfl) ?_
                    refine lv_iadd hx hb d_Model_layStates_190 ?_
                    refine lv_topi (fun v_1061 ev_1061 => ?_)
                    obtain ⟨qv_1061, hv_1061⟩ := zI_add (l := 241) (h := 481) zc_241 hy_1044 ev_1061 (by decide)
                    rw [li_241] at qv_1061
                    refine lv_iload hx hb d_Model_layStates_191 (lv_at hl 1 rfl) ?_
                    refine va_iast hx hb hK hP hD hS 6 0 rfl rfl (zI.inn hv_1061 (by decide)) d_Model_layStates_193 (fun H locs hP hD hS => ?_)
                    obtain ⟨f_1062, hf_1062, gf_1062, uf_1062, hP, hD⟩ := z_newfu 6 hP hD rfl hy_961 hv_969
                    have hP : va_P G.1 classes [(b18, .inl (G.2 0, 2, .inl b58)), (b20, .inl (G.2 0, 520, .inl b59)), (b21, .inl (G.2 0, 9640, .inl y_763)), (b22, .inl (G.2 0, 482, .inl y_764)), (b23, .inl (G.2 0, 482, .inl y_959)), (b24, .inl (G.2 0, 2, .inl y_960)), (b25, .inl (G.2 0, 482, .inl f_1062)), (b26, .inl (G.2 0, 482, .inl y_962)), (b27, .inl (G.2 0, 482, .inl y_963)), (b0, .inr (12, [.int b3, .ref b4, .ref b5, .ref b6, .ref b7, .int b8, .ref b9, .int b10, .int b11, .int b12, .int b13, .ref b14, .ref b15, .ref b16, .int b17, .ref b18, .ref b19, .ref b20, .ref b21, .ref b22, .ref b23, .ref b24, .ref b25, .ref b26, .ref b27, .ref b28, .ref b29, .int b30, .ref b31, .ref b32, .int b33, .int b34, .int b35, .int b36, .ref b37, .ref b38, .ref b39, .ref b40, .ref b41, .ref b42, .ref b43, .int b44, .ref b45, .ref b46, .int b47, .ref b48, .ref b49, .ref b50, .ref b51, .ref b52, .int b53, .ref b54, .ref b55, .ref b56])), (b4, .inl (G.2 0, 503, .inl b57))] H := hP
                    have hD := z_tie hP hD rfl
                    refine lv_aload_n hx hb d_Model_layStates_194 rfl (lv_at hl 4 rfl) ?_
                    refine va_get (D := G.1) (ci := 12) (v := .ref b26) (C := R_Model) (T := F_Model) (N := 54) hx hb hts i_Model hown hK hP 9 rfl rfl 23 (by decide) (hts _ q1132) (fun _ h9 => h9) rfl d_Model_layStates_195 ?_
                    refine lv_iload hx hb d_Model_layStates_198 (lv_at hl 3 rfl) ?_
                    refine lv_iload hx hb d_Model_layStates_200 (lv_at hl 0 rfl) ?_
                    refine lv_iadd hx hb d_Model_layStates_202 ?_
                    refine lv_topi (fun v_1063 ev_1063 => ?_)
                    obtain rfl : v_1061 = v_1063 := ev_1061.trans ev_1063.symm
                    refine lv_iconst (v := 0) hx hb d_Model_layStates_203 (by decide) ?_
                    refine va_iast hx hb hK hP hD hS 7 0 rfl rfl (zI.inn hv_1061 (by decide)) d_Model_layStates_204 (fun H locs hP hD hS => ?_)
                    obtain ⟨f_1064, gf_1064, uf_1064, hP, hD⟩ := z_newFu 7 hP hD rfl
                    have hP : va_P G.1 classes [(b18, .inl (G.2 0, 2, .inl b58)), (b20, .inl (G.2 0, 520, .inl b59)), (b21, .inl (G.2 0, 9640, .inl y_763)), (b22, .inl (G.2 0, 482, .inl y_764)), (b23, .inl (G.2 0, 482, .inl y_959)), (b24, .inl (G.2 0, 2, .inl y_960)), (b25, .inl (G.2 0, 482, .inl f_1062)), (b26, .inl (G.2 0, 482, .inl f_1064)), (b27, .inl (G.2 0, 482, .inl y_963)), (b0, .inr (12, [.int b3, .ref b4, .ref b5, .ref b6, .ref b7, .int b8, .ref b9, .int b10, .int b11, .int b12, .int b13, .ref b14, .ref b15, .ref b16, .int b17, .ref b18, .ref b19, .ref b20, .ref b21, .ref b22, .ref b23, .ref b24, .ref b25, .ref b26, .ref b27, .ref b28, .ref b29, .int b30, .ref b31, .ref b32, .int b33, .int b34, .int b35, .int b36, .ref b37, .ref b38, .ref b39, .ref b40, .ref b41, .ref b42, .ref b43, .int b44, .ref b45, .ref b46, .int b47, .ref b48, .ref b49, .ref b50, .ref b51, .ref b52, .int b53, .ref b54, .ref b55, .ref b56])), (b4, .inl (G.2 0, 503, .inl b57))] H := hP
                    have hD := z_tie hP hD rfl
                    refine lv_aload_n hx hb d_Model_layStates_205 rfl (lv_at hl 4 rfl) ?_
                    refine va_get (D := G.1) (ci := 12) (v := .ref b27) (C := R_Model) (T := F_Model) (N := 54) hx hb hts i_Model hown hK hP 9 rfl rfl 24 (by decide) (hts _ q1133) (fun _ h9 => h9) rfl d_Model_layStates_206 ?_
                    refine lv_iload hx hb d_Model_layStates_209 (lv_at hl 3 rfl) ?_
                    refine lv_iload hx hb d_Model_layStates_211 (lv_at hl 0 rfl) ?_
                    refine lv_iadd hx hb d_Model_layStates_213 ?_
                    refine lv_topi (fun v_1065 ev_1065 => ?_)
                    obtain rfl : v_1061 = v_1065 := ev_1061.trans ev_1065.symm
                    refine lv_iconst (v := 0) hx hb d_Model_layStates_214 (by decide) ?_
                    refine va_iast hx hb hK hP hD hS 8 0 rfl rfl (zI.inn hv_1061 (by decide)) d_Model_layStates_215 (fun H locs hP hD hS => ?_)
                    obtain ⟨f_1066, gf_1066, uf_1066, hP, hD⟩ := z_newFu 8 hP hD rfl
                    have hP : va_P G.1 classes [(b18, .inl (G.2 0, 2, .inl b58)), (b20, .inl (G.2 0, 520, .inl b59)), (b21, .inl (G.2 0, 9640, .inl y_763)), (b22, .inl (G.2 0, 482, .inl y_764)), (b23, .inl (G.2 0, 482, .inl y_959)), (b24, .inl (G.2 0, 2, .inl y_960)), (b25, .inl (G.2 0, 482, .inl f_1062)), (b26, .inl (G.2 0, 482, .inl f_1064)), (b27, .inl (G.2 0, 482, .inl f_1066)), (b0, .inr (12, [.int b3, .ref b4, .ref b5, .ref b6, .ref b7, .int b8, .ref b9, .int b10, .int b11, .int b12, .int b13, .ref b14, .ref b15, .ref b16, .int b17, .ref b18, .ref b19, .ref b20, .ref b21, .ref b22, .ref b23, .ref b24, .ref b25, .ref b26, .ref b27, .ref b28, .ref b29, .int b30, .ref b31, .ref b32, .int b33, .int b34, .int b35, .int b36, .ref b37, .ref b38, .ref b39, .ref b40, .ref b41, .ref b42, .ref b43, .int b44, .ref b45, .ref b46, .int b47, .ref b48, .ref b49, .ref b50, .ref b51, .ref b52, .int b53, .ref b54, .ref b55, .ref b56])), (b4, .inl (G.2 0, 503, .inl b57))] H := hP
                    have hD := z_tie hP hD rfl
                    refine lv_aload_n hx hb d_Model_layStates_216 rfl (lv_at hl 4 rfl) ?_
                    refine va_get (D := G.1) (ci := 12) (v := .ref b24) (C := R_Model) (T := F_Model) (N := 54) hx hb hts i_Model hown hK hP 9 rfl rfl 21 (by decide) (hts _ q1130) (fun _ h9 => h9) rfl d_Model_layStates_217 ?_
                    refine lv_iload_n hx hb d_Model_layStates_220 rfl (lv_at hl 5 rfl) ?_
                    refine lv_dup2_11 hx hb d_Model_layStates_221 rfl rfl ?_
                    refine va_iald hx hb hK hP 5 0 rfl rfl (i := 1) (z_in rfl) d_Model_layStates_222 ?_
                    refine lv_topi (fun v_1067 ev_1067 => ?_)
                    obtain rfl : v_1046 = v_1067 := ev_1046.trans ev_1067.symm
                    refine lv_iconst (v := 1) hx hb d_Model_layStates_223 (by decide) ?_
                    refine lv_iadd hx hb d_Model_layStates_224 ?_
                    refine lv_topi (fun v_1068 ev_1068 => ?_)
                    obtain ⟨qv_1068, hv_1068⟩ := zI_add (l := 1) (h := 241) hv_1047 zc_1 ev_1068 (by decide)
                    rw [li_1] at qv_1068
                    refine va_iast hx hb hK hP hD hS 5 0 rfl rfl (i := 1) (z_in rfl) d_Model_layStates_225 (fun H locs hP hD hS => ?_)
                    obtain ⟨f_1069, hf_1069, gf_1069, uf_1069, hP, hD⟩ := z_newfu 5 hP hD rfl hy_960 (zI.wk (l' := 0) (h' := 241) hv_1068 (by decide))
                    have hP : va_P G.1 classes [(b18, .inl (G.2 0, 2, .inl b58)), (b20, .inl (G.2 0, 520, .inl b59)), (b21, .inl (G.2 0, 9640, .inl y_763)), (b22, .inl (G.2 0, 482, .inl y_764)), (b23, .inl (G.2 0, 482, .inl y_959)), (b24, .inl (G.2 0, 2, .inl f_1069)), (b25, .inl (G.2 0, 482, .inl f_1062)), (b26, .inl (G.2 0, 482, .inl f_1064)), (b27, .inl (G.2 0, 482, .inl f_1066)), (b0, .inr (12, [.int b3, .ref b4, .ref b5, .ref b6, .ref b7, .int b8, .ref b9, .int b10, .int b11, .int b12, .int b13, .ref b14, .ref b15, .ref b16, .int b17, .ref b18, .ref b19, .ref b20, .ref b21, .ref b22, .ref b23, .ref b24, .ref b25, .ref b26, .ref b27, .ref b28, .ref b29, .int b30, .ref b31, .ref b32, .int b33, .int b34, .int b35, .int b36, .ref b37, .ref b38, .ref b39, .ref b40, .ref b41, .ref b42, .ref b43, .int b44, .ref b45, .ref b46, .int b47, .ref b48, .ref b49, .ref b50, .ref b51, .ref b52, .int b53, .ref b54, .ref b55, .ref b56])), (b4, .inl (G.2 0, 503, .inl b57))] H := hP
                    have hD := z_tie hP hD rfl
                    refine lv_aload_n hx hb d_Model_layStates_226 rfl (lv_at hl 4 rfl) ?_
                    refine va_get (D := G.1) (ci := 12) (v := .ref b26) (C := R_Model) (T := F_Model) (N := 54) hx hb hts i_Model hown hK hP 9 rfl rfl 23 (by decide) (hts _ q1132) (fun _ h9 => h9) rfl d_Model_layStates_227 ?_
                    refine lv_iload hx hb d_Model_layStates_230 (lv_at hl 3 rfl) ?_
                    refine lv_iload hx hb d_Model_layStates_232 (lv_at hl 0 rfl) ?_
                    refine lv_iadd hx hb d_Model_layStates_234 ?_
                    refine lv_topi (fun v_1070 ev_1070 => ?_)
                    obtain rfl : v_1061 = v_1070 := ev_1061.trans ev_1070.symm
                    refine lv_dup2_11 hx hb d_Model_layStates_235 rfl rfl ?_
                    refine va_iald hx hb hK hP 7 0 rfl rfl (zI.inn hv_1061 (by decide)) d_Model_layStates_236 ?_
                    refine lv_topi (fun v_1071 ev_1071 => ?_)
                    obtain rfl : v_1071 = 0 := ev_1071.trans gf_1064
                    refine lv_iconst (v := 1) hx hb d_Model_layStates_237 (by decide) ?_
                    refine lv_iadd hx hb d_Model_layStates_238 ?_
                    refine z_topi (y := 1) (by decide +kernel) ?_
                    refine va_iast hx hb hK hP hD hS 7 0 rfl rfl (zI.inn hv_1061 (by decide)) d_Model_layStates_239 (fun H locs hP hD hS => ?_)
                    obtain ⟨f_1072, gf_1072, uf_1072, hP, hD⟩ := z_newFu 7 hP hD rfl
                    have hP : va_P G.1 classes [(b18, .inl (G.2 0, 2, .inl b58)), (b20, .inl (G.2 0, 520, .inl b59)), (b21, .inl (G.2 0, 9640, .inl y_763)), (b22, .inl (G.2 0, 482, .inl y_764)), (b23, .inl (G.2 0, 482, .inl y_959)), (b24, .inl (G.2 0, 2, .inl f_1069)), (b25, .inl (G.2 0, 482, .inl f_1062)), (b26, .inl (G.2 0, 482, .inl f_1072)), (b27, .inl (G.2 0, 482, .inl f_1066)), (b0, .inr (12, [.int b3, .ref b4, .ref b5, .ref b6, .ref b7, .int b8, .ref b9, .int b10, .int b11, .int b12, .int b13, .ref b14, .ref b15, .ref b16, .int b17, .ref b18, .ref b19, .ref b20, .ref b21, .ref b22, .ref b23, .ref b24, .ref b25, .ref b26, .ref b27, .ref b28, .ref b29, .int b30, .ref b31, .ref b32, .int b33, .int b34, .int b35, .int b36, .ref b37, .ref b38, .ref b39, .ref b40, .ref b41, .ref b42, .ref b43, .int b44, .ref b45, .ref b46, .int b47, .ref b48, .ref b49, .ref b50, .ref b51, .ref b52, .int b53, .ref b54, .ref b55, .ref b56])), (b4, .inl (G.2 0, 503, .inl b57))] H := hP
                    have hD := z_tie hP hD rfl
                    refine lv_aload_n hx hb d_Model_layStates_240 rfl (lv_at hl 4 rfl) ?_
                    refine va_get (D := G.1) (ci := 12) (v := .ref b23) (C := R_Model) (T := F_Model) (N := 54) hx hb hts i_Model hown hK hP 9 rfl rfl 20 (by decide) (hts _ q1129) (fun _ h9 => h9) rfl d_Model_layStates_241 ?_
                    refine lv_iload hx hb d_Model_layStates_244 (lv_at hl 3 rfl) ?_
                    refine lv_iload hx hb d_Model_layStates_246 (lv_at hl 1 rfl) ?_
                    refine lv_iadd hx hb d_Model_layStates_248 ?_
                    refine lv_topi (fun v_1073 ev_1073 => ?_)
                    obtain ⟨qv_1073, hv_1073⟩ := zI_add (l := 241) (h := 481) zc_241 hv_969 ev_1073 (by decide)
                    rw [li_241] at qv_1073
                    refine lv_iload hx hb d_Model_layStates_249 (lv_at hl 0 rfl) ?_
                    refine va_iast hx hb hK hP hD hS 4 0 rfl rfl (zI.inn hv_1073 (by decide)) d_Model_layStates_251 (fun H locs hP hD hS => ?_)
                    obtain ⟨f_1074, hf_1074, gf_1074, uf_1074, hP, hD⟩ := z_newfu 4 hP hD rfl hy_959 hy_1044
                    have hP : va_P G.1 classes [(b18, .inl (G.2 0, 2, .inl b58)), (b20, .inl (G.2 0, 520, .inl b59)), (b21, .inl (G.2 0, 9640, .inl y_763)), (b22, .inl (G.2 0, 482, .inl y_764)), (b23, .inl (G.2 0, 482, .inl f_1074)), (b24, .inl (G.2 0, 2, .inl f_1069)), (b25, .inl (G.2 0, 482, .inl f_1062)), (b26, .inl (G.2 0, 482, .inl f_1072)), (b27, .inl (G.2 0, 482, .inl f_1066)), (b0, .inr (12, [.int b3, .ref b4, .ref b5, .ref b6, .ref b7, .int b8, .ref b9, .int b10, .int b11, .int b12, .int b13, .ref b14, .ref b15, .ref b16, .int b17, .ref b18, .ref b19, .ref b20, .ref b21, .ref b22, .ref b23, .ref b24, .ref b25, .ref b26, .ref b27, .ref b28, .ref b29, .int b30, .ref b31, .ref b32, .int b33, .int b34, .int b35, .int b36, .ref b37, .ref b38, .ref b39, .ref b40, .ref b41, .ref b42, .ref b43, .int b44, .ref b45, .ref b46, .int b47, .ref b48, .ref b49, .ref b50, .ref b51, .ref b52, .int b53, .ref b54, .ref b55, .ref b56])), (b4, .inl (G.2 0, 503, .inl b57))] H := hP
                    have hD := z_tie hP hD rfl
                    obtain ⟨v_1075, ev_1075⟩ : ∃ z : Int32, z = y_958 + 1 := ⟨_, rfl⟩
                    obtain ⟨qv_1075, hv_1075⟩ := zI_add (l := 1) (h := 241) hv_969 zc_1 ev_1075 (by decide)
                    rw [li_1] at qv_1075
                    refine lv_iinc (v := v_1075) (lv' := [(6, .int v_1075), (7, .int y_1044), (5, .int 1), (4, .int 241), (0, .ref b0), (1, .int 1), (2, .int b1), (3, .int b2)]) hx hb d_Model_layStates_252 hl (k := 1) rfl (by rw [ev_1075]; rfl) (by decide) rfl (fun ls hl => ?_)
                    refine lv_goto (tgt := 110) hx hb d_Model_layStates_255 (by decide) ?_
                    exact ihk_957 (v_1075) (f_1074) (f_1069) (f_1062) (f_1072) (f_1066) _ _ _ (zI.wk (l' := 0) (h' := 241) hv_1075 (by decide)) hf_1074 hf_1069 hf_1062 (by rw [gf_1069]; omega) (zm_up qv_1075 hmk_957 (by decide)) hP hD hS (lv_sub hl [0, 2, 3, 4, 5, 6, 7] rfl)
                · have _nhc_1048 := hc_1048
                  have ni_1076 := (fa_lt _ _).mp (zi_nle hc_1048)
                  have hv_1077 : zI y_1044 0 239 := zI.lt_l hy_1044 hv_1047 (zi_nle hc_1048) (by decide)
                  have hv_1078 : zI v_1046 1 240 := zI.lt_r hy_1044 hv_1047 (zi_nle hc_1048) (by decide)
                  refine lv_aload_n hx hb d_Model_layStates_140 rfl (lv_at hl 4 rfl) ?_
                  refine lv_iload hx hb d_Model_layStates_141 (lv_at hl 3 rfl) ?_
                  refine lv_aload_n hx hb d_Model_layStates_143 rfl (lv_at hl 4 rfl) ?_
                  refine va_get (D := G.1) (ci := 12) (v := .ref b25) (C := R_Model) (T := F_Model) (N := 54) hx hb hts i_Model hown hK hP 9 rfl rfl 22 (by decide) (hts _ q1131) (fun _ h9 => h9) rfl d_Model_layStates_144 ?_
                  refine lv_iload hx hb d_Model_layStates_147 (lv_at hl 3 rfl) ?_
                  refine lv_iload hx hb d_Model_layStates_149 (lv_at hl 0 rfl) ?_
                  refine lv_iadd hx hb d_Model_layStates_151 ?_
                  refine lv_topi (fun v_1079 ev_1079 => ?_)
                  obtain ⟨qv_1079, hv_1079⟩ := zI_add (l := 241) (h := 480) zc_241 hv_1077 ev_1079 (by decide)
                  rw [li_241] at qv_1079
                  refine va_iald hx hb hK hP 6 0 rfl rfl (zI.inn hv_1079 (by decide)) d_Model_layStates_152 ?_
                  refine lv_topi (fun v_1080 ev_1080 => ?_)
                  have hv_1080 : zI v_1080 0 240 := (hy_961 _).eq ev_1080
                  refine lv_iadd hx hb d_Model_layStates_153 ?_
                  refine lv_topi (fun v_1081 ev_1081 => ?_)
                  obtain ⟨qv_1081, hv_1081⟩ := zI_add (l := 241) (h := 481) zc_241 hv_1080 ev_1081 (by decide)
                  rw [li_241] at qv_1081
                  refine lv_iload hx hb d_Model_layStates_154 (lv_at hl 3 rfl) ?_
                  refine lv_iload hx hb d_Model_layStates_156 (lv_at hl 1 rfl) ?_
                  refine lv_iadd hx hb d_Model_layStates_158 ?_
                  refine lv_topi (fun v_1082 ev_1082 => ?_)
                  obtain ⟨qv_1082, hv_1082⟩ := zI_add (l := 241) (h := 481) zc_241 hv_969 ev_1082 (by decide)
                  rw [li_241] at qv_1082
                  refine z_callV (index := 221) (As := [.int v_1081, .int v_1082]) (rest := []) (wr := [(b18, .inl (G.2 0, 2, .inl b58)), (b20, .inl (G.2 0, 520, .inl b59)), (b23, .inl (G.2 0, 482, .inl y_959)), (b24, .inl (G.2 0, 2, .inl y_960)), (b25, .inl (G.2 0, 482, .inl y_961)), (b26, .inl (G.2 0, 482, .inl y_962)), (b27, .inl (G.2 0, 482, .inl y_963)), (b4, .inl (G.2 0, 503, .inl b57))]) Z (s1_Model_areAlike l G (b0) (v_1081) (v_1082) (b3) (b4) (b5) (b6) (b7) (b8) (b9) (b10) (b11) (b12) (b13) (b14) (b15) (b16) (b17) (b18) (b19) (b20) (b21) (b22) (b23) (b24) (b25) (b26) (b27) (b28) (b29) (b30) (b31) (b32) (b33) (b34) (b35) (b36) (b37) (b38) (b39) (b40) (b41) (b42) (b43) (b44) (b45) (b46) (b47) (b48) (b49) (b50) (b51) (b52) (b53) (b54) (b55) (b56) (y_763) (y_764) (zI.wk (l' := 0) (h' := 481) hv_1081 (by decide)) (zI.wk (l' := 0) (h' := 481) hv_1082 (by decide)) hb8 hb10 hb11 hb13 hb17 hb30 hb33 hb44 hb47 hb53 hy_764) hl.1 q1392 q1394 qs64 q14 q1395 ⟨by decide, by decide, by show _ = some 2; decide +kernel⟩ ⟨Nat.le_of_ble_eq_true rfl, Nat.le_of_ble_eq_true rfl⟩ ⟨Nat.le_of_ble_eq_true rfl, Nat.le_of_ble_eq_true rfl⟩ rfl (Nat.le_of_ble_eq_true rfl) d_Model_layStates_159 hP hD hS hA 9 12 rfl rfl rfl [9, 2, 3] [0, 1, 4, 5, 6, 7, 8, 10] rfl rfl rfl rfl (by decide) (fun v w1 H locs hw_1083 hP hD hS => ?_)
                  obtain ⟨x_1084, rfl, rfl, hx_1084⟩ := hw_1083
                  have hP : va_P G.1 classes [(b18, .inl (G.2 0, 2, .inl b58)), (b20, .inl (G.2 0, 520, .inl b59)), (b23, .inl (G.2 0, 482, .inl y_959)), (b24, .inl (G.2 0, 2, .inl y_960)), (b25, .inl (G.2 0, 482, .inl y_961)), (b26, .inl (G.2 0, 482, .inl y_962)), (b27, .inl (G.2 0, 482, .inl y_963)), (b4, .inl (G.2 0, 503, .inl b57)), (b0, .inr (12, [.int b3, .ref b4, .ref b5, .ref b6, .ref b7, .int b8, .ref b9, .int b10, .int b11, .int b12, .int b13, .ref b14, .ref b15, .ref b16, .int b17, .ref b18, .ref b19, .ref b20, .ref b21, .ref b22, .ref b23, .ref b24, .ref b25, .ref b26, .ref b27, .ref b28, .ref b29, .int b30, .ref b31, .ref b32, .int b33, .int b34, .int b35, .int b36, .ref b37, .ref b38, .ref b39, .ref b40, .ref b41, .ref b42, .ref b43, .int b44, .ref b45, .ref b46, .int b47, .ref b48, .ref b49, .ref b50, .ref b51, .ref b52, .int b53, .ref b54, .ref b55, .ref b56])), (b21, .inl (G.2 0, 9640, .inl y_763)), (b22, .inl (G.2 0, 482, .inl y_764))] H := hP
                  have hD := z_tie hP hD rfl
                  refine W.widen (k := 0) (n := 0) (Nat.le_of_ble_eq_true rfl) (Nat.le_of_ble_eq_true rfl) ?_
                  refine lv_if_ne (tgt := 171) hx hb d_Model_layStates_162 (by decide) (fun hc_1085 => ?_) (fun hc_1085 => ?_)
                  · have _nhc_1085 := hc_1085
                    have ni_1086 : ¬ (x_1084 : Int32).toInt = (0 : Int32).toInt := fun z => hc_1085 ((fa_eq _ _).mpr z)
                    simp only [li_0] at ni_1086
                    have hv_1087 : zI x_1084 1 1 := zI.ne_lo hx_1084 zc_0 hc_1085 (by decide)
                    refine lv_iload hx hb d_Model_layStates_171 (lv_at hl 0 rfl) ?_
                    refine lv_aload_n hx hb d_Model_layStates_173 rfl (lv_at hl 4 rfl) ?_
                    refine va_get (D := G.1) (ci := 12) (v := .ref b24) (C := R_Model) (T := F_Model) (N := 54) hx hb hts i_Model hown hK hP 8 rfl rfl 21 (by decide) (hts _ q1130) (fun _ h9 => h9) rfl d_Model_layStates_174 ?_
                    refine lv_iload_n hx hb d_Model_layStates_177 rfl (lv_at hl 5 rfl) ?_
                    refine va_iald hx hb hK hP 3 0 rfl rfl (i := 1) (z_in rfl) d_Model_layStates_178 ?_
                    refine lv_topi (fun v_1088 ev_1088 => ?_)
                    obtain rfl : v_1046 = v_1088 := ev_1046.trans ev_1088.symm
                    refine lv_icmp_ne (tgt := 226) hx hb d_Model_layStates_179 (by decide) (fun hc_1089 => ?_) (fun hc_1089 => ?_)
                    · have _nhc_1089 := hc_1089
                      have ni_1090 : ¬ (y_1044 : Int32).toInt = (v_1046 : Int32).toInt := fun z => hc_1089 ((fa_eq _ _).mpr z)
                      refine lv_aload_n hx hb d_Model_layStates_226 rfl (lv_at hl 4 rfl) ?_
                      refine va_get (D := G.1) (ci := 12) (v := .ref b26) (C := R_Model) (T := F_Model) (N := 54) hx hb hts i_Model hown hK hP 8 rfl rfl 23 (by decide) (hts _ q1132) (fun _ h9 => h9) rfl d_Model_layStates_227 ?_
                      refine lv_iload hx hb d_Model_layStates_230 (lv_at hl 3 rfl) ?_
                      refine lv_iload hx hb d_Model_layStates_232 (lv_at hl 0 rfl) ?_
                      refine lv_iadd hx hb d_Model_layStates_234 ?_
                      refine lv_topi (fun v_1091 ev_1091 => ?_)
                      obtain rfl : v_1079 = v_1091 := ev_1079.trans ev_1091.symm
                      refine lv_dup2_11 hx hb d_Model_layStates_235 rfl rfl ?_
                      refine va_iald hx hb hK hP 5 0 rfl rfl (zI.inn hv_1079 (by decide)) d_Model_layStates_236 ?_
                      refine lv_topi (fun v_1092 ev_1092 => ?_)
                      refine lv_iconst (v := 1) hx hb d_Model_layStates_237 (by decide) ?_
                      refine lv_iadd hx hb d_Model_layStates_238 ?_
                      refine lv_topi (fun v_1093 ev_1093 => ?_)
                      refine va_iast hx hb hK hP hD hS 5 0 rfl rfl (zI.inn hv_1079 (by decide)) d_Model_layStates_239 (fun H locs hP hD hS => ?_)
                      obtain ⟨f_1094, gf_1094, uf_1094, hP, hD⟩ := z_newFu 5 hP hD rfl
                      have hP : va_P G.1 classes [(b18, .inl (G.2 0, 2, .inl b58)), (b20, .inl (G.2 0, 520, .inl b59)), (b23, .inl (G.2 0, 482, .inl y_959)), (b24, .inl (G.2 0, 2, .inl y_960)), (b25, .inl (G.2 0, 482, .inl y_961)), (b26, .inl (G.2 0, 482, .inl f_1094)), (b27, .inl (G.2 0, 482, .inl y_963)), (b4, .inl (G.2 0, 503, .inl b57)), (b0, .inr (12, [.int b3, .ref b4, .ref b5, .ref b6, .ref b7, .int b8, .ref b9, .int b10, .int b11, .int b12, .int b13, .ref b14, .ref b15, .ref b16, .int b17, .ref b18, .ref b19, .ref b20, .ref b21, .ref b22, .ref b23, .ref b24, .ref b25, .ref b26, .ref b27, .ref b28, .ref b29, .int b30, .ref b31, .ref b32, .int b33, .int b34, .int b35, .int b36, .ref b37, .ref b38, .ref b39, .ref b40, .ref b41, .ref b42, .ref b43, .int b44, .ref b45, .ref b46, .int b47, .ref b48, .ref b49, .ref b50, .ref b51, .ref b52, .int b53, .ref b54, .ref b55, .ref b56])), (b21, .inl (G.2 0, 9640, .inl y_763)), (b22, .inl (G.2 0, 482, .inl y_764))] H := hP
                      have hD := z_tie hP hD rfl
                      refine lv_aload_n hx hb d_Model_layStates_240 rfl (lv_at hl 4 rfl) ?_
                      refine va_get (D := G.1) (ci := 12) (v := .ref b23) (C := R_Model) (T := F_Model) (N := 54) hx hb hts i_Model hown hK hP 8 rfl rfl 20 (by decide) (hts _ q1129) (fun _ h9 => h9) rfl d_Model_layStates_241 ?_
                      refine lv_iload hx hb d_Model_layStates_244 (lv_at hl 3 rfl) ?_
                      refine lv_iload hx hb d_Model_layStates_246 (lv_at hl 1 rfl) ?_
                      refine lv_iadd hx hb d_Model_layStates_248 ?_
                      refine lv_topi (fun v_1095 ev_1095 => ?_)
                      obtain rfl : v_1082 = v_1095 := ev_1082.trans ev_1095.symm
                      refine lv_iload hx hb d_Model_layStates_249 (lv_at hl 0 rfl) ?_
                      refine va_iast hx hb hK hP hD hS 2 0 rfl rfl (zI.inn hv_1082 (by decide)) d_Model_layStates_251 (fun H locs hP hD hS => ?_)
                      obtain ⟨f_1096, hf_1096, gf_1096, uf_1096, hP, hD⟩ := z_newfu 2 hP hD rfl hy_959 (zI.wk (l' := 0) (h' := 240) hv_1077 (by decide))
                      have hP : va_P G.1 classes [(b18, .inl (G.2 0, 2, .inl b58)), (b20, .inl (G.2 0, 520, .inl b59)), (b23, .inl (G.2 0, 482, .inl f_1096)), (b24, .inl (G.2 0, 2, .inl y_960)), (b25, .inl (G.2 0, 482, .inl y_961)), (b26, .inl (G.2 0, 482, .inl f_1094)), (b27, .inl (G.2 0, 482, .inl y_963)), (b4, .inl (G.2 0, 503, .inl b57)), (b0, .inr (12, [.int b3, .ref b4, .ref b5, .ref b6, .ref b7, .int b8, .ref b9, .int b10, .int b11, .int b12, .int b13, .ref b14, .ref b15, .ref b16, .int b17, .ref b18, .ref b19, .ref b20, .ref b21, .ref b22, .ref b23, .ref b24, .ref b25, .ref b26, .ref b27, .ref b28, .ref b29, .int b30, .ref b31, .ref b32, .int b33, .int b34, .int b35, .int b36, .ref b37, .ref b38, .ref b39, .ref b40, .ref b41, .ref b42, .ref b43, .int b44, .ref b45, .ref b46, .int b47, .ref b48, .ref b49, .ref b50, .ref b51, .ref b52, .int b53, .ref b54, .ref b55, .ref b56])), (b21, .inl (G.2 0, 9640, .inl y_763)), (b22, .inl (G.2 0, 482, .inl y_764))] H := hP
                      have hD := z_tie hP hD rfl
                      obtain ⟨v_1097, ev_1097⟩ : ∃ z : Int32, z = y_958 + 1 := ⟨_, rfl⟩
                      obtain ⟨qv_1097, hv_1097⟩ := zI_add (l := 1) (h := 241) hv_969 zc_1 ev_1097 (by decide)
                      rw [li_1] at qv_1097
                      refine lv_iinc (v := v_1097) (lv' := [(6, .int v_1097), (7, .int y_1044), (5, .int 1), (4, .int 241), (0, .ref b0), (1, .int 1), (2, .int b1), (3, .int b2)]) hx hb d_Model_layStates_252 hl (k := 1) rfl (by rw [ev_1097]; rfl) (by decide) rfl (fun ls hl => ?_)
                      refine lv_goto (tgt := 110) hx hb d_Model_layStates_255 (by decide) ?_
                      exact ihk_957 (v_1097) (f_1096) (y_960) (y_961) (f_1094) (y_963) _ _ _ (zI.wk (l' := 0) (h' := 241) hv_1097 (by decide)) hf_1096 hy_960 hy_961 (by omega) (zm_up qv_1097 hmk_957 (by decide)) (hP.sub [0, 1, 9, 10, 2, 3, 4, 5, 6, 8, 7] rfl) (hD.sub [0, 1, 9, 10, 2, 3, 4, 5, 6, 8, 7] (by decide) rfl) hS (lv_sub hl [0, 2, 3, 4, 5, 6, 7] rfl)
                    · have _nhc_1089 := hc_1089
                      have ni_1098 := (fa_eq _ _).mp hc_1089
                      refine lv_aload_n hx hb d_Model_layStates_182 rfl (lv_at hl 4 rfl) ?_
                      refine va_get (D := G.1) (ci := 12) (v := .ref b25) (C := R_Model) (T := F_Model) (N := 54) hx hb hts i_Model hown hK hP 8 rfl rfl 22 (by decide) (hts _ q1131) (fun _ h9 => h9) rfl d_Model_layStates_183 ?_
                      refine lv_iload hx hb d_Model_layStates_186 (lv_at hl 3 rfl) ?_
                      refine lv_iload hx hb d_Model_layStates_188 (lv_at hl 0 rfl) ?_
                      refine lv_iadd hx hb d_Model_layStates_190 ?_
                      refine lv_topi (fun v_1099 ev_1099 => ?_)
                      obtain rfl : v_1079 = v_1099 := ev_1079.trans ev_1099.symm
                      refine lv_iload hx hb d_Model_layStates_191 (lv_at hl 1 rfl) ?_
                      refine va_iast hx hb hK hP hD hS 4 0 rfl rfl (zI.inn hv_1079 (by decide)) d_Model_layStates_193 (fun H locs hP hD hS => ?_)
                      obtain ⟨f_1100, hf_1100, gf_1100, uf_1100, hP, hD⟩ := z_newfu 4 hP hD rfl hy_961 hv_969
                      have hP : va_P G.1 classes [(b18, .inl (G.2 0, 2, .inl b58)), (b20, .inl (G.2 0, 520, .inl b59)), (b23, .inl (G.2 0, 482, .inl y_959)), (b24, .inl (G.2 0, 2, .inl y_960)), (b25, .inl (G.2 0, 482, .inl f_1100)), (b26, .inl (G.2 0, 482, .inl y_962)), (b27, .inl (G.2 0, 482, .inl y_963)), (b4, .inl (G.2 0, 503, .inl b57)), (b0, .inr (12, [.int b3, .ref b4, .ref b5, .ref b6, .ref b7, .int b8, .ref b9, .int b10, .int b11, .int b12, .int b13, .ref b14, .ref b15, .ref b16, .int b17, .ref b18, .ref b19, .ref b20, .ref b21, .ref b22, .ref b23, .ref b24, .ref b25, .ref b26, .ref b27, .ref b28, .ref b29, .int b30, .ref b31, .ref b32, .int b33, .int b34, .int b35, .int b36, .ref b37, .ref b38, .ref b39, .ref b40, .ref b41, .ref b42, .ref b43, .int b44, .ref b45, .ref b46, .int b47, .ref b48, .ref b49, .ref b50, .ref b51, .ref b52, .int b53, .ref b54, .ref b55, .ref b56])), (b21, .inl (G.2 0, 9640, .inl y_763)), (b22, .inl (G.2 0, 482, .inl y_764))] H := hP
                      have hD := z_tie hP hD rfl
                      refine lv_aload_n hx hb d_Model_layStates_194 rfl (lv_at hl 4 rfl) ?_
                      refine va_get (D := G.1) (ci := 12) (v := .ref b26) (C := R_Model) (T := F_Model) (N := 54) hx hb hts i_Model hown hK hP 8 rfl rfl 23 (by decide) (hts _ q1132) (fun _ h9 => h9) rfl d_Model_layStates_195 ?_
                      refine lv_iload hx hb d_Model_layStates_198 (lv_at hl 3 rfl) ?_
                      refine lv_iload hx hb d_Model_layStates_200 (lv_at hl 0 rfl) ?_
                      refine lv_iadd hx hb d_Model_layStates_202 ?_
                      refine lv_topi (fun v_1101 ev_1101 => ?_)
                      obtain rfl : v_1079 = v_1101 := ev_1079.trans ev_1101.symm
                      refine lv_iconst (v := 0) hx hb d_Model_layStates_203 (by decide) ?_
                      refine va_iast hx hb hK hP hD hS 5 0 rfl rfl (zI.inn hv_1079 (by decide)) d_Model_layStates_204 (fun H locs hP hD hS => ?_)
                      obtain ⟨f_1102, gf_1102, uf_1102, hP, hD⟩ := z_newFu 5 hP hD rfl
                      have hP : va_P G.1 classes [(b18, .inl (G.2 0, 2, .inl b58)), (b20, .inl (G.2 0, 520, .inl b59)), (b23, .inl (G.2 0, 482, .inl y_959)), (b24, .inl (G.2 0, 2, .inl y_960)), (b25, .inl (G.2 0, 482, .inl f_1100)), (b26, .inl (G.2 0, 482, .inl f_1102)), (b27, .inl (G.2 0, 482, .inl y_963)), (b4, .inl (G.2 0, 503, .inl b57)), (b0, .inr (12, [.int b3, .ref b4, .ref b5, .ref b6, .ref b7, .int b8, .ref b9, .int b10, .int b11, .int b12, .int b13, .ref b14, .ref b15, .ref b16, .int b17, .ref b18, .ref b19, .ref b20, .ref b21, .ref b22, .ref b23, .ref b24, .ref b25, .ref b26, .ref b27, .ref b28, .ref b29, .int b30, .ref b31, .ref b32, .int b33, .int b34, .int b35, .int b36, .ref b37, .ref b38, .ref b39, .ref b40, .ref b41, .ref b42, .ref b43, .int b44, .ref b45, .ref b46, .int b47, .ref b48, .ref b49, .ref b50, .ref b51, .ref b52, .int b53, .ref b54, .ref b55, .ref b56])), (b21, .inl (G.2 0, 9640, .inl y_763)), (b22, .inl (G.2 0, 482, .inl y_764))] H := hP
                      have hD := z_tie hP hD rfl
                      refine lv_aload_n hx hb d_Model_layStates_205 rfl (lv_at hl 4 rfl) ?_
                      refine va_get (D := G.1) (ci := 12) (v := .ref b27) (C := R_Model) (T := F_Model) (N := 54) hx hb hts i_Model hown hK hP 8 rfl rfl 24 (by decide) (hts _ q1133) (fun _ h9 => h9) rfl d_Model_layStates_206 ?_
                      refine lv_iload hx hb d_Model_layStates_209 (lv_at hl 3 rfl) ?_
                      refine lv_iload hx hb d_Model_layStates_211 (lv_at hl 0 rfl) ?_
                      refine lv_iadd hx hb d_Model_layStates_213 ?_
                      refine lv_topi (fun v_1103 ev_1103 => ?_)
                      obtain rfl : v_1079 = v_1103 := ev_1079.trans ev_1103.symm
                      refine lv_iconst (v := 0) hx hb d_Model_layStates_214 (by decide) ?_
                      refine va_iast hx hb hK hP hD hS 6 0 rfl rfl (zI.inn hv_1079 (by decide)) d_Model_layStates_215 (fun H locs hP hD hS => ?_)
                      obtain ⟨f_1104, gf_1104, uf_1104, hP, hD⟩ := z_newFu 6 hP hD rfl
                      have hP : va_P G.1 classes [(b18, .inl (G.2 0, 2, .inl b58)), (b20, .inl (G.2 0, 520, .inl b59)), (b23, .inl (G.2 0, 482, .inl y_959)), (b24, .inl (G.2 0, 2, .inl y_960)), (b25, .inl (G.2 0, 482, .inl f_1100)), (b26, .inl (G.2 0, 482, .inl f_1102)), (b27, .inl (G.2 0, 482, .inl f_1104)), (b4, .inl (G.2 0, 503, .inl b57)), (b0, .inr (12, [.int b3, .ref b4, .ref b5, .ref b6, .ref b7, .int b8, .ref b9, .int b10, .int b11, .int b12, .int b13, .ref b14, .ref b15, .ref b16, .int b17, .ref b18, .ref b19, .ref b20, .ref b21, .ref b22, .ref b23, .ref b24, .ref b25, .ref b26, .ref b27, .ref b28, .ref b29, .int b30, .ref b31, .ref b32, .int b33, .int b34, .int b35, .int b36, .ref b37, .ref b38, .ref b39, .ref b40, .ref b41, .ref b42, .ref b43, .int b44, .ref b45, .ref b46, .int b47, .ref b48, .ref b49, .ref b50, .ref b51, .ref b52, .int b53, .ref b54, .ref b55, .ref b56])), (b21, .inl (G.2 0, 9640, .inl y_763)), (b22, .inl (G.2 0, 482, .inl y_764))] H := hP
                      have hD := z_tie hP hD rfl
                      refine lv_aload_n hx hb d_Model_layStates_216 rfl (lv_at hl 4 rfl) ?_
                      refine va_get (D := G.1) (ci := 12) (v := .ref b24) (C := R_Model) (T := F_Model) (N := 54) hx hb hts i_Model hown hK hP 8 rfl rfl 21 (by decide) (hts _ q1130) (fun _ h9 => h9) rfl d_Model_layStates_217 ?_
                      refine lv_iload_n hx hb d_Model_layStates_220 rfl (lv_at hl 5 rfl) ?_
                      refine lv_dup2_11 hx hb d_Model_layStates_221 rfl rfl ?_
                      refine va_iald hx hb hK hP 3 0 rfl rfl (i := 1) (z_in rfl) d_Model_layStates_222 ?_
                      refine lv_topi (fun v_1105 ev_1105 => ?_)
                      obtain rfl : v_1046 = v_1105 := ev_1046.trans ev_1105.symm
                      refine lv_iconst (v := 1) hx hb d_Model_layStates_223 (by decide) ?_
                      refine lv_iadd hx hb d_Model_layStates_224 ?_
                      refine lv_topi (fun v_1106 ev_1106 => ?_)
                      obtain ⟨qv_1106, hv_1106⟩ := zI_add (l := 2) (h := 241) hv_1078 zc_1 ev_1106 (by decide)
                      rw [li_1] at qv_1106
                      refine va_iast hx hb hK hP hD hS 3 0 rfl rfl (i := 1) (z_in rfl) d_Model_layStates_225 (fun H locs hP hD hS => ?_)
                      obtain ⟨f_1107, hf_1107, gf_1107, uf_1107, hP, hD⟩ := z_newfu 3 hP hD rfl hy_960 (zI.wk (l' := 0) (h' := 241) hv_1106 (by decide))
                      have hP : va_P G.1 classes [(b18, .inl (G.2 0, 2, .inl b58)), (b20, .inl (G.2 0, 520, .inl b59)), (b23, .inl (G.2 0, 482, .inl y_959)), (b24, .inl (G.2 0, 2, .inl f_1107)), (b25, .inl (G.2 0, 482, .inl f_1100)), (b26, .inl (G.2 0, 482, .inl f_1102)), (b27, .inl (G.2 0, 482, .inl f_1104)), (b4, .inl (G.2 0, 503, .inl b57)), (b0, .inr (12, [.int b3, .ref b4, .ref b5, .ref b6, .ref b7, .int b8, .ref b9, .int b10, .int b11, .int b12, .int b13, .ref b14, .ref b15, .ref b16, .int b17, .ref b18, .ref b19, .ref b20, .ref b21, .ref b22, .ref b23, .ref b24, .ref b25, .ref b26, .ref b27, .ref b28, .ref b29, .int b30, .ref b31, .ref b32, .int b33, .int b34, .int b35, .int b36, .ref b37, .ref b38, .ref b39, .ref b40, .ref b41, .ref b42, .ref b43, .int b44, .ref b45, .ref b46, .int b47, .ref b48, .ref b49, .ref b50, .ref b51, .ref b52, .int b53, .ref b54, .ref b55, .ref b56])), (b21, .inl (G.2 0, 9640, .inl y_763)), (b22, .inl (G.2 0, 482, .inl y_764))] H := hP
                      have hD := z_tie hP hD rfl
                      refine lv_aload_n hx hb d_Model_layStates_226 rfl (lv_at hl 4 rfl) ?_
                      refine va_get (D := G.1) (ci := 12) (v := .ref b26) (C := R_Model) (T := F_Model) (N := 54) hx hb hts i_Model hown hK hP 8 rfl rfl 23 (by decide) (hts _ q1132) (fun _ h9 => h9) rfl d_Model_layStates_227 ?_
                      refine lv_iload hx hb d_Model_layStates_230 (lv_at hl 3 rfl) ?_
                      refine lv_iload hx hb d_Model_layStates_232 (lv_at hl 0 rfl) ?_
                      refine lv_iadd hx hb d_Model_layStates_234 ?_
                      refine lv_topi (fun v_1108 ev_1108 => ?_)
                      obtain rfl : v_1079 = v_1108 := ev_1079.trans ev_1108.symm
                      refine lv_dup2_11 hx hb d_Model_layStates_235 rfl rfl ?_
                      refine va_iald hx hb hK hP 5 0 rfl rfl (zI.inn hv_1079 (by decide)) d_Model_layStates_236 ?_
                      refine lv_topi (fun v_1109 ev_1109 => ?_)
                      obtain rfl : v_1109 = 0 := ev_1109.trans gf_1102
                      refine lv_iconst (v := 1) hx hb d_Model_layStates_237 (by decide) ?_
                      refine lv_iadd hx hb d_Model_layStates_238 ?_
                      refine z_topi (y := 1) (by decide +kernel) ?_
                      refine va_iast hx hb hK hP hD hS 5 0 rfl rfl (zI.inn hv_1079 (by decide)) d_Model_layStates_239 (fun H locs hP hD hS => ?_)
                      obtain ⟨f_1110, gf_1110, uf_1110, hP, hD⟩ := z_newFu 5 hP hD rfl
                      have hP : va_P G.1 classes [(b18, .inl (G.2 0, 2, .inl b58)), (b20, .inl (G.2 0, 520, .inl b59)), (b23, .inl (G.2 0, 482, .inl y_959)), (b24, .inl (G.2 0, 2, .inl f_1107)), (b25, .inl (G.2 0, 482, .inl f_1100)), (b26, .inl (G.2 0, 482, .inl f_1110)), (b27, .inl (G.2 0, 482, .inl f_1104)), (b4, .inl (G.2 0, 503, .inl b57)), (b0, .inr (12, [.int b3, .ref b4, .ref b5, .ref b6, .ref b7, .int b8, .ref b9, .int b10, .int b11, .int b12, .int b13, .ref b14, .ref b15, .ref b16, .int b17, .ref b18, .ref b19, .ref b20, .ref b21, .ref b22, .ref b23, .ref b24, .ref b25, .ref b26, .ref b27, .ref b28, .ref b29, .int b30, .ref b31, .ref b32, .int b33, .int b34, .int b35, .int b36, .ref b37, .ref b38, .ref b39, .ref b40, .ref b41, .ref b42, .ref b43, .int b44, .ref b45, .ref b46, .int b47, .ref b48, .ref b49, .ref b50, .ref b51, .ref b52, .int b53, .ref b54, .ref b55, .ref b56])), (b21, .inl (G.2 0, 9640, .inl y_763)), (b22, .inl (G.2 0, 482, .inl y_764))] H := hP
                      have hD := z_tie hP hD rfl
                      refine lv_aload_n hx hb d_Model_layStates_240 rfl (lv_at hl 4 rfl) ?_
                      refine va_get (D := G.1) (ci := 12) (v := .ref b23) (C := R_Model) (T := F_Model) (N := 54) hx hb hts i_Model hown hK hP 8 rfl rfl 20 (by decide) (hts _ q1129) (fun _ h9 => h9) rfl d_Model_layStates_241 ?_
                      refine lv_iload hx hb d_Model_layStates_244 (lv_at hl 3 rfl) ?_
                      refine lv_iload hx hb d_Model_layStates_246 (lv_at hl 1 rfl) ?_
                      refine lv_iadd hx hb d_Model_layStates_248 ?_
                      refine lv_topi (fun v_1111 ev_1111 => ?_)
                      obtain rfl : v_1082 = v_1111 := ev_1082.trans ev_1111.symm
                      refine lv_iload hx hb d_Model_layStates_249 (lv_at hl 0 rfl) ?_
                      refine va_iast hx hb hK hP hD hS 2 0 rfl rfl (zI.inn hv_1082 (by decide)) d_Model_layStates_251 (fun H locs hP hD hS => ?_)
                      obtain ⟨f_1112, hf_1112, gf_1112, uf_1112, hP, hD⟩ := z_newfu 2 hP hD rfl hy_959 (zI.wk (l' := 0) (h' := 240) hv_1077 (by decide))
                      have hP : va_P G.1 classes [(b18, .inl (G.2 0, 2, .inl b58)), (b20, .inl (G.2 0, 520, .inl b59)), (b23, .inl (G.2 0, 482, .inl f_1112)), (b24, .inl (G.2 0, 2, .inl f_1107)), (b25, .inl (G.2 0, 482, .inl f_1100)), (b26, .inl (G.2 0, 482, .inl f_1110)), (b27, .inl (G.2 0, 482, .inl f_1104)), (b4, .inl (G.2 0, 503, .inl b57)), (b0, .inr (12, [.int b3, .ref b4, .ref b5, .ref b6, .ref b7, .int b8, .ref b9, .int b10, .int b11, .int b12, .int b13, .ref b14, .ref b15, .ref b16, .int b17, .ref b18, .ref b19, .ref b20, .ref b21, .ref b22, .ref b23, .ref b24, .ref b25, .ref b26, .ref b27, .ref b28, .ref b29, .int b30, .ref b31, .ref b32, .int b33, .int b34, .int b35, .int b36, .ref b37, .ref b38, .ref b39, .ref b40, .ref b41, .ref b42, .ref b43, .int b44, .ref b45, .ref b46, .int b47, .ref b48, .ref b49, .ref b50, .ref b51, .ref b52, .int b53, .ref b54, .ref b55, .ref b56])), (b21, .inl (G.2 0, 9640, .inl y_763)), (b22, .inl (G.2 0, 482, .inl y_764))] H := hP
                      have hD := z_tie hP hD rfl
                      obtain ⟨v_1113, ev_1113⟩ : ∃ z : Int32, z = y_958 + 1 := ⟨_, rfl⟩
                      obtain ⟨qv_1113, hv_1113⟩ := zI_add (l := 1) (h := 241) hv_969 zc_1 ev_1113 (by decide)
                      rw [li_1] at qv_1113
                      refine lv_iinc (v := v_1113) (lv' := [(6, .int v_1113), (7, .int y_1044), (5, .int 1), (4, .int 241), (0, .ref b0), (1, .int 1), (2, .int b1), (3, .int b2)]) hx hb d_Model_layStates_252 hl (k := 1) rfl (by rw [ev_1113]; rfl) (by decide) rfl (fun ls hl => ?_)
                      refine lv_goto (tgt := 110) hx hb d_Model_layStates_255 (by decide) ?_
                      exact ihk_957 (v_1113) (f_1112) (f_1107) (f_1100) (f_1110) (f_1104) _ _ _ (zI.wk (l' := 0) (h' := 241) hv_1113 (by decide)) hf_1112 hf_1107 hf_1100 (by rw [gf_1107]; omega) (zm_up qv_1113 hmk_957 (by decide)) (hP.sub [0, 1, 9, 10, 2, 3, 4, 5, 6, 8, 7] rfl) (hD.sub [0, 1, 9, 10, 2, 3, 4, 5, 6, 8, 7] (by decide) rfl) hS (lv_sub hl [0, 2, 3, 4, 5, 6, 7] rfl)
                  · have _nhc_1085 := hc_1085
                    have ni_1114 := (fa_eq _ _).mp hc_1085
                    rw [li_0] at ni_1114
                    have hv_1115 : zI x_1084 0 0 := zI.eq_l hx_1084 zc_0 hc_1085
                    obtain ⟨v_1116, ev_1116⟩ : ∃ z : Int32, z = y_1044 + 1 := ⟨_, rfl⟩
                    obtain ⟨qv_1116, hv_1116⟩ := zI_add (l := 1) (h := 240) hv_1077 zc_1 ev_1116 (by decide)
                    rw [li_1] at qv_1116
                    refine lv_iinc (v := v_1116) (lv' := [(7, .int v_1116), (6, .int y_958), (5, .int 1), (4, .int 241), (0, .ref b0), (1, .int 1), (2, .int b1), (3, .int b2)]) hx hb d_Model_layStates_165 hl (k := 0) rfl (by rw [ev_1116]; rfl) (by decide) rfl (fun ls hl => ?_)
                    refine lv_goto (tgt := 129) hx hb d_Model_layStates_168 (by decide) ?_
                    exact ihk_1043 (v_1116) _ _ _ (zI.wk (l' := 0) (h' := 240) hv_1116 (by decide)) (by rw [← ev_1046]; omega) (zm_up qv_1116 hmk_1043 (by decide)) (hP.sub [0, 1, 9, 10, 2, 3, 4, 5, 6, 8, 7] rfl) (hD.sub [0, 1, 9, 10, 2, 3, 4, 5, 6, 8, 7] (by decide) rfl) hS (lv_sub hl [0, 1, 2, 3, 4, 5, 6, 7] rfl)
      · have _nhc_775 := hc_775
        have ni_1117 := (fa_eq _ _).mp hc_775
        rw [li_m1] at ni_1117
        have hv_1118 : zI b2 (-1) (-1) := zI.eq_l hb2 zc_m1 hc_775
        refine lv_iconst (v := 0) hx hb d_Model_layStates_92 (by decide) ?_
        refine lv_goto (tgt := 97) hx hb d_Model_layStates_93 (by decide) ?_
        refine lv_icmp_le (tgt := 104) hx hb d_Model_layStates_97 (by decide) (fun hc_1119 => ?_) (fun hc_1119 => ?_)
        · have _nhc_1119 := hc_1119
          have ni_1120 := (fa_le _ _).mp hc_1119
          rw [li_0] at ni_1120
          have hv_1121 : zI x_773 0 0 := zI.le_l hx_773 zc_0 hc_1119 (by decide)
          refine lv_iconst (v := 0) hx hb d_Model_layStates_104 (by decide) ?_
          refine lv_istore (lv' := [(5, .int 0), (4, .int 241), (0, .ref b0), (1, .int 1), (2, .int b1), (3, .int b2)]) hx hb d_Model_layStates_105 hl (by decide) rfl (fun ls hl => ?_)
          refine lv_iconst (v := 0) hx hb d_Model_layStates_107 (by decide) ?_
          refine lv_istore (lv' := [(6, .int 0), (5, .int 0), (4, .int 241), (0, .ref b0), (1, .int 1), (2, .int b1), (3, .int b2)]) hx hb d_Model_layStates_108 hl (by decide) rfl (fun ls hl => ?_)
          refine lv_iload hx hb d_Model_layStates_110 (lv_at hl 0 rfl) ?_
          refine lv_aload_n hx hb d_Model_layStates_112 rfl (lv_at hl 3 rfl) ?_
          refine va_get (D := G.1) (ci := 12) (v := .ref b18) (C := R_Model) (T := F_Model) (N := 54) hx hb hts i_Model hown hK hP 9 rfl rfl 15 (by decide) (hts _ q1124) (fun _ h9 => h9) rfl d_Model_layStates_113 ?_
          refine lv_iload_n hx hb d_Model_layStates_116 rfl (lv_at hl 4 rfl) ?_
          refine va_iald hx hb hK hP 0 0 rfl rfl (i := 1) (z_in rfl) d_Model_layStates_117 ?_
          refine lv_topi (fun v_1134 ev_1134 => ?_)
          have hv_1134 : zI v_1134 0 241 := (hb58 _).eq ev_1134
          refine lv_icmp_ge (tgt := 258) hx hb d_Model_layStates_118 (by decide) (fun hc_1135 => ?_) (fun hc_1135 => ?_)
          · have _nhc_1135 := hc_1135
            have ni_1136 := (fa_le _ _).mp hc_1135
            rw [li_0] at ni_1136
            have hv_1137 : zI v_1134 0 0 := zI.le_l hv_1134 zc_0 hc_1135 (by decide)
            exact z_vret hx hb hr hlocks (hP.sub [9, 10, 0, 1, 2, 3, 4, 5, 6, 7, 8] rfl) (hD.sub [9, 10, 0, 1, 2, 3, 4, 5, 6, 7, 8] (by decide) rfl) hS (Nat.le_of_ble_eq_true rfl) (Nat.le_of_ble_eq_true rfl) d_Model_layStates_258 ⟨y_763, y_764, b62, f_771, b64, b65, b66, rfl, rfl, hy_764, hb62, hf_771, hb64⟩
          · have _nhc_1135 := hc_1135
            have ni_1138 := (fa_lt _ _).mp (zi_nle hc_1135)
            rw [li_0] at ni_1138
            have hv_1139 : zI v_1134 1 241 := zI.lt_r zc_0 hv_1134 (zi_nle hc_1135) (by decide)
            refine lv_iload hx hb d_Model_layStates_121 (lv_at hl 1 rfl) ?_
            refine lv_if_eq (tgt := 258) hx hb d_Model_layStates_123 (by decide) (fun _ => ?_) (fun hc => absurd hc (by decide +kernel))
            exact z_vret hx hb hr hlocks (hP.sub [9, 10, 0, 1, 2, 3, 4, 5, 6, 7, 8] rfl) (hD.sub [9, 10, 0, 1, 2, 3, 4, 5, 6, 7, 8] (by decide) rfl) hS (Nat.le_of_ble_eq_true rfl) (Nat.le_of_ble_eq_true rfl) d_Model_layStates_258 ⟨y_763, y_764, b62, f_771, b64, b65, b66, rfl, rfl, hy_764, hb62, hf_771, hb64⟩
        · have _nhc_1119 := hc_1119
          have ni_1140 := (fa_lt _ _).mp (zi_nle hc_1119)
          rw [li_0] at ni_1140
          have hv_1141 : zI x_773 1 20 := zI.lt_r zc_0 hx_773 (zi_nle hc_1119) (by decide)
          refine lv_iconst (v := 1) hx hb d_Model_layStates_100 (by decide) ?_
          refine lv_goto (tgt := 105) hx hb d_Model_layStates_101 (by decide) ?_
          refine lv_istore (lv' := [(5, .int 1), (4, .int 241), (0, .ref b0), (1, .int 1), (2, .int b1), (3, .int b2)]) hx hb d_Model_layStates_105 hl (by decide) rfl (fun ls hl => ?_)
          refine lv_iconst (v := 0) hx hb d_Model_layStates_107 (by decide) ?_
          refine lv_istore (lv' := [(6, .int 0), (5, .int 1), (4, .int 241), (0, .ref b0), (1, .int 1), (2, .int b1), (3, .int b2)]) hx hb d_Model_layStates_108 hl (by decide) rfl (fun ls hl => ?_)
          suffices key : ∀ (k_1298 : Nat) (y_1299 : Int32) (y_1300 : Nat → Int32) (y_1301 : Nat → Int32) (y_1302 : Nat → Int32) (y_1303 : Nat → Int32) (y_1304 : Nat → Int32) (H : Heap) (locs : List Loc) (ls : Array Slot), (zI y_1299 0 241) → (zR y_1300 0 240) → (zR y_1301 0 241) → (zR y_1302 0 240) → ((y_1301 (1 : Int32).toNatClampNeg).toInt ≤ (y_1299 : Int32).toInt) → (241 : Int) - y_1299.toInt < (k_1298 : Int) → va_P G.1 classes [(b18, .inl (G.2 0, 2, .inl b58)), (b20, .inl (G.2 0, 520, .inl b59)), (b21, .inl (G.2 0, 9640, .inl y_763)), (b22, .inl (G.2 0, 482, .inl y_764)), (b23, .inl (G.2 0, 482, .inl y_1300)), (b24, .inl (G.2 0, 2, .inl y_1301)), (b25, .inl (G.2 0, 482, .inl y_1302)), (b26, .inl (G.2 0, 482, .inl y_1303)), (b27, .inl (G.2 0, 482, .inl y_1304)), (b0, .inr (12, [.int b3, .ref b4, .ref b5, .ref b6, .ref b7, .int b8, .ref b9, .int b10, .int b11, .int b12, .int b13, .ref b14, .ref b15, .ref b16, .int b17, .ref b18, .ref b19, .ref b20, .ref b21, .ref b22, .ref b23, .ref b24, .ref b25, .ref b26, .ref b27, .ref b28, .ref b29, .int b30, .ref b31, .ref b32, .int b33, .int b34, .int b35, .int b36, .ref b37, .ref b38, .ref b39, .ref b40, .ref b41, .ref b42, .ref b43, .int b44, .ref b45, .ref b46, .int b47, .ref b48, .ref b49, .ref b50, .ref b51, .ref b52, .int b53, .ref b54, .ref b55, .ref b56])), (b4, .inl (G.2 0, 503, .inl b57))] H → va_D A [(b18, .inl (G.2 0, 2, .inl b58)), (b20, .inl (G.2 0, 520, .inl b59)), (b21, .inl (G.2 0, 9640, .inl y_763)), (b22, .inl (G.2 0, 482, .inl y_764)), (b23, .inl (G.2 0, 482, .inl y_1300)), (b24, .inl (G.2 0, 2, .inl y_1301)), (b25, .inl (G.2 0, 482, .inl y_1302)), (b26, .inl (G.2 0, 482, .inl y_1303)), (b27, .inl (G.2 0, 482, .inl y_1304)), (b0, .inr (12, [.int b3, .ref b4, .ref b5, .ref b6, .ref b7, .int b8, .ref b9, .int b10, .int b11, .int b12, .int b13, .ref b14, .ref b15, .ref b16, .int b17, .ref b18, .ref b19, .ref b20, .ref b21, .ref b22, .ref b23, .ref b24, .ref b25, .ref b26, .ref b27, .ref b28, .ref b29, .int b30, .ref b31, .ref b32, .int b33, .int b34, .int b35, .int b36, .ref b37, .ref b38, .ref b39, .ref b40, .ref b41, .ref b42, .ref b43, .int b44, .ref b45, .ref b46, .int b47, .ref b48, .ref b49, .ref b50, .ref b51, .ref b52, .int b53, .ref b54, .ref b55, .ref b56])), (b4, .inl (G.2 0, 503, .inl b57))] → va_S A s.heap H locs → lv_has ls 8 [(6, .int y_1299), (5, .int 1), (4, .int 241), (0, .ref b0), (1, .int 1), (2, .int b1), (3, .int b2)] → W p l e m_s2_Model_layStates s m ([.ref b0, .int 1, .int b1, .int b2] : List Value).toArray below meth c H locs 0 0 (MQ below (zQ G (fun v w => ∃ (e0 : Nat → Int32), ∃ (e1 : Nat → Int32), ∃ (e2 : Nat → Int32), ∃ (e3 : Nat → Int32), ∃ (e4 : Nat → Int32), ∃ (e5 : Nat → Int32), ∃ (e6 : Nat → Int32), v = none ∧ w = [(b0, .inr (12, [.int b3, .ref b4, .ref b5, .ref b6, .ref b7, .int b8, .ref b9, .int b10, .int b11, .int b12, .int b13, .ref b14, .ref b15, .ref b16, .int b17, .ref b18, .ref b19, .ref b20, .ref b21, .ref b22, .ref b23, .ref b24, .ref b25, .ref b26, .ref b27, .ref b28, .ref b29, .int b30, .ref b31, .ref b32, .int b33, .int b34, .int b35, .int b36, .ref b37, .ref b38, .ref b39, .ref b40, .ref b41, .ref b42, .ref b43, .int b44, .ref b45, .ref b46, .int b47, .ref b48, .ref b49, .ref b50, .ref b51, .ref b52, .int b53, .ref b54, .ref b55, .ref b56])), (b4, .inl (G.2 0, 503, .inl b57)), (b18, .inl (G.2 0, 2, .inl b58)), (b20, .inl (G.2 0, 520, .inl b59)), (b21, .inl (G.2 0, 9640, .inl e0)), (b22, .inl (G.2 0, 482, .inl e1)), (b23, .inl (G.2 0, 482, .inl e2)), (b24, .inl (G.2 0, 2, .inl e3)), (b25, .inl (G.2 0, 482, .inl e4)), (b26, .inl (G.2 0, 482, .inl e5)), (b27, .inl (G.2 0, 482, .inl e6))] ∧ (zqa qC e1) ∧ (zR e2 0 240) ∧ (zR e3 0 241) ∧ (zR e4 0 240)) A) ([.ref b0, .int 1, .int b1, .int b2] : List Value).toArray s m_s2_Model_layStates.cells m_s2_Model_layStates.slots A) (F0 m 110 ls []) by
            exact key 242 (0) (b62) (f_771) (b64) (b65) (b66) _ _ _ (zI.wk (l' := 0) (h' := 241) zc_0 (by decide)) hb62 hf_771 hb64 (by rw [gf_771]; have _l0 := li_0; omega) (zm_upi (zI.wk (l' := 0) (h' := 241) zc_0 (by decide)) (by decide)) hP hD hS (lv_sub hl [0, 1, 2, 3, 4, 5, 6] rfl)
          intro k_1298
          induction k_1298 with
          | zero =>
            intro y_1299 y_1300 y_1301 y_1302 y_1303 y_1304 H locs ls hy_1299 hy_1300 hy_1301 hy_1302 hli_1305 hmk_1298 hP hD hS hl
            exact (zm_up0 hy_1299 hmk_1298).elim
          | succ k_1298 ihk_1298 =>
            intro y_1299 y_1300 y_1301 y_1302 y_1303 y_1304 H locs ls hy_1299 hy_1300 hy_1301 hy_1302 hli_1305 hmk_1298 hP hD hS hl
            refine lv_iload hx hb d_Model_layStates_110 (lv_at hl 0 rfl) ?_
            refine lv_aload_n hx hb d_Model_layStates_112 rfl (lv_at hl 3 rfl) ?_
            refine va_get (D := G.1) (ci := 12) (v := .ref b18) (C := R_Model) (T := F_Model) (N := 54) hx hb hts i_Model hown hK hP 9 rfl rfl 15 (by decide) (hts _ q1124) (fun _ h9 => h9) rfl d_Model_layStates_113 ?_
            refine lv_iload_n hx hb d_Model_layStates_116 rfl (lv_at hl 4 rfl) ?_
            refine va_iald hx hb hK hP 0 0 rfl rfl (i := 1) (z_in rfl) d_Model_layStates_117 ?_
            refine lv_topi (fun v_1306 ev_1306 => ?_)
            have hv_1306 : zI v_1306 0 241 := (hb58 _).eq ev_1306
            refine lv_icmp_ge (tgt := 258) hx hb d_Model_layStates_118 (by decide) (fun hc_1307 => ?_) (fun hc_1307 => ?_)
            · have _nhc_1307 := hc_1307
              have ni_1308 := (fa_le _ _).mp hc_1307
              exact z_vret hx hb hr hlocks (hP.sub [9, 10, 0, 1, 2, 3, 4, 5, 6, 7, 8] rfl) (hD.sub [9, 10, 0, 1, 2, 3, 4, 5, 6, 7, 8] (by decide) rfl) hS (Nat.le_of_ble_eq_true rfl) (Nat.le_of_ble_eq_true rfl) d_Model_layStates_258 ⟨y_763, y_764, y_1300, y_1301, y_1302, y_1303, y_1304, rfl, rfl, hy_764, hy_1300, hy_1301, hy_1302⟩
            · have _nhc_1307 := hc_1307
              have ni_1309 := (fa_lt _ _).mp (zi_nle hc_1307)
              have hv_1310 : zI y_1299 0 240 := zI.lt_l hy_1299 hv_1306 (zi_nle hc_1307) (by decide)
              have hv_1311 : zI v_1306 1 241 := zI.lt_r hy_1299 hv_1306 (zi_nle hc_1307) (by decide)
              refine lv_iload hx hb d_Model_layStates_121 (lv_at hl 1 rfl) ?_
              refine lv_if_eq (tgt := 258) hx hb d_Model_layStates_123 (by decide) (fun hc => absurd hc (by decide +kernel)) (fun _ => ?_)
              refine lv_iconst (v := 0) hx hb d_Model_layStates_126 (by decide) ?_
              refine lv_istore (lv' := [(7, .int 0), (6, .int y_1299), (5, .int 1), (4, .int 241), (0, .ref b0), (1, .int 1), (2, .int b1), (3, .int b2)]) hx hb d_Model_layStates_127 hl (by decide) rfl (fun ls hl => ?_)
              suffices key : ∀ (k_1384 : Nat) (y_1385 : Int32) (H : Heap) (locs : List Loc) (ls : Array Slot), (zI y_1385 0 240) → ((y_1385 : Int32).toInt ≤ (y_1301 (1 : Int32).toNatClampNeg).toInt) → (240 : Int) - y_1385.toInt < (k_1384 : Int) → va_P G.1 classes [(b18, .inl (G.2 0, 2, .inl b58)), (b20, .inl (G.2 0, 520, .inl b59)), (b21, .inl (G.2 0, 9640, .inl y_763)), (b22, .inl (G.2 0, 482, .inl y_764)), (b23, .inl (G.2 0, 482, .inl y_1300)), (b24, .inl (G.2 0, 2, .inl y_1301)), (b25, .inl (G.2 0, 482, .inl y_1302)), (b26, .inl (G.2 0, 482, .inl y_1303)), (b27, .inl (G.2 0, 482, .inl y_1304)), (b0, .inr (12, [.int b3, .ref b4, .ref b5, .ref b6, .ref b7, .int b8, .ref b9, .int b10, .int b11, .int b12, .int b13, .ref b14, .ref b15, .ref b16, .int b17, .ref b18, .ref b19, .ref b20, .ref b21, .ref b22, .ref b23, .ref b24, .ref b25, .ref b26, .ref b27, .ref b28, .ref b29, .int b30, .ref b31, .ref b32, .int b33, .int b34, .int b35, .int b36, .ref b37, .ref b38, .ref b39, .ref b40, .ref b41, .ref b42, .ref b43, .int b44, .ref b45, .ref b46, .int b47, .ref b48, .ref b49, .ref b50, .ref b51, .ref b52, .int b53, .ref b54, .ref b55, .ref b56])), (b4, .inl (G.2 0, 503, .inl b57))] H → va_D A [(b18, .inl (G.2 0, 2, .inl b58)), (b20, .inl (G.2 0, 520, .inl b59)), (b21, .inl (G.2 0, 9640, .inl y_763)), (b22, .inl (G.2 0, 482, .inl y_764)), (b23, .inl (G.2 0, 482, .inl y_1300)), (b24, .inl (G.2 0, 2, .inl y_1301)), (b25, .inl (G.2 0, 482, .inl y_1302)), (b26, .inl (G.2 0, 482, .inl y_1303)), (b27, .inl (G.2 0, 482, .inl y_1304)), (b0, .inr (12, [.int b3, .ref b4, .ref b5, .ref b6, .ref b7, .int b8, .ref b9, .int b10, .int b11, .int b12, .int b13, .ref b14, .ref b15, .ref b16, .int b17, .ref b18, .ref b19, .ref b20, .ref b21, .ref b22, .ref b23, .ref b24, .ref b25, .ref b26, .ref b27, .ref b28, .ref b29, .int b30, .ref b31, .ref b32, .int b33, .int b34, .int b35, .int b36, .ref b37, .ref b38, .ref b39, .ref b40, .ref b41, .ref b42, .ref b43, .int b44, .ref b45, .ref b46, .int b47, .ref b48, .ref b49, .ref b50, .ref b51, .ref b52, .int b53, .ref b54, .ref b55, .ref b56])), (b4, .inl (G.2 0, 503, .inl b57))] → va_S A s.heap H locs → lv_has ls 8 [(7, .int y_1385), (6, .int y_1299), (5, .int 1), (4, .int 241), (0, .ref b0), (1, .int 1), (2, .int b1), (3, .int b2)] → W p l e m_s2_Model_layStates s m ([.ref b0, .int 1, .int b1, .int b2] : List Value).toArray below meth c H locs 0 0 (MQ below (zQ G (fun v w => ∃ (e0 : Nat → Int32), ∃ (e1 : Nat → Int32), ∃ (e2 : Nat → Int32), ∃ (e3 : Nat → Int32), ∃ (e4 : Nat → Int32), ∃ (e5 : Nat → Int32), ∃ (e6 : Nat → Int32), v = none ∧ w = [(b0, .inr (12, [.int b3, .ref b4, .ref b5, .ref b6, .ref b7, .int b8, .ref b9, .int b10, .int b11, .int b12, .int b13, .ref b14, .ref b15, .ref b16, .int b17, .ref b18, .ref b19, .ref b20, .ref b21, .ref b22, .ref b23, .ref b24, .ref b25, .ref b26, .ref b27, .ref b28, .ref b29, .int b30, .ref b31, .ref b32, .int b33, .int b34, .int b35, .int b36, .ref b37, .ref b38, .ref b39, .ref b40, .ref b41, .ref b42, .ref b43, .int b44, .ref b45, .ref b46, .int b47, .ref b48, .ref b49, .ref b50, .ref b51, .ref b52, .int b53, .ref b54, .ref b55, .ref b56])), (b4, .inl (G.2 0, 503, .inl b57)), (b18, .inl (G.2 0, 2, .inl b58)), (b20, .inl (G.2 0, 520, .inl b59)), (b21, .inl (G.2 0, 9640, .inl e0)), (b22, .inl (G.2 0, 482, .inl e1)), (b23, .inl (G.2 0, 482, .inl e2)), (b24, .inl (G.2 0, 2, .inl e3)), (b25, .inl (G.2 0, 482, .inl e4)), (b26, .inl (G.2 0, 482, .inl e5)), (b27, .inl (G.2 0, 482, .inl e6))] ∧ (zqa qC e1) ∧ (zR e2 0 240) ∧ (zR e3 0 241) ∧ (zR e4 0 240)) A) ([.ref b0, .int 1, .int b1, .int b2] : List Value).toArray s m_s2_Model_layStates.cells m_s2_Model_layStates.slots A) (F0 m 129 ls []) by
                exact key 241 (0) _ _ _ (zI.wk (l' := 0) (h' := 240) zc_0 (by decide)) (by have _l0 := li_0; have h9 := hy_1301 (1 : Int32).toNatClampNeg; omega) (zm_upi (zI.wk (l' := 0) (h' := 240) zc_0 (by decide)) (by decide)) hP hD hS (lv_sub hl [0, 1, 2, 3, 4, 5, 6, 7] rfl)
              intro k_1384
              induction k_1384 with
              | zero =>
                intro y_1385 H locs ls hy_1385 hli_1386 hmk_1384 hP hD hS hl
                exact (zm_up0 hy_1385 hmk_1384).elim
              | succ k_1384 ihk_1384 =>
                intro y_1385 H locs ls hy_1385 hli_1386 hmk_1384 hP hD hS hl
                refine lv_iload hx hb d_Model_layStates_129 (lv_at hl 0 rfl) ?_
                refine lv_aload_n hx hb d_Model_layStates_131 rfl (lv_at hl 4 rfl) ?_
                refine va_get (D := G.1) (ci := 12) (v := .ref b24) (C := R_Model) (T := F_Model) (N := 54) hx hb hts i_Model hown hK hP 9 rfl rfl 21 (by decide) (hts _ q1130) (fun _ h9 => h9) rfl d_Model_layStates_132 ?_
                refine lv_iload_n hx hb d_Model_layStates_135 rfl (lv_at hl 5 rfl) ?_
                refine va_iald hx hb hK hP 5 0 rfl rfl (i := 1) (z_in rfl) d_Model_layStates_136 ?_
                refine lv_topi (fun v_1387 ev_1387 => ?_)
                have hv_1387 : zI v_1387 0 241 := (hy_1301 _).eq ev_1387
                have hv_1388 : zI v_1387 0 240 := ⟨hv_1387.1, by rw [ev_1387]; omega⟩
                have hsmv_1387 : v_1387.toInt ≤ y_1299.toInt := by rw [ev_1387]; omega
                refine lv_icmp_ge (tgt := 171) hx hb d_Model_layStates_137 (by decide) (fun hc_1389 => ?_) (fun hc_1389 => ?_)
                · have _nhc_1389 := hc_1389
                  have ni_1390 := (fa_le _ _).mp hc_1389
                  refine lv_iload hx hb d_Model_layStates_171 (lv_at hl 0 rfl) ?_
                  refine lv_aload_n hx hb d_Model_layStates_173 rfl (lv_at hl 4 rfl) ?_
                  refine va_get (D := G.1) (ci := 12) (v := .ref b24) (C := R_Model) (T := F_Model) (N := 54) hx hb hts i_Model hown hK hP 9 rfl rfl 21 (by decide) (hts _ q1130) (fun _ h9 => h9) rfl d_Model_layStates_174 ?_
                  refine lv_iload_n hx hb d_Model_layStates_177 rfl (lv_at hl 5 rfl) ?_
                  refine va_iald hx hb hK hP 5 0 rfl rfl (i := 1) (z_in rfl) d_Model_layStates_178 ?_
                  refine lv_topi (fun v_1391 ev_1391 => ?_)
                  obtain rfl : v_1387 = v_1391 := ev_1387.trans ev_1391.symm
                  refine lv_icmp_ne (tgt := 226) hx hb d_Model_layStates_179 (by decide) (fun hc_1392 => ?_) (fun hc_1392 => ?_)
                  · have _nhc_1392 := hc_1392
                    have ni_1393 : ¬ (y_1385 : Int32).toInt = (v_1387 : Int32).toInt := fun z => hc_1392 ((fa_eq _ _).mpr z)
                    refine lv_aload_n hx hb d_Model_layStates_226 rfl (lv_at hl 4 rfl) ?_
                    refine va_get (D := G.1) (ci := 12) (v := .ref b26) (C := R_Model) (T := F_Model) (N := 54) hx hb hts i_Model hown hK hP 9 rfl rfl 23 (by decide) (hts _ q1132) (fun _ h9 => h9) rfl d_Model_layStates_227 ?_
                    refine lv_iload hx hb d_Model_layStates_230 (lv_at hl 3 rfl) ?_
                    refine lv_iload hx hb d_Model_layStates_232 (lv_at hl 0 rfl) ?_
                    refine lv_iadd hx hb d_Model_layStates_234 ?_
                    refine lv_topi (fun v_1394 ev_1394 => ?_)
                    obtain ⟨qv_1394, hv_1394⟩ := zI_add (l := 241) (h := 481) zc_241 hy_1385 ev_1394 (by decide)
                    rw [li_241] at qv_1394
                    refine lv_dup2_11 hx hb d_Model_layStates_235 rfl rfl ?_
                    refine va_iald hx hb hK hP 7 0 rfl rfl (zI.inn hv_1394 (by decide)) d_Model_layStates_236 ?_
                    refine lv_topi (fun v_1395 ev_1395 => ?_)
                    refine lv_iconst (v := 1) hx hb d_Model_layStates_237 (by decide) ?_
                    refine lv_iadd hx hb d_Model_layStates_238 ?_
                    refine lv_topi (fun v_1396 ev_1396 => ?_)
                    refine va_iast hx hb hK hP hD hS 7 0 rfl rfl (zI.inn hv_1394 (by decide)) d_Model_layStates_239 (fun H locs hP hD hS => ?_)
                    obtain ⟨f_1397, gf_1397, uf_1397, hP, hD⟩ := z_newFu 7 hP hD rfl
                    have hP : va_P G.1 classes [(b18, .inl (G.2 0, 2, .inl b58)), (b20, .inl (G.2 0, 520, .inl b59)), (b21, .inl (G.2 0, 9640, .inl y_763)), (b22, .inl (G.2 0, 482, .inl y_764)), (b23, .inl (G.2 0, 482, .inl y_1300)), (b24, .inl (G.2 0, 2, .inl y_1301)), (b25, .inl (G.2 0, 482, .inl y_1302)), (b26, .inl (G.2 0, 482, .inl f_1397)), (b27, .inl (G.2 0, 482, .inl y_1304)), (b0, .inr (12, [.int b3, .ref b4, .ref b5, .ref b6, .ref b7, .int b8, .ref b9, .int b10, .int b11, .int b12, .int b13, .ref b14, .ref b15, .ref b16, .int b17, .ref b18, .ref b19, .ref b20, .ref b21, .ref b22, .ref b23, .ref b24, .ref b25, .ref b26, .ref b27, .ref b28, .ref b29, .int b30, .ref b31, .ref b32, .int b33, .int b34, .int b35, .int b36, .ref b37, .ref b38, .ref b39, .ref b40, .ref b41, .ref b42, .ref b43, .int b44, .ref b45, .ref b46, .int b47, .ref b48, .ref b49, .ref b50, .ref b51, .ref b52, .int b53, .ref b54, .ref b55, .ref b56])), (b4, .inl (G.2 0, 503, .inl b57))] H := hP
                    have hD := z_tie hP hD rfl
                    refine lv_aload_n hx hb d_Model_layStates_240 rfl (lv_at hl 4 rfl) ?_
                    refine va_get (D := G.1) (ci := 12) (v := .ref b23) (C := R_Model) (T := F_Model) (N := 54) hx hb hts i_Model hown hK hP 9 rfl rfl 20 (by decide) (hts _ q1129) (fun _ h9 => h9) rfl d_Model_layStates_241 ?_
                    refine lv_iload hx hb d_Model_layStates_244 (lv_at hl 3 rfl) ?_
                    refine lv_iload hx hb d_Model_layStates_246 (lv_at hl 1 rfl) ?_
                    refine lv_iadd hx hb d_Model_layStates_248 ?_
                    refine lv_topi (fun v_1398 ev_1398 => ?_)
                    obtain ⟨qv_1398, hv_1398⟩ := zI_add (l := 241) (h := 481) zc_241 hv_1310 ev_1398 (by decide)
                    rw [li_241] at qv_1398
                    refine lv_iload hx hb d_Model_layStates_249 (lv_at hl 0 rfl) ?_
                    refine va_iast hx hb hK hP hD hS 4 0 rfl rfl (zI.inn hv_1398 (by decide)) d_Model_layStates_251 (fun H locs hP hD hS => ?_)
                    obtain ⟨f_1399, hf_1399, gf_1399, uf_1399, hP, hD⟩ := z_newfu 4 hP hD rfl hy_1300 hy_1385
                    have hP : va_P G.1 classes [(b18, .inl (G.2 0, 2, .inl b58)), (b20, .inl (G.2 0, 520, .inl b59)), (b21, .inl (G.2 0, 9640, .inl y_763)), (b22, .inl (G.2 0, 482, .inl y_764)), (b23, .inl (G.2 0, 482, .inl f_1399)), (b24, .inl (G.2 0, 2, .inl y_1301)), (b25, .inl (G.2 0, 482, .inl y_1302)), (b26, .inl (G.2 0, 482, .inl f_1397)), (b27, .inl (G.2 0, 482, .inl y_1304)), (b0, .inr (12, [.int b3, .ref b4, .ref b5, .ref b6, .ref b7, .int b8, .ref b9, .int b10, .int b11, .int b12, .int b13, .ref b14, .ref b15, .ref b16, .int b17, .ref b18, .ref b19, .ref b20, .ref b21, .ref b22, .ref b23, .ref b24, .ref b25, .ref b26, .ref b27, .ref b28, .ref b29, .int b30, .ref b31, .ref b32, .int b33, .int b34, .int b35, .int b36, .ref b37, .ref b38, .ref b39, .ref b40, .ref b41, .ref b42, .ref b43, .int b44, .ref b45, .ref b46, .int b47, .ref b48, .ref b49, .ref b50, .ref b51, .ref b52, .int b53, .ref b54, .ref b55, .ref b56])), (b4, .inl (G.2 0, 503, .inl b57))] H := hP
                    have hD := z_tie hP hD rfl
                    obtain ⟨v_1400, ev_1400⟩ : ∃ z : Int32, z = y_1299 + 1 := ⟨_, rfl⟩
                    obtain ⟨qv_1400, hv_1400⟩ := zI_add (l := 1) (h := 241) hv_1310 zc_1 ev_1400 (by decide)
                    rw [li_1] at qv_1400
                    refine lv_iinc (v := v_1400) (lv' := [(6, .int v_1400), (7, .int y_1385), (5, .int 1), (4, .int 241), (0, .ref b0), (1, .int 1), (2, .int b1), (3, .int b2)]) hx hb d_Model_layStates_252 hl (k := 1) rfl (by rw [ev_1400]; rfl) (by decide) rfl (fun ls hl => ?_)
                    refine lv_goto (tgt := 110) hx hb d_Model_layStates_255 (by decide) ?_
                    exact ihk_1298 (v_1400) (f_1399) (y_1301) (y_1302) (f_1397) (y_1304) _ _ _ (zI.wk (l' := 0) (h' := 241) hv_1400 (by decide)) hf_1399 hy_1301 hy_1302 (by omega) (zm_up qv_1400 hmk_1298 (by decide)) hP hD hS (lv_sub hl [0, 2, 3, 4, 5, 6, 7] rfl)
                  · have _nhc_1392 := hc_1392
                    have ni_1401 := (fa_eq _ _).mp hc_1392
                    refine lv_aload_n hx hb d_Model_layStates_182 rfl (lv_at hl 4 rfl) ?_
                    refine va_get (D := G.1) (ci := 12) (v := .ref b25) (C := R_Model) (T := F_Model) (N := 54) hx hb hts i_Model hown hK hP 9 rfl rfl 22 (by decide) (hts _ q1131) (fun _ h9 => h9) rfl d_Model_layStates_183 ?_
                    refine lv_iload hx hb d_Model_layStates_186 (lv_at hl 3 rfl) ?_
                    refine lv_iload hx hb d_Model_layStates_188 (lv_at hl 0 rfl) ?_
                    refine lv_iadd hx hb d_Model_layStates_190 ?_
                    refine lv_topi (fun v_1402 ev_1402 => ?_)
                    obtain ⟨qv_1402, hv_1402⟩ := zI_add (l := 241) (h := 481) zc_241 hy_1385 ev_1402 (by decide)
                    rw [li_241] at qv_1402
                    refine lv_iload hx hb d_Model_layStates_191 (lv_at hl 1 rfl) ?_
                    refine va_iast hx hb hK hP hD hS 6 0 rfl rfl (zI.inn hv_1402 (by decide)) d_Model_layStates_193 (fun H locs hP hD hS => ?_)
                    obtain ⟨f_1403, hf_1403, gf_1403, uf_1403, hP, hD⟩ := z_newfu 6 hP hD rfl hy_1302 hv_1310
                    have hP : va_P G.1 classes [(b18, .inl (G.2 0, 2, .inl b58)), (b20, .inl (G.2 0, 520, .inl b59)), (b21, .inl (G.2 0, 9640, .inl y_763)), (b22, .inl (G.2 0, 482, .inl y_764)), (b23, .inl (G.2 0, 482, .inl y_1300)), (b24, .inl (G.2 0, 2, .inl y_1301)), (b25, .inl (G.2 0, 482, .inl f_1403)), (b26, .inl (G.2 0, 482, .inl y_1303)), (b27, .inl (G.2 0, 482, .inl y_1304)), (b0, .inr (12, [.int b3, .ref b4, .ref b5, .ref b6, .ref b7, .int b8, .ref b9, .int b10, .int b11, .int b12, .int b13, .ref b14, .ref b15, .ref b16, .int b17, .ref b18, .ref b19, .ref b20, .ref b21, .ref b22, .ref b23, .ref b24, .ref b25, .ref b26, .ref b27, .ref b28, .ref b29, .int b30, .ref b31, .ref b32, .int b33, .int b34, .int b35, .int b36, .ref b37, .ref b38, .ref b39, .ref b40, .ref b41, .ref b42, .ref b43, .int b44, .ref b45, .ref b46, .int b47, .ref b48, .ref b49, .ref b50, .ref b51, .ref b52, .int b53, .ref b54, .ref b55, .ref b56])), (b4, .inl (G.2 0, 503, .inl b57))] H := hP
                    have hD := z_tie hP hD rfl
                    refine lv_aload_n hx hb d_Model_layStates_194 rfl (lv_at hl 4 rfl) ?_
                    refine va_get (D := G.1) (ci := 12) (v := .ref b26) (C := R_Model) (T := F_Model) (N := 54) hx hb hts i_Model hown hK hP 9 rfl rfl 23 (by decide) (hts _ q1132) (fun _ h9 => h9) rfl d_Model_layStates_195 ?_
                    refine lv_iload hx hb d_Model_layStates_198 (lv_at hl 3 rfl) ?_
                    refine lv_iload hx hb d_Model_layStates_200 (lv_at hl 0 rfl) ?_
                    refine lv_iadd hx hb d_Model_layStates_202 ?_
                    refine lv_topi (fun v_1404 ev_1404 => ?_)
                    obtain rfl : v_1402 = v_1404 := ev_1402.trans ev_1404.symm
                    refine lv_iconst (v := 0) hx hb d_Model_layStates_203 (by decide) ?_
                    refine va_iast hx hb hK hP hD hS 7 0 rfl rfl (zI.inn hv_1402 (by decide)) d_Model_layStates_204 (fun H locs hP hD hS => ?_)
                    obtain ⟨f_1405, gf_1405, uf_1405, hP, hD⟩ := z_newFu 7 hP hD rfl
                    have hP : va_P G.1 classes [(b18, .inl (G.2 0, 2, .inl b58)), (b20, .inl (G.2 0, 520, .inl b59)), (b21, .inl (G.2 0, 9640, .inl y_763)), (b22, .inl (G.2 0, 482, .inl y_764)), (b23, .inl (G.2 0, 482, .inl y_1300)), (b24, .inl (G.2 0, 2, .inl y_1301)), (b25, .inl (G.2 0, 482, .inl f_1403)), (b26, .inl (G.2 0, 482, .inl f_1405)), (b27, .inl (G.2 0, 482, .inl y_1304)), (b0, .inr (12, [.int b3, .ref b4, .ref b5, .ref b6, .ref b7, .int b8, .ref b9, .int b10, .int b11, .int b12, .int b13, .ref b14, .ref b15, .ref b16, .int b17, .ref b18, .ref b19, .ref b20, .ref b21, .ref b22, .ref b23, .ref b24, .ref b25, .ref b26, .ref b27, .ref b28, .ref b29, .int b30, .ref b31, .ref b32, .int b33, .int b34, .int b35, .int b36, .ref b37, .ref b38, .ref b39, .ref b40, .ref b41, .ref b42, .ref b43, .int b44, .ref b45, .ref b46, .int b47, .ref b48, .ref b49, .ref b50, .ref b51, .ref b52, .int b53, .ref b54, .ref b55, .ref b56])), (b4, .inl (G.2 0, 503, .inl b57))] H := hP
                    have hD := z_tie hP hD rfl
                    refine lv_aload_n hx hb d_Model_layStates_205 rfl (lv_at hl 4 rfl) ?_
                    refine va_get (D := G.1) (ci := 12) (v := .ref b27) (C := R_Model) (T := F_Model) (N := 54) hx hb hts i_Model hown hK hP 9 rfl rfl 24 (by decide) (hts _ q1133) (fun _ h9 => h9) rfl d_Model_layStates_206 ?_
                    refine lv_iload hx hb d_Model_layStates_209 (lv_at hl 3 rfl) ?_
                    refine lv_iload hx hb d_Model_layStates_211 (lv_at hl 0 rfl) ?_
                    refine lv_iadd hx hb d_Model_layStates_213 ?_
                    refine lv_topi (fun v_1406 ev_1406 => ?_)
                    obtain rfl : v_1402 = v_1406 := ev_1402.trans ev_1406.symm
                    refine lv_iconst (v := 0) hx hb d_Model_layStates_214 (by decide) ?_
                    refine va_iast hx hb hK hP hD hS 8 0 rfl rfl (zI.inn hv_1402 (by decide)) d_Model_layStates_215 (fun H locs hP hD hS => ?_)
                    obtain ⟨f_1407, gf_1407, uf_1407, hP, hD⟩ := z_newFu 8 hP hD rfl
                    have hP : va_P G.1 classes [(b18, .inl (G.2 0, 2, .inl b58)), (b20, .inl (G.2 0, 520, .inl b59)), (b21, .inl (G.2 0, 9640, .inl y_763)), (b22, .inl (G.2 0, 482, .inl y_764)), (b23, .inl (G.2 0, 482, .inl y_1300)), (b24, .inl (G.2 0, 2, .inl y_1301)), (b25, .inl (G.2 0, 482, .inl f_1403)), (b26, .inl (G.2 0, 482, .inl f_1405)), (b27, .inl (G.2 0, 482, .inl f_1407)), (b0, .inr (12, [.int b3, .ref b4, .ref b5, .ref b6, .ref b7, .int b8, .ref b9, .int b10, .int b11, .int b12, .int b13, .ref b14, .ref b15, .ref b16, .int b17, .ref b18, .ref b19, .ref b20, .ref b21, .ref b22, .ref b23, .ref b24, .ref b25, .ref b26, .ref b27, .ref b28, .ref b29, .int b30, .ref b31, .ref b32, .int b33, .int b34, .int b35, .int b36, .ref b37, .ref b38, .ref b39, .ref b40, .ref b41, .ref b42, .ref b43, .int b44, .ref b45, .ref b46, .int b47, .ref b48, .ref b49, .ref b50, .ref b51, .ref b52, .int b53, .ref b54, .ref b55, .ref b56])), (b4, .inl (G.2 0, 503, .inl b57))] H := hP
                    have hD := z_tie hP hD rfl
                    refine lv_aload_n hx hb d_Model_layStates_216 rfl (lv_at hl 4 rfl) ?_
                    refine va_get (D := G.1) (ci := 12) (v := .ref b24) (C := R_Model) (T := F_Model) (N := 54) hx hb hts i_Model hown hK hP 9 rfl rfl 21 (by decide) (hts _ q1130) (fun _ h9 => h9) rfl d_Model_layStates_217 ?_
                    refine lv_iload_n hx hb d_Model_layStates_220 rfl (lv_at hl 5 rfl) ?_
                    refine lv_dup2_11 hx hb d_Model_layStates_221 rfl rfl ?_
                    refine va_iald hx hb hK hP 5 0 rfl rfl (i := 1) (z_in rfl) d_Model_layStates_222 ?_
                    refine lv_topi (fun v_1408 ev_1408 => ?_)
                    obtain rfl : v_1387 = v_1408 := ev_1387.trans ev_1408.symm
                    refine lv_iconst (v := 1) hx hb d_Model_layStates_223 (by decide) ?_
                    refine lv_iadd hx hb d_Model_layStates_224 ?_
                    refine lv_topi (fun v_1409 ev_1409 => ?_)
                    obtain ⟨qv_1409, hv_1409⟩ := zI_add (l := 1) (h := 241) hv_1388 zc_1 ev_1409 (by decide)
                    rw [li_1] at qv_1409
                    refine va_iast hx hb hK hP hD hS 5 0 rfl rfl (i := 1) (z_in rfl) d_Model_layStates_225 (fun H locs hP hD hS => ?_)
                    obtain ⟨f_1410, hf_1410, gf_1410, uf_1410, hP, hD⟩ := z_newfu 5 hP hD rfl hy_1301 (zI.wk (l' := 0) (h' := 241) hv_1409 (by decide))
                    have hP : va_P G.1 classes [(b18, .inl (G.2 0, 2, .inl b58)), (b20, .inl (G.2 0, 520, .inl b59)), (b21, .inl (G.2 0, 9640, .inl y_763)), (b22, .inl (G.2 0, 482, .inl y_764)), (b23, .inl (G.2 0, 482, .inl y_1300)), (b24, .inl (G.2 0, 2, .inl f_1410)), (b25, .inl (G.2 0, 482, .inl f_1403)), (b26, .inl (G.2 0, 482, .inl f_1405)), (b27, .inl (G.2 0, 482, .inl f_1407)), (b0, .inr (12, [.int b3, .ref b4, .ref b5, .ref b6, .ref b7, .int b8, .ref b9, .int b10, .int b11, .int b12, .int b13, .ref b14, .ref b15, .ref b16, .int b17, .ref b18, .ref b19, .ref b20, .ref b21, .ref b22, .ref b23, .ref b24, .ref b25, .ref b26, .ref b27, .ref b28, .ref b29, .int b30, .ref b31, .ref b32, .int b33, .int b34, .int b35, .int b36, .ref b37, .ref b38, .ref b39, .ref b40, .ref b41, .ref b42, .ref b43, .int b44, .ref b45, .ref b46, .int b47, .ref b48, .ref b49, .ref b50, .ref b51, .ref b52, .int b53, .ref b54, .ref b55, .ref b56])), (b4, .inl (G.2 0, 503, .inl b57))] H := hP
                    have hD := z_tie hP hD rfl
                    refine lv_aload_n hx hb d_Model_layStates_226 rfl (lv_at hl 4 rfl) ?_
                    refine va_get (D := G.1) (ci := 12) (v := .ref b26) (C := R_Model) (T := F_Model) (N := 54) hx hb hts i_Model hown hK hP 9 rfl rfl 23 (by decide) (hts _ q1132) (fun _ h9 => h9) rfl d_Model_layStates_227 ?_
                    refine lv_iload hx hb d_Model_layStates_230 (lv_at hl 3 rfl) ?_
                    refine lv_iload hx hb d_Model_layStates_232 (lv_at hl 0 rfl) ?_
                    refine lv_iadd hx hb d_Model_layStates_234 ?_
                    refine lv_topi (fun v_1411 ev_1411 => ?_)
                    obtain rfl : v_1402 = v_1411 := ev_1402.trans ev_1411.symm
                    refine lv_dup2_11 hx hb d_Model_layStates_235 rfl rfl ?_
                    refine va_iald hx hb hK hP 7 0 rfl rfl (zI.inn hv_1402 (by decide)) d_Model_layStates_236 ?_
                    refine lv_topi (fun v_1412 ev_1412 => ?_)
                    obtain rfl : v_1412 = 0 := ev_1412.trans gf_1405
                    refine lv_iconst (v := 1) hx hb d_Model_layStates_237 (by decide) ?_
                    refine lv_iadd hx hb d_Model_layStates_238 ?_
                    refine z_topi (y := 1) (by decide +kernel) ?_
                    refine va_iast hx hb hK hP hD hS 7 0 rfl rfl (zI.inn hv_1402 (by decide)) d_Model_layStates_239 (fun H locs hP hD hS => ?_)
                    obtain ⟨f_1413, gf_1413, uf_1413, hP, hD⟩ := z_newFu 7 hP hD rfl
                    have hP : va_P G.1 classes [(b18, .inl (G.2 0, 2, .inl b58)), (b20, .inl (G.2 0, 520, .inl b59)), (b21, .inl (G.2 0, 9640, .inl y_763)), (b22, .inl (G.2 0, 482, .inl y_764)), (b23, .inl (G.2 0, 482, .inl y_1300)), (b24, .inl (G.2 0, 2, .inl f_1410)), (b25, .inl (G.2 0, 482, .inl f_1403)), (b26, .inl (G.2 0, 482, .inl f_1413)), (b27, .inl (G.2 0, 482, .inl f_1407)), (b0, .inr (12, [.int b3, .ref b4, .ref b5, .ref b6, .ref b7, .int b8, .ref b9, .int b10, .int b11, .int b12, .int b13, .ref b14, .ref b15, .ref b16, .int b17, .ref b18, .ref b19, .ref b20, .ref b21, .ref b22, .ref b23, .ref b24, .ref b25, .ref b26, .ref b27, .ref b28, .ref b29, .int b30, .ref b31, .ref b32, .int b33, .int b34, .int b35, .int b36, .ref b37, .ref b38, .ref b39, .ref b40, .ref b41, .ref b42, .ref b43, .int b44, .ref b45, .ref b46, .int b47, .ref b48, .ref b49, .ref b50, .ref b51, .ref b52, .int b53, .ref b54, .ref b55, .ref b56])), (b4, .inl (G.2 0, 503, .inl b57))] H := hP
                    have hD := z_tie hP hD rfl
                    refine lv_aload_n hx hb d_Model_layStates_240 rfl (lv_at hl 4 rfl) ?_
                    refine va_get (D := G.1) (ci := 12) (v := .ref b23) (C := R_Model) (T := F_Model) (N := 54) hx hb hts i_Model hown hK hP 9 rfl rfl 20 (by decide) (hts _ q1129) (fun _ h9 => h9) rfl d_Model_layStates_241 ?_
                    refine lv_iload hx hb d_Model_layStates_244 (lv_at hl 3 rfl) ?_
                    refine lv_iload hx hb d_Model_layStates_246 (lv_at hl 1 rfl) ?_
                    refine lv_iadd hx hb d_Model_layStates_248 ?_
                    refine lv_topi (fun v_1414 ev_1414 => ?_)
                    obtain ⟨qv_1414, hv_1414⟩ := zI_add (l := 241) (h := 481) zc_241 hv_1310 ev_1414 (by decide)
                    rw [li_241] at qv_1414
                    refine lv_iload hx hb d_Model_layStates_249 (lv_at hl 0 rfl) ?_
                    refine va_iast hx hb hK hP hD hS 4 0 rfl rfl (zI.inn hv_1414 (by decide)) d_Model_layStates_251 (fun H locs hP hD hS => ?_)
                    obtain ⟨f_1415, hf_1415, gf_1415, uf_1415, hP, hD⟩ := z_newfu 4 hP hD rfl hy_1300 hy_1385
                    have hP : va_P G.1 classes [(b18, .inl (G.2 0, 2, .inl b58)), (b20, .inl (G.2 0, 520, .inl b59)), (b21, .inl (G.2 0, 9640, .inl y_763)), (b22, .inl (G.2 0, 482, .inl y_764)), (b23, .inl (G.2 0, 482, .inl f_1415)), (b24, .inl (G.2 0, 2, .inl f_1410)), (b25, .inl (G.2 0, 482, .inl f_1403)), (b26, .inl (G.2 0, 482, .inl f_1413)), (b27, .inl (G.2 0, 482, .inl f_1407)), (b0, .inr (12, [.int b3, .ref b4, .ref b5, .ref b6, .ref b7, .int b8, .ref b9, .int b10, .int b11, .int b12, .int b13, .ref b14, .ref b15, .ref b16, .int b17, .ref b18, .ref b19, .ref b20, .ref b21, .ref b22, .ref b23, .ref b24, .ref b25, .ref b26, .ref b27, .ref b28, .ref b29, .int b30, .ref b31, .ref b32, .int b33, .int b34, .int b35, .int b36, .ref b37, .ref b38, .ref b39, .ref b40, .ref b41, .ref b42, .ref b43, .int b44, .ref b45, .ref b46, .int b47, .ref b48, .ref b49, .ref b50, .ref b51, .ref b52, .int b53, .ref b54, .ref b55, .ref b56])), (b4, .inl (G.2 0, 503, .inl b57))] H := hP
                    have hD := z_tie hP hD rfl
                    obtain ⟨v_1416, ev_1416⟩ : ∃ z : Int32, z = y_1299 + 1 := ⟨_, rfl⟩
                    obtain ⟨qv_1416, hv_1416⟩ := zI_add (l := 1) (h := 241) hv_1310 zc_1 ev_1416 (by decide)
                    rw [li_1] at qv_1416
                    refine lv_iinc (v := v_1416) (lv' := [(6, .int v_1416), (7, .int y_1385), (5, .int 1), (4, .int 241), (0, .ref b0), (1, .int 1), (2, .int b1), (3, .int b2)]) hx hb d_Model_layStates_252 hl (k := 1) rfl (by rw [ev_1416]; rfl) (by decide) rfl (fun ls hl => ?_)
                    refine lv_goto (tgt := 110) hx hb d_Model_layStates_255 (by decide) ?_
                    exact ihk_1298 (v_1416) (f_1415) (f_1410) (f_1403) (f_1413) (f_1407) _ _ _ (zI.wk (l' := 0) (h' := 241) hv_1416 (by decide)) hf_1415 hf_1410 hf_1403 (by rw [gf_1410]; omega) (zm_up qv_1416 hmk_1298 (by decide)) hP hD hS (lv_sub hl [0, 2, 3, 4, 5, 6, 7] rfl)
                · have _nhc_1389 := hc_1389
                  have ni_1417 := (fa_lt _ _).mp (zi_nle hc_1389)
                  have hv_1418 : zI y_1385 0 239 := zI.lt_l hy_1385 hv_1388 (zi_nle hc_1389) (by decide)
                  have hv_1419 : zI v_1387 1 240 := zI.lt_r hy_1385 hv_1388 (zi_nle hc_1389) (by decide)
                  refine lv_aload_n hx hb d_Model_layStates_140 rfl (lv_at hl 4 rfl) ?_
                  refine lv_iload hx hb d_Model_layStates_141 (lv_at hl 3 rfl) ?_
                  refine lv_aload_n hx hb d_Model_layStates_143 rfl (lv_at hl 4 rfl) ?_
                  refine va_get (D := G.1) (ci := 12) (v := .ref b25) (C := R_Model) (T := F_Model) (N := 54) hx hb hts i_Model hown hK hP 9 rfl rfl 22 (by decide) (hts _ q1131) (fun _ h9 => h9) rfl d_Model_layStates_144 ?_
                  refine lv_iload hx hb d_Model_layStates_147 (lv_at hl 3 rfl) ?_
                  refine lv_iload hx hb d_Model_layStates_149 (lv_at hl 0 rfl) ?_
                  refine lv_iadd hx hb d_Model_layStates_151 ?_
                  refine lv_topi (fun v_1420 ev_1420 => ?_)
                  obtain ⟨qv_1420, hv_1420⟩ := zI_add (l := 241) (h := 480) zc_241 hv_1418 ev_1420 (by decide)
                  rw [li_241] at qv_1420
                  refine va_iald hx hb hK hP 6 0 rfl rfl (zI.inn hv_1420 (by decide)) d_Model_layStates_152 ?_
                  refine lv_topi (fun v_1421 ev_1421 => ?_)
                  have hv_1421 : zI v_1421 0 240 := (hy_1302 _).eq ev_1421
                  refine lv_iadd hx hb d_Model_layStates_153 ?_
                  refine lv_topi (fun v_1422 ev_1422 => ?_)
                  obtain ⟨qv_1422, hv_1422⟩ := zI_add (l := 241) (h := 481) zc_241 hv_1421 ev_1422 (by decide)
                  rw [li_241] at qv_1422
                  refine lv_iload hx hb d_Model_layStates_154 (lv_at hl 3 rfl) ?_
                  refine lv_iload hx hb d_Model_layStates_156 (lv_at hl 1 rfl) ?_
                  refine lv_iadd hx hb d_Model_layStates_158 ?_
                  refine lv_topi (fun v_1423 ev_1423 => ?_)
                  obtain ⟨qv_1423, hv_1423⟩ := zI_add (l := 241) (h := 481) zc_241 hv_1310 ev_1423 (by decide)
                  rw [li_241] at qv_1423
                  refine z_callV (index := 221) (As := [.int v_1422, .int v_1423]) (rest := []) (wr := [(b18, .inl (G.2 0, 2, .inl b58)), (b20, .inl (G.2 0, 520, .inl b59)), (b23, .inl (G.2 0, 482, .inl y_1300)), (b24, .inl (G.2 0, 2, .inl y_1301)), (b25, .inl (G.2 0, 482, .inl y_1302)), (b26, .inl (G.2 0, 482, .inl y_1303)), (b27, .inl (G.2 0, 482, .inl y_1304)), (b4, .inl (G.2 0, 503, .inl b57))]) Z (s1_Model_areAlike l G (b0) (v_1422) (v_1423) (b3) (b4) (b5) (b6) (b7) (b8) (b9) (b10) (b11) (b12) (b13) (b14) (b15) (b16) (b17) (b18) (b19) (b20) (b21) (b22) (b23) (b24) (b25) (b26) (b27) (b28) (b29) (b30) (b31) (b32) (b33) (b34) (b35) (b36) (b37) (b38) (b39) (b40) (b41) (b42) (b43) (b44) (b45) (b46) (b47) (b48) (b49) (b50) (b51) (b52) (b53) (b54) (b55) (b56) (y_763) (y_764) (zI.wk (l' := 0) (h' := 481) hv_1422 (by decide)) (zI.wk (l' := 0) (h' := 481) hv_1423 (by decide)) hb8 hb10 hb11 hb13 hb17 hb30 hb33 hb44 hb47 hb53 hy_764) hl.1 q1392 q1394 qs64 q14 q1395 ⟨by decide, by decide, by show _ = some 2; decide +kernel⟩ ⟨Nat.le_of_ble_eq_true rfl, Nat.le_of_ble_eq_true rfl⟩ ⟨Nat.le_of_ble_eq_true rfl, Nat.le_of_ble_eq_true rfl⟩ rfl (Nat.le_of_ble_eq_true rfl) d_Model_layStates_159 hP hD hS hA 9 12 rfl rfl rfl [9, 2, 3] [0, 1, 4, 5, 6, 7, 8, 10] rfl rfl rfl rfl (by decide) (fun v w1 H locs hw_1424 hP hD hS => ?_)
                  obtain ⟨x_1425, rfl, rfl, hx_1425⟩ := hw_1424
                  have hP : va_P G.1 classes [(b18, .inl (G.2 0, 2, .inl b58)), (b20, .inl (G.2 0, 520, .inl b59)), (b23, .inl (G.2 0, 482, .inl y_1300)), (b24, .inl (G.2 0, 2, .inl y_1301)), (b25, .inl (G.2 0, 482, .inl y_1302)), (b26, .inl (G.2 0, 482, .inl y_1303)), (b27, .inl (G.2 0, 482, .inl y_1304)), (b4, .inl (G.2 0, 503, .inl b57)), (b0, .inr (12, [.int b3, .ref b4, .ref b5, .ref b6, .ref b7, .int b8, .ref b9, .int b10, .int b11, .int b12, .int b13, .ref b14, .ref b15, .ref b16, .int b17, .ref b18, .ref b19, .ref b20, .ref b21, .ref b22, .ref b23, .ref b24, .ref b25, .ref b26, .ref b27, .ref b28, .ref b29, .int b30, .ref b31, .ref b32, .int b33, .int b34, .int b35, .int b36, .ref b37, .ref b38, .ref b39, .ref b40, .ref b41, .ref b42, .ref b43, .int b44, .ref b45, .ref b46, .int b47, .ref b48, .ref b49, .ref b50, .ref b51, .ref b52, .int b53, .ref b54, .ref b55, .ref b56])), (b21, .inl (G.2 0, 9640, .inl y_763)), (b22, .inl (G.2 0, 482, .inl y_764))] H := hP
                  have hD := z_tie hP hD rfl
                  refine W.widen (k := 0) (n := 0) (Nat.le_of_ble_eq_true rfl) (Nat.le_of_ble_eq_true rfl) ?_
                  refine lv_if_ne (tgt := 171) hx hb d_Model_layStates_162 (by decide) (fun hc_1426 => ?_) (fun hc_1426 => ?_)
                  · have _nhc_1426 := hc_1426
                    have ni_1427 : ¬ (x_1425 : Int32).toInt = (0 : Int32).toInt := fun z => hc_1426 ((fa_eq _ _).mpr z)
                    simp only [li_0] at ni_1427
                    have hv_1428 : zI x_1425 1 1 := zI.ne_lo hx_1425 zc_0 hc_1426 (by decide)
                    refine lv_iload hx hb d_Model_layStates_171 (lv_at hl 0 rfl) ?_
                    refine lv_aload_n hx hb d_Model_layStates_173 rfl (lv_at hl 4 rfl) ?_
                    refine va_get (D := G.1) (ci := 12) (v := .ref b24) (C := R_Model) (T := F_Model) (N := 54) hx hb hts i_Model hown hK hP 8 rfl rfl 21 (by decide) (hts _ q1130) (fun _ h9 => h9) rfl d_Model_layStates_174 ?_
                    refine lv_iload_n hx hb d_Model_layStates_177 rfl (lv_at hl 5 rfl) ?_
                    refine va_iald hx hb hK hP 3 0 rfl rfl (i := 1) (z_in rfl) d_Model_layStates_178 ?_
                    refine lv_topi (fun v_1429 ev_1429 => ?_)
                    obtain rfl : v_1387 = v_1429 := ev_1387.trans ev_1429.symm
                    refine lv_icmp_ne (tgt := 226) hx hb d_Model_layStates_179 (by decide) (fun hc_1430 => ?_) (fun hc_1430 => ?_)
                    · have _nhc_1430 := hc_1430
                      have ni_1431 : ¬ (y_1385 : Int32).toInt = (v_1387 : Int32).toInt := fun z => hc_1430 ((fa_eq _ _).mpr z)
                      refine lv_aload_n hx hb d_Model_layStates_226 rfl (lv_at hl 4 rfl) ?_
                      refine va_get (D := G.1) (ci := 12) (v := .ref b26) (C := R_Model) (T := F_Model) (N := 54) hx hb hts i_Model hown hK hP 8 rfl rfl 23 (by decide) (hts _ q1132) (fun _ h9 => h9) rfl d_Model_layStates_227 ?_
                      refine lv_iload hx hb d_Model_layStates_230 (lv_at hl 3 rfl) ?_
                      refine lv_iload hx hb d_Model_layStates_232 (lv_at hl 0 rfl) ?_
                      refine lv_iadd hx hb d_Model_layStates_234 ?_
                      refine lv_topi (fun v_1432 ev_1432 => ?_)
                      obtain rfl : v_1420 = v_1432 := ev_1420.trans ev_1432.symm
                      refine lv_dup2_11 hx hb d_Model_layStates_235 rfl rfl ?_
                      refine va_iald hx hb hK hP 5 0 rfl rfl (zI.inn hv_1420 (by decide)) d_Model_layStates_236 ?_
                      refine lv_topi (fun v_1433 ev_1433 => ?_)
                      refine lv_iconst (v := 1) hx hb d_Model_layStates_237 (by decide) ?_
                      refine lv_iadd hx hb d_Model_layStates_238 ?_
                      refine lv_topi (fun v_1434 ev_1434 => ?_)
                      refine va_iast hx hb hK hP hD hS 5 0 rfl rfl (zI.inn hv_1420 (by decide)) d_Model_layStates_239 (fun H locs hP hD hS => ?_)
                      obtain ⟨f_1435, gf_1435, uf_1435, hP, hD⟩ := z_newFu 5 hP hD rfl
                      have hP : va_P G.1 classes [(b18, .inl (G.2 0, 2, .inl b58)), (b20, .inl (G.2 0, 520, .inl b59)), (b23, .inl (G.2 0, 482, .inl y_1300)), (b24, .inl (G.2 0, 2, .inl y_1301)), (b25, .inl (G.2 0, 482, .inl y_1302)), (b26, .inl (G.2 0, 482, .inl f_1435)), (b27, .inl (G.2 0, 482, .inl y_1304)), (b4, .inl (G.2 0, 503, .inl b57)), (b0, .inr (12, [.int b3, .ref b4, .ref b5, .ref b6, .ref b7, .int b8, .ref b9, .int b10, .int b11, .int b12, .int b13, .ref b14, .ref b15, .ref b16, .int b17, .ref b18, .ref b19, .ref b20, .ref b21, .ref b22, .ref b23, .ref b24, .ref b25, .ref b26, .ref b27, .ref b28, .ref b29, .int b30, .ref b31, .ref b32, .int b33, .int b34, .int b35, .int b36, .ref b37, .ref b38, .ref b39, .ref b40, .ref b41, .ref b42, .ref b43, .int b44, .ref b45, .ref b46, .int b47, .ref b48, .ref b49, .ref b50, .ref b51, .ref b52, .int b53, .ref b54, .ref b55, .ref b56])), (b21, .inl (G.2 0, 9640, .inl y_763)), (b22, .inl (G.2 0, 482, .inl y_764))] H := hP
                      have hD := z_tie hP hD rfl
                      refine lv_aload_n hx hb d_Model_layStates_240 rfl (lv_at hl 4 rfl) ?_
                      refine va_get (D := G.1) (ci := 12) (v := .ref b23) (C := R_Model) (T := F_Model) (N := 54) hx hb hts i_Model hown hK hP 8 rfl rfl 20 (by decide) (hts _ q1129) (fun _ h9 => h9) rfl d_Model_layStates_241 ?_
                      refine lv_iload hx hb d_Model_layStates_244 (lv_at hl 3 rfl) ?_
                      refine lv_iload hx hb d_Model_layStates_246 (lv_at hl 1 rfl) ?_
                      refine lv_iadd hx hb d_Model_layStates_248 ?_
                      refine lv_topi (fun v_1436 ev_1436 => ?_)
                      obtain rfl : v_1423 = v_1436 := ev_1423.trans ev_1436.symm
                      refine lv_iload hx hb d_Model_layStates_249 (lv_at hl 0 rfl) ?_
                      refine va_iast hx hb hK hP hD hS 2 0 rfl rfl (zI.inn hv_1423 (by decide)) d_Model_layStates_251 (fun H locs hP hD hS => ?_)
                      obtain ⟨f_1437, hf_1437, gf_1437, uf_1437, hP, hD⟩ := z_newfu 2 hP hD rfl hy_1300 (zI.wk (l' := 0) (h' := 240) hv_1418 (by decide))
                      have hP : va_P G.1 classes [(b18, .inl (G.2 0, 2, .inl b58)), (b20, .inl (G.2 0, 520, .inl b59)), (b23, .inl (G.2 0, 482, .inl f_1437)), (b24, .inl (G.2 0, 2, .inl y_1301)), (b25, .inl (G.2 0, 482, .inl y_1302)), (b26, .inl (G.2 0, 482, .inl f_1435)), (b27, .inl (G.2 0, 482, .inl y_1304)), (b4, .inl (G.2 0, 503, .inl b57)), (b0, .inr (12, [.int b3, .ref b4, .ref b5, .ref b6, .ref b7, .int b8, .ref b9, .int b10, .int b11, .int b12, .int b13, .ref b14, .ref b15, .ref b16, .int b17, .ref b18, .ref b19, .ref b20, .ref b21, .ref b22, .ref b23, .ref b24, .ref b25, .ref b26, .ref b27, .ref b28, .ref b29, .int b30, .ref b31, .ref b32, .int b33, .int b34, .int b35, .int b36, .ref b37, .ref b38, .ref b39, .ref b40, .ref b41, .ref b42, .ref b43, .int b44, .ref b45, .ref b46, .int b47, .ref b48, .ref b49, .ref b50, .ref b51, .ref b52, .int b53, .ref b54, .ref b55, .ref b56])), (b21, .inl (G.2 0, 9640, .inl y_763)), (b22, .inl (G.2 0, 482, .inl y_764))] H := hP
                      have hD := z_tie hP hD rfl
                      obtain ⟨v_1438, ev_1438⟩ : ∃ z : Int32, z = y_1299 + 1 := ⟨_, rfl⟩
                      obtain ⟨qv_1438, hv_1438⟩ := zI_add (l := 1) (h := 241) hv_1310 zc_1 ev_1438 (by decide)
                      rw [li_1] at qv_1438
                      refine lv_iinc (v := v_1438) (lv' := [(6, .int v_1438), (7, .int y_1385), (5, .int 1), (4, .int 241), (0, .ref b0), (1, .int 1), (2, .int b1), (3, .int b2)]) hx hb d_Model_layStates_252 hl (k := 1) rfl (by rw [ev_1438]; rfl) (by decide) rfl (fun ls hl => ?_)
                      refine lv_goto (tgt := 110) hx hb d_Model_layStates_255 (by decide) ?_
                      exact ihk_1298 (v_1438) (f_1437) (y_1301) (y_1302) (f_1435) (y_1304) _ _ _ (zI.wk (l' := 0) (h' := 241) hv_1438 (by decide)) hf_1437 hy_1301 hy_1302 (by omega) (zm_up qv_1438 hmk_1298 (by decide)) (hP.sub [0, 1, 9, 10, 2, 3, 4, 5, 6, 8, 7] rfl) (hD.sub [0, 1, 9, 10, 2, 3, 4, 5, 6, 8, 7] (by decide) rfl) hS (lv_sub hl [0, 2, 3, 4, 5, 6, 7] rfl)
                    · have _nhc_1430 := hc_1430
                      have ni_1439 := (fa_eq _ _).mp hc_1430
                      refine lv_aload_n hx hb d_Model_layStates_182 rfl (lv_at hl 4 rfl) ?_
                      refine va_get (D := G.1) (ci := 12) (v := .ref b25) (C := R_Model) (T := F_Model) (N := 54) hx hb hts i_Model hown hK hP 8 rfl rfl 22 (by decide) (hts _ q1131) (fun _ h9 => h9) rfl d_Model_layStates_183 ?_
                      refine lv_iload hx hb d_Model_layStates_186 (lv_at hl 3 rfl) ?_
                      refine lv_iload hx hb d_Model_layStates_188 (lv_at hl 0 rfl) ?_
                      refine lv_iadd hx hb d_Model_layStates_190 ?_
                      refine lv_topi (fun v_1440 ev_1440 => ?_)
                      obtain rfl : v_1420 = v_1440 := ev_1420.trans ev_1440.symm
                      refine lv_iload hx hb d_Model_layStates_191 (lv_at hl 1 rfl) ?_
                      refine va_iast hx hb hK hP hD hS 4 0 rfl rfl (zI.inn hv_1420 (by decide)) d_Model_layStates_193 (fun H locs hP hD hS => ?_)
                      obtain ⟨f_1441, hf_1441, gf_1441, uf_1441, hP, hD⟩ := z_newfu 4 hP hD rfl hy_1302 hv_1310
                      have hP : va_P G.1 classes [(b18, .inl (G.2 0, 2, .inl b58)), (b20, .inl (G.2 0, 520, .inl b59)), (b23, .inl (G.2 0, 482, .inl y_1300)), (b24, .inl (G.2 0, 2, .inl y_1301)), (b25, .inl (G.2 0, 482, .inl f_1441)), (b26, .inl (G.2 0, 482, .inl y_1303)), (b27, .inl (G.2 0, 482, .inl y_1304)), (b4, .inl (G.2 0, 503, .inl b57)), (b0, .inr (12, [.int b3, .ref b4, .ref b5, .ref b6, .ref b7, .int b8, .ref b9, .int b10, .int b11, .int b12, .int b13, .ref b14, .ref b15, .ref b16, .int b17, .ref b18, .ref b19, .ref b20, .ref b21, .ref b22, .ref b23, .ref b24, .ref b25, .ref b26, .ref b27, .ref b28, .ref b29, .int b30, .ref b31, .ref b32, .int b33, .int b34, .int b35, .int b36, .ref b37, .ref b38, .ref b39, .ref b40, .ref b41, .ref b42, .ref b43, .int b44, .ref b45, .ref b46, .int b47, .ref b48, .ref b49, .ref b50, .ref b51, .ref b52, .int b53, .ref b54, .ref b55, .ref b56])), (b21, .inl (G.2 0, 9640, .inl y_763)), (b22, .inl (G.2 0, 482, .inl y_764))] H := hP
                      have hD := z_tie hP hD rfl
                      refine lv_aload_n hx hb d_Model_layStates_194 rfl (lv_at hl 4 rfl) ?_
                      refine va_get (D := G.1) (ci := 12) (v := .ref b26) (C := R_Model) (T := F_Model) (N := 54) hx hb hts i_Model hown hK hP 8 rfl rfl 23 (by decide) (hts _ q1132) (fun _ h9 => h9) rfl d_Model_layStates_195 ?_
                      refine lv_iload hx hb d_Model_layStates_198 (lv_at hl 3 rfl) ?_
                      refine lv_iload hx hb d_Model_layStates_200 (lv_at hl 0 rfl) ?_
                      refine lv_iadd hx hb d_Model_layStates_202 ?_
                      refine lv_topi (fun v_1442 ev_1442 => ?_)
                      obtain rfl : v_1420 = v_1442 := ev_1420.trans ev_1442.symm
                      refine lv_iconst (v := 0) hx hb d_Model_layStates_203 (by decide) ?_
                      refine va_iast hx hb hK hP hD hS 5 0 rfl rfl (zI.inn hv_1420 (by decide)) d_Model_layStates_204 (fun H locs hP hD hS => ?_)
                      obtain ⟨f_1443, gf_1443, uf_1443, hP, hD⟩ := z_newFu 5 hP hD rfl
                      have hP : va_P G.1 classes [(b18, .inl (G.2 0, 2, .inl b58)), (b20, .inl (G.2 0, 520, .inl b59)), (b23, .inl (G.2 0, 482, .inl y_1300)), (b24, .inl (G.2 0, 2, .inl y_1301)), (b25, .inl (G.2 0, 482, .inl f_1441)), (b26, .inl (G.2 0, 482, .inl f_1443)), (b27, .inl (G.2 0, 482, .inl y_1304)), (b4, .inl (G.2 0, 503, .inl b57)), (b0, .inr (12, [.int b3, .ref b4, .ref b5, .ref b6, .ref b7, .int b8, .ref b9, .int b10, .int b11, .int b12, .int b13, .ref b14, .ref b15, .ref b16, .int b17, .ref b18, .ref b19, .ref b20, .ref b21, .ref b22, .ref b23, .ref b24, .ref b25, .ref b26, .ref b27, .ref b28, .ref b29, .int b30, .ref b31, .ref b32, .int b33, .int b34, .int b35, .int b36, .ref b37, .ref b38, .ref b39, .ref b40, .ref b41, .ref b42, .ref b43, .int b44, .ref b45, .ref b46, .int b47, .ref b48, .ref b49, .ref b50, .ref b51, .ref b52, .int b53, .ref b54, .ref b55, .ref b56])), (b21, .inl (G.2 0, 9640, .inl y_763)), (b22, .inl (G.2 0, 482, .inl y_764))] H := hP
                      have hD := z_tie hP hD rfl
                      refine lv_aload_n hx hb d_Model_layStates_205 rfl (lv_at hl 4 rfl) ?_
                      refine va_get (D := G.1) (ci := 12) (v := .ref b27) (C := R_Model) (T := F_Model) (N := 54) hx hb hts i_Model hown hK hP 8 rfl rfl 24 (by decide) (hts _ q1133) (fun _ h9 => h9) rfl d_Model_layStates_206 ?_
                      refine lv_iload hx hb d_Model_layStates_209 (lv_at hl 3 rfl) ?_
                      refine lv_iload hx hb d_Model_layStates_211 (lv_at hl 0 rfl) ?_
                      refine lv_iadd hx hb d_Model_layStates_213 ?_
                      refine lv_topi (fun v_1444 ev_1444 => ?_)
                      obtain rfl : v_1420 = v_1444 := ev_1420.trans ev_1444.symm
                      refine lv_iconst (v := 0) hx hb d_Model_layStates_214 (by decide) ?_
                      refine va_iast hx hb hK hP hD hS 6 0 rfl rfl (zI.inn hv_1420 (by decide)) d_Model_layStates_215 (fun H locs hP hD hS => ?_)
                      obtain ⟨f_1445, gf_1445, uf_1445, hP, hD⟩ := z_newFu 6 hP hD rfl
                      have hP : va_P G.1 classes [(b18, .inl (G.2 0, 2, .inl b58)), (b20, .inl (G.2 0, 520, .inl b59)), (b23, .inl (G.2 0, 482, .inl y_1300)), (b24, .inl (G.2 0, 2, .inl y_1301)), (b25, .inl (G.2 0, 482, .inl f_1441)), (b26, .inl (G.2 0, 482, .inl f_1443)), (b27, .inl (G.2 0, 482, .inl f_1445)), (b4, .inl (G.2 0, 503, .inl b57)), (b0, .inr (12, [.int b3, .ref b4, .ref b5, .ref b6, .ref b7, .int b8, .ref b9, .int b10, .int b11, .int b12, .int b13, .ref b14, .ref b15, .ref b16, .int b17, .ref b18, .ref b19, .ref b20, .ref b21, .ref b22, .ref b23, .ref b24, .ref b25, .ref b26, .ref b27, .ref b28, .ref b29, .int b30, .ref b31, .ref b32, .int b33, .int b34, .int b35, .int b36, .ref b37, .ref b38, .ref b39, .ref b40, .ref b41, .ref b42, .ref b43, .int b44, .ref b45, .ref b46, .int b47, .ref b48, .ref b49, .ref b50, .ref b51, .ref b52, .int b53, .ref b54, .ref b55, .ref b56])), (b21, .inl (G.2 0, 9640, .inl y_763)), (b22, .inl (G.2 0, 482, .inl y_764))] H := hP
                      have hD := z_tie hP hD rfl
                      refine lv_aload_n hx hb d_Model_layStates_216 rfl (lv_at hl 4 rfl) ?_
                      refine va_get (D := G.1) (ci := 12) (v := .ref b24) (C := R_Model) (T := F_Model) (N := 54) hx hb hts i_Model hown hK hP 8 rfl rfl 21 (by decide) (hts _ q1130) (fun _ h9 => h9) rfl d_Model_layStates_217 ?_
                      refine lv_iload_n hx hb d_Model_layStates_220 rfl (lv_at hl 5 rfl) ?_
                      refine lv_dup2_11 hx hb d_Model_layStates_221 rfl rfl ?_
                      refine va_iald hx hb hK hP 3 0 rfl rfl (i := 1) (z_in rfl) d_Model_layStates_222 ?_
                      refine lv_topi (fun v_1446 ev_1446 => ?_)
                      obtain rfl : v_1387 = v_1446 := ev_1387.trans ev_1446.symm
                      refine lv_iconst (v := 1) hx hb d_Model_layStates_223 (by decide) ?_
                      refine lv_iadd hx hb d_Model_layStates_224 ?_
                      refine lv_topi (fun v_1447 ev_1447 => ?_)
                      obtain ⟨qv_1447, hv_1447⟩ := zI_add (l := 2) (h := 241) hv_1419 zc_1 ev_1447 (by decide)
                      rw [li_1] at qv_1447
                      refine va_iast hx hb hK hP hD hS 3 0 rfl rfl (i := 1) (z_in rfl) d_Model_layStates_225 (fun H locs hP hD hS => ?_)
                      obtain ⟨f_1448, hf_1448, gf_1448, uf_1448, hP, hD⟩ := z_newfu 3 hP hD rfl hy_1301 (zI.wk (l' := 0) (h' := 241) hv_1447 (by decide))
                      have hP : va_P G.1 classes [(b18, .inl (G.2 0, 2, .inl b58)), (b20, .inl (G.2 0, 520, .inl b59)), (b23, .inl (G.2 0, 482, .inl y_1300)), (b24, .inl (G.2 0, 2, .inl f_1448)), (b25, .inl (G.2 0, 482, .inl f_1441)), (b26, .inl (G.2 0, 482, .inl f_1443)), (b27, .inl (G.2 0, 482, .inl f_1445)), (b4, .inl (G.2 0, 503, .inl b57)), (b0, .inr (12, [.int b3, .ref b4, .ref b5, .ref b6, .ref b7, .int b8, .ref b9, .int b10, .int b11, .int b12, .int b13, .ref b14, .ref b15, .ref b16, .int b17, .ref b18, .ref b19, .ref b20, .ref b21, .ref b22, .ref b23, .ref b24, .ref b25, .ref b26, .ref b27, .ref b28, .ref b29, .int b30, .ref b31, .ref b32, .int b33, .int b34, .int b35, .int b36, .ref b37, .ref b38, .ref b39, .ref b40, .ref b41, .ref b42, .ref b43, .int b44, .ref b45, .ref b46, .int b47, .ref b48, .ref b49, .ref b50, .ref b51, .ref b52, .int b53, .ref b54, .ref b55, .ref b56])), (b21, .inl (G.2 0, 9640, .inl y_763)), (b22, .inl (G.2 0, 482, .inl y_764))] H := hP
                      have hD := z_tie hP hD rfl
                      refine lv_aload_n hx hb d_Model_layStates_226 rfl (lv_at hl 4 rfl) ?_
                      refine va_get (D := G.1) (ci := 12) (v := .ref b26) (C := R_Model) (T := F_Model) (N := 54) hx hb hts i_Model hown hK hP 8 rfl rfl 23 (by decide) (hts _ q1132) (fun _ h9 => h9) rfl d_Model_layStates_227 ?_
                      refine lv_iload hx hb d_Model_layStates_230 (lv_at hl 3 rfl) ?_
                      refine lv_iload hx hb d_Model_layStates_232 (lv_at hl 0 rfl) ?_
                      refine lv_iadd hx hb d_Model_layStates_234 ?_
                      refine lv_topi (fun v_1449 ev_1449 => ?_)
                      obtain rfl : v_1420 = v_1449 := ev_1420.trans ev_1449.symm
                      refine lv_dup2_11 hx hb d_Model_layStates_235 rfl rfl ?_
                      refine va_iald hx hb hK hP 5 0 rfl rfl (zI.inn hv_1420 (by decide)) d_Model_layStates_236 ?_
                      refine lv_topi (fun v_1450 ev_1450 => ?_)
                      obtain rfl : v_1450 = 0 := ev_1450.trans gf_1443
                      refine lv_iconst (v := 1) hx hb d_Model_layStates_237 (by decide) ?_
                      refine lv_iadd hx hb d_Model_layStates_238 ?_
                      refine z_topi (y := 1) (by decide +kernel) ?_
                      refine va_iast hx hb hK hP hD hS 5 0 rfl rfl (zI.inn hv_1420 (by decide)) d_Model_layStates_239 (fun H locs hP hD hS => ?_)
                      obtain ⟨f_1451, gf_1451, uf_1451, hP, hD⟩ := z_newFu 5 hP hD rfl
                      have hP : va_P G.1 classes [(b18, .inl (G.2 0, 2, .inl b58)), (b20, .inl (G.2 0, 520, .inl b59)), (b23, .inl (G.2 0, 482, .inl y_1300)), (b24, .inl (G.2 0, 2, .inl f_1448)), (b25, .inl (G.2 0, 482, .inl f_1441)), (b26, .inl (G.2 0, 482, .inl f_1451)), (b27, .inl (G.2 0, 482, .inl f_1445)), (b4, .inl (G.2 0, 503, .inl b57)), (b0, .inr (12, [.int b3, .ref b4, .ref b5, .ref b6, .ref b7, .int b8, .ref b9, .int b10, .int b11, .int b12, .int b13, .ref b14, .ref b15, .ref b16, .int b17, .ref b18, .ref b19, .ref b20, .ref b21, .ref b22, .ref b23, .ref b24, .ref b25, .ref b26, .ref b27, .ref b28, .ref b29, .int b30, .ref b31, .ref b32, .int b33, .int b34, .int b35, .int b36, .ref b37, .ref b38, .ref b39, .ref b40, .ref b41, .ref b42, .ref b43, .int b44, .ref b45, .ref b46, .int b47, .ref b48, .ref b49, .ref b50, .ref b51, .ref b52, .int b53, .ref b54, .ref b55, .ref b56])), (b21, .inl (G.2 0, 9640, .inl y_763)), (b22, .inl (G.2 0, 482, .inl y_764))] H := hP
                      have hD := z_tie hP hD rfl
                      refine lv_aload_n hx hb d_Model_layStates_240 rfl (lv_at hl 4 rfl) ?_
                      refine va_get (D := G.1) (ci := 12) (v := .ref b23) (C := R_Model) (T := F_Model) (N := 54) hx hb hts i_Model hown hK hP 8 rfl rfl 20 (by decide) (hts _ q1129) (fun _ h9 => h9) rfl d_Model_layStates_241 ?_
                      refine lv_iload hx hb d_Model_layStates_244 (lv_at hl 3 rfl) ?_
                      refine lv_iload hx hb d_Model_layStates_246 (lv_at hl 1 rfl) ?_
                      refine lv_iadd hx hb d_Model_layStates_248 ?_
                      refine lv_topi (fun v_1452 ev_1452 => ?_)
                      obtain rfl : v_1423 = v_1452 := ev_1423.trans ev_1452.symm
                      refine lv_iload hx hb d_Model_layStates_249 (lv_at hl 0 rfl) ?_
                      refine va_iast hx hb hK hP hD hS 2 0 rfl rfl (zI.inn hv_1423 (by decide)) d_Model_layStates_251 (fun H locs hP hD hS => ?_)
                      obtain ⟨f_1453, hf_1453, gf_1453, uf_1453, hP, hD⟩ := z_newfu 2 hP hD rfl hy_1300 (zI.wk (l' := 0) (h' := 240) hv_1418 (by decide))
                      have hP : va_P G.1 classes [(b18, .inl (G.2 0, 2, .inl b58)), (b20, .inl (G.2 0, 520, .inl b59)), (b23, .inl (G.2 0, 482, .inl f_1453)), (b24, .inl (G.2 0, 2, .inl f_1448)), (b25, .inl (G.2 0, 482, .inl f_1441)), (b26, .inl (G.2 0, 482, .inl f_1451)), (b27, .inl (G.2 0, 482, .inl f_1445)), (b4, .inl (G.2 0, 503, .inl b57)), (b0, .inr (12, [.int b3, .ref b4, .ref b5, .ref b6, .ref b7, .int b8, .ref b9, .int b10, .int b11, .int b12, .int b13, .ref b14, .ref b15, .ref b16, .int b17, .ref b18, .ref b19, .ref b20, .ref b21, .ref b22, .ref b23, .ref b24, .ref b25, .ref b26, .ref b27, .ref b28, .ref b29, .int b30, .ref b31, .ref b32, .int b33, .int b34, .int b35, .int b36, .ref b37, .ref b38, .ref b39, .ref b40, .ref b41, .ref b42, .ref b43, .int b44, .ref b45, .ref b46, .int b47, .ref b48, .ref b49, .ref b50, .ref b51, .ref b52, .int b53, .ref b54, .ref b55, .ref b56])), (b21, .inl (G.2 0, 9640, .inl y_763)), (b22, .inl (G.2 0, 482, .inl y_764))] H := hP
                      have hD := z_tie hP hD rfl
                      obtain ⟨v_1454, ev_1454⟩ : ∃ z : Int32, z = y_1299 + 1 := ⟨_, rfl⟩
                      obtain ⟨qv_1454, hv_1454⟩ := zI_add (l := 1) (h := 241) hv_1310 zc_1 ev_1454 (by decide)
                      rw [li_1] at qv_1454
                      refine lv_iinc (v := v_1454) (lv' := [(6, .int v_1454), (7, .int y_1385), (5, .int 1), (4, .int 241), (0, .ref b0), (1, .int 1), (2, .int b1), (3, .int b2)]) hx hb d_Model_layStates_252 hl (k := 1) rfl (by rw [ev_1454]; rfl) (by decide) rfl (fun ls hl => ?_)
                      refine lv_goto (tgt := 110) hx hb d_Model_layStates_255 (by decide) ?_
                      exact ihk_1298 (v_1454) (f_1453) (f_1448) (f_1441) (f_1451) (f_1445) _ _ _ (zI.wk (l' := 0) (h' := 241) hv_1454 (by decide)) hf_1453 hf_1448 hf_1441 (by rw [gf_1448]; omega) (zm_up qv_1454 hmk_1298 (by decide)) (hP.sub [0, 1, 9, 10, 2, 3, 4, 5, 6, 8, 7] rfl) (hD.sub [0, 1, 9, 10, 2, 3, 4, 5, 6, 8, 7] (by decide) rfl) hS (lv_sub hl [0, 2, 3, 4, 5, 6, 7] rfl)
                  · have _nhc_1426 := hc_1426
                    have ni_1455 := (fa_eq _ _).mp hc_1426
                    rw [li_0] at ni_1455
                    have hv_1456 : zI x_1425 0 0 := zI.eq_l hx_1425 zc_0 hc_1426
                    obtain ⟨v_1457, ev_1457⟩ : ∃ z : Int32, z = y_1385 + 1 := ⟨_, rfl⟩
                    obtain ⟨qv_1457, hv_1457⟩ := zI_add (l := 1) (h := 240) hv_1418 zc_1 ev_1457 (by decide)
                    rw [li_1] at qv_1457
                    refine lv_iinc (v := v_1457) (lv' := [(7, .int v_1457), (6, .int y_1299), (5, .int 1), (4, .int 241), (0, .ref b0), (1, .int 1), (2, .int b1), (3, .int b2)]) hx hb d_Model_layStates_165 hl (k := 0) rfl (by rw [ev_1457]; rfl) (by decide) rfl (fun ls hl => ?_)
                    refine lv_goto (tgt := 129) hx hb d_Model_layStates_168 (by decide) ?_
                    exact ihk_1384 (v_1457) _ _ _ (zI.wk (l' := 0) (h' := 240) hv_1457 (by decide)) (by rw [← ev_1387]; omega) (zm_up qv_1457 hmk_1384 (by decide)) (hP.sub [0, 1, 9, 10, 2, 3, 4, 5, 6, 8, 7] rfl) (hD.sub [0, 1, 9, 10, 2, 3, 4, 5, 6, 8, 7] (by decide) rfl) hS (lv_sub hl [0, 1, 2, 3, 4, 5, 6, 7] rfl)
    · have _nhc_769 := hc_769
      have ni_1458 := (fa_lt _ _).mp (zi_nle hc_769)
      have hv_1459 : zI y_762 0 19 := zI.lt_l hy_762 hx_767 (zi_nle hc_769) (by decide)
      have hv_1460 : zI x_767 1 20 := zI.lt_r hy_762 hx_767 (zi_nle hc_769) (by decide)
      refine lv_iconst (v := 0) hx hb d_Model_layStates_19 (by decide) ?_
      refine lv_istore (lv' := [(6, .int 0), (5, .int y_762), (4, .int 241), (0, .ref b0), (1, .int 1), (2, .int b1), (3, .int b2)]) hx hb d_Model_layStates_20 hl (by decide) rfl (fun ls hl => ?_)
      suffices key : ∀ (k_1490 : Nat) (y_1491 : Int32) (y_1492 : Nat → Int32) (y_1493 : Nat → Int32) (H : Heap) (locs : List Loc) (ls : Array Slot), (zI y_1491 0 13) → (zqa qC y_1493) → (∀ q : Nat, (q : Int) < (b58 (1 : Int32).toNatClampNeg).toInt → (y_1493 (241 + q)).toInt = 0 ∨ (y_1493 (241 + q)).toInt + (q : Int) ≤ 13 * (y_762 : Int32).toInt + (y_1491 : Int32).toInt) → (13 : Int) - y_1491.toInt < (k_1490 : Int) → va_P G.1 classes [(b18, .inl (G.2 0, 2, .inl b58)), (b20, .inl (G.2 0, 520, .inl b59)), (b21, .inl (G.2 0, 9640, .inl y_1492)), (b22, .inl (G.2 0, 482, .inl y_1493)), (b23, .inl (G.2 0, 482, .inl b62)), (b24, .inl (G.2 0, 2, .inl b63)), (b25, .inl (G.2 0, 482, .inl b64)), (b26, .inl (G.2 0, 482, .inl b65)), (b27, .inl (G.2 0, 482, .inl b66)), (b0, .inr (12, [.int b3, .ref b4, .ref b5, .ref b6, .ref b7, .int b8, .ref b9, .int b10, .int b11, .int b12, .int b13, .ref b14, .ref b15, .ref b16, .int b17, .ref b18, .ref b19, .ref b20, .ref b21, .ref b22, .ref b23, .ref b24, .ref b25, .ref b26, .ref b27, .ref b28, .ref b29, .int b30, .ref b31, .ref b32, .int b33, .int b34, .int b35, .int b36, .ref b37, .ref b38, .ref b39, .ref b40, .ref b41, .ref b42, .ref b43, .int b44, .ref b45, .ref b46, .int b47, .ref b48, .ref b49, .ref b50, .ref b51, .ref b52, .int b53, .ref b54, .ref b55, .ref b56])), (b4, .inl (G.2 0, 503, .inl b57))] H → va_D A [(b18, .inl (G.2 0, 2, .inl b58)), (b20, .inl (G.2 0, 520, .inl b59)), (b21, .inl (G.2 0, 9640, .inl y_1492)), (b22, .inl (G.2 0, 482, .inl y_1493)), (b23, .inl (G.2 0, 482, .inl b62)), (b24, .inl (G.2 0, 2, .inl b63)), (b25, .inl (G.2 0, 482, .inl b64)), (b26, .inl (G.2 0, 482, .inl b65)), (b27, .inl (G.2 0, 482, .inl b66)), (b0, .inr (12, [.int b3, .ref b4, .ref b5, .ref b6, .ref b7, .int b8, .ref b9, .int b10, .int b11, .int b12, .int b13, .ref b14, .ref b15, .ref b16, .int b17, .ref b18, .ref b19, .ref b20, .ref b21, .ref b22, .ref b23, .ref b24, .ref b25, .ref b26, .ref b27, .ref b28, .ref b29, .int b30, .ref b31, .ref b32, .int b33, .int b34, .int b35, .int b36, .ref b37, .ref b38, .ref b39, .ref b40, .ref b41, .ref b42, .ref b43, .int b44, .ref b45, .ref b46, .int b47, .ref b48, .ref b49, .ref b50, .ref b51, .ref b52, .int b53, .ref b54, .ref b55, .ref b56])), (b4, .inl (G.2 0, 503, .inl b57))] → va_S A s.heap H locs → lv_has ls 8 [(6, .int y_1491), (5, .int y_762), (4, .int 241), (0, .ref b0), (1, .int 1), (2, .int b1), (3, .int b2)] → W p l e m_s2_Model_layStates s m ([.ref b0, .int 1, .int b1, .int b2] : List Value).toArray below meth c H locs 0 0 (MQ below (zQ G (fun v w => ∃ (e0 : Nat → Int32), ∃ (e1 : Nat → Int32), ∃ (e2 : Nat → Int32), ∃ (e3 : Nat → Int32), ∃ (e4 : Nat → Int32), ∃ (e5 : Nat → Int32), ∃ (e6 : Nat → Int32), v = none ∧ w = [(b0, .inr (12, [.int b3, .ref b4, .ref b5, .ref b6, .ref b7, .int b8, .ref b9, .int b10, .int b11, .int b12, .int b13, .ref b14, .ref b15, .ref b16, .int b17, .ref b18, .ref b19, .ref b20, .ref b21, .ref b22, .ref b23, .ref b24, .ref b25, .ref b26, .ref b27, .ref b28, .ref b29, .int b30, .ref b31, .ref b32, .int b33, .int b34, .int b35, .int b36, .ref b37, .ref b38, .ref b39, .ref b40, .ref b41, .ref b42, .ref b43, .int b44, .ref b45, .ref b46, .int b47, .ref b48, .ref b49, .ref b50, .ref b51, .ref b52, .int b53, .ref b54, .ref b55, .ref b56])), (b4, .inl (G.2 0, 503, .inl b57)), (b18, .inl (G.2 0, 2, .inl b58)), (b20, .inl (G.2 0, 520, .inl b59)), (b21, .inl (G.2 0, 9640, .inl e0)), (b22, .inl (G.2 0, 482, .inl e1)), (b23, .inl (G.2 0, 482, .inl e2)), (b24, .inl (G.2 0, 2, .inl e3)), (b25, .inl (G.2 0, 482, .inl e4)), (b26, .inl (G.2 0, 482, .inl e5)), (b27, .inl (G.2 0, 482, .inl e6))] ∧ (zqa qC e1) ∧ (zR e2 0 240) ∧ (zR e3 0 241) ∧ (zR e4 0 240)) A) ([.ref b0, .int 1, .int b1, .int b2] : List Value).toArray s m_s2_Model_layStates.cells m_s2_Model_layStates.slots A) (F0 m 22 ls []) by
        exact key 14 (0) (y_763) (y_764) _ _ _ (zI.wk (l' := 0) (h' := 13) zc_0 (by decide)) hy_764 (by have _l0 := li_0; intro q hq; have := hli_765 q hq; omega) (zm_upi (zI.wk (l' := 0) (h' := 13) zc_0 (by decide)) (by decide)) hP hD hS (lv_sub hl [0, 1, 2, 3, 4, 5, 6] rfl)
      intro k_1490
      induction k_1490 with
      | zero =>
        intro y_1491 y_1492 y_1493 H locs ls hy_1491 hy_1493 hli_1494 hmk_1490 hP hD hS hl
        exact (zm_up0 hy_1491 hmk_1490).elim
      | succ k_1490 ihk_1490 =>
        intro y_1491 y_1492 y_1493 H locs ls hy_1491 hy_1493 hli_1494 hmk_1490 hP hD hS hl
        refine lv_iload hx hb d_Model_layStates_22 (lv_at hl 0 rfl) ?_
        refine lv_aload_n hx hb d_Model_layStates_24 rfl (lv_at hl 3 rfl) ?_
        refine lv_iload hx hb d_Model_layStates_25 (lv_at hl 1 rfl) ?_
        refine z_callV (index := 203) (As := [.int y_762]) (rest := [.int y_1491]) (wr := [(b18, .inl (G.2 0, 2, .inl b58)), (b20, .inl (G.2 0, 520, .inl b59)), (b21, .inl (G.2 0, 9640, .inl y_1492)), (b22, .inl (G.2 0, 482, .inl y_1493)), (b23, .inl (G.2 0, 482, .inl b62)), (b24, .inl (G.2 0, 2, .inl b63)), (b25, .inl (G.2 0, 482, .inl b64)), (b26, .inl (G.2 0, 482, .inl b65)), (b27, .inl (G.2 0, 482, .inl b66))]) Z (s1_Model_calls l G (b0) (y_762) (b3) (b4) (b5) (b6) (b7) (b8) (b9) (b10) (b11) (b12) (b13) (b14) (b15) (b16) (b17) (b18) (b19) (b20) (b21) (b22) (b23) (b24) (b25) (b26) (b27) (b28) (b29) (b30) (b31) (b32) (b33) (b34) (b35) (b36) (b37) (b38) (b39) (b40) (b41) (b42) (b43) (b44) (b45) (b46) (b47) (b48) (b49) (b50) (b51) (b52) (b53) (b54) (b55) (b56) (b57) hv_1459 hb8 hb10 hb11 hb13 hb17 hb30 hb33 hb44 hb47 hb53 hb57) hl.1 q1352 q1354 qs54 q14 q1355 ⟨by decide, by decide, by show _ = some 1; decide +kernel⟩ ⟨Nat.le_of_ble_eq_true rfl, Nat.le_of_ble_eq_true rfl⟩ ⟨Nat.le_of_ble_eq_true rfl, Nat.le_of_ble_eq_true rfl⟩ rfl (Nat.le_of_ble_eq_true rfl) d_Model_layStates_27 hP hD hS hA 9 12 rfl rfl rfl [9, 10] [0, 1, 2, 3, 4, 5, 6, 7, 8] rfl rfl rfl rfl (by decide) (fun v w1 H locs hw_1495 hP hD hS => ?_)
        obtain ⟨x_1496, rfl, rfl, hx_1496, hfx_1497⟩ := hw_1495
        have hP : va_P G.1 classes [(b18, .inl (G.2 0, 2, .inl b58)), (b20, .inl (G.2 0, 520, .inl b59)), (b21, .inl (G.2 0, 9640, .inl y_1492)), (b22, .inl (G.2 0, 482, .inl y_1493)), (b23, .inl (G.2 0, 482, .inl b62)), (b24, .inl (G.2 0, 2, .inl b63)), (b25, .inl (G.2 0, 482, .inl b64)), (b26, .inl (G.2 0, 482, .inl b65)), (b27, .inl (G.2 0, 482, .inl b66)), (b0, .inr (12, [.int b3, .ref b4, .ref b5, .ref b6, .ref b7, .int b8, .ref b9, .int b10, .int b11, .int b12, .int b13, .ref b14, .ref b15, .ref b16, .int b17, .ref b18, .ref b19, .ref b20, .ref b21, .ref b22, .ref b23, .ref b24, .ref b25, .ref b26, .ref b27, .ref b28, .ref b29, .int b30, .ref b31, .ref b32, .int b33, .int b34, .int b35, .int b36, .ref b37, .ref b38, .ref b39, .ref b40, .ref b41, .ref b42, .ref b43, .int b44, .ref b45, .ref b46, .int b47, .ref b48, .ref b49, .ref b50, .ref b51, .ref b52, .int b53, .ref b54, .ref b55, .ref b56])), (b4, .inl (G.2 0, 503, .inl b57))] H := hP
        have hD := z_tie hP hD rfl
        refine W.widen (k := 0) (n := 0) (Nat.le_of_ble_eq_true rfl) (Nat.le_of_ble_eq_true rfl) ?_
        refine lv_icmp_gt (tgt := 70) hx hb d_Model_layStates_30 (by decide) (fun hc_1498 => ?_) (fun hc_1498 => ?_)
        · have _nhc_1498 := hc_1498
          have ni_1499 := (fa_lt _ _).mp hc_1498
          have hv_1500 : zI y_1491 1 13 := zI.lt_r hx_1496 hy_1491 hc_1498 (by decide)
          obtain ⟨v_1501, ev_1501⟩ : ∃ z : Int32, z = y_762 + 1 := ⟨_, rfl⟩
          obtain ⟨qv_1501, hv_1501⟩ := zI_add (l := 1) (h := 20) hv_1459 zc_1 ev_1501 (by decide)
          rw [li_1] at qv_1501
          refine lv_iinc (v := v_1501) (lv' := [(5, .int v_1501), (6, .int y_1491), (4, .int 241), (0, .ref b0), (1, .int 1), (2, .int b1), (3, .int b2)]) hx hb d_Model_layStates_70 hl (k := 1) rfl (by rw [ev_1501]; rfl) (by decide) rfl (fun ls hl => ?_)
          refine lv_goto (tgt := 10) hx hb d_Model_layStates_73 (by decide) ?_
          exact ihk_761 (v_1501) (y_1492) (y_1493) _ _ _ (zI.wk (l' := 0) (h' := 20) hv_1501 (by decide)) hy_1493 (by intro q hq; have := hli_1494 q hq; omega) (zm_up qv_1501 hmk_761 (by decide)) (hP.sub [9, 10, 0, 1, 2, 3, 4, 5, 6, 7, 8] rfl) (hD.sub [9, 10, 0, 1, 2, 3, 4, 5, 6, 7, 8] (by decide) rfl) hS (lv_sub hl [0, 2, 3, 4, 5, 6] rfl)
        · have _nhc_1498 := hc_1498
          have ni_1502 := (fa_le _ _).mp (zi_nlt hc_1498)
          have hv_1503 : zI y_1491 0 12 := zI.le_l hy_1491 hx_1496 (zi_nlt hc_1498) (by decide)
          refine lv_iload hx hb d_Model_layStates_33 (lv_at hl 1 rfl) ?_
          refine lv_iload_n hx hb d_Model_layStates_35 rfl (lv_at hl 6 rfl) ?_
          refine lv_icmp_eq (tgt := 70) hx hb d_Model_layStates_36 (by decide) (fun hc_1504 => ?_) (fun hc_1504 => ?_)
          · have _nhc_1504 := hc_1504
            have ni_1505 := (fa_eq _ _).mp hc_1504
            have hv_1506 : zI b2 0 19 := zI.eq_l hb2 hv_1459 hc_1504.symm
            obtain ⟨v_1507, ev_1507⟩ : ∃ z : Int32, z = y_762 + 1 := ⟨_, rfl⟩
            obtain ⟨qv_1507, hv_1507⟩ := zI_add (l := 1) (h := 20) hv_1459 zc_1 ev_1507 (by decide)
            rw [li_1] at qv_1507
            refine lv_iinc (v := v_1507) (lv' := [(5, .int v_1507), (6, .int y_1491), (4, .int 241), (0, .ref b0), (1, .int 1), (2, .int b1), (3, .int b2)]) hx hb d_Model_layStates_70 hl (k := 1) rfl (by rw [ev_1507]; rfl) (by decide) rfl (fun ls hl => ?_)
            refine lv_goto (tgt := 10) hx hb d_Model_layStates_73 (by decide) ?_
            exact ihk_761 (v_1507) (y_1492) (y_1493) _ _ _ (zI.wk (l' := 0) (h' := 20) hv_1507 (by decide)) hy_1493 (by intro q hq; have := hli_1494 q hq; omega) (zm_up qv_1507 hmk_761 (by decide)) (hP.sub [9, 10, 0, 1, 2, 3, 4, 5, 6, 7, 8] rfl) (hD.sub [9, 10, 0, 1, 2, 3, 4, 5, 6, 7, 8] (by decide) rfl) hS (lv_sub hl [0, 2, 3, 4, 5, 6] rfl)
          · have _nhc_1504 := hc_1504
            have ni_1508 : ¬ (y_762 : Int32).toInt = (b2 : Int32).toInt := fun z => hc_1504 ((fa_eq _ _).mpr z)
            refine lv_aload_n hx hb d_Model_layStates_39 rfl (lv_at hl 3 rfl) ?_
            refine lv_iload hx hb d_Model_layStates_40 (lv_at hl 2 rfl) ?_
            refine lv_aload_n hx hb d_Model_layStates_42 rfl (lv_at hl 3 rfl) ?_
            refine lv_iload_n hx hb d_Model_layStates_43 rfl (lv_at hl 4 rfl) ?_
            refine lv_iload hx hb d_Model_layStates_44 (lv_at hl 1 rfl) ?_
            refine lv_iload hx hb d_Model_layStates_46 (lv_at hl 0 rfl) ?_
            refine z_callV (index := 211) (As := [.int 1, .int y_762, .int y_1491]) (rest := [.int 241, .ref b0]) (wr := [(b18, .inl (G.2 0, 2, .inl b58)), (b21, .inl (G.2 0, 9640, .inl y_1492)), (b22, .inl (G.2 0, 482, .inl y_1493)), (b23, .inl (G.2 0, 482, .inl b62)), (b24, .inl (G.2 0, 2, .inl b63)), (b25, .inl (G.2 0, 482, .inl b64)), (b26, .inl (G.2 0, 482, .inl b65)), (b27, .inl (G.2 0, 482, .inl b66)), (b4, .inl (G.2 0, 503, .inl b57))]) Z (s2_Model_pathOf l G (b0) (y_762) (y_1491) (b3) (b4) (b5) (b6) (b7) (b8) (b9) (b10) (b11) (b12) (b13) (b14) (b15) (b16) (b17) (b18) (b19) (b20) (b21) (b22) (b23) (b24) (b25) (b26) (b27) (b28) (b29) (b30) (b31) (b32) (b33) (b34) (b35) (b36) (b37) (b38) (b39) (b40) (b41) (b42) (b43) (b44) (b45) (b46) (b47) (b48) (b49) (b50) (b51) (b52) (b53) (b54) (b55) (b56) (b59) hv_1459 hv_1503 hb8 hb10 hb11 hb13 hb17 hb30 hb33 hb44 hb47 hb53 hb59) hl.1 q1380 q1382 qs61 q14 q1383 ⟨by decide, by decide, by show _ = some 3; decide +kernel⟩ ⟨Nat.le_of_ble_eq_true rfl, Nat.le_of_ble_eq_true rfl⟩ ⟨Nat.le_of_ble_eq_true rfl, Nat.le_of_ble_eq_true rfl⟩ rfl (Nat.le_of_ble_eq_true rfl) d_Model_layStates_48 hP hD hS hA 9 12 rfl rfl rfl [9, 1] [0, 2, 3, 4, 5, 6, 7, 8, 10] rfl rfl rfl rfl (by decide) (fun v w1 H locs hw_1509 hP hD hS => ?_)
            obtain ⟨x_1510, rfl, rfl, hx_1510, hfx_1511, hfx_1512⟩ := hw_1509
            have hP : va_P G.1 classes [(b18, .inl (G.2 0, 2, .inl b58)), (b21, .inl (G.2 0, 9640, .inl y_1492)), (b22, .inl (G.2 0, 482, .inl y_1493)), (b23, .inl (G.2 0, 482, .inl b62)), (b24, .inl (G.2 0, 2, .inl b63)), (b25, .inl (G.2 0, 482, .inl b64)), (b26, .inl (G.2 0, 482, .inl b65)), (b27, .inl (G.2 0, 482, .inl b66)), (b4, .inl (G.2 0, 503, .inl b57)), (b0, .inr (12, [.int b3, .ref b4, .ref b5, .ref b6, .ref b7, .int b8, .ref b9, .int b10, .int b11, .int b12, .int b13, .ref b14, .ref b15, .ref b16, .int b17, .ref b18, .ref b19, .ref b20, .ref b21, .ref b22, .ref b23, .ref b24, .ref b25, .ref b26, .ref b27, .ref b28, .ref b29, .int b30, .ref b31, .ref b32, .int b33, .int b34, .int b35, .int b36, .ref b37, .ref b38, .ref b39, .ref b40, .ref b41, .ref b42, .ref b43, .int b44, .ref b45, .ref b46, .int b47, .ref b48, .ref b49, .ref b50, .ref b51, .ref b52, .int b53, .ref b54, .ref b55, .ref b56])), (b20, .inl (G.2 0, 520, .inl b59))] H := hP
            have hD := z_tie hP hD rfl
            refine W.widen (k := 0) (n := 0) (Nat.le_of_ble_eq_true rfl) (Nat.le_of_ble_eq_true rfl) ?_
            refine lv_iadd hx hb d_Model_layStates_51 ?_
            refine lv_topi (fun v_1513 ev_1513 => ?_)
            obtain ⟨qv_1513, hv_1513⟩ := zI_add (l := 241) (h := 481) zc_241 hx_1510 ev_1513 (by decide)
            rw [li_241] at qv_1513
            refine lv_aload_n hx hb d_Model_layStates_52 rfl (lv_at hl 3 rfl) ?_
            refine lv_iload hx hb d_Model_layStates_53 (lv_at hl 1 rfl) ?_
            refine lv_iload hx hb d_Model_layStates_55 (lv_at hl 0 rfl) ?_
            refine lv_iload_n hx hb d_Model_layStates_57 rfl (lv_at hl 5 rfl) ?_
            refine z_callV (index := 214) (As := [.int y_762, .int y_1491, .int b1]) (rest := [.int v_1513, .ref b0]) (wr := [(b18, .inl (G.2 0, 2, .inl b58)), (b21, .inl (G.2 0, 9640, .inl y_1492)), (b22, .inl (G.2 0, 482, .inl y_1493)), (b23, .inl (G.2 0, 482, .inl b62)), (b24, .inl (G.2 0, 2, .inl b63)), (b25, .inl (G.2 0, 482, .inl b64)), (b26, .inl (G.2 0, 482, .inl b65)), (b27, .inl (G.2 0, 482, .inl b66)), (b20, .inl (G.2 0, 520, .inl b59))]) Z (s1_Model_rowBehind l G (b0) (y_762) (y_1491) (b1) (b3) (b4) (b5) (b6) (b7) (b8) (b9) (b10) (b11) (b12) (b13) (b14) (b15) (b16) (b17) (b18) (b19) (b20) (b21) (b22) (b23) (b24) (b25) (b26) (b27) (b28) (b29) (b30) (b31) (b32) (b33) (b34) (b35) (b36) (b37) (b38) (b39) (b40) (b41) (b42) (b43) (b44) (b45) (b46) (b47) (b48) (b49) (b50) (b51) (b52) (b53) (b54) (b55) (b56) (b57) hv_1459 hv_1503 hb1 hb8 hb10 hb11 hb13 hb17 hb30 hb33 hb44 hb47 hb53 hb57) hl.1 q1384 q1386 qs62 q14 q1387 ⟨by decide, by decide, by show _ = some 3; decide +kernel⟩ ⟨Nat.le_of_ble_eq_true rfl, Nat.le_of_ble_eq_true rfl⟩ ⟨Nat.le_of_ble_eq_true rfl, Nat.le_of_ble_eq_true rfl⟩ rfl (Nat.le_of_ble_eq_true rfl) d_Model_layStates_58 hP hD hS hA 9 12 rfl rfl rfl [9, 8] [0, 1, 2, 3, 4, 5, 6, 7, 10] rfl rfl rfl rfl (by decide) (fun v w1 H locs hw_1514 hP hD hS => ?_)
            obtain ⟨x_1515, rfl, rfl⟩ := hw_1514
            have hP : va_P G.1 classes [(b18, .inl (G.2 0, 2, .inl b58)), (b21, .inl (G.2 0, 9640, .inl y_1492)), (b22, .inl (G.2 0, 482, .inl y_1493)), (b23, .inl (G.2 0, 482, .inl b62)), (b24, .inl (G.2 0, 2, .inl b63)), (b25, .inl (G.2 0, 482, .inl b64)), (b26, .inl (G.2 0, 482, .inl b65)), (b27, .inl (G.2 0, 482, .inl b66)), (b20, .inl (G.2 0, 520, .inl b59)), (b0, .inr (12, [.int b3, .ref b4, .ref b5, .ref b6, .ref b7, .int b8, .ref b9, .int b10, .int b11, .int b12, .int b13, .ref b14, .ref b15, .ref b16, .int b17, .ref b18, .ref b19, .ref b20, .ref b21, .ref b22, .ref b23, .ref b24, .ref b25, .ref b26, .ref b27, .ref b28, .ref b29, .int b30, .ref b31, .ref b32, .int b33, .int b34, .int b35, .int b36, .ref b37, .ref b38, .ref b39, .ref b40, .ref b41, .ref b42, .ref b43, .int b44, .ref b45, .ref b46, .int b47, .ref b48, .ref b49, .ref b50, .ref b51, .ref b52, .int b53, .ref b54, .ref b55, .ref b56])), (b4, .inl (G.2 0, 503, .inl b57))] H := hP
            have hD := z_tie hP hD rfl
            refine W.widen (k := 0) (n := 0) (Nat.le_of_ble_eq_true rfl) (Nat.le_of_ble_eq_true rfl) ?_
            refine z_callV (index := 217) (As := [.int v_1513, .int x_1515]) (rest := []) (wr := [(b18, .inl (G.2 0, 2, .inl b58)), (b23, .inl (G.2 0, 482, .inl b62)), (b24, .inl (G.2 0, 2, .inl b63)), (b25, .inl (G.2 0, 482, .inl b64)), (b26, .inl (G.2 0, 482, .inl b65)), (b27, .inl (G.2 0, 482, .inl b66)), (b20, .inl (G.2 0, 520, .inl b59)), (b4, .inl (G.2 0, 503, .inl b57))]) Z (s1_Model_addFollow l G (b0) (v_1513) (x_1515) (b3) (b4) (b5) (b6) (b7) (b8) (b9) (b10) (b11) (b12) (b13) (b14) (b15) (b16) (b17) (b18) (b19) (b20) (b21) (b22) (b23) (b24) (b25) (b26) (b27) (b28) (b29) (b30) (b31) (b32) (b33) (b34) (b35) (b36) (b37) (b38) (b39) (b40) (b41) (b42) (b43) (b44) (b45) (b46) (b47) (b48) (b49) (b50) (b51) (b52) (b53) (b54) (b55) (b56) (y_1492) (y_1493) (zI.wk (l' := 0) (h' := 481) hv_1513 (by decide)) hb8 hb10 hb11 hb13 hb17 hb30 hb33 hb44 hb47 hb53 hy_1493 (by have p9 := z_pl hv_1513 (by decide); have p7 := z_pl hx_1510 (by decide); have p8 : x_1510.toInt < (b58 (1 : Int32).toNatClampNeg).toInt := (by rw [hfx_1511]; exact htm _ _ (by rw [← hfx_768]; omega) (by omega) (by rw [← hfx_1497]; omega)); have p6 : v_1513.toNatClampNeg = 241 + x_1510.toNatClampNeg := (by omega); have := hli_1494 x_1510.toNatClampNeg (by omega); rw [← p6] at this; omega)) hl.1 q1388 q1390 qs63 q14 q1391 ⟨by decide, by decide, by show _ = some 2; decide +kernel⟩ ⟨Nat.le_of_ble_eq_true rfl, Nat.le_of_ble_eq_true rfl⟩ ⟨Nat.le_of_ble_eq_true rfl, Nat.le_of_ble_eq_true rfl⟩ rfl (Nat.le_of_ble_eq_true rfl) d_Model_layStates_61 hP hD hS hA 9 12 rfl rfl rfl [9, 1, 2] [0, 3, 4, 5, 6, 7, 8, 10] rfl rfl rfl rfl (by decide) (fun v w1 H locs hw_1516 hP hD hS => ?_)
            obtain ⟨f_1517, f_1518, rfl, rfl, hf_1518, hfx_1519⟩ := hw_1516
            have hP : va_P G.1 classes [(b18, .inl (G.2 0, 2, .inl b58)), (b23, .inl (G.2 0, 482, .inl b62)), (b24, .inl (G.2 0, 2, .inl b63)), (b25, .inl (G.2 0, 482, .inl b64)), (b26, .inl (G.2 0, 482, .inl b65)), (b27, .inl (G.2 0, 482, .inl b66)), (b20, .inl (G.2 0, 520, .inl b59)), (b4, .inl (G.2 0, 503, .inl b57)), (b0, .inr (12, [.int b3, .ref b4, .ref b5, .ref b6, .ref b7, .int b8, .ref b9, .int b10, .int b11, .int b12, .int b13, .ref b14, .ref b15, .ref b16, .int b17, .ref b18, .ref b19, .ref b20, .ref b21, .ref b22, .ref b23, .ref b24, .ref b25, .ref b26, .ref b27, .ref b28, .ref b29, .int b30, .ref b31, .ref b32, .int b33, .int b34, .int b35, .int b36, .ref b37, .ref b38, .ref b39, .ref b40, .ref b41, .ref b42, .ref b43, .int b44, .ref b45, .ref b46, .int b47, .ref b48, .ref b49, .ref b50, .ref b51, .ref b52, .int b53, .ref b54, .ref b55, .ref b56])), (b21, .inl (G.2 0, 9640, .inl f_1517)), (b22, .inl (G.2 0, 482, .inl f_1518))] H := hP
            have hD := z_tie hP hD rfl
            refine W.widen (k := 0) (n := 0) (Nat.le_of_ble_eq_true rfl) (Nat.le_of_ble_eq_true rfl) ?_
            obtain ⟨v_1520, ev_1520⟩ : ∃ z : Int32, z = y_1491 + 1 := ⟨_, rfl⟩
            obtain ⟨qv_1520, hv_1520⟩ := zI_add (l := 1) (h := 13) hv_1503 zc_1 ev_1520 (by decide)
            rw [li_1] at qv_1520
            refine lv_iinc (v := v_1520) (lv' := [(6, .int v_1520), (5, .int y_762), (4, .int 241), (0, .ref b0), (1, .int 1), (2, .int b1), (3, .int b2)]) hx hb d_Model_layStates_64 hl (k := 0) rfl (by rw [ev_1520]; rfl) (by decide) rfl (fun ls hl => ?_)
            refine lv_goto (tgt := 22) hx hb d_Model_layStates_67 (by decide) ?_
            exact ihk_1490 (v_1520) (f_1517) (f_1518) _ _ _ (zI.wk (l' := 0) (h' := 13) hv_1520 (by decide)) hf_1518 (by have _l0 := li_0; have _l1 := li_1; have p9 := z_pl hv_1513 (by decide); intro q hq; have _a := hli_1494 q hq; have _b := hfx_1512; rcases hfx_1519 (241 + q) with h | ⟨h, h2⟩ <;> omega) (zm_up qv_1520 hmk_1490 (by decide)) (hP.sub [0, 6, 9, 10, 1, 2, 3, 4, 5, 8, 7] rfl) (hD.sub [0, 6, 9, 10, 1, 2, 3, 4, 5, 8, 7] (by decide) rfl) hS (lv_sub hl [0, 1, 2, 3, 4, 5, 6] rfl)
